set_option maxHeartbeats 4000000 in
set_option maxRecDepth 100000 in
theorem tX8_leafCount (l : Launch) (D : va_G) (cI cZ cR : ClassId) (N : Nat) (q0 : Nat → Nat) (d0 : tm_M) (g0 : Int64) (r0 : Int32) (hf : fX8_leafCount N d0 g0 = some r0) : tm_CI l D (tm_ty cI cZ cR) yX8_leafCount wsX8_leafCount rmX8_leafCount [.ref (q0 0)] (WX8 cI cZ cR q0 d0 g0) r0 (WX8 cI cZ cR q0 d0 g0) := by
  refine tm_mkI (cc := cX8_leafCount) (maxL := 1) (ty := .int) (by decide) rfl (Nat.le_of_ble_eq_true rfl) ?_
  intro p e s m below meth c A ls Q C hP hD hS hl hend
  have C : tm_Cx p s m c [.ref (q0 0)].toArray cX8_leafCount 1 RX8 wsX8_leafCount D (tm_ty cI cZ cR) A s.heap := C
  obtain ⟨hx, hb, hml, hown, hts, hK, hA⟩ := id C
  have hl : lv_has ls 1 [(0, .ref (q0 0))] := hl
  unfold fX8_leafCount at hf
  refine lv_aload_n hx hb dX8_leafCount_0 rfl (lv_at hl 0 rfl) ?_
  obtain ⟨t_1, ot_1, hf⟩ := tm_bS hf
  refine tm_cVI (As := []) (rest := []) ⟨hx, hb, hml, hown, hts⟩ (tX8_leaves l D cI cZ cR N q0 d0 g0 t_1 ot_1) (cwV 0 hts gX8_leafCount_X8_leaves rfl rfl rfl hdwsV_X8_leaves ⟨Nat.le_of_ble_eq_true rfl, Nat.le_of_ble_eq_true rfl⟩) hK hP hD hS hA [0, 1, 2, 3, 4, 5, 6, 7, 8, 9, 10, 11, 12, 13, 14, 15] (by decide) rfl rfl (ci := 8) rfl rfl rfl (fun _ => WX8 cI cZ cR q0 d0 g0) (()) rfl rfl hl.1 rfl (Nat.le_of_ble_eq_true rfl) dX8_leafCount_1 ⟨Nat.zero_le _, Nat.zero_le _⟩ (fun _ _ H locs hP hD hS => ?_)
  obtain rfl := Option.some.inj hf
  exact hend _ _ _ _ hP hD hS rfl dX8_leafCount_4
set_option maxHeartbeats 4000000 in
set_option maxRecDepth 100000 in
theorem wX8_parts_5 (l : Launch) (D : va_G) (cI cZ cR : ClassId) (N : Nat) (q0 : Nat → Nat) {p : Program} {e : Env} {s : State} {m : MethodId} {args : Array Value} {below : List Frame} {meth : Method} {c : Code} {A : Nat → Prop} {H0 : Heap} {Q : State → Prop} (C : tm_Cx p s m c args cX8_parts 9 RX8 wsX8_parts D (tm_ty cI cZ cR) A H0) (d0 : tm_M) (g0 : Int64) (v1 : Int32) (v2 : Int32) : ∀ (n : Nat) (st : Int32 × Int32) (o : (Int32 × Int32)), tm_whl (bX8_parts_5 N d0 v2) n st = some o → (fun (o : Int32 × Int32) => ∀ (H : Heap) (locs : List Loc) (ls : Array Slot), va_P D vwCl (WX8 cI cZ cR q0 d0 g0) H → va_D A (WX8 cI cZ cR q0 d0 g0) → va_S A H0 H locs → lv_has ls 9 [(0, .ref (q0 0)), (1, .int v1), (2, .int v2), (3, .int o.1)] → W p l e rmX8_parts s m args below meth c H locs 0 0 Q (F0 m 27 ls [])) o → (fun (st : Int32 × Int32) => ∀ (H : Heap) (locs : List Loc) (ls : Array Slot), va_P D vwCl (WX8 cI cZ cR q0 d0 g0) H → va_D A (WX8 cI cZ cR q0 d0 g0) → va_S A H0 H locs → lv_has ls 9 [(0, .ref (q0 0)), (1, .int v1), (2, .int v2), (3, .int st.1), (4, .int st.2)] → W p l e rmX8_parts s m args below meth c H locs 0 0 Q (F0 m 5 ls [])) st := by
  obtain ⟨hx, hb, hml, hown, hts, hK, hA⟩ := id C
  refine tm_whl_W (Wh := fun (st : Int32 × Int32) => ∀ (H : Heap) (locs : List Loc) (ls : Array Slot), va_P D vwCl (WX8 cI cZ cR q0 d0 g0) H → va_D A (WX8 cI cZ cR q0 d0 g0) → va_S A H0 H locs → lv_has ls 9 [(0, .ref (q0 0)), (1, .int v1), (2, .int v2), (3, .int st.1), (4, .int st.2)] → W p l e rmX8_parts s m args below meth c H locs 0 0 Q (F0 m 5 ls [])) (Wx := fun (o : Int32 × Int32) => ∀ (H : Heap) (locs : List Loc) (ls : Array Slot), va_P D vwCl (WX8 cI cZ cR q0 d0 g0) H → va_D A (WX8 cI cZ cR q0 d0 g0) → va_S A H0 H locs → lv_has ls 9 [(0, .ref (q0 0)), (1, .int v1), (2, .int v2), (3, .int o.1)] → W p l e rmX8_parts s m args below meth c H locs 0 0 Q (F0 m 27 ls [])) ?_
  intro st r hf hk H locs ls hP hD hS hl
  unfold bX8_parts_5 at hf
  refine lv_iload hx hb dX8_parts_5 (lv_at hl 4 rfl) ?_
  refine lv_iload_n hx hb dX8_parts_7 rfl (lv_at hl 2 rfl) ?_
  refine lv_icmp_ge (tgt := 27) hx hb dX8_parts_8 (by decide) (fun c_1 => ?_) (fun c_1 => ?_)
  · have hf := tm_iT c_1 hf
    obtain rfl := Option.some.inj hf
    exact hk _ _ _ hP hD hS (lv_sub hl [0, 1, 2, 3] rfl)
  · have hf := tm_iF c_1 hf
    refine lv_iload_n hx hb dX8_parts_11 rfl (lv_at hl 3 rfl) ?_
    refine lv_aload_n hx hb dX8_parts_12 rfl (lv_at hl 0 rfl) ?_
    refine va_get (D := D) (ci := 8) (v := .ref (q0 4)) (C := RX8) (T := TX8) (N := 18) hx hb hts uX8_parts_X8 hown hK hP 0 rfl rfl 4 (by decide) (hts _ kX8_parts_f19) (fun _ h9 => h9) rfl dX8_parts_13 ?_
    refine lv_iload hx hb dX8_parts_16 (lv_at hl 4 rfl) ?_
    obtain ⟨h_2, hf⟩ := tm_gS hf
    refine va_iald hx hb hK hP 4 0 rfl rfl (tm_inb_in h_2) dX8_parts_18 ?_
    refine lv_iadd hx hb dX8_parts_19 ?_
    refine lv_topi (fun x_3 ex_3 => ?_)
    have hf := tm_at ex_3 hf
    refine lv_istore_n (lv' := [(3, .int x_3), (0, .ref (q0 0)), (1, .int v1), (2, .int v2), (4, .int st.2)]) hx hb dX8_parts_20 rfl hl (by decide) rfl (fun ls hl => ?_)
    obtain ⟨x_4, ex_4⟩ : ∃ y : Int32, y = st.2 + 1 := ⟨_, rfl⟩
    have hf := tm_at ex_4 hf
    refine lv_iinc (v := x_4) (lv' := [(4, .int x_4), (3, .int x_3), (0, .ref (q0 0)), (1, .int v1), (2, .int v2)]) hx hb dX8_parts_21 hl (k := 4) rfl (by rw [ex_4]; rfl) (by decide) rfl (fun ls hl => ?_)
    refine lv_goto (tgt := 5) hx hb dX8_parts_24 (by decide) ?_
    obtain rfl := Option.some.inj hf
    exact hk _ _ _ hP hD hS (lv_sub hl [2, 3, 4, 1, 0] rfl)
set_option maxHeartbeats 4000000 in
set_option maxRecDepth 100000 in
theorem wX8_parts_33 (l : Launch) (D : va_G) (cI cZ cR : ClassId) (N : Nat) (q0 : Nat → Nat) {p : Program} {e : Env} {s : State} {m : MethodId} {args : Array Value} {below : List Frame} {meth : Method} {c : Code} {A : Nat → Prop} {H0 : Heap} {Q : State → Prop} (C : tm_Cx p s m c args cX8_parts 9 RX8 wsX8_parts D (tm_ty cI cZ cR) A H0) (g0 : Int64) (v1 : Int32) (v2 : Int32) (v3 : Int32) : ∀ (n : Nat) (st : Int32 × Int32 × tm_M) (o : (Int32 × Int32 × tm_M)), tm_whl (bX8_parts_33 N v1 v2 v3) n st = some o → (fun (o : Int32 × Int32 × tm_M) => ∀ (H : Heap) (locs : List Loc) (ls : Array Slot), va_P D vwCl (WX8 cI cZ cR q0 o.2.2 g0) H → va_D A (WX8 cI cZ cR q0 o.2.2 g0) → va_S A H0 H locs → lv_has ls 9 [(0, .ref (q0 0)), (1, .int v1), (2, .int v2), (3, .int v3), (4, .int o.1)] → W p l e rmX8_parts s m args below meth c H locs 0 0 Q (F0 m 75 ls [])) o → (fun (st : Int32 × Int32 × tm_M) => ∀ (H : Heap) (locs : List Loc) (ls : Array Slot), va_P D vwCl (WX8 cI cZ cR q0 st.2.2 g0) H → va_D A (WX8 cI cZ cR q0 st.2.2 g0) → va_S A H0 H locs → lv_has ls 9 [(0, .ref (q0 0)), (1, .int v1), (2, .int v2), (3, .int v3), (4, .int st.1), (5, .int st.2.1)] → W p l e rmX8_parts s m args below meth c H locs 0 0 Q (F0 m 33 ls [])) st := by
  obtain ⟨hx, hb, hml, hown, hts, hK, hA⟩ := id C
  refine tm_whl_W (Wh := fun (st : Int32 × Int32 × tm_M) => ∀ (H : Heap) (locs : List Loc) (ls : Array Slot), va_P D vwCl (WX8 cI cZ cR q0 st.2.2 g0) H → va_D A (WX8 cI cZ cR q0 st.2.2 g0) → va_S A H0 H locs → lv_has ls 9 [(0, .ref (q0 0)), (1, .int v1), (2, .int v2), (3, .int v3), (4, .int st.1), (5, .int st.2.1)] → W p l e rmX8_parts s m args below meth c H locs 0 0 Q (F0 m 33 ls [])) (Wx := fun (o : Int32 × Int32 × tm_M) => ∀ (H : Heap) (locs : List Loc) (ls : Array Slot), va_P D vwCl (WX8 cI cZ cR q0 o.2.2 g0) H → va_D A (WX8 cI cZ cR q0 o.2.2 g0) → va_S A H0 H locs → lv_has ls 9 [(0, .ref (q0 0)), (1, .int v1), (2, .int v2), (3, .int v3), (4, .int o.1)] → W p l e rmX8_parts s m args below meth c H locs 0 0 Q (F0 m 75 ls [])) ?_
  intro st r hf hk H locs ls hP hD hS hl
  unfold bX8_parts_33 at hf
  refine lv_iload hx hb dX8_parts_33 (lv_at hl 5 rfl) ?_
  refine lv_iload_n hx hb dX8_parts_35 rfl (lv_at hl 2 rfl) ?_
  refine lv_icmp_ge (tgt := 75) hx hb dX8_parts_36 (by decide) (fun c_6 => ?_) (fun c_6 => ?_)
  · have hf := tm_iT c_6 hf
    obtain rfl := Option.some.inj hf
    exact hk _ _ _ hP hD hS (lv_sub hl [0, 1, 2, 3, 4] rfl)
  · have hf := tm_iF c_6 hf
    refine lv_aload_n hx hb dX8_parts_39 rfl (lv_at hl 0 rfl) ?_
    refine va_get (D := D) (ci := 8) (v := .ref (q0 5)) (C := RX8) (T := TX8) (N := 18) hx hb hts uX8_parts_X8 hown hK hP 0 rfl rfl 5 (by decide) (hts _ kX8_parts_f22) (fun _ h9 => h9) rfl dX8_parts_40 ?_
    refine lv_iload hx hb dX8_parts_43 (lv_at hl 5 rfl) ?_
    refine lv_aload_n hx hb dX8_parts_45 rfl (lv_at hl 0 rfl) ?_
    refine va_get (D := D) (ci := 8) (v := .ref (q0 4)) (C := RX8) (T := TX8) (N := 18) hx hb hts uX8_parts_X8 hown hK hP 0 rfl rfl 4 (by decide) (hts _ kX8_parts_f19) (fun _ h9 => h9) rfl dX8_parts_46 ?_
    refine lv_iload hx hb dX8_parts_49 (lv_at hl 5 rfl) ?_
    obtain ⟨h_7, hf⟩ := tm_gS hf
    refine va_iald hx hb hK hP 4 0 rfl rfl (tm_inb_in h_7) dX8_parts_51 ?_
    refine lv_iload_n hx hb dX8_parts_52 rfl (lv_at hl 1 rfl) ?_
    refine lv_imul hx hb dX8_parts_53 ?_
    refine lv_iload_n hx hb dX8_parts_54 rfl (lv_at hl 3 rfl) ?_
    obtain ⟨h_8, hf⟩ := tm_gS hf
    refine lv_idiv hx hb dX8_parts_55 (tm_nz_ne h_8) ?_
    refine tm_iast hx hb hK hP hD hS 5 0 rfl rfl (tm_inb_in h_7) dX8_parts_56 (fun z => WX8 cI cZ cR q0 z g0) (tm_upc st.2.2 5 (upd (st.2.2 5) st.2.1.toNatClampNeg (((st.2.2 4 st.2.1.toNatClampNeg) * v1) / v3))) rfl (fun d0_9 ed0_9 H locs hP hD hS => ?_)
    have hf := tm_at ed0_9 hf
    refine lv_iload hx hb dX8_parts_57 (lv_at hl 4 rfl) ?_
    refine lv_aload_n hx hb dX8_parts_59 rfl (lv_at hl 0 rfl) ?_
    refine va_get (D := D) (ci := 8) (v := .ref (q0 5)) (C := RX8) (T := TX8) (N := 18) hx hb hts uX8_parts_X8 hown hK hP 0 rfl rfl 5 (by decide) (hts _ kX8_parts_f22) (fun _ h9 => h9) rfl dX8_parts_60 ?_
    refine lv_iload hx hb dX8_parts_63 (lv_at hl 5 rfl) ?_
    refine va_iald hx hb hK hP 5 0 rfl rfl (tm_inb_in h_7) dX8_parts_65 ?_
    refine lv_isub hx hb dX8_parts_66 ?_
    refine lv_topi (fun x_10 ex_10 => ?_)
    have hf := tm_at ex_10 hf
    refine lv_istore (lv' := [(4, .int x_10), (0, .ref (q0 0)), (1, .int v1), (2, .int v2), (3, .int v3), (5, .int st.2.1)]) hx hb dX8_parts_67 hl (by decide) rfl (fun ls hl => ?_)
    obtain ⟨x_11, ex_11⟩ : ∃ y : Int32, y = st.2.1 + 1 := ⟨_, rfl⟩
    have hf := tm_at ex_11 hf
    refine lv_iinc (v := x_11) (lv' := [(5, .int x_11), (4, .int x_10), (0, .ref (q0 0)), (1, .int v1), (2, .int v2), (3, .int v3)]) hx hb dX8_parts_69 hl (k := 5) rfl (by rw [ex_11]; rfl) (by decide) rfl (fun ls hl => ?_)
    refine lv_goto (tgt := 33) hx hb dX8_parts_72 (by decide) ?_
    obtain rfl := Option.some.inj hf
    exact hk _ _ _ hP hD hS (lv_sub hl [2, 3, 4, 5, 1, 0] rfl)
set_option maxHeartbeats 4000000 in
set_option maxRecDepth 100000 in
theorem wX8_parts_89 (l : Launch) (D : va_G) (cI cZ cR : ClassId) (N : Nat) (q0 : Nat → Nat) {p : Program} {e : Env} {s : State} {m : MethodId} {args : Array Value} {below : List Frame} {meth : Method} {c : Code} {A : Nat → Prop} {H0 : Heap} {Q : State → Prop} (C : tm_Cx p s m c args cX8_parts 9 RX8 wsX8_parts D (tm_ty cI cZ cR) A H0) (d0 : tm_M) (g0 : Int64) (v1 : Int32) (v2 : Int32) (v3 : Int32) (v4 : Int32) (v5 : Int32) : ∀ (n : Nat) (st : Int32 × Int32) (o : (Int32 × Int32)), tm_whl (bX8_parts_89 N d0 v1 v2 v3 v5) n st = some o → (fun (o : Int32 × Int32) => ∀ (H : Heap) (locs : List Loc) (ls : Array Slot), va_P D vwCl (WX8 cI cZ cR q0 d0 g0) H → va_D A (WX8 cI cZ cR q0 d0 g0) → va_S A H0 H locs → lv_has ls 9 [(0, .ref (q0 0)), (1, .int v1), (2, .int v2), (3, .int v3), (4, .int v4), (5, .int v5), (6, .int o.1)] → W p l e rmX8_parts s m args below meth c H locs 0 0 Q (F0 m 163 ls [])) o → (fun (st : Int32 × Int32) => ∀ (H : Heap) (locs : List Loc) (ls : Array Slot), va_P D vwCl (WX8 cI cZ cR q0 d0 g0) H → va_D A (WX8 cI cZ cR q0 d0 g0) → va_S A H0 H locs → lv_has ls 9 [(0, .ref (q0 0)), (1, .int v1), (2, .int v2), (3, .int v3), (4, .int v4), (5, .int v5), (6, .int st.1), (7, .int st.2)] → W p l e rmX8_parts s m args below meth c H locs 0 0 Q (F0 m 89 ls [])) st := by
  obtain ⟨hx, hb, hml, hown, hts, hK, hA⟩ := id C
  refine tm_whl_W (Wh := fun (st : Int32 × Int32) => ∀ (H : Heap) (locs : List Loc) (ls : Array Slot), va_P D vwCl (WX8 cI cZ cR q0 d0 g0) H → va_D A (WX8 cI cZ cR q0 d0 g0) → va_S A H0 H locs → lv_has ls 9 [(0, .ref (q0 0)), (1, .int v1), (2, .int v2), (3, .int v3), (4, .int v4), (5, .int v5), (6, .int st.1), (7, .int st.2)] → W p l e rmX8_parts s m args below meth c H locs 0 0 Q (F0 m 89 ls [])) (Wx := fun (o : Int32 × Int32) => ∀ (H : Heap) (locs : List Loc) (ls : Array Slot), va_P D vwCl (WX8 cI cZ cR q0 d0 g0) H → va_D A (WX8 cI cZ cR q0 d0 g0) → va_S A H0 H locs → lv_has ls 9 [(0, .ref (q0 0)), (1, .int v1), (2, .int v2), (3, .int v3), (4, .int v4), (5, .int v5), (6, .int o.1)] → W p l e rmX8_parts s m args below meth c H locs 0 0 Q (F0 m 163 ls [])) ?_
  intro st r hf hk H locs ls hP hD hS hl
  unfold bX8_parts_89 at hf
  refine lv_iload hx hb dX8_parts_89 (lv_at hl 7 rfl) ?_
  refine lv_iload_n hx hb dX8_parts_91 rfl (lv_at hl 2 rfl) ?_
  refine lv_icmp_ge (tgt := 163) hx hb dX8_parts_92 (by decide) (fun c_14 => ?_) (fun c_14 => ?_)
  · have hf := tm_iT c_14 hf
    obtain rfl := Option.some.inj hf
    exact hk _ _ _ hP hD hS (lv_sub hl [0, 1, 2, 3, 4, 5, 6] rfl)
  · have hf := tm_iF c_14 hf
    refine lv_iload hx hb dX8_parts_95 (lv_at hl 5 rfl) ?_
    refine lv_iload hx hb dX8_parts_97 (lv_at hl 7 rfl) ?_
    refine lv_ishr hx hb dX8_parts_99 ?_
    refine lv_iconst (v := 1) hx hb dX8_parts_100 (by decide) ?_
    refine lv_iand hx hb dX8_parts_101 ?_
    refine lv_if_ne (tgt := 109) hx hb dX8_parts_102 (by decide) (fun c_15 => ?_) (fun c_15 => ?_)
    · have hf := tm_iF c_15 hf
      refine lv_iconst (v := 0) hx hb dX8_parts_109 (by decide) ?_
      refine lv_istore (lv' := [(8, .int 0), (0, .ref (q0 0)), (1, .int v1), (2, .int v2), (3, .int v3), (4, .int v4), (5, .int v5), (6, .int st.1), (7, .int st.2)]) hx hb dX8_parts_110 hl (by decide) rfl (fun ls hl => ?_)
      refine lv_iload hx hb dX8_parts_112 (lv_at hl 0 rfl) ?_
      refine lv_if_eq (tgt := 153) hx hb dX8_parts_114 (by decide) (fun _ => ?_) (fun c9 => absurd c9 (by decide))
      refine lv_iload hx hb dX8_parts_153 (lv_at hl 7 rfl) ?_
      refine lv_istore (lv' := [(6, .int st.1), (8, .int 0), (0, .ref (q0 0)), (1, .int v1), (2, .int v2), (3, .int v3), (4, .int v4), (5, .int v5), (7, .int st.2)]) hx hb dX8_parts_155 hl (by decide) rfl (fun ls hl => ?_)
      obtain ⟨x_16, ex_16⟩ : ∃ y : Int32, y = st.2 + 1 := ⟨_, rfl⟩
      have hf := tm_at ex_16 hf
      refine lv_iinc (v := x_16) (lv' := [(7, .int x_16), (6, .int st.1), (8, .int 0), (0, .ref (q0 0)), (1, .int v1), (2, .int v2), (3, .int v3), (4, .int v4), (5, .int v5)]) hx hb dX8_parts_157 hl (k := 8) rfl (by rw [ex_16]; rfl) (by decide) rfl (fun ls hl => ?_)
      refine lv_goto (tgt := 89) hx hb dX8_parts_160 (by decide) ?_
      obtain rfl := Option.some.inj hf
      exact hk _ _ _ hP hD hS (lv_sub hl [3, 4, 5, 6, 7, 8, 1, 0] rfl)
    · have hf := tm_iT c_15 hf
      refine lv_iconst (v := 1) hx hb dX8_parts_105 (by decide) ?_
      refine lv_goto (tgt := 110) hx hb dX8_parts_106 (by decide) ?_
      refine lv_istore (lv' := [(8, .int 1), (0, .ref (q0 0)), (1, .int v1), (2, .int v2), (3, .int v3), (4, .int v4), (5, .int v5), (6, .int st.1), (7, .int st.2)]) hx hb dX8_parts_110 hl (by decide) rfl (fun ls hl => ?_)
      refine lv_iload hx hb dX8_parts_112 (lv_at hl 0 rfl) ?_
      refine lv_if_eq (tgt := 153) hx hb dX8_parts_114 (by decide) (fun c9 => absurd c9 (by decide)) (fun _ => ?_)
      refine lv_iload hx hb dX8_parts_117 (lv_at hl 7 rfl) ?_
      refine lv_iconst (v := (-1)) hx hb dX8_parts_119 (by decide) ?_
      refine lv_icmp_eq (tgt := 148) hx hb dX8_parts_120 (by decide) (fun c_17 => ?_) (fun c_17 => ?_)
      · have hf := tm_iT c_17 hf
        refine lv_iload hx hb dX8_parts_148 (lv_at hl 8 rfl) ?_
        refine lv_goto (tgt := 155) hx hb dX8_parts_150 (by decide) ?_
        refine lv_istore (lv' := [(6, .int st.2), (8, .int 1), (0, .ref (q0 0)), (1, .int v1), (2, .int v2), (3, .int v3), (4, .int v4), (5, .int v5), (7, .int st.2)]) hx hb dX8_parts_155 hl (by decide) rfl (fun ls hl => ?_)
        obtain ⟨x_18, ex_18⟩ : ∃ y : Int32, y = st.2 + 1 := ⟨_, rfl⟩
        have hf := tm_at ex_18 hf
        refine lv_iinc (v := x_18) (lv' := [(7, .int x_18), (6, .int st.2), (8, .int 1), (0, .ref (q0 0)), (1, .int v1), (2, .int v2), (3, .int v3), (4, .int v4), (5, .int v5)]) hx hb dX8_parts_157 hl (k := 8) rfl (by rw [ex_18]; rfl) (by decide) rfl (fun ls hl => ?_)
        refine lv_goto (tgt := 89) hx hb dX8_parts_160 (by decide) ?_
        obtain rfl := Option.some.inj hf
        exact hk _ _ _ hP hD hS (lv_sub hl [3, 4, 5, 6, 7, 8, 1, 0] rfl)
      · have hf := tm_iF c_17 hf
        refine lv_aload_n hx hb dX8_parts_123 rfl (lv_at hl 1 rfl) ?_
        refine va_get (D := D) (ci := 8) (v := .ref (q0 4)) (C := RX8) (T := TX8) (N := 18) hx hb hts uX8_parts_X8 hown hK hP 0 rfl rfl 4 (by decide) (hts _ kX8_parts_f19) (fun _ h9 => h9) rfl dX8_parts_124 ?_
        refine lv_iload hx hb dX8_parts_127 (lv_at hl 8 rfl) ?_
        obtain ⟨h_19, hf⟩ := tm_gS hf
        refine va_iald hx hb hK hP 4 0 rfl rfl (tm_inb_in h_19) dX8_parts_129 ?_
        refine lv_iload_n hx hb dX8_parts_130 rfl (lv_at hl 2 rfl) ?_
        refine lv_imul hx hb dX8_parts_131 ?_
        refine lv_iload_n hx hb dX8_parts_132 rfl (lv_at hl 4 rfl) ?_
        obtain ⟨h_20, hf⟩ := tm_gS hf
        refine lv_irem hx hb dX8_parts_133 (tm_nz_ne h_20) ?_
        refine lv_aload_n hx hb dX8_parts_134 rfl (lv_at hl 1 rfl) ?_
        refine va_get (D := D) (ci := 8) (v := .ref (q0 4)) (C := RX8) (T := TX8) (N := 18) hx hb hts uX8_parts_X8 hown hK hP 0 rfl rfl 4 (by decide) (hts _ kX8_parts_f19) (fun _ h9 => h9) rfl dX8_parts_135 ?_
        refine lv_iload hx hb dX8_parts_138 (lv_at hl 7 rfl) ?_
        obtain ⟨h_21, hf⟩ := tm_gS hf
        refine va_iald hx hb hK hP 4 0 rfl rfl (tm_inb_in h_21) dX8_parts_140 ?_
        refine lv_iload_n hx hb dX8_parts_141 rfl (lv_at hl 2 rfl) ?_
        refine lv_imul hx hb dX8_parts_142 ?_
        refine lv_iload_n hx hb dX8_parts_143 rfl (lv_at hl 4 rfl) ?_
        refine lv_irem hx hb dX8_parts_144 (tm_nz_ne h_20) ?_
        refine lv_icmp_le (tgt := 153) hx hb dX8_parts_145 (by decide) (fun c_22 => ?_) (fun c_22 => ?_)
        · have hf := tm_iT c_22 hf
          refine lv_iload hx hb dX8_parts_153 (lv_at hl 7 rfl) ?_
          refine lv_istore (lv' := [(6, .int st.1), (8, .int 1), (0, .ref (q0 0)), (1, .int v1), (2, .int v2), (3, .int v3), (4, .int v4), (5, .int v5), (7, .int st.2)]) hx hb dX8_parts_155 hl (by decide) rfl (fun ls hl => ?_)
          obtain ⟨x_23, ex_23⟩ : ∃ y : Int32, y = st.2 + 1 := ⟨_, rfl⟩
          have hf := tm_at ex_23 hf
          refine lv_iinc (v := x_23) (lv' := [(7, .int x_23), (6, .int st.1), (8, .int 1), (0, .ref (q0 0)), (1, .int v1), (2, .int v2), (3, .int v3), (4, .int v4), (5, .int v5)]) hx hb dX8_parts_157 hl (k := 8) rfl (by rw [ex_23]; rfl) (by decide) rfl (fun ls hl => ?_)
          refine lv_goto (tgt := 89) hx hb dX8_parts_160 (by decide) ?_
          obtain rfl := Option.some.inj hf
          exact hk _ _ _ hP hD hS (lv_sub hl [3, 4, 5, 6, 7, 8, 1, 0] rfl)
        · have hf := tm_iF c_22 hf
          refine lv_iload hx hb dX8_parts_148 (lv_at hl 8 rfl) ?_
          refine lv_goto (tgt := 155) hx hb dX8_parts_150 (by decide) ?_
          refine lv_istore (lv' := [(6, .int st.2), (8, .int 1), (0, .ref (q0 0)), (1, .int v1), (2, .int v2), (3, .int v3), (4, .int v4), (5, .int v5), (7, .int st.2)]) hx hb dX8_parts_155 hl (by decide) rfl (fun ls hl => ?_)
          obtain ⟨x_24, ex_24⟩ : ∃ y : Int32, y = st.2 + 1 := ⟨_, rfl⟩
          have hf := tm_at ex_24 hf
          refine lv_iinc (v := x_24) (lv' := [(7, .int x_24), (6, .int st.2), (8, .int 1), (0, .ref (q0 0)), (1, .int v1), (2, .int v2), (3, .int v3), (4, .int v4), (5, .int v5)]) hx hb dX8_parts_157 hl (k := 8) rfl (by rw [ex_24]; rfl) (by decide) rfl (fun ls hl => ?_)
          refine lv_goto (tgt := 89) hx hb dX8_parts_160 (by decide) ?_
          obtain rfl := Option.some.inj hf
          exact hk _ _ _ hP hD hS (lv_sub hl [3, 4, 5, 6, 7, 8, 1, 0] rfl)
set_option maxHeartbeats 4000000 in
set_option maxRecDepth 100000 in
theorem wX8_parts_78 (l : Launch) (D : va_G) (cI cZ cR : ClassId) (N : Nat) (q0 : Nat → Nat) {p : Program} {e : Env} {s : State} {m : MethodId} {args : Array Value} {below : List Frame} {meth : Method} {c : Code} {A : Nat → Prop} {H0 : Heap} {Q : State → Prop} (C : tm_Cx p s m c args cX8_parts 9 RX8 wsX8_parts D (tm_ty cI cZ cR) A H0) (g0 : Int64) (v1 : Int32) (v2 : Int32) (v3 : Int32) : ∀ (n : Nat) (st : Int32 × Int32 × tm_M) (o : (Int32 × Int32 × tm_M)), tm_whl (bX8_parts_78 N v1 v2 v3) n st = some o → (fun (o : Int32 × Int32 × tm_M) => ∀ (H : Heap) (locs : List Loc) (ls : Array Slot), va_P D vwCl (WX8 cI cZ cR q0 o.2.2 g0) H → va_D A (WX8 cI cZ cR q0 o.2.2 g0) → va_S A H0 H locs → lv_has ls 9 [] → W p l e rmX8_parts s m args below meth c H locs 0 0 Q (F0 m 189 ls [])) o → (fun (st : Int32 × Int32 × tm_M) => ∀ (H : Heap) (locs : List Loc) (ls : Array Slot), va_P D vwCl (WX8 cI cZ cR q0 st.2.2 g0) H → va_D A (WX8 cI cZ cR q0 st.2.2 g0) → va_S A H0 H locs → lv_has ls 9 [(0, .ref (q0 0)), (1, .int v1), (2, .int v2), (3, .int v3), (4, .int st.1), (5, .int st.2.1)] → W p l e rmX8_parts s m args below meth c H locs 0 0 Q (F0 m 78 ls [])) st := by
  obtain ⟨hx, hb, hml, hown, hts, hK, hA⟩ := id C
  refine tm_whl_W (Wh := fun (st : Int32 × Int32 × tm_M) => ∀ (H : Heap) (locs : List Loc) (ls : Array Slot), va_P D vwCl (WX8 cI cZ cR q0 st.2.2 g0) H → va_D A (WX8 cI cZ cR q0 st.2.2 g0) → va_S A H0 H locs → lv_has ls 9 [(0, .ref (q0 0)), (1, .int v1), (2, .int v2), (3, .int v3), (4, .int st.1), (5, .int st.2.1)] → W p l e rmX8_parts s m args below meth c H locs 0 0 Q (F0 m 78 ls [])) (Wx := fun (o : Int32 × Int32 × tm_M) => ∀ (H : Heap) (locs : List Loc) (ls : Array Slot), va_P D vwCl (WX8 cI cZ cR q0 o.2.2 g0) H → va_D A (WX8 cI cZ cR q0 o.2.2 g0) → va_S A H0 H locs → lv_has ls 9 [] → W p l e rmX8_parts s m args below meth c H locs 0 0 Q (F0 m 189 ls [])) ?_
  intro st r hf hk H locs ls hP hD hS hl
  unfold bX8_parts_78 at hf
  refine lv_iload hx hb dX8_parts_78 (lv_at hl 4 rfl) ?_
  refine lv_if_le (tgt := 189) hx hb dX8_parts_80 (by decide) (fun c_13 => ?_) (fun c_13 => ?_)
  · have hf := tm_iT c_13 hf
    obtain rfl := Option.some.inj hf
    exact hk _ _ _ hP hD hS (lv_sub hl [] rfl)
  · have hf := tm_iF c_13 hf
    refine lv_iconst (v := (-1)) hx hb dX8_parts_83 (by decide) ?_
    refine lv_istore (lv' := [(6, .int ((-1))), (0, .ref (q0 0)), (1, .int v1), (2, .int v2), (3, .int v3), (4, .int st.1), (5, .int st.2.1)]) hx hb dX8_parts_84 hl (by decide) rfl (fun ls hl => ?_)
    refine lv_iconst (v := 0) hx hb dX8_parts_86 (by decide) ?_
    refine lv_istore (lv' := [(7, .int 0), (6, .int ((-1))), (0, .ref (q0 0)), (1, .int v1), (2, .int v2), (3, .int v3), (4, .int st.1), (5, .int st.2.1)]) hx hb dX8_parts_87 hl (by decide) rfl (fun ls hl => ?_)
    obtain ⟨t_25, ot_25, hf⟩ := tm_bS hf
    refine wX8_parts_89 l D cI cZ cR N q0 C st.2.2 g0 v1 v2 v3 st.1 st.2.1 _ _ _ ot_25 ?_ _ _ _ hP hD hS (lv_sub hl [2, 3, 4, 5, 6, 7, 1, 0] rfl)
    intro H locs ls hP hD hS hl
    refine lv_iload hx hb dX8_parts_163 (lv_at hl 5 rfl) ?_
    refine lv_iconst (v := 1) hx hb dX8_parts_165 (by decide) ?_
    refine lv_iload hx hb dX8_parts_166 (lv_at hl 6 rfl) ?_
    refine lv_ishl hx hb dX8_parts_168 ?_
    refine lv_ior hx hb dX8_parts_169 ?_
    refine lv_topi (fun x_26 ex_26 => ?_)
    have hf := tm_at ex_26 hf
    refine lv_istore (lv' := [(5, .int x_26), (0, .ref (q0 0)), (1, .int v1), (2, .int v2), (3, .int v3), (4, .int st.1), (6, .int t_25.1)]) hx hb dX8_parts_170 hl (by decide) rfl (fun ls hl => ?_)
    refine lv_aload_n hx hb dX8_parts_172 rfl (lv_at hl 1 rfl) ?_
    refine va_get (D := D) (ci := 8) (v := .ref (q0 5)) (C := RX8) (T := TX8) (N := 18) hx hb hts uX8_parts_X8 hown hK hP 0 rfl rfl 5 (by decide) (hts _ kX8_parts_f22) (fun _ h9 => h9) rfl dX8_parts_173 ?_
    refine lv_iload hx hb dX8_parts_176 (lv_at hl 6 rfl) ?_
    refine lv_dup2_11 hx hb dX8_parts_178 rfl rfl ?_
    obtain ⟨h_27, hf⟩ := tm_gS hf
    refine va_iald hx hb hK hP 5 0 rfl rfl (tm_inb_in h_27) dX8_parts_179 ?_
    refine lv_iconst (v := 1) hx hb dX8_parts_180 (by decide) ?_
    refine lv_iadd hx hb dX8_parts_181 ?_
    refine tm_iast hx hb hK hP hD hS 5 0 rfl rfl (tm_inb_in h_27) dX8_parts_182 (fun z => WX8 cI cZ cR q0 z g0) (tm_upc st.2.2 5 (upd (st.2.2 5) t_25.1.toNatClampNeg ((st.2.2 5 t_25.1.toNatClampNeg) + 1))) rfl (fun d0_28 ed0_28 H locs hP hD hS => ?_)
    have hf := tm_at ed0_28 hf
    obtain ⟨x_29, ex_29⟩ : ∃ y : Int32, y = st.1 + (-1) := ⟨_, rfl⟩
    have hf := tm_at ex_29 hf
    refine lv_iinc (v := x_29) (lv' := [(4, .int x_29), (5, .int x_26), (0, .ref (q0 0)), (1, .int v1), (2, .int v2), (3, .int v3), (6, .int t_25.1)]) hx hb dX8_parts_183 hl (k := 5) rfl (by rw [ex_29]; rfl) (by decide) rfl (fun ls hl => ?_)
    refine lv_goto (tgt := 78) hx hb dX8_parts_186 (by decide) ?_
    obtain rfl := Option.some.inj hf
    exact hk _ _ _ hP hD hS (lv_sub hl [2, 3, 4, 5, 0, 1] rfl)
set_option maxHeartbeats 4000000 in
set_option maxRecDepth 100000 in
theorem tX8_parts (l : Launch) (D : va_G) (cI cZ cR : ClassId) (N : Nat) (q0 : Nat → Nat) (d0 : tm_M) (g0 : Int64) (p1 : Int32) (p2 : Int32) (z0 : tm_M) (hf : fX8_parts N d0 g0 p1 p2 = some z0) : tm_CV l D (tm_ty cI cZ cR) yX8_parts wsX8_parts rmX8_parts [.ref (q0 0), .int p1, .int p2] (WX8 cI cZ cR q0 d0 g0) (WX8 cI cZ cR q0 z0 g0) := by
  refine tm_mkV (cc := cX8_parts) (maxL := 9) (by decide) rfl (Nat.le_of_ble_eq_true rfl) ?_
  intro p e s m below meth c A ls Q C hP hD hS hl hend
  have C : tm_Cx p s m c [.ref (q0 0), .int p1, .int p2].toArray cX8_parts 9 RX8 wsX8_parts D (tm_ty cI cZ cR) A s.heap := C
  obtain ⟨hx, hb, hml, hown, hts, hK, hA⟩ := id C
  have hl : lv_has ls 9 [(0, .ref (q0 0)), (1, .int p1), (2, .int p2)] := hl
  unfold fX8_parts at hf
  refine lv_iconst (v := 0) hx hb dX8_parts_0 (by decide) ?_
  refine lv_istore_n (lv' := [(3, .int 0), (0, .ref (q0 0)), (1, .int p1), (2, .int p2)]) hx hb dX8_parts_1 rfl hl (by decide) rfl (fun ls hl => ?_)
  refine lv_iconst (v := 0) hx hb dX8_parts_2 (by decide) ?_
  refine lv_istore (lv' := [(4, .int 0), (3, .int 0), (0, .ref (q0 0)), (1, .int p1), (2, .int p2)]) hx hb dX8_parts_3 hl (by decide) rfl (fun ls hl => ?_)
  obtain ⟨t_5, ot_5, hf⟩ := tm_bS hf
  refine wX8_parts_5 l D cI cZ cR N q0 C d0 g0 p1 p2 _ _ _ ot_5 ?_ _ _ _ hP hD hS (lv_sub hl [2, 3, 4, 1, 0] rfl)
  intro H locs ls hP hD hS hl
  refine lv_iload_n hx hb dX8_parts_27 rfl (lv_at hl 1 rfl) ?_
  refine lv_istore (lv' := [(4, .int p1), (0, .ref (q0 0)), (1, .int p1), (2, .int p2), (3, .int t_5.1)]) hx hb dX8_parts_28 hl (by decide) rfl (fun ls hl => ?_)
  refine lv_iconst (v := 0) hx hb dX8_parts_30 (by decide) ?_
  refine lv_istore (lv' := [(5, .int 0), (4, .int p1), (0, .ref (q0 0)), (1, .int p1), (2, .int p2), (3, .int t_5.1)]) hx hb dX8_parts_31 hl (by decide) rfl (fun ls hl => ?_)
  obtain ⟨t_12, ot_12, hf⟩ := tm_bS hf
  refine wX8_parts_33 l D cI cZ cR N q0 C g0 p1 p2 t_5.1 _ _ _ ot_12 ?_ _ _ _ hP hD hS (lv_sub hl [2, 3, 4, 5, 1, 0] rfl)
  intro H locs ls hP hD hS hl
  refine lv_iconst (v := 0) hx hb dX8_parts_75 (by decide) ?_
  refine lv_istore (lv' := [(5, .int 0), (0, .ref (q0 0)), (1, .int p1), (2, .int p2), (3, .int t_5.1), (4, .int t_12.1)]) hx hb dX8_parts_76 hl (by decide) rfl (fun ls hl => ?_)
  obtain ⟨t_30, ot_30, hf⟩ := tm_bS hf
  refine wX8_parts_78 l D cI cZ cR N q0 C g0 p1 p2 t_5.1 _ _ _ ot_30 ?_ _ _ _ hP hD hS (lv_sub hl [1, 2, 3, 4, 5, 0] rfl)
  intro H locs ls hP hD hS hl
  obtain rfl := Option.some.inj hf
  exact hend _ _ _ _ hP hD hS dX8_parts_189
set_option maxHeartbeats 4000000 in
set_option maxRecDepth 100000 in
theorem tX8_puts (l : Launch) (D : va_G) (cI cZ cR : ClassId) (N : Nat) (q0 : Nat → Nat) (d0 : tm_M) (g0 : Int64) (p1 : Int32) (p2 : Int32) (p3 : Int32) (p4 : Int32) (p5 : Int32) (z0 : tm_M) (hf : fX8_puts N d0 g0 p1 p2 p3 p4 p5 = some z0) : tm_CV l D (tm_ty cI cZ cR) yX8_puts wsX8_puts rmX8_puts [.ref (q0 0), .int p1, .int p2, .int p3, .int p4, .int p5] (WX8 cI cZ cR q0 d0 g0) (WX8 cI cZ cR q0 z0 g0) := by
  refine tm_mkV (cc := cX8_puts) (maxL := 6) (by decide) rfl (Nat.le_of_ble_eq_true rfl) ?_
  intro p e s m below meth c A ls Q C hP hD hS hl hend
  have C : tm_Cx p s m c [.ref (q0 0), .int p1, .int p2, .int p3, .int p4, .int p5].toArray cX8_puts 6 RX8 wsX8_puts D (tm_ty cI cZ cR) A s.heap := C
  obtain ⟨hx, hb, hml, hown, hts, hK, hA⟩ := id C
  have hl : lv_has ls 6 [(0, .ref (q0 0)), (1, .int p1), (2, .int p2), (3, .int p3), (4, .int p4), (5, .int p5)] := hl
  unfold fX8_puts at hf
  refine lv_aload_n hx hb dX8_puts_0 rfl (lv_at hl 0 rfl) ?_
  refine va_get (D := D) (ci := 8) (v := .ref (q0 6)) (C := RX8) (T := TX8) (N := 18) hx hb hts uX8_puts_X8 hown hK hP 0 rfl rfl 6 (by decide) (hts _ kX8_puts_f25) (fun _ h9 => h9) rfl dX8_puts_1 ?_
  refine lv_iload_n hx hb dX8_puts_4 rfl (lv_at hl 1 rfl) ?_
  refine lv_iload_n hx hb dX8_puts_5 rfl (lv_at hl 2 rfl) ?_
  obtain ⟨h_1, hf⟩ := tm_gS hf
  refine tm_iast hx hb hK hP hD hS 6 0 rfl rfl (tm_inb_in h_1) dX8_puts_6 (fun z => WX8 cI cZ cR q0 z g0) (tm_upc d0 6 (upd (d0 6) p1.toNatClampNeg p2)) rfl (fun d0_2 ed0_2 H locs hP hD hS => ?_)
  have hf := tm_at ed0_2 hf
  refine lv_aload_n hx hb dX8_puts_7 rfl (lv_at hl 0 rfl) ?_
  refine va_get (D := D) (ci := 8) (v := .ref (q0 7)) (C := RX8) (T := TX8) (N := 18) hx hb hts uX8_puts_X8 hown hK hP 0 rfl rfl 7 (by decide) (hts _ kX8_puts_f28) (fun _ h9 => h9) rfl dX8_puts_8 ?_
  refine lv_iload_n hx hb dX8_puts_11 rfl (lv_at hl 1 rfl) ?_
  refine lv_iload_n hx hb dX8_puts_12 rfl (lv_at hl 3 rfl) ?_
  refine tm_iast hx hb hK hP hD hS 7 0 rfl rfl (tm_inb_in h_1) dX8_puts_13 (fun z => WX8 cI cZ cR q0 z g0) (tm_upc d0_2 7 (upd (d0_2 7) p1.toNatClampNeg p3)) rfl (fun d0_3 ed0_3 H locs hP hD hS => ?_)
  have hf := tm_at ed0_3 hf
  refine lv_aload_n hx hb dX8_puts_14 rfl (lv_at hl 0 rfl) ?_
  refine va_get (D := D) (ci := 8) (v := .ref (q0 8)) (C := RX8) (T := TX8) (N := 18) hx hb hts uX8_puts_X8 hown hK hP 0 rfl rfl 8 (by decide) (hts _ kX8_puts_f31) (fun _ h9 => h9) rfl dX8_puts_15 ?_
  refine lv_iload_n hx hb dX8_puts_18 rfl (lv_at hl 1 rfl) ?_
  refine lv_iload hx hb dX8_puts_19 (lv_at hl 4 rfl) ?_
  refine tm_iast hx hb hK hP hD hS 8 0 rfl rfl (tm_inb_in h_1) dX8_puts_21 (fun z => WX8 cI cZ cR q0 z g0) (tm_upc d0_3 8 (upd (d0_3 8) p1.toNatClampNeg p4)) rfl (fun d0_4 ed0_4 H locs hP hD hS => ?_)
  have hf := tm_at ed0_4 hf
  refine lv_aload_n hx hb dX8_puts_22 rfl (lv_at hl 0 rfl) ?_
  refine va_get (D := D) (ci := 8) (v := .ref (q0 9)) (C := RX8) (T := TX8) (N := 18) hx hb hts uX8_puts_X8 hown hK hP 0 rfl rfl 9 (by decide) (hts _ kX8_puts_f34) (fun _ h9 => h9) rfl dX8_puts_23 ?_
  refine lv_iload_n hx hb dX8_puts_26 rfl (lv_at hl 1 rfl) ?_
  refine lv_iload hx hb dX8_puts_27 (lv_at hl 5 rfl) ?_
  refine tm_iast hx hb hK hP hD hS 9 0 rfl rfl (tm_inb_in h_1) dX8_puts_29 (fun z => WX8 cI cZ cR q0 z g0) (tm_upc d0_4 9 (upd (d0_4 9) p1.toNatClampNeg p5)) rfl (fun d0_5 ed0_5 H locs hP hD hS => ?_)
  have hf := tm_at ed0_5 hf
  obtain rfl := Option.some.inj hf
  exact hend _ _ _ _ hP hD hS dX8_puts_30
set_option maxHeartbeats 4000000 in
set_option maxRecDepth 100000 in
theorem wX8_laysChildren_7 (l : Launch) (D : va_G) (cI cZ cR : ClassId) (N : Nat) (q0 : Nat → Nat) {p : Program} {e : Env} {s : State} {m : MethodId} {args : Array Value} {below : List Frame} {meth : Method} {c : Code} {A : Nat → Prop} {H0 : Heap} {Q : State → Prop} (C : tm_Cx p s m c args cX8_laysChildren 3 RX8 wsX8_laysChildren D (tm_ty cI cZ cR) A H0) (g0 : Int64) (v1 : Int32) : ∀ (n : Nat) (st : Int32 × tm_M) (o : (Int32 × tm_M)), tm_whl (bX8_laysChildren_7 N v1) n st = some o → (fun (o : Int32 × tm_M) => ∀ (H : Heap) (locs : List Loc) (ls : Array Slot), va_P D vwCl (WX8 cI cZ cR q0 o.2 g0) H → va_D A (WX8 cI cZ cR q0 o.2 g0) → va_S A H0 H locs → lv_has ls 3 [] → W p l e rmX8_laysChildren s m args below meth c H locs 0 0 Q (F0 m 56 ls [])) o → (fun (st : Int32 × tm_M) => ∀ (H : Heap) (locs : List Loc) (ls : Array Slot), va_P D vwCl (WX8 cI cZ cR q0 st.2 g0) H → va_D A (WX8 cI cZ cR q0 st.2 g0) → va_S A H0 H locs → lv_has ls 3 [(0, .ref (q0 0)), (1, .int v1), (2, .int st.1)] → W p l e rmX8_laysChildren s m args below meth c H locs 0 0 Q (F0 m 7 ls [])) st := by
  obtain ⟨hx, hb, hml, hown, hts, hK, hA⟩ := id C
  refine tm_whl_W (Wh := fun (st : Int32 × tm_M) => ∀ (H : Heap) (locs : List Loc) (ls : Array Slot), va_P D vwCl (WX8 cI cZ cR q0 st.2 g0) H → va_D A (WX8 cI cZ cR q0 st.2 g0) → va_S A H0 H locs → lv_has ls 3 [(0, .ref (q0 0)), (1, .int v1), (2, .int st.1)] → W p l e rmX8_laysChildren s m args below meth c H locs 0 0 Q (F0 m 7 ls [])) (Wx := fun (o : Int32 × tm_M) => ∀ (H : Heap) (locs : List Loc) (ls : Array Slot), va_P D vwCl (WX8 cI cZ cR q0 o.2 g0) H → va_D A (WX8 cI cZ cR q0 o.2 g0) → va_S A H0 H locs → lv_has ls 3 [] → W p l e rmX8_laysChildren s m args below meth c H locs 0 0 Q (F0 m 56 ls [])) ?_
  intro st r hf hk H locs ls hP hD hS hl
  unfold bX8_laysChildren_7 at hf
  refine lv_iload_n hx hb dX8_laysChildren_7 rfl (lv_at hl 2 rfl) ?_
  refine lv_aload_n hx hb dX8_laysChildren_8 rfl (lv_at hl 0 rfl) ?_
  refine va_get (D := D) (ci := 8) (v := .ref (q0 1)) (C := RX8) (T := TX8) (N := 18) hx hb hts uX8_laysChildren_X8 hown hK hP 0 rfl rfl 0 (by decide) (hts _ kX8_laysChildren_f7) (fun _ h9 => h9) rfl dX8_laysChildren_9 ?_
  refine lv_iconst (v := 0) hx hb dX8_laysChildren_12 (by decide) ?_
  refine va_iald hx hb hK hP 1 0 rfl rfl (tm_inb_in (by decide)) dX8_laysChildren_13 ?_
  refine lv_icmp_ge (tgt := 56) hx hb dX8_laysChildren_14 (by decide) (fun c_2 => ?_) (fun c_2 => ?_)
  · have hf := tm_iT c_2 hf
    obtain rfl := Option.some.inj hf
    exact hk _ _ _ hP hD hS (lv_sub hl [] rfl)
  · have hf := tm_iF c_2 hf
    refine lv_aload_n hx hb dX8_laysChildren_17 rfl (lv_at hl 0 rfl) ?_
    refine va_get (D := D) (ci := 8) (v := .ref (q0 1)) (C := RX8) (T := TX8) (N := 18) hx hb hts uX8_laysChildren_X8 hown hK hP 0 rfl rfl 0 (by decide) (hts _ kX8_laysChildren_f7) (fun _ h9 => h9) rfl dX8_laysChildren_18 ?_
    refine lv_bipush (v := 29) hx hb dX8_laysChildren_21 (by decide) ?_
    refine lv_iload_n hx hb dX8_laysChildren_23 rfl (lv_at hl 2 rfl) ?_
    refine lv_iadd hx hb dX8_laysChildren_24 ?_
    obtain ⟨h_3, hf⟩ := tm_gS hf
    refine va_iald hx hb hK hP 1 0 rfl rfl (tm_inb_in h_3) dX8_laysChildren_25 ?_
    refine lv_iload_n hx hb dX8_laysChildren_26 rfl (lv_at hl 1 rfl) ?_
    refine lv_icmp_ne (tgt := 50) hx hb dX8_laysChildren_27 (by decide) (fun c_4 => ?_) (fun c_4 => ?_)
    · have hf := tm_iF c_4 hf
      obtain ⟨x_5, ex_5⟩ : ∃ y : Int32, y = st.1 + 1 := ⟨_, rfl⟩
      have hf := tm_at ex_5 hf
      refine lv_iinc (v := x_5) (lv' := [(2, .int x_5), (0, .ref (q0 0)), (1, .int v1)]) hx hb dX8_laysChildren_50 hl (k := 2) rfl (by rw [ex_5]; rfl) (by decide) rfl (fun ls hl => ?_)
      refine lv_goto (tgt := 7) hx hb dX8_laysChildren_53 (by decide) ?_
      obtain rfl := Option.some.inj hf
      exact hk _ _ _ hP hD hS (lv_sub hl [1, 2, 0] rfl)
    · have hf := tm_iT c_4 hf
      refine lv_aload_n hx hb dX8_laysChildren_30 rfl (lv_at hl 0 rfl) ?_
      refine va_get (D := D) (ci := 8) (v := .ref (q0 12)) (C := RX8) (T := TX8) (N := 18) hx hb hts uX8_laysChildren_X8 hown hK hP 0 rfl rfl 12 (by decide) (hts _ kX8_laysChildren_f44) (fun _ h9 => h9) rfl dX8_laysChildren_31 ?_
      refine lv_aload_n hx hb dX8_laysChildren_34 rfl (lv_at hl 0 rfl) ?_
      refine va_get (D := D) (ci := 8) (v := .int (st.2 0 13)) (C := RX8) (T := TX8) (N := 18) hx hb hts uX8_laysChildren_X8 hown hK hP 0 rfl rfl 13 (by decide) (hts _ kX8_laysChildren_f96) (fun _ h9 => h9) rfl dX8_laysChildren_35 ?_
      refine lv_iload_n hx hb dX8_laysChildren_38 rfl (lv_at hl 2 rfl) ?_
      obtain ⟨h_6, hf⟩ := tm_gS hf
      refine tm_iast hx hb hK hP hD hS 12 0 rfl rfl (tm_inb_in h_6) dX8_laysChildren_39 (fun z => WX8 cI cZ cR q0 z g0) (tm_upc st.2 12 (upd (st.2 12) (st.2 0 13).toNatClampNeg st.1)) rfl (fun d0_7 ed0_7 H locs hP hD hS => ?_)
      have hf := tm_at ed0_7 hf
      refine lv_aload_n hx hb dX8_laysChildren_40 rfl (lv_at hl 0 rfl) ?_
      refine lv_dup hx hb dX8_laysChildren_41 rfl ?_
      refine va_get (D := D) (ci := 8) (v := .int (d0_7 0 13)) (C := RX8) (T := TX8) (N := 18) hx hb hts uX8_laysChildren_X8 hown hK hP 0 rfl rfl 13 (by decide) (hts _ kX8_laysChildren_f96) (fun _ h9 => h9) rfl dX8_laysChildren_42 ?_
      refine lv_iconst (v := 1) hx hb dX8_laysChildren_45 (by decide) ?_
      refine lv_iadd hx hb dX8_laysChildren_46 ?_
      refine tm_put (D := D) (ci := 8) (v := .int ((d0_7 0 13) + 1)) (ty := .int) (C := RX8) (T := TX8) (N := 18) hx hb hts uX8_laysChildren_X8 tyX8 tyX8_ok nmX8 hown hK hP hD hS 0 rfl rfl 13 (by decide) (hts _ kX8_laysChildren_f96) (fun _ h9 => h9) rfl (by decide +kernel) rfl rfl (Nat.le_of_ble_eq_true rfl) dX8_laysChildren_47 (fun z => WX8 cI cZ cR q0 z g0) (tm_upk d0_7 0 13 ((d0_7 0 13) + 1)) rfl (fun d0_8 ed0_8 H locs hP hD hS => ?_)
      have hf := tm_at ed0_8 hf
      obtain ⟨x_9, ex_9⟩ : ∃ y : Int32, y = st.1 + 1 := ⟨_, rfl⟩
      have hf := tm_at ex_9 hf
      refine lv_iinc (v := x_9) (lv' := [(2, .int x_9), (0, .ref (q0 0)), (1, .int v1)]) hx hb dX8_laysChildren_50 hl (k := 2) rfl (by rw [ex_9]; rfl) (by decide) rfl (fun ls hl => ?_)
      refine lv_goto (tgt := 7) hx hb dX8_laysChildren_53 (by decide) ?_
      obtain rfl := Option.some.inj hf
      exact hk _ _ _ hP hD hS (lv_sub hl [1, 2, 0] rfl)
set_option maxHeartbeats 4000000 in
set_option maxRecDepth 100000 in
theorem tX8_laysChildren (l : Launch) (D : va_G) (cI cZ cR : ClassId) (N : Nat) (q0 : Nat → Nat) (d0 : tm_M) (g0 : Int64) (p1 : Int32) (z0 : tm_M) (hf : fX8_laysChildren N d0 g0 p1 = some z0) : tm_CV l D (tm_ty cI cZ cR) yX8_laysChildren wsX8_laysChildren rmX8_laysChildren [.ref (q0 0), .int p1] (WX8 cI cZ cR q0 d0 g0) (WX8 cI cZ cR q0 z0 g0) := by
  refine tm_mkV (cc := cX8_laysChildren) (maxL := 3) (by decide) rfl (Nat.le_of_ble_eq_true rfl) ?_
  intro p e s m below meth c A ls Q C hP hD hS hl hend
  have C : tm_Cx p s m c [.ref (q0 0), .int p1].toArray cX8_laysChildren 3 RX8 wsX8_laysChildren D (tm_ty cI cZ cR) A s.heap := C
  obtain ⟨hx, hb, hml, hown, hts, hK, hA⟩ := id C
  have hl : lv_has ls 3 [(0, .ref (q0 0)), (1, .int p1)] := hl
  unfold fX8_laysChildren at hf
  refine lv_aload_n hx hb dX8_laysChildren_0 rfl (lv_at hl 0 rfl) ?_
  refine lv_iconst (v := 0) hx hb dX8_laysChildren_1 (by decide) ?_
  refine tm_put (D := D) (ci := 8) (v := .int 0) (ty := .int) (C := RX8) (T := TX8) (N := 18) hx hb hts uX8_laysChildren_X8 tyX8 tyX8_ok nmX8 hown hK hP hD hS 0 rfl rfl 13 (by decide) (hts _ kX8_laysChildren_f96) (fun _ h9 => h9) rfl (by decide +kernel) rfl rfl (Nat.le_of_ble_eq_true rfl) dX8_laysChildren_2 (fun z => WX8 cI cZ cR q0 z g0) (tm_upk d0 0 13 0) rfl (fun d0_1 ed0_1 H locs hP hD hS => ?_)
  have hf := tm_at ed0_1 hf
  refine lv_iconst (v := 0) hx hb dX8_laysChildren_5 (by decide) ?_
  refine lv_istore_n (lv' := [(2, .int 0), (0, .ref (q0 0)), (1, .int p1)]) hx hb dX8_laysChildren_6 rfl hl (by decide) rfl (fun ls hl => ?_)
  obtain ⟨t_10, ot_10, hf⟩ := tm_bS hf
  refine wX8_laysChildren_7 l D cI cZ cR N q0 C g0 p1 _ _ _ ot_10 ?_ _ _ _ hP hD hS (lv_sub hl [1, 2, 0] rfl)
  intro H locs ls hP hD hS hl
  obtain rfl := Option.some.inj hf
  exact hend _ _ _ _ hP hD hS dX8_laysChildren_56
set_option maxHeartbeats 4000000 in
set_option maxRecDepth 100000 in
theorem wX8_laysSizes_2 (l : Launch) (D : va_G) (cI cZ cR : ClassId) (N : Nat) (q0 : Nat → Nat) {p : Program} {e : Env} {s : State} {m : MethodId} {args : Array Value} {below : List Frame} {meth : Method} {c : Code} {A : Nat → Prop} {H0 : Heap} {Q : State → Prop} (C : tm_Cx p s m c args cX8_laysSizes 4 RX8 wsX8_laysSizes D (tm_ty cI cZ cR) A H0) (g0 : Int64) (v1 : Int32) (v2 : Int32) : ∀ (n : Nat) (st : Int32 × tm_M) (o : (Int32 × tm_M)), tm_whl (bX8_laysSizes_2 N v1 v2) n st = some o → (fun (o : Int32 × tm_M) => ∀ (H : Heap) (locs : List Loc) (ls : Array Slot), va_P D vwCl (WX8 cI cZ cR q0 o.2 g0) H → va_D A (WX8 cI cZ cR q0 o.2 g0) → va_S A H0 H locs → lv_has ls 4 [] → W p l e rmX8_laysSizes s m args below meth c H locs 0 0 Q (F0 m 32 ls [])) o → (fun (st : Int32 × tm_M) => ∀ (H : Heap) (locs : List Loc) (ls : Array Slot), va_P D vwCl (WX8 cI cZ cR q0 st.2 g0) H → va_D A (WX8 cI cZ cR q0 st.2 g0) → va_S A H0 H locs → lv_has ls 4 [(0, .ref (q0 0)), (1, .int v1), (2, .int v2), (3, .int st.1)] → W p l e rmX8_laysSizes s m args below meth c H locs 0 0 Q (F0 m 2 ls [])) st := by
  obtain ⟨hx, hb, hml, hown, hts, hK, hA⟩ := id C
  refine tm_whl_W (Wh := fun (st : Int32 × tm_M) => ∀ (H : Heap) (locs : List Loc) (ls : Array Slot), va_P D vwCl (WX8 cI cZ cR q0 st.2 g0) H → va_D A (WX8 cI cZ cR q0 st.2 g0) → va_S A H0 H locs → lv_has ls 4 [(0, .ref (q0 0)), (1, .int v1), (2, .int v2), (3, .int st.1)] → W p l e rmX8_laysSizes s m args below meth c H locs 0 0 Q (F0 m 2 ls [])) (Wx := fun (o : Int32 × tm_M) => ∀ (H : Heap) (locs : List Loc) (ls : Array Slot), va_P D vwCl (WX8 cI cZ cR q0 o.2 g0) H → va_D A (WX8 cI cZ cR q0 o.2 g0) → va_S A H0 H locs → lv_has ls 4 [] → W p l e rmX8_laysSizes s m args below meth c H locs 0 0 Q (F0 m 32 ls [])) ?_
  intro st r hf hk H locs ls hP hD hS hl
  unfold bX8_laysSizes_2 at hf
  refine lv_iload_n hx hb dX8_laysSizes_2 rfl (lv_at hl 3 rfl) ?_
  refine lv_iload_n hx hb dX8_laysSizes_3 rfl (lv_at hl 2 rfl) ?_
  refine lv_icmp_ge (tgt := 32) hx hb dX8_laysSizes_4 (by decide) (fun c_1 => ?_) (fun c_1 => ?_)
  · have hf := tm_iT c_1 hf
    obtain rfl := Option.some.inj hf
    exact hk _ _ _ hP hD hS (lv_sub hl [] rfl)
  · have hf := tm_iF c_1 hf
    refine lv_aload_n hx hb dX8_laysSizes_7 rfl (lv_at hl 0 rfl) ?_
    refine va_get (D := D) (ci := 8) (v := .ref (q0 4)) (C := RX8) (T := TX8) (N := 18) hx hb hts uX8_laysSizes_X8 hown hK hP 0 rfl rfl 4 (by decide) (hts _ kX8_laysSizes_f19) (fun _ h9 => h9) rfl dX8_laysSizes_8 ?_
    refine lv_iload_n hx hb dX8_laysSizes_11 rfl (lv_at hl 3 rfl) ?_
    refine lv_aload_n hx hb dX8_laysSizes_12 rfl (lv_at hl 0 rfl) ?_
    refine va_get (D := D) (ci := 8) (v := .ref (q0 11)) (C := RX8) (T := TX8) (N := 18) hx hb hts uX8_laysSizes_X8 hown hK hP 0 rfl rfl 11 (by decide) (hts _ kX8_laysSizes_f41) (fun _ h9 => h9) rfl dX8_laysSizes_13 ?_
    refine lv_aload_n hx hb dX8_laysSizes_16 rfl (lv_at hl 0 rfl) ?_
    refine va_get (D := D) (ci := 8) (v := .ref (q0 12)) (C := RX8) (T := TX8) (N := 18) hx hb hts uX8_laysSizes_X8 hown hK hP 0 rfl rfl 12 (by decide) (hts _ kX8_laysSizes_f44) (fun _ h9 => h9) rfl dX8_laysSizes_17 ?_
    refine lv_iload_n hx hb dX8_laysSizes_20 rfl (lv_at hl 1 rfl) ?_
    refine lv_iload_n hx hb dX8_laysSizes_21 rfl (lv_at hl 3 rfl) ?_
    refine lv_iadd hx hb dX8_laysSizes_22 ?_
    obtain ⟨h_2, hf⟩ := tm_gS hf
    refine va_iald hx hb hK hP 12 0 rfl rfl (tm_inb_in h_2) dX8_laysSizes_23 ?_
    obtain ⟨h_3, hf⟩ := tm_gS hf
    refine va_iald hx hb hK hP 11 0 rfl rfl (tm_inb_in h_3) dX8_laysSizes_24 ?_
    obtain ⟨h_4, hf⟩ := tm_gS hf
    refine tm_iast hx hb hK hP hD hS 4 0 rfl rfl (tm_inb_in h_4) dX8_laysSizes_25 (fun z => WX8 cI cZ cR q0 z g0) (tm_upc st.2 4 (upd (st.2 4) st.1.toNatClampNeg (st.2 11 (st.2 12 (v1 + st.1).toNatClampNeg).toNatClampNeg))) rfl (fun d0_5 ed0_5 H locs hP hD hS => ?_)
    have hf := tm_at ed0_5 hf
    obtain ⟨x_6, ex_6⟩ : ∃ y : Int32, y = st.1 + 1 := ⟨_, rfl⟩
    have hf := tm_at ex_6 hf
    refine lv_iinc (v := x_6) (lv' := [(3, .int x_6), (0, .ref (q0 0)), (1, .int v1), (2, .int v2)]) hx hb dX8_laysSizes_26 hl (k := 3) rfl (by rw [ex_6]; rfl) (by decide) rfl (fun ls hl => ?_)
    refine lv_goto (tgt := 2) hx hb dX8_laysSizes_29 (by decide) ?_
    obtain rfl := Option.some.inj hf
    exact hk _ _ _ hP hD hS (lv_sub hl [1, 2, 3, 0] rfl)
set_option maxHeartbeats 4000000 in
set_option maxRecDepth 100000 in
theorem tX8_laysSizes (l : Launch) (D : va_G) (cI cZ cR : ClassId) (N : Nat) (q0 : Nat → Nat) (d0 : tm_M) (g0 : Int64) (p1 : Int32) (p2 : Int32) (z0 : tm_M) (hf : fX8_laysSizes N d0 g0 p1 p2 = some z0) : tm_CV l D (tm_ty cI cZ cR) yX8_laysSizes wsX8_laysSizes rmX8_laysSizes [.ref (q0 0), .int p1, .int p2] (WX8 cI cZ cR q0 d0 g0) (WX8 cI cZ cR q0 z0 g0) := by
  refine tm_mkV (cc := cX8_laysSizes) (maxL := 4) (by decide) rfl (Nat.le_of_ble_eq_true rfl) ?_
  intro p e s m below meth c A ls Q C hP hD hS hl hend
  have C : tm_Cx p s m c [.ref (q0 0), .int p1, .int p2].toArray cX8_laysSizes 4 RX8 wsX8_laysSizes D (tm_ty cI cZ cR) A s.heap := C
  obtain ⟨hx, hb, hml, hown, hts, hK, hA⟩ := id C
  have hl : lv_has ls 4 [(0, .ref (q0 0)), (1, .int p1), (2, .int p2)] := hl
  unfold fX8_laysSizes at hf
  refine lv_iconst (v := 0) hx hb dX8_laysSizes_0 (by decide) ?_
  refine lv_istore_n (lv' := [(3, .int 0), (0, .ref (q0 0)), (1, .int p1), (2, .int p2)]) hx hb dX8_laysSizes_1 rfl hl (by decide) rfl (fun ls hl => ?_)
  obtain ⟨t_7, ot_7, hf⟩ := tm_bS hf
  refine wX8_laysSizes_2 l D cI cZ cR N q0 C g0 p1 p2 _ _ _ ot_7 ?_ _ _ _ hP hD hS (lv_sub hl [1, 2, 3, 0] rfl)
  intro H locs ls hP hD hS hl
  obtain rfl := Option.some.inj hf
  exact hend _ _ _ _ hP hD hS dX8_laysSizes_32
set_option maxHeartbeats 4000000 in
set_option maxRecDepth 100000 in
theorem wX8_sumOf_5 (l : Launch) (D : va_G) (cI cZ cR : ClassId) (N : Nat) (q0 : Nat → Nat) {p : Program} {e : Env} {s : State} {m : MethodId} {args : Array Value} {below : List Frame} {meth : Method} {c : Code} {A : Nat → Prop} {H0 : Heap} {Q : State → Prop} (C : tm_Cx p s m c args cX8_sumOf 5 RX8 wsX8_sumOf D (tm_ty cI cZ cR) A H0) (d0 : tm_M) (g0 : Int64) (v1 : Int32) (v2 : Int32) : ∀ (n : Nat) (st : Int32 × Int32) (o : (Int32 × Int32)), tm_whl (bX8_sumOf_5 N d0 v1 v2) n st = some o → (fun (o : Int32 × Int32) => ∀ (H : Heap) (locs : List Loc) (ls : Array Slot), va_P D vwCl (WX8 cI cZ cR q0 d0 g0) H → va_D A (WX8 cI cZ cR q0 d0 g0) → va_S A H0 H locs → lv_has ls 5 [(3, .int o.1)] → W p l e rmX8_sumOf s m args below meth c H locs 0 0 Q (F0 m 34 ls [])) o → (fun (st : Int32 × Int32) => ∀ (H : Heap) (locs : List Loc) (ls : Array Slot), va_P D vwCl (WX8 cI cZ cR q0 d0 g0) H → va_D A (WX8 cI cZ cR q0 d0 g0) → va_S A H0 H locs → lv_has ls 5 [(0, .ref (q0 0)), (1, .int v1), (2, .int v2), (3, .int st.1), (4, .int st.2)] → W p l e rmX8_sumOf s m args below meth c H locs 0 0 Q (F0 m 5 ls [])) st := by
  obtain ⟨hx, hb, hml, hown, hts, hK, hA⟩ := id C
  refine tm_whl_W (Wh := fun (st : Int32 × Int32) => ∀ (H : Heap) (locs : List Loc) (ls : Array Slot), va_P D vwCl (WX8 cI cZ cR q0 d0 g0) H → va_D A (WX8 cI cZ cR q0 d0 g0) → va_S A H0 H locs → lv_has ls 5 [(0, .ref (q0 0)), (1, .int v1), (2, .int v2), (3, .int st.1), (4, .int st.2)] → W p l e rmX8_sumOf s m args below meth c H locs 0 0 Q (F0 m 5 ls [])) (Wx := fun (o : Int32 × Int32) => ∀ (H : Heap) (locs : List Loc) (ls : Array Slot), va_P D vwCl (WX8 cI cZ cR q0 d0 g0) H → va_D A (WX8 cI cZ cR q0 d0 g0) → va_S A H0 H locs → lv_has ls 5 [(3, .int o.1)] → W p l e rmX8_sumOf s m args below meth c H locs 0 0 Q (F0 m 34 ls [])) ?_
  intro st r hf hk H locs ls hP hD hS hl
  unfold bX8_sumOf_5 at hf
  refine lv_iload hx hb dX8_sumOf_5 (lv_at hl 4 rfl) ?_
  refine lv_iload_n hx hb dX8_sumOf_7 rfl (lv_at hl 2 rfl) ?_
  refine lv_icmp_ge (tgt := 34) hx hb dX8_sumOf_8 (by decide) (fun c_1 => ?_) (fun c_1 => ?_)
  · have hf := tm_iT c_1 hf
    obtain rfl := Option.some.inj hf
    exact hk _ _ _ hP hD hS (lv_sub hl [3] rfl)
  · have hf := tm_iF c_1 hf
    refine lv_iload_n hx hb dX8_sumOf_11 rfl (lv_at hl 3 rfl) ?_
    refine lv_aload_n hx hb dX8_sumOf_12 rfl (lv_at hl 0 rfl) ?_
    refine va_get (D := D) (ci := 8) (v := .ref (q0 11)) (C := RX8) (T := TX8) (N := 18) hx hb hts uX8_sumOf_X8 hown hK hP 0 rfl rfl 11 (by decide) (hts _ kX8_sumOf_f41) (fun _ h9 => h9) rfl dX8_sumOf_13 ?_
    refine lv_aload_n hx hb dX8_sumOf_16 rfl (lv_at hl 0 rfl) ?_
    refine va_get (D := D) (ci := 8) (v := .ref (q0 12)) (C := RX8) (T := TX8) (N := 18) hx hb hts uX8_sumOf_X8 hown hK hP 0 rfl rfl 12 (by decide) (hts _ kX8_sumOf_f44) (fun _ h9 => h9) rfl dX8_sumOf_17 ?_
    refine lv_iload_n hx hb dX8_sumOf_20 rfl (lv_at hl 1 rfl) ?_
    refine lv_iload hx hb dX8_sumOf_21 (lv_at hl 4 rfl) ?_
    refine lv_iadd hx hb dX8_sumOf_23 ?_
    obtain ⟨h_2, hf⟩ := tm_gS hf
    refine va_iald hx hb hK hP 12 0 rfl rfl (tm_inb_in h_2) dX8_sumOf_24 ?_
    obtain ⟨h_3, hf⟩ := tm_gS hf
    refine va_iald hx hb hK hP 11 0 rfl rfl (tm_inb_in h_3) dX8_sumOf_25 ?_
    refine lv_iadd hx hb dX8_sumOf_26 ?_
    refine lv_topi (fun x_4 ex_4 => ?_)
    have hf := tm_at ex_4 hf
    refine lv_istore_n (lv' := [(3, .int x_4), (0, .ref (q0 0)), (1, .int v1), (2, .int v2), (4, .int st.2)]) hx hb dX8_sumOf_27 rfl hl (by decide) rfl (fun ls hl => ?_)
    obtain ⟨x_5, ex_5⟩ : ∃ y : Int32, y = st.2 + 1 := ⟨_, rfl⟩
    have hf := tm_at ex_5 hf
    refine lv_iinc (v := x_5) (lv' := [(4, .int x_5), (3, .int x_4), (0, .ref (q0 0)), (1, .int v1), (2, .int v2)]) hx hb dX8_sumOf_28 hl (k := 4) rfl (by rw [ex_5]; rfl) (by decide) rfl (fun ls hl => ?_)
    refine lv_goto (tgt := 5) hx hb dX8_sumOf_31 (by decide) ?_
    obtain rfl := Option.some.inj hf
    exact hk _ _ _ hP hD hS (lv_sub hl [2, 3, 4, 1, 0] rfl)
set_option maxHeartbeats 4000000 in
set_option maxRecDepth 100000 in
theorem tX8_sumOf (l : Launch) (D : va_G) (cI cZ cR : ClassId) (N : Nat) (q0 : Nat → Nat) (d0 : tm_M) (g0 : Int64) (p1 : Int32) (p2 : Int32) (r0 : Int32) (hf : fX8_sumOf N d0 g0 p1 p2 = some r0) : tm_CI l D (tm_ty cI cZ cR) yX8_sumOf wsX8_sumOf rmX8_sumOf [.ref (q0 0), .int p1, .int p2] (WX8 cI cZ cR q0 d0 g0) r0 (WX8 cI cZ cR q0 d0 g0) := by
  refine tm_mkI (cc := cX8_sumOf) (maxL := 5) (ty := .int) (by decide) rfl (Nat.le_of_ble_eq_true rfl) ?_
  intro p e s m below meth c A ls Q C hP hD hS hl hend
  have C : tm_Cx p s m c [.ref (q0 0), .int p1, .int p2].toArray cX8_sumOf 5 RX8 wsX8_sumOf D (tm_ty cI cZ cR) A s.heap := C
  obtain ⟨hx, hb, hml, hown, hts, hK, hA⟩ := id C
  have hl : lv_has ls 5 [(0, .ref (q0 0)), (1, .int p1), (2, .int p2)] := hl
  unfold fX8_sumOf at hf
  refine lv_iconst (v := 0) hx hb dX8_sumOf_0 (by decide) ?_
  refine lv_istore_n (lv' := [(3, .int 0), (0, .ref (q0 0)), (1, .int p1), (2, .int p2)]) hx hb dX8_sumOf_1 rfl hl (by decide) rfl (fun ls hl => ?_)
  refine lv_iconst (v := 0) hx hb dX8_sumOf_2 (by decide) ?_
  refine lv_istore (lv' := [(4, .int 0), (3, .int 0), (0, .ref (q0 0)), (1, .int p1), (2, .int p2)]) hx hb dX8_sumOf_3 hl (by decide) rfl (fun ls hl => ?_)
  obtain ⟨t_6, ot_6, hf⟩ := tm_bS hf
  refine wX8_sumOf_5 l D cI cZ cR N q0 C d0 g0 p1 p2 _ _ _ ot_6 ?_ _ _ _ hP hD hS (lv_sub hl [2, 3, 4, 1, 0] rfl)
  intro H locs ls hP hD hS hl
  refine lv_iload_n hx hb dX8_sumOf_34 rfl (lv_at hl 0 rfl) ?_
  obtain rfl := Option.some.inj hf
  exact hend _ _ _ _ hP hD hS rfl dX8_sumOf_35
set_option maxHeartbeats 4000000 in
set_option maxRecDepth 100000 in
theorem wX8_laysRow_39 (l : Launch) (D : va_G) (cI cZ cR : ClassId) (N : Nat) (q0 : Nat → Nat) {p : Program} {e : Env} {s : State} {m : MethodId} {args : Array Value} {below : List Frame} {meth : Method} {c : Code} {A : Nat → Prop} {H0 : Heap} {Q : State → Prop} (C : tm_Cx p s m c args cX8_laysRow 11 RX8 wsX8_laysRow D (tm_ty cI cZ cR) A H0) (g0 : Int64) (v1 : Int32) (v2 : Int32) (v3 : Int32) (v4 : Int32) (v5 : Int32) (v6 : Int32) (v7 : Int32) : ∀ (n : Nat) (st : Int32 × Int32 × tm_M) (o : (Int32 × Int32 × tm_M)), tm_whl (bX8_laysRow_39 N g0 v1 v2 v3 v4 v5 v6 v7) n st = some o → (fun (o : Int32 × Int32 × tm_M) => ∀ (H : Heap) (locs : List Loc) (ls : Array Slot), va_P D vwCl (WX8 cI cZ cR q0 o.2.2 g0) H → va_D A (WX8 cI cZ cR q0 o.2.2 g0) → va_S A H0 H locs → lv_has ls 11 [] → W p l e rmX8_laysRow s m args below meth c H locs 0 0 Q (F0 m 127 ls [])) o → (fun (st : Int32 × Int32 × tm_M) => ∀ (H : Heap) (locs : List Loc) (ls : Array Slot), va_P D vwCl (WX8 cI cZ cR q0 st.2.2 g0) H → va_D A (WX8 cI cZ cR q0 st.2.2 g0) → va_S A H0 H locs → lv_has ls 11 [(0, .ref (q0 0)), (1, .int v1), (2, .int v2), (3, .int v3), (4, .int v4), (5, .int v5), (6, .int v6), (7, .int v7), (8, .int st.1), (9, .int st.2.1)] → W p l e rmX8_laysRow s m args below meth c H locs 0 0 Q (F0 m 39 ls [])) st := by
  obtain ⟨hx, hb, hml, hown, hts, hK, hA⟩ := id C
  refine tm_whl_W (Wh := fun (st : Int32 × Int32 × tm_M) => ∀ (H : Heap) (locs : List Loc) (ls : Array Slot), va_P D vwCl (WX8 cI cZ cR q0 st.2.2 g0) H → va_D A (WX8 cI cZ cR q0 st.2.2 g0) → va_S A H0 H locs → lv_has ls 11 [(0, .ref (q0 0)), (1, .int v1), (2, .int v2), (3, .int v3), (4, .int v4), (5, .int v5), (6, .int v6), (7, .int v7), (8, .int st.1), (9, .int st.2.1)] → W p l e rmX8_laysRow s m args below meth c H locs 0 0 Q (F0 m 39 ls [])) (Wx := fun (o : Int32 × Int32 × tm_M) => ∀ (H : Heap) (locs : List Loc) (ls : Array Slot), va_P D vwCl (WX8 cI cZ cR q0 o.2.2 g0) H → va_D A (WX8 cI cZ cR q0 o.2.2 g0) → va_S A H0 H locs → lv_has ls 11 [] → W p l e rmX8_laysRow s m args below meth c H locs 0 0 Q (F0 m 127 ls [])) ?_
  intro st r hf hk H locs ls hP hD hS hl
  unfold bX8_laysRow_39 at hf
  refine lv_iload hx hb dX8_laysRow_39 (lv_at hl 9 rfl) ?_
  refine lv_iload_n hx hb dX8_laysRow_41 rfl (lv_at hl 2 rfl) ?_
  refine lv_icmp_ge (tgt := 127) hx hb dX8_laysRow_42 (by decide) (fun c_4 => ?_) (fun c_4 => ?_)
  · have hf := tm_iT c_4 hf
    obtain rfl := Option.some.inj hf
    exact hk _ _ _ hP hD hS (lv_sub hl [] rfl)
  · have hf := tm_iF c_4 hf
    refine lv_aload_n hx hb dX8_laysRow_45 rfl (lv_at hl 0 rfl) ?_
    refine va_get (D := D) (ci := 8) (v := .ref (q0 5)) (C := RX8) (T := TX8) (N := 18) hx hb hts uX8_laysRow_X8 hown hK hP 0 rfl rfl 5 (by decide) (hts _ kX8_laysRow_f22) (fun _ h9 => h9) rfl dX8_laysRow_46 ?_
    refine lv_iload hx hb dX8_laysRow_49 (lv_at hl 9 rfl) ?_
    obtain ⟨h_5, hf⟩ := tm_gS hf
    refine va_iald hx hb hK hP 5 0 rfl rfl (tm_inb_in h_5) dX8_laysRow_51 ?_
    refine lv_topi (fun x_6 ex_6 => ?_)
    have hf := tm_at ex_6 hf
    refine lv_istore (lv' := [(10, .int x_6), (0, .ref (q0 0)), (1, .int v1), (2, .int v2), (3, .int v3), (4, .int v4), (5, .int v5), (6, .int v6), (7, .int v7), (8, .int st.1), (9, .int st.2.1)]) hx hb dX8_laysRow_52 hl (by decide) rfl (fun ls hl => ?_)
    refine lv_aload_n hx hb dX8_laysRow_54 rfl (lv_at hl 1 rfl) ?_
    refine lv_aload_n hx hb dX8_laysRow_55 rfl (lv_at hl 1 rfl) ?_
    refine va_get (D := D) (ci := 8) (v := .ref (q0 12)) (C := RX8) (T := TX8) (N := 18) hx hb hts uX8_laysRow_X8 hown hK hP 0 rfl rfl 12 (by decide) (hts _ kX8_laysRow_f44) (fun _ h9 => h9) rfl dX8_laysRow_56 ?_
    refine lv_iload_n hx hb dX8_laysRow_59 rfl (lv_at hl 2 rfl) ?_
    refine lv_iload hx hb dX8_laysRow_60 (lv_at hl 10 rfl) ?_
    refine lv_iadd hx hb dX8_laysRow_62 ?_
    obtain ⟨h_7, hf⟩ := tm_gS hf
    refine va_iald hx hb hK hP 12 0 rfl rfl (tm_inb_in h_7) dX8_laysRow_63 ?_
    refine lv_iload hx hb dX8_laysRow_64 (lv_at hl 8 rfl) ?_
    refine lv_if_eq (tgt := 74) hx hb dX8_laysRow_66 (by decide) (fun c_8 => ?_) (fun c_8 => ?_)
    · have hf := tm_iT c_8 hf
      refine lv_iload_n hx hb dX8_laysRow_74 rfl (lv_at hl 4 rfl) ?_
      refine lv_iload hx hb dX8_laysRow_75 (lv_at hl 8 rfl) ?_
      refine lv_if_eq (tgt := 85) hx hb dX8_laysRow_77 (by decide) (fun _ => ?_) (fun c9 => absurd c_8 c9)
      refine lv_iload hx hb dX8_laysRow_85 (lv_at hl 9 rfl) ?_
      refine lv_iload hx hb dX8_laysRow_87 (lv_at hl 8 rfl) ?_
      refine lv_if_eq (tgt := 97) hx hb dX8_laysRow_89 (by decide) (fun _ => ?_) (fun c9 => absurd c_8 c9)
      refine lv_iload hx hb dX8_laysRow_97 (lv_at hl 6 rfl) ?_
      refine lv_iload hx hb dX8_laysRow_99 (lv_at hl 8 rfl) ?_
      refine lv_if_eq (tgt := 109) hx hb dX8_laysRow_101 (by decide) (fun _ => ?_) (fun c9 => absurd c_8 c9)
      refine lv_iload hx hb dX8_laysRow_109 (lv_at hl 0 rfl) ?_
      obtain ⟨t_9, ot_9, hf⟩ := tm_bS hf
      refine tm_cVV (As := [.int (st.2.2 12 (v1 + st.2.1).toNatClampNeg), .int v3, .int st.1, .int v5, .int x_6]) (rest := []) ⟨hx, hb, hml, hown, hts⟩ (tX8_puts l D cI cZ cR N q0 st.2.2 g0 (st.2.2 12 (v1 + st.2.1).toNatClampNeg) v3 st.1 v5 x_6 t_9 ot_9) (cwV 5 hts gX8_laysRow_X8_puts rfl rfl rfl hdwsV_X8_puts ⟨Nat.le_of_ble_eq_true rfl, Nat.le_of_ble_eq_true rfl⟩) hK hP hD hS hA [0, 1, 2, 3, 4, 5, 6, 7, 8, 9, 10, 11, 12, 13, 14, 15] (by decide) rfl rfl (ci := 8) rfl rfl rfl (fun _ => WX8 cI cZ cR q0 t_9 g0) (()) rfl rfl hl.1 rfl (Nat.le_of_ble_eq_true rfl) dX8_laysRow_111 ⟨Nat.zero_le _, Nat.zero_le _⟩ (fun _ _ H locs hP hD hS => ?_)
      refine lv_iload hx hb dX8_laysRow_114 (lv_at hl 9 rfl) ?_
      refine lv_iload hx hb dX8_laysRow_116 (lv_at hl 0 rfl) ?_
      refine lv_iadd hx hb dX8_laysRow_118 ?_
      refine lv_topi (fun x_10 ex_10 => ?_)
      have hf := tm_at ex_10 hf
      refine lv_istore (lv' := [(8, .int x_10), (10, .int x_6), (0, .ref (q0 0)), (1, .int v1), (2, .int v2), (3, .int v3), (4, .int v4), (5, .int v5), (6, .int v6), (7, .int v7), (9, .int st.2.1)]) hx hb dX8_laysRow_119 hl (by decide) rfl (fun ls hl => ?_)
      obtain ⟨x_11, ex_11⟩ : ∃ y : Int32, y = st.2.1 + 1 := ⟨_, rfl⟩
      have hf := tm_at ex_11 hf
      refine lv_iinc (v := x_11) (lv' := [(9, .int x_11), (8, .int x_10), (10, .int x_6), (0, .ref (q0 0)), (1, .int v1), (2, .int v2), (3, .int v3), (4, .int v4), (5, .int v5), (6, .int v6), (7, .int v7)]) hx hb dX8_laysRow_121 hl (k := 10) rfl (by rw [ex_11]; rfl) (by decide) rfl (fun ls hl => ?_)
      refine lv_goto (tgt := 39) hx hb dX8_laysRow_124 (by decide) ?_
      obtain rfl := Option.some.inj hf
      exact hk _ _ _ hP hD hS (lv_sub hl [3, 4, 5, 6, 7, 8, 9, 10, 1, 0] rfl)
    · have hf := tm_iF c_8 hf
      refine lv_iload hx hb dX8_laysRow_69 (lv_at hl 9 rfl) ?_
      refine lv_goto (tgt := 75) hx hb dX8_laysRow_71 (by decide) ?_
      refine lv_iload hx hb dX8_laysRow_75 (lv_at hl 8 rfl) ?_
      refine lv_if_eq (tgt := 85) hx hb dX8_laysRow_77 (by decide) (fun c9 => absurd c9 c_8) (fun _ => ?_)
      refine lv_iload hx hb dX8_laysRow_80 (lv_at hl 5 rfl) ?_
      refine lv_goto (tgt := 87) hx hb dX8_laysRow_82 (by decide) ?_
      refine lv_iload hx hb dX8_laysRow_87 (lv_at hl 8 rfl) ?_
      refine lv_if_eq (tgt := 97) hx hb dX8_laysRow_89 (by decide) (fun c9 => absurd c9 c_8) (fun _ => ?_)
      refine lv_iload hx hb dX8_laysRow_92 (lv_at hl 0 rfl) ?_
      refine lv_goto (tgt := 99) hx hb dX8_laysRow_94 (by decide) ?_
      refine lv_iload hx hb dX8_laysRow_99 (lv_at hl 8 rfl) ?_
      refine lv_if_eq (tgt := 109) hx hb dX8_laysRow_101 (by decide) (fun c9 => absurd c9 c_8) (fun _ => ?_)
      refine lv_iload hx hb dX8_laysRow_104 (lv_at hl 7 rfl) ?_
      refine lv_goto (tgt := 111) hx hb dX8_laysRow_106 (by decide) ?_
      obtain ⟨t_12, ot_12, hf⟩ := tm_bS hf
      refine tm_cVV (As := [.int (st.2.2 12 (v1 + st.2.1).toNatClampNeg), .int st.1, .int v4, .int x_6, .int v6]) (rest := []) ⟨hx, hb, hml, hown, hts⟩ (tX8_puts l D cI cZ cR N q0 st.2.2 g0 (st.2.2 12 (v1 + st.2.1).toNatClampNeg) st.1 v4 x_6 v6 t_12 ot_12) (cwV 5 hts gX8_laysRow_X8_puts rfl rfl rfl hdwsV_X8_puts ⟨Nat.le_of_ble_eq_true rfl, Nat.le_of_ble_eq_true rfl⟩) hK hP hD hS hA [0, 1, 2, 3, 4, 5, 6, 7, 8, 9, 10, 11, 12, 13, 14, 15] (by decide) rfl rfl (ci := 8) rfl rfl rfl (fun _ => WX8 cI cZ cR q0 t_12 g0) (()) rfl rfl hl.1 rfl (Nat.le_of_ble_eq_true rfl) dX8_laysRow_111 ⟨Nat.zero_le _, Nat.zero_le _⟩ (fun _ _ H locs hP hD hS => ?_)
      refine lv_iload hx hb dX8_laysRow_114 (lv_at hl 9 rfl) ?_
      refine lv_iload hx hb dX8_laysRow_116 (lv_at hl 0 rfl) ?_
      refine lv_iadd hx hb dX8_laysRow_118 ?_
      refine lv_topi (fun x_13 ex_13 => ?_)
      have hf := tm_at ex_13 hf
      refine lv_istore (lv' := [(8, .int x_13), (10, .int x_6), (0, .ref (q0 0)), (1, .int v1), (2, .int v2), (3, .int v3), (4, .int v4), (5, .int v5), (6, .int v6), (7, .int v7), (9, .int st.2.1)]) hx hb dX8_laysRow_119 hl (by decide) rfl (fun ls hl => ?_)
      obtain ⟨x_14, ex_14⟩ : ∃ y : Int32, y = st.2.1 + 1 := ⟨_, rfl⟩
      have hf := tm_at ex_14 hf
      refine lv_iinc (v := x_14) (lv' := [(9, .int x_14), (8, .int x_13), (10, .int x_6), (0, .ref (q0 0)), (1, .int v1), (2, .int v2), (3, .int v3), (4, .int v4), (5, .int v5), (6, .int v6), (7, .int v7)]) hx hb dX8_laysRow_121 hl (k := 10) rfl (by rw [ex_14]; rfl) (by decide) rfl (fun ls hl => ?_)
      refine lv_goto (tgt := 39) hx hb dX8_laysRow_124 (by decide) ?_
      obtain rfl := Option.some.inj hf
      exact hk _ _ _ hP hD hS (lv_sub hl [3, 4, 5, 6, 7, 8, 9, 10, 1, 0] rfl)
set_option maxHeartbeats 4000000 in
set_option maxRecDepth 100000 in
theorem tX8_laysRow (l : Launch) (D : va_G) (cI cZ cR : ClassId) (N : Nat) (q0 : Nat → Nat) (d0 : tm_M) (g0 : Int64) (p1 : Int32) (p2 : Int32) (p3 : Int32) (p4 : Int32) (p5 : Int32) (p6 : Int32) (p7 : Int32) (z0 : tm_M) (hf : fX8_laysRow N d0 g0 p1 p2 p3 p4 p5 p6 p7 = some z0) : tm_CV l D (tm_ty cI cZ cR) yX8_laysRow wsX8_laysRow rmX8_laysRow [.ref (q0 0), .int p1, .int p2, .int p3, .int p4, .int p5, .int p6, .int p7] (WX8 cI cZ cR q0 d0 g0) (WX8 cI cZ cR q0 z0 g0) := by
  refine tm_mkV (cc := cX8_laysRow) (maxL := 11) (by decide) rfl (Nat.le_of_ble_eq_true rfl) ?_
  intro p e s m below meth c A ls Q C hP hD hS hl hend
  have C : tm_Cx p s m c [.ref (q0 0), .int p1, .int p2, .int p3, .int p4, .int p5, .int p6, .int p7].toArray cX8_laysRow 11 RX8 wsX8_laysRow D (tm_ty cI cZ cR) A s.heap := C
  obtain ⟨hx, hb, hml, hown, hts, hK, hA⟩ := id C
  have hl : lv_has ls 11 [(0, .ref (q0 0)), (1, .int p1), (2, .int p2), (3, .int p3), (4, .int p4), (5, .int p5), (6, .int p6), (7, .int p7)] := hl
  unfold fX8_laysRow at hf
  refine lv_aload_n hx hb dX8_laysRow_0 rfl (lv_at hl 0 rfl) ?_
  refine lv_iload_n hx hb dX8_laysRow_1 rfl (lv_at hl 1 rfl) ?_
  refine lv_iload_n hx hb dX8_laysRow_2 rfl (lv_at hl 2 rfl) ?_
  obtain ⟨t_1, ot_1, hf⟩ := tm_bS hf
  refine tm_cVV (As := [.int p1, .int p2]) (rest := []) ⟨hx, hb, hml, hown, hts⟩ (tX8_laysSizes l D cI cZ cR N q0 d0 g0 p1 p2 t_1 ot_1) (cwV 2 hts gX8_laysRow_X8_laysSizes rfl rfl rfl hdwsV_X8_laysSizes ⟨Nat.le_of_ble_eq_true rfl, Nat.le_of_ble_eq_true rfl⟩) hK hP hD hS hA [0, 1, 2, 3, 4, 5, 6, 7, 8, 9, 10, 11, 12, 13, 14, 15] (by decide) rfl rfl (ci := 8) rfl rfl rfl (fun _ => WX8 cI cZ cR q0 t_1 g0) (()) rfl rfl hl.1 rfl (Nat.le_of_ble_eq_true rfl) dX8_laysRow_3 ⟨Nat.zero_le _, Nat.zero_le _⟩ (fun _ _ H locs hP hD hS => ?_)
  refine lv_aload_n hx hb dX8_laysRow_6 rfl (lv_at hl 0 rfl) ?_
  refine lv_iload hx hb dX8_laysRow_7 (lv_at hl 7 rfl) ?_
  refine lv_if_eq (tgt := 17) hx hb dX8_laysRow_9 (by decide) (fun c_2 => ?_) (fun c_2 => ?_)
  · have hf := tm_iT c_2 hf
    refine lv_iload hx hb dX8_laysRow_17 (lv_at hl 6 rfl) ?_
    refine lv_iload_n hx hb dX8_laysRow_19 rfl (lv_at hl 2 rfl) ?_
    obtain ⟨t_3, ot_3, hf⟩ := tm_bS hf
    refine tm_cVV (As := [.int p6, .int p2]) (rest := []) ⟨hx, hb, hml, hown, hts⟩ (tX8_parts l D cI cZ cR N q0 t_1 g0 p6 p2 t_3 ot_3) (cwV 2 hts gX8_laysRow_X8_parts rfl rfl rfl hdwsV_X8_parts ⟨Nat.le_of_ble_eq_true rfl, Nat.le_of_ble_eq_true rfl⟩) hK hP hD hS hA [0, 1, 2, 3, 4, 5, 6, 7, 8, 9, 10, 11, 12, 13, 14, 15] (by decide) rfl rfl (ci := 8) rfl rfl rfl (fun _ => WX8 cI cZ cR q0 t_3 g0) (()) rfl rfl hl.1 rfl (Nat.le_of_ble_eq_true rfl) dX8_laysRow_20 ⟨Nat.zero_le _, Nat.zero_le _⟩ (fun _ _ H locs hP hD hS => ?_)
    refine lv_iload hx hb dX8_laysRow_23 (lv_at hl 7 rfl) ?_
    refine lv_if_eq (tgt := 32) hx hb dX8_laysRow_25 (by decide) (fun _ => ?_) (fun c9 => absurd c_2 c9)
    refine lv_iload hx hb dX8_laysRow_32 (lv_at hl 4 rfl) ?_
    refine lv_istore (lv' := [(8, .int p4), (0, .ref (q0 0)), (1, .int p1), (2, .int p2), (3, .int p3), (4, .int p4), (5, .int p5), (6, .int p6), (7, .int p7)]) hx hb dX8_laysRow_34 hl (by decide) rfl (fun ls hl => ?_)
    refine lv_iconst (v := 0) hx hb dX8_laysRow_36 (by decide) ?_
    refine lv_istore (lv' := [(9, .int 0), (8, .int p4), (0, .ref (q0 0)), (1, .int p1), (2, .int p2), (3, .int p3), (4, .int p4), (5, .int p5), (6, .int p6), (7, .int p7)]) hx hb dX8_laysRow_37 hl (by decide) rfl (fun ls hl => ?_)
    obtain ⟨t_15, ot_15, hf⟩ := tm_bS hf
    refine wX8_laysRow_39 l D cI cZ cR N q0 C g0 p1 p2 p3 p4 p5 p6 p7 _ _ _ ot_15 ?_ _ _ _ hP hD hS (lv_sub hl [2, 3, 4, 5, 6, 7, 8, 9, 1, 0] rfl)
    intro H locs ls hP hD hS hl
    obtain rfl := Option.some.inj hf
    exact hend _ _ _ _ hP hD hS dX8_laysRow_127
  · have hf := tm_iF c_2 hf
    refine lv_iload hx hb dX8_laysRow_12 (lv_at hl 5 rfl) ?_
    refine lv_goto (tgt := 19) hx hb dX8_laysRow_14 (by decide) ?_
    refine lv_iload_n hx hb dX8_laysRow_19 rfl (lv_at hl 2 rfl) ?_
    obtain ⟨t_16, ot_16, hf⟩ := tm_bS hf
    refine tm_cVV (As := [.int p5, .int p2]) (rest := []) ⟨hx, hb, hml, hown, hts⟩ (tX8_parts l D cI cZ cR N q0 t_1 g0 p5 p2 t_16 ot_16) (cwV 2 hts gX8_laysRow_X8_parts rfl rfl rfl hdwsV_X8_parts ⟨Nat.le_of_ble_eq_true rfl, Nat.le_of_ble_eq_true rfl⟩) hK hP hD hS hA [0, 1, 2, 3, 4, 5, 6, 7, 8, 9, 10, 11, 12, 13, 14, 15] (by decide) rfl rfl (ci := 8) rfl rfl rfl (fun _ => WX8 cI cZ cR q0 t_16 g0) (()) rfl rfl hl.1 rfl (Nat.le_of_ble_eq_true rfl) dX8_laysRow_20 ⟨Nat.zero_le _, Nat.zero_le _⟩ (fun _ _ H locs hP hD hS => ?_)
    refine lv_iload hx hb dX8_laysRow_23 (lv_at hl 7 rfl) ?_
    refine lv_if_eq (tgt := 32) hx hb dX8_laysRow_25 (by decide) (fun c9 => absurd c9 c_2) (fun _ => ?_)
    refine lv_iload_n hx hb dX8_laysRow_28 rfl (lv_at hl 3 rfl) ?_
    refine lv_goto (tgt := 34) hx hb dX8_laysRow_29 (by decide) ?_
    refine lv_istore (lv' := [(8, .int p3), (0, .ref (q0 0)), (1, .int p1), (2, .int p2), (3, .int p3), (4, .int p4), (5, .int p5), (6, .int p6), (7, .int p7)]) hx hb dX8_laysRow_34 hl (by decide) rfl (fun ls hl => ?_)
    refine lv_iconst (v := 0) hx hb dX8_laysRow_36 (by decide) ?_
    refine lv_istore (lv' := [(9, .int 0), (8, .int p3), (0, .ref (q0 0)), (1, .int p1), (2, .int p2), (3, .int p3), (4, .int p4), (5, .int p5), (6, .int p6), (7, .int p7)]) hx hb dX8_laysRow_37 hl (by decide) rfl (fun ls hl => ?_)
    obtain ⟨t_17, ot_17, hf⟩ := tm_bS hf
    refine wX8_laysRow_39 l D cI cZ cR N q0 C g0 p1 p2 p3 p4 p5 p6 p7 _ _ _ ot_17 ?_ _ _ _ hP hD hS (lv_sub hl [2, 3, 4, 5, 6, 7, 8, 9, 1, 0] rfl)
    intro H locs ls hP hD hS hl
    obtain rfl := Option.some.inj hf
    exact hend _ _ _ _ hP hD hS dX8_laysRow_127
set_option maxHeartbeats 4000000 in
set_option maxRecDepth 100000 in
theorem tX8_aspect (l : Launch) (D : va_G) (cI cZ cR : ClassId) (N : Nat) (q0 : Nat → Nat) (d0 : tm_M) (g0 : Int64) (p1 : Int32) (p2 : Int32) (p3 : Int32) (p4 : UInt32) (p5 : Int32) (r0 : UInt32) (hf : fX8_aspect N d0 g0 p1 p2 p3 p4 p5 = some r0) : tm_CF l D (tm_ty cI cZ cR) yX8_aspect wsX8_aspect rmX8_aspect [.ref (q0 0), .int p1, .int p2, .int p3, .float p4, .int p5] (WX8 cI cZ cR q0 d0 g0) r0 (WX8 cI cZ cR q0 d0 g0) := by
  refine tm_mkF (cc := cX8_aspect) (maxL := 10) (by decide) rfl (Nat.le_of_ble_eq_true rfl) ?_
  intro p e s m below meth c A ls Q C hP hD hS hl hend
  have C : tm_Cx p s m c [.ref (q0 0), .int p1, .int p2, .int p3, .float p4, .int p5].toArray cX8_aspect 10 RX8 wsX8_aspect D (tm_ty cI cZ cR) A s.heap := C
  obtain ⟨hx, hb, hml, hown, hts, hK, hA⟩ := id C
  have hl : lv_has ls 10 [(0, .ref (q0 0)), (1, .int p1), (2, .int p2), (3, .int p3), (4, .float p4), (5, .int p5)] := hl
  unfold fX8_aspect at hf
  refine lv_aload_n hx hb dX8_aspect_0 rfl (lv_at hl 0 rfl) ?_
  refine lv_iload_n hx hb dX8_aspect_1 rfl (lv_at hl 2 rfl) ?_
  refine lv_iload_n hx hb dX8_aspect_2 rfl (lv_at hl 3 rfl) ?_
  obtain ⟨t_1, ot_1, hf⟩ := tm_bS hf
  refine tm_cVI (As := [.int p2, .int p3]) (rest := []) ⟨hx, hb, hml, hown, hts⟩ (tX8_sumOf l D cI cZ cR N q0 d0 g0 p2 p3 t_1 ot_1) (cwV 2 hts gX8_aspect_X8_sumOf rfl rfl rfl hdwsV_X8_sumOf ⟨Nat.le_of_ble_eq_true rfl, Nat.le_of_ble_eq_true rfl⟩) hK hP hD hS hA [0, 1, 2, 3, 4, 5, 6, 7, 8, 9, 10, 11, 12, 13, 14, 15] (by decide) rfl rfl (ci := 8) rfl rfl rfl (fun _ => WX8 cI cZ cR q0 d0 g0) (()) rfl rfl hl.1 rfl (Nat.le_of_ble_eq_true rfl) dX8_aspect_3 ⟨Nat.zero_le _, Nat.zero_le _⟩ (fun _ _ H locs hP hD hS => ?_)
  refine lv_i2f hx hb dX8_aspect_6 ?_
  refine lv_fload hx hb dX8_aspect_7 (lv_at hl 4 rfl) ?_
  obtain ⟨h_2, hf⟩ := tm_gS hf
  refine lv_fmul hx hb dX8_aspect_9 (tm_nn_n h_2) ?_
  refine lv_iload hx hb dX8_aspect_10 (lv_at hl 5 rfl) ?_
  refine lv_i2f hx hb dX8_aspect_12 ?_
  obtain ⟨h_3, hf⟩ := tm_gS hf
  refine lv_fdiv hx hb dX8_aspect_13 (tm_nn_n h_3) ?_
  refine lv_topf (fun x_4 ex_4 => ?_)
  have hf := tm_at ex_4 hf
  refine lv_fstore (lv' := [(6, .float x_4), (0, .ref (q0 0)), (1, .int p1), (2, .int p2), (3, .int p3), (4, .float p4), (5, .int p5)]) hx hb dX8_aspect_14 hl (by decide) rfl (fun ls hl => ?_)
  refine lv_aload_n hx hb dX8_aspect_16 rfl (lv_at hl 1 rfl) ?_
  refine va_get (D := D) (ci := 8) (v := .ref (q0 11)) (C := RX8) (T := TX8) (N := 18) hx hb hts uX8_aspect_X8 hown hK hP 0 rfl rfl 11 (by decide) (hts _ kX8_aspect_f41) (fun _ h9 => h9) rfl dX8_aspect_17 ?_
  refine lv_iload_n hx hb dX8_aspect_20 rfl (lv_at hl 2 rfl) ?_
  obtain ⟨h_5, hf⟩ := tm_gS hf
  refine va_iald hx hb hK hP 11 0 rfl rfl (tm_inb_in h_5) dX8_aspect_21 ?_
  refine lv_i2f hx hb dX8_aspect_22 ?_
  refine lv_fload hx hb dX8_aspect_23 (lv_at hl 5 rfl) ?_
  obtain ⟨h_6, hf⟩ := tm_gS hf
  refine lv_fmul hx hb dX8_aspect_25 (tm_nn_n h_6) ?_
  refine lv_fload hx hb dX8_aspect_26 (lv_at hl 0 rfl) ?_
  obtain ⟨h_7, hf⟩ := tm_gS hf
  refine lv_fdiv hx hb dX8_aspect_28 (tm_nn_n h_7) ?_
  refine lv_topf (fun x_8 ex_8 => ?_)
  have hf := tm_at ex_8 hf
  refine lv_fstore (lv' := [(7, .float x_8), (6, .float x_4), (0, .ref (q0 0)), (1, .int p1), (2, .int p2), (3, .int p3), (4, .float p4), (5, .int p5)]) hx hb dX8_aspect_29 hl (by decide) rfl (fun ls hl => ?_)
  refine lv_fload hx hb dX8_aspect_31 (lv_at hl 0 rfl) ?_
  refine lv_fload hx hb dX8_aspect_33 (lv_at hl 1 rfl) ?_
  obtain ⟨h_9, hf⟩ := tm_gS hf
  refine lv_fdiv hx hb dX8_aspect_35 (tm_nn_n h_9) ?_
  refine lv_topf (fun x_10 ex_10 => ?_)
  have hf := tm_at ex_10 hf
  refine lv_fstore (lv' := [(8, .float x_10), (7, .float x_8), (6, .float x_4), (0, .ref (q0 0)), (1, .int p1), (2, .int p2), (3, .int p3), (4, .float p4), (5, .int p5)]) hx hb dX8_aspect_36 hl (by decide) rfl (fun ls hl => ?_)
  refine lv_fload hx hb dX8_aspect_38 (lv_at hl 2 rfl) ?_
  refine lv_fload hx hb dX8_aspect_40 (lv_at hl 1 rfl) ?_
  obtain ⟨h_11, hf⟩ := tm_gS hf
  refine lv_fdiv hx hb dX8_aspect_42 (tm_nn_n h_11) ?_
  refine lv_topf (fun x_12 ex_12 => ?_)
  have hf := tm_at ex_12 hf
  refine lv_fstore (lv' := [(9, .float x_12), (8, .float x_10), (7, .float x_8), (6, .float x_4), (0, .ref (q0 0)), (1, .int p1), (2, .int p2), (3, .int p3), (4, .float p4), (5, .int p5)]) hx hb dX8_aspect_43 hl (by decide) rfl (fun ls hl => ?_)
  refine lv_fload hx hb dX8_aspect_45 (lv_at hl 1 rfl) ?_
  refine lv_fload hx hb dX8_aspect_47 (lv_at hl 0 rfl) ?_
  refine lv_fcmp hx hb dX8_aspect_49 ?_
  refine lv_if_le (tgt := 58) hx hb dX8_aspect_50 (by decide) (fun c_13 => ?_) (fun c_13 => ?_)
  · have hf := tm_iT c_13 hf
    refine lv_fload hx hb dX8_aspect_58 (lv_at hl 0 rfl) ?_
    obtain rfl := Option.some.inj hf
    exact hend _ _ _ _ hP hD hS dX8_aspect_60
  · have hf := tm_iF c_13 hf
    refine lv_fload hx hb dX8_aspect_53 (lv_at hl 1 rfl) ?_
    refine lv_goto (tgt := 60) hx hb dX8_aspect_55 (by decide) ?_
    obtain rfl := Option.some.inj hf
    exact hend _ _ _ _ hP hD hS dX8_aspect_60
set_option maxHeartbeats 4000000 in
set_option maxRecDepth 100000 in
theorem wX8_average_6 (l : Launch) (D : va_G) (cI cZ cR : ClassId) (N : Nat) (q0 : Nat → Nat) {p : Program} {e : Env} {s : State} {m : MethodId} {args : Array Value} {below : List Frame} {meth : Method} {c : Code} {A : Nat → Prop} {H0 : Heap} {Q : State → Prop} (C : tm_Cx p s m c args cX8_average 7 RX8 wsX8_average D (tm_ty cI cZ cR) A H0) (d0 : tm_M) (g0 : Int64) (v1 : Int32) (v2 : Int32) (v3 : UInt32) (v4 : Int32) : ∀ (n : Nat) (st : UInt32 × Int32) (o : (UInt32 × Int32)), tm_whl (bX8_average_6 N d0 g0 v1 v2 v3 v4) n st = some o → (fun (o : UInt32 × Int32) => ∀ (H : Heap) (locs : List Loc) (ls : Array Slot), va_P D vwCl (WX8 cI cZ cR q0 d0 g0) H → va_D A (WX8 cI cZ cR q0 d0 g0) → va_S A H0 H locs → lv_has ls 7 [(2, .int v2), (5, .float o.1)] → W p l e rmX8_average s m args below meth c H locs 0 0 Q (F0 m 41 ls [])) o → (fun (st : UInt32 × Int32) => ∀ (H : Heap) (locs : List Loc) (ls : Array Slot), va_P D vwCl (WX8 cI cZ cR q0 d0 g0) H → va_D A (WX8 cI cZ cR q0 d0 g0) → va_S A H0 H locs → lv_has ls 7 [(0, .ref (q0 0)), (1, .int v1), (2, .int v2), (3, .float v3), (4, .int v4), (5, .float st.1), (6, .int st.2)] → W p l e rmX8_average s m args below meth c H locs 0 0 Q (F0 m 6 ls [])) st := by
  obtain ⟨hx, hb, hml, hown, hts, hK, hA⟩ := id C
  refine tm_whl_W (Wh := fun (st : UInt32 × Int32) => ∀ (H : Heap) (locs : List Loc) (ls : Array Slot), va_P D vwCl (WX8 cI cZ cR q0 d0 g0) H → va_D A (WX8 cI cZ cR q0 d0 g0) → va_S A H0 H locs → lv_has ls 7 [(0, .ref (q0 0)), (1, .int v1), (2, .int v2), (3, .float v3), (4, .int v4), (5, .float st.1), (6, .int st.2)] → W p l e rmX8_average s m args below meth c H locs 0 0 Q (F0 m 6 ls [])) (Wx := fun (o : UInt32 × Int32) => ∀ (H : Heap) (locs : List Loc) (ls : Array Slot), va_P D vwCl (WX8 cI cZ cR q0 d0 g0) H → va_D A (WX8 cI cZ cR q0 d0 g0) → va_S A H0 H locs → lv_has ls 7 [(2, .int v2), (5, .float o.1)] → W p l e rmX8_average s m args below meth c H locs 0 0 Q (F0 m 41 ls [])) ?_
  intro st r hf hk H locs ls hP hD hS hl
  unfold bX8_average_6 at hf
  refine lv_iload hx hb dX8_average_6 (lv_at hl 6 rfl) ?_
  refine lv_iload_n hx hb dX8_average_8 rfl (lv_at hl 2 rfl) ?_
  refine lv_icmp_ge (tgt := 41) hx hb dX8_average_9 (by decide) (fun c_1 => ?_) (fun c_1 => ?_)
  · have hf := tm_iT c_1 hf
    obtain rfl := Option.some.inj hf
    exact hk _ _ _ hP hD hS (lv_sub hl [2, 5] rfl)
  · have hf := tm_iF c_1 hf
    refine lv_fload hx hb dX8_average_12 (lv_at hl 5 rfl) ?_
    refine lv_aload_n hx hb dX8_average_14 rfl (lv_at hl 0 rfl) ?_
    refine lv_aload_n hx hb dX8_average_15 rfl (lv_at hl 0 rfl) ?_
    refine va_get (D := D) (ci := 8) (v := .ref (q0 12)) (C := RX8) (T := TX8) (N := 18) hx hb hts uX8_average_X8 hown hK hP 0 rfl rfl 12 (by decide) (hts _ kX8_average_f44) (fun _ h9 => h9) rfl dX8_average_16 ?_
    refine lv_iload_n hx hb dX8_average_19 rfl (lv_at hl 1 rfl) ?_
    refine lv_iload hx hb dX8_average_20 (lv_at hl 6 rfl) ?_
    refine lv_iadd hx hb dX8_average_22 ?_
    obtain ⟨h_2, hf⟩ := tm_gS hf
    refine va_iald hx hb hK hP 12 0 rfl rfl (tm_inb_in h_2) dX8_average_23 ?_
    refine lv_iload_n hx hb dX8_average_24 rfl (lv_at hl 1 rfl) ?_
    refine lv_iload_n hx hb dX8_average_25 rfl (lv_at hl 2 rfl) ?_
    refine lv_fload_n hx hb dX8_average_26 rfl (lv_at hl 3 rfl) ?_
    refine lv_iload hx hb dX8_average_27 (lv_at hl 4 rfl) ?_
    obtain ⟨t_3, ot_3, hf⟩ := tm_bS hf
    refine tm_cVF (As := [.int (d0 12 (v1 + st.2).toNatClampNeg), .int v1, .int v2, .float v3, .int v4]) (rest := [.float st.1]) ⟨hx, hb, hml, hown, hts⟩ (tX8_aspect l D cI cZ cR N q0 d0 g0 (d0 12 (v1 + st.2).toNatClampNeg) v1 v2 v3 v4 t_3 ot_3) (cwV 5 hts gX8_average_X8_aspect rfl rfl rfl hdwsV_X8_aspect ⟨Nat.le_of_ble_eq_true rfl, Nat.le_of_ble_eq_true rfl⟩) hK hP hD hS hA [0, 1, 2, 3, 4, 5, 6, 7, 8, 9, 10, 11, 12, 13, 14, 15] (by decide) rfl rfl (ci := 8) rfl rfl rfl (fun _ => WX8 cI cZ cR q0 d0 g0) (()) rfl rfl hl.1 rfl (Nat.le_of_ble_eq_true rfl) dX8_average_29 ⟨Nat.zero_le _, Nat.zero_le _⟩ (fun _ _ H locs hP hD hS => ?_)
    obtain ⟨h_4, hf⟩ := tm_gS hf
    refine lv_fadd hx hb dX8_average_32 (tm_nn_n h_4) ?_
    refine lv_topf (fun x_5 ex_5 => ?_)
    have hf := tm_at ex_5 hf
    refine lv_fstore (lv' := [(5, .float x_5), (0, .ref (q0 0)), (1, .int v1), (2, .int v2), (3, .float v3), (4, .int v4), (6, .int st.2)]) hx hb dX8_average_33 hl (by decide) rfl (fun ls hl => ?_)
    obtain ⟨x_6, ex_6⟩ : ∃ y : Int32, y = st.2 + 1 := ⟨_, rfl⟩
    have hf := tm_at ex_6 hf
    refine lv_iinc (v := x_6) (lv' := [(6, .int x_6), (5, .float x_5), (0, .ref (q0 0)), (1, .int v1), (2, .int v2), (3, .float v3), (4, .int v4)]) hx hb dX8_average_35 hl (k := 6) rfl (by rw [ex_6]; rfl) (by decide) rfl (fun ls hl => ?_)
    refine lv_goto (tgt := 6) hx hb dX8_average_38 (by decide) ?_
    obtain rfl := Option.some.inj hf
    exact hk _ _ _ hP hD hS (lv_sub hl [2, 3, 4, 5, 6, 1, 0] rfl)
set_option maxHeartbeats 4000000 in
set_option maxRecDepth 100000 in
theorem tX8_average (l : Launch) (D : va_G) (cI cZ cR : ClassId) (N : Nat) (q0 : Nat → Nat) (d0 : tm_M) (g0 : Int64) (p1 : Int32) (p2 : Int32) (p3 : UInt32) (p4 : Int32) (r0 : UInt32) (hf : fX8_average N d0 g0 p1 p2 p3 p4 = some r0) : tm_CF l D (tm_ty cI cZ cR) yX8_average wsX8_average rmX8_average [.ref (q0 0), .int p1, .int p2, .float p3, .int p4] (WX8 cI cZ cR q0 d0 g0) r0 (WX8 cI cZ cR q0 d0 g0) := by
  refine tm_mkF (cc := cX8_average) (maxL := 7) (by decide) rfl (Nat.le_of_ble_eq_true rfl) ?_
  intro p e s m below meth c A ls Q C hP hD hS hl hend
  have C : tm_Cx p s m c [.ref (q0 0), .int p1, .int p2, .float p3, .int p4].toArray cX8_average 7 RX8 wsX8_average D (tm_ty cI cZ cR) A s.heap := C
  obtain ⟨hx, hb, hml, hown, hts, hK, hA⟩ := id C
  have hl : lv_has ls 7 [(0, .ref (q0 0)), (1, .int p1), (2, .int p2), (3, .float p3), (4, .int p4)] := hl
  unfold fX8_average at hf
  refine lv_fconst0 hx hb dX8_average_0 ?_
  refine lv_fstore (lv' := [(5, .float FP.fconst0), (0, .ref (q0 0)), (1, .int p1), (2, .int p2), (3, .float p3), (4, .int p4)]) hx hb dX8_average_1 hl (by decide) rfl (fun ls hl => ?_)
  refine lv_iconst (v := 0) hx hb dX8_average_3 (by decide) ?_
  refine lv_istore (lv' := [(6, .int 0), (5, .float FP.fconst0), (0, .ref (q0 0)), (1, .int p1), (2, .int p2), (3, .float p3), (4, .int p4)]) hx hb dX8_average_4 hl (by decide) rfl (fun ls hl => ?_)
  obtain ⟨t_7, ot_7, hf⟩ := tm_bS hf
  refine wX8_average_6 l D cI cZ cR N q0 C d0 g0 p1 p2 p3 p4 _ _ _ ot_7 ?_ _ _ _ hP hD hS (lv_sub hl [2, 3, 4, 5, 6, 1, 0] rfl)
  intro H locs ls hP hD hS hl
  refine lv_fload hx hb dX8_average_41 (lv_at hl 1 rfl) ?_
  refine lv_iload_n hx hb dX8_average_43 rfl (lv_at hl 0 rfl) ?_
  refine lv_i2f hx hb dX8_average_44 ?_
  obtain ⟨h_8, hf⟩ := tm_gS hf
  refine lv_fdiv hx hb dX8_average_45 (tm_nn_n h_8) ?_
  obtain rfl := Option.some.inj hf
  exact hend _ _ _ _ hP hD hS dX8_average_46
set_option maxHeartbeats 4000000 in
set_option maxRecDepth 100000 in
theorem wX8_worst_6 (l : Launch) (D : va_G) (cI cZ cR : ClassId) (N : Nat) (q0 : Nat → Nat) {p : Program} {e : Env} {s : State} {m : MethodId} {args : Array Value} {below : List Frame} {meth : Method} {c : Code} {A : Nat → Prop} {H0 : Heap} {Q : State → Prop} (C : tm_Cx p s m c args cX8_worst 8 RX8 wsX8_worst D (tm_ty cI cZ cR) A H0) (d0 : tm_M) (g0 : Int64) (v1 : Int32) (v2 : Int32) (v3 : UInt32) (v4 : Int32) : ∀ (n : Nat) (st : UInt32 × Int32) (o : (UInt32 × Int32)), tm_whl (bX8_worst_6 N d0 g0 v1 v2 v3 v4) n st = some o → (fun (o : UInt32 × Int32) => ∀ (H : Heap) (locs : List Loc) (ls : Array Slot), va_P D vwCl (WX8 cI cZ cR q0 d0 g0) H → va_D A (WX8 cI cZ cR q0 d0 g0) → va_S A H0 H locs → lv_has ls 8 [(5, .float o.1)] → W p l e rmX8_worst s m args below meth c H locs 0 0 Q (F0 m 55 ls [])) o → (fun (st : UInt32 × Int32) => ∀ (H : Heap) (locs : List Loc) (ls : Array Slot), va_P D vwCl (WX8 cI cZ cR q0 d0 g0) H → va_D A (WX8 cI cZ cR q0 d0 g0) → va_S A H0 H locs → lv_has ls 8 [(0, .ref (q0 0)), (1, .int v1), (2, .int v2), (3, .float v3), (4, .int v4), (5, .float st.1), (6, .int st.2)] → W p l e rmX8_worst s m args below meth c H locs 0 0 Q (F0 m 6 ls [])) st := by
  obtain ⟨hx, hb, hml, hown, hts, hK, hA⟩ := id C
  refine tm_whl_W (Wh := fun (st : UInt32 × Int32) => ∀ (H : Heap) (locs : List Loc) (ls : Array Slot), va_P D vwCl (WX8 cI cZ cR q0 d0 g0) H → va_D A (WX8 cI cZ cR q0 d0 g0) → va_S A H0 H locs → lv_has ls 8 [(0, .ref (q0 0)), (1, .int v1), (2, .int v2), (3, .float v3), (4, .int v4), (5, .float st.1), (6, .int st.2)] → W p l e rmX8_worst s m args below meth c H locs 0 0 Q (F0 m 6 ls [])) (Wx := fun (o : UInt32 × Int32) => ∀ (H : Heap) (locs : List Loc) (ls : Array Slot), va_P D vwCl (WX8 cI cZ cR q0 d0 g0) H → va_D A (WX8 cI cZ cR q0 d0 g0) → va_S A H0 H locs → lv_has ls 8 [(5, .float o.1)] → W p l e rmX8_worst s m args below meth c H locs 0 0 Q (F0 m 55 ls [])) ?_
  intro st r hf hk H locs ls hP hD hS hl
  unfold bX8_worst_6 at hf
  refine lv_iload hx hb dX8_worst_6 (lv_at hl 6 rfl) ?_
  refine lv_iload_n hx hb dX8_worst_8 rfl (lv_at hl 2 rfl) ?_
  refine lv_icmp_ge (tgt := 55) hx hb dX8_worst_9 (by decide) (fun c_1 => ?_) (fun c_1 => ?_)
  · have hf := tm_iT c_1 hf
    obtain rfl := Option.some.inj hf
    exact hk _ _ _ hP hD hS (lv_sub hl [5] rfl)
  · have hf := tm_iF c_1 hf
    refine lv_aload_n hx hb dX8_worst_12 rfl (lv_at hl 0 rfl) ?_
    refine lv_aload_n hx hb dX8_worst_13 rfl (lv_at hl 0 rfl) ?_
    refine va_get (D := D) (ci := 8) (v := .ref (q0 12)) (C := RX8) (T := TX8) (N := 18) hx hb hts uX8_worst_X8 hown hK hP 0 rfl rfl 12 (by decide) (hts _ kX8_worst_f44) (fun _ h9 => h9) rfl dX8_worst_14 ?_
    refine lv_iload_n hx hb dX8_worst_17 rfl (lv_at hl 1 rfl) ?_
    refine lv_iload hx hb dX8_worst_18 (lv_at hl 6 rfl) ?_
    refine lv_iadd hx hb dX8_worst_20 ?_
    obtain ⟨h_2, hf⟩ := tm_gS hf
    refine va_iald hx hb hK hP 12 0 rfl rfl (tm_inb_in h_2) dX8_worst_21 ?_
    refine lv_iload_n hx hb dX8_worst_22 rfl (lv_at hl 1 rfl) ?_
    refine lv_iload_n hx hb dX8_worst_23 rfl (lv_at hl 2 rfl) ?_
    refine lv_fload_n hx hb dX8_worst_24 rfl (lv_at hl 3 rfl) ?_
    refine lv_iload hx hb dX8_worst_25 (lv_at hl 4 rfl) ?_
    obtain ⟨t_3, ot_3, hf⟩ := tm_bS hf
    refine tm_cVF (As := [.int (d0 12 (v1 + st.2).toNatClampNeg), .int v1, .int v2, .float v3, .int v4]) (rest := []) ⟨hx, hb, hml, hown, hts⟩ (tX8_aspect l D cI cZ cR N q0 d0 g0 (d0 12 (v1 + st.2).toNatClampNeg) v1 v2 v3 v4 t_3 ot_3) (cwV 5 hts gX8_worst_X8_aspect rfl rfl rfl hdwsV_X8_aspect ⟨Nat.le_of_ble_eq_true rfl, Nat.le_of_ble_eq_true rfl⟩) hK hP hD hS hA [0, 1, 2, 3, 4, 5, 6, 7, 8, 9, 10, 11, 12, 13, 14, 15] (by decide) rfl rfl (ci := 8) rfl rfl rfl (fun _ => WX8 cI cZ cR q0 d0 g0) (()) rfl rfl hl.1 rfl (Nat.le_of_ble_eq_true rfl) dX8_worst_27 ⟨Nat.zero_le _, Nat.zero_le _⟩ (fun _ _ H locs hP hD hS => ?_)
    refine lv_fstore (lv' := [(7, .float t_3), (0, .ref (q0 0)), (1, .int v1), (2, .int v2), (3, .float v3), (4, .int v4), (5, .float st.1), (6, .int st.2)]) hx hb dX8_worst_30 hl (by decide) rfl (fun ls hl => ?_)
    refine lv_fload hx hb dX8_worst_32 (lv_at hl 0 rfl) ?_
    refine lv_fload hx hb dX8_worst_34 (lv_at hl 6 rfl) ?_
    refine lv_fcmp hx hb dX8_worst_36 ?_
    refine lv_if_le (tgt := 45) hx hb dX8_worst_37 (by decide) (fun c_4 => ?_) (fun c_4 => ?_)
    · have hf := tm_iT c_4 hf
      refine lv_fload hx hb dX8_worst_45 (lv_at hl 6 rfl) ?_
      refine lv_fstore (lv' := [(5, .float st.1), (7, .float t_3), (0, .ref (q0 0)), (1, .int v1), (2, .int v2), (3, .float v3), (4, .int v4), (6, .int st.2)]) hx hb dX8_worst_47 hl (by decide) rfl (fun ls hl => ?_)
      obtain ⟨x_5, ex_5⟩ : ∃ y : Int32, y = st.2 + 1 := ⟨_, rfl⟩
      have hf := tm_at ex_5 hf
      refine lv_iinc (v := x_5) (lv' := [(6, .int x_5), (5, .float st.1), (7, .float t_3), (0, .ref (q0 0)), (1, .int v1), (2, .int v2), (3, .float v3), (4, .int v4)]) hx hb dX8_worst_49 hl (k := 7) rfl (by rw [ex_5]; rfl) (by decide) rfl (fun ls hl => ?_)
      refine lv_goto (tgt := 6) hx hb dX8_worst_52 (by decide) ?_
      obtain rfl := Option.some.inj hf
      exact hk _ _ _ hP hD hS (lv_sub hl [3, 4, 5, 6, 7, 1, 0] rfl)
    · have hf := tm_iF c_4 hf
      refine lv_fload hx hb dX8_worst_40 (lv_at hl 0 rfl) ?_
      refine lv_goto (tgt := 47) hx hb dX8_worst_42 (by decide) ?_
      refine lv_fstore (lv' := [(5, .float t_3), (7, .float t_3), (0, .ref (q0 0)), (1, .int v1), (2, .int v2), (3, .float v3), (4, .int v4), (6, .int st.2)]) hx hb dX8_worst_47 hl (by decide) rfl (fun ls hl => ?_)
      obtain ⟨x_6, ex_6⟩ : ∃ y : Int32, y = st.2 + 1 := ⟨_, rfl⟩
      have hf := tm_at ex_6 hf
      refine lv_iinc (v := x_6) (lv' := [(6, .int x_6), (5, .float t_3), (7, .float t_3), (0, .ref (q0 0)), (1, .int v1), (2, .int v2), (3, .float v3), (4, .int v4)]) hx hb dX8_worst_49 hl (k := 7) rfl (by rw [ex_6]; rfl) (by decide) rfl (fun ls hl => ?_)
      refine lv_goto (tgt := 6) hx hb dX8_worst_52 (by decide) ?_
      obtain rfl := Option.some.inj hf
      exact hk _ _ _ hP hD hS (lv_sub hl [3, 4, 5, 6, 7, 1, 0] rfl)
set_option maxHeartbeats 4000000 in
set_option maxRecDepth 100000 in
theorem tX8_worst (l : Launch) (D : va_G) (cI cZ cR : ClassId) (N : Nat) (q0 : Nat → Nat) (d0 : tm_M) (g0 : Int64) (p1 : Int32) (p2 : Int32) (p3 : UInt32) (p4 : Int32) (r0 : UInt32) (hf : fX8_worst N d0 g0 p1 p2 p3 p4 = some r0) : tm_CF l D (tm_ty cI cZ cR) yX8_worst wsX8_worst rmX8_worst [.ref (q0 0), .int p1, .int p2, .float p3, .int p4] (WX8 cI cZ cR q0 d0 g0) r0 (WX8 cI cZ cR q0 d0 g0) := by
  refine tm_mkF (cc := cX8_worst) (maxL := 8) (by decide) rfl (Nat.le_of_ble_eq_true rfl) ?_
  intro p e s m below meth c A ls Q C hP hD hS hl hend
  have C : tm_Cx p s m c [.ref (q0 0), .int p1, .int p2, .float p3, .int p4].toArray cX8_worst 8 RX8 wsX8_worst D (tm_ty cI cZ cR) A s.heap := C
  obtain ⟨hx, hb, hml, hown, hts, hK, hA⟩ := id C
  have hl : lv_has ls 8 [(0, .ref (q0 0)), (1, .int p1), (2, .int p2), (3, .float p3), (4, .int p4)] := hl
  unfold fX8_worst at hf
  refine lv_fconst0 hx hb dX8_worst_0 ?_
  refine lv_fstore (lv' := [(5, .float FP.fconst0), (0, .ref (q0 0)), (1, .int p1), (2, .int p2), (3, .float p3), (4, .int p4)]) hx hb dX8_worst_1 hl (by decide) rfl (fun ls hl => ?_)
  refine lv_iconst (v := 0) hx hb dX8_worst_3 (by decide) ?_
  refine lv_istore (lv' := [(6, .int 0), (5, .float FP.fconst0), (0, .ref (q0 0)), (1, .int p1), (2, .int p2), (3, .float p3), (4, .int p4)]) hx hb dX8_worst_4 hl (by decide) rfl (fun ls hl => ?_)
  obtain ⟨t_7, ot_7, hf⟩ := tm_bS hf
  refine wX8_worst_6 l D cI cZ cR N q0 C d0 g0 p1 p2 p3 p4 _ _ _ ot_7 ?_ _ _ _ hP hD hS (lv_sub hl [2, 3, 4, 5, 6, 1, 0] rfl)
  intro H locs ls hP hD hS hl
  refine lv_fload hx hb dX8_worst_55 (lv_at hl 0 rfl) ?_
  obtain rfl := Option.some.inj hf
  exact hend _ _ _ _ hP hD hS dX8_worst_57
set_option maxHeartbeats 4000000 in
set_option maxRecDepth 100000 in
theorem wX8_laysStrips_24 (l : Launch) (D : va_G) (cI cZ cR : ClassId) (N : Nat) (q0 : Nat → Nat) {p : Program} {e : Env} {s : State} {m : MethodId} {args : Array Value} {below : List Frame} {meth : Method} {c : Code} {A : Nat → Prop} {H0 : Heap} {Q : State → Prop} (C : tm_Cx p s m c args cX8_laysStrips 10 RX8 wsX8_laysStrips D (tm_ty cI cZ cR) A H0) (g0 : Int64) (v1 : Int32) (v2 : Int32) (v3 : Int32) (v4 : Int32) (v6 : UInt32) : ∀ (n : Nat) (st : Int32 × Int32 × tm_M) (o : (Int32 × Int32 × tm_M)), tm_whl (bX8_laysStrips_24 N g0 v3 v6) n st = some o → (fun (o : Int32 × Int32 × tm_M) => ∀ (H : Heap) (locs : List Loc) (ls : Array Slot), va_P D vwCl (WX8 cI cZ cR q0 o.2.2 g0) H → va_D A (WX8 cI cZ cR q0 o.2.2 g0) → va_S A H0 H locs → lv_has ls 10 [(0, .ref (q0 0)), (1, .int v1), (2, .int v2), (3, .int v3), (4, .int v4), (7, .int o.1)] → W p l e rmX8_laysStrips s m args below meth c H locs 0 0 Q (F0 m 96 ls [])) o → (fun (st : Int32 × Int32 × tm_M) => ∀ (H : Heap) (locs : List Loc) (ls : Array Slot), va_P D vwCl (WX8 cI cZ cR q0 st.2.2 g0) H → va_D A (WX8 cI cZ cR q0 st.2.2 g0) → va_S A H0 H locs → lv_has ls 10 [(0, .ref (q0 0)), (1, .int v1), (2, .int v2), (3, .int v3), (4, .int v4), (6, .float v6), (7, .int st.1), (8, .int st.2.1)] → W p l e rmX8_laysStrips s m args below meth c H locs 0 0 Q (F0 m 24 ls [])) st := by
  obtain ⟨hx, hb, hml, hown, hts, hK, hA⟩ := id C
  refine tm_whl_W (Wh := fun (st : Int32 × Int32 × tm_M) => ∀ (H : Heap) (locs : List Loc) (ls : Array Slot), va_P D vwCl (WX8 cI cZ cR q0 st.2.2 g0) H → va_D A (WX8 cI cZ cR q0 st.2.2 g0) → va_S A H0 H locs → lv_has ls 10 [(0, .ref (q0 0)), (1, .int v1), (2, .int v2), (3, .int v3), (4, .int v4), (6, .float v6), (7, .int st.1), (8, .int st.2.1)] → W p l e rmX8_laysStrips s m args below meth c H locs 0 0 Q (F0 m 24 ls [])) (Wx := fun (o : Int32 × Int32 × tm_M) => ∀ (H : Heap) (locs : List Loc) (ls : Array Slot), va_P D vwCl (WX8 cI cZ cR q0 o.2.2 g0) H → va_D A (WX8 cI cZ cR q0 o.2.2 g0) → va_S A H0 H locs → lv_has ls 10 [(0, .ref (q0 0)), (1, .int v1), (2, .int v2), (3, .int v3), (4, .int v4), (7, .int o.1)] → W p l e rmX8_laysStrips s m args below meth c H locs 0 0 Q (F0 m 96 ls [])) ?_
  intro st r hf hk H locs ls hP hD hS hl
  unfold bX8_laysStrips_24 at hf
  refine lv_iload hx hb dX8_laysStrips_24 (lv_at hl 7 rfl) ?_
  refine lv_aload_n hx hb dX8_laysStrips_26 rfl (lv_at hl 0 rfl) ?_
  refine va_get (D := D) (ci := 8) (v := .int (st.2.2 0 13)) (C := RX8) (T := TX8) (N := 18) hx hb hts uX8_laysStrips_X8 hown hK hP 0 rfl rfl 13 (by decide) (hts _ kX8_laysStrips_f96) (fun _ h9 => h9) rfl dX8_laysStrips_27 ?_
  refine lv_icmp_ge (tgt := 96) hx hb dX8_laysStrips_30 (by decide) (fun c_4 => ?_) (fun c_4 => ?_)
  · have hf := tm_iT c_4 hf
    obtain rfl := Option.some.inj hf
    exact hk _ _ _ hP hD hS (lv_sub hl [0, 1, 2, 3, 4, 6] rfl)
  · have hf := tm_iF c_4 hf
    refine lv_aload_n hx hb dX8_laysStrips_33 rfl (lv_at hl 0 rfl) ?_
    refine va_get (D := D) (ci := 8) (v := .ref (q0 13)) (C := RX8) (T := TX8) (N := 18) hx hb hts uX8_laysStrips_X8 hown hK hP 0 rfl rfl 14 (by decide) (hts _ kX8_laysStrips_f47) (fun _ h9 => h9) rfl dX8_laysStrips_34 ?_
    refine lv_iload hx hb dX8_laysStrips_37 (lv_at hl 6 rfl) ?_
    refine lv_iconst (v := 1) hx hb dX8_laysStrips_39 (by decide) ?_
    refine lv_isub hx hb dX8_laysStrips_40 ?_
    obtain ⟨h_5, hf⟩ := tm_gS hf
    refine va_iald hx hb hK hP 13 0 rfl rfl (tm_inb_in h_5) dX8_laysStrips_41 ?_
    refine lv_topi (fun x_6 ex_6 => ?_)
    have hf := tm_at ex_6 hf
    refine lv_istore (lv' := [(9, .int x_6), (0, .ref (q0 0)), (1, .int v1), (2, .int v2), (3, .int v3), (4, .int v4), (6, .float v6), (7, .int st.1), (8, .int st.2.1)]) hx hb dX8_laysStrips_42 hl (by decide) rfl (fun ls hl => ?_)
    refine lv_aload_n hx hb dX8_laysStrips_44 rfl (lv_at hl 1 rfl) ?_
    refine lv_iload hx hb dX8_laysStrips_45 (lv_at hl 0 rfl) ?_
    refine lv_iload hx hb dX8_laysStrips_47 (lv_at hl 8 rfl) ?_
    refine lv_iconst (v := 1) hx hb dX8_laysStrips_49 (by decide) ?_
    refine lv_iadd hx hb dX8_laysStrips_50 ?_
    refine lv_iload hx hb dX8_laysStrips_51 (lv_at hl 0 rfl) ?_
    refine lv_isub hx hb dX8_laysStrips_53 ?_
    refine lv_fload hx hb dX8_laysStrips_54 (lv_at hl 6 rfl) ?_
    refine lv_iload_n hx hb dX8_laysStrips_56 rfl (lv_at hl 4 rfl) ?_
    obtain ⟨t_7, ot_7, hf⟩ := tm_bS hf
    refine tm_cVF (As := [.int x_6, .int ((st.2.1 + 1) - x_6), .float v6, .int v3]) (rest := []) ⟨hx, hb, hml, hown, hts⟩ (tX8_average l D cI cZ cR N q0 st.2.2 g0 x_6 ((st.2.1 + 1) - x_6) v6 v3 t_7 ot_7) (cwV 4 hts gX8_laysStrips_X8_average rfl rfl rfl hdwsV_X8_average ⟨Nat.le_of_ble_eq_true rfl, Nat.le_of_ble_eq_true rfl⟩) hK hP hD hS hA [0, 1, 2, 3, 4, 5, 6, 7, 8, 9, 10, 11, 12, 13, 14, 15] (by decide) rfl rfl (ci := 8) rfl rfl rfl (fun _ => WX8 cI cZ cR q0 st.2.2 g0) (()) rfl rfl hl.1 rfl (Nat.le_of_ble_eq_true rfl) dX8_laysStrips_57 ⟨Nat.zero_le _, Nat.zero_le _⟩ (fun _ _ H locs hP hD hS => ?_)
    refine lv_aload_n hx hb dX8_laysStrips_60 rfl (lv_at hl 1 rfl) ?_
    refine lv_iload hx hb dX8_laysStrips_61 (lv_at hl 0 rfl) ?_
    refine lv_iload hx hb dX8_laysStrips_63 (lv_at hl 8 rfl) ?_
    refine lv_iload hx hb dX8_laysStrips_65 (lv_at hl 0 rfl) ?_
    refine lv_isub hx hb dX8_laysStrips_67 ?_
    refine lv_fload hx hb dX8_laysStrips_68 (lv_at hl 6 rfl) ?_
    refine lv_iload_n hx hb dX8_laysStrips_70 rfl (lv_at hl 4 rfl) ?_
    obtain ⟨t_8, ot_8, hf⟩ := tm_bS hf
    refine tm_cVF (As := [.int x_6, .int (st.2.1 - x_6), .float v6, .int v3]) (rest := [.float t_7]) ⟨hx, hb, hml, hown, hts⟩ (tX8_average l D cI cZ cR N q0 st.2.2 g0 x_6 (st.2.1 - x_6) v6 v3 t_8 ot_8) (cwV 4 hts gX8_laysStrips_X8_average rfl rfl rfl hdwsV_X8_average ⟨Nat.le_of_ble_eq_true rfl, Nat.le_of_ble_eq_true rfl⟩) hK hP hD hS hA [0, 1, 2, 3, 4, 5, 6, 7, 8, 9, 10, 11, 12, 13, 14, 15] (by decide) rfl rfl (ci := 8) rfl rfl rfl (fun _ => WX8 cI cZ cR q0 st.2.2 g0) (()) rfl rfl hl.1 rfl (Nat.le_of_ble_eq_true rfl) dX8_laysStrips_71 ⟨Nat.zero_le _, Nat.zero_le _⟩ (fun _ _ H locs hP hD hS => ?_)
    refine lv_fcmp hx hb dX8_laysStrips_74 ?_
    refine lv_if_le (tgt := 90) hx hb dX8_laysStrips_75 (by decide) (fun c_9 => ?_) (fun c_9 => ?_)
    · have hf := tm_iT c_9 hf
      obtain ⟨x_10, ex_10⟩ : ∃ y : Int32, y = st.2.1 + 1 := ⟨_, rfl⟩
      have hf := tm_at ex_10 hf
      refine lv_iinc (v := x_10) (lv' := [(8, .int x_10), (9, .int x_6), (0, .ref (q0 0)), (1, .int v1), (2, .int v2), (3, .int v3), (4, .int v4), (6, .float v6), (7, .int st.1)]) hx hb dX8_laysStrips_90 hl (k := 8) rfl (by rw [ex_10]; rfl) (by decide) rfl (fun ls hl => ?_)
      refine lv_goto (tgt := 24) hx hb dX8_laysStrips_93 (by decide) ?_
      obtain rfl := Option.some.inj hf
      exact hk _ _ _ hP hD hS (lv_sub hl [2, 3, 4, 5, 6, 7, 8, 0] rfl)
    · have hf := tm_iF c_9 hf
      refine lv_aload_n hx hb dX8_laysStrips_78 rfl (lv_at hl 1 rfl) ?_
      refine va_get (D := D) (ci := 8) (v := .ref (q0 13)) (C := RX8) (T := TX8) (N := 18) hx hb hts uX8_laysStrips_X8 hown hK hP 0 rfl rfl 14 (by decide) (hts _ kX8_laysStrips_f47) (fun _ h9 => h9) rfl dX8_laysStrips_79 ?_
      refine lv_iload hx hb dX8_laysStrips_82 (lv_at hl 7 rfl) ?_
      refine lv_iload hx hb dX8_laysStrips_84 (lv_at hl 8 rfl) ?_
      obtain ⟨h_11, hf⟩ := tm_gS hf
      refine tm_iast hx hb hK hP hD hS 13 0 rfl rfl (tm_inb_in h_11) dX8_laysStrips_86 (fun z => WX8 cI cZ cR q0 z g0) (tm_upc st.2.2 13 (upd (st.2.2 13) st.1.toNatClampNeg st.2.1)) rfl (fun d0_12 ed0_12 H locs hP hD hS => ?_)
      have hf := tm_at ed0_12 hf
      obtain ⟨x_13, ex_13⟩ : ∃ y : Int32, y = st.1 + 1 := ⟨_, rfl⟩
      have hf := tm_at ex_13 hf
      refine lv_iinc (v := x_13) (lv' := [(7, .int x_13), (9, .int x_6), (0, .ref (q0 0)), (1, .int v1), (2, .int v2), (3, .int v3), (4, .int v4), (6, .float v6), (8, .int st.2.1)]) hx hb dX8_laysStrips_87 hl (k := 7) rfl (by rw [ex_13]; rfl) (by decide) rfl (fun ls hl => ?_)
      obtain ⟨x_14, ex_14⟩ : ∃ y : Int32, y = st.2.1 + 1 := ⟨_, rfl⟩
      have hf := tm_at ex_14 hf
      refine lv_iinc (v := x_14) (lv' := [(8, .int x_14), (7, .int x_13), (9, .int x_6), (0, .ref (q0 0)), (1, .int v1), (2, .int v2), (3, .int v3), (4, .int v4), (6, .float v6)]) hx hb dX8_laysStrips_90 hl (k := 8) rfl (by rw [ex_14]; rfl) (by decide) rfl (fun ls hl => ?_)
      refine lv_goto (tgt := 24) hx hb dX8_laysStrips_93 (by decide) ?_
      obtain rfl := Option.some.inj hf
      exact hk _ _ _ hP hD hS (lv_sub hl [3, 4, 5, 6, 7, 8, 1, 0] rfl)
set_option maxHeartbeats 4000000 in
set_option maxRecDepth 100000 in
theorem wX8_laysStrips_110 (l : Launch) (D : va_G) (cI cZ cR : ClassId) (N : Nat) (q0 : Nat → Nat) {p : Program} {e : Env} {s : State} {m : MethodId} {args : Array Value} {below : List Frame} {meth : Method} {c : Code} {A : Nat → Prop} {H0 : Heap} {Q : State → Prop} (C : tm_Cx p s m c args cX8_laysStrips 10 RX8 wsX8_laysStrips D (tm_ty cI cZ cR) A H0) (g0 : Int64) (v1 : Int32) (v2 : Int32) (v3 : Int32) (v4 : Int32) (v7 : Int32) : ∀ (n : Nat) (st : Int32 × tm_M) (o : (Int32 × tm_M)), tm_whl (bX8_laysStrips_110 N g0 v7) n st = some o → (fun (o : Int32 × tm_M) => ∀ (H : Heap) (locs : List Loc) (ls : Array Slot), va_P D vwCl (WX8 cI cZ cR q0 o.2 g0) H → va_D A (WX8 cI cZ cR q0 o.2 g0) → va_S A H0 H locs → lv_has ls 10 [(0, .ref (q0 0)), (1, .int v1), (2, .int v2), (3, .int v3), (4, .int v4), (7, .int v7)] → W p l e rmX8_laysStrips s m args below meth c H locs 0 0 Q (F0 m 158 ls [])) o → (fun (st : Int32 × tm_M) => ∀ (H : Heap) (locs : List Loc) (ls : Array Slot), va_P D vwCl (WX8 cI cZ cR q0 st.2 g0) H → va_D A (WX8 cI cZ cR q0 st.2 g0) → va_S A H0 H locs → lv_has ls 10 [(0, .ref (q0 0)), (1, .int v1), (2, .int v2), (3, .int v3), (4, .int v4), (7, .int v7), (8, .int st.1)] → W p l e rmX8_laysStrips s m args below meth c H locs 0 0 Q (F0 m 110 ls [])) st := by
  obtain ⟨hx, hb, hml, hown, hts, hK, hA⟩ := id C
  refine tm_whl_W (Wh := fun (st : Int32 × tm_M) => ∀ (H : Heap) (locs : List Loc) (ls : Array Slot), va_P D vwCl (WX8 cI cZ cR q0 st.2 g0) H → va_D A (WX8 cI cZ cR q0 st.2 g0) → va_S A H0 H locs → lv_has ls 10 [(0, .ref (q0 0)), (1, .int v1), (2, .int v2), (3, .int v3), (4, .int v4), (7, .int v7), (8, .int st.1)] → W p l e rmX8_laysStrips s m args below meth c H locs 0 0 Q (F0 m 110 ls [])) (Wx := fun (o : Int32 × tm_M) => ∀ (H : Heap) (locs : List Loc) (ls : Array Slot), va_P D vwCl (WX8 cI cZ cR q0 o.2 g0) H → va_D A (WX8 cI cZ cR q0 o.2 g0) → va_S A H0 H locs → lv_has ls 10 [(0, .ref (q0 0)), (1, .int v1), (2, .int v2), (3, .int v3), (4, .int v4), (7, .int v7)] → W p l e rmX8_laysStrips s m args below meth c H locs 0 0 Q (F0 m 158 ls [])) ?_
  intro st r hf hk H locs ls hP hD hS hl
  unfold bX8_laysStrips_110 at hf
  refine lv_iload hx hb dX8_laysStrips_110 (lv_at hl 6 rfl) ?_
  refine lv_iload hx hb dX8_laysStrips_112 (lv_at hl 5 rfl) ?_
  refine lv_icmp_ge (tgt := 158) hx hb dX8_laysStrips_114 (by decide) (fun c_18 => ?_) (fun c_18 => ?_)
  · have hf := tm_iT c_18 hf
    obtain rfl := Option.some.inj hf
    exact hk _ _ _ hP hD hS (lv_sub hl [0, 1, 2, 3, 4, 5] rfl)
  · have hf := tm_iF c_18 hf
    refine lv_aload_n hx hb dX8_laysStrips_117 rfl (lv_at hl 0 rfl) ?_
    refine va_get (D := D) (ci := 8) (v := .ref (q0 4)) (C := RX8) (T := TX8) (N := 18) hx hb hts uX8_laysStrips_X8 hown hK hP 0 rfl rfl 4 (by decide) (hts _ kX8_laysStrips_f19) (fun _ h9 => h9) rfl dX8_laysStrips_118 ?_
    refine lv_iload hx hb dX8_laysStrips_121 (lv_at hl 6 rfl) ?_
    refine lv_aload_n hx hb dX8_laysStrips_123 rfl (lv_at hl 0 rfl) ?_
    refine lv_aload_n hx hb dX8_laysStrips_124 rfl (lv_at hl 0 rfl) ?_
    refine va_get (D := D) (ci := 8) (v := .ref (q0 13)) (C := RX8) (T := TX8) (N := 18) hx hb hts uX8_laysStrips_X8 hown hK hP 0 rfl rfl 14 (by decide) (hts _ kX8_laysStrips_f47) (fun _ h9 => h9) rfl dX8_laysStrips_125 ?_
    refine lv_iload hx hb dX8_laysStrips_128 (lv_at hl 6 rfl) ?_
    obtain ⟨h_19, hf⟩ := tm_gS hf
    refine va_iald hx hb hK hP 13 0 rfl rfl (tm_inb_in h_19) dX8_laysStrips_130 ?_
    refine lv_aload_n hx hb dX8_laysStrips_131 rfl (lv_at hl 0 rfl) ?_
    refine va_get (D := D) (ci := 8) (v := .ref (q0 13)) (C := RX8) (T := TX8) (N := 18) hx hb hts uX8_laysStrips_X8 hown hK hP 0 rfl rfl 14 (by decide) (hts _ kX8_laysStrips_f47) (fun _ h9 => h9) rfl dX8_laysStrips_132 ?_
    refine lv_iload hx hb dX8_laysStrips_135 (lv_at hl 6 rfl) ?_
    refine lv_iconst (v := 1) hx hb dX8_laysStrips_137 (by decide) ?_
    refine lv_iadd hx hb dX8_laysStrips_138 ?_
    obtain ⟨h_20, hf⟩ := tm_gS hf
    refine va_iald hx hb hK hP 13 0 rfl rfl (tm_inb_in h_20) dX8_laysStrips_139 ?_
    refine lv_aload_n hx hb dX8_laysStrips_140 rfl (lv_at hl 0 rfl) ?_
    refine va_get (D := D) (ci := 8) (v := .ref (q0 13)) (C := RX8) (T := TX8) (N := 18) hx hb hts uX8_laysStrips_X8 hown hK hP 0 rfl rfl 14 (by decide) (hts _ kX8_laysStrips_f47) (fun _ h9 => h9) rfl dX8_laysStrips_141 ?_
    refine lv_iload hx hb dX8_laysStrips_144 (lv_at hl 6 rfl) ?_
    refine va_iald hx hb hK hP 13 0 rfl rfl (tm_inb_in h_19) dX8_laysStrips_146 ?_
    refine lv_isub hx hb dX8_laysStrips_147 ?_
    obtain ⟨t_21, ot_21, hf⟩ := tm_bS hf
    refine tm_cVI (As := [.int (st.2 13 st.1.toNatClampNeg), .int ((st.2 13 (st.1 + 1).toNatClampNeg) - (st.2 13 st.1.toNatClampNeg))]) (rest := [.int st.1, .ref (q0 4)]) ⟨hx, hb, hml, hown, hts⟩ (tX8_sumOf l D cI cZ cR N q0 st.2 g0 (st.2 13 st.1.toNatClampNeg) ((st.2 13 (st.1 + 1).toNatClampNeg) - (st.2 13 st.1.toNatClampNeg)) t_21 ot_21) (cwV 2 hts gX8_laysStrips_X8_sumOf rfl rfl rfl hdwsV_X8_sumOf ⟨Nat.le_of_ble_eq_true rfl, Nat.le_of_ble_eq_true rfl⟩) hK hP hD hS hA [0, 1, 2, 3, 4, 5, 6, 7, 8, 9, 10, 11, 12, 13, 14, 15] (by decide) rfl rfl (ci := 8) rfl rfl rfl (fun _ => WX8 cI cZ cR q0 st.2 g0) (()) rfl rfl hl.1 rfl (Nat.le_of_ble_eq_true rfl) dX8_laysStrips_148 ⟨Nat.zero_le _, Nat.zero_le _⟩ (fun _ _ H locs hP hD hS => ?_)
    obtain ⟨h_22, hf⟩ := tm_gS hf
    refine tm_iast hx hb hK hP hD hS 4 0 rfl rfl (tm_inb_in h_22) dX8_laysStrips_151 (fun z => WX8 cI cZ cR q0 z g0) (tm_upc st.2 4 (upd (st.2 4) st.1.toNatClampNeg t_21)) rfl (fun d0_23 ed0_23 H locs hP hD hS => ?_)
    have hf := tm_at ed0_23 hf
    obtain ⟨x_24, ex_24⟩ : ∃ y : Int32, y = st.1 + 1 := ⟨_, rfl⟩
    have hf := tm_at ex_24 hf
    refine lv_iinc (v := x_24) (lv' := [(8, .int x_24), (0, .ref (q0 0)), (1, .int v1), (2, .int v2), (3, .int v3), (4, .int v4), (7, .int v7)]) hx hb dX8_laysStrips_152 hl (k := 6) rfl (by rw [ex_24]; rfl) (by decide) rfl (fun ls hl => ?_)
    refine lv_goto (tgt := 110) hx hb dX8_laysStrips_155 (by decide) ?_
    obtain rfl := Option.some.inj hf
    exact hk _ _ _ hP hD hS (lv_sub hl [1, 2, 3, 4, 5, 6, 0] rfl)
set_option maxHeartbeats 4000000 in
set_option maxRecDepth 100000 in
theorem wX8_laysStrips_169 (l : Launch) (D : va_G) (cI cZ cR : ClassId) (N : Nat) (q0 : Nat → Nat) {p : Program} {e : Env} {s : State} {m : MethodId} {args : Array Value} {below : List Frame} {meth : Method} {c : Code} {A : Nat → Prop} {H0 : Heap} {Q : State → Prop} (C : tm_Cx p s m c args cX8_laysStrips 10 RX8 wsX8_laysStrips D (tm_ty cI cZ cR) A H0) (g0 : Int64) (v1 : Int32) (v2 : Int32) (v3 : Int32) (v7 : Int32) : ∀ (n : Nat) (st : Int32 × tm_M) (o : (Int32 × tm_M)), tm_whl (bX8_laysStrips_169 N v7) n st = some o → (fun (o : Int32 × tm_M) => ∀ (H : Heap) (locs : List Loc) (ls : Array Slot), va_P D vwCl (WX8 cI cZ cR q0 o.2 g0) H → va_D A (WX8 cI cZ cR q0 o.2 g0) → va_S A H0 H locs → lv_has ls 10 [(0, .ref (q0 0)), (1, .int v1), (2, .int v2), (3, .int v3), (7, .int v7)] → W p l e rmX8_laysStrips s m args below meth c H locs 0 0 Q (F0 m 196 ls [])) o → (fun (st : Int32 × tm_M) => ∀ (H : Heap) (locs : List Loc) (ls : Array Slot), va_P D vwCl (WX8 cI cZ cR q0 st.2 g0) H → va_D A (WX8 cI cZ cR q0 st.2 g0) → va_S A H0 H locs → lv_has ls 10 [(0, .ref (q0 0)), (1, .int v1), (2, .int v2), (3, .int v3), (7, .int v7), (8, .int st.1)] → W p l e rmX8_laysStrips s m args below meth c H locs 0 0 Q (F0 m 169 ls [])) st := by
  obtain ⟨hx, hb, hml, hown, hts, hK, hA⟩ := id C
  refine tm_whl_W (Wh := fun (st : Int32 × tm_M) => ∀ (H : Heap) (locs : List Loc) (ls : Array Slot), va_P D vwCl (WX8 cI cZ cR q0 st.2 g0) H → va_D A (WX8 cI cZ cR q0 st.2 g0) → va_S A H0 H locs → lv_has ls 10 [(0, .ref (q0 0)), (1, .int v1), (2, .int v2), (3, .int v3), (7, .int v7), (8, .int st.1)] → W p l e rmX8_laysStrips s m args below meth c H locs 0 0 Q (F0 m 169 ls [])) (Wx := fun (o : Int32 × tm_M) => ∀ (H : Heap) (locs : List Loc) (ls : Array Slot), va_P D vwCl (WX8 cI cZ cR q0 o.2 g0) H → va_D A (WX8 cI cZ cR q0 o.2 g0) → va_S A H0 H locs → lv_has ls 10 [(0, .ref (q0 0)), (1, .int v1), (2, .int v2), (3, .int v3), (7, .int v7)] → W p l e rmX8_laysStrips s m args below meth c H locs 0 0 Q (F0 m 196 ls [])) ?_
  intro st r hf hk H locs ls hP hD hS hl
  unfold bX8_laysStrips_169 at hf
  refine lv_iload hx hb dX8_laysStrips_169 (lv_at hl 5 rfl) ?_
  refine lv_iload hx hb dX8_laysStrips_171 (lv_at hl 4 rfl) ?_
  refine lv_icmp_ge (tgt := 196) hx hb dX8_laysStrips_173 (by decide) (fun c_27 => ?_) (fun c_27 => ?_)
  · have hf := tm_iT c_27 hf
    obtain rfl := Option.some.inj hf
    exact hk _ _ _ hP hD hS (lv_sub hl [0, 1, 2, 3, 4] rfl)
  · have hf := tm_iF c_27 hf
    refine lv_aload_n hx hb dX8_laysStrips_176 rfl (lv_at hl 0 rfl) ?_
    refine va_get (D := D) (ci := 8) (v := .ref (q0 14)) (C := RX8) (T := TX8) (N := 18) hx hb hts uX8_laysStrips_X8 hown hK hP 0 rfl rfl 15 (by decide) (hts _ kX8_laysStrips_f50) (fun _ h9 => h9) rfl dX8_laysStrips_177 ?_
    refine lv_iload hx hb dX8_laysStrips_180 (lv_at hl 5 rfl) ?_
    refine lv_aload_n hx hb dX8_laysStrips_182 rfl (lv_at hl 0 rfl) ?_
    refine va_get (D := D) (ci := 8) (v := .ref (q0 5)) (C := RX8) (T := TX8) (N := 18) hx hb hts uX8_laysStrips_X8 hown hK hP 0 rfl rfl 5 (by decide) (hts _ kX8_laysStrips_f22) (fun _ h9 => h9) rfl dX8_laysStrips_183 ?_
    refine lv_iload hx hb dX8_laysStrips_186 (lv_at hl 5 rfl) ?_
    obtain ⟨h_28, hf⟩ := tm_gS hf
    refine va_iald hx hb hK hP 5 0 rfl rfl (tm_inb_in h_28) dX8_laysStrips_188 ?_
    refine tm_iast hx hb hK hP hD hS 14 0 rfl rfl (tm_inb_in h_28) dX8_laysStrips_189 (fun z => WX8 cI cZ cR q0 z g0) (tm_upc st.2 14 (upd (st.2 14) st.1.toNatClampNeg (st.2 5 st.1.toNatClampNeg))) rfl (fun d0_29 ed0_29 H locs hP hD hS => ?_)
    have hf := tm_at ed0_29 hf
    obtain ⟨x_30, ex_30⟩ : ∃ y : Int32, y = st.1 + 1 := ⟨_, rfl⟩
    have hf := tm_at ex_30 hf
    refine lv_iinc (v := x_30) (lv' := [(8, .int x_30), (0, .ref (q0 0)), (1, .int v1), (2, .int v2), (3, .int v3), (7, .int v7)]) hx hb dX8_laysStrips_190 hl (k := 5) rfl (by rw [ex_30]; rfl) (by decide) rfl (fun ls hl => ?_)
    refine lv_goto (tgt := 169) hx hb dX8_laysStrips_193 (by decide) ?_
    obtain rfl := Option.some.inj hf
    exact hk _ _ _ hP hD hS (lv_sub hl [1, 2, 3, 4, 5, 0] rfl)
set_option maxHeartbeats 4000000 in
set_option maxRecDepth 100000 in
theorem wX8_laysStrips_202 (l : Launch) (D : va_G) (cI cZ cR : ClassId) (N : Nat) (q0 : Nat → Nat) {p : Program} {e : Env} {s : State} {m : MethodId} {args : Array Value} {below : List Frame} {meth : Method} {c : Code} {A : Nat → Prop} {H0 : Heap} {Q : State → Prop} (C : tm_Cx p s m c args cX8_laysStrips 10 RX8 wsX8_laysStrips D (tm_ty cI cZ cR) A H0) (g0 : Int64) (v1 : Int32) (v3 : Int32) (v7 : Int32) : ∀ (n : Nat) (st : Int32 × Int32 × tm_M) (o : (Int32 × Int32 × tm_M)), tm_whl (bX8_laysStrips_202 N g0 v1 v3 v7) n st = some o → (fun (o : Int32 × Int32 × tm_M) => ∀ (H : Heap) (locs : List Loc) (ls : Array Slot), va_P D vwCl (WX8 cI cZ cR q0 o.2.2 g0) H → va_D A (WX8 cI cZ cR q0 o.2.2 g0) → va_S A H0 H locs → lv_has ls 10 [] → W p l e rmX8_laysStrips s m args below meth c H locs 0 0 Q (F0 m 267 ls [])) o → (fun (st : Int32 × Int32 × tm_M) => ∀ (H : Heap) (locs : List Loc) (ls : Array Slot), va_P D vwCl (WX8 cI cZ cR q0 st.2.2 g0) H → va_D A (WX8 cI cZ cR q0 st.2.2 g0) → va_S A H0 H locs → lv_has ls 10 [(0, .ref (q0 0)), (1, .int v1), (3, .int v3), (7, .int v7), (8, .int st.1), (9, .int st.2.1)] → W p l e rmX8_laysStrips s m args below meth c H locs 0 0 Q (F0 m 202 ls [])) st := by
  obtain ⟨hx, hb, hml, hown, hts, hK, hA⟩ := id C
  refine tm_whl_W (Wh := fun (st : Int32 × Int32 × tm_M) => ∀ (H : Heap) (locs : List Loc) (ls : Array Slot), va_P D vwCl (WX8 cI cZ cR q0 st.2.2 g0) H → va_D A (WX8 cI cZ cR q0 st.2.2 g0) → va_S A H0 H locs → lv_has ls 10 [(0, .ref (q0 0)), (1, .int v1), (3, .int v3), (7, .int v7), (8, .int st.1), (9, .int st.2.1)] → W p l e rmX8_laysStrips s m args below meth c H locs 0 0 Q (F0 m 202 ls [])) (Wx := fun (o : Int32 × Int32 × tm_M) => ∀ (H : Heap) (locs : List Loc) (ls : Array Slot), va_P D vwCl (WX8 cI cZ cR q0 o.2.2 g0) H → va_D A (WX8 cI cZ cR q0 o.2.2 g0) → va_S A H0 H locs → lv_has ls 10 [] → W p l e rmX8_laysStrips s m args below meth c H locs 0 0 Q (F0 m 267 ls [])) ?_
  intro st r hf hk H locs ls hP hD hS hl
  unfold bX8_laysStrips_202 at hf
  refine lv_iload hx hb dX8_laysStrips_202 (lv_at hl 5 rfl) ?_
  refine lv_iload hx hb dX8_laysStrips_204 (lv_at hl 3 rfl) ?_
  refine lv_icmp_ge (tgt := 267) hx hb dX8_laysStrips_206 (by decide) (fun c_32 => ?_) (fun c_32 => ?_)
  · have hf := tm_iT c_32 hf
    obtain rfl := Option.some.inj hf
    exact hk _ _ _ hP hD hS (lv_sub hl [] rfl)
  · have hf := tm_iF c_32 hf
    refine lv_aload_n hx hb dX8_laysStrips_209 rfl (lv_at hl 0 rfl) ?_
    refine lv_aload_n hx hb dX8_laysStrips_210 rfl (lv_at hl 0 rfl) ?_
    refine va_get (D := D) (ci := 8) (v := .ref (q0 13)) (C := RX8) (T := TX8) (N := 18) hx hb hts uX8_laysStrips_X8 hown hK hP 0 rfl rfl 14 (by decide) (hts _ kX8_laysStrips_f47) (fun _ h9 => h9) rfl dX8_laysStrips_211 ?_
    refine lv_iload hx hb dX8_laysStrips_214 (lv_at hl 5 rfl) ?_
    obtain ⟨h_33, hf⟩ := tm_gS hf
    refine va_iald hx hb hK hP 13 0 rfl rfl (tm_inb_in h_33) dX8_laysStrips_216 ?_
    refine lv_aload_n hx hb dX8_laysStrips_217 rfl (lv_at hl 0 rfl) ?_
    refine va_get (D := D) (ci := 8) (v := .ref (q0 13)) (C := RX8) (T := TX8) (N := 18) hx hb hts uX8_laysStrips_X8 hown hK hP 0 rfl rfl 14 (by decide) (hts _ kX8_laysStrips_f47) (fun _ h9 => h9) rfl dX8_laysStrips_218 ?_
    refine lv_iload hx hb dX8_laysStrips_221 (lv_at hl 5 rfl) ?_
    refine lv_iconst (v := 1) hx hb dX8_laysStrips_223 (by decide) ?_
    refine lv_iadd hx hb dX8_laysStrips_224 ?_
    obtain ⟨h_34, hf⟩ := tm_gS hf
    refine va_iald hx hb hK hP 13 0 rfl rfl (tm_inb_in h_34) dX8_laysStrips_225 ?_
    refine lv_aload_n hx hb dX8_laysStrips_226 rfl (lv_at hl 0 rfl) ?_
    refine va_get (D := D) (ci := 8) (v := .ref (q0 13)) (C := RX8) (T := TX8) (N := 18) hx hb hts uX8_laysStrips_X8 hown hK hP 0 rfl rfl 14 (by decide) (hts _ kX8_laysStrips_f47) (fun _ h9 => h9) rfl dX8_laysStrips_227 ?_
    refine lv_iload hx hb dX8_laysStrips_230 (lv_at hl 5 rfl) ?_
    refine va_iald hx hb hK hP 13 0 rfl rfl (tm_inb_in h_33) dX8_laysStrips_232 ?_
    refine lv_isub hx hb dX8_laysStrips_233 ?_
    refine lv_iload_n hx hb dX8_laysStrips_234 rfl (lv_at hl 1 rfl) ?_
    refine lv_iload hx hb dX8_laysStrips_235 (lv_at hl 4 rfl) ?_
    refine lv_iload_n hx hb dX8_laysStrips_237 rfl (lv_at hl 2 rfl) ?_
    refine lv_aload_n hx hb dX8_laysStrips_238 rfl (lv_at hl 0 rfl) ?_
    refine va_get (D := D) (ci := 8) (v := .ref (q0 14)) (C := RX8) (T := TX8) (N := 18) hx hb hts uX8_laysStrips_X8 hown hK hP 0 rfl rfl 15 (by decide) (hts _ kX8_laysStrips_f50) (fun _ h9 => h9) rfl dX8_laysStrips_239 ?_
    refine lv_iload hx hb dX8_laysStrips_242 (lv_at hl 5 rfl) ?_
    obtain ⟨h_35, hf⟩ := tm_gS hf
    refine va_iald hx hb hK hP 14 0 rfl rfl (tm_inb_in h_35) dX8_laysStrips_244 ?_
    refine lv_iconst (v := 1) hx hb dX8_laysStrips_245 (by decide) ?_
    obtain ⟨t_36, ot_36, hf⟩ := tm_bS hf
    refine tm_cVV (As := [.int (st.2.2 13 st.2.1.toNatClampNeg), .int ((st.2.2 13 (st.2.1 + 1).toNatClampNeg) - (st.2.2 13 st.2.1.toNatClampNeg)), .int v1, .int st.1, .int v3, .int (st.2.2 14 st.2.1.toNatClampNeg), .int 1]) (rest := []) ⟨hx, hb, hml, hown, hts⟩ (tX8_laysRow l D cI cZ cR N q0 st.2.2 g0 (st.2.2 13 st.2.1.toNatClampNeg) ((st.2.2 13 (st.2.1 + 1).toNatClampNeg) - (st.2.2 13 st.2.1.toNatClampNeg)) v1 st.1 v3 (st.2.2 14 st.2.1.toNatClampNeg) (1 : Int32) t_36 ot_36) (cwV 7 hts gX8_laysStrips_X8_laysRow rfl rfl rfl hdwsV_X8_laysRow ⟨Nat.le_of_ble_eq_true rfl, Nat.le_of_ble_eq_true rfl⟩) hK hP hD hS hA [0, 1, 2, 3, 4, 5, 6, 7, 8, 9, 10, 11, 12, 13, 14, 15] (by decide) rfl rfl (ci := 8) rfl rfl rfl (fun _ => WX8 cI cZ cR q0 t_36 g0) (()) rfl rfl hl.1 rfl (Nat.le_of_ble_eq_true rfl) dX8_laysStrips_246 ⟨Nat.zero_le _, Nat.zero_le _⟩ (fun _ _ H locs hP hD hS => ?_)
    refine lv_iload hx hb dX8_laysStrips_249 (lv_at hl 4 rfl) ?_
    refine lv_aload_n hx hb dX8_laysStrips_251 rfl (lv_at hl 0 rfl) ?_
    refine va_get (D := D) (ci := 8) (v := .ref (q0 14)) (C := RX8) (T := TX8) (N := 18) hx hb hts uX8_laysStrips_X8 hown hK hP 0 rfl rfl 15 (by decide) (hts _ kX8_laysStrips_f50) (fun _ h9 => h9) rfl dX8_laysStrips_252 ?_
    refine lv_iload hx hb dX8_laysStrips_255 (lv_at hl 5 rfl) ?_
    refine va_iald hx hb hK hP 14 0 rfl rfl (tm_inb_in h_35) dX8_laysStrips_257 ?_
    refine lv_iadd hx hb dX8_laysStrips_258 ?_
    refine lv_topi (fun x_37 ex_37 => ?_)
    have hf := tm_at ex_37 hf
    refine lv_istore (lv' := [(8, .int x_37), (0, .ref (q0 0)), (1, .int v1), (3, .int v3), (7, .int v7), (9, .int st.2.1)]) hx hb dX8_laysStrips_259 hl (by decide) rfl (fun ls hl => ?_)
    obtain ⟨x_38, ex_38⟩ : ∃ y : Int32, y = st.2.1 + 1 := ⟨_, rfl⟩
    have hf := tm_at ex_38 hf
    refine lv_iinc (v := x_38) (lv' := [(9, .int x_38), (8, .int x_37), (0, .ref (q0 0)), (1, .int v1), (3, .int v3), (7, .int v7)]) hx hb dX8_laysStrips_261 hl (k := 5) rfl (by rw [ex_38]; rfl) (by decide) rfl (fun ls hl => ?_)
    refine lv_goto (tgt := 202) hx hb dX8_laysStrips_264 (by decide) ?_
    obtain rfl := Option.some.inj hf
    exact hk _ _ _ hP hD hS (lv_sub hl [2, 3, 4, 5, 1, 0] rfl)
set_option maxHeartbeats 4000000 in
set_option maxRecDepth 100000 in
theorem tX8_laysStrips (l : Launch) (D : va_G) (cI cZ cR : ClassId) (N : Nat) (q0 : Nat → Nat) (d0 : tm_M) (g0 : Int64) (p1 : Int32) (p2 : Int32) (p3 : Int32) (p4 : Int32) (p5 : Int32) (z0 : tm_M) (hf : fX8_laysStrips N d0 g0 p1 p2 p3 p4 p5 = some z0) : tm_CV l D (tm_ty cI cZ cR) yX8_laysStrips wsX8_laysStrips rmX8_laysStrips [.ref (q0 0), .int p1, .int p2, .int p3, .int p4, .int p5] (WX8 cI cZ cR q0 d0 g0) (WX8 cI cZ cR q0 z0 g0) := by
  refine tm_mkV (cc := cX8_laysStrips) (maxL := 10) (by decide) rfl (Nat.le_of_ble_eq_true rfl) ?_
  intro p e s m below meth c A ls Q C hP hD hS hl hend
  have C : tm_Cx p s m c [.ref (q0 0), .int p1, .int p2, .int p3, .int p4, .int p5].toArray cX8_laysStrips 10 RX8 wsX8_laysStrips D (tm_ty cI cZ cR) A s.heap := C
  obtain ⟨hx, hb, hml, hown, hts, hK, hA⟩ := id C
  have hl : lv_has ls 10 [(0, .ref (q0 0)), (1, .int p1), (2, .int p2), (3, .int p3), (4, .int p4), (5, .int p5)] := hl
  unfold fX8_laysStrips at hf
  refine lv_iload_n hx hb dX8_laysStrips_0 rfl (lv_at hl 3 rfl) ?_
  refine lv_iload hx hb dX8_laysStrips_1 (lv_at hl 4 rfl) ?_
  refine lv_imul hx hb dX8_laysStrips_3 ?_
  refine lv_i2f hx hb dX8_laysStrips_4 ?_
  refine lv_iload hx hb dX8_laysStrips_5 (lv_at hl 5 rfl) ?_
  refine lv_i2f hx hb dX8_laysStrips_7 ?_
  obtain ⟨h_1, hf⟩ := tm_gS hf
  refine lv_fdiv hx hb dX8_laysStrips_8 (tm_nn_n h_1) ?_
  refine lv_topf (fun x_2 ex_2 => ?_)
  have hf := tm_at ex_2 hf
  refine lv_fstore (lv' := [(6, .float x_2), (0, .ref (q0 0)), (1, .int p1), (2, .int p2), (3, .int p3), (4, .int p4), (5, .int p5)]) hx hb dX8_laysStrips_9 hl (by decide) rfl (fun ls hl => ?_)
  refine lv_iconst (v := 1) hx hb dX8_laysStrips_11 (by decide) ?_
  refine lv_istore (lv' := [(7, .int 1), (6, .float x_2), (0, .ref (q0 0)), (1, .int p1), (2, .int p2), (3, .int p3), (4, .int p4), (5, .int p5)]) hx hb dX8_laysStrips_12 hl (by decide) rfl (fun ls hl => ?_)
  refine lv_aload_n hx hb dX8_laysStrips_14 rfl (lv_at hl 2 rfl) ?_
  refine va_get (D := D) (ci := 8) (v := .ref (q0 13)) (C := RX8) (T := TX8) (N := 18) hx hb hts uX8_laysStrips_X8 hown hK hP 0 rfl rfl 14 (by decide) (hts _ kX8_laysStrips_f47) (fun _ h9 => h9) rfl dX8_laysStrips_15 ?_
  refine lv_iconst (v := 0) hx hb dX8_laysStrips_18 (by decide) ?_
  refine lv_iconst (v := 0) hx hb dX8_laysStrips_19 (by decide) ?_
  refine tm_iast hx hb hK hP hD hS 13 0 rfl rfl (tm_inb_in (by decide)) dX8_laysStrips_20 (fun z => WX8 cI cZ cR q0 z g0) (tm_upc d0 13 (upd (d0 13) (0 : Int32).toNatClampNeg 0)) rfl (fun d0_3 ed0_3 H locs hP hD hS => ?_)
  have hf := tm_at ed0_3 hf
  refine lv_iconst (v := 1) hx hb dX8_laysStrips_21 (by decide) ?_
  refine lv_istore (lv' := [(8, .int 1), (7, .int 1), (6, .float x_2), (0, .ref (q0 0)), (1, .int p1), (2, .int p2), (3, .int p3), (4, .int p4), (5, .int p5)]) hx hb dX8_laysStrips_22 hl (by decide) rfl (fun ls hl => ?_)
  obtain ⟨t_15, ot_15, hf⟩ := tm_bS hf
  refine wX8_laysStrips_24 l D cI cZ cR N q0 C g0 p1 p2 p3 p4 x_2 _ _ _ ot_15 ?_ _ _ _ hP hD hS (lv_sub hl [3, 4, 5, 6, 7, 2, 1, 0] rfl)
  intro H locs ls hP hD hS hl
  refine lv_aload_n hx hb dX8_laysStrips_96 rfl (lv_at hl 0 rfl) ?_
  refine va_get (D := D) (ci := 8) (v := .ref (q0 13)) (C := RX8) (T := TX8) (N := 18) hx hb hts uX8_laysStrips_X8 hown hK hP 0 rfl rfl 14 (by decide) (hts _ kX8_laysStrips_f47) (fun _ h9 => h9) rfl dX8_laysStrips_97 ?_
  refine lv_iload hx hb dX8_laysStrips_100 (lv_at hl 5 rfl) ?_
  refine lv_aload_n hx hb dX8_laysStrips_102 rfl (lv_at hl 0 rfl) ?_
  refine va_get (D := D) (ci := 8) (v := .int (t_15.2.2 0 13)) (C := RX8) (T := TX8) (N := 18) hx hb hts uX8_laysStrips_X8 hown hK hP 0 rfl rfl 13 (by decide) (hts _ kX8_laysStrips_f96) (fun _ h9 => h9) rfl dX8_laysStrips_103 ?_
  obtain ⟨h_16, hf⟩ := tm_gS hf
  refine tm_iast hx hb hK hP hD hS 13 0 rfl rfl (tm_inb_in h_16) dX8_laysStrips_106 (fun z => WX8 cI cZ cR q0 z g0) (tm_upc t_15.2.2 13 (upd (t_15.2.2 13) t_15.1.toNatClampNeg (t_15.2.2 0 13))) rfl (fun d0_17 ed0_17 H locs hP hD hS => ?_)
  have hf := tm_at ed0_17 hf
  refine lv_iconst (v := 0) hx hb dX8_laysStrips_107 (by decide) ?_
  refine lv_istore (lv' := [(8, .int 0), (0, .ref (q0 0)), (1, .int p1), (2, .int p2), (3, .int p3), (4, .int p4), (7, .int t_15.1)]) hx hb dX8_laysStrips_108 hl (by decide) rfl (fun ls hl => ?_)
  obtain ⟨t_25, ot_25, hf⟩ := tm_bS hf
  refine wX8_laysStrips_110 l D cI cZ cR N q0 C g0 p1 p2 p3 p4 t_15.1 _ _ _ ot_25 ?_ _ _ _ hP hD hS (lv_sub hl [1, 2, 3, 4, 5, 6, 0] rfl)
  intro H locs ls hP hD hS hl
  refine lv_aload_n hx hb dX8_laysStrips_158 rfl (lv_at hl 0 rfl) ?_
  refine lv_iload hx hb dX8_laysStrips_159 (lv_at hl 4 rfl) ?_
  refine lv_iload hx hb dX8_laysStrips_161 (lv_at hl 5 rfl) ?_
  obtain ⟨t_26, ot_26, hf⟩ := tm_bS hf
  refine tm_cVV (As := [.int p4, .int t_15.1]) (rest := []) ⟨hx, hb, hml, hown, hts⟩ (tX8_parts l D cI cZ cR N q0 t_25.2 g0 p4 t_15.1 t_26 ot_26) (cwV 2 hts gX8_laysStrips_X8_parts rfl rfl rfl hdwsV_X8_parts ⟨Nat.le_of_ble_eq_true rfl, Nat.le_of_ble_eq_true rfl⟩) hK hP hD hS hA [0, 1, 2, 3, 4, 5, 6, 7, 8, 9, 10, 11, 12, 13, 14, 15] (by decide) rfl rfl (ci := 8) rfl rfl rfl (fun _ => WX8 cI cZ cR q0 t_26 g0) (()) rfl rfl hl.1 rfl (Nat.le_of_ble_eq_true rfl) dX8_laysStrips_163 ⟨Nat.zero_le _, Nat.zero_le _⟩ (fun _ _ H locs hP hD hS => ?_)
  refine lv_iconst (v := 0) hx hb dX8_laysStrips_166 (by decide) ?_
  refine lv_istore (lv' := [(8, .int 0), (0, .ref (q0 0)), (1, .int p1), (2, .int p2), (3, .int p3), (4, .int p4), (7, .int t_15.1)]) hx hb dX8_laysStrips_167 hl (by decide) rfl (fun ls hl => ?_)
  obtain ⟨t_31, ot_31, hf⟩ := tm_bS hf
  refine wX8_laysStrips_169 l D cI cZ cR N q0 C g0 p1 p2 p3 t_15.1 _ _ _ ot_31 ?_ _ _ _ hP hD hS (lv_sub hl [1, 2, 3, 4, 6, 0] rfl)
  intro H locs ls hP hD hS hl
  refine lv_iload_n hx hb dX8_laysStrips_196 rfl (lv_at hl 2 rfl) ?_
  refine lv_istore (lv' := [(8, .int p2), (0, .ref (q0 0)), (1, .int p1), (2, .int p2), (3, .int p3), (7, .int t_15.1)]) hx hb dX8_laysStrips_197 hl (by decide) rfl (fun ls hl => ?_)
  refine lv_iconst (v := 0) hx hb dX8_laysStrips_199 (by decide) ?_
  refine lv_istore (lv' := [(9, .int 0), (8, .int p2), (0, .ref (q0 0)), (1, .int p1), (2, .int p2), (3, .int p3), (7, .int t_15.1)]) hx hb dX8_laysStrips_200 hl (by decide) rfl (fun ls hl => ?_)
  obtain ⟨t_39, ot_39, hf⟩ := tm_bS hf
  refine wX8_laysStrips_202 l D cI cZ cR N q0 C g0 p1 p3 t_15.1 _ _ _ ot_39 ?_ _ _ _ hP hD hS (lv_sub hl [2, 3, 5, 6, 1, 0] rfl)
  intro H locs ls hP hD hS hl
  obtain rfl := Option.some.inj hf
  exact hend _ _ _ _ hP hD hS dX8_laysStrips_267
set_option maxHeartbeats 4000000 in
set_option maxRecDepth 100000 in
theorem wX8_sorts_19 (l : Launch) (D : va_G) (cI cZ cR : ClassId) (N : Nat) (q0 : Nat → Nat) {p : Program} {e : Env} {s : State} {m : MethodId} {args : Array Value} {below : List Frame} {meth : Method} {c : Code} {A : Nat → Prop} {H0 : Heap} {Q : State → Prop} (C : tm_Cx p s m c args cX8_sorts 4 RX8 wsX8_sorts D (tm_ty cI cZ cR) A H0) (g0 : Int64) (v1 : Int32) (v2 : Int32) : ∀ (n : Nat) (st : Int32 × tm_M) (o : (Int32 × tm_M)), tm_whl (bX8_sorts_19 N v2) n st = some o → (fun (o : Int32 × tm_M) => ∀ (H : Heap) (locs : List Loc) (ls : Array Slot), va_P D vwCl (WX8 cI cZ cR q0 o.2 g0) H → va_D A (WX8 cI cZ cR q0 o.2 g0) → va_S A H0 H locs → lv_has ls 4 [(0, .ref (q0 0)), (1, .int v1), (2, .int v2), (3, .int o.1)] → W p l e rmX8_sorts s m args below meth c H locs 0 0 Q (F0 m 65 ls [])) o → (fun (st : Int32 × tm_M) => ∀ (H : Heap) (locs : List Loc) (ls : Array Slot), va_P D vwCl (WX8 cI cZ cR q0 st.2 g0) H → va_D A (WX8 cI cZ cR q0 st.2 g0) → va_S A H0 H locs → lv_has ls 4 [(0, .ref (q0 0)), (1, .int v1), (2, .int v2), (3, .int st.1)] → W p l e rmX8_sorts s m args below meth c H locs 0 0 Q (F0 m 19 ls [])) st := by
  obtain ⟨hx, hb, hml, hown, hts, hK, hA⟩ := id C
  refine tm_whl_W (Wh := fun (st : Int32 × tm_M) => ∀ (H : Heap) (locs : List Loc) (ls : Array Slot), va_P D vwCl (WX8 cI cZ cR q0 st.2 g0) H → va_D A (WX8 cI cZ cR q0 st.2 g0) → va_S A H0 H locs → lv_has ls 4 [(0, .ref (q0 0)), (1, .int v1), (2, .int v2), (3, .int st.1)] → W p l e rmX8_sorts s m args below meth c H locs 0 0 Q (F0 m 19 ls [])) (Wx := fun (o : Int32 × tm_M) => ∀ (H : Heap) (locs : List Loc) (ls : Array Slot), va_P D vwCl (WX8 cI cZ cR q0 o.2 g0) H → va_D A (WX8 cI cZ cR q0 o.2 g0) → va_S A H0 H locs → lv_has ls 4 [(0, .ref (q0 0)), (1, .int v1), (2, .int v2), (3, .int o.1)] → W p l e rmX8_sorts s m args below meth c H locs 0 0 Q (F0 m 65 ls [])) ?_
  intro st r hf hk H locs ls hP hD hS hl
  unfold bX8_sorts_19 at hf
  refine lv_iload_n hx hb dX8_sorts_19 rfl (lv_at hl 3 rfl) ?_
  refine lv_if_le (tgt := 65) hx hb dX8_sorts_20 (by decide) (fun c_4 => ?_) (fun c_4 => ?_)
  · have hf := tm_iT c_4 hf
    obtain rfl := Option.some.inj hf
    exact hk _ _ _ hP hD hS (lv_sub hl [0, 1, 2, 3] rfl)
  · have hf := tm_iF c_4 hf
    refine lv_aload_n hx hb dX8_sorts_23 rfl (lv_at hl 0 rfl) ?_
    refine va_get (D := D) (ci := 8) (v := .ref (q0 11)) (C := RX8) (T := TX8) (N := 18) hx hb hts uX8_sorts_X8 hown hK hP 0 rfl rfl 11 (by decide) (hts _ kX8_sorts_f41) (fun _ h9 => h9) rfl dX8_sorts_24 ?_
    refine lv_aload_n hx hb dX8_sorts_27 rfl (lv_at hl 0 rfl) ?_
    refine va_get (D := D) (ci := 8) (v := .ref (q0 12)) (C := RX8) (T := TX8) (N := 18) hx hb hts uX8_sorts_X8 hown hK hP 0 rfl rfl 12 (by decide) (hts _ kX8_sorts_f44) (fun _ h9 => h9) rfl dX8_sorts_28 ?_
    refine lv_iload_n hx hb dX8_sorts_31 rfl (lv_at hl 3 rfl) ?_
    refine lv_iconst (v := 1) hx hb dX8_sorts_32 (by decide) ?_
    refine lv_isub hx hb dX8_sorts_33 ?_
    obtain ⟨h_5, hf⟩ := tm_gS hf
    refine va_iald hx hb hK hP 12 0 rfl rfl (tm_inb_in h_5) dX8_sorts_34 ?_
    obtain ⟨h_6, hf⟩ := tm_gS hf
    refine va_iald hx hb hK hP 11 0 rfl rfl (tm_inb_in h_6) dX8_sorts_35 ?_
    refine lv_aload_n hx hb dX8_sorts_36 rfl (lv_at hl 0 rfl) ?_
    refine va_get (D := D) (ci := 8) (v := .ref (q0 11)) (C := RX8) (T := TX8) (N := 18) hx hb hts uX8_sorts_X8 hown hK hP 0 rfl rfl 11 (by decide) (hts _ kX8_sorts_f41) (fun _ h9 => h9) rfl dX8_sorts_37 ?_
    refine lv_iload_n hx hb dX8_sorts_40 rfl (lv_at hl 2 rfl) ?_
    obtain ⟨h_7, hf⟩ := tm_gS hf
    refine va_iald hx hb hK hP 11 0 rfl rfl (tm_inb_in h_7) dX8_sorts_41 ?_
    refine lv_icmp_ge (tgt := 65) hx hb dX8_sorts_42 (by decide) (fun c_8 => ?_) (fun c_8 => ?_)
    · have hf := tm_iT c_8 hf
      obtain rfl := Option.some.inj hf
      exact hk _ _ _ hP hD hS (lv_sub hl [0, 1, 2, 3] rfl)
    · have hf := tm_iF c_8 hf
      refine lv_aload_n hx hb dX8_sorts_45 rfl (lv_at hl 0 rfl) ?_
      refine va_get (D := D) (ci := 8) (v := .ref (q0 12)) (C := RX8) (T := TX8) (N := 18) hx hb hts uX8_sorts_X8 hown hK hP 0 rfl rfl 12 (by decide) (hts _ kX8_sorts_f44) (fun _ h9 => h9) rfl dX8_sorts_46 ?_
      refine lv_iload_n hx hb dX8_sorts_49 rfl (lv_at hl 3 rfl) ?_
      refine lv_aload_n hx hb dX8_sorts_50 rfl (lv_at hl 0 rfl) ?_
      refine va_get (D := D) (ci := 8) (v := .ref (q0 12)) (C := RX8) (T := TX8) (N := 18) hx hb hts uX8_sorts_X8 hown hK hP 0 rfl rfl 12 (by decide) (hts _ kX8_sorts_f44) (fun _ h9 => h9) rfl dX8_sorts_51 ?_
      refine lv_iload_n hx hb dX8_sorts_54 rfl (lv_at hl 3 rfl) ?_
      refine lv_iconst (v := 1) hx hb dX8_sorts_55 (by decide) ?_
      refine lv_isub hx hb dX8_sorts_56 ?_
      refine va_iald hx hb hK hP 12 0 rfl rfl (tm_inb_in h_5) dX8_sorts_57 ?_
      obtain ⟨h_9, hf⟩ := tm_gS hf
      refine tm_iast hx hb hK hP hD hS 12 0 rfl rfl (tm_inb_in h_9) dX8_sorts_58 (fun z => WX8 cI cZ cR q0 z g0) (tm_upc st.2 12 (upd (st.2 12) st.1.toNatClampNeg (st.2 12 (st.1 - 1).toNatClampNeg))) rfl (fun d0_10 ed0_10 H locs hP hD hS => ?_)
      have hf := tm_at ed0_10 hf
      obtain ⟨x_11, ex_11⟩ : ∃ y : Int32, y = st.1 + (-1) := ⟨_, rfl⟩
      have hf := tm_at ex_11 hf
      refine lv_iinc (v := x_11) (lv' := [(3, .int x_11), (0, .ref (q0 0)), (1, .int v1), (2, .int v2)]) hx hb dX8_sorts_59 hl (k := 3) rfl (by rw [ex_11]; rfl) (by decide) rfl (fun ls hl => ?_)
      refine lv_goto (tgt := 19) hx hb dX8_sorts_62 (by decide) ?_
      obtain rfl := Option.some.inj hf
      exact hk _ _ _ hP hD hS (lv_sub hl [1, 2, 3, 0] rfl)
set_option maxHeartbeats 4000000 in
set_option maxRecDepth 100000 in
theorem wX8_sorts_2 (l : Launch) (D : va_G) (cI cZ cR : ClassId) (N : Nat) (q0 : Nat → Nat) {p : Program} {e : Env} {s : State} {m : MethodId} {args : Array Value} {below : List Frame} {meth : Method} {c : Code} {A : Nat → Prop} {H0 : Heap} {Q : State → Prop} (C : tm_Cx p s m c args cX8_sorts 4 RX8 wsX8_sorts D (tm_ty cI cZ cR) A H0) (g0 : Int64) : ∀ (n : Nat) (st : Int32 × tm_M) (o : (Int32 × tm_M)), tm_whl (bX8_sorts_2 N) n st = some o → (fun (o : Int32 × tm_M) => ∀ (H : Heap) (locs : List Loc) (ls : Array Slot), va_P D vwCl (WX8 cI cZ cR q0 o.2 g0) H → va_D A (WX8 cI cZ cR q0 o.2 g0) → va_S A H0 H locs → lv_has ls 4 [] → W p l e rmX8_sorts s m args below meth c H locs 0 0 Q (F0 m 78 ls [])) o → (fun (st : Int32 × tm_M) => ∀ (H : Heap) (locs : List Loc) (ls : Array Slot), va_P D vwCl (WX8 cI cZ cR q0 st.2 g0) H → va_D A (WX8 cI cZ cR q0 st.2 g0) → va_S A H0 H locs → lv_has ls 4 [(0, .ref (q0 0)), (1, .int st.1)] → W p l e rmX8_sorts s m args below meth c H locs 0 0 Q (F0 m 2 ls [])) st := by
  obtain ⟨hx, hb, hml, hown, hts, hK, hA⟩ := id C
  refine tm_whl_W (Wh := fun (st : Int32 × tm_M) => ∀ (H : Heap) (locs : List Loc) (ls : Array Slot), va_P D vwCl (WX8 cI cZ cR q0 st.2 g0) H → va_D A (WX8 cI cZ cR q0 st.2 g0) → va_S A H0 H locs → lv_has ls 4 [(0, .ref (q0 0)), (1, .int st.1)] → W p l e rmX8_sorts s m args below meth c H locs 0 0 Q (F0 m 2 ls [])) (Wx := fun (o : Int32 × tm_M) => ∀ (H : Heap) (locs : List Loc) (ls : Array Slot), va_P D vwCl (WX8 cI cZ cR q0 o.2 g0) H → va_D A (WX8 cI cZ cR q0 o.2 g0) → va_S A H0 H locs → lv_has ls 4 [] → W p l e rmX8_sorts s m args below meth c H locs 0 0 Q (F0 m 78 ls [])) ?_
  intro st r hf hk H locs ls hP hD hS hl
  unfold bX8_sorts_2 at hf
  refine lv_iload_n hx hb dX8_sorts_2 rfl (lv_at hl 1 rfl) ?_
  refine lv_aload_n hx hb dX8_sorts_3 rfl (lv_at hl 0 rfl) ?_
  refine va_get (D := D) (ci := 8) (v := .int (st.2 0 13)) (C := RX8) (T := TX8) (N := 18) hx hb hts uX8_sorts_X8 hown hK hP 0 rfl rfl 13 (by decide) (hts _ kX8_sorts_f96) (fun _ h9 => h9) rfl dX8_sorts_4 ?_
  refine lv_icmp_ge (tgt := 78) hx hb dX8_sorts_7 (by decide) (fun c_1 => ?_) (fun c_1 => ?_)
  · have hf := tm_iT c_1 hf
    obtain rfl := Option.some.inj hf
    exact hk _ _ _ hP hD hS (lv_sub hl [] rfl)
  · have hf := tm_iF c_1 hf
    refine lv_aload_n hx hb dX8_sorts_10 rfl (lv_at hl 0 rfl) ?_
    refine va_get (D := D) (ci := 8) (v := .ref (q0 12)) (C := RX8) (T := TX8) (N := 18) hx hb hts uX8_sorts_X8 hown hK hP 0 rfl rfl 12 (by decide) (hts _ kX8_sorts_f44) (fun _ h9 => h9) rfl dX8_sorts_11 ?_
    refine lv_iload_n hx hb dX8_sorts_14 rfl (lv_at hl 1 rfl) ?_
    obtain ⟨h_2, hf⟩ := tm_gS hf
    refine va_iald hx hb hK hP 12 0 rfl rfl (tm_inb_in h_2) dX8_sorts_15 ?_
    refine lv_topi (fun x_3 ex_3 => ?_)
    have hf := tm_at ex_3 hf
    refine lv_istore_n (lv' := [(2, .int x_3), (0, .ref (q0 0)), (1, .int st.1)]) hx hb dX8_sorts_16 rfl hl (by decide) rfl (fun ls hl => ?_)
    refine lv_iload_n hx hb dX8_sorts_17 rfl (lv_at hl 2 rfl) ?_
    refine lv_istore_n (lv' := [(3, .int st.1), (2, .int x_3), (0, .ref (q0 0)), (1, .int st.1)]) hx hb dX8_sorts_18 rfl hl (by decide) rfl (fun ls hl => ?_)
    obtain ⟨t_12, ot_12, hf⟩ := tm_bS hf
    refine wX8_sorts_19 l D cI cZ cR N q0 C g0 st.1 x_3 _ _ _ ot_12 ?_ _ _ _ hP hD hS (lv_sub hl [2, 3, 1, 0] rfl)
    intro H locs ls hP hD hS hl
    refine lv_aload_n hx hb dX8_sorts_65 rfl (lv_at hl 0 rfl) ?_
    refine va_get (D := D) (ci := 8) (v := .ref (q0 12)) (C := RX8) (T := TX8) (N := 18) hx hb hts uX8_sorts_X8 hown hK hP 0 rfl rfl 12 (by decide) (hts _ kX8_sorts_f44) (fun _ h9 => h9) rfl dX8_sorts_66 ?_
    refine lv_iload_n hx hb dX8_sorts_69 rfl (lv_at hl 3 rfl) ?_
    refine lv_iload_n hx hb dX8_sorts_70 rfl (lv_at hl 2 rfl) ?_
    obtain ⟨h_13, hf⟩ := tm_gS hf
    refine tm_iast hx hb hK hP hD hS 12 0 rfl rfl (tm_inb_in h_13) dX8_sorts_71 (fun z => WX8 cI cZ cR q0 z g0) (tm_upc t_12.2 12 (upd (t_12.2 12) t_12.1.toNatClampNeg x_3)) rfl (fun d0_14 ed0_14 H locs hP hD hS => ?_)
    have hf := tm_at ed0_14 hf
    obtain ⟨x_15, ex_15⟩ : ∃ y : Int32, y = st.1 + 1 := ⟨_, rfl⟩
    have hf := tm_at ex_15 hf
    refine lv_iinc (v := x_15) (lv' := [(1, .int x_15), (0, .ref (q0 0)), (2, .int x_3), (3, .int t_12.1)]) hx hb dX8_sorts_72 hl (k := 1) rfl (by rw [ex_15]; rfl) (by decide) rfl (fun ls hl => ?_)
    refine lv_goto (tgt := 2) hx hb dX8_sorts_75 (by decide) ?_
    obtain rfl := Option.some.inj hf
    exact hk _ _ _ hP hD hS (lv_sub hl [1, 0] rfl)
set_option maxHeartbeats 4000000 in
set_option maxRecDepth 100000 in
theorem tX8_sorts (l : Launch) (D : va_G) (cI cZ cR : ClassId) (N : Nat) (q0 : Nat → Nat) (d0 : tm_M) (g0 : Int64) (z0 : tm_M) (hf : fX8_sorts N d0 g0 = some z0) : tm_CV l D (tm_ty cI cZ cR) yX8_sorts wsX8_sorts rmX8_sorts [.ref (q0 0)] (WX8 cI cZ cR q0 d0 g0) (WX8 cI cZ cR q0 z0 g0) := by
  refine tm_mkV (cc := cX8_sorts) (maxL := 4) (by decide) rfl (Nat.le_of_ble_eq_true rfl) ?_
  intro p e s m below meth c A ls Q C hP hD hS hl hend
  have C : tm_Cx p s m c [.ref (q0 0)].toArray cX8_sorts 4 RX8 wsX8_sorts D (tm_ty cI cZ cR) A s.heap := C
  obtain ⟨hx, hb, hml, hown, hts, hK, hA⟩ := id C
  have hl : lv_has ls 4 [(0, .ref (q0 0))] := hl
  unfold fX8_sorts at hf
  refine lv_iconst (v := 1) hx hb dX8_sorts_0 (by decide) ?_
  refine lv_istore_n (lv' := [(1, .int 1), (0, .ref (q0 0))]) hx hb dX8_sorts_1 rfl hl (by decide) rfl (fun ls hl => ?_)
  obtain ⟨t_16, ot_16, hf⟩ := tm_bS hf
  refine wX8_sorts_2 l D cI cZ cR N q0 C g0 _ _ _ ot_16 ?_ _ _ _ hP hD hS (lv_sub hl [1, 0] rfl)
  intro H locs ls hP hD hS hl
  obtain rfl := Option.some.inj hf
  exact hend _ _ _ _ hP hD hS dX8_sorts_78
