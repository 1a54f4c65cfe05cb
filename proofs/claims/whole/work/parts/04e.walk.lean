set_option maxHeartbeats 4000000 in
set_option maxRecDepth 100000 in
theorem tX8_within (l : Launch) (D : va_G) (cI cZ cR : ClassId) (N : Nat) (p1 : Int32) (p2 : Int32) (p3 : Int32) (r0 : Int32) (hf : fX8_within N p1 p2 p3 = some r0) : tm_CI l D (tm_ty cI cZ cR) yX8_within wsX8_within rmX8_within [.int p1, .int p2, .int p3] (([] : va_W)) r0 (([] : va_W)) := by
  refine tm_mkI (cc := cX8_within) (maxL := 3) (ty := .boolean) (by decide) rfl (Nat.le_of_ble_eq_true rfl) ?_
  intro p e s m below meth c A ls Q C hP hD hS hl hend
  have C : tm_Cx p s m c [.int p1, .int p2, .int p3].toArray cX8_within 3 RX8 wsX8_within D (tm_ty cI cZ cR) A s.heap := C
  obtain ⟨hx, hb, hml, hown, hts, hK, hA⟩ := id C
  have hl : lv_has ls 3 [(0, .int p1), (1, .int p2), (2, .int p3)] := hl
  unfold fX8_within at hf
  refine lv_iload_n hx hb dX8_within_0 rfl (lv_at hl 0 rfl) ?_
  refine lv_iload_n hx hb dX8_within_1 rfl (lv_at hl 1 rfl) ?_
  refine lv_icmp_lt (tgt := 14) hx hb dX8_within_2 (by decide) (fun c_1 => ?_) (fun c_1 => ?_)
  · have hf := tm_iT c_1 hf
    refine lv_iconst (v := 0) hx hb dX8_within_14 (by decide) ?_
    obtain rfl := Option.some.inj hf
    exact hend _ _ _ _ hP hD hS (by decide) dX8_within_15
  · have hf := tm_iF c_1 hf
    refine lv_iload_n hx hb dX8_within_5 rfl (lv_at hl 0 rfl) ?_
    refine lv_iload_n hx hb dX8_within_6 rfl (lv_at hl 2 rfl) ?_
    refine lv_icmp_gt (tgt := 14) hx hb dX8_within_7 (by decide) (fun c_2 => ?_) (fun c_2 => ?_)
    · have hf := tm_iT c_2 hf
      refine lv_iconst (v := 0) hx hb dX8_within_14 (by decide) ?_
      obtain rfl := Option.some.inj hf
      exact hend _ _ _ _ hP hD hS (by decide) dX8_within_15
    · have hf := tm_iF c_2 hf
      refine lv_iconst (v := 1) hx hb dX8_within_10 (by decide) ?_
      refine lv_goto (tgt := 15) hx hb dX8_within_11 (by decide) ?_
      obtain rfl := Option.some.inj hf
      exact hend _ _ _ _ hP hD hS (by decide) dX8_within_15
set_option maxHeartbeats 4000000 in
set_option maxRecDepth 100000 in
theorem tX8_fails (l : Launch) (D : va_G) (cI cZ cR : ClassId) (N : Nat) (q0 : Nat → Nat) (d0 : tm_M) (g0 : Int64) (p1 : Int32) (r0 : Int32) (z0 : tm_M) (hf : fX8_fails N d0 g0 p1 = some (r0, z0)) : tm_CI l D (tm_ty cI cZ cR) yX8_fails wsX8_fails rmX8_fails [.ref (q0 0), .int p1] (WX8 cI cZ cR q0 d0 g0) r0 (WX8 cI cZ cR q0 z0 g0) := by
  refine tm_mkI (cc := cX8_fails) (maxL := 2) (ty := .int) (by decide) rfl (Nat.le_of_ble_eq_true rfl) ?_
  intro p e s m below meth c A ls Q C hP hD hS hl hend
  have C : tm_Cx p s m c [.ref (q0 0), .int p1].toArray cX8_fails 2 RX8 wsX8_fails D (tm_ty cI cZ cR) A s.heap := C
  obtain ⟨hx, hb, hml, hown, hts, hK, hA⟩ := id C
  have hl : lv_has ls 2 [(0, .ref (q0 0)), (1, .int p1)] := hl
  unfold fX8_fails at hf
  refine lv_aload_n hx hb dX8_fails_0 rfl (lv_at hl 0 rfl) ?_
  refine va_get (D := D) (ci := 8) (v := .ref (q0 3)) (C := RX8) (T := TX8) (N := 18) hx hb hts uX8_fails_X8 hown hK hP 0 rfl rfl 3 (by decide) (hts _ kX8_fails_f16) (fun _ h9 => h9) rfl dX8_fails_1 ?_
  refine lv_bipush (v := (-2)) hx hb dX8_fails_4 (by decide) ?_
  refine lv_iload_n hx hb dX8_fails_6 rfl (lv_at hl 1 rfl) ?_
  refine lv_isub hx hb dX8_fails_7 ?_
  refine lv_dup2_11 hx hb dX8_fails_8 rfl rfl ?_
  obtain ⟨h_1, hf⟩ := tm_gS hf
  refine va_iald hx hb hK hP 3 0 rfl rfl (tm_inb_in h_1) dX8_fails_9 ?_
  refine lv_iconst (v := 1) hx hb dX8_fails_10 (by decide) ?_
  refine lv_iadd hx hb dX8_fails_11 ?_
  refine tm_iast hx hb hK hP hD hS 3 0 rfl rfl (tm_inb_in h_1) dX8_fails_12 (fun z => WX8 cI cZ cR q0 z g0) (tm_upc d0 3 (upd (d0 3) (((-2)) - p1).toNatClampNeg ((d0 3 (((-2)) - p1).toNatClampNeg) + 1))) rfl (fun d0_2 ed0_2 H locs hP hD hS => ?_)
  have hf := tm_at ed0_2 hf
  refine lv_iload_n hx hb dX8_fails_13 rfl (lv_at hl 1 rfl) ?_
  simp only [Option.some.injEq, Prod.mk.injEq] at hf
  obtain ⟨rfl, rfl⟩ := hf
  exact hend _ _ _ _ hP hD hS rfl dX8_fails_14
set_option maxHeartbeats 4000000 in
set_option maxRecDepth 100000 in
theorem tX8_isNode (l : Launch) (D : va_G) (cI cZ cR : ClassId) (N : Nat) (q0 : Nat → Nat) (d0 : tm_M) (g0 : Int64) (p1 : Int32) (r0 : Int32) (hf : fX8_isNode N d0 g0 p1 = some r0) : tm_CI l D (tm_ty cI cZ cR) yX8_isNode wsX8_isNode rmX8_isNode [.ref (q0 0), .int p1] (WX8 cI cZ cR q0 d0 g0) r0 (WX8 cI cZ cR q0 d0 g0) := by
  refine tm_mkI (cc := cX8_isNode) (maxL := 2) (ty := .boolean) (by decide) rfl (Nat.le_of_ble_eq_true rfl) ?_
  intro p e s m below meth c A ls Q C hP hD hS hl hend
  have C : tm_Cx p s m c [.ref (q0 0), .int p1].toArray cX8_isNode 2 RX8 wsX8_isNode D (tm_ty cI cZ cR) A s.heap := C
  obtain ⟨hx, hb, hml, hown, hts, hK, hA⟩ := id C
  have hl : lv_has ls 2 [(0, .ref (q0 0)), (1, .int p1)] := hl
  unfold fX8_isNode at hf
  refine lv_iload_n hx hb dX8_isNode_0 rfl (lv_at hl 1 rfl) ?_
  refine lv_iconst (v := 0) hx hb dX8_isNode_1 (by decide) ?_
  refine lv_aload_n hx hb dX8_isNode_2 rfl (lv_at hl 0 rfl) ?_
  refine va_get (D := D) (ci := 8) (v := .ref (q0 1)) (C := RX8) (T := TX8) (N := 18) hx hb hts uX8_isNode_X8 hown hK hP 0 rfl rfl 0 (by decide) (hts _ kX8_isNode_f7) (fun _ h9 => h9) rfl dX8_isNode_3 ?_
  refine lv_iconst (v := 0) hx hb dX8_isNode_6 (by decide) ?_
  refine va_iald hx hb hK hP 1 0 rfl rfl (tm_inb_in (by decide)) dX8_isNode_7 ?_
  refine lv_iconst (v := 1) hx hb dX8_isNode_8 (by decide) ?_
  refine lv_isub hx hb dX8_isNode_9 ?_
  obtain ⟨t_1, ot_1, hf⟩ := tm_bS hf
  refine tm_cSI (As := [.int p1, .int 0, .int ((d0 1 (0 : Int32).toNatClampNeg) - 1)]) (rest := []) ⟨hx, hb, hml, hown, hts⟩ (tX8_within l D cI cZ cR N p1 (0 : Int32) ((d0 1 (0 : Int32).toNatClampNeg) - 1) t_1 ot_1) (va_cwS 3 hts gX8_isNode_X8_within rfl rfl rfl hdwsS_X8_within ⟨Nat.le_of_ble_eq_true rfl, Nat.le_of_ble_eq_true rfl⟩) hK hP hD hS hA [] (by decide) rfl rfl (fun _ => WX8 cI cZ cR q0 d0 g0) (()) rfl rfl hl.1 rfl (Nat.le_of_ble_eq_true rfl) dX8_isNode_10 ⟨Nat.zero_le _, Nat.zero_le _⟩ (fun _ _ H locs hP hD hS => ?_)
  obtain ⟨h_2, hf⟩ := tm_gS hf
  obtain rfl := Option.some.inj hf
  exact hend _ _ _ _ hP hD hS (tm_bl_nar h_2) dX8_isNode_13
set_option maxHeartbeats 4000000 in
set_option maxRecDepth 100000 in
theorem wX8_saves_50 (l : Launch) (D : va_G) (cI cZ cR : ClassId) (N : Nat) (q0 : Nat → Nat) {p : Program} {e : Env} {s : State} {m : MethodId} {args : Array Value} {below : List Frame} {meth : Method} {c : Code} {A : Nat → Prop} {H0 : Heap} {Q : State → Prop} (C : tm_Cx p s m c args cX8_saves 2 RX8 wsX8_saves D (tm_ty cI cZ cR) A H0) (g0 : Int64) : ∀ (n : Nat) (st : Int32 × tm_M) (o : (Int32 × tm_M)), tm_whl (bX8_saves_50 N) n st = some o → (fun (o : Int32 × tm_M) => ∀ (H : Heap) (locs : List Loc) (ls : Array Slot), va_P D vwCl (WX8 cI cZ cR q0 o.2 g0) H → va_D A (WX8 cI cZ cR q0 o.2 g0) → va_S A H0 H locs → lv_has ls 2 [(0, .ref (q0 0))] → W p l e rmX8_saves s m args below meth c H locs 0 0 Q (F0 m 82 ls [])) o → (fun (st : Int32 × tm_M) => ∀ (H : Heap) (locs : List Loc) (ls : Array Slot), va_P D vwCl (WX8 cI cZ cR q0 st.2 g0) H → va_D A (WX8 cI cZ cR q0 st.2 g0) → va_S A H0 H locs → lv_has ls 2 [(0, .ref (q0 0)), (1, .int st.1)] → W p l e rmX8_saves s m args below meth c H locs 0 0 Q (F0 m 50 ls [])) st := by
  obtain ⟨hx, hb, hml, hown, hts, hK, hA⟩ := id C
  refine tm_whl_W (Wh := fun (st : Int32 × tm_M) => ∀ (H : Heap) (locs : List Loc) (ls : Array Slot), va_P D vwCl (WX8 cI cZ cR q0 st.2 g0) H → va_D A (WX8 cI cZ cR q0 st.2 g0) → va_S A H0 H locs → lv_has ls 2 [(0, .ref (q0 0)), (1, .int st.1)] → W p l e rmX8_saves s m args below meth c H locs 0 0 Q (F0 m 50 ls [])) (Wx := fun (o : Int32 × tm_M) => ∀ (H : Heap) (locs : List Loc) (ls : Array Slot), va_P D vwCl (WX8 cI cZ cR q0 o.2 g0) H → va_D A (WX8 cI cZ cR q0 o.2 g0) → va_S A H0 H locs → lv_has ls 2 [(0, .ref (q0 0))] → W p l e rmX8_saves s m args below meth c H locs 0 0 Q (F0 m 82 ls [])) ?_
  intro st r hf hk H locs ls hP hD hS hl
  unfold bX8_saves_50 at hf
  refine lv_iload_n hx hb dX8_saves_50 rfl (lv_at hl 1 rfl) ?_
  refine lv_bipush (v := 53) hx hb dX8_saves_51 (by decide) ?_
  refine lv_icmp_ge (tgt := 82) hx hb dX8_saves_53 (by decide) (fun c_2 => ?_) (fun c_2 => ?_)
  · have hf := tm_iT c_2 hf
    obtain rfl := Option.some.inj hf
    exact hk _ _ _ hP hD hS (lv_sub hl [0] rfl)
  · have hf := tm_iF c_2 hf
    refine lv_aload_n hx hb dX8_saves_56 rfl (lv_at hl 0 rfl) ?_
    refine va_get (D := D) (ci := 8) (v := .ref (q0 2)) (C := RX8) (T := TX8) (N := 18) hx hb hts uX8_saves_X8 hown hK hP 0 rfl rfl 1 (by decide) (hts _ kX8_saves_f13) (fun _ h9 => h9) rfl dX8_saves_57 ?_
    refine lv_bipush (v := 53) hx hb dX8_saves_60 (by decide) ?_
    refine lv_aload_n hx hb dX8_saves_62 rfl (lv_at hl 0 rfl) ?_
    refine va_get (D := D) (ci := 8) (v := .int (st.2 0 2)) (C := RX8) (T := TX8) (N := 18) hx hb hts uX8_saves_X8 hown hK hP 0 rfl rfl 2 (by decide) (hts _ kX8_saves_f60) (fun _ h9 => h9) rfl dX8_saves_63 ?_
    refine lv_imul hx hb dX8_saves_66 ?_
    refine lv_iload_n hx hb dX8_saves_67 rfl (lv_at hl 1 rfl) ?_
    refine lv_iadd hx hb dX8_saves_68 ?_
    refine lv_aload_n hx hb dX8_saves_69 rfl (lv_at hl 0 rfl) ?_
    refine va_get (D := D) (ci := 8) (v := .ref (q0 1)) (C := RX8) (T := TX8) (N := 18) hx hb hts uX8_saves_X8 hown hK hP 0 rfl rfl 0 (by decide) (hts _ kX8_saves_f7) (fun _ h9 => h9) rfl dX8_saves_70 ?_
    refine lv_iload_n hx hb dX8_saves_73 rfl (lv_at hl 1 rfl) ?_
    obtain ⟨h_3, hf⟩ := tm_gS hf
    refine va_iald hx hb hK hP 1 0 rfl rfl (tm_inb_in h_3) dX8_saves_74 ?_
    obtain ⟨h_4, hf⟩ := tm_gS hf
    refine tm_iast hx hb hK hP hD hS 2 0 rfl rfl (tm_inb_in h_4) dX8_saves_75 (fun z => WX8 cI cZ cR q0 z g0) (tm_upc st.2 2 (upd (st.2 2) ((53 * (st.2 0 2)) + st.1).toNatClampNeg (st.2 1 st.1.toNatClampNeg))) rfl (fun d0_5 ed0_5 H locs hP hD hS => ?_)
    have hf := tm_at ed0_5 hf
    obtain ⟨x_6, ex_6⟩ : ∃ y : Int32, y = st.1 + 1 := ⟨_, rfl⟩
    have hf := tm_at ex_6 hf
    refine lv_iinc (v := x_6) (lv' := [(1, .int x_6), (0, .ref (q0 0))]) hx hb dX8_saves_76 hl (k := 1) rfl (by rw [ex_6]; rfl) (by decide) rfl (fun ls hl => ?_)
    refine lv_goto (tgt := 50) hx hb dX8_saves_79 (by decide) ?_
    obtain rfl := Option.some.inj hf
    exact hk _ _ _ hP hD hS (lv_sub hl [1, 0] rfl)
set_option maxHeartbeats 4000000 in
set_option maxRecDepth 100000 in
theorem wX8_saves_10 (l : Launch) (D : va_G) (cI cZ cR : ClassId) (N : Nat) (q0 : Nat → Nat) {p : Program} {e : Env} {s : State} {m : MethodId} {args : Array Value} {below : List Frame} {meth : Method} {c : Code} {A : Nat → Prop} {H0 : Heap} {Q : State → Prop} (C : tm_Cx p s m c args cX8_saves 2 RX8 wsX8_saves D (tm_ty cI cZ cR) A H0) (g0 : Int64) : ∀ (n : Nat) (st : Int32 × tm_M) (o : (Int32 × tm_M)), tm_whl (bX8_saves_10 N) n st = some o → (fun (o : Int32 × tm_M) => ∀ (H : Heap) (locs : List Loc) (ls : Array Slot), va_P D vwCl (WX8 cI cZ cR q0 o.2 g0) H → va_D A (WX8 cI cZ cR q0 o.2 g0) → va_S A H0 H locs → lv_has ls 2 [(0, .ref (q0 0))] → W p l e rmX8_saves s m args below meth c H locs 0 0 Q (F0 m 38 ls [])) o → (fun (st : Int32 × tm_M) => ∀ (H : Heap) (locs : List Loc) (ls : Array Slot), va_P D vwCl (WX8 cI cZ cR q0 st.2 g0) H → va_D A (WX8 cI cZ cR q0 st.2 g0) → va_S A H0 H locs → lv_has ls 2 [(0, .ref (q0 0)), (1, .int st.1)] → W p l e rmX8_saves s m args below meth c H locs 0 0 Q (F0 m 10 ls [])) st := by
  obtain ⟨hx, hb, hml, hown, hts, hK, hA⟩ := id C
  refine tm_whl_W (Wh := fun (st : Int32 × tm_M) => ∀ (H : Heap) (locs : List Loc) (ls : Array Slot), va_P D vwCl (WX8 cI cZ cR q0 st.2 g0) H → va_D A (WX8 cI cZ cR q0 st.2 g0) → va_S A H0 H locs → lv_has ls 2 [(0, .ref (q0 0)), (1, .int st.1)] → W p l e rmX8_saves s m args below meth c H locs 0 0 Q (F0 m 10 ls [])) (Wx := fun (o : Int32 × tm_M) => ∀ (H : Heap) (locs : List Loc) (ls : Array Slot), va_P D vwCl (WX8 cI cZ cR q0 o.2 g0) H → va_D A (WX8 cI cZ cR q0 o.2 g0) → va_S A H0 H locs → lv_has ls 2 [(0, .ref (q0 0))] → W p l e rmX8_saves s m args below meth c H locs 0 0 Q (F0 m 38 ls [])) ?_
  intro st r hf hk H locs ls hP hD hS hl
  unfold bX8_saves_10 at hf
  refine lv_iload_n hx hb dX8_saves_10 rfl (lv_at hl 1 rfl) ?_
  refine lv_sipush (v := 159) hx hb dX8_saves_11 (by decide) ?_
  refine lv_icmp_ge (tgt := 38) hx hb dX8_saves_14 (by decide) (fun c_9 => ?_) (fun c_9 => ?_)
  · have hf := tm_iT c_9 hf
    obtain rfl := Option.some.inj hf
    exact hk _ _ _ hP hD hS (lv_sub hl [0] rfl)
  · have hf := tm_iF c_9 hf
    refine lv_aload_n hx hb dX8_saves_17 rfl (lv_at hl 0 rfl) ?_
    refine va_get (D := D) (ci := 8) (v := .ref (q0 2)) (C := RX8) (T := TX8) (N := 18) hx hb hts uX8_saves_X8 hown hK hP 0 rfl rfl 1 (by decide) (hts _ kX8_saves_f13) (fun _ h9 => h9) rfl dX8_saves_18 ?_
    refine lv_iload_n hx hb dX8_saves_21 rfl (lv_at hl 1 rfl) ?_
    refine lv_aload_n hx hb dX8_saves_22 rfl (lv_at hl 0 rfl) ?_
    refine va_get (D := D) (ci := 8) (v := .ref (q0 2)) (C := RX8) (T := TX8) (N := 18) hx hb hts uX8_saves_X8 hown hK hP 0 rfl rfl 1 (by decide) (hts _ kX8_saves_f13) (fun _ h9 => h9) rfl dX8_saves_23 ?_
    refine lv_iload_n hx hb dX8_saves_26 rfl (lv_at hl 1 rfl) ?_
    refine lv_bipush (v := 53) hx hb dX8_saves_27 (by decide) ?_
    refine lv_iadd hx hb dX8_saves_29 ?_
    obtain ⟨h_10, hf⟩ := tm_gS hf
    refine va_iald hx hb hK hP 2 0 rfl rfl (tm_inb_in h_10) dX8_saves_30 ?_
    obtain ⟨h_11, hf⟩ := tm_gS hf
    refine tm_iast hx hb hK hP hD hS 2 0 rfl rfl (tm_inb_in h_11) dX8_saves_31 (fun z => WX8 cI cZ cR q0 z g0) (tm_upc st.2 2 (upd (st.2 2) st.1.toNatClampNeg (st.2 2 (st.1 + 53).toNatClampNeg))) rfl (fun d0_12 ed0_12 H locs hP hD hS => ?_)
    have hf := tm_at ed0_12 hf
    obtain ⟨x_13, ex_13⟩ : ∃ y : Int32, y = st.1 + 1 := ⟨_, rfl⟩
    have hf := tm_at ex_13 hf
    refine lv_iinc (v := x_13) (lv' := [(1, .int x_13), (0, .ref (q0 0))]) hx hb dX8_saves_32 hl (k := 1) rfl (by rw [ex_13]; rfl) (by decide) rfl (fun ls hl => ?_)
    refine lv_goto (tgt := 10) hx hb dX8_saves_35 (by decide) ?_
    obtain rfl := Option.some.inj hf
    exact hk _ _ _ hP hD hS (lv_sub hl [1, 0] rfl)
set_option maxHeartbeats 4000000 in
set_option maxRecDepth 100000 in
theorem tX8_saves (l : Launch) (D : va_G) (cI cZ cR : ClassId) (N : Nat) (q0 : Nat → Nat) (d0 : tm_M) (g0 : Int64) (z0 : tm_M) (hf : fX8_saves N d0 g0 = some z0) : tm_CV l D (tm_ty cI cZ cR) yX8_saves wsX8_saves rmX8_saves [.ref (q0 0)] (WX8 cI cZ cR q0 d0 g0) (WX8 cI cZ cR q0 z0 g0) := by
  refine tm_mkV (cc := cX8_saves) (maxL := 2) (by decide) rfl (Nat.le_of_ble_eq_true rfl) ?_
  intro p e s m below meth c A ls Q C hP hD hS hl hend
  have C : tm_Cx p s m c [.ref (q0 0)].toArray cX8_saves 2 RX8 wsX8_saves D (tm_ty cI cZ cR) A s.heap := C
  obtain ⟨hx, hb, hml, hown, hts, hK, hA⟩ := id C
  have hl : lv_has ls 2 [(0, .ref (q0 0))] := hl
  unfold fX8_saves at hf
  refine lv_aload_n hx hb dX8_saves_0 rfl (lv_at hl 0 rfl) ?_
  refine va_get (D := D) (ci := 8) (v := .int (d0 0 2)) (C := RX8) (T := TX8) (N := 18) hx hb hts uX8_saves_X8 hown hK hP 0 rfl rfl 2 (by decide) (hts _ kX8_saves_f60) (fun _ h9 => h9) rfl dX8_saves_1 ?_
  refine lv_iconst (v := 4) hx hb dX8_saves_4 (by decide) ?_
  refine lv_icmp_ne (tgt := 48) hx hb dX8_saves_5 (by decide) (fun c_1 => ?_) (fun c_1 => ?_)
  · have hf := tm_iF c_1 hf
    refine lv_iconst (v := 0) hx hb dX8_saves_48 (by decide) ?_
    refine lv_istore_n (lv' := [(1, .int 0), (0, .ref (q0 0))]) hx hb dX8_saves_49 rfl hl (by decide) rfl (fun ls hl => ?_)
    obtain ⟨t_7, ot_7, hf⟩ := tm_bS hf
    refine wX8_saves_50 l D cI cZ cR N q0 C g0 _ _ _ ot_7 ?_ _ _ _ hP hD hS (lv_sub hl [1, 0] rfl)
    intro H locs ls hP hD hS hl
    refine lv_aload_n hx hb dX8_saves_82 rfl (lv_at hl 0 rfl) ?_
    refine lv_dup hx hb dX8_saves_83 rfl ?_
    refine va_get (D := D) (ci := 8) (v := .int (t_7.2 0 2)) (C := RX8) (T := TX8) (N := 18) hx hb hts uX8_saves_X8 hown hK hP 0 rfl rfl 2 (by decide) (hts _ kX8_saves_f60) (fun _ h9 => h9) rfl dX8_saves_84 ?_
    refine lv_iconst (v := 1) hx hb dX8_saves_87 (by decide) ?_
    refine lv_iadd hx hb dX8_saves_88 ?_
    refine tm_put (D := D) (ci := 8) (v := .int ((t_7.2 0 2) + 1)) (ty := .int) (C := RX8) (T := TX8) (N := 18) hx hb hts uX8_saves_X8 tyX8 tyX8_ok nmX8 hown hK hP hD hS 0 rfl rfl 2 (by decide) (hts _ kX8_saves_f60) (fun _ h9 => h9) rfl (by decide +kernel) rfl rfl (Nat.le_of_ble_eq_true rfl) dX8_saves_89 (fun z => WX8 cI cZ cR q0 z g0) (tm_upk t_7.2 0 2 ((t_7.2 0 2) + 1)) rfl (fun d0_8 ed0_8 H locs hP hD hS => ?_)
    have hf := tm_at ed0_8 hf
    obtain rfl := Option.some.inj hf
    exact hend _ _ _ _ hP hD hS dX8_saves_92
  · have hf := tm_iT c_1 hf
    refine lv_iconst (v := 0) hx hb dX8_saves_8 (by decide) ?_
    refine lv_istore_n (lv' := [(1, .int 0), (0, .ref (q0 0))]) hx hb dX8_saves_9 rfl hl (by decide) rfl (fun ls hl => ?_)
    obtain ⟨t_14, ot_14, hf⟩ := tm_bS hf
    refine wX8_saves_10 l D cI cZ cR N q0 C g0 _ _ _ ot_14 ?_ _ _ _ hP hD hS (lv_sub hl [1, 0] rfl)
    intro H locs ls hP hD hS hl
    refine lv_aload_n hx hb dX8_saves_38 rfl (lv_at hl 0 rfl) ?_
    refine lv_dup hx hb dX8_saves_39 rfl ?_
    refine va_get (D := D) (ci := 8) (v := .int (t_14.2 0 2)) (C := RX8) (T := TX8) (N := 18) hx hb hts uX8_saves_X8 hown hK hP 0 rfl rfl 2 (by decide) (hts _ kX8_saves_f60) (fun _ h9 => h9) rfl dX8_saves_40 ?_
    refine lv_iconst (v := 1) hx hb dX8_saves_43 (by decide) ?_
    refine lv_isub hx hb dX8_saves_44 ?_
    refine tm_put (D := D) (ci := 8) (v := .int ((t_14.2 0 2) - 1)) (ty := .int) (C := RX8) (T := TX8) (N := 18) hx hb hts uX8_saves_X8 tyX8 tyX8_ok nmX8 hown hK hP hD hS 0 rfl rfl 2 (by decide) (hts _ kX8_saves_f60) (fun _ h9 => h9) rfl (by decide +kernel) rfl rfl (Nat.le_of_ble_eq_true rfl) dX8_saves_45 (fun z => WX8 cI cZ cR q0 z g0) (tm_upk t_14.2 0 2 ((t_14.2 0 2) - 1)) rfl (fun d0_15 ed0_15 H locs hP hD hS => ?_)
    have hf := tm_at ed0_15 hf
    refine lv_iconst (v := 0) hx hb dX8_saves_48 (by decide) ?_
    refine lv_istore_n (lv' := [(1, .int 0), (0, .ref (q0 0))]) hx hb dX8_saves_49 rfl hl (by decide) rfl (fun ls hl => ?_)
    obtain ⟨t_16, ot_16, hf⟩ := tm_bS hf
    refine wX8_saves_50 l D cI cZ cR N q0 C g0 _ _ _ ot_16 ?_ _ _ _ hP hD hS (lv_sub hl [1, 0] rfl)
    intro H locs ls hP hD hS hl
    refine lv_aload_n hx hb dX8_saves_82 rfl (lv_at hl 0 rfl) ?_
    refine lv_dup hx hb dX8_saves_83 rfl ?_
    refine va_get (D := D) (ci := 8) (v := .int (t_16.2 0 2)) (C := RX8) (T := TX8) (N := 18) hx hb hts uX8_saves_X8 hown hK hP 0 rfl rfl 2 (by decide) (hts _ kX8_saves_f60) (fun _ h9 => h9) rfl dX8_saves_84 ?_
    refine lv_iconst (v := 1) hx hb dX8_saves_87 (by decide) ?_
    refine lv_iadd hx hb dX8_saves_88 ?_
    refine tm_put (D := D) (ci := 8) (v := .int ((t_16.2 0 2) + 1)) (ty := .int) (C := RX8) (T := TX8) (N := 18) hx hb hts uX8_saves_X8 tyX8 tyX8_ok nmX8 hown hK hP hD hS 0 rfl rfl 2 (by decide) (hts _ kX8_saves_f60) (fun _ h9 => h9) rfl (by decide +kernel) rfl rfl (Nat.le_of_ble_eq_true rfl) dX8_saves_89 (fun z => WX8 cI cZ cR q0 z g0) (tm_upk t_16.2 0 2 ((t_16.2 0 2) + 1)) rfl (fun d0_17 ed0_17 H locs hP hD hS => ?_)
    have hf := tm_at ed0_17 hf
    obtain rfl := Option.some.inj hf
    exact hend _ _ _ _ hP hD hS dX8_saves_92
set_option maxHeartbeats 4000000 in
set_option maxRecDepth 100000 in
theorem wX8_undo_26 (l : Launch) (D : va_G) (cI cZ cR : ClassId) (N : Nat) (q0 : Nat → Nat) {p : Program} {e : Env} {s : State} {m : MethodId} {args : Array Value} {below : List Frame} {meth : Method} {c : Code} {A : Nat → Prop} {H0 : Heap} {Q : State → Prop} (C : tm_Cx p s m c args cX8_undo 2 RX8 wsX8_undo D (tm_ty cI cZ cR) A H0) (g0 : Int64) : ∀ (n : Nat) (st : Int32 × tm_M) (o : (Int32 × tm_M)), tm_whl (bX8_undo_26 N) n st = some o → (fun (o : Int32 × tm_M) => ∀ (H : Heap) (locs : List Loc) (ls : Array Slot), va_P D vwCl (WX8 cI cZ cR q0 o.2 g0) H → va_D A (WX8 cI cZ cR q0 o.2 g0) → va_S A H0 H locs → lv_has ls 2 [(0, .ref (q0 0))] → W p l e rmX8_undo s m args below meth c H locs 0 0 Q (F0 m 58 ls [])) o → (fun (st : Int32 × tm_M) => ∀ (H : Heap) (locs : List Loc) (ls : Array Slot), va_P D vwCl (WX8 cI cZ cR q0 st.2 g0) H → va_D A (WX8 cI cZ cR q0 st.2 g0) → va_S A H0 H locs → lv_has ls 2 [(0, .ref (q0 0)), (1, .int st.1)] → W p l e rmX8_undo s m args below meth c H locs 0 0 Q (F0 m 26 ls [])) st := by
  obtain ⟨hx, hb, hml, hown, hts, hK, hA⟩ := id C
  refine tm_whl_W (Wh := fun (st : Int32 × tm_M) => ∀ (H : Heap) (locs : List Loc) (ls : Array Slot), va_P D vwCl (WX8 cI cZ cR q0 st.2 g0) H → va_D A (WX8 cI cZ cR q0 st.2 g0) → va_S A H0 H locs → lv_has ls 2 [(0, .ref (q0 0)), (1, .int st.1)] → W p l e rmX8_undo s m args below meth c H locs 0 0 Q (F0 m 26 ls [])) (Wx := fun (o : Int32 × tm_M) => ∀ (H : Heap) (locs : List Loc) (ls : Array Slot), va_P D vwCl (WX8 cI cZ cR q0 o.2 g0) H → va_D A (WX8 cI cZ cR q0 o.2 g0) → va_S A H0 H locs → lv_has ls 2 [(0, .ref (q0 0))] → W p l e rmX8_undo s m args below meth c H locs 0 0 Q (F0 m 58 ls [])) ?_
  intro st r hf hk H locs ls hP hD hS hl
  unfold bX8_undo_26 at hf
  refine lv_iload_n hx hb dX8_undo_26 rfl (lv_at hl 1 rfl) ?_
  refine lv_bipush (v := 53) hx hb dX8_undo_27 (by decide) ?_
  refine lv_icmp_ge (tgt := 58) hx hb dX8_undo_29 (by decide) (fun c_3 => ?_) (fun c_3 => ?_)
  · have hf := tm_iT c_3 hf
    obtain rfl := Option.some.inj hf
    exact hk _ _ _ hP hD hS (lv_sub hl [0] rfl)
  · have hf := tm_iF c_3 hf
    refine lv_aload_n hx hb dX8_undo_32 rfl (lv_at hl 0 rfl) ?_
    refine va_get (D := D) (ci := 8) (v := .ref (q0 1)) (C := RX8) (T := TX8) (N := 18) hx hb hts uX8_undo_X8 hown hK hP 0 rfl rfl 0 (by decide) (hts _ kX8_undo_f7) (fun _ h9 => h9) rfl dX8_undo_33 ?_
    refine lv_iload_n hx hb dX8_undo_36 rfl (lv_at hl 1 rfl) ?_
    refine lv_aload_n hx hb dX8_undo_37 rfl (lv_at hl 0 rfl) ?_
    refine va_get (D := D) (ci := 8) (v := .ref (q0 2)) (C := RX8) (T := TX8) (N := 18) hx hb hts uX8_undo_X8 hown hK hP 0 rfl rfl 1 (by decide) (hts _ kX8_undo_f13) (fun _ h9 => h9) rfl dX8_undo_38 ?_
    refine lv_bipush (v := 53) hx hb dX8_undo_41 (by decide) ?_
    refine lv_aload_n hx hb dX8_undo_43 rfl (lv_at hl 0 rfl) ?_
    refine va_get (D := D) (ci := 8) (v := .int (st.2 0 2)) (C := RX8) (T := TX8) (N := 18) hx hb hts uX8_undo_X8 hown hK hP 0 rfl rfl 2 (by decide) (hts _ kX8_undo_f60) (fun _ h9 => h9) rfl dX8_undo_44 ?_
    refine lv_imul hx hb dX8_undo_47 ?_
    refine lv_iload_n hx hb dX8_undo_48 rfl (lv_at hl 1 rfl) ?_
    refine lv_iadd hx hb dX8_undo_49 ?_
    obtain ⟨h_4, hf⟩ := tm_gS hf
    refine va_iald hx hb hK hP 2 0 rfl rfl (tm_inb_in h_4) dX8_undo_50 ?_
    obtain ⟨h_5, hf⟩ := tm_gS hf
    refine tm_iast hx hb hK hP hD hS 1 0 rfl rfl (tm_inb_in h_5) dX8_undo_51 (fun z => WX8 cI cZ cR q0 z g0) (tm_upc st.2 1 (upd (st.2 1) st.1.toNatClampNeg (st.2 2 ((53 * (st.2 0 2)) + st.1).toNatClampNeg))) rfl (fun d0_6 ed0_6 H locs hP hD hS => ?_)
    have hf := tm_at ed0_6 hf
    obtain ⟨x_7, ex_7⟩ : ∃ y : Int32, y = st.1 + 1 := ⟨_, rfl⟩
    have hf := tm_at ex_7 hf
    refine lv_iinc (v := x_7) (lv' := [(1, .int x_7), (0, .ref (q0 0))]) hx hb dX8_undo_52 hl (k := 1) rfl (by rw [ex_7]; rfl) (by decide) rfl (fun ls hl => ?_)
    refine lv_goto (tgt := 26) hx hb dX8_undo_55 (by decide) ?_
    obtain rfl := Option.some.inj hf
    exact hk _ _ _ hP hD hS (lv_sub hl [1, 0] rfl)
set_option maxHeartbeats 4000000 in
set_option maxRecDepth 100000 in
theorem tX8_undo (l : Launch) (D : va_G) (cI cZ cR : ClassId) (N : Nat) (q0 : Nat → Nat) (d0 : tm_M) (g0 : Int64) (r0 : Int32) (z0 : tm_M) (hf : fX8_undo N d0 g0 = some (r0, z0)) : tm_CI l D (tm_ty cI cZ cR) yX8_undo wsX8_undo rmX8_undo [.ref (q0 0)] (WX8 cI cZ cR q0 d0 g0) r0 (WX8 cI cZ cR q0 z0 g0) := by
  refine tm_mkI (cc := cX8_undo) (maxL := 2) (ty := .int) (by decide) rfl (Nat.le_of_ble_eq_true rfl) ?_
  intro p e s m below meth c A ls Q C hP hD hS hl hend
  have C : tm_Cx p s m c [.ref (q0 0)].toArray cX8_undo 2 RX8 wsX8_undo D (tm_ty cI cZ cR) A s.heap := C
  obtain ⟨hx, hb, hml, hown, hts, hK, hA⟩ := id C
  have hl : lv_has ls 2 [(0, .ref (q0 0))] := hl
  unfold fX8_undo at hf
  refine lv_aload_n hx hb dX8_undo_0 rfl (lv_at hl 0 rfl) ?_
  refine va_get (D := D) (ci := 8) (v := .int (d0 0 2)) (C := RX8) (T := TX8) (N := 18) hx hb hts uX8_undo_X8 hown hK hP 0 rfl rfl 2 (by decide) (hts _ kX8_undo_f60) (fun _ h9 => h9) rfl dX8_undo_1 ?_
  refine lv_if_ne (tgt := 14) hx hb dX8_undo_4 (by decide) (fun c_1 => ?_) (fun c_1 => ?_)
  · have hf := tm_iF c_1 hf
    refine lv_aload_n hx hb dX8_undo_14 rfl (lv_at hl 0 rfl) ?_
    refine lv_dup hx hb dX8_undo_15 rfl ?_
    refine va_get (D := D) (ci := 8) (v := .int (d0 0 2)) (C := RX8) (T := TX8) (N := 18) hx hb hts uX8_undo_X8 hown hK hP 0 rfl rfl 2 (by decide) (hts _ kX8_undo_f60) (fun _ h9 => h9) rfl dX8_undo_16 ?_
    refine lv_iconst (v := 1) hx hb dX8_undo_19 (by decide) ?_
    refine lv_isub hx hb dX8_undo_20 ?_
    refine tm_put (D := D) (ci := 8) (v := .int ((d0 0 2) - 1)) (ty := .int) (C := RX8) (T := TX8) (N := 18) hx hb hts uX8_undo_X8 tyX8 tyX8_ok nmX8 hown hK hP hD hS 0 rfl rfl 2 (by decide) (hts _ kX8_undo_f60) (fun _ h9 => h9) rfl (by decide +kernel) rfl rfl (Nat.le_of_ble_eq_true rfl) dX8_undo_21 (fun z => WX8 cI cZ cR q0 z g0) (tm_upk d0 0 2 ((d0 0 2) - 1)) rfl (fun d0_2 ed0_2 H locs hP hD hS => ?_)
    have hf := tm_at ed0_2 hf
    refine lv_iconst (v := 0) hx hb dX8_undo_24 (by decide) ?_
    refine lv_istore_n (lv' := [(1, .int 0), (0, .ref (q0 0))]) hx hb dX8_undo_25 rfl hl (by decide) rfl (fun ls hl => ?_)
    obtain ⟨t_8, ot_8, hf⟩ := tm_bS hf
    refine wX8_undo_26 l D cI cZ cR N q0 C g0 _ _ _ ot_8 ?_ _ _ _ hP hD hS (lv_sub hl [1, 0] rfl)
    intro H locs ls hP hD hS hl
    refine lv_aload_n hx hb dX8_undo_58 rfl (lv_at hl 0 rfl) ?_
    refine va_get (D := D) (ci := 8) (v := .int (t_8.2 0 2)) (C := RX8) (T := TX8) (N := 18) hx hb hts uX8_undo_X8 hown hK hP 0 rfl rfl 2 (by decide) (hts _ kX8_undo_f60) (fun _ h9 => h9) rfl dX8_undo_59 ?_
    simp only [Option.some.injEq, Prod.mk.injEq] at hf
    obtain ⟨rfl, rfl⟩ := hf
    exact hend _ _ _ _ hP hD hS rfl dX8_undo_62
  · have hf := tm_iT c_1 hf
    refine lv_aload_n hx hb dX8_undo_7 rfl (lv_at hl 0 rfl) ?_
    refine lv_bipush (v := (-3)) hx hb dX8_undo_8 (by decide) ?_
    obtain ⟨t_9, ot_9, hf⟩ := tm_bS hf
    refine tm_cVI (As := [.int ((-3))]) (rest := []) ⟨hx, hb, hml, hown, hts⟩ (tX8_fails l D cI cZ cR N q0 d0 g0 ((-3) : Int32) t_9.1 t_9.2 ot_9) (cwV 1 hts gX8_undo_X8_fails rfl rfl rfl hdwsV_X8_fails ⟨Nat.le_of_ble_eq_true rfl, Nat.le_of_ble_eq_true rfl⟩) hK hP hD hS hA [0, 1, 2, 3, 4, 5, 6, 7, 8, 9, 10, 11, 12, 13, 14, 15] (by decide) rfl rfl (ci := 8) rfl rfl rfl (fun _ => WX8 cI cZ cR q0 t_9.2 g0) (()) rfl rfl hl.1 rfl (Nat.le_of_ble_eq_true rfl) dX8_undo_10 ⟨Nat.zero_le _, Nat.zero_le _⟩ (fun _ _ H locs hP hD hS => ?_)
    simp only [Option.some.injEq, Prod.mk.injEq] at hf
    obtain ⟨rfl, rfl⟩ := hf
    exact hend _ _ _ _ hP hD hS rfl dX8_undo_13
set_option maxHeartbeats 4000000 in
set_option maxRecDepth 100000 in
theorem wX8_childMany_4 (l : Launch) (D : va_G) (cI cZ cR : ClassId) (N : Nat) (q0 : Nat → Nat) {p : Program} {e : Env} {s : State} {m : MethodId} {args : Array Value} {below : List Frame} {meth : Method} {c : Code} {A : Nat → Prop} {H0 : Heap} {Q : State → Prop} (C : tm_Cx p s m c args cX8_childMany 4 RX8 wsX8_childMany D (tm_ty cI cZ cR) A H0) (d0 : tm_M) (g0 : Int64) (v1 : Int32) : ∀ (n : Nat) (st : Int32 × Int32) (o : (Int32 × Int32)), tm_whl (bX8_childMany_4 N d0 v1) n st = some o → (fun (o : Int32 × Int32) => ∀ (H : Heap) (locs : List Loc) (ls : Array Slot), va_P D vwCl (WX8 cI cZ cR q0 d0 g0) H → va_D A (WX8 cI cZ cR q0 d0 g0) → va_S A H0 H locs → lv_has ls 4 [(2, .int o.1)] → W p l e rmX8_childMany s m args below meth c H locs 0 0 Q (F0 m 41 ls [])) o → (fun (st : Int32 × Int32) => ∀ (H : Heap) (locs : List Loc) (ls : Array Slot), va_P D vwCl (WX8 cI cZ cR q0 d0 g0) H → va_D A (WX8 cI cZ cR q0 d0 g0) → va_S A H0 H locs → lv_has ls 4 [(0, .ref (q0 0)), (1, .int v1), (2, .int st.1), (3, .int st.2)] → W p l e rmX8_childMany s m args below meth c H locs 0 0 Q (F0 m 4 ls [])) st := by
  obtain ⟨hx, hb, hml, hown, hts, hK, hA⟩ := id C
  refine tm_whl_W (Wh := fun (st : Int32 × Int32) => ∀ (H : Heap) (locs : List Loc) (ls : Array Slot), va_P D vwCl (WX8 cI cZ cR q0 d0 g0) H → va_D A (WX8 cI cZ cR q0 d0 g0) → va_S A H0 H locs → lv_has ls 4 [(0, .ref (q0 0)), (1, .int v1), (2, .int st.1), (3, .int st.2)] → W p l e rmX8_childMany s m args below meth c H locs 0 0 Q (F0 m 4 ls [])) (Wx := fun (o : Int32 × Int32) => ∀ (H : Heap) (locs : List Loc) (ls : Array Slot), va_P D vwCl (WX8 cI cZ cR q0 d0 g0) H → va_D A (WX8 cI cZ cR q0 d0 g0) → va_S A H0 H locs → lv_has ls 4 [(2, .int o.1)] → W p l e rmX8_childMany s m args below meth c H locs 0 0 Q (F0 m 41 ls [])) ?_
  intro st r hf hk H locs ls hP hD hS hl
  unfold bX8_childMany_4 at hf
  refine lv_iload_n hx hb dX8_childMany_4 rfl (lv_at hl 3 rfl) ?_
  refine lv_aload_n hx hb dX8_childMany_5 rfl (lv_at hl 0 rfl) ?_
  refine va_get (D := D) (ci := 8) (v := .ref (q0 1)) (C := RX8) (T := TX8) (N := 18) hx hb hts uX8_childMany_X8 hown hK hP 0 rfl rfl 0 (by decide) (hts _ kX8_childMany_f7) (fun _ h9 => h9) rfl dX8_childMany_6 ?_
  refine lv_iconst (v := 0) hx hb dX8_childMany_9 (by decide) ?_
  refine va_iald hx hb hK hP 1 0 rfl rfl (tm_inb_in (by decide)) dX8_childMany_10 ?_
  refine lv_icmp_ge (tgt := 41) hx hb dX8_childMany_11 (by decide) (fun c_1 => ?_) (fun c_1 => ?_)
  · have hf := tm_iT c_1 hf
    obtain rfl := Option.some.inj hf
    exact hk _ _ _ hP hD hS (lv_sub hl [2] rfl)
  · have hf := tm_iF c_1 hf
    refine lv_iload_n hx hb dX8_childMany_14 rfl (lv_at hl 2 rfl) ?_
    refine lv_aload_n hx hb dX8_childMany_15 rfl (lv_at hl 0 rfl) ?_
    refine va_get (D := D) (ci := 8) (v := .ref (q0 1)) (C := RX8) (T := TX8) (N := 18) hx hb hts uX8_childMany_X8 hown hK hP 0 rfl rfl 0 (by decide) (hts _ kX8_childMany_f7) (fun _ h9 => h9) rfl dX8_childMany_16 ?_
    refine lv_bipush (v := 29) hx hb dX8_childMany_19 (by decide) ?_
    refine lv_iload_n hx hb dX8_childMany_21 rfl (lv_at hl 3 rfl) ?_
    refine lv_iadd hx hb dX8_childMany_22 ?_
    obtain ⟨h_2, hf⟩ := tm_gS hf
    refine va_iald hx hb hK hP 1 0 rfl rfl (tm_inb_in h_2) dX8_childMany_23 ?_
    refine lv_iload_n hx hb dX8_childMany_24 rfl (lv_at hl 1 rfl) ?_
    refine lv_icmp_ne (tgt := 32) hx hb dX8_childMany_25 (by decide) (fun c_3 => ?_) (fun c_3 => ?_)
    · have hf := tm_iF c_3 hf
      refine lv_iconst (v := 0) hx hb dX8_childMany_32 (by decide) ?_
      refine lv_iadd hx hb dX8_childMany_33 ?_
      refine lv_topi (fun x_4 ex_4 => ?_)
      have hf := tm_at ex_4 hf
      refine lv_istore_n (lv' := [(2, .int x_4), (0, .ref (q0 0)), (1, .int v1), (3, .int st.2)]) hx hb dX8_childMany_34 rfl hl (by decide) rfl (fun ls hl => ?_)
      obtain ⟨x_5, ex_5⟩ : ∃ y : Int32, y = st.2 + 1 := ⟨_, rfl⟩
      have hf := tm_at ex_5 hf
      refine lv_iinc (v := x_5) (lv' := [(3, .int x_5), (2, .int x_4), (0, .ref (q0 0)), (1, .int v1)]) hx hb dX8_childMany_35 hl (k := 3) rfl (by rw [ex_5]; rfl) (by decide) rfl (fun ls hl => ?_)
      refine lv_goto (tgt := 4) hx hb dX8_childMany_38 (by decide) ?_
      obtain rfl := Option.some.inj hf
      exact hk _ _ _ hP hD hS (lv_sub hl [2, 3, 1, 0] rfl)
    · have hf := tm_iT c_3 hf
      refine lv_iconst (v := 1) hx hb dX8_childMany_28 (by decide) ?_
      refine lv_goto (tgt := 33) hx hb dX8_childMany_29 (by decide) ?_
      refine lv_iadd hx hb dX8_childMany_33 ?_
      refine lv_topi (fun x_6 ex_6 => ?_)
      have hf := tm_at ex_6 hf
      refine lv_istore_n (lv' := [(2, .int x_6), (0, .ref (q0 0)), (1, .int v1), (3, .int st.2)]) hx hb dX8_childMany_34 rfl hl (by decide) rfl (fun ls hl => ?_)
      obtain ⟨x_7, ex_7⟩ : ∃ y : Int32, y = st.2 + 1 := ⟨_, rfl⟩
      have hf := tm_at ex_7 hf
      refine lv_iinc (v := x_7) (lv' := [(3, .int x_7), (2, .int x_6), (0, .ref (q0 0)), (1, .int v1)]) hx hb dX8_childMany_35 hl (k := 3) rfl (by rw [ex_7]; rfl) (by decide) rfl (fun ls hl => ?_)
      refine lv_goto (tgt := 4) hx hb dX8_childMany_38 (by decide) ?_
      obtain rfl := Option.some.inj hf
      exact hk _ _ _ hP hD hS (lv_sub hl [2, 3, 1, 0] rfl)
set_option maxHeartbeats 4000000 in
set_option maxRecDepth 100000 in
theorem tX8_childMany (l : Launch) (D : va_G) (cI cZ cR : ClassId) (N : Nat) (q0 : Nat → Nat) (d0 : tm_M) (g0 : Int64) (p1 : Int32) (r0 : Int32) (hf : fX8_childMany N d0 g0 p1 = some r0) : tm_CI l D (tm_ty cI cZ cR) yX8_childMany wsX8_childMany rmX8_childMany [.ref (q0 0), .int p1] (WX8 cI cZ cR q0 d0 g0) r0 (WX8 cI cZ cR q0 d0 g0) := by
  refine tm_mkI (cc := cX8_childMany) (maxL := 4) (ty := .int) (by decide) rfl (Nat.le_of_ble_eq_true rfl) ?_
  intro p e s m below meth c A ls Q C hP hD hS hl hend
  have C : tm_Cx p s m c [.ref (q0 0), .int p1].toArray cX8_childMany 4 RX8 wsX8_childMany D (tm_ty cI cZ cR) A s.heap := C
  obtain ⟨hx, hb, hml, hown, hts, hK, hA⟩ := id C
  have hl : lv_has ls 4 [(0, .ref (q0 0)), (1, .int p1)] := hl
  unfold fX8_childMany at hf
  refine lv_iconst (v := 0) hx hb dX8_childMany_0 (by decide) ?_
  refine lv_istore_n (lv' := [(2, .int 0), (0, .ref (q0 0)), (1, .int p1)]) hx hb dX8_childMany_1 rfl hl (by decide) rfl (fun ls hl => ?_)
  refine lv_iconst (v := 0) hx hb dX8_childMany_2 (by decide) ?_
  refine lv_istore_n (lv' := [(3, .int 0), (2, .int 0), (0, .ref (q0 0)), (1, .int p1)]) hx hb dX8_childMany_3 rfl hl (by decide) rfl (fun ls hl => ?_)
  obtain ⟨t_8, ot_8, hf⟩ := tm_bS hf
  refine wX8_childMany_4 l D cI cZ cR N q0 C d0 g0 p1 _ _ _ ot_8 ?_ _ _ _ hP hD hS (lv_sub hl [2, 3, 1, 0] rfl)
  intro H locs ls hP hD hS hl
  refine lv_iload_n hx hb dX8_childMany_41 rfl (lv_at hl 0 rfl) ?_
  obtain rfl := Option.some.inj hf
  exact hend _ _ _ _ hP hD hS rfl dX8_childMany_42
set_option maxHeartbeats 4000000 in
set_option maxRecDepth 100000 in
theorem wX8_isUnder_2 (l : Launch) (D : va_G) (cI cZ cR : ClassId) (N : Nat) (q0 : Nat → Nat) {p : Program} {e : Env} {s : State} {m : MethodId} {args : Array Value} {below : List Frame} {meth : Method} {c : Code} {A : Nat → Prop} {H0 : Heap} {Q : State → Prop} (C : tm_Cx p s m c args cX8_isUnder 4 RX8 wsX8_isUnder D (tm_ty cI cZ cR) A H0) (d0 : tm_M) (g0 : Int64) (v2 : Int32) : ∀ (n : Nat) (st : Int32) (o : (Int32)), tm_whl (bX8_isUnder_2 N d0 v2) n st = some o → (fun (o : Int32) => ∀ (H : Heap) (locs : List Loc) (ls : Array Slot), va_P D vwCl (WX8 cI cZ cR q0 d0 g0) H → va_D A (WX8 cI cZ cR q0 d0 g0) → va_S A H0 H locs → lv_has ls 4 [(2, .int v2), (3, .int o)] → W p l e rmX8_isUnder s m args below meth c H locs 0 0 Q (F0 m 25 ls [])) o → (fun (st : Int32) => ∀ (H : Heap) (locs : List Loc) (ls : Array Slot), va_P D vwCl (WX8 cI cZ cR q0 d0 g0) H → va_D A (WX8 cI cZ cR q0 d0 g0) → va_S A H0 H locs → lv_has ls 4 [(0, .ref (q0 0)), (2, .int v2), (3, .int st)] → W p l e rmX8_isUnder s m args below meth c H locs 0 0 Q (F0 m 2 ls [])) st := by
  obtain ⟨hx, hb, hml, hown, hts, hK, hA⟩ := id C
  refine tm_whl_W (Wh := fun (st : Int32) => ∀ (H : Heap) (locs : List Loc) (ls : Array Slot), va_P D vwCl (WX8 cI cZ cR q0 d0 g0) H → va_D A (WX8 cI cZ cR q0 d0 g0) → va_S A H0 H locs → lv_has ls 4 [(0, .ref (q0 0)), (2, .int v2), (3, .int st)] → W p l e rmX8_isUnder s m args below meth c H locs 0 0 Q (F0 m 2 ls [])) (Wx := fun (o : Int32) => ∀ (H : Heap) (locs : List Loc) (ls : Array Slot), va_P D vwCl (WX8 cI cZ cR q0 d0 g0) H → va_D A (WX8 cI cZ cR q0 d0 g0) → va_S A H0 H locs → lv_has ls 4 [(2, .int v2), (3, .int o)] → W p l e rmX8_isUnder s m args below meth c H locs 0 0 Q (F0 m 25 ls [])) ?_
  intro st r hf hk H locs ls hP hD hS hl
  unfold bX8_isUnder_2 at hf
  refine lv_iload_n hx hb dX8_isUnder_2 rfl (lv_at hl 2 rfl) ?_
  refine lv_iload_n hx hb dX8_isUnder_3 rfl (lv_at hl 1 rfl) ?_
  refine lv_icmp_eq (tgt := 25) hx hb dX8_isUnder_4 (by decide) (fun c_1 => ?_) (fun c_1 => ?_)
  · have hf := tm_iT c_1 hf
    obtain rfl := Option.some.inj hf
    exact hk _ _ _ hP hD hS (lv_sub hl [1, 2] rfl)
  · have hf := tm_iF c_1 hf
    refine lv_iload_n hx hb dX8_isUnder_7 rfl (lv_at hl 2 rfl) ?_
    refine lv_iconst (v := (-1)) hx hb dX8_isUnder_8 (by decide) ?_
    refine lv_icmp_eq (tgt := 25) hx hb dX8_isUnder_9 (by decide) (fun c_2 => ?_) (fun c_2 => ?_)
    · have hf := tm_iT c_2 hf
      obtain rfl := Option.some.inj hf
      exact hk _ _ _ hP hD hS (lv_sub hl [1, 2] rfl)
    · have hf := tm_iF c_2 hf
      refine lv_aload_n hx hb dX8_isUnder_12 rfl (lv_at hl 0 rfl) ?_
      refine va_get (D := D) (ci := 8) (v := .ref (q0 1)) (C := RX8) (T := TX8) (N := 18) hx hb hts uX8_isUnder_X8 hown hK hP 0 rfl rfl 0 (by decide) (hts _ kX8_isUnder_f7) (fun _ h9 => h9) rfl dX8_isUnder_13 ?_
      refine lv_bipush (v := 29) hx hb dX8_isUnder_16 (by decide) ?_
      refine lv_iload_n hx hb dX8_isUnder_18 rfl (lv_at hl 2 rfl) ?_
      refine lv_iadd hx hb dX8_isUnder_19 ?_
      obtain ⟨h_3, hf⟩ := tm_gS hf
      refine va_iald hx hb hK hP 1 0 rfl rfl (tm_inb_in h_3) dX8_isUnder_20 ?_
      refine lv_topi (fun x_4 ex_4 => ?_)
      have hf := tm_at ex_4 hf
      refine lv_istore_n (lv' := [(3, .int x_4), (0, .ref (q0 0)), (2, .int v2)]) hx hb dX8_isUnder_21 rfl hl (by decide) rfl (fun ls hl => ?_)
      refine lv_goto (tgt := 2) hx hb dX8_isUnder_22 (by decide) ?_
      obtain rfl := Option.some.inj hf
      exact hk _ _ _ hP hD hS (lv_sub hl [1, 2, 0] rfl)
set_option maxHeartbeats 4000000 in
set_option maxRecDepth 100000 in
theorem tX8_isUnder (l : Launch) (D : va_G) (cI cZ cR : ClassId) (N : Nat) (q0 : Nat → Nat) (d0 : tm_M) (g0 : Int64) (p1 : Int32) (p2 : Int32) (r0 : Int32) (hf : fX8_isUnder N d0 g0 p1 p2 = some r0) : tm_CI l D (tm_ty cI cZ cR) yX8_isUnder wsX8_isUnder rmX8_isUnder [.ref (q0 0), .int p1, .int p2] (WX8 cI cZ cR q0 d0 g0) r0 (WX8 cI cZ cR q0 d0 g0) := by
  refine tm_mkI (cc := cX8_isUnder) (maxL := 4) (ty := .boolean) (by decide) rfl (Nat.le_of_ble_eq_true rfl) ?_
  intro p e s m below meth c A ls Q C hP hD hS hl hend
  have C : tm_Cx p s m c [.ref (q0 0), .int p1, .int p2].toArray cX8_isUnder 4 RX8 wsX8_isUnder D (tm_ty cI cZ cR) A s.heap := C
  obtain ⟨hx, hb, hml, hown, hts, hK, hA⟩ := id C
  have hl : lv_has ls 4 [(0, .ref (q0 0)), (1, .int p1), (2, .int p2)] := hl
  unfold fX8_isUnder at hf
  refine lv_iload_n hx hb dX8_isUnder_0 rfl (lv_at hl 1 rfl) ?_
  refine lv_istore_n (lv' := [(3, .int p1), (0, .ref (q0 0)), (1, .int p1), (2, .int p2)]) hx hb dX8_isUnder_1 rfl hl (by decide) rfl (fun ls hl => ?_)
  obtain ⟨t_5, ot_5, hf⟩ := tm_bS hf
  refine wX8_isUnder_2 l D cI cZ cR N q0 C d0 g0 p2 _ _ _ ot_5 ?_ _ _ _ hP hD hS (lv_sub hl [1, 3, 0] rfl)
  intro H locs ls hP hD hS hl
  refine lv_iload_n hx hb dX8_isUnder_25 rfl (lv_at hl 1 rfl) ?_
  refine lv_iload_n hx hb dX8_isUnder_26 rfl (lv_at hl 0 rfl) ?_
  refine lv_icmp_ne (tgt := 34) hx hb dX8_isUnder_27 (by decide) (fun c_6 => ?_) (fun c_6 => ?_)
  · have hf := tm_iF c_6 hf
    refine lv_iconst (v := 0) hx hb dX8_isUnder_34 (by decide) ?_
    obtain rfl := Option.some.inj hf
    exact hend _ _ _ _ hP hD hS (by decide) dX8_isUnder_35
  · have hf := tm_iT c_6 hf
    refine lv_iconst (v := 1) hx hb dX8_isUnder_30 (by decide) ?_
    refine lv_goto (tgt := 35) hx hb dX8_isUnder_31 (by decide) ?_
    obtain rfl := Option.some.inj hf
    exact hend _ _ _ _ hP hD hS (by decide) dX8_isUnder_35
set_option maxHeartbeats 4000000 in
set_option maxRecDepth 100000 in
theorem wX8_sizeOf_4 (l : Launch) (D : va_G) (cI cZ cR : ClassId) (N : Nat) (q0 : Nat → Nat) {p : Program} {e : Env} {s : State} {m : MethodId} {args : Array Value} {below : List Frame} {meth : Method} {c : Code} {A : Nat → Prop} {H0 : Heap} {Q : State → Prop} (C : tm_Cx p s m c args cX8_sizeOf 4 RX8 wsX8_sizeOf D (tm_ty cI cZ cR) A H0) (d0 : tm_M) (g0 : Int64) (v1 : Int32) : ∀ (n : Nat) (st : Int32 × Int32) (o : (Int32 × Int32)), tm_whl (bX8_sizeOf_4 N d0 g0 v1) n st = some o → (fun (o : Int32 × Int32) => ∀ (H : Heap) (locs : List Loc) (ls : Array Slot), va_P D vwCl (WX8 cI cZ cR q0 d0 g0) H → va_D A (WX8 cI cZ cR q0 d0 g0) → va_S A H0 H locs → lv_has ls 4 [(2, .int o.1)] → W p l e rmX8_sizeOf s m args below meth c H locs 0 0 Q (F0 m 52 ls [])) o → (fun (st : Int32 × Int32) => ∀ (H : Heap) (locs : List Loc) (ls : Array Slot), va_P D vwCl (WX8 cI cZ cR q0 d0 g0) H → va_D A (WX8 cI cZ cR q0 d0 g0) → va_S A H0 H locs → lv_has ls 4 [(0, .ref (q0 0)), (1, .int v1), (2, .int st.1), (3, .int st.2)] → W p l e rmX8_sizeOf s m args below meth c H locs 0 0 Q (F0 m 4 ls [])) st := by
  obtain ⟨hx, hb, hml, hown, hts, hK, hA⟩ := id C
  refine tm_whl_W (Wh := fun (st : Int32 × Int32) => ∀ (H : Heap) (locs : List Loc) (ls : Array Slot), va_P D vwCl (WX8 cI cZ cR q0 d0 g0) H → va_D A (WX8 cI cZ cR q0 d0 g0) → va_S A H0 H locs → lv_has ls 4 [(0, .ref (q0 0)), (1, .int v1), (2, .int st.1), (3, .int st.2)] → W p l e rmX8_sizeOf s m args below meth c H locs 0 0 Q (F0 m 4 ls [])) (Wx := fun (o : Int32 × Int32) => ∀ (H : Heap) (locs : List Loc) (ls : Array Slot), va_P D vwCl (WX8 cI cZ cR q0 d0 g0) H → va_D A (WX8 cI cZ cR q0 d0 g0) → va_S A H0 H locs → lv_has ls 4 [(2, .int o.1)] → W p l e rmX8_sizeOf s m args below meth c H locs 0 0 Q (F0 m 52 ls [])) ?_
  intro st r hf hk H locs ls hP hD hS hl
  unfold bX8_sizeOf_4 at hf
  refine lv_iload_n hx hb dX8_sizeOf_4 rfl (lv_at hl 3 rfl) ?_
  refine lv_aload_n hx hb dX8_sizeOf_5 rfl (lv_at hl 0 rfl) ?_
  refine va_get (D := D) (ci := 8) (v := .ref (q0 1)) (C := RX8) (T := TX8) (N := 18) hx hb hts uX8_sizeOf_X8 hown hK hP 0 rfl rfl 0 (by decide) (hts _ kX8_sizeOf_f7) (fun _ h9 => h9) rfl dX8_sizeOf_6 ?_
  refine lv_iconst (v := 0) hx hb dX8_sizeOf_9 (by decide) ?_
  refine va_iald hx hb hK hP 1 0 rfl rfl (tm_inb_in (by decide)) dX8_sizeOf_10 ?_
  refine lv_icmp_ge (tgt := 52) hx hb dX8_sizeOf_11 (by decide) (fun c_1 => ?_) (fun c_1 => ?_)
  · have hf := tm_iT c_1 hf
    obtain rfl := Option.some.inj hf
    exact hk _ _ _ hP hD hS (lv_sub hl [2] rfl)
  · have hf := tm_iF c_1 hf
    refine lv_iload_n hx hb dX8_sizeOf_14 rfl (lv_at hl 2 rfl) ?_
    refine lv_aload_n hx hb dX8_sizeOf_15 rfl (lv_at hl 0 rfl) ?_
    refine lv_iload_n hx hb dX8_sizeOf_16 rfl (lv_at hl 3 rfl) ?_
    obtain ⟨t_2, ot_2, hf⟩ := tm_bS hf
    refine tm_cVI (As := [.int st.2]) (rest := [.int st.1]) ⟨hx, hb, hml, hown, hts⟩ (tX8_childMany l D cI cZ cR N q0 d0 g0 st.2 t_2 ot_2) (cwV 1 hts gX8_sizeOf_X8_childMany rfl rfl rfl hdwsV_X8_childMany ⟨Nat.le_of_ble_eq_true rfl, Nat.le_of_ble_eq_true rfl⟩) hK hP hD hS hA [0, 1, 2, 3, 4, 5, 6, 7, 8, 9, 10, 11, 12, 13, 14, 15] (by decide) rfl rfl (ci := 8) rfl rfl rfl (fun _ => WX8 cI cZ cR q0 d0 g0) (()) rfl rfl hl.1 rfl (Nat.le_of_ble_eq_true rfl) dX8_sizeOf_17 ⟨Nat.zero_le _, Nat.zero_le _⟩ (fun _ _ H locs hP hD hS => ?_)
    refine lv_if_ne (tgt := 43) hx hb dX8_sizeOf_20 (by decide) (fun c_3 => ?_) (fun c_3 => ?_)
    · have hf := tm_iF c_3 hf
      refine lv_iconst (v := 0) hx hb dX8_sizeOf_43 (by decide) ?_
      refine lv_iadd hx hb dX8_sizeOf_44 ?_
      refine lv_topi (fun x_4 ex_4 => ?_)
      have hf := tm_at ex_4 hf
      refine lv_istore_n (lv' := [(2, .int x_4), (0, .ref (q0 0)), (1, .int v1), (3, .int st.2)]) hx hb dX8_sizeOf_45 rfl hl (by decide) rfl (fun ls hl => ?_)
      obtain ⟨x_5, ex_5⟩ : ∃ y : Int32, y = st.2 + 1 := ⟨_, rfl⟩
      have hf := tm_at ex_5 hf
      refine lv_iinc (v := x_5) (lv' := [(3, .int x_5), (2, .int x_4), (0, .ref (q0 0)), (1, .int v1)]) hx hb dX8_sizeOf_46 hl (k := 3) rfl (by rw [ex_5]; rfl) (by decide) rfl (fun ls hl => ?_)
      refine lv_goto (tgt := 4) hx hb dX8_sizeOf_49 (by decide) ?_
      obtain rfl := Option.some.inj hf
      exact hk _ _ _ hP hD hS (lv_sub hl [2, 3, 1, 0] rfl)
    · have hf := tm_iT c_3 hf
      refine lv_aload_n hx hb dX8_sizeOf_23 rfl (lv_at hl 0 rfl) ?_
      refine lv_iload_n hx hb dX8_sizeOf_24 rfl (lv_at hl 3 rfl) ?_
      refine lv_iload_n hx hb dX8_sizeOf_25 rfl (lv_at hl 1 rfl) ?_
      obtain ⟨t_6, ot_6, hf⟩ := tm_bS hf
      refine tm_cVI (As := [.int st.2, .int v1]) (rest := [.int st.1]) ⟨hx, hb, hml, hown, hts⟩ (tX8_isUnder l D cI cZ cR N q0 d0 g0 st.2 v1 t_6 ot_6) (cwV 2 hts gX8_sizeOf_X8_isUnder rfl rfl rfl hdwsV_X8_isUnder ⟨Nat.le_of_ble_eq_true rfl, Nat.le_of_ble_eq_true rfl⟩) hK hP hD hS hA [0, 1, 2, 3, 4, 5, 6, 7, 8, 9, 10, 11, 12, 13, 14, 15] (by decide) rfl rfl (ci := 8) rfl rfl rfl (fun _ => WX8 cI cZ cR q0 d0 g0) (()) rfl rfl hl.1 rfl (Nat.le_of_ble_eq_true rfl) dX8_sizeOf_26 ⟨Nat.zero_le _, Nat.zero_le _⟩ (fun _ _ H locs hP hD hS => ?_)
      refine lv_if_eq (tgt := 43) hx hb dX8_sizeOf_29 (by decide) (fun c_7 => ?_) (fun c_7 => ?_)
      · have hf := tm_iT c_7 hf
        refine lv_iconst (v := 0) hx hb dX8_sizeOf_43 (by decide) ?_
        refine lv_iadd hx hb dX8_sizeOf_44 ?_
        refine lv_topi (fun x_8 ex_8 => ?_)
        have hf := tm_at ex_8 hf
        refine lv_istore_n (lv' := [(2, .int x_8), (0, .ref (q0 0)), (1, .int v1), (3, .int st.2)]) hx hb dX8_sizeOf_45 rfl hl (by decide) rfl (fun ls hl => ?_)
        obtain ⟨x_9, ex_9⟩ : ∃ y : Int32, y = st.2 + 1 := ⟨_, rfl⟩
        have hf := tm_at ex_9 hf
        refine lv_iinc (v := x_9) (lv' := [(3, .int x_9), (2, .int x_8), (0, .ref (q0 0)), (1, .int v1)]) hx hb dX8_sizeOf_46 hl (k := 3) rfl (by rw [ex_9]; rfl) (by decide) rfl (fun ls hl => ?_)
        refine lv_goto (tgt := 4) hx hb dX8_sizeOf_49 (by decide) ?_
        obtain rfl := Option.some.inj hf
        exact hk _ _ _ hP hD hS (lv_sub hl [2, 3, 1, 0] rfl)
      · have hf := tm_iF c_7 hf
        refine lv_aload_n hx hb dX8_sizeOf_32 rfl (lv_at hl 0 rfl) ?_
        refine va_get (D := D) (ci := 8) (v := .ref (q0 1)) (C := RX8) (T := TX8) (N := 18) hx hb hts uX8_sizeOf_X8 hown hK hP 0 rfl rfl 0 (by decide) (hts _ kX8_sizeOf_f7) (fun _ h9 => h9) rfl dX8_sizeOf_33 ?_
        refine lv_iconst (v := 5) hx hb dX8_sizeOf_36 (by decide) ?_
        refine lv_iload_n hx hb dX8_sizeOf_37 rfl (lv_at hl 3 rfl) ?_
        refine lv_iadd hx hb dX8_sizeOf_38 ?_
        obtain ⟨h_10, hf⟩ := tm_gS hf
        refine va_iald hx hb hK hP 1 0 rfl rfl (tm_inb_in h_10) dX8_sizeOf_39 ?_
        refine lv_goto (tgt := 44) hx hb dX8_sizeOf_40 (by decide) ?_
        refine lv_iadd hx hb dX8_sizeOf_44 ?_
        refine lv_topi (fun x_11 ex_11 => ?_)
        have hf := tm_at ex_11 hf
        refine lv_istore_n (lv' := [(2, .int x_11), (0, .ref (q0 0)), (1, .int v1), (3, .int st.2)]) hx hb dX8_sizeOf_45 rfl hl (by decide) rfl (fun ls hl => ?_)
        obtain ⟨x_12, ex_12⟩ : ∃ y : Int32, y = st.2 + 1 := ⟨_, rfl⟩
        have hf := tm_at ex_12 hf
        refine lv_iinc (v := x_12) (lv' := [(3, .int x_12), (2, .int x_11), (0, .ref (q0 0)), (1, .int v1)]) hx hb dX8_sizeOf_46 hl (k := 3) rfl (by rw [ex_12]; rfl) (by decide) rfl (fun ls hl => ?_)
        refine lv_goto (tgt := 4) hx hb dX8_sizeOf_49 (by decide) ?_
        obtain rfl := Option.some.inj hf
        exact hk _ _ _ hP hD hS (lv_sub hl [2, 3, 1, 0] rfl)
set_option maxHeartbeats 4000000 in
set_option maxRecDepth 100000 in
theorem tX8_sizeOf (l : Launch) (D : va_G) (cI cZ cR : ClassId) (N : Nat) (q0 : Nat → Nat) (d0 : tm_M) (g0 : Int64) (p1 : Int32) (r0 : Int32) (hf : fX8_sizeOf N d0 g0 p1 = some r0) : tm_CI l D (tm_ty cI cZ cR) yX8_sizeOf wsX8_sizeOf rmX8_sizeOf [.ref (q0 0), .int p1] (WX8 cI cZ cR q0 d0 g0) r0 (WX8 cI cZ cR q0 d0 g0) := by
  refine tm_mkI (cc := cX8_sizeOf) (maxL := 4) (ty := .int) (by decide) rfl (Nat.le_of_ble_eq_true rfl) ?_
  intro p e s m below meth c A ls Q C hP hD hS hl hend
  have C : tm_Cx p s m c [.ref (q0 0), .int p1].toArray cX8_sizeOf 4 RX8 wsX8_sizeOf D (tm_ty cI cZ cR) A s.heap := C
  obtain ⟨hx, hb, hml, hown, hts, hK, hA⟩ := id C
  have hl : lv_has ls 4 [(0, .ref (q0 0)), (1, .int p1)] := hl
  unfold fX8_sizeOf at hf
  refine lv_iconst (v := 0) hx hb dX8_sizeOf_0 (by decide) ?_
  refine lv_istore_n (lv' := [(2, .int 0), (0, .ref (q0 0)), (1, .int p1)]) hx hb dX8_sizeOf_1 rfl hl (by decide) rfl (fun ls hl => ?_)
  refine lv_iconst (v := 0) hx hb dX8_sizeOf_2 (by decide) ?_
  refine lv_istore_n (lv' := [(3, .int 0), (2, .int 0), (0, .ref (q0 0)), (1, .int p1)]) hx hb dX8_sizeOf_3 rfl hl (by decide) rfl (fun ls hl => ?_)
  obtain ⟨t_13, ot_13, hf⟩ := tm_bS hf
  refine wX8_sizeOf_4 l D cI cZ cR N q0 C d0 g0 p1 _ _ _ ot_13 ?_ _ _ _ hP hD hS (lv_sub hl [2, 3, 1, 0] rfl)
  intro H locs ls hP hD hS hl
  refine lv_iload_n hx hb dX8_sizeOf_52 rfl (lv_at hl 0 rfl) ?_
  obtain rfl := Option.some.inj hf
  exact hend _ _ _ _ hP hD hS rfl dX8_sizeOf_53
set_option maxHeartbeats 4000000 in
set_option maxRecDepth 100000 in
theorem wX8_depthOf_4 (l : Launch) (D : va_G) (cI cZ cR : ClassId) (N : Nat) (q0 : Nat → Nat) {p : Program} {e : Env} {s : State} {m : MethodId} {args : Array Value} {below : List Frame} {meth : Method} {c : Code} {A : Nat → Prop} {H0 : Heap} {Q : State → Prop} (C : tm_Cx p s m c args cX8_depthOf 4 RX8 wsX8_depthOf D (tm_ty cI cZ cR) A H0) (d0 : tm_M) (g0 : Int64) : ∀ (n : Nat) (st : Int32 × Int32) (o : (Int32 × Int32)), tm_whl (bX8_depthOf_4 N d0) n st = some o → (fun (o : Int32 × Int32) => ∀ (H : Heap) (locs : List Loc) (ls : Array Slot), va_P D vwCl (WX8 cI cZ cR q0 d0 g0) H → va_D A (WX8 cI cZ cR q0 d0 g0) → va_S A H0 H locs → lv_has ls 4 [(2, .int o.1)] → W p l e rmX8_depthOf s m args below meth c H locs 0 0 Q (F0 m 24 ls [])) o → (fun (st : Int32 × Int32) => ∀ (H : Heap) (locs : List Loc) (ls : Array Slot), va_P D vwCl (WX8 cI cZ cR q0 d0 g0) H → va_D A (WX8 cI cZ cR q0 d0 g0) → va_S A H0 H locs → lv_has ls 4 [(0, .ref (q0 0)), (2, .int st.1), (3, .int st.2)] → W p l e rmX8_depthOf s m args below meth c H locs 0 0 Q (F0 m 4 ls [])) st := by
  obtain ⟨hx, hb, hml, hown, hts, hK, hA⟩ := id C
  refine tm_whl_W (Wh := fun (st : Int32 × Int32) => ∀ (H : Heap) (locs : List Loc) (ls : Array Slot), va_P D vwCl (WX8 cI cZ cR q0 d0 g0) H → va_D A (WX8 cI cZ cR q0 d0 g0) → va_S A H0 H locs → lv_has ls 4 [(0, .ref (q0 0)), (2, .int st.1), (3, .int st.2)] → W p l e rmX8_depthOf s m args below meth c H locs 0 0 Q (F0 m 4 ls [])) (Wx := fun (o : Int32 × Int32) => ∀ (H : Heap) (locs : List Loc) (ls : Array Slot), va_P D vwCl (WX8 cI cZ cR q0 d0 g0) H → va_D A (WX8 cI cZ cR q0 d0 g0) → va_S A H0 H locs → lv_has ls 4 [(2, .int o.1)] → W p l e rmX8_depthOf s m args below meth c H locs 0 0 Q (F0 m 24 ls [])) ?_
  intro st r hf hk H locs ls hP hD hS hl
  unfold bX8_depthOf_4 at hf
  refine lv_iload_n hx hb dX8_depthOf_4 rfl (lv_at hl 2 rfl) ?_
  refine lv_if_eq (tgt := 24) hx hb dX8_depthOf_5 (by decide) (fun c_1 => ?_) (fun c_1 => ?_)
  · have hf := tm_iT c_1 hf
    obtain rfl := Option.some.inj hf
    exact hk _ _ _ hP hD hS (lv_sub hl [1] rfl)
  · have hf := tm_iF c_1 hf
    obtain ⟨x_2, ex_2⟩ : ∃ y : Int32, y = st.1 + 1 := ⟨_, rfl⟩
    have hf := tm_at ex_2 hf
    refine lv_iinc (v := x_2) (lv' := [(2, .int x_2), (0, .ref (q0 0)), (3, .int st.2)]) hx hb dX8_depthOf_8 hl (k := 1) rfl (by rw [ex_2]; rfl) (by decide) rfl (fun ls hl => ?_)
    refine lv_aload_n hx hb dX8_depthOf_11 rfl (lv_at hl 1 rfl) ?_
    refine va_get (D := D) (ci := 8) (v := .ref (q0 1)) (C := RX8) (T := TX8) (N := 18) hx hb hts uX8_depthOf_X8 hown hK hP 0 rfl rfl 0 (by decide) (hts _ kX8_depthOf_f7) (fun _ h9 => h9) rfl dX8_depthOf_12 ?_
    refine lv_bipush (v := 29) hx hb dX8_depthOf_15 (by decide) ?_
    refine lv_iload_n hx hb dX8_depthOf_17 rfl (lv_at hl 2 rfl) ?_
    refine lv_iadd hx hb dX8_depthOf_18 ?_
    obtain ⟨h_3, hf⟩ := tm_gS hf
    refine va_iald hx hb hK hP 1 0 rfl rfl (tm_inb_in h_3) dX8_depthOf_19 ?_
    refine lv_topi (fun x_4 ex_4 => ?_)
    have hf := tm_at ex_4 hf
    refine lv_istore_n (lv' := [(3, .int x_4), (2, .int x_2), (0, .ref (q0 0))]) hx hb dX8_depthOf_20 rfl hl (by decide) rfl (fun ls hl => ?_)
    refine lv_goto (tgt := 4) hx hb dX8_depthOf_21 (by decide) ?_
    obtain rfl := Option.some.inj hf
    exact hk _ _ _ hP hD hS (lv_sub hl [2, 1, 0] rfl)
set_option maxHeartbeats 4000000 in
set_option maxRecDepth 100000 in
theorem tX8_depthOf (l : Launch) (D : va_G) (cI cZ cR : ClassId) (N : Nat) (q0 : Nat → Nat) (d0 : tm_M) (g0 : Int64) (p1 : Int32) (r0 : Int32) (hf : fX8_depthOf N d0 g0 p1 = some r0) : tm_CI l D (tm_ty cI cZ cR) yX8_depthOf wsX8_depthOf rmX8_depthOf [.ref (q0 0), .int p1] (WX8 cI cZ cR q0 d0 g0) r0 (WX8 cI cZ cR q0 d0 g0) := by
  refine tm_mkI (cc := cX8_depthOf) (maxL := 4) (ty := .int) (by decide) rfl (Nat.le_of_ble_eq_true rfl) ?_
  intro p e s m below meth c A ls Q C hP hD hS hl hend
  have C : tm_Cx p s m c [.ref (q0 0), .int p1].toArray cX8_depthOf 4 RX8 wsX8_depthOf D (tm_ty cI cZ cR) A s.heap := C
  obtain ⟨hx, hb, hml, hown, hts, hK, hA⟩ := id C
  have hl : lv_has ls 4 [(0, .ref (q0 0)), (1, .int p1)] := hl
  unfold fX8_depthOf at hf
  refine lv_iconst (v := 0) hx hb dX8_depthOf_0 (by decide) ?_
  refine lv_istore_n (lv' := [(2, .int 0), (0, .ref (q0 0)), (1, .int p1)]) hx hb dX8_depthOf_1 rfl hl (by decide) rfl (fun ls hl => ?_)
  refine lv_iload_n hx hb dX8_depthOf_2 rfl (lv_at hl 2 rfl) ?_
  refine lv_istore_n (lv' := [(3, .int p1), (2, .int 0), (0, .ref (q0 0)), (1, .int p1)]) hx hb dX8_depthOf_3 rfl hl (by decide) rfl (fun ls hl => ?_)
  obtain ⟨t_5, ot_5, hf⟩ := tm_bS hf
  refine wX8_depthOf_4 l D cI cZ cR N q0 C d0 g0 _ _ _ ot_5 ?_ _ _ _ hP hD hS (lv_sub hl [2, 1, 0] rfl)
  intro H locs ls hP hD hS hl
  refine lv_iload_n hx hb dX8_depthOf_24 rfl (lv_at hl 0 rfl) ?_
  obtain rfl := Option.some.inj hf
  exact hend _ _ _ _ hP hD hS rfl dX8_depthOf_25
set_option maxHeartbeats 4000000 in
set_option maxRecDepth 100000 in
theorem tX8_addNode (l : Launch) (D : va_G) (cI cZ cR : ClassId) (N : Nat) (q0 : Nat → Nat) (d0 : tm_M) (g0 : Int64) (p1 : Int32) (p2 : Int32) (r0 : Int32) (z0 : tm_M) (hf : fX8_addNode N d0 g0 p1 p2 = some (r0, z0)) : tm_CI l D (tm_ty cI cZ cR) yX8_addNode wsX8_addNode rmX8_addNode [.ref (q0 0), .int p1, .int p2] (WX8 cI cZ cR q0 d0 g0) r0 (WX8 cI cZ cR q0 z0 g0) := by
  refine tm_mkI (cc := cX8_addNode) (maxL := 3) (ty := .int) (by decide) rfl (Nat.le_of_ble_eq_true rfl) ?_
  intro p e s m below meth c A ls Q C hP hD hS hl hend
  have C : tm_Cx p s m c [.ref (q0 0), .int p1, .int p2].toArray cX8_addNode 3 RX8 wsX8_addNode D (tm_ty cI cZ cR) A s.heap := C
  obtain ⟨hx, hb, hml, hown, hts, hK, hA⟩ := id C
  have hl : lv_has ls 3 [(0, .ref (q0 0)), (1, .int p1), (2, .int p2)] := hl
  unfold fX8_addNode at hf
  refine lv_aload_n hx hb dX8_addNode_0 rfl (lv_at hl 0 rfl) ?_
  refine lv_iload_n hx hb dX8_addNode_1 rfl (lv_at hl 1 rfl) ?_
  obtain ⟨t_1, ot_1, hf⟩ := tm_bS hf
  refine tm_cVI (As := [.int p1]) (rest := []) ⟨hx, hb, hml, hown, hts⟩ (tX8_isNode l D cI cZ cR N q0 d0 g0 p1 t_1 ot_1) (cwV 1 hts gX8_addNode_X8_isNode rfl rfl rfl hdwsV_X8_isNode ⟨Nat.le_of_ble_eq_true rfl, Nat.le_of_ble_eq_true rfl⟩) hK hP hD hS hA [0, 1, 2, 3, 4, 5, 6, 7, 8, 9, 10, 11, 12, 13, 14, 15] (by decide) rfl rfl (ci := 8) rfl rfl rfl (fun _ => WX8 cI cZ cR q0 d0 g0) (()) rfl rfl hl.1 rfl (Nat.le_of_ble_eq_true rfl) dX8_addNode_2 ⟨Nat.zero_le _, Nat.zero_le _⟩ (fun _ _ H locs hP hD hS => ?_)
  refine lv_if_eq (tgt := 18) hx hb dX8_addNode_5 (by decide) (fun c_2 => ?_) (fun c_2 => ?_)
  · have hf := tm_iT c_2 hf
    refine lv_aload_n hx hb dX8_addNode_18 rfl (lv_at hl 0 rfl) ?_
    refine lv_bipush (v := (-2)) hx hb dX8_addNode_19 (by decide) ?_
    obtain ⟨t_3, ot_3, hf⟩ := tm_bS hf
    refine tm_cVI (As := [.int ((-2))]) (rest := []) ⟨hx, hb, hml, hown, hts⟩ (tX8_fails l D cI cZ cR N q0 d0 g0 ((-2) : Int32) t_3.1 t_3.2 ot_3) (cwV 1 hts gX8_addNode_X8_fails rfl rfl rfl hdwsV_X8_fails ⟨Nat.le_of_ble_eq_true rfl, Nat.le_of_ble_eq_true rfl⟩) hK hP hD hS hA [0, 1, 2, 3, 4, 5, 6, 7, 8, 9, 10, 11, 12, 13, 14, 15] (by decide) rfl rfl (ci := 8) rfl rfl rfl (fun _ => WX8 cI cZ cR q0 t_3.2 g0) (()) rfl rfl hl.1 rfl (Nat.le_of_ble_eq_true rfl) dX8_addNode_21 ⟨Nat.zero_le _, Nat.zero_le _⟩ (fun _ _ H locs hP hD hS => ?_)
    simp only [Option.some.injEq, Prod.mk.injEq] at hf
    obtain ⟨rfl, rfl⟩ := hf
    exact hend _ _ _ _ hP hD hS rfl dX8_addNode_24
  · have hf := tm_iF c_2 hf
    refine lv_iload_n hx hb dX8_addNode_8 rfl (lv_at hl 2 rfl) ?_
    refine lv_iconst (v := 1) hx hb dX8_addNode_9 (by decide) ?_
    refine lv_bipush (v := 99) hx hb dX8_addNode_10 (by decide) ?_
    obtain ⟨t_4, ot_4, hf⟩ := tm_bS hf
    refine tm_cSI (As := [.int p2, .int 1, .int 99]) (rest := []) ⟨hx, hb, hml, hown, hts⟩ (tX8_within l D cI cZ cR N p2 (1 : Int32) (99 : Int32) t_4 ot_4) (va_cwS 3 hts gX8_addNode_X8_within rfl rfl rfl hdwsS_X8_within ⟨Nat.le_of_ble_eq_true rfl, Nat.le_of_ble_eq_true rfl⟩) hK hP hD hS hA [] (by decide) rfl rfl (fun _ => WX8 cI cZ cR q0 d0 g0) (()) rfl rfl hl.1 rfl (Nat.le_of_ble_eq_true rfl) dX8_addNode_12 ⟨Nat.zero_le _, Nat.zero_le _⟩ (fun _ _ H locs hP hD hS => ?_)
    refine lv_if_ne (tgt := 25) hx hb dX8_addNode_15 (by decide) (fun c_5 => ?_) (fun c_5 => ?_)
    · have hf := tm_iF c_5 hf
      refine lv_aload_n hx hb dX8_addNode_25 rfl (lv_at hl 0 rfl) ?_
      refine va_get (D := D) (ci := 8) (v := .ref (q0 1)) (C := RX8) (T := TX8) (N := 18) hx hb hts uX8_addNode_X8 hown hK hP 0 rfl rfl 0 (by decide) (hts _ kX8_addNode_f7) (fun _ h9 => h9) rfl dX8_addNode_26 ?_
      refine lv_iconst (v := 0) hx hb dX8_addNode_29 (by decide) ?_
      refine va_iald hx hb hK hP 1 0 rfl rfl (tm_inb_in (by decide)) dX8_addNode_30 ?_
      refine lv_bipush (v := 24) hx hb dX8_addNode_31 (by decide) ?_
      refine lv_icmp_ne (tgt := 43) hx hb dX8_addNode_33 (by decide) (fun c_6 => ?_) (fun c_6 => ?_)
      · have hf := tm_iF c_6 hf
        refine lv_aload_n hx hb dX8_addNode_43 rfl (lv_at hl 0 rfl) ?_
        obtain ⟨t_7, ot_7, hf⟩ := tm_bS hf
        refine tm_cVV (As := []) (rest := []) ⟨hx, hb, hml, hown, hts⟩ (tX8_saves l D cI cZ cR N q0 d0 g0 t_7 ot_7) (cwV 0 hts gX8_addNode_X8_saves rfl rfl rfl hdwsV_X8_saves ⟨Nat.le_of_ble_eq_true rfl, Nat.le_of_ble_eq_true rfl⟩) hK hP hD hS hA [0, 1, 2, 3, 4, 5, 6, 7, 8, 9, 10, 11, 12, 13, 14, 15] (by decide) rfl rfl (ci := 8) rfl rfl rfl (fun _ => WX8 cI cZ cR q0 t_7 g0) (()) rfl rfl hl.1 rfl (Nat.le_of_ble_eq_true rfl) dX8_addNode_44 ⟨Nat.zero_le _, Nat.zero_le _⟩ (fun _ _ H locs hP hD hS => ?_)
        refine lv_aload_n hx hb dX8_addNode_47 rfl (lv_at hl 0 rfl) ?_
        refine va_get (D := D) (ci := 8) (v := .ref (q0 1)) (C := RX8) (T := TX8) (N := 18) hx hb hts uX8_addNode_X8 hown hK hP 0 rfl rfl 0 (by decide) (hts _ kX8_addNode_f7) (fun _ h9 => h9) rfl dX8_addNode_48 ?_
        refine lv_iconst (v := 5) hx hb dX8_addNode_51 (by decide) ?_
        refine lv_aload_n hx hb dX8_addNode_52 rfl (lv_at hl 0 rfl) ?_
        refine va_get (D := D) (ci := 8) (v := .ref (q0 1)) (C := RX8) (T := TX8) (N := 18) hx hb hts uX8_addNode_X8 hown hK hP 0 rfl rfl 0 (by decide) (hts _ kX8_addNode_f7) (fun _ h9 => h9) rfl dX8_addNode_53 ?_
        refine lv_iconst (v := 0) hx hb dX8_addNode_56 (by decide) ?_
        refine va_iald hx hb hK hP 1 0 rfl rfl (tm_inb_in (by decide)) dX8_addNode_57 ?_
        refine lv_iadd hx hb dX8_addNode_58 ?_
        refine lv_iload_n hx hb dX8_addNode_59 rfl (lv_at hl 2 rfl) ?_
        obtain ⟨h_8, hf⟩ := tm_gS hf
        refine tm_iast hx hb hK hP hD hS 1 0 rfl rfl (tm_inb_in h_8) dX8_addNode_60 (fun z => WX8 cI cZ cR q0 z g0) (tm_upc t_7 1 (upd (t_7 1) (5 + (t_7 1 (0 : Int32).toNatClampNeg)).toNatClampNeg p2)) rfl (fun d0_9 ed0_9 H locs hP hD hS => ?_)
        have hf := tm_at ed0_9 hf
        refine lv_aload_n hx hb dX8_addNode_61 rfl (lv_at hl 0 rfl) ?_
        refine va_get (D := D) (ci := 8) (v := .ref (q0 1)) (C := RX8) (T := TX8) (N := 18) hx hb hts uX8_addNode_X8 hown hK hP 0 rfl rfl 0 (by decide) (hts _ kX8_addNode_f7) (fun _ h9 => h9) rfl dX8_addNode_62 ?_
        refine lv_bipush (v := 29) hx hb dX8_addNode_65 (by decide) ?_
        refine lv_aload_n hx hb dX8_addNode_67 rfl (lv_at hl 0 rfl) ?_
        refine va_get (D := D) (ci := 8) (v := .ref (q0 1)) (C := RX8) (T := TX8) (N := 18) hx hb hts uX8_addNode_X8 hown hK hP 0 rfl rfl 0 (by decide) (hts _ kX8_addNode_f7) (fun _ h9 => h9) rfl dX8_addNode_68 ?_
        refine lv_iconst (v := 0) hx hb dX8_addNode_71 (by decide) ?_
        refine va_iald hx hb hK hP 1 0 rfl rfl (tm_inb_in (by decide)) dX8_addNode_72 ?_
        refine lv_iadd hx hb dX8_addNode_73 ?_
        refine lv_iload_n hx hb dX8_addNode_74 rfl (lv_at hl 1 rfl) ?_
        obtain ⟨h_10, hf⟩ := tm_gS hf
        refine tm_iast hx hb hK hP hD hS 1 0 rfl rfl (tm_inb_in h_10) dX8_addNode_75 (fun z => WX8 cI cZ cR q0 z g0) (tm_upc d0_9 1 (upd (d0_9 1) (29 + (d0_9 1 (0 : Int32).toNatClampNeg)).toNatClampNeg p1)) rfl (fun d0_11 ed0_11 H locs hP hD hS => ?_)
        have hf := tm_at ed0_11 hf
        refine lv_aload_n hx hb dX8_addNode_76 rfl (lv_at hl 0 rfl) ?_
        refine va_get (D := D) (ci := 8) (v := .ref (q0 1)) (C := RX8) (T := TX8) (N := 18) hx hb hts uX8_addNode_X8 hown hK hP 0 rfl rfl 0 (by decide) (hts _ kX8_addNode_f7) (fun _ h9 => h9) rfl dX8_addNode_77 ?_
        refine lv_iconst (v := 0) hx hb dX8_addNode_80 (by decide) ?_
        refine lv_dup2_11 hx hb dX8_addNode_81 rfl rfl ?_
        refine va_iald hx hb hK hP 1 0 rfl rfl (tm_inb_in (by decide)) dX8_addNode_82 ?_
        refine lv_iconst (v := 1) hx hb dX8_addNode_83 (by decide) ?_
        refine lv_iadd hx hb dX8_addNode_84 ?_
        refine tm_iast hx hb hK hP hD hS 1 0 rfl rfl (tm_inb_in (by decide)) dX8_addNode_85 (fun z => WX8 cI cZ cR q0 z g0) (tm_upc d0_11 1 (upd (d0_11 1) (0 : Int32).toNatClampNeg ((d0_11 1 (0 : Int32).toNatClampNeg) + 1))) rfl (fun d0_12 ed0_12 H locs hP hD hS => ?_)
        have hf := tm_at ed0_12 hf
        refine lv_aload_n hx hb dX8_addNode_86 rfl (lv_at hl 0 rfl) ?_
        refine va_get (D := D) (ci := 8) (v := .ref (q0 1)) (C := RX8) (T := TX8) (N := 18) hx hb hts uX8_addNode_X8 hown hK hP 0 rfl rfl 0 (by decide) (hts _ kX8_addNode_f7) (fun _ h9 => h9) rfl dX8_addNode_87 ?_
        refine lv_iconst (v := 0) hx hb dX8_addNode_90 (by decide) ?_
        refine va_iald hx hb hK hP 1 0 rfl rfl (tm_inb_in (by decide)) dX8_addNode_91 ?_
        refine lv_iconst (v := 1) hx hb dX8_addNode_92 (by decide) ?_
        refine lv_isub hx hb dX8_addNode_93 ?_
        simp only [Option.some.injEq, Prod.mk.injEq] at hf
        obtain ⟨rfl, rfl⟩ := hf
        exact hend _ _ _ _ hP hD hS rfl dX8_addNode_94
      · have hf := tm_iT c_6 hf
        refine lv_aload_n hx hb dX8_addNode_36 rfl (lv_at hl 0 rfl) ?_
        refine lv_bipush (v := (-4)) hx hb dX8_addNode_37 (by decide) ?_
        obtain ⟨t_13, ot_13, hf⟩ := tm_bS hf
        refine tm_cVI (As := [.int ((-4))]) (rest := []) ⟨hx, hb, hml, hown, hts⟩ (tX8_fails l D cI cZ cR N q0 d0 g0 ((-4) : Int32) t_13.1 t_13.2 ot_13) (cwV 1 hts gX8_addNode_X8_fails rfl rfl rfl hdwsV_X8_fails ⟨Nat.le_of_ble_eq_true rfl, Nat.le_of_ble_eq_true rfl⟩) hK hP hD hS hA [0, 1, 2, 3, 4, 5, 6, 7, 8, 9, 10, 11, 12, 13, 14, 15] (by decide) rfl rfl (ci := 8) rfl rfl rfl (fun _ => WX8 cI cZ cR q0 t_13.2 g0) (()) rfl rfl hl.1 rfl (Nat.le_of_ble_eq_true rfl) dX8_addNode_39 ⟨Nat.zero_le _, Nat.zero_le _⟩ (fun _ _ H locs hP hD hS => ?_)
        simp only [Option.some.injEq, Prod.mk.injEq] at hf
        obtain ⟨rfl, rfl⟩ := hf
        exact hend _ _ _ _ hP hD hS rfl dX8_addNode_42
    · have hf := tm_iT c_5 hf
      refine lv_aload_n hx hb dX8_addNode_18 rfl (lv_at hl 0 rfl) ?_
      refine lv_bipush (v := (-2)) hx hb dX8_addNode_19 (by decide) ?_
      obtain ⟨t_14, ot_14, hf⟩ := tm_bS hf
      refine tm_cVI (As := [.int ((-2))]) (rest := []) ⟨hx, hb, hml, hown, hts⟩ (tX8_fails l D cI cZ cR N q0 d0 g0 ((-2) : Int32) t_14.1 t_14.2 ot_14) (cwV 1 hts gX8_addNode_X8_fails rfl rfl rfl hdwsV_X8_fails ⟨Nat.le_of_ble_eq_true rfl, Nat.le_of_ble_eq_true rfl⟩) hK hP hD hS hA [0, 1, 2, 3, 4, 5, 6, 7, 8, 9, 10, 11, 12, 13, 14, 15] (by decide) rfl rfl (ci := 8) rfl rfl rfl (fun _ => WX8 cI cZ cR q0 t_14.2 g0) (()) rfl rfl hl.1 rfl (Nat.le_of_ble_eq_true rfl) dX8_addNode_21 ⟨Nat.zero_le _, Nat.zero_le _⟩ (fun _ _ H locs hP hD hS => ?_)
      simp only [Option.some.injEq, Prod.mk.injEq] at hf
      obtain ⟨rfl, rfl⟩ := hf
      exact hend _ _ _ _ hP hD hS rfl dX8_addNode_24
set_option maxHeartbeats 4000000 in
set_option maxRecDepth 100000 in
theorem tX8_changes (l : Launch) (D : va_G) (cI cZ cR : ClassId) (N : Nat) (q0 : Nat → Nat) (d0 : tm_M) (g0 : Int64) (p1 : Int32) (p2 : Int32) (r0 : Int32) (z0 : tm_M) (hf : fX8_changes N d0 g0 p1 p2 = some (r0, z0)) : tm_CI l D (tm_ty cI cZ cR) yX8_changes wsX8_changes rmX8_changes [.ref (q0 0), .int p1, .int p2] (WX8 cI cZ cR q0 d0 g0) r0 (WX8 cI cZ cR q0 z0 g0) := by
  refine tm_mkI (cc := cX8_changes) (maxL := 4) (ty := .int) (by decide) rfl (Nat.le_of_ble_eq_true rfl) ?_
  intro p e s m below meth c A ls Q C hP hD hS hl hend
  have C : tm_Cx p s m c [.ref (q0 0), .int p1, .int p2].toArray cX8_changes 4 RX8 wsX8_changes D (tm_ty cI cZ cR) A s.heap := C
  obtain ⟨hx, hb, hml, hown, hts, hK, hA⟩ := id C
  have hl : lv_has ls 4 [(0, .ref (q0 0)), (1, .int p1), (2, .int p2)] := hl
  unfold fX8_changes at hf
  refine lv_aload_n hx hb dX8_changes_0 rfl (lv_at hl 0 rfl) ?_
  obtain ⟨t_1, ot_1, hf⟩ := tm_bS hf
  refine tm_cVV (As := []) (rest := []) ⟨hx, hb, hml, hown, hts⟩ (tX8_saves l D cI cZ cR N q0 d0 g0 t_1 ot_1) (cwV 0 hts gX8_changes_X8_saves rfl rfl rfl hdwsV_X8_saves ⟨Nat.le_of_ble_eq_true rfl, Nat.le_of_ble_eq_true rfl⟩) hK hP hD hS hA [0, 1, 2, 3, 4, 5, 6, 7, 8, 9, 10, 11, 12, 13, 14, 15] (by decide) rfl rfl (ci := 8) rfl rfl rfl (fun _ => WX8 cI cZ cR q0 t_1 g0) (()) rfl rfl hl.1 rfl (Nat.le_of_ble_eq_true rfl) dX8_changes_1 ⟨Nat.zero_le _, Nat.zero_le _⟩ (fun _ _ H locs hP hD hS => ?_)
  refine lv_aload_n hx hb dX8_changes_4 rfl (lv_at hl 0 rfl) ?_
  refine va_get (D := D) (ci := 8) (v := .ref (q0 1)) (C := RX8) (T := TX8) (N := 18) hx hb hts uX8_changes_X8 hown hK hP 0 rfl rfl 0 (by decide) (hts _ kX8_changes_f7) (fun _ h9 => h9) rfl dX8_changes_5 ?_
  refine lv_iload_n hx hb dX8_changes_8 rfl (lv_at hl 1 rfl) ?_
  obtain ⟨h_2, hf⟩ := tm_gS hf
  refine va_iald hx hb hK hP 1 0 rfl rfl (tm_inb_in h_2) dX8_changes_9 ?_
  refine lv_topi (fun x_3 ex_3 => ?_)
  have hf := tm_at ex_3 hf
  refine lv_istore_n (lv' := [(3, .int x_3), (0, .ref (q0 0)), (1, .int p1), (2, .int p2)]) hx hb dX8_changes_10 rfl hl (by decide) rfl (fun ls hl => ?_)
  refine lv_aload_n hx hb dX8_changes_11 rfl (lv_at hl 1 rfl) ?_
  refine va_get (D := D) (ci := 8) (v := .ref (q0 1)) (C := RX8) (T := TX8) (N := 18) hx hb hts uX8_changes_X8 hown hK hP 0 rfl rfl 0 (by decide) (hts _ kX8_changes_f7) (fun _ h9 => h9) rfl dX8_changes_12 ?_
  refine lv_iload_n hx hb dX8_changes_15 rfl (lv_at hl 2 rfl) ?_
  refine lv_iload_n hx hb dX8_changes_16 rfl (lv_at hl 3 rfl) ?_
  refine tm_iast hx hb hK hP hD hS 1 0 rfl rfl (tm_inb_in h_2) dX8_changes_17 (fun z => WX8 cI cZ cR q0 z g0) (tm_upc t_1 1 (upd (t_1 1) p1.toNatClampNeg p2)) rfl (fun d0_4 ed0_4 H locs hP hD hS => ?_)
  have hf := tm_at ed0_4 hf
  refine lv_iload_n hx hb dX8_changes_18 rfl (lv_at hl 0 rfl) ?_
  simp only [Option.some.injEq, Prod.mk.injEq] at hf
  obtain ⟨rfl, rfl⟩ := hf
  exact hend _ _ _ _ hP hD hS rfl dX8_changes_19
set_option maxHeartbeats 4000000 in
set_option maxRecDepth 100000 in
theorem tX8_setSize (l : Launch) (D : va_G) (cI cZ cR : ClassId) (N : Nat) (q0 : Nat → Nat) (d0 : tm_M) (g0 : Int64) (p1 : Int32) (p2 : Int32) (r0 : Int32) (z0 : tm_M) (hf : fX8_setSize N d0 g0 p1 p2 = some (r0, z0)) : tm_CI l D (tm_ty cI cZ cR) yX8_setSize wsX8_setSize rmX8_setSize [.ref (q0 0), .int p1, .int p2] (WX8 cI cZ cR q0 d0 g0) r0 (WX8 cI cZ cR q0 z0 g0) := by
  refine tm_mkI (cc := cX8_setSize) (maxL := 3) (ty := .int) (by decide) rfl (Nat.le_of_ble_eq_true rfl) ?_
  intro p e s m below meth c A ls Q C hP hD hS hl hend
  have C : tm_Cx p s m c [.ref (q0 0), .int p1, .int p2].toArray cX8_setSize 3 RX8 wsX8_setSize D (tm_ty cI cZ cR) A s.heap := C
  obtain ⟨hx, hb, hml, hown, hts, hK, hA⟩ := id C
  have hl : lv_has ls 3 [(0, .ref (q0 0)), (1, .int p1), (2, .int p2)] := hl
  unfold fX8_setSize at hf
  refine lv_aload_n hx hb dX8_setSize_0 rfl (lv_at hl 0 rfl) ?_
  refine lv_iload_n hx hb dX8_setSize_1 rfl (lv_at hl 1 rfl) ?_
  obtain ⟨t_1, ot_1, hf⟩ := tm_bS hf
  refine tm_cVI (As := [.int p1]) (rest := []) ⟨hx, hb, hml, hown, hts⟩ (tX8_isNode l D cI cZ cR N q0 d0 g0 p1 t_1 ot_1) (cwV 1 hts gX8_setSize_X8_isNode rfl rfl rfl hdwsV_X8_isNode ⟨Nat.le_of_ble_eq_true rfl, Nat.le_of_ble_eq_true rfl⟩) hK hP hD hS hA [0, 1, 2, 3, 4, 5, 6, 7, 8, 9, 10, 11, 12, 13, 14, 15] (by decide) rfl rfl (ci := 8) rfl rfl rfl (fun _ => WX8 cI cZ cR q0 d0 g0) (()) rfl rfl hl.1 rfl (Nat.le_of_ble_eq_true rfl) dX8_setSize_2 ⟨Nat.zero_le _, Nat.zero_le _⟩ (fun _ _ H locs hP hD hS => ?_)
  refine lv_if_eq (tgt := 29) hx hb dX8_setSize_5 (by decide) (fun c_2 => ?_) (fun c_2 => ?_)
  · have hf := tm_iT c_2 hf
    refine lv_aload_n hx hb dX8_setSize_29 rfl (lv_at hl 0 rfl) ?_
    refine lv_bipush (v := (-2)) hx hb dX8_setSize_30 (by decide) ?_
    obtain ⟨t_3, ot_3, hf⟩ := tm_bS hf
    refine tm_cVI (As := [.int ((-2))]) (rest := []) ⟨hx, hb, hml, hown, hts⟩ (tX8_fails l D cI cZ cR N q0 d0 g0 ((-2) : Int32) t_3.1 t_3.2 ot_3) (cwV 1 hts gX8_setSize_X8_fails rfl rfl rfl hdwsV_X8_fails ⟨Nat.le_of_ble_eq_true rfl, Nat.le_of_ble_eq_true rfl⟩) hK hP hD hS hA [0, 1, 2, 3, 4, 5, 6, 7, 8, 9, 10, 11, 12, 13, 14, 15] (by decide) rfl rfl (ci := 8) rfl rfl rfl (fun _ => WX8 cI cZ cR q0 t_3.2 g0) (()) rfl rfl hl.1 rfl (Nat.le_of_ble_eq_true rfl) dX8_setSize_32 ⟨Nat.zero_le _, Nat.zero_le _⟩ (fun _ _ H locs hP hD hS => ?_)
    simp only [Option.some.injEq, Prod.mk.injEq] at hf
    obtain ⟨rfl, rfl⟩ := hf
    exact hend _ _ _ _ hP hD hS rfl dX8_setSize_35
  · have hf := tm_iF c_2 hf
    refine lv_iload_n hx hb dX8_setSize_8 rfl (lv_at hl 2 rfl) ?_
    refine lv_iconst (v := 1) hx hb dX8_setSize_9 (by decide) ?_
    refine lv_bipush (v := 99) hx hb dX8_setSize_10 (by decide) ?_
    obtain ⟨t_4, ot_4, hf⟩ := tm_bS hf
    refine tm_cSI (As := [.int p2, .int 1, .int 99]) (rest := []) ⟨hx, hb, hml, hown, hts⟩ (tX8_within l D cI cZ cR N p2 (1 : Int32) (99 : Int32) t_4 ot_4) (va_cwS 3 hts gX8_setSize_X8_within rfl rfl rfl hdwsS_X8_within ⟨Nat.le_of_ble_eq_true rfl, Nat.le_of_ble_eq_true rfl⟩) hK hP hD hS hA [] (by decide) rfl rfl (fun _ => WX8 cI cZ cR q0 d0 g0) (()) rfl rfl hl.1 rfl (Nat.le_of_ble_eq_true rfl) dX8_setSize_12 ⟨Nat.zero_le _, Nat.zero_le _⟩ (fun _ _ H locs hP hD hS => ?_)
    refine lv_if_eq (tgt := 29) hx hb dX8_setSize_15 (by decide) (fun c_5 => ?_) (fun c_5 => ?_)
    · have hf := tm_iT c_5 hf
      refine lv_aload_n hx hb dX8_setSize_29 rfl (lv_at hl 0 rfl) ?_
      refine lv_bipush (v := (-2)) hx hb dX8_setSize_30 (by decide) ?_
      obtain ⟨t_6, ot_6, hf⟩ := tm_bS hf
      refine tm_cVI (As := [.int ((-2))]) (rest := []) ⟨hx, hb, hml, hown, hts⟩ (tX8_fails l D cI cZ cR N q0 d0 g0 ((-2) : Int32) t_6.1 t_6.2 ot_6) (cwV 1 hts gX8_setSize_X8_fails rfl rfl rfl hdwsV_X8_fails ⟨Nat.le_of_ble_eq_true rfl, Nat.le_of_ble_eq_true rfl⟩) hK hP hD hS hA [0, 1, 2, 3, 4, 5, 6, 7, 8, 9, 10, 11, 12, 13, 14, 15] (by decide) rfl rfl (ci := 8) rfl rfl rfl (fun _ => WX8 cI cZ cR q0 t_6.2 g0) (()) rfl rfl hl.1 rfl (Nat.le_of_ble_eq_true rfl) dX8_setSize_32 ⟨Nat.zero_le _, Nat.zero_le _⟩ (fun _ _ H locs hP hD hS => ?_)
      simp only [Option.some.injEq, Prod.mk.injEq] at hf
      obtain ⟨rfl, rfl⟩ := hf
      exact hend _ _ _ _ hP hD hS rfl dX8_setSize_35
    · have hf := tm_iF c_5 hf
      refine lv_aload_n hx hb dX8_setSize_18 rfl (lv_at hl 0 rfl) ?_
      refine lv_iconst (v := 5) hx hb dX8_setSize_19 (by decide) ?_
      refine lv_iload_n hx hb dX8_setSize_20 rfl (lv_at hl 1 rfl) ?_
      refine lv_iadd hx hb dX8_setSize_21 ?_
      refine lv_iload_n hx hb dX8_setSize_22 rfl (lv_at hl 2 rfl) ?_
      obtain ⟨t_7, ot_7, hf⟩ := tm_bS hf
      refine tm_cVI (As := [.int (5 + p1), .int p2]) (rest := []) ⟨hx, hb, hml, hown, hts⟩ (tX8_changes l D cI cZ cR N q0 d0 g0 (5 + p1) p2 t_7.1 t_7.2 ot_7) (cwV 2 hts gX8_setSize_X8_changes rfl rfl rfl hdwsV_X8_changes ⟨Nat.le_of_ble_eq_true rfl, Nat.le_of_ble_eq_true rfl⟩) hK hP hD hS hA [0, 1, 2, 3, 4, 5, 6, 7, 8, 9, 10, 11, 12, 13, 14, 15] (by decide) rfl rfl (ci := 8) rfl rfl rfl (fun _ => WX8 cI cZ cR q0 t_7.2 g0) (()) rfl rfl hl.1 rfl (Nat.le_of_ble_eq_true rfl) dX8_setSize_23 ⟨Nat.zero_le _, Nat.zero_le _⟩ (fun _ _ H locs hP hD hS => ?_)
      refine lv_goto (tgt := 35) hx hb dX8_setSize_26 (by decide) ?_
      simp only [Option.some.injEq, Prod.mk.injEq] at hf
      obtain ⟨rfl, rfl⟩ := hf
      exact hend _ _ _ _ hP hD hS rfl dX8_setSize_35
set_option maxHeartbeats 4000000 in
set_option maxRecDepth 100000 in
theorem wX8_removeLeaf_50 (l : Launch) (D : va_G) (cI cZ cR : ClassId) (N : Nat) (q0 : Nat → Nat) {p : Program} {e : Env} {s : State} {m : MethodId} {args : Array Value} {below : List Frame} {meth : Method} {c : Code} {A : Nat → Prop} {H0 : Heap} {Q : State → Prop} (C : tm_Cx p s m c args cX8_removeLeaf 3 RX8 wsX8_removeLeaf D (tm_ty cI cZ cR) A H0) (g0 : Int64) (v1 : Int32) : ∀ (n : Nat) (st : Int32 × tm_M) (o : (Int32 × tm_M)), tm_whl (bX8_removeLeaf_50 N) n st = some o → (fun (o : Int32 × tm_M) => ∀ (H : Heap) (locs : List Loc) (ls : Array Slot), va_P D vwCl (WX8 cI cZ cR q0 o.2 g0) H → va_D A (WX8 cI cZ cR q0 o.2 g0) → va_S A H0 H locs → lv_has ls 3 [(0, .ref (q0 0)), (1, .int v1)] → W p l e rmX8_removeLeaf s m args below meth c H locs 0 0 Q (F0 m 104 ls [])) o → (fun (st : Int32 × tm_M) => ∀ (H : Heap) (locs : List Loc) (ls : Array Slot), va_P D vwCl (WX8 cI cZ cR q0 st.2 g0) H → va_D A (WX8 cI cZ cR q0 st.2 g0) → va_S A H0 H locs → lv_has ls 3 [(0, .ref (q0 0)), (1, .int v1), (2, .int st.1)] → W p l e rmX8_removeLeaf s m args below meth c H locs 0 0 Q (F0 m 50 ls [])) st := by
  obtain ⟨hx, hb, hml, hown, hts, hK, hA⟩ := id C
  refine tm_whl_W (Wh := fun (st : Int32 × tm_M) => ∀ (H : Heap) (locs : List Loc) (ls : Array Slot), va_P D vwCl (WX8 cI cZ cR q0 st.2 g0) H → va_D A (WX8 cI cZ cR q0 st.2 g0) → va_S A H0 H locs → lv_has ls 3 [(0, .ref (q0 0)), (1, .int v1), (2, .int st.1)] → W p l e rmX8_removeLeaf s m args below meth c H locs 0 0 Q (F0 m 50 ls [])) (Wx := fun (o : Int32 × tm_M) => ∀ (H : Heap) (locs : List Loc) (ls : Array Slot), va_P D vwCl (WX8 cI cZ cR q0 o.2 g0) H → va_D A (WX8 cI cZ cR q0 o.2 g0) → va_S A H0 H locs → lv_has ls 3 [(0, .ref (q0 0)), (1, .int v1)] → W p l e rmX8_removeLeaf s m args below meth c H locs 0 0 Q (F0 m 104 ls [])) ?_
  intro st r hf hk H locs ls hP hD hS hl
  unfold bX8_removeLeaf_50 at hf
  refine lv_iload_n hx hb dX8_removeLeaf_50 rfl (lv_at hl 2 rfl) ?_
  refine lv_aload_n hx hb dX8_removeLeaf_51 rfl (lv_at hl 0 rfl) ?_
  refine va_get (D := D) (ci := 8) (v := .ref (q0 1)) (C := RX8) (T := TX8) (N := 18) hx hb hts uX8_removeLeaf_X8 hown hK hP 0 rfl rfl 0 (by decide) (hts _ kX8_removeLeaf_f7) (fun _ h9 => h9) rfl dX8_removeLeaf_52 ?_
  refine lv_iconst (v := 0) hx hb dX8_removeLeaf_55 (by decide) ?_
  refine va_iald hx hb hK hP 1 0 rfl rfl (tm_inb_in (by decide)) dX8_removeLeaf_56 ?_
  refine lv_icmp_ge (tgt := 104) hx hb dX8_removeLeaf_57 (by decide) (fun c_9 => ?_) (fun c_9 => ?_)
  · have hf := tm_iT c_9 hf
    obtain rfl := Option.some.inj hf
    exact hk _ _ _ hP hD hS (lv_sub hl [0, 1] rfl)
  · have hf := tm_iF c_9 hf
    refine lv_aload_n hx hb dX8_removeLeaf_60 rfl (lv_at hl 0 rfl) ?_
    refine va_get (D := D) (ci := 8) (v := .ref (q0 1)) (C := RX8) (T := TX8) (N := 18) hx hb hts uX8_removeLeaf_X8 hown hK hP 0 rfl rfl 0 (by decide) (hts _ kX8_removeLeaf_f7) (fun _ h9 => h9) rfl dX8_removeLeaf_61 ?_
    refine lv_iconst (v := 5) hx hb dX8_removeLeaf_64 (by decide) ?_
    refine lv_iload_n hx hb dX8_removeLeaf_65 rfl (lv_at hl 2 rfl) ?_
    refine lv_iadd hx hb dX8_removeLeaf_66 ?_
    refine lv_aload_n hx hb dX8_removeLeaf_67 rfl (lv_at hl 0 rfl) ?_
    refine va_get (D := D) (ci := 8) (v := .ref (q0 1)) (C := RX8) (T := TX8) (N := 18) hx hb hts uX8_removeLeaf_X8 hown hK hP 0 rfl rfl 0 (by decide) (hts _ kX8_removeLeaf_f7) (fun _ h9 => h9) rfl dX8_removeLeaf_68 ?_
    refine lv_iconst (v := 5) hx hb dX8_removeLeaf_71 (by decide) ?_
    refine lv_iload_n hx hb dX8_removeLeaf_72 rfl (lv_at hl 2 rfl) ?_
    refine lv_iadd hx hb dX8_removeLeaf_73 ?_
    refine lv_iconst (v := 1) hx hb dX8_removeLeaf_74 (by decide) ?_
    refine lv_iadd hx hb dX8_removeLeaf_75 ?_
    obtain ⟨h_10, hf⟩ := tm_gS hf
    refine va_iald hx hb hK hP 1 0 rfl rfl (tm_inb_in h_10) dX8_removeLeaf_76 ?_
    obtain ⟨h_11, hf⟩ := tm_gS hf
    refine tm_iast hx hb hK hP hD hS 1 0 rfl rfl (tm_inb_in h_11) dX8_removeLeaf_77 (fun z => WX8 cI cZ cR q0 z g0) (tm_upc st.2 1 (upd (st.2 1) (5 + st.1).toNatClampNeg (st.2 1 ((5 + st.1) + 1).toNatClampNeg))) rfl (fun d0_12 ed0_12 H locs hP hD hS => ?_)
    have hf := tm_at ed0_12 hf
    refine lv_aload_n hx hb dX8_removeLeaf_78 rfl (lv_at hl 0 rfl) ?_
    refine va_get (D := D) (ci := 8) (v := .ref (q0 1)) (C := RX8) (T := TX8) (N := 18) hx hb hts uX8_removeLeaf_X8 hown hK hP 0 rfl rfl 0 (by decide) (hts _ kX8_removeLeaf_f7) (fun _ h9 => h9) rfl dX8_removeLeaf_79 ?_
    refine lv_bipush (v := 29) hx hb dX8_removeLeaf_82 (by decide) ?_
    refine lv_iload_n hx hb dX8_removeLeaf_84 rfl (lv_at hl 2 rfl) ?_
    refine lv_iadd hx hb dX8_removeLeaf_85 ?_
    refine lv_aload_n hx hb dX8_removeLeaf_86 rfl (lv_at hl 0 rfl) ?_
    refine va_get (D := D) (ci := 8) (v := .ref (q0 1)) (C := RX8) (T := TX8) (N := 18) hx hb hts uX8_removeLeaf_X8 hown hK hP 0 rfl rfl 0 (by decide) (hts _ kX8_removeLeaf_f7) (fun _ h9 => h9) rfl dX8_removeLeaf_87 ?_
    refine lv_bipush (v := 29) hx hb dX8_removeLeaf_90 (by decide) ?_
    refine lv_iload_n hx hb dX8_removeLeaf_92 rfl (lv_at hl 2 rfl) ?_
    refine lv_iadd hx hb dX8_removeLeaf_93 ?_
    refine lv_iconst (v := 1) hx hb dX8_removeLeaf_94 (by decide) ?_
    refine lv_iadd hx hb dX8_removeLeaf_95 ?_
    obtain ⟨h_13, hf⟩ := tm_gS hf
    refine va_iald hx hb hK hP 1 0 rfl rfl (tm_inb_in h_13) dX8_removeLeaf_96 ?_
    obtain ⟨h_14, hf⟩ := tm_gS hf
    refine tm_iast hx hb hK hP hD hS 1 0 rfl rfl (tm_inb_in h_14) dX8_removeLeaf_97 (fun z => WX8 cI cZ cR q0 z g0) (tm_upc d0_12 1 (upd (d0_12 1) (29 + st.1).toNatClampNeg (d0_12 1 ((29 + st.1) + 1).toNatClampNeg))) rfl (fun d0_15 ed0_15 H locs hP hD hS => ?_)
    have hf := tm_at ed0_15 hf
    obtain ⟨x_16, ex_16⟩ : ∃ y : Int32, y = st.1 + 1 := ⟨_, rfl⟩
    have hf := tm_at ex_16 hf
    refine lv_iinc (v := x_16) (lv' := [(2, .int x_16), (0, .ref (q0 0)), (1, .int v1)]) hx hb dX8_removeLeaf_98 hl (k := 2) rfl (by rw [ex_16]; rfl) (by decide) rfl (fun ls hl => ?_)
    refine lv_goto (tgt := 50) hx hb dX8_removeLeaf_101 (by decide) ?_
    obtain rfl := Option.some.inj hf
    exact hk _ _ _ hP hD hS (lv_sub hl [1, 2, 0] rfl)
set_option maxHeartbeats 4000000 in
set_option maxRecDepth 100000 in
theorem wX8_removeLeaf_106 (l : Launch) (D : va_G) (cI cZ cR : ClassId) (N : Nat) (q0 : Nat → Nat) {p : Program} {e : Env} {s : State} {m : MethodId} {args : Array Value} {below : List Frame} {meth : Method} {c : Code} {A : Nat → Prop} {H0 : Heap} {Q : State → Prop} (C : tm_Cx p s m c args cX8_removeLeaf 3 RX8 wsX8_removeLeaf D (tm_ty cI cZ cR) A H0) (g0 : Int64) (v1 : Int32) : ∀ (n : Nat) (st : Int32 × tm_M) (o : (Int32 × tm_M)), tm_whl (bX8_removeLeaf_106 N v1) n st = some o → (fun (o : Int32 × tm_M) => ∀ (H : Heap) (locs : List Loc) (ls : Array Slot), va_P D vwCl (WX8 cI cZ cR q0 o.2 g0) H → va_D A (WX8 cI cZ cR q0 o.2 g0) → va_S A H0 H locs → lv_has ls 3 [(0, .ref (q0 0))] → W p l e rmX8_removeLeaf s m args below meth c H locs 0 0 Q (F0 m 152 ls [])) o → (fun (st : Int32 × tm_M) => ∀ (H : Heap) (locs : List Loc) (ls : Array Slot), va_P D vwCl (WX8 cI cZ cR q0 st.2 g0) H → va_D A (WX8 cI cZ cR q0 st.2 g0) → va_S A H0 H locs → lv_has ls 3 [(0, .ref (q0 0)), (1, .int v1), (2, .int st.1)] → W p l e rmX8_removeLeaf s m args below meth c H locs 0 0 Q (F0 m 106 ls [])) st := by
  obtain ⟨hx, hb, hml, hown, hts, hK, hA⟩ := id C
  refine tm_whl_W (Wh := fun (st : Int32 × tm_M) => ∀ (H : Heap) (locs : List Loc) (ls : Array Slot), va_P D vwCl (WX8 cI cZ cR q0 st.2 g0) H → va_D A (WX8 cI cZ cR q0 st.2 g0) → va_S A H0 H locs → lv_has ls 3 [(0, .ref (q0 0)), (1, .int v1), (2, .int st.1)] → W p l e rmX8_removeLeaf s m args below meth c H locs 0 0 Q (F0 m 106 ls [])) (Wx := fun (o : Int32 × tm_M) => ∀ (H : Heap) (locs : List Loc) (ls : Array Slot), va_P D vwCl (WX8 cI cZ cR q0 o.2 g0) H → va_D A (WX8 cI cZ cR q0 o.2 g0) → va_S A H0 H locs → lv_has ls 3 [(0, .ref (q0 0))] → W p l e rmX8_removeLeaf s m args below meth c H locs 0 0 Q (F0 m 152 ls [])) ?_
  intro st r hf hk H locs ls hP hD hS hl
  unfold bX8_removeLeaf_106 at hf
  refine lv_iload_n hx hb dX8_removeLeaf_106 rfl (lv_at hl 2 rfl) ?_
  refine lv_aload_n hx hb dX8_removeLeaf_107 rfl (lv_at hl 0 rfl) ?_
  refine va_get (D := D) (ci := 8) (v := .ref (q0 1)) (C := RX8) (T := TX8) (N := 18) hx hb hts uX8_removeLeaf_X8 hown hK hP 0 rfl rfl 0 (by decide) (hts _ kX8_removeLeaf_f7) (fun _ h9 => h9) rfl dX8_removeLeaf_108 ?_
  refine lv_iconst (v := 0) hx hb dX8_removeLeaf_111 (by decide) ?_
  refine va_iald hx hb hK hP 1 0 rfl rfl (tm_inb_in (by decide)) dX8_removeLeaf_112 ?_
  refine lv_icmp_ge (tgt := 152) hx hb dX8_removeLeaf_113 (by decide) (fun c_18 => ?_) (fun c_18 => ?_)
  · have hf := tm_iT c_18 hf
    obtain rfl := Option.some.inj hf
    exact hk _ _ _ hP hD hS (lv_sub hl [0] rfl)
  · have hf := tm_iF c_18 hf
    refine lv_aload_n hx hb dX8_removeLeaf_116 rfl (lv_at hl 0 rfl) ?_
    refine va_get (D := D) (ci := 8) (v := .ref (q0 1)) (C := RX8) (T := TX8) (N := 18) hx hb hts uX8_removeLeaf_X8 hown hK hP 0 rfl rfl 0 (by decide) (hts _ kX8_removeLeaf_f7) (fun _ h9 => h9) rfl dX8_removeLeaf_117 ?_
    refine lv_bipush (v := 29) hx hb dX8_removeLeaf_120 (by decide) ?_
    refine lv_iload_n hx hb dX8_removeLeaf_122 rfl (lv_at hl 2 rfl) ?_
    refine lv_iadd hx hb dX8_removeLeaf_123 ?_
    refine lv_dup2_11 hx hb dX8_removeLeaf_124 rfl rfl ?_
    obtain ⟨h_19, hf⟩ := tm_gS hf
    refine va_iald hx hb hK hP 1 0 rfl rfl (tm_inb_in h_19) dX8_removeLeaf_125 ?_
    refine lv_aload_n hx hb dX8_removeLeaf_126 rfl (lv_at hl 0 rfl) ?_
    refine va_get (D := D) (ci := 8) (v := .ref (q0 1)) (C := RX8) (T := TX8) (N := 18) hx hb hts uX8_removeLeaf_X8 hown hK hP 0 rfl rfl 0 (by decide) (hts _ kX8_removeLeaf_f7) (fun _ h9 => h9) rfl dX8_removeLeaf_127 ?_
    refine lv_bipush (v := 29) hx hb dX8_removeLeaf_130 (by decide) ?_
    refine lv_iload_n hx hb dX8_removeLeaf_132 rfl (lv_at hl 2 rfl) ?_
    refine lv_iadd hx hb dX8_removeLeaf_133 ?_
    refine va_iald hx hb hK hP 1 0 rfl rfl (tm_inb_in h_19) dX8_removeLeaf_134 ?_
    refine lv_iload_n hx hb dX8_removeLeaf_135 rfl (lv_at hl 1 rfl) ?_
    refine lv_icmp_le (tgt := 143) hx hb dX8_removeLeaf_136 (by decide) (fun c_20 => ?_) (fun c_20 => ?_)
    · have hf := tm_iT c_20 hf
      refine lv_iconst (v := 0) hx hb dX8_removeLeaf_143 (by decide) ?_
      refine lv_isub hx hb dX8_removeLeaf_144 ?_
      refine tm_iast hx hb hK hP hD hS 1 0 rfl rfl (tm_inb_in h_19) dX8_removeLeaf_145 (fun z => WX8 cI cZ cR q0 z g0) (tm_upc st.2 1 (upd (st.2 1) (29 + st.1).toNatClampNeg ((st.2 1 (29 + st.1).toNatClampNeg) - 0))) rfl (fun d0_21 ed0_21 H locs hP hD hS => ?_)
      have hf := tm_at ed0_21 hf
      obtain ⟨x_22, ex_22⟩ : ∃ y : Int32, y = st.1 + 1 := ⟨_, rfl⟩
      have hf := tm_at ex_22 hf
      refine lv_iinc (v := x_22) (lv' := [(2, .int x_22), (0, .ref (q0 0)), (1, .int v1)]) hx hb dX8_removeLeaf_146 hl (k := 2) rfl (by rw [ex_22]; rfl) (by decide) rfl (fun ls hl => ?_)
      refine lv_goto (tgt := 106) hx hb dX8_removeLeaf_149 (by decide) ?_
      obtain rfl := Option.some.inj hf
      exact hk _ _ _ hP hD hS (lv_sub hl [1, 2, 0] rfl)
    · have hf := tm_iF c_20 hf
      refine lv_iconst (v := 1) hx hb dX8_removeLeaf_139 (by decide) ?_
      refine lv_goto (tgt := 144) hx hb dX8_removeLeaf_140 (by decide) ?_
      refine lv_isub hx hb dX8_removeLeaf_144 ?_
      refine tm_iast hx hb hK hP hD hS 1 0 rfl rfl (tm_inb_in h_19) dX8_removeLeaf_145 (fun z => WX8 cI cZ cR q0 z g0) (tm_upc st.2 1 (upd (st.2 1) (29 + st.1).toNatClampNeg ((st.2 1 (29 + st.1).toNatClampNeg) - 1))) rfl (fun d0_23 ed0_23 H locs hP hD hS => ?_)
      have hf := tm_at ed0_23 hf
      obtain ⟨x_24, ex_24⟩ : ∃ y : Int32, y = st.1 + 1 := ⟨_, rfl⟩
      have hf := tm_at ex_24 hf
      refine lv_iinc (v := x_24) (lv' := [(2, .int x_24), (0, .ref (q0 0)), (1, .int v1)]) hx hb dX8_removeLeaf_146 hl (k := 2) rfl (by rw [ex_24]; rfl) (by decide) rfl (fun ls hl => ?_)
      refine lv_goto (tgt := 106) hx hb dX8_removeLeaf_149 (by decide) ?_
      obtain rfl := Option.some.inj hf
      exact hk _ _ _ hP hD hS (lv_sub hl [1, 2, 0] rfl)
set_option maxHeartbeats 4000000 in
set_option maxRecDepth 100000 in
theorem tX8_removeLeaf (l : Launch) (D : va_G) (cI cZ cR : ClassId) (N : Nat) (q0 : Nat → Nat) (d0 : tm_M) (g0 : Int64) (p1 : Int32) (r0 : Int32) (z0 : tm_M) (hf : fX8_removeLeaf N d0 g0 p1 = some (r0, z0)) : tm_CI l D (tm_ty cI cZ cR) yX8_removeLeaf wsX8_removeLeaf rmX8_removeLeaf [.ref (q0 0), .int p1] (WX8 cI cZ cR q0 d0 g0) r0 (WX8 cI cZ cR q0 z0 g0) := by
  refine tm_mkI (cc := cX8_removeLeaf) (maxL := 3) (ty := .int) (by decide) rfl (Nat.le_of_ble_eq_true rfl) ?_
  intro p e s m below meth c A ls Q C hP hD hS hl hend
  have C : tm_Cx p s m c [.ref (q0 0), .int p1].toArray cX8_removeLeaf 3 RX8 wsX8_removeLeaf D (tm_ty cI cZ cR) A s.heap := C
  obtain ⟨hx, hb, hml, hown, hts, hK, hA⟩ := id C
  have hl : lv_has ls 3 [(0, .ref (q0 0)), (1, .int p1)] := hl
  unfold fX8_removeLeaf at hf
  refine lv_aload_n hx hb dX8_removeLeaf_0 rfl (lv_at hl 0 rfl) ?_
  refine lv_iload_n hx hb dX8_removeLeaf_1 rfl (lv_at hl 1 rfl) ?_
  obtain ⟨t_1, ot_1, hf⟩ := tm_bS hf
  refine tm_cVI (As := [.int p1]) (rest := []) ⟨hx, hb, hml, hown, hts⟩ (tX8_isNode l D cI cZ cR N q0 d0 g0 p1 t_1 ot_1) (cwV 1 hts gX8_removeLeaf_X8_isNode rfl rfl rfl hdwsV_X8_isNode ⟨Nat.le_of_ble_eq_true rfl, Nat.le_of_ble_eq_true rfl⟩) hK hP hD hS hA [0, 1, 2, 3, 4, 5, 6, 7, 8, 9, 10, 11, 12, 13, 14, 15] (by decide) rfl rfl (ci := 8) rfl rfl rfl (fun _ => WX8 cI cZ cR q0 d0 g0) (()) rfl rfl hl.1 rfl (Nat.le_of_ble_eq_true rfl) dX8_removeLeaf_2 ⟨Nat.zero_le _, Nat.zero_le _⟩ (fun _ _ H locs hP hD hS => ?_)
  refine lv_if_ne (tgt := 15) hx hb dX8_removeLeaf_5 (by decide) (fun c_2 => ?_) (fun c_2 => ?_)
  · have hf := tm_iF c_2 hf
    refine lv_iload_n hx hb dX8_removeLeaf_15 rfl (lv_at hl 1 rfl) ?_
    refine lv_if_eq (tgt := 27) hx hb dX8_removeLeaf_16 (by decide) (fun c_3 => ?_) (fun c_3 => ?_)
    · have hf := tm_iT c_3 hf
      refine lv_aload_n hx hb dX8_removeLeaf_27 rfl (lv_at hl 0 rfl) ?_
      refine lv_bipush (v := (-3)) hx hb dX8_removeLeaf_28 (by decide) ?_
      obtain ⟨t_4, ot_4, hf⟩ := tm_bS hf
      refine tm_cVI (As := [.int ((-3))]) (rest := []) ⟨hx, hb, hml, hown, hts⟩ (tX8_fails l D cI cZ cR N q0 d0 g0 ((-3) : Int32) t_4.1 t_4.2 ot_4) (cwV 1 hts gX8_removeLeaf_X8_fails rfl rfl rfl hdwsV_X8_fails ⟨Nat.le_of_ble_eq_true rfl, Nat.le_of_ble_eq_true rfl⟩) hK hP hD hS hA [0, 1, 2, 3, 4, 5, 6, 7, 8, 9, 10, 11, 12, 13, 14, 15] (by decide) rfl rfl (ci := 8) rfl rfl rfl (fun _ => WX8 cI cZ cR q0 t_4.2 g0) (()) rfl rfl hl.1 rfl (Nat.le_of_ble_eq_true rfl) dX8_removeLeaf_30 ⟨Nat.zero_le _, Nat.zero_le _⟩ (fun _ _ H locs hP hD hS => ?_)
      simp only [Option.some.injEq, Prod.mk.injEq] at hf
      obtain ⟨rfl, rfl⟩ := hf
      exact hend _ _ _ _ hP hD hS rfl dX8_removeLeaf_33
    · have hf := tm_iF c_3 hf
      refine lv_aload_n hx hb dX8_removeLeaf_19 rfl (lv_at hl 0 rfl) ?_
      refine lv_iload_n hx hb dX8_removeLeaf_20 rfl (lv_at hl 1 rfl) ?_
      obtain ⟨t_5, ot_5, hf⟩ := tm_bS hf
      refine tm_cVI (As := [.int p1]) (rest := []) ⟨hx, hb, hml, hown, hts⟩ (tX8_childMany l D cI cZ cR N q0 d0 g0 p1 t_5 ot_5) (cwV 1 hts gX8_removeLeaf_X8_childMany rfl rfl rfl hdwsV_X8_childMany ⟨Nat.le_of_ble_eq_true rfl, Nat.le_of_ble_eq_true rfl⟩) hK hP hD hS hA [0, 1, 2, 3, 4, 5, 6, 7, 8, 9, 10, 11, 12, 13, 14, 15] (by decide) rfl rfl (ci := 8) rfl rfl rfl (fun _ => WX8 cI cZ cR q0 d0 g0) (()) rfl rfl hl.1 rfl (Nat.le_of_ble_eq_true rfl) dX8_removeLeaf_21 ⟨Nat.zero_le _, Nat.zero_le _⟩ (fun _ _ H locs hP hD hS => ?_)
      refine lv_if_le (tgt := 34) hx hb dX8_removeLeaf_24 (by decide) (fun c_6 => ?_) (fun c_6 => ?_)
      · have hf := tm_iT c_6 hf
        refine lv_aload_n hx hb dX8_removeLeaf_34 rfl (lv_at hl 0 rfl) ?_
        obtain ⟨t_7, ot_7, hf⟩ := tm_bS hf
        refine tm_cVV (As := []) (rest := []) ⟨hx, hb, hml, hown, hts⟩ (tX8_saves l D cI cZ cR N q0 d0 g0 t_7 ot_7) (cwV 0 hts gX8_removeLeaf_X8_saves rfl rfl rfl hdwsV_X8_saves ⟨Nat.le_of_ble_eq_true rfl, Nat.le_of_ble_eq_true rfl⟩) hK hP hD hS hA [0, 1, 2, 3, 4, 5, 6, 7, 8, 9, 10, 11, 12, 13, 14, 15] (by decide) rfl rfl (ci := 8) rfl rfl rfl (fun _ => WX8 cI cZ cR q0 t_7 g0) (()) rfl rfl hl.1 rfl (Nat.le_of_ble_eq_true rfl) dX8_removeLeaf_35 ⟨Nat.zero_le _, Nat.zero_le _⟩ (fun _ _ H locs hP hD hS => ?_)
        refine lv_aload_n hx hb dX8_removeLeaf_38 rfl (lv_at hl 0 rfl) ?_
        refine va_get (D := D) (ci := 8) (v := .ref (q0 1)) (C := RX8) (T := TX8) (N := 18) hx hb hts uX8_removeLeaf_X8 hown hK hP 0 rfl rfl 0 (by decide) (hts _ kX8_removeLeaf_f7) (fun _ h9 => h9) rfl dX8_removeLeaf_39 ?_
        refine lv_iconst (v := 0) hx hb dX8_removeLeaf_42 (by decide) ?_
        refine lv_dup2_11 hx hb dX8_removeLeaf_43 rfl rfl ?_
        refine va_iald hx hb hK hP 1 0 rfl rfl (tm_inb_in (by decide)) dX8_removeLeaf_44 ?_
        refine lv_iconst (v := 1) hx hb dX8_removeLeaf_45 (by decide) ?_
        refine lv_isub hx hb dX8_removeLeaf_46 ?_
        refine tm_iast hx hb hK hP hD hS 1 0 rfl rfl (tm_inb_in (by decide)) dX8_removeLeaf_47 (fun z => WX8 cI cZ cR q0 z g0) (tm_upc t_7 1 (upd (t_7 1) (0 : Int32).toNatClampNeg ((t_7 1 (0 : Int32).toNatClampNeg) - 1))) rfl (fun d0_8 ed0_8 H locs hP hD hS => ?_)
        have hf := tm_at ed0_8 hf
        refine lv_iload_n hx hb dX8_removeLeaf_48 rfl (lv_at hl 1 rfl) ?_
        refine lv_istore_n (lv' := [(2, .int p1), (0, .ref (q0 0)), (1, .int p1)]) hx hb dX8_removeLeaf_49 rfl hl (by decide) rfl (fun ls hl => ?_)
        obtain ⟨t_17, ot_17, hf⟩ := tm_bS hf
        refine wX8_removeLeaf_50 l D cI cZ cR N q0 C g0 p1 _ _ _ ot_17 ?_ _ _ _ hP hD hS (lv_sub hl [1, 2, 0] rfl)
        intro H locs ls hP hD hS hl
        refine lv_iconst (v := 0) hx hb dX8_removeLeaf_104 (by decide) ?_
        refine lv_istore_n (lv' := [(2, .int 0), (0, .ref (q0 0)), (1, .int p1)]) hx hb dX8_removeLeaf_105 rfl hl (by decide) rfl (fun ls hl => ?_)
        obtain ⟨t_25, ot_25, hf⟩ := tm_bS hf
        refine wX8_removeLeaf_106 l D cI cZ cR N q0 C g0 p1 _ _ _ ot_25 ?_ _ _ _ hP hD hS (lv_sub hl [1, 2, 0] rfl)
        intro H locs ls hP hD hS hl
        refine lv_aload_n hx hb dX8_removeLeaf_152 rfl (lv_at hl 0 rfl) ?_
        refine va_get (D := D) (ci := 8) (v := .ref (q0 1)) (C := RX8) (T := TX8) (N := 18) hx hb hts uX8_removeLeaf_X8 hown hK hP 0 rfl rfl 0 (by decide) (hts _ kX8_removeLeaf_f7) (fun _ h9 => h9) rfl dX8_removeLeaf_153 ?_
        refine lv_iconst (v := 0) hx hb dX8_removeLeaf_156 (by decide) ?_
        refine va_iald hx hb hK hP 1 0 rfl rfl (tm_inb_in (by decide)) dX8_removeLeaf_157 ?_
        simp only [Option.some.injEq, Prod.mk.injEq] at hf
        obtain ⟨rfl, rfl⟩ := hf
        exact hend _ _ _ _ hP hD hS rfl dX8_removeLeaf_158
      · have hf := tm_iF c_6 hf
        refine lv_aload_n hx hb dX8_removeLeaf_27 rfl (lv_at hl 0 rfl) ?_
        refine lv_bipush (v := (-3)) hx hb dX8_removeLeaf_28 (by decide) ?_
        obtain ⟨t_26, ot_26, hf⟩ := tm_bS hf
        refine tm_cVI (As := [.int ((-3))]) (rest := []) ⟨hx, hb, hml, hown, hts⟩ (tX8_fails l D cI cZ cR N q0 d0 g0 ((-3) : Int32) t_26.1 t_26.2 ot_26) (cwV 1 hts gX8_removeLeaf_X8_fails rfl rfl rfl hdwsV_X8_fails ⟨Nat.le_of_ble_eq_true rfl, Nat.le_of_ble_eq_true rfl⟩) hK hP hD hS hA [0, 1, 2, 3, 4, 5, 6, 7, 8, 9, 10, 11, 12, 13, 14, 15] (by decide) rfl rfl (ci := 8) rfl rfl rfl (fun _ => WX8 cI cZ cR q0 t_26.2 g0) (()) rfl rfl hl.1 rfl (Nat.le_of_ble_eq_true rfl) dX8_removeLeaf_30 ⟨Nat.zero_le _, Nat.zero_le _⟩ (fun _ _ H locs hP hD hS => ?_)
        simp only [Option.some.injEq, Prod.mk.injEq] at hf
        obtain ⟨rfl, rfl⟩ := hf
        exact hend _ _ _ _ hP hD hS rfl dX8_removeLeaf_33
  · have hf := tm_iT c_2 hf
    refine lv_aload_n hx hb dX8_removeLeaf_8 rfl (lv_at hl 0 rfl) ?_
    refine lv_bipush (v := (-2)) hx hb dX8_removeLeaf_9 (by decide) ?_
    obtain ⟨t_27, ot_27, hf⟩ := tm_bS hf
    refine tm_cVI (As := [.int ((-2))]) (rest := []) ⟨hx, hb, hml, hown, hts⟩ (tX8_fails l D cI cZ cR N q0 d0 g0 ((-2) : Int32) t_27.1 t_27.2 ot_27) (cwV 1 hts gX8_removeLeaf_X8_fails rfl rfl rfl hdwsV_X8_fails ⟨Nat.le_of_ble_eq_true rfl, Nat.le_of_ble_eq_true rfl⟩) hK hP hD hS hA [0, 1, 2, 3, 4, 5, 6, 7, 8, 9, 10, 11, 12, 13, 14, 15] (by decide) rfl rfl (ci := 8) rfl rfl rfl (fun _ => WX8 cI cZ cR q0 t_27.2 g0) (()) rfl rfl hl.1 rfl (Nat.le_of_ble_eq_true rfl) dX8_removeLeaf_11 ⟨Nat.zero_le _, Nat.zero_le _⟩ (fun _ _ H locs hP hD hS => ?_)
    simp only [Option.some.injEq, Prod.mk.injEq] at hf
    obtain ⟨rfl, rfl⟩ := hf
    exact hend _ _ _ _ hP hD hS rfl dX8_removeLeaf_14
set_option maxHeartbeats 4000000 in
set_option maxRecDepth 100000 in
theorem tX8_setParent (l : Launch) (D : va_G) (cI cZ cR : ClassId) (N : Nat) (q0 : Nat → Nat) (d0 : tm_M) (g0 : Int64) (p1 : Int32) (p2 : Int32) (r0 : Int32) (z0 : tm_M) (hf : fX8_setParent N d0 g0 p1 p2 = some (r0, z0)) : tm_CI l D (tm_ty cI cZ cR) yX8_setParent wsX8_setParent rmX8_setParent [.ref (q0 0), .int p1, .int p2] (WX8 cI cZ cR q0 d0 g0) r0 (WX8 cI cZ cR q0 z0 g0) := by
  refine tm_mkI (cc := cX8_setParent) (maxL := 3) (ty := .int) (by decide) rfl (Nat.le_of_ble_eq_true rfl) ?_
  intro p e s m below meth c A ls Q C hP hD hS hl hend
  have C : tm_Cx p s m c [.ref (q0 0), .int p1, .int p2].toArray cX8_setParent 3 RX8 wsX8_setParent D (tm_ty cI cZ cR) A s.heap := C
  obtain ⟨hx, hb, hml, hown, hts, hK, hA⟩ := id C
  have hl : lv_has ls 3 [(0, .ref (q0 0)), (1, .int p1), (2, .int p2)] := hl
  unfold fX8_setParent at hf
  refine lv_aload_n hx hb dX8_setParent_0 rfl (lv_at hl 0 rfl) ?_
  refine lv_iload_n hx hb dX8_setParent_1 rfl (lv_at hl 1 rfl) ?_
  obtain ⟨t_1, ot_1, hf⟩ := tm_bS hf
  refine tm_cVI (As := [.int p1]) (rest := []) ⟨hx, hb, hml, hown, hts⟩ (tX8_isNode l D cI cZ cR N q0 d0 g0 p1 t_1 ot_1) (cwV 1 hts gX8_setParent_X8_isNode rfl rfl rfl hdwsV_X8_isNode ⟨Nat.le_of_ble_eq_true rfl, Nat.le_of_ble_eq_true rfl⟩) hK hP hD hS hA [0, 1, 2, 3, 4, 5, 6, 7, 8, 9, 10, 11, 12, 13, 14, 15] (by decide) rfl rfl (ci := 8) rfl rfl rfl (fun _ => WX8 cI cZ cR q0 d0 g0) (()) rfl rfl hl.1 rfl (Nat.le_of_ble_eq_true rfl) dX8_setParent_2 ⟨Nat.zero_le _, Nat.zero_le _⟩ (fun _ _ H locs hP hD hS => ?_)
  refine lv_if_eq (tgt := 16) hx hb dX8_setParent_5 (by decide) (fun c_2 => ?_) (fun c_2 => ?_)
  · have hf := tm_iT c_2 hf
    refine lv_aload_n hx hb dX8_setParent_16 rfl (lv_at hl 0 rfl) ?_
    refine lv_bipush (v := (-2)) hx hb dX8_setParent_17 (by decide) ?_
    obtain ⟨t_3, ot_3, hf⟩ := tm_bS hf
    refine tm_cVI (As := [.int ((-2))]) (rest := []) ⟨hx, hb, hml, hown, hts⟩ (tX8_fails l D cI cZ cR N q0 d0 g0 ((-2) : Int32) t_3.1 t_3.2 ot_3) (cwV 1 hts gX8_setParent_X8_fails rfl rfl rfl hdwsV_X8_fails ⟨Nat.le_of_ble_eq_true rfl, Nat.le_of_ble_eq_true rfl⟩) hK hP hD hS hA [0, 1, 2, 3, 4, 5, 6, 7, 8, 9, 10, 11, 12, 13, 14, 15] (by decide) rfl rfl (ci := 8) rfl rfl rfl (fun _ => WX8 cI cZ cR q0 t_3.2 g0) (()) rfl rfl hl.1 rfl (Nat.le_of_ble_eq_true rfl) dX8_setParent_19 ⟨Nat.zero_le _, Nat.zero_le _⟩ (fun _ _ H locs hP hD hS => ?_)
    simp only [Option.some.injEq, Prod.mk.injEq] at hf
    obtain ⟨rfl, rfl⟩ := hf
    exact hend _ _ _ _ hP hD hS rfl dX8_setParent_22
  · have hf := tm_iF c_2 hf
    refine lv_aload_n hx hb dX8_setParent_8 rfl (lv_at hl 0 rfl) ?_
    refine lv_iload_n hx hb dX8_setParent_9 rfl (lv_at hl 2 rfl) ?_
    obtain ⟨t_4, ot_4, hf⟩ := tm_bS hf
    refine tm_cVI (As := [.int p2]) (rest := []) ⟨hx, hb, hml, hown, hts⟩ (tX8_isNode l D cI cZ cR N q0 d0 g0 p2 t_4 ot_4) (cwV 1 hts gX8_setParent_X8_isNode rfl rfl rfl hdwsV_X8_isNode ⟨Nat.le_of_ble_eq_true rfl, Nat.le_of_ble_eq_true rfl⟩) hK hP hD hS hA [0, 1, 2, 3, 4, 5, 6, 7, 8, 9, 10, 11, 12, 13, 14, 15] (by decide) rfl rfl (ci := 8) rfl rfl rfl (fun _ => WX8 cI cZ cR q0 d0 g0) (()) rfl rfl hl.1 rfl (Nat.le_of_ble_eq_true rfl) dX8_setParent_10 ⟨Nat.zero_le _, Nat.zero_le _⟩ (fun _ _ H locs hP hD hS => ?_)
    refine lv_if_ne (tgt := 23) hx hb dX8_setParent_13 (by decide) (fun c_5 => ?_) (fun c_5 => ?_)
    · have hf := tm_iF c_5 hf
      refine lv_iload_n hx hb dX8_setParent_23 rfl (lv_at hl 1 rfl) ?_
      refine lv_if_eq (tgt := 36) hx hb dX8_setParent_24 (by decide) (fun c_6 => ?_) (fun c_6 => ?_)
      · have hf := tm_iT c_6 hf
        refine lv_aload_n hx hb dX8_setParent_36 rfl (lv_at hl 0 rfl) ?_
        refine lv_bipush (v := (-3)) hx hb dX8_setParent_37 (by decide) ?_
        obtain ⟨t_7, ot_7, hf⟩ := tm_bS hf
        refine tm_cVI (As := [.int ((-3))]) (rest := []) ⟨hx, hb, hml, hown, hts⟩ (tX8_fails l D cI cZ cR N q0 d0 g0 ((-3) : Int32) t_7.1 t_7.2 ot_7) (cwV 1 hts gX8_setParent_X8_fails rfl rfl rfl hdwsV_X8_fails ⟨Nat.le_of_ble_eq_true rfl, Nat.le_of_ble_eq_true rfl⟩) hK hP hD hS hA [0, 1, 2, 3, 4, 5, 6, 7, 8, 9, 10, 11, 12, 13, 14, 15] (by decide) rfl rfl (ci := 8) rfl rfl rfl (fun _ => WX8 cI cZ cR q0 t_7.2 g0) (()) rfl rfl hl.1 rfl (Nat.le_of_ble_eq_true rfl) dX8_setParent_39 ⟨Nat.zero_le _, Nat.zero_le _⟩ (fun _ _ H locs hP hD hS => ?_)
        simp only [Option.some.injEq, Prod.mk.injEq] at hf
        obtain ⟨rfl, rfl⟩ := hf
        exact hend _ _ _ _ hP hD hS rfl dX8_setParent_42
      · have hf := tm_iF c_6 hf
        refine lv_aload_n hx hb dX8_setParent_27 rfl (lv_at hl 0 rfl) ?_
        refine lv_iload_n hx hb dX8_setParent_28 rfl (lv_at hl 2 rfl) ?_
        refine lv_iload_n hx hb dX8_setParent_29 rfl (lv_at hl 1 rfl) ?_
        obtain ⟨t_8, ot_8, hf⟩ := tm_bS hf
        refine tm_cVI (As := [.int p2, .int p1]) (rest := []) ⟨hx, hb, hml, hown, hts⟩ (tX8_isUnder l D cI cZ cR N q0 d0 g0 p2 p1 t_8 ot_8) (cwV 2 hts gX8_setParent_X8_isUnder rfl rfl rfl hdwsV_X8_isUnder ⟨Nat.le_of_ble_eq_true rfl, Nat.le_of_ble_eq_true rfl⟩) hK hP hD hS hA [0, 1, 2, 3, 4, 5, 6, 7, 8, 9, 10, 11, 12, 13, 14, 15] (by decide) rfl rfl (ci := 8) rfl rfl rfl (fun _ => WX8 cI cZ cR q0 d0 g0) (()) rfl rfl hl.1 rfl (Nat.le_of_ble_eq_true rfl) dX8_setParent_30 ⟨Nat.zero_le _, Nat.zero_le _⟩ (fun _ _ H locs hP hD hS => ?_)
        refine lv_if_eq (tgt := 43) hx hb dX8_setParent_33 (by decide) (fun c_9 => ?_) (fun c_9 => ?_)
        · have hf := tm_iT c_9 hf
          refine lv_aload_n hx hb dX8_setParent_43 rfl (lv_at hl 0 rfl) ?_
          refine lv_bipush (v := 29) hx hb dX8_setParent_44 (by decide) ?_
          refine lv_iload_n hx hb dX8_setParent_46 rfl (lv_at hl 1 rfl) ?_
          refine lv_iadd hx hb dX8_setParent_47 ?_
          refine lv_iload_n hx hb dX8_setParent_48 rfl (lv_at hl 2 rfl) ?_
          obtain ⟨t_10, ot_10, hf⟩ := tm_bS hf
          refine tm_cVI (As := [.int (29 + p1), .int p2]) (rest := []) ⟨hx, hb, hml, hown, hts⟩ (tX8_changes l D cI cZ cR N q0 d0 g0 (29 + p1) p2 t_10.1 t_10.2 ot_10) (cwV 2 hts gX8_setParent_X8_changes rfl rfl rfl hdwsV_X8_changes ⟨Nat.le_of_ble_eq_true rfl, Nat.le_of_ble_eq_true rfl⟩) hK hP hD hS hA [0, 1, 2, 3, 4, 5, 6, 7, 8, 9, 10, 11, 12, 13, 14, 15] (by decide) rfl rfl (ci := 8) rfl rfl rfl (fun _ => WX8 cI cZ cR q0 t_10.2 g0) (()) rfl rfl hl.1 rfl (Nat.le_of_ble_eq_true rfl) dX8_setParent_49 ⟨Nat.zero_le _, Nat.zero_le _⟩ (fun _ _ H locs hP hD hS => ?_)
          simp only [Option.some.injEq, Prod.mk.injEq] at hf
          obtain ⟨rfl, rfl⟩ := hf
          exact hend _ _ _ _ hP hD hS rfl dX8_setParent_52
        · have hf := tm_iF c_9 hf
          refine lv_aload_n hx hb dX8_setParent_36 rfl (lv_at hl 0 rfl) ?_
          refine lv_bipush (v := (-3)) hx hb dX8_setParent_37 (by decide) ?_
          obtain ⟨t_11, ot_11, hf⟩ := tm_bS hf
          refine tm_cVI (As := [.int ((-3))]) (rest := []) ⟨hx, hb, hml, hown, hts⟩ (tX8_fails l D cI cZ cR N q0 d0 g0 ((-3) : Int32) t_11.1 t_11.2 ot_11) (cwV 1 hts gX8_setParent_X8_fails rfl rfl rfl hdwsV_X8_fails ⟨Nat.le_of_ble_eq_true rfl, Nat.le_of_ble_eq_true rfl⟩) hK hP hD hS hA [0, 1, 2, 3, 4, 5, 6, 7, 8, 9, 10, 11, 12, 13, 14, 15] (by decide) rfl rfl (ci := 8) rfl rfl rfl (fun _ => WX8 cI cZ cR q0 t_11.2 g0) (()) rfl rfl hl.1 rfl (Nat.le_of_ble_eq_true rfl) dX8_setParent_39 ⟨Nat.zero_le _, Nat.zero_le _⟩ (fun _ _ H locs hP hD hS => ?_)
          simp only [Option.some.injEq, Prod.mk.injEq] at hf
          obtain ⟨rfl, rfl⟩ := hf
          exact hend _ _ _ _ hP hD hS rfl dX8_setParent_42
    · have hf := tm_iT c_5 hf
      refine lv_aload_n hx hb dX8_setParent_16 rfl (lv_at hl 0 rfl) ?_
      refine lv_bipush (v := (-2)) hx hb dX8_setParent_17 (by decide) ?_
      obtain ⟨t_12, ot_12, hf⟩ := tm_bS hf
      refine tm_cVI (As := [.int ((-2))]) (rest := []) ⟨hx, hb, hml, hown, hts⟩ (tX8_fails l D cI cZ cR N q0 d0 g0 ((-2) : Int32) t_12.1 t_12.2 ot_12) (cwV 1 hts gX8_setParent_X8_fails rfl rfl rfl hdwsV_X8_fails ⟨Nat.le_of_ble_eq_true rfl, Nat.le_of_ble_eq_true rfl⟩) hK hP hD hS hA [0, 1, 2, 3, 4, 5, 6, 7, 8, 9, 10, 11, 12, 13, 14, 15] (by decide) rfl rfl (ci := 8) rfl rfl rfl (fun _ => WX8 cI cZ cR q0 t_12.2 g0) (()) rfl rfl hl.1 rfl (Nat.le_of_ble_eq_true rfl) dX8_setParent_19 ⟨Nat.zero_le _, Nat.zero_le _⟩ (fun _ _ H locs hP hD hS => ?_)
      simp only [Option.some.injEq, Prod.mk.injEq] at hf
      obtain ⟨rfl, rfl⟩ := hf
      exact hend _ _ _ _ hP hD hS rfl dX8_setParent_22
set_option maxHeartbeats 4000000 in
set_option maxRecDepth 100000 in
theorem tX8_setCanvas (l : Launch) (D : va_G) (cI cZ cR : ClassId) (N : Nat) (q0 : Nat → Nat) (d0 : tm_M) (g0 : Int64) (p1 : Int32) (p2 : Int32) (r0 : Int32) (z0 : tm_M) (hf : fX8_setCanvas N d0 g0 p1 p2 = some (r0, z0)) : tm_CI l D (tm_ty cI cZ cR) yX8_setCanvas wsX8_setCanvas rmX8_setCanvas [.ref (q0 0), .int p1, .int p2] (WX8 cI cZ cR q0 d0 g0) r0 (WX8 cI cZ cR q0 z0 g0) := by
  refine tm_mkI (cc := cX8_setCanvas) (maxL := 4) (ty := .int) (by decide) rfl (Nat.le_of_ble_eq_true rfl) ?_
  intro p e s m below meth c A ls Q C hP hD hS hl hend
  have C : tm_Cx p s m c [.ref (q0 0), .int p1, .int p2].toArray cX8_setCanvas 4 RX8 wsX8_setCanvas D (tm_ty cI cZ cR) A s.heap := C
  obtain ⟨hx, hb, hml, hown, hts, hK, hA⟩ := id C
  have hl : lv_has ls 4 [(0, .ref (q0 0)), (1, .int p1), (2, .int p2)] := hl
  unfold fX8_setCanvas at hf
  refine lv_iload_n hx hb dX8_setCanvas_0 rfl (lv_at hl 1 rfl) ?_
  refine lv_iconst (v := 1) hx hb dX8_setCanvas_1 (by decide) ?_
  refine lv_sipush (v := 200) hx hb dX8_setCanvas_2 (by decide) ?_
  obtain ⟨t_1, ot_1, hf⟩ := tm_bS hf
  refine tm_cSI (As := [.int p1, .int 1, .int 200]) (rest := []) ⟨hx, hb, hml, hown, hts⟩ (tX8_within l D cI cZ cR N p1 (1 : Int32) (200 : Int32) t_1 ot_1) (va_cwS 3 hts gX8_setCanvas_X8_within rfl rfl rfl hdwsS_X8_within ⟨Nat.le_of_ble_eq_true rfl, Nat.le_of_ble_eq_true rfl⟩) hK hP hD hS hA [] (by decide) rfl rfl (fun _ => WX8 cI cZ cR q0 d0 g0) (()) rfl rfl hl.1 rfl (Nat.le_of_ble_eq_true rfl) dX8_setCanvas_5 ⟨Nat.zero_le _, Nat.zero_le _⟩ (fun _ _ H locs hP hD hS => ?_)
  refine lv_if_eq (tgt := 22) hx hb dX8_setCanvas_8 (by decide) (fun c_2 => ?_) (fun c_2 => ?_)
  · have hf := tm_iT c_2 hf
    refine lv_aload_n hx hb dX8_setCanvas_22 rfl (lv_at hl 0 rfl) ?_
    refine lv_bipush (v := (-2)) hx hb dX8_setCanvas_23 (by decide) ?_
    obtain ⟨t_3, ot_3, hf⟩ := tm_bS hf
    refine tm_cVI (As := [.int ((-2))]) (rest := []) ⟨hx, hb, hml, hown, hts⟩ (tX8_fails l D cI cZ cR N q0 d0 g0 ((-2) : Int32) t_3.1 t_3.2 ot_3) (cwV 1 hts gX8_setCanvas_X8_fails rfl rfl rfl hdwsV_X8_fails ⟨Nat.le_of_ble_eq_true rfl, Nat.le_of_ble_eq_true rfl⟩) hK hP hD hS hA [0, 1, 2, 3, 4, 5, 6, 7, 8, 9, 10, 11, 12, 13, 14, 15] (by decide) rfl rfl (ci := 8) rfl rfl rfl (fun _ => WX8 cI cZ cR q0 t_3.2 g0) (()) rfl rfl hl.1 rfl (Nat.le_of_ble_eq_true rfl) dX8_setCanvas_25 ⟨Nat.zero_le _, Nat.zero_le _⟩ (fun _ _ H locs hP hD hS => ?_)
    simp only [Option.some.injEq, Prod.mk.injEq] at hf
    obtain ⟨rfl, rfl⟩ := hf
    exact hend _ _ _ _ hP hD hS rfl dX8_setCanvas_28
  · have hf := tm_iF c_2 hf
    refine lv_iload_n hx hb dX8_setCanvas_11 rfl (lv_at hl 2 rfl) ?_
    refine lv_iconst (v := 1) hx hb dX8_setCanvas_12 (by decide) ?_
    refine lv_sipush (v := 200) hx hb dX8_setCanvas_13 (by decide) ?_
    obtain ⟨t_4, ot_4, hf⟩ := tm_bS hf
    refine tm_cSI (As := [.int p2, .int 1, .int 200]) (rest := []) ⟨hx, hb, hml, hown, hts⟩ (tX8_within l D cI cZ cR N p2 (1 : Int32) (200 : Int32) t_4 ot_4) (va_cwS 3 hts gX8_setCanvas_X8_within rfl rfl rfl hdwsS_X8_within ⟨Nat.le_of_ble_eq_true rfl, Nat.le_of_ble_eq_true rfl⟩) hK hP hD hS hA [] (by decide) rfl rfl (fun _ => WX8 cI cZ cR q0 d0 g0) (()) rfl rfl hl.1 rfl (Nat.le_of_ble_eq_true rfl) dX8_setCanvas_16 ⟨Nat.zero_le _, Nat.zero_le _⟩ (fun _ _ H locs hP hD hS => ?_)
    refine lv_if_ne (tgt := 29) hx hb dX8_setCanvas_19 (by decide) (fun c_5 => ?_) (fun c_5 => ?_)
    · have hf := tm_iF c_5 hf
      refine lv_aload_n hx hb dX8_setCanvas_29 rfl (lv_at hl 0 rfl) ?_
      obtain ⟨t_6, ot_6, hf⟩ := tm_bS hf
      refine tm_cVV (As := []) (rest := []) ⟨hx, hb, hml, hown, hts⟩ (tX8_saves l D cI cZ cR N q0 d0 g0 t_6 ot_6) (cwV 0 hts gX8_setCanvas_X8_saves rfl rfl rfl hdwsV_X8_saves ⟨Nat.le_of_ble_eq_true rfl, Nat.le_of_ble_eq_true rfl⟩) hK hP hD hS hA [0, 1, 2, 3, 4, 5, 6, 7, 8, 9, 10, 11, 12, 13, 14, 15] (by decide) rfl rfl (ci := 8) rfl rfl rfl (fun _ => WX8 cI cZ cR q0 t_6 g0) (()) rfl rfl hl.1 rfl (Nat.le_of_ble_eq_true rfl) dX8_setCanvas_30 ⟨Nat.zero_le _, Nat.zero_le _⟩ (fun _ _ H locs hP hD hS => ?_)
      refine lv_sipush (v := 1000) hx hb dX8_setCanvas_33 (by decide) ?_
      refine lv_aload_n hx hb dX8_setCanvas_36 rfl (lv_at hl 0 rfl) ?_
      refine va_get (D := D) (ci := 8) (v := .ref (q0 1)) (C := RX8) (T := TX8) (N := 18) hx hb hts uX8_setCanvas_X8 hown hK hP 0 rfl rfl 0 (by decide) (hts _ kX8_setCanvas_f7) (fun _ h9 => h9) rfl dX8_setCanvas_37 ?_
      refine lv_iconst (v := 1) hx hb dX8_setCanvas_40 (by decide) ?_
      refine va_iald hx hb hK hP 1 0 rfl rfl (tm_inb_in (by decide)) dX8_setCanvas_41 ?_
      refine lv_imul hx hb dX8_setCanvas_42 ?_
      refine lv_aload_n hx hb dX8_setCanvas_43 rfl (lv_at hl 0 rfl) ?_
      refine va_get (D := D) (ci := 8) (v := .ref (q0 1)) (C := RX8) (T := TX8) (N := 18) hx hb hts uX8_setCanvas_X8 hown hK hP 0 rfl rfl 0 (by decide) (hts _ kX8_setCanvas_f7) (fun _ h9 => h9) rfl dX8_setCanvas_44 ?_
      refine lv_iconst (v := 2) hx hb dX8_setCanvas_47 (by decide) ?_
      refine va_iald hx hb hK hP 1 0 rfl rfl (tm_inb_in (by decide)) dX8_setCanvas_48 ?_
      refine lv_iadd hx hb dX8_setCanvas_49 ?_
      refine lv_topi (fun x_7 ex_7 => ?_)
      have hf := tm_at ex_7 hf
      refine lv_istore_n (lv' := [(3, .int x_7), (0, .ref (q0 0)), (1, .int p1), (2, .int p2)]) hx hb dX8_setCanvas_50 rfl hl (by decide) rfl (fun ls hl => ?_)
      refine lv_aload_n hx hb dX8_setCanvas_51 rfl (lv_at hl 1 rfl) ?_
      refine va_get (D := D) (ci := 8) (v := .ref (q0 1)) (C := RX8) (T := TX8) (N := 18) hx hb hts uX8_setCanvas_X8 hown hK hP 0 rfl rfl 0 (by decide) (hts _ kX8_setCanvas_f7) (fun _ h9 => h9) rfl dX8_setCanvas_52 ?_
      refine lv_iconst (v := 1) hx hb dX8_setCanvas_55 (by decide) ?_
      refine lv_iload_n hx hb dX8_setCanvas_56 rfl (lv_at hl 2 rfl) ?_
      refine tm_iast hx hb hK hP hD hS 1 0 rfl rfl (tm_inb_in (by decide)) dX8_setCanvas_57 (fun z => WX8 cI cZ cR q0 z g0) (tm_upc t_6 1 (upd (t_6 1) (1 : Int32).toNatClampNeg p1)) rfl (fun d0_8 ed0_8 H locs hP hD hS => ?_)
      have hf := tm_at ed0_8 hf
      refine lv_aload_n hx hb dX8_setCanvas_58 rfl (lv_at hl 1 rfl) ?_
      refine va_get (D := D) (ci := 8) (v := .ref (q0 1)) (C := RX8) (T := TX8) (N := 18) hx hb hts uX8_setCanvas_X8 hown hK hP 0 rfl rfl 0 (by decide) (hts _ kX8_setCanvas_f7) (fun _ h9 => h9) rfl dX8_setCanvas_59 ?_
      refine lv_iconst (v := 2) hx hb dX8_setCanvas_62 (by decide) ?_
      refine lv_iload_n hx hb dX8_setCanvas_63 rfl (lv_at hl 3 rfl) ?_
      refine tm_iast hx hb hK hP hD hS 1 0 rfl rfl (tm_inb_in (by decide)) dX8_setCanvas_64 (fun z => WX8 cI cZ cR q0 z g0) (tm_upc d0_8 1 (upd (d0_8 1) (2 : Int32).toNatClampNeg p2)) rfl (fun d0_9 ed0_9 H locs hP hD hS => ?_)
      have hf := tm_at ed0_9 hf
      refine lv_iload_n hx hb dX8_setCanvas_65 rfl (lv_at hl 0 rfl) ?_
      simp only [Option.some.injEq, Prod.mk.injEq] at hf
      obtain ⟨rfl, rfl⟩ := hf
      exact hend _ _ _ _ hP hD hS rfl dX8_setCanvas_66
    · have hf := tm_iT c_5 hf
      refine lv_aload_n hx hb dX8_setCanvas_22 rfl (lv_at hl 0 rfl) ?_
      refine lv_bipush (v := (-2)) hx hb dX8_setCanvas_23 (by decide) ?_
      obtain ⟨t_10, ot_10, hf⟩ := tm_bS hf
      refine tm_cVI (As := [.int ((-2))]) (rest := []) ⟨hx, hb, hml, hown, hts⟩ (tX8_fails l D cI cZ cR N q0 d0 g0 ((-2) : Int32) t_10.1 t_10.2 ot_10) (cwV 1 hts gX8_setCanvas_X8_fails rfl rfl rfl hdwsV_X8_fails ⟨Nat.le_of_ble_eq_true rfl, Nat.le_of_ble_eq_true rfl⟩) hK hP hD hS hA [0, 1, 2, 3, 4, 5, 6, 7, 8, 9, 10, 11, 12, 13, 14, 15] (by decide) rfl rfl (ci := 8) rfl rfl rfl (fun _ => WX8 cI cZ cR q0 t_10.2 g0) (()) rfl rfl hl.1 rfl (Nat.le_of_ble_eq_true rfl) dX8_setCanvas_25 ⟨Nat.zero_le _, Nat.zero_le _⟩ (fun _ _ H locs hP hD hS => ?_)
      simp only [Option.some.injEq, Prod.mk.injEq] at hf
      obtain ⟨rfl, rfl⟩ := hf
      exact hend _ _ _ _ hP hD hS rfl dX8_setCanvas_28
set_option maxHeartbeats 4000000 in
set_option maxRecDepth 100000 in
theorem tX8_setPadding (l : Launch) (D : va_G) (cI cZ cR : ClassId) (N : Nat) (q0 : Nat → Nat) (d0 : tm_M) (g0 : Int64) (p1 : Int32) (r0 : Int32) (z0 : tm_M) (hf : fX8_setPadding N d0 g0 p1 = some (r0, z0)) : tm_CI l D (tm_ty cI cZ cR) yX8_setPadding wsX8_setPadding rmX8_setPadding [.ref (q0 0), .int p1] (WX8 cI cZ cR q0 d0 g0) r0 (WX8 cI cZ cR q0 z0 g0) := by
  refine tm_mkI (cc := cX8_setPadding) (maxL := 2) (ty := .int) (by decide) rfl (Nat.le_of_ble_eq_true rfl) ?_
  intro p e s m below meth c A ls Q C hP hD hS hl hend
  have C : tm_Cx p s m c [.ref (q0 0), .int p1].toArray cX8_setPadding 2 RX8 wsX8_setPadding D (tm_ty cI cZ cR) A s.heap := C
  obtain ⟨hx, hb, hml, hown, hts, hK, hA⟩ := id C
  have hl : lv_has ls 2 [(0, .ref (q0 0)), (1, .int p1)] := hl
  unfold fX8_setPadding at hf
  refine lv_iload_n hx hb dX8_setPadding_0 rfl (lv_at hl 1 rfl) ?_
  refine lv_iconst (v := 0) hx hb dX8_setPadding_1 (by decide) ?_
  refine lv_iconst (v := 3) hx hb dX8_setPadding_2 (by decide) ?_
  obtain ⟨t_1, ot_1, hf⟩ := tm_bS hf
  refine tm_cSI (As := [.int p1, .int 0, .int 3]) (rest := []) ⟨hx, hb, hml, hown, hts⟩ (tX8_within l D cI cZ cR N p1 (0 : Int32) (3 : Int32) t_1 ot_1) (va_cwS 3 hts gX8_setPadding_X8_within rfl rfl rfl hdwsS_X8_within ⟨Nat.le_of_ble_eq_true rfl, Nat.le_of_ble_eq_true rfl⟩) hK hP hD hS hA [] (by decide) rfl rfl (fun _ => WX8 cI cZ cR q0 d0 g0) (()) rfl rfl hl.1 rfl (Nat.le_of_ble_eq_true rfl) dX8_setPadding_3 ⟨Nat.zero_le _, Nat.zero_le _⟩ (fun _ _ H locs hP hD hS => ?_)
  refine lv_if_eq (tgt := 18) hx hb dX8_setPadding_6 (by decide) (fun c_2 => ?_) (fun c_2 => ?_)
  · have hf := tm_iT c_2 hf
    refine lv_aload_n hx hb dX8_setPadding_18 rfl (lv_at hl 0 rfl) ?_
    refine lv_bipush (v := (-2)) hx hb dX8_setPadding_19 (by decide) ?_
    obtain ⟨t_3, ot_3, hf⟩ := tm_bS hf
    refine tm_cVI (As := [.int ((-2))]) (rest := []) ⟨hx, hb, hml, hown, hts⟩ (tX8_fails l D cI cZ cR N q0 d0 g0 ((-2) : Int32) t_3.1 t_3.2 ot_3) (cwV 1 hts gX8_setPadding_X8_fails rfl rfl rfl hdwsV_X8_fails ⟨Nat.le_of_ble_eq_true rfl, Nat.le_of_ble_eq_true rfl⟩) hK hP hD hS hA [0, 1, 2, 3, 4, 5, 6, 7, 8, 9, 10, 11, 12, 13, 14, 15] (by decide) rfl rfl (ci := 8) rfl rfl rfl (fun _ => WX8 cI cZ cR q0 t_3.2 g0) (()) rfl rfl hl.1 rfl (Nat.le_of_ble_eq_true rfl) dX8_setPadding_21 ⟨Nat.zero_le _, Nat.zero_le _⟩ (fun _ _ H locs hP hD hS => ?_)
    simp only [Option.some.injEq, Prod.mk.injEq] at hf
    obtain ⟨rfl, rfl⟩ := hf
    exact hend _ _ _ _ hP hD hS rfl dX8_setPadding_24
  · have hf := tm_iF c_2 hf
    refine lv_aload_n hx hb dX8_setPadding_9 rfl (lv_at hl 0 rfl) ?_
    refine lv_iconst (v := 3) hx hb dX8_setPadding_10 (by decide) ?_
    refine lv_iload_n hx hb dX8_setPadding_11 rfl (lv_at hl 1 rfl) ?_
    obtain ⟨t_4, ot_4, hf⟩ := tm_bS hf
    refine tm_cVI (As := [.int 3, .int p1]) (rest := []) ⟨hx, hb, hml, hown, hts⟩ (tX8_changes l D cI cZ cR N q0 d0 g0 (3 : Int32) p1 t_4.1 t_4.2 ot_4) (cwV 2 hts gX8_setPadding_X8_changes rfl rfl rfl hdwsV_X8_changes ⟨Nat.le_of_ble_eq_true rfl, Nat.le_of_ble_eq_true rfl⟩) hK hP hD hS hA [0, 1, 2, 3, 4, 5, 6, 7, 8, 9, 10, 11, 12, 13, 14, 15] (by decide) rfl rfl (ci := 8) rfl rfl rfl (fun _ => WX8 cI cZ cR q0 t_4.2 g0) (()) rfl rfl hl.1 rfl (Nat.le_of_ble_eq_true rfl) dX8_setPadding_12 ⟨Nat.zero_le _, Nat.zero_le _⟩ (fun _ _ H locs hP hD hS => ?_)
    refine lv_goto (tgt := 24) hx hb dX8_setPadding_15 (by decide) ?_
    simp only [Option.some.injEq, Prod.mk.injEq] at hf
    obtain ⟨rfl, rfl⟩ := hf
    exact hend _ _ _ _ hP hD hS rfl dX8_setPadding_24
set_option maxHeartbeats 4000000 in
set_option maxRecDepth 100000 in
theorem tX8_setMode (l : Launch) (D : va_G) (cI cZ cR : ClassId) (N : Nat) (q0 : Nat → Nat) (d0 : tm_M) (g0 : Int64) (p1 : Int32) (r0 : Int32) (z0 : tm_M) (hf : fX8_setMode N d0 g0 p1 = some (r0, z0)) : tm_CI l D (tm_ty cI cZ cR) yX8_setMode wsX8_setMode rmX8_setMode [.ref (q0 0), .int p1] (WX8 cI cZ cR q0 d0 g0) r0 (WX8 cI cZ cR q0 z0 g0) := by
  refine tm_mkI (cc := cX8_setMode) (maxL := 2) (ty := .int) (by decide) rfl (Nat.le_of_ble_eq_true rfl) ?_
  intro p e s m below meth c A ls Q C hP hD hS hl hend
  have C : tm_Cx p s m c [.ref (q0 0), .int p1].toArray cX8_setMode 2 RX8 wsX8_setMode D (tm_ty cI cZ cR) A s.heap := C
  obtain ⟨hx, hb, hml, hown, hts, hK, hA⟩ := id C
  have hl : lv_has ls 2 [(0, .ref (q0 0)), (1, .int p1)] := hl
  unfold fX8_setMode at hf
  refine lv_iload_n hx hb dX8_setMode_0 rfl (lv_at hl 1 rfl) ?_
  refine lv_iconst (v := 0) hx hb dX8_setMode_1 (by decide) ?_
  refine lv_iconst (v := 2) hx hb dX8_setMode_2 (by decide) ?_
  obtain ⟨t_1, ot_1, hf⟩ := tm_bS hf
  refine tm_cSI (As := [.int p1, .int 0, .int 2]) (rest := []) ⟨hx, hb, hml, hown, hts⟩ (tX8_within l D cI cZ cR N p1 (0 : Int32) (2 : Int32) t_1 ot_1) (va_cwS 3 hts gX8_setMode_X8_within rfl rfl rfl hdwsS_X8_within ⟨Nat.le_of_ble_eq_true rfl, Nat.le_of_ble_eq_true rfl⟩) hK hP hD hS hA [] (by decide) rfl rfl (fun _ => WX8 cI cZ cR q0 d0 g0) (()) rfl rfl hl.1 rfl (Nat.le_of_ble_eq_true rfl) dX8_setMode_3 ⟨Nat.zero_le _, Nat.zero_le _⟩ (fun _ _ H locs hP hD hS => ?_)
  refine lv_if_eq (tgt := 18) hx hb dX8_setMode_6 (by decide) (fun c_2 => ?_) (fun c_2 => ?_)
  · have hf := tm_iT c_2 hf
    refine lv_aload_n hx hb dX8_setMode_18 rfl (lv_at hl 0 rfl) ?_
    refine lv_bipush (v := (-2)) hx hb dX8_setMode_19 (by decide) ?_
    obtain ⟨t_3, ot_3, hf⟩ := tm_bS hf
    refine tm_cVI (As := [.int ((-2))]) (rest := []) ⟨hx, hb, hml, hown, hts⟩ (tX8_fails l D cI cZ cR N q0 d0 g0 ((-2) : Int32) t_3.1 t_3.2 ot_3) (cwV 1 hts gX8_setMode_X8_fails rfl rfl rfl hdwsV_X8_fails ⟨Nat.le_of_ble_eq_true rfl, Nat.le_of_ble_eq_true rfl⟩) hK hP hD hS hA [0, 1, 2, 3, 4, 5, 6, 7, 8, 9, 10, 11, 12, 13, 14, 15] (by decide) rfl rfl (ci := 8) rfl rfl rfl (fun _ => WX8 cI cZ cR q0 t_3.2 g0) (()) rfl rfl hl.1 rfl (Nat.le_of_ble_eq_true rfl) dX8_setMode_21 ⟨Nat.zero_le _, Nat.zero_le _⟩ (fun _ _ H locs hP hD hS => ?_)
    simp only [Option.some.injEq, Prod.mk.injEq] at hf
    obtain ⟨rfl, rfl⟩ := hf
    exact hend _ _ _ _ hP hD hS rfl dX8_setMode_24
  · have hf := tm_iF c_2 hf
    refine lv_aload_n hx hb dX8_setMode_9 rfl (lv_at hl 0 rfl) ?_
    refine lv_iconst (v := 4) hx hb dX8_setMode_10 (by decide) ?_
    refine lv_iload_n hx hb dX8_setMode_11 rfl (lv_at hl 1 rfl) ?_
    obtain ⟨t_4, ot_4, hf⟩ := tm_bS hf
    refine tm_cVI (As := [.int 4, .int p1]) (rest := []) ⟨hx, hb, hml, hown, hts⟩ (tX8_changes l D cI cZ cR N q0 d0 g0 (4 : Int32) p1 t_4.1 t_4.2 ot_4) (cwV 2 hts gX8_setMode_X8_changes rfl rfl rfl hdwsV_X8_changes ⟨Nat.le_of_ble_eq_true rfl, Nat.le_of_ble_eq_true rfl⟩) hK hP hD hS hA [0, 1, 2, 3, 4, 5, 6, 7, 8, 9, 10, 11, 12, 13, 14, 15] (by decide) rfl rfl (ci := 8) rfl rfl rfl (fun _ => WX8 cI cZ cR q0 t_4.2 g0) (()) rfl rfl hl.1 rfl (Nat.le_of_ble_eq_true rfl) dX8_setMode_12 ⟨Nat.zero_le _, Nat.zero_le _⟩ (fun _ _ H locs hP hD hS => ?_)
    refine lv_goto (tgt := 24) hx hb dX8_setMode_15 (by decide) ?_
    simp only [Option.some.injEq, Prod.mk.injEq] at hf
    obtain ⟨rfl, rfl⟩ := hf
    exact hend _ _ _ _ hP hD hS rfl dX8_setMode_24
set_option maxHeartbeats 4000000 in
set_option maxRecDepth 100000 in
theorem tX8_nodeCount (l : Launch) (D : va_G) (cI cZ cR : ClassId) (N : Nat) (q0 : Nat → Nat) (d0 : tm_M) (g0 : Int64) (r0 : Int32) (hf : fX8_nodeCount N d0 g0 = some r0) : tm_CI l D (tm_ty cI cZ cR) yX8_nodeCount wsX8_nodeCount rmX8_nodeCount [.ref (q0 0)] (WX8 cI cZ cR q0 d0 g0) r0 (WX8 cI cZ cR q0 d0 g0) := by
  refine tm_mkI (cc := cX8_nodeCount) (maxL := 1) (ty := .int) (by decide) rfl (Nat.le_of_ble_eq_true rfl) ?_
  intro p e s m below meth c A ls Q C hP hD hS hl hend
  have C : tm_Cx p s m c [.ref (q0 0)].toArray cX8_nodeCount 1 RX8 wsX8_nodeCount D (tm_ty cI cZ cR) A s.heap := C
  obtain ⟨hx, hb, hml, hown, hts, hK, hA⟩ := id C
  have hl : lv_has ls 1 [(0, .ref (q0 0))] := hl
  unfold fX8_nodeCount at hf
  refine lv_aload_n hx hb dX8_nodeCount_0 rfl (lv_at hl 0 rfl) ?_
  refine va_get (D := D) (ci := 8) (v := .ref (q0 1)) (C := RX8) (T := TX8) (N := 18) hx hb hts uX8_nodeCount_X8 hown hK hP 0 rfl rfl 0 (by decide) (hts _ kX8_nodeCount_f7) (fun _ h9 => h9) rfl dX8_nodeCount_1 ?_
  refine lv_iconst (v := 0) hx hb dX8_nodeCount_4 (by decide) ?_
  refine va_iald hx hb hK hP 1 0 rfl rfl (tm_inb_in (by decide)) dX8_nodeCount_5 ?_
  obtain rfl := Option.some.inj hf
  exact hend _ _ _ _ hP hD hS rfl dX8_nodeCount_6
set_option maxHeartbeats 4000000 in
set_option maxRecDepth 100000 in
theorem tX8_size (l : Launch) (D : va_G) (cI cZ cR : ClassId) (N : Nat) (q0 : Nat → Nat) (d0 : tm_M) (g0 : Int64) (p1 : Int32) (r0 : Int32) (z0 : tm_M) (hf : fX8_size N d0 g0 p1 = some (r0, z0)) : tm_CI l D (tm_ty cI cZ cR) yX8_size wsX8_size rmX8_size [.ref (q0 0), .int p1] (WX8 cI cZ cR q0 d0 g0) r0 (WX8 cI cZ cR q0 z0 g0) := by
  refine tm_mkI (cc := cX8_size) (maxL := 2) (ty := .int) (by decide) rfl (Nat.le_of_ble_eq_true rfl) ?_
  intro p e s m below meth c A ls Q C hP hD hS hl hend
  have C : tm_Cx p s m c [.ref (q0 0), .int p1].toArray cX8_size 2 RX8 wsX8_size D (tm_ty cI cZ cR) A s.heap := C
  obtain ⟨hx, hb, hml, hown, hts, hK, hA⟩ := id C
  have hl : lv_has ls 2 [(0, .ref (q0 0)), (1, .int p1)] := hl
  unfold fX8_size at hf
  refine lv_aload_n hx hb dX8_size_0 rfl (lv_at hl 0 rfl) ?_
  refine lv_iload_n hx hb dX8_size_1 rfl (lv_at hl 1 rfl) ?_
  obtain ⟨t_1, ot_1, hf⟩ := tm_bS hf
  refine tm_cVI (As := [.int p1]) (rest := []) ⟨hx, hb, hml, hown, hts⟩ (tX8_isNode l D cI cZ cR N q0 d0 g0 p1 t_1 ot_1) (cwV 1 hts gX8_size_X8_isNode rfl rfl rfl hdwsV_X8_isNode ⟨Nat.le_of_ble_eq_true rfl, Nat.le_of_ble_eq_true rfl⟩) hK hP hD hS hA [0, 1, 2, 3, 4, 5, 6, 7, 8, 9, 10, 11, 12, 13, 14, 15] (by decide) rfl rfl (ci := 8) rfl rfl rfl (fun _ => WX8 cI cZ cR q0 d0 g0) (()) rfl rfl hl.1 rfl (Nat.le_of_ble_eq_true rfl) dX8_size_2 ⟨Nat.zero_le _, Nat.zero_le _⟩ (fun _ _ H locs hP hD hS => ?_)
  refine lv_if_eq (tgt := 16) hx hb dX8_size_5 (by decide) (fun c_2 => ?_) (fun c_2 => ?_)
  · have hf := tm_iT c_2 hf
    refine lv_aload_n hx hb dX8_size_16 rfl (lv_at hl 0 rfl) ?_
    refine lv_bipush (v := (-2)) hx hb dX8_size_17 (by decide) ?_
    obtain ⟨t_3, ot_3, hf⟩ := tm_bS hf
    refine tm_cVI (As := [.int ((-2))]) (rest := []) ⟨hx, hb, hml, hown, hts⟩ (tX8_fails l D cI cZ cR N q0 d0 g0 ((-2) : Int32) t_3.1 t_3.2 ot_3) (cwV 1 hts gX8_size_X8_fails rfl rfl rfl hdwsV_X8_fails ⟨Nat.le_of_ble_eq_true rfl, Nat.le_of_ble_eq_true rfl⟩) hK hP hD hS hA [0, 1, 2, 3, 4, 5, 6, 7, 8, 9, 10, 11, 12, 13, 14, 15] (by decide) rfl rfl (ci := 8) rfl rfl rfl (fun _ => WX8 cI cZ cR q0 t_3.2 g0) (()) rfl rfl hl.1 rfl (Nat.le_of_ble_eq_true rfl) dX8_size_19 ⟨Nat.zero_le _, Nat.zero_le _⟩ (fun _ _ H locs hP hD hS => ?_)
    simp only [Option.some.injEq, Prod.mk.injEq] at hf
    obtain ⟨rfl, rfl⟩ := hf
    exact hend _ _ _ _ hP hD hS rfl dX8_size_22
  · have hf := tm_iF c_2 hf
    refine lv_aload_n hx hb dX8_size_8 rfl (lv_at hl 0 rfl) ?_
    refine lv_iload_n hx hb dX8_size_9 rfl (lv_at hl 1 rfl) ?_
    obtain ⟨t_4, ot_4, hf⟩ := tm_bS hf
    refine tm_cVI (As := [.int p1]) (rest := []) ⟨hx, hb, hml, hown, hts⟩ (tX8_sizeOf l D cI cZ cR N q0 d0 g0 p1 t_4 ot_4) (cwV 1 hts gX8_size_X8_sizeOf rfl rfl rfl hdwsV_X8_sizeOf ⟨Nat.le_of_ble_eq_true rfl, Nat.le_of_ble_eq_true rfl⟩) hK hP hD hS hA [0, 1, 2, 3, 4, 5, 6, 7, 8, 9, 10, 11, 12, 13, 14, 15] (by decide) rfl rfl (ci := 8) rfl rfl rfl (fun _ => WX8 cI cZ cR q0 d0 g0) (()) rfl rfl hl.1 rfl (Nat.le_of_ble_eq_true rfl) dX8_size_10 ⟨Nat.zero_le _, Nat.zero_le _⟩ (fun _ _ H locs hP hD hS => ?_)
    refine lv_goto (tgt := 22) hx hb dX8_size_13 (by decide) ?_
    simp only [Option.some.injEq, Prod.mk.injEq] at hf
    obtain ⟨rfl, rfl⟩ := hf
    exact hend _ _ _ _ hP hD hS rfl dX8_size_22
set_option maxHeartbeats 4000000 in
set_option maxRecDepth 100000 in
theorem tX8_parent (l : Launch) (D : va_G) (cI cZ cR : ClassId) (N : Nat) (q0 : Nat → Nat) (d0 : tm_M) (g0 : Int64) (p1 : Int32) (r0 : Int32) (z0 : tm_M) (hf : fX8_parent N d0 g0 p1 = some (r0, z0)) : tm_CI l D (tm_ty cI cZ cR) yX8_parent wsX8_parent rmX8_parent [.ref (q0 0), .int p1] (WX8 cI cZ cR q0 d0 g0) r0 (WX8 cI cZ cR q0 z0 g0) := by
  refine tm_mkI (cc := cX8_parent) (maxL := 2) (ty := .int) (by decide) rfl (Nat.le_of_ble_eq_true rfl) ?_
  intro p e s m below meth c A ls Q C hP hD hS hl hend
  have C : tm_Cx p s m c [.ref (q0 0), .int p1].toArray cX8_parent 2 RX8 wsX8_parent D (tm_ty cI cZ cR) A s.heap := C
  obtain ⟨hx, hb, hml, hown, hts, hK, hA⟩ := id C
  have hl : lv_has ls 2 [(0, .ref (q0 0)), (1, .int p1)] := hl
  unfold fX8_parent at hf
  refine lv_aload_n hx hb dX8_parent_0 rfl (lv_at hl 0 rfl) ?_
  refine lv_iload_n hx hb dX8_parent_1 rfl (lv_at hl 1 rfl) ?_
  obtain ⟨t_1, ot_1, hf⟩ := tm_bS hf
  refine tm_cVI (As := [.int p1]) (rest := []) ⟨hx, hb, hml, hown, hts⟩ (tX8_isNode l D cI cZ cR N q0 d0 g0 p1 t_1 ot_1) (cwV 1 hts gX8_parent_X8_isNode rfl rfl rfl hdwsV_X8_isNode ⟨Nat.le_of_ble_eq_true rfl, Nat.le_of_ble_eq_true rfl⟩) hK hP hD hS hA [0, 1, 2, 3, 4, 5, 6, 7, 8, 9, 10, 11, 12, 13, 14, 15] (by decide) rfl rfl (ci := 8) rfl rfl rfl (fun _ => WX8 cI cZ cR q0 d0 g0) (()) rfl rfl hl.1 rfl (Nat.le_of_ble_eq_true rfl) dX8_parent_2 ⟨Nat.zero_le _, Nat.zero_le _⟩ (fun _ _ H locs hP hD hS => ?_)
  refine lv_if_eq (tgt := 20) hx hb dX8_parent_5 (by decide) (fun c_2 => ?_) (fun c_2 => ?_)
  · have hf := tm_iT c_2 hf
    refine lv_aload_n hx hb dX8_parent_20 rfl (lv_at hl 0 rfl) ?_
    refine lv_bipush (v := (-2)) hx hb dX8_parent_21 (by decide) ?_
    obtain ⟨t_3, ot_3, hf⟩ := tm_bS hf
    refine tm_cVI (As := [.int ((-2))]) (rest := []) ⟨hx, hb, hml, hown, hts⟩ (tX8_fails l D cI cZ cR N q0 d0 g0 ((-2) : Int32) t_3.1 t_3.2 ot_3) (cwV 1 hts gX8_parent_X8_fails rfl rfl rfl hdwsV_X8_fails ⟨Nat.le_of_ble_eq_true rfl, Nat.le_of_ble_eq_true rfl⟩) hK hP hD hS hA [0, 1, 2, 3, 4, 5, 6, 7, 8, 9, 10, 11, 12, 13, 14, 15] (by decide) rfl rfl (ci := 8) rfl rfl rfl (fun _ => WX8 cI cZ cR q0 t_3.2 g0) (()) rfl rfl hl.1 rfl (Nat.le_of_ble_eq_true rfl) dX8_parent_23 ⟨Nat.zero_le _, Nat.zero_le _⟩ (fun _ _ H locs hP hD hS => ?_)
    simp only [Option.some.injEq, Prod.mk.injEq] at hf
    obtain ⟨rfl, rfl⟩ := hf
    exact hend _ _ _ _ hP hD hS rfl dX8_parent_26
  · have hf := tm_iF c_2 hf
    refine lv_aload_n hx hb dX8_parent_8 rfl (lv_at hl 0 rfl) ?_
    refine va_get (D := D) (ci := 8) (v := .ref (q0 1)) (C := RX8) (T := TX8) (N := 18) hx hb hts uX8_parent_X8 hown hK hP 0 rfl rfl 0 (by decide) (hts _ kX8_parent_f7) (fun _ h9 => h9) rfl dX8_parent_9 ?_
    refine lv_bipush (v := 29) hx hb dX8_parent_12 (by decide) ?_
    refine lv_iload_n hx hb dX8_parent_14 rfl (lv_at hl 1 rfl) ?_
    refine lv_iadd hx hb dX8_parent_15 ?_
    obtain ⟨h_4, hf⟩ := tm_gS hf
    refine va_iald hx hb hK hP 1 0 rfl rfl (tm_inb_in h_4) dX8_parent_16 ?_
    refine lv_goto (tgt := 26) hx hb dX8_parent_17 (by decide) ?_
    simp only [Option.some.injEq, Prod.mk.injEq] at hf
    obtain ⟨rfl, rfl⟩ := hf
    exact hend _ _ _ _ hP hD hS rfl dX8_parent_26
set_option maxHeartbeats 4000000 in
set_option maxRecDepth 100000 in
theorem tX8_depth (l : Launch) (D : va_G) (cI cZ cR : ClassId) (N : Nat) (q0 : Nat → Nat) (d0 : tm_M) (g0 : Int64) (p1 : Int32) (r0 : Int32) (z0 : tm_M) (hf : fX8_depth N d0 g0 p1 = some (r0, z0)) : tm_CI l D (tm_ty cI cZ cR) yX8_depth wsX8_depth rmX8_depth [.ref (q0 0), .int p1] (WX8 cI cZ cR q0 d0 g0) r0 (WX8 cI cZ cR q0 z0 g0) := by
  refine tm_mkI (cc := cX8_depth) (maxL := 2) (ty := .int) (by decide) rfl (Nat.le_of_ble_eq_true rfl) ?_
  intro p e s m below meth c A ls Q C hP hD hS hl hend
  have C : tm_Cx p s m c [.ref (q0 0), .int p1].toArray cX8_depth 2 RX8 wsX8_depth D (tm_ty cI cZ cR) A s.heap := C
  obtain ⟨hx, hb, hml, hown, hts, hK, hA⟩ := id C
  have hl : lv_has ls 2 [(0, .ref (q0 0)), (1, .int p1)] := hl
  unfold fX8_depth at hf
  refine lv_aload_n hx hb dX8_depth_0 rfl (lv_at hl 0 rfl) ?_
  refine lv_iload_n hx hb dX8_depth_1 rfl (lv_at hl 1 rfl) ?_
  obtain ⟨t_1, ot_1, hf⟩ := tm_bS hf
  refine tm_cVI (As := [.int p1]) (rest := []) ⟨hx, hb, hml, hown, hts⟩ (tX8_isNode l D cI cZ cR N q0 d0 g0 p1 t_1 ot_1) (cwV 1 hts gX8_depth_X8_isNode rfl rfl rfl hdwsV_X8_isNode ⟨Nat.le_of_ble_eq_true rfl, Nat.le_of_ble_eq_true rfl⟩) hK hP hD hS hA [0, 1, 2, 3, 4, 5, 6, 7, 8, 9, 10, 11, 12, 13, 14, 15] (by decide) rfl rfl (ci := 8) rfl rfl rfl (fun _ => WX8 cI cZ cR q0 d0 g0) (()) rfl rfl hl.1 rfl (Nat.le_of_ble_eq_true rfl) dX8_depth_2 ⟨Nat.zero_le _, Nat.zero_le _⟩ (fun _ _ H locs hP hD hS => ?_)
  refine lv_if_eq (tgt := 16) hx hb dX8_depth_5 (by decide) (fun c_2 => ?_) (fun c_2 => ?_)
  · have hf := tm_iT c_2 hf
    refine lv_aload_n hx hb dX8_depth_16 rfl (lv_at hl 0 rfl) ?_
    refine lv_bipush (v := (-2)) hx hb dX8_depth_17 (by decide) ?_
    obtain ⟨t_3, ot_3, hf⟩ := tm_bS hf
    refine tm_cVI (As := [.int ((-2))]) (rest := []) ⟨hx, hb, hml, hown, hts⟩ (tX8_fails l D cI cZ cR N q0 d0 g0 ((-2) : Int32) t_3.1 t_3.2 ot_3) (cwV 1 hts gX8_depth_X8_fails rfl rfl rfl hdwsV_X8_fails ⟨Nat.le_of_ble_eq_true rfl, Nat.le_of_ble_eq_true rfl⟩) hK hP hD hS hA [0, 1, 2, 3, 4, 5, 6, 7, 8, 9, 10, 11, 12, 13, 14, 15] (by decide) rfl rfl (ci := 8) rfl rfl rfl (fun _ => WX8 cI cZ cR q0 t_3.2 g0) (()) rfl rfl hl.1 rfl (Nat.le_of_ble_eq_true rfl) dX8_depth_19 ⟨Nat.zero_le _, Nat.zero_le _⟩ (fun _ _ H locs hP hD hS => ?_)
    simp only [Option.some.injEq, Prod.mk.injEq] at hf
    obtain ⟨rfl, rfl⟩ := hf
    exact hend _ _ _ _ hP hD hS rfl dX8_depth_22
  · have hf := tm_iF c_2 hf
    refine lv_aload_n hx hb dX8_depth_8 rfl (lv_at hl 0 rfl) ?_
    refine lv_iload_n hx hb dX8_depth_9 rfl (lv_at hl 1 rfl) ?_
    obtain ⟨t_4, ot_4, hf⟩ := tm_bS hf
    refine tm_cVI (As := [.int p1]) (rest := []) ⟨hx, hb, hml, hown, hts⟩ (tX8_depthOf l D cI cZ cR N q0 d0 g0 p1 t_4 ot_4) (cwV 1 hts gX8_depth_X8_depthOf rfl rfl rfl hdwsV_X8_depthOf ⟨Nat.le_of_ble_eq_true rfl, Nat.le_of_ble_eq_true rfl⟩) hK hP hD hS hA [0, 1, 2, 3, 4, 5, 6, 7, 8, 9, 10, 11, 12, 13, 14, 15] (by decide) rfl rfl (ci := 8) rfl rfl rfl (fun _ => WX8 cI cZ cR q0 d0 g0) (()) rfl rfl hl.1 rfl (Nat.le_of_ble_eq_true rfl) dX8_depth_10 ⟨Nat.zero_le _, Nat.zero_le _⟩ (fun _ _ H locs hP hD hS => ?_)
    refine lv_goto (tgt := 22) hx hb dX8_depth_13 (by decide) ?_
    simp only [Option.some.injEq, Prod.mk.injEq] at hf
    obtain ⟨rfl, rfl⟩ := hf
    exact hend _ _ _ _ hP hD hS rfl dX8_depth_22
set_option maxHeartbeats 4000000 in
set_option maxRecDepth 100000 in
theorem wX8_leaves_4 (l : Launch) (D : va_G) (cI cZ cR : ClassId) (N : Nat) (q0 : Nat → Nat) {p : Program} {e : Env} {s : State} {m : MethodId} {args : Array Value} {below : List Frame} {meth : Method} {c : Code} {A : Nat → Prop} {H0 : Heap} {Q : State → Prop} (C : tm_Cx p s m c args cX8_leaves 3 RX8 wsX8_leaves D (tm_ty cI cZ cR) A H0) (d0 : tm_M) (g0 : Int64) : ∀ (n : Nat) (st : Int32 × Int32) (o : (Int32 × Int32)), tm_whl (bX8_leaves_4 N d0 g0) n st = some o → (fun (o : Int32 × Int32) => ∀ (H : Heap) (locs : List Loc) (ls : Array Slot), va_P D vwCl (WX8 cI cZ cR q0 d0 g0) H → va_D A (WX8 cI cZ cR q0 d0 g0) → va_S A H0 H locs → lv_has ls 3 [(1, .int o.1)] → W p l e rmX8_leaves s m args below meth c H locs 0 0 Q (F0 m 36 ls [])) o → (fun (st : Int32 × Int32) => ∀ (H : Heap) (locs : List Loc) (ls : Array Slot), va_P D vwCl (WX8 cI cZ cR q0 d0 g0) H → va_D A (WX8 cI cZ cR q0 d0 g0) → va_S A H0 H locs → lv_has ls 3 [(0, .ref (q0 0)), (1, .int st.1), (2, .int st.2)] → W p l e rmX8_leaves s m args below meth c H locs 0 0 Q (F0 m 4 ls [])) st := by
  obtain ⟨hx, hb, hml, hown, hts, hK, hA⟩ := id C
  refine tm_whl_W (Wh := fun (st : Int32 × Int32) => ∀ (H : Heap) (locs : List Loc) (ls : Array Slot), va_P D vwCl (WX8 cI cZ cR q0 d0 g0) H → va_D A (WX8 cI cZ cR q0 d0 g0) → va_S A H0 H locs → lv_has ls 3 [(0, .ref (q0 0)), (1, .int st.1), (2, .int st.2)] → W p l e rmX8_leaves s m args below meth c H locs 0 0 Q (F0 m 4 ls [])) (Wx := fun (o : Int32 × Int32) => ∀ (H : Heap) (locs : List Loc) (ls : Array Slot), va_P D vwCl (WX8 cI cZ cR q0 d0 g0) H → va_D A (WX8 cI cZ cR q0 d0 g0) → va_S A H0 H locs → lv_has ls 3 [(1, .int o.1)] → W p l e rmX8_leaves s m args below meth c H locs 0 0 Q (F0 m 36 ls [])) ?_
  intro st r hf hk H locs ls hP hD hS hl
  unfold bX8_leaves_4 at hf
  refine lv_iload_n hx hb dX8_leaves_4 rfl (lv_at hl 2 rfl) ?_
  refine lv_aload_n hx hb dX8_leaves_5 rfl (lv_at hl 0 rfl) ?_
  refine va_get (D := D) (ci := 8) (v := .ref (q0 1)) (C := RX8) (T := TX8) (N := 18) hx hb hts uX8_leaves_X8 hown hK hP 0 rfl rfl 0 (by decide) (hts _ kX8_leaves_f7) (fun _ h9 => h9) rfl dX8_leaves_6 ?_
  refine lv_iconst (v := 0) hx hb dX8_leaves_9 (by decide) ?_
  refine va_iald hx hb hK hP 1 0 rfl rfl (tm_inb_in (by decide)) dX8_leaves_10 ?_
  refine lv_icmp_ge (tgt := 36) hx hb dX8_leaves_11 (by decide) (fun c_1 => ?_) (fun c_1 => ?_)
  · have hf := tm_iT c_1 hf
    obtain rfl := Option.some.inj hf
    exact hk _ _ _ hP hD hS (lv_sub hl [1] rfl)
  · have hf := tm_iF c_1 hf
    refine lv_iload_n hx hb dX8_leaves_14 rfl (lv_at hl 1 rfl) ?_
    refine lv_aload_n hx hb dX8_leaves_15 rfl (lv_at hl 0 rfl) ?_
    refine lv_iload_n hx hb dX8_leaves_16 rfl (lv_at hl 2 rfl) ?_
    obtain ⟨t_2, ot_2, hf⟩ := tm_bS hf
    refine tm_cVI (As := [.int st.2]) (rest := [.int st.1]) ⟨hx, hb, hml, hown, hts⟩ (tX8_childMany l D cI cZ cR N q0 d0 g0 st.2 t_2 ot_2) (cwV 1 hts gX8_leaves_X8_childMany rfl rfl rfl hdwsV_X8_childMany ⟨Nat.le_of_ble_eq_true rfl, Nat.le_of_ble_eq_true rfl⟩) hK hP hD hS hA [0, 1, 2, 3, 4, 5, 6, 7, 8, 9, 10, 11, 12, 13, 14, 15] (by decide) rfl rfl (ci := 8) rfl rfl rfl (fun _ => WX8 cI cZ cR q0 d0 g0) (()) rfl rfl hl.1 rfl (Nat.le_of_ble_eq_true rfl) dX8_leaves_17 ⟨Nat.zero_le _, Nat.zero_le _⟩ (fun _ _ H locs hP hD hS => ?_)
    refine lv_if_ne (tgt := 27) hx hb dX8_leaves_20 (by decide) (fun c_3 => ?_) (fun c_3 => ?_)
    · have hf := tm_iF c_3 hf
      refine lv_iconst (v := 0) hx hb dX8_leaves_27 (by decide) ?_
      refine lv_iadd hx hb dX8_leaves_28 ?_
      refine lv_topi (fun x_4 ex_4 => ?_)
      have hf := tm_at ex_4 hf
      refine lv_istore_n (lv' := [(1, .int x_4), (0, .ref (q0 0)), (2, .int st.2)]) hx hb dX8_leaves_29 rfl hl (by decide) rfl (fun ls hl => ?_)
      obtain ⟨x_5, ex_5⟩ : ∃ y : Int32, y = st.2 + 1 := ⟨_, rfl⟩
      have hf := tm_at ex_5 hf
      refine lv_iinc (v := x_5) (lv' := [(2, .int x_5), (1, .int x_4), (0, .ref (q0 0))]) hx hb dX8_leaves_30 hl (k := 2) rfl (by rw [ex_5]; rfl) (by decide) rfl (fun ls hl => ?_)
      refine lv_goto (tgt := 4) hx hb dX8_leaves_33 (by decide) ?_
      obtain rfl := Option.some.inj hf
      exact hk _ _ _ hP hD hS (lv_sub hl [2, 1, 0] rfl)
    · have hf := tm_iT c_3 hf
      refine lv_iconst (v := 1) hx hb dX8_leaves_23 (by decide) ?_
      refine lv_goto (tgt := 28) hx hb dX8_leaves_24 (by decide) ?_
      refine lv_iadd hx hb dX8_leaves_28 ?_
      refine lv_topi (fun x_6 ex_6 => ?_)
      have hf := tm_at ex_6 hf
      refine lv_istore_n (lv' := [(1, .int x_6), (0, .ref (q0 0)), (2, .int st.2)]) hx hb dX8_leaves_29 rfl hl (by decide) rfl (fun ls hl => ?_)
      obtain ⟨x_7, ex_7⟩ : ∃ y : Int32, y = st.2 + 1 := ⟨_, rfl⟩
      have hf := tm_at ex_7 hf
      refine lv_iinc (v := x_7) (lv' := [(2, .int x_7), (1, .int x_6), (0, .ref (q0 0))]) hx hb dX8_leaves_30 hl (k := 2) rfl (by rw [ex_7]; rfl) (by decide) rfl (fun ls hl => ?_)
      refine lv_goto (tgt := 4) hx hb dX8_leaves_33 (by decide) ?_
      obtain rfl := Option.some.inj hf
      exact hk _ _ _ hP hD hS (lv_sub hl [2, 1, 0] rfl)
set_option maxHeartbeats 4000000 in
set_option maxRecDepth 100000 in
theorem tX8_leaves (l : Launch) (D : va_G) (cI cZ cR : ClassId) (N : Nat) (q0 : Nat → Nat) (d0 : tm_M) (g0 : Int64) (r0 : Int32) (hf : fX8_leaves N d0 g0 = some r0) : tm_CI l D (tm_ty cI cZ cR) yX8_leaves wsX8_leaves rmX8_leaves [.ref (q0 0)] (WX8 cI cZ cR q0 d0 g0) r0 (WX8 cI cZ cR q0 d0 g0) := by
  refine tm_mkI (cc := cX8_leaves) (maxL := 3) (ty := .int) (by decide) rfl (Nat.le_of_ble_eq_true rfl) ?_
  intro p e s m below meth c A ls Q C hP hD hS hl hend
  have C : tm_Cx p s m c [.ref (q0 0)].toArray cX8_leaves 3 RX8 wsX8_leaves D (tm_ty cI cZ cR) A s.heap := C
  obtain ⟨hx, hb, hml, hown, hts, hK, hA⟩ := id C
  have hl : lv_has ls 3 [(0, .ref (q0 0))] := hl
  unfold fX8_leaves at hf
  refine lv_iconst (v := 0) hx hb dX8_leaves_0 (by decide) ?_
  refine lv_istore_n (lv' := [(1, .int 0), (0, .ref (q0 0))]) hx hb dX8_leaves_1 rfl hl (by decide) rfl (fun ls hl => ?_)
  refine lv_iconst (v := 0) hx hb dX8_leaves_2 (by decide) ?_
  refine lv_istore_n (lv' := [(2, .int 0), (1, .int 0), (0, .ref (q0 0))]) hx hb dX8_leaves_3 rfl hl (by decide) rfl (fun ls hl => ?_)
  obtain ⟨t_8, ot_8, hf⟩ := tm_bS hf
  refine wX8_leaves_4 l D cI cZ cR N q0 C d0 g0 _ _ _ ot_8 ?_ _ _ _ hP hD hS (lv_sub hl [2, 1, 0] rfl)
  intro H locs ls hP hD hS hl
  refine lv_iload_n hx hb dX8_leaves_36 rfl (lv_at hl 0 rfl) ?_
  obtain rfl := Option.some.inj hf
  exact hend _ _ _ _ hP hD hS rfl dX8_leaves_37
