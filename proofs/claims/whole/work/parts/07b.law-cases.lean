theorem tm_lcmp_self (x : Int64) : lg_cmp x x = 0 := by simp [lg_cmp]
set_option maxHeartbeats 4000000 in
set_option maxRecDepth 100000 in
theorem law_c0 {p : Program} {l : Launch} {e : Env} {s : State} {m : MethodId} {args : Array Value} {below : List Frame} {meth : Method} {c : Code} {A : Nat → Prop} {H0 : Heap} {Q : State → Prop} {D : va_G} {cI cZ cR : ClassId} {b L : Nat} {xs : Nat → Int32} {N : Nat} {Inv : tm_M → tm_M → Int64 → Prop} (C : tm_Cx p s m c args cL_law 4 RL wsL_law D (tm_ty cI cZ cR) A H0) (hX : va_X b L xs s H0) (hbl : b < H0.size) (hbA : ¬ A b) (hL : L ≤ 1536) (hst : tm_S0 N Inv) (q0 q1 : Nat → Nat) (i : Nat) (hi : i + 3 ≤ L) (x3 : Int32) (ex3 : x3 = nI i) (d0 d1 : tm_M) (g0 : Int64) (hI : Inv d0 d1 g0) (kk : ∀ (d0 d1 : tm_M) (g0 : Int64), Inv d0 d1 g0 → ∀ (H : Heap) (locs : List Loc) (ls : Array Slot), va_P D vwCl (WX7X8 cI cZ cR q0 q1 d0 d1 g0) H → va_D A (WX7X8 cI cZ cR q0 q1 d0 d1 g0) → va_S A H0 H locs → lv_has ls 4 [(0, .ref b), (1, .ref (q0 0)), (2, .ref (q1 0)), (3, .int x3)] → W p l e room_1 s m args below meth c H locs 600000 7302250 Q (F0 m 714 ls [])) : ∀ (H : Heap) (locs : List Loc) (ls : Array Slot), va_P D vwCl (WX7X8 cI cZ cR q0 q1 d0 d1 g0) H → va_D A (WX7X8 cI cZ cR q0 q1 d0 d1 g0) → va_S A H0 H locs → lv_has ls 4 [(0, .ref b), (1, .ref (q0 0)), (2, .ref (q1 0)), (3, .int x3)] → W p l e room_1 s m args below meth c H locs 600000 7302250 Q (F0 m 148 ls []) := by
  obtain ⟨hx, hb, hml, hown, hts, hK, hA⟩ := id C
  intro H locs ls hP hD hS hl
  have i1 : vp_in (x3 + 1) L := by rw [ex3, nI_1]; exact vp_in_nI (by omega) (by omega)
  have i2 : vp_in (x3 + 2) L := by rw [ex3, show (2 : Int32) = nI 2 from rfl, nI_add]; exact vp_in_nI (by omega) (by omega)
  obtain ⟨r, d', e', h1, h2, hI2⟩ := hst d0 d1 g0 (xs (x3 + 1).toNatClampNeg) (xs (x3 + 2).toNatClampNeg) hI
  refine lv_aload_n hx hb dL_law_148 rfl (lv_at hl 1 rfl) ?_
  refine lv_aload_n hx hb dL_law_149 rfl (lv_at hl 0 rfl) ?_
  refine lv_iload_n hx hb dL_law_150 rfl (lv_at hl 3 rfl) ?_
  refine lv_iconst (v := 1) hx hb dL_law_151 (by decide) ?_
  refine lv_iadd hx hb dL_law_152 ?_
  refine va_sld hx hb hX hbl hbA hS i1 dL_law_153 ?_
  refine lv_aload_n hx hb dL_law_154 rfl (lv_at hl 0 rfl) ?_
  refine lv_iload_n hx hb dL_law_155 rfl (lv_at hl 3 rfl) ?_
  refine lv_iconst (v := 2) hx hb dL_law_156 (by decide) ?_
  refine lv_iadd hx hb dL_law_157 ?_
  refine va_sld hx hb hX hbl hbA hS i2 dL_law_158 ?_
  refine tm_cVI (As := [.int (xs (x3 + 1).toNatClampNeg), .int (xs (x3 + 2).toNatClampNeg)]) (rest := []) ⟨hx, hb, hml, hown, hts⟩ (tX7_addNode l D cI cZ cR N q0 d0 (xs (x3 + 1).toNatClampNeg) (xs (x3 + 2).toNatClampNeg) r d' h1) (cwV 2 hts gL_law_X7_addNode rfl rfl rfl hdwsV_X7_addNode ⟨Nat.le_of_ble_eq_true rfl, Nat.le_of_ble_eq_true rfl⟩) hK hP hD hS hA [0, 1, 2, 3, 4, 5, 6, 7, 8, 9, 10, 11, 12, 13, 14, 15, 16, 17, 18, 19, 20, 21, 22, 23, 24, 25, 26, 27, 28, 29, 30, 31, 32, 33, 34, 35, 36, 37, 38, 39, 40, 41, 42, 43, 44, 45, 46, 47, 48, 49, 50, 51, 52, 53, 54, 55, 56, 57, 58, 59, 60, 61, 62, 63, 64, 65, 66, 67, 68, 69, 70, 71, 72] (by decide) rfl rfl (ci := 7) rfl rfl rfl (fun _ => WX7X8 cI cZ cR q0 q1 d' d1 g0) () rfl rfl hl.1 rfl (Nat.le_of_ble_eq_true rfl) dL_law_159 ⟨Nat.le_refl _, Nat.le_refl _⟩ (fun _ _ H locs hP hD hS => ?_)
  refine lv_aload_n hx hb dL_law_162 rfl (lv_at hl 2 rfl) ?_
  refine lv_aload_n hx hb dL_law_163 rfl (lv_at hl 0 rfl) ?_
  refine lv_iload_n hx hb dL_law_164 rfl (lv_at hl 3 rfl) ?_
  refine lv_iconst (v := 1) hx hb dL_law_165 (by decide) ?_
  refine lv_iadd hx hb dL_law_166 ?_
  refine va_sld hx hb hX hbl hbA hS i1 dL_law_167 ?_
  refine lv_aload_n hx hb dL_law_168 rfl (lv_at hl 0 rfl) ?_
  refine lv_iload_n hx hb dL_law_169 rfl (lv_at hl 3 rfl) ?_
  refine lv_iconst (v := 2) hx hb dL_law_170 (by decide) ?_
  refine lv_iadd hx hb dL_law_171 ?_
  refine va_sld hx hb hX hbl hbA hS i2 dL_law_172 ?_
  refine tm_cVI (As := [.int (xs (x3 + 1).toNatClampNeg), .int (xs (x3 + 2).toNatClampNeg)]) (rest := [.int r]) ⟨hx, hb, hml, hown, hts⟩ (tX8_addNode l D cI cZ cR N q1 d1 g0 (xs (x3 + 1).toNatClampNeg) (xs (x3 + 2).toNatClampNeg) r e' h2) (cwV 2 hts gL_law_X8_addNode rfl rfl rfl hdwsV_X8_addNode ⟨Nat.le_of_ble_eq_true rfl, Nat.le_of_ble_eq_true rfl⟩) hK hP hD hS hA [73, 74, 75, 76, 77, 78, 79, 80, 81, 82, 83, 84, 85, 86, 87, 88] (by decide) rfl rfl (ci := 8) rfl rfl rfl (fun _ => WX7X8 cI cZ cR q0 q1 d' e' g0) () rfl rfl hl.1 rfl (Nat.le_of_ble_eq_true rfl) dL_law_173 ⟨Nat.le_refl _, Nat.le_refl _⟩ (fun _ _ H locs hP hD hS => ?_)
  refine lv_icmp_eq (tgt := 714) hx hb dL_law_176 (by decide) (fun _ => ?_) (fun c9 => absurd rfl c9)
  exact kk d' e' g0 hI2 H locs ls hP hD hS hl
set_option maxHeartbeats 4000000 in
set_option maxRecDepth 100000 in
theorem law_c1 {p : Program} {l : Launch} {e : Env} {s : State} {m : MethodId} {args : Array Value} {below : List Frame} {meth : Method} {c : Code} {A : Nat → Prop} {H0 : Heap} {Q : State → Prop} {D : va_G} {cI cZ cR : ClassId} {b L : Nat} {xs : Nat → Int32} {N : Nat} {Inv : tm_M → tm_M → Int64 → Prop} (C : tm_Cx p s m c args cL_law 4 RL wsL_law D (tm_ty cI cZ cR) A H0) (hX : va_X b L xs s H0) (hbl : b < H0.size) (hbA : ¬ A b) (hL : L ≤ 1536) (hst : tm_S1 N Inv) (q0 q1 : Nat → Nat) (i : Nat) (hi : i + 3 ≤ L) (x3 : Int32) (ex3 : x3 = nI i) (d0 d1 : tm_M) (g0 : Int64) (hI : Inv d0 d1 g0) (kk : ∀ (d0 d1 : tm_M) (g0 : Int64), Inv d0 d1 g0 → ∀ (H : Heap) (locs : List Loc) (ls : Array Slot), va_P D vwCl (WX7X8 cI cZ cR q0 q1 d0 d1 g0) H → va_D A (WX7X8 cI cZ cR q0 q1 d0 d1 g0) → va_S A H0 H locs → lv_has ls 4 [(0, .ref b), (1, .ref (q0 0)), (2, .ref (q1 0)), (3, .int x3)] → W p l e room_1 s m args below meth c H locs 600000 7302250 Q (F0 m 714 ls [])) : ∀ (H : Heap) (locs : List Loc) (ls : Array Slot), va_P D vwCl (WX7X8 cI cZ cR q0 q1 d0 d1 g0) H → va_D A (WX7X8 cI cZ cR q0 q1 d0 d1 g0) → va_S A H0 H locs → lv_has ls 4 [(0, .ref b), (1, .ref (q0 0)), (2, .ref (q1 0)), (3, .int x3)] → W p l e room_1 s m args below meth c H locs 600000 7302250 Q (F0 m 181 ls []) := by
  obtain ⟨hx, hb, hml, hown, hts, hK, hA⟩ := id C
  intro H locs ls hP hD hS hl
  have i1 : vp_in (x3 + 1) L := by rw [ex3, nI_1]; exact vp_in_nI (by omega) (by omega)
  have i2 : vp_in (x3 + 2) L := by rw [ex3, show (2 : Int32) = nI 2 from rfl, nI_add]; exact vp_in_nI (by omega) (by omega)
  obtain ⟨r, d', e', h1, h2, hI2⟩ := hst d0 d1 g0 (xs (x3 + 1).toNatClampNeg) (xs (x3 + 2).toNatClampNeg) hI
  refine lv_aload_n hx hb dL_law_181 rfl (lv_at hl 1 rfl) ?_
  refine lv_aload_n hx hb dL_law_182 rfl (lv_at hl 0 rfl) ?_
  refine lv_iload_n hx hb dL_law_183 rfl (lv_at hl 3 rfl) ?_
  refine lv_iconst (v := 1) hx hb dL_law_184 (by decide) ?_
  refine lv_iadd hx hb dL_law_185 ?_
  refine va_sld hx hb hX hbl hbA hS i1 dL_law_186 ?_
  refine lv_aload_n hx hb dL_law_187 rfl (lv_at hl 0 rfl) ?_
  refine lv_iload_n hx hb dL_law_188 rfl (lv_at hl 3 rfl) ?_
  refine lv_iconst (v := 2) hx hb dL_law_189 (by decide) ?_
  refine lv_iadd hx hb dL_law_190 ?_
  refine va_sld hx hb hX hbl hbA hS i2 dL_law_191 ?_
  refine tm_cVI (As := [.int (xs (x3 + 1).toNatClampNeg), .int (xs (x3 + 2).toNatClampNeg)]) (rest := []) ⟨hx, hb, hml, hown, hts⟩ (tX7_setSize l D cI cZ cR N q0 d0 (xs (x3 + 1).toNatClampNeg) (xs (x3 + 2).toNatClampNeg) r d' h1) (cwV 2 hts gL_law_X7_setSize rfl rfl rfl hdwsV_X7_setSize ⟨Nat.le_of_ble_eq_true rfl, Nat.le_of_ble_eq_true rfl⟩) hK hP hD hS hA [0, 1, 2, 3, 4, 5, 6, 7, 8, 9, 10, 11, 12, 13, 14, 15, 16, 17, 18, 19, 20, 21, 22, 23, 24, 25, 26, 27, 28, 29, 30, 31, 32, 33, 34, 35, 36, 37, 38, 39, 40, 41, 42, 43, 44, 45, 46, 47, 48, 49, 50, 51, 52, 53, 54, 55, 56, 57, 58, 59, 60, 61, 62, 63, 64, 65, 66, 67, 68, 69, 70, 71, 72] (by decide) rfl rfl (ci := 7) rfl rfl rfl (fun _ => WX7X8 cI cZ cR q0 q1 d' d1 g0) () rfl rfl hl.1 rfl (Nat.le_of_ble_eq_true rfl) dL_law_192 ⟨Nat.le_refl _, Nat.le_refl _⟩ (fun _ _ H locs hP hD hS => ?_)
  refine lv_aload_n hx hb dL_law_195 rfl (lv_at hl 2 rfl) ?_
  refine lv_aload_n hx hb dL_law_196 rfl (lv_at hl 0 rfl) ?_
  refine lv_iload_n hx hb dL_law_197 rfl (lv_at hl 3 rfl) ?_
  refine lv_iconst (v := 1) hx hb dL_law_198 (by decide) ?_
  refine lv_iadd hx hb dL_law_199 ?_
  refine va_sld hx hb hX hbl hbA hS i1 dL_law_200 ?_
  refine lv_aload_n hx hb dL_law_201 rfl (lv_at hl 0 rfl) ?_
  refine lv_iload_n hx hb dL_law_202 rfl (lv_at hl 3 rfl) ?_
  refine lv_iconst (v := 2) hx hb dL_law_203 (by decide) ?_
  refine lv_iadd hx hb dL_law_204 ?_
  refine va_sld hx hb hX hbl hbA hS i2 dL_law_205 ?_
  refine tm_cVI (As := [.int (xs (x3 + 1).toNatClampNeg), .int (xs (x3 + 2).toNatClampNeg)]) (rest := [.int r]) ⟨hx, hb, hml, hown, hts⟩ (tX8_setSize l D cI cZ cR N q1 d1 g0 (xs (x3 + 1).toNatClampNeg) (xs (x3 + 2).toNatClampNeg) r e' h2) (cwV 2 hts gL_law_X8_setSize rfl rfl rfl hdwsV_X8_setSize ⟨Nat.le_of_ble_eq_true rfl, Nat.le_of_ble_eq_true rfl⟩) hK hP hD hS hA [73, 74, 75, 76, 77, 78, 79, 80, 81, 82, 83, 84, 85, 86, 87, 88] (by decide) rfl rfl (ci := 8) rfl rfl rfl (fun _ => WX7X8 cI cZ cR q0 q1 d' e' g0) () rfl rfl hl.1 rfl (Nat.le_of_ble_eq_true rfl) dL_law_206 ⟨Nat.le_refl _, Nat.le_refl _⟩ (fun _ _ H locs hP hD hS => ?_)
  refine lv_icmp_eq (tgt := 714) hx hb dL_law_209 (by decide) (fun _ => ?_) (fun c9 => absurd rfl c9)
  exact kk d' e' g0 hI2 H locs ls hP hD hS hl
set_option maxHeartbeats 4000000 in
set_option maxRecDepth 100000 in
theorem law_c2 {p : Program} {l : Launch} {e : Env} {s : State} {m : MethodId} {args : Array Value} {below : List Frame} {meth : Method} {c : Code} {A : Nat → Prop} {H0 : Heap} {Q : State → Prop} {D : va_G} {cI cZ cR : ClassId} {b L : Nat} {xs : Nat → Int32} {N : Nat} {Inv : tm_M → tm_M → Int64 → Prop} (C : tm_Cx p s m c args cL_law 4 RL wsL_law D (tm_ty cI cZ cR) A H0) (hX : va_X b L xs s H0) (hbl : b < H0.size) (hbA : ¬ A b) (hL : L ≤ 1536) (hst : tm_S2 N Inv) (q0 q1 : Nat → Nat) (i : Nat) (hi : i + 3 ≤ L) (x3 : Int32) (ex3 : x3 = nI i) (d0 d1 : tm_M) (g0 : Int64) (hI : Inv d0 d1 g0) (kk : ∀ (d0 d1 : tm_M) (g0 : Int64), Inv d0 d1 g0 → ∀ (H : Heap) (locs : List Loc) (ls : Array Slot), va_P D vwCl (WX7X8 cI cZ cR q0 q1 d0 d1 g0) H → va_D A (WX7X8 cI cZ cR q0 q1 d0 d1 g0) → va_S A H0 H locs → lv_has ls 4 [(0, .ref b), (1, .ref (q0 0)), (2, .ref (q1 0)), (3, .int x3)] → W p l e room_1 s m args below meth c H locs 600000 7302250 Q (F0 m 714 ls [])) : ∀ (H : Heap) (locs : List Loc) (ls : Array Slot), va_P D vwCl (WX7X8 cI cZ cR q0 q1 d0 d1 g0) H → va_D A (WX7X8 cI cZ cR q0 q1 d0 d1 g0) → va_S A H0 H locs → lv_has ls 4 [(0, .ref b), (1, .ref (q0 0)), (2, .ref (q1 0)), (3, .int x3)] → W p l e room_1 s m args below meth c H locs 600000 7302250 Q (F0 m 214 ls []) := by
  obtain ⟨hx, hb, hml, hown, hts, hK, hA⟩ := id C
  intro H locs ls hP hD hS hl
  have i1 : vp_in (x3 + 1) L := by rw [ex3, nI_1]; exact vp_in_nI (by omega) (by omega)
  have i2 : vp_in (x3 + 2) L := by rw [ex3, show (2 : Int32) = nI 2 from rfl, nI_add]; exact vp_in_nI (by omega) (by omega)
  obtain ⟨r, d', e', h1, h2, hI2⟩ := hst d0 d1 g0 (xs (x3 + 1).toNatClampNeg) hI
  refine lv_aload_n hx hb dL_law_214 rfl (lv_at hl 1 rfl) ?_
  refine lv_aload_n hx hb dL_law_215 rfl (lv_at hl 0 rfl) ?_
  refine lv_iload_n hx hb dL_law_216 rfl (lv_at hl 3 rfl) ?_
  refine lv_iconst (v := 1) hx hb dL_law_217 (by decide) ?_
  refine lv_iadd hx hb dL_law_218 ?_
  refine va_sld hx hb hX hbl hbA hS i1 dL_law_219 ?_
  refine tm_cVI (As := [.int (xs (x3 + 1).toNatClampNeg)]) (rest := []) ⟨hx, hb, hml, hown, hts⟩ (tX7_removeLeaf l D cI cZ cR N q0 d0 (xs (x3 + 1).toNatClampNeg) r d' h1) (cwV 1 hts gL_law_X7_removeLeaf rfl rfl rfl hdwsV_X7_removeLeaf ⟨Nat.le_of_ble_eq_true rfl, Nat.le_of_ble_eq_true rfl⟩) hK hP hD hS hA [0, 1, 2, 3, 4, 5, 6, 7, 8, 9, 10, 11, 12, 13, 14, 15, 16, 17, 18, 19, 20, 21, 22, 23, 24, 25, 26, 27, 28, 29, 30, 31, 32, 33, 34, 35, 36, 37, 38, 39, 40, 41, 42, 43, 44, 45, 46, 47, 48, 49, 50, 51, 52, 53, 54, 55, 56, 57, 58, 59, 60, 61, 62, 63, 64, 65, 66, 67, 68, 69, 70, 71, 72] (by decide) rfl rfl (ci := 7) rfl rfl rfl (fun _ => WX7X8 cI cZ cR q0 q1 d' d1 g0) () rfl rfl hl.1 rfl (Nat.le_of_ble_eq_true rfl) dL_law_220 ⟨Nat.le_refl _, Nat.le_refl _⟩ (fun _ _ H locs hP hD hS => ?_)
  refine lv_aload_n hx hb dL_law_223 rfl (lv_at hl 2 rfl) ?_
  refine lv_aload_n hx hb dL_law_224 rfl (lv_at hl 0 rfl) ?_
  refine lv_iload_n hx hb dL_law_225 rfl (lv_at hl 3 rfl) ?_
  refine lv_iconst (v := 1) hx hb dL_law_226 (by decide) ?_
  refine lv_iadd hx hb dL_law_227 ?_
  refine va_sld hx hb hX hbl hbA hS i1 dL_law_228 ?_
  refine tm_cVI (As := [.int (xs (x3 + 1).toNatClampNeg)]) (rest := [.int r]) ⟨hx, hb, hml, hown, hts⟩ (tX8_removeLeaf l D cI cZ cR N q1 d1 g0 (xs (x3 + 1).toNatClampNeg) r e' h2) (cwV 1 hts gL_law_X8_removeLeaf rfl rfl rfl hdwsV_X8_removeLeaf ⟨Nat.le_of_ble_eq_true rfl, Nat.le_of_ble_eq_true rfl⟩) hK hP hD hS hA [73, 74, 75, 76, 77, 78, 79, 80, 81, 82, 83, 84, 85, 86, 87, 88] (by decide) rfl rfl (ci := 8) rfl rfl rfl (fun _ => WX7X8 cI cZ cR q0 q1 d' e' g0) () rfl rfl hl.1 rfl (Nat.le_of_ble_eq_true rfl) dL_law_229 ⟨Nat.le_refl _, Nat.le_refl _⟩ (fun _ _ H locs hP hD hS => ?_)
  refine lv_icmp_eq (tgt := 714) hx hb dL_law_232 (by decide) (fun _ => ?_) (fun c9 => absurd rfl c9)
  exact kk d' e' g0 hI2 H locs ls hP hD hS hl
set_option maxHeartbeats 4000000 in
set_option maxRecDepth 100000 in
theorem law_c3 {p : Program} {l : Launch} {e : Env} {s : State} {m : MethodId} {args : Array Value} {below : List Frame} {meth : Method} {c : Code} {A : Nat → Prop} {H0 : Heap} {Q : State → Prop} {D : va_G} {cI cZ cR : ClassId} {b L : Nat} {xs : Nat → Int32} {N : Nat} {Inv : tm_M → tm_M → Int64 → Prop} (C : tm_Cx p s m c args cL_law 4 RL wsL_law D (tm_ty cI cZ cR) A H0) (hX : va_X b L xs s H0) (hbl : b < H0.size) (hbA : ¬ A b) (hL : L ≤ 1536) (hst : tm_S3 N Inv) (q0 q1 : Nat → Nat) (i : Nat) (hi : i + 3 ≤ L) (x3 : Int32) (ex3 : x3 = nI i) (d0 d1 : tm_M) (g0 : Int64) (hI : Inv d0 d1 g0) (kk : ∀ (d0 d1 : tm_M) (g0 : Int64), Inv d0 d1 g0 → ∀ (H : Heap) (locs : List Loc) (ls : Array Slot), va_P D vwCl (WX7X8 cI cZ cR q0 q1 d0 d1 g0) H → va_D A (WX7X8 cI cZ cR q0 q1 d0 d1 g0) → va_S A H0 H locs → lv_has ls 4 [(0, .ref b), (1, .ref (q0 0)), (2, .ref (q1 0)), (3, .int x3)] → W p l e room_1 s m args below meth c H locs 600000 7302250 Q (F0 m 714 ls [])) : ∀ (H : Heap) (locs : List Loc) (ls : Array Slot), va_P D vwCl (WX7X8 cI cZ cR q0 q1 d0 d1 g0) H → va_D A (WX7X8 cI cZ cR q0 q1 d0 d1 g0) → va_S A H0 H locs → lv_has ls 4 [(0, .ref b), (1, .ref (q0 0)), (2, .ref (q1 0)), (3, .int x3)] → W p l e room_1 s m args below meth c H locs 600000 7302250 Q (F0 m 237 ls []) := by
  obtain ⟨hx, hb, hml, hown, hts, hK, hA⟩ := id C
  intro H locs ls hP hD hS hl
  have i1 : vp_in (x3 + 1) L := by rw [ex3, nI_1]; exact vp_in_nI (by omega) (by omega)
  have i2 : vp_in (x3 + 2) L := by rw [ex3, show (2 : Int32) = nI 2 from rfl, nI_add]; exact vp_in_nI (by omega) (by omega)
  obtain ⟨r, d', e', h1, h2, hI2⟩ := hst d0 d1 g0 (xs (x3 + 1).toNatClampNeg) (xs (x3 + 2).toNatClampNeg) hI
  refine lv_aload_n hx hb dL_law_237 rfl (lv_at hl 1 rfl) ?_
  refine lv_aload_n hx hb dL_law_238 rfl (lv_at hl 0 rfl) ?_
  refine lv_iload_n hx hb dL_law_239 rfl (lv_at hl 3 rfl) ?_
  refine lv_iconst (v := 1) hx hb dL_law_240 (by decide) ?_
  refine lv_iadd hx hb dL_law_241 ?_
  refine va_sld hx hb hX hbl hbA hS i1 dL_law_242 ?_
  refine lv_aload_n hx hb dL_law_243 rfl (lv_at hl 0 rfl) ?_
  refine lv_iload_n hx hb dL_law_244 rfl (lv_at hl 3 rfl) ?_
  refine lv_iconst (v := 2) hx hb dL_law_245 (by decide) ?_
  refine lv_iadd hx hb dL_law_246 ?_
  refine va_sld hx hb hX hbl hbA hS i2 dL_law_247 ?_
  refine tm_cVI (As := [.int (xs (x3 + 1).toNatClampNeg), .int (xs (x3 + 2).toNatClampNeg)]) (rest := []) ⟨hx, hb, hml, hown, hts⟩ (tX7_setParent l D cI cZ cR N q0 d0 (xs (x3 + 1).toNatClampNeg) (xs (x3 + 2).toNatClampNeg) r d' h1) (cwV 2 hts gL_law_X7_setParent rfl rfl rfl hdwsV_X7_setParent ⟨Nat.le_of_ble_eq_true rfl, Nat.le_of_ble_eq_true rfl⟩) hK hP hD hS hA [0, 1, 2, 3, 4, 5, 6, 7, 8, 9, 10, 11, 12, 13, 14, 15, 16, 17, 18, 19, 20, 21, 22, 23, 24, 25, 26, 27, 28, 29, 30, 31, 32, 33, 34, 35, 36, 37, 38, 39, 40, 41, 42, 43, 44, 45, 46, 47, 48, 49, 50, 51, 52, 53, 54, 55, 56, 57, 58, 59, 60, 61, 62, 63, 64, 65, 66, 67, 68, 69, 70, 71, 72] (by decide) rfl rfl (ci := 7) rfl rfl rfl (fun _ => WX7X8 cI cZ cR q0 q1 d' d1 g0) () rfl rfl hl.1 rfl (Nat.le_of_ble_eq_true rfl) dL_law_248 ⟨Nat.le_refl _, Nat.le_refl _⟩ (fun _ _ H locs hP hD hS => ?_)
  refine lv_aload_n hx hb dL_law_251 rfl (lv_at hl 2 rfl) ?_
  refine lv_aload_n hx hb dL_law_252 rfl (lv_at hl 0 rfl) ?_
  refine lv_iload_n hx hb dL_law_253 rfl (lv_at hl 3 rfl) ?_
  refine lv_iconst (v := 1) hx hb dL_law_254 (by decide) ?_
  refine lv_iadd hx hb dL_law_255 ?_
  refine va_sld hx hb hX hbl hbA hS i1 dL_law_256 ?_
  refine lv_aload_n hx hb dL_law_257 rfl (lv_at hl 0 rfl) ?_
  refine lv_iload_n hx hb dL_law_258 rfl (lv_at hl 3 rfl) ?_
  refine lv_iconst (v := 2) hx hb dL_law_259 (by decide) ?_
  refine lv_iadd hx hb dL_law_260 ?_
  refine va_sld hx hb hX hbl hbA hS i2 dL_law_261 ?_
  refine tm_cVI (As := [.int (xs (x3 + 1).toNatClampNeg), .int (xs (x3 + 2).toNatClampNeg)]) (rest := [.int r]) ⟨hx, hb, hml, hown, hts⟩ (tX8_setParent l D cI cZ cR N q1 d1 g0 (xs (x3 + 1).toNatClampNeg) (xs (x3 + 2).toNatClampNeg) r e' h2) (cwV 2 hts gL_law_X8_setParent rfl rfl rfl hdwsV_X8_setParent ⟨Nat.le_of_ble_eq_true rfl, Nat.le_of_ble_eq_true rfl⟩) hK hP hD hS hA [73, 74, 75, 76, 77, 78, 79, 80, 81, 82, 83, 84, 85, 86, 87, 88] (by decide) rfl rfl (ci := 8) rfl rfl rfl (fun _ => WX7X8 cI cZ cR q0 q1 d' e' g0) () rfl rfl hl.1 rfl (Nat.le_of_ble_eq_true rfl) dL_law_262 ⟨Nat.le_refl _, Nat.le_refl _⟩ (fun _ _ H locs hP hD hS => ?_)
  refine lv_icmp_eq (tgt := 714) hx hb dL_law_265 (by decide) (fun _ => ?_) (fun c9 => absurd rfl c9)
  exact kk d' e' g0 hI2 H locs ls hP hD hS hl
set_option maxHeartbeats 4000000 in
set_option maxRecDepth 100000 in
theorem law_c4 {p : Program} {l : Launch} {e : Env} {s : State} {m : MethodId} {args : Array Value} {below : List Frame} {meth : Method} {c : Code} {A : Nat → Prop} {H0 : Heap} {Q : State → Prop} {D : va_G} {cI cZ cR : ClassId} {b L : Nat} {xs : Nat → Int32} {N : Nat} {Inv : tm_M → tm_M → Int64 → Prop} (C : tm_Cx p s m c args cL_law 4 RL wsL_law D (tm_ty cI cZ cR) A H0) (hX : va_X b L xs s H0) (hbl : b < H0.size) (hbA : ¬ A b) (hL : L ≤ 1536) (hst : tm_S4 N Inv) (q0 q1 : Nat → Nat) (i : Nat) (hi : i + 3 ≤ L) (x3 : Int32) (ex3 : x3 = nI i) (d0 d1 : tm_M) (g0 : Int64) (hI : Inv d0 d1 g0) (kk : ∀ (d0 d1 : tm_M) (g0 : Int64), Inv d0 d1 g0 → ∀ (H : Heap) (locs : List Loc) (ls : Array Slot), va_P D vwCl (WX7X8 cI cZ cR q0 q1 d0 d1 g0) H → va_D A (WX7X8 cI cZ cR q0 q1 d0 d1 g0) → va_S A H0 H locs → lv_has ls 4 [(0, .ref b), (1, .ref (q0 0)), (2, .ref (q1 0)), (3, .int x3)] → W p l e room_1 s m args below meth c H locs 600000 7302250 Q (F0 m 714 ls [])) : ∀ (H : Heap) (locs : List Loc) (ls : Array Slot), va_P D vwCl (WX7X8 cI cZ cR q0 q1 d0 d1 g0) H → va_D A (WX7X8 cI cZ cR q0 q1 d0 d1 g0) → va_S A H0 H locs → lv_has ls 4 [(0, .ref b), (1, .ref (q0 0)), (2, .ref (q1 0)), (3, .int x3)] → W p l e room_1 s m args below meth c H locs 600000 7302250 Q (F0 m 270 ls []) := by
  obtain ⟨hx, hb, hml, hown, hts, hK, hA⟩ := id C
  intro H locs ls hP hD hS hl
  have i1 : vp_in (x3 + 1) L := by rw [ex3, nI_1]; exact vp_in_nI (by omega) (by omega)
  have i2 : vp_in (x3 + 2) L := by rw [ex3, show (2 : Int32) = nI 2 from rfl, nI_add]; exact vp_in_nI (by omega) (by omega)
  obtain ⟨r, d', e', h1, h2, hI2⟩ := hst d0 d1 g0 (xs (x3 + 1).toNatClampNeg) (xs (x3 + 2).toNatClampNeg) hI
  refine lv_aload_n hx hb dL_law_270 rfl (lv_at hl 1 rfl) ?_
  refine lv_aload_n hx hb dL_law_271 rfl (lv_at hl 0 rfl) ?_
  refine lv_iload_n hx hb dL_law_272 rfl (lv_at hl 3 rfl) ?_
  refine lv_iconst (v := 1) hx hb dL_law_273 (by decide) ?_
  refine lv_iadd hx hb dL_law_274 ?_
  refine va_sld hx hb hX hbl hbA hS i1 dL_law_275 ?_
  refine lv_aload_n hx hb dL_law_276 rfl (lv_at hl 0 rfl) ?_
  refine lv_iload_n hx hb dL_law_277 rfl (lv_at hl 3 rfl) ?_
  refine lv_iconst (v := 2) hx hb dL_law_278 (by decide) ?_
  refine lv_iadd hx hb dL_law_279 ?_
  refine va_sld hx hb hX hbl hbA hS i2 dL_law_280 ?_
  refine tm_cVI (As := [.int (xs (x3 + 1).toNatClampNeg), .int (xs (x3 + 2).toNatClampNeg)]) (rest := []) ⟨hx, hb, hml, hown, hts⟩ (tX7_setCanvas l D cI cZ cR N q0 d0 (xs (x3 + 1).toNatClampNeg) (xs (x3 + 2).toNatClampNeg) r d' h1) (cwV 2 hts gL_law_X7_setCanvas rfl rfl rfl hdwsV_X7_setCanvas ⟨Nat.le_of_ble_eq_true rfl, Nat.le_of_ble_eq_true rfl⟩) hK hP hD hS hA [0, 1, 2, 3, 4, 5, 6, 7, 8, 9, 10, 11, 12, 13, 14, 15, 16, 17, 18, 19, 20, 21, 22, 23, 24, 25, 26, 27, 28, 29, 30, 31, 32, 33, 34, 35, 36, 37, 38, 39, 40, 41, 42, 43, 44, 45, 46, 47, 48, 49, 50, 51, 52, 53, 54, 55, 56, 57, 58, 59, 60, 61, 62, 63, 64, 65, 66, 67, 68, 69, 70, 71, 72] (by decide) rfl rfl (ci := 7) rfl rfl rfl (fun _ => WX7X8 cI cZ cR q0 q1 d' d1 g0) () rfl rfl hl.1 rfl (Nat.le_of_ble_eq_true rfl) dL_law_281 ⟨Nat.le_refl _, Nat.le_refl _⟩ (fun _ _ H locs hP hD hS => ?_)
  refine lv_aload_n hx hb dL_law_284 rfl (lv_at hl 2 rfl) ?_
  refine lv_aload_n hx hb dL_law_285 rfl (lv_at hl 0 rfl) ?_
  refine lv_iload_n hx hb dL_law_286 rfl (lv_at hl 3 rfl) ?_
  refine lv_iconst (v := 1) hx hb dL_law_287 (by decide) ?_
  refine lv_iadd hx hb dL_law_288 ?_
  refine va_sld hx hb hX hbl hbA hS i1 dL_law_289 ?_
  refine lv_aload_n hx hb dL_law_290 rfl (lv_at hl 0 rfl) ?_
  refine lv_iload_n hx hb dL_law_291 rfl (lv_at hl 3 rfl) ?_
  refine lv_iconst (v := 2) hx hb dL_law_292 (by decide) ?_
  refine lv_iadd hx hb dL_law_293 ?_
  refine va_sld hx hb hX hbl hbA hS i2 dL_law_294 ?_
  refine tm_cVI (As := [.int (xs (x3 + 1).toNatClampNeg), .int (xs (x3 + 2).toNatClampNeg)]) (rest := [.int r]) ⟨hx, hb, hml, hown, hts⟩ (tX8_setCanvas l D cI cZ cR N q1 d1 g0 (xs (x3 + 1).toNatClampNeg) (xs (x3 + 2).toNatClampNeg) r e' h2) (cwV 2 hts gL_law_X8_setCanvas rfl rfl rfl hdwsV_X8_setCanvas ⟨Nat.le_of_ble_eq_true rfl, Nat.le_of_ble_eq_true rfl⟩) hK hP hD hS hA [73, 74, 75, 76, 77, 78, 79, 80, 81, 82, 83, 84, 85, 86, 87, 88] (by decide) rfl rfl (ci := 8) rfl rfl rfl (fun _ => WX7X8 cI cZ cR q0 q1 d' e' g0) () rfl rfl hl.1 rfl (Nat.le_of_ble_eq_true rfl) dL_law_295 ⟨Nat.le_refl _, Nat.le_refl _⟩ (fun _ _ H locs hP hD hS => ?_)
  refine lv_icmp_eq (tgt := 714) hx hb dL_law_298 (by decide) (fun _ => ?_) (fun c9 => absurd rfl c9)
  exact kk d' e' g0 hI2 H locs ls hP hD hS hl
set_option maxHeartbeats 4000000 in
set_option maxRecDepth 100000 in
theorem law_c5 {p : Program} {l : Launch} {e : Env} {s : State} {m : MethodId} {args : Array Value} {below : List Frame} {meth : Method} {c : Code} {A : Nat → Prop} {H0 : Heap} {Q : State → Prop} {D : va_G} {cI cZ cR : ClassId} {b L : Nat} {xs : Nat → Int32} {N : Nat} {Inv : tm_M → tm_M → Int64 → Prop} (C : tm_Cx p s m c args cL_law 4 RL wsL_law D (tm_ty cI cZ cR) A H0) (hX : va_X b L xs s H0) (hbl : b < H0.size) (hbA : ¬ A b) (hL : L ≤ 1536) (hst : tm_S5 N Inv) (q0 q1 : Nat → Nat) (i : Nat) (hi : i + 3 ≤ L) (x3 : Int32) (ex3 : x3 = nI i) (d0 d1 : tm_M) (g0 : Int64) (hI : Inv d0 d1 g0) (kk : ∀ (d0 d1 : tm_M) (g0 : Int64), Inv d0 d1 g0 → ∀ (H : Heap) (locs : List Loc) (ls : Array Slot), va_P D vwCl (WX7X8 cI cZ cR q0 q1 d0 d1 g0) H → va_D A (WX7X8 cI cZ cR q0 q1 d0 d1 g0) → va_S A H0 H locs → lv_has ls 4 [(0, .ref b), (1, .ref (q0 0)), (2, .ref (q1 0)), (3, .int x3)] → W p l e room_1 s m args below meth c H locs 600000 7302250 Q (F0 m 714 ls [])) : ∀ (H : Heap) (locs : List Loc) (ls : Array Slot), va_P D vwCl (WX7X8 cI cZ cR q0 q1 d0 d1 g0) H → va_D A (WX7X8 cI cZ cR q0 q1 d0 d1 g0) → va_S A H0 H locs → lv_has ls 4 [(0, .ref b), (1, .ref (q0 0)), (2, .ref (q1 0)), (3, .int x3)] → W p l e room_1 s m args below meth c H locs 600000 7302250 Q (F0 m 303 ls []) := by
  obtain ⟨hx, hb, hml, hown, hts, hK, hA⟩ := id C
  intro H locs ls hP hD hS hl
  have i1 : vp_in (x3 + 1) L := by rw [ex3, nI_1]; exact vp_in_nI (by omega) (by omega)
  have i2 : vp_in (x3 + 2) L := by rw [ex3, show (2 : Int32) = nI 2 from rfl, nI_add]; exact vp_in_nI (by omega) (by omega)
  obtain ⟨r, d', e', h1, h2, hI2⟩ := hst d0 d1 g0 (xs (x3 + 1).toNatClampNeg) hI
  refine lv_aload_n hx hb dL_law_303 rfl (lv_at hl 1 rfl) ?_
  refine lv_aload_n hx hb dL_law_304 rfl (lv_at hl 0 rfl) ?_
  refine lv_iload_n hx hb dL_law_305 rfl (lv_at hl 3 rfl) ?_
  refine lv_iconst (v := 1) hx hb dL_law_306 (by decide) ?_
  refine lv_iadd hx hb dL_law_307 ?_
  refine va_sld hx hb hX hbl hbA hS i1 dL_law_308 ?_
  refine tm_cVI (As := [.int (xs (x3 + 1).toNatClampNeg)]) (rest := []) ⟨hx, hb, hml, hown, hts⟩ (tX7_setPadding l D cI cZ cR N q0 d0 (xs (x3 + 1).toNatClampNeg) r d' h1) (cwV 1 hts gL_law_X7_setPadding rfl rfl rfl hdwsV_X7_setPadding ⟨Nat.le_of_ble_eq_true rfl, Nat.le_of_ble_eq_true rfl⟩) hK hP hD hS hA [0, 1, 2, 3, 4, 5, 6, 7, 8, 9, 10, 11, 12, 13, 14, 15, 16, 17, 18, 19, 20, 21, 22, 23, 24, 25, 26, 27, 28, 29, 30, 31, 32, 33, 34, 35, 36, 37, 38, 39, 40, 41, 42, 43, 44, 45, 46, 47, 48, 49, 50, 51, 52, 53, 54, 55, 56, 57, 58, 59, 60, 61, 62, 63, 64, 65, 66, 67, 68, 69, 70, 71, 72] (by decide) rfl rfl (ci := 7) rfl rfl rfl (fun _ => WX7X8 cI cZ cR q0 q1 d' d1 g0) () rfl rfl hl.1 rfl (Nat.le_of_ble_eq_true rfl) dL_law_309 ⟨Nat.le_refl _, Nat.le_refl _⟩ (fun _ _ H locs hP hD hS => ?_)
  refine lv_aload_n hx hb dL_law_312 rfl (lv_at hl 2 rfl) ?_
  refine lv_aload_n hx hb dL_law_313 rfl (lv_at hl 0 rfl) ?_
  refine lv_iload_n hx hb dL_law_314 rfl (lv_at hl 3 rfl) ?_
  refine lv_iconst (v := 1) hx hb dL_law_315 (by decide) ?_
  refine lv_iadd hx hb dL_law_316 ?_
  refine va_sld hx hb hX hbl hbA hS i1 dL_law_317 ?_
  refine tm_cVI (As := [.int (xs (x3 + 1).toNatClampNeg)]) (rest := [.int r]) ⟨hx, hb, hml, hown, hts⟩ (tX8_setPadding l D cI cZ cR N q1 d1 g0 (xs (x3 + 1).toNatClampNeg) r e' h2) (cwV 1 hts gL_law_X8_setPadding rfl rfl rfl hdwsV_X8_setPadding ⟨Nat.le_of_ble_eq_true rfl, Nat.le_of_ble_eq_true rfl⟩) hK hP hD hS hA [73, 74, 75, 76, 77, 78, 79, 80, 81, 82, 83, 84, 85, 86, 87, 88] (by decide) rfl rfl (ci := 8) rfl rfl rfl (fun _ => WX7X8 cI cZ cR q0 q1 d' e' g0) () rfl rfl hl.1 rfl (Nat.le_of_ble_eq_true rfl) dL_law_318 ⟨Nat.le_refl _, Nat.le_refl _⟩ (fun _ _ H locs hP hD hS => ?_)
  refine lv_icmp_eq (tgt := 714) hx hb dL_law_321 (by decide) (fun _ => ?_) (fun c9 => absurd rfl c9)
  exact kk d' e' g0 hI2 H locs ls hP hD hS hl
set_option maxHeartbeats 4000000 in
set_option maxRecDepth 100000 in
theorem law_c6 {p : Program} {l : Launch} {e : Env} {s : State} {m : MethodId} {args : Array Value} {below : List Frame} {meth : Method} {c : Code} {A : Nat → Prop} {H0 : Heap} {Q : State → Prop} {D : va_G} {cI cZ cR : ClassId} {b L : Nat} {xs : Nat → Int32} {N : Nat} {Inv : tm_M → tm_M → Int64 → Prop} (C : tm_Cx p s m c args cL_law 4 RL wsL_law D (tm_ty cI cZ cR) A H0) (hX : va_X b L xs s H0) (hbl : b < H0.size) (hbA : ¬ A b) (hL : L ≤ 1536) (hst : tm_S6 N Inv) (q0 q1 : Nat → Nat) (i : Nat) (hi : i + 3 ≤ L) (x3 : Int32) (ex3 : x3 = nI i) (d0 d1 : tm_M) (g0 : Int64) (hI : Inv d0 d1 g0) (kk : ∀ (d0 d1 : tm_M) (g0 : Int64), Inv d0 d1 g0 → ∀ (H : Heap) (locs : List Loc) (ls : Array Slot), va_P D vwCl (WX7X8 cI cZ cR q0 q1 d0 d1 g0) H → va_D A (WX7X8 cI cZ cR q0 q1 d0 d1 g0) → va_S A H0 H locs → lv_has ls 4 [(0, .ref b), (1, .ref (q0 0)), (2, .ref (q1 0)), (3, .int x3)] → W p l e room_1 s m args below meth c H locs 600000 7302250 Q (F0 m 714 ls [])) : ∀ (H : Heap) (locs : List Loc) (ls : Array Slot), va_P D vwCl (WX7X8 cI cZ cR q0 q1 d0 d1 g0) H → va_D A (WX7X8 cI cZ cR q0 q1 d0 d1 g0) → va_S A H0 H locs → lv_has ls 4 [(0, .ref b), (1, .ref (q0 0)), (2, .ref (q1 0)), (3, .int x3)] → W p l e room_1 s m args below meth c H locs 600000 7302250 Q (F0 m 326 ls []) := by
  obtain ⟨hx, hb, hml, hown, hts, hK, hA⟩ := id C
  intro H locs ls hP hD hS hl
  have i1 : vp_in (x3 + 1) L := by rw [ex3, nI_1]; exact vp_in_nI (by omega) (by omega)
  have i2 : vp_in (x3 + 2) L := by rw [ex3, show (2 : Int32) = nI 2 from rfl, nI_add]; exact vp_in_nI (by omega) (by omega)
  obtain ⟨r, d', e', h1, h2, hI2⟩ := hst d0 d1 g0 (xs (x3 + 1).toNatClampNeg) hI
  refine lv_aload_n hx hb dL_law_326 rfl (lv_at hl 1 rfl) ?_
  refine lv_aload_n hx hb dL_law_327 rfl (lv_at hl 0 rfl) ?_
  refine lv_iload_n hx hb dL_law_328 rfl (lv_at hl 3 rfl) ?_
  refine lv_iconst (v := 1) hx hb dL_law_329 (by decide) ?_
  refine lv_iadd hx hb dL_law_330 ?_
  refine va_sld hx hb hX hbl hbA hS i1 dL_law_331 ?_
  refine tm_cVI (As := [.int (xs (x3 + 1).toNatClampNeg)]) (rest := []) ⟨hx, hb, hml, hown, hts⟩ (tX7_setMode l D cI cZ cR N q0 d0 (xs (x3 + 1).toNatClampNeg) r d' h1) (cwV 1 hts gL_law_X7_setMode rfl rfl rfl hdwsV_X7_setMode ⟨Nat.le_of_ble_eq_true rfl, Nat.le_of_ble_eq_true rfl⟩) hK hP hD hS hA [0, 1, 2, 3, 4, 5, 6, 7, 8, 9, 10, 11, 12, 13, 14, 15, 16, 17, 18, 19, 20, 21, 22, 23, 24, 25, 26, 27, 28, 29, 30, 31, 32, 33, 34, 35, 36, 37, 38, 39, 40, 41, 42, 43, 44, 45, 46, 47, 48, 49, 50, 51, 52, 53, 54, 55, 56, 57, 58, 59, 60, 61, 62, 63, 64, 65, 66, 67, 68, 69, 70, 71, 72] (by decide) rfl rfl (ci := 7) rfl rfl rfl (fun _ => WX7X8 cI cZ cR q0 q1 d' d1 g0) () rfl rfl hl.1 rfl (Nat.le_of_ble_eq_true rfl) dL_law_332 ⟨Nat.le_refl _, Nat.le_refl _⟩ (fun _ _ H locs hP hD hS => ?_)
  refine lv_aload_n hx hb dL_law_335 rfl (lv_at hl 2 rfl) ?_
  refine lv_aload_n hx hb dL_law_336 rfl (lv_at hl 0 rfl) ?_
  refine lv_iload_n hx hb dL_law_337 rfl (lv_at hl 3 rfl) ?_
  refine lv_iconst (v := 1) hx hb dL_law_338 (by decide) ?_
  refine lv_iadd hx hb dL_law_339 ?_
  refine va_sld hx hb hX hbl hbA hS i1 dL_law_340 ?_
  refine tm_cVI (As := [.int (xs (x3 + 1).toNatClampNeg)]) (rest := [.int r]) ⟨hx, hb, hml, hown, hts⟩ (tX8_setMode l D cI cZ cR N q1 d1 g0 (xs (x3 + 1).toNatClampNeg) r e' h2) (cwV 1 hts gL_law_X8_setMode rfl rfl rfl hdwsV_X8_setMode ⟨Nat.le_of_ble_eq_true rfl, Nat.le_of_ble_eq_true rfl⟩) hK hP hD hS hA [73, 74, 75, 76, 77, 78, 79, 80, 81, 82, 83, 84, 85, 86, 87, 88] (by decide) rfl rfl (ci := 8) rfl rfl rfl (fun _ => WX7X8 cI cZ cR q0 q1 d' e' g0) () rfl rfl hl.1 rfl (Nat.le_of_ble_eq_true rfl) dL_law_341 ⟨Nat.le_refl _, Nat.le_refl _⟩ (fun _ _ H locs hP hD hS => ?_)
  refine lv_icmp_eq (tgt := 714) hx hb dL_law_344 (by decide) (fun _ => ?_) (fun c9 => absurd rfl c9)
  exact kk d' e' g0 hI2 H locs ls hP hD hS hl
set_option maxHeartbeats 4000000 in
set_option maxRecDepth 100000 in
theorem law_c7 {p : Program} {l : Launch} {e : Env} {s : State} {m : MethodId} {args : Array Value} {below : List Frame} {meth : Method} {c : Code} {A : Nat → Prop} {H0 : Heap} {Q : State → Prop} {D : va_G} {cI cZ cR : ClassId} {b L : Nat} {xs : Nat → Int32} {N : Nat} {Inv : tm_M → tm_M → Int64 → Prop} (C : tm_Cx p s m c args cL_law 4 RL wsL_law D (tm_ty cI cZ cR) A H0) (hX : va_X b L xs s H0) (hbl : b < H0.size) (hbA : ¬ A b) (hL : L ≤ 1536) (hst : tm_S7 N Inv) (q0 q1 : Nat → Nat) (i : Nat) (hi : i + 3 ≤ L) (x3 : Int32) (ex3 : x3 = nI i) (d0 d1 : tm_M) (g0 : Int64) (hI : Inv d0 d1 g0) (kk : ∀ (d0 d1 : tm_M) (g0 : Int64), Inv d0 d1 g0 → ∀ (H : Heap) (locs : List Loc) (ls : Array Slot), va_P D vwCl (WX7X8 cI cZ cR q0 q1 d0 d1 g0) H → va_D A (WX7X8 cI cZ cR q0 q1 d0 d1 g0) → va_S A H0 H locs → lv_has ls 4 [(0, .ref b), (1, .ref (q0 0)), (2, .ref (q1 0)), (3, .int x3)] → W p l e room_1 s m args below meth c H locs 600000 7302250 Q (F0 m 714 ls [])) : ∀ (H : Heap) (locs : List Loc) (ls : Array Slot), va_P D vwCl (WX7X8 cI cZ cR q0 q1 d0 d1 g0) H → va_D A (WX7X8 cI cZ cR q0 q1 d0 d1 g0) → va_S A H0 H locs → lv_has ls 4 [(0, .ref b), (1, .ref (q0 0)), (2, .ref (q1 0)), (3, .int x3)] → W p l e room_1 s m args below meth c H locs 600000 7302250 Q (F0 m 349 ls []) := by
  obtain ⟨hx, hb, hml, hown, hts, hK, hA⟩ := id C
  intro H locs ls hP hD hS hl
  have i1 : vp_in (x3 + 1) L := by rw [ex3, nI_1]; exact vp_in_nI (by omega) (by omega)
  have i2 : vp_in (x3 + 2) L := by rw [ex3, show (2 : Int32) = nI 2 from rfl, nI_add]; exact vp_in_nI (by omega) (by omega)
  obtain ⟨r, h1, h2, hI2⟩ := hst d0 d1 g0 hI
  refine lv_aload_n hx hb dL_law_349 rfl (lv_at hl 1 rfl) ?_
  refine tm_cVI (As := []) (rest := []) ⟨hx, hb, hml, hown, hts⟩ (tX7_nodeCount l D cI cZ cR N q0 d0 r h1) (cwV 0 hts gL_law_X7_nodeCount rfl rfl rfl hdwsV_X7_nodeCount ⟨Nat.le_of_ble_eq_true rfl, Nat.le_of_ble_eq_true rfl⟩) hK hP hD hS hA [0, 1, 2, 3, 4, 5, 6, 7, 8, 9, 10, 11, 12, 13, 14, 15, 16, 17, 18, 19, 20, 21, 22, 23, 24, 25, 26, 27, 28, 29, 30, 31, 32, 33, 34, 35, 36, 37, 38, 39, 40, 41, 42, 43, 44, 45, 46, 47, 48, 49, 50, 51, 52, 53, 54, 55, 56, 57, 58, 59, 60, 61, 62, 63, 64, 65, 66, 67, 68, 69, 70, 71, 72] (by decide) rfl rfl (ci := 7) rfl rfl rfl (fun _ => WX7X8 cI cZ cR q0 q1 d0 d1 g0) () rfl rfl hl.1 rfl (Nat.le_of_ble_eq_true rfl) dL_law_350 ⟨Nat.le_refl _, Nat.le_refl _⟩ (fun _ _ H locs hP hD hS => ?_)
  refine lv_aload_n hx hb dL_law_353 rfl (lv_at hl 2 rfl) ?_
  refine tm_cVI (As := []) (rest := [.int r]) ⟨hx, hb, hml, hown, hts⟩ (tX8_nodeCount l D cI cZ cR N q1 d1 g0 r h2) (cwV 0 hts gL_law_X8_nodeCount rfl rfl rfl hdwsV_X8_nodeCount ⟨Nat.le_of_ble_eq_true rfl, Nat.le_of_ble_eq_true rfl⟩) hK hP hD hS hA [73, 74, 75, 76, 77, 78, 79, 80, 81, 82, 83, 84, 85, 86, 87, 88] (by decide) rfl rfl (ci := 8) rfl rfl rfl (fun _ => WX7X8 cI cZ cR q0 q1 d0 d1 g0) () rfl rfl hl.1 rfl (Nat.le_of_ble_eq_true rfl) dL_law_354 ⟨Nat.le_refl _, Nat.le_refl _⟩ (fun _ _ H locs hP hD hS => ?_)
  refine lv_icmp_eq (tgt := 714) hx hb dL_law_357 (by decide) (fun _ => ?_) (fun c9 => absurd rfl c9)
  exact kk d0 d1 g0 hI2 H locs ls hP hD hS hl
set_option maxHeartbeats 4000000 in
set_option maxRecDepth 100000 in
theorem law_c8 {p : Program} {l : Launch} {e : Env} {s : State} {m : MethodId} {args : Array Value} {below : List Frame} {meth : Method} {c : Code} {A : Nat → Prop} {H0 : Heap} {Q : State → Prop} {D : va_G} {cI cZ cR : ClassId} {b L : Nat} {xs : Nat → Int32} {N : Nat} {Inv : tm_M → tm_M → Int64 → Prop} (C : tm_Cx p s m c args cL_law 4 RL wsL_law D (tm_ty cI cZ cR) A H0) (hX : va_X b L xs s H0) (hbl : b < H0.size) (hbA : ¬ A b) (hL : L ≤ 1536) (hst : tm_S8 N Inv) (q0 q1 : Nat → Nat) (i : Nat) (hi : i + 3 ≤ L) (x3 : Int32) (ex3 : x3 = nI i) (d0 d1 : tm_M) (g0 : Int64) (hI : Inv d0 d1 g0) (kk : ∀ (d0 d1 : tm_M) (g0 : Int64), Inv d0 d1 g0 → ∀ (H : Heap) (locs : List Loc) (ls : Array Slot), va_P D vwCl (WX7X8 cI cZ cR q0 q1 d0 d1 g0) H → va_D A (WX7X8 cI cZ cR q0 q1 d0 d1 g0) → va_S A H0 H locs → lv_has ls 4 [(0, .ref b), (1, .ref (q0 0)), (2, .ref (q1 0)), (3, .int x3)] → W p l e room_1 s m args below meth c H locs 600000 7302250 Q (F0 m 714 ls [])) : ∀ (H : Heap) (locs : List Loc) (ls : Array Slot), va_P D vwCl (WX7X8 cI cZ cR q0 q1 d0 d1 g0) H → va_D A (WX7X8 cI cZ cR q0 q1 d0 d1 g0) → va_S A H0 H locs → lv_has ls 4 [(0, .ref b), (1, .ref (q0 0)), (2, .ref (q1 0)), (3, .int x3)] → W p l e room_1 s m args below meth c H locs 600000 7302250 Q (F0 m 362 ls []) := by
  obtain ⟨hx, hb, hml, hown, hts, hK, hA⟩ := id C
  intro H locs ls hP hD hS hl
  have i1 : vp_in (x3 + 1) L := by rw [ex3, nI_1]; exact vp_in_nI (by omega) (by omega)
  have i2 : vp_in (x3 + 2) L := by rw [ex3, show (2 : Int32) = nI 2 from rfl, nI_add]; exact vp_in_nI (by omega) (by omega)
  obtain ⟨r, d', e', h1, h2, hI2⟩ := hst d0 d1 g0 (xs (x3 + 1).toNatClampNeg) hI
  refine lv_aload_n hx hb dL_law_362 rfl (lv_at hl 1 rfl) ?_
  refine lv_aload_n hx hb dL_law_363 rfl (lv_at hl 0 rfl) ?_
  refine lv_iload_n hx hb dL_law_364 rfl (lv_at hl 3 rfl) ?_
  refine lv_iconst (v := 1) hx hb dL_law_365 (by decide) ?_
  refine lv_iadd hx hb dL_law_366 ?_
  refine va_sld hx hb hX hbl hbA hS i1 dL_law_367 ?_
  refine tm_cVI (As := [.int (xs (x3 + 1).toNatClampNeg)]) (rest := []) ⟨hx, hb, hml, hown, hts⟩ (tX7_size l D cI cZ cR N q0 d0 (xs (x3 + 1).toNatClampNeg) r d' h1) (cwV 1 hts gL_law_X7_size rfl rfl rfl hdwsV_X7_size ⟨Nat.le_of_ble_eq_true rfl, Nat.le_of_ble_eq_true rfl⟩) hK hP hD hS hA [0, 1, 2, 3, 4, 5, 6, 7, 8, 9, 10, 11, 12, 13, 14, 15, 16, 17, 18, 19, 20, 21, 22, 23, 24, 25, 26, 27, 28, 29, 30, 31, 32, 33, 34, 35, 36, 37, 38, 39, 40, 41, 42, 43, 44, 45, 46, 47, 48, 49, 50, 51, 52, 53, 54, 55, 56, 57, 58, 59, 60, 61, 62, 63, 64, 65, 66, 67, 68, 69, 70, 71, 72] (by decide) rfl rfl (ci := 7) rfl rfl rfl (fun _ => WX7X8 cI cZ cR q0 q1 d' d1 g0) () rfl rfl hl.1 rfl (Nat.le_of_ble_eq_true rfl) dL_law_368 ⟨Nat.le_refl _, Nat.le_refl _⟩ (fun _ _ H locs hP hD hS => ?_)
  refine lv_aload_n hx hb dL_law_371 rfl (lv_at hl 2 rfl) ?_
  refine lv_aload_n hx hb dL_law_372 rfl (lv_at hl 0 rfl) ?_
  refine lv_iload_n hx hb dL_law_373 rfl (lv_at hl 3 rfl) ?_
  refine lv_iconst (v := 1) hx hb dL_law_374 (by decide) ?_
  refine lv_iadd hx hb dL_law_375 ?_
  refine va_sld hx hb hX hbl hbA hS i1 dL_law_376 ?_
  refine tm_cVI (As := [.int (xs (x3 + 1).toNatClampNeg)]) (rest := [.int r]) ⟨hx, hb, hml, hown, hts⟩ (tX8_size l D cI cZ cR N q1 d1 g0 (xs (x3 + 1).toNatClampNeg) r e' h2) (cwV 1 hts gL_law_X8_size rfl rfl rfl hdwsV_X8_size ⟨Nat.le_of_ble_eq_true rfl, Nat.le_of_ble_eq_true rfl⟩) hK hP hD hS hA [73, 74, 75, 76, 77, 78, 79, 80, 81, 82, 83, 84, 85, 86, 87, 88] (by decide) rfl rfl (ci := 8) rfl rfl rfl (fun _ => WX7X8 cI cZ cR q0 q1 d' e' g0) () rfl rfl hl.1 rfl (Nat.le_of_ble_eq_true rfl) dL_law_377 ⟨Nat.le_refl _, Nat.le_refl _⟩ (fun _ _ H locs hP hD hS => ?_)
  refine lv_icmp_eq (tgt := 714) hx hb dL_law_380 (by decide) (fun _ => ?_) (fun c9 => absurd rfl c9)
  exact kk d' e' g0 hI2 H locs ls hP hD hS hl
set_option maxHeartbeats 4000000 in
set_option maxRecDepth 100000 in
theorem law_c9 {p : Program} {l : Launch} {e : Env} {s : State} {m : MethodId} {args : Array Value} {below : List Frame} {meth : Method} {c : Code} {A : Nat → Prop} {H0 : Heap} {Q : State → Prop} {D : va_G} {cI cZ cR : ClassId} {b L : Nat} {xs : Nat → Int32} {N : Nat} {Inv : tm_M → tm_M → Int64 → Prop} (C : tm_Cx p s m c args cL_law 4 RL wsL_law D (tm_ty cI cZ cR) A H0) (hX : va_X b L xs s H0) (hbl : b < H0.size) (hbA : ¬ A b) (hL : L ≤ 1536) (hst : tm_S9 N Inv) (q0 q1 : Nat → Nat) (i : Nat) (hi : i + 3 ≤ L) (x3 : Int32) (ex3 : x3 = nI i) (d0 d1 : tm_M) (g0 : Int64) (hI : Inv d0 d1 g0) (kk : ∀ (d0 d1 : tm_M) (g0 : Int64), Inv d0 d1 g0 → ∀ (H : Heap) (locs : List Loc) (ls : Array Slot), va_P D vwCl (WX7X8 cI cZ cR q0 q1 d0 d1 g0) H → va_D A (WX7X8 cI cZ cR q0 q1 d0 d1 g0) → va_S A H0 H locs → lv_has ls 4 [(0, .ref b), (1, .ref (q0 0)), (2, .ref (q1 0)), (3, .int x3)] → W p l e room_1 s m args below meth c H locs 600000 7302250 Q (F0 m 714 ls [])) : ∀ (H : Heap) (locs : List Loc) (ls : Array Slot), va_P D vwCl (WX7X8 cI cZ cR q0 q1 d0 d1 g0) H → va_D A (WX7X8 cI cZ cR q0 q1 d0 d1 g0) → va_S A H0 H locs → lv_has ls 4 [(0, .ref b), (1, .ref (q0 0)), (2, .ref (q1 0)), (3, .int x3)] → W p l e room_1 s m args below meth c H locs 600000 7302250 Q (F0 m 385 ls []) := by
  obtain ⟨hx, hb, hml, hown, hts, hK, hA⟩ := id C
  intro H locs ls hP hD hS hl
  have i1 : vp_in (x3 + 1) L := by rw [ex3, nI_1]; exact vp_in_nI (by omega) (by omega)
  have i2 : vp_in (x3 + 2) L := by rw [ex3, show (2 : Int32) = nI 2 from rfl, nI_add]; exact vp_in_nI (by omega) (by omega)
  obtain ⟨r, d', e', h1, h2, hI2⟩ := hst d0 d1 g0 (xs (x3 + 1).toNatClampNeg) hI
  refine lv_aload_n hx hb dL_law_385 rfl (lv_at hl 1 rfl) ?_
  refine lv_aload_n hx hb dL_law_386 rfl (lv_at hl 0 rfl) ?_
  refine lv_iload_n hx hb dL_law_387 rfl (lv_at hl 3 rfl) ?_
  refine lv_iconst (v := 1) hx hb dL_law_388 (by decide) ?_
  refine lv_iadd hx hb dL_law_389 ?_
  refine va_sld hx hb hX hbl hbA hS i1 dL_law_390 ?_
  refine tm_cVI (As := [.int (xs (x3 + 1).toNatClampNeg)]) (rest := []) ⟨hx, hb, hml, hown, hts⟩ (tX7_parent l D cI cZ cR N q0 d0 (xs (x3 + 1).toNatClampNeg) r d' h1) (cwV 1 hts gL_law_X7_parent rfl rfl rfl hdwsV_X7_parent ⟨Nat.le_of_ble_eq_true rfl, Nat.le_of_ble_eq_true rfl⟩) hK hP hD hS hA [0, 1, 2, 3, 4, 5, 6, 7, 8, 9, 10, 11, 12, 13, 14, 15, 16, 17, 18, 19, 20, 21, 22, 23, 24, 25, 26, 27, 28, 29, 30, 31, 32, 33, 34, 35, 36, 37, 38, 39, 40, 41, 42, 43, 44, 45, 46, 47, 48, 49, 50, 51, 52, 53, 54, 55, 56, 57, 58, 59, 60, 61, 62, 63, 64, 65, 66, 67, 68, 69, 70, 71, 72] (by decide) rfl rfl (ci := 7) rfl rfl rfl (fun _ => WX7X8 cI cZ cR q0 q1 d' d1 g0) () rfl rfl hl.1 rfl (Nat.le_of_ble_eq_true rfl) dL_law_391 ⟨Nat.le_refl _, Nat.le_refl _⟩ (fun _ _ H locs hP hD hS => ?_)
  refine lv_aload_n hx hb dL_law_394 rfl (lv_at hl 2 rfl) ?_
  refine lv_aload_n hx hb dL_law_395 rfl (lv_at hl 0 rfl) ?_
  refine lv_iload_n hx hb dL_law_396 rfl (lv_at hl 3 rfl) ?_
  refine lv_iconst (v := 1) hx hb dL_law_397 (by decide) ?_
  refine lv_iadd hx hb dL_law_398 ?_
  refine va_sld hx hb hX hbl hbA hS i1 dL_law_399 ?_
  refine tm_cVI (As := [.int (xs (x3 + 1).toNatClampNeg)]) (rest := [.int r]) ⟨hx, hb, hml, hown, hts⟩ (tX8_parent l D cI cZ cR N q1 d1 g0 (xs (x3 + 1).toNatClampNeg) r e' h2) (cwV 1 hts gL_law_X8_parent rfl rfl rfl hdwsV_X8_parent ⟨Nat.le_of_ble_eq_true rfl, Nat.le_of_ble_eq_true rfl⟩) hK hP hD hS hA [73, 74, 75, 76, 77, 78, 79, 80, 81, 82, 83, 84, 85, 86, 87, 88] (by decide) rfl rfl (ci := 8) rfl rfl rfl (fun _ => WX7X8 cI cZ cR q0 q1 d' e' g0) () rfl rfl hl.1 rfl (Nat.le_of_ble_eq_true rfl) dL_law_400 ⟨Nat.le_refl _, Nat.le_refl _⟩ (fun _ _ H locs hP hD hS => ?_)
  refine lv_icmp_eq (tgt := 714) hx hb dL_law_403 (by decide) (fun _ => ?_) (fun c9 => absurd rfl c9)
  exact kk d' e' g0 hI2 H locs ls hP hD hS hl
set_option maxHeartbeats 4000000 in
set_option maxRecDepth 100000 in
theorem law_c10 {p : Program} {l : Launch} {e : Env} {s : State} {m : MethodId} {args : Array Value} {below : List Frame} {meth : Method} {c : Code} {A : Nat → Prop} {H0 : Heap} {Q : State → Prop} {D : va_G} {cI cZ cR : ClassId} {b L : Nat} {xs : Nat → Int32} {N : Nat} {Inv : tm_M → tm_M → Int64 → Prop} (C : tm_Cx p s m c args cL_law 4 RL wsL_law D (tm_ty cI cZ cR) A H0) (hX : va_X b L xs s H0) (hbl : b < H0.size) (hbA : ¬ A b) (hL : L ≤ 1536) (hst : tm_S10 N Inv) (q0 q1 : Nat → Nat) (i : Nat) (hi : i + 3 ≤ L) (x3 : Int32) (ex3 : x3 = nI i) (d0 d1 : tm_M) (g0 : Int64) (hI : Inv d0 d1 g0) (kk : ∀ (d0 d1 : tm_M) (g0 : Int64), Inv d0 d1 g0 → ∀ (H : Heap) (locs : List Loc) (ls : Array Slot), va_P D vwCl (WX7X8 cI cZ cR q0 q1 d0 d1 g0) H → va_D A (WX7X8 cI cZ cR q0 q1 d0 d1 g0) → va_S A H0 H locs → lv_has ls 4 [(0, .ref b), (1, .ref (q0 0)), (2, .ref (q1 0)), (3, .int x3)] → W p l e room_1 s m args below meth c H locs 600000 7302250 Q (F0 m 714 ls [])) : ∀ (H : Heap) (locs : List Loc) (ls : Array Slot), va_P D vwCl (WX7X8 cI cZ cR q0 q1 d0 d1 g0) H → va_D A (WX7X8 cI cZ cR q0 q1 d0 d1 g0) → va_S A H0 H locs → lv_has ls 4 [(0, .ref b), (1, .ref (q0 0)), (2, .ref (q1 0)), (3, .int x3)] → W p l e room_1 s m args below meth c H locs 600000 7302250 Q (F0 m 408 ls []) := by
  obtain ⟨hx, hb, hml, hown, hts, hK, hA⟩ := id C
  intro H locs ls hP hD hS hl
  have i1 : vp_in (x3 + 1) L := by rw [ex3, nI_1]; exact vp_in_nI (by omega) (by omega)
  have i2 : vp_in (x3 + 2) L := by rw [ex3, show (2 : Int32) = nI 2 from rfl, nI_add]; exact vp_in_nI (by omega) (by omega)
  obtain ⟨r, d', e', h1, h2, hI2⟩ := hst d0 d1 g0 (xs (x3 + 1).toNatClampNeg) hI
  refine lv_aload_n hx hb dL_law_408 rfl (lv_at hl 1 rfl) ?_
  refine lv_aload_n hx hb dL_law_409 rfl (lv_at hl 0 rfl) ?_
  refine lv_iload_n hx hb dL_law_410 rfl (lv_at hl 3 rfl) ?_
  refine lv_iconst (v := 1) hx hb dL_law_411 (by decide) ?_
  refine lv_iadd hx hb dL_law_412 ?_
  refine va_sld hx hb hX hbl hbA hS i1 dL_law_413 ?_
  refine tm_cVI (As := [.int (xs (x3 + 1).toNatClampNeg)]) (rest := []) ⟨hx, hb, hml, hown, hts⟩ (tX7_depth l D cI cZ cR N q0 d0 (xs (x3 + 1).toNatClampNeg) r d' h1) (cwV 1 hts gL_law_X7_depth rfl rfl rfl hdwsV_X7_depth ⟨Nat.le_of_ble_eq_true rfl, Nat.le_of_ble_eq_true rfl⟩) hK hP hD hS hA [0, 1, 2, 3, 4, 5, 6, 7, 8, 9, 10, 11, 12, 13, 14, 15, 16, 17, 18, 19, 20, 21, 22, 23, 24, 25, 26, 27, 28, 29, 30, 31, 32, 33, 34, 35, 36, 37, 38, 39, 40, 41, 42, 43, 44, 45, 46, 47, 48, 49, 50, 51, 52, 53, 54, 55, 56, 57, 58, 59, 60, 61, 62, 63, 64, 65, 66, 67, 68, 69, 70, 71, 72] (by decide) rfl rfl (ci := 7) rfl rfl rfl (fun _ => WX7X8 cI cZ cR q0 q1 d' d1 g0) () rfl rfl hl.1 rfl (Nat.le_of_ble_eq_true rfl) dL_law_414 ⟨Nat.le_refl _, Nat.le_refl _⟩ (fun _ _ H locs hP hD hS => ?_)
  refine lv_aload_n hx hb dL_law_417 rfl (lv_at hl 2 rfl) ?_
  refine lv_aload_n hx hb dL_law_418 rfl (lv_at hl 0 rfl) ?_
  refine lv_iload_n hx hb dL_law_419 rfl (lv_at hl 3 rfl) ?_
  refine lv_iconst (v := 1) hx hb dL_law_420 (by decide) ?_
  refine lv_iadd hx hb dL_law_421 ?_
  refine va_sld hx hb hX hbl hbA hS i1 dL_law_422 ?_
  refine tm_cVI (As := [.int (xs (x3 + 1).toNatClampNeg)]) (rest := [.int r]) ⟨hx, hb, hml, hown, hts⟩ (tX8_depth l D cI cZ cR N q1 d1 g0 (xs (x3 + 1).toNatClampNeg) r e' h2) (cwV 1 hts gL_law_X8_depth rfl rfl rfl hdwsV_X8_depth ⟨Nat.le_of_ble_eq_true rfl, Nat.le_of_ble_eq_true rfl⟩) hK hP hD hS hA [73, 74, 75, 76, 77, 78, 79, 80, 81, 82, 83, 84, 85, 86, 87, 88] (by decide) rfl rfl (ci := 8) rfl rfl rfl (fun _ => WX7X8 cI cZ cR q0 q1 d' e' g0) () rfl rfl hl.1 rfl (Nat.le_of_ble_eq_true rfl) dL_law_423 ⟨Nat.le_refl _, Nat.le_refl _⟩ (fun _ _ H locs hP hD hS => ?_)
  refine lv_icmp_eq (tgt := 714) hx hb dL_law_426 (by decide) (fun _ => ?_) (fun c9 => absurd rfl c9)
  exact kk d' e' g0 hI2 H locs ls hP hD hS hl
set_option maxHeartbeats 4000000 in
set_option maxRecDepth 100000 in
theorem law_c11 {p : Program} {l : Launch} {e : Env} {s : State} {m : MethodId} {args : Array Value} {below : List Frame} {meth : Method} {c : Code} {A : Nat → Prop} {H0 : Heap} {Q : State → Prop} {D : va_G} {cI cZ cR : ClassId} {b L : Nat} {xs : Nat → Int32} {N : Nat} {Inv : tm_M → tm_M → Int64 → Prop} (C : tm_Cx p s m c args cL_law 4 RL wsL_law D (tm_ty cI cZ cR) A H0) (hX : va_X b L xs s H0) (hbl : b < H0.size) (hbA : ¬ A b) (hL : L ≤ 1536) (hst : tm_S11 N Inv) (q0 q1 : Nat → Nat) (i : Nat) (hi : i + 3 ≤ L) (x3 : Int32) (ex3 : x3 = nI i) (d0 d1 : tm_M) (g0 : Int64) (hI : Inv d0 d1 g0) (kk : ∀ (d0 d1 : tm_M) (g0 : Int64), Inv d0 d1 g0 → ∀ (H : Heap) (locs : List Loc) (ls : Array Slot), va_P D vwCl (WX7X8 cI cZ cR q0 q1 d0 d1 g0) H → va_D A (WX7X8 cI cZ cR q0 q1 d0 d1 g0) → va_S A H0 H locs → lv_has ls 4 [(0, .ref b), (1, .ref (q0 0)), (2, .ref (q1 0)), (3, .int x3)] → W p l e room_1 s m args below meth c H locs 600000 7302250 Q (F0 m 714 ls [])) : ∀ (H : Heap) (locs : List Loc) (ls : Array Slot), va_P D vwCl (WX7X8 cI cZ cR q0 q1 d0 d1 g0) H → va_D A (WX7X8 cI cZ cR q0 q1 d0 d1 g0) → va_S A H0 H locs → lv_has ls 4 [(0, .ref b), (1, .ref (q0 0)), (2, .ref (q1 0)), (3, .int x3)] → W p l e room_1 s m args below meth c H locs 600000 7302250 Q (F0 m 431 ls []) := by
  obtain ⟨hx, hb, hml, hown, hts, hK, hA⟩ := id C
  intro H locs ls hP hD hS hl
  have i1 : vp_in (x3 + 1) L := by rw [ex3, nI_1]; exact vp_in_nI (by omega) (by omega)
  have i2 : vp_in (x3 + 2) L := by rw [ex3, show (2 : Int32) = nI 2 from rfl, nI_add]; exact vp_in_nI (by omega) (by omega)
  obtain ⟨r, h1, h2, hI2⟩ := hst d0 d1 g0 hI
  refine lv_aload_n hx hb dL_law_431 rfl (lv_at hl 1 rfl) ?_
  refine tm_cVI (As := []) (rest := []) ⟨hx, hb, hml, hown, hts⟩ (tX7_leafCount l D cI cZ cR N q0 d0 r h1) (cwV 0 hts gL_law_X7_leafCount rfl rfl rfl hdwsV_X7_leafCount ⟨Nat.le_of_ble_eq_true rfl, Nat.le_of_ble_eq_true rfl⟩) hK hP hD hS hA [0, 1, 2, 3, 4, 5, 6, 7, 8, 9, 10, 11, 12, 13, 14, 15, 16, 17, 18, 19, 20, 21, 22, 23, 24, 25, 26, 27, 28, 29, 30, 31, 32, 33, 34, 35, 36, 37, 38, 39, 40, 41, 42, 43, 44, 45, 46, 47, 48, 49, 50, 51, 52, 53, 54, 55, 56, 57, 58, 59, 60, 61, 62, 63, 64, 65, 66, 67, 68, 69, 70, 71, 72] (by decide) rfl rfl (ci := 7) rfl rfl rfl (fun _ => WX7X8 cI cZ cR q0 q1 d0 d1 g0) () rfl rfl hl.1 rfl (Nat.le_of_ble_eq_true rfl) dL_law_432 ⟨Nat.le_refl _, Nat.le_refl _⟩ (fun _ _ H locs hP hD hS => ?_)
  refine lv_aload_n hx hb dL_law_435 rfl (lv_at hl 2 rfl) ?_
  refine tm_cVI (As := []) (rest := [.int r]) ⟨hx, hb, hml, hown, hts⟩ (tX8_leafCount l D cI cZ cR N q1 d1 g0 r h2) (cwV 0 hts gL_law_X8_leafCount rfl rfl rfl hdwsV_X8_leafCount ⟨Nat.le_of_ble_eq_true rfl, Nat.le_of_ble_eq_true rfl⟩) hK hP hD hS hA [73, 74, 75, 76, 77, 78, 79, 80, 81, 82, 83, 84, 85, 86, 87, 88] (by decide) rfl rfl (ci := 8) rfl rfl rfl (fun _ => WX7X8 cI cZ cR q0 q1 d0 d1 g0) () rfl rfl hl.1 rfl (Nat.le_of_ble_eq_true rfl) dL_law_436 ⟨Nat.le_refl _, Nat.le_refl _⟩ (fun _ _ H locs hP hD hS => ?_)
  refine lv_icmp_eq (tgt := 714) hx hb dL_law_439 (by decide) (fun _ => ?_) (fun c9 => absurd rfl c9)
  exact kk d0 d1 g0 hI2 H locs ls hP hD hS hl
set_option maxHeartbeats 4000000 in
set_option maxRecDepth 100000 in
theorem law_c12 {p : Program} {l : Launch} {e : Env} {s : State} {m : MethodId} {args : Array Value} {below : List Frame} {meth : Method} {c : Code} {A : Nat → Prop} {H0 : Heap} {Q : State → Prop} {D : va_G} {cI cZ cR : ClassId} {b L : Nat} {xs : Nat → Int32} {N : Nat} {Inv : tm_M → tm_M → Int64 → Prop} (C : tm_Cx p s m c args cL_law 4 RL wsL_law D (tm_ty cI cZ cR) A H0) (hX : va_X b L xs s H0) (hbl : b < H0.size) (hbA : ¬ A b) (hL : L ≤ 1536) (hst : tm_S12 N Inv) (q0 q1 : Nat → Nat) (i : Nat) (hi : i + 3 ≤ L) (x3 : Int32) (ex3 : x3 = nI i) (d0 d1 : tm_M) (g0 : Int64) (hI : Inv d0 d1 g0) (kk : ∀ (d0 d1 : tm_M) (g0 : Int64), Inv d0 d1 g0 → ∀ (H : Heap) (locs : List Loc) (ls : Array Slot), va_P D vwCl (WX7X8 cI cZ cR q0 q1 d0 d1 g0) H → va_D A (WX7X8 cI cZ cR q0 q1 d0 d1 g0) → va_S A H0 H locs → lv_has ls 4 [(0, .ref b), (1, .ref (q0 0)), (2, .ref (q1 0)), (3, .int x3)] → W p l e room_1 s m args below meth c H locs 600000 7302250 Q (F0 m 714 ls [])) : ∀ (H : Heap) (locs : List Loc) (ls : Array Slot), va_P D vwCl (WX7X8 cI cZ cR q0 q1 d0 d1 g0) H → va_D A (WX7X8 cI cZ cR q0 q1 d0 d1 g0) → va_S A H0 H locs → lv_has ls 4 [(0, .ref b), (1, .ref (q0 0)), (2, .ref (q1 0)), (3, .int x3)] → W p l e room_1 s m args below meth c H locs 600000 7302250 Q (F0 m 444 ls []) := by
  obtain ⟨hx, hb, hml, hown, hts, hK, hA⟩ := id C
  intro H locs ls hP hD hS hl
  have i1 : vp_in (x3 + 1) L := by rw [ex3, nI_1]; exact vp_in_nI (by omega) (by omega)
  have i2 : vp_in (x3 + 2) L := by rw [ex3, show (2 : Int32) = nI 2 from rfl, nI_add]; exact vp_in_nI (by omega) (by omega)
  obtain ⟨r, d', e', h1, h2, hI2⟩ := hst d0 d1 g0 (xs (x3 + 1).toNatClampNeg) hI
  refine lv_aload_n hx hb dL_law_444 rfl (lv_at hl 1 rfl) ?_
  refine lv_aload_n hx hb dL_law_445 rfl (lv_at hl 0 rfl) ?_
  refine lv_iload_n hx hb dL_law_446 rfl (lv_at hl 3 rfl) ?_
  refine lv_iconst (v := 1) hx hb dL_law_447 (by decide) ?_
  refine lv_iadd hx hb dL_law_448 ?_
  refine va_sld hx hb hX hbl hbA hS i1 dL_law_449 ?_
  refine tm_cVI (As := [.int (xs (x3 + 1).toNatClampNeg)]) (rest := []) ⟨hx, hb, hml, hown, hts⟩ (tX7_x l D cI cZ cR N q0 d0 (xs (x3 + 1).toNatClampNeg) r d' h1) (cwV 1 hts gL_law_X7_x rfl rfl rfl hdwsV_X7_x ⟨Nat.le_of_ble_eq_true rfl, Nat.le_of_ble_eq_true rfl⟩) hK hP hD hS hA [0, 1, 2, 3, 4, 5, 6, 7, 8, 9, 10, 11, 12, 13, 14, 15, 16, 17, 18, 19, 20, 21, 22, 23, 24, 25, 26, 27, 28, 29, 30, 31, 32, 33, 34, 35, 36, 37, 38, 39, 40, 41, 42, 43, 44, 45, 46, 47, 48, 49, 50, 51, 52, 53, 54, 55, 56, 57, 58, 59, 60, 61, 62, 63, 64, 65, 66, 67, 68, 69, 70, 71, 72] (by decide) rfl rfl (ci := 7) rfl rfl rfl (fun _ => WX7X8 cI cZ cR q0 q1 d' d1 g0) () rfl rfl hl.1 rfl (Nat.le_of_ble_eq_true rfl) dL_law_450 ⟨Nat.le_refl _, Nat.le_refl _⟩ (fun _ _ H locs hP hD hS => ?_)
  refine lv_aload_n hx hb dL_law_453 rfl (lv_at hl 2 rfl) ?_
  refine lv_aload_n hx hb dL_law_454 rfl (lv_at hl 0 rfl) ?_
  refine lv_iload_n hx hb dL_law_455 rfl (lv_at hl 3 rfl) ?_
  refine lv_iconst (v := 1) hx hb dL_law_456 (by decide) ?_
  refine lv_iadd hx hb dL_law_457 ?_
  refine va_sld hx hb hX hbl hbA hS i1 dL_law_458 ?_
  refine tm_cVI (As := [.int (xs (x3 + 1).toNatClampNeg)]) (rest := [.int r]) ⟨hx, hb, hml, hown, hts⟩ (tX8_x l D cI cZ cR N q1 d1 g0 (xs (x3 + 1).toNatClampNeg) r e' h2) (cwV 1 hts gL_law_X8_x rfl rfl rfl hdwsV_X8_x ⟨Nat.le_of_ble_eq_true rfl, Nat.le_of_ble_eq_true rfl⟩) hK hP hD hS hA [73, 74, 75, 76, 77, 78, 79, 80, 81, 82, 83, 84, 85, 86, 87, 88] (by decide) rfl rfl (ci := 8) rfl rfl rfl (fun _ => WX7X8 cI cZ cR q0 q1 d' e' g0) () rfl rfl hl.1 rfl (Nat.le_of_ble_eq_true rfl) dL_law_459 ⟨Nat.le_refl _, Nat.le_refl _⟩ (fun _ _ H locs hP hD hS => ?_)
  refine lv_icmp_eq (tgt := 714) hx hb dL_law_462 (by decide) (fun _ => ?_) (fun c9 => absurd rfl c9)
  exact kk d' e' g0 hI2 H locs ls hP hD hS hl
set_option maxHeartbeats 4000000 in
set_option maxRecDepth 100000 in
theorem law_c13 {p : Program} {l : Launch} {e : Env} {s : State} {m : MethodId} {args : Array Value} {below : List Frame} {meth : Method} {c : Code} {A : Nat → Prop} {H0 : Heap} {Q : State → Prop} {D : va_G} {cI cZ cR : ClassId} {b L : Nat} {xs : Nat → Int32} {N : Nat} {Inv : tm_M → tm_M → Int64 → Prop} (C : tm_Cx p s m c args cL_law 4 RL wsL_law D (tm_ty cI cZ cR) A H0) (hX : va_X b L xs s H0) (hbl : b < H0.size) (hbA : ¬ A b) (hL : L ≤ 1536) (hst : tm_S13 N Inv) (q0 q1 : Nat → Nat) (i : Nat) (hi : i + 3 ≤ L) (x3 : Int32) (ex3 : x3 = nI i) (d0 d1 : tm_M) (g0 : Int64) (hI : Inv d0 d1 g0) (kk : ∀ (d0 d1 : tm_M) (g0 : Int64), Inv d0 d1 g0 → ∀ (H : Heap) (locs : List Loc) (ls : Array Slot), va_P D vwCl (WX7X8 cI cZ cR q0 q1 d0 d1 g0) H → va_D A (WX7X8 cI cZ cR q0 q1 d0 d1 g0) → va_S A H0 H locs → lv_has ls 4 [(0, .ref b), (1, .ref (q0 0)), (2, .ref (q1 0)), (3, .int x3)] → W p l e room_1 s m args below meth c H locs 600000 7302250 Q (F0 m 714 ls [])) : ∀ (H : Heap) (locs : List Loc) (ls : Array Slot), va_P D vwCl (WX7X8 cI cZ cR q0 q1 d0 d1 g0) H → va_D A (WX7X8 cI cZ cR q0 q1 d0 d1 g0) → va_S A H0 H locs → lv_has ls 4 [(0, .ref b), (1, .ref (q0 0)), (2, .ref (q1 0)), (3, .int x3)] → W p l e room_1 s m args below meth c H locs 600000 7302250 Q (F0 m 467 ls []) := by
  obtain ⟨hx, hb, hml, hown, hts, hK, hA⟩ := id C
  intro H locs ls hP hD hS hl
  have i1 : vp_in (x3 + 1) L := by rw [ex3, nI_1]; exact vp_in_nI (by omega) (by omega)
  have i2 : vp_in (x3 + 2) L := by rw [ex3, show (2 : Int32) = nI 2 from rfl, nI_add]; exact vp_in_nI (by omega) (by omega)
  obtain ⟨r, d', e', h1, h2, hI2⟩ := hst d0 d1 g0 (xs (x3 + 1).toNatClampNeg) hI
  refine lv_aload_n hx hb dL_law_467 rfl (lv_at hl 1 rfl) ?_
  refine lv_aload_n hx hb dL_law_468 rfl (lv_at hl 0 rfl) ?_
  refine lv_iload_n hx hb dL_law_469 rfl (lv_at hl 3 rfl) ?_
  refine lv_iconst (v := 1) hx hb dL_law_470 (by decide) ?_
  refine lv_iadd hx hb dL_law_471 ?_
  refine va_sld hx hb hX hbl hbA hS i1 dL_law_472 ?_
  refine tm_cVI (As := [.int (xs (x3 + 1).toNatClampNeg)]) (rest := []) ⟨hx, hb, hml, hown, hts⟩ (tX7_y l D cI cZ cR N q0 d0 (xs (x3 + 1).toNatClampNeg) r d' h1) (cwV 1 hts gL_law_X7_y rfl rfl rfl hdwsV_X7_y ⟨Nat.le_of_ble_eq_true rfl, Nat.le_of_ble_eq_true rfl⟩) hK hP hD hS hA [0, 1, 2, 3, 4, 5, 6, 7, 8, 9, 10, 11, 12, 13, 14, 15, 16, 17, 18, 19, 20, 21, 22, 23, 24, 25, 26, 27, 28, 29, 30, 31, 32, 33, 34, 35, 36, 37, 38, 39, 40, 41, 42, 43, 44, 45, 46, 47, 48, 49, 50, 51, 52, 53, 54, 55, 56, 57, 58, 59, 60, 61, 62, 63, 64, 65, 66, 67, 68, 69, 70, 71, 72] (by decide) rfl rfl (ci := 7) rfl rfl rfl (fun _ => WX7X8 cI cZ cR q0 q1 d' d1 g0) () rfl rfl hl.1 rfl (Nat.le_of_ble_eq_true rfl) dL_law_473 ⟨Nat.le_refl _, Nat.le_refl _⟩ (fun _ _ H locs hP hD hS => ?_)
  refine lv_aload_n hx hb dL_law_476 rfl (lv_at hl 2 rfl) ?_
  refine lv_aload_n hx hb dL_law_477 rfl (lv_at hl 0 rfl) ?_
  refine lv_iload_n hx hb dL_law_478 rfl (lv_at hl 3 rfl) ?_
  refine lv_iconst (v := 1) hx hb dL_law_479 (by decide) ?_
  refine lv_iadd hx hb dL_law_480 ?_
  refine va_sld hx hb hX hbl hbA hS i1 dL_law_481 ?_
  refine tm_cVI (As := [.int (xs (x3 + 1).toNatClampNeg)]) (rest := [.int r]) ⟨hx, hb, hml, hown, hts⟩ (tX8_y l D cI cZ cR N q1 d1 g0 (xs (x3 + 1).toNatClampNeg) r e' h2) (cwV 1 hts gL_law_X8_y rfl rfl rfl hdwsV_X8_y ⟨Nat.le_of_ble_eq_true rfl, Nat.le_of_ble_eq_true rfl⟩) hK hP hD hS hA [73, 74, 75, 76, 77, 78, 79, 80, 81, 82, 83, 84, 85, 86, 87, 88] (by decide) rfl rfl (ci := 8) rfl rfl rfl (fun _ => WX7X8 cI cZ cR q0 q1 d' e' g0) () rfl rfl hl.1 rfl (Nat.le_of_ble_eq_true rfl) dL_law_482 ⟨Nat.le_refl _, Nat.le_refl _⟩ (fun _ _ H locs hP hD hS => ?_)
  refine lv_icmp_eq (tgt := 714) hx hb dL_law_485 (by decide) (fun _ => ?_) (fun c9 => absurd rfl c9)
  exact kk d' e' g0 hI2 H locs ls hP hD hS hl
set_option maxHeartbeats 4000000 in
set_option maxRecDepth 100000 in
theorem law_c14 {p : Program} {l : Launch} {e : Env} {s : State} {m : MethodId} {args : Array Value} {below : List Frame} {meth : Method} {c : Code} {A : Nat → Prop} {H0 : Heap} {Q : State → Prop} {D : va_G} {cI cZ cR : ClassId} {b L : Nat} {xs : Nat → Int32} {N : Nat} {Inv : tm_M → tm_M → Int64 → Prop} (C : tm_Cx p s m c args cL_law 4 RL wsL_law D (tm_ty cI cZ cR) A H0) (hX : va_X b L xs s H0) (hbl : b < H0.size) (hbA : ¬ A b) (hL : L ≤ 1536) (hst : tm_S14 N Inv) (q0 q1 : Nat → Nat) (i : Nat) (hi : i + 3 ≤ L) (x3 : Int32) (ex3 : x3 = nI i) (d0 d1 : tm_M) (g0 : Int64) (hI : Inv d0 d1 g0) (kk : ∀ (d0 d1 : tm_M) (g0 : Int64), Inv d0 d1 g0 → ∀ (H : Heap) (locs : List Loc) (ls : Array Slot), va_P D vwCl (WX7X8 cI cZ cR q0 q1 d0 d1 g0) H → va_D A (WX7X8 cI cZ cR q0 q1 d0 d1 g0) → va_S A H0 H locs → lv_has ls 4 [(0, .ref b), (1, .ref (q0 0)), (2, .ref (q1 0)), (3, .int x3)] → W p l e room_1 s m args below meth c H locs 600000 7302250 Q (F0 m 714 ls [])) : ∀ (H : Heap) (locs : List Loc) (ls : Array Slot), va_P D vwCl (WX7X8 cI cZ cR q0 q1 d0 d1 g0) H → va_D A (WX7X8 cI cZ cR q0 q1 d0 d1 g0) → va_S A H0 H locs → lv_has ls 4 [(0, .ref b), (1, .ref (q0 0)), (2, .ref (q1 0)), (3, .int x3)] → W p l e room_1 s m args below meth c H locs 600000 7302250 Q (F0 m 490 ls []) := by
  obtain ⟨hx, hb, hml, hown, hts, hK, hA⟩ := id C
  intro H locs ls hP hD hS hl
  have i1 : vp_in (x3 + 1) L := by rw [ex3, nI_1]; exact vp_in_nI (by omega) (by omega)
  have i2 : vp_in (x3 + 2) L := by rw [ex3, show (2 : Int32) = nI 2 from rfl, nI_add]; exact vp_in_nI (by omega) (by omega)
  obtain ⟨r, d', e', h1, h2, hI2⟩ := hst d0 d1 g0 (xs (x3 + 1).toNatClampNeg) hI
  refine lv_aload_n hx hb dL_law_490 rfl (lv_at hl 1 rfl) ?_
  refine lv_aload_n hx hb dL_law_491 rfl (lv_at hl 0 rfl) ?_
  refine lv_iload_n hx hb dL_law_492 rfl (lv_at hl 3 rfl) ?_
  refine lv_iconst (v := 1) hx hb dL_law_493 (by decide) ?_
  refine lv_iadd hx hb dL_law_494 ?_
  refine va_sld hx hb hX hbl hbA hS i1 dL_law_495 ?_
  refine tm_cVI (As := [.int (xs (x3 + 1).toNatClampNeg)]) (rest := []) ⟨hx, hb, hml, hown, hts⟩ (tX7_width l D cI cZ cR N q0 d0 (xs (x3 + 1).toNatClampNeg) r d' h1) (cwV 1 hts gL_law_X7_width rfl rfl rfl hdwsV_X7_width ⟨Nat.le_of_ble_eq_true rfl, Nat.le_of_ble_eq_true rfl⟩) hK hP hD hS hA [0, 1, 2, 3, 4, 5, 6, 7, 8, 9, 10, 11, 12, 13, 14, 15, 16, 17, 18, 19, 20, 21, 22, 23, 24, 25, 26, 27, 28, 29, 30, 31, 32, 33, 34, 35, 36, 37, 38, 39, 40, 41, 42, 43, 44, 45, 46, 47, 48, 49, 50, 51, 52, 53, 54, 55, 56, 57, 58, 59, 60, 61, 62, 63, 64, 65, 66, 67, 68, 69, 70, 71, 72] (by decide) rfl rfl (ci := 7) rfl rfl rfl (fun _ => WX7X8 cI cZ cR q0 q1 d' d1 g0) () rfl rfl hl.1 rfl (Nat.le_of_ble_eq_true rfl) dL_law_496 ⟨Nat.le_refl _, Nat.le_refl _⟩ (fun _ _ H locs hP hD hS => ?_)
  refine lv_aload_n hx hb dL_law_499 rfl (lv_at hl 2 rfl) ?_
  refine lv_aload_n hx hb dL_law_500 rfl (lv_at hl 0 rfl) ?_
  refine lv_iload_n hx hb dL_law_501 rfl (lv_at hl 3 rfl) ?_
  refine lv_iconst (v := 1) hx hb dL_law_502 (by decide) ?_
  refine lv_iadd hx hb dL_law_503 ?_
  refine va_sld hx hb hX hbl hbA hS i1 dL_law_504 ?_
  refine tm_cVI (As := [.int (xs (x3 + 1).toNatClampNeg)]) (rest := [.int r]) ⟨hx, hb, hml, hown, hts⟩ (tX8_width l D cI cZ cR N q1 d1 g0 (xs (x3 + 1).toNatClampNeg) r e' h2) (cwV 1 hts gL_law_X8_width rfl rfl rfl hdwsV_X8_width ⟨Nat.le_of_ble_eq_true rfl, Nat.le_of_ble_eq_true rfl⟩) hK hP hD hS hA [73, 74, 75, 76, 77, 78, 79, 80, 81, 82, 83, 84, 85, 86, 87, 88] (by decide) rfl rfl (ci := 8) rfl rfl rfl (fun _ => WX7X8 cI cZ cR q0 q1 d' e' g0) () rfl rfl hl.1 rfl (Nat.le_of_ble_eq_true rfl) dL_law_505 ⟨Nat.le_refl _, Nat.le_refl _⟩ (fun _ _ H locs hP hD hS => ?_)
  refine lv_icmp_eq (tgt := 714) hx hb dL_law_508 (by decide) (fun _ => ?_) (fun c9 => absurd rfl c9)
  exact kk d' e' g0 hI2 H locs ls hP hD hS hl
set_option maxHeartbeats 4000000 in
set_option maxRecDepth 100000 in
theorem law_c15 {p : Program} {l : Launch} {e : Env} {s : State} {m : MethodId} {args : Array Value} {below : List Frame} {meth : Method} {c : Code} {A : Nat → Prop} {H0 : Heap} {Q : State → Prop} {D : va_G} {cI cZ cR : ClassId} {b L : Nat} {xs : Nat → Int32} {N : Nat} {Inv : tm_M → tm_M → Int64 → Prop} (C : tm_Cx p s m c args cL_law 4 RL wsL_law D (tm_ty cI cZ cR) A H0) (hX : va_X b L xs s H0) (hbl : b < H0.size) (hbA : ¬ A b) (hL : L ≤ 1536) (hst : tm_S15 N Inv) (q0 q1 : Nat → Nat) (i : Nat) (hi : i + 3 ≤ L) (x3 : Int32) (ex3 : x3 = nI i) (d0 d1 : tm_M) (g0 : Int64) (hI : Inv d0 d1 g0) (kk : ∀ (d0 d1 : tm_M) (g0 : Int64), Inv d0 d1 g0 → ∀ (H : Heap) (locs : List Loc) (ls : Array Slot), va_P D vwCl (WX7X8 cI cZ cR q0 q1 d0 d1 g0) H → va_D A (WX7X8 cI cZ cR q0 q1 d0 d1 g0) → va_S A H0 H locs → lv_has ls 4 [(0, .ref b), (1, .ref (q0 0)), (2, .ref (q1 0)), (3, .int x3)] → W p l e room_1 s m args below meth c H locs 600000 7302250 Q (F0 m 714 ls [])) : ∀ (H : Heap) (locs : List Loc) (ls : Array Slot), va_P D vwCl (WX7X8 cI cZ cR q0 q1 d0 d1 g0) H → va_D A (WX7X8 cI cZ cR q0 q1 d0 d1 g0) → va_S A H0 H locs → lv_has ls 4 [(0, .ref b), (1, .ref (q0 0)), (2, .ref (q1 0)), (3, .int x3)] → W p l e room_1 s m args below meth c H locs 600000 7302250 Q (F0 m 513 ls []) := by
  obtain ⟨hx, hb, hml, hown, hts, hK, hA⟩ := id C
  intro H locs ls hP hD hS hl
  have i1 : vp_in (x3 + 1) L := by rw [ex3, nI_1]; exact vp_in_nI (by omega) (by omega)
  have i2 : vp_in (x3 + 2) L := by rw [ex3, show (2 : Int32) = nI 2 from rfl, nI_add]; exact vp_in_nI (by omega) (by omega)
  obtain ⟨r, d', e', h1, h2, hI2⟩ := hst d0 d1 g0 (xs (x3 + 1).toNatClampNeg) hI
  refine lv_aload_n hx hb dL_law_513 rfl (lv_at hl 1 rfl) ?_
  refine lv_aload_n hx hb dL_law_514 rfl (lv_at hl 0 rfl) ?_
  refine lv_iload_n hx hb dL_law_515 rfl (lv_at hl 3 rfl) ?_
  refine lv_iconst (v := 1) hx hb dL_law_516 (by decide) ?_
  refine lv_iadd hx hb dL_law_517 ?_
  refine va_sld hx hb hX hbl hbA hS i1 dL_law_518 ?_
  refine tm_cVI (As := [.int (xs (x3 + 1).toNatClampNeg)]) (rest := []) ⟨hx, hb, hml, hown, hts⟩ (tX7_height l D cI cZ cR N q0 d0 (xs (x3 + 1).toNatClampNeg) r d' h1) (cwV 1 hts gL_law_X7_height rfl rfl rfl hdwsV_X7_height ⟨Nat.le_of_ble_eq_true rfl, Nat.le_of_ble_eq_true rfl⟩) hK hP hD hS hA [0, 1, 2, 3, 4, 5, 6, 7, 8, 9, 10, 11, 12, 13, 14, 15, 16, 17, 18, 19, 20, 21, 22, 23, 24, 25, 26, 27, 28, 29, 30, 31, 32, 33, 34, 35, 36, 37, 38, 39, 40, 41, 42, 43, 44, 45, 46, 47, 48, 49, 50, 51, 52, 53, 54, 55, 56, 57, 58, 59, 60, 61, 62, 63, 64, 65, 66, 67, 68, 69, 70, 71, 72] (by decide) rfl rfl (ci := 7) rfl rfl rfl (fun _ => WX7X8 cI cZ cR q0 q1 d' d1 g0) () rfl rfl hl.1 rfl (Nat.le_of_ble_eq_true rfl) dL_law_519 ⟨Nat.le_refl _, Nat.le_refl _⟩ (fun _ _ H locs hP hD hS => ?_)
  refine lv_aload_n hx hb dL_law_522 rfl (lv_at hl 2 rfl) ?_
  refine lv_aload_n hx hb dL_law_523 rfl (lv_at hl 0 rfl) ?_
  refine lv_iload_n hx hb dL_law_524 rfl (lv_at hl 3 rfl) ?_
  refine lv_iconst (v := 1) hx hb dL_law_525 (by decide) ?_
  refine lv_iadd hx hb dL_law_526 ?_
  refine va_sld hx hb hX hbl hbA hS i1 dL_law_527 ?_
  refine tm_cVI (As := [.int (xs (x3 + 1).toNatClampNeg)]) (rest := [.int r]) ⟨hx, hb, hml, hown, hts⟩ (tX8_height l D cI cZ cR N q1 d1 g0 (xs (x3 + 1).toNatClampNeg) r e' h2) (cwV 1 hts gL_law_X8_height rfl rfl rfl hdwsV_X8_height ⟨Nat.le_of_ble_eq_true rfl, Nat.le_of_ble_eq_true rfl⟩) hK hP hD hS hA [73, 74, 75, 76, 77, 78, 79, 80, 81, 82, 83, 84, 85, 86, 87, 88] (by decide) rfl rfl (ci := 8) rfl rfl rfl (fun _ => WX7X8 cI cZ cR q0 q1 d' e' g0) () rfl rfl hl.1 rfl (Nat.le_of_ble_eq_true rfl) dL_law_528 ⟨Nat.le_refl _, Nat.le_refl _⟩ (fun _ _ H locs hP hD hS => ?_)
  refine lv_icmp_eq (tgt := 714) hx hb dL_law_531 (by decide) (fun _ => ?_) (fun c9 => absurd rfl c9)
  exact kk d' e' g0 hI2 H locs ls hP hD hS hl
set_option maxHeartbeats 4000000 in
set_option maxRecDepth 100000 in
theorem law_c16 {p : Program} {l : Launch} {e : Env} {s : State} {m : MethodId} {args : Array Value} {below : List Frame} {meth : Method} {c : Code} {A : Nat → Prop} {H0 : Heap} {Q : State → Prop} {D : va_G} {cI cZ cR : ClassId} {b L : Nat} {xs : Nat → Int32} {N : Nat} {Inv : tm_M → tm_M → Int64 → Prop} (C : tm_Cx p s m c args cL_law 4 RL wsL_law D (tm_ty cI cZ cR) A H0) (hX : va_X b L xs s H0) (hbl : b < H0.size) (hbA : ¬ A b) (hL : L ≤ 1536) (hst : tm_S16 N Inv) (q0 q1 : Nat → Nat) (i : Nat) (hi : i + 3 ≤ L) (x3 : Int32) (ex3 : x3 = nI i) (d0 d1 : tm_M) (g0 : Int64) (hI : Inv d0 d1 g0) (kk : ∀ (d0 d1 : tm_M) (g0 : Int64), Inv d0 d1 g0 → ∀ (H : Heap) (locs : List Loc) (ls : Array Slot), va_P D vwCl (WX7X8 cI cZ cR q0 q1 d0 d1 g0) H → va_D A (WX7X8 cI cZ cR q0 q1 d0 d1 g0) → va_S A H0 H locs → lv_has ls 4 [(0, .ref b), (1, .ref (q0 0)), (2, .ref (q1 0)), (3, .int x3)] → W p l e room_1 s m args below meth c H locs 600000 7302250 Q (F0 m 714 ls [])) : ∀ (H : Heap) (locs : List Loc) (ls : Array Slot), va_P D vwCl (WX7X8 cI cZ cR q0 q1 d0 d1 g0) H → va_D A (WX7X8 cI cZ cR q0 q1 d0 d1 g0) → va_S A H0 H locs → lv_has ls 4 [(0, .ref b), (1, .ref (q0 0)), (2, .ref (q1 0)), (3, .int x3)] → W p l e room_1 s m args below meth c H locs 600000 7302250 Q (F0 m 536 ls []) := by
  obtain ⟨hx, hb, hml, hown, hts, hK, hA⟩ := id C
  intro H locs ls hP hD hS hl
  have i1 : vp_in (x3 + 1) L := by rw [ex3, nI_1]; exact vp_in_nI (by omega) (by omega)
  have i2 : vp_in (x3 + 2) L := by rw [ex3, show (2 : Int32) = nI 2 from rfl, nI_add]; exact vp_in_nI (by omega) (by omega)
  obtain ⟨r, d', e', h1, h2, hI2⟩ := hst d0 d1 g0 (xs (x3 + 1).toNatClampNeg) hI
  refine lv_aload_n hx hb dL_law_536 rfl (lv_at hl 1 rfl) ?_
  refine lv_aload_n hx hb dL_law_537 rfl (lv_at hl 0 rfl) ?_
  refine lv_iload_n hx hb dL_law_538 rfl (lv_at hl 3 rfl) ?_
  refine lv_iconst (v := 1) hx hb dL_law_539 (by decide) ?_
  refine lv_iadd hx hb dL_law_540 ?_
  refine va_sld hx hb hX hbl hbA hS i1 dL_law_541 ?_
  refine tm_cVI (As := [.int (xs (x3 + 1).toNatClampNeg)]) (rest := []) ⟨hx, hb, hml, hown, hts⟩ (tX7_isHidden l D cI cZ cR N q0 d0 (xs (x3 + 1).toNatClampNeg) r d' h1) (cwV 1 hts gL_law_X7_isHidden rfl rfl rfl hdwsV_X7_isHidden ⟨Nat.le_of_ble_eq_true rfl, Nat.le_of_ble_eq_true rfl⟩) hK hP hD hS hA [0, 1, 2, 3, 4, 5, 6, 7, 8, 9, 10, 11, 12, 13, 14, 15, 16, 17, 18, 19, 20, 21, 22, 23, 24, 25, 26, 27, 28, 29, 30, 31, 32, 33, 34, 35, 36, 37, 38, 39, 40, 41, 42, 43, 44, 45, 46, 47, 48, 49, 50, 51, 52, 53, 54, 55, 56, 57, 58, 59, 60, 61, 62, 63, 64, 65, 66, 67, 68, 69, 70, 71, 72] (by decide) rfl rfl (ci := 7) rfl rfl rfl (fun _ => WX7X8 cI cZ cR q0 q1 d' d1 g0) () rfl rfl hl.1 rfl (Nat.le_of_ble_eq_true rfl) dL_law_542 ⟨Nat.le_refl _, Nat.le_refl _⟩ (fun _ _ H locs hP hD hS => ?_)
  refine lv_aload_n hx hb dL_law_545 rfl (lv_at hl 2 rfl) ?_
  refine lv_aload_n hx hb dL_law_546 rfl (lv_at hl 0 rfl) ?_
  refine lv_iload_n hx hb dL_law_547 rfl (lv_at hl 3 rfl) ?_
  refine lv_iconst (v := 1) hx hb dL_law_548 (by decide) ?_
  refine lv_iadd hx hb dL_law_549 ?_
  refine va_sld hx hb hX hbl hbA hS i1 dL_law_550 ?_
  refine tm_cVI (As := [.int (xs (x3 + 1).toNatClampNeg)]) (rest := [.int r]) ⟨hx, hb, hml, hown, hts⟩ (tX8_isHidden l D cI cZ cR N q1 d1 g0 (xs (x3 + 1).toNatClampNeg) r e' h2) (cwV 1 hts gL_law_X8_isHidden rfl rfl rfl hdwsV_X8_isHidden ⟨Nat.le_of_ble_eq_true rfl, Nat.le_of_ble_eq_true rfl⟩) hK hP hD hS hA [73, 74, 75, 76, 77, 78, 79, 80, 81, 82, 83, 84, 85, 86, 87, 88] (by decide) rfl rfl (ci := 8) rfl rfl rfl (fun _ => WX7X8 cI cZ cR q0 q1 d' e' g0) () rfl rfl hl.1 rfl (Nat.le_of_ble_eq_true rfl) dL_law_551 ⟨Nat.le_refl _, Nat.le_refl _⟩ (fun _ _ H locs hP hD hS => ?_)
  refine lv_icmp_eq (tgt := 714) hx hb dL_law_554 (by decide) (fun _ => ?_) (fun c9 => absurd rfl c9)
  exact kk d' e' g0 hI2 H locs ls hP hD hS hl
set_option maxHeartbeats 4000000 in
set_option maxRecDepth 100000 in
theorem law_c17 {p : Program} {l : Launch} {e : Env} {s : State} {m : MethodId} {args : Array Value} {below : List Frame} {meth : Method} {c : Code} {A : Nat → Prop} {H0 : Heap} {Q : State → Prop} {D : va_G} {cI cZ cR : ClassId} {b L : Nat} {xs : Nat → Int32} {N : Nat} {Inv : tm_M → tm_M → Int64 → Prop} (C : tm_Cx p s m c args cL_law 4 RL wsL_law D (tm_ty cI cZ cR) A H0) (hX : va_X b L xs s H0) (hbl : b < H0.size) (hbA : ¬ A b) (hL : L ≤ 1536) (hst : tm_S17 N Inv) (q0 q1 : Nat → Nat) (i : Nat) (hi : i + 3 ≤ L) (x3 : Int32) (ex3 : x3 = nI i) (d0 d1 : tm_M) (g0 : Int64) (hI : Inv d0 d1 g0) (kk : ∀ (d0 d1 : tm_M) (g0 : Int64), Inv d0 d1 g0 → ∀ (H : Heap) (locs : List Loc) (ls : Array Slot), va_P D vwCl (WX7X8 cI cZ cR q0 q1 d0 d1 g0) H → va_D A (WX7X8 cI cZ cR q0 q1 d0 d1 g0) → va_S A H0 H locs → lv_has ls 4 [(0, .ref b), (1, .ref (q0 0)), (2, .ref (q1 0)), (3, .int x3)] → W p l e room_1 s m args below meth c H locs 600000 7302250 Q (F0 m 714 ls [])) : ∀ (H : Heap) (locs : List Loc) (ls : Array Slot), va_P D vwCl (WX7X8 cI cZ cR q0 q1 d0 d1 g0) H → va_D A (WX7X8 cI cZ cR q0 q1 d0 d1 g0) → va_S A H0 H locs → lv_has ls 4 [(0, .ref b), (1, .ref (q0 0)), (2, .ref (q1 0)), (3, .int x3)] → W p l e room_1 s m args below meth c H locs 600000 7302250 Q (F0 m 559 ls []) := by
  obtain ⟨hx, hb, hml, hown, hts, hK, hA⟩ := id C
  intro H locs ls hP hD hS hl
  have i1 : vp_in (x3 + 1) L := by rw [ex3, nI_1]; exact vp_in_nI (by omega) (by omega)
  have i2 : vp_in (x3 + 2) L := by rw [ex3, show (2 : Int32) = nI 2 from rfl, nI_add]; exact vp_in_nI (by omega) (by omega)
  obtain ⟨r, d', e', h1, h2, hI2⟩ := hst d0 d1 g0 (xs (x3 + 1).toNatClampNeg) (xs (x3 + 2).toNatClampNeg) hI
  refine lv_aload_n hx hb dL_law_559 rfl (lv_at hl 1 rfl) ?_
  refine lv_aload_n hx hb dL_law_560 rfl (lv_at hl 0 rfl) ?_
  refine lv_iload_n hx hb dL_law_561 rfl (lv_at hl 3 rfl) ?_
  refine lv_iconst (v := 1) hx hb dL_law_562 (by decide) ?_
  refine lv_iadd hx hb dL_law_563 ?_
  refine va_sld hx hb hX hbl hbA hS i1 dL_law_564 ?_
  refine lv_aload_n hx hb dL_law_565 rfl (lv_at hl 0 rfl) ?_
  refine lv_iload_n hx hb dL_law_566 rfl (lv_at hl 3 rfl) ?_
  refine lv_iconst (v := 2) hx hb dL_law_567 (by decide) ?_
  refine lv_iadd hx hb dL_law_568 ?_
  refine va_sld hx hb hX hbl hbA hS i2 dL_law_569 ?_
  refine tm_cVI (As := [.int (xs (x3 + 1).toNatClampNeg), .int (xs (x3 + 2).toNatClampNeg)]) (rest := []) ⟨hx, hb, hml, hown, hts⟩ (tX7_nodeAt l D cI cZ cR N q0 d0 (xs (x3 + 1).toNatClampNeg) (xs (x3 + 2).toNatClampNeg) r d' h1) (cwV 2 hts gL_law_X7_nodeAt rfl rfl rfl hdwsV_X7_nodeAt ⟨Nat.le_of_ble_eq_true rfl, Nat.le_of_ble_eq_true rfl⟩) hK hP hD hS hA [0, 1, 2, 3, 4, 5, 6, 7, 8, 9, 10, 11, 12, 13, 14, 15, 16, 17, 18, 19, 20, 21, 22, 23, 24, 25, 26, 27, 28, 29, 30, 31, 32, 33, 34, 35, 36, 37, 38, 39, 40, 41, 42, 43, 44, 45, 46, 47, 48, 49, 50, 51, 52, 53, 54, 55, 56, 57, 58, 59, 60, 61, 62, 63, 64, 65, 66, 67, 68, 69, 70, 71, 72] (by decide) rfl rfl (ci := 7) rfl rfl rfl (fun _ => WX7X8 cI cZ cR q0 q1 d' d1 g0) () rfl rfl hl.1 rfl (Nat.le_of_ble_eq_true rfl) dL_law_570 ⟨Nat.le_refl _, Nat.le_refl _⟩ (fun _ _ H locs hP hD hS => ?_)
  refine lv_aload_n hx hb dL_law_573 rfl (lv_at hl 2 rfl) ?_
  refine lv_aload_n hx hb dL_law_574 rfl (lv_at hl 0 rfl) ?_
  refine lv_iload_n hx hb dL_law_575 rfl (lv_at hl 3 rfl) ?_
  refine lv_iconst (v := 1) hx hb dL_law_576 (by decide) ?_
  refine lv_iadd hx hb dL_law_577 ?_
  refine va_sld hx hb hX hbl hbA hS i1 dL_law_578 ?_
  refine lv_aload_n hx hb dL_law_579 rfl (lv_at hl 0 rfl) ?_
  refine lv_iload_n hx hb dL_law_580 rfl (lv_at hl 3 rfl) ?_
  refine lv_iconst (v := 2) hx hb dL_law_581 (by decide) ?_
  refine lv_iadd hx hb dL_law_582 ?_
  refine va_sld hx hb hX hbl hbA hS i2 dL_law_583 ?_
  refine tm_cVI (As := [.int (xs (x3 + 1).toNatClampNeg), .int (xs (x3 + 2).toNatClampNeg)]) (rest := [.int r]) ⟨hx, hb, hml, hown, hts⟩ (tX8_nodeAt l D cI cZ cR N q1 d1 g0 (xs (x3 + 1).toNatClampNeg) (xs (x3 + 2).toNatClampNeg) r e' h2) (cwV 2 hts gL_law_X8_nodeAt rfl rfl rfl hdwsV_X8_nodeAt ⟨Nat.le_of_ble_eq_true rfl, Nat.le_of_ble_eq_true rfl⟩) hK hP hD hS hA [73, 74, 75, 76, 77, 78, 79, 80, 81, 82, 83, 84, 85, 86, 87, 88] (by decide) rfl rfl (ci := 8) rfl rfl rfl (fun _ => WX7X8 cI cZ cR q0 q1 d' e' g0) () rfl rfl hl.1 rfl (Nat.le_of_ble_eq_true rfl) dL_law_584 ⟨Nat.le_refl _, Nat.le_refl _⟩ (fun _ _ H locs hP hD hS => ?_)
  refine lv_icmp_eq (tgt := 714) hx hb dL_law_587 (by decide) (fun _ => ?_) (fun c9 => absurd rfl c9)
  exact kk d' e' g0 hI2 H locs ls hP hD hS hl
set_option maxHeartbeats 4000000 in
set_option maxRecDepth 100000 in
theorem law_c18 {p : Program} {l : Launch} {e : Env} {s : State} {m : MethodId} {args : Array Value} {below : List Frame} {meth : Method} {c : Code} {A : Nat → Prop} {H0 : Heap} {Q : State → Prop} {D : va_G} {cI cZ cR : ClassId} {b L : Nat} {xs : Nat → Int32} {N : Nat} {Inv : tm_M → tm_M → Int64 → Prop} (C : tm_Cx p s m c args cL_law 4 RL wsL_law D (tm_ty cI cZ cR) A H0) (hX : va_X b L xs s H0) (hbl : b < H0.size) (hbA : ¬ A b) (hL : L ≤ 1536) (hst : tm_S18 N Inv) (q0 q1 : Nat → Nat) (i : Nat) (hi : i + 3 ≤ L) (x3 : Int32) (ex3 : x3 = nI i) (d0 d1 : tm_M) (g0 : Int64) (hI : Inv d0 d1 g0) (kk : ∀ (d0 d1 : tm_M) (g0 : Int64), Inv d0 d1 g0 → ∀ (H : Heap) (locs : List Loc) (ls : Array Slot), va_P D vwCl (WX7X8 cI cZ cR q0 q1 d0 d1 g0) H → va_D A (WX7X8 cI cZ cR q0 q1 d0 d1 g0) → va_S A H0 H locs → lv_has ls 4 [(0, .ref b), (1, .ref (q0 0)), (2, .ref (q1 0)), (3, .int x3)] → W p l e room_1 s m args below meth c H locs 600000 7302250 Q (F0 m 714 ls [])) : ∀ (H : Heap) (locs : List Loc) (ls : Array Slot), va_P D vwCl (WX7X8 cI cZ cR q0 q1 d0 d1 g0) H → va_D A (WX7X8 cI cZ cR q0 q1 d0 d1 g0) → va_S A H0 H locs → lv_has ls 4 [(0, .ref b), (1, .ref (q0 0)), (2, .ref (q1 0)), (3, .int x3)] → W p l e room_1 s m args below meth c H locs 600000 7302250 Q (F0 m 592 ls []) := by
  obtain ⟨hx, hb, hml, hown, hts, hK, hA⟩ := id C
  intro H locs ls hP hD hS hl
  have i1 : vp_in (x3 + 1) L := by rw [ex3, nI_1]; exact vp_in_nI (by omega) (by omega)
  have i2 : vp_in (x3 + 2) L := by rw [ex3, show (2 : Int32) = nI 2 from rfl, nI_add]; exact vp_in_nI (by omega) (by omega)
  obtain ⟨r, e', h1, h2, hI2⟩ := hst d0 d1 g0 hI
  refine lv_aload_n hx hb dL_law_592 rfl (lv_at hl 1 rfl) ?_
  refine tm_cVI (As := []) (rest := []) ⟨hx, hb, hml, hown, hts⟩ (tX7_leafPixels l D cI cZ cR N q0 d0 r h1) (cwV 0 hts gL_law_X7_leafPixels rfl rfl rfl hdwsV_X7_leafPixels ⟨Nat.le_of_ble_eq_true rfl, Nat.le_of_ble_eq_true rfl⟩) hK hP hD hS hA [0, 1, 2, 3, 4, 5, 6, 7, 8, 9, 10, 11, 12, 13, 14, 15, 16, 17, 18, 19, 20, 21, 22, 23, 24, 25, 26, 27, 28, 29, 30, 31, 32, 33, 34, 35, 36, 37, 38, 39, 40, 41, 42, 43, 44, 45, 46, 47, 48, 49, 50, 51, 52, 53, 54, 55, 56, 57, 58, 59, 60, 61, 62, 63, 64, 65, 66, 67, 68, 69, 70, 71, 72] (by decide) rfl rfl (ci := 7) rfl rfl rfl (fun _ => WX7X8 cI cZ cR q0 q1 d0 d1 g0) () rfl rfl hl.1 rfl (Nat.le_of_ble_eq_true rfl) dL_law_593 ⟨Nat.le_refl _, Nat.le_refl _⟩ (fun _ _ H locs hP hD hS => ?_)
  refine lv_aload_n hx hb dL_law_596 rfl (lv_at hl 2 rfl) ?_
  refine tm_cVI (As := []) (rest := [.int r]) ⟨hx, hb, hml, hown, hts⟩ (tX8_leafPixels l D cI cZ cR N q1 d1 g0 r e' h2) (cwV 0 hts gL_law_X8_leafPixels rfl rfl rfl hdwsV_X8_leafPixels ⟨Nat.le_of_ble_eq_true rfl, Nat.le_of_ble_eq_true rfl⟩) hK hP hD hS hA [73, 74, 75, 76, 77, 78, 79, 80, 81, 82, 83, 84, 85, 86, 87, 88] (by decide) rfl rfl (ci := 8) rfl rfl rfl (fun _ => WX7X8 cI cZ cR q0 q1 d0 e' g0) () rfl rfl hl.1 rfl (Nat.le_of_ble_eq_true rfl) dL_law_597 ⟨Nat.le_refl _, Nat.le_refl _⟩ (fun _ _ H locs hP hD hS => ?_)
  refine lv_icmp_eq (tgt := 714) hx hb dL_law_600 (by decide) (fun _ => ?_) (fun c9 => absurd rfl c9)
  exact kk d0 e' g0 hI2 H locs ls hP hD hS hl
set_option maxHeartbeats 4000000 in
set_option maxRecDepth 100000 in
theorem law_c19 {p : Program} {l : Launch} {e : Env} {s : State} {m : MethodId} {args : Array Value} {below : List Frame} {meth : Method} {c : Code} {A : Nat → Prop} {H0 : Heap} {Q : State → Prop} {D : va_G} {cI cZ cR : ClassId} {b L : Nat} {xs : Nat → Int32} {N : Nat} {Inv : tm_M → tm_M → Int64 → Prop} (C : tm_Cx p s m c args cL_law 4 RL wsL_law D (tm_ty cI cZ cR) A H0) (hX : va_X b L xs s H0) (hbl : b < H0.size) (hbA : ¬ A b) (hL : L ≤ 1536) (hst : tm_S19 N Inv) (q0 q1 : Nat → Nat) (i : Nat) (hi : i + 3 ≤ L) (x3 : Int32) (ex3 : x3 = nI i) (d0 d1 : tm_M) (g0 : Int64) (hI : Inv d0 d1 g0) (kk : ∀ (d0 d1 : tm_M) (g0 : Int64), Inv d0 d1 g0 → ∀ (H : Heap) (locs : List Loc) (ls : Array Slot), va_P D vwCl (WX7X8 cI cZ cR q0 q1 d0 d1 g0) H → va_D A (WX7X8 cI cZ cR q0 q1 d0 d1 g0) → va_S A H0 H locs → lv_has ls 4 [(0, .ref b), (1, .ref (q0 0)), (2, .ref (q1 0)), (3, .int x3)] → W p l e room_1 s m args below meth c H locs 600000 7302250 Q (F0 m 714 ls [])) : ∀ (H : Heap) (locs : List Loc) (ls : Array Slot), va_P D vwCl (WX7X8 cI cZ cR q0 q1 d0 d1 g0) H → va_D A (WX7X8 cI cZ cR q0 q1 d0 d1 g0) → va_S A H0 H locs → lv_has ls 4 [(0, .ref b), (1, .ref (q0 0)), (2, .ref (q1 0)), (3, .int x3)] → W p l e room_1 s m args below meth c H locs 600000 7302250 Q (F0 m 605 ls []) := by
  obtain ⟨hx, hb, hml, hown, hts, hK, hA⟩ := id C
  intro H locs ls hP hD hS hl
  have i1 : vp_in (x3 + 1) L := by rw [ex3, nI_1]; exact vp_in_nI (by omega) (by omega)
  have i2 : vp_in (x3 + 2) L := by rw [ex3, show (2 : Int32) = nI 2 from rfl, nI_add]; exact vp_in_nI (by omega) (by omega)
  obtain ⟨r, e', h1, h2, hI2⟩ := hst d0 d1 g0 hI
  refine lv_aload_n hx hb dL_law_605 rfl (lv_at hl 1 rfl) ?_
  refine tm_cVI (As := []) (rest := []) ⟨hx, hb, hml, hown, hts⟩ (tX7_worstAspect l D cI cZ cR N q0 d0 r h1) (cwV 0 hts gL_law_X7_worstAspect rfl rfl rfl hdwsV_X7_worstAspect ⟨Nat.le_of_ble_eq_true rfl, Nat.le_of_ble_eq_true rfl⟩) hK hP hD hS hA [0, 1, 2, 3, 4, 5, 6, 7, 8, 9, 10, 11, 12, 13, 14, 15, 16, 17, 18, 19, 20, 21, 22, 23, 24, 25, 26, 27, 28, 29, 30, 31, 32, 33, 34, 35, 36, 37, 38, 39, 40, 41, 42, 43, 44, 45, 46, 47, 48, 49, 50, 51, 52, 53, 54, 55, 56, 57, 58, 59, 60, 61, 62, 63, 64, 65, 66, 67, 68, 69, 70, 71, 72] (by decide) rfl rfl (ci := 7) rfl rfl rfl (fun _ => WX7X8 cI cZ cR q0 q1 d0 d1 g0) () rfl rfl hl.1 rfl (Nat.le_of_ble_eq_true rfl) dL_law_606 ⟨Nat.le_refl _, Nat.le_refl _⟩ (fun _ _ H locs hP hD hS => ?_)
  refine lv_aload_n hx hb dL_law_609 rfl (lv_at hl 2 rfl) ?_
  refine tm_cVI (As := []) (rest := [.int r]) ⟨hx, hb, hml, hown, hts⟩ (tX8_worstAspect l D cI cZ cR N q1 d1 g0 r e' h2) (cwV 0 hts gL_law_X8_worstAspect rfl rfl rfl hdwsV_X8_worstAspect ⟨Nat.le_of_ble_eq_true rfl, Nat.le_of_ble_eq_true rfl⟩) hK hP hD hS hA [73, 74, 75, 76, 77, 78, 79, 80, 81, 82, 83, 84, 85, 86, 87, 88] (by decide) rfl rfl (ci := 8) rfl rfl rfl (fun _ => WX7X8 cI cZ cR q0 q1 d0 e' g0) () rfl rfl hl.1 rfl (Nat.le_of_ble_eq_true rfl) dL_law_610 ⟨Nat.le_refl _, Nat.le_refl _⟩ (fun _ _ H locs hP hD hS => ?_)
  refine lv_icmp_eq (tgt := 714) hx hb dL_law_613 (by decide) (fun _ => ?_) (fun c9 => absurd rfl c9)
  exact kk d0 e' g0 hI2 H locs ls hP hD hS hl
set_option maxHeartbeats 4000000 in
set_option maxRecDepth 100000 in
theorem law_c20 {p : Program} {l : Launch} {e : Env} {s : State} {m : MethodId} {args : Array Value} {below : List Frame} {meth : Method} {c : Code} {A : Nat → Prop} {H0 : Heap} {Q : State → Prop} {D : va_G} {cI cZ cR : ClassId} {b L : Nat} {xs : Nat → Int32} {N : Nat} {Inv : tm_M → tm_M → Int64 → Prop} (C : tm_Cx p s m c args cL_law 4 RL wsL_law D (tm_ty cI cZ cR) A H0) (hX : va_X b L xs s H0) (hbl : b < H0.size) (hbA : ¬ A b) (hL : L ≤ 1536) (hst : tm_S20 N Inv) (q0 q1 : Nat → Nat) (i : Nat) (hi : i + 3 ≤ L) (x3 : Int32) (ex3 : x3 = nI i) (d0 d1 : tm_M) (g0 : Int64) (hI : Inv d0 d1 g0) (kk : ∀ (d0 d1 : tm_M) (g0 : Int64), Inv d0 d1 g0 → ∀ (H : Heap) (locs : List Loc) (ls : Array Slot), va_P D vwCl (WX7X8 cI cZ cR q0 q1 d0 d1 g0) H → va_D A (WX7X8 cI cZ cR q0 q1 d0 d1 g0) → va_S A H0 H locs → lv_has ls 4 [(0, .ref b), (1, .ref (q0 0)), (2, .ref (q1 0)), (3, .int x3)] → W p l e room_1 s m args below meth c H locs 600000 7302250 Q (F0 m 714 ls [])) : ∀ (H : Heap) (locs : List Loc) (ls : Array Slot), va_P D vwCl (WX7X8 cI cZ cR q0 q1 d0 d1 g0) H → va_D A (WX7X8 cI cZ cR q0 q1 d0 d1 g0) → va_S A H0 H locs → lv_has ls 4 [(0, .ref b), (1, .ref (q0 0)), (2, .ref (q1 0)), (3, .int x3)] → W p l e room_1 s m args below meth c H locs 600000 7302250 Q (F0 m 618 ls []) := by
  obtain ⟨hx, hb, hml, hown, hts, hK, hA⟩ := id C
  intro H locs ls hP hD hS hl
  have i1 : vp_in (x3 + 1) L := by rw [ex3, nI_1]; exact vp_in_nI (by omega) (by omega)
  have i2 : vp_in (x3 + 2) L := by rw [ex3, show (2 : Int32) = nI 2 from rfl, nI_add]; exact vp_in_nI (by omega) (by omega)
  obtain ⟨r, e', h1, h2, hI2⟩ := hst d0 d1 g0 hI
  refine lv_aload_n hx hb dL_law_618 rfl (lv_at hl 1 rfl) ?_
  refine tm_cVI (As := []) (rest := []) ⟨hx, hb, hml, hown, hts⟩ (tX7_averageAspect l D cI cZ cR N q0 d0 r h1) (cwV 0 hts gL_law_X7_averageAspect rfl rfl rfl hdwsV_X7_averageAspect ⟨Nat.le_of_ble_eq_true rfl, Nat.le_of_ble_eq_true rfl⟩) hK hP hD hS hA [0, 1, 2, 3, 4, 5, 6, 7, 8, 9, 10, 11, 12, 13, 14, 15, 16, 17, 18, 19, 20, 21, 22, 23, 24, 25, 26, 27, 28, 29, 30, 31, 32, 33, 34, 35, 36, 37, 38, 39, 40, 41, 42, 43, 44, 45, 46, 47, 48, 49, 50, 51, 52, 53, 54, 55, 56, 57, 58, 59, 60, 61, 62, 63, 64, 65, 66, 67, 68, 69, 70, 71, 72] (by decide) rfl rfl (ci := 7) rfl rfl rfl (fun _ => WX7X8 cI cZ cR q0 q1 d0 d1 g0) () rfl rfl hl.1 rfl (Nat.le_of_ble_eq_true rfl) dL_law_619 ⟨Nat.le_refl _, Nat.le_refl _⟩ (fun _ _ H locs hP hD hS => ?_)
  refine lv_aload_n hx hb dL_law_622 rfl (lv_at hl 2 rfl) ?_
  refine tm_cVI (As := []) (rest := [.int r]) ⟨hx, hb, hml, hown, hts⟩ (tX8_averageAspect l D cI cZ cR N q1 d1 g0 r e' h2) (cwV 0 hts gL_law_X8_averageAspect rfl rfl rfl hdwsV_X8_averageAspect ⟨Nat.le_of_ble_eq_true rfl, Nat.le_of_ble_eq_true rfl⟩) hK hP hD hS hA [73, 74, 75, 76, 77, 78, 79, 80, 81, 82, 83, 84, 85, 86, 87, 88] (by decide) rfl rfl (ci := 8) rfl rfl rfl (fun _ => WX7X8 cI cZ cR q0 q1 d0 e' g0) () rfl rfl hl.1 rfl (Nat.le_of_ble_eq_true rfl) dL_law_623 ⟨Nat.le_refl _, Nat.le_refl _⟩ (fun _ _ H locs hP hD hS => ?_)
  refine lv_icmp_eq (tgt := 714) hx hb dL_law_626 (by decide) (fun _ => ?_) (fun c9 => absurd rfl c9)
  exact kk d0 e' g0 hI2 H locs ls hP hD hS hl
set_option maxHeartbeats 4000000 in
set_option maxRecDepth 100000 in
theorem law_c21 {p : Program} {l : Launch} {e : Env} {s : State} {m : MethodId} {args : Array Value} {below : List Frame} {meth : Method} {c : Code} {A : Nat → Prop} {H0 : Heap} {Q : State → Prop} {D : va_G} {cI cZ cR : ClassId} {b L : Nat} {xs : Nat → Int32} {N : Nat} {Inv : tm_M → tm_M → Int64 → Prop} (C : tm_Cx p s m c args cL_law 4 RL wsL_law D (tm_ty cI cZ cR) A H0) (hX : va_X b L xs s H0) (hbl : b < H0.size) (hbA : ¬ A b) (hL : L ≤ 1536) (hst : tm_S21 N Inv) (q0 q1 : Nat → Nat) (i : Nat) (hi : i + 3 ≤ L) (x3 : Int32) (ex3 : x3 = nI i) (d0 d1 : tm_M) (g0 : Int64) (hI : Inv d0 d1 g0) (kk : ∀ (d0 d1 : tm_M) (g0 : Int64), Inv d0 d1 g0 → ∀ (H : Heap) (locs : List Loc) (ls : Array Slot), va_P D vwCl (WX7X8 cI cZ cR q0 q1 d0 d1 g0) H → va_D A (WX7X8 cI cZ cR q0 q1 d0 d1 g0) → va_S A H0 H locs → lv_has ls 4 [(0, .ref b), (1, .ref (q0 0)), (2, .ref (q1 0)), (3, .int x3)] → W p l e room_1 s m args below meth c H locs 600000 7302250 Q (F0 m 714 ls [])) : ∀ (H : Heap) (locs : List Loc) (ls : Array Slot), va_P D vwCl (WX7X8 cI cZ cR q0 q1 d0 d1 g0) H → va_D A (WX7X8 cI cZ cR q0 q1 d0 d1 g0) → va_S A H0 H locs → lv_has ls 4 [(0, .ref b), (1, .ref (q0 0)), (2, .ref (q1 0)), (3, .int x3)] → W p l e room_1 s m args below meth c H locs 600000 7302250 Q (F0 m 631 ls []) := by
  obtain ⟨hx, hb, hml, hown, hts, hK, hA⟩ := id C
  intro H locs ls hP hD hS hl
  have i1 : vp_in (x3 + 1) L := by rw [ex3, nI_1]; exact vp_in_nI (by omega) (by omega)
  have i2 : vp_in (x3 + 2) L := by rw [ex3, show (2 : Int32) = nI 2 from rfl, nI_add]; exact vp_in_nI (by omega) (by omega)
  obtain ⟨r, d', e', h1, h2, hI2⟩ := hst d0 d1 g0 (xs (x3 + 1).toNatClampNeg) (xs (x3 + 2).toNatClampNeg) hI
  refine lv_aload_n hx hb dL_law_631 rfl (lv_at hl 1 rfl) ?_
  refine lv_aload_n hx hb dL_law_632 rfl (lv_at hl 0 rfl) ?_
  refine lv_iload_n hx hb dL_law_633 rfl (lv_at hl 3 rfl) ?_
  refine lv_iconst (v := 1) hx hb dL_law_634 (by decide) ?_
  refine lv_iadd hx hb dL_law_635 ?_
  refine va_sld hx hb hX hbl hbA hS i1 dL_law_636 ?_
  refine lv_aload_n hx hb dL_law_637 rfl (lv_at hl 0 rfl) ?_
  refine lv_iload_n hx hb dL_law_638 rfl (lv_at hl 3 rfl) ?_
  refine lv_iconst (v := 2) hx hb dL_law_639 (by decide) ?_
  refine lv_iadd hx hb dL_law_640 ?_
  refine va_sld hx hb hX hbl hbA hS i2 dL_law_641 ?_
  refine tm_cVI (As := [.int (xs (x3 + 1).toNatClampNeg), .int (xs (x3 + 2).toNatClampNeg)]) (rest := []) ⟨hx, hb, hml, hown, hts⟩ (tX7_changeBy l D cI cZ cR N q0 d0 (xs (x3 + 1).toNatClampNeg) (xs (x3 + 2).toNatClampNeg) r d' h1) (cwV 2 hts gL_law_X7_changeBy rfl rfl rfl hdwsV_X7_changeBy ⟨Nat.le_of_ble_eq_true rfl, Nat.le_of_ble_eq_true rfl⟩) hK hP hD hS hA [0, 1, 2, 3, 4, 5, 6, 7, 8, 9, 10, 11, 12, 13, 14, 15, 16, 17, 18, 19, 20, 21, 22, 23, 24, 25, 26, 27, 28, 29, 30, 31, 32, 33, 34, 35, 36, 37, 38, 39, 40, 41, 42, 43, 44, 45, 46, 47, 48, 49, 50, 51, 52, 53, 54, 55, 56, 57, 58, 59, 60, 61, 62, 63, 64, 65, 66, 67, 68, 69, 70, 71, 72] (by decide) rfl rfl (ci := 7) rfl rfl rfl (fun _ => WX7X8 cI cZ cR q0 q1 d' d1 g0) () rfl rfl hl.1 rfl (Nat.le_of_ble_eq_true rfl) dL_law_642 ⟨Nat.le_refl _, Nat.le_refl _⟩ (fun _ _ H locs hP hD hS => ?_)
  refine lv_aload_n hx hb dL_law_645 rfl (lv_at hl 2 rfl) ?_
  refine lv_aload_n hx hb dL_law_646 rfl (lv_at hl 0 rfl) ?_
  refine lv_iload_n hx hb dL_law_647 rfl (lv_at hl 3 rfl) ?_
  refine lv_iconst (v := 1) hx hb dL_law_648 (by decide) ?_
  refine lv_iadd hx hb dL_law_649 ?_
  refine va_sld hx hb hX hbl hbA hS i1 dL_law_650 ?_
  refine lv_aload_n hx hb dL_law_651 rfl (lv_at hl 0 rfl) ?_
  refine lv_iload_n hx hb dL_law_652 rfl (lv_at hl 3 rfl) ?_
  refine lv_iconst (v := 2) hx hb dL_law_653 (by decide) ?_
  refine lv_iadd hx hb dL_law_654 ?_
  refine va_sld hx hb hX hbl hbA hS i2 dL_law_655 ?_
  refine tm_cVI (As := [.int (xs (x3 + 1).toNatClampNeg), .int (xs (x3 + 2).toNatClampNeg)]) (rest := [.int r]) ⟨hx, hb, hml, hown, hts⟩ (tX8_changeBy l D cI cZ cR N q1 d1 g0 (xs (x3 + 1).toNatClampNeg) (xs (x3 + 2).toNatClampNeg) r e' h2) (cwV 2 hts gL_law_X8_changeBy rfl rfl rfl hdwsV_X8_changeBy ⟨Nat.le_of_ble_eq_true rfl, Nat.le_of_ble_eq_true rfl⟩) hK hP hD hS hA [73, 74, 75, 76, 77, 78, 79, 80, 81, 82, 83, 84, 85, 86, 87, 88] (by decide) rfl rfl (ci := 8) rfl rfl rfl (fun _ => WX7X8 cI cZ cR q0 q1 d' e' g0) () rfl rfl hl.1 rfl (Nat.le_of_ble_eq_true rfl) dL_law_656 ⟨Nat.le_refl _, Nat.le_refl _⟩ (fun _ _ H locs hP hD hS => ?_)
  refine lv_icmp_eq (tgt := 714) hx hb dL_law_659 (by decide) (fun _ => ?_) (fun c9 => absurd rfl c9)
  exact kk d' e' g0 hI2 H locs ls hP hD hS hl
set_option maxHeartbeats 4000000 in
set_option maxRecDepth 100000 in
theorem law_c22 {p : Program} {l : Launch} {e : Env} {s : State} {m : MethodId} {args : Array Value} {below : List Frame} {meth : Method} {c : Code} {A : Nat → Prop} {H0 : Heap} {Q : State → Prop} {D : va_G} {cI cZ cR : ClassId} {b L : Nat} {xs : Nat → Int32} {N : Nat} {Inv : tm_M → tm_M → Int64 → Prop} (C : tm_Cx p s m c args cL_law 4 RL wsL_law D (tm_ty cI cZ cR) A H0) (hX : va_X b L xs s H0) (hbl : b < H0.size) (hbA : ¬ A b) (hL : L ≤ 1536) (hst : tm_S22 N Inv) (q0 q1 : Nat → Nat) (i : Nat) (hi : i + 3 ≤ L) (x3 : Int32) (ex3 : x3 = nI i) (d0 d1 : tm_M) (g0 : Int64) (hI : Inv d0 d1 g0) (kk : ∀ (d0 d1 : tm_M) (g0 : Int64), Inv d0 d1 g0 → ∀ (H : Heap) (locs : List Loc) (ls : Array Slot), va_P D vwCl (WX7X8 cI cZ cR q0 q1 d0 d1 g0) H → va_D A (WX7X8 cI cZ cR q0 q1 d0 d1 g0) → va_S A H0 H locs → lv_has ls 4 [(0, .ref b), (1, .ref (q0 0)), (2, .ref (q1 0)), (3, .int x3)] → W p l e room_1 s m args below meth c H locs 600000 7302250 Q (F0 m 714 ls [])) : ∀ (H : Heap) (locs : List Loc) (ls : Array Slot), va_P D vwCl (WX7X8 cI cZ cR q0 q1 d0 d1 g0) H → va_D A (WX7X8 cI cZ cR q0 q1 d0 d1 g0) → va_S A H0 H locs → lv_has ls 4 [(0, .ref b), (1, .ref (q0 0)), (2, .ref (q1 0)), (3, .int x3)] → W p l e room_1 s m args below meth c H locs 600000 7302250 Q (F0 m 664 ls []) := by
  obtain ⟨hx, hb, hml, hown, hts, hK, hA⟩ := id C
  intro H locs ls hP hD hS hl
  have i1 : vp_in (x3 + 1) L := by rw [ex3, nI_1]; exact vp_in_nI (by omega) (by omega)
  have i2 : vp_in (x3 + 2) L := by rw [ex3, show (2 : Int32) = nI 2 from rfl, nI_add]; exact vp_in_nI (by omega) (by omega)
  obtain ⟨r, d', e', h1, h2, hI2⟩ := hst d0 d1 g0 hI
  refine lv_aload_n hx hb dL_law_664 rfl (lv_at hl 1 rfl) ?_
  refine tm_cVI (As := []) (rest := []) ⟨hx, hb, hml, hown, hts⟩ (tX7_undo l D cI cZ cR N q0 d0 r d' h1) (cwV 0 hts gL_law_X7_undo rfl rfl rfl hdwsV_X7_undo ⟨Nat.le_of_ble_eq_true rfl, Nat.le_of_ble_eq_true rfl⟩) hK hP hD hS hA [0, 1, 2, 3, 4, 5, 6, 7, 8, 9, 10, 11, 12, 13, 14, 15, 16, 17, 18, 19, 20, 21, 22, 23, 24, 25, 26, 27, 28, 29, 30, 31, 32, 33, 34, 35, 36, 37, 38, 39, 40, 41, 42, 43, 44, 45, 46, 47, 48, 49, 50, 51, 52, 53, 54, 55, 56, 57, 58, 59, 60, 61, 62, 63, 64, 65, 66, 67, 68, 69, 70, 71, 72] (by decide) rfl rfl (ci := 7) rfl rfl rfl (fun _ => WX7X8 cI cZ cR q0 q1 d' d1 g0) () rfl rfl hl.1 rfl (Nat.le_of_ble_eq_true rfl) dL_law_665 ⟨Nat.le_refl _, Nat.le_refl _⟩ (fun _ _ H locs hP hD hS => ?_)
  refine lv_aload_n hx hb dL_law_668 rfl (lv_at hl 2 rfl) ?_
  refine tm_cVI (As := []) (rest := [.int r]) ⟨hx, hb, hml, hown, hts⟩ (tX8_undo l D cI cZ cR N q1 d1 g0 r e' h2) (cwV 0 hts gL_law_X8_undo rfl rfl rfl hdwsV_X8_undo ⟨Nat.le_of_ble_eq_true rfl, Nat.le_of_ble_eq_true rfl⟩) hK hP hD hS hA [73, 74, 75, 76, 77, 78, 79, 80, 81, 82, 83, 84, 85, 86, 87, 88] (by decide) rfl rfl (ci := 8) rfl rfl rfl (fun _ => WX7X8 cI cZ cR q0 q1 d' e' g0) () rfl rfl hl.1 rfl (Nat.le_of_ble_eq_true rfl) dL_law_669 ⟨Nat.le_refl _, Nat.le_refl _⟩ (fun _ _ H locs hP hD hS => ?_)
  refine lv_icmp_eq (tgt := 714) hx hb dL_law_672 (by decide) (fun _ => ?_) (fun c9 => absurd rfl c9)
  exact kk d' e' g0 hI2 H locs ls hP hD hS hl
set_option maxHeartbeats 4000000 in
set_option maxRecDepth 100000 in
theorem law_c23 {p : Program} {l : Launch} {e : Env} {s : State} {m : MethodId} {args : Array Value} {below : List Frame} {meth : Method} {c : Code} {A : Nat → Prop} {H0 : Heap} {Q : State → Prop} {D : va_G} {cI cZ cR : ClassId} {b L : Nat} {xs : Nat → Int32} {N : Nat} {Inv : tm_M → tm_M → Int64 → Prop} (C : tm_Cx p s m c args cL_law 4 RL wsL_law D (tm_ty cI cZ cR) A H0) (hX : va_X b L xs s H0) (hbl : b < H0.size) (hbA : ¬ A b) (hL : L ≤ 1536) (hst : tm_S23 N Inv) (q0 q1 : Nat → Nat) (i : Nat) (hi : i + 3 ≤ L) (x3 : Int32) (ex3 : x3 = nI i) (d0 d1 : tm_M) (g0 : Int64) (hI : Inv d0 d1 g0) (kk : ∀ (d0 d1 : tm_M) (g0 : Int64), Inv d0 d1 g0 → ∀ (H : Heap) (locs : List Loc) (ls : Array Slot), va_P D vwCl (WX7X8 cI cZ cR q0 q1 d0 d1 g0) H → va_D A (WX7X8 cI cZ cR q0 q1 d0 d1 g0) → va_S A H0 H locs → lv_has ls 4 [(0, .ref b), (1, .ref (q0 0)), (2, .ref (q1 0)), (3, .int x3)] → W p l e room_1 s m args below meth c H locs 600000 7302250 Q (F0 m 714 ls [])) : ∀ (H : Heap) (locs : List Loc) (ls : Array Slot), va_P D vwCl (WX7X8 cI cZ cR q0 q1 d0 d1 g0) H → va_D A (WX7X8 cI cZ cR q0 q1 d0 d1 g0) → va_S A H0 H locs → lv_has ls 4 [(0, .ref b), (1, .ref (q0 0)), (2, .ref (q1 0)), (3, .int x3)] → W p l e room_1 s m args below meth c H locs 600000 7302250 Q (F0 m 677 ls []) := by
  obtain ⟨hx, hb, hml, hown, hts, hK, hA⟩ := id C
  intro H locs ls hP hD hS hl
  have i1 : vp_in (x3 + 1) L := by rw [ex3, nI_1]; exact vp_in_nI (by omega) (by omega)
  have i2 : vp_in (x3 + 2) L := by rw [ex3, show (2 : Int32) = nI 2 from rfl, nI_add]; exact vp_in_nI (by omega) (by omega)
  obtain ⟨r, d', e', h1, h2, hI2⟩ := hst d0 d1 g0 (xs (x3 + 1).toNatClampNeg) hI
  refine lv_aload_n hx hb dL_law_677 rfl (lv_at hl 1 rfl) ?_
  refine lv_aload_n hx hb dL_law_678 rfl (lv_at hl 0 rfl) ?_
  refine lv_iload_n hx hb dL_law_679 rfl (lv_at hl 3 rfl) ?_
  refine lv_iconst (v := 1) hx hb dL_law_680 (by decide) ?_
  refine lv_iadd hx hb dL_law_681 ?_
  refine va_sld hx hb hX hbl hbA hS i1 dL_law_682 ?_
  refine tm_cVI (As := [.int (xs (x3 + 1).toNatClampNeg)]) (rest := []) ⟨hx, hb, hml, hown, hts⟩ (tX7_errorCount l D cI cZ cR N q0 d0 (xs (x3 + 1).toNatClampNeg) r d' h1) (cwV 1 hts gL_law_X7_errorCount rfl rfl rfl hdwsV_X7_errorCount ⟨Nat.le_of_ble_eq_true rfl, Nat.le_of_ble_eq_true rfl⟩) hK hP hD hS hA [0, 1, 2, 3, 4, 5, 6, 7, 8, 9, 10, 11, 12, 13, 14, 15, 16, 17, 18, 19, 20, 21, 22, 23, 24, 25, 26, 27, 28, 29, 30, 31, 32, 33, 34, 35, 36, 37, 38, 39, 40, 41, 42, 43, 44, 45, 46, 47, 48, 49, 50, 51, 52, 53, 54, 55, 56, 57, 58, 59, 60, 61, 62, 63, 64, 65, 66, 67, 68, 69, 70, 71, 72] (by decide) rfl rfl (ci := 7) rfl rfl rfl (fun _ => WX7X8 cI cZ cR q0 q1 d' d1 g0) () rfl rfl hl.1 rfl (Nat.le_of_ble_eq_true rfl) dL_law_683 ⟨Nat.le_refl _, Nat.le_refl _⟩ (fun _ _ H locs hP hD hS => ?_)
  refine lv_aload_n hx hb dL_law_686 rfl (lv_at hl 2 rfl) ?_
  refine lv_aload_n hx hb dL_law_687 rfl (lv_at hl 0 rfl) ?_
  refine lv_iload_n hx hb dL_law_688 rfl (lv_at hl 3 rfl) ?_
  refine lv_iconst (v := 1) hx hb dL_law_689 (by decide) ?_
  refine lv_iadd hx hb dL_law_690 ?_
  refine va_sld hx hb hX hbl hbA hS i1 dL_law_691 ?_
  refine tm_cVI (As := [.int (xs (x3 + 1).toNatClampNeg)]) (rest := [.int r]) ⟨hx, hb, hml, hown, hts⟩ (tX8_errorCount l D cI cZ cR N q1 d1 g0 (xs (x3 + 1).toNatClampNeg) r e' h2) (cwV 1 hts gL_law_X8_errorCount rfl rfl rfl hdwsV_X8_errorCount ⟨Nat.le_of_ble_eq_true rfl, Nat.le_of_ble_eq_true rfl⟩) hK hP hD hS hA [73, 74, 75, 76, 77, 78, 79, 80, 81, 82, 83, 84, 85, 86, 87, 88] (by decide) rfl rfl (ci := 8) rfl rfl rfl (fun _ => WX7X8 cI cZ cR q0 q1 d' e' g0) () rfl rfl hl.1 rfl (Nat.le_of_ble_eq_true rfl) dL_law_692 ⟨Nat.le_refl _, Nat.le_refl _⟩ (fun _ _ H locs hP hD hS => ?_)
  refine lv_icmp_eq (tgt := 714) hx hb dL_law_695 (by decide) (fun _ => ?_) (fun c9 => absurd rfl c9)
  exact kk d' e' g0 hI2 H locs ls hP hD hS hl
set_option maxHeartbeats 4000000 in
set_option maxRecDepth 100000 in
theorem law_c24 {p : Program} {l : Launch} {e : Env} {s : State} {m : MethodId} {args : Array Value} {below : List Frame} {meth : Method} {c : Code} {A : Nat → Prop} {H0 : Heap} {Q : State → Prop} {D : va_G} {cI cZ cR : ClassId} {b L : Nat} {xs : Nat → Int32} {N : Nat} {Inv : tm_M → tm_M → Int64 → Prop} (C : tm_Cx p s m c args cL_law 4 RL wsL_law D (tm_ty cI cZ cR) A H0) (hX : va_X b L xs s H0) (hbl : b < H0.size) (hbA : ¬ A b) (hL : L ≤ 1536) (hst : tm_S24 N Inv) (q0 q1 : Nat → Nat) (i : Nat) (hi : i + 3 ≤ L) (x3 : Int32) (ex3 : x3 = nI i) (d0 d1 : tm_M) (g0 : Int64) (hI : Inv d0 d1 g0) (kk : ∀ (d0 d1 : tm_M) (g0 : Int64), Inv d0 d1 g0 → ∀ (H : Heap) (locs : List Loc) (ls : Array Slot), va_P D vwCl (WX7X8 cI cZ cR q0 q1 d0 d1 g0) H → va_D A (WX7X8 cI cZ cR q0 q1 d0 d1 g0) → va_S A H0 H locs → lv_has ls 4 [(0, .ref b), (1, .ref (q0 0)), (2, .ref (q1 0)), (3, .int x3)] → W p l e room_1 s m args below meth c H locs 600000 7302250 Q (F0 m 714 ls [])) : ∀ (H : Heap) (locs : List Loc) (ls : Array Slot), va_P D vwCl (WX7X8 cI cZ cR q0 q1 d0 d1 g0) H → va_D A (WX7X8 cI cZ cR q0 q1 d0 d1 g0) → va_S A H0 H locs → lv_has ls 4 [(0, .ref b), (1, .ref (q0 0)), (2, .ref (q1 0)), (3, .int x3)] → W p l e room_1 s m args below meth c H locs 600000 7302250 Q (F0 m 700 ls []) := by
  obtain ⟨hx, hb, hml, hown, hts, hK, hA⟩ := id C
  intro H locs ls hP hD hS hl
  have i1 : vp_in (x3 + 1) L := by rw [ex3, nI_1]; exact vp_in_nI (by omega) (by omega)
  have i2 : vp_in (x3 + 2) L := by rw [ex3, show (2 : Int32) = nI 2 from rfl, nI_add]; exact vp_in_nI (by omega) (by omega)
  obtain ⟨r, e', g', h1, h2, hI2⟩ := hst d0 d1 g0 hI
  refine lv_aload_n hx hb dL_law_700 rfl (lv_at hl 1 rfl) ?_
  refine tm_cVL (As := []) (rest := []) ⟨hx, hb, hml, hown, hts⟩ (tX7_digest l D cI cZ cR N q0 d0 r h1) (cwV 0 hts gL_law_X7_digest rfl rfl rfl hdwsV_X7_digest ⟨Nat.le_of_ble_eq_true rfl, Nat.le_of_ble_eq_true rfl⟩) hK hP hD hS hA [0, 1, 2, 3, 4, 5, 6, 7, 8, 9, 10, 11, 12, 13, 14, 15, 16, 17, 18, 19, 20, 21, 22, 23, 24, 25, 26, 27, 28, 29, 30, 31, 32, 33, 34, 35, 36, 37, 38, 39, 40, 41, 42, 43, 44, 45, 46, 47, 48, 49, 50, 51, 52, 53, 54, 55, 56, 57, 58, 59, 60, 61, 62, 63, 64, 65, 66, 67, 68, 69, 70, 71, 72] (by decide) rfl rfl (ci := 7) rfl rfl rfl (fun _ => WX7X8 cI cZ cR q0 q1 d0 d1 g0) () rfl rfl hl.1 rfl (Nat.le_of_ble_eq_true rfl) dL_law_701 ⟨Nat.le_refl _, Nat.le_refl _⟩ (fun _ _ H locs hP hD hS => ?_)
  refine lv_aload_n hx hb dL_law_704 rfl (lv_at hl 2 rfl) ?_
  refine tm_cVL (As := []) (rest := [.long r]) ⟨hx, hb, hml, hown, hts⟩ (tX8_digest l D cI cZ cR N q1 d1 g0 r e' g' h2) (cwV 0 hts gL_law_X8_digest rfl rfl rfl hdwsV_X8_digest ⟨Nat.le_of_ble_eq_true rfl, Nat.le_of_ble_eq_true rfl⟩) hK hP hD hS hA [73, 74, 75, 76, 77, 78, 79, 80, 81, 82, 83, 84, 85, 86, 87, 88] (by decide) rfl rfl (ci := 8) rfl rfl rfl (fun _ => WX7X8 cI cZ cR q0 q1 d0 e' g') () rfl rfl hl.1 rfl (Nat.le_of_ble_eq_true rfl) dL_law_705 ⟨Nat.le_refl _, Nat.le_refl _⟩ (fun _ _ H locs hP hD hS => ?_)
  refine W.lcmp hx hb dL_law_708 ?_
  rw [tm_lcmp_self]
  refine lv_if_eq (tgt := 714) hx hb dL_law_709 (by decide) (fun _ => ?_) (fun c9 => absurd rfl c9)
  exact kk d0 e' g' hI2 H locs ls hP hD hS hl
