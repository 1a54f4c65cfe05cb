set_option maxHeartbeats 4000000 in
set_option maxRecDepth 100000 in
theorem law_loop {p : Program} {l : Launch} {e : Env} {s : State} {m : MethodId} {args : Array Value} {below : List Frame} {meth : Method} {c : Code} {A : Nat → Prop} {H0 : Heap} {Q : State → Prop} {D : va_G} {cI cZ cR : ClassId} {b L : Nat} {xs : Nat → Int32} {N : Nat} {Inv : tm_M → tm_M → Int64 → Prop} (C : tm_Cx p s m c args cL_law 4 RL wsL_law D (tm_ty cI cZ cR) A H0) (hX : va_X b L xs s H0) (hbl : b < H0.size) (hbA : ¬ A b) (hL : L ≤ 1536) (hst : tm_Steps N Inv) (q0 q1 : Nat → Nat) (kx : ∀ (x3 : Int32) (d0 d1 : tm_M) (g0 : Int64), ∀ (H : Heap) (locs : List Loc) (ls : Array Slot), va_P D vwCl (WX7X8 cI cZ cR q0 q1 d0 d1 g0) H → va_D A (WX7X8 cI cZ cR q0 q1 d0 d1 g0) → va_S A H0 H locs → lv_has ls 4 [(0, .ref b), (1, .ref (q0 0)), (2, .ref (q1 0)), (3, .int x3)] → W p l e room_1 s m args below meth c H locs 600000 7302250 Q (F0 m 720 ls [])) : ∀ (n i : Nat) (x3 : Int32), i ≤ 1536 → 1536 < i + n → x3 = nI i → ∀ (d0 d1 : tm_M) (g0 : Int64), Inv d0 d1 g0 → ∀ (H : Heap) (locs : List Loc) (ls : Array Slot), va_P D vwCl (WX7X8 cI cZ cR q0 q1 d0 d1 g0) H → va_D A (WX7X8 cI cZ cR q0 q1 d0 d1 g0) → va_S A H0 H locs → lv_has ls 4 [(0, .ref b), (1, .ref (q0 0)), (2, .ref (q1 0)), (3, .int x3)] → W p l e room_1 s m args below meth c H locs 600000 7302250 Q (F0 m 18 ls []) := by
  obtain ⟨hx, hb, hml, hown, hts, hK, hA⟩ := id C
  obtain ⟨s0, s1, s2, s3, s4, s5, s6, s7, s8, s9, s10, s11, s12, s13, s14, s15, s16, s17, s18, s19, s20, s21, s22, s23, s24⟩ := hst
  intro n
  induction n with
  | zero => intro i x3 h1 h2; exact absurd h2 (by omega)
  | succ n ih =>
    intro i x3 hi0 hin ex3 d0 d1 g0 hI H locs ls hP hD hS hl
    have again : ∀ (d0 d1 : tm_M) (g0 : Int64), i + 3 ≤ L → Inv d0 d1 g0 → ∀ (H : Heap) (locs : List Loc) (ls : Array Slot), va_P D vwCl (WX7X8 cI cZ cR q0 q1 d0 d1 g0) H → va_D A (WX7X8 cI cZ cR q0 q1 d0 d1 g0) → va_S A H0 H locs → lv_has ls 4 [(0, .ref b), (1, .ref (q0 0)), (2, .ref (q1 0)), (3, .int x3)] → W p l e room_1 s m args below meth c H locs 600000 7302250 Q (F0 m 714 ls []) := by
      intro d0 d1 g0 hi hI H locs ls hP hD hS hl
      obtain ⟨y3, ey3⟩ : ∃ y : Int32, y = x3 + 3 := ⟨_, rfl⟩
      refine lv_iinc (v := y3) (lv' := [(3, .int y3), (0, .ref b), (1, .ref (q0 0)), (2, .ref (q1 0))]) hx hb dL_law_714 hl (k := 3) rfl (by rw [ey3]; rfl) (by decide) rfl (fun ls hl => ?_)
      refine lv_goto (tgt := 18) hx hb dL_law_717 (by decide) ?_
      exact ih (i + 3) y3 (by omega) (by omega) (by rw [ey3, ex3, show (3 : Int32) = nI 3 from rfl, nI_add]) d0 d1 g0 hI H locs ls hP hD hS (lv_sub hl [1, 2, 3, 0] rfl)
    refine lv_iload_n hx hb dL_law_18 rfl (lv_at hl 3 rfl) ?_
    refine lv_aload_n hx hb dL_law_19 rfl (lv_at hl 0 rfl) ?_
    refine va_slen hx hb hX hbl hbA hS dL_law_20 ?_
    refine lv_iconst (v := 3) hx hb dL_law_21 (by decide) ?_
    refine lv_isub hx hb dL_law_22 ?_
    refine lv_icmp_gt (tgt := 720) hx hb dL_law_23 (by decide) (fun c1 => kx x3 d0 d1 g0 H locs ls hP hD hS hl) (fun c1 => ?_)
    have hi : i + 3 ≤ L := tm_lw_lt hL hi0 (by rw [← ex3]; exact c1)
    refine lv_aload_n hx hb dL_law_26 rfl (lv_at hl 0 rfl) ?_
    refine lv_iload_n hx hb dL_law_27 rfl (lv_at hl 3 rfl) ?_
    refine va_sld hx hb hX hbl hbA hS (by rw [ex3]; exact vp_in_nI (by omega) (by omega)) dL_law_28 ?_
    refine lv_bipush (v := 31) hx hb dL_law_29 (by decide) ?_
    refine lv_iand hx hb dL_law_31 ?_
    refine lv_topi (fun x ex => ?_)
    by_cases c10 : x = 0
    · refine lv_tableIn (off := 116) (tgt := 148) hx hb dL_law_32 (by rw [c10]; decide) (by rw [c10]; decide) (by rw [c10] <;> rfl) (by decide) ?_
      exact law_c0 C hX hbl hbA hL s0 q0 q1 i hi x3 ex3 d0 d1 g0 hI (fun d0 d1 g0 hI => again d0 d1 g0 hi hI) H locs ls hP hD hS hl
    by_cases c11 : x = 1
    · refine lv_tableIn (off := 149) (tgt := 181) hx hb dL_law_32 (by rw [c11]; decide) (by rw [c11]; decide) (by rw [c11] <;> rfl) (by decide) ?_
      exact law_c1 C hX hbl hbA hL s1 q0 q1 i hi x3 ex3 d0 d1 g0 hI (fun d0 d1 g0 hI => again d0 d1 g0 hi hI) H locs ls hP hD hS hl
    by_cases c12 : x = 2
    · refine lv_tableIn (off := 182) (tgt := 214) hx hb dL_law_32 (by rw [c12]; decide) (by rw [c12]; decide) (by rw [c12] <;> rfl) (by decide) ?_
      exact law_c2 C hX hbl hbA hL s2 q0 q1 i hi x3 ex3 d0 d1 g0 hI (fun d0 d1 g0 hI => again d0 d1 g0 hi hI) H locs ls hP hD hS hl
    by_cases c13 : x = 3
    · refine lv_tableIn (off := 205) (tgt := 237) hx hb dL_law_32 (by rw [c13]; decide) (by rw [c13]; decide) (by rw [c13] <;> rfl) (by decide) ?_
      exact law_c3 C hX hbl hbA hL s3 q0 q1 i hi x3 ex3 d0 d1 g0 hI (fun d0 d1 g0 hI => again d0 d1 g0 hi hI) H locs ls hP hD hS hl
    by_cases c14 : x = 4
    · refine lv_tableIn (off := 238) (tgt := 270) hx hb dL_law_32 (by rw [c14]; decide) (by rw [c14]; decide) (by rw [c14] <;> rfl) (by decide) ?_
      exact law_c4 C hX hbl hbA hL s4 q0 q1 i hi x3 ex3 d0 d1 g0 hI (fun d0 d1 g0 hI => again d0 d1 g0 hi hI) H locs ls hP hD hS hl
    by_cases c15 : x = 5
    · refine lv_tableIn (off := 271) (tgt := 303) hx hb dL_law_32 (by rw [c15]; decide) (by rw [c15]; decide) (by rw [c15] <;> rfl) (by decide) ?_
      exact law_c5 C hX hbl hbA hL s5 q0 q1 i hi x3 ex3 d0 d1 g0 hI (fun d0 d1 g0 hI => again d0 d1 g0 hi hI) H locs ls hP hD hS hl
    by_cases c16 : x = 6
    · refine lv_tableIn (off := 294) (tgt := 326) hx hb dL_law_32 (by rw [c16]; decide) (by rw [c16]; decide) (by rw [c16] <;> rfl) (by decide) ?_
      exact law_c6 C hX hbl hbA hL s6 q0 q1 i hi x3 ex3 d0 d1 g0 hI (fun d0 d1 g0 hI => again d0 d1 g0 hi hI) H locs ls hP hD hS hl
    by_cases c17 : x = 7
    · refine lv_tableIn (off := 317) (tgt := 349) hx hb dL_law_32 (by rw [c17]; decide) (by rw [c17]; decide) (by rw [c17] <;> rfl) (by decide) ?_
      exact law_c7 C hX hbl hbA hL s7 q0 q1 i hi x3 ex3 d0 d1 g0 hI (fun d0 d1 g0 hI => again d0 d1 g0 hi hI) H locs ls hP hD hS hl
    by_cases c18 : x = 8
    · refine lv_tableIn (off := 330) (tgt := 362) hx hb dL_law_32 (by rw [c18]; decide) (by rw [c18]; decide) (by rw [c18] <;> rfl) (by decide) ?_
      exact law_c8 C hX hbl hbA hL s8 q0 q1 i hi x3 ex3 d0 d1 g0 hI (fun d0 d1 g0 hI => again d0 d1 g0 hi hI) H locs ls hP hD hS hl
    by_cases c19 : x = 9
    · refine lv_tableIn (off := 353) (tgt := 385) hx hb dL_law_32 (by rw [c19]; decide) (by rw [c19]; decide) (by rw [c19] <;> rfl) (by decide) ?_
      exact law_c9 C hX hbl hbA hL s9 q0 q1 i hi x3 ex3 d0 d1 g0 hI (fun d0 d1 g0 hI => again d0 d1 g0 hi hI) H locs ls hP hD hS hl
    by_cases c20 : x = 10
    · refine lv_tableIn (off := 376) (tgt := 408) hx hb dL_law_32 (by rw [c20]; decide) (by rw [c20]; decide) (by rw [c20] <;> rfl) (by decide) ?_
      exact law_c10 C hX hbl hbA hL s10 q0 q1 i hi x3 ex3 d0 d1 g0 hI (fun d0 d1 g0 hI => again d0 d1 g0 hi hI) H locs ls hP hD hS hl
    by_cases c21 : x = 11
    · refine lv_tableIn (off := 399) (tgt := 431) hx hb dL_law_32 (by rw [c21]; decide) (by rw [c21]; decide) (by rw [c21] <;> rfl) (by decide) ?_
      exact law_c11 C hX hbl hbA hL s11 q0 q1 i hi x3 ex3 d0 d1 g0 hI (fun d0 d1 g0 hI => again d0 d1 g0 hi hI) H locs ls hP hD hS hl
    by_cases c22 : x = 12
    · refine lv_tableIn (off := 412) (tgt := 444) hx hb dL_law_32 (by rw [c22]; decide) (by rw [c22]; decide) (by rw [c22] <;> rfl) (by decide) ?_
      exact law_c12 C hX hbl hbA hL s12 q0 q1 i hi x3 ex3 d0 d1 g0 hI (fun d0 d1 g0 hI => again d0 d1 g0 hi hI) H locs ls hP hD hS hl
    by_cases c23 : x = 13
    · refine lv_tableIn (off := 435) (tgt := 467) hx hb dL_law_32 (by rw [c23]; decide) (by rw [c23]; decide) (by rw [c23] <;> rfl) (by decide) ?_
      exact law_c13 C hX hbl hbA hL s13 q0 q1 i hi x3 ex3 d0 d1 g0 hI (fun d0 d1 g0 hI => again d0 d1 g0 hi hI) H locs ls hP hD hS hl
    by_cases c24 : x = 14
    · refine lv_tableIn (off := 458) (tgt := 490) hx hb dL_law_32 (by rw [c24]; decide) (by rw [c24]; decide) (by rw [c24] <;> rfl) (by decide) ?_
      exact law_c14 C hX hbl hbA hL s14 q0 q1 i hi x3 ex3 d0 d1 g0 hI (fun d0 d1 g0 hI => again d0 d1 g0 hi hI) H locs ls hP hD hS hl
    by_cases c25 : x = 15
    · refine lv_tableIn (off := 481) (tgt := 513) hx hb dL_law_32 (by rw [c25]; decide) (by rw [c25]; decide) (by rw [c25] <;> rfl) (by decide) ?_
      exact law_c15 C hX hbl hbA hL s15 q0 q1 i hi x3 ex3 d0 d1 g0 hI (fun d0 d1 g0 hI => again d0 d1 g0 hi hI) H locs ls hP hD hS hl
    by_cases c26 : x = 16
    · refine lv_tableIn (off := 504) (tgt := 536) hx hb dL_law_32 (by rw [c26]; decide) (by rw [c26]; decide) (by rw [c26] <;> rfl) (by decide) ?_
      exact law_c16 C hX hbl hbA hL s16 q0 q1 i hi x3 ex3 d0 d1 g0 hI (fun d0 d1 g0 hI => again d0 d1 g0 hi hI) H locs ls hP hD hS hl
    by_cases c27 : x = 17
    · refine lv_tableIn (off := 527) (tgt := 559) hx hb dL_law_32 (by rw [c27]; decide) (by rw [c27]; decide) (by rw [c27] <;> rfl) (by decide) ?_
      exact law_c17 C hX hbl hbA hL s17 q0 q1 i hi x3 ex3 d0 d1 g0 hI (fun d0 d1 g0 hI => again d0 d1 g0 hi hI) H locs ls hP hD hS hl
    by_cases c28 : x = 18
    · refine lv_tableIn (off := 560) (tgt := 592) hx hb dL_law_32 (by rw [c28]; decide) (by rw [c28]; decide) (by rw [c28] <;> rfl) (by decide) ?_
      exact law_c18 C hX hbl hbA hL s18 q0 q1 i hi x3 ex3 d0 d1 g0 hI (fun d0 d1 g0 hI => again d0 d1 g0 hi hI) H locs ls hP hD hS hl
    by_cases c29 : x = 19
    · refine lv_tableIn (off := 573) (tgt := 605) hx hb dL_law_32 (by rw [c29]; decide) (by rw [c29]; decide) (by rw [c29] <;> rfl) (by decide) ?_
      exact law_c19 C hX hbl hbA hL s19 q0 q1 i hi x3 ex3 d0 d1 g0 hI (fun d0 d1 g0 hI => again d0 d1 g0 hi hI) H locs ls hP hD hS hl
    by_cases c30 : x = 20
    · refine lv_tableIn (off := 586) (tgt := 618) hx hb dL_law_32 (by rw [c30]; decide) (by rw [c30]; decide) (by rw [c30] <;> rfl) (by decide) ?_
      exact law_c20 C hX hbl hbA hL s20 q0 q1 i hi x3 ex3 d0 d1 g0 hI (fun d0 d1 g0 hI => again d0 d1 g0 hi hI) H locs ls hP hD hS hl
    by_cases c31 : x = 21
    · refine lv_tableIn (off := 599) (tgt := 631) hx hb dL_law_32 (by rw [c31]; decide) (by rw [c31]; decide) (by rw [c31] <;> rfl) (by decide) ?_
      exact law_c21 C hX hbl hbA hL s21 q0 q1 i hi x3 ex3 d0 d1 g0 hI (fun d0 d1 g0 hI => again d0 d1 g0 hi hI) H locs ls hP hD hS hl
    by_cases c32 : x = 22
    · refine lv_tableIn (off := 632) (tgt := 664) hx hb dL_law_32 (by rw [c32]; decide) (by rw [c32]; decide) (by rw [c32] <;> rfl) (by decide) ?_
      exact law_c22 C hX hbl hbA hL s22 q0 q1 i hi x3 ex3 d0 d1 g0 hI (fun d0 d1 g0 hI => again d0 d1 g0 hi hI) H locs ls hP hD hS hl
    by_cases c33 : x = 23
    · refine lv_tableIn (off := 645) (tgt := 677) hx hb dL_law_32 (by rw [c33]; decide) (by rw [c33]; decide) (by rw [c33] <;> rfl) (by decide) ?_
      exact law_c23 C hX hbl hbA hL s23 q0 q1 i hi x3 ex3 d0 d1 g0 hI (fun d0 d1 g0 hI => again d0 d1 g0 hi hI) H locs ls hP hD hS hl
    by_cases c34 : x = 24
    · refine lv_tableIn (off := 668) (tgt := 700) hx hb dL_law_32 (by rw [c34]; decide) (by rw [c34]; decide) (by rw [c34] <;> rfl) (by decide) ?_
      exact law_c24 C hX hbl hbA hL s24 q0 q1 i hi x3 ex3 d0 d1 g0 hI (fun d0 d1 g0 hI => again d0 d1 g0 hi hI) H locs ls hP hD hS hl
    refine lv_tableOut (tgt := 714) hx hb dL_law_32 (tm_tab25 c10 c11 c12 c13 c14 c15 c16 c17 c18 c19 c20 c21 c22 c23 c24 c25 c26 c27 c28 c29 c30 c31 c32 c33 c34) (by decide) ?_
    exact again d0 d1 g0 hi hI H locs ls hP hD hS hl
