abbrev WX0 (cI cZ cR : ClassId) (q0 : Nat → Nat) (d0 : tm_M) : va_W := [(q0 0, .inr (0, [.int (d0 0 0), .int (d0 0 1), .int (d0 0 2), .int (d0 0 3)]))]
abbrev WX1 (cI cZ cR : ClassId) (q0 : Nat → Nat) (d0 : tm_M) : va_W := [(q0 0, .inr (1, [.ref (q0 1), .ref (q0 2), .ref (q0 3), .ref (q0 4), .ref (q0 9), .ref (q0 10), .ref (q0 11), .ref (q0 12)])), (q0 1, .inl (cI, 24, .inl (d0 1))), (q0 2, .inl (cI, 24, .inl (d0 2))), (q0 3, .inl (cZ, 24, .inl (d0 3))), (q0 4, .inr (3, [.ref (q0 5), .ref (q0 6), .ref (q0 7), .ref (q0 8)])), (q0 5, .inl (cI, 24, .inl (d0 5))), (q0 6, .inl (cI, 24, .inl (d0 6))), (q0 7, .inl (cI, 24, .inl (d0 7))), (q0 8, .inl (cI, 24, .inl (d0 8))), (q0 9, .inl (cI, 24, .inl (d0 9))), (q0 10, .inl (cI, 24, .inl (d0 10))), (q0 11, .inl (cI, 24, .inl (d0 11))), (q0 12, .inr (2, [.ref (q0 13), .ref (q0 14), .int (d0 12 2), .ref (q0 15), .ref (q0 16), .ref (q0 17), .ref (q0 21), .ref (q0 25)])), (q0 13, .inl (cI, 24, .inl (d0 13))), (q0 14, .inl (cI, 24, .inl (d0 14))), (q0 15, .inr (0, [.int (d0 15 0), .int (d0 15 1), .int (d0 15 2), .int (d0 15 3)])), (q0 16, .inr (0, [.int (d0 16 0), .int (d0 16 1), .int (d0 16 2), .int (d0 16 3)])), (q0 17, .inr (4, [.ref (q0 18), .ref (q0 19), .ref (q0 20), .int (d0 17 3)])), (q0 18, .inl (cI, 24, .inl (d0 18))), (q0 19, .inl (cI, 24, .inl (d0 19))), (q0 20, .inl (cI, 24, .inl (d0 20))), (q0 21, .inr (4, [.ref (q0 22), .ref (q0 23), .ref (q0 24), .int (d0 21 3)])), (q0 22, .inl (cI, 24, .inl (d0 22))), (q0 23, .inl (cI, 24, .inl (d0 23))), (q0 24, .inl (cI, 24, .inl (d0 24))), (q0 25, .inl (cI, 24, .inl (d0 25)))]
abbrev WX3 (cI cZ cR : ClassId) (q0 : Nat → Nat) (d0 : tm_M) : va_W := [(q0 0, .inr (3, [.ref (q0 1), .ref (q0 2), .ref (q0 3), .ref (q0 4)])), (q0 1, .inl (cI, 24, .inl (d0 1))), (q0 2, .inl (cI, 24, .inl (d0 2))), (q0 3, .inl (cI, 24, .inl (d0 3))), (q0 4, .inl (cI, 24, .inl (d0 4)))]
abbrev WX1X5 (cI cZ cR : ClassId) (q0 : Nat → Nat) (q1 : Nat → Nat) (d0 : tm_M) (d1 : tm_M) : va_W := [(q0 0, .inr (1, [.ref (q0 1), .ref (q0 2), .ref (q0 3), .ref (q0 4), .ref (q0 9), .ref (q0 10), .ref (q0 11), .ref (q0 12)])), (q0 1, .inl (cI, 24, .inl (d0 1))), (q0 2, .inl (cI, 24, .inl (d0 2))), (q0 3, .inl (cZ, 24, .inl (d0 3))), (q0 4, .inr (3, [.ref (q0 5), .ref (q0 6), .ref (q0 7), .ref (q0 8)])), (q0 5, .inl (cI, 24, .inl (d0 5))), (q0 6, .inl (cI, 24, .inl (d0 6))), (q0 7, .inl (cI, 24, .inl (d0 7))), (q0 8, .inl (cI, 24, .inl (d0 8))), (q0 9, .inl (cI, 24, .inl (d0 9))), (q0 10, .inl (cI, 24, .inl (d0 10))), (q0 11, .inl (cI, 24, .inl (d0 11))), (q0 12, .inr (2, [.ref (q0 13), .ref (q0 14), .int (d0 12 2), .ref (q0 15), .ref (q0 16), .ref (q0 17), .ref (q0 21), .ref (q0 25)])), (q0 13, .inl (cI, 24, .inl (d0 13))), (q0 14, .inl (cI, 24, .inl (d0 14))), (q0 15, .inr (0, [.int (d0 15 0), .int (d0 15 1), .int (d0 15 2), .int (d0 15 3)])), (q0 16, .inr (0, [.int (d0 16 0), .int (d0 16 1), .int (d0 16 2), .int (d0 16 3)])), (q0 17, .inr (4, [.ref (q0 18), .ref (q0 19), .ref (q0 20), .int (d0 17 3)])), (q0 18, .inl (cI, 24, .inl (d0 18))), (q0 19, .inl (cI, 24, .inl (d0 19))), (q0 20, .inl (cI, 24, .inl (d0 20))), (q0 21, .inr (4, [.ref (q0 22), .ref (q0 23), .ref (q0 24), .int (d0 21 3)])), (q0 22, .inl (cI, 24, .inl (d0 22))), (q0 23, .inl (cI, 24, .inl (d0 23))), (q0 24, .inl (cI, 24, .inl (d0 24))), (q0 25, .inl (cI, 24, .inl (d0 25))), (q1 0, .inr (5, [.ref (q1 1), .ref (q1 2), .int (d1 0 2), .int (d1 0 3), .int (d1 0 4), .int (d1 0 5), .int (d1 0 6)])), (q1 1, .inl (cI, 24, .inl (d1 1))), (q1 2, .inl (cI, 24, .inl (d1 2)))]
abbrev WX2 (cI cZ cR : ClassId) (q0 : Nat → Nat) (d0 : tm_M) : va_W := [(q0 0, .inr (2, [.ref (q0 1), .ref (q0 2), .int (d0 0 2), .ref (q0 3), .ref (q0 4), .ref (q0 5), .ref (q0 9), .ref (q0 13)])), (q0 1, .inl (cI, 24, .inl (d0 1))), (q0 2, .inl (cI, 24, .inl (d0 2))), (q0 3, .inr (0, [.int (d0 3 0), .int (d0 3 1), .int (d0 3 2), .int (d0 3 3)])), (q0 4, .inr (0, [.int (d0 4 0), .int (d0 4 1), .int (d0 4 2), .int (d0 4 3)])), (q0 5, .inr (4, [.ref (q0 6), .ref (q0 7), .ref (q0 8), .int (d0 5 3)])), (q0 6, .inl (cI, 24, .inl (d0 6))), (q0 7, .inl (cI, 24, .inl (d0 7))), (q0 8, .inl (cI, 24, .inl (d0 8))), (q0 9, .inr (4, [.ref (q0 10), .ref (q0 11), .ref (q0 12), .int (d0 9 3)])), (q0 10, .inl (cI, 24, .inl (d0 10))), (q0 11, .inl (cI, 24, .inl (d0 11))), (q0 12, .inl (cI, 24, .inl (d0 12))), (q0 13, .inl (cI, 24, .inl (d0 13)))]
abbrev WX2X3 (cI cZ cR : ClassId) (q0 : Nat → Nat) (q1 : Nat → Nat) (d0 : tm_M) (d1 : tm_M) : va_W := [(q0 0, .inr (2, [.ref (q0 1), .ref (q0 2), .int (d0 0 2), .ref (q0 3), .ref (q0 4), .ref (q0 5), .ref (q0 9), .ref (q0 13)])), (q0 1, .inl (cI, 24, .inl (d0 1))), (q0 2, .inl (cI, 24, .inl (d0 2))), (q0 3, .inr (0, [.int (d0 3 0), .int (d0 3 1), .int (d0 3 2), .int (d0 3 3)])), (q0 4, .inr (0, [.int (d0 4 0), .int (d0 4 1), .int (d0 4 2), .int (d0 4 3)])), (q0 5, .inr (4, [.ref (q0 6), .ref (q0 7), .ref (q0 8), .int (d0 5 3)])), (q0 6, .inl (cI, 24, .inl (d0 6))), (q0 7, .inl (cI, 24, .inl (d0 7))), (q0 8, .inl (cI, 24, .inl (d0 8))), (q0 9, .inr (4, [.ref (q0 10), .ref (q0 11), .ref (q0 12), .int (d0 9 3)])), (q0 10, .inl (cI, 24, .inl (d0 10))), (q0 11, .inl (cI, 24, .inl (d0 11))), (q0 12, .inl (cI, 24, .inl (d0 12))), (q0 13, .inl (cI, 24, .inl (d0 13))), (q1 0, .inr (3, [.ref (q1 1), .ref (q1 2), .ref (q1 3), .ref (q1 4)])), (q1 1, .inl (cI, 24, .inl (d1 1))), (q1 2, .inl (cI, 24, .inl (d1 2))), (q1 3, .inl (cI, 24, .inl (d1 3))), (q1 4, .inl (cI, 24, .inl (d1 4)))]
abbrev WX4 (cI cZ cR : ClassId) (q0 : Nat → Nat) (d0 : tm_M) : va_W := [(q0 0, .inr (4, [.ref (q0 1), .ref (q0 2), .ref (q0 3), .int (d0 0 3)])), (q0 1, .inl (cI, 24, .inl (d0 1))), (q0 2, .inl (cI, 24, .inl (d0 2))), (q0 3, .inl (cI, 24, .inl (d0 3)))]
abbrev WX3X3 (cI cZ cR : ClassId) (q0 : Nat → Nat) (q1 : Nat → Nat) (d0 : tm_M) (d1 : tm_M) : va_W := [(q0 0, .inr (3, [.ref (q0 1), .ref (q0 2), .ref (q0 3), .ref (q0 4)])), (q0 1, .inl (cI, 24, .inl (d0 1))), (q0 2, .inl (cI, 24, .inl (d0 2))), (q0 3, .inl (cI, 24, .inl (d0 3))), (q0 4, .inl (cI, 24, .inl (d0 4))), (q1 0, .inr (3, [.ref (q1 1), .ref (q1 2), .ref (q1 3), .ref (q1 4)])), (q1 1, .inl (cI, 24, .inl (d1 1))), (q1 2, .inl (cI, 24, .inl (d1 2))), (q1 3, .inl (cI, 24, .inl (d1 3))), (q1 4, .inl (cI, 24, .inl (d1 4)))]
abbrev WX5X5 (cI cZ cR : ClassId) (q0 : Nat → Nat) (q1 : Nat → Nat) (d0 : tm_M) (d1 : tm_M) : va_W := [(q0 0, .inr (5, [.ref (q0 1), .ref (q0 2), .int (d0 0 2), .int (d0 0 3), .int (d0 0 4), .int (d0 0 5), .int (d0 0 6)])), (q0 1, .inl (cI, 24, .inl (d0 1))), (q0 2, .inl (cI, 24, .inl (d0 2))), (q1 0, .inr (5, [.ref (q1 1), .ref (q1 2), .int (d1 0 2), .int (d1 0 3), .int (d1 0 4), .int (d1 0 5), .int (d1 0 6)])), (q1 1, .inl (cI, 24, .inl (d1 1))), (q1 2, .inl (cI, 24, .inl (d1 2)))]
abbrev WX5 (cI cZ cR : ClassId) (q0 : Nat → Nat) (d0 : tm_M) : va_W := [(q0 0, .inr (5, [.ref (q0 1), .ref (q0 2), .int (d0 0 2), .int (d0 0 3), .int (d0 0 4), .int (d0 0 5), .int (d0 0 6)])), (q0 1, .inl (cI, 24, .inl (d0 1))), (q0 2, .inl (cI, 24, .inl (d0 2)))]
abbrev WX6X5 (cI cZ cR : ClassId) (q0 : Nat → Nat) (q1 : Nat → Nat) (d0 : tm_M) (d1 : tm_M) : va_W := [(q0 0, .inr (6, [.ref (q0 1), .int (d0 0 1), .int (d0 0 2)])), (q0 1, .inl (cR, 4, .inr (.inr (.inr (.inr (tm_sl q0)))))), (q0 2, .inr (5, [.ref (q0 3), .ref (q0 4), .int (d0 2 2), .int (d0 2 3), .int (d0 2 4), .int (d0 2 5), .int (d0 2 6)])), (q0 3, .inl (cI, 24, .inl (d0 3))), (q0 4, .inl (cI, 24, .inl (d0 4))), (q0 5, .inr (5, [.ref (q0 6), .ref (q0 7), .int (d0 5 2), .int (d0 5 3), .int (d0 5 4), .int (d0 5 5), .int (d0 5 6)])), (q0 6, .inl (cI, 24, .inl (d0 6))), (q0 7, .inl (cI, 24, .inl (d0 7))), (q0 8, .inr (5, [.ref (q0 9), .ref (q0 10), .int (d0 8 2), .int (d0 8 3), .int (d0 8 4), .int (d0 8 5), .int (d0 8 6)])), (q0 9, .inl (cI, 24, .inl (d0 9))), (q0 10, .inl (cI, 24, .inl (d0 10))), (q0 11, .inr (5, [.ref (q0 12), .ref (q0 13), .int (d0 11 2), .int (d0 11 3), .int (d0 11 4), .int (d0 11 5), .int (d0 11 6)])), (q0 12, .inl (cI, 24, .inl (d0 12))), (q0 13, .inl (cI, 24, .inl (d0 13))), (q1 0, .inr (5, [.ref (q1 1), .ref (q1 2), .int (d1 0 2), .int (d1 0 3), .int (d1 0 4), .int (d1 0 5), .int (d1 0 6)])), (q1 1, .inl (cI, 24, .inl (d1 1))), (q1 2, .inl (cI, 24, .inl (d1 2)))]
abbrev WX7 (cI cZ cR : ClassId) (q0 : Nat → Nat) (d0 : tm_M) : va_W := [(q0 0, .inr (7, [.ref (q0 1), .ref (q0 4), .ref (q0 30), .ref (q0 44), .ref (q0 47), .int (d0 0 5), .int (d0 0 6), .int (d0 0 7)])), (q0 1, .inr (5, [.ref (q0 2), .ref (q0 3), .int (d0 1 2), .int (d0 1 3), .int (d0 1 4), .int (d0 1 5), .int (d0 1 6)])), (q0 2, .inl (cI, 24, .inl (d0 2))), (q0 3, .inl (cI, 24, .inl (d0 3))), (q0 4, .inr (1, [.ref (q0 5), .ref (q0 6), .ref (q0 7), .ref (q0 8), .ref (q0 13), .ref (q0 14), .ref (q0 15), .ref (q0 16)])), (q0 5, .inl (cI, 24, .inl (d0 5))), (q0 6, .inl (cI, 24, .inl (d0 6))), (q0 7, .inl (cZ, 24, .inl (d0 7))), (q0 8, .inr (3, [.ref (q0 9), .ref (q0 10), .ref (q0 11), .ref (q0 12)])), (q0 9, .inl (cI, 24, .inl (d0 9))), (q0 10, .inl (cI, 24, .inl (d0 10))), (q0 11, .inl (cI, 24, .inl (d0 11))), (q0 12, .inl (cI, 24, .inl (d0 12))), (q0 13, .inl (cI, 24, .inl (d0 13))), (q0 14, .inl (cI, 24, .inl (d0 14))), (q0 15, .inl (cI, 24, .inl (d0 15))), (q0 16, .inr (2, [.ref (q0 17), .ref (q0 18), .int (d0 16 2), .ref (q0 19), .ref (q0 20), .ref (q0 21), .ref (q0 25), .ref (q0 29)])), (q0 17, .inl (cI, 24, .inl (d0 17))), (q0 18, .inl (cI, 24, .inl (d0 18))), (q0 19, .inr (0, [.int (d0 19 0), .int (d0 19 1), .int (d0 19 2), .int (d0 19 3)])), (q0 20, .inr (0, [.int (d0 20 0), .int (d0 20 1), .int (d0 20 2), .int (d0 20 3)])), (q0 21, .inr (4, [.ref (q0 22), .ref (q0 23), .ref (q0 24), .int (d0 21 3)])), (q0 22, .inl (cI, 24, .inl (d0 22))), (q0 23, .inl (cI, 24, .inl (d0 23))), (q0 24, .inl (cI, 24, .inl (d0 24))), (q0 25, .inr (4, [.ref (q0 26), .ref (q0 27), .ref (q0 28), .int (d0 25 3)])), (q0 26, .inl (cI, 24, .inl (d0 26))), (q0 27, .inl (cI, 24, .inl (d0 27))), (q0 28, .inl (cI, 24, .inl (d0 28))), (q0 29, .inl (cI, 24, .inl (d0 29))), (q0 30, .inr (6, [.ref (q0 31), .int (d0 30 1), .int (d0 30 2)])), (q0 31, .inl (cR, 4, .inr (.inr (.inr (.inr (tm_sl (tm_sq q0 30))))))), (q0 32, .inr (5, [.ref (q0 33), .ref (q0 34), .int (d0 32 2), .int (d0 32 3), .int (d0 32 4), .int (d0 32 5), .int (d0 32 6)])), (q0 33, .inl (cI, 24, .inl (d0 33))), (q0 34, .inl (cI, 24, .inl (d0 34))), (q0 35, .inr (5, [.ref (q0 36), .ref (q0 37), .int (d0 35 2), .int (d0 35 3), .int (d0 35 4), .int (d0 35 5), .int (d0 35 6)])), (q0 36, .inl (cI, 24, .inl (d0 36))), (q0 37, .inl (cI, 24, .inl (d0 37))), (q0 38, .inr (5, [.ref (q0 39), .ref (q0 40), .int (d0 38 2), .int (d0 38 3), .int (d0 38 4), .int (d0 38 5), .int (d0 38 6)])), (q0 39, .inl (cI, 24, .inl (d0 39))), (q0 40, .inl (cI, 24, .inl (d0 40))), (q0 41, .inr (5, [.ref (q0 42), .ref (q0 43), .int (d0 41 2), .int (d0 41 3), .int (d0 41 4), .int (d0 41 5), .int (d0 41 6)])), (q0 42, .inl (cI, 24, .inl (d0 42))), (q0 43, .inl (cI, 24, .inl (d0 43))), (q0 44, .inr (5, [.ref (q0 45), .ref (q0 46), .int (d0 44 2), .int (d0 44 3), .int (d0 44 4), .int (d0 44 5), .int (d0 44 6)])), (q0 45, .inl (cI, 24, .inl (d0 45))), (q0 46, .inl (cI, 24, .inl (d0 46))), (q0 47, .inr (1, [.ref (q0 48), .ref (q0 49), .ref (q0 50), .ref (q0 51), .ref (q0 56), .ref (q0 57), .ref (q0 58), .ref (q0 59)])), (q0 48, .inl (cI, 24, .inl (d0 48))), (q0 49, .inl (cI, 24, .inl (d0 49))), (q0 50, .inl (cZ, 24, .inl (d0 50))), (q0 51, .inr (3, [.ref (q0 52), .ref (q0 53), .ref (q0 54), .ref (q0 55)])), (q0 52, .inl (cI, 24, .inl (d0 52))), (q0 53, .inl (cI, 24, .inl (d0 53))), (q0 54, .inl (cI, 24, .inl (d0 54))), (q0 55, .inl (cI, 24, .inl (d0 55))), (q0 56, .inl (cI, 24, .inl (d0 56))), (q0 57, .inl (cI, 24, .inl (d0 57))), (q0 58, .inl (cI, 24, .inl (d0 58))), (q0 59, .inr (2, [.ref (q0 60), .ref (q0 61), .int (d0 59 2), .ref (q0 62), .ref (q0 63), .ref (q0 64), .ref (q0 68), .ref (q0 72)])), (q0 60, .inl (cI, 24, .inl (d0 60))), (q0 61, .inl (cI, 24, .inl (d0 61))), (q0 62, .inr (0, [.int (d0 62 0), .int (d0 62 1), .int (d0 62 2), .int (d0 62 3)])), (q0 63, .inr (0, [.int (d0 63 0), .int (d0 63 1), .int (d0 63 2), .int (d0 63 3)])), (q0 64, .inr (4, [.ref (q0 65), .ref (q0 66), .ref (q0 67), .int (d0 64 3)])), (q0 65, .inl (cI, 24, .inl (d0 65))), (q0 66, .inl (cI, 24, .inl (d0 66))), (q0 67, .inl (cI, 24, .inl (d0 67))), (q0 68, .inr (4, [.ref (q0 69), .ref (q0 70), .ref (q0 71), .int (d0 68 3)])), (q0 69, .inl (cI, 24, .inl (d0 69))), (q0 70, .inl (cI, 24, .inl (d0 70))), (q0 71, .inl (cI, 24, .inl (d0 71))), (q0 72, .inl (cI, 24, .inl (d0 72)))]
abbrev WX8 (cI cZ cR : ClassId) (q0 : Nat → Nat) (d0 : tm_M) (g0 : Int64) : va_W := [(q0 0, .inr (8, [.ref (q0 1), .ref (q0 2), .int (d0 0 2), .ref (q0 3), .ref (q0 4), .ref (q0 5), .ref (q0 6), .ref (q0 7), .ref (q0 8), .ref (q0 9), .ref (q0 10), .ref (q0 11), .ref (q0 12), .int (d0 0 13), .ref (q0 13), .ref (q0 14), .ref (q0 15), .long g0])), (q0 1, .inl (cI, 53, .inl (d0 1))), (q0 2, .inl (cI, 212, .inl (d0 2))), (q0 3, .inl (cI, 3, .inl (d0 3))), (q0 4, .inl (cI, 24, .inl (d0 4))), (q0 5, .inl (cI, 24, .inl (d0 5))), (q0 6, .inl (cI, 24, .inl (d0 6))), (q0 7, .inl (cI, 24, .inl (d0 7))), (q0 8, .inl (cI, 24, .inl (d0 8))), (q0 9, .inl (cI, 24, .inl (d0 9))), (q0 10, .inl (cZ, 24, .inl (d0 10))), (q0 11, .inl (cI, 24, .inl (d0 11))), (q0 12, .inl (cI, 24, .inl (d0 12))), (q0 13, .inl (cI, 25, .inl (d0 13))), (q0 14, .inl (cI, 24, .inl (d0 14))), (q0 15, .inl (cI, 96, .inl (d0 15)))]
abbrev rmX0_set : Room := { frames := 0, cells := 0, slots := 0, locals := 0 }
abbrev rmX0_isEmpty : Room := { frames := 0, cells := 0, slots := 0, locals := 0 }
abbrev rmX1_isLeaf : Room := { frames := 0, cells := 0, slots := 0, locals := 0 }
abbrev rmX3_area : Room := { frames := 0, cells := 0, slots := 0, locals := 0 }
abbrev rmX1_isLeafWithArea : Room := { frames := 1, cells := 0, slots := 0, locals := 21 }
abbrev rmX1_orderNodes : Room := { frames := 0, cells := 0, slots := 0, locals := 0 }
abbrev rmX1_sumSizes : Room := { frames := 1, cells := 0, slots := 0, locals := 21 }
abbrev rmX3_put : Room := { frames := 0, cells := 0, slots := 0, locals := 0 }
abbrev rmX2_open : Room := { frames := 1, cells := 0, slots := 0, locals := 24 }
abbrev rmX2_hasNoRoom : Room := { frames := 1, cells := 0, slots := 0, locals := 20 }
abbrev rmX2_add : Room := { frames := 0, cells := 0, slots := 0, locals := 0 }
abbrev rmX4_clear : Room := { frames := 0, cells := 0, slots := 0, locals := 0 }
abbrev rmX4_add : Room := { frames := 0, cells := 0, slots := 0, locals := 0 }
abbrev rmX4_largestRemainder : Room := { frames := 0, cells := 0, slots := 0, locals := 0 }
abbrev rmX4_apportion : Room := { frames := 1, cells := 0, slots := 0, locals := 22 }
abbrev rmX2_fillBand : Room := { frames := 2, cells := 0, slots := 0, locals := 47 }
abbrev rmX2_slice : Room := { frames := 3, cells := 0, slots := 0, locals := 74 }
abbrev rmX2_sumOfSizes : Room := { frames := 0, cells := 0, slots := 0, locals := 0 }
abbrev rmX2_pixelsPerSize : Room := { frames := 1, cells := 0, slots := 0, locals := 24 }
abbrev rmX2_thicknessOf : Room := { frames := 0, cells := 0, slots := 0, locals := 0 }
abbrev rmX2_ratio : Room := { frames := 0, cells := 0, slots := 0, locals := 0 }
abbrev rmX2_averageRatio : Room := { frames := 1, cells := 0, slots := 0, locals := 25 }
abbrev rmX2_splitIntoStrips : Room := { frames := 2, cells := 0, slots := 0, locals := 51 }
abbrev rmX2_strip : Room := { frames := 3, cells := 0, slots := 0, locals := 75 }
abbrev rmX2_sortByFallingSize : Room := { frames := 0, cells := 0, slots := 0, locals := 0 }
abbrev rmX2_worstRatio : Room := { frames := 1, cells := 0, slots := 0, locals := 25 }
abbrev rmX2_endOfRow : Room := { frames := 2, cells := 0, slots := 0, locals := 53 }
abbrev rmX2_rowThickness : Room := { frames := 1, cells := 0, slots := 0, locals := 24 }
abbrev rmX2_cutBand : Room := { frames := 2, cells := 0, slots := 0, locals := 48 }
abbrev rmX2_collapse : Room := { frames := 1, cells := 0, slots := 0, locals := 25 }
abbrev rmX2_squarify : Room := { frames := 3, cells := 0, slots := 0, locals := 79 }
abbrev rmX1_placeChildren : Room := { frames := 4, cells := 0, slots := 0, locals := 104 }
abbrev rmX1_arrange : Room := { frames := 5, cells := 0, slots := 0, locals := 131 }
abbrev rmX3_contain : Room := { frames := 0, cells := 0, slots := 0, locals := 0 }
abbrev rmX3_aspect : Room := { frames := 1, cells := 0, slots := 0, locals := 30 }
abbrev rmX3_difference : Room := { frames := 1, cells := 0, slots := 0, locals := 30 }
abbrev rmX5_copyFrom : Room := { frames := 1, cells := 0, slots := 0, locals := 60 }
abbrev rmX5_has : Room := { frames := 0, cells := 0, slots := 0, locals := 0 }
abbrev rmX5_isWithin : Room := { frames := 1, cells := 0, slots := 0, locals := 21 }
abbrev rmX5_append : Room := { frames := 0, cells := 0, slots := 0, locals := 0 }
abbrev rmX5_takeOut : Room := { frames := 1, cells := 0, slots := 0, locals := 21 }
abbrev rmX6_push : Room := { frames := 2, cells := 0, slots := 0, locals := 81 }
abbrev rmX6_popInto : Room := { frames := 2, cells := 0, slots := 0, locals := 81 }
abbrev rmX7_failInvalid : Room := { frames := 0, cells := 0, slots := 0, locals := 0 }
abbrev rmX7_isSize : Room := { frames := 0, cells := 0, slots := 0, locals := 0 }
abbrev rmX7_failFull : Room := { frames := 0, cells := 0, slots := 0, locals := 0 }
abbrev rmX7_addNode : Room := { frames := 6, cells := 0, slots := 0, locals := 153 }
abbrev rmX7_setSize : Room := { frames := 6, cells := 0, slots := 0, locals := 153 }
abbrev rmX7_failRejected : Room := { frames := 0, cells := 0, slots := 0, locals := 0 }
abbrev rmX7_removeLeaf : Room := { frames := 6, cells := 0, slots := 0, locals := 153 }
abbrev rmX7_setParent : Room := { frames := 6, cells := 0, slots := 0, locals := 153 }
abbrev rmX7_isSide : Room := { frames := 0, cells := 0, slots := 0, locals := 0 }
abbrev rmX7_setCanvas : Room := { frames := 6, cells := 0, slots := 0, locals := 153 }
abbrev rmX7_setPadding : Room := { frames := 6, cells := 0, slots := 0, locals := 153 }
abbrev rmX7_setMode : Room := { frames := 6, cells := 0, slots := 0, locals := 153 }
abbrev rmX7_nodeCount : Room := { frames := 0, cells := 0, slots := 0, locals := 0 }
abbrev rmX7_size : Room := { frames := 1, cells := 0, slots := 0, locals := 21 }
abbrev rmX7_parent : Room := { frames := 1, cells := 0, slots := 0, locals := 21 }
abbrev rmX7_depth : Room := { frames := 1, cells := 0, slots := 0, locals := 21 }
abbrev rmX7_leafCount : Room := { frames := 1, cells := 0, slots := 0, locals := 21 }
abbrev rmX7_x : Room := { frames := 1, cells := 0, slots := 0, locals := 21 }
abbrev rmX7_y : Room := { frames := 1, cells := 0, slots := 0, locals := 21 }
abbrev rmX7_width : Room := { frames := 1, cells := 0, slots := 0, locals := 21 }
abbrev rmX7_height : Room := { frames := 1, cells := 0, slots := 0, locals := 21 }
abbrev rmX7_hiddenFlag : Room := { frames := 0, cells := 0, slots := 0, locals := 0 }
abbrev rmX7_isHidden : Room := { frames := 1, cells := 0, slots := 0, locals := 21 }
abbrev rmX7_nodeAt : Room := { frames := 1, cells := 0, slots := 0, locals := 23 }
abbrev rmX7_leafPixels : Room := { frames := 1, cells := 0, slots := 0, locals := 21 }
abbrev rmX7_floatBits : Room := { frames := 0, cells := 0, slots := 0, locals := 0 }
abbrev rmX7_worstAspect : Room := { frames := 2, cells := 0, slots := 0, locals := 53 }
abbrev rmX7_averageAspect : Room := { frames := 2, cells := 0, slots := 0, locals := 53 }
abbrev rmX7_changeBy : Room := { frames := 6, cells := 0, slots := 0, locals := 153 }
abbrev rmX7_undo : Room := { frames := 6, cells := 0, slots := 0, locals := 153 }
abbrev rmX7_errorCount : Room := { frames := 1, cells := 0, slots := 0, locals := 20 }
abbrev rmX7_mix : Room := { frames := 0, cells := 0, slots := 0, locals := 0 }
abbrev rmX7_mixNode : Room := { frames := 1, cells := 0, slots := 0, locals := 22 }
abbrev rmX7_digest : Room := { frames := 3, cells := 0, slots := 0, locals := 76 }
abbrev rmX8_within : Room := { frames := 0, cells := 0, slots := 0, locals := 0 }
abbrev rmX8_fails : Room := { frames := 0, cells := 0, slots := 0, locals := 0 }
abbrev rmX8_isNode : Room := { frames := 1, cells := 0, slots := 0, locals := 22 }
abbrev rmX8_saves : Room := { frames := 0, cells := 0, slots := 0, locals := 0 }
abbrev rmX8_undo : Room := { frames := 1, cells := 0, slots := 0, locals := 21 }
abbrev rmX8_childMany : Room := { frames := 0, cells := 0, slots := 0, locals := 0 }
abbrev rmX8_isUnder : Room := { frames := 0, cells := 0, slots := 0, locals := 0 }
abbrev rmX8_sizeOf : Room := { frames := 1, cells := 0, slots := 0, locals := 23 }
abbrev rmX8_depthOf : Room := { frames := 0, cells := 0, slots := 0, locals := 0 }
abbrev rmX8_addNode : Room := { frames := 2, cells := 0, slots := 0, locals := 43 }
abbrev rmX8_changes : Room := { frames := 1, cells := 0, slots := 0, locals := 21 }
abbrev rmX8_setSize : Room := { frames := 2, cells := 0, slots := 0, locals := 44 }
abbrev rmX8_removeLeaf : Room := { frames := 2, cells := 0, slots := 0, locals := 43 }
abbrev rmX8_setParent : Room := { frames := 2, cells := 0, slots := 0, locals := 44 }
abbrev rmX8_setCanvas : Room := { frames := 1, cells := 0, slots := 0, locals := 22 }
abbrev rmX8_setPadding : Room := { frames := 2, cells := 0, slots := 0, locals := 44 }
abbrev rmX8_setMode : Room := { frames := 2, cells := 0, slots := 0, locals := 44 }
abbrev rmX8_nodeCount : Room := { frames := 0, cells := 0, slots := 0, locals := 0 }
abbrev rmX8_size : Room := { frames := 2, cells := 0, slots := 0, locals := 46 }
abbrev rmX8_parent : Room := { frames := 2, cells := 0, slots := 0, locals := 43 }
abbrev rmX8_depth : Room := { frames := 2, cells := 0, slots := 0, locals := 43 }
abbrev rmX8_leaves : Room := { frames := 1, cells := 0, slots := 0, locals := 23 }
abbrev rmX8_leafCount : Room := { frames := 2, cells := 0, slots := 0, locals := 45 }
abbrev rmX8_parts : Room := { frames := 0, cells := 0, slots := 0, locals := 0 }
abbrev rmX8_puts : Room := { frames := 0, cells := 0, slots := 0, locals := 0 }
abbrev rmX8_laysChildren : Room := { frames := 0, cells := 0, slots := 0, locals := 0 }
abbrev rmX8_laysSizes : Room := { frames := 0, cells := 0, slots := 0, locals := 0 }
abbrev rmX8_sumOf : Room := { frames := 0, cells := 0, slots := 0, locals := 0 }
abbrev rmX8_laysRow : Room := { frames := 1, cells := 0, slots := 0, locals := 28 }
abbrev rmX8_aspect : Room := { frames := 1, cells := 0, slots := 0, locals := 24 }
abbrev rmX8_average : Room := { frames := 2, cells := 0, slots := 0, locals := 53 }
abbrev rmX8_worst : Room := { frames := 2, cells := 0, slots := 0, locals := 53 }
abbrev rmX8_laysStrips : Room := { frames := 3, cells := 0, slots := 0, locals := 79 }
abbrev rmX8_sorts : Room := { frames := 0, cells := 0, slots := 0, locals := 0 }
abbrev rmX8_rowOf : Room := { frames := 3, cells := 0, slots := 0, locals := 80 }
abbrev rmX8_laysSquares : Room := { frames := 4, cells := 0, slots := 0, locals := 104 }
abbrev rmX8_laysUnder : Room := { frames := 5, cells := 0, slots := 0, locals := 139 }
abbrev rmX8_lays : Room := { frames := 6, cells := 0, slots := 0, locals := 166 }
abbrev rmX8_x : Room := { frames := 7, cells := 0, slots := 0, locals := 188 }
abbrev rmX8_y : Room := { frames := 7, cells := 0, slots := 0, locals := 188 }
abbrev rmX8_width : Room := { frames := 7, cells := 0, slots := 0, locals := 188 }
abbrev rmX8_height : Room := { frames := 7, cells := 0, slots := 0, locals := 188 }
abbrev rmX8_isHidden : Room := { frames := 7, cells := 0, slots := 0, locals := 188 }
abbrev rmX8_nodeAt : Room := { frames := 7, cells := 0, slots := 0, locals := 188 }
abbrev rmX8_pixels : Room := { frames := 1, cells := 0, slots := 0, locals := 23 }
abbrev rmX8_leafPixels : Room := { frames := 7, cells := 0, slots := 0, locals := 188 }
abbrev rmJxf58ca_isNaN_12338 : Room := { frames := 0, cells := 0, slots := 0, locals := 0 }
abbrev rmJxf58ca_floatToIntBits_5c35a : Room := { frames := 1, cells := 0, slots := 0, locals := 40 }
abbrev rmX8_aspects : Room := { frames := 2, cells := 0, slots := 0, locals := 60 }
abbrev rmX8_worstAspect : Room := { frames := 7, cells := 0, slots := 0, locals := 188 }
abbrev rmX8_averageAspect : Room := { frames := 7, cells := 0, slots := 0, locals := 188 }
abbrev rmX8_far : Room := { frames := 0, cells := 0, slots := 0, locals := 0 }
abbrev rmX8_changeBy : Room := { frames := 7, cells := 0, slots := 0, locals := 188 }
abbrev rmX8_errorCount : Room := { frames := 1, cells := 0, slots := 0, locals := 22 }
abbrev rmX8_mix : Room := { frames := 0, cells := 0, slots := 0, locals := 0 }
abbrev rmX8_digest : Room := { frames := 7, cells := 0, slots := 0, locals := 188 }
theorem hdwsS_Jxf58ca_floatToIntBits_5c35a : yJxf58ca_floatToIntBits_5c35a.cls ≠ "java/lang/invoke/MethodHandle" ∧ yJxf58ca_floatToIntBits_5c35a.cls ≠ "java/lang/invoke/VarHandle" ∧ (parseMethodDescriptor yJxf58ca_floatToIntBits_5c35a.desc).map (fun d => d.parameters.length) = some 1 := by decide +kernel
theorem hdwsS_Jxf58ca_isNaN_12338 : yJxf58ca_isNaN_12338.cls ≠ "java/lang/invoke/MethodHandle" ∧ yJxf58ca_isNaN_12338.cls ≠ "java/lang/invoke/VarHandle" ∧ (parseMethodDescriptor yJxf58ca_isNaN_12338.desc).map (fun d => d.parameters.length) = some 1 := by decide +kernel
theorem hdwsS_X2_ratio : yX2_ratio.cls ≠ "java/lang/invoke/MethodHandle" ∧ yX2_ratio.cls ≠ "java/lang/invoke/VarHandle" ∧ (parseMethodDescriptor yX2_ratio.desc).map (fun d => d.parameters.length) = some 3 := by decide +kernel
theorem hdwsS_X2_thicknessOf : yX2_thicknessOf.cls ≠ "java/lang/invoke/MethodHandle" ∧ yX2_thicknessOf.cls ≠ "java/lang/invoke/VarHandle" ∧ (parseMethodDescriptor yX2_thicknessOf.desc).map (fun d => d.parameters.length) = some 3 := by decide +kernel
theorem hdwsS_X7_floatBits : yX7_floatBits.cls ≠ "java/lang/invoke/MethodHandle" ∧ yX7_floatBits.cls ≠ "java/lang/invoke/VarHandle" ∧ (parseMethodDescriptor yX7_floatBits.desc).map (fun d => d.parameters.length) = some 1 := by decide +kernel
theorem hdwsS_X7_isSide : yX7_isSide.cls ≠ "java/lang/invoke/MethodHandle" ∧ yX7_isSide.cls ≠ "java/lang/invoke/VarHandle" ∧ (parseMethodDescriptor yX7_isSide.desc).map (fun d => d.parameters.length) = some 1 := by decide +kernel
theorem hdwsS_X7_isSize : yX7_isSize.cls ≠ "java/lang/invoke/MethodHandle" ∧ yX7_isSize.cls ≠ "java/lang/invoke/VarHandle" ∧ (parseMethodDescriptor yX7_isSize.desc).map (fun d => d.parameters.length) = some 1 := by decide +kernel
theorem hdwsS_X7_mix : yX7_mix.cls ≠ "java/lang/invoke/MethodHandle" ∧ yX7_mix.cls ≠ "java/lang/invoke/VarHandle" ∧ (parseMethodDescriptor yX7_mix.desc).map (fun d => d.parameters.length) = some 2 := by decide +kernel
theorem hdwsS_X8_far : yX8_far.cls ≠ "java/lang/invoke/MethodHandle" ∧ yX8_far.cls ≠ "java/lang/invoke/VarHandle" ∧ (parseMethodDescriptor yX8_far.desc).map (fun d => d.parameters.length) = some 1 := by decide +kernel
theorem hdwsS_X8_within : yX8_within.cls ≠ "java/lang/invoke/MethodHandle" ∧ yX8_within.cls ≠ "java/lang/invoke/VarHandle" ∧ (parseMethodDescriptor yX8_within.desc).map (fun d => d.parameters.length) = some 3 := by decide +kernel
theorem hdwsV_X0_isEmpty : yX0_isEmpty.cls = RX0 ∧ yX0_isEmpty.cls ≠ "java/lang/invoke/MethodHandle" ∧ yX0_isEmpty.cls ≠ "java/lang/invoke/VarHandle" ∧ (parseMethodDescriptor yX0_isEmpty.desc).map (fun d => d.parameters.length) = some 0 := by decide +kernel
theorem hdwsV_X0_set : yX0_set.cls = RX0 ∧ yX0_set.cls ≠ "java/lang/invoke/MethodHandle" ∧ yX0_set.cls ≠ "java/lang/invoke/VarHandle" ∧ (parseMethodDescriptor yX0_set.desc).map (fun d => d.parameters.length) = some 4 := by decide +kernel
theorem hdwsV_X1_arrange : yX1_arrange.cls = RX1 ∧ yX1_arrange.cls ≠ "java/lang/invoke/MethodHandle" ∧ yX1_arrange.cls ≠ "java/lang/invoke/VarHandle" ∧ (parseMethodDescriptor yX1_arrange.desc).map (fun d => d.parameters.length) = some 1 := by decide +kernel
theorem hdwsV_X1_isLeaf : yX1_isLeaf.cls = RX1 ∧ yX1_isLeaf.cls ≠ "java/lang/invoke/MethodHandle" ∧ yX1_isLeaf.cls ≠ "java/lang/invoke/VarHandle" ∧ (parseMethodDescriptor yX1_isLeaf.desc).map (fun d => d.parameters.length) = some 1 := by decide +kernel
theorem hdwsV_X1_isLeafWithArea : yX1_isLeafWithArea.cls = RX1 ∧ yX1_isLeafWithArea.cls ≠ "java/lang/invoke/MethodHandle" ∧ yX1_isLeafWithArea.cls ≠ "java/lang/invoke/VarHandle" ∧ (parseMethodDescriptor yX1_isLeafWithArea.desc).map (fun d => d.parameters.length) = some 1 := by decide +kernel
theorem hdwsV_X1_orderNodes : yX1_orderNodes.cls = RX1 ∧ yX1_orderNodes.cls ≠ "java/lang/invoke/MethodHandle" ∧ yX1_orderNodes.cls ≠ "java/lang/invoke/VarHandle" ∧ (parseMethodDescriptor yX1_orderNodes.desc).map (fun d => d.parameters.length) = some 1 := by decide +kernel
theorem hdwsV_X1_placeChildren : yX1_placeChildren.cls = RX1 ∧ yX1_placeChildren.cls ≠ "java/lang/invoke/MethodHandle" ∧ yX1_placeChildren.cls ≠ "java/lang/invoke/VarHandle" ∧ (parseMethodDescriptor yX1_placeChildren.desc).map (fun d => d.parameters.length) = some 2 := by decide +kernel
theorem hdwsV_X1_sumSizes : yX1_sumSizes.cls = RX1 ∧ yX1_sumSizes.cls ≠ "java/lang/invoke/MethodHandle" ∧ yX1_sumSizes.cls ≠ "java/lang/invoke/VarHandle" ∧ (parseMethodDescriptor yX1_sumSizes.desc).map (fun d => d.parameters.length) = some 1 := by decide +kernel
theorem hdwsV_X2_add : yX2_add.cls = RX2 ∧ yX2_add.cls ≠ "java/lang/invoke/MethodHandle" ∧ yX2_add.cls ≠ "java/lang/invoke/VarHandle" ∧ (parseMethodDescriptor yX2_add.desc).map (fun d => d.parameters.length) = some 2 := by decide +kernel
theorem hdwsV_X2_averageRatio : yX2_averageRatio.cls = RX2 ∧ yX2_averageRatio.cls ≠ "java/lang/invoke/MethodHandle" ∧ yX2_averageRatio.cls ≠ "java/lang/invoke/VarHandle" ∧ (parseMethodDescriptor yX2_averageRatio.desc).map (fun d => d.parameters.length) = some 3 := by decide +kernel
theorem hdwsV_X2_collapse : yX2_collapse.cls = RX2 ∧ yX2_collapse.cls ≠ "java/lang/invoke/MethodHandle" ∧ yX2_collapse.cls ≠ "java/lang/invoke/VarHandle" ∧ (parseMethodDescriptor yX2_collapse.desc).map (fun d => d.parameters.length) = some 2 := by decide +kernel
theorem hdwsV_X2_cutBand : yX2_cutBand.cls = RX2 ∧ yX2_cutBand.cls ≠ "java/lang/invoke/MethodHandle" ∧ yX2_cutBand.cls ≠ "java/lang/invoke/VarHandle" ∧ (parseMethodDescriptor yX2_cutBand.desc).map (fun d => d.parameters.length) = some 3 := by decide +kernel
theorem hdwsV_X2_endOfRow : yX2_endOfRow.cls = RX2 ∧ yX2_endOfRow.cls ≠ "java/lang/invoke/MethodHandle" ∧ yX2_endOfRow.cls ≠ "java/lang/invoke/VarHandle" ∧ (parseMethodDescriptor yX2_endOfRow.desc).map (fun d => d.parameters.length) = some 1 := by decide +kernel
theorem hdwsV_X2_fillBand : yX2_fillBand.cls = RX2 ∧ yX2_fillBand.cls ≠ "java/lang/invoke/MethodHandle" ∧ yX2_fillBand.cls ≠ "java/lang/invoke/VarHandle" ∧ (parseMethodDescriptor yX2_fillBand.desc).map (fun d => d.parameters.length) = some 4 := by decide +kernel
theorem hdwsV_X2_hasNoRoom : yX2_hasNoRoom.cls = RX2 ∧ yX2_hasNoRoom.cls ≠ "java/lang/invoke/MethodHandle" ∧ yX2_hasNoRoom.cls ≠ "java/lang/invoke/VarHandle" ∧ (parseMethodDescriptor yX2_hasNoRoom.desc).map (fun d => d.parameters.length) = some 0 := by decide +kernel
theorem hdwsV_X2_open : yX2_open.cls = RX2 ∧ yX2_open.cls ≠ "java/lang/invoke/MethodHandle" ∧ yX2_open.cls ≠ "java/lang/invoke/VarHandle" ∧ (parseMethodDescriptor yX2_open.desc).map (fun d => d.parameters.length) = some 4 := by decide +kernel
theorem hdwsV_X2_pixelsPerSize : yX2_pixelsPerSize.cls = RX2 ∧ yX2_pixelsPerSize.cls ≠ "java/lang/invoke/MethodHandle" ∧ yX2_pixelsPerSize.cls ≠ "java/lang/invoke/VarHandle" ∧ (parseMethodDescriptor yX2_pixelsPerSize.desc).map (fun d => d.parameters.length) = some 1 := by decide +kernel
theorem hdwsV_X2_rowThickness : yX2_rowThickness.cls = RX2 ∧ yX2_rowThickness.cls ≠ "java/lang/invoke/MethodHandle" ∧ yX2_rowThickness.cls ≠ "java/lang/invoke/VarHandle" ∧ (parseMethodDescriptor yX2_rowThickness.desc).map (fun d => d.parameters.length) = some 3 := by decide +kernel
theorem hdwsV_X2_slice : yX2_slice.cls = RX2 ∧ yX2_slice.cls ≠ "java/lang/invoke/MethodHandle" ∧ yX2_slice.cls ≠ "java/lang/invoke/VarHandle" ∧ (parseMethodDescriptor yX2_slice.desc).map (fun d => d.parameters.length) = some 2 := by decide +kernel
theorem hdwsV_X2_sortByFallingSize : yX2_sortByFallingSize.cls = RX2 ∧ yX2_sortByFallingSize.cls ≠ "java/lang/invoke/MethodHandle" ∧ yX2_sortByFallingSize.cls ≠ "java/lang/invoke/VarHandle" ∧ (parseMethodDescriptor yX2_sortByFallingSize.desc).map (fun d => d.parameters.length) = some 0 := by decide +kernel
theorem hdwsV_X2_splitIntoStrips : yX2_splitIntoStrips.cls = RX2 ∧ yX2_splitIntoStrips.cls ≠ "java/lang/invoke/MethodHandle" ∧ yX2_splitIntoStrips.cls ≠ "java/lang/invoke/VarHandle" ∧ (parseMethodDescriptor yX2_splitIntoStrips.desc).map (fun d => d.parameters.length) = some 0 := by decide +kernel
theorem hdwsV_X2_squarify : yX2_squarify.cls = RX2 ∧ yX2_squarify.cls ≠ "java/lang/invoke/MethodHandle" ∧ yX2_squarify.cls ≠ "java/lang/invoke/VarHandle" ∧ (parseMethodDescriptor yX2_squarify.desc).map (fun d => d.parameters.length) = some 1 := by decide +kernel
theorem hdwsV_X2_strip : yX2_strip.cls = RX2 ∧ yX2_strip.cls ≠ "java/lang/invoke/MethodHandle" ∧ yX2_strip.cls ≠ "java/lang/invoke/VarHandle" ∧ (parseMethodDescriptor yX2_strip.desc).map (fun d => d.parameters.length) = some 1 := by decide +kernel
theorem hdwsV_X2_sumOfSizes : yX2_sumOfSizes.cls = RX2 ∧ yX2_sumOfSizes.cls ≠ "java/lang/invoke/MethodHandle" ∧ yX2_sumOfSizes.cls ≠ "java/lang/invoke/VarHandle" ∧ (parseMethodDescriptor yX2_sumOfSizes.desc).map (fun d => d.parameters.length) = some 2 := by decide +kernel
theorem hdwsV_X2_worstRatio : yX2_worstRatio.cls = RX2 ∧ yX2_worstRatio.cls ≠ "java/lang/invoke/MethodHandle" ∧ yX2_worstRatio.cls ≠ "java/lang/invoke/VarHandle" ∧ (parseMethodDescriptor yX2_worstRatio.desc).map (fun d => d.parameters.length) = some 4 := by decide +kernel
theorem hdwsV_X3_area : yX3_area.cls = RX3 ∧ yX3_area.cls ≠ "java/lang/invoke/MethodHandle" ∧ yX3_area.cls ≠ "java/lang/invoke/VarHandle" ∧ (parseMethodDescriptor yX3_area.desc).map (fun d => d.parameters.length) = some 1 := by decide +kernel
theorem hdwsV_X3_aspect : yX3_aspect.cls = RX3 ∧ yX3_aspect.cls ≠ "java/lang/invoke/MethodHandle" ∧ yX3_aspect.cls ≠ "java/lang/invoke/VarHandle" ∧ (parseMethodDescriptor yX3_aspect.desc).map (fun d => d.parameters.length) = some 1 := by decide +kernel
theorem hdwsV_X3_contain : yX3_contain.cls = RX3 ∧ yX3_contain.cls ≠ "java/lang/invoke/MethodHandle" ∧ yX3_contain.cls ≠ "java/lang/invoke/VarHandle" ∧ (parseMethodDescriptor yX3_contain.desc).map (fun d => d.parameters.length) = some 3 := by decide +kernel
theorem hdwsV_X3_difference : yX3_difference.cls = RX3 ∧ yX3_difference.cls ≠ "java/lang/invoke/MethodHandle" ∧ yX3_difference.cls ≠ "java/lang/invoke/VarHandle" ∧ (parseMethodDescriptor yX3_difference.desc).map (fun d => d.parameters.length) = some 2 := by decide +kernel
theorem hdwsV_X3_put : yX3_put.cls = RX3 ∧ yX3_put.cls ≠ "java/lang/invoke/MethodHandle" ∧ yX3_put.cls ≠ "java/lang/invoke/VarHandle" ∧ (parseMethodDescriptor yX3_put.desc).map (fun d => d.parameters.length) = some 5 := by decide +kernel
theorem hdwsV_X4_add : yX4_add.cls = RX4 ∧ yX4_add.cls ≠ "java/lang/invoke/MethodHandle" ∧ yX4_add.cls ≠ "java/lang/invoke/VarHandle" ∧ (parseMethodDescriptor yX4_add.desc).map (fun d => d.parameters.length) = some 1 := by decide +kernel
theorem hdwsV_X4_apportion : yX4_apportion.cls = RX4 ∧ yX4_apportion.cls ≠ "java/lang/invoke/MethodHandle" ∧ yX4_apportion.cls ≠ "java/lang/invoke/VarHandle" ∧ (parseMethodDescriptor yX4_apportion.desc).map (fun d => d.parameters.length) = some 1 := by decide +kernel
theorem hdwsV_X4_clear : yX4_clear.cls = RX4 ∧ yX4_clear.cls ≠ "java/lang/invoke/MethodHandle" ∧ yX4_clear.cls ≠ "java/lang/invoke/VarHandle" ∧ (parseMethodDescriptor yX4_clear.desc).map (fun d => d.parameters.length) = some 0 := by decide +kernel
theorem hdwsV_X4_largestRemainder : yX4_largestRemainder.cls = RX4 ∧ yX4_largestRemainder.cls ≠ "java/lang/invoke/MethodHandle" ∧ yX4_largestRemainder.cls ≠ "java/lang/invoke/VarHandle" ∧ (parseMethodDescriptor yX4_largestRemainder.desc).map (fun d => d.parameters.length) = some 0 := by decide +kernel
theorem hdwsV_X5_append : yX5_append.cls = RX5 ∧ yX5_append.cls ≠ "java/lang/invoke/MethodHandle" ∧ yX5_append.cls ≠ "java/lang/invoke/VarHandle" ∧ (parseMethodDescriptor yX5_append.desc).map (fun d => d.parameters.length) = some 2 := by decide +kernel
theorem hdwsV_X5_copyFrom : yX5_copyFrom.cls = RX5 ∧ yX5_copyFrom.cls ≠ "java/lang/invoke/MethodHandle" ∧ yX5_copyFrom.cls ≠ "java/lang/invoke/VarHandle" ∧ (parseMethodDescriptor yX5_copyFrom.desc).map (fun d => d.parameters.length) = some 1 := by decide +kernel
theorem hdwsV_X5_has : yX5_has.cls = RX5 ∧ yX5_has.cls ≠ "java/lang/invoke/MethodHandle" ∧ yX5_has.cls ≠ "java/lang/invoke/VarHandle" ∧ (parseMethodDescriptor yX5_has.desc).map (fun d => d.parameters.length) = some 1 := by decide +kernel
theorem hdwsV_X5_isWithin : yX5_isWithin.cls = RX5 ∧ yX5_isWithin.cls ≠ "java/lang/invoke/MethodHandle" ∧ yX5_isWithin.cls ≠ "java/lang/invoke/VarHandle" ∧ (parseMethodDescriptor yX5_isWithin.desc).map (fun d => d.parameters.length) = some 2 := by decide +kernel
theorem hdwsV_X5_takeOut : yX5_takeOut.cls = RX5 ∧ yX5_takeOut.cls ≠ "java/lang/invoke/MethodHandle" ∧ yX5_takeOut.cls ≠ "java/lang/invoke/VarHandle" ∧ (parseMethodDescriptor yX5_takeOut.desc).map (fun d => d.parameters.length) = some 1 := by decide +kernel
theorem hdwsV_X6_popInto : yX6_popInto.cls = RX6 ∧ yX6_popInto.cls ≠ "java/lang/invoke/MethodHandle" ∧ yX6_popInto.cls ≠ "java/lang/invoke/VarHandle" ∧ (parseMethodDescriptor yX6_popInto.desc).map (fun d => d.parameters.length) = some 1 := by decide +kernel
theorem hdwsV_X6_push : yX6_push.cls = RX6 ∧ yX6_push.cls ≠ "java/lang/invoke/MethodHandle" ∧ yX6_push.cls ≠ "java/lang/invoke/VarHandle" ∧ (parseMethodDescriptor yX6_push.desc).map (fun d => d.parameters.length) = some 1 := by decide +kernel
theorem hdwsV_X7_averageAspect : yX7_averageAspect.cls = RX7 ∧ yX7_averageAspect.cls ≠ "java/lang/invoke/MethodHandle" ∧ yX7_averageAspect.cls ≠ "java/lang/invoke/VarHandle" ∧ (parseMethodDescriptor yX7_averageAspect.desc).map (fun d => d.parameters.length) = some 0 := by decide +kernel
theorem hdwsV_X7_failFull : yX7_failFull.cls = RX7 ∧ yX7_failFull.cls ≠ "java/lang/invoke/MethodHandle" ∧ yX7_failFull.cls ≠ "java/lang/invoke/VarHandle" ∧ (parseMethodDescriptor yX7_failFull.desc).map (fun d => d.parameters.length) = some 0 := by decide +kernel
theorem hdwsV_X7_failInvalid : yX7_failInvalid.cls = RX7 ∧ yX7_failInvalid.cls ≠ "java/lang/invoke/MethodHandle" ∧ yX7_failInvalid.cls ≠ "java/lang/invoke/VarHandle" ∧ (parseMethodDescriptor yX7_failInvalid.desc).map (fun d => d.parameters.length) = some 0 := by decide +kernel
theorem hdwsV_X7_failRejected : yX7_failRejected.cls = RX7 ∧ yX7_failRejected.cls ≠ "java/lang/invoke/MethodHandle" ∧ yX7_failRejected.cls ≠ "java/lang/invoke/VarHandle" ∧ (parseMethodDescriptor yX7_failRejected.desc).map (fun d => d.parameters.length) = some 0 := by decide +kernel
theorem hdwsV_X7_hiddenFlag : yX7_hiddenFlag.cls = RX7 ∧ yX7_hiddenFlag.cls ≠ "java/lang/invoke/MethodHandle" ∧ yX7_hiddenFlag.cls ≠ "java/lang/invoke/VarHandle" ∧ (parseMethodDescriptor yX7_hiddenFlag.desc).map (fun d => d.parameters.length) = some 1 := by decide +kernel
theorem hdwsV_X7_leafPixels : yX7_leafPixels.cls = RX7 ∧ yX7_leafPixels.cls ≠ "java/lang/invoke/MethodHandle" ∧ yX7_leafPixels.cls ≠ "java/lang/invoke/VarHandle" ∧ (parseMethodDescriptor yX7_leafPixels.desc).map (fun d => d.parameters.length) = some 0 := by decide +kernel
theorem hdwsV_X7_mixNode : yX7_mixNode.cls = RX7 ∧ yX7_mixNode.cls ≠ "java/lang/invoke/MethodHandle" ∧ yX7_mixNode.cls ≠ "java/lang/invoke/VarHandle" ∧ (parseMethodDescriptor yX7_mixNode.desc).map (fun d => d.parameters.length) = some 2 := by decide +kernel
theorem hdwsV_X7_worstAspect : yX7_worstAspect.cls = RX7 ∧ yX7_worstAspect.cls ≠ "java/lang/invoke/MethodHandle" ∧ yX7_worstAspect.cls ≠ "java/lang/invoke/VarHandle" ∧ (parseMethodDescriptor yX7_worstAspect.desc).map (fun d => d.parameters.length) = some 0 := by decide +kernel
theorem hdwsV_X8_aspect : yX8_aspect.cls = RX8 ∧ yX8_aspect.cls ≠ "java/lang/invoke/MethodHandle" ∧ yX8_aspect.cls ≠ "java/lang/invoke/VarHandle" ∧ (parseMethodDescriptor yX8_aspect.desc).map (fun d => d.parameters.length) = some 5 := by decide +kernel
theorem hdwsV_X8_aspects : yX8_aspects.cls = RX8 ∧ yX8_aspects.cls ≠ "java/lang/invoke/MethodHandle" ∧ yX8_aspects.cls ≠ "java/lang/invoke/VarHandle" ∧ (parseMethodDescriptor yX8_aspects.desc).map (fun d => d.parameters.length) = some 1 := by decide +kernel
theorem hdwsV_X8_average : yX8_average.cls = RX8 ∧ yX8_average.cls ≠ "java/lang/invoke/MethodHandle" ∧ yX8_average.cls ≠ "java/lang/invoke/VarHandle" ∧ (parseMethodDescriptor yX8_average.desc).map (fun d => d.parameters.length) = some 4 := by decide +kernel
theorem hdwsV_X8_changes : yX8_changes.cls = RX8 ∧ yX8_changes.cls ≠ "java/lang/invoke/MethodHandle" ∧ yX8_changes.cls ≠ "java/lang/invoke/VarHandle" ∧ (parseMethodDescriptor yX8_changes.desc).map (fun d => d.parameters.length) = some 2 := by decide +kernel
theorem hdwsV_X8_childMany : yX8_childMany.cls = RX8 ∧ yX8_childMany.cls ≠ "java/lang/invoke/MethodHandle" ∧ yX8_childMany.cls ≠ "java/lang/invoke/VarHandle" ∧ (parseMethodDescriptor yX8_childMany.desc).map (fun d => d.parameters.length) = some 1 := by decide +kernel
theorem hdwsV_X8_depthOf : yX8_depthOf.cls = RX8 ∧ yX8_depthOf.cls ≠ "java/lang/invoke/MethodHandle" ∧ yX8_depthOf.cls ≠ "java/lang/invoke/VarHandle" ∧ (parseMethodDescriptor yX8_depthOf.desc).map (fun d => d.parameters.length) = some 1 := by decide +kernel
theorem hdwsV_X8_fails : yX8_fails.cls = RX8 ∧ yX8_fails.cls ≠ "java/lang/invoke/MethodHandle" ∧ yX8_fails.cls ≠ "java/lang/invoke/VarHandle" ∧ (parseMethodDescriptor yX8_fails.desc).map (fun d => d.parameters.length) = some 1 := by decide +kernel
theorem hdwsV_X8_isNode : yX8_isNode.cls = RX8 ∧ yX8_isNode.cls ≠ "java/lang/invoke/MethodHandle" ∧ yX8_isNode.cls ≠ "java/lang/invoke/VarHandle" ∧ (parseMethodDescriptor yX8_isNode.desc).map (fun d => d.parameters.length) = some 1 := by decide +kernel
theorem hdwsV_X8_isUnder : yX8_isUnder.cls = RX8 ∧ yX8_isUnder.cls ≠ "java/lang/invoke/MethodHandle" ∧ yX8_isUnder.cls ≠ "java/lang/invoke/VarHandle" ∧ (parseMethodDescriptor yX8_isUnder.desc).map (fun d => d.parameters.length) = some 2 := by decide +kernel
theorem hdwsV_X8_lays : yX8_lays.cls = RX8 ∧ yX8_lays.cls ≠ "java/lang/invoke/MethodHandle" ∧ yX8_lays.cls ≠ "java/lang/invoke/VarHandle" ∧ (parseMethodDescriptor yX8_lays.desc).map (fun d => d.parameters.length) = some 0 := by decide +kernel
theorem hdwsV_X8_laysChildren : yX8_laysChildren.cls = RX8 ∧ yX8_laysChildren.cls ≠ "java/lang/invoke/MethodHandle" ∧ yX8_laysChildren.cls ≠ "java/lang/invoke/VarHandle" ∧ (parseMethodDescriptor yX8_laysChildren.desc).map (fun d => d.parameters.length) = some 1 := by decide +kernel
theorem hdwsV_X8_laysRow : yX8_laysRow.cls = RX8 ∧ yX8_laysRow.cls ≠ "java/lang/invoke/MethodHandle" ∧ yX8_laysRow.cls ≠ "java/lang/invoke/VarHandle" ∧ (parseMethodDescriptor yX8_laysRow.desc).map (fun d => d.parameters.length) = some 7 := by decide +kernel
theorem hdwsV_X8_laysSizes : yX8_laysSizes.cls = RX8 ∧ yX8_laysSizes.cls ≠ "java/lang/invoke/MethodHandle" ∧ yX8_laysSizes.cls ≠ "java/lang/invoke/VarHandle" ∧ (parseMethodDescriptor yX8_laysSizes.desc).map (fun d => d.parameters.length) = some 2 := by decide +kernel
theorem hdwsV_X8_laysSquares : yX8_laysSquares.cls = RX8 ∧ yX8_laysSquares.cls ≠ "java/lang/invoke/MethodHandle" ∧ yX8_laysSquares.cls ≠ "java/lang/invoke/VarHandle" ∧ (parseMethodDescriptor yX8_laysSquares.desc).map (fun d => d.parameters.length) = some 4 := by decide +kernel
theorem hdwsV_X8_laysStrips : yX8_laysStrips.cls = RX8 ∧ yX8_laysStrips.cls ≠ "java/lang/invoke/MethodHandle" ∧ yX8_laysStrips.cls ≠ "java/lang/invoke/VarHandle" ∧ (parseMethodDescriptor yX8_laysStrips.desc).map (fun d => d.parameters.length) = some 5 := by decide +kernel
theorem hdwsV_X8_laysUnder : yX8_laysUnder.cls = RX8 ∧ yX8_laysUnder.cls ≠ "java/lang/invoke/MethodHandle" ∧ yX8_laysUnder.cls ≠ "java/lang/invoke/VarHandle" ∧ (parseMethodDescriptor yX8_laysUnder.desc).map (fun d => d.parameters.length) = some 2 := by decide +kernel
theorem hdwsV_X8_leaves : yX8_leaves.cls = RX8 ∧ yX8_leaves.cls ≠ "java/lang/invoke/MethodHandle" ∧ yX8_leaves.cls ≠ "java/lang/invoke/VarHandle" ∧ (parseMethodDescriptor yX8_leaves.desc).map (fun d => d.parameters.length) = some 0 := by decide +kernel
theorem hdwsV_X8_mix : yX8_mix.cls = RX8 ∧ yX8_mix.cls ≠ "java/lang/invoke/MethodHandle" ∧ yX8_mix.cls ≠ "java/lang/invoke/VarHandle" ∧ (parseMethodDescriptor yX8_mix.desc).map (fun d => d.parameters.length) = some 1 := by decide +kernel
theorem hdwsV_X8_parts : yX8_parts.cls = RX8 ∧ yX8_parts.cls ≠ "java/lang/invoke/MethodHandle" ∧ yX8_parts.cls ≠ "java/lang/invoke/VarHandle" ∧ (parseMethodDescriptor yX8_parts.desc).map (fun d => d.parameters.length) = some 2 := by decide +kernel
theorem hdwsV_X8_pixels : yX8_pixels.cls = RX8 ∧ yX8_pixels.cls ≠ "java/lang/invoke/MethodHandle" ∧ yX8_pixels.cls ≠ "java/lang/invoke/VarHandle" ∧ (parseMethodDescriptor yX8_pixels.desc).map (fun d => d.parameters.length) = some 0 := by decide +kernel
theorem hdwsV_X8_puts : yX8_puts.cls = RX8 ∧ yX8_puts.cls ≠ "java/lang/invoke/MethodHandle" ∧ yX8_puts.cls ≠ "java/lang/invoke/VarHandle" ∧ (parseMethodDescriptor yX8_puts.desc).map (fun d => d.parameters.length) = some 5 := by decide +kernel
theorem hdwsV_X8_rowOf : yX8_rowOf.cls = RX8 ∧ yX8_rowOf.cls ≠ "java/lang/invoke/MethodHandle" ∧ yX8_rowOf.cls ≠ "java/lang/invoke/VarHandle" ∧ (parseMethodDescriptor yX8_rowOf.desc).map (fun d => d.parameters.length) = some 3 := by decide +kernel
theorem hdwsV_X8_saves : yX8_saves.cls = RX8 ∧ yX8_saves.cls ≠ "java/lang/invoke/MethodHandle" ∧ yX8_saves.cls ≠ "java/lang/invoke/VarHandle" ∧ (parseMethodDescriptor yX8_saves.desc).map (fun d => d.parameters.length) = some 0 := by decide +kernel
theorem hdwsV_X8_sizeOf : yX8_sizeOf.cls = RX8 ∧ yX8_sizeOf.cls ≠ "java/lang/invoke/MethodHandle" ∧ yX8_sizeOf.cls ≠ "java/lang/invoke/VarHandle" ∧ (parseMethodDescriptor yX8_sizeOf.desc).map (fun d => d.parameters.length) = some 1 := by decide +kernel
theorem hdwsV_X8_sorts : yX8_sorts.cls = RX8 ∧ yX8_sorts.cls ≠ "java/lang/invoke/MethodHandle" ∧ yX8_sorts.cls ≠ "java/lang/invoke/VarHandle" ∧ (parseMethodDescriptor yX8_sorts.desc).map (fun d => d.parameters.length) = some 0 := by decide +kernel
theorem hdwsV_X8_sumOf : yX8_sumOf.cls = RX8 ∧ yX8_sumOf.cls ≠ "java/lang/invoke/MethodHandle" ∧ yX8_sumOf.cls ≠ "java/lang/invoke/VarHandle" ∧ (parseMethodDescriptor yX8_sumOf.desc).map (fun d => d.parameters.length) = some 2 := by decide +kernel
theorem hdwsV_X8_worst : yX8_worst.cls = RX8 ∧ yX8_worst.cls ≠ "java/lang/invoke/MethodHandle" ∧ yX8_worst.cls ≠ "java/lang/invoke/VarHandle" ∧ (parseMethodDescriptor yX8_worst.desc).map (fun d => d.parameters.length) = some 4 := by decide +kernel
set_option maxRecDepth 20000 in
theorem kX0_set_f13 : Cond.fieldLink RX0 13 "TreemapLayout$Box" "top" "I" ∈ wsX0_set := by decide +kernel
set_option maxRecDepth 20000 in
theorem kX0_set_f16 : Cond.fieldLink RX0 16 "TreemapLayout$Box" "wide" "I" ∈ wsX0_set := by decide +kernel
set_option maxRecDepth 20000 in
theorem kX0_set_f19 : Cond.fieldLink RX0 19 "TreemapLayout$Box" "high" "I" ∈ wsX0_set := by decide +kernel
set_option maxRecDepth 20000 in
theorem kX0_set_f7 : Cond.fieldLink RX0 7 "TreemapLayout$Box" "left" "I" ∈ wsX0_set := by decide +kernel
set_option maxRecDepth 20000 in
theorem uX0_set_X0 : ∀ w ∈ u_ws RX0 TX0 4, w ∈ wsX0_set := by decide +kernel
set_option maxRecDepth 20000 in
theorem kX0_isEmpty_f16 : Cond.fieldLink RX0 16 "TreemapLayout$Box" "wide" "I" ∈ wsX0_isEmpty := by decide +kernel
set_option maxRecDepth 20000 in
theorem kX0_isEmpty_f19 : Cond.fieldLink RX0 19 "TreemapLayout$Box" "high" "I" ∈ wsX0_isEmpty := by decide +kernel
set_option maxRecDepth 20000 in
theorem uX0_isEmpty_X0 : ∀ w ∈ u_ws RX0 TX0 4, w ∈ wsX0_isEmpty := by decide +kernel
set_option maxRecDepth 20000 in
theorem kX1_isLeaf_f35 : Cond.fieldLink RX1 35 "TreemapLayout$Layout" "childCounts" "[I" ∈ wsX1_isLeaf := by decide +kernel
set_option maxRecDepth 20000 in
theorem uX1_isLeaf_X1 : ∀ w ∈ u_ws RX1 TX1 8, w ∈ wsX1_isLeaf := by decide +kernel
set_option maxRecDepth 20000 in
theorem kX3_area_f18 : Cond.fieldLink RX3 18 "TreemapLayout$Rects" "widths" "[I" ∈ wsX3_area := by decide +kernel
set_option maxRecDepth 20000 in
theorem kX3_area_f21 : Cond.fieldLink RX3 21 "TreemapLayout$Rects" "heights" "[I" ∈ wsX3_area := by decide +kernel
set_option maxRecDepth 20000 in
theorem uX3_area_X3 : ∀ w ∈ u_ws RX3 TX3 4, w ∈ wsX3_area := by decide +kernel
set_option maxRecDepth 20000 in
theorem kX1_isLeafWithArea_f25 : Cond.fieldLink RX1 25 "TreemapLayout$Layout" "rects" "LTreemapLayout$Rects;" ∈ wsX1_isLeafWithArea := by decide +kernel
set_option maxRecDepth 20000 in
theorem uX1_isLeafWithArea_X1 : ∀ w ∈ u_ws RX1 TX1 8, w ∈ wsX1_isLeafWithArea := by decide +kernel
set_option maxRecDepth 20000 in
theorem kX1_orderNodes_f15 : Cond.fieldLink RX1 15 "TreemapLayout$Layout" "depths" "[I" ∈ wsX1_orderNodes := by decide +kernel
set_option maxRecDepth 20000 in
theorem kX1_orderNodes_f29 : Cond.fieldLink RX1 29 "TreemapLayout$Layout" "order" "[I" ∈ wsX1_orderNodes := by decide +kernel
set_option maxRecDepth 20000 in
theorem kX1_orderNodes_f32 : Cond.fieldLink RX1 32 "TreemapLayout$Layout" "firstChildren" "[I" ∈ wsX1_orderNodes := by decide +kernel
set_option maxRecDepth 20000 in
theorem kX1_orderNodes_f35 : Cond.fieldLink RX1 35 "TreemapLayout$Layout" "childCounts" "[I" ∈ wsX1_orderNodes := by decide +kernel
set_option maxRecDepth 20000 in
theorem kX1_orderNodes_f73 : Cond.fieldLink RX1 73 "TreemapLayout$State" "count" "I" ∈ wsX1_orderNodes := by decide +kernel
set_option maxRecDepth 20000 in
theorem kX1_orderNodes_f80 : Cond.fieldLink RX1 80 "TreemapLayout$State" "parents" "[I" ∈ wsX1_orderNodes := by decide +kernel
set_option maxRecDepth 20000 in
theorem uX1_orderNodes_X1 : ∀ w ∈ u_ws RX1 TX1 8, w ∈ wsX1_orderNodes := by decide +kernel
set_option maxRecDepth 20000 in
theorem uX1_orderNodes_X5 : ∀ w ∈ u_ws RX5 TX5 7, w ∈ wsX1_orderNodes := by decide +kernel
set_option maxRecDepth 20000 in
theorem kX1_sumSizes_f29 : Cond.fieldLink RX1 29 "TreemapLayout$Layout" "order" "[I" ∈ wsX1_sumSizes := by decide +kernel
set_option maxRecDepth 20000 in
theorem kX1_sumSizes_f32 : Cond.fieldLink RX1 32 "TreemapLayout$Layout" "firstChildren" "[I" ∈ wsX1_sumSizes := by decide +kernel
set_option maxRecDepth 20000 in
theorem kX1_sumSizes_f35 : Cond.fieldLink RX1 35 "TreemapLayout$Layout" "childCounts" "[I" ∈ wsX1_sumSizes := by decide +kernel
set_option maxRecDepth 20000 in
theorem kX1_sumSizes_f73 : Cond.fieldLink RX1 73 "TreemapLayout$State" "count" "I" ∈ wsX1_sumSizes := by decide +kernel
set_option maxRecDepth 20000 in
theorem kX1_sumSizes_f83 : Cond.fieldLink RX1 83 "TreemapLayout$State" "ownSizes" "[I" ∈ wsX1_sumSizes := by decide +kernel
set_option maxRecDepth 20000 in
theorem kX1_sumSizes_f9 : Cond.fieldLink RX1 9 "TreemapLayout$Layout" "sizes" "[I" ∈ wsX1_sumSizes := by decide +kernel
set_option maxRecDepth 20000 in
theorem uX1_sumSizes_X1 : ∀ w ∈ u_ws RX1 TX1 8, w ∈ wsX1_sumSizes := by decide +kernel
set_option maxRecDepth 20000 in
theorem uX1_sumSizes_X5 : ∀ w ∈ u_ws RX5 TX5 7, w ∈ wsX1_sumSizes := by decide +kernel
set_option maxRecDepth 20000 in
theorem kX3_put_f15 : Cond.fieldLink RX3 15 "TreemapLayout$Rects" "tops" "[I" ∈ wsX3_put := by decide +kernel
set_option maxRecDepth 20000 in
theorem kX3_put_f18 : Cond.fieldLink RX3 18 "TreemapLayout$Rects" "widths" "[I" ∈ wsX3_put := by decide +kernel
set_option maxRecDepth 20000 in
theorem kX3_put_f21 : Cond.fieldLink RX3 21 "TreemapLayout$Rects" "heights" "[I" ∈ wsX3_put := by decide +kernel
set_option maxRecDepth 20000 in
theorem kX3_put_f9 : Cond.fieldLink RX3 9 "TreemapLayout$Rects" "lefts" "[I" ∈ wsX3_put := by decide +kernel
set_option maxRecDepth 20000 in
theorem uX3_put_X3 : ∀ w ∈ u_ws RX3 TX3 4, w ∈ wsX3_put := by decide +kernel
set_option maxRecDepth 20000 in
theorem kX2_open_f21 : Cond.fieldLink RX2 21 "TreemapLayout$Placer" "free" "LTreemapLayout$Box;" ∈ wsX2_open := by decide +kernel
set_option maxRecDepth 20000 in
theorem kX2_open_f41 : Cond.fieldLink RX2 41 "TreemapLayout$Placer" "kidCount" "I" ∈ wsX2_open := by decide +kernel
set_option maxRecDepth 20000 in
theorem uX2_open_X2 : ∀ w ∈ u_ws RX2 TX2 8, w ∈ wsX2_open := by decide +kernel
set_option maxRecDepth 20000 in
theorem kX2_hasNoRoom_f21 : Cond.fieldLink RX2 21 "TreemapLayout$Placer" "free" "LTreemapLayout$Box;" ∈ wsX2_hasNoRoom := by decide +kernel
set_option maxRecDepth 20000 in
theorem uX2_hasNoRoom_X2 : ∀ w ∈ u_ws RX2 TX2 8, w ∈ wsX2_hasNoRoom := by decide +kernel
set_option maxRecDepth 20000 in
theorem kX2_add_f15 : Cond.fieldLink RX2 15 "TreemapLayout$Placer" "kidSizes" "[I" ∈ wsX2_add := by decide +kernel
set_option maxRecDepth 20000 in
theorem kX2_add_f41 : Cond.fieldLink RX2 41 "TreemapLayout$Placer" "kidCount" "I" ∈ wsX2_add := by decide +kernel
set_option maxRecDepth 20000 in
theorem kX2_add_f9 : Cond.fieldLink RX2 9 "TreemapLayout$Placer" "kids" "[I" ∈ wsX2_add := by decide +kernel
set_option maxRecDepth 20000 in
theorem uX2_add_X2 : ∀ w ∈ u_ws RX2 TX2 8, w ∈ wsX2_add := by decide +kernel
set_option maxRecDepth 20000 in
theorem kX4_clear_f21 : Cond.fieldLink RX4 21 "TreemapLayout$Shares" "count" "I" ∈ wsX4_clear := by decide +kernel
set_option maxRecDepth 20000 in
theorem uX4_clear_X4 : ∀ w ∈ u_ws RX4 TX4 4, w ∈ wsX4_clear := by decide +kernel
set_option maxRecDepth 20000 in
theorem kX4_add_f21 : Cond.fieldLink RX4 21 "TreemapLayout$Shares" "count" "I" ∈ wsX4_add := by decide +kernel
set_option maxRecDepth 20000 in
theorem kX4_add_f9 : Cond.fieldLink RX4 9 "TreemapLayout$Shares" "partSizes" "[I" ∈ wsX4_add := by decide +kernel
set_option maxRecDepth 20000 in
theorem uX4_add_X4 : ∀ w ∈ u_ws RX4 TX4 4, w ∈ wsX4_add := by decide +kernel
set_option maxRecDepth 20000 in
theorem kX4_largestRemainder_f15 : Cond.fieldLink RX4 15 "TreemapLayout$Shares" "remainders" "[I" ∈ wsX4_largestRemainder := by decide +kernel
set_option maxRecDepth 20000 in
theorem kX4_largestRemainder_f21 : Cond.fieldLink RX4 21 "TreemapLayout$Shares" "count" "I" ∈ wsX4_largestRemainder := by decide +kernel
set_option maxRecDepth 20000 in
theorem uX4_largestRemainder_X4 : ∀ w ∈ u_ws RX4 TX4 4, w ∈ wsX4_largestRemainder := by decide +kernel
set_option maxRecDepth 20000 in
theorem kX4_apportion_f15 : Cond.fieldLink RX4 15 "TreemapLayout$Shares" "remainders" "[I" ∈ wsX4_apportion := by decide +kernel
set_option maxRecDepth 20000 in
theorem kX4_apportion_f18 : Cond.fieldLink RX4 18 "TreemapLayout$Shares" "pixels" "[I" ∈ wsX4_apportion := by decide +kernel
set_option maxRecDepth 20000 in
theorem kX4_apportion_f21 : Cond.fieldLink RX4 21 "TreemapLayout$Shares" "count" "I" ∈ wsX4_apportion := by decide +kernel
set_option maxRecDepth 20000 in
theorem kX4_apportion_f9 : Cond.fieldLink RX4 9 "TreemapLayout$Shares" "partSizes" "[I" ∈ wsX4_apportion := by decide +kernel
set_option maxRecDepth 20000 in
theorem uX4_apportion_X4 : ∀ w ∈ u_ws RX4 TX4 4, w ∈ wsX4_apportion := by decide +kernel
set_option maxRecDepth 20000 in
theorem kX2_fillBand_f15 : Cond.fieldLink RX2 15 "TreemapLayout$Placer" "kidSizes" "[I" ∈ wsX2_fillBand := by decide +kernel
set_option maxRecDepth 20000 in
theorem kX2_fillBand_f25 : Cond.fieldLink RX2 25 "TreemapLayout$Placer" "band" "LTreemapLayout$Box;" ∈ wsX2_fillBand := by decide +kernel
set_option maxRecDepth 20000 in
theorem kX2_fillBand_f31 : Cond.fieldLink RX2 31 "TreemapLayout$Placer" "kidShares" "LTreemapLayout$Shares;" ∈ wsX2_fillBand := by decide +kernel
set_option maxRecDepth 20000 in
theorem kX2_fillBand_f53 : Cond.fieldLink RX2 53 "TreemapLayout$Box" "left" "I" ∈ wsX2_fillBand := by decide +kernel
set_option maxRecDepth 20000 in
theorem kX2_fillBand_f56 : Cond.fieldLink RX2 56 "TreemapLayout$Box" "top" "I" ∈ wsX2_fillBand := by decide +kernel
set_option maxRecDepth 20000 in
theorem kX2_fillBand_f59 : Cond.fieldLink RX2 59 "TreemapLayout$Box" "wide" "I" ∈ wsX2_fillBand := by decide +kernel
set_option maxRecDepth 20000 in
theorem kX2_fillBand_f62 : Cond.fieldLink RX2 62 "TreemapLayout$Box" "high" "I" ∈ wsX2_fillBand := by decide +kernel
set_option maxRecDepth 20000 in
theorem kX2_fillBand_f79 : Cond.fieldLink RX2 79 "TreemapLayout$Shares" "pixels" "[I" ∈ wsX2_fillBand := by decide +kernel
set_option maxRecDepth 20000 in
theorem kX2_fillBand_f9 : Cond.fieldLink RX2 9 "TreemapLayout$Placer" "kids" "[I" ∈ wsX2_fillBand := by decide +kernel
set_option maxRecDepth 20000 in
theorem uX2_fillBand_X0 : ∀ w ∈ u_ws RX0 TX0 4, w ∈ wsX2_fillBand := by decide +kernel
set_option maxRecDepth 20000 in
theorem uX2_fillBand_X2 : ∀ w ∈ u_ws RX2 TX2 8, w ∈ wsX2_fillBand := by decide +kernel
set_option maxRecDepth 20000 in
theorem uX2_fillBand_X4 : ∀ w ∈ u_ws RX4 TX4 4, w ∈ wsX2_fillBand := by decide +kernel
set_option maxRecDepth 20000 in
theorem kX2_slice_f21 : Cond.fieldLink RX2 21 "TreemapLayout$Placer" "free" "LTreemapLayout$Box;" ∈ wsX2_slice := by decide +kernel
set_option maxRecDepth 20000 in
theorem kX2_slice_f25 : Cond.fieldLink RX2 25 "TreemapLayout$Placer" "band" "LTreemapLayout$Box;" ∈ wsX2_slice := by decide +kernel
set_option maxRecDepth 20000 in
theorem kX2_slice_f41 : Cond.fieldLink RX2 41 "TreemapLayout$Placer" "kidCount" "I" ∈ wsX2_slice := by decide +kernel
set_option maxRecDepth 20000 in
theorem kX2_slice_f53 : Cond.fieldLink RX2 53 "TreemapLayout$Box" "left" "I" ∈ wsX2_slice := by decide +kernel
set_option maxRecDepth 20000 in
theorem kX2_slice_f56 : Cond.fieldLink RX2 56 "TreemapLayout$Box" "top" "I" ∈ wsX2_slice := by decide +kernel
set_option maxRecDepth 20000 in
theorem kX2_slice_f59 : Cond.fieldLink RX2 59 "TreemapLayout$Box" "wide" "I" ∈ wsX2_slice := by decide +kernel
set_option maxRecDepth 20000 in
theorem kX2_slice_f62 : Cond.fieldLink RX2 62 "TreemapLayout$Box" "high" "I" ∈ wsX2_slice := by decide +kernel
set_option maxRecDepth 20000 in
theorem uX2_slice_X0 : ∀ w ∈ u_ws RX0 TX0 4, w ∈ wsX2_slice := by decide +kernel
set_option maxRecDepth 20000 in
theorem uX2_slice_X2 : ∀ w ∈ u_ws RX2 TX2 8, w ∈ wsX2_slice := by decide +kernel
set_option maxRecDepth 20000 in
theorem kX2_sumOfSizes_f15 : Cond.fieldLink RX2 15 "TreemapLayout$Placer" "kidSizes" "[I" ∈ wsX2_sumOfSizes := by decide +kernel
set_option maxRecDepth 20000 in
theorem uX2_sumOfSizes_X2 : ∀ w ∈ u_ws RX2 TX2 8, w ∈ wsX2_sumOfSizes := by decide +kernel
set_option maxRecDepth 20000 in
theorem kX2_pixelsPerSize_f21 : Cond.fieldLink RX2 21 "TreemapLayout$Placer" "free" "LTreemapLayout$Box;" ∈ wsX2_pixelsPerSize := by decide +kernel
set_option maxRecDepth 20000 in
theorem kX2_pixelsPerSize_f41 : Cond.fieldLink RX2 41 "TreemapLayout$Placer" "kidCount" "I" ∈ wsX2_pixelsPerSize := by decide +kernel
set_option maxRecDepth 20000 in
theorem kX2_pixelsPerSize_f59 : Cond.fieldLink RX2 59 "TreemapLayout$Box" "wide" "I" ∈ wsX2_pixelsPerSize := by decide +kernel
set_option maxRecDepth 20000 in
theorem kX2_pixelsPerSize_f62 : Cond.fieldLink RX2 62 "TreemapLayout$Box" "high" "I" ∈ wsX2_pixelsPerSize := by decide +kernel
set_option maxRecDepth 20000 in
theorem uX2_pixelsPerSize_X0 : ∀ w ∈ u_ws RX0 TX0 4, w ∈ wsX2_pixelsPerSize := by decide +kernel
set_option maxRecDepth 20000 in
theorem uX2_pixelsPerSize_X2 : ∀ w ∈ u_ws RX2 TX2 8, w ∈ wsX2_pixelsPerSize := by decide +kernel


set_option maxRecDepth 20000 in
theorem kX2_averageRatio_f15 : Cond.fieldLink RX2 15 "TreemapLayout$Placer" "kidSizes" "[I" ∈ wsX2_averageRatio := by decide +kernel
set_option maxRecDepth 20000 in
theorem kX2_averageRatio_f21 : Cond.fieldLink RX2 21 "TreemapLayout$Placer" "free" "LTreemapLayout$Box;" ∈ wsX2_averageRatio := by decide +kernel
set_option maxRecDepth 20000 in
theorem kX2_averageRatio_f59 : Cond.fieldLink RX2 59 "TreemapLayout$Box" "wide" "I" ∈ wsX2_averageRatio := by decide +kernel
set_option maxRecDepth 20000 in
theorem uX2_averageRatio_X0 : ∀ w ∈ u_ws RX0 TX0 4, w ∈ wsX2_averageRatio := by decide +kernel
set_option maxRecDepth 20000 in
theorem uX2_averageRatio_X2 : ∀ w ∈ u_ws RX2 TX2 8, w ∈ wsX2_averageRatio := by decide +kernel
set_option maxRecDepth 20000 in
theorem kX2_splitIntoStrips_f35 : Cond.fieldLink RX2 35 "TreemapLayout$Placer" "stripShares" "LTreemapLayout$Shares;" ∈ wsX2_splitIntoStrips := by decide +kernel
set_option maxRecDepth 20000 in
theorem kX2_splitIntoStrips_f38 : Cond.fieldLink RX2 38 "TreemapLayout$Placer" "stripEnds" "[I" ∈ wsX2_splitIntoStrips := by decide +kernel
set_option maxRecDepth 20000 in
theorem kX2_splitIntoStrips_f41 : Cond.fieldLink RX2 41 "TreemapLayout$Placer" "kidCount" "I" ∈ wsX2_splitIntoStrips := by decide +kernel
set_option maxRecDepth 20000 in
theorem kX2_splitIntoStrips_f76 : Cond.fieldLink RX2 76 "TreemapLayout$Shares" "count" "I" ∈ wsX2_splitIntoStrips := by decide +kernel
set_option maxRecDepth 20000 in
theorem uX2_splitIntoStrips_X2 : ∀ w ∈ u_ws RX2 TX2 8, w ∈ wsX2_splitIntoStrips := by decide +kernel
set_option maxRecDepth 20000 in
theorem uX2_splitIntoStrips_X4 : ∀ w ∈ u_ws RX4 TX4 4, w ∈ wsX2_splitIntoStrips := by decide +kernel
set_option maxRecDepth 20000 in
theorem kX2_strip_f21 : Cond.fieldLink RX2 21 "TreemapLayout$Placer" "free" "LTreemapLayout$Box;" ∈ wsX2_strip := by decide +kernel
set_option maxRecDepth 20000 in
theorem kX2_strip_f25 : Cond.fieldLink RX2 25 "TreemapLayout$Placer" "band" "LTreemapLayout$Box;" ∈ wsX2_strip := by decide +kernel
set_option maxRecDepth 20000 in
theorem kX2_strip_f35 : Cond.fieldLink RX2 35 "TreemapLayout$Placer" "stripShares" "LTreemapLayout$Shares;" ∈ wsX2_strip := by decide +kernel
set_option maxRecDepth 20000 in
theorem kX2_strip_f38 : Cond.fieldLink RX2 38 "TreemapLayout$Placer" "stripEnds" "[I" ∈ wsX2_strip := by decide +kernel
set_option maxRecDepth 20000 in
theorem kX2_strip_f53 : Cond.fieldLink RX2 53 "TreemapLayout$Box" "left" "I" ∈ wsX2_strip := by decide +kernel
set_option maxRecDepth 20000 in
theorem kX2_strip_f56 : Cond.fieldLink RX2 56 "TreemapLayout$Box" "top" "I" ∈ wsX2_strip := by decide +kernel
set_option maxRecDepth 20000 in
theorem kX2_strip_f59 : Cond.fieldLink RX2 59 "TreemapLayout$Box" "wide" "I" ∈ wsX2_strip := by decide +kernel
set_option maxRecDepth 20000 in
theorem kX2_strip_f62 : Cond.fieldLink RX2 62 "TreemapLayout$Box" "high" "I" ∈ wsX2_strip := by decide +kernel
set_option maxRecDepth 20000 in
theorem kX2_strip_f76 : Cond.fieldLink RX2 76 "TreemapLayout$Shares" "count" "I" ∈ wsX2_strip := by decide +kernel
set_option maxRecDepth 20000 in
theorem kX2_strip_f79 : Cond.fieldLink RX2 79 "TreemapLayout$Shares" "pixels" "[I" ∈ wsX2_strip := by decide +kernel
set_option maxRecDepth 20000 in
theorem uX2_strip_X0 : ∀ w ∈ u_ws RX0 TX0 4, w ∈ wsX2_strip := by decide +kernel
set_option maxRecDepth 20000 in
theorem uX2_strip_X2 : ∀ w ∈ u_ws RX2 TX2 8, w ∈ wsX2_strip := by decide +kernel
set_option maxRecDepth 20000 in
theorem uX2_strip_X4 : ∀ w ∈ u_ws RX4 TX4 4, w ∈ wsX2_strip := by decide +kernel
set_option maxRecDepth 20000 in
theorem kX2_sortByFallingSize_f15 : Cond.fieldLink RX2 15 "TreemapLayout$Placer" "kidSizes" "[I" ∈ wsX2_sortByFallingSize := by decide +kernel
set_option maxRecDepth 20000 in
theorem kX2_sortByFallingSize_f41 : Cond.fieldLink RX2 41 "TreemapLayout$Placer" "kidCount" "I" ∈ wsX2_sortByFallingSize := by decide +kernel
set_option maxRecDepth 20000 in
theorem kX2_sortByFallingSize_f9 : Cond.fieldLink RX2 9 "TreemapLayout$Placer" "kids" "[I" ∈ wsX2_sortByFallingSize := by decide +kernel
set_option maxRecDepth 20000 in
theorem uX2_sortByFallingSize_X2 : ∀ w ∈ u_ws RX2 TX2 8, w ∈ wsX2_sortByFallingSize := by decide +kernel
set_option maxRecDepth 20000 in
theorem kX2_worstRatio_f15 : Cond.fieldLink RX2 15 "TreemapLayout$Placer" "kidSizes" "[I" ∈ wsX2_worstRatio := by decide +kernel
set_option maxRecDepth 20000 in
theorem uX2_worstRatio_X2 : ∀ w ∈ u_ws RX2 TX2 8, w ∈ wsX2_worstRatio := by decide +kernel
set_option maxRecDepth 20000 in
theorem kX2_endOfRow_f21 : Cond.fieldLink RX2 21 "TreemapLayout$Placer" "free" "LTreemapLayout$Box;" ∈ wsX2_endOfRow := by decide +kernel
set_option maxRecDepth 20000 in
theorem kX2_endOfRow_f41 : Cond.fieldLink RX2 41 "TreemapLayout$Placer" "kidCount" "I" ∈ wsX2_endOfRow := by decide +kernel
set_option maxRecDepth 20000 in
theorem kX2_endOfRow_f59 : Cond.fieldLink RX2 59 "TreemapLayout$Box" "wide" "I" ∈ wsX2_endOfRow := by decide +kernel
set_option maxRecDepth 20000 in
theorem kX2_endOfRow_f62 : Cond.fieldLink RX2 62 "TreemapLayout$Box" "high" "I" ∈ wsX2_endOfRow := by decide +kernel
set_option maxRecDepth 20000 in
theorem kX2_endOfRow_i123 : Cond.initialized "java/lang/Math" ∈ wsX2_endOfRow := by decide +kernel
set_option maxRecDepth 20000 in
theorem kX2_endOfRow_m123 : Cond.methodLink RX2 123 Lib.Math.min.name ∈ wsX2_endOfRow := by decide +kernel
set_option maxRecDepth 20000 in
theorem kX2_endOfRow_o123 : Cond.code Lib.Math.min.name Lib.Math.min.code 2 (some .int) ∈ wsX2_endOfRow := by decide +kernel
set_option maxRecDepth 20000 in
theorem kX2_endOfRow_s123 : Cond.static Lib.Math.min.name ∈ wsX2_endOfRow := by decide +kernel
set_option maxRecDepth 20000 in
theorem uX2_endOfRow_X0 : ∀ w ∈ u_ws RX0 TX0 4, w ∈ wsX2_endOfRow := by decide +kernel
set_option maxRecDepth 20000 in
theorem uX2_endOfRow_X2 : ∀ w ∈ u_ws RX2 TX2 8, w ∈ wsX2_endOfRow := by decide +kernel
set_option maxRecDepth 20000 in
theorem kX2_rowThickness_f41 : Cond.fieldLink RX2 41 "TreemapLayout$Placer" "kidCount" "I" ∈ wsX2_rowThickness := by decide +kernel
set_option maxRecDepth 20000 in
theorem uX2_rowThickness_X2 : ∀ w ∈ u_ws RX2 TX2 8, w ∈ wsX2_rowThickness := by decide +kernel
set_option maxRecDepth 20000 in
theorem kX2_cutBand_f21 : Cond.fieldLink RX2 21 "TreemapLayout$Placer" "free" "LTreemapLayout$Box;" ∈ wsX2_cutBand := by decide +kernel
set_option maxRecDepth 20000 in
theorem kX2_cutBand_f25 : Cond.fieldLink RX2 25 "TreemapLayout$Placer" "band" "LTreemapLayout$Box;" ∈ wsX2_cutBand := by decide +kernel
set_option maxRecDepth 20000 in
theorem kX2_cutBand_f53 : Cond.fieldLink RX2 53 "TreemapLayout$Box" "left" "I" ∈ wsX2_cutBand := by decide +kernel
set_option maxRecDepth 20000 in
theorem kX2_cutBand_f56 : Cond.fieldLink RX2 56 "TreemapLayout$Box" "top" "I" ∈ wsX2_cutBand := by decide +kernel
set_option maxRecDepth 20000 in
theorem kX2_cutBand_f59 : Cond.fieldLink RX2 59 "TreemapLayout$Box" "wide" "I" ∈ wsX2_cutBand := by decide +kernel
set_option maxRecDepth 20000 in
theorem kX2_cutBand_f62 : Cond.fieldLink RX2 62 "TreemapLayout$Box" "high" "I" ∈ wsX2_cutBand := by decide +kernel
set_option maxRecDepth 20000 in
theorem uX2_cutBand_X0 : ∀ w ∈ u_ws RX0 TX0 4, w ∈ wsX2_cutBand := by decide +kernel
set_option maxRecDepth 20000 in
theorem uX2_cutBand_X2 : ∀ w ∈ u_ws RX2 TX2 8, w ∈ wsX2_cutBand := by decide +kernel
set_option maxRecDepth 20000 in
theorem kX2_collapse_f21 : Cond.fieldLink RX2 21 "TreemapLayout$Placer" "free" "LTreemapLayout$Box;" ∈ wsX2_collapse := by decide +kernel
set_option maxRecDepth 20000 in
theorem kX2_collapse_f41 : Cond.fieldLink RX2 41 "TreemapLayout$Placer" "kidCount" "I" ∈ wsX2_collapse := by decide +kernel
set_option maxRecDepth 20000 in
theorem kX2_collapse_f53 : Cond.fieldLink RX2 53 "TreemapLayout$Box" "left" "I" ∈ wsX2_collapse := by decide +kernel
set_option maxRecDepth 20000 in
theorem kX2_collapse_f56 : Cond.fieldLink RX2 56 "TreemapLayout$Box" "top" "I" ∈ wsX2_collapse := by decide +kernel
set_option maxRecDepth 20000 in
theorem kX2_collapse_f9 : Cond.fieldLink RX2 9 "TreemapLayout$Placer" "kids" "[I" ∈ wsX2_collapse := by decide +kernel
set_option maxRecDepth 20000 in
theorem uX2_collapse_X0 : ∀ w ∈ u_ws RX0 TX0 4, w ∈ wsX2_collapse := by decide +kernel
set_option maxRecDepth 20000 in
theorem uX2_collapse_X2 : ∀ w ∈ u_ws RX2 TX2 8, w ∈ wsX2_collapse := by decide +kernel
set_option maxRecDepth 20000 in
theorem kX2_squarify_f21 : Cond.fieldLink RX2 21 "TreemapLayout$Placer" "free" "LTreemapLayout$Box;" ∈ wsX2_squarify := by decide +kernel
set_option maxRecDepth 20000 in
theorem kX2_squarify_f41 : Cond.fieldLink RX2 41 "TreemapLayout$Placer" "kidCount" "I" ∈ wsX2_squarify := by decide +kernel
set_option maxRecDepth 20000 in
theorem kX2_squarify_f59 : Cond.fieldLink RX2 59 "TreemapLayout$Box" "wide" "I" ∈ wsX2_squarify := by decide +kernel
set_option maxRecDepth 20000 in
theorem kX2_squarify_f62 : Cond.fieldLink RX2 62 "TreemapLayout$Box" "high" "I" ∈ wsX2_squarify := by decide +kernel
set_option maxRecDepth 20000 in
theorem uX2_squarify_X0 : ∀ w ∈ u_ws RX0 TX0 4, w ∈ wsX2_squarify := by decide +kernel
set_option maxRecDepth 20000 in
theorem uX2_squarify_X2 : ∀ w ∈ u_ws RX2 TX2 8, w ∈ wsX2_squarify := by decide +kernel
set_option maxRecDepth 20000 in
theorem kX1_placeChildren_f113 : Cond.fieldLink RX1 113 "TreemapLayout$State" "mode" "I" ∈ wsX1_placeChildren := by decide +kernel
set_option maxRecDepth 20000 in
theorem kX1_placeChildren_f15 : Cond.fieldLink RX1 15 "TreemapLayout$Layout" "depths" "[I" ∈ wsX1_placeChildren := by decide +kernel
set_option maxRecDepth 20000 in
theorem kX1_placeChildren_f18 : Cond.fieldLink RX1 18 "TreemapLayout$Layout" "hidden" "[Z" ∈ wsX1_placeChildren := by decide +kernel
set_option maxRecDepth 20000 in
theorem kX1_placeChildren_f25 : Cond.fieldLink RX1 25 "TreemapLayout$Layout" "rects" "LTreemapLayout$Rects;" ∈ wsX1_placeChildren := by decide +kernel
set_option maxRecDepth 20000 in
theorem kX1_placeChildren_f29 : Cond.fieldLink RX1 29 "TreemapLayout$Layout" "order" "[I" ∈ wsX1_placeChildren := by decide +kernel
set_option maxRecDepth 20000 in
theorem kX1_placeChildren_f32 : Cond.fieldLink RX1 32 "TreemapLayout$Layout" "firstChildren" "[I" ∈ wsX1_placeChildren := by decide +kernel
set_option maxRecDepth 20000 in
theorem kX1_placeChildren_f35 : Cond.fieldLink RX1 35 "TreemapLayout$Layout" "childCounts" "[I" ∈ wsX1_placeChildren := by decide +kernel
set_option maxRecDepth 20000 in
theorem kX1_placeChildren_f41 : Cond.fieldLink RX1 41 "TreemapLayout$Layout" "placer" "LTreemapLayout$Placer;" ∈ wsX1_placeChildren := by decide +kernel
set_option maxRecDepth 20000 in
theorem kX1_placeChildren_f86 : Cond.fieldLink RX1 86 "TreemapLayout$State" "padding" "I" ∈ wsX1_placeChildren := by decide +kernel
set_option maxRecDepth 20000 in
theorem kX1_placeChildren_f89 : Cond.fieldLink RX1 89 "TreemapLayout$Rects" "lefts" "[I" ∈ wsX1_placeChildren := by decide +kernel
set_option maxRecDepth 20000 in
theorem kX1_placeChildren_f9 : Cond.fieldLink RX1 9 "TreemapLayout$Layout" "sizes" "[I" ∈ wsX1_placeChildren := by decide +kernel
set_option maxRecDepth 20000 in
theorem kX1_placeChildren_f92 : Cond.fieldLink RX1 92 "TreemapLayout$Rects" "tops" "[I" ∈ wsX1_placeChildren := by decide +kernel
set_option maxRecDepth 20000 in
theorem kX1_placeChildren_f95 : Cond.fieldLink RX1 95 "TreemapLayout$Rects" "widths" "[I" ∈ wsX1_placeChildren := by decide +kernel
set_option maxRecDepth 20000 in
theorem kX1_placeChildren_f98 : Cond.fieldLink RX1 98 "TreemapLayout$Rects" "heights" "[I" ∈ wsX1_placeChildren := by decide +kernel
set_option maxRecDepth 20000 in
theorem uX1_placeChildren_X1 : ∀ w ∈ u_ws RX1 TX1 8, w ∈ wsX1_placeChildren := by decide +kernel
set_option maxRecDepth 20000 in
theorem uX1_placeChildren_X3 : ∀ w ∈ u_ws RX3 TX3 4, w ∈ wsX1_placeChildren := by decide +kernel
set_option maxRecDepth 20000 in
theorem uX1_placeChildren_X5 : ∀ w ∈ u_ws RX5 TX5 7, w ∈ wsX1_placeChildren := by decide +kernel
set_option maxRecDepth 20000 in
theorem kX1_arrange_f18 : Cond.fieldLink RX1 18 "TreemapLayout$Layout" "hidden" "[Z" ∈ wsX1_arrange := by decide +kernel
set_option maxRecDepth 20000 in
theorem kX1_arrange_f25 : Cond.fieldLink RX1 25 "TreemapLayout$Layout" "rects" "LTreemapLayout$Rects;" ∈ wsX1_arrange := by decide +kernel
set_option maxRecDepth 20000 in
theorem kX1_arrange_f29 : Cond.fieldLink RX1 29 "TreemapLayout$Layout" "order" "[I" ∈ wsX1_arrange := by decide +kernel
set_option maxRecDepth 20000 in
theorem kX1_arrange_f60 : Cond.fieldLink RX1 60 "TreemapLayout$State" "canvasWidth" "I" ∈ wsX1_arrange := by decide +kernel
set_option maxRecDepth 20000 in
theorem kX1_arrange_f66 : Cond.fieldLink RX1 66 "TreemapLayout$State" "canvasHeight" "I" ∈ wsX1_arrange := by decide +kernel
set_option maxRecDepth 20000 in
theorem kX1_arrange_f73 : Cond.fieldLink RX1 73 "TreemapLayout$State" "count" "I" ∈ wsX1_arrange := by decide +kernel
set_option maxRecDepth 20000 in
theorem uX1_arrange_X1 : ∀ w ∈ u_ws RX1 TX1 8, w ∈ wsX1_arrange := by decide +kernel
set_option maxRecDepth 20000 in
theorem uX1_arrange_X5 : ∀ w ∈ u_ws RX5 TX5 7, w ∈ wsX1_arrange := by decide +kernel
set_option maxRecDepth 20000 in
theorem kX3_contain_f15 : Cond.fieldLink RX3 15 "TreemapLayout$Rects" "tops" "[I" ∈ wsX3_contain := by decide +kernel
set_option maxRecDepth 20000 in
theorem kX3_contain_f18 : Cond.fieldLink RX3 18 "TreemapLayout$Rects" "widths" "[I" ∈ wsX3_contain := by decide +kernel
set_option maxRecDepth 20000 in
theorem kX3_contain_f21 : Cond.fieldLink RX3 21 "TreemapLayout$Rects" "heights" "[I" ∈ wsX3_contain := by decide +kernel
set_option maxRecDepth 20000 in
theorem kX3_contain_f9 : Cond.fieldLink RX3 9 "TreemapLayout$Rects" "lefts" "[I" ∈ wsX3_contain := by decide +kernel
set_option maxRecDepth 20000 in
theorem uX3_contain_X3 : ∀ w ∈ u_ws RX3 TX3 4, w ∈ wsX3_contain := by decide +kernel
set_option maxRecDepth 20000 in
theorem kX3_aspect_f18 : Cond.fieldLink RX3 18 "TreemapLayout$Rects" "widths" "[I" ∈ wsX3_aspect := by decide +kernel
set_option maxRecDepth 20000 in
theorem kX3_aspect_f21 : Cond.fieldLink RX3 21 "TreemapLayout$Rects" "heights" "[I" ∈ wsX3_aspect := by decide +kernel
set_option maxRecDepth 20000 in
theorem kX3_aspect_i24 : Cond.initialized "java/lang/Math" ∈ wsX3_aspect := by decide +kernel
set_option maxRecDepth 20000 in
theorem kX3_aspect_i30 : Cond.initialized "java/lang/Math" ∈ wsX3_aspect := by decide +kernel
set_option maxRecDepth 20000 in
theorem kX3_aspect_m24 : Cond.methodLink RX3 24 Lib.Math.max.name ∈ wsX3_aspect := by decide +kernel
set_option maxRecDepth 20000 in
theorem kX3_aspect_m30 : Cond.methodLink RX3 30 Lib.Math.min.name ∈ wsX3_aspect := by decide +kernel
set_option maxRecDepth 20000 in
theorem kX3_aspect_o24 : Cond.code Lib.Math.max.name Lib.Math.max.code 2 (some .int) ∈ wsX3_aspect := by decide +kernel
set_option maxRecDepth 20000 in
theorem kX3_aspect_o30 : Cond.code Lib.Math.min.name Lib.Math.min.code 2 (some .int) ∈ wsX3_aspect := by decide +kernel
set_option maxRecDepth 20000 in
theorem kX3_aspect_s24 : Cond.static Lib.Math.max.name ∈ wsX3_aspect := by decide +kernel
set_option maxRecDepth 20000 in
theorem kX3_aspect_s30 : Cond.static Lib.Math.min.name ∈ wsX3_aspect := by decide +kernel
set_option maxRecDepth 20000 in
theorem uX3_aspect_X3 : ∀ w ∈ u_ws RX3 TX3 4, w ∈ wsX3_aspect := by decide +kernel
set_option maxRecDepth 20000 in
theorem kX3_difference_f15 : Cond.fieldLink RX3 15 "TreemapLayout$Rects" "tops" "[I" ∈ wsX3_difference := by decide +kernel
set_option maxRecDepth 20000 in
theorem kX3_difference_f18 : Cond.fieldLink RX3 18 "TreemapLayout$Rects" "widths" "[I" ∈ wsX3_difference := by decide +kernel
set_option maxRecDepth 20000 in
theorem kX3_difference_f21 : Cond.fieldLink RX3 21 "TreemapLayout$Rects" "heights" "[I" ∈ wsX3_difference := by decide +kernel
set_option maxRecDepth 20000 in
theorem kX3_difference_f9 : Cond.fieldLink RX3 9 "TreemapLayout$Rects" "lefts" "[I" ∈ wsX3_difference := by decide +kernel
set_option maxRecDepth 20000 in
theorem kX3_difference_i33 : Cond.initialized "java/lang/Math" ∈ wsX3_difference := by decide +kernel
set_option maxRecDepth 20000 in
theorem kX3_difference_m33 : Cond.methodLink RX3 33 Lib.Math.abs.name ∈ wsX3_difference := by decide +kernel
set_option maxRecDepth 20000 in
theorem kX3_difference_o33 : Cond.code Lib.Math.abs.name Lib.Math.abs.code 1 (some .int) ∈ wsX3_difference := by decide +kernel
set_option maxRecDepth 20000 in
theorem kX3_difference_s33 : Cond.static Lib.Math.abs.name ∈ wsX3_difference := by decide +kernel
set_option maxRecDepth 20000 in
theorem uX3_difference_X3 : ∀ w ∈ u_ws RX3 TX3 4, w ∈ wsX3_difference := by decide +kernel
set_option maxRecDepth 20000 in
theorem kX5_copyFrom_f15 : Cond.fieldLink RX5 15 "TreemapLayout$State" "parents" "[I" ∈ wsX5_copyFrom := by decide +kernel
set_option maxRecDepth 20000 in
theorem kX5_copyFrom_f18 : Cond.fieldLink RX5 18 "TreemapLayout$State" "count" "I" ∈ wsX5_copyFrom := by decide +kernel
set_option maxRecDepth 20000 in
theorem kX5_copyFrom_f22 : Cond.fieldLink RX5 22 "TreemapLayout$State" "canvasWidth" "I" ∈ wsX5_copyFrom := by decide +kernel
set_option maxRecDepth 20000 in
theorem kX5_copyFrom_f25 : Cond.fieldLink RX5 25 "TreemapLayout$State" "canvasHeight" "I" ∈ wsX5_copyFrom := by decide +kernel
set_option maxRecDepth 20000 in
theorem kX5_copyFrom_f28 : Cond.fieldLink RX5 28 "TreemapLayout$State" "padding" "I" ∈ wsX5_copyFrom := by decide +kernel
set_option maxRecDepth 20000 in
theorem kX5_copyFrom_f31 : Cond.fieldLink RX5 31 "TreemapLayout$State" "mode" "I" ∈ wsX5_copyFrom := by decide +kernel
set_option maxRecDepth 20000 in
theorem kX5_copyFrom_f9 : Cond.fieldLink RX5 9 "TreemapLayout$State" "ownSizes" "[I" ∈ wsX5_copyFrom := by decide +kernel
set_option maxRecDepth 20000 in
theorem kX5_copyFrom_i34 : Cond.initialized "java/lang/System" ∈ wsX5_copyFrom := by decide +kernel
set_option maxRecDepth 20000 in
theorem kX5_copyFrom_m34 : Cond.methodLink RX5 34 arraycopyName ∈ wsX5_copyFrom := by decide +kernel
set_option maxRecDepth 20000 in
theorem kX5_copyFrom_n34 : Cond.native arraycopyName ∈ wsX5_copyFrom := by decide +kernel
set_option maxRecDepth 20000 in
theorem kX5_copyFrom_s34 : Cond.static arraycopyName ∈ wsX5_copyFrom := by decide +kernel
set_option maxRecDepth 20000 in
theorem uX5_copyFrom_X5 : ∀ w ∈ u_ws RX5 TX5 7, w ∈ wsX5_copyFrom := by decide +kernel
set_option maxRecDepth 20000 in
theorem kX5_has_f18 : Cond.fieldLink RX5 18 "TreemapLayout$State" "count" "I" ∈ wsX5_has := by decide +kernel
set_option maxRecDepth 20000 in
theorem uX5_has_X5 : ∀ w ∈ u_ws RX5 TX5 7, w ∈ wsX5_has := by decide +kernel
set_option maxRecDepth 20000 in
theorem kX5_isWithin_f15 : Cond.fieldLink RX5 15 "TreemapLayout$State" "parents" "[I" ∈ wsX5_isWithin := by decide +kernel
set_option maxRecDepth 20000 in
theorem uX5_isWithin_X5 : ∀ w ∈ u_ws RX5 TX5 7, w ∈ wsX5_isWithin := by decide +kernel
set_option maxRecDepth 20000 in
theorem kX5_append_f15 : Cond.fieldLink RX5 15 "TreemapLayout$State" "parents" "[I" ∈ wsX5_append := by decide +kernel
set_option maxRecDepth 20000 in
theorem kX5_append_f18 : Cond.fieldLink RX5 18 "TreemapLayout$State" "count" "I" ∈ wsX5_append := by decide +kernel
set_option maxRecDepth 20000 in
theorem kX5_append_f9 : Cond.fieldLink RX5 9 "TreemapLayout$State" "ownSizes" "[I" ∈ wsX5_append := by decide +kernel
set_option maxRecDepth 20000 in
theorem uX5_append_X5 : ∀ w ∈ u_ws RX5 TX5 7, w ∈ wsX5_append := by decide +kernel
set_option maxRecDepth 20000 in
theorem kX5_takeOut_f15 : Cond.fieldLink RX5 15 "TreemapLayout$State" "parents" "[I" ∈ wsX5_takeOut := by decide +kernel
set_option maxRecDepth 20000 in
theorem kX5_takeOut_f18 : Cond.fieldLink RX5 18 "TreemapLayout$State" "count" "I" ∈ wsX5_takeOut := by decide +kernel
set_option maxRecDepth 20000 in
theorem kX5_takeOut_f9 : Cond.fieldLink RX5 9 "TreemapLayout$State" "ownSizes" "[I" ∈ wsX5_takeOut := by decide +kernel
set_option maxRecDepth 20000 in
theorem uX5_takeOut_X5 : ∀ w ∈ u_ws RX5 TX5 7, w ∈ wsX5_takeOut := by decide +kernel
set_option maxRecDepth 20000 in
theorem kX6_push_f11 : Cond.fieldLink RX6 11 "TreemapLayout$UndoStack" "slots" "[LTreemapLayout$State;" ∈ wsX6_push := by decide +kernel
set_option maxRecDepth 20000 in
theorem kX6_push_f18 : Cond.fieldLink RX6 18 "TreemapLayout$UndoStack" "next" "I" ∈ wsX6_push := by decide +kernel
set_option maxRecDepth 20000 in
theorem kX6_push_f26 : Cond.fieldLink RX6 26 "TreemapLayout$UndoStack" "count" "I" ∈ wsX6_push := by decide +kernel
set_option maxRecDepth 20000 in
theorem uX6_push_X6 : ∀ w ∈ u_ws RX6 TX6 3, w ∈ wsX6_push := by decide +kernel
set_option maxRecDepth 20000 in
theorem kX6_popInto_f11 : Cond.fieldLink RX6 11 "TreemapLayout$UndoStack" "slots" "[LTreemapLayout$State;" ∈ wsX6_popInto := by decide +kernel
set_option maxRecDepth 20000 in
theorem kX6_popInto_f18 : Cond.fieldLink RX6 18 "TreemapLayout$UndoStack" "next" "I" ∈ wsX6_popInto := by decide +kernel
set_option maxRecDepth 20000 in
theorem kX6_popInto_f26 : Cond.fieldLink RX6 26 "TreemapLayout$UndoStack" "count" "I" ∈ wsX6_popInto := by decide +kernel
set_option maxRecDepth 20000 in
theorem uX6_popInto_X6 : ∀ w ∈ u_ws RX6 TX6 3, w ∈ wsX6_popInto := by decide +kernel
set_option maxRecDepth 20000 in
theorem kX7_failInvalid_f158 : Cond.fieldLink RX7 158 "TreemapLayout" "invalidCalls" "I" ∈ wsX7_failInvalid := by decide +kernel
set_option maxRecDepth 20000 in
theorem uX7_failInvalid_X7 : ∀ w ∈ u_ws RX7 TX7 8, w ∈ wsX7_failInvalid := by decide +kernel

set_option maxRecDepth 20000 in
theorem kX7_failFull_f164 : Cond.fieldLink RX7 164 "TreemapLayout" "fullCalls" "I" ∈ wsX7_failFull := by decide +kernel
set_option maxRecDepth 20000 in
theorem uX7_failFull_X7 : ∀ w ∈ u_ws RX7 TX7 8, w ∈ wsX7_failFull := by decide +kernel
set_option maxRecDepth 20000 in
theorem kX7_addNode_f10 : Cond.fieldLink RX7 10 "TreemapLayout" "state" "LTreemapLayout$State;" ∈ wsX7_addNode := by decide +kernel
set_option maxRecDepth 20000 in
theorem kX7_addNode_f19 : Cond.fieldLink RX7 19 "TreemapLayout" "layout" "LTreemapLayout$Layout;" ∈ wsX7_addNode := by decide +kernel
set_option maxRecDepth 20000 in
theorem kX7_addNode_f26 : Cond.fieldLink RX7 26 "TreemapLayout" "saved" "LTreemapLayout$UndoStack;" ∈ wsX7_addNode := by decide +kernel
set_option maxRecDepth 20000 in
theorem kX7_addNode_f51 : Cond.fieldLink RX7 51 "TreemapLayout$State" "count" "I" ∈ wsX7_addNode := by decide +kernel
set_option maxRecDepth 20000 in
theorem uX7_addNode_X5 : ∀ w ∈ u_ws RX5 TX5 7, w ∈ wsX7_addNode := by decide +kernel
set_option maxRecDepth 20000 in
theorem uX7_addNode_X7 : ∀ w ∈ u_ws RX7 TX7 8, w ∈ wsX7_addNode := by decide +kernel
set_option maxRecDepth 20000 in
theorem kX7_setSize_f10 : Cond.fieldLink RX7 10 "TreemapLayout" "state" "LTreemapLayout$State;" ∈ wsX7_setSize := by decide +kernel
set_option maxRecDepth 20000 in
theorem kX7_setSize_f19 : Cond.fieldLink RX7 19 "TreemapLayout" "layout" "LTreemapLayout$Layout;" ∈ wsX7_setSize := by decide +kernel
set_option maxRecDepth 20000 in
theorem kX7_setSize_f26 : Cond.fieldLink RX7 26 "TreemapLayout" "saved" "LTreemapLayout$UndoStack;" ∈ wsX7_setSize := by decide +kernel
set_option maxRecDepth 20000 in
theorem kX7_setSize_f65 : Cond.fieldLink RX7 65 "TreemapLayout$State" "ownSizes" "[I" ∈ wsX7_setSize := by decide +kernel
set_option maxRecDepth 20000 in
theorem uX7_setSize_X5 : ∀ w ∈ u_ws RX5 TX5 7, w ∈ wsX7_setSize := by decide +kernel
set_option maxRecDepth 20000 in
theorem uX7_setSize_X7 : ∀ w ∈ u_ws RX7 TX7 8, w ∈ wsX7_setSize := by decide +kernel
set_option maxRecDepth 20000 in
theorem kX7_failRejected_f161 : Cond.fieldLink RX7 161 "TreemapLayout" "rejectedCalls" "I" ∈ wsX7_failRejected := by decide +kernel
set_option maxRecDepth 20000 in
theorem uX7_failRejected_X7 : ∀ w ∈ u_ws RX7 TX7 8, w ∈ wsX7_failRejected := by decide +kernel
set_option maxRecDepth 20000 in
theorem kX7_removeLeaf_f10 : Cond.fieldLink RX7 10 "TreemapLayout" "state" "LTreemapLayout$State;" ∈ wsX7_removeLeaf := by decide +kernel
set_option maxRecDepth 20000 in
theorem kX7_removeLeaf_f19 : Cond.fieldLink RX7 19 "TreemapLayout" "layout" "LTreemapLayout$Layout;" ∈ wsX7_removeLeaf := by decide +kernel
set_option maxRecDepth 20000 in
theorem kX7_removeLeaf_f26 : Cond.fieldLink RX7 26 "TreemapLayout" "saved" "LTreemapLayout$UndoStack;" ∈ wsX7_removeLeaf := by decide +kernel
set_option maxRecDepth 20000 in
theorem kX7_removeLeaf_f51 : Cond.fieldLink RX7 51 "TreemapLayout$State" "count" "I" ∈ wsX7_removeLeaf := by decide +kernel
set_option maxRecDepth 20000 in
theorem uX7_removeLeaf_X5 : ∀ w ∈ u_ws RX5 TX5 7, w ∈ wsX7_removeLeaf := by decide +kernel
set_option maxRecDepth 20000 in
theorem uX7_removeLeaf_X7 : ∀ w ∈ u_ws RX7 TX7 8, w ∈ wsX7_removeLeaf := by decide +kernel
set_option maxRecDepth 20000 in
theorem kX7_setParent_f10 : Cond.fieldLink RX7 10 "TreemapLayout" "state" "LTreemapLayout$State;" ∈ wsX7_setParent := by decide +kernel
set_option maxRecDepth 20000 in
theorem kX7_setParent_f19 : Cond.fieldLink RX7 19 "TreemapLayout" "layout" "LTreemapLayout$Layout;" ∈ wsX7_setParent := by decide +kernel
set_option maxRecDepth 20000 in
theorem kX7_setParent_f26 : Cond.fieldLink RX7 26 "TreemapLayout" "saved" "LTreemapLayout$UndoStack;" ∈ wsX7_setParent := by decide +kernel
set_option maxRecDepth 20000 in
theorem kX7_setParent_f83 : Cond.fieldLink RX7 83 "TreemapLayout$State" "parents" "[I" ∈ wsX7_setParent := by decide +kernel
set_option maxRecDepth 20000 in
theorem uX7_setParent_X5 : ∀ w ∈ u_ws RX5 TX5 7, w ∈ wsX7_setParent := by decide +kernel
set_option maxRecDepth 20000 in
theorem uX7_setParent_X7 : ∀ w ∈ u_ws RX7 TX7 8, w ∈ wsX7_setParent := by decide +kernel

set_option maxRecDepth 20000 in
theorem kX7_setCanvas_f10 : Cond.fieldLink RX7 10 "TreemapLayout" "state" "LTreemapLayout$State;" ∈ wsX7_setCanvas := by decide +kernel
set_option maxRecDepth 20000 in
theorem kX7_setCanvas_f19 : Cond.fieldLink RX7 19 "TreemapLayout" "layout" "LTreemapLayout$Layout;" ∈ wsX7_setCanvas := by decide +kernel
set_option maxRecDepth 20000 in
theorem kX7_setCanvas_f26 : Cond.fieldLink RX7 26 "TreemapLayout" "saved" "LTreemapLayout$UndoStack;" ∈ wsX7_setCanvas := by decide +kernel
set_option maxRecDepth 20000 in
theorem kX7_setCanvas_f89 : Cond.fieldLink RX7 89 "TreemapLayout$State" "canvasWidth" "I" ∈ wsX7_setCanvas := by decide +kernel
set_option maxRecDepth 20000 in
theorem kX7_setCanvas_f92 : Cond.fieldLink RX7 92 "TreemapLayout$State" "canvasHeight" "I" ∈ wsX7_setCanvas := by decide +kernel
set_option maxRecDepth 20000 in
theorem uX7_setCanvas_X5 : ∀ w ∈ u_ws RX5 TX5 7, w ∈ wsX7_setCanvas := by decide +kernel
set_option maxRecDepth 20000 in
theorem uX7_setCanvas_X7 : ∀ w ∈ u_ws RX7 TX7 8, w ∈ wsX7_setCanvas := by decide +kernel
set_option maxRecDepth 20000 in
theorem kX7_setPadding_f10 : Cond.fieldLink RX7 10 "TreemapLayout" "state" "LTreemapLayout$State;" ∈ wsX7_setPadding := by decide +kernel
set_option maxRecDepth 20000 in
theorem kX7_setPadding_f19 : Cond.fieldLink RX7 19 "TreemapLayout" "layout" "LTreemapLayout$Layout;" ∈ wsX7_setPadding := by decide +kernel
set_option maxRecDepth 20000 in
theorem kX7_setPadding_f26 : Cond.fieldLink RX7 26 "TreemapLayout" "saved" "LTreemapLayout$UndoStack;" ∈ wsX7_setPadding := by decide +kernel
set_option maxRecDepth 20000 in
theorem kX7_setPadding_f95 : Cond.fieldLink RX7 95 "TreemapLayout$State" "padding" "I" ∈ wsX7_setPadding := by decide +kernel
set_option maxRecDepth 20000 in
theorem uX7_setPadding_X5 : ∀ w ∈ u_ws RX5 TX5 7, w ∈ wsX7_setPadding := by decide +kernel
set_option maxRecDepth 20000 in
theorem uX7_setPadding_X7 : ∀ w ∈ u_ws RX7 TX7 8, w ∈ wsX7_setPadding := by decide +kernel
set_option maxRecDepth 20000 in
theorem kX7_setMode_f10 : Cond.fieldLink RX7 10 "TreemapLayout" "state" "LTreemapLayout$State;" ∈ wsX7_setMode := by decide +kernel
set_option maxRecDepth 20000 in
theorem kX7_setMode_f19 : Cond.fieldLink RX7 19 "TreemapLayout" "layout" "LTreemapLayout$Layout;" ∈ wsX7_setMode := by decide +kernel
set_option maxRecDepth 20000 in
theorem kX7_setMode_f26 : Cond.fieldLink RX7 26 "TreemapLayout" "saved" "LTreemapLayout$UndoStack;" ∈ wsX7_setMode := by decide +kernel
set_option maxRecDepth 20000 in
theorem kX7_setMode_f98 : Cond.fieldLink RX7 98 "TreemapLayout$State" "mode" "I" ∈ wsX7_setMode := by decide +kernel
set_option maxRecDepth 20000 in
theorem uX7_setMode_X5 : ∀ w ∈ u_ws RX5 TX5 7, w ∈ wsX7_setMode := by decide +kernel
set_option maxRecDepth 20000 in
theorem uX7_setMode_X7 : ∀ w ∈ u_ws RX7 TX7 8, w ∈ wsX7_setMode := by decide +kernel
set_option maxRecDepth 20000 in
theorem kX7_nodeCount_f10 : Cond.fieldLink RX7 10 "TreemapLayout" "state" "LTreemapLayout$State;" ∈ wsX7_nodeCount := by decide +kernel
set_option maxRecDepth 20000 in
theorem kX7_nodeCount_f51 : Cond.fieldLink RX7 51 "TreemapLayout$State" "count" "I" ∈ wsX7_nodeCount := by decide +kernel
set_option maxRecDepth 20000 in
theorem uX7_nodeCount_X5 : ∀ w ∈ u_ws RX5 TX5 7, w ∈ wsX7_nodeCount := by decide +kernel
set_option maxRecDepth 20000 in
theorem uX7_nodeCount_X7 : ∀ w ∈ u_ws RX7 TX7 8, w ∈ wsX7_nodeCount := by decide +kernel
set_option maxRecDepth 20000 in
theorem kX7_size_f10 : Cond.fieldLink RX7 10 "TreemapLayout" "state" "LTreemapLayout$State;" ∈ wsX7_size := by decide +kernel
set_option maxRecDepth 20000 in
theorem kX7_size_f101 : Cond.fieldLink RX7 101 "TreemapLayout$Layout" "sizes" "[I" ∈ wsX7_size := by decide +kernel
set_option maxRecDepth 20000 in
theorem kX7_size_f19 : Cond.fieldLink RX7 19 "TreemapLayout" "layout" "LTreemapLayout$Layout;" ∈ wsX7_size := by decide +kernel
set_option maxRecDepth 20000 in
theorem uX7_size_X1 : ∀ w ∈ u_ws RX1 TX1 8, w ∈ wsX7_size := by decide +kernel
set_option maxRecDepth 20000 in
theorem uX7_size_X7 : ∀ w ∈ u_ws RX7 TX7 8, w ∈ wsX7_size := by decide +kernel
set_option maxRecDepth 20000 in
theorem kX7_parent_f10 : Cond.fieldLink RX7 10 "TreemapLayout" "state" "LTreemapLayout$State;" ∈ wsX7_parent := by decide +kernel
set_option maxRecDepth 20000 in
theorem kX7_parent_f83 : Cond.fieldLink RX7 83 "TreemapLayout$State" "parents" "[I" ∈ wsX7_parent := by decide +kernel
set_option maxRecDepth 20000 in
theorem uX7_parent_X5 : ∀ w ∈ u_ws RX5 TX5 7, w ∈ wsX7_parent := by decide +kernel
set_option maxRecDepth 20000 in
theorem uX7_parent_X7 : ∀ w ∈ u_ws RX7 TX7 8, w ∈ wsX7_parent := by decide +kernel
set_option maxRecDepth 20000 in
theorem kX7_depth_f10 : Cond.fieldLink RX7 10 "TreemapLayout" "state" "LTreemapLayout$State;" ∈ wsX7_depth := by decide +kernel
set_option maxRecDepth 20000 in
theorem kX7_depth_f104 : Cond.fieldLink RX7 104 "TreemapLayout$Layout" "depths" "[I" ∈ wsX7_depth := by decide +kernel
set_option maxRecDepth 20000 in
theorem kX7_depth_f19 : Cond.fieldLink RX7 19 "TreemapLayout" "layout" "LTreemapLayout$Layout;" ∈ wsX7_depth := by decide +kernel
set_option maxRecDepth 20000 in
theorem uX7_depth_X1 : ∀ w ∈ u_ws RX1 TX1 8, w ∈ wsX7_depth := by decide +kernel
set_option maxRecDepth 20000 in
theorem uX7_depth_X7 : ∀ w ∈ u_ws RX7 TX7 8, w ∈ wsX7_depth := by decide +kernel
set_option maxRecDepth 20000 in
theorem kX7_leafCount_f10 : Cond.fieldLink RX7 10 "TreemapLayout" "state" "LTreemapLayout$State;" ∈ wsX7_leafCount := by decide +kernel
set_option maxRecDepth 20000 in
theorem kX7_leafCount_f19 : Cond.fieldLink RX7 19 "TreemapLayout" "layout" "LTreemapLayout$Layout;" ∈ wsX7_leafCount := by decide +kernel
set_option maxRecDepth 20000 in
theorem kX7_leafCount_f51 : Cond.fieldLink RX7 51 "TreemapLayout$State" "count" "I" ∈ wsX7_leafCount := by decide +kernel
set_option maxRecDepth 20000 in
theorem uX7_leafCount_X5 : ∀ w ∈ u_ws RX5 TX5 7, w ∈ wsX7_leafCount := by decide +kernel
set_option maxRecDepth 20000 in
theorem uX7_leafCount_X7 : ∀ w ∈ u_ws RX7 TX7 8, w ∈ wsX7_leafCount := by decide +kernel
set_option maxRecDepth 20000 in
theorem kX7_x_f10 : Cond.fieldLink RX7 10 "TreemapLayout" "state" "LTreemapLayout$State;" ∈ wsX7_x := by decide +kernel
set_option maxRecDepth 20000 in
theorem kX7_x_f107 : Cond.fieldLink RX7 107 "TreemapLayout$Layout" "rects" "LTreemapLayout$Rects;" ∈ wsX7_x := by decide +kernel
set_option maxRecDepth 20000 in
theorem kX7_x_f111 : Cond.fieldLink RX7 111 "TreemapLayout$Rects" "lefts" "[I" ∈ wsX7_x := by decide +kernel
set_option maxRecDepth 20000 in
theorem kX7_x_f19 : Cond.fieldLink RX7 19 "TreemapLayout" "layout" "LTreemapLayout$Layout;" ∈ wsX7_x := by decide +kernel
set_option maxRecDepth 20000 in
theorem uX7_x_X1 : ∀ w ∈ u_ws RX1 TX1 8, w ∈ wsX7_x := by decide +kernel
set_option maxRecDepth 20000 in
theorem uX7_x_X3 : ∀ w ∈ u_ws RX3 TX3 4, w ∈ wsX7_x := by decide +kernel
set_option maxRecDepth 20000 in
theorem uX7_x_X7 : ∀ w ∈ u_ws RX7 TX7 8, w ∈ wsX7_x := by decide +kernel
set_option maxRecDepth 20000 in
theorem kX7_y_f10 : Cond.fieldLink RX7 10 "TreemapLayout" "state" "LTreemapLayout$State;" ∈ wsX7_y := by decide +kernel
set_option maxRecDepth 20000 in
theorem kX7_y_f107 : Cond.fieldLink RX7 107 "TreemapLayout$Layout" "rects" "LTreemapLayout$Rects;" ∈ wsX7_y := by decide +kernel
set_option maxRecDepth 20000 in
theorem kX7_y_f116 : Cond.fieldLink RX7 116 "TreemapLayout$Rects" "tops" "[I" ∈ wsX7_y := by decide +kernel
set_option maxRecDepth 20000 in
theorem kX7_y_f19 : Cond.fieldLink RX7 19 "TreemapLayout" "layout" "LTreemapLayout$Layout;" ∈ wsX7_y := by decide +kernel
set_option maxRecDepth 20000 in
theorem uX7_y_X1 : ∀ w ∈ u_ws RX1 TX1 8, w ∈ wsX7_y := by decide +kernel
set_option maxRecDepth 20000 in
theorem uX7_y_X3 : ∀ w ∈ u_ws RX3 TX3 4, w ∈ wsX7_y := by decide +kernel
set_option maxRecDepth 20000 in
theorem uX7_y_X7 : ∀ w ∈ u_ws RX7 TX7 8, w ∈ wsX7_y := by decide +kernel
set_option maxRecDepth 20000 in
theorem kX7_width_f10 : Cond.fieldLink RX7 10 "TreemapLayout" "state" "LTreemapLayout$State;" ∈ wsX7_width := by decide +kernel
set_option maxRecDepth 20000 in
theorem kX7_width_f107 : Cond.fieldLink RX7 107 "TreemapLayout$Layout" "rects" "LTreemapLayout$Rects;" ∈ wsX7_width := by decide +kernel
set_option maxRecDepth 20000 in
theorem kX7_width_f119 : Cond.fieldLink RX7 119 "TreemapLayout$Rects" "widths" "[I" ∈ wsX7_width := by decide +kernel
set_option maxRecDepth 20000 in
theorem kX7_width_f19 : Cond.fieldLink RX7 19 "TreemapLayout" "layout" "LTreemapLayout$Layout;" ∈ wsX7_width := by decide +kernel
set_option maxRecDepth 20000 in
theorem uX7_width_X1 : ∀ w ∈ u_ws RX1 TX1 8, w ∈ wsX7_width := by decide +kernel
set_option maxRecDepth 20000 in
theorem uX7_width_X3 : ∀ w ∈ u_ws RX3 TX3 4, w ∈ wsX7_width := by decide +kernel
set_option maxRecDepth 20000 in
theorem uX7_width_X7 : ∀ w ∈ u_ws RX7 TX7 8, w ∈ wsX7_width := by decide +kernel
set_option maxRecDepth 20000 in
theorem kX7_height_f10 : Cond.fieldLink RX7 10 "TreemapLayout" "state" "LTreemapLayout$State;" ∈ wsX7_height := by decide +kernel
set_option maxRecDepth 20000 in
theorem kX7_height_f107 : Cond.fieldLink RX7 107 "TreemapLayout$Layout" "rects" "LTreemapLayout$Rects;" ∈ wsX7_height := by decide +kernel
set_option maxRecDepth 20000 in
theorem kX7_height_f122 : Cond.fieldLink RX7 122 "TreemapLayout$Rects" "heights" "[I" ∈ wsX7_height := by decide +kernel
set_option maxRecDepth 20000 in
theorem kX7_height_f19 : Cond.fieldLink RX7 19 "TreemapLayout" "layout" "LTreemapLayout$Layout;" ∈ wsX7_height := by decide +kernel
set_option maxRecDepth 20000 in
theorem uX7_height_X1 : ∀ w ∈ u_ws RX1 TX1 8, w ∈ wsX7_height := by decide +kernel
set_option maxRecDepth 20000 in
theorem uX7_height_X3 : ∀ w ∈ u_ws RX3 TX3 4, w ∈ wsX7_height := by decide +kernel
set_option maxRecDepth 20000 in
theorem uX7_height_X7 : ∀ w ∈ u_ws RX7 TX7 8, w ∈ wsX7_height := by decide +kernel
set_option maxRecDepth 20000 in
theorem kX7_hiddenFlag_f187 : Cond.fieldLink RX7 187 "TreemapLayout$Layout" "hidden" "[Z" ∈ wsX7_hiddenFlag := by decide +kernel
set_option maxRecDepth 20000 in
theorem kX7_hiddenFlag_f19 : Cond.fieldLink RX7 19 "TreemapLayout" "layout" "LTreemapLayout$Layout;" ∈ wsX7_hiddenFlag := by decide +kernel
set_option maxRecDepth 20000 in
theorem uX7_hiddenFlag_X1 : ∀ w ∈ u_ws RX1 TX1 8, w ∈ wsX7_hiddenFlag := by decide +kernel
set_option maxRecDepth 20000 in
theorem uX7_hiddenFlag_X7 : ∀ w ∈ u_ws RX7 TX7 8, w ∈ wsX7_hiddenFlag := by decide +kernel
set_option maxRecDepth 20000 in
theorem kX7_isHidden_f10 : Cond.fieldLink RX7 10 "TreemapLayout" "state" "LTreemapLayout$State;" ∈ wsX7_isHidden := by decide +kernel
set_option maxRecDepth 20000 in
theorem uX7_isHidden_X7 : ∀ w ∈ u_ws RX7 TX7 8, w ∈ wsX7_isHidden := by decide +kernel
set_option maxRecDepth 20000 in
theorem kX7_nodeAt_f10 : Cond.fieldLink RX7 10 "TreemapLayout" "state" "LTreemapLayout$State;" ∈ wsX7_nodeAt := by decide +kernel
set_option maxRecDepth 20000 in
theorem kX7_nodeAt_f104 : Cond.fieldLink RX7 104 "TreemapLayout$Layout" "depths" "[I" ∈ wsX7_nodeAt := by decide +kernel
set_option maxRecDepth 20000 in
theorem kX7_nodeAt_f107 : Cond.fieldLink RX7 107 "TreemapLayout$Layout" "rects" "LTreemapLayout$Rects;" ∈ wsX7_nodeAt := by decide +kernel
set_option maxRecDepth 20000 in
theorem kX7_nodeAt_f19 : Cond.fieldLink RX7 19 "TreemapLayout" "layout" "LTreemapLayout$Layout;" ∈ wsX7_nodeAt := by decide +kernel
set_option maxRecDepth 20000 in
theorem kX7_nodeAt_f51 : Cond.fieldLink RX7 51 "TreemapLayout$State" "count" "I" ∈ wsX7_nodeAt := by decide +kernel
set_option maxRecDepth 20000 in
theorem kX7_nodeAt_f89 : Cond.fieldLink RX7 89 "TreemapLayout$State" "canvasWidth" "I" ∈ wsX7_nodeAt := by decide +kernel
set_option maxRecDepth 20000 in
theorem kX7_nodeAt_f92 : Cond.fieldLink RX7 92 "TreemapLayout$State" "canvasHeight" "I" ∈ wsX7_nodeAt := by decide +kernel
set_option maxRecDepth 20000 in
theorem uX7_nodeAt_X1 : ∀ w ∈ u_ws RX1 TX1 8, w ∈ wsX7_nodeAt := by decide +kernel
set_option maxRecDepth 20000 in
theorem uX7_nodeAt_X5 : ∀ w ∈ u_ws RX5 TX5 7, w ∈ wsX7_nodeAt := by decide +kernel
set_option maxRecDepth 20000 in
theorem uX7_nodeAt_X7 : ∀ w ∈ u_ws RX7 TX7 8, w ∈ wsX7_nodeAt := by decide +kernel
set_option maxRecDepth 20000 in
theorem kX7_leafPixels_f10 : Cond.fieldLink RX7 10 "TreemapLayout" "state" "LTreemapLayout$State;" ∈ wsX7_leafPixels := by decide +kernel
set_option maxRecDepth 20000 in
theorem kX7_leafPixels_f107 : Cond.fieldLink RX7 107 "TreemapLayout$Layout" "rects" "LTreemapLayout$Rects;" ∈ wsX7_leafPixels := by decide +kernel
set_option maxRecDepth 20000 in
theorem kX7_leafPixels_f19 : Cond.fieldLink RX7 19 "TreemapLayout" "layout" "LTreemapLayout$Layout;" ∈ wsX7_leafPixels := by decide +kernel
set_option maxRecDepth 20000 in
theorem kX7_leafPixels_f51 : Cond.fieldLink RX7 51 "TreemapLayout$State" "count" "I" ∈ wsX7_leafPixels := by decide +kernel
set_option maxRecDepth 20000 in
theorem uX7_leafPixels_X1 : ∀ w ∈ u_ws RX1 TX1 8, w ∈ wsX7_leafPixels := by decide +kernel
set_option maxRecDepth 20000 in
theorem uX7_leafPixels_X5 : ∀ w ∈ u_ws RX5 TX5 7, w ∈ wsX7_leafPixels := by decide +kernel
set_option maxRecDepth 20000 in
theorem uX7_leafPixels_X7 : ∀ w ∈ u_ws RX7 TX7 8, w ∈ wsX7_leafPixels := by decide +kernel
set_option maxRecDepth 20000 in
theorem kX7_floatBits_c191 : Cond.constantFloat RX7 191 1258291200 ∈ wsX7_floatBits := by decide +kernel
set_option maxRecDepth 20000 in
theorem kX7_floatBits_c192 : Cond.constant RX7 192 8388608 ∈ wsX7_floatBits := by decide +kernel
set_option maxRecDepth 20000 in
theorem kX7_worstAspect_f10 : Cond.fieldLink RX7 10 "TreemapLayout" "state" "LTreemapLayout$State;" ∈ wsX7_worstAspect := by decide +kernel
set_option maxRecDepth 20000 in
theorem kX7_worstAspect_f107 : Cond.fieldLink RX7 107 "TreemapLayout$Layout" "rects" "LTreemapLayout$Rects;" ∈ wsX7_worstAspect := by decide +kernel
set_option maxRecDepth 20000 in
theorem kX7_worstAspect_f19 : Cond.fieldLink RX7 19 "TreemapLayout" "layout" "LTreemapLayout$Layout;" ∈ wsX7_worstAspect := by decide +kernel
set_option maxRecDepth 20000 in
theorem kX7_worstAspect_f51 : Cond.fieldLink RX7 51 "TreemapLayout$State" "count" "I" ∈ wsX7_worstAspect := by decide +kernel
set_option maxRecDepth 20000 in
theorem uX7_worstAspect_X1 : ∀ w ∈ u_ws RX1 TX1 8, w ∈ wsX7_worstAspect := by decide +kernel
set_option maxRecDepth 20000 in
theorem uX7_worstAspect_X5 : ∀ w ∈ u_ws RX5 TX5 7, w ∈ wsX7_worstAspect := by decide +kernel
set_option maxRecDepth 20000 in
theorem uX7_worstAspect_X7 : ∀ w ∈ u_ws RX7 TX7 8, w ∈ wsX7_worstAspect := by decide +kernel
set_option maxRecDepth 20000 in
theorem kX7_averageAspect_f10 : Cond.fieldLink RX7 10 "TreemapLayout" "state" "LTreemapLayout$State;" ∈ wsX7_averageAspect := by decide +kernel
set_option maxRecDepth 20000 in
theorem kX7_averageAspect_f107 : Cond.fieldLink RX7 107 "TreemapLayout$Layout" "rects" "LTreemapLayout$Rects;" ∈ wsX7_averageAspect := by decide +kernel
set_option maxRecDepth 20000 in
theorem kX7_averageAspect_f19 : Cond.fieldLink RX7 19 "TreemapLayout" "layout" "LTreemapLayout$Layout;" ∈ wsX7_averageAspect := by decide +kernel
set_option maxRecDepth 20000 in
theorem kX7_averageAspect_f51 : Cond.fieldLink RX7 51 "TreemapLayout$State" "count" "I" ∈ wsX7_averageAspect := by decide +kernel
set_option maxRecDepth 20000 in
theorem uX7_averageAspect_X1 : ∀ w ∈ u_ws RX1 TX1 8, w ∈ wsX7_averageAspect := by decide +kernel
set_option maxRecDepth 20000 in
theorem uX7_averageAspect_X5 : ∀ w ∈ u_ws RX5 TX5 7, w ∈ wsX7_averageAspect := by decide +kernel
set_option maxRecDepth 20000 in
theorem uX7_averageAspect_X7 : ∀ w ∈ u_ws RX7 TX7 8, w ∈ wsX7_averageAspect := by decide +kernel
set_option maxRecDepth 20000 in
theorem kX7_changeBy_f10 : Cond.fieldLink RX7 10 "TreemapLayout" "state" "LTreemapLayout$State;" ∈ wsX7_changeBy := by decide +kernel
set_option maxRecDepth 20000 in
theorem kX7_changeBy_f107 : Cond.fieldLink RX7 107 "TreemapLayout$Layout" "rects" "LTreemapLayout$Rects;" ∈ wsX7_changeBy := by decide +kernel
set_option maxRecDepth 20000 in
theorem kX7_changeBy_f19 : Cond.fieldLink RX7 19 "TreemapLayout" "layout" "LTreemapLayout$Layout;" ∈ wsX7_changeBy := by decide +kernel
set_option maxRecDepth 20000 in
theorem kX7_changeBy_f30 : Cond.fieldLink RX7 30 "TreemapLayout" "trialState" "LTreemapLayout$State;" ∈ wsX7_changeBy := by decide +kernel
set_option maxRecDepth 20000 in
theorem kX7_changeBy_f33 : Cond.fieldLink RX7 33 "TreemapLayout" "trialLayout" "LTreemapLayout$Layout;" ∈ wsX7_changeBy := by decide +kernel
set_option maxRecDepth 20000 in
theorem kX7_changeBy_f51 : Cond.fieldLink RX7 51 "TreemapLayout$State" "count" "I" ∈ wsX7_changeBy := by decide +kernel
set_option maxRecDepth 20000 in
theorem kX7_changeBy_f65 : Cond.fieldLink RX7 65 "TreemapLayout$State" "ownSizes" "[I" ∈ wsX7_changeBy := by decide +kernel
set_option maxRecDepth 20000 in
theorem uX7_changeBy_X1 : ∀ w ∈ u_ws RX1 TX1 8, w ∈ wsX7_changeBy := by decide +kernel
set_option maxRecDepth 20000 in
theorem uX7_changeBy_X5 : ∀ w ∈ u_ws RX5 TX5 7, w ∈ wsX7_changeBy := by decide +kernel
set_option maxRecDepth 20000 in
theorem uX7_changeBy_X7 : ∀ w ∈ u_ws RX7 TX7 8, w ∈ wsX7_changeBy := by decide +kernel
set_option maxRecDepth 20000 in
theorem kX7_undo_f10 : Cond.fieldLink RX7 10 "TreemapLayout" "state" "LTreemapLayout$State;" ∈ wsX7_undo := by decide +kernel
set_option maxRecDepth 20000 in
theorem kX7_undo_f154 : Cond.fieldLink RX7 154 "TreemapLayout$UndoStack" "count" "I" ∈ wsX7_undo := by decide +kernel
set_option maxRecDepth 20000 in
theorem kX7_undo_f19 : Cond.fieldLink RX7 19 "TreemapLayout" "layout" "LTreemapLayout$Layout;" ∈ wsX7_undo := by decide +kernel
set_option maxRecDepth 20000 in
theorem kX7_undo_f26 : Cond.fieldLink RX7 26 "TreemapLayout" "saved" "LTreemapLayout$UndoStack;" ∈ wsX7_undo := by decide +kernel
set_option maxRecDepth 20000 in
theorem uX7_undo_X6 : ∀ w ∈ u_ws RX6 TX6 3, w ∈ wsX7_undo := by decide +kernel
set_option maxRecDepth 20000 in
theorem uX7_undo_X7 : ∀ w ∈ u_ws RX7 TX7 8, w ∈ wsX7_undo := by decide +kernel
set_option maxRecDepth 20000 in
theorem kX7_errorCount_f158 : Cond.fieldLink RX7 158 "TreemapLayout" "invalidCalls" "I" ∈ wsX7_errorCount := by decide +kernel
set_option maxRecDepth 20000 in
theorem kX7_errorCount_f161 : Cond.fieldLink RX7 161 "TreemapLayout" "rejectedCalls" "I" ∈ wsX7_errorCount := by decide +kernel
set_option maxRecDepth 20000 in
theorem kX7_errorCount_f164 : Cond.fieldLink RX7 164 "TreemapLayout" "fullCalls" "I" ∈ wsX7_errorCount := by decide +kernel
set_option maxRecDepth 20000 in
theorem uX7_errorCount_X7 : ∀ w ∈ u_ws RX7 TX7 8, w ∈ wsX7_errorCount := by decide +kernel
set_option maxRecDepth 20000 in
theorem kX7_mix_c185 : Cond.constantLong RX7 185 31 ∈ wsX7_mix := by decide +kernel
set_option maxRecDepth 20000 in
theorem kX7_mixNode_f10 : Cond.fieldLink RX7 10 "TreemapLayout" "state" "LTreemapLayout$State;" ∈ wsX7_mixNode := by decide +kernel
set_option maxRecDepth 20000 in
theorem kX7_mixNode_f101 : Cond.fieldLink RX7 101 "TreemapLayout$Layout" "sizes" "[I" ∈ wsX7_mixNode := by decide +kernel
set_option maxRecDepth 20000 in
theorem kX7_mixNode_f107 : Cond.fieldLink RX7 107 "TreemapLayout$Layout" "rects" "LTreemapLayout$Rects;" ∈ wsX7_mixNode := by decide +kernel
set_option maxRecDepth 20000 in
theorem kX7_mixNode_f111 : Cond.fieldLink RX7 111 "TreemapLayout$Rects" "lefts" "[I" ∈ wsX7_mixNode := by decide +kernel
set_option maxRecDepth 20000 in
theorem kX7_mixNode_f116 : Cond.fieldLink RX7 116 "TreemapLayout$Rects" "tops" "[I" ∈ wsX7_mixNode := by decide +kernel
set_option maxRecDepth 20000 in
theorem kX7_mixNode_f119 : Cond.fieldLink RX7 119 "TreemapLayout$Rects" "widths" "[I" ∈ wsX7_mixNode := by decide +kernel
set_option maxRecDepth 20000 in
theorem kX7_mixNode_f122 : Cond.fieldLink RX7 122 "TreemapLayout$Rects" "heights" "[I" ∈ wsX7_mixNode := by decide +kernel
set_option maxRecDepth 20000 in
theorem kX7_mixNode_f19 : Cond.fieldLink RX7 19 "TreemapLayout" "layout" "LTreemapLayout$Layout;" ∈ wsX7_mixNode := by decide +kernel
set_option maxRecDepth 20000 in
theorem kX7_mixNode_f65 : Cond.fieldLink RX7 65 "TreemapLayout$State" "ownSizes" "[I" ∈ wsX7_mixNode := by decide +kernel
set_option maxRecDepth 20000 in
theorem kX7_mixNode_f83 : Cond.fieldLink RX7 83 "TreemapLayout$State" "parents" "[I" ∈ wsX7_mixNode := by decide +kernel
set_option maxRecDepth 20000 in
theorem uX7_mixNode_X1 : ∀ w ∈ u_ws RX1 TX1 8, w ∈ wsX7_mixNode := by decide +kernel
set_option maxRecDepth 20000 in
theorem uX7_mixNode_X3 : ∀ w ∈ u_ws RX3 TX3 4, w ∈ wsX7_mixNode := by decide +kernel
set_option maxRecDepth 20000 in
theorem uX7_mixNode_X5 : ∀ w ∈ u_ws RX5 TX5 7, w ∈ wsX7_mixNode := by decide +kernel
set_option maxRecDepth 20000 in
theorem uX7_mixNode_X7 : ∀ w ∈ u_ws RX7 TX7 8, w ∈ wsX7_mixNode := by decide +kernel
set_option maxRecDepth 20000 in
theorem kX7_digest_c167 : Cond.constantLong RX7 167 11759 ∈ wsX7_digest := by decide +kernel
set_option maxRecDepth 20000 in
theorem kX7_digest_f10 : Cond.fieldLink RX7 10 "TreemapLayout" "state" "LTreemapLayout$State;" ∈ wsX7_digest := by decide +kernel
set_option maxRecDepth 20000 in
theorem kX7_digest_f154 : Cond.fieldLink RX7 154 "TreemapLayout$UndoStack" "count" "I" ∈ wsX7_digest := by decide +kernel
set_option maxRecDepth 20000 in
theorem kX7_digest_f158 : Cond.fieldLink RX7 158 "TreemapLayout" "invalidCalls" "I" ∈ wsX7_digest := by decide +kernel
set_option maxRecDepth 20000 in
theorem kX7_digest_f161 : Cond.fieldLink RX7 161 "TreemapLayout" "rejectedCalls" "I" ∈ wsX7_digest := by decide +kernel
set_option maxRecDepth 20000 in
theorem kX7_digest_f164 : Cond.fieldLink RX7 164 "TreemapLayout" "fullCalls" "I" ∈ wsX7_digest := by decide +kernel
set_option maxRecDepth 20000 in
theorem kX7_digest_f26 : Cond.fieldLink RX7 26 "TreemapLayout" "saved" "LTreemapLayout$UndoStack;" ∈ wsX7_digest := by decide +kernel
set_option maxRecDepth 20000 in
theorem kX7_digest_f51 : Cond.fieldLink RX7 51 "TreemapLayout$State" "count" "I" ∈ wsX7_digest := by decide +kernel
set_option maxRecDepth 20000 in
theorem kX7_digest_f89 : Cond.fieldLink RX7 89 "TreemapLayout$State" "canvasWidth" "I" ∈ wsX7_digest := by decide +kernel
set_option maxRecDepth 20000 in
theorem kX7_digest_f92 : Cond.fieldLink RX7 92 "TreemapLayout$State" "canvasHeight" "I" ∈ wsX7_digest := by decide +kernel
set_option maxRecDepth 20000 in
theorem kX7_digest_f95 : Cond.fieldLink RX7 95 "TreemapLayout$State" "padding" "I" ∈ wsX7_digest := by decide +kernel
set_option maxRecDepth 20000 in
theorem kX7_digest_f98 : Cond.fieldLink RX7 98 "TreemapLayout$State" "mode" "I" ∈ wsX7_digest := by decide +kernel
set_option maxRecDepth 20000 in
theorem uX7_digest_X5 : ∀ w ∈ u_ws RX5 TX5 7, w ∈ wsX7_digest := by decide +kernel
set_option maxRecDepth 20000 in
theorem uX7_digest_X6 : ∀ w ∈ u_ws RX6 TX6 3, w ∈ wsX7_digest := by decide +kernel
set_option maxRecDepth 20000 in
theorem uX7_digest_X7 : ∀ w ∈ u_ws RX7 TX7 8, w ∈ wsX7_digest := by decide +kernel

set_option maxRecDepth 20000 in
theorem kJxf58ca_floatToIntBits_5c35a_c77 : Cond.constant RJxf58ca 77 2143289344 ∈ wsJxf58ca_floatToIntBits_5c35a := by decide +kernel
set_option maxRecDepth 20000 in
theorem kJxf58ca_floatToIntBits_5c35a_i74 : Cond.initialized "java/lang/Float" ∈ wsJxf58ca_floatToIntBits_5c35a := by decide +kernel
set_option maxRecDepth 20000 in
theorem kJxf58ca_floatToIntBits_5c35a_m74 : Cond.methodLink RJxf58ca 74 ⟨"java/lang/Float", "floatToRawIntBits", "(F)I"⟩ ∈ wsJxf58ca_floatToIntBits_5c35a := by decide +kernel
set_option maxRecDepth 20000 in
theorem kJxf58ca_floatToIntBits_5c35a_n74 : Cond.native ⟨"java/lang/Float", "floatToRawIntBits", "(F)I"⟩ ∈ wsJxf58ca_floatToIntBits_5c35a := by decide +kernel
set_option maxRecDepth 20000 in
theorem kJxf58ca_floatToIntBits_5c35a_s74 : Cond.static ⟨"java/lang/Float", "floatToRawIntBits", "(F)I"⟩ ∈ wsJxf58ca_floatToIntBits_5c35a := by decide +kernel
