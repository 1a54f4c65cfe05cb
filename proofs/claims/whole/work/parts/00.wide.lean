/-! a name of the wide library in the first part: a round on a new machine goes over to the wide library at once, not after forty parts -/
theorem tm_wide : FP.Core.b32.tails = 2 ^ 23 := FP.Core.tails_b32
