/-! A number that is one is like itself (the doubles of the law rest on the same laws). -/
theorem zWide_d {a : UInt64} (h : FP.Core.val64 a ≠ .nan) : FP.Core.dcmp a a = some .eq := FP.Core.dcmp_self h
