/-! floats: the library's laws of them lie outside the narrow round, so that this part sends a round on a new machine wide at once -/
theorem fl_of64 {a : UInt64} (h : FP.Core.val64 a ≠ .nan) : FP.Core.of64 (FP.Core.val64 a) = a := FP.Core.of64_val64 h
theorem fl_of32 {a : UInt32} (h : FP.Core.val32 a ≠ .nan) : FP.Core.of32 (FP.Core.val32 a) = a := FP.Core.of32_val32 h
theorem fl_round {f : FP.Core.Fmt} (hf : FP.Core.Good f) {d : FP.Core.Datum} (hd : FP.Core.fits f d) : FP.Core.round f d = d := FP.Core.round_of_fits hf hd
