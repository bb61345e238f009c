/-! ===== the two calls that answer with a fraction ===== -/
theorem n32_i {r : UInt32} (h : r &&& 0x7fffffff ≤ 0x7f800000) : n32 r = true := decide_eq_true h
theorem n64_i {r : UInt64} (h : r &&& 0x7fffffffffffffff ≤ 0x7ff0000000000000) : n64 r = true := decide_eq_true h
