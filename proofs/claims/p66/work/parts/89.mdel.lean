/-! ===== delivering: the other side ===== -/
theorem gD_mid {K M : List Msg} {m : Msg} {k : Nat} : (K ++ M).getD k bare = if k < K.length then (K ++ m :: M).getD k bare else (K ++ m :: M).getD (k + 1) bare := by
  rw [gD_app]
  by_cases c : k < K.length
  · rw [if_pos c, if_pos c, gD_app, if_pos c]
  · rw [if_neg c, if_neg c, gD_app, if_neg (by omega), show k + 1 - K.length = (k - K.length) + 1 by omega, gD_s]
theorem gD_at {K M : List Msg} {m : Msg} : (K ++ m :: M).getD K.length bare = m := by
  rw [gD_app, if_neg (by omega), Nat.sub_self]
  rfl
