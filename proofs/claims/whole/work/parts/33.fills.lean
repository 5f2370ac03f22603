/-! filling an array; bits: OPEN -/
theorem r284 {d : Nat} {v : zV} {w : Int} {k len : Nat} {x m : zM} {Q : Int → zM → zM → Prop} (hz : zap v = some (k, len, false)) (hk : Nat.ble k 385 = true) (h : Q 0 (zfil x k (zoff v 0) len w) m) : WPc d 284 [v, zi w] 403 [] x m 403 [] Q := sorry
theorem r283 {d : Nat} {v : zV} {w : Int} {k len : Nat} {x m : zM} {Q : Int → zM → zM → Prop} (hz : zap v = some (k, len, true)) (hk : Nat.ble k 385 = true) (h : Q 0 (zfil x k (zoff v 0) len w) m) : WPc d 283 [v, zl w] 403 [] x m 403 [] Q := sorry
