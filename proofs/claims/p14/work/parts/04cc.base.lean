theorem rcv_7 {D : va_G} {cA : Nat → ClassId} {s : State} {H : Heap} {ws : va_W} {b : Addr} {q0 : Nat} {fs : List Value} (hK : KK D cA s) (hP : va_P D vwCl ws H) (he : ws[q0]? = some (b, .inr (7, fs))) : Rcv s H "MoonOverTheHill$Tape" b := rcv hK hP he rfl
theorem rcv_8 {D : va_G} {cA : Nat → ClassId} {s : State} {H : Heap} {ws : va_W} {b : Addr} {q0 : Nat} {fs : List Value} (hK : KK D cA s) (hP : va_P D vwCl ws H) (he : ws[q0]? = some (b, .inr (8, fs))) : Rcv s H "MoonOverTheHill" b := rcv hK hP he rfl
theorem rcv_9 {D : va_G} {cA : Nat → ClassId} {s : State} {H : Heap} {ws : va_W} {b : Addr} {q0 : Nat} {fs : List Value} (hK : KK D cA s) (hP : va_P D vwCl ws H) (he : ws[q0]? = some (b, .inr (9, fs))) : Rcv s H "MoonOverTheHillModel" b := rcv hK hP he rfl

