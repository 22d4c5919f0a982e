set_option maxHeartbeats 4000000 in
theorem lw_129 {p : Program} {e : Env} {s : State} {m : MethodId} {below : List Frame} {meth : Method} {c : Code} (l : Launch) {b L : Nat} {xs : Nat → Int32} (C0 : lw_At p s m meth c b L xs) (D : va_G) (cy : Nat → ClassId) (hK : KK D cy s) (hl9 : l.stackTraces = false) (sa : Nat) (hRX0 : RXP (fun q => s.heap.size ≤ q) sa s) (K V : Nat → Nat) (hSX0 : SXP K V (fun q => s.heap.size ≤ q) s) (hL9 : L ≤ 260) (q0 q8 q119 : Nat) (w4 : Nat → Nat) {Ln Rn Kn Dn : Nat} (hLR : Ln * Rn ≤ 288) (j : Nat) : ∀ (k cl sl : Nat) (_ : k + j = 9) (_ : cl + 400 + j ≤ 600130) (_ : sl + 400 + j ≤ 7301080), lp_129 p l e s m below meth c b D cy q0 q8 q119 w4 Ln Rn Kn Dn k cl sl := by
  induction j with
  | zero =>
    intro k cl sl h1 h2 h3
    exact law_129 l C0 D cy hK hl9 sa hRX0 K V hSX0 hL9 q0 q8 q119 w4 (by omega) hLR (by omega) (by omega) (fun h => absurd h (by omega))
  | succ j ih =>
    intro k cl sl h1 h2 h3
    exact law_129 l C0 D cy hK hl9 sa hRX0 K V hSX0 hL9 q0 q8 q119 w4 (by omega) hLR (by omega) (by omega) (fun h => law_164 l C0 D cy hK hl9 sa hRX0 K V hSX0 hL9 q0 q8 q119 w4 h hLR (by omega) (by omega) (law_238 l C0 D cy hK hl9 sa hRX0 K V hSX0 hL9 q0 q8 q119 w4 h hLR (by omega) (by omega) (law_303 l C0 D cy hK hl9 sa hRX0 K V hSX0 hL9 q0 q8 q119 w4 h hLR (by omega) (by omega) (law_369 l C0 D cy hK hl9 sa hRX0 K V hSX0 hL9 q0 q8 q119 w4 h hLR (by omega) (by omega) (ih (k + 1) (cl + 1) (sl + 1) (by omega) (by omega) (by omega))))))
theorem lw_80 {p : Program} {e : Env} {s : State} {m : MethodId} {below : List Frame} {meth : Method} {c : Code} (l : Launch) {b L : Nat} {xs : Nat → Int32} (C0 : lw_At p s m meth c b L xs) (D : va_G) (cy : Nat → ClassId) (hK : KK D cy s) (hl9 : l.stackTraces = false) (sa : Nat) (hRX0 : RXP (fun q => s.heap.size ≤ q) sa s) (K V : Nat → Nat) (hSX0 : SXP K V (fun q => s.heap.size ≤ q) s) (hL9 : L ≤ 260) (q0 q8 : Nat) (w4 : Nat → Nat) {Ln Rn Kn Dn : Nat} (hLR : Ln * Rn ≤ 288) (j : Nat) : ∀ (f cl sl : Nat) (_ : f + j = Rn) (_ : cl + 1000 ≤ 600130) (_ : sl + 1000 ≤ 7301080), lp_80 p l e s m below meth c b D cy q0 q8 w4 Ln Rn Kn Dn f cl sl := by
  induction j with
  | zero =>
    intro f cl sl h1 h2 h3
    exact law_80 l C0 D cy hK hl9 sa hRX0 K V hSX0 hL9 q0 q8 w4 (by omega) hLR (by omega) (by omega) (fun q119 => lw_129 l C0 D cy hK hl9 sa hRX0 K V hSX0 hL9 q0 q8 q119 w4 hLR 8 1 (cl + 1) (sl + 200) (by omega) (by omega) (by omega)) (fun h => absurd h (by omega))
  | succ j ih =>
    intro f cl sl h1 h2 h3
    exact law_80 l C0 D cy hK hl9 sa hRX0 K V hSX0 hL9 q0 q8 w4 (by omega) hLR (by omega) (by omega) (fun q119 => lw_129 l C0 D cy hK hl9 sa hRX0 K V hSX0 hL9 q0 q8 q119 w4 hLR 8 1 (cl + 1) (sl + 200) (by omega) (by omega) (by omega)) (fun h => ih (f + 1) cl sl (by omega) h2 h3)
