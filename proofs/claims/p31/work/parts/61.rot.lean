theorem va_rot (a0 a1 a2 a3 a4 a5 : Nat) : va_up (va_up (va_up (va_up (va_up (va_up (va_up (va_up (va_up (va_up (va_up (va_up (fun _ => none) 0 (some a0)) 1 (some a1)) 2 (some a2)) 3 (some a3)) 4 (some a4)) 5 (some a5)) 0 (some a1)) 1 (some a2)) 2 (some a3)) 3 (some a4)) 4 (some a5)) 5 (some a0) = va_up (va_up (va_up (va_up (va_up (va_up (fun _ => none) 0 (some a1)) 1 (some a2)) 2 (some a3)) 3 (some a4)) 4 (some a5)) 5 (some a0) := by
  funext k
  rcases k with _ | _ | _ | _ | _ | _ | k <;> rfl
