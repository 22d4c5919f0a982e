abbrev sz9 (w : Nat) : Nat := sx_z w
/-- the token behind a statement: a word at s, or the end -/
def NT (Z : Nat) (c : Nat → Nat) (s : Nat) (kd : Int32) (e : Nat) : Prop := (kd = 1 ∧ ∃ w, w < 9 ∧ WA Z c w s ∧ e = s + sz9 w ∧ e < Z ∧ c e = 32) ∨ (s = Z ∧ kd = 0 ∧ e = Z)
theorem step_wa {Z : Nat} {tb : Nat → Int8} {c : Nat → Nat} (h : TB Z tb c) (a b fl fp kd so : Int32) {w s : Nat} (hw : w < 9) (hs : WA Z c w s) (he : s + sx_z w < Z) (hc : c (s + sx_z w) = 32) : f_X3_step (fl, fp, kd, so, nI s) (nI Z, a, b) tb = some (fl, fp, 1, nI s, nI (s + sx_z w)) := by
  have hz := cw_z ⟨w, hw⟩
  have hz3 : 3 ≤ sx_z w := hz.1
  have hz6 : sx_z w ≤ 6 := hz.2
  refine step_word h a b fl fp kd so (Nat.le_refl _) (by omega) (by omega) (fun j j1 j2 => by omega) (fun j j1 j2 => ?_) (fun _ => by omega)
  have e := hs.2 (j - s) (by omega)
  rw [Nat.add_sub_cancel' j1] at e
  rw [e]
  exact cw_l ⟨w, hw⟩ ⟨j - s, by omega⟩ (by show j - s < sx_z w; omega)
theorem step_nt {Z : Nat} {tb : Nat → Int8} {c : Nat → Nat} (h : TB Z tb c) (a b fl fp kd0 so : Int32) {s e : Nat} {kd : Int32} (hn : NT Z c s kd e) : f_X3_step (fl, fp, kd0, so, nI s) (nI Z, a, b) tb = some (fl, fp, kd, nI s, nI e) := by
  rcases hn with ⟨rfl, w, hw, h1, rfl, h3, h4⟩ | ⟨rfl, rfl, rfl⟩
  · exact step_wa h a b fl fp kd0 so hw h1 h3 h4
  · exact step_end h a b fl fp kd0 so
theorem sng_2 {Z : Nat} {tb : Nat → Int8} {c : Nat → Nat} (h : TB Z tb c) (a b : Int32) {v s t : Nat} (hs : WA Z c 2 s) (hn : NA Z c v (s + sx_z 2) t) (hc : c t = 59) (hlo : 4 ≤ v) (hhi : v ≤ 24) {L R po wi st le wr la dr sf ch kk ze on al : Int32} : f_X3_readSingle (0, -1, 1, nI s, nI (s + sx_z 2)) (L, R, po, wi, st, le, wr, la, dr, sf, ch, kk, ze, on, al) (nI Z, a, b) tb = some ((0, -1, 3, nI t, nI (t + 1)), ((nI v), R, po, wi, st, le, wr, la, dr, sf, ch, kk, ze, on, al)) := by
  unfold f_X3_readSingle
  dsimp only
  rw [isw h a b 0 (-1) (k := 2) (w := 2) (by decide) (by decide) hs, bso, if_pos (show (2 : Nat) = 2 from rfl), if_neg (show ¬ (1 : Int32) = 0 by decide), step_na h a b 0 (-1) 1 (nI s) hn, bso]
  have g := rdn h a b hn (lo := 4) (hi := 24) hlo hhi (by decide)
  have g : f_X3_readNumber 4 24 (0, -1, 2, nI (s + sx_z 2 + 1), nI t) (nI Z, a, b) tb = _ := g
  rw [g, step_sign h a b 0 (-1) 2 _ hn.2.2.1 hc, bso]
  rfl
theorem stt_2 {Z : Nat} {tb : Nat → Int8} {c : Nat → Nat} (h : TB Z tb c) (a b : Int32) {v s t : Nat} (hs : WA Z c 2 s) (hn : NA Z c v (s + sx_z 2) t) (hc : c t = 59) (hlo : 4 ≤ v) (hhi : v ≤ 24) {kd : Int32} {e : Nat} (hN : NT Z c (t + 1) kd e) (L R po wi st le wr la dr sf ch kk ze on al : Int32) (ro : Nat → Int32) : f_X3_readStatement (0, -1, 1, nI s, nI (s + sx_z 2)) (L, R, po, wi, st, le, wr, la, dr, sf, ch, kk, ze, on, al) ro (nI Z, a, b) tb = some ((0, -1, kd, nI (t + 1), nI e), ((nI v), R, po, wi, st, le, wr, la, dr, sf, ch, kk, ze, on, al), ro) := by
  unfold f_X3_readStatement
  dsimp only
  rw [isw h a b 0 (-1) (k := 0) (w := 2) (by decide) (by decide) hs, bso, if_neg (show ¬ (0 : Nat) = 2 by decide), if_pos rfl, isw h a b 0 (-1) (k := 1) (w := 2) (by decide) (by decide) hs, bso, if_neg (show ¬ (1 : Nat) = 2 by decide), if_pos rfl, sng_2 h a b hs hn hc hlo hhi, bso]
  show f_X3_readStatement_79 _ _ _ _ _ _ _ _ _ _ _ _ _ _ _ _ _ _ _ _ _ _ _ = _
  unfold f_X3_readStatement_79
  dsimp only
  rw [if_neg (by decide), if_pos rfl, step_nt h a b 0 (-1) 3 _ hN, bso]
theorem sng_3 {Z : Nat} {tb : Nat → Int8} {c : Nat → Nat} (h : TB Z tb c) (a b : Int32) {v s t : Nat} (hs : WA Z c 3 s) (hn : NA Z c v (s + sx_z 3) t) (hc : c t = 59) (hlo : 0 ≤ v) (hhi : v ≤ 63) {L R po wi st le wr la dr sf ch kk ze on al : Int32} : f_X3_readSingle (0, -1, 1, nI s, nI (s + sx_z 3)) (L, R, po, wi, st, le, wr, la, dr, sf, ch, kk, ze, on, al) (nI Z, a, b) tb = some ((0, -1, 3, nI t, nI (t + 1)), (L, R, (nI v), wi, st, le, wr, la, dr, sf, ch, kk, ze, on, al)) := by
  unfold f_X3_readSingle
  dsimp only
  rw [isw h a b 0 (-1) (k := 2) (w := 3) (by decide) (by decide) hs, bso, if_neg (show ¬ (2 : Nat) = 3 by decide), if_pos rfl, isw h a b 0 (-1) (k := 3) (w := 3) (by decide) (by decide) hs, bso, if_pos (show (3 : Nat) = 3 from rfl), if_neg (show ¬ (1 : Int32) = 0 by decide), step_na h a b 0 (-1) 1 (nI s) hn, bso]
  have g := rdn h a b hn (lo := 0) (hi := 63) hlo hhi (by decide)
  have g : f_X3_readNumber 0 63 (0, -1, 2, nI (s + sx_z 3 + 1), nI t) (nI Z, a, b) tb = _ := g
  rw [g, step_sign h a b 0 (-1) 2 _ hn.2.2.1 hc, bso]
  rfl
theorem stt_3 {Z : Nat} {tb : Nat → Int8} {c : Nat → Nat} (h : TB Z tb c) (a b : Int32) {v s t : Nat} (hs : WA Z c 3 s) (hn : NA Z c v (s + sx_z 3) t) (hc : c t = 59) (hlo : 0 ≤ v) (hhi : v ≤ 63) {kd : Int32} {e : Nat} (hN : NT Z c (t + 1) kd e) (L R po wi st le wr la dr sf ch kk ze on al : Int32) (ro : Nat → Int32) : f_X3_readStatement (0, -1, 1, nI s, nI (s + sx_z 3)) (L, R, po, wi, st, le, wr, la, dr, sf, ch, kk, ze, on, al) ro (nI Z, a, b) tb = some ((0, -1, kd, nI (t + 1), nI e), (L, R, (nI v), wi, st, le, wr, la, dr, sf, ch, kk, ze, on, al), ro) := by
  unfold f_X3_readStatement
  dsimp only
  rw [isw h a b 0 (-1) (k := 0) (w := 3) (by decide) (by decide) hs, bso, if_neg (show ¬ (0 : Nat) = 3 by decide), if_pos rfl, isw h a b 0 (-1) (k := 1) (w := 3) (by decide) (by decide) hs, bso, if_neg (show ¬ (1 : Nat) = 3 by decide), if_pos rfl, sng_3 h a b hs hn hc hlo hhi, bso]
  show f_X3_readStatement_79 _ _ _ _ _ _ _ _ _ _ _ _ _ _ _ _ _ _ _ _ _ _ _ = _
  unfold f_X3_readStatement_79
  dsimp only
  rw [if_neg (by decide), if_pos rfl, step_nt h a b 0 (-1) 3 _ hN, bso]
theorem sng_4 {Z : Nat} {tb : Nat → Int8} {c : Nat → Nat} (h : TB Z tb c) (a b : Int32) {v s t : Nat} (hs : WA Z c 4 s) (hn : NA Z c v (s + sx_z 4) t) (hc : c t = 59) (hlo : 1 ≤ v) (hhi : v ≤ 8) {L R po wi st le wr la dr sf ch kk ze on al : Int32} : f_X3_readSingle (0, -1, 1, nI s, nI (s + sx_z 4)) (L, R, po, wi, st, le, wr, la, dr, sf, ch, kk, ze, on, al) (nI Z, a, b) tb = some ((0, -1, 3, nI t, nI (t + 1)), (L, R, po, (nI v), st, le, wr, la, dr, sf, ch, kk, ze, on, al)) := by
  unfold f_X3_readSingle
  dsimp only
  rw [isw h a b 0 (-1) (k := 2) (w := 4) (by decide) (by decide) hs, bso, if_neg (show ¬ (2 : Nat) = 4 by decide), if_pos rfl, isw h a b 0 (-1) (k := 3) (w := 4) (by decide) (by decide) hs, bso, if_neg (show ¬ (3 : Nat) = 4 by decide), if_pos rfl, isw h a b 0 (-1) (k := 4) (w := 4) (by decide) (by decide) hs, bso, if_pos (show (4 : Nat) = 4 from rfl), if_neg (show ¬ (1 : Int32) = 0 by decide), step_na h a b 0 (-1) 1 (nI s) hn, bso]
  have g := rdn h a b hn (lo := 1) (hi := 8) hlo hhi (by decide)
  have g : f_X3_readNumber 1 8 (0, -1, 2, nI (s + sx_z 4 + 1), nI t) (nI Z, a, b) tb = _ := g
  rw [g, step_sign h a b 0 (-1) 2 _ hn.2.2.1 hc, bso]
  rfl
theorem stt_4 {Z : Nat} {tb : Nat → Int8} {c : Nat → Nat} (h : TB Z tb c) (a b : Int32) {v s t : Nat} (hs : WA Z c 4 s) (hn : NA Z c v (s + sx_z 4) t) (hc : c t = 59) (hlo : 1 ≤ v) (hhi : v ≤ 8) {kd : Int32} {e : Nat} (hN : NT Z c (t + 1) kd e) (L R po wi st le wr la dr sf ch kk ze on al : Int32) (ro : Nat → Int32) : f_X3_readStatement (0, -1, 1, nI s, nI (s + sx_z 4)) (L, R, po, wi, st, le, wr, la, dr, sf, ch, kk, ze, on, al) ro (nI Z, a, b) tb = some ((0, -1, kd, nI (t + 1), nI e), (L, R, po, (nI v), st, le, wr, la, dr, sf, ch, kk, ze, on, al), ro) := by
  unfold f_X3_readStatement
  dsimp only
  rw [isw h a b 0 (-1) (k := 0) (w := 4) (by decide) (by decide) hs, bso, if_neg (show ¬ (0 : Nat) = 4 by decide), if_pos rfl, isw h a b 0 (-1) (k := 1) (w := 4) (by decide) (by decide) hs, bso, if_neg (show ¬ (1 : Nat) = 4 by decide), if_pos rfl, sng_4 h a b hs hn hc hlo hhi, bso]
  show f_X3_readStatement_79 _ _ _ _ _ _ _ _ _ _ _ _ _ _ _ _ _ _ _ _ _ _ _ = _
  unfold f_X3_readStatement_79
  dsimp only
  rw [if_neg (by decide), if_pos rfl, step_nt h a b 0 (-1) 3 _ hN, bso]
theorem sng_5 {Z : Nat} {tb : Nat → Int8} {c : Nat → Nat} (h : TB Z tb c) (a b : Int32) {v s t : Nat} (hs : WA Z c 5 s) (hn : NA Z c v (s + sx_z 5) t) (hc : c t = 59) (hlo : 0 ≤ v) (hhi : v ≤ 12) {L R po wi st le wr la dr sf ch kk ze on al : Int32} : f_X3_readSingle (0, -1, 1, nI s, nI (s + sx_z 5)) (L, R, po, wi, st, le, wr, la, dr, sf, ch, kk, ze, on, al) (nI Z, a, b) tb = some ((0, -1, 3, nI t, nI (t + 1)), (L, R, po, wi, (nI v), le, wr, la, dr, sf, ch, kk, ze, on, al)) := by
  unfold f_X3_readSingle
  dsimp only
  rw [isw h a b 0 (-1) (k := 2) (w := 5) (by decide) (by decide) hs, bso, if_neg (show ¬ (2 : Nat) = 5 by decide), if_pos rfl, isw h a b 0 (-1) (k := 3) (w := 5) (by decide) (by decide) hs, bso, if_neg (show ¬ (3 : Nat) = 5 by decide), if_pos rfl, isw h a b 0 (-1) (k := 4) (w := 5) (by decide) (by decide) hs, bso, if_neg (show ¬ (4 : Nat) = 5 by decide), if_pos rfl, isw h a b 0 (-1) (k := 5) (w := 5) (by decide) (by decide) hs, bso, if_pos (show (5 : Nat) = 5 from rfl), if_neg (show ¬ (1 : Int32) = 0 by decide), step_na h a b 0 (-1) 1 (nI s) hn, bso]
  have g := rdn h a b hn (lo := 0) (hi := 12) hlo hhi (by decide)
  have g : f_X3_readNumber 0 12 (0, -1, 2, nI (s + sx_z 5 + 1), nI t) (nI Z, a, b) tb = _ := g
  rw [g, step_sign h a b 0 (-1) 2 _ hn.2.2.1 hc, bso]
  rfl
theorem stt_5 {Z : Nat} {tb : Nat → Int8} {c : Nat → Nat} (h : TB Z tb c) (a b : Int32) {v s t : Nat} (hs : WA Z c 5 s) (hn : NA Z c v (s + sx_z 5) t) (hc : c t = 59) (hlo : 0 ≤ v) (hhi : v ≤ 12) {kd : Int32} {e : Nat} (hN : NT Z c (t + 1) kd e) (L R po wi st le wr la dr sf ch kk ze on al : Int32) (ro : Nat → Int32) : f_X3_readStatement (0, -1, 1, nI s, nI (s + sx_z 5)) (L, R, po, wi, st, le, wr, la, dr, sf, ch, kk, ze, on, al) ro (nI Z, a, b) tb = some ((0, -1, kd, nI (t + 1), nI e), (L, R, po, wi, (nI v), le, wr, la, dr, sf, ch, kk, ze, on, al), ro) := by
  unfold f_X3_readStatement
  dsimp only
  rw [isw h a b 0 (-1) (k := 0) (w := 5) (by decide) (by decide) hs, bso, if_neg (show ¬ (0 : Nat) = 5 by decide), if_pos rfl, isw h a b 0 (-1) (k := 1) (w := 5) (by decide) (by decide) hs, bso, if_neg (show ¬ (1 : Nat) = 5 by decide), if_pos rfl, sng_5 h a b hs hn hc hlo hhi, bso]
  show f_X3_readStatement_79 _ _ _ _ _ _ _ _ _ _ _ _ _ _ _ _ _ _ _ _ _ _ _ = _
  unfold f_X3_readStatement_79
  dsimp only
  rw [if_neg (by decide), if_pos rfl, step_nt h a b 0 (-1) 3 _ hN, bso]
theorem sng_6 {Z : Nat} {tb : Nat → Int8} {c : Nat → Nat} (h : TB Z tb c) (a b : Int32) {v s t : Nat} (hs : WA Z c 6 s) (hn : NA Z c v (s + sx_z 6) t) (hc : c t = 59) (hlo : 2 ≤ v) (hhi : v ≤ 24) {L R po wi st le wr la dr sf ch kk ze on al : Int32} : f_X3_readSingle (0, -1, 1, nI s, nI (s + sx_z 6)) (L, R, po, wi, st, le, wr, la, dr, sf, ch, kk, ze, on, al) (nI Z, a, b) tb = some ((0, -1, 3, nI t, nI (t + 1)), (L, R, po, wi, st, (nI v), wr, la, dr, sf, ch, kk, ze, on, al)) := by
  unfold f_X3_readSingle
  dsimp only
  rw [isw h a b 0 (-1) (k := 2) (w := 6) (by decide) (by decide) hs, bso, if_neg (show ¬ (2 : Nat) = 6 by decide), if_pos rfl, isw h a b 0 (-1) (k := 3) (w := 6) (by decide) (by decide) hs, bso, if_neg (show ¬ (3 : Nat) = 6 by decide), if_pos rfl, isw h a b 0 (-1) (k := 4) (w := 6) (by decide) (by decide) hs, bso, if_neg (show ¬ (4 : Nat) = 6 by decide), if_pos rfl, isw h a b 0 (-1) (k := 5) (w := 6) (by decide) (by decide) hs, bso, if_neg (show ¬ (5 : Nat) = 6 by decide), if_pos rfl, isw h a b 0 (-1) (k := 6) (w := 6) (by decide) (by decide) hs, bso, if_pos (show (6 : Nat) = 6 from rfl), if_neg (show ¬ (1 : Int32) = 0 by decide), step_na h a b 0 (-1) 1 (nI s) hn, bso]
  have g := rdn h a b hn (lo := 2) (hi := 24) hlo hhi (by decide)
  have g : f_X3_readNumber 2 24 (0, -1, 2, nI (s + sx_z 6 + 1), nI t) (nI Z, a, b) tb = _ := g
  rw [g, step_sign h a b 0 (-1) 2 _ hn.2.2.1 hc, bso]
  rfl
theorem stt_6 {Z : Nat} {tb : Nat → Int8} {c : Nat → Nat} (h : TB Z tb c) (a b : Int32) {v s t : Nat} (hs : WA Z c 6 s) (hn : NA Z c v (s + sx_z 6) t) (hc : c t = 59) (hlo : 2 ≤ v) (hhi : v ≤ 24) {kd : Int32} {e : Nat} (hN : NT Z c (t + 1) kd e) (L R po wi st le wr la dr sf ch kk ze on al : Int32) (ro : Nat → Int32) : f_X3_readStatement (0, -1, 1, nI s, nI (s + sx_z 6)) (L, R, po, wi, st, le, wr, la, dr, sf, ch, kk, ze, on, al) ro (nI Z, a, b) tb = some ((0, -1, kd, nI (t + 1), nI e), (L, R, po, wi, st, (nI v), wr, la, dr, sf, ch, kk, ze, on, al), ro) := by
  unfold f_X3_readStatement
  dsimp only
  rw [isw h a b 0 (-1) (k := 0) (w := 6) (by decide) (by decide) hs, bso, if_neg (show ¬ (0 : Nat) = 6 by decide), if_pos rfl, isw h a b 0 (-1) (k := 1) (w := 6) (by decide) (by decide) hs, bso, if_neg (show ¬ (1 : Nat) = 6 by decide), if_pos rfl, sng_6 h a b hs hn hc hlo hhi, bso]
  show f_X3_readStatement_79 _ _ _ _ _ _ _ _ _ _ _ _ _ _ _ _ _ _ _ _ _ _ _ = _
  unfold f_X3_readStatement_79
  dsimp only
  rw [if_neg (by decide), if_pos rfl, step_nt h a b 0 (-1) 3 _ hN, bso]
theorem sng_7 {Z : Nat} {tb : Nat → Int8} {c : Nat → Nat} (h : TB Z tb c) (a b : Int32) {v s t : Nat} (hs : WA Z c 7 s) (hn : NA Z c v (s + sx_z 7) t) (hc : c t = 59) (hlo : 0 ≤ v) (hhi : v ≤ 50) {L R po wi st le wr la dr sf ch kk ze on al : Int32} : f_X3_readSingle (0, -1, 1, nI s, nI (s + sx_z 7)) (L, R, po, wi, st, le, wr, la, dr, sf, ch, kk, ze, on, al) (nI Z, a, b) tb = some ((0, -1, 3, nI t, nI (t + 1)), (L, R, po, wi, st, le, wr, la, (nI v), sf, ch, kk, ze, on, al)) := by
  unfold f_X3_readSingle
  dsimp only
  rw [isw h a b 0 (-1) (k := 2) (w := 7) (by decide) (by decide) hs, bso, if_neg (show ¬ (2 : Nat) = 7 by decide), if_pos rfl, isw h a b 0 (-1) (k := 3) (w := 7) (by decide) (by decide) hs, bso, if_neg (show ¬ (3 : Nat) = 7 by decide), if_pos rfl, isw h a b 0 (-1) (k := 4) (w := 7) (by decide) (by decide) hs, bso, if_neg (show ¬ (4 : Nat) = 7 by decide), if_pos rfl, isw h a b 0 (-1) (k := 5) (w := 7) (by decide) (by decide) hs, bso, if_neg (show ¬ (5 : Nat) = 7 by decide), if_pos rfl, isw h a b 0 (-1) (k := 6) (w := 7) (by decide) (by decide) hs, bso, if_neg (show ¬ (6 : Nat) = 7 by decide), if_pos rfl, isw h a b 0 (-1) (k := 7) (w := 7) (by decide) (by decide) hs, bso, if_pos (show (7 : Nat) = 7 from rfl), if_neg (show ¬ (1 : Int32) = 0 by decide), step_na h a b 0 (-1) 1 (nI s) hn, bso]
  have g := rdn h a b hn (lo := 0) (hi := 50) hlo hhi (by decide)
  have g : f_X3_readNumber 0 50 (0, -1, 2, nI (s + sx_z 7 + 1), nI t) (nI Z, a, b) tb = _ := g
  rw [g, step_sign h a b 0 (-1) 2 _ hn.2.2.1 hc, bso]
  rfl
theorem stt_7 {Z : Nat} {tb : Nat → Int8} {c : Nat → Nat} (h : TB Z tb c) (a b : Int32) {v s t : Nat} (hs : WA Z c 7 s) (hn : NA Z c v (s + sx_z 7) t) (hc : c t = 59) (hlo : 0 ≤ v) (hhi : v ≤ 50) {kd : Int32} {e : Nat} (hN : NT Z c (t + 1) kd e) (L R po wi st le wr la dr sf ch kk ze on al : Int32) (ro : Nat → Int32) : f_X3_readStatement (0, -1, 1, nI s, nI (s + sx_z 7)) (L, R, po, wi, st, le, wr, la, dr, sf, ch, kk, ze, on, al) ro (nI Z, a, b) tb = some ((0, -1, kd, nI (t + 1), nI e), (L, R, po, wi, st, le, wr, la, (nI v), sf, ch, kk, ze, on, al), ro) := by
  unfold f_X3_readStatement
  dsimp only
  rw [isw h a b 0 (-1) (k := 0) (w := 7) (by decide) (by decide) hs, bso, if_neg (show ¬ (0 : Nat) = 7 by decide), if_pos rfl, isw h a b 0 (-1) (k := 1) (w := 7) (by decide) (by decide) hs, bso, if_neg (show ¬ (1 : Nat) = 7 by decide), if_pos rfl, sng_7 h a b hs hn hc hlo hhi, bso]
  show f_X3_readStatement_79 _ _ _ _ _ _ _ _ _ _ _ _ _ _ _ _ _ _ _ _ _ _ _ = _
  unfold f_X3_readStatement_79
  dsimp only
  rw [if_neg (by decide), if_pos rfl, step_nt h a b 0 (-1) 3 _ hN, bso]
theorem sng_8 {Z : Nat} {tb : Nat → Int8} {c : Nat → Nat} (h : TB Z tb c) (a b : Int32) {v s t : Nat} (hs : WA Z c 8 s) (hn : NA Z c v (s + sx_z 8) t) (hc : c t = 59) (hlo : 0 ≤ v) (hhi : v ≤ 50) {L R po wi st le wr la dr sf ch kk ze on al : Int32} : f_X3_readSingle (0, -1, 1, nI s, nI (s + sx_z 8)) (L, R, po, wi, st, le, wr, la, dr, sf, ch, kk, ze, on, al) (nI Z, a, b) tb = some ((0, -1, 3, nI t, nI (t + 1)), (L, R, po, wi, st, le, wr, la, (-(nI v)), sf, ch, kk, ze, on, al)) := by
  unfold f_X3_readSingle
  dsimp only
  rw [isw h a b 0 (-1) (k := 2) (w := 8) (by decide) (by decide) hs, bso, if_neg (show ¬ (2 : Nat) = 8 by decide), if_pos rfl, isw h a b 0 (-1) (k := 3) (w := 8) (by decide) (by decide) hs, bso, if_neg (show ¬ (3 : Nat) = 8 by decide), if_pos rfl, isw h a b 0 (-1) (k := 4) (w := 8) (by decide) (by decide) hs, bso, if_neg (show ¬ (4 : Nat) = 8 by decide), if_pos rfl, isw h a b 0 (-1) (k := 5) (w := 8) (by decide) (by decide) hs, bso, if_neg (show ¬ (5 : Nat) = 8 by decide), if_pos rfl, isw h a b 0 (-1) (k := 6) (w := 8) (by decide) (by decide) hs, bso, if_neg (show ¬ (6 : Nat) = 8 by decide), if_pos rfl, isw h a b 0 (-1) (k := 7) (w := 8) (by decide) (by decide) hs, bso, if_neg (show ¬ (7 : Nat) = 8 by decide), if_pos rfl, isw h a b 0 (-1) (k := 8) (w := 8) (by decide) (by decide) hs, bso, if_pos (show (8 : Nat) = 8 from rfl), if_neg (show ¬ (1 : Int32) = 0 by decide), step_na h a b 0 (-1) 1 (nI s) hn, bso]
  have g := rdn h a b hn (lo := 0) (hi := 50) hlo hhi (by decide)
  have g : f_X3_readNumber 0 50 (0, -1, 2, nI (s + sx_z 8 + 1), nI t) (nI Z, a, b) tb = _ := g
  rw [g, step_sign h a b 0 (-1) 2 _ hn.2.2.1 hc, bso]
  rfl
theorem stt_8 {Z : Nat} {tb : Nat → Int8} {c : Nat → Nat} (h : TB Z tb c) (a b : Int32) {v s t : Nat} (hs : WA Z c 8 s) (hn : NA Z c v (s + sx_z 8) t) (hc : c t = 59) (hlo : 0 ≤ v) (hhi : v ≤ 50) {kd : Int32} {e : Nat} (hN : NT Z c (t + 1) kd e) (L R po wi st le wr la dr sf ch kk ze on al : Int32) (ro : Nat → Int32) : f_X3_readStatement (0, -1, 1, nI s, nI (s + sx_z 8)) (L, R, po, wi, st, le, wr, la, dr, sf, ch, kk, ze, on, al) ro (nI Z, a, b) tb = some ((0, -1, kd, nI (t + 1), nI e), (L, R, po, wi, st, le, wr, la, (-(nI v)), sf, ch, kk, ze, on, al), ro) := by
  unfold f_X3_readStatement
  dsimp only
  rw [isw h a b 0 (-1) (k := 0) (w := 8) (by decide) (by decide) hs, bso, if_neg (show ¬ (0 : Nat) = 8 by decide), if_pos rfl, isw h a b 0 (-1) (k := 1) (w := 8) (by decide) (by decide) hs, bso, if_neg (show ¬ (1 : Nat) = 8 by decide), if_pos rfl, sng_8 h a b hs hn hc hlo hhi, bso]
  show f_X3_readStatement_79 _ _ _ _ _ _ _ _ _ _ _ _ _ _ _ _ _ _ _ _ _ _ _ = _
  unfold f_X3_readStatement_79
  dsimp only
  rw [if_neg (by decide), if_pos rfl, step_nt h a b 0 (-1) 3 _ hN, bso]
theorem stt_1 {Z : Nat} {tb : Nat → Int8} {c : Nat → Nat} (h : TB Z tb c) (a b : Int32) {v v2 s t t2 : Nat} (hs : WA Z c 1 s) (hn : NA Z c v (s + sx_z 1) t) (hn2 : NA Z c v2 t t2) (hc : c t2 = 59) (hlo : 1 ≤ v) (hhi : v ≤ 4) (hlo2 : v ≤ v2) (hhi2 : v2 ≤ 8) {kd : Int32} {e : Nat} (hN : NT Z c (t2 + 1) kd e) (L R po wi st le wr la dr sf ch kk ze on al : Int32) (ro : Nat → Int32) : f_X3_readStatement (0, -1, 1, nI s, nI (s + sx_z 1)) (L, R, po, wi, st, le, wr, la, dr, sf, ch, kk, ze, on, al) ro (nI Z, a, b) tb = some ((0, -1, kd, nI (t2 + 1), nI e), (L, R, po, wi, st, le, (nI v), (nI v2), dr, sf, ch, kk, ze, on, al), ro) := by
  unfold f_X3_readStatement
  dsimp only
  rw [isw h a b 0 (-1) (k := 0) (w := 1) (by decide) (by decide) hs, bso, if_neg (show ¬ (0 : Nat) = 1 by decide), if_pos rfl, isw h a b 0 (-1) (k := 1) (w := 1) (by decide) (by decide) hs, bso, if_pos (show (1 : Nat) = 1 from rfl), if_neg (show ¬ (1 : Int32) = 0 by decide), step_na h a b 0 (-1) 1 (nI s) hn, bso]
  have g := rdn h a b hn (lo := 1) (hi := 4) hlo hhi (by decide)
  have g : f_X3_readNumber 1 4 (0, -1, 2, nI (s + sx_z 1 + 1), nI t) (nI Z, a, b) tb = _ := g
  rw [g, step_na h a b 0 (-1) 2 _ hn2, bso, bso]
  have g2 := rdn h a b hn2 (lo := v) (hi := 8) hlo2 hhi2 (by decide)
  have g2 : f_X3_readNumber (nI v) 8 (0, -1, 2, nI (t + 1), nI t2) (nI Z, a, b) tb = _ := g2
  rw [g2, step_sign h a b 0 (-1) 2 _ hn2.2.2.1 hc, bso, bso]
  show f_X3_readStatement_79 _ _ _ _ _ _ _ _ _ _ _ _ _ _ _ _ _ _ _ _ _ _ _ = _
  unfold f_X3_readStatement_79
  dsimp only
  rw [if_neg (by decide), if_pos rfl, step_nt h a b 0 (-1) 3 _ hN, bso]
