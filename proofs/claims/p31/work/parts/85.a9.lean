theorem tell_0 (md stt mim lk lo pl of si hy bc : Int32) (u : SX1) (h cm dr rd rp ck a6 a7 a8 a9 aA aB rn aD aE aF aG : Int32) (tk sp bg pa : Int32) (p : SX5) : f_X4_tell 0 (md, stt, mim, lk, lo, pl, of, si, hy, bc) u (h, cm, dr, rd, rp, ck, a6, a7, a8, a9, aA, aB, rn, aD, aE, aF, aG) (tk, sp, bg, pa) p = some md := by
  obtain ⟨u1, u2, u3, u4, u5⟩ := u
  obtain ⟨x0, x1, x2, x3, x4, x5, x6, x7, x8, x9, x10, x11, x12, x13, x14⟩ := p
  unfold f_X4_tell
  dsimp only
  rw [if_pos rfl]
theorem tell_2 (md stt mim lk lo pl of si hy bc : Int32) (u : SX1) (h cm dr rd rp ck a6 a7 a8 a9 aA aB rn aD aE aF aG : Int32) (tk sp bg pa : Int32) (p : SX5) : f_X4_tell 2 (md, stt, mim, lk, lo, pl, of, si, hy, bc) u (h, cm, dr, rd, rp, ck, a6, a7, a8, a9, aA, aB, rn, aD, aE, aF, aG) (tk, sp, bg, pa) p = some stt := by
  obtain ⟨u1, u2, u3, u4, u5⟩ := u
  obtain ⟨x0, x1, x2, x3, x4, x5, x6, x7, x8, x9, x10, x11, x12, x13, x14⟩ := p
  unfold f_X4_tell
  dsimp only
  rw [if_neg (by decide), if_neg (by decide), if_pos rfl]
theorem tell_3 (md stt mim lk lo pl of si hy bc : Int32) (u : SX1) (h cm dr rd rp ck a6 a7 a8 a9 aA aB rn aD aE aF aG : Int32) (tk sp bg pa : Int32) (p : SX5) : f_X4_tell 3 (md, stt, mim, lk, lo, pl, of, si, hy, bc) u (h, cm, dr, rd, rp, ck, a6, a7, a8, a9, aA, aB, rn, aD, aE, aF, aG) (tk, sp, bg, pa) p = some mim := by
  obtain ⟨u1, u2, u3, u4, u5⟩ := u
  obtain ⟨x0, x1, x2, x3, x4, x5, x6, x7, x8, x9, x10, x11, x12, x13, x14⟩ := p
  unfold f_X4_tell
  dsimp only
  rw [if_neg (by decide), if_neg (by decide), if_neg (by decide), if_pos rfl]
theorem tell_4 (md stt mim lk lo pl of si hy bc : Int32) (u : SX1) (h cm dr rd rp ck a6 a7 a8 a9 aA aB rn aD aE aF aG : Int32) (tk sp bg pa : Int32) (p : SX5) : f_X4_tell 4 (md, stt, mim, lk, lo, pl, of, si, hy, bc) u (h, cm, dr, rd, rp, ck, a6, a7, a8, a9, aA, aB, rn, aD, aE, aF, aG) (tk, sp, bg, pa) p = some lk := by
  obtain ⟨u1, u2, u3, u4, u5⟩ := u
  obtain ⟨x0, x1, x2, x3, x4, x5, x6, x7, x8, x9, x10, x11, x12, x13, x14⟩ := p
  unfold f_X4_tell
  dsimp only
  rw [if_neg (by decide), if_neg (by decide), if_neg (by decide), if_neg (by decide), if_pos rfl]
theorem tell_5 (md stt mim lk lo pl of si hy bc : Int32) (u : SX1) (h cm dr rd rp ck a6 a7 a8 a9 aA aB rn aD aE aF aG : Int32) (tk sp bg pa : Int32) (p : SX5) : f_X4_tell 5 (md, stt, mim, lk, lo, pl, of, si, hy, bc) u (h, cm, dr, rd, rp, ck, a6, a7, a8, a9, aA, aB, rn, aD, aE, aF, aG) (tk, sp, bg, pa) p = some lo := by
  obtain ⟨u1, u2, u3, u4, u5⟩ := u
  obtain ⟨x0, x1, x2, x3, x4, x5, x6, x7, x8, x9, x10, x11, x12, x13, x14⟩ := p
  unfold f_X4_tell
  dsimp only
  rw [if_neg (by decide), if_neg (by decide), if_neg (by decide), if_neg (by decide), if_neg (by decide), if_pos rfl]
theorem tell_7 (md stt mim lk lo pl of si hy bc : Int32) (u : SX1) (h cm dr rd rp ck a6 a7 a8 a9 aA aB rn aD aE aF aG : Int32) (tk sp bg pa : Int32) (p : SX5) : f_X4_tell 7 (md, stt, mim, lk, lo, pl, of, si, hy, bc) u (h, cm, dr, rd, rp, ck, a6, a7, a8, a9, aA, aB, rn, aD, aE, aF, aG) (tk, sp, bg, pa) p = some si := by
  obtain ⟨u1, u2, u3, u4, u5⟩ := u
  obtain ⟨x0, x1, x2, x3, x4, x5, x6, x7, x8, x9, x10, x11, x12, x13, x14⟩ := p
  unfold f_X4_tell
  dsimp only
  rw [if_neg (by decide), if_neg (by decide), if_neg (by decide), if_neg (by decide), if_neg (by decide), if_neg (by decide), if_neg (by decide), if_pos rfl]
theorem tell_9 (md stt mim lk lo pl of si hy bc : Int32) (u : SX1) (h cm dr rd rp ck a6 a7 a8 a9 aA aB rn aD aE aF aG : Int32) (tk sp bg pa : Int32) (p : SX5) : f_X4_tell 9 (md, stt, mim, lk, lo, pl, of, si, hy, bc) u (h, cm, dr, rd, rp, ck, a6, a7, a8, a9, aA, aB, rn, aD, aE, aF, aG) (tk, sp, bg, pa) p = some bc := by
  obtain ⟨u1, u2, u3, u4, u5⟩ := u
  obtain ⟨x0, x1, x2, x3, x4, x5, x6, x7, x8, x9, x10, x11, x12, x13, x14⟩ := p
  unfold f_X4_tell
  dsimp only
  rw [if_neg (by decide), if_neg (by decide), if_neg (by decide), if_neg (by decide), if_neg (by decide), if_neg (by decide), if_neg (by decide), if_neg (by decide), if_neg (by decide), if_pos rfl]
theorem tell_10 (md stt mim lk lo pl of si hy bc : Int32) (u : SX1) (h cm dr rd rp ck a6 a7 a8 a9 aA aB rn aD aE aF aG : Int32) (tk sp bg pa : Int32) (p : SX5) : f_X4_tell 10 (md, stt, mim, lk, lo, pl, of, si, hy, bc) u (h, cm, dr, rd, rp, ck, a6, a7, a8, a9, aA, aB, rn, aD, aE, aF, aG) (tk, sp, bg, pa) p = some cm := by
  obtain ⟨u1, u2, u3, u4, u5⟩ := u
  obtain ⟨x0, x1, x2, x3, x4, x5, x6, x7, x8, x9, x10, x11, x12, x13, x14⟩ := p
  unfold f_X4_tell
  dsimp only
  rw [if_neg (by decide), if_neg (by decide), if_neg (by decide), if_neg (by decide), if_neg (by decide), if_neg (by decide), if_neg (by decide), if_neg (by decide), if_neg (by decide), if_neg (by decide), if_pos rfl]
theorem tell_11 (md stt mim lk lo pl of si hy bc : Int32) (u : SX1) (h cm dr rd rp ck a6 a7 a8 a9 aA aB rn aD aE aF aG : Int32) (tk sp bg pa : Int32) (p : SX5) : f_X4_tell 11 (md, stt, mim, lk, lo, pl, of, si, hy, bc) u (h, cm, dr, rd, rp, ck, a6, a7, a8, a9, aA, aB, rn, aD, aE, aF, aG) (tk, sp, bg, pa) p = some dr := by
  obtain ⟨u1, u2, u3, u4, u5⟩ := u
  obtain ⟨x0, x1, x2, x3, x4, x5, x6, x7, x8, x9, x10, x11, x12, x13, x14⟩ := p
  unfold f_X4_tell
  dsimp only
  rw [if_neg (by decide), if_neg (by decide), if_neg (by decide), if_neg (by decide), if_neg (by decide), if_neg (by decide), if_neg (by decide), if_neg (by decide), if_neg (by decide), if_neg (by decide), if_neg (by decide), if_pos rfl]
theorem tell_12 (md stt mim lk lo pl of si hy bc : Int32) (u : SX1) (h cm dr rd rp ck a6 a7 a8 a9 aA aB rn aD aE aF aG : Int32) (tk sp bg pa : Int32) (p : SX5) : f_X4_tell 12 (md, stt, mim, lk, lo, pl, of, si, hy, bc) u (h, cm, dr, rd, rp, ck, a6, a7, a8, a9, aA, aB, rn, aD, aE, aF, aG) (tk, sp, bg, pa) p = some rd := by
  obtain ⟨u1, u2, u3, u4, u5⟩ := u
  obtain ⟨x0, x1, x2, x3, x4, x5, x6, x7, x8, x9, x10, x11, x12, x13, x14⟩ := p
  unfold f_X4_tell
  dsimp only
  rw [if_neg (by decide), if_neg (by decide), if_neg (by decide), if_neg (by decide), if_neg (by decide), if_neg (by decide), if_neg (by decide), if_neg (by decide), if_neg (by decide), if_neg (by decide), if_neg (by decide), if_neg (by decide), if_pos rfl]
theorem tell_13 (md stt mim lk lo pl of si hy bc : Int32) (u : SX1) (h cm dr rd rp ck a6 a7 a8 a9 aA aB rn aD aE aF aG : Int32) (tk sp bg pa : Int32) (p : SX5) : f_X4_tell 13 (md, stt, mim, lk, lo, pl, of, si, hy, bc) u (h, cm, dr, rd, rp, ck, a6, a7, a8, a9, aA, aB, rn, aD, aE, aF, aG) (tk, sp, bg, pa) p = some rp := by
  obtain ⟨u1, u2, u3, u4, u5⟩ := u
  obtain ⟨x0, x1, x2, x3, x4, x5, x6, x7, x8, x9, x10, x11, x12, x13, x14⟩ := p
  unfold f_X4_tell
  dsimp only
  rw [if_neg (by decide), if_neg (by decide), if_neg (by decide), if_neg (by decide), if_neg (by decide), if_neg (by decide), if_neg (by decide), if_neg (by decide), if_neg (by decide), if_neg (by decide), if_neg (by decide), if_neg (by decide), if_neg (by decide), if_pos rfl]
theorem tell_14 (md stt mim lk lo pl of si hy bc : Int32) (u : SX1) (h cm dr rd rp ck a6 a7 a8 a9 aA aB rn aD aE aF aG : Int32) (tk sp bg pa : Int32) (p : SX5) : f_X4_tell 14 (md, stt, mim, lk, lo, pl, of, si, hy, bc) u (h, cm, dr, rd, rp, ck, a6, a7, a8, a9, aA, aB, rn, aD, aE, aF, aG) (tk, sp, bg, pa) p = some h := by
  obtain ⟨u1, u2, u3, u4, u5⟩ := u
  obtain ⟨x0, x1, x2, x3, x4, x5, x6, x7, x8, x9, x10, x11, x12, x13, x14⟩ := p
  unfold f_X4_tell
  dsimp only
  rw [if_neg (by decide), if_neg (by decide), if_neg (by decide), if_neg (by decide), if_neg (by decide), if_neg (by decide), if_neg (by decide), if_neg (by decide), if_neg (by decide), if_neg (by decide), if_neg (by decide), if_neg (by decide), if_neg (by decide), if_neg (by decide), if_pos rfl]
theorem tell_15 (md stt mim lk lo pl of si hy bc : Int32) (u : SX1) (h cm dr rd rp ck a6 a7 a8 a9 aA aB rn aD aE aF aG : Int32) (tk sp bg pa : Int32) (p : SX5) : f_X4_tell 15 (md, stt, mim, lk, lo, pl, of, si, hy, bc) u (h, cm, dr, rd, rp, ck, a6, a7, a8, a9, aA, aB, rn, aD, aE, aF, aG) (tk, sp, bg, pa) p = some ck := by
  obtain ⟨u1, u2, u3, u4, u5⟩ := u
  obtain ⟨x0, x1, x2, x3, x4, x5, x6, x7, x8, x9, x10, x11, x12, x13, x14⟩ := p
  unfold f_X4_tell
  dsimp only
  rw [if_neg (by decide), if_neg (by decide), if_neg (by decide), if_neg (by decide), if_neg (by decide), if_neg (by decide), if_neg (by decide), if_neg (by decide), if_neg (by decide), if_neg (by decide), if_neg (by decide), if_neg (by decide), if_neg (by decide), if_neg (by decide), if_neg (by decide), if_pos rfl]
theorem tell_16 (md stt mim lk lo pl of si hy bc : Int32) (u : SX1) (h cm dr rd rp ck a6 a7 a8 a9 aA aB rn aD aE aF aG : Int32) (tk sp bg pa : Int32) (p : SX5) : f_X4_tell 16 (md, stt, mim, lk, lo, pl, of, si, hy, bc) u (h, cm, dr, rd, rp, ck, a6, a7, a8, a9, aA, aB, rn, aD, aE, aF, aG) (tk, sp, bg, pa) p = some tk := by
  obtain ⟨u1, u2, u3, u4, u5⟩ := u
  obtain ⟨x0, x1, x2, x3, x4, x5, x6, x7, x8, x9, x10, x11, x12, x13, x14⟩ := p
  unfold f_X4_tell
  dsimp only
  rw [if_neg (by decide), if_neg (by decide), if_neg (by decide), if_neg (by decide), if_neg (by decide), if_neg (by decide), if_neg (by decide), if_neg (by decide), if_neg (by decide), if_neg (by decide), if_neg (by decide), if_neg (by decide), if_neg (by decide), if_neg (by decide), if_neg (by decide), if_neg (by decide), if_pos rfl]
theorem tell_17 (md stt mim lk lo pl of si hy bc : Int32) (u : SX1) (h cm dr rd rp ck a6 a7 a8 a9 aA aB rn aD aE aF aG : Int32) (tk sp bg pa : Int32) (p : SX5) : f_X4_tell 17 (md, stt, mim, lk, lo, pl, of, si, hy, bc) u (h, cm, dr, rd, rp, ck, a6, a7, a8, a9, aA, aB, rn, aD, aE, aF, aG) (tk, sp, bg, pa) p = some sp := by
  obtain ⟨u1, u2, u3, u4, u5⟩ := u
  obtain ⟨x0, x1, x2, x3, x4, x5, x6, x7, x8, x9, x10, x11, x12, x13, x14⟩ := p
  unfold f_X4_tell
  dsimp only
  rw [if_neg (by decide), if_neg (by decide), if_neg (by decide), if_neg (by decide), if_neg (by decide), if_neg (by decide), if_neg (by decide), if_neg (by decide), if_neg (by decide), if_neg (by decide), if_neg (by decide), if_neg (by decide), if_neg (by decide), if_neg (by decide), if_neg (by decide), if_neg (by decide), if_neg (by decide), if_pos rfl]
theorem tell_1 (md stt mim lk lo pl of si hy bc : Int32) (u : SX1) (h cm dr rd rp ck a6 a7 a8 a9 aA aB rn aD aE aF aG : Int32) (tk sp bg pa : Int32) (p : SX5) : f_X4_tell 1 (md, stt, mim, lk, lo, pl, of, si, hy, bc) u (h, cm, dr, rd, rp, ck, a6, a7, a8, a9, aA, aB, rn, aD, aE, aF, aG) (tk, sp, bg, pa) p = some (if md = 0 then u.1 else 1) := by
  obtain ⟨u1, u2, u3, u4, u5⟩ := u
  obtain ⟨x0, x1, x2, x3, x4, x5, x6, x7, x8, x9, x10, x11, x12, x13, x14⟩ := p
  unfold f_X4_tell
  dsimp only
  rw [if_neg (by decide), if_pos rfl]
  by_cases c : md = 0
  · rw [if_pos c, if_pos c]
  · rw [if_neg c, if_neg c]
theorem tell_6 (md stt mim lk lo pl of si hy bc : Int32) (u : SX1) (h cm dr rd rp ck a6 a7 a8 a9 aA aB rn aD aE aF aG : Int32) (tk sp bg pa : Int32) (p : SX5) : f_X4_tell 6 (md, stt, mim, lk, lo, pl, of, si, hy, bc) u (h, cm, dr, rd, rp, ck, a6, a7, a8, a9, aA, aB, rn, aD, aE, aF, aG) (tk, sp, bg, pa) p = some (if md = 0 then -1 else pl * p.1 + of) := by
  obtain ⟨u1, u2, u3, u4, u5⟩ := u
  obtain ⟨x0, x1, x2, x3, x4, x5, x6, x7, x8, x9, x10, x11, x12, x13, x14⟩ := p
  unfold f_X4_tell
  dsimp only
  rw [if_neg (by decide), if_neg (by decide), if_neg (by decide), if_neg (by decide), if_neg (by decide), if_neg (by decide), if_pos rfl]
  by_cases c : md = 0
  · rw [if_pos c, if_pos c]
  · rw [if_neg c, if_neg c]
theorem tell_8 (md stt mim lk lo pl of si hy bc : Int32) (u : SX1) (h cm dr rd rp ck a6 a7 a8 a9 aA aB rn aD aE aF aG : Int32) (tk sp bg pa : Int32) (p : SX5) (hh : md = 2 → hy = 0) : f_X4_tell 8 (md, stt, mim, lk, lo, pl, of, si, hy, bc) u (h, cm, dr, rd, rp, ck, a6, a7, a8, a9, aA, aB, rn, aD, aE, aF, aG) (tk, sp, bg, pa) p = some 0 := by
  obtain ⟨u1, u2, u3, u4, u5⟩ := u
  obtain ⟨x0, x1, x2, x3, x4, x5, x6, x7, x8, x9, x10, x11, x12, x13, x14⟩ := p
  unfold f_X4_tell
  dsimp only
  rw [if_neg (by decide), if_neg (by decide), if_neg (by decide), if_neg (by decide), if_neg (by decide), if_neg (by decide), if_neg (by decide), if_neg (by decide), if_pos rfl]
  by_cases c : md = 2
  · rw [if_pos c, hh c, show f_J6_bitCount_0f7a4 0 = some 0 from by decide, bso]
  · rw [if_neg c]
/-- of a receiver on the true way: what it answers -/
theorem rx_tell {L R K D : Nat} {ro : Nat → Int32} {p : SX5} (hP : PV L R K D ro p) {b : Nat → Int8} {i n : Nat} (hin : i + n ≤ 7000) {s : SX4} {u : SX1} {w : Nat → Int32} (h : RX L R K ro b i n s u w) (st : SX7) (e : SX0) : f_X4_tell 0 s u st e p = some s.1 ∧ f_X4_tell 2 s u st e p = some 1 ∧ f_X4_tell 3 s u st e p = some 0 ∧ (f_X4_tell 4 s u st e p = some (if s.1 = 2 then 1 else 0)) ∧ f_X4_tell 5 s u st e p = some 0 ∧ f_X4_tell 8 s u st e p = some 0 ∧ f_X4_tell 9 s u st e p = some 0 ∧ (s.1 = 0 ∨ s.1 = 1 ∨ s.1 = 2) ∧ (s.1 = 0 → f_X4_tell 6 s u st e p = some (-1) ∧ f_X4_tell 7 s u st e p = some (nI n) ∧ f_X4_tell 1 s u st e p = some (nI (LF L R ro b i n)) ∧ HI L R ro b i n u w) ∧ (¬ s.1 = 0 → f_X4_tell 6 s u st e p = some (nI ((i + n) % (L * R))) ∧ f_X4_tell 1 s u st e p = some 1) := by
  obtain ⟨po, wi, sl, fw, wr, la, dr, ch, ze, o, al, rfl, hp, a1, a2, a3, a4, _⟩ := hP
  have hLR : 0 < L * R := Nat.mul_pos (by omega) (by omega)
  have hLR2 : L * R ≤ 288 := Nat.le_trans (Nat.mul_le_mul a2 a4) (by decide)
  obtain ⟨md, lk, pl, of, hi, si, rfl, hsi, hh⟩ := h
  obtain ⟨c0, c1, c2, c3, c4, c5, c6, c7, c8, c9, cA, cB, cC, cD, cE, cF, cG⟩ := st
  obtain ⟨e0, e1, e2, e3⟩ := e
  rw [tell_0, tell_2, tell_3, tell_4, tell_5, tell_9, tell_6, tell_7, tell_1]
  have h8 : f_X4_tell 8 (md, 1, 0, lk, 0, pl, of, nI si, hi, 0) u (c0, c1, c2, c3, c4, c5, c6, c7, c8, c9, cA, cB, cC, cD, cE, cF, cG) (e0, e1, e2, e3) (nI L, nI R, po, wi, sl, fw, wr, la, dr, nI (L * R), ch, nI K, ze, o, al) = some 0 := by
    refine tell_8 _ _ _ _ _ _ _ _ _ _ _ _ _ _ _ _ _ _ _ _ _ _ _ _ _ _ _ _ _ _ _ _ _ (fun z => ?_)
    rcases hh with ⟨rfl, _⟩ | ⟨rfl, _⟩ | ⟨_, _, q, _⟩
    · exact absurd z (by decide)
    · exact absurd z (by decide)
    · exact q
  refine ⟨rfl, rfl, rfl, ?_, rfl, h8, rfl, ?_, fun z => ?_, fun z => ?_⟩
  · show some lk = some (if md = 2 then 1 else 0)
    rcases hh with ⟨rfl, rfl, _⟩ | ⟨rfl, rfl, _⟩ | ⟨rfl, rfl, _⟩ <;> rfl
  · show md = 0 ∨ md = 1 ∨ md = 2
    rcases hh with ⟨rfl, _⟩ | ⟨rfl, _⟩ | ⟨rfl, _⟩
    · exact Or.inl rfl
    · exact Or.inr (Or.inl rfl)
    · exact Or.inr (Or.inr rfl)
  · have z : md = 0 := z
    rcases hh with ⟨_, rfl, rfl, hH⟩ | ⟨q, _⟩ | ⟨q, _⟩
    · rw [if_pos z, if_pos z]
      refine ⟨rfl, rfl, ?_, hH⟩
      obtain ⟨ony, q, _⟩ := hH
      rw [q]
    · rw [q] at z; exact absurd z (by decide)
    · rw [q] at z; exact absurd z (by decide)
  · have z : ¬ md = 0 := z
    rw [if_neg z, if_neg z]
    have hpos : pl = nI ((i + n) / L % R) ∧ of = nI ((i + n) % L) := by
      rcases hh with ⟨q, _⟩ | ⟨_, _, _, q1, q2⟩ | ⟨_, _, _, q1, q2⟩
      · exact absurd q z
      · exact ⟨q1, q2⟩
      · exact ⟨q1, q2⟩
    refine ⟨?_, rfl⟩
    show some (pl * nI L + of) = _
    rw [hpos.1, hpos.2, pk_mul, nI_add, can_n]
/-- of a store: what is told of it -/
theorem st_tell {c q n : Nat} {st : SX7} (h : SI c q n st) (s : SX4) (u : SX1) (e : SX0) (p : SX5) : ∃ (hh cm dr rd rp rn : Nat), f_X4_tell 10 s u st e p = some (nI cm) ∧ f_X4_tell 11 s u st e p = some (nI dr) ∧ f_X4_tell 12 s u st e p = some (nI rd) ∧ f_X4_tell 13 s u st e p = some (nI rp) ∧ f_X4_tell 14 s u st e p = some (nI hh) ∧ f_X4_tell 15 s u st e p = some (nI c) ∧ hh ≤ 2 ∧ cm = dr + rd + hh ∧ cm ≤ n ∧ rd + rp ≤ q ∧ st.2.2.2.1 = nI rd ∧ (0 < rd → st.2.2.2.2.2.2.2.2.2.2.2.2.1 = nI rn ∧ rn ≤ n) := by
  obtain ⟨hh, cm, dr, rd, rp, rn, a6, a7, a8, a9, aA, aB, x, aD, aE, aF, aG, rfl, h1, h2, h3, h4, h5⟩ := h
  obtain ⟨s0, s1, s2, s3, s4, s5, s6, s7, s8, s9⟩ := s
  obtain ⟨e0, e1, e2, e3⟩ := e
  rw [tell_10, tell_11, tell_12, tell_13, tell_14, tell_15]
  exact ⟨hh, cm, dr, rd, rp, rn, rfl, rfl, rfl, rfl, rfl, rfl, h1, h2, h3, h4, rfl, h5⟩
