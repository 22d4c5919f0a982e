/-! the cells of a large world that a call leaves alone: told once -/
theorem fm_is {ws : va_W} {isR : List Nat} : ∀ {RF : va_W}, isR.map (fun i => ws[i]?) = RF.map some → isR.filterMap (fun i => ws[i]?) = RF := by
  induction isR with
  | nil =>
    intro RF h
    cases RF with
    | nil => rfl
    | cons r RF => exact nomatch h
  | cons i is ih =>
    intro RF h
    cases RF with
    | nil => exact nomatch h
    | cons r RF =>
      have h1 : ws[i]? = some r := (List.cons.inj h).1
      have h2 : is.map (fun i => ws[i]?) = RF.map some := (List.cons.inj h).2
      rw [List.filterMap_cons_some h1, ih h2]
theorem cF {ws WO WF RF : va_W} {isR isF : List Nat} (hR : isR.map (fun i => ws[i]?) = RF.map some) (hF : isF.map (fun i => (RF ++ WO)[i]?) = WF.map some) : isF.map (fun i => ((isR.filterMap (fun i => ws[i]?)) ++ WO)[i]?) = WF.map some := by
  rw [fm_is hR]
  exact hF
def isGL (n : Nat) (isC isR isF : List Nat) : Bool := va_nd isR && va_nd isC && va_nd isF && isR.all (fun i => !isC.contains i) && isR.all (fun i => decide (i < n))
theorem gG {ws : va_W} {n : Nat} {isC isR isF : List Nat} (hl : ws.length = n) (h : isGL n isC isR isF = true) : isG ws isC isR isF = true := by
  subst hl
  simp only [isGL, Bool.and_eq_true] at h
  obtain ⟨⟨⟨⟨a, b⟩, c⟩, d⟩, e⟩ := h
  simp only [isG, Bool.and_eq_true]
  refine ⟨⟨⟨⟨a, b⟩, c⟩, d⟩, ?_⟩
  rw [List.all_eq_true] at e ⊢
  intro i hi
  rw [List.getElem?_eq_getElem (of_decide_eq_true (e i hi))]
  rfl
