theorem f_X12_keeps_11_s (v_this_raised : Int32) (v_this_reached : Int32) (v_this_length : Int32) (v_this_begin : Int32) (v_this_sort : Int32) (v_this_value : Int32) (v_this_signs : Int32) (v_this_word : Int64) (v_this_wrongAt : Int32) (v_this_badAt : Int32) (v_this_x : Int32) (r_this_line : Nat → Int8) (r_this_all : Nat → Int32) (v_this_undos : Int32) (r_this_undoneLine : Nat → Int8) (n : Nat) (y11_l1 : Int32) (y11_this_undone : (Nat → Int32)) : f_X12_keeps_11 v_this_raised v_this_reached v_this_length v_this_begin v_this_sort v_this_value v_this_signs v_this_word v_this_wrongAt v_this_badAt v_this_x r_this_line r_this_all v_this_undos r_this_undoneLine (n + 1) y11_l1 y11_this_undone = ((if 665 ≤ y11_l1 then f_X12_keeps_42 v_this_raised v_this_reached v_this_length v_this_begin v_this_sort v_this_value v_this_signs v_this_word v_this_wrongAt v_this_badAt v_this_x r_this_line r_this_all v_this_undos y11_this_undone 65536 0 r_this_undoneLine else m_in (y11_l1 + 133) 798 (m_in y11_l1 798 ((f_X12_keeps_11 v_this_raised v_this_reached v_this_length v_this_begin v_this_sort v_this_value v_this_signs v_this_word v_this_wrongAt v_this_badAt v_this_x r_this_line r_this_all v_this_undos r_this_undoneLine n) (y11_l1 + 1) (upd y11_this_undone y11_l1.toNatClampNeg (y11_this_undone (y11_l1 + 133).toNatClampNeg)))))) := rfl
theorem f_X12_keeps_42_s (v_this_raised : Int32) (v_this_reached : Int32) (v_this_length : Int32) (v_this_begin : Int32) (v_this_sort : Int32) (v_this_value : Int32) (v_this_signs : Int32) (v_this_word : Int64) (v_this_wrongAt : Int32) (v_this_badAt : Int32) (v_this_x : Int32) (r_this_line : Nat → Int8) (r_this_all : Nat → Int32) (v_this_undos : Int32) (y11_this_undone : Nat → Int32) (n : Nat) (y42_l1 : Int32) (y42_this_undoneLine : (Nat → Int8)) : f_X12_keeps_42 v_this_raised v_this_reached v_this_length v_this_begin v_this_sort v_this_value v_this_signs v_this_word v_this_wrongAt v_this_badAt v_this_x r_this_line r_this_all v_this_undos y11_this_undone (n + 1) y42_l1 y42_this_undoneLine = ((if 20000 ≤ y42_l1 then f_X12_keeps_81 v_this_raised v_this_reached v_this_length v_this_begin v_this_sort v_this_value v_this_signs v_this_word v_this_wrongAt v_this_badAt v_this_x r_this_line r_this_all (v_this_undos - 1) y11_this_undone y42_this_undoneLine else m_in (y42_l1 + 4000) 24000 (m_in y42_l1 24000 ((f_X12_keeps_42 v_this_raised v_this_reached v_this_length v_this_begin v_this_sort v_this_value v_this_signs v_this_word v_this_wrongAt v_this_badAt v_this_x r_this_line r_this_all v_this_undos y11_this_undone n) (y42_l1 + 1) (upB y42_this_undoneLine y42_l1.toNatClampNeg ((y42_this_undoneLine (y42_l1 + 4000).toNatClampNeg).toInt32).toInt8))))) := rfl
theorem f_X12_keeps_83_s (v_this_raised : Int32) (y81_this_undos : Int32) (v_this_reached : Int32) (v_this_length : Int32) (v_this_begin : Int32) (v_this_sort : Int32) (v_this_value : Int32) (v_this_signs : Int32) (v_this_word : Int64) (v_this_wrongAt : Int32) (v_this_badAt : Int32) (v_this_x : Int32) (r_this_line : Nat → Int8) (y81_this_undoneLine : Nat → Int8) (r_this_all : Nat → Int32) (n : Nat) (y83_l1 : Int32) (y83_this_undone : (Nat → Int32)) : f_X12_keeps_83 v_this_raised y81_this_undos v_this_reached v_this_length v_this_begin v_this_sort v_this_value v_this_signs v_this_word v_this_wrongAt v_this_badAt v_this_x r_this_line y81_this_undoneLine r_this_all (n + 1) y83_l1 y83_this_undone = ((if 133 ≤ y83_l1 then f_X12_keeps_119 v_this_raised y81_this_undos v_this_reached v_this_length v_this_begin v_this_sort v_this_value v_this_signs v_this_word v_this_wrongAt v_this_badAt v_this_x y83_this_undone r_this_line 65536 0 y81_this_undoneLine else m_in y83_l1 680 (m_in ((133 * y81_this_undos) + y83_l1) 798 ((f_X12_keeps_83 v_this_raised y81_this_undos v_this_reached v_this_length v_this_begin v_this_sort v_this_value v_this_signs v_this_word v_this_wrongAt v_this_badAt v_this_x r_this_line y81_this_undoneLine r_this_all n) (y83_l1 + 1) (upd y83_this_undone ((133 * y81_this_undos) + y83_l1).toNatClampNeg (r_this_all y83_l1.toNatClampNeg)))))) := rfl
theorem f_X12_keeps_119_s (v_this_raised : Int32) (y81_this_undos : Int32) (v_this_reached : Int32) (v_this_length : Int32) (v_this_begin : Int32) (v_this_sort : Int32) (v_this_value : Int32) (v_this_signs : Int32) (v_this_word : Int64) (v_this_wrongAt : Int32) (v_this_badAt : Int32) (v_this_x : Int32) (y83_this_undone : Nat → Int32) (r_this_line : Nat → Int8) (n : Nat) (y119_l1 : Int32) (y119_this_undoneLine : (Nat → Int8)) : f_X12_keeps_119 v_this_raised y81_this_undos v_this_reached v_this_length v_this_begin v_this_sort v_this_value v_this_signs v_this_word v_this_wrongAt v_this_badAt v_this_x y83_this_undone r_this_line (n + 1) y119_l1 y119_this_undoneLine = ((if 4000 ≤ y119_l1 then some ((v_this_raised, (y81_this_undos + 1), v_this_reached, v_this_length, v_this_begin, v_this_sort, v_this_value, v_this_signs, v_this_word, v_this_wrongAt, v_this_badAt, v_this_x), y83_this_undone, y119_this_undoneLine) else m_in y119_l1 32000 (m_in ((4000 * y81_this_undos) + y119_l1) 24000 ((f_X12_keeps_119 v_this_raised y81_this_undos v_this_reached v_this_length v_this_begin v_this_sort v_this_value v_this_signs v_this_word v_this_wrongAt v_this_badAt v_this_x y83_this_undone r_this_line n) (y119_l1 + 1) (upB y119_this_undoneLine ((4000 * y81_this_undos) + y119_l1).toNatClampNeg ((r_this_line y119_l1.toNatClampNeg).toInt32).toInt8))))) := rfl
theorem f_X12_linked_91_s (y52_t0 : Int32) (n : Nat) (y91_l3 : Int32) (y91_this_all : (Nat → Int32)) : f_X12_linked_91 y52_t0 (n + 1) y91_l3 y91_this_all = ((if (y91_this_all 21) ≤ y91_l3 then some (y52_t0, y91_this_all) else m_in ((22 + y91_l3) + 1) 680 (m_in (22 + y91_l3) 680 ((f_X12_linked_91 y52_t0 n) (y91_l3 + 1) (upd y91_this_all (22 + y91_l3).toNatClampNeg (y91_this_all ((22 + y91_l3) + 1).toNatClampNeg)))))) := rfl
theorem f_X12_lose_47_s (r_this_all : Nat → Int32) (x1 : Int32) (u42_this_raised : Int32) (u42_this_undos : Int32) (u42_this_reached : Int32) (u42_this_length : Int32) (u42_this_begin : Int32) (u42_this_sort : Int32) (u42_this_value : Int32) (u42_this_signs : Int32) (u42_this_word : Int64) (u42_this_wrongAt : Int32) (u42_this_badAt : Int32) (u42_this_x : Int32) (u42_this_undone : Nat → Int32) (u42_this_undoneLine : Nat → Int8) (n : Nat) (y47_l3 : Int32) (y47_this_line : (Nat → Int8)) : f_X12_lose_47 r_this_all x1 u42_this_raised u42_this_undos u42_this_reached u42_this_length u42_this_begin u42_this_sort u42_this_value u42_this_signs u42_this_word u42_this_wrongAt u42_this_badAt u42_this_x u42_this_undone u42_this_undoneLine (n + 1) y47_l3 y47_this_line = ((if (r_this_all 32) ≤ (y47_l3 + x1) then some (((upd r_this_all 32 ((r_this_all 32) - x1)) 32), (u42_this_raised, u42_this_undos, u42_this_reached, u42_this_length, u42_this_begin, u42_this_sort, u42_this_value, u42_this_signs, u42_this_word, u42_this_wrongAt, u42_this_badAt, u42_this_x), (upd r_this_all 32 ((r_this_all 32) - x1)), y47_this_line, u42_this_undone, u42_this_undoneLine) else m_in (y47_l3 + x1) 32000 (m_in y47_l3 32000 ((f_X12_lose_47 r_this_all x1 u42_this_raised u42_this_undos u42_this_reached u42_this_length u42_this_begin u42_this_sort u42_this_value u42_this_signs u42_this_word u42_this_wrongAt u42_this_badAt u42_this_x u42_this_undone u42_this_undoneLine n) (y47_l3 + 1) (upB y47_this_line y47_l3.toNatClampNeg ((y47_this_line (y47_l3 + x1).toNatClampNeg).toInt32).toInt8))))) := rfl
theorem f_X12_put_53_s (x0 : Int32) (x1 : Int32) (r_this_all : Nat → Int32) (u42_this_raised : Int32) (u42_this_undos : Int32) (u42_this_reached : Int32) (u42_this_length : Int32) (u42_this_begin : Int32) (u42_this_sort : Int32) (u42_this_value : Int32) (u42_this_signs : Int32) (u42_this_word : Int64) (u42_this_wrongAt : Int32) (u42_this_badAt : Int32) (u42_this_x : Int32) (u42_this_undone : Nat → Int32) (u42_this_undoneLine : Nat → Int8) (n : Nat) (y53_l3 : Int32) (y53_this_line : (Nat → Int8)) : f_X12_put_53 x0 x1 r_this_all u42_this_raised u42_this_undos u42_this_reached u42_this_length u42_this_begin u42_this_sort u42_this_value u42_this_signs u42_this_word u42_this_wrongAt u42_this_badAt u42_this_x u42_this_undone u42_this_undoneLine (n + 1) y53_l3 y53_this_line = ((if y53_l3 ≤ x0 then (if x1 = 0 then f_X12_put_92 x0 r_this_all u42_this_raised u42_this_undos u42_this_reached u42_this_length u42_this_begin u42_this_sort u42_this_value u42_this_signs u42_this_word u42_this_wrongAt u42_this_badAt u42_this_x y53_this_line u42_this_undone u42_this_undoneLine 0 else f_X12_put_92 x0 r_this_all u42_this_raised u42_this_undos u42_this_reached u42_this_length u42_this_begin u42_this_sort u42_this_value u42_this_signs u42_this_word u42_this_wrongAt u42_this_badAt u42_this_x y53_this_line u42_this_undone u42_this_undoneLine 1) else m_in (y53_l3 - 1) 32000 (m_in y53_l3 32000 ((f_X12_put_53 x0 x1 r_this_all u42_this_raised u42_this_undos u42_this_reached u42_this_length u42_this_begin u42_this_sort u42_this_value u42_this_signs u42_this_word u42_this_wrongAt u42_this_badAt u42_this_x u42_this_undone u42_this_undoneLine n) (y53_l3 + (-1)) (upB y53_this_line y53_l3.toNatClampNeg ((y53_this_line (y53_l3 - 1).toNatClampNeg).toInt32).toInt8))))) := rfl
theorem f_X12_hear_42_s (x0 : Int32) (u37_this_raised : Int32) (u37_this_undos : Int32) (u37_this_reached : Int32) (u37_this_length : Int32) (u37_this_begin : Int32) (u37_this_sort : Int32) (u37_this_value : Int32) (u37_this_signs : Int32) (u37_this_word : Int64) (u37_this_wrongAt : Int32) (u37_this_badAt : Int32) (u37_this_x : Int32) (u37_this_undone : Nat → Int32) (u37_this_undoneLine : Nat → Int8) (r_this_line : Nat → Int8) (n : Nat) (y42_l2 : Int32) (y42_this_all : (Nat → Int32)) : f_X12_hear_42 x0 u37_this_raised u37_this_undos u37_this_reached u37_this_length u37_this_begin u37_this_sort u37_this_value u37_this_signs u37_this_word u37_this_wrongAt u37_this_badAt u37_this_x u37_this_undone u37_this_undoneLine r_this_line (n + 1) y42_l2 y42_this_all = ((if x0 ≤ y42_l2 then some ((y42_this_all 33), (u37_this_raised, u37_this_undos, u37_this_reached, u37_this_length, u37_this_begin, u37_this_sort, u37_this_value, u37_this_signs, u37_this_word, u37_this_wrongAt, u37_this_badAt, u37_this_x), y42_this_all, u37_this_undone, u37_this_undoneLine) else m_in (y42_this_all 33) 32000 (Option.bind (f_X12_hears ((r_this_line (y42_this_all 33).toNatClampNeg).toInt32) (u37_this_raised, u37_this_undos, u37_this_reached, u37_this_length, u37_this_begin, u37_this_sort, u37_this_value, u37_this_signs, u37_this_word, u37_this_wrongAt, u37_this_badAt, u37_this_x) y42_this_all) (fun u60_this_all => (f_X12_hear_42 x0 u37_this_raised u37_this_undos u37_this_reached u37_this_length u37_this_begin u37_this_sort u37_this_value u37_this_signs u37_this_word u37_this_wrongAt u37_this_badAt u37_this_x u37_this_undone u37_this_undoneLine r_this_line n) (y42_l2 + 1) (upd u60_this_all 33 ((u60_this_all 33) + 1)))))) := rfl
theorem f_X12_undo_26_s (v_this_undos : Int32) (v_this_reached : Int32) (v_this_length : Int32) (v_this_begin : Int32) (v_this_sort : Int32) (v_this_value : Int32) (v_this_signs : Int32) (v_this_word : Int64) (v_this_wrongAt : Int32) (v_this_badAt : Int32) (v_this_x : Int32) (r_this_undoneLine : Nat → Int8) (r_this_line : Nat → Int8) (r_this_undone : Nat → Int32) (n : Nat) (y26_l1 : Int32) (y26_this_all : (Nat → Int32)) : f_X12_undo_26 v_this_undos v_this_reached v_this_length v_this_begin v_this_sort v_this_value v_this_signs v_this_word v_this_wrongAt v_this_badAt v_this_x r_this_undoneLine r_this_line r_this_undone (n + 1) y26_l1 y26_this_all = ((if 133 ≤ y26_l1 then f_X12_undo_62 v_this_undos v_this_reached v_this_length v_this_begin v_this_sort v_this_value v_this_signs v_this_word v_this_wrongAt v_this_badAt v_this_x y26_this_all r_this_undoneLine 65536 0 r_this_line else m_in ((133 * (v_this_undos - 1)) + y26_l1) 798 (m_n (r_this_undone ((133 * (v_this_undos - 1)) + y26_l1).toNatClampNeg) (fun u53_e => m_in y26_l1 680 ((f_X12_undo_26 v_this_undos v_this_reached v_this_length v_this_begin v_this_sort v_this_value v_this_signs v_this_word v_this_wrongAt v_this_badAt v_this_x r_this_undoneLine r_this_line r_this_undone n) (y26_l1 + 1) (upd y26_this_all y26_l1.toNatClampNeg u53_e)))))) := rfl
theorem f_X12_undo_62_s (v_this_undos : Int32) (v_this_reached : Int32) (v_this_length : Int32) (v_this_begin : Int32) (v_this_sort : Int32) (v_this_value : Int32) (v_this_signs : Int32) (v_this_word : Int64) (v_this_wrongAt : Int32) (v_this_badAt : Int32) (v_this_x : Int32) (y26_this_all : Nat → Int32) (r_this_undoneLine : Nat → Int8) (n : Nat) (y62_l1 : Int32) (y62_this_line : (Nat → Int8)) : f_X12_undo_62 v_this_undos v_this_reached v_this_length v_this_begin v_this_sort v_this_value v_this_signs v_this_word v_this_wrongAt v_this_badAt v_this_x y26_this_all r_this_undoneLine (n + 1) y62_l1 y62_this_line = ((if 4000 ≤ y62_l1 then some ((v_this_undos - 1), (0, (v_this_undos - 1), v_this_reached, v_this_length, v_this_begin, v_this_sort, v_this_value, v_this_signs, v_this_word, v_this_wrongAt, v_this_badAt, v_this_x), y26_this_all, y62_this_line) else m_in ((4000 * (v_this_undos - 1)) + y62_l1) 24000 (m_n ((r_this_undoneLine ((4000 * (v_this_undos - 1)) + y62_l1).toNatClampNeg).toInt32) (fun u89_e => m_in y62_l1 32000 ((f_X12_undo_62 v_this_undos v_this_reached v_this_length v_this_begin v_this_sort v_this_value v_this_signs v_this_word v_this_wrongAt v_this_badAt v_this_x y26_this_all r_this_undoneLine n) (y62_l1 + 1) (upB y62_this_line y62_l1.toNatClampNeg u89_e.toInt8)))))) := rfl
theorem f_X12_checks_31_s (v_this_undos : Int32) (v_this_reached : Int32) (v_this_length : Int32) (v_this_begin : Int32) (v_this_sort : Int32) (v_this_value : Int32) (v_this_signs : Int32) (v_this_word : Int64) (v_this_wrongAt : Int32) (v_this_badAt : Int32) (v_this_x : Int32) (r_this_all : Nat → Int32) (x0 : Int32) (r_this_line : Nat → Int8) (n : Nat) (y31_l2 : Int32) (y31_l3 : Int32) : f_X12_checks_31 v_this_undos v_this_reached v_this_length v_this_begin v_this_sort v_this_value v_this_signs v_this_word v_this_wrongAt v_this_badAt v_this_x r_this_all x0 r_this_line (n + 1) y31_l2 y31_l3 = (Option.bind (f_X12_round (0, v_this_undos, v_this_reached, v_this_length, v_this_begin, v_this_sort, v_this_value, v_this_signs, v_this_word, v_this_wrongAt, v_this_badAt, v_this_x) r_this_all) (fun u33_r => (if u33_r ≤ y31_l3 then some (y31_l2, (0, v_this_undos, v_this_reached, v_this_length, v_this_begin, v_this_sort, v_this_value, v_this_signs, v_this_word, v_this_wrongAt, v_this_badAt, v_this_x)) else Option.bind (f_X12_roleOf y31_l3 (0, v_this_undos, v_this_reached, v_this_length, v_this_begin, v_this_sort, v_this_value, v_this_signs, v_this_word, v_this_wrongAt, v_this_badAt, v_this_x) r_this_all) (fun u43_r => (if u43_r = 2 then f_X12_checks_62 v_this_undos v_this_reached v_this_length v_this_begin v_this_sort v_this_value v_this_signs v_this_word v_this_wrongAt v_this_badAt v_this_x r_this_all y31_l2 y31_l3 (f_X12_checks_31 v_this_undos v_this_reached v_this_length v_this_begin v_this_sort v_this_value v_this_signs v_this_word v_this_wrongAt v_this_badAt v_this_x r_this_all x0 r_this_line n) 1 else m_in (x0 + y31_l3) 32000 (f_X12_checks_62 v_this_undos v_this_reached v_this_length v_this_begin v_this_sort v_this_value v_this_signs v_this_word v_this_wrongAt v_this_badAt v_this_x r_this_all y31_l2 y31_l3 (f_X12_checks_31 v_this_undos v_this_reached v_this_length v_this_begin v_this_sort v_this_value v_this_signs v_this_word v_this_wrongAt v_this_badAt v_this_x r_this_all x0 r_this_line n) ((r_this_line (x0 + y31_l3).toNatClampNeg).toInt32))))))) := rfl
theorem IB.c {a a' : Nat → Int32} {o o' : Nat} (h : IB a o) (e : ∀ k, k < 133 → a' (o' + k) = a (o + k)) : IB a' o' := by
  obtain ⟨L, w, st, r, sy, bt, hd, po, si, sd, tk, h1, h2, h3, h4, h5, h6, h7, h8, h9, h10, h11, g1, g2, g3, g4, g5, g6, g7, g8, g9, g10, g11⟩ := h
  exact ⟨L, w, st, r, sy, bt, hd, po, si, sd, tk, h1, h2, h3, h4, h5, h6, h7, h8, h9, h10, h11, (e 0 (by decide)).trans g1, (e 2 (by decide)).trans g2, (e 3 (by decide)).trans g3, (e 8 (by decide)).trans g4, (e 21 (by decide)).trans g5, (e 32 (by decide)).trans g6, (e 33 (by decide)).trans g7, (e 39 (by decide)).trans g8, (e 40 (by decide)).trans g9, (e 48 (by decide)).trans g10, (e 50 (by decide)).trans g11⟩
def KU (un : Nat → Int32) (u : Nat) : Prop := u ≤ 6 ∧ ∀ j, j < u → IB un (133 * j)
/-- what keeps() leaves -/
def KPo (ra re le be so va si : Int32) (w : Int64) (wa bd x : Int32) (q : SX12 × (Nat → Int32) × (Nat → Int8)) : Prop := ∃ u', q.1 = (ra, nI u', re, le, be, so, va, si, w, wa, bd, x) ∧ KU q.2.1 u'
theorem kp119 (ra re le be so va si : Int32) (w : Int64) (wa bd x : Int32) (u : Nat) (hu : u ≤ 5) (un : Nat → Int32) (ln : Nat → Int8) (hk : KU un (u + 1)) (m : Nat) : ∀ (k f : Nat) (_ : k + m = 4000) (_ : m ≤ f) (ul : Nat → Int8),
    Tt (f_X12_keeps_119 ra (nI u) re le be so va si w wa bd x un ln (f + 1) (nI k) ul) (KPo ra re le be so va si w wa bd x) := by
  induction m with
  | zero =>
    intro k f hk' _ ul
    rw [f_X12_keeps_119_s, if_pos (show (4000 : Int32) ≤ nI k from nI_le (a := 4000) (by omega) (by omega)), nI_1]
    exact tt_r ⟨u + 1, rfl, hk⟩
  | succ m ih =>
    intro k f hk' hf ul
    obtain ⟨f, rfl⟩ : ∃ q, f = q + 1 := ⟨f - 1, by omega⟩
    rw [f_X12_keeps_119_s, if_neg (show ¬ (4000 : Int32) ≤ nI k from nI_ge (a := k) (b := 4000) (by omega) (by omega)), show (4000 : Int32) = nI 4000 from rfl, pk_mul, nI_add, nI_1]
    exact tt_ik k rfl (by omega) (by omega) (tt_ik (4000 * u + k) rfl (by omega) (by omega) (ih (k + 1) f (by omega) (by omega) _))
theorem kp83 (ra re le be so va si : Int32) (w : Int64) (wa bd x : Int32) (u : Nat) (hu : u ≤ 5) (ln ul : Nat → Int8) (a : Nat → Int32) (hB : IB a 0) (m : Nat) : ∀ (k f : Nat) (_ : k + m = 133) (_ : m ≤ f) (un : Nat → Int32) (_ : ∀ j, j < u → IB un (133 * j)) (_ : ∀ j, j < k → un (133 * u + j) = a j),
    Tt (f_X12_keeps_83 ra (nI u) re le be so va si w wa bd x ln ul a (f + 1) (nI k) un) (KPo ra re le be so va si w wa bd x) := by
  induction m with
  | zero =>
    intro k f hk _ un h1 h2
    have : k = 133 := by omega
    subst this
    rw [f_X12_keeps_83_s, if_pos (by decide)]
    refine kp119 ra re le be so va si w wa bd x u hu un ln ⟨by omega, fun j hj => ?_⟩ 4000 0 65535 (by omega) (by omega) ul
    rcases Nat.lt_or_ge j u with h | h
    · exact h1 j h
    · rw [show j = u by omega]
      exact hB.c (fun q hq => by rw [Nat.zero_add]; exact h2 q hq)
  | succ m ih =>
    intro k f hk hf un h1 h2
    obtain ⟨f, rfl⟩ : ∃ q, f = q + 1 := ⟨f - 1, by omega⟩
    rw [f_X12_keeps_83_s, if_neg (show ¬ (133 : Int32) ≤ nI k from nI_ge (a := k) (b := 133) (by omega) (by omega)), show (133 : Int32) = nI 133 from rfl, pk_mul, nI_add, nI_1]
    refine tt_ik k rfl (by omega) (by omega) (tt_ik (133 * u + k) rfl (by omega) (by omega) ?_)
    rw [nI_clamp (by omega), nI_clamp (by omega)]
    refine ih (k + 1) f (by omega) (by omega) _ (fun j hj => (h1 j hj).c (fun q hq => upd_ne _ _ (by omega))) (fun j hj => ?_)
    by_cases e : j = k
    · subst e; exact upd_same _ _ _
    · rw [upd_ne _ _ (by omega)]; exact h2 j (by omega)
theorem kp81 (ra re le be so va si : Int32) (w : Int64) (wa bd x : Int32) (u : Nat) (hu : u ≤ 5) (ln : Nat → Int8) (a : Nat → Int32) (hB : IB a 0) (un : Nat → Int32) (ul : Nat → Int8) (h1 : ∀ j, j < u → IB un (133 * j)) :
    Tt (f_X12_keeps_81 ra re le be so va si w wa bd x ln a (nI u) un ul) (KPo ra re le be so va si w wa bd x) := by
  unfold f_X12_keeps_81
  exact kp83 ra re le be so va si w wa bd x u hu ln ul a hB 133 0 65535 (by omega) (by omega) un h1 (fun j hj => absurd hj (by omega))
theorem kp42 (ra re le be so va si : Int32) (w : Int64) (wa bd x : Int32) (ln : Nat → Int8) (a : Nat → Int32) (hB : IB a 0) (un : Nat → Int32) (h1 : ∀ j, j < 5 → IB un (133 * j)) (m : Nat) : ∀ (k f : Nat) (_ : k + m = 20000) (_ : m ≤ f) (ul : Nat → Int8),
    Tt (f_X12_keeps_42 ra re le be so va si w wa bd x ln a (nI 6) un (f + 1) (nI k) ul) (KPo ra re le be so va si w wa bd x) := by
  induction m with
  | zero =>
    intro k f hk _ ul
    rw [f_X12_keeps_42_s, if_pos (show (20000 : Int32) ≤ nI k from nI_le (a := 20000) (by omega) (by omega)), show nI 6 - 1 = nI 5 from rfl]
    exact kp81 ra re le be so va si w wa bd x 5 (by omega) ln a hB un ul h1
  | succ m ih =>
    intro k f hk hf ul
    obtain ⟨f, rfl⟩ : ∃ q, f = q + 1 := ⟨f - 1, by omega⟩
    rw [f_X12_keeps_42_s, if_neg (show ¬ (20000 : Int32) ≤ nI k from nI_ge (a := k) (b := 20000) (by omega) (by omega)), show (4000 : Int32) = nI 4000 from rfl, nI_add, nI_1]
    exact tt_ik (k + 4000) rfl (by omega) (by omega) (tt_ik k rfl (by omega) (by omega) (ih (k + 1) f (by omega) (by omega) _))
theorem kp11 (ra re le be so va si : Int32) (w : Int64) (wa bd x : Int32) (ln ul : Nat → Int8) (a : Nat → Int32) (hB : IB a 0) (u0 : Nat → Int32) (h0 : ∀ j, j < 6 → IB u0 (133 * j)) (m : Nat) : ∀ (k f : Nat) (_ : k + m = 665) (_ : m ≤ f) (un : Nat → Int32) (_ : ∀ j, j < k → un j = u0 (j + 133)) (_ : ∀ j, k ≤ j → un j = u0 j),
    Tt (f_X12_keeps_11 ra re le be so va si w wa bd x ln a (nI 6) ul (f + 1) (nI k) un) (KPo ra re le be so va si w wa bd x) := by
  induction m with
  | zero =>
    intro k f hk _ un h1 _
    have : k = 665 := by omega
    subst this
    rw [f_X12_keeps_11_s, if_pos (by decide)]
    refine kp42 ra re le be so va si w wa bd x ln a hB un (fun j hj => ?_) 20000 0 65535 (by omega) (by omega) ul
    refine (h0 (j + 1) (by omega)).c (fun q hq => ?_)
    rw [h1 _ (by omega)]
    congr 1; omega
  | succ m ih =>
    intro k f hk hf un h1 h2
    obtain ⟨f, rfl⟩ : ∃ q, f = q + 1 := ⟨f - 1, by omega⟩
    rw [f_X12_keeps_11_s, if_neg (show ¬ (665 : Int32) ≤ nI k from nI_ge (a := k) (b := 665) (by omega) (by omega)), show (133 : Int32) = nI 133 from rfl, nI_add, nI_1]
    refine tt_ik (k + 133) rfl (by omega) (by omega) (tt_ik k rfl (by omega) (by omega) ?_)
    rw [nI_clamp (by omega), nI_clamp (by omega)]
    refine ih (k + 1) f (by omega) (by omega) _ (fun j hj => ?_) (fun j hj => by rw [upd_ne _ _ (by omega)]; exact h2 j (by omega))
    by_cases e : j = k
    · subst e; rw [upd_same]; exact h2 _ (by omega)
    · rw [upd_ne _ _ e]; exact h1 j (by omega)
theorem kp_t (ra re le be so va si : Int32) (w : Int64) (wa bd x : Int32) (u : Nat) (ln ul : Nat → Int8) (a un : Nat → Int32) (hB : IB a 0) (hK : KU un u) : Tt (f_X12_keeps (ra, nI u, re, le, be, so, va, si, w, wa, bd, x) a ln un ul) (KPo ra re le be so va si w wa bd x) := by
  unfold f_X12_keeps
  refine tt_i (fun c => ?_) (fun c => ?_)
  · have : u = 6 := (nI_eq (b := 6) (by have := hK.1; omega) (by omega)).mp c
    subst this
    exact kp11 ra re le be so va si w wa bd x ln ul a hB un hK.2 665 0 65535 (by omega) (by omega) un (fun j hj => absurd hj (by omega)) (fun _ _ => rfl)
  · have h6 := hK.1
    have : u ≤ 5 := by
      rcases Nat.lt_or_ge u 6 with h | h
      · omega
      · exact absurd (show nI u = 6 by rw [show u = 6 by omega]; rfl) c
    exact kp81 ra re le be so va si w wa bd x u this ln a hB un ul hK.2
/-- a sending touches the values, the bits' count, the checks sent -/
def FrT (a a' : Nat → Int32) : Prop := ∀ j, j < 21 ∨ 33 ≤ j → a' j = a j
theorem FrT.up {a b : Nat → Int32} (h : FrT a b) {k : Nat} {v : Int32} (h1 : 21 ≤ k) (h2 : k < 33) : FrT a (upd b k v) := fun j hj => by rw [upd_ne _ _ (by omega)]; exact h j hj
theorem SB.frT {a a' : Nat → Int32} {L w st r : Nat} (h : SB a L w st r) (f : FrT a a') : SB a' L w st r :=
  ⟨h.1, h.2.1, h.2.2.1, h.2.2.2.1, by rw [f 0 (by omega)]; exact h.2.2.2.2.1, by rw [f 2 (by omega)]; exact h.2.2.2.2.2.1, by rw [f 3 (by omega)]; exact h.2.2.2.2.2.2.1, by rw [f 8 (by omega)]; exact h.2.2.2.2.2.2.2⟩
theorem li_t {a : Nat → Int32} {sy : Nat} (hs : sy ≤ 8) (h21 : a 21 = nI sy) (s : SX12) : Tt (f_X12_linked s a) (fun q => FrT a q.2 ∧ q.2 32 = a 32 ∧ q.2 31 = a 31 ∧ ∃ sy' : Nat, sy' ≤ 8 ∧ q.2 21 = nI sy') := by
  have loop : ∀ (y : Int32) (d : Nat) (_ : d ≤ 7) (m k f : Nat) (_ : k + m = d) (_ : m ≤ f) (a1 : Nat → Int32), FrT a a1 → a1 32 = a 32 → a1 31 = a 31 → a1 21 = nI d → Tt (f_X12_linked_91 y (f + 1) (nI k) a1) (fun q => FrT a q.2 ∧ q.2 32 = a 32 ∧ q.2 31 = a 31 ∧ ∃ sy' : Nat, sy' ≤ 8 ∧ q.2 21 = nI sy') := by
    intro y d hd m
    induction m with
    | zero =>
      intro k f hk _ a1 f1 e32 e31 e21
      rw [f_X12_linked_91_s, e21, if_pos (nI_le (by omega) (by omega))]
      exact tt_r ⟨f1, e32, e31, d, by omega, e21⟩
    | succ m ih =>
      intro k f hk hf a1 f1 e32 e31 e21
      obtain ⟨f, rfl⟩ : ∃ q, f = q + 1 := ⟨f - 1, by omega⟩
      rw [f_X12_linked_91_s, e21, if_neg (nI_ge (by omega) (by omega)), show (22 : Int32) = nI 22 from rfl, nI_add, nI_1, nI_1]
      refine tt_ik (22 + k + 1) rfl (by omega) (by omega) (tt_ik (22 + k) rfl (by omega) (by omega) ?_)
      rw [nI_clamp (by omega), nI_clamp (by omega)]
      exact ih (k + 1) f (by omega) (by omega) _ (f1.up (by omega) (by omega)) (by rw [upd_ne _ _ (by omega)]; exact e32) (by rw [upd_ne _ _ (by omega)]; exact e31) (by rw [upd_ne _ _ (by omega)]; exact e21)
  have k52 : ∀ y, ¬ a 21 = 0 → Tt (f_X12_linked_52 a y) (fun q => FrT a q.2 ∧ q.2 32 = a 32 ∧ q.2 31 = a 31 ∧ ∃ sy' : Nat, sy' ≤ 8 ∧ q.2 21 = nI sy') := by
    intro y hne
    unfold f_X12_linked_52
    have hpos : 1 ≤ sy := by
      rcases Nat.eq_zero_or_pos sy with e | e
      · exact absurd (show a 21 = 0 by rw [h21, e]; rfl) hne
      · exact e
    have f0 : FrT a a := fun _ _ => rfl
    refine tt_i (fun _ => tt_n ?_) (fun _ => tt_r ⟨f0.up (by decide) (by decide), show upd a 30 (a 30 + 1) 32 = a 32 from upd_ne _ _ (by decide), show upd a 30 (a 30 + 1) 31 = a 31 from upd_ne _ _ (by decide), sy, hs, show upd a 30 (a 30 + 1) 21 = nI sy from (upd_ne _ _ (by decide)).trans h21⟩)
    refine loop y (sy - 1) (by omega) (sy - 1) 0 65535 (by omega) (by omega) _ (((f0.up (by decide) (by decide)).up (by decide) (by decide)).up (by decide) (by decide)) ?_ ?_ ?_
    · rw [upd_ne _ _ (by decide), upd_ne _ _ (by decide), upd_ne _ _ (by decide)]
    · rw [upd_ne _ _ (by decide), upd_ne _ _ (by decide), upd_ne _ _ (by decide)]
    · rw [upd_same, upd_ne _ _ (by decide), upd_ne _ _ (by decide), h21]; exact pk_sub (b := 1) hpos
  unfold f_X12_linked
  refine tt_i (fun _ => tt_r ⟨fun _ _ => rfl, rfl, rfl, sy, hs, h21⟩) (fun c => tt_i (fun _ => k52 _ c) (fun _ => tt_i (fun _ => k52 _ c) (fun _ => k52 _ c)))
theorem so_t {L w st r : Nat} (ck : Int32) (b0 : Nat) (m : Nat) : ∀ (k f : Nat) (_ : k + m = L * r) (_ : m ≤ f) (a : Nat → Int32) (_ : SB a L w st r) (_ : b0 + L * r ≤ 7000) (_ : a 32 = nI (b0 + k)) (_ : ∃ sy : Nat, sy ≤ 8 ∧ a 21 = nI sy) (l2 l3 : Int32) (s : SX12) (ln : Nat → Int8),
    Tt (f_X12_sendsOne_12 ck (f + 1) l2 l3 (nI k) s a ln) (fun q => FrT a q.2.1 ∧ q.2.1 32 = nI (b0 + L * r) ∧ (∃ sy : Nat, sy ≤ 8 ∧ q.2.1 21 = nI sy) ∧ q.1.1 = s.1 ∧ q.1.2.1 = s.2.1) := by
  induction m with
  | zero =>
    intro k f hk _ a hB hb h32 h21 l2 l3 s ln
    rw [f_X12_sendsOne_12_s, rnd hB.2.2.2.2.1 hB.2.2.2.2.2.2.2, bso, if_pos (nI_le (by omega) (by omega))]
    obtain ⟨sy, hs, e⟩ := h21
    refine tt_r ⟨fun j hj => upd_ne _ _ (by omega), ?_, ⟨sy, hs, ?_⟩, rfl, rfl⟩
    · show upd a 31 l2 32 = _
      rw [upd_ne _ _ (by decide), h32]; congr 1; omega
    · show upd a 31 l2 21 = _
      rw [upd_ne _ _ (by decide)]; exact e
  | succ m ih =>
    intro k f hk hf a hB hb h32 h21 l2 l3 s ln
    obtain ⟨f, rfl⟩ : ∃ q, f = q + 1 := ⟨f - 1, by omega⟩
    have hl := hB.lr
    have k91 : ∀ (ρ : Int32) (l3' l6 : Int32) (s' : SX12) (a1 : Nat → Int32), FrT a a1 → a1 32 = nI (b0 + k) → (∃ sy : Nat, sy ≤ 8 ∧ a1 21 = nI sy) → s'.1 = s.1 → s'.2.1 = s.2.1 →
        Tt (f_X12_sendsOne_91 ρ l2 ck (nI k) ln (f_X12_sendsOne_12 ck (f + 1)) l3' l6 s' a1) (fun q => FrT a q.2.1 ∧ q.2.1 32 = nI (b0 + L * r) ∧ (∃ sy : Nat, sy ≤ 8 ∧ q.2.1 21 = nI sy) ∧ q.1.1 = s.1 ∧ q.1.2.1 = s.2.1) := by
      intro ρ l3' l6 s' a1 f1 e32 e21 q1 q2
      have k131 : ∀ t, Tt (f_X12_sendsOne_131 l2 ck s' a1 l3' (nI k) ln l6 (f_X12_sendsOne_12 ck (f + 1)) t) (fun q => FrT a q.2.1 ∧ q.2.1 32 = nI (b0 + L * r) ∧ (∃ sy : Nat, sy ≤ 8 ∧ q.2.1 21 = nI sy) ∧ q.1.1 = s.1 ∧ q.1.2.1 = s.2.1) := by
        intro t
        unfold f_X12_sendsOne_131
        obtain ⟨v, e⟩ := go_t l2 t ck s' (upd a1 32 ((a1 32) + 1))
        rw [e, bso, e32, nI_1, nI_1]
        have f2 : FrT a (upd a1 32 (nI (b0 + k + 1))) := f1.up (by decide) (by decide)
        obtain ⟨sy, hs, e3⟩ := e21
        refine tt_m (ih (k + 1) f (by omega) (by omega) _ (hB.frT f2) hb (by rw [upd_same]; rfl) ⟨sy, hs, by rw [upd_ne _ _ (by decide)]; exact e3⟩ v l3' s' _) ?_
        rintro q ⟨g1, g2, g3, g4, g5⟩
        exact ⟨fun j hj => by rw [g1 j hj, f2 j hj], g2, g3, g4.trans q1, g5.trans q2⟩
      unfold f_X12_sendsOne_91
      rw [e32]
      exact tt_ik (b0 + k) rfl (by omega) (by omega) (tt_i (fun _ => k131 _) (fun _ => k131 _))
    have f0 : FrT a a := fun _ _ => rfl
    rw [f_X12_sendsOne_12_s, rnd hB.2.2.2.2.1 hB.2.2.2.2.2.2.2, bso, if_neg (nI_ge (by omega) (by omega))]
    obtain ⟨v, e⟩ := ro_t hB s (q := k) (by omega)
    rw [e, bso]
    refine tt_i (fun _ => ?_) (fun _ => tt_i (fun _ => tt_n (k91 _ _ _ _ _ f0 h32 h21 rfl rfl)) (fun _ => tt_i (fun _ => ?_) (fun _ => ?_)))
    · obtain ⟨s1, s2, s3, s4, s5, s6, s7, s8, s9, s10, s11, s12⟩ := s
      unfold f_X12_drawn
      rw [bso]
      exact k91 _ _ _ _ _ f0 h32 h21 rfl rfl
    · obtain ⟨sy, hs, e21⟩ := h21
      refine tt_b (li_t hs e21 s) ?_
      rintro ⟨q1, a1⟩ ⟨g1, g2, g3, g4⟩
      unfold f_X12_sendsOne_89
      exact k91 _ _ _ _ _ g1 (g2.trans h32) g4 rfl rfl
    · unfold f_X12_sendsOne_89
      exact k91 _ _ _ _ _ f0 h32 h21 rfl rfl
theorem se_t {L w st r : Nat} (n : Nat) (hn : n ≤ 8) (m : Nat) : ∀ (k f : Nat) (_ : k + m = n) (_ : m ≤ f) (b0 : Nat) (_ : b0 + m * (L * r) ≤ 7000) (a : Nat → Int32) (_ : SB a L w st r) (_ : a 32 = nI b0) (_ : ∃ sy : Nat, sy ≤ 8 ∧ a 21 = nI sy) (s1 s2 s3 s4 s5 s6 s7 s8 : Int32) (s9 : Int64) (s10 s11 s12 : Int32) (ln : Nat → Int8),
    Tt (f_X12_sends_7 (nI n) (f + 1) (nI k) s1 s2 s3 s4 s5 s6 s7 s8 s9 s10 s11 s12 a ln) (fun q => FrT a q.2.1 ∧ q.2.1 32 = nI (b0 + m * (L * r)) ∧ (∃ sy : Nat, sy ≤ 8 ∧ q.2.1 21 = nI sy) ∧ q.1.1 = s1 ∧ q.1.2.1 = s2) := by
  induction m with
  | zero =>
    intro k f hk _ b0 hb a hB h32 h21 s1 s2 s3 s4 s5 s6 s7 s8 s9 s10 s11 s12 ln
    rw [f_X12_sends_7_s, if_pos (nI_le (by omega) (by omega))]
    exact tt_r ⟨fun _ _ => rfl, by rw [Nat.zero_mul, Nat.add_zero]; exact h32, h21, rfl, rfl⟩
  | succ m ih =>
    intro k f hk hf b0 hb a hB h32 h21 s1 s2 s3 s4 s5 s6 s7 s8 s9 s10 s11 s12 ln
    obtain ⟨f, rfl⟩ : ∃ q, f = q + 1 := ⟨f - 1, by omega⟩
    have hm : (m + 1) * (L * r) = m * (L * r) + L * r := Nat.succ_mul _ _
    have hl := hB.lr
    rw [f_X12_sends_7_s, if_neg (nI_ge (by omega) (by omega))]
    unfold f_X12_sendsOne
    obtain ⟨v, e⟩ := cm_t hB (s1, s2, s3, s4, s5, s6, s7, s8, s9, s10, s11, s12)
    rw [e, bso]
    refine tt_b (so_t v b0 (L * r) 0 65535 (by omega) (by omega) a hB (by omega) h32 h21 0 0 _ ln) ?_
    rintro ⟨⟨t1, t2, t3, t4, t5, t6, t7, t8, t9, t10, t11, t12⟩, a1, ln1⟩ ⟨g1, g2, g3, g4, g5⟩
    have g4 : t1 = s1 := g4
    have g5 : t2 = s2 := g5
    subst g4
    subst g5
    simp only []
    rw [nI_1]
    refine tt_m (ih (k + 1) f (by omega) (by omega) (b0 + L * r) (by omega) a1 (hB.frT g1) g2 g3 t1 t2 t3 t4 t5 t6 t7 t8 t9 t10 t11 t12 ln1) ?_
    rintro q ⟨p1, p2, p3, p4, p5⟩
    exact ⟨fun j hj => by rw [p1 j hj]; exact g1 j hj, by rw [p2]; congr 1; omega, p3, p4, p5⟩
theorem sd_t {L w st r : Nat} (n : Nat) (hn : n ≤ 8) (b0 : Nat) (hb : b0 + n * (L * r) ≤ 7000) (a : Nat → Int32) (hB : SB a L w st r) (h32 : a 32 = nI b0) (h21 : ∃ sy : Nat, sy ≤ 8 ∧ a 21 = nI sy) (x : Int32) (s : SX12) (ln : Nat → Int8) :
    Tt (f_X12_sends (nI n) x s a ln) (fun q => FrT a q.2.1 ∧ q.2.1 32 = nI (b0 + n * (L * r)) ∧ (∃ sy : Nat, sy ≤ 8 ∧ q.2.1 21 = nI sy) ∧ q.1.1 = s.1 ∧ q.1.2.1 = s.2.1) := by
  obtain ⟨s1, s2, s3, s4, s5, s6, s7, s8, s9, s10, s11, s12⟩ := s
  unfold f_X12_sends
  exact se_t n hn n 0 65535 (by omega) (by omega) b0 hb a hB h32 h21 s1 s2 s3 s4 s5 s6 s7 s8 s9 s10 s11 x ln
theorem IB.sb {a : Nat → Int32} (h : IB a 0) : ∃ L w st r sy bt hd po si sd tk : Nat, SB a L w st r ∧ sy ≤ 8 ∧ hd ≤ bt ∧ bt ≤ 4000 ∧ po < L * r ∧ si ≤ hd ∧ sd ≤ 2 ∧ tk ≤ hd ∧ a 21 = nI sy ∧ a 32 = nI bt ∧ a 33 = nI hd ∧ a 39 = nI po ∧ a 40 = nI si ∧ a 48 = nI sd ∧ a 50 = nI tk := by
  obtain ⟨L, w, st, r, sy, bt, hd, po, si, sd, tk, h1, h2, h3, h4, h5, h6, h7, h8, h9, h10, h11, g1, g2, g3, g4, g5, g6, g7, g8, g9, g10, g11⟩ := h
  exact ⟨L, w, st, r, sy, bt, hd, po, si, sd, tk, ⟨h1, h2, h3, h4, g1, g2, g3, g4⟩, h5, h6, h7, h8, h9, h10, h11, g5, g6, g7, g8, g9, g10, g11⟩
theorem IB.mk' {a : Nat → Int32} {L w st r sy bt hd po si sd tk : Nat} (h : SB a L w st r) (h5 : sy ≤ 8) (h6 : hd ≤ bt) (h7 : bt ≤ 4000) (h8 : po < L * r) (h9 : si ≤ hd) (h10 : sd ≤ 2) (h11 : tk ≤ hd) (g5 : a 21 = nI sy) (g6 : a 32 = nI bt) (g7 : a 33 = nI hd) (g8 : a 39 = nI po) (g9 : a 40 = nI si) (g10 : a 48 = nI sd) (g11 : a 50 = nI tk) : IB a 0 :=
  ⟨L, w, st, r, sy, bt, hd, po, si, sd, tk, h.1, h.2.1, h.2.2.1, h.2.2.2.1, h5, h6, h7, h8, h9, h10, h11, h.2.2.2.2.1, h.2.2.2.2.2.1, h.2.2.2.2.2.2.1, h.2.2.2.2.2.2.2, g5, g6, g7, g8, g9, g10, g11⟩
/-- what an act leaves: the state's block, the kept ones, all behind the block -/
def AO (a : Nat → Int32) (u : Int32) (a' un' : Nat → Int32) : Prop := IB a' 0 ∧ (∃ u' : Nat, u = nI u' ∧ KU un' u') ∧ ∀ j, 133 ≤ j → a' j = a j
theorem in_n {v : Int32} {q : Int32} {a b : Nat} (hb : b < 2 ^ 31) (hab : a ≤ b) (h : q = 0 ∨ (q = 1 ∧ ¬ v < nI a ∧ ¬ nI b < v)) (c : ¬ q = 0) : ∃ k : Nat, v = nI k ∧ a ≤ k ∧ k ≤ b := by
  rcases h with h | ⟨_, h1, h2⟩
  · exact absurd h c
  · exact rng rfl rfl hb hab h1 h2
theorem say_t (x0 ra re le be so va si : Int32) (w : Int64) (wa bd x : Int32) (u : Nat) (ln ul : Nat → Int8) (a un : Nat → Int32) (hB : IB a 0) (hK : KU un u) : Tt (f_X12_say x0 (ra, nI u, re, le, be, so, va, si, w, wa, bd, x) a ln un ul) (fun q => AO a q.2.1.2.1 q.2.2.1 q.2.2.2.1) := by
  have stay : AO a (nI u) a un := ⟨hB, ⟨u, rfl, hK⟩, fun _ _ => rfl⟩
  obtain ⟨L, w', st, r, sy, bt, hd, po, si', sd, tk, hS, h5, h6, h7, h8, h9, h10, h11, g5, g6, g7, g8, g9, g10, g11⟩ := hB.sb
  unfold f_X12_say
  simp only []
  obtain ⟨q, e, _⟩ := in_is x0 0 255
  rw [e, bso]
  refine tt_i (fun _ => tt_r stay) (fun _ => tt_i (fun _ => tt_r stay) (fun c8 => ?_))
  refine tt_b (kp_t 0 re le be so va si w wa bd x u ln ul a un hB hK) ?_
  rintro ⟨s', un', ul'⟩ ⟨u', e', hK'⟩
  have e' : s' = _ := e'
  subst e'
  have hsy : sy ≤ 7 := by
    rcases Nat.lt_or_ge sy 8 with h | h
    · omega
    · exact absurd (show a 21 = 8 by rw [g5, show sy = 8 by omega]; rfl) c8
  simp only []
  rw [g5, show (22 : Int32) = nI 22 from rfl, nI_add]
  refine tt_ik (22 + sy) rfl (by omega) (by omega) (tt_n ?_)
  rw [nI_clamp (by omega), show upd a (22 + sy) x0 21 = nI sy from (upd_ne _ _ (by omega)).trans g5, nI_1]
  refine tt_r ⟨?_, ⟨u', rfl, hK'⟩, fun j hj => by
    show upd (upd a (22 + sy) x0) 21 (nI (sy + 1)) j = a j
    rw [upd_ne _ _ (by omega), upd_ne _ _ (by omega)]⟩
  show IB (upd (upd a (22 + sy) x0) 21 (nI (sy + 1))) 0
  have f1 : FrT a (upd (upd a (22 + sy) x0) 21 (nI (sy + 1))) := (show FrT a a from fun _ _ => rfl).up (by omega) (by omega) |>.up (by decide) (by decide)
  exact IB.mk' (hS.frT f1) (sy := sy + 1) (by omega) h6 h7 h8 h9 h10 h11 (upd_same _ _ _) (by rw [upd_ne _ _ (by decide), upd_ne _ _ (by omega)]; exact g6) (by rw [upd_ne _ _ (by decide), upd_ne _ _ (by omega)]; exact g7) (by rw [upd_ne _ _ (by decide), upd_ne _ _ (by omega)]; exact g8) (by rw [upd_ne _ _ (by decide), upd_ne _ _ (by omega)]; exact g9) (by rw [upd_ne _ _ (by decide), upd_ne _ _ (by omega)]; exact g10) (by rw [upd_ne _ _ (by decide), upd_ne _ _ (by omega)]; exact g11)
theorem send_t (x0 x1 ra re le be so va si : Int32) (w : Int64) (wa bd x : Int32) (u : Nat) (ln ul : Nat → Int8) (a un : Nat → Int32) (hB : IB a 0) (hK : KU un u) : Tt (f_X12_send x0 x1 (ra, nI u, re, le, be, so, va, si, w, wa, bd, x) a ln un ul) (fun q => AO a q.2.1.2.1 q.2.2.1 q.2.2.2.2.1) := by
  have stay : AO a (nI u) a un := ⟨hB, ⟨u, rfl, hK⟩, fun _ _ => rfl⟩
  obtain ⟨L, w', st, r, sy, bt, hd, po, si', sd, tk, hS, h5, h6, h7, h8, h9, h10, h11, g5, g6, g7, g8, g9, g10, g11⟩ := hB.sb
  have hl := hS.lr
  unfold f_X12_send
  simp only []
  obtain ⟨q, e, hq⟩ := in_is x0 1 8
  rw [e, bso]
  refine tt_i (fun _ => tt_r stay) (fun c => ?_)
  obtain ⟨n, rfl, n1, n2⟩ := in_n (a := 1) (b := 8) (by decide) (by decide) hq c
  rw [rnd hS.2.2.2.2.1 hS.2.2.2.2.2.2.2, bso]
  refine tt_i (fun c2 => ?_) (fun _ => tt_r stay)
  have hnm : n * (L * r) ≤ 8 * 288 := Nat.mul_le_mul n2 hl.2
  have hle : bt + n * (L * r) ≤ 4000 := by
    rw [g6, pk_mul, nI_add] at c2
    exact (nI_leI (b := 4000) (by omega) (by omega)).mp c2
  refine tt_b (kp_t 0 re le be so va si w wa bd x u ln ul a un hB hK) ?_
  rintro ⟨s', un', ul'⟩ ⟨u', e', hK'⟩
  have e' : s' = _ := e'
  subst e'
  simp only []
  refine tt_b (sd_t n n2 bt (by omega) a hS g6 ⟨sy, h5, g5⟩ x1 _ ln) ?_
  rintro ⟨⟨t1, t2, t3, t4, t5, t6, t7, t8, t9, t10, t11, t12⟩, a1, ln1⟩ ⟨f1, f2, ⟨sy2, f3, f4⟩, f5, f6⟩
  have f6 : t2 = nI u' := f6
  subst f6
  refine tt_r ⟨?_, ⟨u', rfl, hK'⟩, fun j hj => f1 j (by omega)⟩
  exact IB.mk' (hS.frT f1) (sy := sy2) (bt := bt + n * (L * r)) f3 (by omega) hle h8 h9 h10 h11 f4 f2 ((f1 33 (by omega)).trans g7) ((f1 39 (by omega)).trans g8) ((f1 40 (by omega)).trans g9) ((f1 48 (by omega)).trans g10) ((f1 50 (by omega)).trans g11)
theorem turn_t (x0 ra re le be so va si : Int32) (w : Int64) (wa bd x : Int32) (u : Nat) (ln ul : Nat → Int8) (a un : Nat → Int32) (hB : IB a 0) (hK : KU un u) : Tt (f_X12_turn x0 (ra, nI u, re, le, be, so, va, si, w, wa, bd, x) a ln un ul) (fun q => AO a q.2.1.2.1 a q.2.2.2.1) := by
  have stay : AO a (nI u) a un := ⟨hB, ⟨u, rfl, hK⟩, fun _ _ => rfl⟩
  obtain ⟨L, w', st, r, sy, bt, hd, po, si', sd, tk, hS, h5, h6, h7, h8, h9, h10, h11, g5, g6, g7, g8, g9, g10, g11⟩ := hB.sb
  unfold f_X12_turn
  simp only []
  obtain ⟨q, e, hq⟩ := in_is x0 (a 33) ((a 32) - 1)
  rw [e, bso]
  refine tt_i (fun _ => tt_r stay) (fun c => ?_)
  have hx : ∃ k : Nat, x0 = nI k ∧ k < 4000 := by
    rcases hq with h | ⟨_, h1, h2⟩
    · exact absurd h c
    · rw [g7] at h1
      rw [g6] at h2
      rcases Nat.eq_zero_or_pos bt with e0 | e0
      · subst e0
        have g1 := i_nlt h1
        have g2 := i_nlt h2
        rw [i_le, nI_toInt (by omega)] at g1
        rw [i_le, show (nI 0 - 1).toInt = -1 by decide] at g2
        omega
      · rw [show nI bt - 1 = nI (bt - 1) from pk_sub (b := 1) e0] at h2
        obtain ⟨k, rfl, a1, a2⟩ : ∃ k : Nat, x0 = nI k ∧ 0 ≤ k ∧ k ≤ bt - 1 := by
          have g1 := i_nlt h1
          have g2 := i_nlt h2
          rw [i_le, nI_toInt (by omega)] at g1
          rw [i_le, nI_toInt (by omega)] at g2
          refine ⟨x0.toInt.toNat, ?_, by omega, by omega⟩
          apply Int32.toInt_inj.mp
          rw [nI_toInt (by omega)]
          omega
        exact ⟨k, rfl, by omega⟩
  obtain ⟨k, rfl, hk⟩ := hx
  refine tt_b (kp_t 0 re le be so va si w wa bd x u ln ul a un hB hK) ?_
  rintro ⟨s', un', ul'⟩ ⟨u', e', hK'⟩
  have e' : s' = _ := e'
  subst e'
  exact tt_ik k rfl (by omega) (by omega) (tt_ik k rfl (by omega) (by omega) (tt_r ⟨hB, ⟨u', rfl, hK'⟩, fun _ _ => rfl⟩))
/-- a place between two numbers, as the tests tell it -/
theorem bt_n {x0 : Int32} {a b : Nat} (ha : a < 2 ^ 30) (hb : b < 2 ^ 30) (c : Nat) (hc : c < 2 ^ 30) (h1 : ¬ x0 < nI a) (h2 : ¬ nI b - nI c < x0) : ∃ k : Nat, x0 = nI k ∧ a ≤ k ∧ k + c ≤ b := by
  have g1 := i_nlt h1
  have g2 := i_nlt h2
  rw [i_le, nI_toInt (by omega)] at g1
  rw [i_le, pk_sub_toInt hb hc] at g2
  refine ⟨x0.toInt.toNat, ?_, by omega, by omega⟩
  apply Int32.toInt_inj.mp
  rw [nI_toInt (by omega)]
  omega
theorem lo47 (ra u re le be so va si : Int32) (w : Int64) (wa bd x : Int32) (un : Nat → Int32) (ul : Nat → Int8) (a : Nat → Int32) (bt n : Nat) (hbt : bt ≤ 4000) (hn : n ≤ 500) (g6 : a 32 = nI bt) (m : Nat) : ∀ (k f : Nat) (_ : bt ≤ k + n + m) (_ : k + n ≤ bt) (_ : m ≤ f) (ln : Nat → Int8),
    Tt (f_X12_lose_47 a (nI n) ra u re le be so va si w wa bd x un ul (f + 1) (nI k) ln) (fun q => q.2.1 = (ra, u, re, le, be, so, va, si, w, wa, bd, x) ∧ q.2.2.1 = upd a 32 (nI (bt - n)) ∧ q.2.2.2.2.1 = un) := by
  induction m with
  | zero =>
    intro k f h1 h2 _ ln
    rw [f_X12_lose_47_s, g6, nI_add, if_pos (nI_le (by omega) (by omega)), pk_sub (by omega)]
    exact tt_r ⟨rfl, rfl, rfl⟩
  | succ m ih =>
    intro k f h1 h2 hf ln
    obtain ⟨f, rfl⟩ : ∃ q, f = q + 1 := ⟨f - 1, by omega⟩
    rw [f_X12_lose_47_s, g6, nI_add, pk_sub (show n ≤ bt by omega)]
    refine tt_i (fun _ => tt_r ⟨rfl, rfl, rfl⟩) (fun c => ?_)
    have hlt : k + n < bt := by
      rcases Nat.lt_or_ge (k + n) bt with h | h
      · exact h
      · exact absurd (nI_le h (by omega)) c
    rw [nI_1]
    exact tt_ik (k + n) rfl (by omega) (by omega) (tt_ik k rfl (by omega) (by omega) (ih (k + 1) f (by omega) (by omega) (by omega) _))
theorem lose_t (x0 x1 ra re le be so va si : Int32) (w : Int64) (wa bd x : Int32) (u : Nat) (ln ul : Nat → Int8) (a un : Nat → Int32) (hB : IB a 0) (hK : KU un u) : Tt (f_X12_lose x0 x1 (ra, nI u, re, le, be, so, va, si, w, wa, bd, x) a ln un ul) (fun q => AO a q.2.1.2.1 q.2.2.1 q.2.2.2.2.1) := by
  have stay : AO a (nI u) a un := ⟨hB, ⟨u, rfl, hK⟩, fun _ _ => rfl⟩
  obtain ⟨L, w', st, r, sy, bt, hd, po, si', sd, tk, hS, h5, h6, h7, h8, h9, h10, h11, g5, g6, g7, g8, g9, g10, g11⟩ := hB.sb
  unfold f_X12_lose
  simp only []
  obtain ⟨q, e, hq⟩ := in_is x1 1 500
  rw [e, bso]
  refine tt_i (fun _ => tt_r stay) (fun c => ?_)
  obtain ⟨n, rfl, n1, n2⟩ := in_n (a := 1) (b := 500) (by decide) (by decide) hq c
  rw [g6, g7]
  obtain ⟨q2, e2, hq2⟩ := in_is x0 (nI hd) (nI bt - nI n)
  rw [e2, bso]
  refine tt_i (fun _ => tt_r stay) (fun c2 => ?_)
  obtain ⟨k, rfl, k1, k2⟩ : ∃ k : Nat, x0 = nI k ∧ hd ≤ k ∧ k + n ≤ bt := by
    rcases hq2 with h | ⟨_, l1, l2⟩
    · exact absurd h c2
    · exact bt_n (by omega) (by omega) n (by omega) l1 l2
  refine tt_b (kp_t 0 re le be so va si w wa bd x u ln ul a un hB hK) ?_
  rintro ⟨s', un', ul'⟩ ⟨u', e', hK'⟩
  have e' : s' = _ := e'
  subst e'
  simp only []
  refine tt_m (lo47 0 (nI u') re le be so va si w wa bd x un' ul' a bt n h7 n2 g6 (bt - k - n) k 65535 (by omega) (by omega) (by omega) ln) ?_
  rintro ⟨q1, s2, a2, ln2, un2, ul2⟩ ⟨p1, p2, p3⟩
  have p1 : s2 = _ := p1
  have p2 : a2 = _ := p2
  have p3 : un2 = _ := p3
  subst p1
  subst p2
  subst p3
  refine ⟨?_, ⟨u', rfl, hK'⟩, fun j hj => upd_ne _ _ (by omega)⟩
  have f1 : FrT a (upd a 32 (nI (bt - n))) := (show FrT a a from fun _ _ => rfl).up (by decide) (by decide)
  show IB (upd a 32 (nI (bt - n))) 0
  exact IB.mk' (hS.frT f1) (sy := sy) (bt := bt - n) h5 (by omega) (by omega) h8 h9 h10 h11 (by rw [upd_ne _ _ (by decide)]; exact g5) (upd_same _ _ _) (by rw [upd_ne _ _ (by decide)]; exact g7) (by rw [upd_ne _ _ (by decide)]; exact g8) (by rw [upd_ne _ _ (by decide)]; exact g9) (by rw [upd_ne _ _ (by decide)]; exact g10) (by rw [upd_ne _ _ (by decide)]; exact g11)
theorem pu53 (i : Nat) (x1 : Int32) (ra u re le be so va si : Int32) (w : Int64) (wa bd x : Int32) (un : Nat → Int32) (ul : Nat → Int8) (a : Nat → Int32) (bt : Nat) (hbt : bt ≤ 4000) (g6 : a 32 = nI bt) (hi : i ≤ bt) (m : Nat) : ∀ (k f : Nat) (_ : k = i + m) (_ : k ≤ bt) (_ : m ≤ f) (ln : Nat → Int8),
    Tt (f_X12_put_53 (nI i) x1 a ra u re le be so va si w wa bd x un ul (f + 1) (nI k) ln) (fun q => q.2.1 = (ra, u, re, le, be, so, va, si, w, wa, bd, x) ∧ q.2.2.1 = upd a 32 (nI (bt + 1)) ∧ q.2.2.2.2.1 = un) := by
  have fin : ∀ (ln : Nat → Int8) (t : Int32), Tt (f_X12_put_92 (nI i) a ra u re le be so va si w wa bd x ln un ul t) (fun q => q.2.1 = (ra, u, re, le, be, so, va, si, w, wa, bd, x) ∧ q.2.2.1 = upd a 32 (nI (bt + 1)) ∧ q.2.2.2.2.1 = un) := by
    intro ln t
    unfold f_X12_put_92
    rw [g6, nI_1]
    exact tt_ik i rfl (by omega) (by omega) (tt_r ⟨rfl, rfl, rfl⟩)
  induction m with
  | zero =>
    intro k f h1 h2 _ ln
    rw [f_X12_put_53_s, if_pos (nI_le (by omega) (by omega))]
    exact tt_i (fun _ => fin _ _) (fun _ => fin _ _)
  | succ m ih =>
    intro k f h1 h2 hf ln
    obtain ⟨f, rfl⟩ : ∃ q, f = q + 1 := ⟨f - 1, by omega⟩
    obtain ⟨k, rfl⟩ : ∃ q, k = q + 1 := ⟨k - 1, by omega⟩
    rw [f_X12_put_53_s, if_neg (nI_ge (by omega) (by omega)), nI_pred, pk_m1]
    exact tt_ik k rfl (by omega) (by omega) (tt_ik (k + 1) rfl (by omega) (by omega) (ih k f (by omega) (by omega) (by omega) _))
theorem put_t (x0 x1 ra re le be so va si : Int32) (w : Int64) (wa bd x : Int32) (u : Nat) (ln ul : Nat → Int8) (a un : Nat → Int32) (hB : IB a 0) (hK : KU un u) : Tt (f_X12_put x0 x1 (ra, nI u, re, le, be, so, va, si, w, wa, bd, x) a ln un ul) (fun q => AO a q.2.1.2.1 q.2.2.1 q.2.2.2.2.1) := by
  have stay : AO a (nI u) a un := ⟨hB, ⟨u, rfl, hK⟩, fun _ _ => rfl⟩
  obtain ⟨L, w', st, r, sy, bt, hd, po, si', sd, tk, hS, h5, h6, h7, h8, h9, h10, h11, g5, g6, g7, g8, g9, g10, g11⟩ := hB.sb
  unfold f_X12_put
  simp only []
  rw [g6, g7]
  obtain ⟨q2, e2, hq2⟩ := in_is x0 (nI hd) (nI bt)
  rw [e2, bso]
  refine tt_i (fun _ => tt_r stay) (fun c2 => tt_i (fun _ => tt_r stay) (fun c3 => ?_))
  obtain ⟨k, rfl, k1, k2⟩ := in_n (by omega) h6 hq2 c2
  have hb : bt ≤ 3999 := by
    rcases Nat.lt_or_ge bt 4000 with h | h
    · omega
    · exact absurd (show nI bt = 4000 by rw [show bt = 4000 by omega]; rfl) c3
  refine tt_b (kp_t 0 re le be so va si w wa bd x u ln ul a un hB hK) ?_
  rintro ⟨s', un', ul'⟩ ⟨u', e', hK'⟩
  have e' : s' = _ := e'
  subst e'
  simp only []
  refine tt_m (pu53 k x1 0 (nI u') re le be so va si w wa bd x un' ul' a bt h7 g6 k2 (bt - k) bt 65535 (by omega) (by omega) (by omega) ln) ?_
  rintro ⟨q1, s2, a2, ln2, un2, ul2⟩ ⟨p1, p2, p3⟩
  have p1 : s2 = _ := p1
  have p2 : a2 = _ := p2
  have p3 : un2 = _ := p3
  subst p1
  subst p2
  subst p3
  refine ⟨?_, ⟨u', rfl, hK'⟩, fun j hj => upd_ne _ _ (by omega)⟩
  have f1 : FrT a (upd a 32 (nI (bt + 1))) := (show FrT a a from fun _ _ => rfl).up (by decide) (by decide)
  show IB (upd a 32 (nI (bt + 1))) 0
  exact IB.mk' (hS.frT f1) (sy := sy) (bt := bt + 1) h5 (by omega) (by omega) h8 h9 h10 h11 (by rw [upd_ne _ _ (by decide)]; exact g5) (upd_same _ _ _) (by rw [upd_ne _ _ (by decide)]; exact g7) (by rw [upd_ne _ _ (by decide)]; exact g8) (by rw [upd_ne _ _ (by decide)]; exact g9) (by rw [upd_ne _ _ (by decide)]; exact g10) (by rw [upd_ne _ _ (by decide)]; exact g11)
/-- the state's block in the form that a step of the receiver takes -/
theorem IB.of_hb {a : Nat → Int32} {sy bt hd S : Nat} (h : HB a S) (h5 : sy ≤ 8) (h6 : hd ≤ bt) (h7 : bt ≤ 4000) (hS : S ≤ hd) (g5 : a 21 = nI sy) (g6 : a 32 = nI bt) (g7 : a 33 = nI hd) : IB a 0 := by
  obtain ⟨L, w, st, r, po, si, sd, tk, h1, h2, h3, h4, h8, e1, e2, e3, e4⟩ := h
  exact IB.mk' h1 h5 h6 h7 h2 (by omega) h4 (by omega) g5 g6 g7 e1 e2 e3 e4
theorem HB.up {a : Nat → Int32} {S : Nat} (h : HB a S) {k : Nat} {v : Int32} (hk : k = 32 ∨ k = 33 ∨ k = 31) : HB (upd a k v) S := by
  obtain ⟨L, w, st, r, po, si, sd, tk, h1, h2, h3, h4, h8, e1, e2, e3, e4⟩ := h
  refine ⟨L, w, st, r, po, si, sd, tk, ⟨h1.1, h1.2.1, h1.2.2.1, h1.2.2.2.1, ?_, ?_, ?_, ?_⟩, h2, h3, h4, h8, ?_, ?_, ?_, ?_⟩
  · rw [upd_ne _ _ (by omega)]; exact h1.2.2.2.2.1
  · rw [upd_ne _ _ (by omega)]; exact h1.2.2.2.2.2.1
  · rw [upd_ne _ _ (by omega)]; exact h1.2.2.2.2.2.2.1
  · rw [upd_ne _ _ (by omega)]; exact h1.2.2.2.2.2.2.2
  · rw [upd_ne _ _ (by omega)]; exact e1
  · rw [upd_ne _ _ (by omega)]; exact e2
  · rw [upd_ne _ _ (by omega)]; exact e3
  · rw [upd_ne _ _ (by omega)]; exact e4
theorem hr42 (n : Nat) (ra u re le be so va si : Int32) (w : Int64) (wa bd x : Int32) (un : Nat → Int32) (ul ln : Nat → Int8) (h0 bt sy : Nat) (hsy : sy ≤ 8) (hbt : bt ≤ 4000) (hn : h0 + n ≤ bt) (a0 : Nat → Int32) (m : Nat) : ∀ (k f : Nat) (_ : k + m = n) (_ : m ≤ f) (a : Nat → Int32) (_ : HB a (h0 + k)) (_ : a 33 = nI (h0 + k)) (_ : a 32 = nI bt) (_ : a 21 = nI sy) (_ : ∀ j, 133 ≤ j → a j = a0 j),
    Tt (f_X12_hear_42 (nI n) ra u re le be so va si w wa bd x un ul ln (f + 1) (nI k) a) (fun q => q.2.1 = (ra, u, re, le, be, so, va, si, w, wa, bd, x) ∧ IB q.2.2.1 0 ∧ q.2.2.2.1 = un ∧ ∀ j, 133 ≤ j → q.2.2.1 j = a0 j) := by
  induction m with
  | zero =>
    intro k f hk _ a hB h33 h32 h21 hf
    rw [f_X12_hear_42_s, if_pos (nI_le (by omega) (by omega))]
    exact tt_r ⟨rfl, IB.of_hb hB hsy (show h0 + k ≤ bt by omega) hbt (Nat.le_refl _) h21 h32 h33, rfl, hf⟩
  | succ m ih =>
    intro k f hk hf' a hB h33 h32 h21 hf
    obtain ⟨f, rfl⟩ : ∃ q, f = q + 1 := ⟨f - 1, by omega⟩
    rw [f_X12_hear_42_s, if_neg (nI_ge (by omega) (by omega)), h33]
    refine tt_ik (h0 + k) rfl (by omega) (by omega) (tt_b (he_t hB (by omega) _ _) ?_)
    rintro a1 ⟨f1, f2⟩
    rw [f1 33 (by omega), h33, nI_1, nI_1]
    refine ih (k + 1) f (by omega) (by omega) _ (f2.up (Or.inr (Or.inl rfl))) (upd_same _ _ _) (by rw [upd_ne _ _ (by decide), f1 32 (by omega)]; exact h32) (by rw [upd_ne _ _ (by decide), f1 21 (by omega)]; exact h21) (fun j hj => by rw [upd_ne _ _ (by omega), f1 j (by omega)]; exact hf j hj)
theorem hear_t (x0 ra re le be so va si : Int32) (w : Int64) (wa bd x : Int32) (u : Nat) (ln ul : Nat → Int8) (a un : Nat → Int32) (hB : IB a 0) (hK : KU un u) : Tt (f_X12_hear x0 (ra, nI u, re, le, be, so, va, si, w, wa, bd, x) a ln un ul) (fun q => AO a q.2.1.2.1 q.2.2.1 q.2.2.2.1) := by
  have stay : AO a (nI u) a un := ⟨hB, ⟨u, rfl, hK⟩, fun _ _ => rfl⟩
  obtain ⟨L, w', st, r, sy, bt, hd, po, si', sd, tk, hS, h5, h6, h7, h8, h9, h10, h11, g5, g6, g7, g8, g9, g10, g11⟩ := hB.sb
  unfold f_X12_hear
  simp only []
  rw [g6, g7, pk_sub h6]
  obtain ⟨q1, e1, hq1⟩ := ls_is 4000 (nI (bt - hd))
  rw [e1, bso]
  have hq1 : q1 = nI (bt - hd) := by
    rcases hq1 with ⟨_, h⟩ | ⟨h, _⟩
    · exact h
    · exact absurd (show nI (bt - hd) ≤ 4000 from nI_le (b := 4000) (by omega) (by omega)) h
  subst hq1
  obtain ⟨q, e, hq⟩ := in_is x0 1 (nI (bt - hd))
  rw [e, bso]
  refine tt_i (fun _ => tt_r stay) (fun c => ?_)
  obtain ⟨n, rfl, n1⟩ : ∃ n : Nat, x0 = nI n ∧ n ≤ bt - hd := by
    rcases hq with h | ⟨_, l1, l2⟩
    · exact absurd h c
    · have g1 := i_nlt l1
      have g2 := i_nlt l2
      rw [i_le, show (1 : Int32).toInt = 1 by decide] at g1
      rw [i_le, nI_toInt (by omega)] at g2
      refine ⟨x0.toInt.toNat, ?_, by omega⟩
      apply Int32.toInt_inj.mp
      rw [nI_toInt (by omega)]
      omega
  refine tt_b (kp_t 0 re le be so va si w wa bd x u ln ul a un hB hK) ?_
  rintro ⟨s', un', ul'⟩ ⟨u', e', hK'⟩
  have e' : s' = _ := e'
  subst e'
  simp only []
  refine tt_m (hr42 n 0 (nI u') re le be so va si w wa bd x un' ul' ln hd bt sy h5 h7 (by omega) a n 0 65535 (by omega) (by omega) a ⟨L, w', st, r, po, si', sd, tk, hS, h8, by omega, h10, by omega, g8, g9, g10, g11⟩ g7 g6 g5 (fun _ _ => rfl)) ?_
  rintro ⟨r1, s2, a2, un2, ul2⟩ ⟨p1, p2, p3, p4⟩
  have p1 : s2 = _ := p1
  have p3 : un2 = _ := p3
  subst p1
  subst p3
  exact ⟨p2, ⟨u', rfl, hK'⟩, p4⟩
theorem un62 (v re le be so va si : Int32) (w : Int64) (wa bd x : Int32) (u : Nat) (h1 : 1 ≤ u) (h6 : u ≤ 6) (a1 : Nat → Int32) (ul : Nat → Int8) (m : Nat) : ∀ (k f : Nat) (_ : k + m = 4000) (_ : m ≤ f) (ln : Nat → Int8),
    Tt (f_X12_undo_62 (nI u) re le be so va si w wa bd x a1 ul (f + 1) (nI k) ln) (fun q => q.2.1.2.1 = nI (u - 1) ∧ q.2.2.1 = a1) := by
  induction m with
  | zero =>
    intro k f hk _ ln
    rw [f_X12_undo_62_s, if_pos (show (4000 : Int32) ≤ nI k from nI_le (a := 4000) (by omega) (by omega))]
    exact tt_r ⟨pk_sub (b := 1) h1, rfl⟩
  | succ m ih =>
    intro k f hk hf ln
    obtain ⟨f, rfl⟩ : ∃ q, f = q + 1 := ⟨f - 1, by omega⟩
    rw [f_X12_undo_62_s, if_neg (show ¬ (4000 : Int32) ≤ nI k from nI_ge (a := k) (b := 4000) (by omega) (by omega)), show nI u - 1 = nI (u - 1) from pk_sub (b := 1) h1, show (4000 : Int32) = nI 4000 from rfl, pk_mul, nI_add, nI_1]
    exact tt_ik (4000 * (u - 1) + k) rfl (by omega) (by omega) (tt_n (tt_ik k rfl (by omega) (by omega) (ih (k + 1) f (by omega) (by omega) _)))
theorem un26 (re le be so va si : Int32) (w : Int64) (wa bd x : Int32) (u : Nat) (h1 : 1 ≤ u) (h6 : u ≤ 6) (ul ln : Nat → Int8) (un a : Nat → Int32) (hB : IB un (133 * (u - 1))) (m : Nat) : ∀ (k f : Nat) (_ : k + m = 133) (_ : m ≤ f) (a1 : Nat → Int32) (_ : ∀ j, j < k → a1 j = un (133 * (u - 1) + j)) (_ : ∀ j, 133 ≤ j → a1 j = a j),
    Tt (f_X12_undo_26 (nI u) re le be so va si w wa bd x ul ln un (f + 1) (nI k) a1) (fun q => q.2.1.2.1 = nI (u - 1) ∧ IB q.2.2.1 0 ∧ ∀ j, 133 ≤ j → q.2.2.1 j = a j) := by
  induction m with
  | zero =>
    intro k f hk _ a1 h2 h3
    have : k = 133 := by omega
    subst this
    rw [f_X12_undo_26_s, if_pos (by decide)]
    refine tt_m (un62 0 re le be so va si w wa bd x u h1 h6 a1 ul 4000 0 65535 (by omega) (by omega) ln) ?_
    rintro q ⟨p1, p2⟩
    refine ⟨p1, ?_, fun j hj => by rw [p2]; exact h3 j hj⟩
    rw [p2]
    exact hB.c (fun q hq => by rw [Nat.zero_add]; exact h2 q hq)
  | succ m ih =>
    intro k f hk hf a1 h2 h3
    obtain ⟨f, rfl⟩ : ∃ q, f = q + 1 := ⟨f - 1, by omega⟩
    rw [f_X12_undo_26_s, if_neg (show ¬ (133 : Int32) ≤ nI k from nI_ge (a := k) (b := 133) (by omega) (by omega)), show nI u - 1 = nI (u - 1) from pk_sub (b := 1) h1, show (133 : Int32) = nI 133 from rfl, pk_mul, nI_add, nI_1]
    refine tt_ik (133 * (u - 1) + k) rfl (by omega) (by omega) (tt_n (tt_ik k rfl (by omega) (by omega) ?_))
    rw [nI_clamp (by omega), nI_clamp (by omega)]
    refine ih (k + 1) f (by omega) (by omega) _ (fun j hj => ?_) (fun j hj => by rw [upd_ne _ _ (by omega)]; exact h3 j hj)
    by_cases e : j = k
    · subst e; exact upd_same _ _ _
    · rw [upd_ne _ _ e]; exact h2 j (by omega)
theorem undo_t (ra re le be so va si : Int32) (w : Int64) (wa bd x : Int32) (u : Nat) (ln ul : Nat → Int8) (a un : Nat → Int32) (hB : IB a 0) (hK : KU un u) : Tt (f_X12_undo (ra, nI u, re, le, be, so, va, si, w, wa, bd, x) a ln un ul) (fun q => AO a q.2.1.2.1 q.2.2.1 un) := by
  unfold f_X12_undo
  refine tt_i (fun _ => tt_r ⟨hB, ⟨u, rfl, hK⟩, fun _ _ => rfl⟩) (fun c => ?_)
  have h1 : 1 ≤ u := by
    rcases Nat.eq_zero_or_pos u with e | e
    · exact absurd (show nI u = 0 by rw [e]; rfl) c
    · exact e
  refine tt_m (un26 re le be so va si w wa bd x u h1 hK.1 ul ln un a (hK.2 (u - 1) (by omega)) 133 0 65535 (by omega) (by omega) a (fun j hj => absurd hj (by omega)) (fun _ _ => rfl)) ?_
  rintro q ⟨p1, p2, p3⟩
  exact ⟨p2, ⟨u - 1, p1, by have := hK.1; omega, fun j hj => hK.2 j (by omega)⟩, p3⟩
theorem chk_t (x0 : Int32) (s : SX12) (a : Nat → Int32) (hB : IB a 0) (ln : Nat → Int8) : Tt (f_X12_checks x0 s a ln) (fun q => q.2.2.1 = s.2.1) := by
  obtain ⟨ra, u, re, le, be, so, va, si, w, wa, bd, x⟩ := s
  obtain ⟨L, w', st, r, sy, bt, hd, po, si', sd, tk, hS, h5, h6, h7, h8, h9, h10, h11, g5, g6, g7, g8, g9, g10, g11⟩ := hB.sb
  have hl := hS.lr
  unfold f_X12_checks
  simp only []
  rw [rnd hS.2.2.2.2.1 hS.2.2.2.2.2.2.2, bso, g6]
  obtain ⟨q, e, hq⟩ := in_is x0 0 (nI bt - nI (L * r))
  rw [e, bso]
  refine tt_i (fun _ => tt_r rfl) (fun c => ?_)
  obtain ⟨i, rfl, _, i2⟩ : ∃ k : Nat, x0 = nI k ∧ 0 ≤ k ∧ k + L * r ≤ bt := by
    rcases hq with h | ⟨_, l1, l2⟩
    · exact absurd h c
    · exact bt_n (a := 0) (by omega) (by omega) (L * r) (by omega) l1 l2
  have loop : ∀ (m k f : Nat) (l2 : Int32), k + m = L * r → m ≤ f → Tt (f_X12_checks_31 u re le be so va si w wa bd x a (nI i) ln (f + 1) l2 (nI k)) (fun q => q.2.2.1 = u) := by
    intro m
    induction m with
    | zero =>
      intro k f l2 hk _
      rw [f_X12_checks_31_s, rnd hS.2.2.2.2.1 hS.2.2.2.2.2.2.2, bso, if_pos (nI_le (by omega) (by omega))]
      exact tt_r rfl
    | succ m ih =>
      intro k f l2 hk hf
      obtain ⟨f, rfl⟩ : ∃ q, f = q + 1 := ⟨f - 1, by omega⟩
      have go : ∀ t, Tt (f_X12_checks_62 u re le be so va si w wa bd x a l2 (nI k) (f_X12_checks_31 u re le be so va si w wa bd x a (nI i) ln (f + 1)) t) (fun q => q.2.2.1 = u) := by
        intro t
        unfold f_X12_checks_62
        obtain ⟨v, e1⟩ := cm_t hS (0, u, re, le, be, so, va, si, w, wa, bd, x)
        rw [e1, bso]
        obtain ⟨v2, e2⟩ := go_t l2 t v (0, u, re, le, be, so, va, si, w, wa, bd, x) a
        rw [e2, bso, nI_1]
        exact ih (k + 1) f v2 (by omega) (by omega)
      rw [f_X12_checks_31_s, rnd hS.2.2.2.2.1 hS.2.2.2.2.2.2.2, bso, if_neg (nI_ge (by omega) (by omega))]
      obtain ⟨v, e1⟩ := ro_t hS (0, u, re, le, be, so, va, si, w, wa, bd, x) (q := k) (by omega)
      rw [e1, bso, nI_add]
      exact tt_i (fun _ => go _) (fun _ => tt_ik (i + k) rfl (by omega) (by omega) (go _))
  exact loop (L * r) 0 65535 0 (by omega) (by omega)
