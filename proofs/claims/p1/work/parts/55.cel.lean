theorem f_X12_sendsOne_12_s (u1_r : Int32) (n : Nat) (y12_l2 : Int32) (y12_l3 : Int32) (y12_l4 : Int32) (y12_this : SX12) (y12_this_all : (Nat → Int32)) (y12_this_line : (Nat → Int8)) : f_X12_sendsOne_12 u1_r (n + 1) y12_l2 y12_l3 y12_l4 y12_this y12_this_all y12_this_line = (Option.bind (f_X12_round y12_this y12_this_all) (fun u15_r => (if u15_r ≤ y12_l4 then some (y12_this, (upd y12_this_all 31 y12_l2), y12_this_line) else Option.bind (f_X12_roleOf y12_l4 y12_this y12_this_all) (fun u24_r => (if u24_r = (-1) then Option.bind (f_X12_drawn y12_this) (fun z => match z with | (u39_r, u39_this) => f_X12_sendsOne_91 u24_r y12_l2 u1_r y12_l4 y12_this_line (f_X12_sendsOne_12 u1_r n) y12_l3 u39_r u39_this y12_this_all) else (if u24_r = 2 then m_n (((y12_this_all 31) >>> ((u1_r - (y12_l3 + 1)) &&& 31)) &&& 1) (fun u69_e => f_X12_sendsOne_91 u24_r y12_l2 u1_r y12_l4 y12_this_line (f_X12_sendsOne_12 u1_r n) (y12_l3 + 1) u69_e y12_this y12_this_all) else (if u24_r = 3 then Option.bind (f_X12_linked y12_this y12_this_all) (fun z => match z with | (u81_r, u81_this_all) => f_X12_sendsOne_89 u24_r y12_l2 u1_r y12_l4 y12_this_line y12_l3 y12_this (f_X12_sendsOne_12 u1_r n) u81_r u81_this_all) else f_X12_sendsOne_89 u24_r y12_l2 u1_r y12_l4 y12_this_line y12_l3 y12_this (f_X12_sendsOne_12 u1_r n) u24_r y12_this_all))))))) := rfl
theorem f_X12_sends_7_s (x0 : Int32) (n : Nat) (y7_l3 : Int32) (y7_this_raised : Int32) (y7_this_undos : Int32) (y7_this_reached : Int32) (y7_this_length : Int32) (y7_this_begin : Int32) (y7_this_sort : Int32) (y7_this_value : Int32) (y7_this_signs : Int32) (y7_this_word : Int64) (y7_this_wrongAt : Int32) (y7_this_badAt : Int32) (y7_this_x : Int32) (y7_this_all : (Nat → Int32)) (y7_this_line : (Nat → Int8)) : f_X12_sends_7 x0 (n + 1) y7_l3 y7_this_raised y7_this_undos y7_this_reached y7_this_length y7_this_begin y7_this_sort y7_this_value y7_this_signs y7_this_word y7_this_wrongAt y7_this_badAt y7_this_x y7_this_all y7_this_line = ((if x0 ≤ y7_l3 then some ((y7_this_raised, y7_this_undos, y7_this_reached, y7_this_length, y7_this_begin, y7_this_sort, y7_this_value, y7_this_signs, y7_this_word, y7_this_wrongAt, y7_this_badAt, y7_this_x), y7_this_all, y7_this_line) else Option.bind (f_X12_sendsOne (y7_this_raised, y7_this_undos, y7_this_reached, y7_this_length, y7_this_begin, y7_this_sort, y7_this_value, y7_this_signs, y7_this_word, y7_this_wrongAt, y7_this_badAt, y7_this_x) y7_this_all y7_this_line) (fun z => match z with | ((u13_this_raised, u13_this_undos, u13_this_reached, u13_this_length, u13_this_begin, u13_this_sort, u13_this_value, u13_this_signs, u13_this_word, u13_this_wrongAt, u13_this_badAt, u13_this_x), u13_this_all, u13_this_line) => (f_X12_sends_7 x0 n) (y7_l3 + 1) u13_this_raised u13_this_undos u13_this_reached u13_this_length u13_this_begin u13_this_sort u13_this_value u13_this_signs u13_this_word u13_this_wrongAt u13_this_badAt u13_this_x u13_this_all u13_this_line))) := rfl
theorem f_X6_transmit_7_s (x2 : Int32) (n_p1_bits : Nat) (s_p0 : SX5) (r_p0_roles : Nat → Int32) (n : Nat) (y7_l5 : Int32) (y7_l6 : Int32) (y7_this : SX6) (y7_this_values : (Nat → Int32)) (y7_p1 : Int32) (y7_p1_bits : (Nat → Int8)) : f_X6_transmit_7 x2 n_p1_bits s_p0 r_p0_roles (n + 1) y7_l5 y7_l6 y7_this y7_this_values y7_p1 y7_p1_bits = ((if x2 ≤ y7_l6 then some (y7_this, y7_this_values, y7_p1, y7_p1_bits) else Option.bind (f_X6_transmitOne n_p1_bits y7_l5 y7_this y7_this_values s_p0 r_p0_roles y7_p1 y7_p1_bits) (fun z => match z with | (u18_r, u18_this, u18_this_values, u18_p1, u18_p1_bits) => (f_X6_transmit_7 x2 n_p1_bits s_p0 r_p0_roles n) u18_r (y7_l6 + 1) u18_this u18_this_values u18_p1 u18_p1_bits))) := rfl
def lcg (x : Int32) : Int32 := x * 1103515245 + 12345
def drI (x : Int32) : Int32 := ((lcg x).toUInt32 >>> ((16 : Int32).toUInt32 &&& Int32.toUInt32 31)).toInt32 &&& 1
def rl (q : Nat) : Int32 := if q = 2 then 1 else if q = 4 then 1 else if q = 5 then 1 else 0
def c8 (v : Int32) : Int8 := v.toInt8.toInt32.toInt8
def drR (x : Int32) : Int32 := ((lcg x).toUInt32 >>> ((16 : Int32).toUInt32 &&& Int32.toUInt32 31)).toInt32 - ((lcg x).toUInt32 >>> ((16 : Int32).toUInt32 &&& Int32.toUInt32 31)).toInt32 / 2 * 2
theorem dr_eq (x : Int32) : drR x = drI x := by
  obtain ⟨n, hn, e⟩ : ∃ n, n < 2 ^ 32 ∧ lcg x = nI n := ⟨(lcg x).toBitVec.toNat, (lcg x).toBitVec.isLt, Int32.toBitVec_inj.mp (by show _ = BitVec.ofNat 32 _; simp)⟩
  unfold drR drI
  rw [e, pk_ushrN hn 16 16 (by decide)]
  have h2 : n / 2 ^ 16 < 2 ^ 16 := by omega
  rw [pk_andN (k := 1) (by omega) (by decide)]
  exact pk_rem (d := 2) (by omega) (by decide) (by decide)
def cl (d : Int32 → Int32) : Nat → Nat → Int32 → List Int32
  | 0, _, _ => []
  | m + 1, k, x => if k % 8 = 0 then rl (k / 8 % 6) :: cl d m (k + 1) x else d x :: cl d m (k + 1) (lcg x)
theorem cl_eq (m k : Nat) (x : Int32) : cl drR m k x = cl drI m k x := by rw [show drR = drI from funext dr_eq]
def cx : Nat → Nat → Int32 → Int32
  | 0, _, x => x
  | m + 1, k, x => if k % 8 = 0 then cx m (k + 1) x else cx m (k + 1) (lcg x)
def wr : List Int32 → Nat → (Nat → Int8) → (Nat → Int8)
  | [], _, b => b
  | v :: l, p, b => wr l (p + 1) (upB b p (c8 v))
def rT : Nat → Int32 := T0.2.2.1
def plan0 : SX5 := (8, 6, 0, 7, 0, 4, 2, 4, 0, 48, 1, 0, 11, 52, 63)
