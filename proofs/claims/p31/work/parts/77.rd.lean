theorem f_X3_step_8_s (v_this_text_size : Int32) (v_this_text_flaw : Int32) (v_this_text_flawPlace : Int32) (r_this_text_bytes : Nat → Int8) (v_this_flaw : Int32) (v_this_flawPlace : Int32) (n : Nat) (y8_this_start : Int32) : f_X3_step_8 v_this_text_size v_this_text_flaw v_this_text_flawPlace r_this_text_bytes v_this_flaw v_this_flawPlace (n + 1) y8_this_start = ((if v_this_text_size ≤ y8_this_start then f_X3_step_52 y8_this_start v_this_text_size v_this_text_flaw v_this_text_flawPlace r_this_text_bytes v_this_flaw v_this_flawPlace else Option.bind (f_X8_at y8_this_start (v_this_text_size, v_this_text_flaw, v_this_text_flawPlace) r_this_text_bytes) (fun u30_r => Option.bind (f_X3_isBlank u30_r) (fun u33_r => (if u33_r = 0 then f_X3_step_52 y8_this_start v_this_text_size v_this_text_flaw v_this_text_flawPlace r_this_text_bytes v_this_flaw v_this_flawPlace else (f_X3_step_8 v_this_text_size v_this_text_flaw v_this_text_flawPlace r_this_text_bytes v_this_flaw v_this_flawPlace n) (y8_this_start + 1)))))) := rfl
theorem f_X3_step_165_s (v_this_text_size : Int32) (y8_this_start : Int32) (v_this_flaw : Int32) (v_this_flawPlace : Int32) (v_this_text_flaw : Int32) (v_this_text_flawPlace : Int32) (r_this_text_bytes : Nat → Int8) (n : Nat) (y165_this_end : Int32) : f_X3_step_165 v_this_text_size y8_this_start v_this_flaw v_this_flawPlace v_this_text_flaw v_this_text_flawPlace r_this_text_bytes (n + 1) y165_this_end = ((if v_this_text_size ≤ y165_this_end then f_X3_step_209 y165_this_end y8_this_start v_this_flaw v_this_flawPlace else Option.bind (f_X8_at y165_this_end (v_this_text_size, v_this_text_flaw, v_this_text_flawPlace) r_this_text_bytes) (fun u187_r => Option.bind (f_X3_isDigit u187_r) (fun u190_r => (if u190_r = 0 then f_X3_step_209 y165_this_end y8_this_start v_this_flaw v_this_flawPlace else (f_X3_step_165 v_this_text_size y8_this_start v_this_flaw v_this_flawPlace v_this_text_flaw v_this_text_flawPlace r_this_text_bytes n) (y165_this_end + 1)))))) := rfl
theorem f_X3_step_104_s (v_this_text_size : Int32) (v_this_flaw : Int32) (v_this_flawPlace : Int32) (y8_this_start : Int32) (v_this_text_flaw : Int32) (v_this_text_flawPlace : Int32) (r_this_text_bytes : Nat → Int8) (n : Nat) (y104_this_end : Int32) : f_X3_step_104 v_this_text_size v_this_flaw v_this_flawPlace y8_this_start v_this_text_flaw v_this_text_flawPlace r_this_text_bytes (n + 1) y104_this_end = ((if v_this_text_size ≤ y104_this_end then some (v_this_flaw, v_this_flawPlace, 1, y8_this_start, y104_this_end) else Option.bind (f_X8_at y104_this_end (v_this_text_size, v_this_text_flaw, v_this_text_flawPlace) r_this_text_bytes) (fun u126_r => Option.bind (f_X3_isLetter u126_r) (fun u129_r => (if u129_r = 0 then some (v_this_flaw, v_this_flawPlace, 1, y8_this_start, y104_this_end) else (f_X3_step_104 v_this_text_size v_this_flaw v_this_flawPlace y8_this_start v_this_text_flaw v_this_text_flawPlace r_this_text_bytes n) (y104_this_end + 1)))))) := rfl
theorem f_X3_isWord_28_s (w : Nat) (v_this_start : Int32) (s_this_text : SX8) (r_this_text_bytes : Nat → Int8) (n : Nat) (y28_l2 : Int32) : f_X3_isWord_28 w v_this_start s_this_text r_this_text_bytes (n + 1) y28_l2 = ((if (sx_l w) ≤ y28_l2 then some 1 else Option.bind (f_X8_at (v_this_start + y28_l2) s_this_text r_this_text_bytes) (fun u46_r => m_in y28_l2 (sx_z w) ((if u46_r = (sx_c w y28_l2.toNatClampNeg) then (f_X3_isWord_28 w v_this_start s_this_text r_this_text_bytes n) (y28_l2 + 1) else some 0))))) := rfl
theorem f_X3_readNumber_52_s (y44_t0 : Int32) (v_this_start : Int32) (v_this_flaw : Int32) (v_this_flawPlace : Int32) (v_this_kind : Int32) (v_this_end : Int32) (s_this_text : SX8) (r_this_text_bytes : Nat → Int8) (x0 : Int32) (x1 : Int32) (n : Nat) (y52_l3 : Int32) (y52_l5 : Int32) : f_X3_readNumber_52 y44_t0 v_this_start v_this_flaw v_this_flawPlace v_this_kind v_this_end s_this_text r_this_text_bytes x0 x1 (n + 1) y52_l3 y52_l5 = ((if y44_t0 = 0 then f_X3_readNumber_90 y44_t0 v_this_start v_this_flaw v_this_flawPlace v_this_kind v_this_end s_this_text r_this_text_bytes x0 y52_l3 x1 else (if v_this_end ≤ y52_l5 then f_X3_readNumber_90 y44_t0 v_this_start v_this_flaw v_this_flawPlace v_this_kind v_this_end s_this_text r_this_text_bytes x0 y52_l3 x1 else Option.bind (f_X8_at y52_l5 s_this_text r_this_text_bytes) (fun u76_r => (f_X3_readNumber_52 y44_t0 v_this_start v_this_flaw v_this_flawPlace v_this_kind v_this_end s_this_text r_this_text_bytes x0 x1 n) (((y52_l3 * 10) + u76_r) - 48) (y52_l5 + 1))))) := rfl
theorem f_X3_readRow_61_s (y31_this_end : Int32) (y31_this_flaw : Int32) (y31_this_flawPlace : Int32) (y31_this_kind : Int32) (y31_this_start : Int32) (s_this_text : SX8) (r_this_text_bytes : Nat → Int8) (y31_l5 : Int32) (v_this_told_length : Int32) (v_this_told_roleCount : Int32) (v_this_told_poly : Int32) (v_this_told_width : Int32) (v_this_told_stolen : Int32) (v_this_told_fewest : Int32) (v_this_told_wrong : Int32) (v_this_told_latest : Int32) (v_this_told_drift : Int32) (v_this_told_superframe : Int32) (v_this_told_channels : Int32) (v_this_told_checkBits : Int32) (v_this_told_zeros : Int32) (v_this_told_ones : Int32) (v_this_told_allFrames : Int32) (k31 : Int32 → Int32 → Int32 → Int32 → Int32 → Int32 → Int32 → Int32 → Int32 → (Nat → Int32) → Option (SX3 × SX5 × (Nat → Int32))) (n : Nat) (y61_l2 : Int32) (y61_l3 : Int32) (y61_l4 : Int32) (y61_l6 : Int32) (y61_this_told_roles : (Nat → Int32)) : f_X3_readRow_61 y31_this_end y31_this_flaw y31_this_flawPlace y31_this_kind y31_this_start s_this_text r_this_text_bytes y31_l5 v_this_told_length v_this_told_roleCount v_this_told_poly v_this_told_width v_this_told_stolen v_this_told_fewest v_this_told_wrong v_this_told_latest v_this_told_drift v_this_told_superframe v_this_told_channels v_this_told_checkBits v_this_told_zeros v_this_told_ones v_this_told_allFrames k31 (n + 1) y61_l2 y61_l3 y61_l4 y61_l6 y61_this_told_roles = ((if y31_this_end ≤ y61_l6 then Option.bind (f_X3_step (y31_this_flaw, y31_this_flawPlace, y31_this_kind, y31_this_start, y31_this_end) s_this_text r_this_text_bytes) (fun z => match z with | (u152_this_flaw, u152_this_flawPlace, u152_this_kind, u152_this_start, u152_this_end) => k31 y61_l2 y61_l3 y61_l4 (y31_l5 + 1) u152_this_flaw u152_this_flawPlace u152_this_kind u152_this_start u152_this_end y61_this_told_roles) else Option.bind (f_X8_at y61_l6 s_this_text r_this_text_bytes) (fun u76_r => Option.bind (f_X3_roleOf u76_r) (fun u79_r => (if u79_r = (-1) then Option.bind (f_X3_misplace (y31_this_flaw, y31_this_flawPlace, y31_this_kind, y31_this_start, y31_this_end)) (fun z => match z with | (u91_this_flaw, u91_this_flawPlace, u91_this_kind, u91_this_start, u91_this_end) => some ((u91_this_flaw, u91_this_flawPlace, u91_this_kind, u91_this_start, u91_this_end), (v_this_told_length, v_this_told_roleCount, v_this_told_poly, v_this_told_width, v_this_told_stolen, v_this_told_fewest, v_this_told_wrong, v_this_told_latest, v_this_told_drift, v_this_told_superframe, v_this_told_channels, v_this_told_checkBits, v_this_told_zeros, v_this_told_ones, v_this_told_allFrames), y61_this_told_roles)) else (if 12 ≤ y61_l2 then f_X3_readRow_112 u79_r y61_l2 y61_l3 y61_l4 y61_l6 (f_X3_readRow_61 y31_this_end y31_this_flaw y31_this_flawPlace y31_this_kind y31_this_start s_this_text r_this_text_bytes y31_l5 v_this_told_length v_this_told_roleCount v_this_told_poly v_this_told_width v_this_told_stolen v_this_told_fewest v_this_told_wrong v_this_told_latest v_this_told_drift v_this_told_superframe v_this_told_channels v_this_told_checkBits v_this_told_zeros v_this_told_ones v_this_told_allFrames k31 n) y61_this_told_roles else m_in y61_l2 12 (f_X3_readRow_112 u79_r y61_l2 y61_l3 y61_l4 y61_l6 (f_X3_readRow_61 y31_this_end y31_this_flaw y31_this_flawPlace y31_this_kind y31_this_start s_this_text r_this_text_bytes y31_l5 v_this_told_length v_this_told_roleCount v_this_told_poly v_this_told_width v_this_told_stolen v_this_told_fewest v_this_told_wrong v_this_told_latest v_this_told_drift v_this_told_superframe v_this_told_channels v_this_told_checkBits v_this_told_zeros v_this_told_ones v_this_told_allFrames k31 n) (upd y61_this_told_roles y61_l2.toNatClampNeg u79_r)))))))) := rfl
theorem f_X3_readRow_31_s (x0 : Int32) (v_this_told_length : Int32) (v_this_told_roleCount : Int32) (v_this_told_poly : Int32) (v_this_told_width : Int32) (v_this_told_stolen : Int32) (v_this_told_fewest : Int32) (v_this_told_wrong : Int32) (v_this_told_latest : Int32) (v_this_told_drift : Int32) (v_this_told_superframe : Int32) (v_this_told_channels : Int32) (v_this_told_checkBits : Int32) (v_this_told_zeros : Int32) (v_this_told_ones : Int32) (v_this_told_allFrames : Int32) (s_this_text : SX8) (r_this_text_bytes : Nat → Int8) (n : Nat) (y31_l2 : Int32) (y31_l3 : Int32) (y31_l4 : Int32) (y31_l5 : Int32) (y31_this_flaw : Int32) (y31_this_flawPlace : Int32) (y31_this_kind : Int32) (y31_this_start : Int32) (y31_this_end : Int32) (y31_this_told_roles : (Nat → Int32)) : f_X3_readRow_31 x0 v_this_told_length v_this_told_roleCount v_this_told_poly v_this_told_width v_this_told_stolen v_this_told_fewest v_this_told_wrong v_this_told_latest v_this_told_drift v_this_told_superframe v_this_told_channels v_this_told_checkBits v_this_told_zeros v_this_told_ones v_this_told_allFrames s_this_text r_this_text_bytes (n + 1) y31_l2 y31_l3 y31_l4 y31_l5 y31_this_flaw y31_this_flawPlace y31_this_kind y31_this_start y31_this_end y31_this_told_roles = ((if 300 < y31_l5 then f_X3_readRow_161 y31_l2 x0 y31_this_flaw y31_this_flawPlace y31_this_kind y31_this_start y31_this_end v_this_told_length v_this_told_roleCount v_this_told_poly v_this_told_width v_this_told_stolen v_this_told_fewest v_this_told_wrong v_this_told_latest v_this_told_drift v_this_told_superframe v_this_told_channels v_this_told_checkBits v_this_told_zeros v_this_told_ones v_this_told_allFrames y31_this_told_roles y31_l3 y31_l4 else (if y31_this_kind = 1 then f_X3_readRow_55 y31_this_end y31_this_flaw y31_this_flawPlace y31_this_kind y31_this_start s_this_text r_this_text_bytes y31_l5 v_this_told_length v_this_told_roleCount v_this_told_poly v_this_told_width v_this_told_stolen v_this_told_fewest v_this_told_wrong v_this_told_latest v_this_told_drift v_this_told_superframe v_this_told_channels v_this_told_checkBits v_this_told_zeros v_this_told_ones v_this_told_allFrames y31_l2 y31_l3 y31_l4 y31_this_told_roles (f_X3_readRow_31 x0 v_this_told_length v_this_told_roleCount v_this_told_poly v_this_told_width v_this_told_stolen v_this_told_fewest v_this_told_wrong v_this_told_latest v_this_told_drift v_this_told_superframe v_this_told_channels v_this_told_checkBits v_this_told_zeros v_this_told_ones v_this_told_allFrames s_this_text r_this_text_bytes n) else (if y31_this_kind = 2 then f_X3_readRow_55 y31_this_end y31_this_flaw y31_this_flawPlace y31_this_kind y31_this_start s_this_text r_this_text_bytes y31_l5 v_this_told_length v_this_told_roleCount v_this_told_poly v_this_told_width v_this_told_stolen v_this_told_fewest v_this_told_wrong v_this_told_latest v_this_told_drift v_this_told_superframe v_this_told_channels v_this_told_checkBits v_this_told_zeros v_this_told_ones v_this_told_allFrames y31_l2 y31_l3 y31_l4 y31_this_told_roles (f_X3_readRow_31 x0 v_this_told_length v_this_told_roleCount v_this_told_poly v_this_told_width v_this_told_stolen v_this_told_fewest v_this_told_wrong v_this_told_latest v_this_told_drift v_this_told_superframe v_this_told_channels v_this_told_checkBits v_this_told_zeros v_this_told_ones v_this_told_allFrames s_this_text r_this_text_bytes n) else f_X3_readRow_161 y31_l2 x0 y31_this_flaw y31_this_flawPlace y31_this_kind y31_this_start y31_this_end v_this_told_length v_this_told_roleCount v_this_told_poly v_this_told_width v_this_told_stolen v_this_told_fewest v_this_told_wrong v_this_told_latest v_this_told_drift v_this_told_superframe v_this_told_channels v_this_told_checkBits v_this_told_zeros v_this_told_ones v_this_told_allFrames y31_this_told_roles y31_l3 y31_l4)))) := rfl
theorem f_X3_readWhole_36_s (u5_this_text : SX8) (u5_this_text_bytes : Nat → Int8) (n : Nat) (y36_l2 : Int32) (y36_this_flaw : Int32) (y36_this_flawPlace : Int32) (y36_this_kind : Int32) (y36_this_start : Int32) (y36_this_end : Int32) (y36_this_told : SX5) (y36_this_told_roles : (Nat → Int32)) : f_X3_readWhole_36 u5_this_text u5_this_text_bytes (n + 1) y36_l2 y36_this_flaw y36_this_flawPlace y36_this_kind y36_this_start y36_this_end y36_this_told y36_this_told_roles = ((if 300 < y36_l2 then f_X3_readWhole_68 y36_this_flaw y36_this_told y36_this_told_roles y36_this_flawPlace y36_this_kind y36_this_start y36_this_end u5_this_text u5_this_text_bytes else (if y36_this_kind = 0 then f_X3_readWhole_68 y36_this_flaw y36_this_told y36_this_told_roles y36_this_flawPlace y36_this_kind y36_this_start y36_this_end u5_this_text u5_this_text_bytes else (if y36_this_flaw = 1 then f_X3_readWhole_68 y36_this_flaw y36_this_told y36_this_told_roles y36_this_flawPlace y36_this_kind y36_this_start y36_this_end u5_this_text u5_this_text_bytes else Option.bind (f_X3_readStatement (y36_this_flaw, y36_this_flawPlace, y36_this_kind, y36_this_start, y36_this_end) y36_this_told y36_this_told_roles u5_this_text u5_this_text_bytes) (fun z => match z with | ((u59_this_flaw, u59_this_flawPlace, u59_this_kind, u59_this_start, u59_this_end), u59_this_told, u59_this_told_roles) => (f_X3_readWhole_36 u5_this_text u5_this_text_bytes n) (y36_l2 + 1) u59_this_flaw u59_this_flawPlace u59_this_kind u59_this_start u59_this_end u59_this_told u59_this_told_roles))))) := rfl
/-! The reader never stops. -/
/-- where the reader stands in a text of Z bytes -/
def RDI (Z : Nat) (s : SX3) : Prop := ∃ a b : Nat, a ≤ b ∧ b ≤ Z ∧ s.2.2.2.1 = nI a ∧ s.2.2.2.2 = nI b
theorem xat_c (x : Int32) (s : SX8) (r : Nat → Int8) : Td (f_X8_at x s r) := by
  unfold f_X8_at
  exact tt_i (fun _ => tdr) (fun h0 => tt_i (fun _ => tdr) (fun _ => tt_i (fun _ => tdr) (fun h1 => tt_in (vin h0 h1 (by decide)) tdr)))
theorem blank_c (x : Int32) : Td (f_X3_isBlank x) := by
  unfold f_X3_isBlank
  exact tt_i (fun _ => tdr) (fun _ => tt_i (fun _ => tdr) (fun _ => tdr))
theorem digit_c (x : Int32) : Td (f_X3_isDigit x) := by
  unfold f_X3_isDigit
  exact tt_i (fun _ => tdr) (fun _ => tt_i (fun _ => tdr) (fun _ => tdr))
theorem letter_c (x : Int32) : Td (f_X3_isLetter x) := by
  unfold f_X3_isLetter
  exact tt_i (fun _ => tdr) (fun _ => tt_i (fun _ => tdr) (fun _ => tdr))
theorem rdi {Z a b : Nat} (h1 : a ≤ b) (h2 : b ≤ Z) (x y z : Int32) : RDI Z (x, y, z, nI a, nI b) := ⟨a, b, h1, h2, rfl, rfl⟩
theorem s165_c {Z a : Nat} (hZ : Z ≤ 300) (x y t u : Int32) (r : Nat → Int8) (m : Nat) : ∀ (k f : Nat) (_ : k + m = Z) (_ : m ≤ f) (_ : a ≤ k), Tt (f_X3_step_165 (nI Z) (nI a) x y t u r (f + 1) (nI k)) (RDI Z) := by
  have fin : ∀ k : Nat, a ≤ k → k ≤ Z → Tt (f_X3_step_209 (nI k) (nI a) x y) (RDI Z) := fun k h1 h2 => by
    unfold f_X3_step_209
    exact tt_i (fun _ => tt_r (rdi h1 h2 _ _ _)) (fun _ => tt_r (rdi h1 h2 _ _ _))
  induction m with
  | zero =>
    intro k f h _ h1
    rw [f_X3_step_165_s, if_pos (nI_le (by omega) (by omega))]
    exact fin k h1 (by omega)
  | succ m ih =>
    intro k f h hf h1
    obtain ⟨f, rfl⟩ : ∃ q, f = q + 1 := ⟨f - 1, by omega⟩
    rw [f_X3_step_165_s, if_neg (nI_ge (by omega) (by omega))]
    exact tt_b (xat_c _ _ _) (fun _ _ => tt_b (digit_c _) (fun _ _ => tt_i (fun _ => fin k h1 (by omega)) (fun _ => by rw [nI_1]; exact ih (k + 1) f (by omega) (by omega) (by omega))))
theorem s104_c {Z a : Nat} (hZ : Z ≤ 300) (x y t u : Int32) (r : Nat → Int8) (m : Nat) : ∀ (k f : Nat) (_ : k + m = Z) (_ : m ≤ f) (_ : a ≤ k), Tt (f_X3_step_104 (nI Z) x y (nI a) t u r (f + 1) (nI k)) (RDI Z) := by
  induction m with
  | zero =>
    intro k f h _ h1
    rw [f_X3_step_104_s, if_pos (nI_le (by omega) (by omega))]
    exact tt_r (rdi h1 (by omega) _ _ _)
  | succ m ih =>
    intro k f h hf h1
    obtain ⟨f, rfl⟩ : ∃ q, f = q + 1 := ⟨f - 1, by omega⟩
    rw [f_X3_step_104_s, if_neg (nI_ge (by omega) (by omega))]
    exact tt_b (xat_c _ _ _) (fun _ _ => tt_b (letter_c _) (fun _ _ => tt_i (fun _ => tt_r (rdi h1 (by omega) _ _ _)) (fun _ => by rw [nI_1]; exact ih (k + 1) f (by omega) (by omega) (by omega))))
theorem s257_c {Z a : Nat} (h : a < Z) (x y q : Int32) : Tt (f_X3_step_257 x y (nI a) q) (RDI Z) := by
  unfold f_X3_step_257
  rw [nI_1]
  exact tt_r (rdi (by omega) (by omega) _ _ _)
theorem s52_c {Z a : Nat} (hZ : Z ≤ 300) (ha : a ≤ Z) (x y t u : Int32) (r : Nat → Int8) : Tt (f_X3_step_52 (nI a) (nI Z) t u r x y) (RDI Z) := by
  unfold f_X3_step_52
  refine tt_i (fun h => ?_) (fun _ => tt_r (rdi (Nat.le_refl a) ha _ _ _))
  have h : a < Z := (nI_ltI (by omega) (by omega)).mp h
  exact tt_b (xat_c _ _ _) (fun _ _ => tt_b (letter_c _) (fun _ _ => tt_i (fun _ => tt_b (xat_c _ _ _) (fun _ _ => tt_b (digit_c _) (fun _ _ => tt_i (fun _ => tt_b (xat_c _ _ _) (fun _ _ => tt_i (fun _ => s257_c h _ _ _) (fun _ => s257_c h _ _ _))) (fun _ => s165_c hZ _ _ _ _ _ (Z - a) a 65535 (by omega) (by omega) (Nat.le_refl a))))) (fun _ => s104_c hZ _ _ _ _ _ (Z - a) a 65535 (by omega) (by omega) (Nat.le_refl a))))
theorem s8_c {Z : Nat} (hZ : Z ≤ 300) (x y t u : Int32) (r : Nat → Int8) (m : Nat) : ∀ (k f : Nat) (_ : k + m = Z) (_ : m ≤ f), Tt (f_X3_step_8 (nI Z) t u r x y (f + 1) (nI k)) (RDI Z) := by
  induction m with
  | zero =>
    intro k f h _
    rw [f_X3_step_8_s, if_pos (nI_le (by omega) (by omega))]
    exact s52_c hZ (by omega) _ _ _ _ _
  | succ m ih =>
    intro k f h hf
    obtain ⟨f, rfl⟩ : ∃ q, f = q + 1 := ⟨f - 1, by omega⟩
    rw [f_X3_step_8_s, if_neg (nI_ge (by omega) (by omega))]
    exact tt_b (xat_c _ _ _) (fun _ _ => tt_b (blank_c _) (fun _ _ => tt_i (fun _ => s52_c hZ (by omega) _ _ _ _ _) (fun _ => by rw [nI_1]; exact ih (k + 1) f (by omega) (by omega))))
theorem step_e {Z : Nat} (hZ : Z ≤ 300) (s : SX3) {b : Nat} (hb : b ≤ Z) (h : s.2.2.2.2 = nI b) (t u : Int32) (r : Nat → Int8) : Tt (f_X3_step s (nI Z, t, u) r) (RDI Z) := by
  obtain ⟨s1, s2, s3, s4, s5⟩ := s
  have h4 : s5 = nI b := h
  subst h4
  unfold f_X3_step
  exact s8_c hZ _ _ _ _ _ (Z - b) b 65535 (by omega) (by omega)
theorem step_c {Z : Nat} (hZ : Z ≤ 300) (s : SX3) (h : RDI Z s) (t u : Int32) (r : Nat → Int8) : Tt (f_X3_step s (nI Z, t, u) r) (RDI Z) := by
  obtain ⟨a, b, h1, h2, h3, h4⟩ := h
  exact step_e hZ s h2 h4 t u r
theorem iw28_c {w : Nat} (hw : w < 9) (x : Int32) (t : SX8) (r : Nat → Int8) (m : Nat) : ∀ (k f : Nat) (_ : k + m = sx_z w) (_ : m ≤ f), Td (f_X3_isWord_28 w x t r (f + 1) (nI k)) := by
  have hz := sx_zl w hw
  induction m with
  | zero =>
    intro k f h _
    rw [f_X3_isWord_28_s, if_pos (show sx_l w ≤ nI k from nI_le (a := sx_z w) (by omega) (by omega))]
    exact tdr
  | succ m ih =>
    intro k f h hf
    obtain ⟨f, rfl⟩ : ∃ q, f = q + 1 := ⟨f - 1, by omega⟩
    rw [f_X3_isWord_28_s, if_neg (show ¬ sx_l w ≤ nI k from nI_ge (b := sx_z w) (by omega) (by omega))]
    exact tt_b (xat_c _ _ _) (fun _ _ => tt_in (nI_in (by omega) hz) (tt_i (fun _ => by rw [nI_1]; exact ih (k + 1) f (by omega) (by omega)) (fun _ => tdr)))
theorem sx_z6 : ∀ i : Nat, i < 9 → sx_z i ≤ 6 := by decide +kernel
theorem isWord_c {w : Nat} (hw : w < 9) (s : SX3) (t : SX8) (r : Nat → Int8) : Td (f_X3_isWord w s t r) := by
  obtain ⟨s1, s2, s3, s4, s5⟩ := s
  have := sx_z6 w hw
  unfold f_X3_isWord
  exact tt_i (fun _ => tt_i (fun _ => iw28_c hw _ _ _ (sx_z w) 0 65535 (by omega) (by omega)) (fun _ => tdr)) (fun _ => tdr)
theorem misplace_c {Z : Nat} (s : SX3) (h : RDI Z s) : Tt (f_X3_misplace s) (RDI Z) := by
  obtain ⟨s1, s2, s3, s4, s5⟩ := s
  obtain ⟨a, b, h1, h2, h3, h4⟩ := h
  exact tt_r ⟨a, b, h1, h2, h3, h4⟩
theorem impossible_c {Z : Nat} (x : Int32) (s : SX3) (h : RDI Z s) : Tt (f_X3_impossible x s) (RDI Z) := by
  obtain ⟨s1, s2, s3, s4, s5⟩ := s
  obtain ⟨a, b, h1, h2, h3, h4⟩ := h
  unfold f_X3_impossible
  exact tt_i (fun _ => tt_r ⟨a, b, h1, h2, h3, h4⟩) (fun _ => tt_r ⟨a, b, h1, h2, h3, h4⟩)
abbrev RN (Z : Nat) (lo hi : Int32) (q : Int32 × SX3) : Prop := lo ≤ q.1 ∧ q.1 ≤ hi ∧ RDI Z q.2
section RN
variable {Z : Nat} {lo hi : Int32}
theorem n115_c (hZ : Z ≤ 300) (v : Int32) (h1 : lo ≤ v) (h2 : v ≤ hi) (a b c d e t u : Int32) (r : Nat → Int8) (h : RDI Z (a, b, c, d, e)) : Tt (f_X3_readNumber_115 (nI Z, t, u) r v a b c d e) (RN Z lo hi) := by
  unfold f_X3_readNumber_115
  refine tt_b (step_c hZ _ h _ _ _) (fun q hq => ?_)
  obtain ⟨q1, q2, q3, q4, q5⟩ := q
  exact tt_r ⟨h1, h2, hq⟩
theorem n105_c (hZ : Z ≤ 300) (hl : lo ≤ hi) (a b c d e t u : Int32) (r : Nat → Int8) (h : RDI Z (a, b, c, d, e)) : Tt (f_X3_readNumber_105 d a b c e (nI Z, t, u) r lo) (RN Z lo hi) := by
  unfold f_X3_readNumber_105
  refine tt_b (impossible_c _ _ h) (fun q hq => ?_)
  obtain ⟨q1, q2, q3, q4, q5⟩ := q
  exact n115_c hZ _ (Int32.le_refl _) hl _ _ _ _ _ _ _ _ hq
theorem n90_c (hZ : Z ≤ 300) (hl : lo ≤ hi) (y v : Int32) (a b c d e t u : Int32) (r : Nat → Int8) (h : RDI Z (a, b, c, d, e)) : Tt (f_X3_readNumber_90 y d a b c e (nI Z, t, u) r lo v hi) (RN Z lo hi) := by
  unfold f_X3_readNumber_90
  exact tt_i (fun _ => n105_c hZ hl _ _ _ _ _ _ _ _ h) (fun _ => tt_i (fun _ => n105_c hZ hl _ _ _ _ _ _ _ _ h) (fun h1 => tt_i (fun h2 => n115_c hZ _ (Int32.not_lt.mp h1) h2 _ _ _ _ _ _ _ _ h) (fun _ => n105_c hZ hl _ _ _ _ _ _ _ _ h)))
theorem n52_c (hZ : Z ≤ 300) (hl : lo ≤ hi) (y : Int32) (a b c d : Int32) (e : Nat) (he : e ≤ 300) (t u : Int32) (r : Nat → Int8) (h : RDI Z (a, b, c, d, nI e)) (m : Nat) : ∀ (k f : Nat) (_ : k + m = e) (_ : m ≤ f) (v : Int32), Tt (f_X3_readNumber_52 y d a b c (nI e) (nI Z, t, u) r lo hi (f + 1) v (nI k)) (RN Z lo hi) := by
  induction m with
  | zero =>
    intro k f hk _ v
    rw [f_X3_readNumber_52_s]
    refine tt_i (fun _ => n90_c hZ hl _ _ _ _ _ _ _ _ _ _ h) (fun _ => ?_)
    rw [if_pos (nI_le (by omega) (by omega))]
    exact n90_c hZ hl _ _ _ _ _ _ _ _ _ _ h
  | succ m ih =>
    intro k f hk hf v
    obtain ⟨f, rfl⟩ : ∃ q, f = q + 1 := ⟨f - 1, by omega⟩
    rw [f_X3_readNumber_52_s]
    refine tt_i (fun _ => n90_c hZ hl _ _ _ _ _ _ _ _ _ _ h) (fun _ => ?_)
    rw [if_neg (nI_ge (by omega) (by omega))]
    exact tt_b (xat_c _ _ _) (fun _ _ => by rw [nI_1]; exact ih (k + 1) f (by omega) (by omega) _)
theorem readNumber_c (hZ : Z ≤ 300) (hl : lo ≤ hi) (s : SX3) (h : RDI Z s) (t u : Int32) (r : Nat → Int8) : Tt (f_X3_readNumber lo hi s (nI Z, t, u) r) (RN Z lo hi) := by
  obtain ⟨s1, s2, s3, s4, s5⟩ := s
  have h0 := h
  obtain ⟨a, b, h1, h2, h3, h4⟩ := h
  have h3 : s4 = nI a := h3
  have h4 : s5 = nI b := h4
  subst h3
  subst h4
  unfold f_X3_readNumber f_X3_readNumber_44
  refine tt_i (fun _ => tt_r ⟨Int32.le_refl _, hl, h0⟩) (fun _ => tt_i (fun _ => tt_i (fun _ => ?_) (fun _ => ?_)) (fun _ => ?_))
  · exact n52_c hZ hl _ _ _ _ _ b (by omega) _ _ _ h0 (b - a) a 65535 (by omega) (by omega) _
  · exact n52_c hZ hl _ _ _ _ _ b (by omega) _ _ _ h0 (b - a) a 65535 (by omega) (by omega) _
  · refine tt_b (misplace_c _ h0) (fun q hq => ?_)
    obtain ⟨q1, q2, q3, q4, q5⟩ := q
    exact tt_r ⟨Int32.le_refl _, hl, hq⟩
end RN
/-- what is told, as far as it matters for never stopping -/
def TLD (p : SX5) : Prop := ∃ L R W : Nat, (4 ≤ L ∧ L ≤ 24) ∧ (2 ≤ R ∧ R ≤ 12) ∧ (1 ≤ W ∧ W ≤ 8) ∧ p.1 = nI L ∧ p.2.1 = nI R ∧ p.2.2.2.1 = nI W
abbrev RW (Z : Nat) (q : SX3 × SX5 × (Nat → Int32)) : Prop := RDI Z q.1 ∧ TLD q.2.1
theorem roleOf_c (x : Int32) : Td (f_X3_roleOf x) := by
  unfold f_X3_roleOf
  exact tt_i (fun _ => tdr) (fun _ => tt_i (fun _ => tdr) (fun _ => tt_i (fun _ => tdr) (fun _ => tt_i (fun _ => tdr) (fun _ => tdr))))
section RR
variable {Z : Nat} {p1 p2 p3 p4 p5 p6 p7 p8 p9 p10 p11 p12 p13 p14 p15 : Int32}
theorem r184_c (hT : TLD (p1, p2, p3, p4, p5, p6, p7, p8, p9, p10, p11, p12, p13, p14, p15)) (x a b c d e : Int32) (ro : Nat → Int32) (h : RDI Z (a, b, c, d, e)) : Tt (f_X3_readRow_184 x a b c d e p1 p2 p3 p4 p5 p6 p7 p8 p9 p10 p11 p12 p13 p14 p15 ro) (RW Z) := by
  unfold f_X3_readRow_184
  refine tt_b (impossible_c _ _ h) (fun q hq => ?_)
  obtain ⟨q1, q2, q3, q4, q5⟩ := q
  exact tt_r ⟨hq, hT⟩
theorem r161_c (hT : TLD (p1, p2, p3, p4, p5, p6, p7, p8, p9, p10, p11, p12, p13, p14, p15)) (x a b c d e l2 l3 l4 : Int32) (ro : Nat → Int32) (h : RDI Z (a, b, c, d, e)) : Tt (f_X3_readRow_161 l2 x a b c d e p1 p2 p3 p4 p5 p6 p7 p8 p9 p10 p11 p12 p13 p14 p15 ro l3 l4) (RW Z) := by
  unfold f_X3_readRow_161
  have hb := fun x => r184_c hT x a b c d e ro h
  refine tt_i (fun _ => hb _) (fun h1 => tt_i (fun _ => hb _) (fun h2 => tt_i (fun _ => hb _) (fun _ => ?_)))
  have fin : TLD (p1, l2, p3, p4, p5, p6, p7, p8, p9, p10, p11, p12, p13, p14, p15) := by
    obtain ⟨L, R, W, hL, hR, hW, e1, e2, e3⟩ := hT
    have g0 : ¬ l2 < 0 := fun q => h1 (Int32.lt_trans q (by decide))
    obtain ⟨j, hj, rfl⟩ := nI_of2 (M := 12) (n := 12) (by decide) g0 (Int32.not_lt.mp h2)
    have h1 : 2 ≤ j := Nat.not_lt.mp fun q => h1 (nI_lt (b := 2) q (by decide))
    exact ⟨L, j, W, hL, ⟨h1, hj⟩, hW, e1, rfl, e3⟩
  first
    | exact tt_i (fun _ => hb _) (fun _ => tt_r ⟨h, fin⟩)
    | exact tt_i (fun _ => tt_r ⟨h, fin⟩) (fun _ => hb _)
theorem r112_c {K : Int32 → Int32 → Int32 → Int32 → (Nat → Int32) → Option (SX3 × SX5 × (Nat → Int32))} {j k : Nat} (hK : ∀ c d ro, Tt (K (nI (j + 1)) c d (nI (k + 1)) ro) (RW Z)) (q c d : Int32) (ro : Nat → Int32) : Tt (f_X3_readRow_112 q (nI j) c d (nI k) K ro) (RW Z) := by
  unfold f_X3_readRow_112 f_X3_readRow_127 f_X3_readRow_142
  rw [nI_1, nI_1]
  exact tt_i (fun _ => tt_i (fun _ => hK _ _ _) (fun _ => hK _ _ _)) (fun _ => tt_i (fun _ => hK _ _ _) (fun _ => hK _ _ _))
theorem r61_c (hZ : Z ≤ 300) (hT : TLD (p1, p2, p3, p4, p5, p6, p7, p8, p9, p10, p11, p12, p13, p14, p15)) {e n : Nat} (he : e ≤ Z) (hn : n ≤ 300) (x y z w t u : Int32) (r : Nat → Int8) {k31 : Int32 → Int32 → Int32 → Int32 → Int32 → Int32 → Int32 → Int32 → Int32 → (Nat → Int32) → Option (SX3 × SX5 × (Nat → Int32))} (h : RDI Z (x, y, z, w, nI e)) (hk : ∀ (j : Nat) (_ : j ≤ 300 * (n + 1)) (c d s1 s2 s3 s4 s5 : Int32) (ro : Nat → Int32) (_ : RDI Z (s1, s2, s3, s4, s5)), Tt (k31 (nI j) c d (nI n + 1) s1 s2 s3 s4 s5 ro) (RW Z)) (m : Nat) : ∀ (k f : Nat) (_ : k + m = e) (_ : m ≤ f) (j : Nat) (_ : j + m ≤ 300 * (n + 1)) (c d : Int32) (ro : Nat → Int32), Tt (f_X3_readRow_61 (nI e) x y z w (nI Z, t, u) r (nI n) p1 p2 p3 p4 p5 p6 p7 p8 p9 p10 p11 p12 p13 p14 p15 k31 (f + 1) (nI j) c d (nI k) ro) (RW Z) := by
  induction m with
  | zero =>
    intro k f hk1 _ j hj c d ro
    rw [f_X3_readRow_61_s, if_pos (nI_le (by omega) (by omega))]
    refine tt_b (step_c hZ _ h _ _ _) (fun q hq => ?_)
    obtain ⟨q1, q2, q3, q4, q5⟩ := q
    exact hk j (by omega) _ _ _ _ _ _ _ _ hq
  | succ m ih =>
    intro k f hk1 hf j hj c d ro
    obtain ⟨f, rfl⟩ : ∃ q, f = q + 1 := ⟨f - 1, by omega⟩
    rw [f_X3_readRow_61_s, if_neg (nI_ge (by omega) (by omega))]
    refine tt_b (xat_c _ _ _) (fun _ _ => tt_b (roleOf_c _) (fun q _ => tt_i (fun _ => ?_) (fun _ => ?_)))
    · refine tt_b (misplace_c _ h) (fun q hq => ?_)
      obtain ⟨q1, q2, q3, q4, q5⟩ := q
      exact tt_r ⟨hq, hT⟩
    · have hK := ih (k + 1) f (by omega) (by omega) (j + 1) (by omega)
      refine tt_i (fun _ => r112_c hK _ _ _ _) (fun h1 => tt_in (vin (nI_pos (by omega)) h1 (by decide)) (r112_c hK _ _ _ _))
theorem r31_c (hZ : Z ≤ 300) (hT : TLD (p1, p2, p3, p4, p5, p6, p7, p8, p9, p10, p11, p12, p13, p14, p15)) (x t u : Int32) (r : Nat → Int8) (m : Nat) : ∀ (n f : Nat) (_ : n + m = 301) (_ : m ≤ f) (j : Nat) (_ : j ≤ 300 * n) (c d s1 s2 s3 s4 s5 : Int32) (ro : Nat → Int32) (_ : RDI Z (s1, s2, s3, s4, s5)), Tt (f_X3_readRow_31 x p1 p2 p3 p4 p5 p6 p7 p8 p9 p10 p11 p12 p13 p14 p15 (nI Z, t, u) r (f + 1) (nI j) c d (nI n) s1 s2 s3 s4 s5 ro) (RW Z) := by
  induction m with
  | zero =>
    intro n f hn _ j hj c d s1 s2 s3 s4 s5 ro h
    rw [f_X3_readRow_31_s, if_pos (show (300 : Int32) < nI n from nI_lt (a := 300) (by omega) (by omega))]
    exact r161_c hT _ _ _ _ _ _ _ _ _ _ h
  | succ m ih =>
    intro n f hn hf j hj c d s1 s2 s3 s4 s5 ro h
    obtain ⟨f, rfl⟩ : ∃ q, f = q + 1 := ⟨f - 1, by omega⟩
    rw [f_X3_readRow_31_s, if_neg (show ¬ (300 : Int32) < nI n from nI_nlt (b := n) (a := 300) (by omega) (by omega))]
    have h0 := h
    obtain ⟨a, b, h1, h2, h3, h4⟩ := h
    have h3 : s4 = nI a := h3
    have h4 : s5 = nI b := h4
    subst h3
    subst h4
    have key := r61_c (x := s1) (y := s2) (z := s3) (w := nI a) (t := t) (u := u) (r := r) hZ hT (n := n) h2 (by omega) h0 (k31 := f_X3_readRow_31 x p1 p2 p3 p4 p5 p6 p7 p8 p9 p10 p11 p12 p13 p14 p15 (nI Z, t, u) r (f + 1)) (fun j hj c d s1 s2 s3 s4 s5 ro hs => by rw [nI_1]; exact ih (n + 1) f (by omega) (by omega) j hj c d s1 s2 s3 s4 s5 ro hs) (b - a) a 65535 (by omega) (by omega) j (by omega) c d ro
    unfold f_X3_readRow_55
    exact tt_i (fun _ => key) (fun _ => tt_i (fun _ => key) (fun _ => r161_c hT _ _ _ _ _ _ _ _ _ _ h0))
end RR
theorem readRow_c {Z : Nat} (hZ : Z ≤ 300) (x : Int32) (s : SX3) (h : RDI Z s) (p : SX5) (hT : TLD p) (ro : Nat → Int32) (t u : Int32) (r : Nat → Int8) : Tt (f_X3_readRow x s p ro (nI Z, t, u) r) (RW Z) := by
  obtain ⟨s1, s2, s3, s4, s5⟩ := s
  obtain ⟨p1, p2, p3, p4, p5, p6, p7, p8, p9, p10, p11, p12, p13, p14, p15⟩ := p
  unfold f_X3_readRow f_X3_readRow_28
  have key := r31_c hZ hT x t u r 301 0 65535 (by omega) (by omega) 0 (by omega) 0 0 s1 s2 s3 s4 s5 ro h
  refine tt_i (fun _ => key) (fun _ => tt_i (fun _ => key) (fun _ => ?_))
  refine tt_b (misplace_c _ h) (fun q hq => ?_)
  obtain ⟨q1, q2, q3, q4, q5⟩ := q
  exact tt_r ⟨hq, hT⟩
theorem rn_nat {lo hi : Nat} {v : Int32} (hh : hi < 2 ^ 31) (hlo : lo < 2 ^ 31) (h1 : nI lo ≤ v) (h2 : v ≤ nI hi) : ∃ j : Nat, lo ≤ j ∧ j ≤ hi ∧ v = nI j := by
  have g0 : ¬ v < 0 := fun q => nI_pos hlo (Int32.lt_of_le_of_lt h1 q)
  obtain ⟨j, hj, rfl⟩ := nI_of2 (nI_toInt hh) g0 h2
  exact ⟨j, (nI_leI hlo (by omega)).mp h1, hj, rfl⟩
theorem readSingle_c {Z : Nat} (hZ : Z ≤ 300) (s : SX3) (h : RDI Z s) (p : SX5) (hT : TLD p) (t u : Int32) (r : Nat → Int8) : Tt (f_X3_readSingle s p (nI Z, t, u) r) (fun q => RDI Z q.1 ∧ TLD q.2) := by
  obtain ⟨p1, p2, p3, p4, p5, p6, p7, p8, p9, p10, p11, p12, p13, p14, p15⟩ := p
  unfold f_X3_readSingle
  have num : ∀ (lo hi : Int32) (_ : lo ≤ hi) (K : Int32 × SX3 → Option (SX3 × SX5)) (_ : ∀ v s, lo ≤ v → v ≤ hi → RDI Z s → Tt (K (v, s)) (fun q => RDI Z q.1 ∧ TLD q.2)), Tt (Option.bind (f_X3_step s (nI Z, t, u) r) (fun s1 => Option.bind (f_X3_readNumber lo hi s1 (nI Z, t, u) r) K)) (fun q => RDI Z q.1 ∧ TLD q.2) := fun lo hi hl K hK => tt_b (step_c hZ _ h _ _ _) (fun s1 h1 => tt_b (readNumber_c hZ hl _ h1 _ _ _) (fun q hq => by
    obtain ⟨q1, q2⟩ := q
    exact hK q1 q2 hq.1 hq.2.1 hq.2.2))
  have same : ∀ {s : SX3} {a b c d e f g : Int32}, RDI Z s → RDI Z s ∧ TLD (p1, p2, a, p4, b, c, p7, p8, d, p10, p11, p12, p13, p14, p15) := fun hs => ⟨hs, hT⟩
  refine tt_b (isWord_c (by decide) _ _ _) (fun _ _ => tt_i (fun _ => ?_) (fun _ => num 4 24 (by decide) _ (fun v s h1 h2 hs => ?_)))
  refine tt_b (isWord_c (by decide) _ _ _) (fun _ _ => tt_i (fun _ => ?_) (fun _ => num 0 63 (by decide) _ (fun v s h1 h2 hs => tt_r ⟨hs, hT⟩)))
  refine tt_b (isWord_c (by decide) _ _ _) (fun _ _ => tt_i (fun _ => ?_) (fun _ => num 1 8 (by decide) _ (fun v s h1 h2 hs => ?_)))
  refine tt_b (isWord_c (by decide) _ _ _) (fun _ _ => tt_i (fun _ => ?_) (fun _ => num 0 12 (by decide) _ (fun v s h1 h2 hs => tt_r ⟨hs, hT⟩)))
  refine tt_b (isWord_c (by decide) _ _ _) (fun _ _ => tt_i (fun _ => ?_) (fun _ => num 2 24 (by decide) _ (fun v s h1 h2 hs => tt_r ⟨hs, hT⟩)))
  refine tt_b (isWord_c (by decide) _ _ _) (fun _ _ => tt_i (fun _ => ?_) (fun _ => num 0 50 (by decide) _ (fun v s h1 h2 hs => tt_r ⟨hs, hT⟩)))
  refine tt_b (isWord_c (by decide) _ _ _) (fun _ _ => tt_i (fun _ => tt_b (misplace_c _ h) (fun q hq => tt_r ⟨hq, hT⟩)) (fun _ => num 0 50 (by decide) _ (fun v s h1 h2 hs => tt_r ⟨hs, hT⟩)))
  · obtain ⟨L, R, W, hL, hR, hW, e1, e2, e3⟩ := hT
    obtain ⟨j, j1, j2, rfl⟩ := rn_nat (lo := 1) (hi := 8) (by decide) (by decide) h1 h2
    exact tt_r ⟨hs, L, R, j, hL, hR, ⟨j1, j2⟩, e1, e2, rfl⟩
  · obtain ⟨L, R, W, hL, hR, hW, e1, e2, e3⟩ := hT
    obtain ⟨j, j1, j2, rfl⟩ := rn_nat (lo := 4) (hi := 24) (by decide) (by decide) h1 h2
    exact tt_r ⟨hs, j, R, W, ⟨j1, j2⟩, hR, hW, rfl, e2, e3⟩
theorem st79_c {Z : Nat} (hZ : Z ≤ 300) {p1 p2 p3 p4 p5 p6 p7 p8 p9 p10 p11 p12 p13 p14 p15 : Int32} (hT : TLD (p1, p2, p3, p4, p5, p6, p7, p8, p9, p10, p11, p12, p13, p14, p15)) (a b c d e t u : Int32) (r : Nat → Int8) (ro : Nat → Int32) (h : RDI Z (a, b, c, d, e)) : Tt (f_X3_readStatement_79 (nI Z, t, u) r a b c d e p1 p2 p3 p4 p5 p6 p7 p8 p9 p10 p11 p12 p13 p14 p15 ro) (RW Z) := by
  unfold f_X3_readStatement_79
  refine tt_i (fun _ => tt_r ⟨h, hT⟩) (fun _ => tt_i (fun _ => ?_) (fun _ => ?_))
  · refine tt_b (step_c hZ _ h _ _ _) (fun q hq => ?_)
    obtain ⟨q1, q2, q3, q4, q5⟩ := q
    exact tt_r ⟨hq, hT⟩
  · refine tt_b (misplace_c _ h) (fun q hq => ?_)
    obtain ⟨q1, q2, q3, q4, q5⟩ := q
    exact tt_r ⟨hq, hT⟩
theorem readStatement_c {Z : Nat} (hZ : Z ≤ 300) (s : SX3) (h : RDI Z s) (p : SX5) (hT : TLD p) (ro : Nat → Int32) (t u : Int32) (r : Nat → Int8) : Tt (f_X3_readStatement s p ro (nI Z, t, u) r) (RW Z) := by
  obtain ⟨s1, s2, s3, s4, s5⟩ := s
  obtain ⟨p1, p2, p3, p4, p5, p6, p7, p8, p9, p10, p11, p12, p13, p14, p15⟩ := p
  unfold f_X3_readStatement
  refine tt_b (isWord_c (by decide) _ _ _) (fun _ _ => tt_i (fun _ => ?_) (fun _ => ?_))
  · refine tt_b (isWord_c (by decide) _ _ _) (fun _ _ => tt_i (fun _ => ?_) (fun _ => ?_))
    · refine tt_b (readSingle_c hZ _ h _ hT _ _ _) (fun q hq => ?_)
      obtain ⟨⟨a, b, c, d, e⟩, q1, q2, q3, q4, q5, q6, q7, q8, q9, q10, q11, q12, q13, q14, q15⟩ := q
      exact st79_c hZ hq.2 _ _ _ _ _ _ _ _ _ hq.1
    · refine tt_b (step_c hZ _ h _ _ _) (fun q hq => ?_)
      obtain ⟨a, b, c, d, e⟩ := q
      refine tt_b (readNumber_c (lo := 1) (hi := 4) hZ (by decide) _ hq _ _ _) (fun q hq => ?_)
      obtain ⟨v, a, b, c, d, e⟩ := q
      refine tt_b (readNumber_c hZ (Int32.le_trans hq.2.1 (by decide)) _ hq.2.2 _ _ _) (fun q hq => ?_)
      obtain ⟨v2, a, b, c, d, e⟩ := q
      exact st79_c hZ (show TLD (p1, p2, p3, p4, p5, p6, v, v2, p9, p10, p11, p12, p13, p14, p15) from hT) _ _ _ _ _ _ _ _ _ hq.2.2
  · refine tt_b (step_c hZ _ h _ _ _) (fun q hq => ?_)
    obtain ⟨a, b, c, d, e⟩ := q
    refine tt_b (readRow_c hZ _ _ hq _ hT _ _ _ _) (fun q hq => ?_)
    obtain ⟨⟨a, b, c, d, e⟩, ⟨q1, q2, q3, q4, q5, q6, q7, q8, q9, q10, q11, q12, q13, q14, q15⟩, ro⟩ := q
    exact st79_c hZ hq.2 _ _ _ _ _ _ _ _ _ hq.1
theorem d68_c {R : Nat} (hR : R ≤ 12) {p1 p3 p4 p5 p6 p7 p8 p9 y : Int32} (hfin : ∀ a b c d : Int32, PS (p1, nI R, p3, p4, p5, p6, p7, p8, p9, p1 * nI R, y, a, b, c, d)) (ro : Nat → Int32) (m : Nat) : ∀ (k f : Nat) (_ : k + m = R) (_ : m ≤ f) (a b c : Int32), Tt (f_X5_derive_68 (nI R) p1 p3 p4 p5 p6 p7 p8 p9 y ro (f + 1) (nI k) a b c) PS := by
  induction m with
  | zero =>
    intro k f h _ a b c
    rw [f_X5_derive_68_s, if_pos (nI_le (by omega) (by omega))]
    exact tt_r (hfin _ _ _ _)
  | succ m ih =>
    intro k f h hf a b c
    obtain ⟨f, rfl⟩ : ∃ q, f = q + 1 := ⟨f - 1, by omega⟩
    have hi : vp_in (nI k) 12 := nI_in (by omega) (by decide)
    rw [f_X5_derive_68_s, if_neg (nI_ge (by omega) (by omega))]
    unfold f_X5_derive_151
    rw [nI_1]
    have hK := ih (k + 1) f (by omega) (by omega)
    exact tt_i (fun _ => tt_r (hfin _ _ _ _)) (fun _ => tt_in hi (tt_i (fun _ => hK _ _ _) (fun _ => tt_in hi (tt_i (fun _ => hK _ _ _) (fun _ => tt_in hi (tt_i (fun _ => hK _ _ _) (fun _ => hK _ _ _)))))))
theorem derive_c (p : SX5) (hT : TLD p) (ro : Nat → Int32) : Tt (f_X5_derive p ro) PS := by
  obtain ⟨p1, p2, p3, p4, p5, p6, p7, p8, p9, p10, p11, p12, p13, p14, p15⟩ := p
  obtain ⟨L, R, W, hL, hR, hW, e1, e2, e3⟩ := hT
  have e1 : p1 = nI L := e1
  have e2 : p2 = nI R := e2
  have e3 : p4 = nI W := e3
  subst e1
  subst e2
  subst e3
  have hC : (L - 1) / W ≤ 23 := Nat.le_trans (Nat.div_le_self _ _) (by omega)
  have e : (nI L - 1) / nI W = nI ((L - 1) / W) := by
    rw [show nI L - 1 = nI (L - 1) from pk_sub (b := 1) (by omega), pk_div (by omega) (by omega) (by omega)]
  unfold f_X5_derive f_X5_derive_36
  refine tt_i (fun h => absurd h (nI_nle (by omega) (by omega))) (fun _ => tt_g (nI_ne0 (by omega) (by omega)) ?_)
  rw [e]
  exact d68_c hR.2 (fun a b c d => ⟨L, R, W, (L - 1) / W, rfl, hL.1, hL.2, rfl, hR.2, rfl, by omega, pk_mul L R, rfl, hC⟩) ro R 0 65535 (by omega) (by omega) _ _ _
abbrev WH (q : SX3 × SX5 × (Nat → Int32) × SX8 × (Nat → Int8)) : Prop := (q.1.1 = 0 → PS q.2.1) ∧ ZT q.2.2.2.1
theorem w68_c {Z : Nat} (hZ : Z ≤ 300) (p : SX5) (hT : TLD p) (ro : Nat → Int32) (a b c d e t u : Int32) (r : Nat → Int8) : Tt (f_X3_readWhole_68 a p ro b c d e (nI Z, t, u) r) WH := by
  unfold f_X3_readWhole_68
  exact tt_i (fun _ => tt_b (derive_c p hT ro) (fun q hq => tt_r ⟨fun _ => hq, Z, hZ, rfl⟩)) (fun h => tt_r ⟨fun e => absurd e h, Z, hZ, rfl⟩)
theorem w36_c {Z : Nat} (hZ : Z ≤ 300) (t u : Int32) (r : Nat → Int8) (m : Nat) : ∀ (n f : Nat) (_ : n + m = 301) (_ : m ≤ f) (a b c d e : Int32) (_ : RDI Z (a, b, c, d, e)) (p : SX5) (_ : TLD p) (ro : Nat → Int32), Tt (f_X3_readWhole_36 (nI Z, t, u) r (f + 1) (nI n) a b c d e p ro) WH := by
  induction m with
  | zero =>
    intro n f hn _ a b c d e h p hT ro
    rw [f_X3_readWhole_36_s, if_pos (show (300 : Int32) < nI n from nI_lt (a := 300) (by omega) (by omega))]
    exact w68_c hZ p hT ro _ _ _ _ _ _ _ _
  | succ m ih =>
    intro n f hn hf a b c d e h p hT ro
    obtain ⟨f, rfl⟩ : ∃ q, f = q + 1 := ⟨f - 1, by omega⟩
    rw [f_X3_readWhole_36_s, if_neg (show ¬ (300 : Int32) < nI n from nI_nlt (b := n) (a := 300) (by omega) (by omega))]
    refine tt_i (fun _ => w68_c hZ p hT ro _ _ _ _ _ _ _ _) (fun _ => tt_i (fun _ => w68_c hZ p hT ro _ _ _ _ _ _ _ _) (fun _ => tt_b (readStatement_c hZ _ h p hT ro _ _ _) (fun q hq => ?_)))
    obtain ⟨⟨q1, q2, q3, q4, q5⟩, p, ro⟩ := q
    rw [nI_1]
    exact ih (n + 1) f (by omega) (by omega) _ _ _ _ _ hq.1 p hq.2 ro
theorem begin5_c (p : SX5) (ro : Nat → Int32) : Tt (f_X5_begin p ro) (fun q => TLD q.1) := by
  obtain ⟨p1, p2, p3, p4, p5, p6, p7, p8, p9, p10, p11, p12, p13, p14, p15⟩ := p
  exact ⟨_, rfl, 8, 6, 7, by decide, by decide, by decide, rfl, rfl, rfl⟩
theorem readWhole_c (s : SX3) (p : SX5) (ro : Nat → Int32) (x : SX8) (r : Nat → Int8) (x' : SX8) (h : ZT x') (r' : Nat → Int8) : Tt (f_X3_readWhole s p ro x r x' r') WH := by
  obtain ⟨s1, s2, s3, s4, s5⟩ := s
  unfold f_X3_readWhole
  refine tt_b (xcopy_c x r x' h r') (fun q hq => ?_)
  obtain ⟨⟨z, t, u⟩, xb⟩ := q
  obtain ⟨Z, hZ, hz⟩ := h
  have hq : (z, t, u) = x' := hq
  subst hq
  have hz : z = nI Z := hz
  subst hz
  refine tt_b (begin5_c p ro) (fun q hq => ?_)
  obtain ⟨p, ro⟩ := q
  refine tt_b (step_e (b := 0) hZ (0, -1, s3, s4, 0) (by omega) rfl _ _ _) (fun q hq2 => ?_)
  obtain ⟨q1, q2, q3, q4, q5⟩ := q
  exact w36_c hZ t u xb 301 0 65535 (by omega) (by omega) _ _ _ _ _ hq2 p hq ro
