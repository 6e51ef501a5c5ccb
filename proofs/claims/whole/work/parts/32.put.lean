/-! the pad takes characters: st_put -/
def yv (y : Int64) : Nat := y.toUInt64.toNat
theorem yv_bv (y : Int64) : yv y = y.toBitVec.toNat := rfl
theorem yv_shift (y : Int64) : yv ((y.toUInt64 >>> ((8 : Int32).toInt64.toUInt64 &&& Int64.toUInt64 63)).toInt64) = yv y / 256 := by
  unfold yv
  rw [show ((8 : Int32).toInt64.toUInt64 &&& Int64.toUInt64 63) = (8 : UInt64) by decide]
  show (y.toUInt64 >>> 8).toNat = _
  rw [UInt64.toNat_shiftRight, Nat.shiftRight_eq_div_pow]
  rfl
theorem yv_and (y : Int64) : (y &&& 255).toBitVec.toNat = yv y % 256 := by
  rw [Int64.toBitVec_and, BitVec.toNat_and]
  exact Nat.and_two_pow_sub_one_eq_mod _ 8
theorem yv_byte (y : Int64) : (y &&& 255).toInt32 = nI (yv y % 256) := by
  apply Int32.toBitVec_inj.mp
  rw [Int64.toBitVec_toInt32, BitVec.signExtend_eq_setWidth_of_le _ (by decide)]
  apply BitVec.eq_of_toNat_eq
  rw [BitVec.toNat_setWidth, yv_and]
  show _ = (BitVec.ofNat 32 (yv y % 256)).toNat
  rw [BitVec.toNat_ofNat]
theorem yv_toInt (y : Int64) : (y &&& 255).toInt = (yv y % 256 : Nat) := by
  show (y &&& 255).toBitVec.toInt = _
  rw [BitVec.toInt_eq_toNat_of_lt (by rw [yv_and]; omega), yv_and]
theorem yv_zero (y : Int64) : y = 0 ↔ yv y = 0 := by
  constructor
  · rintro rfl; rfl
  · intro h
    apply Int64.toBitVec_inj.mp
    apply BitVec.eq_of_toNat_eq
    exact h
theorem yv_low (y : Int64) : y.toInt32 &&& 255 = (y &&& 255).toInt32 := by
  rw [Int64.toInt32_and]
  rfl
theorem yv_and0 (y : Int64) : y &&& 255 = 0 ↔ yv y % 256 = 0 := by
  rw [fa_eq64, yv_toInt]
  rw [show ((0 : Int64)).toInt = 0 from rfl]
  omega
theorem yv_in (y : Int64) : f_X8_in (y &&& 255) 33 126 = some (if 33 ≤ yv y % 256 ∧ yv y % 256 ≤ 126 then 1 else 0) := by
  unfold f_X8_in
  have h33 : ((33 : Int64)).toInt = 33 := by decide
  have h126 : ((126 : Int64)).toInt = 126 := by decide
  by_cases h1 : yv y % 256 < 33
  · rw [if_pos ((lg_neg _ _).mpr ((fa_lt64 _ _).mpr (by rw [yv_toInt, h33]; omega))), if_neg (by omega)]
  · rw [if_neg (fun h => h1 (by have := (fa_lt64 _ _).mp ((lg_neg _ _).mp h); rw [yv_toInt, h33] at this; omega))]
    by_cases h2 : 126 < yv y % 256
    · rw [if_pos ((lg_pos _ _).mpr ((fa_lt64 _ _).mpr (by rw [yv_toInt, h126]; omega))), if_neg (by omega)]
    · rw [if_neg (fun h => h2 (by have := (fa_lt64 _ _).mp ((lg_pos _ _).mp h); rw [yv_toInt, h126] at this; omega)), if_pos (by omega)]
theorem lg_eq0 (x y : Int64) : lg_cmp x y = 0 ↔ x = y := by
  unfold lg_cmp
  by_cases h1 : y < x
  · rw [if_pos h1]
    exact ⟨fun h => absurd h (by decide), fun h => by subst h; rw [fa_lt64] at h1; omega⟩
  · rw [if_neg h1]
    by_cases h2 : x = y
    · rw [if_pos h2]; exact ⟨fun _ => h2, fun _ => rfl⟩
    · rw [if_neg h2]; exact ⟨fun h => absurd h (by decide), fun h => absurd h h2⟩
theorem sh8 : ∀ i, i < 8 → (((8 : Int32) * nI i).toInt64.toUInt64 &&& Int64.toUInt64 63) = UInt64.ofNat (8 * i) := by decide +kernel
theorem yv_at (x : Int64) {i : Nat} (hi : i < 8) : yv ((x.toUInt64 >>> (((8 : Int32) * nI i).toInt64.toUInt64 &&& Int64.toUInt64 63)).toInt64) = yv x / 256 ^ i := by
  rw [sh8 i hi]
  unfold yv
  show (x.toUInt64 >>> UInt64.ofNat (8 * i)).toNat = _
  rw [UInt64.toNat_shiftRight, Nat.shiftRight_eq_div_pow, UInt64.toNat_ofNat', Nat.mod_eq_of_lt (show 8 * i < 2 ^ 64 by omega), Nat.mod_eq_of_lt (show 8 * i < 64 by omega), show (256 : Nat) = 2 ^ 8 by decide, ← Nat.pow_mul]
/-- the reference, once a character is out of range -/
theorem put8_no (pad : Nat → Int32) (pl : Int32) (x : Int64) : ∀ (r i fuel : Nat) (y : Int64), i + r = 8 → r < fuel → f_X8_put_L8 pad pl x fuel (nI i) 0 y = some (-2, pad, pl) := by
  intro r
  induction r with
  | zero =>
    intro i fuel y h1 h2
    obtain ⟨g, rfl⟩ : ∃ g, fuel = g + 1 := ⟨fuel - 1, by omega⟩
    obtain rfl : i = 8 := by omega
    rw [f_X8_put_L8, if_pos (by decide), if_neg (by decide)]
    by_cases h : lg_cmp y 0 = 0
    · rw [if_pos h, if_pos rfl]
    · rw [if_neg h]
  | succ r ih =>
    intro i fuel y h1 h2
    obtain ⟨g, rfl⟩ : ∃ g, fuel = g + 1 := ⟨fuel - 1, by omega⟩
    rw [f_X8_put_L8, if_neg (show ¬ (8 : Int32) ≤ nI i from ge_lit (m := 8) (by omega) (by decide))]
    by_cases h : lg_cmp (y &&& 255) 0 = 0
    · rw [if_pos h]
      by_cases hi : nI i = 0
      · rw [if_pos hi]
      · rw [if_neg hi]
        by_cases h : lg_cmp y 0 = 0
        · rw [if_pos h, if_pos rfl]
        · rw [if_neg h]
    · rw [if_neg h, if_pos rfl, nI_1]
      exact ih (i + 1) g _ (by omega) (by omega)
/-- the count of the characters, in both -/
theorem put8_run (pad : Nat → Int32) (pl : Int32) (x : Int64) : ∀ (r i fuel fuel' : Nat) (y : Int64), i + r = 8 → r < fuel → r < fuel' → yv y < 256 ^ r →
    ∃ c : Nat, f_X7_packedCharacters_L4 fuel (nI i) y = some (nI c) ∧ (c = 0 ∨ (i ≤ c ∧ c ≤ 8 ∧ ∀ k, k < c - i → 33 ≤ yv y / 256 ^ k % 256 ∧ yv y / 256 ^ k % 256 ≤ 126)) ∧ f_X8_put_L8 pad pl x fuel' (nI i) 1 y = if c = 0 then some (-2, pad, pl) else if pl + nI c ≤ 30 then f_X8_put_L106 x zF (nI c - 1) pad pl else some (-4, pad, pl) := by
  intro r
  induction r with
  | zero =>
    intro i fuel fuel' y h1 h2 h3 h4
    obtain ⟨g, rfl⟩ : ∃ g, fuel = g + 1 := ⟨fuel - 1, by omega⟩
    obtain ⟨g', rfl⟩ : ∃ g, fuel' = g + 1 := ⟨fuel' - 1, by omega⟩
    obtain rfl : i = 8 := by omega
    have hy : y = 0 := (yv_zero y).mpr (by omega)
    refine ⟨8, ?_, Or.inr ⟨by omega, by omega, fun k hk => by omega⟩, ?_⟩
    · rw [f_X7_packedCharacters_L4, if_pos (by decide)]
    · rw [f_X8_put_L8, if_pos (by decide), if_neg (by decide), if_pos ((lg_eq0 _ _).mpr hy), if_neg (by decide), if_neg (show ¬ (8 : Nat) = 0 by decide)]
  | succ r ih =>
    intro i fuel fuel' y h1 h2 h3 h4
    obtain ⟨g, rfl⟩ : ∃ g, fuel = g + 1 := ⟨fuel - 1, by omega⟩
    obtain ⟨g', rfl⟩ : ∃ g, fuel' = g + 1 := ⟨fuel' - 1, by omega⟩
    rw [f_X7_packedCharacters_L4, if_neg (show ¬ (8 : Int32) ≤ nI i from ge_lit (m := 8) (by omega) (by decide)), f_X8_put_L8, if_neg (show ¬ (8 : Int32) ≤ nI i from ge_lit (m := 8) (by omega) (by decide))]
    by_cases h0 : y = 0
    · refine ⟨i, ?_, ?_, ?_⟩
      · rw [if_pos ((lg_eq0 _ _).mpr h0)]
      · exact Or.inr ⟨Nat.le_refl _, by omega, fun k hk => by omega⟩
      · rw [if_pos ((lg_eq0 _ _).mpr (by rw [h0]; decide))]
        by_cases hi : i = 0
        · rw [if_pos hi, if_pos (by rw [hi]; rfl)]
        · rw [if_neg hi, if_neg (nI_ne0 (by omega) (by omega)), if_pos ((lg_eq0 _ _).mpr h0), if_neg (by decide)]
    · rw [if_neg (fun h => h0 ((lg_eq0 _ _).mp h)), yv_byte, show (33 : Int32) = nI 33 from rfl, show (126 : Int32) = nI 126 from rfl]
      by_cases hb : 33 ≤ yv y % 256 ∧ yv y % 256 ≤ 126
      · rw [isWithin_yes hb.1 hb.2 (by omega), Option.bind_some, if_neg h10, nI_1, if_neg (fun h => absurd ((yv_and0 y).mp ((lg_eq0 _ _).mp h)) (by omega)), if_neg (by decide), yv_in, if_pos hb, Option.bind_some, if_neg h10]
        have hs := yv_shift y
        obtain ⟨c, e1, e2, e3⟩ := ih (i + 1) g g' _ (by omega) (by omega) (by omega) (show yv ((y.toUInt64 >>> ((8 : Int32).toInt64.toUInt64 &&& Int64.toUInt64 63)).toInt64) < 256 ^ r by rw [hs]; rw [Nat.pow_succ] at h4; omega)
        refine ⟨c, e1, ?_, e3⟩
        rcases e2 with e2 | ⟨f1, f2, f3⟩
        · exact Or.inl e2
        · refine Or.inr ⟨by omega, f2, fun k hk => ?_⟩
          rcases k with _ | k
          · rw [Nat.pow_zero, Nat.div_one]; exact hb
          · have := f3 k (by omega)
            rw [hs, Nat.div_div_eq_div_mul, show 256 * 256 ^ k = 256 ^ (k + 1) by rw [Nat.pow_succ, Nat.mul_comm]] at this
            exact this
      · refine ⟨0, ?_, Or.inl rfl, ?_⟩
        · rw [isWithin_no (by omega) (by omega) (by omega) (by omega), Option.bind_some, if_pos rfl]
          rfl
        · rw [if_pos rfl]
          by_cases hb0 : yv y % 256 = 0
          · rw [if_pos ((lg_eq0 _ _).mpr ((yv_and0 y).mpr hb0))]
            by_cases hi : nI i = 0
            · rw [if_pos hi]
            · rw [if_neg hi, if_neg (fun h => h0 ((lg_eq0 _ _).mp h))]
          · rw [if_neg (fun h => hb0 ((yv_and0 y).mp ((lg_eq0 _ _).mp h))), if_neg (by decide), yv_in, if_neg hb, Option.bind_some, if_pos rfl, nI_1]
            exact put8_no pad pl x r (i + 1) g' _ (by omega) (by omega)
/-- the characters are written, in both -/
theorem put_write (x : Int64) : ∀ (c fuel fuel' n : Nat) (codes pad : Nat → Int32), c < fuel → c < fuel' → c ≤ 8 → n + c ≤ 30 → (∀ k, k < n → codes k = pad k) → (∀ k, k < n → ∃ d : Nat, 33 ≤ d ∧ d ≤ 126 ∧ pad k = nI d) → (∀ k, k < c → 33 ≤ yv x / 256 ^ k % 256 ∧ yv x / 256 ^ k % 256 ≤ 126) →
    ∃ codes' pad' : Nat → Int32, f_X7_put_L34 x fuel (nI c - 1) codes (nI n) = some (nI (n + c), codes', nI (n + c)) ∧ f_X8_put_L106 x fuel' (nI c - 1) pad (nI n) = some (nI (n + c), pad', nI (n + c)) ∧ RP codes' (nI (n + c)) pad' (nI (n + c)) := by
  intro c
  induction c with
  | zero =>
    intro fuel fuel' n codes pad h1 h2 h3 h4 h5 h6 h7
    obtain ⟨g, rfl⟩ : ∃ g, fuel = g + 1 := ⟨fuel - 1, by omega⟩
    obtain ⟨g', rfl⟩ : ∃ g, fuel' = g + 1 := ⟨fuel' - 1, by omega⟩
    exact ⟨codes, pad, by rw [f_X7_put_L34, if_pos (by decide)]; rfl, by rw [f_X8_put_L106, if_pos (by decide)]; rfl, n, by omega, rfl, rfl, h5, h6⟩
  | succ c ih =>
    intro fuel fuel' n codes pad h1 h2 h3 h4 h5 h6 h7
    obtain ⟨g, rfl⟩ : ∃ g, fuel = g + 1 := ⟨fuel - 1, by omega⟩
    obtain ⟨g', rfl⟩ : ∃ g, fuel' = g + 1 := ⟨fuel' - 1, by omega⟩
    have hd := h7 c (by omega)
    obtain ⟨codes', pad', e1, e2, e3⟩ := ih g g' (n + 1) (upd codes n (nI (yv x / 256 ^ c % 256))) (upd pad n (nI (yv x / 256 ^ c % 256))) (by omega) (by omega) (by omega) (by omega) (fun k hk => by
      by_cases hkn : k = n
      · subst hkn; rw [upd_s, upd_s]
      · rw [upd_n hkn, upd_n hkn]; exact h5 k (by omega)) (fun k hk => by
      by_cases hkn : k = n
      · subst hkn; exact ⟨_, hd.1, hd.2, upd_s⟩
      · rw [upd_n hkn]; exact h6 k (by omega)) (fun k hk => h7 k (by omega))
    have em : nI c + (-1 : Int32) = nI c - 1 := by
      rw [Int32.sub_eq_add_neg]
    rw [show n + 1 + c = n + (c + 1) by omega] at e1 e2 e3
    refine ⟨codes', pad', ?_, ?_, e3⟩
    · rw [nI_pred, f_X7_put_L34, if_neg (show ¬ nI c < 0 from nI_nlt (b := 0) (by omega) (by omega)), yv_low, yv_byte, yv_at x (by omega), f_X2_append, setAt_ok _ _ (by omega) (by omega), Option.bind_some, Option.bind_some, em, nI_1]
      exact e1
    · rw [nI_pred, f_X8_put_L106, if_neg (show ¬ nI c < 0 from nI_nlt (b := 0) (by omega) (by omega)), if_neg (in_nI (by omega) (by decide)), nI_clamp (by omega), yv_byte, yv_at x (by omega), em, nI_1]
      exact e2
theorem st_put {a_pad_codes : (Nat → Int32)} {a_pad_length : Int32} {b_pad : (Nat → Int32)} {b_padLong : Int32} (hPd : RP a_pad_codes a_pad_length b_pad b_padLong) (p1 : Int64) : ∃ (R1 : Int32 × (Nat → Int32) × Int32) (R2 : Int32 × (Nat → Int32) × Int32), f_X7_put a_pad_codes a_pad_length p1 = some R1 ∧ f_X8_put b_pad b_padLong p1 = some R2 ∧ R1.1 = R2.1 ∧ RP R1.2.1 R1.2.2 R2.2.1 R2.2.2 := by
  have hz : 100 < zF := by decide
  obtain ⟨n, n1, rfl, rfl, n4, n5⟩ := hPd
  have hP0 : RP a_pad_codes (nI n) b_pad (nI n) := ⟨n, n1, rfl, rfl, n4, n5⟩
  obtain ⟨c, e1, e2, e3⟩ := put8_run b_pad (nI n) p1 8 0 zF zF p1 (by omega) (by omega) (by omega) (by have := p1.toUInt64.toNat_lt; unfold yv; omega)
  have e3' : f_X8_put b_pad (nI n) p1 = _ := e3
  unfold f_X7_put f_X7_packedCharacters
  rw [show f_X7_packedCharacters_L4 zF 0 p1 = _ from e1, e3', Option.bind_some]
  by_cases hc : c = 0
  · subst hc
    rw [if_pos rfl, if_pos (show nI 0 = 0 from rfl)]
    exact ⟨_, _, rfl, rfl, rfl, hP0⟩
  · rw [if_neg hc, if_neg (nI_ne0 (by omega) (by rcases e2 with e2 | e2 <;> omega))]
    obtain ⟨f1, f2, f3⟩ : 0 ≤ c ∧ c ≤ 8 ∧ ∀ k, k < c - 0 → 33 ≤ yv p1 / 256 ^ k % 256 ∧ yv p1 / 256 ^ k % 256 ≤ 126 := by
      rcases e2 with e2 | e2
      · exact absurd e2 hc
      · exact e2
    by_cases hl : nI n + nI c ≤ 30
    · rw [if_pos hl, if_pos hl]
      rw [nI_add] at hl
      have hl2 : n + c ≤ 30 := (nI_leI (b := 30) (by omega) (by omega)).mp hl
      obtain ⟨codes', pad', g1, g2, g3⟩ := put_write p1 c zF zF n a_pad_codes b_pad (by omega) (by omega) f2 hl2 n4 n5 f3
      exact ⟨_, _, g1, g2, rfl, g3⟩
    · rw [if_neg hl, if_neg hl]
      exact ⟨_, _, rfl, rfl, rfl, hP0⟩
