/-! numbers out of the script; the pad: a character, a program, its reading -/
theorem and_max (p : Int32) : ∃ v : Nat, v < 2 ^ 31 ∧ p &&& (2147483647 : Int32) = nI v := by
  refine ⟨(p &&& (2147483647 : Int32)).toBitVec.toNat, ?_, ?_⟩
  · have h1 : (p &&& (2147483647 : Int32)).toBitVec = p.toBitVec &&& (2147483647 : Int32).toBitVec := rfl
    rw [h1, BitVec.toNat_and]
    have h2 : (2147483647 : Int32).toBitVec.toNat = 2147483647 := by decide
    rw [h2]
    exact Nat.lt_of_le_of_lt Nat.and_le_right (by decide)
  · apply Int32.toBitVec_inj.1
    show _ = BitVec.ofNat 32 _
    rw [BitVec.ofNat_toNat]
    simp
theorem up_ok (p : Int32) {m : Nat} (h0 : 0 < m) (hm : m < 2 ^ 31) : ∃ r : Nat, r < m ∧ f_L_up p (nI m) = some (nI r) := by
  obtain ⟨v, hv, e⟩ := and_max p
  refine ⟨v % m, Nat.mod_lt _ h0, ?_⟩
  unfold f_L_up
  rw [if_neg (nI_ne0 h0 hm), e, pk_rem hv h0 hm]
theorem put_char : ∀ c, c < 127 → 33 ≤ c → f_X7_packedCharacters (nI c).toInt64 = some 1 ∧ ((((nI c).toInt64.toUInt64 >>> (((8 : Int32) * (1 - 1)).toInt64.toUInt64 &&& Int64.toUInt64 63)).toInt64).toInt32) &&& (255 : Int32) = nI c := by decide +kernel
theorem put_ok {c n : Nat} (h1 : 33 ≤ c) (h2 : c < 127) (hn : n < 30) (codes : Nat → Int32) : f_X7_put codes (nI n) (nI c).toInt64 = some (nI (n + 1), upd codes n (nI c), nI (n + 1)) := by
  obtain ⟨e1, e2⟩ := put_char c h2 h1
  unfold f_X7_put
  rw [e1, Option.bind_some, if_neg h10, nI_1, if_pos (show nI (n + 1) ≤ (30 : Int32) from nI_le (b := 30) (by omega) (by omega)), show zF = 99998 + 1 + 1 from rfl, f_X7_put_L34, if_neg (by decide), e2]
  unfold f_X2_append
  rw [setAt_ok _ _ hn (by omega), Option.bind_some, Option.bind_some, nI_1]
  dsimp only
  rw [f_X7_put_L34, if_pos (by decide)]
theorem codeAt_ok (codes : Nat → Int32) {k : Nat} (hk : k < 30) : f_X2_codeAt codes (nI k) = some (codes k) := by
  unfold f_X2_codeAt
  rw [valueAt_ok _ hk (by omega)]; rfl
theorem isHeight_yes {c : Nat} (h1 : 48 ≤ c) (h2 : c ≤ 55) : f_X7_isHeight (nI c) = some 1 := by
  unfold f_X7_isHeight
  rw [show f_X7_isWithin (nI c) (48 : Int32) (55 : Int32) = some 1 from isWithin_yes (a := 48) (b := 55) h1 h2 (by omega)]; rfl
theorem isHeight_112 : f_X7_isHeight (nI 112) = some 0 := by decide
theorem isHeightAt_yes {codes : Nat → Int32} {k h : Nat} (hk : k < 30) (e : codes k = nI (48 + h)) (hh : h < 8) : f_X2_isHeightAt codes (nI k) = some 1 := by
  unfold f_X2_isHeightAt
  rw [codeAt_ok _ hk, Option.bind_some, e, isHeight_yes (by omega) (by omega)]; rfl
theorem isHeightAt_p {codes : Nat → Int32} {k : Nat} (hk : k < 30) (e : codes k = nI 112) : f_X2_isHeightAt codes (nI k) = some 0 := by
  unfold f_X2_isHeightAt
  rw [codeAt_ok _ hk, Option.bind_some, e, isHeight_112]; rfl
theorem digit_ok {codes : Nat → Int32} {k h : Nat} (hk : k < 30) (e : codes k = nI (48 + h)) : f_X2_digit codes (nI k) = some (nI h) := by
  unfold f_X2_digit
  rw [codeAt_ok _ hk, Option.bind_some, e, show (48 : Int32) = nI 48 from rfl, pk_sub (by omega), show 48 + h - 48 = h by omega]
theorem nI_ne {a b : Nat} (h : a ≠ b) (ha : a < 2 ^ 31) (hb : b < 2 ^ 31) : ¬ nI a = nI b := fun e => h ((nI_eq ha hb).mp e)
theorem stand_h {codes : Nat → Int32} {k h t : Nat} (h2 : 2 ≤ k) (hk : k < 30) (e : codes k = nI (48 + h)) (hh : h < 8) (ht : t < 8) : f_X2_canStand codes (nI k) (nI t) = some 1 := by
  unfold f_X2_canStand
  rw [codeAt_ok _ hk, Option.bind_some, if_neg (nI_ne0 (by omega) (by omega)), if_neg (show ¬ nI k = (1 : Int32) from nI_ne (b := 1) (by omega) (by omega) (by omega)), e, if_neg (show ¬ nI (48 + h) = (112 : Int32) from nI_ne (b := 112) (by omega) (by omega) (by omega)), isHeight_yes (by omega) (by omega), Option.bind_some, if_neg h10, if_neg (show ¬ (8 : Int32) ≤ nI t from ge_lit (m := 8) ht (by decide))]
theorem stand_p {codes : Nat → Int32} {k h : Nat} (h2 : 2 ≤ k) (hk : k + 1 < 30) (e : codes k = nI (48 + h)) (hh : h < 8) (h0 : h ≠ 0) (ep : codes (k + 1) = nI 112) (t : Int32) : f_X2_canStand codes (nI (k + 1)) t = some 1 := by
  unfold f_X2_canStand
  rw [codeAt_ok _ hk, Option.bind_some, if_neg (nI_ne0 (by omega) (by omega)), if_neg (show ¬ nI (k + 1) = (1 : Int32) from nI_ne (b := 1) (by omega) (by omega) (by omega)), ep, if_pos (show nI 112 = (112 : Int32) by decide), nI_pred, isHeightAt_yes (by omega) e hh, Option.bind_some, if_neg h10, digit_ok (by omega) e, Option.bind_some, if_neg (nI_ne0 (by omega) (by omega))]
/-- where the j-th throw stands -/
def psn (B : Nat → Bool) : Nat → Nat
  | 0 => 2
  | j + 1 => psn B j + (if B j then 2 else 1)
theorem psn_le (B : Nat → Bool) : ∀ j, j + 2 ≤ psn B j ∧ psn B j ≤ 2 * j + 2
  | 0 => ⟨Nat.le_refl _, Nat.le_refl _⟩
  | j + 1 => by
    have h := psn_le B j
    show j + 1 + 2 ≤ psn B j + (if B j then 2 else 1) ∧ psn B j + (if B j then 2 else 1) ≤ 2 * (j + 1) + 2
    split
    · omega
    · omega
theorem psn_mono (B : Nat → Bool) {i : Nat} : ∀ {j : Nat}, i < j → psn B i + (if B i then 2 else 1) ≤ psn B j
  | 0, h => absurd h (by omega)
  | j + 1, h => by
    show _ ≤ psn B j + (if B j then 2 else 1)
    by_cases e : i = j
    · subst e; exact Nat.le_refl _
    · have := psn_mono B (i := i) (j := j) (by omega)
      omega
theorem psn_cong {B C : Nat → Bool} : ∀ {j : Nat}, (∀ i, i < j → B i = C i) → psn B j = psn C j
  | 0, _ => rfl
  | j + 1, h => by
    show psn B j + _ = psn C j + _
    rw [psn_cong (fun i hi => h i (by omega)), h j (by omega)]
/-- a pad with a program of m throws for juggler q -/
def Pd (codes : Nat → Int32) (n q m : Nat) (H : Nat → Nat) (B : Nat → Bool) : Prop := q < 2 ∧ m ≤ 8 ∧ n = psn B m ∧ codes 0 = nI (48 + q) ∧ codes 1 = nI 58 ∧ ∀ j, j < m → H j < 8 ∧ codes (psn B j) = nI (48 + H j) ∧ (B j = true → H j ≠ 0 ∧ codes (psn B j + 1) = nI 112)
theorem fault_run {codes : Nat → Int32} {n q m : Nat} {H : Nat → Nat} {B : Nat → Bool} (hp : Pd codes n q m H B) (m1 : 1 ≤ m) : ∀ (r j fuel : Nat), j + r = m → 2 * r < fuel → f_X2_programFault_L4 codes (nI n) fuel (nI j) (nI (psn B j)) = some (-6) := by
  obtain ⟨-, m8, en, -, -, hj⟩ := hp
  intro r
  induction r with
  | zero =>
    intro j fuel h1 h2
    obtain ⟨g, rfl⟩ : ∃ g, fuel = g + 1 := ⟨fuel - 1, by omega⟩
    have hjm : j = m := by omega
    subst hjm
    have hl := psn_le B j
    rw [f_X2_programFault_L4, en, if_pos (nI_le (Nat.le_refl _) (by omega)), if_neg (nI_ne0 (by omega) (by omega))]
  | succ r ih =>
    intro j fuel h1 h2
    obtain ⟨g, rfl⟩ : ∃ g, fuel = g + 1 + 1 := ⟨fuel - 2, by omega⟩
    obtain ⟨a1, a2, a3⟩ := hj j (by omega)
    have hl := psn_le B j
    have hm := psn_le B m
    have hlt := psn_mono B (i := j) (j := m) (by omega)
    rw [f_X2_programFault_L4, en]
    have hb0 : psn B j < psn B m := by
      have : 1 ≤ (if B j then 2 else 1) := by split <;> omega
      omega
    rw [if_neg (nI_ge hb0 (by omega)), stand_h (by omega) (by omega) a2 a1 (by omega), Option.bind_some, if_neg h10, if_neg (show ¬ nI (psn B j) < (2 : Int32) from nI_nlt (b := 2) (by omega) (by omega)), isHeightAt_yes (by omega) a2 a1, Option.bind_some, if_neg h10, nI_1, nI_1]
    cases hB : B j with
    | false =>
      have e : psn B (j + 1) = psn B j + 1 := by show _ + _ = _; rw [hB]; rfl
      rw [← e, ← en]
      exact ih (j + 1) (g + 1) (by omega) (by omega)
    | true =>
      obtain ⟨b1, b2⟩ := a3 hB
      have e : psn B (j + 1) = psn B j + 1 + 1 := by show _ + _ = _; rw [hB]; rfl
      rw [hB, if_pos rfl] at hlt
      rw [f_X2_programFault_L4, if_neg (nI_ge (by omega) (by omega)), stand_p (by omega) (by omega) a2 a1 b1 b2, Option.bind_some, if_neg h10, if_neg (show ¬ nI (psn B j + 1) < (2 : Int32) from nI_nlt (b := 2) (by omega) (by omega)), isHeightAt_p (by omega) b2, Option.bind_some, if_pos rfl, nI_1, ← e, ← en]
      exact ih (j + 1) g (by omega) (by omega)
theorem fault_ok {codes : Nat → Int32} {n q m : Nat} {H : Nat → Nat} {B : Nat → Bool} (hp : Pd codes n q m H B) (m1 : 1 ≤ m) : f_X2_programFault codes (nI n) = some (-6) := by
  obtain ⟨hq, m8, en, c0, c1, hj⟩ := id hp
  have hm := psn_le B m
  unfold f_X2_programFault
  rw [show zF = 99998 + 1 + 1 from rfl, f_X2_programFault_L4, if_neg (show ¬ nI n ≤ 0 from nI_nle (by omega) (by omega))]
  have s0 : f_X2_canStand codes 0 0 = some 1 := by
    unfold f_X2_canStand
    rw [show f_X2_codeAt codes 0 = some (codes 0) from codeAt_ok codes (k := 0) (by omega), Option.bind_some, if_pos rfl, c0]
    rcases (show q = 0 ∨ q = 1 by omega) with rfl | rfl
    · rw [if_pos (by decide)]
    · rw [if_neg (by decide), if_pos (by decide)]
  have s1 : f_X2_canStand codes (0 + 1) 0 = some 1 := by
    unfold f_X2_canStand
    rw [show f_X2_codeAt codes (0 + 1) = some (codes 1) from codeAt_ok codes (k := 1) (by omega), Option.bind_some, if_neg (by decide), if_pos (by decide), c1, if_pos (by decide)]
  rw [s0, Option.bind_some, if_neg h10, if_pos (by decide), f_X2_programFault_L4, if_neg (show ¬ nI n ≤ (0 + 1 : Int32) from nI_ge (a := 1) (by omega) (by omega)), s1, Option.bind_some, if_neg h10, if_pos (by decide)]
  exact fault_run hp m1 m 0 99998 (by omega) (by omega)
theorem m_or : ∀ l, l < 8 → ∀ M, M < 256 → nI M ||| ((1 : Int32) <<< (nI l &&& 31)) = nI (M ||| 2 ^ l) ∧ M ||| 2 ^ l < 256 := by decide +kernel
theorem learn_run {codes : Nat → Int32} {n q m : Nat} {H : Nat → Nat} {B : Nat → Bool} (hp : Pd codes n q m H B) : ∀ (r j fuel pp : Nat) (hs : Nat → Int32), j + r = m → 2 * r < fuel → pp < 256 → ∃ (hs' : Nat → Int32) (pp' : Nat), f_X1_learn_L17 0 codes (nI n) fuel (nI (psn B j)) hs (nI pp) (nI j) = some (hs', nI pp', nI m, 0) ∧ pp' < 256 ∧ (∀ k, j ≤ k → k < m → hs' k = nI (H k)) ∧ (∀ k, k < j ∨ m ≤ k → hs' k = hs k) ∧ ((∀ k, k < m → B k = false) → pp' = pp) := by
  obtain ⟨-, m8, en, -, -, hj⟩ := hp
  intro r
  induction r with
  | zero =>
    intro j fuel pp hs h1 h2 h3
    obtain ⟨g, rfl⟩ : ∃ g, fuel = g + 1 := ⟨fuel - 1, by omega⟩
    have hjm : j = m := by omega
    subst hjm
    have hl := psn_le B j
    refine ⟨hs, pp, ?_, h3, fun k k1 k2 => by omega, fun k _ => rfl, fun _ => rfl⟩
    rw [f_X1_learn_L17, en, if_pos (nI_le (Nat.le_refl _) (by omega))]
  | succ r ih =>
    intro j fuel pp hs h1 h2 h3
    obtain ⟨g, rfl⟩ : ∃ g, fuel = g + 1 + 1 := ⟨fuel - 2, by omega⟩
    obtain ⟨a1, a2, a3⟩ := hj j (by omega)
    have hl := psn_le B j
    have hm := psn_le B m
    have hlt := psn_mono B (i := j) (j := m) (by omega)
    have hb0 : psn B j < psn B m := by
      have : 1 ≤ (if B j then 2 else 1) := by split <;> omega
      omega
    rw [f_X1_learn_L17, en, if_neg (nI_ge hb0 (by omega)), isHeightAt_yes (by omega) a2 a1, Option.bind_some, if_neg h10, digit_ok (by omega) a2, Option.bind_some, setAt_ok _ _ (show j < 8 by omega) (by omega), Option.bind_some, nI_1, nI_1]
    have fin : ∀ {hs' : Nat → Int32}, (∀ k, j + 1 ≤ k → k < m → hs' k = nI (H k)) → (∀ k, k < j + 1 ∨ m ≤ k → hs' k = upd hs j (nI (H j)) k) → (∀ k, j ≤ k → k < m → hs' k = nI (H k)) ∧ ∀ k, k < j ∨ m ≤ k → hs' k = hs k := by
      intro hs' c1 c2
      refine ⟨fun k k1 k2 => ?_, fun k k1 => ?_⟩
      · by_cases e : k = j
        · subst e; rw [c2 k (by omega), upd_s]
        · exact c1 k (by omega) k2
      · rw [c2 k (by omega), upd_n (by omega)]
    cases hB : B j with
    | false =>
      have e : psn B (j + 1) = psn B j + 1 := by show _ + _ = _; rw [hB]; rfl
      rw [← e, ← en]
      obtain ⟨hs', pp', d1, d2, d3, d4, d5⟩ := ih (j + 1) (g + 1) pp (upd hs j (nI (H j))) (by omega) (by omega) h3
      exact ⟨hs', pp', d1, d2, (fin d3 d4).1, (fin d3 d4).2, d5⟩
    | true =>
      obtain ⟨b1, b2⟩ := a3 hB
      have e : psn B (j + 1) = psn B j + 1 + 1 := by show _ + _ = _; rw [hB]; rfl
      rw [hB, if_pos rfl] at hlt
      obtain ⟨o1, o2⟩ := m_or j (by omega) pp h3
      rw [f_X1_learn_L17, if_neg (nI_ge (by omega) (by omega)), isHeightAt_p (by omega) b2, Option.bind_some, if_pos rfl, nI_1, nI_pred, o1, ← e, ← en]
      obtain ⟨hs', pp', d1, d2, d3, d4, d5⟩ := ih (j + 1) g (pp ||| 2 ^ j) (upd hs j (nI (H j))) (by omega) (by omega) o2
      exact ⟨hs', pp', d1, d2, (fin d3 d4).1, (fin d3 d4).2, fun hz => by have := hz j (by omega); rw [hB] at this; cases this⟩
/-- a program out of what was learnt -/
def lrn (m : Nat) (H : Nat → Nat) (old : Nat → Nat) (pp : Nat) : PJ := (m, fun k => if k < m then H k else old k, fun k => decide (pp / 2 ^ k % 2 = 1))
theorem learn_ok {codes : Nat → Int32} {n q m : Nat} {H : Nat → Nat} {B : Nat → Bool} (hp : Pd codes n q m H B) (m1 : 1 ≤ m) {j : JT} {P : PJ} {s p : Nat} (hj : Wj j P s p) : ∃ (R : (Nat → Int32) × Int32 × Int32 × Int32) (pp : Nat), f_X1_learn j.2.1 j.2.2.1 j.2.2.2.1 j.2.2.2.2.1 codes (nI n) = some R ∧ Wj (j.1, R.1, R.2.1, R.2.2.1, R.2.2.2, j.2.2.2.2.2.1, j.2.2.2.2.2.2) (lrn m H P.2.1 pp) s 0 ∧ ((∀ k, k < m → B k = false) → pp = 0) := by
  obtain ⟨hs', pp, d1, d2, d3, d4, d5⟩ := learn_run hp m 0 zF 0 j.2.1 (by omega) (by have := hp.2.1; unfold zF; omega) (by omega)
  refine ⟨(hs', nI pp, nI m, 0), pp, d1, ⟨⟨hj.1.1, m1, hp.2.1, by show 0 < m; omega, fun k hk => ?_⟩, hj.2.1, rfl, rfl, fun k hk => ?_, fun k hk => ?_⟩, d5⟩
  · show (if k < m then H k else P.2.1 k) < 8
    by_cases h : k < m
    · rw [if_pos h]; exact (hp.2.2.2.2.2 k h).1
    · rw [if_neg h]; exact hj.1.2.2.2.2 k hk
  · show hs' k = nI (if k < m then H k else P.2.1 k)
    by_cases h : k < m
    · rw [if_pos h]; exact d3 k (by omega) h
    · rw [if_neg h, d4 k (by omega)]; exact hj.2.2.2.2.1 k hk
  · show f_X1_isPassAt (nI pp) (nI k) = some (if decide (pp / 2 ^ k % 2 = 1) then 1 else 0)
    unfold f_X1_isPassAt
    rw [b_has k hk pp d2, Option.bind_some]
    rcases mod2 (pp / 2 ^ k) with h | h
    · rw [h]; rfl
    · rw [h]; rfl
def setP (P : PG) (q : Nat) (L : PJ) : PG := if q = 0 then (L, P.2) else (P.1, L)
def setK (k : KY) (q : Nat) : KY := if q = 0 then ((k.1.1, 0), k.2) else (k.1, (k.2.1, 0))
theorem read_ok {codes : Nat → Int32} {n q m : Nat} {H : Nat → Nat} {B : Nat → Bool} (hp : Pd codes n q m H B) (m1 : 1 ≤ m) {S : ST} {P : PG} {k : KY} {f : Nat} (h : WS S P k f) (rs : Nat → ST) {od sz : Int32} (hH : HI od sz) : ∃ (R : Int32 × ST × Int32 × (Nat → ST) × Int32 × Int32) (pp : Nat), f_X7_read S codes (nI n) rs od sz = some R ∧ R.1 = nI q ∧ WS R.2.1 (setP P q (lrn m H (if q = 0 then P.1.2.1 else P.2.2.1) pp)) (setK k q) f ∧ R.2.1.2.2.2.1 = S.2.2.2.1 ∧ R.2.2.1 = 0 ∧ HI R.2.2.2.2.1 R.2.2.2.2.2 ∧ ((∀ k, k < m → B k = false) → pp = 0) := by
  obtain ⟨Q, e1, g1⟩ := record_ok hH rs S
  have hq := hp.1
  unfold f_X7_read
  rw [fault_ok hp m1, Option.bind_some, if_pos rfl, e1, Option.bind_some, show f_X2_digit codes (0 : Int32) = some (nI q) from digit_ok (k := 0) (by omega) hp.2.2.2.1, Option.bind_some]
  rcases (show q = 0 ∨ q = 1 by omega) with rfl | rfl
  · obtain ⟨R, pp, a1, a2, a3⟩ := learn_ok hp m1 h.1
    rw [if_pos (by decide), a1, Option.bind_some]
    unfold f_X2_clear
    exact ⟨_, pp, rfl, rfl, ⟨a2, h.2.1, h.2.2⟩, rfl, rfl, g1.hi, a3⟩
  · obtain ⟨R, pp, a1, a2, a3⟩ := learn_ok hp m1 h.2.1
    rw [if_neg (by decide), a1, Option.bind_some]
    unfold f_X2_clear
    exact ⟨_, pp, rfl, rfl, ⟨h.1, a2, h.2.2⟩, rfl, rfl, g1.hi, a3⟩
/-- one more throw on the pad -/
theorem Pd.throw {codes : Nat → Int32} {n q m : Nat} {H : Nat → Nat} {B : Nat → Bool} (hp : Pd codes n q m H B) (hm : m < 8) {h : Nat} (hh : h < 8) (b : Bool) (hb : b = true → h ≠ 0) {codes' : Nat → Int32} (e1 : ∀ k, k < n → codes' k = codes k) (e2 : codes' n = nI (48 + h)) (e3 : b = true → codes' (n + 1) = nI 112) : Pd codes' (n + (if b then 2 else 1)) q (m + 1) (fun k => if k = m then h else H k) (fun k => if k = m then b else B k) := by
  obtain ⟨hq, m8, en, c0, c1, hj⟩ := hp
  have hl := psn_le B m
  have ec : ∀ j, j ≤ m → psn (fun k => if k = m then b else B k) j = psn B j := fun j hj2 => psn_cong (fun i hi => if_neg (by omega))
  refine ⟨hq, hm, ?_, by rw [e1 0 (by omega)]; exact c0, by rw [e1 1 (by omega)]; exact c1, fun j hjm => ?_⟩
  · show _ = psn (fun k => if k = m then b else B k) m + (if (if m = m then b else B m) then 2 else 1)
    rw [ec m (Nat.le_refl _), if_pos rfl, en]
  · rw [ec j (by omega)]
    by_cases e : j = m
    · subst e
      simp only [if_true]
      rw [← en]
      exact ⟨hh, e2, fun hbt => ⟨hb hbt, e3 hbt⟩⟩
    · simp only [if_neg e]
      obtain ⟨a1, a2, a3⟩ := hj j (by omega)
      have hmo := psn_mono B (i := j) (j := m) (by omega)
      have h1 : 1 ≤ (if B j then 2 else 1) := by split <;> omega
      refine ⟨a1, by rw [e1 _ (by omega)]; exact a2, fun hB => ?_⟩
      obtain ⟨b1, b2⟩ := a3 hB
      rw [hB, if_pos rfl] at hmo
      exact ⟨b1, by rw [e1 _ (by omega)]; exact b2⟩
