/-! plain facts: numbers, loops, small functions, a scene copied; as in whole -/
def pcN (s : Nat) : Nat := s % 2 + s / 2 % 2 + s / 4 % 2 + s / 8 % 2 + s / 16 % 2 + s / 32 % 2 + s / 64 % 2 + s / 128 % 2
/-! plain facts on numbers and arrays, to paste: each family by itself; over the kit's rows on nI and upd -/
/-! ===== order of ints, in all its forms, and through longs ===== -/
theorem fa_lt (a b : Int32) : a < b ↔ a.toInt < b.toInt := Int32.lt_iff_toInt_lt
theorem fa_le (a b : Int32) : a ≤ b ↔ a.toInt ≤ b.toInt := Int32.le_iff_toInt_le
theorem fa_eq (a b : Int32) : a = b ↔ a.toInt = b.toInt := Int32.toInt_inj.symm
theorem fa_lt64 (a b : Int64) : a < b ↔ a.toInt < b.toInt := Int64.lt_iff_toInt_lt
theorem fa_le64 (a b : Int64) : a ≤ b ↔ a.toInt ≤ b.toInt := Int64.le_iff_toInt_le
theorem fa_eq64 (a b : Int64) : a = b ↔ a.toInt = b.toInt := Int64.toInt_inj.symm
/-- a comparison of two ints taken as longs -/
theorem fa_wide_lt (a b : Int32) : a.toInt64 < b.toInt64 ↔ a < b := by rw [fa_lt64, fa_lt, Int32.toInt_toInt64, Int32.toInt_toInt64]
theorem fa_wide_le (a b : Int32) : a.toInt64 ≤ b.toInt64 ↔ a ≤ b := by rw [fa_le64, fa_le, Int32.toInt_toInt64, Int32.toInt_toInt64]
theorem fa_wide_eq (a b : Int32) : a.toInt64 = b.toInt64 ↔ a = b := by rw [fa_eq64, fa_eq, Int32.toInt_toInt64, Int32.toInt_toInt64]
/-- one strict comparison gives all the others -/
theorem fa_of_lt {a b : Int32} (h : a < b) : a ≤ b ∧ ¬ b ≤ a ∧ ¬ b < a ∧ a ≠ b ∧ b ≠ a := by
  rw [fa_lt] at h
  refine ⟨?_, ?_, ?_, ?_, ?_⟩
  · rw [fa_le]; omega
  · rw [fa_le]; omega
  · rw [fa_lt]; omega
  · intro e; rw [fa_eq] at e; omega
  · intro e; rw [fa_eq] at e; omega
theorem fa_of_nlt {a b : Int32} (h : ¬ a < b) : b ≤ a := by
  rw [fa_lt] at h
  rw [fa_le]
  omega
theorem fa_of_nle {a b : Int32} (h : ¬ a ≤ b) : b < a := by
  rw [fa_le] at h
  rw [fa_lt]
  omega
theorem fa_le_ne {a b : Int32} (h : a ≤ b) (h2 : a ≠ b) : a < b := by
  rw [fa_le] at h
  rw [fa_lt]
  have h3 : a.toInt ≠ b.toInt := fun e => h2 ((fa_eq a b).mpr e)
  omega
theorem fa_three (a b : Int32) : a < b ∨ a = b ∨ b < a := by
  rw [fa_lt, fa_lt, fa_eq]
  omega
theorem fa_trans {a b c : Int32} (h : a < b) (h2 : b ≤ c) : a < c := by
  rw [fa_lt] at *
  rw [fa_le] at h2
  omega
/-! ===== small literals as numbers ===== -/
theorem fa_lit (n : Nat) : (OfNat.ofNat n : Int32) = nI n := rfl
theorem fa_litL (n : Nat) : (OfNat.ofNat n : Int64) = lN n := rfl
/-! ===== bits of a number: 'or', masks, one bit ===== -/
theorem fa_and (a b : Nat) : nI a &&& nI b = nI (a &&& b) := by
  apply Int32.toBitVec_inj.1
  show BitVec.ofNat 32 a &&& BitVec.ofNat 32 b = BitVec.ofNat 32 (a &&& b)
  apply BitVec.eq_of_getLsbD_eq
  intro i hi
  simp [hi]
theorem fa_or (a b : Nat) : nI a ||| nI b = nI (a ||| b) := by
  apply Int32.toBitVec_inj.1
  show BitVec.ofNat 32 a ||| BitVec.ofNat 32 b = BitVec.ofNat 32 (a ||| b)
  apply BitVec.eq_of_getLsbD_eq
  intro i hi
  simp [hi]
/-- a remainder by a power of two, as a mask -/
theorem fa_mask (n k : Nat) : nI n &&& nI (2 ^ k - 1) = nI (n % 2 ^ k) := by rw [fa_and, Nat.and_two_pow_sub_one_eq_mod]
/-- 'or' of a high part and a low one that don't meet is their sum -/
theorem fa_or_sum {a k : Nat} (b : Nat) (h : a < 2 ^ k) : nI (2 ^ k * b) ||| nI a = nI (2 ^ k * b + a) := by rw [fa_or, Nat.two_pow_add_eq_or_of_lt h]
/-- one bit, by 'and' with a power of two -/
theorem fa_bit {n j : Nat} (hj : j < 31) : nI n &&& nI (2 ^ j) = 0 ↔ n.testBit j = false := by
  have h2 : (2 : Nat) ^ j < 2 ^ 31 := Nat.pow_lt_pow_right (by decide) hj
  have hle : n &&& 2 ^ j ≤ 2 ^ j := Nat.and_le_right
  have e : n &&& 2 ^ j = 0 ↔ n.testBit j = false := by
    constructor
    · intro h
      have h1 : (n &&& 2 ^ j).testBit j = false := by rw [h]; simp
      rw [Nat.testBit_and] at h1
      first | simpa using h1 | simpa [Nat.testBit_two_pow_self] using h1 | simpa [Nat.testBit_two_pow] using h1
    · intro h
      apply Nat.eq_of_testBit_eq
      intro i
      rw [Nat.testBit_and]
      by_cases hi : j = i
      · subst hi; simp [h]
      · first | (simp [Nat.testBit_two_pow, hi]; done) | (simp [Nat.testBit_two_pow_of_ne hi]; done)
  rw [fa_and]
  constructor
  · intro h
    apply e.mp
    rcases Nat.eq_zero_or_pos (n &&& 2 ^ j) with z | z
    · exact z
    · exact absurd h (nI_ne0 z (Nat.lt_of_le_of_lt hle h2))
  · intro h
    rw [e.mpr h]; exact nI_0
/-- a remainder by a power of two of a number that isn't negative, as Java divides -/
theorem fa_rem {a k : Nat} (ha : a < 2 ^ 31) (hk : k < 31) : nI a - nI a / nI (2 ^ k) * nI (2 ^ k) = nI (a % 2 ^ k) := pk_rem ha (Nat.two_pow_pos k) (Nat.pow_lt_pow_right (by decide) hk)
/-! ===== cuts to a byte, a short ===== -/
theorem fa_byte_xor (x y : Int32) : (x ^^^ y).toInt8 = x.toInt8 ^^^ y.toInt8 := by
  apply Int8.toBitVec_inj.1
  apply BitVec.eq_of_getLsbD_eq
  intro i hi
  first | (simp [hi]; done) | (simp [hi, BitVec.getLsbD_setWidth, BitVec.getLsbD_signExtend]; done)
theorem fa_short_xor (x y : Int32) : (x ^^^ y).toInt16 = x.toInt16 ^^^ y.toInt16 := by
  apply Int16.toBitVec_inj.1
  apply BitVec.eq_of_getLsbD_eq
  intro i hi
  first | (simp [hi]; done) | (simp [hi, BitVec.getLsbD_setWidth, BitVec.getLsbD_signExtend]; done)
/-- the cut to a byte sees the low byte alone -/
theorem fa_byte_low (x : Int32) : (x &&& 255).toInt8 = x.toInt8 := by
  apply Int8.toBitVec_inj.1
  apply BitVec.eq_of_getLsbD_eq
  intro i hi
  have h2 : (255 : Int32).toBitVec.getLsbD i = true := by
    have : ∀ j : Fin 8, (255 : Int32).toBitVec.getLsbD j.val = true := by decide +kernel
    exact this ⟨i, hi⟩
  have h4 : (x &&& 255).toBitVec.getLsbD i = x.toBitVec.getLsbD i := by
    show (x.toBitVec &&& (255 : Int32).toBitVec).getLsbD i = _
    rw [BitVec.getLsbD_and, h2, Bool.and_true]
  have h3 : i < 32 := by omega
  first
    | (show (((x &&& 255).toBitVec).signExtend 8).getLsbD i = (x.toBitVec.signExtend 8).getLsbD i; rw [BitVec.getLsbD_signExtend, BitVec.getLsbD_signExtend, if_pos h3, if_pos h3, h4])
    | (show (((x &&& 255).toBitVec).setWidth 8).getLsbD i = (x.toBitVec.setWidth 8).getLsbD i; rw [BitVec.getLsbD_setWidth, BitVec.getLsbD_setWidth, h4])
    | (simp [hi, h3, h4]; done)
theorem fa_short_low (x : Int32) : (x &&& 65535).toInt16 = x.toInt16 := by
  apply Int16.toBitVec_inj.1
  apply BitVec.eq_of_getLsbD_eq
  intro i hi
  have h2 : (65535 : Int32).toBitVec.getLsbD i = true := by
    have : ∀ j : Fin 16, (65535 : Int32).toBitVec.getLsbD j.val = true := by decide +kernel
    exact this ⟨i, hi⟩
  have h4 : (x &&& 65535).toBitVec.getLsbD i = x.toBitVec.getLsbD i := by
    show (x.toBitVec &&& (65535 : Int32).toBitVec).getLsbD i = _
    rw [BitVec.getLsbD_and, h2, Bool.and_true]
  have h3 : i < 32 := by omega
  first
    | (show (((x &&& 65535).toBitVec).signExtend 16).getLsbD i = (x.toBitVec.signExtend 16).getLsbD i; rw [BitVec.getLsbD_signExtend, BitVec.getLsbD_signExtend, if_pos h3, if_pos h3, h4])
    | (show (((x &&& 65535).toBitVec).setWidth 16).getLsbD i = (x.toBitVec.setWidth 16).getLsbD i; rw [BitVec.getLsbD_setWidth, BitVec.getLsbD_setWidth, h4])
    | (simp [hi, h3, h4]; done)
/-- a small number is its own byte, its own short -/
theorem fa_byte_small {n : Nat} (h : n < 128) : (nI n).toInt8.toInt32 = nI n := by
  have : ∀ j : Fin 128, (nI j.val).toInt8.toInt32 = nI j.val := by decide +kernel
  exact this ⟨n, h⟩
/-! ===== absolute difference ===== -/
theorem fa_absdiff {a b : Nat} (ha : a < 2 ^ 31) (hb : b < 2 ^ 31) : (if nI a < nI b then nI b - nI a else nI a - nI b) = nI (if a < b then b - a else a - b) := by
  by_cases h : a < b
  · rw [if_pos (nI_lt h hb), if_pos h]
    exact pk_sub (Nat.le_of_lt h)
  · rw [if_neg (nI_nlt (Nat.le_of_not_lt h) ha), if_neg h]
    exact pk_sub (Nat.le_of_not_lt h)
/-! ===== an array behind i stores, a conditional store, a row copied ===== -/
/-- f where k < i, what stood there else -/
def fa_fill {α : Type} (f g : Nat → α) (i : Nat) : Nat → α := fun k => if k < i then f k else g k
theorem fa_fill_0 {α : Type} (f g : Nat → α) : fa_fill f g 0 = g := funext fun k => if_neg (Nat.not_lt_zero k)
theorem fa_fill_in {α : Type} {f g : Nat → α} {i k : Nat} (h : k < i) : fa_fill f g i k = f k := if_pos h
theorem fa_fill_out {α : Type} {f g : Nat → α} {i k : Nat} (h : i ≤ k) : fa_fill f g i k = g k := if_neg (Nat.not_lt.mpr h)
theorem fa_fill_succ (f g : Nat → Int32) (i : Nat) : upd (fa_fill f g i) i (f i) = fa_fill f g (i + 1) := by
  funext k
  by_cases e : k = i
  · subst e
    rw [pk_us]
    exact (if_pos (Nat.lt_succ_self k)).symm
  · rw [pk_un e]
    by_cases h : k < i
    · rw [fa_fill_in h, fa_fill_in (Nat.lt_succ_of_lt h)]
    · rw [fa_fill_out (Nat.le_of_not_lt h), fa_fill_out (by omega)]
/-- a store that changes nothing -/
theorem fa_upd_same {f : Nat → Int32} {i : Nat} {x : Int32} (h : f i = x) : upd f i x = f := by
  funext k
  by_cases e : k = i
  · subst e
    rw [pk_us, h]
  · rw [pk_un e]
/-- a store under a condition, told as one -/
theorem fa_upd_if (c : Prop) [Decidable c] (f : Nat → Int32) (i : Nat) (x : Int32) : (if c then upd f i x else f) = upd f i (if c then x else f i) := by
  by_cases h : c
  · rw [if_pos h, if_pos h]
  · rw [if_neg h, if_neg h, fa_upd_same rfl]
/-- two stores at one place, at two -/
theorem fa_upd_twice (f : Nat → Int32) (i : Nat) (x y : Int32) : upd (upd f i x) i y = upd f i y := by
  funext k
  by_cases e : k = i
  · subst e
    rw [pk_us, pk_us]
  · rw [pk_un e, pk_un e, pk_un e]
theorem fa_upd_swap (f : Nat → Int32) {i j : Nat} (h : i ≠ j) (x y : Int32) : upd (upd f i x) j y = upd (upd f j y) i x := by
  funext k
  by_cases e : k = i
  · subst e
    rw [pk_un h, pk_us, pk_us]
  · by_cases e2 : k = j
    · subst e2
      rw [pk_us, pk_un e, pk_us]
    · rw [pk_un e2, pk_un e, pk_un e, pk_un e2]
/-! ===== the first index with a property; a count ===== -/
/-- the first k < n with p k, n if there is none -/
def fa_first (p : Nat → Bool) : Nat → Nat
  | 0 => 0
  | n + 1 => if fa_first p n < n then fa_first p n else if p n then n else n + 1
theorem fa_first_le (p : Nat → Bool) : ∀ n, fa_first p n ≤ n
  | 0 => Nat.le_refl 0
  | n + 1 => by
    have ih := fa_first_le p n
    unfold fa_first
    split
    · omega
    · split
      · omega
      · omega
theorem fa_first_no (p : Nat → Bool) : ∀ n k, k < fa_first p n → p k = false
  | 0, k, h => absurd h (Nat.not_lt_zero k)
  | n + 1, k, h => by
    have ih := fa_first_no p n
    have hl := fa_first_le p n
    unfold fa_first at h
    split at h
    · exact ih k h
    · rename_i h1
      split at h
      · exact ih k (by omega)
      · rename_i h2
        by_cases e : k = n
        · subst e
          exact Bool.eq_false_iff.mpr h2
        · exact ih k (by omega)
theorem fa_first_yes (p : Nat → Bool) : ∀ n, fa_first p n < n → p (fa_first p n) = true
  | 0, h => absurd h (Nat.not_lt_zero _)
  | n + 1, h => by
    have ih := fa_first_yes p n
    have hl := fa_first_le p n
    unfold fa_first at h ⊢
    split at h
    · rename_i h1
      rw [if_pos h1]
      exact ih h1
    · rename_i h1
      rw [if_neg h1]
      split at h
      · rename_i h2
        rw [if_pos h2]
        exact h2
      · omega
/-- how many k < n have p k -/
def fa_cnt (p : Nat → Bool) : Nat → Nat
  | 0 => 0
  | n + 1 => fa_cnt p n + if p n then 1 else 0
theorem fa_cnt_le (p : Nat → Bool) : ∀ n, fa_cnt p n ≤ n
  | 0 => Nat.le_refl 0
  | n + 1 => by
    have ih := fa_cnt_le p n
    unfold fa_cnt
    split
    · omega
    · omega
theorem fa_cnt_yes {p : Nat → Bool} {n : Nat} (h : p n = true) : fa_cnt p (n + 1) = fa_cnt p n + 1 := by rw [fa_cnt, if_pos h]
theorem fa_cnt_no {p : Nat → Bool} {n : Nat} (h : p n = false) : fa_cnt p (n + 1) = fa_cnt p n := by rw [fa_cnt, if_neg (by rw [h]; decide)]; rfl
theorem fa_cnt_cong {p q : Nat → Bool} : ∀ {n : Nat}, (∀ k, k < n → p k = q k) → fa_cnt p n = fa_cnt q n
  | 0, _ => rfl
  | n + 1, h => by rw [fa_cnt, fa_cnt, fa_cnt_cong (fun k hk => h k (Nat.lt_succ_of_lt hk)), h n (Nat.lt_succ_self n)]
/-! ===== an answer carried into a post; a branch on a boolean answer ===== -/
theorem fa_post {α : Type} {P : α → Prop} {x y : α} (h : x = y) (hp : P y) : P x := h ▸ hp
theorem fa_post2 {α β : Type} {P : α → β → Prop} {x y : α} {u v : β} (h : x = y) (h2 : u = v) (hp : P y v) : P x u := h ▸ h2 ▸ hp
theorem fa_bool {r : Int32} {b : Bool} (h : r = if b then 1 else 0) : (r = 0 ↔ b = false) ∧ (¬ r = 0 ↔ b = true) := by
  subst h
  cases b
  · exact ⟨⟨fun _ => rfl, fun _ => rfl⟩, ⟨fun h => absurd rfl h, fun h => absurd h (by decide)⟩⟩
  · exact ⟨⟨fun h => absurd h (by decide), fun h => absurd h (by decide)⟩, ⟨fun _ => rfl, fun _ => by decide⟩⟩
/-- a boolean's narrowing changes nothing -/
theorem fa_bool_and {r : Int32} (h : r = 0 ∨ r = 1) : r &&& 1 = r := by
  rcases h with rfl | rfl
  · decide
  · decide
theorem fa_bool_prop {c : Prop} [Decidable c] {r : Int32} (h : r = if c then 1 else 0) : (r = 0 ↔ ¬ c) ∧ (¬ r = 0 ↔ c) := by
  subst h
  by_cases hc : c
  · rw [if_pos hc]
    exact ⟨⟨fun h => absurd h (by decide), fun h => absurd hc h⟩, ⟨fun _ => hc, fun _ => by decide⟩⟩
  · rw [if_neg hc]
    exact ⟨⟨fun _ => hc, fun _ => rfl⟩, ⟨fun h => absurd rfl h, fun h => absurd h hc⟩⟩
theorem loop_run {σ ρ : Type} (F : Nat → Int32 → σ → Option ρ) (m : Nat) (done : σ → Option ρ) (I : Nat → σ → Prop) (hend : ∀ n s, I m s → F (n + 1) (nI m) s = done s)
    (hstep : ∀ n i s, i < m → I i s → ∃ s', F (n + 1) (nI i) s = F n (nI (i + 1)) s' ∧ I (i + 1) s') : ∀ n i s, i ≤ m → m < i + n → I i s → ∃ s', F n (nI i) s = done s' ∧ I m s' := by
  intro n
  induction n with
  | zero => intro i s h1 h2; omega
  | succ n ih =>
    intro i s h1 h2 hI
    by_cases h : i = m
    · subst h; exact ⟨s, hend n s hI, hI⟩
    · obtain ⟨s', e, hI'⟩ := hstep n i s (by omega) hI
      obtain ⟨s2, e2, h3⟩ := ih (i + 1) s' (by omega) (by omega) hI'
      exact ⟨s2, e.trans e2, h3⟩
theorem loop_or {σ ρ : Type} (F : Nat → Int32 → σ → Option ρ) (m : Nat) (done : σ → Option ρ) (I : Nat → σ → Prop) (P : ρ → Prop) (hend : ∀ n s, I m s → F (n + 1) (nI m) s = done s)
    (hstep : ∀ n i s, i < m → I i s → (∃ s', F (n + 1) (nI i) s = F n (nI (i + 1)) s' ∧ I (i + 1) s') ∨ ∃ r, F (n + 1) (nI i) s = some r ∧ P r) : ∀ n i s, i ≤ m → m < i + n → I i s → (∃ s', F n (nI i) s = done s' ∧ I m s') ∨ ∃ r, F n (nI i) s = some r ∧ P r := by
  intro n
  induction n with
  | zero => intro i s h1 h2; omega
  | succ n ih =>
    intro i s h1 h2 hI
    by_cases h : i = m
    · subst h; exact Or.inl ⟨s, hend n s hI, hI⟩
    · rcases hstep n i s (by omega) hI with ⟨s', e, hI'⟩ | ⟨r, e, hr⟩
      · rcases ih (i + 1) s' (by omega) (by omega) hI' with ⟨s2, e2, h3⟩ | ⟨r, e2, hr⟩
        · exact Or.inl ⟨s2, e.trans e2, h3⟩
        · exact Or.inr ⟨r, e.trans e2, hr⟩
      · exact Or.inr ⟨r, e, hr⟩
theorem zF_big {m : Nat} (h : m < 100000) : m < 0 + zF := by unfold zF; omega
theorem ge_lit {i m : Nat} (h : i < m) (hm : m < 2 ^ 31) : ¬ (nI m) ≤ nI i := nI_ge h hm
theorem in_nI {k N : Nat} (h : k < N) (hN : N < 2 ^ 31) : ¬ (nI k < 0 ∨ N ≤ (nI k).toNatClampNeg) := nI_in h hN
theorem upd_s {f : Nat → Int32} {k : Nat} {x : Int32} : upd f k x k = x := by simp [upd]
theorem upd_n {f : Nat → Int32} {k j : Nat} {x : Int32} (h : j ≠ k) : upd f k x j = f j := by simp [upd, h]
theorem lg_neg (x y : Int64) : lg_cmp x y < 0 ↔ x < y := by
  unfold lg_cmp
  by_cases h1 : y < x
  · rw [if_pos h1]
    rw [fa_lt64] at h1 ⊢
    exact ⟨fun h => absurd h (by decide), fun h => by omega⟩
  · rw [if_neg h1]
    by_cases h2 : x = y
    · rw [if_pos h2]; subst h2
      exact ⟨fun h => absurd h (by decide), fun h => absurd h h1⟩
    · rw [if_neg h2]
      rw [fa_lt64] at h1 ⊢
      rw [fa_eq64] at h2
      exact ⟨fun _ => by omega, fun _ => by decide⟩
theorem lg_pos (x y : Int64) : 0 < lg_cmp x y ↔ y < x := by
  unfold lg_cmp
  by_cases h1 : y < x
  · rw [if_pos h1]; exact ⟨fun _ => h1, fun _ => by decide⟩
  · rw [if_neg h1]
    by_cases h2 : x = y
    · rw [if_pos h2]; exact ⟨fun h => absurd h (by decide), fun h => absurd h h1⟩
    · rw [if_neg h2]; exact ⟨fun h => absurd h (by decide), fun h => absurd h h1⟩
theorem lg_zero (x y : Int64) : lg_cmp x y = 0 ↔ x = y := by
  unfold lg_cmp
  by_cases h1 : y < x
  · rw [if_pos h1]
    rw [fa_lt64] at h1
    exact ⟨fun h => absurd h (by decide), fun h => by rw [h] at h1; omega⟩
  · rw [if_neg h1]
    by_cases h2 : x = y
    · rw [if_pos h2]; exact ⟨fun _ => h2, fun _ => rfl⟩
    · rw [if_neg h2]; exact ⟨fun h => absurd h (by decide), fun h => absurd h h2⟩
theorem within_nI {p : Int32} (a b : Nat) (ha : a ≤ b) (hb : b < 2 ^ 30) : f_X7_isWithin p (nI a) (nI b) = some 0 ∨ (∃ k : Nat, a ≤ k ∧ k ≤ b ∧ p = nI k ∧ f_X7_isWithin p (nI a) (nI b) = some 1) := by
  unfold f_X7_isWithin
  by_cases h1 : p < nI a
  · rw [if_pos h1]; exact Or.inl rfl
  · rw [if_neg h1]
    by_cases h2 : nI b < p
    · rw [if_pos h2]; exact Or.inl rfl
    · rw [if_neg h2]
      refine Or.inr ?_
      rw [fa_lt, nI_toInt (by omega)] at h1
      rw [fa_lt, nI_toInt (by omega)] at h2
      refine ⟨p.toInt.toNat, by omega, by omega, ?_, rfl⟩
      rw [fa_eq, nI_toInt (by omega)]
      omega
theorem isWithin_yes {k a b : Nat} (h1 : a ≤ k) (h2 : k ≤ b) (hb : b < 2 ^ 30) : f_X7_isWithin (nI k) (nI a) (nI b) = some 1 := by
  unfold f_X7_isWithin
  rw [if_neg (nI_nlt h1 (by omega)), if_neg (nI_nlt h2 (by omega))]
theorem isWithin_no {k a b : Nat} (h : k < a ∨ b < k) (ha : a < 2 ^ 30) (hb : b < 2 ^ 30) (hk : k < 2 ^ 30) : f_X7_isWithin (nI k) (nI a) (nI b) = some 0 := by
  unfold f_X7_isWithin
  by_cases h1 : k < a
  · rw [if_pos (nI_lt h1 (by omega))]
  · rw [if_neg (nI_nlt (by omega) (by omega)), if_pos (nI_lt (by omega) (by omega))]
theorem valueAt_ok {n k : Nat} (f : Nat → Int32) (h : k < n) (hn : n < 2 ^ 31) : f_X7_valueAt n f (nI k) = some (f k) := by
  unfold f_X7_valueAt
  rw [if_neg (nI_pos (by omega)), if_neg (show ¬ Int32.ofNat n ≤ nI k from nI_ge h hn), if_neg (in_nI h hn), nI_clamp (by omega)]
theorem valueAt_out {n k : Nat} (f : Nat → Int32) (h : n ≤ k) (hk : k < 2 ^ 31) : f_X7_valueAt n f (nI k) = some 0 := by
  unfold f_X7_valueAt
  rw [if_neg (nI_pos (by omega)), if_pos (show Int32.ofNat n ≤ nI k from nI_le h hk)]
theorem setAt_ok {n k : Nat} (f : Nat → Int32) (x : Int32) (h : k < n) (hn : n < 2 ^ 31) : f_X7_setAt n f (nI k) x = some (upd f k x) := by
  unfold f_X7_setAt
  rw [if_neg (nI_pos (by omega)), if_neg (show ¬ Int32.ofNat n ≤ nI k from nI_ge h hn), if_neg (in_nI h hn), nI_clamp (by omega)]
theorem heightAt_ok {k : Nat} (f : Nat → Int32) (h : k < 8) : f_X1_heightAt f (nI k) = some (f k) := by
  unfold f_X1_heightAt
  rw [valueAt_ok f h (by omega)]
  rfl
theorem leftOver_ok : ∀ m, m < 9 → ∀ a, a < 64 → 0 < m → f_X7_leftOver (nI a) (nI m) = some (nI (a % m)) := by decide +kernel
def Jeq (r s : JT) : Prop := r.1 = s.1 ∧ r.2.2 = s.2.2 ∧ ∀ k, k < 8 → r.2.1 k = s.2.1 k
def Seq (r s : ST) : Prop := Jeq r.1 s.1 ∧ Jeq r.2.1 s.2.1 ∧ r.2.2 = s.2.2
theorem become1 (st : Int32) (h : Nat → Int32) (pp pl pc sl cl : Int32) (b : JT) : ∃ r : JT, f_X1_become st h pp pl pc sl cl b.1 b.2.1 b.2.2.1 b.2.2.2.1 b.2.2.2.2.1 b.2.2.2.2.2.1 b.2.2.2.2.2.2 = some r ∧ Jeq r b := by
  obtain ⟨k', e, hk⟩ := loop_run (fun n x s => f_X1_become_L10 b.1 pp pl pc sl cl b.1 b.2.1 b.2.2.1 b.2.2.2.1 b.2.2.2.2.1 b.2.2.2.2.2.1 b.2.2.2.2.2.2 n x s) 8 (fun s => some ((b.1, s, b.2.2) : JT)) (fun i s => ∀ j, j < i → s j = b.2.1 j)
    (fun n s h => by
      show f_X1_become_L10 _ _ _ _ _ _ _ _ _ _ _ _ _ (n + 1) (nI 8) s = _
      rw [f_X1_become_L10, if_pos (show (8 : Int32) ≤ nI 8 by decide)])
    (fun n i s hi h => by
      refine ⟨upd s i (b.2.1 i), ?_, fun j hj => ?_⟩
      · show f_X1_become_L10 _ _ _ _ _ _ _ _ _ _ _ _ _ (n + 1) (nI i) s = f_X1_become_L10 _ _ _ _ _ _ _ _ _ _ _ _ _ n (nI (i + 1)) _
        rw [f_X1_become_L10, if_neg (show ¬ (8 : Int32) ≤ nI i from ge_lit hi (by decide)), heightAt_ok _ hi, Option.bind_some, setAt_ok _ _ hi (by omega), Option.bind_some, nI_1]
      · by_cases hji : j = i
        · subst hji; rw [upd_s]
        · rw [upd_n hji]; exact h j (by omega)) zF 0 h (by omega) (zF_big (by omega)) (fun j hj => by omega)
  exact ⟨_, e, rfl, rfl, hk⟩
theorem become4 (t s : ST) : ∃ r : ST, f_X4_become t s = some r ∧ Seq r s := by
  unfold f_X4_become
  obtain ⟨r1, e1, h1⟩ := become1 t.1.1 t.1.2.1 t.1.2.2.1 t.1.2.2.2.1 t.1.2.2.2.2.1 t.1.2.2.2.2.2.1 t.1.2.2.2.2.2.2 s.1
  obtain ⟨r2, e2, h2⟩ := become1 t.2.1.1 t.2.1.2.1 t.2.1.2.2.1 t.2.1.2.2.2.1 t.2.1.2.2.2.2.1 t.2.1.2.2.2.2.2.1 t.2.1.2.2.2.2.2.2 s.2.1
  rw [e1, Option.bind_some, e2, Option.bind_some]
  exact ⟨_, rfl, h1, h2, rfl⟩
theorem chain6 {α : Type} (B : Nat → Option α) (m : Nat) (hm : m < 6) : (if nI m = (0 : Int32) then B 0 else (if nI m = (1 : Int32) then B 1 else (if nI m = (2 : Int32) then B 2 else (if nI m = (3 : Int32) then B 3 else (if nI m = (4 : Int32) then B 4 else (if nI m = (5 : Int32) then B 5 else none)))))) = B m := by
  match m, hm with
  | 0, _ => rw [if_pos (by decide)]
  | 1, _ => rw [if_neg (by decide), if_pos (by decide)]
  | 2, _ => rw [if_neg (by decide), if_neg (by decide), if_pos (by decide)]
  | 3, _ => rw [if_neg (by decide), if_neg (by decide), if_neg (by decide), if_pos (by decide)]
  | 4, _ => rw [if_neg (by decide), if_neg (by decide), if_neg (by decide), if_neg (by decide), if_pos (by decide)]
  | 5, _ => rw [if_neg (by decide), if_neg (by decide), if_neg (by decide), if_neg (by decide), if_neg (by decide), if_pos (by decide)]
theorem within_lit {A B : Int32} (p : Int32) (a b : Nat) (hA : A = nI a) (hB : B = nI b) (ha : a ≤ b) (hb : b < 2 ^ 30) : f_X7_isWithin p A B = some 0 ∨ (∃ k : Nat, a ≤ k ∧ k ≤ b ∧ p = nI k ∧ f_X7_isWithin p A B = some 1) := by
  subst hA; subst hB; exact within_nI a b ha hb
theorem b_clubs : ∀ s, s < 256 → f_X1_clubs (nI s) = some (nI (pcN s)) := by decide +kernel
theorem b_has : ∀ k, k < 8 → ∀ s, s < 256 → f_X7_has (nI s) (nI k) = some (nI (s / 2 ^ k % 2)) := by decide +kernel
theorem b_bit1 : ∀ k, k < 8 → ∀ s, s < 256 → ((((nI s) >>> (nI k &&& 31)) &&& (1 : Int32)) = 1 ↔ s / 2 ^ k % 2 = 1) := by decide +kernel
theorem b_or2 : ∀ k, k < 8 → ∀ s, s < 256 → s / 2 ^ k % 2 = 0 → nI s ||| ((1 : Int32) <<< (nI k &&& 31)) = nI (s + 2 ^ k) ∧ nI s + ((1 : Int32) <<< (nI k &&& 31)) = nI (s + 2 ^ k) ∧ s + 2 ^ k < 256 ∧ pcN (s + 2 ^ k) = pcN s + 1 := by decide +kernel
theorem b_lose : ∀ k, k < 8 → ∀ s, s < 256 → s / 2 ^ k % 2 = 1 → nI s &&& (((1 : Int32) <<< (nI k &&& 31)) ^^^ (-1 : Int32)) = nI (s - 2 ^ k) ∧ nI s - ((1 : Int32) <<< (nI k &&& 31)) = nI (s - 2 ^ k) ∧ s - 2 ^ k < 256 ∧ pcN s = pcN (s - 2 ^ k) + 1 := by decide +kernel
theorem b_first : ∀ p, p < 9 → ((1 : Int32) <<< (nI p &&& 31)) - (1 : Int32) = nI (2 ^ p - 1) ∧ pcN (2 ^ p - 1) = p ∧ 2 ^ p - 1 < 256 := by decide +kernel
theorem h10 : ¬ (1 : Int32) = 0 := by decide
theorem mod2 (n : Nat) : n % 2 = 0 ∨ n % 2 = 1 := by omega
theorem expects_or {s k : Nat} (hs : s < 256) (hk : k < 8) : (f_X1_expects (nI s) (nI k) = some 0 ∧ s / 2 ^ k % 2 = 0) ∨ (f_X1_expects (nI s) (nI k) = some 1 ∧ s / 2 ^ k % 2 = 1) := by
  unfold f_X1_expects
  rw [b_has k hk s hs]
  rcases mod2 (s / 2 ^ k) with h | h
  · rw [h]; exact Or.inl ⟨rfl, rfl⟩
  · rw [h]; exact Or.inr ⟨rfl, rfl⟩
theorem oneIf_ok {x : Int32} (h : x = 0 ∨ x = 1) : f_X7_oneIf x = some x := by
  rcases h with rfl | rfl <;> rfl
theorem b_sh : ∀ s, s < 256 → nI s >>> ((1 : Int32) &&& 31) = nI (s / 2) := by decide +kernel
theorem b_add' : ∀ g, g < 7 → ∀ s, s < 256 → s / 2 ^ (g + 1) % 2 = 0 → nI s ||| ((1 : Int32) <<< (nI (g + 1) &&& 31)) = nI (s + 2 ^ (g + 1)) ∧ s + 2 ^ (g + 1) < 256 ∧ pcN ((s + 2 ^ (g + 1)) / 2) = pcN (s / 2) + 1 ∧ (s + 2 ^ (g + 1)) % 2 = s % 2 := by decide +kernel
theorem b_add (h : Nat) (hh : h < 8) (s : Nat) (hs : s < 256) (h1 : 1 ≤ h) (h2 : s / 2 ^ h % 2 = 0) : nI s ||| ((1 : Int32) <<< (nI h &&& 31)) = nI (s + 2 ^ h) ∧ s + 2 ^ h < 256 ∧ pcN ((s + 2 ^ h) / 2) = pcN (s / 2) + 1 ∧ (s + 2 ^ h) % 2 = s % 2 := by
  obtain ⟨g, rfl⟩ : ∃ g, h = g + 1 := ⟨h - 1, by omega⟩
  exact b_add' g (by omega) s hs h2
theorem b_pc : ∀ s, s < 256 → pcN s = pcN (s / 2) + s % 2 := by decide +kernel
theorem b_sh1 {s : Nat} (hs : s < 256) : nI s >>> ((1 : Int32) &&& 31) = nI (s / 2) := b_sh s hs
theorem endBeat_ok {s n p : Nat} (hs : s < 256) (hp : p < n) (hn : n ≤ 8) : f_X1_endBeat (nI s) (nI n) (nI p) = some (nI (s / 2), nI ((p + 1) % n)) := by
  unfold f_X1_endBeat
  rw [nI_1, b_sh1 hs]
  by_cases h : p + 1 < n
  · rw [if_pos (nI_lt h (by omega)), Nat.mod_eq_of_lt h]
  · rw [if_neg (nI_nlt (by omega) (by omega)), show p + 1 = n by omega, Nat.mod_self]
    rfl
