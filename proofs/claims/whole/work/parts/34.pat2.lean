/-! patterns: the count of the orbits, the clubs, the first state, the period -/
theorem mem_tb (M x : Nat) : mem M x ↔ M.testBit x = true := by
  rw [Nat.testBit_eq_decide_div_mod_eq]
  simp [mem]
theorem mem_or (U Y x : Nat) : mem (U ||| Y) x ↔ mem U x ∨ mem Y x := by
  rw [mem_tb, mem_tb, mem_tb, Nat.testBit_or, Bool.or_eq_true]
section PT2
variable {a b : Nat → Int32} {h : Nat → Nat} {n : Nat}
theorem itr_fix {L : Nat → Nat} {x : Nat} (hx : L x = x) : ∀ e, itr L e x = x
  | 0 => rfl
  | e + 1 => by show L (itr L e x) = x; rw [itr_fix hx e, hx]
theorem orbits_run (ha : PH a h n) (hb : PH b h n) (n1 : 1 ≤ n) (n8 : n ≤ 8) (hinj : ∀ c d, c < d → d < n → LL h n c ≠ LL h n d) : ∀ (r k c U fuel fuel' : Nat), k + r = n → r < fuel → r < fuel' → U < 256 → (∀ x, x < 8 → (mem U x ↔ ∃ i, i < k ∧ h i ≠ 0 ∧ ∃ e, itr (LL h n) e i = x)) →
    ∃ v : Int32, f_X3_orbits_L6 a (nI n) fuel (nI c) (nI U) (nI k) = some v ∧ f_X8_orbits_L4 b (nI n) fuel' (nI c) (nI k) = some v := by
  intro r
  induction r with
  | zero =>
    intro k c U fuel fuel' h1 h2 h3 h4 h5
    obtain ⟨g, rfl⟩ : ∃ g, fuel = g + 1 := ⟨fuel - 1, by omega⟩
    obtain ⟨g', rfl⟩ : ∃ g, fuel' = g + 1 := ⟨fuel' - 1, by omega⟩
    exact ⟨nI c, by rw [f_X3_orbits_L6, if_pos (nI_le (by omega) (by omega))], by rw [f_X8_orbits_L4, if_pos (nI_le (by omega) (by omega))]⟩
  | succ r ih =>
    intro k c U fuel fuel' h1 h2 h3 h4 h5
    obtain ⟨g, rfl⟩ : ∃ g, fuel = g + 1 := ⟨fuel - 1, by omega⟩
    obtain ⟨g', rfl⟩ : ∃ g, fuel' = g + 1 := ⟨fuel' - 1, by omega⟩
    have hk : k < n := by omega
    obtain ⟨Y, y1, y2, y3, y4, y5⟩ := orb_ok ha hb n8 hk
    have eor : nI U ||| nI Y = nI (U ||| Y) := fa_or U Y
    have hU : U ||| Y < 256 := Nat.or_lt_two_pow (n := 8) h4 y1
    have hinv : ∀ x, x < 8 → (mem (U ||| Y) x ↔ ∃ i, i < k + 1 ∧ h i ≠ 0 ∧ ∃ e, itr (LL h n) e i = x) := by
      intro x hx
      rw [mem_or, h5 x hx]
      constructor
      · rintro (⟨i, i1, i2, i3⟩ | hm)
        · exact ⟨i, by omega, i2, i3⟩
        · by_cases h0 : h k = 0
          · rw [y4 h0] at hm; unfold mem at hm; rw [Nat.zero_div] at hm; omega
          · exact ⟨k, by omega, h0, ((y5 h0).1 x hx).mp hm⟩
      · rintro ⟨i, i1, i2, i3⟩
        by_cases hik : i = k
        · subst hik; exact Or.inr (((y5 i2).1 x hx).mpr i3)
        · exact Or.inl ⟨i, by omega, i2, i3⟩
    rw [f_X3_orbits_L6, if_neg (nI_ge hk (by omega)), y2, Option.bind_some, f_X8_orbits_L4, if_neg (nI_ge hk (by omega)), y3, Option.bind_some, eor, nI_1, Int32.add_zero, nI_1]
    by_cases h0 : h k = 0
    · rw [if_pos (by rw [y4 h0]; rfl), if_pos (by rw [y4 h0]; rfl)]
      exact ih (k + 1) c (U ||| Y) g g' (by omega) (by omega) (by omega) hU hinv
    · obtain ⟨w1, t1, t2, t3, t4⟩ := y5 h0
      have hkY : mem Y k := (w1 k (by omega)).mpr ⟨0, rfl⟩
      have hY0 : ¬ nI Y = 0 := nI_ne0 (by
        rcases Nat.eq_zero_or_pos Y with e | e
        · rw [e] at hkY; unfold mem at hkY; rw [Nat.zero_div] at hkY; omega
        · exact e) (by omega)
      rw [if_neg hY0, if_neg hY0, b_has k (by omega) U h4, Option.bind_some, (b_first k (by omega)).1, fa_mask]
      have hiff : U / 2 ^ k % 2 = 0 ↔ Y % 2 ^ k = 0 := by
        rw [m_low k (by omega) Y y1]
        constructor
        · intro hu x hx hm
          obtain ⟨e, he⟩ := (w1 x (by omega)).mp hm
          obtain ⟨d, d1, d2⟩ := per_ok n1 hinj hk _ _ t3 t4
          obtain ⟨e', he'⟩ := sym_ok d1 d2 e
          rw [he] at he'
          have hx0 : h x ≠ 0 := by
            intro hx0
            have hfix : LL h n x = x := by unfold LL; rw [hx0]; exact Nat.mod_eq_of_lt (by omega)
            rw [itr_fix hfix] at he'
            omega
          have : mem U k := (h5 k (by omega)).mpr ⟨x, hx, hx0, e', he'⟩
          unfold mem at this
          omega
        · intro hy
          apply Classical.byContradiction
          intro hu
          have hm : mem U k := by unfold mem; omega
          obtain ⟨i, i1, i2, e, he⟩ := (h5 k (by omega)).mp hm
          obtain ⟨Z, -, -, -, -, z5⟩ := orb_ok ha hb n8 (show i < n by omega)
          obtain ⟨-, u1, u2, u3, u4⟩ := z5 i2
          obtain ⟨d, d1, d2⟩ := per_ok n1 hinj (show i < n by omega) _ _ u3 u4
          obtain ⟨e', he'⟩ := sym_ok d1 d2 e
          rw [he] at he'
          exact hy i i1 ((w1 i (by omega)).mpr ⟨e', he'⟩)
      have hY2 : Y % 2 ^ k < 2 ^ 31 := Nat.lt_of_le_of_lt (Nat.mod_le _ _) (by omega)
      by_cases hu : U / 2 ^ k % 2 = 0
      · rw [if_pos (by rw [hu]; rfl), if_pos (by rw [hiff.mp hu]; rfl)]
        exact ih (k + 1) (c + 1) (U ||| Y) g g' (by omega) (by omega) (by omega) hU hinv
      · rw [if_neg (nI_ne0 (by omega) (by omega)), if_neg (nI_ne0 (Nat.pos_of_ne_zero (fun e => hu (hiff.mpr e))) hY2)]
        exact ih (k + 1) c (U ||| Y) g g' (by omega) (by omega) (by omega) hU hinv
-- the sum
theorem sum_run (ha : PH a h n) (hb : PH b h n) (n1 : 1 ≤ n) (n8 : n ≤ 8) : ∀ (r k S fuel fuel' : Nat), k + r = n → r < fuel → r < fuel' → S ≤ 7 * k →
    ∃ S' : Nat, S' ≤ 7 * n ∧ f_X3_clubs_L4 a (nI n) fuel (nI S) (nI k) = some (nI S' / nI n) ∧ f_X8_sumOfHeights_L4 b (nI n) fuel' (nI S) (nI k) = some (nI S') := by
  intro r
  induction r with
  | zero =>
    intro k S fuel fuel' h1 h2 h3 h4
    obtain ⟨g, rfl⟩ : ∃ g, fuel = g + 1 := ⟨fuel - 1, by omega⟩
    obtain ⟨g', rfl⟩ : ∃ g, fuel' = g + 1 := ⟨fuel' - 1, by omega⟩
    refine ⟨S, by omega, ?_, ?_⟩
    · rw [f_X3_clubs_L4, if_pos (nI_le (by omega) (by omega)), if_neg (nI_nle (by omega) (by omega)), if_neg (nI_ne0 (by omega) (by omega))]
    · rw [f_X8_sumOfHeights_L4, if_pos (nI_le (by omega) (by omega))]
  | succ r ih =>
    intro k S fuel fuel' h1 h2 h3 h4
    obtain ⟨g, rfl⟩ : ∃ g, fuel = g + 1 := ⟨fuel - 1, by omega⟩
    obtain ⟨g', rfl⟩ : ∃ g, fuel' = g + 1 := ⟨fuel' - 1, by omega⟩
    have hk : k < n := by omega
    have hh := hb k hk
    obtain ⟨S', z1, z2, z3⟩ := ih (k + 1) (S + h k) g g' (by omega) (by omega) (by omega) (by omega)
    refine ⟨S', z1, ?_, ?_⟩
    · rw [f_X3_clubs_L4, if_neg (nI_ge hk (by omega)), heightAt3 ha n1 n8 (by omega), Option.bind_some, Nat.mod_eq_of_lt hk, nI_add, nI_1]
      exact z2
    · rw [f_X8_sumOfHeights_L4, if_neg (nI_ge hk (by omega)), if_neg (in_nI (by omega) (by decide)), nI_clamp (by omega), hh.2, nI_add, nI_1]
      exact z3
-- the first state
def bb (h : Nat → Nat) (n x : Nat) : Int32 := if h ((8 * n - x) % n) < x then 0 else (1 : Int32) <<< ((nI (h ((8 * n - x) % n)) - nI x) &&& 31)
theorem neg_left : ∀ n, n < 9 → ∀ x, x < 8 → 0 < n → f_X7_leftOver (0 - nI x) (nI n) = some (nI ((8 * n - x) % n)) := by decide +kernel
theorem neg_add : ∀ x, x < 8 → ∀ k, k < 8 → ((0 - nI x + nI k < 0 ↔ k < x) ∧ 0 - nI x + nI k = nI k - nI x) := by decide +kernel
theorem neg_suc : ∀ x, x < 8 → 0 - nI (x + 1) + 1 = 0 - nI x ∧ ¬ (0 : Int32) ≤ 0 - nI (x + 1) := by decide +kernel
theorem start_c (ha : PH a h n) (n1 : 1 ≤ n) (n8 : n ≤ 8) {x : Nat} (hx : x < 7) (g : Nat) (X : Int32) : f_X3_startState_L5 a (nI n) (g + 1) X (0 - nI (x + 1)) = f_X3_startState_L5 a (nI n) g (X ||| bb h n (x + 1)) (0 - nI x) := by
  have hm := Nat.mod_lt (8 * n - (x + 1)) (show 0 < n by omega)
  have hh := ha _ hm
  have e1 : f_X3_heightAt a (nI n) (0 - nI (x + 1)) = some (nI (h ((8 * n - (x + 1)) % n))) := by
    unfold f_X3_heightAt
    rw [neg_left n (by omega) (x + 1) (by omega) (by omega), Option.bind_some, valueAt_ok _ (by omega) (by omega), hh.2]
    rfl
  obtain ⟨n1', n2'⟩ := neg_add (x + 1) (by omega) _ hh.1
  rw [f_X3_startState_L5, if_neg (neg_suc x (by omega)).2, e1, Option.bind_some, (neg_suc x (by omega)).1]
  unfold bb
  by_cases hc : h ((8 * n - (x + 1)) % n) < x + 1
  · rw [if_pos (n1'.mpr hc), if_pos hc, Int32.or_zero]
  · rw [if_neg (fun e => hc (n1'.mp e)), if_neg hc, n2']
theorem start_r (hb : PH b h n) (n1 : 1 ≤ n) (n8 : n ≤ 8) {x : Nat} (hx0 : 1 ≤ x) (hx : x < 8) (g : Nat) (X : Int32) : f_X8_startOf_L4 b (nI n) (g + 1) X (nI x) = f_X8_startOf_L4 b (nI n) g (X ||| bb h n x) (nI (x + 1)) := by
  have hm := Nat.mod_lt (8 * n - x) (show 0 < n by omega)
  have hh := hb _ hm
  have e8 : (8 : Int32) * nI n = nI (8 * n) := pk_mul 8 n
  rw [f_X8_startOf_L4, if_neg (show ¬ (7 : Int32) < nI x from nI_nlt (a := 7) (by omega) (by omega)), if_neg (nI_ne0 (by omega) (by omega)), e8, pk_sub (by omega), pk_rem (by omega) (by omega) (by omega), if_neg (in_nI (by omega) (by decide)), if_neg (in_nI (by omega) (by decide)), nI_clamp (by omega), hh.2, nI_1]
  unfold bb
  by_cases hc : h ((8 * n - x) % n) < x
  · rw [if_pos ((nI_ltI (by omega) (by omega)).mpr hc), if_pos hc]
  · rw [if_neg (fun e => hc ((nI_ltI (by omega) (by omega)).mp e)), if_neg hc]
theorem start_ok (ha : PH a h n) (hb : PH b h n) (n1 : 1 ≤ n) (n8 : n ≤ 8) : ∃ v : Int32, f_X3_startState a (nI n) = some v ∧ f_X8_startOf b (nI n) = some v := by
  obtain ⟨g, hg⟩ : ∃ g, zF = g + 1 + 1 + 1 + 1 + 1 + 1 + 1 + 1 := ⟨zF - 8, by decide⟩
  refine ⟨0 ||| bb h n 7 ||| bb h n 6 ||| bb h n 5 ||| bb h n 4 ||| bb h n 3 ||| bb h n 2 ||| bb h n 1, ?_, ?_⟩
  · unfold f_X3_startState
    rw [hg, show (-7 : Int32) = 0 - nI (6 + 1) by decide, start_c ha n1 n8 (by omega), show (0 : Int32) - nI 6 = 0 - nI (5 + 1) from rfl, start_c ha n1 n8 (by omega), show (0 : Int32) - nI 5 = 0 - nI (4 + 1) from rfl, start_c ha n1 n8 (by omega), show (0 : Int32) - nI 4 = 0 - nI (3 + 1) from rfl, start_c ha n1 n8 (by omega), show (0 : Int32) - nI 3 = 0 - nI (2 + 1) from rfl, start_c ha n1 n8 (by omega), show (0 : Int32) - nI 2 = 0 - nI (1 + 1) from rfl, start_c ha n1 n8 (by omega), show (0 : Int32) - nI 1 = 0 - nI (0 + 1) from rfl, start_c ha n1 n8 (by omega), f_X3_startState_L5, if_pos (by decide)]
  · unfold f_X8_startOf
    rw [hg, show f_X8_startOf_L4 b (nI n) (g + 1 + 1 + 1 + 1 + 1 + 1 + 1 + 1) 0 1 = f_X8_startOf_L4 b (nI n) (g + 1 + 1 + 1 + 1 + 1 + 1 + 1 + 1) 0 (nI 1) from rfl, start_r hb n1 n8 (by omega) (by omega), start_r hb n1 n8 (by omega) (by omega), start_r hb n1 n8 (by omega) (by omega), start_r hb n1 n8 (by omega) (by omega), start_r hb n1 n8 (by omega) (by omega), start_r hb n1 n8 (by omega) (by omega), start_r hb n1 n8 (by omega) (by omega), f_X8_startOf_L4, if_pos (by decide)]
    congr 1
    ac_rfl
-- the period
def Ch (h : Nat → Nat) (n d : Nat) : Prop := ∀ k, k < n → h (k % n) = h ((k + d) % n)
def Rh (h : Nat → Nat) (n d : Nat) : Prop := n % d = 0 ∧ ∀ k, d ≤ k → k < n → h k = h (k - d)
theorem Ch.all {d : Nat} (n1 : 1 ≤ n) (hc : Ch h n d) (k : Nat) : h ((k + d) % n) = h (k % n) := by
  have := hc (k % n) (Nat.mod_lt _ (by omega))
  rw [Nat.mod_mod, Nat.mod_add_mod] at this
  exact this.symm
theorem Ch.mul {d : Nat} (n1 : 1 ≤ n) (hc : Ch h n d) (k m : Nat) : h ((k + d * m) % n) = h (k % n) := by
  induction m with
  | zero => rw [Nat.mul_zero, Nat.add_zero]
  | succ m ih => rw [Nat.mul_succ, ← Nat.add_assoc, hc.all n1, ih]
theorem CR {d : Nat} (n1 : 1 ≤ n) (d1 : 1 ≤ d) (hc : Ch h n d) (hmin : ∀ e, 1 ≤ e → e < d → ¬ Ch h n e) : Rh h n d := by
  have he := Nat.mod_lt n (show 0 < d by omega)
  have e0 : n % d = 0 := by
    apply Classical.byContradiction
    intro hne
    refine hmin (n % d) (by omega) he (fun k hk => ?_)
    have e1 := hc.mul n1 (k + n % d) (n / d)
    rw [Nat.add_assoc, Nat.mod_add_div, Nat.add_mod_right] at e1
    exact e1
  refine ⟨e0, fun k k1 k2 => ?_⟩
  have e1 := hc.all n1 (k - d)
  rw [Nat.sub_add_cancel k1, Nat.mod_eq_of_lt k2, Nat.mod_eq_of_lt (show k - d < n by omega)] at e1
  exact e1
theorem Rh.res {d : Nat} (d1 : 1 ≤ d) (hr : Rh h n d) : ∀ k, k < n → h k = h (k % d) := by
  intro k
  induction k using Nat.strongRecOn with
  | _ k ih =>
    intro hk
    by_cases hd : k < d
    · rw [Nat.mod_eq_of_lt hd]
    · rw [hr.2 k (by omega) hk, ih (k - d) (by omega) (by omega), Nat.mod_eq_sub_mod (show k ≥ d by omega)]
theorem RC {d : Nat} (d1 : 1 ≤ d) (dn : d ≤ n) (hr : Rh h n d) : Ch h n d := by
  intro k hk
  rw [Nat.mod_eq_of_lt hk]
  by_cases hc : k + d < n
  · rw [Nat.mod_eq_of_lt hc, hr.2 (k + d) (by omega) hc, Nat.add_sub_cancel]
  · rw [Nat.mod_eq_sub_mod (show k + d ≥ n by omega), Nat.mod_eq_of_lt (show k + d - n < n by omega), hr.res d1 k hk, hr.res d1 (k + d - n) (by omega)]
    obtain ⟨q, hq⟩ : ∃ q, n = d * q := ⟨n / d, by have := Nat.mod_add_div n d; rw [hr.1, Nat.zero_add] at this; exact this.symm⟩
    obtain ⟨q, rfl⟩ : ∃ q', q = q' + 1 := ⟨q - 1, by rcases q with _ | q; · rw [Nat.mul_zero] at hq; omega
                                                     · rfl⟩
    rw [Nat.mul_succ] at hq
    have e : k = (k + d - n) + d * q := by omega
    conv => lhs; rw [e]
    rw [Nat.add_mul_mod_self_left]
theorem cab_run (ha : PH a h n) (n1 : 1 ≤ n) (n8 : n ≤ 8) {d : Nat} (hd : d < 8) : ∀ (r k fuel : Nat), k + r = n → r < fuel → (∀ j, j < k → h (j % n) = h ((j + d) % n)) → (f_X3_comesAgainBehind_L2 a (nI n) (nI d) fuel (nI k) = some 1 ∧ Ch h n d) ∨ (f_X3_comesAgainBehind_L2 a (nI n) (nI d) fuel (nI k) = some 0 ∧ ¬ Ch h n d) := by
  intro r
  induction r with
  | zero =>
    intro k fuel h1 h2 h3
    obtain ⟨g, rfl⟩ : ∃ g, fuel = g + 1 := ⟨fuel - 1, by omega⟩
    obtain rfl : k = n := by omega
    exact Or.inl ⟨by rw [f_X3_comesAgainBehind_L2, if_pos (nI_le (by omega) (by omega))], h3⟩
  | succ r ih =>
    intro k fuel h1 h2 h3
    obtain ⟨g, rfl⟩ : ∃ g, fuel = g + 1 := ⟨fuel - 1, by omega⟩
    have l1 := (ha _ (Nat.mod_lt k (show 0 < n by omega))).1
    have l2 := (ha _ (Nat.mod_lt (k + d) (show 0 < n by omega))).1
    rw [f_X3_comesAgainBehind_L2, if_neg (nI_ge (by omega) (by omega)), heightAt3 ha n1 n8 (by omega), Option.bind_some, nI_add, heightAt3 ha n1 n8 (by omega), Option.bind_some, nI_1]
    by_cases he : h (k % n) = h ((k + d) % n)
    · rw [if_pos (by rw [he])]
      exact ih (k + 1) g (by omega) (by omega) (fun j hj => by
        by_cases hjk : j = k
        · subst hjk; exact he
        · exact h3 j (by omega))
    · rw [if_neg (nI_ne he (by omega) (by omega))]
      exact Or.inr ⟨rfl, fun hc => he (hc k (by omega))⟩
theorem ca_no {d : Nat} (n8 : n ≤ 8) : ∀ (r k fuel : Nat), k + r = n → r < fuel → f_X8_comesAgain_L17 b (nI n) (nI d) fuel 0 (nI k) = some 0 := by
  intro r
  induction r with
  | zero =>
    intro k fuel h1 h2
    obtain ⟨g, rfl⟩ : ∃ g, fuel = g + 1 := ⟨fuel - 1, by omega⟩
    rw [f_X8_comesAgain_L17, if_pos (nI_le (by omega) (by omega)), if_pos (Or.inl rfl)]
  | succ r ih =>
    intro k fuel h1 h2
    obtain ⟨g, rfl⟩ : ∃ g, fuel = g + 1 := ⟨fuel - 1, by omega⟩
    rw [f_X8_comesAgain_L17, if_neg (nI_ge (by omega) (by omega)), if_pos rfl, nI_1]
    exact ih (k + 1) g (by omega) (by omega)
theorem ca_run (hb : PH b h n) (n8 : n ≤ 8) {d : Nat} : ∀ (r k fuel : Nat), k + r = n → r < fuel → d ≤ k → (∀ j, d ≤ j → j < k → h j = h (j - d)) → (f_X8_comesAgain_L17 b (nI n) (nI d) fuel 1 (nI k) = some 1 ∧ ∀ j, d ≤ j → j < n → h j = h (j - d)) ∨ (f_X8_comesAgain_L17 b (nI n) (nI d) fuel 1 (nI k) = some 0 ∧ ¬ ∀ j, d ≤ j → j < n → h j = h (j - d)) := by
  intro r
  induction r with
  | zero =>
    intro k fuel h1 h2 h3 h4
    obtain ⟨g, rfl⟩ : ∃ g, fuel = g + 1 := ⟨fuel - 1, by omega⟩
    obtain rfl : k = n := by omega
    exact Or.inl ⟨by rw [f_X8_comesAgain_L17, if_pos (nI_le (by omega) (by omega)), if_pos (Or.inr rfl)], h4⟩
  | succ r ih =>
    intro k fuel h1 h2 h3 h4
    obtain ⟨g, rfl⟩ : ∃ g, fuel = g + 1 := ⟨fuel - 1, by omega⟩
    have l1 := hb k (by omega)
    have l2 := hb (k - d) (by omega)
    rw [f_X8_comesAgain_L17, if_neg (nI_ge (by omega) (by omega)), if_neg h10, pk_sub h3, if_neg (in_nI (by omega) (by decide)), if_neg (in_nI (by omega) (by decide)), nI_clamp (by omega), nI_clamp (by omega), l1.2, l2.2, nI_1]
    by_cases he : h k = h (k - d)
    · rw [if_pos (by rw [he])]
      exact ih (k + 1) g (by omega) (by omega) (by omega) (fun j j1 j2 => by
        by_cases hjk : j = k
        · subst hjk; exact he
        · exact h4 j j1 (by omega))
    · rw [if_neg (nI_ne he (by omega) (by omega)), ca_no n8 r (k + 1) g (by omega) (by omega)]
      exact Or.inr ⟨rfl, fun hc => he (hc k h3 (by omega))⟩
theorem ca_ok (hb : PH b h n) (n8 : n ≤ 8) {d : Nat} (d1 : 1 ≤ d) (dn : d ≤ n) : (f_X8_comesAgain b (nI n) (nI d) = some 1 ∧ Rh h n d) ∨ (f_X8_comesAgain b (nI n) (nI d) = some 0 ∧ ¬ Rh h n d) := by
  have hz : 100 < zF := by decide
  have := Nat.mod_lt n (show 0 < d by omega)
  unfold f_X8_comesAgain
  rw [if_neg (nI_ne0 (by omega) (by omega)), pk_rem (by omega) (by omega) (by omega)]
  by_cases h0 : n % d = 0
  · rw [if_pos (by rw [h0]; rfl)]
    rcases ca_run hb n8 (n - d) d zF (by omega) (by omega) (Nat.le_refl d) (fun j j1 j2 => by omega) with ⟨e1, e2⟩ | ⟨e1, e2⟩
    · exact Or.inl ⟨e1, h0, e2⟩
    · exact Or.inr ⟨e1, fun hr => e2 hr.2⟩
  · rw [if_neg (nI_ne0 (by omega) (by omega)), ca_no n8 (n - d) d zF (by omega) (by omega)]
    exact Or.inr ⟨rfl, fun hr => h0 hr.1⟩
theorem period_run (ha : PH a h n) (hb : PH b h n) (n1 : 1 ≤ n) (n8 : n ≤ 8) : ∀ (r d fuel fuel' : Nat), d + r = n → r < fuel → r < fuel' → 1 ≤ d → (∀ e, 1 ≤ e → e < d → ¬ Ch h n e) → ∃ v : Int32, f_X3_period_L2 a (nI n) fuel (nI d) = some v ∧ f_X8_period_L2 b (nI n) fuel' (nI d) = some v := by
  have hz : 100 < zF := by decide
  intro r
  induction r with
  | zero =>
    intro d fuel fuel' h1 h2 h3 h4 h5
    obtain ⟨g, rfl⟩ : ∃ g, fuel = g + 1 := ⟨fuel - 1, by omega⟩
    obtain ⟨g', rfl⟩ : ∃ g, fuel' = g + 1 := ⟨fuel' - 1, by omega⟩
    obtain rfl : d = n := by omega
    refine ⟨nI d, by rw [f_X3_period_L2, if_pos (nI_le (by omega) (by omega))], ?_⟩
    rcases ca_ok hb n8 h4 (Nat.le_refl d) with ⟨e1, e2⟩ | ⟨e1, e2⟩
    · rw [f_X8_period_L2, e1, Option.bind_some, if_neg h10]
    · exact absurd ⟨Nat.mod_self d, fun k k1 k2 => by omega⟩ e2
  | succ r ih =>
    intro d fuel fuel' h1 h2 h3 h4 h5
    obtain ⟨g, rfl⟩ : ∃ g, fuel = g + 1 := ⟨fuel - 1, by omega⟩
    obtain ⟨g', rfl⟩ : ∃ g, fuel' = g + 1 := ⟨fuel' - 1, by omega⟩
    rw [f_X3_period_L2, if_neg (nI_ge (by omega) (by omega)), f_X3_comesAgainBehind, f_X8_period_L2]
    have hcab := cab_run ha n1 n8 (d := d) (by omega) n 0 zF (by omega) (by omega) (fun j hj => by omega)
    rcases hcab with ⟨e1, e2⟩ | ⟨e1, e2⟩
    · have hR := CR n1 h4 e2 h5
      rw [show f_X3_comesAgainBehind_L2 a (nI n) (nI d) zF 0 = some 1 from e1, Option.bind_some, if_neg h10]
      rcases ca_ok hb n8 h4 (by omega) with ⟨f1, f2⟩ | ⟨f1, f2⟩
      · rw [f1, Option.bind_some, if_neg h10]
        exact ⟨_, rfl, rfl⟩
      · exact absurd hR f2
    · rw [show f_X3_comesAgainBehind_L2 a (nI n) (nI d) zF 0 = some 0 from e1, Option.bind_some, if_pos rfl, nI_1]
      rcases ca_ok hb n8 h4 (by omega) with ⟨f1, f2⟩ | ⟨f1, f2⟩
      · exact absurd (RC h4 (by omega) f2) e2
      · rw [f1, Option.bind_some, if_pos rfl]
        exact ih (d + 1) g g' (by omega) (by omega) (by omega) (by omega) (fun e e1' e2' => by
          by_cases hed : e = d
          · subst hed; exact e2
          · exact h5 e e1' (by omega))
end PT2
