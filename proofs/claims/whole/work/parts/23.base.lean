/-! loops over nI, and the small functions -/
theorem loop_run {σ ρ : Type} (F : Nat → Int32 → σ → Option ρ) (m : Nat) (done : σ → Option ρ) (I : Nat → σ → Prop) (hend : ∀ n s, I m s → F (n + 1) (nI m) s = done s)
    (hstep : ∀ n i s, i < m → I i s → ∃ s', F (n + 1) (nI i) s = F n (nI (i + 1)) s' ∧ I (i + 1) s') : ∀ n i s, i ≤ m → m < i + n → I i s → ∃ s', F n (nI i) s = done s' ∧ I m s' := by
  intro n
  induction n with
  | zero => intro i s h1 h2; omega
  | succ n ih =>
    intro i s h1 h2 hI
    by_cases h : i = m
    · subst h; exact ⟨s, hend n s hI, hI⟩
    · obtain ⟨s', e, hI'⟩ := hstep n i s (by omega) hI
      obtain ⟨s2, e2, h3⟩ := ih (i + 1) s' (by omega) (by omega) hI'
      exact ⟨s2, e.trans e2, h3⟩
/-- a loop that may end early with an answer -/
theorem loop_or {σ ρ : Type} (F : Nat → Int32 → σ → Option ρ) (m : Nat) (done : σ → Option ρ) (I : Nat → σ → Prop) (P : ρ → Prop) (hend : ∀ n s, I m s → F (n + 1) (nI m) s = done s)
    (hstep : ∀ n i s, i < m → I i s → (∃ s', F (n + 1) (nI i) s = F n (nI (i + 1)) s' ∧ I (i + 1) s') ∨ ∃ r, F (n + 1) (nI i) s = some r ∧ P r) : ∀ n i s, i ≤ m → m < i + n → I i s → (∃ s', F n (nI i) s = done s' ∧ I m s') ∨ ∃ r, F n (nI i) s = some r ∧ P r := by
  intro n
  induction n with
  | zero => intro i s h1 h2; omega
  | succ n ih =>
    intro i s h1 h2 hI
    by_cases h : i = m
    · subst h; exact Or.inl ⟨s, hend n s hI, hI⟩
    · rcases hstep n i s (by omega) hI with ⟨s', e, hI'⟩ | ⟨r, e, hr⟩
      · rcases ih (i + 1) s' (by omega) (by omega) hI' with ⟨s2, e2, h3⟩ | ⟨r, e2, hr⟩
        · exact Or.inl ⟨s2, e.trans e2, h3⟩
        · exact Or.inr ⟨r, e.trans e2, hr⟩
      · exact Or.inr ⟨r, e, hr⟩
theorem zF_big {m : Nat} (h : m < 100000) : m < 0 + zF := by unfold zF; omega
theorem ge_lit {i m : Nat} (h : i < m) (hm : m < 2 ^ 31) : ¬ (nI m) ≤ nI i := nI_ge h hm
theorem in_nI {k N : Nat} (h : k < N) (hN : N < 2 ^ 31) : ¬ (nI k < 0 ∨ N ≤ (nI k).toNatClampNeg) := nI_in h hN
theorem upd_s {f : Nat → Int32} {k : Nat} {x : Int32} : upd f k x k = x := by simp [upd]
theorem upd_n {f : Nat → Int32} {k j : Nat} {x : Int32} (h : j ≠ k) : upd f k x j = f j := by simp [upd, h]
-- the row is kept, and given back
theorem keep_ok (a k : Nat → Int32) : ∃ k', f_X8_keep a k = some k' ∧ ∀ j, j < 46 → k' j = a j := by
  obtain ⟨k', e, h⟩ := loop_run (fun n x s => f_X8_keep_L2 a n x s) 46 some (fun i s => ∀ j, j < i → s j = a j)
    (fun n s h => by
      show f_X8_keep_L2 a (n + 1) (nI 46) s = some s
      rw [f_X8_keep_L2, if_pos (show (46 : Int32) ≤ nI 46 by decide)])
    (fun n i s hi h => by
      refine ⟨upd s i (a i), ?_, fun j hj => ?_⟩
      · show f_X8_keep_L2 a (n + 1) (nI i) s = f_X8_keep_L2 a n (nI (i + 1)) _
        rw [f_X8_keep_L2, if_neg (show ¬ (46 : Int32) ≤ nI i from ge_lit hi (by decide)), if_neg (in_nI hi (by decide)), if_neg (in_nI hi (by decide)), nI_1, nI_clamp (by omega)]
      · by_cases hji : j = i
        · subst hji; rw [upd_s]
        · rw [upd_n hji]; exact h j (by omega)) zF 0 k (by omega) (zF_big (by omega)) (fun j hj => by omega)
  exact ⟨k', e, h⟩
theorem giveBack_ok (a k : Nat → Int32) : ∃ a', f_X8_giveBack a k = some a' ∧ ∀ j, j < 46 → a' j = k j := by
  obtain ⟨k', e, h⟩ := loop_run (fun n x s => f_X8_giveBack_L2 k n x s) 46 some (fun i s => ∀ j, j < i → s j = k j)
    (fun n s h => by
      show f_X8_giveBack_L2 k (n + 1) (nI 46) s = some s
      rw [f_X8_giveBack_L2, if_pos (show (46 : Int32) ≤ nI 46 by decide)])
    (fun n i s hi h => by
      refine ⟨upd s i (k i), ?_, fun j hj => ?_⟩
      · show f_X8_giveBack_L2 k (n + 1) (nI i) s = f_X8_giveBack_L2 k n (nI (i + 1)) _
        rw [f_X8_giveBack_L2, if_neg (show ¬ (46 : Int32) ≤ nI i from ge_lit hi (by decide)), if_neg (in_nI hi (by decide)), if_neg (in_nI hi (by decide)), nI_1, nI_clamp (by omega)]
      · by_cases hji : j = i
        · subst hji; rw [upd_s]
        · rw [upd_n hji]; exact h j (by omega)) zF 0 a (by omega) (zF_big (by omega)) (fun j hj => by omega)
  exact ⟨k', e, h⟩
-- ranges, of ints and of longs
theorem lg_neg (x y : Int64) : lg_cmp x y < 0 ↔ x < y := by
  unfold lg_cmp
  by_cases h1 : y < x
  · rw [if_pos h1]
    rw [fa_lt64] at h1 ⊢
    exact ⟨fun h => absurd h (by decide), fun h => by omega⟩
  · rw [if_neg h1]
    by_cases h2 : x = y
    · rw [if_pos h2]; subst h2
      exact ⟨fun h => absurd h (by decide), fun h => absurd h h1⟩
    · rw [if_neg h2]
      rw [fa_lt64] at h1 ⊢
      rw [fa_eq64] at h2
      exact ⟨fun _ => by omega, fun _ => by decide⟩
theorem lg_pos (x y : Int64) : 0 < lg_cmp x y ↔ y < x := by
  unfold lg_cmp
  by_cases h1 : y < x
  · rw [if_pos h1]; exact ⟨fun _ => h1, fun _ => by decide⟩
  · rw [if_neg h1]
    by_cases h2 : x = y
    · rw [if_pos h2]; exact ⟨fun h => absurd h (by decide), fun h => absurd h h1⟩
    · rw [if_neg h2]; exact ⟨fun h => absurd h (by decide), fun h => absurd h h1⟩
theorem lg_zero (x y : Int64) : lg_cmp x y = 0 ↔ x = y := by
  unfold lg_cmp
  by_cases h1 : y < x
  · rw [if_pos h1]
    rw [fa_lt64] at h1
    exact ⟨fun h => absurd h (by decide), fun h => by rw [h] at h1; omega⟩
  · rw [if_neg h1]
    by_cases h2 : x = y
    · rw [if_pos h2]; exact ⟨fun _ => h2, fun _ => rfl⟩
    · rw [if_neg h2]; exact ⟨fun h => absurd h (by decide), fun h => absurd h h2⟩
theorem in_within {p lo hi : Int32} {l h : Int64} (hl : lo.toInt64 = l) (hh : hi.toInt64 = h) : f_X8_in p.toInt64 l h = f_X7_isWithin p lo hi := by
  subst hl; subst hh
  unfold f_X8_in f_X7_isWithin
  by_cases h1 : p < lo
  · rw [if_pos ((lg_neg _ _).mpr ((fa_wide_lt _ _).mpr h1)), if_pos h1]
  · rw [if_neg (fun h => h1 ((fa_wide_lt _ _).mp ((lg_neg _ _).mp h))), if_neg h1]
    by_cases h2 : hi < p
    · rw [if_pos ((lg_pos _ _).mpr ((fa_wide_lt _ _).mpr h2)), if_pos h2]
    · rw [if_neg (fun h => h2 ((fa_wide_lt _ _).mp ((lg_pos _ _).mp h))), if_neg h2]
theorem within_nI {p : Int32} (a b : Nat) (ha : a ≤ b) (hb : b < 2 ^ 30) : f_X7_isWithin p (nI a) (nI b) = some 0 ∨ (∃ k : Nat, a ≤ k ∧ k ≤ b ∧ p = nI k ∧ f_X7_isWithin p (nI a) (nI b) = some 1) := by
  unfold f_X7_isWithin
  by_cases h1 : p < nI a
  · rw [if_pos h1]; exact Or.inl rfl
  · rw [if_neg h1]
    by_cases h2 : nI b < p
    · rw [if_pos h2]; exact Or.inl rfl
    · rw [if_neg h2]
      refine Or.inr ?_
      rw [fa_lt, nI_toInt (by omega)] at h1
      rw [fa_lt, nI_toInt (by omega)] at h2
      refine ⟨p.toInt.toNat, by omega, by omega, ?_, rfl⟩
      rw [fa_eq, nI_toInt (by omega)]
      omega
theorem isWithin_yes {k a b : Nat} (h1 : a ≤ k) (h2 : k ≤ b) (hb : b < 2 ^ 30) : f_X7_isWithin (nI k) (nI a) (nI b) = some 1 := by
  unfold f_X7_isWithin
  rw [if_neg (nI_nlt h1 (by omega)), if_neg (nI_nlt h2 (by omega))]
theorem isWithin_no {k a b : Nat} (h : k < a ∨ b < k) (ha : a < 2 ^ 30) (hb : b < 2 ^ 30) (hk : k < 2 ^ 30) : f_X7_isWithin (nI k) (nI a) (nI b) = some 0 := by
  unfold f_X7_isWithin
  by_cases h1 : k < a
  · rw [if_pos (nI_lt h1 (by omega))]
  · rw [if_neg (nI_nlt (by omega) (by omega)), if_pos (nI_lt (by omega) (by omega))]
/-- a juggler's number, in both -/
theorem jug_or (p : Int32) : (f_X7_isJuggler p = some 0 ∧ f_X8_isJuggler p = some 0) ∨ (∃ q : Nat, q < 2 ∧ p = nI q ∧ f_X7_isJuggler p = some 1 ∧ f_X8_isJuggler p = some 1) := by
  have e : f_X8_isJuggler p = f_X7_isJuggler p := by
    unfold f_X8_isJuggler f_X7_isJuggler
    rw [in_within (lo := 0) (hi := 1) (by decide) (by decide)]
  rw [e]
  unfold f_X7_isJuggler
  rcases within_nI (p := p) 0 1 (by omega) (by omega) with h | ⟨k, h1, h2, h3, h4⟩
  · exact Or.inl ⟨by rw [show f_X7_isWithin p 0 1 = some 0 from h]; rfl, by rw [show f_X7_isWithin p 0 1 = some 0 from h]; rfl⟩
  · exact Or.inr ⟨k, by omega, h3, by rw [show f_X7_isWithin p 0 1 = some 1 from h4]; rfl, by rw [show f_X7_isWithin p 0 1 = some 1 from h4]; rfl⟩
theorem beat_or (p : Int32) : (f_X7_isBeat p = some 0 ∧ f_X8_isBeat p = some 0) ∨ (∃ q : Nat, q < 8 ∧ p = nI q ∧ f_X7_isBeat p = some 1 ∧ f_X8_isBeat p = some 1) := by
  have e : f_X8_isBeat p = f_X7_isBeat p := by
    unfold f_X8_isBeat f_X7_isBeat
    rw [in_within (lo := 0) (hi := 7) (by decide) (by decide)]
  rw [e]
  unfold f_X7_isBeat
  rcases within_nI (p := p) 0 7 (by omega) (by omega) with h | ⟨k, h1, h2, h3, h4⟩
  · exact Or.inl ⟨by rw [show f_X7_isWithin p 0 7 = some 0 from h]; rfl, by rw [show f_X7_isWithin p 0 7 = some 0 from h]; rfl⟩
  · exact Or.inr ⟨k, by omega, h3, by rw [show f_X7_isWithin p 0 7 = some 1 from h4]; rfl, by rw [show f_X7_isWithin p 0 7 = some 1 from h4]; rfl⟩
theorem valueAt_ok {n k : Nat} (f : Nat → Int32) (h : k < n) (hn : n < 2 ^ 31) : f_X7_valueAt n f (nI k) = some (f k) := by
  unfold f_X7_valueAt
  rw [if_neg (nI_pos (by omega)), if_neg (show ¬ Int32.ofNat n ≤ nI k from nI_ge h hn), if_neg (in_nI h hn), nI_clamp (by omega)]
theorem valueAt_out {n k : Nat} (f : Nat → Int32) (h : n ≤ k) (hk : k < 2 ^ 31) : f_X7_valueAt n f (nI k) = some 0 := by
  unfold f_X7_valueAt
  rw [if_neg (nI_pos (by omega)), if_pos (show Int32.ofNat n ≤ nI k from nI_le h hk)]
theorem setAt_ok {n k : Nat} (f : Nat → Int32) (x : Int32) (h : k < n) (hn : n < 2 ^ 31) : f_X7_setAt n f (nI k) x = some (upd f k x) := by
  unfold f_X7_setAt
  rw [if_neg (nI_pos (by omega)), if_neg (show ¬ Int32.ofNat n ≤ nI k from nI_ge h hn), if_neg (in_nI h hn), nI_clamp (by omega)]
theorem heightAt_ok {k : Nat} (f : Nat → Int32) (h : k < 8) : f_X1_heightAt f (nI k) = some (f k) := by
  unfold f_X1_heightAt
  rw [valueAt_ok f h (by omega)]
  rfl
theorem leftOver_ok : ∀ m, m < 9 → ∀ a, a < 64 → 0 < m → f_X7_leftOver (nI a) (nI m) = some (nI (a % m)) := by decide +kernel
