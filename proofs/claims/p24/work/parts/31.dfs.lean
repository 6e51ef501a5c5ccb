/-! every sound pattern of up to 6 throws passed the check -/
theorem bit_add {l M x : Nat} (hl : l < 8) (hM : M < 256) (hx : x < 8) (hb : M / 2 ^ l % 2 = 0) : (M + 2 ^ l) / 2 ^ x % 2 = 1 ↔ M / 2 ^ x % 2 = 1 ∨ x = l := by
  have h := m_mem l hl M hM x hx
  have e : stb M l = M + 2 ^ l := if_neg (by omega)
  rw [e] at h
  exact h
theorem bit_lt : ∀ n, n < 7 → ∀ M, M < 2 ^ n → ∀ l, l < n → M / 2 ^ l % 2 = 0 → M + 2 ^ l < 2 ^ n := by decide +kernel
def csN (h : Nat → Nat) : Nat → Nat → Nat
  | _, 0 => 0
  | k, r + 1 => h k * 8 ^ k + csN h (k + 1) r
theorem all8_at {p : Nat → Bool} (h : all8 p = true) : ∀ d, d < 8 → p d = true := by
  unfold all8 at h
  simp only [Bool.and_eq_true] at h
  obtain ⟨h0, h1, h2, h3, h4, h5, h6, h7⟩ := h
  intro d hd
  match d, hd with
  | 0, _ => exact h0
  | 1, _ => exact h1
  | 2, _ => exact h2
  | 3, _ => exact h3
  | 4, _ => exact h4
  | 5, _ => exact h5
  | 6, _ => exact h6
  | 7, _ => exact h7
theorem dfs_ok {n : Nat} {h : Nat → Nat} (n6 : n ≤ 6) (hh : ∀ k, k < n → h k < 8) (hinj : ∀ c d, c < d → d < n → LL h n c ≠ LL h n d) : ∀ (r k code M : Nat), k + r = n → dfs n r k code M = true → M < 2 ^ n → (∀ x, x < n → (M / 2 ^ x % 2 = 1 ↔ ∃ c, c < k ∧ LL h n c = x)) → good n (code + csN h k r) = true := by
  intro r
  induction r with
  | zero =>
    intro k code M h1 h2 h3 h4
    exact h2
  | succ r ih =>
    intro k code M h1 h2 h3 h4
    have h5 := all8_at h2 (h k) (hh k (by omega))
    rw [frc_eq, frc_eq, frc_eq, frc_eq] at h5
    have hl : (k + h k) % n < n := Nat.mod_lt _ (by omega)
    have hM : M < 64 := Nat.lt_of_lt_of_le h3 (by
      have : 2 ^ n ≤ 2 ^ 6 := Nat.pow_le_pow_right (by omega) n6
      omega)
    have hb : M / 2 ^ ((k + h k) % n) % 2 = 0 := by
      rcases mod2 (M / 2 ^ ((k + h k) % n)) with e | e
      · exact e
      · obtain ⟨c, c1, c2⟩ := (h4 _ hl).mp e
        exact absurd c2 (hinj c k c1 (by omega))
    rw [hb] at h5
    have h6 : dfs n r (k + 1) (code + h k * 8 ^ k) (M + 2 ^ ((k + h k) % n)) = true := h5
    have h7 := ih (k + 1) _ _ (by omega) h6 (bit_lt n (by omega) M h3 _ hl hb) (fun x hx => by
      rw [bit_add (by omega) (by omega) (by omega) hb, h4 x hx]
      constructor
      · rintro (⟨c, c1, c2⟩ | e)
        · exact ⟨c, by omega, c2⟩
        · exact ⟨k, by omega, e.symm⟩
      · rintro ⟨c, c1, c2⟩
        by_cases e : c = k
        · subst e; exact Or.inr c2.symm
        · exact Or.inl ⟨c, by omega, c2⟩)
    rw [Nat.add_assoc] at h7
    exact h7
theorem dfs6_all {h : Nat → Nat} (h0 : h 0 < 8) : dfs 6 5 1 (h 0) (2 ^ (h 0 % 6)) = true := by
  rcases (show h 0 = 0 ∨ h 0 = 1 ∨ h 0 = 2 ∨ h 0 = 3 ∨ h 0 = 4 ∨ h 0 = 5 ∨ h 0 = 6 ∨ h 0 = 7 by omega) with e | e | e | e | e | e | e | e
  · rw [e]; exact dfs6_0
  · rw [e]; exact dfs6_1
  · rw [e]; exact dfs6_2
  · rw [e]; exact dfs6_3
  · rw [e]; exact dfs6_4
  · rw [e]; exact dfs6_5
  · rw [e]; exact dfs6_6
  · rw [e]; exact dfs6_7
theorem bit_one : ∀ l, l < 6 → ∀ x, x < 6 → (2 ^ l / 2 ^ x % 2 = 1 ↔ x = l) := by decide +kernel
theorem all_good {n : Nat} {h : Nat → Nat} (n1 : 1 ≤ n) (n6 : n ≤ 6) (hh : ∀ k, k < n → h k < 8) (hinj : ∀ c d, c < d → d < n → LL h n c ≠ LL h n d) : good n (csN h 0 n) = true := by
  have z : ∀ x, x < n → (0 / 2 ^ x % 2 = 1 ↔ ∃ c, c < 0 ∧ LL h n c = x) := fun x hx => ⟨fun hm => by rw [Nat.zero_div] at hm; omega, fun ⟨c, hc, _⟩ => by omega⟩
  have gen : dfs n n 0 0 0 = true → good n (csN h 0 n) = true := fun hd => by
    have := dfs_ok n6 hh hinj n 0 0 0 (by omega) hd (Nat.two_pow_pos n) z
    rw [Nat.zero_add] at this
    exact this
  rcases (show n = 1 ∨ n = 2 ∨ n = 3 ∨ n = 4 ∨ n = 5 ∨ n = 6 by omega) with e | e | e | e | e | e
  · subst e; exact gen dfs1
  · subst e; exact gen dfs2
  · subst e; exact gen dfs3
  · subst e; exact gen dfs4
  · subst e; exact gen dfs5
  · subst e
    have h0 := hh 0 (by omega)
    have hl : h 0 % 6 < 6 := Nat.mod_lt _ (by omega)
    have h7 := dfs_ok n6 hh hinj 5 1 (h 0) (2 ^ (h 0 % 6)) (by omega) (dfs6_all h0) (Nat.pow_lt_pow_right (by omega) hl) (fun x hx => by
      rw [bit_one _ hl x hx]
      have e0 : LL h 6 0 = h 0 % 6 := by unfold LL; rw [Nat.zero_add]
      constructor
      · intro e; exact ⟨0, by omega, by rw [e0, e]⟩
      · rintro ⟨c, c1, c2⟩
        rw [show c = 0 by omega, e0] at c2
        exact c2.symm)
    have e1 : csN h 0 6 = h 0 + csN h 1 5 := by
      show h 0 * 8 ^ 0 + csN h 1 5 = _
      rw [Nat.pow_zero, Nat.mul_one]
    rw [e1]; exact h7
theorem csN_at {h : Nat → Nat} : ∀ (r k j : Nat), (∀ i, i < k + r → h i < 8) → j < r → csN h k r / 8 ^ (k + j) % 8 = h (k + j)
  | 0, k, j, _, hj => absurd hj (by omega)
  | r + 1, k, j, hh, hj => by
    have hk := hh k (by omega)
    obtain ⟨q, hq⟩ : ∃ q, csN h (k + 1) r = 8 ^ (k + 1) * q := by
      clear hj
      have aux : ∀ (r k : Nat), ∃ q, csN h k r = 8 ^ k * q := by
        intro r
        induction r with
        | zero => intro k; exact ⟨0, rfl⟩
        | succ r ih =>
          intro k
          obtain ⟨q, e⟩ := ih (k + 1)
          refine ⟨h k + 8 * q, ?_⟩
          show h k * 8 ^ k + csN h (k + 1) r = _
          rw [e, Nat.pow_succ, Nat.mul_add, Nat.mul_comm (h k), Nat.mul_assoc]
      exact aux r (k + 1)
    cases j with
    | zero =>
      show (h k * 8 ^ k + csN h (k + 1) r) / 8 ^ k % 8 = h k
      rw [hq, Nat.pow_succ, show h k * 8 ^ k + 8 ^ k * 8 * q = 8 ^ k * (h k + 8 * q) by rw [Nat.mul_add, Nat.mul_comm (h k), Nat.mul_assoc], Nat.mul_div_cancel_left _ (Nat.pow_pos (by omega))]
      omega
    | succ j =>
      have e := csN_at r (k + 1) j (fun i hi => hh i (by omega)) (by omega)
      show (h k * 8 ^ k + csN h (k + 1) r) / 8 ^ (k + (j + 1)) % 8 = h (k + (j + 1))
      rw [show k + (j + 1) = k + 1 + j by omega, ← e]
      congr 1
      rw [hq, show k + 1 + j = k + 1 + j from rfl, Nat.pow_add 8 (k + 1) j, ← Nat.div_div_eq_div_mul, ← Nat.div_div_eq_div_mul, Nat.mul_div_cancel_left _ (Nat.pow_pos (by omega))]
      congr 1
      rw [Nat.add_comm, Nat.mul_add_div (Nat.pow_pos (by omega)), Nat.div_eq_of_lt, Nat.add_zero]
      rw [Nat.pow_succ, Nat.mul_comm (8 ^ k)]
      exact Nat.mul_lt_mul_of_pos_right hk (Nat.pow_pos (by omega))
theorem dg_cs {h : Nat → Nat} {n k : Nat} (hh : ∀ i, i < n → h i < 8) (hk : k < n) : dg (csN h 0 n) k = h k := by
  have := csN_at n 0 k (fun i hi => hh i (by omega)) hk
  rw [Nat.zero_add] at this
  exact this
