/-! patterns: landings, soundness, orbits -/
abbrev mem (M x : Nat) : Prop := M / 2 ^ x % 2 = 1
def stb (M l : Nat) : Nat := if M / 2 ^ l % 2 = 1 then M else M + 2 ^ l
theorem m_or : ∀ l, l < 8 → ∀ M, M < 256 → nI M ||| ((1 : Int32) <<< (nI l &&& 31)) = nI (stb M l) ∧ pcN (stb M l) = (if M / 2 ^ l % 2 = 1 then pcN M else pcN M + 1) := by decide +kernel
theorem m_mem : ∀ l, l < 8 → ∀ M, M < 256 → ∀ x, x < 8 → (mem (stb M l) x ↔ mem M x ∨ x = l) := by decide +kernel
theorem m_lt : ∀ n, n < 9 → ∀ M, M < 2 ^ n → ∀ l, l < n → stb M l < 2 ^ n := by decide +kernel
theorem m_pc : ∀ n, n < 9 → ∀ M, M < 2 ^ n → pcN M ≤ n := by decide +kernel
theorem m_full : ∀ n, n < 9 → ∀ x, x < n → mem (2 ^ n - 1) x := by decide +kernel
theorem m_one : ∀ l, l < 8 → ∀ M, M < 256 → ((((nI M) >>> (nI l &&& 31)) &&& (1 : Int32)) = 0 ↔ ¬ mem M l) := by decide +kernel
theorem m_low : ∀ k, k < 8 → ∀ Y, Y < 256 → (Y % 2 ^ k = 0 ↔ ∀ x, x < k → ¬ mem Y x) := by decide +kernel
theorem m_256 {n M : Nat} (hn : n ≤ 8) (h : M < 2 ^ n) : M < 256 := Nat.lt_of_lt_of_le h (b_pow n (by omega))
def PH (hs : Nat → Int32) (h : Nat → Nat) (n : Nat) : Prop := ∀ k, k < n → h k < 8 ∧ hs k = nI (h k)
def LL (h : Nat → Nat) (n k : Nat) : Nat := (k + h k) % n
def itr (L : Nat → Nat) : Nat → Nat → Nat
  | 0, p => p
  | j + 1, p => L (itr L j p)
theorem itr_add (L : Nat → Nat) (a b p : Nat) : itr L (a + b) p = itr L a (itr L b p) := by
  induction a with
  | zero => rw [Nat.zero_add]; rfl
  | succ a ih => rw [Nat.succ_add]; show L _ = L _; rw [ih]
section PT
variable {a b : Nat → Int32} {h : Nat → Nat} {n : Nat}
theorem LL_lt (n1 : 1 ≤ n) (k : Nat) : LL h n k < n := Nat.mod_lt _ (by omega)
theorem heightAt3 (ha : PH a h n) (n1 : 1 ≤ n) (n8 : n ≤ 8) {j : Nat} (hj : j < 64) : f_X3_heightAt a (nI n) (nI j) = some (nI (h (j % n))) := by
  have := Nat.mod_lt j (show 0 < n by omega)
  unfold f_X3_heightAt
  rw [leftOver_ok n (by omega) j hj (by omega), Option.bind_some, valueAt_ok _ (by omega) (by omega), (ha _ this).2]
  rfl
theorem landing3 (ha : PH a h n) (n8 : n ≤ 8) {k : Nat} (hk : k < n) : f_X3_landing a (nI n) (nI k) = some (nI (LL h n k)) := by
  unfold f_X3_landing LL
  have := (ha k hk).1
  rw [heightAt3 ha (by omega) n8 (by omega), Option.bind_some, Nat.mod_eq_of_lt hk, nI_add, leftOver_ok n (by omega) _ (by omega) (by omega)]
  rfl
theorem lands8 (hb : PH b h n) (n8 : n ≤ 8) {k : Nat} (hk : k < n) : f_X8_lands b (nI n) (nI k) = some (nI (LL h n k)) := by
  unfold f_X8_lands LL
  have := (hb k hk).1
  rw [if_neg (in_nI (by omega) (by decide)), if_neg (nI_ne0 (by omega) (by omega)), nI_clamp (by omega), (hb k hk).2, nI_add, pk_rem (by omega) (by omega) (by omega)]
def SI (h : Nat → Nat) (n k M : Nat) : Prop := pcN M ≤ k ∧ (∀ x, x < 8 → (mem M x ↔ ∃ c, c < k ∧ LL h n c = x)) ∧ (pcN M = k → ∀ c d, c < d → d < k → LL h n c ≠ LL h n d)
theorem sound_run (ha : PH a h n) (hb : PH b h n) (n8 : n ≤ 8) : ∀ (r k M fuel fuel' : Nat), k + r = n → r < fuel → r < fuel' → M < 2 ^ n → SI h n k M →
    ∃ M', M' < 2 ^ n ∧ SI h n n M' ∧ f_X3_isSound_L4 a (nI n) fuel (nI M) (nI k) = some (if nI M' = nI (2 ^ n - 1) then 1 else 0) ∧ f_X8_isSound_L4 b (nI n) fuel' (nI M) (nI k) = some (if nI M' = nI (2 ^ n - 1) then 1 else 0) := by
  intro r
  induction r with
  | zero =>
    intro k M fuel fuel' h1 h2 h3 h4 h5
    obtain ⟨g, rfl⟩ : ∃ g, fuel = g + 1 := ⟨fuel - 1, by omega⟩
    obtain ⟨g', rfl⟩ : ∃ g, fuel' = g + 1 := ⟨fuel' - 1, by omega⟩
    obtain rfl : k = n := by omega
    refine ⟨M, h4, h5, ?_, ?_⟩
    · rw [f_X3_isSound_L4, if_pos (nI_le (Nat.le_refl _) (by omega)), (b_first k (by omega)).1]
      by_cases hc : nI M = nI (2 ^ k - 1)
      · rw [if_pos hc, if_pos hc]
      · rw [if_neg hc, if_neg hc]
    · rw [f_X8_isSound_L4, if_pos (nI_le (Nat.le_refl _) (by omega)), (b_first k (by omega)).1]
      by_cases hc : nI M = nI (2 ^ k - 1)
      · rw [if_pos hc, if_pos hc]
      · rw [if_neg hc, if_neg hc]
  | succ r ih =>
    intro k M fuel fuel' h1 h2 h3 h4 h5
    obtain ⟨g, rfl⟩ : ∃ g, fuel = g + 1 := ⟨fuel - 1, by omega⟩
    obtain ⟨g', rfl⟩ : ∃ g, fuel' = g + 1 := ⟨fuel' - 1, by omega⟩
    have hk : k < n := by omega
    have hl := LL_lt (h := h) (n := n) (by omega) k
    have hM := m_256 n8 h4
    obtain ⟨o1, o2⟩ := m_or (LL h n k) (by omega) M hM
    obtain ⟨s1, s2, s3⟩ := h5
    obtain ⟨M', z1, z2, z3, z4⟩ := ih (k + 1) (stb M (LL h n k)) g g' (by omega) (by omega) (by omega) (m_lt n (by omega) M h4 _ hl) (by
      refine ⟨?_, fun x hx => ?_, fun hp c d hc hd => ?_⟩
      · rw [o2]; split <;> omega
      · rw [m_mem _ (by omega) M hM x hx, s2 x hx]
        constructor
        · rintro (⟨c, c1, c2⟩ | rfl)
          · exact ⟨c, by omega, c2⟩
          · exact ⟨k, by omega, rfl⟩
        · rintro ⟨c, c1, c2⟩
          by_cases hck : c = k
          · subst hck; exact Or.inr c2.symm
          · exact Or.inl ⟨c, by omega, c2⟩
      · rw [o2] at hp
        by_cases hm : M / 2 ^ LL h n k % 2 = 1
        · rw [if_pos hm] at hp; omega
        · rw [if_neg hm] at hp
          by_cases hdk : d = k
          · subst hdk
            intro e
            exact hm ((s2 _ (by omega)).mpr ⟨c, hc, e⟩)
          · exact s3 (by omega) c d hc (by omega))
    refine ⟨M', z1, z2, ?_, ?_⟩
    · rw [f_X3_isSound_L4, if_neg (nI_ge hk (by omega)), landing3 ha n8 hk, Option.bind_some, o1, nI_1]
      exact z3
    · rw [f_X8_isSound_L4, if_neg (nI_ge hk (by omega)), lands8 hb n8 hk, Option.bind_some, o1, nI_1]
      exact z4
theorem sound_ok (ha : PH a h n) (hb : PH b h n) (n1 : 1 ≤ n) (n8 : n ≤ 8) : ∃ s : Int32, (s = 0 ∨ s = 1) ∧ f_X3_isSound a (nI n) = some s ∧ f_X8_isSound b (nI n) = some s ∧ (s = 1 → (∀ x, x < n → ∃ c, c < n ∧ LL h n c = x) ∧ ∀ c d, c < d → d < n → LL h n c ≠ LL h n d) := by
  have hz : 100 < zF := by decide
  obtain ⟨M', z1, ⟨s1, s2, s3⟩, z3, z4⟩ := sound_run ha hb n8 n 0 0 zF zF (by omega) (by omega) (by omega) (Nat.two_pow_pos n) ⟨by decide, fun x hx => ⟨fun hm => by unfold mem at hm; rw [Nat.zero_div] at hm; omega, fun ⟨c, hc, _⟩ => by omega⟩, fun _ c d _ hd => by omega⟩
  refine ⟨_, ?_, z3, z4, fun hs => ?_⟩
  · by_cases hc : nI M' = nI (2 ^ n - 1)
    · rw [if_pos hc]; exact Or.inr rfl
    · rw [if_neg hc]; exact Or.inl rfl
  · have hc : nI M' = nI (2 ^ n - 1) := by
      apply Classical.byContradiction
      intro hc
      rw [if_neg hc] at hs
      exact absurd hs (by decide)
    have hp := b_pow n (by omega)
    have hM := m_256 n8 z1
    have e : M' = 2 ^ n - 1 := (nI_eq (by omega) (by omega)).mp hc
    refine ⟨fun x hx => (s2 x (by omega)).mp (by rw [e]; exact m_full n (by omega) x hx), s3 (by rw [e]; exact (b_first n (by omega)).2.1)⟩
-- orbits
theorem itr_lt (n1 : 1 ≤ n) {p : Nat} (hp : p < n) : ∀ j, itr (LL h n) j p < n
  | 0 => hp
  | j + 1 => LL_lt n1 _
theorem orb_stay (ha : PH a h n) (n8 : n ≤ 8) {M : Nat} (hM : M < 256) (hc : ∀ x, x < n → mem M x → mem M (LL h n x)) : ∀ (r j pos fuel : Nat), j + r = n → r < fuel → pos < n → mem M pos → f_X3_orbitThrough_L17 a (nI n) fuel (nI M) (nI pos) (nI j) = some (nI M) := by
  intro r
  induction r with
  | zero =>
    intro j pos fuel h1 h2 h3 h4
    obtain ⟨g, rfl⟩ : ∃ g, fuel = g + 1 := ⟨fuel - 1, by omega⟩
    rw [f_X3_orbitThrough_L17, if_pos (nI_le (by omega) (by omega))]
  | succ r ih =>
    intro j pos fuel h1 h2 h3 h4
    obtain ⟨g, rfl⟩ : ∃ g, fuel = g + 1 := ⟨fuel - 1, by omega⟩
    have o1 := (m_or pos (by omega) M hM).1
    rw [show stb M pos = M from if_pos h4] at o1
    rw [f_X3_orbitThrough_L17, if_neg (nI_ge (by omega) (by omega)), landing3 ha n8 h3, Option.bind_some, o1, nI_1]
    exact ih (j + 1) _ g (by omega) (by omega) (LL_lt (by omega) _) (hc pos h3 h4)
theorem orb_run (ha : PH a h n) (hb : PH b h n) (n8 : n ≤ 8) {i : Nat} (hi : i < n) : ∀ (r j M fuel fuel' : Nat), j + r = n → r < fuel → r < fuel' → M < 2 ^ n → pcN M = j → (∀ x, x < 8 → (mem M x ↔ ∃ c, c < j ∧ itr (LL h n) c i = x)) →
    ∃ Y t, Y < 2 ^ n ∧ f_X3_orbitThrough_L17 a (nI n) fuel (nI M) (nI (itr (LL h n) j i)) (nI j) = some (nI Y) ∧ f_X8_orbitOf_L15 b (nI n) fuel' (nI M) (nI (itr (LL h n) j i)) = some (nI Y) ∧ (∀ x, x < 8 → (mem Y x ↔ ∃ c, c < t ∧ itr (LL h n) c i = x)) ∧ mem Y (itr (LL h n) t i) := by
  intro r
  induction r with
  | zero =>
    intro j M fuel fuel' h1 h2 h3 h4 h5 h6
    obtain ⟨g, rfl⟩ : ∃ g, fuel = g + 1 := ⟨fuel - 1, by omega⟩
    obtain ⟨g', rfl⟩ : ∃ g, fuel' = g + 1 := ⟨fuel' - 1, by omega⟩
    have hpos := itr_lt (h := h) (by omega) hi j
    have hM := m_256 n8 h4
    have hm : mem M (itr (LL h n) j i) := by
      apply Classical.byContradiction
      intro hm
      have o2 := (m_or (itr (LL h n) j i) (by omega) M hM).2
      rw [if_neg hm] at o2
      have := m_pc n (by omega) _ (m_lt n (by omega) M h4 _ hpos)
      omega
    refine ⟨M, j, h4, ?_, ?_, h6, hm⟩
    · rw [f_X3_orbitThrough_L17, if_pos (nI_le (by omega) (by omega))]
    · rw [f_X8_orbitOf_L15, if_neg (fun e => (m_one _ (by omega) M hM).mp e hm)]
  | succ r ih =>
    intro j M fuel fuel' h1 h2 h3 h4 h5 h6
    have hpos := itr_lt (h := h) (by omega) hi j
    have hM := m_256 n8 h4
    by_cases hm : mem M (itr (LL h n) j i)
    · refine ⟨M, j, h4, ?_, ?_, h6, hm⟩
      · exact orb_stay ha n8 hM (fun x hx hmx => by
          obtain ⟨c, c1, rfl⟩ := (h6 x (by omega)).mp hmx
          by_cases hcj : c + 1 = j
          · subst hcj; exact hm
          · exact (h6 _ (by have := itr_lt (h := h) (by omega) hi (c + 1); exact Nat.lt_of_lt_of_le this n8)).mpr ⟨c + 1, by omega, rfl⟩) (r + 1) j _ fuel (by omega) (by omega) hpos hm
      · obtain ⟨g', rfl⟩ : ∃ g, fuel' = g + 1 := ⟨fuel' - 1, by omega⟩
        rw [f_X8_orbitOf_L15, if_neg (fun e => (m_one _ (by omega) M hM).mp e hm)]
    · obtain ⟨g, rfl⟩ : ∃ g, fuel = g + 1 := ⟨fuel - 1, by omega⟩
      obtain ⟨g', rfl⟩ : ∃ g, fuel' = g + 1 := ⟨fuel' - 1, by omega⟩
      obtain ⟨o1, o2⟩ := m_or _ (show itr (LL h n) j i < 8 by omega) M hM
      rw [if_neg hm] at o2
      obtain ⟨Y, t, z1, z2, z3, z4, z5⟩ := ih (j + 1) (stb M (itr (LL h n) j i)) g g' (by omega) (by omega) (by omega) (m_lt n (by omega) M h4 _ hpos) (by omega) (fun x hx => by
        rw [m_mem _ (by omega) M hM x hx, h6 x hx]
        constructor
        · rintro (⟨c, c1, c2⟩ | rfl)
          · exact ⟨c, by omega, c2⟩
          · exact ⟨j, by omega, rfl⟩
        · rintro ⟨c, c1, c2⟩
          by_cases hck : c = j
          · subst hck; exact Or.inr c2.symm
          · exact Or.inl ⟨c, by omega, c2⟩)
      refine ⟨Y, t, z1, ?_, ?_, z4, z5⟩
      · rw [f_X3_orbitThrough_L17, if_neg (nI_ge (by omega) (by omega)), landing3 ha n8 hpos, Option.bind_some, o1, nI_1]
        exact z2
      · rw [f_X8_orbitOf_L15, if_pos ((m_one _ (by omega) M hM).mpr hm), lands8 hb n8 hpos, Option.bind_some, o1]
        exact z3
/-- the orbit through i, in both -/
theorem orb_ok (ha : PH a h n) (hb : PH b h n) (n8 : n ≤ 8) {i : Nat} (hi : i < n) : ∃ Y, Y < 256 ∧ f_X3_orbitThrough a (nI n) (nI i) = some (nI Y) ∧ f_X8_orbitOf b (nI n) (nI i) = some (nI Y) ∧ (h i = 0 → Y = 0) ∧ (h i ≠ 0 → (∀ x, x < 8 → (mem Y x ↔ ∃ c, itr (LL h n) c i = x)) ∧ ∃ c t, c < t ∧ itr (LL h n) c i = itr (LL h n) t i) := by
  have hz : 100 < zF := by decide
  unfold f_X3_orbitThrough f_X8_orbitOf
  have hh := hb i hi
  rw [heightAt3 ha (by omega) n8 (by omega), Option.bind_some, Nat.mod_eq_of_lt hi, if_neg (in_nI (by omega) (by decide)), nI_clamp (by omega), hh.2]
  by_cases h0 : h i = 0
  · rw [h0, if_pos (show nI 0 = 0 from rfl), if_pos (show nI 0 = 0 from rfl)]
    exact ⟨0, by omega, rfl, rfl, fun _ => rfl, fun hx => absurd rfl hx⟩
  · rw [if_neg (nI_ne0 (by omega) (by omega)), if_neg (nI_ne0 (by omega) (by omega))]
    obtain ⟨Y, t, z1, z2, z3, z4, z5⟩ := orb_run ha hb n8 hi n 0 0 zF zF (by omega) (by omega) (by omega) (Nat.two_pow_pos n) (by decide) (fun x hx => ⟨fun hm => by unfold mem at hm; rw [Nat.zero_div] at hm; omega, fun ⟨c, hc, _⟩ => by omega⟩)
    have hlt : ∀ c, itr (LL h n) c i < 8 := fun c => Nat.lt_of_lt_of_le (itr_lt (by omega) hi c) n8
    refine ⟨Y, m_256 n8 z1, z2, z3, fun hx => absurd hx h0, fun _ => ⟨fun x hx => ⟨fun hm => ?_, ?_⟩, ?_⟩⟩
    · obtain ⟨c, c1, c2⟩ := (z4 x hx).mp hm
      exact ⟨c, c2⟩
    · rintro ⟨c, rfl⟩
      induction c with
      | zero =>
        obtain ⟨c, c1, -⟩ := (z4 _ (hlt t)).mp z5
        exact (z4 _ (hlt 0)).mpr ⟨0, by omega, rfl⟩
      | succ c ih =>
        obtain ⟨d, d1, d2⟩ := (z4 _ (hlt c)).mp (ih (hlt c))
        show mem Y (LL h n (itr (LL h n) c i))
        rw [← d2]
        by_cases hd : d + 1 = t
        · subst hd; exact z5
        · exact (z4 _ (hlt (d + 1))).mpr ⟨d + 1, by omega, rfl⟩
    · obtain ⟨c, c1, c2⟩ := (z4 _ (hlt t)).mp z5
      exact ⟨c, t, c1, c2⟩
theorem per_ok (n1 : 1 ≤ n) (hinj : ∀ c d, c < d → d < n → LL h n c ≠ LL h n d) {i : Nat} (hi : i < n) : ∀ c t, c < t → itr (LL h n) c i = itr (LL h n) t i → ∃ d, 0 < d ∧ itr (LL h n) d i = i := by
  intro c
  induction c with
  | zero => intro t h1 h2; exact ⟨t, h1, h2.symm⟩
  | succ c ih =>
    intro t h1 h2
    obtain ⟨t, rfl⟩ : ∃ k, t = k + 1 := ⟨t - 1, by omega⟩
    refine ih t (by omega) ?_
    have e : LL h n (itr (LL h n) c i) = LL h n (itr (LL h n) t i) := h2
    have l1 := itr_lt (h := h) n1 hi c
    have l2 := itr_lt (h := h) n1 hi t
    rcases Nat.lt_trichotomy (itr (LL h n) c i) (itr (LL h n) t i) with hx | hx | hx
    · exact absurd e (hinj _ _ hx l2)
    · exact hx
    · exact absurd e.symm (hinj _ _ hx l1)
theorem sym_ok {L : Nat → Nat} {i d : Nat} (hd : 0 < d) (he : itr L d i = i) (c : Nat) : ∃ e, itr L e (itr L c i) = i := by
  have hm : ∀ m, itr L (d * m) i = i := by
    intro m
    induction m with
    | zero => rfl
    | succ m ih => rw [Nat.mul_succ, itr_add, he, ih]
  have hle : c ≤ d * c := Nat.le_mul_of_pos_left c hd
  exact ⟨d * c - c, by rw [← itr_add, Nat.sub_add_cancel hle]; exact hm c⟩
end PT
