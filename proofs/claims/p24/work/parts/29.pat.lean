/-! patterns: what a sound one tells, by numbers -/
theorem b_pow : ∀ m, m < 9 → 2 ^ m ≤ 256 := by decide +kernel
abbrev mem (M x : Nat) : Prop := M / 2 ^ x % 2 = 1
def stb (M l : Nat) : Nat := if M / 2 ^ l % 2 = 1 then M else M + 2 ^ l
theorem m_orS : ∀ l, l < 8 → ∀ M, M < 256 → nI M ||| ((1 : Int32) <<< (nI l &&& 31)) = nI (stb M l) ∧ pcN (stb M l) = (if M / 2 ^ l % 2 = 1 then pcN M else pcN M + 1) := by decide +kernel
theorem m_mem : ∀ l, l < 8 → ∀ M, M < 256 → ∀ x, x < 8 → (mem (stb M l) x ↔ mem M x ∨ x = l) := by decide +kernel
theorem m_lt : ∀ n, n < 9 → ∀ M, M < 2 ^ n → ∀ l, l < n → stb M l < 2 ^ n := by decide +kernel
theorem m_256 {n M : Nat} (hn : n ≤ 8) (h : M < 2 ^ n) : M < 256 := Nat.lt_of_lt_of_le h (b_pow n (by omega))
def PH (hs : Nat → Int32) (h : Nat → Nat) (n : Nat) : Prop := ∀ k, k < n → h k < 8 ∧ hs k = nI (h k)
def LL (h : Nat → Nat) (n k : Nat) : Nat := (k + h k) % n
section PT
variable {a b : Nat → Int32} {h : Nat → Nat} {n : Nat}
theorem LL_lt (n1 : 1 ≤ n) (k : Nat) : LL h n k < n := Nat.mod_lt _ (by omega)
theorem heightAt3 (ha : PH a h n) (n1 : 1 ≤ n) (n8 : n ≤ 8) {j : Nat} (hj : j < 64) : f_X3_heightAt a (nI n) (nI j) = some (nI (h (j % n))) := by
  have := Nat.mod_lt j (show 0 < n by omega)
  unfold f_X3_heightAt
  rw [leftOver_ok n (by omega) j hj (by omega), Option.bind_some, valueAt_ok _ (by omega) (by omega), (ha _ this).2]
  rfl
theorem landing3 (ha : PH a h n) (n8 : n ≤ 8) {k : Nat} (hk : k < n) : f_X3_landing a (nI n) (nI k) = some (nI (LL h n k)) := by
  unfold f_X3_landing LL
  have := (ha k hk).1
  rw [heightAt3 ha (by omega) n8 (by omega), Option.bind_some, Nat.mod_eq_of_lt hk, nI_add, leftOver_ok n (by omega) _ (by omega) (by omega)]
  rfl
def SI (h : Nat → Nat) (n k M : Nat) : Prop := pcN M ≤ k ∧ (∀ x, x < 8 → (mem M x ↔ ∃ c, c < k ∧ LL h n c = x)) ∧ (pcN M = k → ∀ c d, c < d → d < k → LL h n c ≠ LL h n d)
def bb (h : Nat → Nat) (n x : Nat) : Int32 := if h ((8 * n - x) % n) < x then 0 else (1 : Int32) <<< ((nI (h ((8 * n - x) % n)) - nI x) &&& 31)
theorem neg_left : ∀ n, n < 9 → ∀ x, x < 8 → 0 < n → f_X7_leftOver (0 - nI x) (nI n) = some (nI ((8 * n - x) % n)) := by decide +kernel
theorem neg_add : ∀ x, x < 8 → ∀ k, k < 8 → ((0 - nI x + nI k < 0 ↔ k < x) ∧ 0 - nI x + nI k = nI k - nI x) := by decide +kernel
theorem neg_suc : ∀ x, x < 8 → 0 - nI (x + 1) + 1 = 0 - nI x ∧ ¬ (0 : Int32) ≤ 0 - nI (x + 1) := by decide +kernel
theorem start_c (ha : PH a h n) (n1 : 1 ≤ n) (n8 : n ≤ 8) {x : Nat} (hx : x < 7) (g : Nat) (X : Int32) : f_X3_startState_L5 a (nI n) (g + 1) X (0 - nI (x + 1)) = f_X3_startState_L5 a (nI n) g (X ||| bb h n (x + 1)) (0 - nI x) := by
  have hm := Nat.mod_lt (8 * n - (x + 1)) (show 0 < n by omega)
  have hh := ha _ hm
  have e1 : f_X3_heightAt a (nI n) (0 - nI (x + 1)) = some (nI (h ((8 * n - (x + 1)) % n))) := by
    unfold f_X3_heightAt
    rw [neg_left n (by omega) (x + 1) (by omega) (by omega), Option.bind_some, valueAt_ok _ (by omega) (by omega), hh.2]
    rfl
  obtain ⟨n1', n2'⟩ := neg_add (x + 1) (by omega) _ hh.1
  rw [f_X3_startState_L5, if_neg (neg_suc x (by omega)).2, e1, Option.bind_some, (neg_suc x (by omega)).1]
  unfold bb
  by_cases hc : h ((8 * n - (x + 1)) % n) < x + 1
  · rw [if_pos (n1'.mpr hc), if_pos hc, Int32.or_zero]
  · rw [if_neg (fun e => hc (n1'.mp e)), if_neg hc, n2']
/-- the landed places -/
def sdN (h : Nat → Nat) (n : Nat) : Nat → Nat → Nat → Nat
  | 0, _, M => M
  | r + 1, k, M => sdN h n r (k + 1) (stb M (LL h n k))
theorem sd_run (ha : PH a h n) (n8 : n ≤ 8) : ∀ (r k M fuel : Nat), k + r = n → r < fuel → M < 2 ^ n → f_X3_isSound_L4 a (nI n) fuel (nI M) (nI k) = some (if sdN h n r k M = 2 ^ n - 1 then 1 else 0) := by
  intro r
  induction r with
  | zero =>
    intro k M fuel h1 h2 h4
    obtain ⟨g, rfl⟩ : ∃ g, fuel = g + 1 := ⟨fuel - 1, by omega⟩
    obtain rfl : k = n := by omega
    have hM := m_256 n8 h4
    have h2p := b_pow k (by omega)
    rw [f_X3_isSound_L4, if_pos (nI_le (Nat.le_refl _) (by omega)), (b_first k (by omega)).1]
    show _ = some (if M = 2 ^ k - 1 then 1 else 0)
    by_cases hc : M = 2 ^ k - 1
    · rw [if_pos (by rw [hc]), if_pos hc]
    · rw [if_neg (fun e => hc ((nI_eq (by omega) (by omega)).mp e)), if_neg hc]
  | succ r ih =>
    intro k M fuel h1 h2 h4
    obtain ⟨g, rfl⟩ : ∃ g, fuel = g + 1 := ⟨fuel - 1, by omega⟩
    have hk : k < n := by omega
    have hl := LL_lt (h := h) (n := n) (by omega) k
    have hM := m_256 n8 h4
    rw [f_X3_isSound_L4, if_neg (nI_ge hk (by omega)), landing3 ha n8 hk, Option.bind_some, (m_orS (LL h n k) (by omega) M hM).1, nI_1]
    exact ih (k + 1) _ g (by omega) (by omega) (m_lt n (by omega) M h4 _ hl)
theorem sd_ok (ha : PH a h n) (n8 : n ≤ 8) : f_X3_isSound a (nI n) = some (if sdN h n n 0 0 = 2 ^ n - 1 then 1 else 0) := sd_run ha n8 n 0 0 zF (by omega) (by unfold zF; omega) (Nat.two_pow_pos n)
theorem sd_si (n8 : n ≤ 8) : ∀ (r k M : Nat), k + r = n → M < 2 ^ n → SI h n k M → sdN h n r k M < 2 ^ n ∧ SI h n n (sdN h n r k M) := by
  intro r
  induction r with
  | zero =>
    intro k M h1 h4 h5
    obtain rfl : k = n := by omega
    exact ⟨h4, h5⟩
  | succ r ih =>
    intro k M h1 h4 h5
    have hk : k < n := by omega
    have hl := LL_lt (h := h) (n := n) (by omega) k
    have hM := m_256 n8 h4
    obtain ⟨o1, o2⟩ := m_orS (LL h n k) (by omega) M hM
    obtain ⟨s1, s2, s3⟩ := h5
    exact ih (k + 1) (stb M (LL h n k)) (by omega) (m_lt n (by omega) M h4 _ hl) (by
      refine ⟨?_, fun x hx => ?_, fun hp c d hc hd => ?_⟩
      · rw [o2]; split <;> omega
      · rw [m_mem _ (by omega) M hM x hx, s2 x hx]
        constructor
        · rintro (⟨c, c1, c2⟩ | rfl)
          · exact ⟨c, by omega, c2⟩
          · exact ⟨k, by omega, rfl⟩
        · rintro ⟨c, c1, c2⟩
          by_cases hck : c = k
          · subst hck; exact Or.inr c2.symm
          · exact Or.inl ⟨c, by omega, c2⟩
      · rw [o2] at hp
        by_cases hm : M / 2 ^ LL h n k % 2 = 1
        · rw [if_pos hm] at hp; omega
        · rw [if_neg hm] at hp
          by_cases hdk : d = k
          · subst hdk
            intro e
            exact hm ((s2 _ (by omega)).mpr ⟨c, hc, e⟩)
          · exact s3 (by omega) c d hc (by omega))
theorem sd_inj (n8 : n ≤ 8) (hs : sdN h n n 0 0 = 2 ^ n - 1) : ∀ c d, c < d → d < n → LL h n c ≠ LL h n d := by
  obtain ⟨-, -, -, h3⟩ := sd_si (h := h) n8 n 0 0 (by omega) (Nat.two_pow_pos n) ⟨by decide, fun x hx => ⟨fun hm => by unfold mem at hm; rw [Nat.zero_div] at hm; omega, fun ⟨c, hc, _⟩ => by omega⟩, fun _ c d _ hd => by omega⟩
  rw [hs] at h3
  exact h3 (b_first n (by omega)).2.1
/-- sums -/
def smN (h : Nat → Nat) : Nat → Nat
  | 0 => 0
  | n + 1 => smN h n + h n
theorem smN_le (hh : ∀ k, k < n → h k < 8) : ∀ m, m ≤ n → smN h m ≤ 7 * m
  | 0, _ => Nat.le_refl _
  | m + 1, hm => by
    have h1 := smN_le hh m (by omega)
    have h2 := hh m (by omega)
    show smN h m + h m ≤ _
    omega
theorem clubs_run (ha : PH a h n) (n1 : 1 ≤ n) (n8 : n ≤ 8) : ∀ (r k fuel : Nat), k + r = n → r < fuel → f_X3_clubs_L4 a (nI n) fuel (nI (smN h k)) (nI k) = some (nI (smN h n / n)) := by
  intro r
  induction r with
  | zero =>
    intro k fuel h1 h2
    obtain ⟨g, rfl⟩ : ∃ g, fuel = g + 1 := ⟨fuel - 1, by omega⟩
    obtain rfl : k = n := by omega
    have hl := smN_le (fun k hk => (ha k hk).1) k (Nat.le_refl _)
    rw [f_X3_clubs_L4, if_pos (nI_le (Nat.le_refl _) (by omega)), if_neg (nI_nle (by omega) (by omega)), if_neg (nI_ne0 (by omega) (by omega)), pk_div (by omega) (by omega) (by omega)]
  | succ r ih =>
    intro k fuel h1 h2
    obtain ⟨g, rfl⟩ : ∃ g, fuel = g + 1 := ⟨fuel - 1, by omega⟩
    rw [f_X3_clubs_L4, if_neg (nI_ge (by omega) (by omega)), heightAt3 ha n1 n8 (by omega), Option.bind_some, Nat.mod_eq_of_lt (show k < n by omega), nI_add, nI_1]
    exact ih (k + 1) g (by omega) (by omega)
theorem clubs3 (ha : PH a h n) (n1 : 1 ≤ n) (n8 : n ≤ 8) : f_X3_clubs a (nI n) = some (nI (smN h n / n)) := clubs_run ha n1 n8 n 0 zF (by omega) (by unfold zF; omega)
/-- the start -/
def bbN (h : Nat → Nat) (n x : Nat) : Nat := if h ((8 * n - x) % n) < x then 0 else 2 ^ (h ((8 * n - x) % n) - x)
def stN (h : Nat → Nat) (n : Nat) : Nat := 0 ||| bbN h n 7 ||| bbN h n 6 ||| bbN h n 5 ||| bbN h n 4 ||| bbN h n 3 ||| bbN h n 2 ||| bbN h n 1
theorem one_sh : ∀ t, t < 8 → (1 : Int32) <<< (nI t &&& 31) = nI (2 ^ t) := by decide +kernel
theorem bb_ok (ha : PH a h n) (n1 : 1 ≤ n) (x : Nat) : bb h n x = nI (bbN h n x) := by
  have hm := Nat.mod_lt (8 * n - x) (show 0 < n by omega)
  have hh := (ha _ hm).1
  unfold bb bbN
  by_cases hc : h ((8 * n - x) % n) < x
  · rw [if_pos hc, if_pos hc]; rfl
  · rw [if_neg hc, if_neg hc, pk_sub (by omega), one_sh _ (by omega)]
theorem start3 (ha : PH a h n) (n1 : 1 ≤ n) (n8 : n ≤ 8) : f_X3_startState a (nI n) = some (nI (stN h n)) := by
  obtain ⟨g, hg⟩ : ∃ g, zF = g + 1 + 1 + 1 + 1 + 1 + 1 + 1 + 1 := ⟨zF - 8, by decide⟩
  unfold f_X3_startState
  rw [hg, show (-7 : Int32) = 0 - nI (6 + 1) by decide, start_c ha n1 n8 (by omega), show (0 : Int32) - nI 6 = 0 - nI (5 + 1) from rfl, start_c ha n1 n8 (by omega), show (0 : Int32) - nI 5 = 0 - nI (4 + 1) from rfl, start_c ha n1 n8 (by omega), show (0 : Int32) - nI 4 = 0 - nI (3 + 1) from rfl, start_c ha n1 n8 (by omega), show (0 : Int32) - nI 3 = 0 - nI (2 + 1) from rfl, start_c ha n1 n8 (by omega), show (0 : Int32) - nI 2 = 0 - nI (1 + 1) from rfl, start_c ha n1 n8 (by omega), show (0 : Int32) - nI 1 = 0 - nI (0 + 1) from rfl, start_c ha n1 n8 (by omega), f_X3_startState_L5, if_pos (by decide)]
  simp only [bb_ok ha n1, show (0 : Int32) = nI 0 from rfl, fa_or]
  rfl
/-- orbits -/
def orN (h : Nat → Nat) (n : Nat) : Nat → Nat → Nat → Nat
  | 0, _, M => M
  | r + 1, p, M => orN h n r (LL h n p) (M ||| 2 ^ p)
theorem orb_run (ha : PH a h n) (n8 : n ≤ 8) : ∀ (r j M p fuel : Nat), j + r = n → r < fuel → p < n → M < 256 → f_X3_orbitThrough_L17 a (nI n) fuel (nI M) (nI p) (nI j) = some (nI (orN h n r p M)) ∧ orN h n r p M < 256 := by
  intro r
  induction r with
  | zero =>
    intro j M p fuel h1 h2 h3 h4
    obtain ⟨g, rfl⟩ : ∃ g, fuel = g + 1 := ⟨fuel - 1, by omega⟩
    obtain rfl : j = n := by omega
    rw [f_X3_orbitThrough_L17, if_pos (nI_le (Nat.le_refl _) (by omega))]
    exact ⟨rfl, h4⟩
  | succ r ih =>
    intro j M p fuel h1 h2 h3 h4
    obtain ⟨g, rfl⟩ : ∃ g, fuel = g + 1 := ⟨fuel - 1, by omega⟩
    obtain ⟨o1, o2⟩ := m_or p (by omega) M h4
    rw [f_X3_orbitThrough_L17, if_neg (nI_ge (by omega) (by omega)), landing3 ha n8 h3, Option.bind_some, o1, nI_1]
    exact ih (j + 1) _ _ g (by omega) (by omega) (LL_lt (by omega) p) o2
def orbN (h : Nat → Nat) (n p : Nat) : Nat := if h p = 0 then 0 else orN h n n p 0
theorem orb3 (ha : PH a h n) (n8 : n ≤ 8) {p : Nat} (hp : p < n) : f_X3_orbitThrough a (nI n) (nI p) = some (nI (orbN h n p)) ∧ orbN h n p < 256 := by
  have hh := (ha p hp).1
  unfold f_X3_orbitThrough orbN
  rw [heightAt3 ha (by omega) n8 (by omega), Option.bind_some, Nat.mod_eq_of_lt hp]
  by_cases h0 : h p = 0
  · rw [if_pos (by rw [h0]; rfl), if_pos h0]; exact ⟨rfl, by omega⟩
  · rw [if_neg (nI_ne0 (by omega) (by omega)), if_neg h0]
    exact orb_run ha n8 n 0 0 p zF (by omega) (by unfold zF; omega) hp (by omega)
def osN (h : Nat → Nat) (n : Nat) : Nat → Nat → Nat → Nat → Nat
  | 0, _, c, _ => c
  | r + 1, k, c, U => osN h n r (k + 1) (if orbN h n k = 0 then c else if U / 2 ^ k % 2 = 0 then c + 1 else c) (U ||| orbN h n k)
theorem os_run (ha : PH a h n) (n8 : n ≤ 8) : ∀ (r k c U fuel : Nat), k + r = n → r < fuel → U < 256 → f_X3_orbits_L6 a (nI n) fuel (nI c) (nI U) (nI k) = some (nI (osN h n r k c U)) := by
  intro r
  induction r with
  | zero =>
    intro k c U fuel h1 h2 h3
    obtain ⟨g, rfl⟩ : ∃ g, fuel = g + 1 := ⟨fuel - 1, by omega⟩
    obtain rfl : k = n := by omega
    rw [f_X3_orbits_L6, if_pos (nI_le (Nat.le_refl _) (by omega))]
    rfl
  | succ r ih =>
    intro k c U fuel h1 h2 h3
    obtain ⟨g, rfl⟩ : ∃ g, fuel = g + 1 := ⟨fuel - 1, by omega⟩
    obtain ⟨o1, o2⟩ := orb3 ha n8 (show k < n by omega)
    have hU : U ||| orbN h n k < 256 := Nat.or_lt_two_pow (n := 8) h3 o2
    rw [f_X3_orbits_L6, if_neg (nI_ge (by omega) (by omega)), o1, Option.bind_some, fa_or, nI_1]
    show _ = some (nI (osN h n r (k + 1) (if orbN h n k = 0 then c else if U / 2 ^ k % 2 = 0 then c + 1 else c) (U ||| orbN h n k)))
    by_cases y0 : orbN h n k = 0
    · rw [if_pos (show nI (orbN h n k) = 0 by rw [y0]; rfl), if_pos y0]
      exact ih (k + 1) c _ g (by omega) (by omega) hU
    · rw [if_neg (nI_ne0 (by omega) (by omega)), if_neg y0, b_has k (by omega) U h3, Option.bind_some]
      by_cases u0 : U / 2 ^ k % 2 = 0
      · rw [if_pos (by rw [u0]; rfl), if_pos u0, nI_1]
        exact ih (k + 1) (c + 1) _ g (by omega) (by omega) hU
      · rw [if_neg (nI_ne0 (by omega) (by omega)), if_neg u0]
        exact ih (k + 1) c _ g (by omega) (by omega) hU
theorem orbits3 (ha : PH a h n) (n8 : n ≤ 8) : f_X3_orbits a (nI n) = some (nI (osN h n n 0 0 0)) := os_run ha n8 n 0 0 0 zF (by omega) (by unfold zF; omega) (by omega)
/-- the period -/
def caN (h : Nat → Nat) (n d : Nat) : Nat → Nat → Bool
  | 0, _ => true
  | r + 1, k => Nat.beq (h k) (h ((k + d) % n)) && caN h n d r (k + 1)
theorem ca_run (ha : PH a h n) (n1 : 1 ≤ n) (n8 : n ≤ 8) {d : Nat} (hd : d < 8) : ∀ (r k fuel : Nat), k + r = n → r < fuel → f_X3_comesAgainBehind_L2 a (nI n) (nI d) fuel (nI k) = some (if caN h n d r k then 1 else 0) := by
  intro r
  induction r with
  | zero =>
    intro k fuel h1 h2
    obtain ⟨g, rfl⟩ : ∃ g, fuel = g + 1 := ⟨fuel - 1, by omega⟩
    obtain rfl : k = n := by omega
    rw [f_X3_comesAgainBehind_L2, if_pos (nI_le (Nat.le_refl _) (by omega))]
    rfl
  | succ r ih =>
    intro k fuel h1 h2
    obtain ⟨g, rfl⟩ : ∃ g, fuel = g + 1 := ⟨fuel - 1, by omega⟩
    have q1 := (ha k (by omega)).1
    have q2 := (ha _ (Nat.mod_lt (k + d) (show 0 < n by omega))).1
    rw [f_X3_comesAgainBehind_L2, if_neg (nI_ge (by omega) (by omega)), heightAt3 ha n1 n8 (by omega), Option.bind_some, nI_add, heightAt3 ha n1 n8 (by omega), Option.bind_some, Nat.mod_eq_of_lt (show k < n by omega), nI_1]
    show _ = some (if (Nat.beq (h k) (h ((k + d) % n)) && caN h n d r (k + 1)) = true then 1 else 0)
    by_cases e : h k = h ((k + d) % n)
    · rw [if_pos (by rw [e]), ih (k + 1) g (by omega) (by omega), show Nat.beq (h k) (h ((k + d) % n)) = true from by rw [e]; exact Nat.beq_refl _, Bool.true_and]
    · rw [if_neg (fun x => e ((nI_eq (by omega) (by omega)).mp x)), if_neg (fun x => e (Nat.eq_of_beq_eq_true (Bool.and_eq_true_iff.mp x).1))]
def peN (h : Nat → Nat) (n : Nat) : Nat → Nat → Nat
  | 0, _ => n
  | r + 1, d => if caN h n d n 0 then d else peN h n r (d + 1)
theorem pe_run (ha : PH a h n) (n1 : 1 ≤ n) (n8 : n ≤ 8) : ∀ (r d fuel : Nat), d + r = n → r < fuel → f_X3_period_L2 a (nI n) fuel (nI d) = some (nI (peN h n r d)) := by
  intro r
  induction r with
  | zero =>
    intro d fuel h1 h2
    obtain ⟨g, rfl⟩ : ∃ g, fuel = g + 1 := ⟨fuel - 1, by omega⟩
    obtain rfl : d = n := by omega
    rw [f_X3_period_L2, if_pos (nI_le (Nat.le_refl _) (by omega))]
    rfl
  | succ r ih =>
    intro d fuel h1 h2
    obtain ⟨g, rfl⟩ : ∃ g, fuel = g + 1 := ⟨fuel - 1, by omega⟩
    rw [f_X3_period_L2, if_neg (nI_ge (by omega) (by omega)), show f_X3_comesAgainBehind a (nI n) (nI d) = some (if caN h n d n 0 then 1 else 0) from ca_run ha n1 n8 (by omega) n 0 zF (by omega) (by unfold zF; omega), Option.bind_some]
    show _ = some (nI (if caN h n d n 0 then d else peN h n r (d + 1)))
    by_cases e : caN h n d n 0 = true
    · rw [if_pos e, if_neg h10, if_pos e]
    · rw [if_neg e, if_pos rfl, if_neg e, nI_1]
      exact ih (d + 1) g (by omega) (by omega)
theorem period3 (ha : PH a h n) (n1 : 1 ≤ n) (n8 : n ≤ 8) : f_X3_period a (nI n) = some (nI (peN h n (n - 1) 1)) := pe_run ha n1 n8 (n - 1) 1 zF (by omega) (by unfold zF; omega)
/-- the way back -/
def bkN (h : Nat → Nat) (n p : Nat) : Nat → Nat → Nat
  | 0, _ => 0
  | r + 1, k => if n - 1 - LL h n k = p then h k else bkN h n p r (k + 1)
theorem bk_run (ha : PH a h n) (n1 : 1 ≤ n) (n8 : n ≤ 8) {p : Nat} (hp : p < n) : ∀ (r k fuel : Nat), k + r = n → r < fuel → f_X3_heightTurnedBack_L2 a (nI n) (nI p) fuel (nI k) = some (nI (bkN h n p r k)) := by
  intro r
  induction r with
  | zero =>
    intro k fuel h1 h2
    obtain ⟨g, rfl⟩ : ∃ g, fuel = g + 1 := ⟨fuel - 1, by omega⟩
    obtain rfl : k = n := by omega
    rw [f_X3_heightTurnedBack_L2, if_pos (nI_le (Nat.le_refl _) (by omega))]
    rfl
  | succ r ih =>
    intro k fuel h1 h2
    obtain ⟨g, rfl⟩ : ∃ g, fuel = g + 1 := ⟨fuel - 1, by omega⟩
    have hl := LL_lt (h := h) n1 k
    rw [f_X3_heightTurnedBack_L2, if_neg (nI_ge (by omega) (by omega)), landing3 ha n8 (show k < n by omega), Option.bind_some, show (1 : Int32) = nI 1 from rfl, pk_sub n1, pk_sub (by omega)]
    show _ = some (nI (if n - 1 - LL h n k = p then h k else bkN h n p r (k + 1)))
    by_cases e : n - 1 - LL h n k = p
    · rw [if_pos (by rw [e]), if_pos e, heightAt3 ha n1 n8 (by omega), Option.bind_some, Nat.mod_eq_of_lt (show k < n by omega)]
    · rw [if_neg (fun x => e ((nI_eq (by omega) (by omega)).mp x)), if_neg e, nI_add]
      exact ih (k + 1) g (by omega) (by omega)
theorem back3 (ha : PH a h n) (n1 : 1 ≤ n) (n8 : n ≤ 8) {p : Nat} (hp : p < n) : f_X3_heightTurnedBack a (nI n) (nI p) = some (nI (bkN h n p n 0)) := bk_run ha n1 n8 hp n 0 zF (by omega) (by unfold zF; omega)
end PT
