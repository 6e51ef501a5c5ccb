/-! isThrown answers 1 -/
def Pp (codes : Nat → Int32) (n : Nat) (h : Nat → Nat) : Prop := n ≤ 8 ∧ ∀ k, k < n → h k < 8 ∧ codes k = nI (48 + h k)
theorem learn3_run {codes : Nat → Int32} {n : Nat} {h : Nat → Nat} (hp : Pp codes n h) (al : Int32) : ∀ (r k fuel : Nat) (hs : Nat → Int32), k + r = n → r < fuel → PH hs h k → ∃ hs', f_X3_learn_L17 al codes (nI n) fuel (nI k) hs = some (1, hs', nI n) ∧ PH hs' h n := by
  obtain ⟨n8, hc⟩ := hp
  intro r
  induction r with
  | zero =>
    intro k fuel hs h1 h2 h3
    obtain ⟨g, rfl⟩ : ∃ g, fuel = g + 1 := ⟨fuel - 1, by omega⟩
    obtain rfl : k = n := by omega
    exact ⟨hs, by rw [f_X3_learn_L17, if_pos (nI_le (Nat.le_refl _) (by omega))], h3⟩
  | succ r ih =>
    intro k fuel hs h1 h2 h3
    obtain ⟨g, rfl⟩ : ∃ g, fuel = g + 1 := ⟨fuel - 1, by omega⟩
    obtain ⟨c1, c2⟩ := hc k (by omega)
    rw [f_X3_learn_L17, if_neg (nI_ge (by omega) (by omega)), isHeightAt_yes (by omega) c2 c1, Option.bind_some, if_neg h10, digit_ok (by omega) c2, Option.bind_some, setAt_ok _ _ (by omega) (by omega), Option.bind_some, nI_1]
    exact ih (k + 1) g _ (by omega) (by omega) (fun j hj => by
      by_cases e : j = k
      · subst e; exact ⟨c1, upd_s⟩
      · rw [upd_n e]; exact h3 j (by omega))
theorem learn3 {codes : Nat → Int32} {n : Nat} {h : Nat → Nat} (hp : Pp codes n h) (n1 : 1 ≤ n) (hs : Nat → Int32) (al : Int32) : ∃ hs', f_X3_learn hs al codes (nI n) = some (1, hs', nI n) ∧ PH hs' h n := by
  obtain ⟨hs', e, g⟩ := learn3_run hp al n 0 zF hs (by omega) (by have := hp.1; unfold zF; omega) (fun j hj => absurd hj (by omega))
  refine ⟨hs', ?_, g⟩
  unfold f_X3_learn
  rw [show f_X7_isWithin (nI n) (1 : Int32) (8 : Int32) = some 1 from isWithin_yes (a := 1) (b := 8) n1 hp.1 (by omega), Option.bind_some, if_neg h10]
  exact e
section
variable {codes : Nat → Int32} {n : Nat} {h : Nat → Nat}
theorem pat0 {codes : Nat → Int32} {n : Nat} {h : Nat → Nat} (hp : Pp codes n h) (n1 : 1 ≤ n) (hs : Nat → Int32) (al : Int32) : ∃ hs', f_X7_pattern codes (nI n) hs al 0 = some ((if sdN h n n 0 0 = 2 ^ n - 1 then 1 else 0), hs', nI n) := by
  obtain ⟨hs', e, g⟩ := learn3 hp n1 hs al
  refine ⟨hs', ?_⟩
  unfold f_X7_pattern
  rw [e, Option.bind_some]
  dsimp only
  rw [if_neg h10, show f_X7_isWithin (0 : Int32) (0 : Int32) (6 : Int32) = some 1 by decide, Option.bind_some, if_neg h10, sd_ok g hp.1, Option.bind_some]
  by_cases hc : sdN h n n 0 0 = 2 ^ n - 1
  · rw [if_pos hc, if_neg h10, if_neg (show ¬ (0 : Int32) = 1 by decide), if_neg (show ¬ (0 : Int32) = 2 by decide), if_neg (show ¬ (0 : Int32) = 3 by decide), if_neg (show ¬ (0 : Int32) = 4 by decide), if_neg (show ¬ (0 : Int32) = 5 by decide), if_neg (show ¬ (0 : Int32) = 6 by decide)]
    rfl
  · rw [if_neg hc, if_pos rfl, if_pos rfl, if_neg (show ¬ (0 : Int32) = 1 by decide), if_neg (show ¬ (0 : Int32) = 2 by decide), if_neg (show ¬ (0 : Int32) = 3 by decide), if_neg (show ¬ (0 : Int32) = 4 by decide), if_neg (show ¬ (0 : Int32) = 5 by decide), if_neg (show ¬ (0 : Int32) = 6 by decide)]
    rfl
theorem pat2U {codes : Nat → Int32} {n : Nat} {h : Nat → Nat} (hp : Pp codes n h) (n1 : 1 ≤ n) (hc : sdN h n n 0 0 ≠ 2 ^ n - 1) (hs : Nat → Int32) (al : Int32) : ∃ hs', f_X7_pattern codes (nI n) hs al 2 = some (-5, hs', nI n) := by
  obtain ⟨hs', e, g⟩ := learn3 hp n1 hs al
  refine ⟨hs', ?_⟩
  unfold f_X7_pattern
  rw [e, Option.bind_some]
  dsimp only
  rw [if_neg h10, show f_X7_isWithin (2 : Int32) (0 : Int32) (6 : Int32) = some 1 by decide, Option.bind_some, if_neg h10, sd_ok g hp.1, Option.bind_some, if_neg hc, if_pos rfl, if_neg (show ¬ (2 : Int32) = 0 by decide)]
theorem pat1S {codes : Nat → Int32} {n : Nat} {h : Nat → Nat} (hp : Pp codes n h) (n1 : 1 ≤ n) (hc : sdN h n n 0 0 = 2 ^ n - 1) (hs : Nat → Int32) (al : Int32) : ∃ hs', f_X7_pattern codes (nI n) hs al 1 = some (nI (smN h n / n), hs', nI n) := by
  obtain ⟨hs', e, g⟩ := learn3 hp n1 hs al
  refine ⟨hs', ?_⟩
  unfold f_X7_pattern
  rw [e, Option.bind_some]
  dsimp only
  rw [if_neg h10, show f_X7_isWithin (1 : Int32) (0 : Int32) (6 : Int32) = some 1 by decide, Option.bind_some, if_neg h10, sd_ok g hp.1, Option.bind_some, if_pos hc, if_neg h10, if_pos rfl, clubs3 g n1 hp.1]
  rfl
theorem pat2S {codes : Nat → Int32} {n : Nat} {h : Nat → Nat} (hp : Pp codes n h) (n1 : 1 ≤ n) (hc : sdN h n n 0 0 = 2 ^ n - 1) (hs : Nat → Int32) (al : Int32) : ∃ hs', f_X7_pattern codes (nI n) hs al 2 = some (nI (stN h n), hs', nI n) := by
  obtain ⟨hs', e, g⟩ := learn3 hp n1 hs al
  refine ⟨hs', ?_⟩
  unfold f_X7_pattern
  rw [e, Option.bind_some]
  dsimp only
  rw [if_neg h10, show f_X7_isWithin (2 : Int32) (0 : Int32) (6 : Int32) = some 1 by decide, Option.bind_some, if_neg h10, sd_ok g hp.1, Option.bind_some, if_pos hc, if_neg h10, if_neg (show ¬ (2 : Int32) = 1 by decide), if_pos rfl, start3 g n1 hp.1]
  rfl
theorem pat3S {codes : Nat → Int32} {n : Nat} {h : Nat → Nat} (hp : Pp codes n h) (n1 : 1 ≤ n) (hc : sdN h n n 0 0 = 2 ^ n - 1) (hs : Nat → Int32) (al : Int32) : ∃ hs', f_X7_pattern codes (nI n) hs al 3 = some (nI (osN h n n 0 0 0), hs', nI n) := by
  obtain ⟨hs', e, g⟩ := learn3 hp n1 hs al
  refine ⟨hs', ?_⟩
  unfold f_X7_pattern
  rw [e, Option.bind_some]
  dsimp only
  rw [if_neg h10, show f_X7_isWithin (3 : Int32) (0 : Int32) (6 : Int32) = some 1 by decide, Option.bind_some, if_neg h10, sd_ok g hp.1, Option.bind_some, if_pos hc, if_neg h10, if_neg (show ¬ (3 : Int32) = 1 by decide), if_neg (show ¬ (3 : Int32) = 2 by decide), if_pos rfl, orbits3 g hp.1]
  rfl
theorem pat5S {codes : Nat → Int32} {n : Nat} {h : Nat → Nat} (hp : Pp codes n h) (n1 : 1 ≤ n) (hc : sdN h n n 0 0 = 2 ^ n - 1) (hs : Nat → Int32) (al : Int32) : ∃ hs', f_X7_pattern codes (nI n) hs al 5 = some (nI (peN h n (n - 1) 1), hs', nI n) := by
  obtain ⟨hs', e, g⟩ := learn3 hp n1 hs al
  refine ⟨hs', ?_⟩
  unfold f_X7_pattern
  rw [e, Option.bind_some]
  dsimp only
  rw [if_neg h10, show f_X7_isWithin (5 : Int32) (0 : Int32) (6 : Int32) = some 1 by decide, Option.bind_some, if_neg h10, sd_ok g hp.1, Option.bind_some, if_pos hc, if_neg h10, if_neg (show ¬ (5 : Int32) = 1 by decide), if_neg (show ¬ (5 : Int32) = 2 by decide), if_neg (show ¬ (5 : Int32) = 3 by decide), if_neg (show ¬ (5 : Int32) = 4 by decide), if_pos rfl, period3 g n1 hp.1]
  rfl
theorem backS {codes : Nat → Int32} {n : Nat} {h : Nat → Nat} (hp : Pp codes n h) (n1 : 1 ≤ n) (hc : sdN h n n 0 0 = 2 ^ n - 1) {k : Nat} (hk : k < n) (hs : Nat → Int32) (al : Int32) : ∃ hs', f_X7_back codes (nI n) hs al (nI k) = some (nI (bkN h n k n 0), hs', nI n) := by
  obtain ⟨hs', e, g⟩ := learn3 hp n1 hs al
  have n8 := hp.1
  refine ⟨hs', ?_⟩
  unfold f_X7_back
  rw [e, Option.bind_some]
  dsimp only
  rw [if_neg h10, show nI n - (1 : Int32) = nI (n - 1) from pk_sub (b := 1) n1, show f_X7_isWithin (nI k) (0 : Int32) (nI (n - 1)) = some 1 from isWithin_yes (a := 0) (by omega) (by omega) (by omega), Option.bind_some, if_neg h10, sd_ok g hp.1, Option.bind_some, if_pos hc, if_neg h10, back3 g n1 hp.1 hk]
  rfl
end
theorem thrown_ok {S : ST} {P : PG} {u : KY} {f k : Nat} (h : WS S P u f) (hk : k < P.1.1) : f_X7_thrown S 0 (nI k) 0 = some (nI (P.1.2.1 k)) := by
  have n8 := h.1.1.2.2.1
  have n1 := h.1.1.2.1
  unfold f_X7_thrown
  rw [isJug0, Option.bind_some, if_neg h10, if_pos rfl, h.1.2.2.1, show nI P.1.1 - (1 : Int32) = nI (P.1.1 - 1) from pk_sub (b := 1) n1, show f_X7_isWithin (nI k) (0 : Int32) (nI (P.1.1 - 1)) = some 1 from isWithin_yes (a := 0) (by omega) (by omega) (by omega), Option.bind_some, if_neg h10, if_pos rfl, heightAt_ok _ (by omega), h.1.2.2.2.2.1 k (by omega)]
  rfl
/-- what the check said of a sound pattern -/
def SG (n c cb cl st : Nat) : Prop := (∀ k, k < n → bkN (dg c) n k n 0 = dg cb k) ∧ sdN (dg cb) n n 0 0 = 2 ^ n - 1 ∧ smN (dg cb) n = cl * n ∧ smN (dg c) n / n = cl ∧ osN (dg c) n n 0 0 0 = osN (dg cb) n n 0 0 0 ∧ peN (dg c) n (n - 1) 1 = peN (dg cb) n (n - 1) 1 ∧ (∀ k, k < n → bkN (dg cb) n k n 0 = dg c k) ∧ st < 256 ∧ stN (dg c) n = st ∧ pcN st = cl ∧ kyN (PC n c) n ((st, 0), (0, 0)) = ((st, 0), (0, 0)) ∧ sdN (dg c) n n 0 0 = 2 ^ n - 1
theorem good_sg {n c : Nat} (hs : sdN (dg c) n n 0 0 = 2 ^ n - 1) (hg : good n c = true) : SG n c (bkc n c n) (smN (dg c) n / n) (stN (dg c) n) := by
  unfold good at hg
  rw [frc_eq, frc_eq, frc_eq] at hg
  simp only [Bool.and_eq_true, decide_eq_true_eq] at hg
  obtain ⟨g1, g2, g3, g4, g5, g6, g7, g8, g9⟩ := hg
  rw [kyF_eq] at g9
  refine ⟨fun k hk => Nat.eq_of_beq_eq_true (allK_at g1 k hk), Nat.eq_of_beq_eq_true g2, Nat.eq_of_beq_eq_true g3, rfl, Nat.eq_of_beq_eq_true g4, Nat.eq_of_beq_eq_true g5, fun k hk => Nat.eq_of_beq_eq_true (allK_at g6 k hk), Nat.le_of_ble_eq_true g7, rfl, Nat.eq_of_beq_eq_true g8, (Prod.mk.inj g9).1, hs⟩
theorem dg_lt (c k : Nat) : dg c k < 8 := Nat.mod_lt _ (by omega)
theorem L518_ok {n c cb cl st : Nat} (G : SG n c cb cl st) (n1 : 1 ≤ n) {A : ST} {u : KY} {f : Nat} (hA : WS A (PC n c) u f) {dc : Nat → Int32} (hd : Pp dc n (dg cb)) (AH : ST) (ac : Nat → Int32) (al : Int32) (W1 W2 W3 W4 : Nat → Int32) (W5 : Int32) (R : Nat → ST) (O Z : Int32) (bc : Nat → Int32) (bl : Int32) (bh : Nat → Int32) (bn : Int32) : ∀ (r k fuel : Nat) (dh : Nat → Int32) (dn : Int32), k + r = n → r < fuel → f_L_isThrown_L518 A AH ac al W1 W2 W3 W4 W5 R O Z bc bl bh bn dc (nI n) (nI n) fuel 1 (nI k) dh dn = some 1 := by
  have n8 := hd.1
  intro r
  induction r with
  | zero =>
    intro k fuel dh dn h1 h2
    obtain ⟨g, rfl⟩ : ∃ g, fuel = g + 1 := ⟨fuel - 1, by omega⟩
    obtain rfl : k = n := by omega
    rw [f_L_isThrown_L518, if_pos (nI_le (Nat.le_refl _) (by omega)), if_pos (Or.inr rfl)]
  | succ r ih =>
    intro k fuel dh dn h1 h2
    obtain ⟨g, rfl⟩ : ∃ g, fuel = g + 1 := ⟨fuel - 1, by omega⟩
    obtain ⟨hs', e⟩ := backS hd n1 G.2.1 (show k < n by omega) dh dn
    have et : f_X7_thrown A 0 (nI k) 0 = some (nI (dg c k)) := by
      rw [thrown_ok hA (show k < (PC n c).1.1 by show k < n; omega)]
      show some (nI (if k < n then dg c k else 0)) = _
      rw [if_pos (by omega)]
    rw [f_L_isThrown_L518, if_neg (nI_ge (by omega) (by omega)), if_neg h10, e, Option.bind_some, et, Option.bind_some]
    dsimp only
    rw [if_pos (by rw [G.2.2.2.2.2.2.1 k (by omega)]), nI_1]
    exact ih (k + 1) g hs' _ (by omega) (by omega)
theorem L396_ok {n c cb cl st v : Nat} (G : SG n c cb cl st) (n1 : 1 ≤ n) (n6 : n ≤ 6) (hv : v < 2 ^ 31) {A : ST} {u : KY} {f : Nat} (hA : WS A (PC n c) u f) {bc : Nat → Int32} (hb : Pp bc n (dg c)) (AH : ST) (ac : Nat → Int32) (al : Int32) (W1 W2 W3 W4 : Nat → Int32) (W5 : Int32) (R : Nat → ST) (O Z : Int32) (dh : Nat → Int32) (dn : Int32) : ∀ (r k fuel : Nat) (bh : Nat → Int32) (bn : Int32) (dc : Nat → Int32), k + r = n → r < fuel → Pp dc k (dg cb) → f_L_isThrown_L396 A AH ac al W1 W2 W3 W4 W5 R O Z bc (nI n) dh dn (nI n) (nI cl) (nI (smN (dg cb) n)) (nI v) fuel 1 (nI k) bh bn dc (nI k) = some 1 := by
  obtain ⟨G1, G2, G3, G4, G5, G6, G7, G8, G9, G10, G11, G12⟩ := id G
  intro r
  induction r with
  | zero =>
    intro k fuel bh bn dc h1 h2 hd
    obtain ⟨g, rfl⟩ : ∃ g, fuel = g + 1 := ⟨fuel - 1, by omega⟩
    obtain rfl : k = n := by omega
    have ecl : smN (dg cb) k / k = cl := by rw [G3]; exact Nat.mul_div_cancel _ n1
    obtain ⟨x1, e1⟩ := pat0 hd n1 dh dn
    obtain ⟨x2, e2⟩ := pat1S hd n1 G2 x1 (nI k)
    obtain ⟨x3, e3⟩ := pat3S hd n1 G2 x2 (nI k)
    obtain ⟨x4, e4⟩ := pat3S hb n1 G12 bh bn
    obtain ⟨x5, e5⟩ := pat5S hd n1 G2 x3 (nI k)
    obtain ⟨x6, e6⟩ := pat5S hb n1 G12 x4 (nI k)
    rw [f_L_isThrown_L396, if_pos (nI_le (Nat.le_refl _) (by omega)), if_neg h10, pk_mul, if_pos (by rw [G3]), e1, Option.bind_some]
    dsimp only
    rw [if_pos G2, if_pos rfl, e2, Option.bind_some]
    dsimp only
    rw [ecl, if_pos rfl, e3, Option.bind_some]
    dsimp only
    rw [e4, Option.bind_some]
    dsimp only
    rw [G5, if_pos rfl, e5, Option.bind_some]
    dsimp only
    rw [e6, Option.bind_some]
    dsimp only
    rw [G6, if_pos rfl, if_neg (nI_pos hv)]
    exact L518_ok G n1 hA hd AH ac al W1 W2 W3 W4 W5 R O Z bc (nI k) x6 (nI k) k 0 zF x5 (nI k) (by omega) (by unfold zF; omega)
  | succ r ih =>
    intro k fuel bh bn dc h1 h2 hd
    obtain ⟨g, rfl⟩ : ∃ g, fuel = g + 1 := ⟨fuel - 1, by omega⟩
    obtain ⟨x1, e1⟩ := backS hb n1 G12 (show k < n by omega) bh bn
    have hdl := dg_lt cb k
    rw [f_L_isThrown_L396, if_neg (nI_ge (by omega) (by omega)), if_neg h10, e1, Option.bind_some]
    dsimp only
    rw [G1 k (by omega), show (48 : Int32) + nI (dg cb k) = nI (48 + dg cb k) from nI_add 48 _, put_ok (by omega) (by omega) (by omega), Option.bind_some]
    dsimp only
    rw [if_neg (nI_nle (by omega) (by omega)), nI_1]
    exact ih (k + 1) g x1 _ _ (by omega) (by omega) ⟨by omega, fun j hj => by
      by_cases e : j = k
      · subst e; exact ⟨hdl, upd_s⟩
      · rw [upd_n e]; exact hd.2 j (by omega)⟩
theorem ten_pow : ∀ k, k < 7 → 10 ^ k ≤ 1000000 := by decide +kernel
theorem L346_ok {n c cb cl st : Nat} (G : SG n c cb cl st) (n1 : 1 ≤ n) (n6 : n ≤ 6) {A : ST} {u : KY} {f : Nat} (hA : WS A (PC n c) u f) {bc : Nat → Int32} (hb : Pp bc n (dg c)) (AH : ST) (ac : Nat → Int32) (al : Int32) (W1 W2 W3 W4 : Nat → Int32) (W5 : Int32) (R : Nat → ST) (O Z : Int32) : ∀ (r k fuel v : Nat) (bh : Nat → Int32) (bn : Int32), k + r = n → r < fuel → v < 10 ^ k → f_L_isThrown_L346 A AH ac al W1 W2 W3 W4 W5 R O Z bc (nI n) (nI n) 1 (nI cl) fuel (nI (smN (dg cb) k)) (nI v) (nI k) bh bn = some 1 := by
  intro r
  induction r with
  | zero =>
    intro k fuel v bh bn h1 h2 h3
    obtain ⟨g, rfl⟩ : ∃ g, fuel = g + 1 := ⟨fuel - 1, by omega⟩
    obtain rfl : k = n := by omega
    have := ten_pow k (by omega)
    rw [f_L_isThrown_L346, if_pos (nI_le (Nat.le_refl _) (by omega))]
    exact L396_ok G n1 n6 (by omega) hA hb AH ac al W1 W2 W3 W4 W5 R O Z _ _ k 0 zF bh bn _ (by omega) (by unfold zF; omega) ⟨by omega, fun j hj => absurd hj (by omega)⟩
  | succ r ih =>
    intro k fuel v bh bn h1 h2 h3
    obtain ⟨g, rfl⟩ : ∃ g, fuel = g + 1 := ⟨fuel - 1, by omega⟩
    obtain ⟨x1, e1⟩ := backS hb n1 G.2.2.2.2.2.2.2.2.2.2.2 (show k < n by omega) bh bn
    obtain ⟨x2, e2⟩ := backS hb n1 G.2.2.2.2.2.2.2.2.2.2.2 (show k < n by omega) x1 (nI n)
    have hdl := dg_lt cb k
    rw [f_L_isThrown_L346, if_neg (nI_ge (by omega) (by omega)), e1, Option.bind_some]
    dsimp only
    rw [e2, Option.bind_some]
    dsimp only
    rw [G.1 k (by omega), nI_add, show (10 : Int32) * nI v = nI (10 * v) from pk_mul 10 v, nI_add, nI_1]
    exact ih (k + 1) g (10 * v + dg cb k) x2 _ (by omega) (by omega) (by rw [Nat.pow_succ]; omega)
/-- the state behind the first k drops -/
def skN (st k : Nat) : Nat := st % 2 ^ k + (256 - 2 ^ k)
theorem sk_yes : ∀ k, k < 8 → ∀ st, st < 256 → st / 2 ^ k % 2 = 1 → skN st (k + 1) = skN st k := by decide +kernel
theorem sk_no : ∀ k, k < 8 → ∀ st, st < 256 → st / 2 ^ k % 2 = 0 → skN st k / 2 ^ k % 2 = 1 ∧ skN st (k + 1) = skN st k - 2 ^ k := by decide +kernel
theorem place_run (P : PG) : ∀ (i : Nat) (k : KY), k.1.2 < P.1.1 → (kyN P i k).1.2 = (k.1.2 + i) % P.1.1
  | 0, k, h => by
    show k.1.2 = _
    rw [Nat.add_zero, Nat.mod_eq_of_lt h]
  | i + 1, k, h => by
    show (kyN P i (bK P k)).1.2 = _
    rw [place_run P i (bK P k) (Nat.mod_lt _ (by omega))]
    show ((k.1.2 + 1) % P.1.1 + i) % P.1.1 = _
    rw [Nat.mod_add_mod, Nat.add_assoc, Nat.add_comm 1 i]
theorem L218_ok {n c cb cl st : Nat} (G : SG n c cb cl st) (n1 : 1 ≤ n) (n6 : n ≤ 6) {bc : Nat → Int32} (hb : Pp bc n (dg c)) (AH : ST) (ac : Nat → Int32) (al : Int32) (W1 W2 W3 W4 : Nat → Int32) (W5 : Int32) (bh : Nat → Int32) (bn : Int32) : ∀ (r k fuel f : Nat) (A : ST) (R : Nat → ST) (O Z : Int32), k + r = 8 → r < fuel → WS A (PC n c) ((skN st k, 0), (0, 0)) f → HI O Z → f_L_isThrown_L218 AH ac al W1 W2 W3 W4 W5 bc (nI n) bh bn (nI n) (nI st) (nI cl) fuel 1 (nI k) A R O Z = some 1 := by
  obtain ⟨G1, G2, G3, G4, G5, G6, G7, G8, G9, G10, G11, G12⟩ := id G
  intro r
  induction r with
  | zero =>
    intro k fuel f A R O Z h1 h2 h hH
    obtain ⟨g, rfl⟩ : ∃ g, fuel = g + 1 := ⟨fuel - 1, by omega⟩
    obtain rfl : k = 8 := by omega
    have e8 : skN st 8 = st := by
      show st % 256 + (256 - 256) = st
      omega
    rw [e8] at h
    have hvk := h.vk
    rw [f_L_isThrown_L218, if_pos (show (8 : Int32) ≤ nI 8 by decide), if_neg h10, of01 h, Option.bind_some]
    dsimp only
    rw [G10, if_pos rfl]
    obtain ⟨d, ah1, e1, g1⟩ := firstDrop_ok h AH
    have hd : d = -6 := by
      rcases g1 with ⟨t, -, -, -, t4⟩ | ⟨t1, -⟩
      · have := round_all hvk n1 G11 t
        omega
      · exact t1
    subst hd
    rw [e1, Option.bind_some]
    dsimp only
    rw [if_pos rfl]
    have hr : ∀ {r : Int32}, CR (PC n c) ((st, 0), (0, 0)) r → r = nI n := by
      intro r hr
      rcases hr with ⟨i, i1, i2, i3, i4, i5⟩ | ⟨-, i2⟩
      · have hle : i ≤ n := by
          apply Classical.byContradiction
          intro hx
          exact i5 n n1 (by omega) G11
        have hp := place_run (PC n c) i ((st, 0), (0, 0)) (show 0 < n by omega)
        rw [i4] at hp
        have hp' : 0 = (0 + i) % n := hp
        rw [Nat.zero_add] at hp'
        by_cases hin : i = n
        · rw [i3, hin]
        · rw [Nat.mod_eq_of_lt (by omega)] at hp'
          omega
      · exact absurd G11 (i2 n n1 (by omega))
    obtain ⟨r1, ah2, e2, g2⟩ := comesRound_ok h ah1
    have q1 := hr g2
    subst q1
    rw [e2, Option.bind_some]
    dsimp only
    rw [if_neg (show ¬ nI n < (1 : Int32) from nI_nlt (b := 1) n1 (by omega))]
    obtain ⟨r2, ah3, e3, g3⟩ := comesRound_ok h ah2
    have q2 := hr g3
    subst q2
    rw [e3, Option.bind_some]
    dsimp only
    rw [if_neg (nI_ne0 (by omega) (by omega)), pk_rem (by omega) (by omega) (by omega), if_pos (by rw [Nat.mod_self]; rfl)]
    obtain ⟨ah4, e4⟩ := behind0 h ah3 (n := n) n1 (by omega)
    rw [e4, Option.bind_some]
    dsimp only
    rw [G11, if_pos rfl]
    obtain ⟨W, e5, w0⟩ := way_self h W1 W2 W3 W4 W5
    rw [show f_X7_way A W1 W2 W3 W4 W5 (0 : Int32) (nI st) (0 : Int32) = some W from e5, Option.bind_some, if_pos w0]
    exact L346_ok G n1 n6 h hb ah4 ac al W.2.1 W.2.2.1 W.2.2.2.1 W.2.2.2.2.1 W.2.2.2.2.2 R O Z n 0 zF 0 bh bn (by omega) (by unfold zF; omega) (by decide)
  | succ r ih =>
    intro k fuel f A R O Z h1 h2 h hH
    obtain ⟨g, rfl⟩ : ∃ g, fuel = g + 1 := ⟨fuel - 1, by omega⟩
    rw [f_L_isThrown_L218, if_neg (show ¬ (8 : Int32) ≤ nI k from ge_lit (m := 8) (by omega) (by decide)), if_neg h10]
    rcases mod2 (st / 2 ^ k) with m0 | m1
    · obtain ⟨k1, k2⟩ := sk_no k (by omega) st G8 m0
      obtain ⟨Q, a1, a2, a3, a4, a5, -⟩ := drop0_yes h hH (show k < 8 by omega) k1 R
      have hsum := h.2.2.2
      rw [if_neg (fun e => absurd ((b_bit1 k (by omega) st G8).mp e) (by omega)), a1, Option.bind_some, if_neg (by rw [a2]; exact nI_nle (by omega) (by omega)), nI_1]
      refine ih (k + 1) g (f + 1) _ _ _ _ (by omega) (by omega) ?_ a5
      rw [k2]
      exact a3
    · rw [if_pos ((b_bit1 k (by omega) st G8).mpr m1), nI_1]
      refine ih (k + 1) g f _ _ _ _ (by omega) (by omega) ?_ hH
      rw [sk_yes k (by omega) st G8 m1]
      exact h
def P0 : PG := ((1, fun _ => 0, fun _ => false), (1, fun _ => 0, fun _ => false))
theorem zS0_ws : WS zS0 P0 ((0, 0), (0, 0)) 0 := by
  have hp : ∀ k, k < 8 → f_X1_isPassAt 0 (nI k) = some 0 := by decide +kernel
  have hv : Vp (1, fun _ => 0, fun _ => false) 0 0 := ⟨by omega, Nat.le_refl _, by decide, by decide, fun _ _ => by show 0 < 8; omega⟩
  exact ⟨⟨hv, rfl, rfl, rfl, fun _ _ => rfl, fun k hk => hp k hk⟩, ⟨hv, rfl, rfl, rfl, fun _ _ => rfl, fun k hk => hp k hk⟩, rfl, by decide⟩
theorem Pd.cong {codes : Nat → Int32} {n q m : Nat} {H H' : Nat → Nat} {B : Nat → Bool} (hp : Pd codes n q m H B) (e : ∀ k, k < m → H' k = H k) : Pd codes n q m H' B := by
  obtain ⟨a1, a2, a3, a4, a5, a6⟩ := hp
  exact ⟨a1, a2, a3, a4, a5, fun j hj => by rw [e j hj]; exact a6 j hj⟩
theorem Pp.cong {codes : Nat → Int32} {n : Nat} {H H' : Nat → Nat} (hp : Pp codes n H) (e : ∀ k, k < n → H' k = H k) : Pp codes n H' := ⟨hp.1, fun k hk => by rw [e k hk]; exact hp.2 k hk⟩
theorem L56_end {n l : Nat} (n1 : 1 ≤ n) (n6 : n ≤ 6) {ac bc : Nat → Int32} {H : Nat → Nat} {B : Nat → Bool} (hp : Pd ac l 0 n H B) (hB : ∀ k, k < n → B k = false) (hb : Pp bc n H) (AH : ST) (W1 W2 W3 W4 : Nat → Int32) (W5 : Int32) (R : Nat → ST) (bh : Nat → Int32) (bn : Int32) (x0 x1 : Int32) (g : Nat) : f_L_isThrown_L56 zS0 AH W1 W2 W3 W4 W5 R 0 0 bh bn x0 x1 (nI n) (g + 1) 1 (nI n) ac (nI l) bc (nI n) = some 1 := by
  have hh : ∀ k, k < n → H k < 8 := fun k hk => (hb.2 k hk).1
  have ed : ∀ k, k < n → dg (csN H 0 n) k = H k := fun k hk => dg_cs hh hk
  have hb' := hb.cong ed
  have hp' := hp.cong ed
  obtain ⟨y1, e1⟩ := pat0 hb' n1 bh bn
  rw [f_L_isThrown_L56, if_pos (nI_le (Nat.le_refl _) (by omega)), e1, Option.bind_some]
  dsimp only
  by_cases hs : sdN (dg (csN H 0 n)) n n 0 0 = 2 ^ n - 1
  · have hinj := sd_inj (h := dg (csN H 0 n)) (by omega) hs
    have hinjH : ∀ c d, c < d → d < n → LL H n c ≠ LL H n d := by
      intro c d h1 h2
      have := hinj c d h1 h2
      unfold LL at this ⊢
      rw [ed c (by omega), ed d h2] at this
      exact this
    have G := good_sg hs (all_good n1 n6 hh hinjH)
    generalize csN H 0 n = c at G hs hb' hp' e1
    obtain ⟨y2, e2⟩ := pat2S hb' n1 hs y1 (nI n)
    obtain ⟨y3, e3⟩ := pat1S hb' n1 hs y2 (nI n)
    obtain ⟨R1, pp, a1, a2, a3, -, -, a6, a7⟩ := read_ok hp' n1 zS0_ws R (od := 0) (sz := 0) ⟨0, 0, by omega, by omega, rfl, rfl⟩
    have hpp := a7 hB
    subst hpp
    obtain ⟨R2, s1, s2, s3, -, s5⟩ := start_ok a3 (rs := R1.2.2.2.1) a6 (a := 8) (b := 0) (by omega) (by omega)
    have s2' : R2.1 = 0 := s2
    have a2' : R1.1 = 0 := a2
    rw [if_pos hs, if_neg h10, e2, Option.bind_some]
    dsimp only
    rw [e3, Option.bind_some]
    dsimp only
    rw [if_neg h10, a1, Option.bind_some, if_pos a2', show f_X7_start R1.2.1 R1.2.2.2.1 R1.2.2.2.2.1 R1.2.2.2.2.2 (8 : Int32) (0 : Int32) = some R2 from s1, Option.bind_some, if_pos s2']
    refine L218_ok G n1 n6 hb' AH ac R1.2.2.1 W1 W2 W3 W4 W5 y3 (nI n) 8 0 zF 0 R2.2.1 R2.2.2.1 R2.2.2.2.1 R2.2.2.2.2 (by omega) (by unfold zF; omega) ?_ s5
    have e0 : skN (stN (dg c) n) 0 = 2 ^ 8 - 1 := by
      show stN (dg c) n % 1 + (256 - 1) = 255
      omega
    rw [e0]
    exact s3
  · obtain ⟨y2, e2⟩ := pat2U hb' n1 hs y1 (nI n)
    rw [if_neg hs, if_pos rfl, if_neg h10, e2, Option.bind_some, if_pos rfl]
theorem thr_step {ρ : Type} (F : Int32 → (Nat → Int32) → Int32 → (Nat → Int32) → Int32 → Option ρ) {ac bc : Nat → Int32} {l m : Nat} {H : Nat → Nat} {B : Nat → Bool} (hp : Pd ac l 0 m H B) (hB : ∀ k, k < m → B k = false) (hb : Pp bc m H) (hm : m < 6) {h : Nat} (hh : h < 8) : ∃ (ac' bc' : Nat → Int32) (l' : Nat) (H' : Nat → Nat) (B' : Nat → Bool), Pd ac' l' 0 (m + 1) H' B' ∧ (∀ k, k < m + 1 → B' k = false) ∧ Pp bc' (m + 1) H' ∧ ((f_X7_put ac (nI l) (((48 : Int32) + nI h).toInt64)).bind (fun q72 => if q72.1 ≤ 0 then (F 0 q72.2.1 q72.2.2 bc (nI m)) else ((f_X7_put bc (nI m) (((48 : Int32) + nI h).toInt64)).bind (fun q74 => if q74.1 ≤ 0 then (F 0 q72.2.1 q72.2.2 q74.2.1 q74.2.2) else (F 1 q72.2.1 q72.2.2 q74.2.1 q74.2.2))))) = F 1 ac' (nI l') bc' (nI (m + 1)) := by
  have hn : l ≤ 2 * m + 2 := by rw [hp.2.2.1]; exact (psn_le B m).2
  rw [show (48 : Int32) + nI h = nI (48 + h) from nI_add 48 h, put_ok (by omega) (by omega) (by omega), Option.bind_some]
  dsimp only
  rw [if_neg (nI_nle (by omega) (by omega)), put_ok (by omega) (by omega) (by omega), Option.bind_some]
  dsimp only
  rw [if_neg (nI_nle (by omega) (by omega))]
  refine ⟨_, _, l + 1, _, _, hp.throw (by omega) hh false (fun e => absurd e (by decide)) (fun k hk => upd_n (by omega)) upd_s (fun e => absurd e (by decide)), fun k hk => ?_, ⟨by omega, fun k hk => ?_⟩, rfl⟩
  · show (if k = m then false else B k) = false
    by_cases e : k = m
    · rw [if_pos e]
    · rw [if_neg e]; exact hB k (by omega)
  · show (if k = m then h else H k) < 8 ∧ upd bc m (nI (48 + h)) k = nI (48 + (if k = m then h else H k))
    by_cases e : k = m
    · rw [if_pos e, e]; exact ⟨hh, upd_s⟩
    · rw [if_neg e, upd_n e]; exact hb.2 k (by omega)
theorem L56_ok {n : Nat} (n1 : 1 ≤ n) (n6 : n ≤ 6) (AH : ST) (W1 W2 W3 W4 : Nat → Int32) (W5 : Int32) (R : Nat → ST) (bh : Nat → Int32) (bn : Int32) (x0 x1 : Int32) : ∀ (r m fuel l : Nat) (ac bc : Nat → Int32) (H : Nat → Nat) (B : Nat → Bool), m + r = n → r < fuel → Pd ac l 0 m H B → (∀ k, k < m → B k = false) → Pp bc m H → f_L_isThrown_L56 zS0 AH W1 W2 W3 W4 W5 R 0 0 bh bn x0 x1 (nI n) fuel 1 (nI m) ac (nI l) bc (nI m) = some 1 := by
  intro r
  induction r with
  | zero =>
    intro m fuel l ac bc H B h1 h2 hp hB hb
    obtain ⟨g, rfl⟩ : ∃ g, fuel = g + 1 := ⟨fuel - 1, by omega⟩
    obtain rfl : m = n := by omega
    exact L56_end n1 n6 hp hB hb AH W1 W2 W3 W4 W5 R bh bn x0 x1 g
  | succ r ih =>
    intro m fuel l ac bc H B h1 h2 hp hB hb
    obtain ⟨g, rfl⟩ : ∃ g, fuel = g + 1 := ⟨fuel - 1, by omega⟩
    obtain ⟨u, u1, u2⟩ := up_ok (x0 >>> ((3 : Int32) &&& 31)) (m := 2) (by omega) (by omega)
    rw [f_L_isThrown_L56, if_neg (nI_ge (by omega) (by omega)), show f_L_up (x0 >>> ((3 : Int32) &&& 31)) (2 : Int32) = _ from u2, Option.bind_some]
    by_cases u0 : u = 0
    · obtain ⟨t, t1, t2⟩ := up_ok (x0 >>> ((4 : Int32) &&& 31)) (m := 7) (by omega) (by omega)
      rw [if_pos (by rw [u0]; rfl), show f_L_up (x0 >>> ((4 : Int32) &&& 31)) (7 : Int32) = _ from t2, Option.bind_some, if_neg h10, show (1 : Int32) + nI t = nI (1 + t) from nI_add 1 t]
      obtain ⟨ac', bc', l', H', B', p1, p2, p3, p4⟩ := thr_step (fun i a al b bl => f_L_isThrown_L56 zS0 AH W1 W2 W3 W4 W5 R 0 0 bh bn x0 x1 (nI n) g i (nI m + 1) a al b bl) hp hB hb (by omega) (show 1 + t < 8 by omega)
      refine p4.trans ?_
      rw [nI_1]
      exact ih (m + 1) g l' ac' bc' H' B' (by omega) (by omega) p1 p2 p3
    · obtain ⟨t, t1, t2⟩ := up_ok (x1 >>> (((3 : Int32) * nI m) &&& 31)) (m := 8) (by omega) (by omega)
      rw [if_neg (nI_ne0 (by omega) (by omega)), show f_L_up (x1 >>> (((3 : Int32) * nI m) &&& 31)) (8 : Int32) = _ from t2, Option.bind_some, if_neg h10]
      obtain ⟨ac', bc', l', H', B', p1, p2, p3, p4⟩ := thr_step (fun i a al b bl => f_L_isThrown_L56 zS0 AH W1 W2 W3 W4 W5 R 0 0 bh bn x0 x1 (nI n) g i (nI m + 1) a al b bl) hp hB hb (by omega) t1
      refine p4.trans ?_
      rw [nI_1]
      exact ih (m + 1) g l' ac' bc' H' B' (by omega) (by omega) p1 p2 p3
theorem st_isThrown (p0 p1 : Int32) : f_L_isThrown p0 p1 = some 1 := by
  obtain ⟨u, u1, u2⟩ := up_ok p0 (m := 6) (by omega) (by omega)
  unfold f_L_isThrown
  rw [show f_L_up p0 (6 : Int32) = _ from u2, Option.bind_some, show (48 : Int64) = (nI 48).toInt64 by decide, show f_X7_put (fun _ => 0) 0 (nI 48).toInt64 = _ from put_ok (n := 0) (by omega) (by omega) (by omega) _, Option.bind_some]
  dsimp only
  rw [if_neg (nI_nle (by omega) (by omega)), show (58 : Int64) = (nI 58).toInt64 by decide, put_ok (by omega) (by omega) (by omega), Option.bind_some]
  dsimp only
  rw [if_neg (nI_nle (by omega) (by omega)), show (1 : Int32) + nI u = nI (1 + u) from nI_add 1 u]
  exact L56_ok (by omega) (by omega) zS0 _ _ _ _ _ _ _ _ p0 p1 (1 + u) 0 zF 2 _ _ _ _ (by omega) (by unfold zF; omega) (Pd.zero (fun _ => 0) (q := 0) (by omega)) (fun k hk => absurd hk (by omega)) ⟨by omega, fun k hk => absurd hk (by omega)⟩
