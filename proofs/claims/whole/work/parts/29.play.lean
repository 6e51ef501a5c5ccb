/-! many beats: pass, stateBehind, firstDrop, comesRound -/
def bt (a : Nat → Int32) : Nat → Int32 := (f_X8_beats a).getD a
def bti : Nat → (Nat → Int32) → (Nat → Int32)
  | 0, a => a
  | m + 1, a => bti m (bt a)
def addB (S : ST) (x : Int32) : ST := (S.1, S.2.1, S.2.2.1, S.2.2.2.1 + x, S.2.2.2.2.1, S.2.2.2.2.2)
theorem Rq.addB {S : ST} {a : Nat → Int32} (h : Rq S a) (x : Int32) : Rq (addB S x) a := h
/-- one step of the class's loop -/
theorem play_step {S : ST} {a : Nat → Int32} (h : Rq S a) : f_X8_beats a = some (bt a) ∧ ∃ (S' : ST) (f d : Nat), Rq S' (bt a) ∧ S'.2.2.2.1 = S.2.2.2.1 ∧ bt a 39 = a 39 + 1 ∧ a 38 = nI f ∧ f ≤ 16 ∧ d ≤ 2 ∧ bt a 38 = nI (f + d) ∧ ∀ (x1 x2 x3 : Int32) (n : Nat), ¬ x1 ≤ x3 → f_X4_play_L7 x1 x2 (n + 1) x3 S = f_X4_play_L7 x1 x2 n (x3 + (1 : Int32)) S' := by
  obtain ⟨a', q2, q3, q4, q5, f, d, e1, e2, e3, e4, e5, e6, e7, e8, e9, e10, e11⟩ := beat_ok h
  have hb : bt a = a' := by unfold bt; rw [e1]; rfl
  rw [hb]
  refine ⟨e1, _, f, d, e6, rfl, e7, e8, e9, e10, e11, fun x1 x2 x3 n hx => ?_⟩
  rw [f_X4_play_L7, if_neg hx, e2, Option.bind_some, e3, Option.bind_some, e4, Option.bind_some, e5, Option.bind_some]
theorem play_run (n : Nat) (hn : n < 2 ^ 30) (x2 : Int32) : ∀ (m i fuel : Nat) (S : ST) (a : Nat → Int32), Rq S a → i + m = n → m < fuel → ∃ S' : ST, f_X4_play_L7 (nI n) x2 fuel (nI i) S = some (S'.2.2.1 - x2, addB S' (nI n)) ∧ Rq S' (bti m a) ∧ S'.2.2.2.1 = S.2.2.2.1 ∧ bti m a 39 = a 39 + nI m := by
  intro m
  induction m with
  | zero =>
    intro i fuel S a h h1 h2
    obtain ⟨k, rfl⟩ : ∃ k, fuel = k + 1 := ⟨fuel - 1, by omega⟩
    refine ⟨S, ?_, h, rfl, ?_⟩
    · rw [f_X4_play_L7, if_pos (nI_le (by omega) (by omega))]; rfl
    · show a 39 = a 39 + nI 0
      rw [nI_0]; simp
  | succ m ih =>
    intro i fuel S a h h1 h2
    obtain ⟨k, rfl⟩ : ∃ k, fuel = k + 1 := ⟨fuel - 1, by omega⟩
    obtain ⟨e1, S1, f, d, g1, g2, g3, -, -, -, -, g4⟩ := play_step h
    obtain ⟨S', k1, k2, k3, k4⟩ := ih (i + 1) k S1 (bt a) g1 (by omega) (by omega)
    refine ⟨S', ?_, k2, k3.trans g2, ?_⟩
    · rw [g4 _ _ _ _ (nI_ge (by omega) (by omega)), nI_1]; exact k1
    · show bti m (bt a) 39 = _
      rw [k4, g3, Int32.add_assoc, show (1 : Int32) = nI 1 from rfl, nI_add, Nat.add_comm]
theorem play_ok {S : ST} {a : Nat → Int32} (h : Rq S a) {n : Nat} (hn : n < 100000) : ∃ S' : ST, f_X4_play S (nI n) = some (bti n a 38 - a 38, addB S' (nI n)) ∧ Rq S' (bti n a) ∧ S'.2.2.2.1 = S.2.2.2.1 ∧ bti n a 39 = a 39 + nI n := by
  obtain ⟨S', k1, k2, k3, k4⟩ := play_run n (by omega) S.2.2.1 n 0 zF S a h (by omega) (by unfold zF; omega)
  refine ⟨S', ?_, k2, k3, k4⟩
  unfold f_X4_play
  rw [show (0 : Int32) = nI 0 from rfl, k1, k2.2.2.1, h.2.2.1]
theorem bt_run {ρ : Type} (F : Nat → Int32 → (Nat → Int32) → Option ρ) (n : Nat) (hF : ∀ (k i : Nat) (a : Nat → Int32), i < n → f_X8_beats a = some (bt a) → F (k + 1) (nI i) a = F k (nI (i + 1)) (bt a)) : ∀ (m i fuel : Nat) (S : ST) (a : Nat → Int32), Rq S a → i + m = n → m < fuel → F fuel (nI i) a = F (fuel - m) (nI n) (bti m a) := by
  intro m
  induction m with
  | zero =>
    intro i fuel S a h h1 h2
    rw [show i = n by omega]; rfl
  | succ m ih =>
    intro i fuel S a h h1 h2
    obtain ⟨k, rfl⟩ : ∃ k, fuel = k + 1 := ⟨fuel - 1, by omega⟩
    obtain ⟨e1, S1, f, d, g1, -⟩ := play_step h
    rw [hF k i a (by omega) e1, ih (i + 1) k S1 (bt a) g1 (by omega) (by omega), show k + 1 - (m + 1) = k - m by omega]
    rfl
theorem st_pass {a_now : ST} {a_history_rs : (Nat → ST)} {a_history_oldest : Int32} {a_history_size : Int32} {b_all : (Nat → Int32)} {b_kept : (Nat → Int32)} {b_history : (Nat → Int32)} {b_historyLong : Int32} (hA : Rs a_now b_all) (hH : RH a_history_rs a_history_oldest a_history_size b_history b_historyLong) (p1 : Int32) : ∃ (R1 : Int32 × ST × (Nat → ST) × Int32 × Int32) (R2 : Int32 × (Nat → Int32) × (Nat → Int32) × (Nat → Int32) × Int32), f_X7_pass a_now a_history_rs a_history_oldest a_history_size p1 = some R1 ∧ f_X8_pass b_all b_kept b_history b_historyLong p1 = some R2 ∧ R1.1 = R2.1 ∧ Rs R1.2.1 R2.2.1 ∧ RH R1.2.2.1 R1.2.2.2.1 R1.2.2.2.2 R2.2.2.2.1 R2.2.2.2.2 := by
  unfold f_X7_pass f_X8_pass
  rw [in_within (p := p1) (lo := 1) (hi := 200) (by decide) (by decide)]
  rcases within_lit (A := 1) (B := 200) p1 1 200 rfl rfl (by omega) (by omega) with h | ⟨n, h1, h2, rfl, h⟩
  · rw [h]; exact ⟨_, _, rfl, rfl, rfl, hA, hH⟩
  rw [h, Option.bind_some, Option.bind_some, if_neg h10, if_neg h10, hA.2]
  by_cases hb : b_all 39 + nI n ≤ (100000 : Int32)
  · rw [if_pos hb, if_pos hb]
    obtain ⟨kp, c1, c2⟩ := keep_ok b_all b_kept
    obtain ⟨S', g1, g2, g3, g4⟩ := play_ok hA.1 (n := n) (by omega)
    obtain ⟨R, hi, hl, r1, r2, r3⟩ := record_ok hH (hA.row (fun j hj => c2 j hj)) (bti n b_all 38 - b_all 38)
    have hrun := bt_run (fun k x s => f_X8_pass_L46 kp b_history b_historyLong (nI n) (b_all 38) k x s) n (fun k i a hi he => by
      show f_X8_pass_L46 _ _ _ _ _ (k + 1) (nI i) a = f_X8_pass_L46 _ _ _ _ _ k (nI (i + 1)) (bt a)
      rw [f_X8_pass_L46, if_neg (nI_ge hi (by omega)), he, nI_1]; rfl) n 0 zF a_now b_all hA.1 (by omega) (by unfold zF; omega)
    rw [c1, Option.bind_some, r1, Option.bind_some, g1, Option.bind_some]
    have e2 : f_X8_pass_L46 kp b_history b_historyLong (nI n) (b_all 38) zF (0 : Int32) b_all = some (bti n b_all 38 - b_all 38, bti n b_all, kp, hi, hl) := by
      rw [show (0 : Int32) = nI 0 from rfl]
      refine hrun.trans ?_
      rw [show zF - n = (zF - n - 1) + 1 by unfold zF; omega]
      rw [f_X8_pass_L46, if_pos (nI_le (Nat.le_refl n) (by omega)), r2]
      rfl
    rw [e2]
    refine ⟨_, _, rfl, rfl, rfl, ⟨g2.addB _, ?_⟩, r3⟩
    show S'.2.2.2.1 + nI n = bti n b_all 39
    rw [g3, g4, hA.2]
  · rw [if_neg hb, if_neg hb]; exact ⟨_, _, rfl, rfl, rfl, hA, hH⟩
theorem st_stateBehind {a_now : ST} {a_ahead : ST} {b_all : (Nat → Int32)} {b_kept : (Nat → Int32)} (hA : Rs a_now b_all) (p1 : Int32) (p2 : Int32) : ∃ (R1 : Int32 × ST) (R2 : Int32 × (Nat → Int32) × (Nat → Int32)), f_X7_stateBehind a_now a_ahead p1 p2 = some R1 ∧ f_X8_stateBehind b_all b_kept p1 p2 = some R2 ∧ R1.1 = R2.1 ∧ Rs a_now R2.2.1 := by
  unfold f_X7_stateBehind f_X8_stateBehind
  rw [in_within (p := p2) (lo := 1) (hi := 200) (by decide) (by decide)]
  rcases jug_or p1 with ⟨h1, h2⟩ | ⟨q, hq, rfl, h1, h2⟩
  · rw [h1, h2]; exact ⟨_, _, rfl, rfl, rfl, hA⟩
  rw [h1, h2, Option.bind_some, Option.bind_some, if_neg h10, if_neg h10]
  rcases within_lit (A := 1) (B := 200) p2 1 200 rfl rfl (by omega) (by omega) with h | ⟨n, n1, n2, rfl, h⟩
  · rw [h]; exact ⟨_, _, rfl, rfl, rfl, hA⟩
  rw [h, Option.bind_some, Option.bind_some, if_neg h10, if_neg h10]
  obtain ⟨kp, c1, c2⟩ := keep_ok b_all b_kept
  obtain ⟨rr, e3, g4⟩ := become4 a_ahead a_now
  obtain ⟨S', g1, g2, g3, -⟩ := play_ok (g4.rq hA.1) (n := n) (by omega)
  obtain ⟨gb, d1, d2⟩ := giveBack_ok (bti n b_all) kp
  have hrun := bt_run (fun k x s => f_X8_stateBehind_L30 kp (nI q) (nI n) k x s) n (fun k i a hi he => by
      show f_X8_stateBehind_L30 _ _ _ (k + 1) (nI i) a = f_X8_stateBehind_L30 _ _ _ k (nI (i + 1)) (bt a)
      rw [f_X8_stateBehind_L30, if_neg (nI_ge hi (by omega)), he, nI_1]; rfl) n 0 zF a_now b_all hA.1 (by omega) (by unfold zF; omega)
  have x0 : (0 : Int32) + nI q = nI q := by rw [show (0 : Int32) = nI 0 from rfl, nI_add, Nat.zero_add]
  have e2 : f_X8_stateBehind_L30 kp (nI q) (nI n) zF (0 : Int32) b_all = some (bti n b_all q, gb, kp) := by
    rw [show (0 : Int32) = nI 0 from rfl]
    refine hrun.trans ?_
    rw [show zF - n = (zF - n - 1) + 1 by unfold zF; omega]
    rw [f_X8_stateBehind_L30, if_pos (nI_le (Nat.le_refl n) (by omega)), x0, if_neg (in_nI (by omega) (by decide)), nI_clamp (by omega), d1]
    rfl
  have hback : Rs a_now gb := hA.row (fun j hj => by rw [d2 j hj, c2 j hj])
  rw [c1, Option.bind_some, e2, e3, Option.bind_some, g1, Option.bind_some]
  rcases (show q = 0 ∨ q = 1 by omega) with rfl | rfl
  · rw [if_pos (show nI 0 = 0 from rfl)]
    exact ⟨_, _, rfl, rfl, g2.1.1, hback⟩
  · rw [if_neg (show ¬ nI 1 = 0 by decide)]
    exact ⟨_, _, rfl, rfl, g2.2.1.1, hback⟩
/-- the class plays one beat -/
theorem play_one {S : ST} {a : Nat → Int32} (h : Rq S a) : f_X8_beats a = some (bt a) ∧ ∃ (S' : ST) (f d : Nat), f_X4_play S (1 : Int32) = some (nI d, S') ∧ Rq S' (bt a) ∧ a 38 = nI f ∧ f ≤ 16 ∧ d ≤ 2 ∧ bt a 38 = nI (f + d) := by
  obtain ⟨e1, -, f, d, -, -, -, g4, g5, g6, g7, -⟩ := play_step h
  obtain ⟨S', k1, k2, -, -⟩ := play_ok h (n := 1) (by omega)
  refine ⟨e1, addB S' (nI 1), f, d, ?_, k2.addB _, g4, g5, g6, g7⟩
  rw [show (1 : Int32) = nI 1 from rfl, k1]
  show some (bt a 38 - a 38, _) = _
  rw [g7, g4, pk_sub (by omega), show f + d - f = d by omega]
theorem firstDrop_run (now : ST) (kp all : Nat → Int32) : ∀ (m i n n' : Nat) (S : ST) (a : Nat → Int32), i + m = 1000 → m + 1 < n → m + 2 < n' → Rq S a → a 38 = kp 38 → ∃ (R1 : Int32 × ST) (R2 : Int32 × (Nat → Int32) × (Nat → Int32)), f_X7_firstDrop_L13 now n (nI i) S = some R1 ∧ f_X8_firstDrop_L6 kp n' (nI i) a = some R2 ∧ R1.1 = R2.1 ∧ ∀ j, j < 46 → R2.2.1 j = kp j := by
  intro m
  induction m with
  | zero =>
    intro i n n' S a h1 h2 h3 h h4
    obtain rfl : i = 1000 := by omega
    obtain ⟨k, rfl⟩ : ∃ k, n = k + 1 := ⟨n - 1, by omega⟩
    obtain ⟨k', rfl⟩ : ∃ k, n' = k + 1 := ⟨n' - 1, by omega⟩
    obtain ⟨gb, d1, d2⟩ := giveBack_ok a kp
    rw [f_X7_firstDrop_L13, if_pos (show (1000 : Int32) ≤ nI 1000 by decide), f_X8_firstDrop_L6, if_pos (show (1000 : Int32) ≤ nI 1000 by decide), if_pos (by rw [h4]; exact Int32.le_refl _), d1]
    exact ⟨_, _, rfl, rfl, rfl, d2⟩
  | succ m ih =>
    intro i n n' S a h1 h2 h3 h h4
    obtain ⟨k, rfl⟩ : ∃ k, n = k + 1 := ⟨n - 1, by omega⟩
    obtain ⟨k', rfl⟩ : ∃ k, n' = k + 1 := ⟨n' - 1, by omega⟩
    obtain ⟨e1, S', f, d, e2, g1, g2, g3, g4, g5⟩ := play_one h
    rw [f_X7_firstDrop_L13, if_neg (show ¬ (1000 : Int32) ≤ nI i from ge_lit (m := 1000) (by omega) (by decide)), e2, Option.bind_some, f_X8_firstDrop_L6, if_neg (show ¬ (1000 : Int32) ≤ nI i from ge_lit (m := 1000) (by omega) (by decide)), if_pos h4, e1, Option.bind_some, nI_1]
    by_cases hd : d = 0
    · subst hd
      rw [if_pos (show nI 0 ≤ 0 by decide)]
      exact ih (i + 1) k k' S' (bt a) (by omega) (by omega) (by omega) g1 (by rw [g5, Nat.add_zero, ← g2]; exact h4)
    · rw [if_neg (nI_nle (by omega) (by omega))]
      obtain ⟨k2, rfl⟩ : ∃ k, k' = k + 1 := ⟨k' - 1, by omega⟩
      obtain ⟨gb, d1, d2⟩ := giveBack_ok (bt a) kp
      have hgt : ¬ bt a 38 ≤ kp 38 := by rw [g5, ← h4, g2]; exact nI_ge (by omega) (by omega)
      have hne : ¬ bt a 38 = kp 38 := fun e => hgt (by rw [e]; exact Int32.le_refl _)
      rw [f_X8_firstDrop_L6]
      by_cases h10' : (1000 : Int32) ≤ nI (i + 1)
      · rw [if_pos h10', if_neg hgt, d1, nI_pred]
        exact ⟨_, _, rfl, rfl, rfl, d2⟩
      · rw [if_neg h10', if_neg hne, if_neg hgt, d1, nI_pred]
        exact ⟨_, _, rfl, rfl, rfl, d2⟩
theorem st_firstDrop {a_now : ST} {a_ahead : ST} {b_all : (Nat → Int32)} {b_kept : (Nat → Int32)} (hA : Rs a_now b_all) : ∃ (R1 : Int32 × ST) (R2 : Int32 × (Nat → Int32) × (Nat → Int32)), f_X7_firstDrop a_now a_ahead = some R1 ∧ f_X8_firstDrop b_all b_kept = some R2 ∧ R1.1 = R2.1 ∧ Rs a_now R2.2.1 := by
  obtain ⟨kp, c1, c2⟩ := keep_ok b_all b_kept
  obtain ⟨rr, e3, g4⟩ := become4 a_ahead a_now
  obtain ⟨R1, R2, r1, r2, r3, r4⟩ := firstDrop_run a_now kp b_all 1000 0 zF zF rr b_all (by omega) (by unfold zF; omega) (by unfold zF; omega) (g4.rq hA.1) (c2 38 (by omega)).symm
  unfold f_X7_firstDrop f_X8_firstDrop
  rw [e3, c1, Option.bind_some, Option.bind_some, show (0 : Int32) = nI 0 from rfl]
  exact ⟨R1, R2, r1, r2, r3, hA.row (fun j hj => by rw [r4 j hj, c2 j hj])⟩
theorem isAsKept_step (a k : Nat → Int32) (n i : Nat) (hi : i < 4) (x : Int32) : f_X8_isAsKept_L4 a k (n + 1) x (nI i) = f_X8_isAsKept_L4 a k n (if x = 0 then 0 else if a i = k i then 1 else 0) (nI (i + 1)) := by
  rw [f_X8_isAsKept_L4, if_neg (show ¬ (4 : Int32) ≤ nI i from ge_lit (m := 4) hi (by decide)), if_neg (in_nI (by omega) (by decide)), if_neg (in_nI (by omega) (by decide)), nI_1, nI_clamp (by omega)]
  by_cases hx : x = 0
  · rw [if_pos hx, if_pos hx]
  · rw [if_neg hx, if_neg hx]
    by_cases h : a i = k i
    · rw [if_pos h, if_pos h]
    · rw [if_neg h, if_neg h]
theorem isAsKept_ok (a k : Nat → Int32) : f_X8_isAsKept a k = some (if a 0 = k 0 ∧ a 1 = k 1 ∧ a 2 = k 2 ∧ a 3 = k 3 then 1 else 0) := by
  unfold f_X8_isAsKept
  rw [show zF = 99995 + 1 + 1 + 1 + 1 + 1 from rfl, show (0 : Int32) = nI 0 from rfl, isAsKept_step _ _ _ _ (by omega), isAsKept_step _ _ _ _ (by omega), isAsKept_step _ _ _ _ (by omega), isAsKept_step _ _ _ _ (by omega), f_X8_isAsKept_L4, if_pos (show (4 : Int32) ≤ nI (0 + 1 + 1 + 1 + 1) by decide)]
  by_cases h0 : a 0 = k 0 <;> by_cases h1 : a 1 = k 1 <;> by_cases h2 : a 2 = k 2 <;> by_cases h3 : a 3 = k 3 <;> simp [h0, h1, h2, h3, nI_0]
theorem standsLike_ok {S T : ST} {a k : Nat → Int32} (h : Rq S a) (g : Rq T k) : f_X4_standsLike S T = some (if a 0 = k 0 ∧ a 1 = k 1 ∧ a 2 = k 2 ∧ a 3 = k 3 then 1 else 0) := by
  unfold f_X4_standsLike f_X1_standsLike
  rw [h.1.1, h.1.2.2.1, h.2.1.1, h.2.1.2.2.1, g.1.1, g.1.2.2.1, g.2.1.1, g.2.1.2.2.1]
  by_cases h0 : a 0 = k 0 <;> by_cases h1 : a 1 = k 1 <;> by_cases h2 : a 2 = k 2 <;> by_cases h3 : a 3 = k 3 <;> simp [h0, h1, h2, h3]
theorem comesRound_run (now : ST) (kp : Nat → Int32) (hn : Rq now kp) : ∀ (m i n n' : Nat) (S : ST) (a : Nat → Int32), i + m = 1000 → m + 2 < n → m + 2 < n' → Rq S a → ∃ (R1 : Int32 × ST) (R2 : Int32 × (Nat → Int32) × (Nat → Int32)), f_X7_comesRound_L13 now n (nI i) S = some R1 ∧ f_X8_comesRound_L10 kp n' (nI i) (bt a) = some R2 ∧ R1.1 = R2.1 ∧ ∀ j, j < 46 → R2.2.1 j = kp j := by
  intro m
  induction m with
  | zero =>
    intro i n n' S a h1 h2 h3 h
    obtain rfl : i = 1000 := by omega
    obtain ⟨k, rfl⟩ : ∃ k, n = k + 1 + 1 := ⟨n - 2, by omega⟩
    obtain ⟨k', rfl⟩ : ∃ k, n' = k + 1 := ⟨n' - 1, by omega⟩
    obtain ⟨e1, S', f, d, e2, g1, -⟩ := play_one h
    obtain ⟨gb, d1, d2⟩ := giveBack_ok (bt a) kp
    rw [f_X7_comesRound_L13, if_neg (show ¬ (1000 : Int32) < nI 1000 by decide), e2, Option.bind_some, standsLike_ok g1 hn, Option.bind_some, f_X8_comesRound_L10, if_pos (show (1000 : Int32) ≤ nI 1000 by decide), isAsKept_ok, Option.bind_some, d1, Option.bind_some]
    by_cases hc : bt a 0 = kp 0 ∧ bt a 1 = kp 1 ∧ bt a 2 = kp 2 ∧ bt a 3 = kp 3
    · rw [if_pos hc, if_neg h10, if_neg h10]
      exact ⟨_, _, rfl, rfl, rfl, d2⟩
    · rw [if_neg hc, if_pos rfl, if_pos rfl, f_X7_comesRound_L13, if_pos (show (1000 : Int32) < nI 1000 + 1 by decide)]
      exact ⟨_, _, rfl, rfl, rfl, d2⟩
  | succ m ih =>
    intro i n n' S a h1 h2 h3 h
    obtain ⟨k, rfl⟩ : ∃ k, n = k + 1 := ⟨n - 1, by omega⟩
    obtain ⟨k', rfl⟩ : ∃ k, n' = k + 1 := ⟨n' - 1, by omega⟩
    obtain ⟨e1, S', f, d, e2, g1, -⟩ := play_one h
    obtain ⟨e1', -⟩ := play_one g1
    obtain ⟨gb, d1, d2⟩ := giveBack_ok (bt a) kp
    rw [f_X7_comesRound_L13, if_neg (show ¬ (1000 : Int32) < nI i from nI_nlt (a := 1000) (b := i) (by omega) (by omega)), e2, Option.bind_some, standsLike_ok g1 hn, Option.bind_some, f_X8_comesRound_L10, if_neg (show ¬ (1000 : Int32) ≤ nI i from ge_lit (m := 1000) (by omega) (by decide)), isAsKept_ok, Option.bind_some]
    by_cases hc : bt a 0 = kp 0 ∧ bt a 1 = kp 1 ∧ bt a 2 = kp 2 ∧ bt a 3 = kp 3
    · rw [if_pos hc, if_neg h10, if_neg h10, Option.bind_some, d1, Option.bind_some, if_neg h10]
      exact ⟨_, _, rfl, rfl, rfl, d2⟩
    · rw [if_neg hc, if_pos rfl, if_pos rfl, e1', Option.bind_some, nI_1]
      exact ih (i + 1) k k' S' (bt a) (by omega) (by omega) (by omega) g1
theorem st_comesRound {a_now : ST} {a_ahead : ST} {b_all : (Nat → Int32)} {b_kept : (Nat → Int32)} (hA : Rs a_now b_all) : ∃ (R1 : Int32 × ST) (R2 : Int32 × (Nat → Int32) × (Nat → Int32)), f_X7_comesRound a_now a_ahead = some R1 ∧ f_X8_comesRound b_all b_kept = some R2 ∧ R1.1 = R2.1 ∧ Rs a_now R2.2.1 := by
  obtain ⟨kp, c1, c2⟩ := keep_ok b_all b_kept
  obtain ⟨rr, e3, g4⟩ := become4 a_ahead a_now
  obtain ⟨R1, R2, r1, r2, r3, r4⟩ := comesRound_run a_now kp (hA.1.row (fun j hj => c2 j hj)) 999 1 zF zF rr b_all (by omega) (by unfold zF; omega) (by unfold zF; omega) (g4.rq hA.1)
  unfold f_X7_comesRound f_X8_comesRound
  rw [e3, c1, Option.bind_some, Option.bind_some, (play_one hA.1).1, Option.bind_some]
  exact ⟨R1, R2, r1, r2, r3, hA.row (fun j hj => by rw [r4 j hj, c2 j hj])⟩
