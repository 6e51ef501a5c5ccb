/-! patterns: the pad is read as one, the questions, the way back -/
section PT3
variable {codes pad a b : Nat → Int32} {n : Nat} {ch h : Nat → Nat}
def Gd (ch : Nat → Nat) (n : Nat) : Prop := ∀ k, k < n → 48 ≤ ch k ∧ ch k ≤ 55
theorem learn3_run (hP : Pch codes pad n ch) (n8 : n ≤ 8) (al : Int32) : ∀ (r k fuel : Nat) (hs : Nat → Int32), k + r = n → r < fuel → Gd ch k → PH hs (fun k => ch k - 48) k → ∃ hs', (f_X3_learn_L17 al codes (nI n) fuel (nI k) hs = some (1, hs', nI n) ∧ Gd ch n ∧ PH hs' (fun k => ch k - 48) n) ∨ (f_X3_learn_L17 al codes (nI n) fuel (nI k) hs = some (0, hs', al) ∧ ¬ Gd ch n) := by
  intro r
  induction r with
  | zero =>
    intro k fuel hs h1 h2 h3 h4
    obtain ⟨g, rfl⟩ : ∃ g, fuel = g + 1 := ⟨fuel - 1, by omega⟩
    obtain rfl : k = n := by omega
    exact ⟨hs, Or.inl ⟨by rw [f_X3_learn_L17, if_pos (nI_le (by omega) (by omega))], h3, h4⟩⟩
  | succ r ih =>
    intro k fuel hs h1 h2 h3 h4
    obtain ⟨g, rfl⟩ : ∃ g, fuel = g + 1 := ⟨fuel - 1, by omega⟩
    have hk : k < n := by omega
    by_cases hc : 48 ≤ ch k ∧ ch k ≤ 55
    · rw [f_X3_learn_L17, if_neg (nI_ge hk (by omega)), isHeightAt_yes hP hk hc.1 hc.2, Option.bind_some, if_neg h10, digit_ok hP hk hc.1, Option.bind_some, setAt_ok _ _ (by omega) (by omega), Option.bind_some, nI_1]
      exact ih (k + 1) g _ (by omega) (by omega) (fun j hj => by
        by_cases hjk : j = k
        · subst hjk; exact hc
        · exact h3 j (by omega)) (fun j hj => by
        by_cases hjk : j = k
        · subst hjk; exact ⟨show ch j - 48 < 8 by omega, upd_s⟩
        · rw [upd_n hjk]; exact h4 j (by omega))
    · rw [f_X3_learn_L17, if_neg (nI_ge hk (by omega)), isHeightAt_no hP hk (by omega), Option.bind_some, if_pos rfl]
      exact ⟨hs, Or.inr ⟨rfl, fun hg => hc (hg k hk)⟩⟩
theorem reads_no (al : Int32) {x : Int32} {fuel : Nat} (hs : Nat → Int32) (hf : 0 < fuel) : f_X8_readsPattern_L23 pad (nI n) al fuel 0 x hs = some (0, hs, al) := by
  obtain ⟨g, rfl⟩ : ∃ g, fuel = g + 1 := ⟨fuel - 1, by omega⟩
  rw [f_X8_readsPattern_L23]
  by_cases hx : nI n ≤ x
  · rw [if_pos hx, if_pos (Or.inl rfl)]
  · rw [if_neg hx, if_pos rfl, if_pos (Or.inl rfl)]
theorem reads_run (hP : Pch codes pad n ch) (n8 : n ≤ 8) (al : Int32) : ∀ (r k fuel : Nat) (hs : Nat → Int32), k + r = n → r + 1 < fuel → Gd ch k → PH hs (fun k => ch k - 48) k → ∃ hs', (f_X8_readsPattern_L23 pad (nI n) al fuel 1 (nI k) hs = some (1, hs', al) ∧ Gd ch n ∧ PH hs' (fun k => ch k - 48) n) ∨ (f_X8_readsPattern_L23 pad (nI n) al fuel 1 (nI k) hs = some (0, hs', al) ∧ ¬ Gd ch n) := by
  intro r
  induction r with
  | zero =>
    intro k fuel hs h1 h2 h3 h4
    obtain ⟨g, rfl⟩ : ∃ g, fuel = g + 1 := ⟨fuel - 1, by omega⟩
    obtain rfl : k = n := by omega
    exact ⟨hs, Or.inl ⟨by rw [f_X8_readsPattern_L23, if_pos (nI_le (by omega) (by omega)), if_pos (Or.inr rfl)], h3, h4⟩⟩
  | succ r ih =>
    intro k fuel hs h1 h2 h3 h4
    obtain ⟨g, rfl⟩ : ∃ g, fuel = g + 1 := ⟨fuel - 1, by omega⟩
    have hk : k < n := by omega
    have c126 := (hP.2 k hk).2.2
    by_cases hc : 48 ≤ ch k ∧ ch k ≤ 55
    · rw [f_X8_readsPattern_L23, if_neg (nI_ge hk (by omega)), if_neg h10, isAt_yes hP (A := 48) (B := 55) (lo := 48) (hi := 55) rfl rfl hk hc.1 hc.2 (by omega), Option.bind_some, if_neg (in_nI (by omega) (by decide)), if_neg (in_nI (by omega) (by decide)), nI_clamp (by omega), (hP.2 k hk).2.1, show (48 : Int32) = nI 48 from rfl, pk_sub hc.1, nI_1]
      exact ih (k + 1) g _ (by omega) (by omega) (fun j hj => by
        by_cases hjk : j = k
        · subst hjk; exact hc
        · exact h3 j (by omega)) (fun j hj => by
        by_cases hjk : j = k
        · subst hjk; exact ⟨show ch j - 48 < 8 by omega, upd_s⟩
        · rw [upd_n hjk]; exact h4 j (by omega))
    · rw [f_X8_readsPattern_L23, if_neg (nI_ge hk (by omega)), if_neg h10, isAt_no hP (k := k) (A := 48) (B := 55) (lo := 48) (hi := 55) rfl rfl (by omega) (by omega) (by omega) (fun _ => by omega), Option.bind_some, if_neg (in_nI (by omega) (by decide)), if_neg (in_nI (by omega) (by decide)), reads_no al _ (by omega)]
      exact ⟨_, Or.inr ⟨rfl, fun hg => hc (hg k hk)⟩⟩
/-- the pad as a pattern, in both -/
theorem learn_ok (hP : Pch codes pad n ch) (hs : Nat → Int32) (al : Int32) (ht : Nat → Int32) (bm : Int32) :
    (∃ a al' b bm', f_X3_learn hs al codes (nI n) = some (0, a, al') ∧ f_X8_readsPattern pad (nI n) ht bm = some (0, b, bm')) ∨
    (∃ a b h, 1 ≤ n ∧ n ≤ 8 ∧ PH a h n ∧ PH b h n ∧ f_X3_learn hs al codes (nI n) = some (1, a, nI n) ∧ f_X8_readsPattern pad (nI n) ht bm = some (1, b, nI n)) := by
  have hz : 100 < zF := by decide
  have hn := hP.1
  unfold f_X3_learn f_X8_readsPattern
  rw [in_within (p := nI n) (lo := 1) (hi := 8) (by decide) (by decide), show (1 : Int32) = nI 1 from rfl, show (8 : Int32) = nI 8 from rfl]
  by_cases hc : 1 ≤ n ∧ n ≤ 8
  · rw [isWithin_yes hc.1 hc.2 (by omega), Option.bind_some, Option.bind_some, if_neg h10]
    obtain ⟨a, h1⟩ := learn3_run hP hc.2 al n 0 zF hs (by omega) (by omega) (fun k hk => by omega) (fun k hk => by omega)
    obtain ⟨b, h2⟩ := reads_run hP hc.2 (nI n) n 0 zF ht (by omega) (by omega) (fun k hk => by omega) (fun k hk => by omega)
    rcases h1 with ⟨e1, e2, e3⟩ | ⟨e1, e2⟩
    · rcases h2 with ⟨f1, f2, f3⟩ | ⟨f1, f2⟩
      · exact Or.inr ⟨a, b, _, hc.1, hc.2, e3, f3, e1, f1⟩
      · exact absurd e2 f2
    · rcases h2 with ⟨f1, f2, f3⟩ | ⟨f1, f2⟩
      · exact absurd f2 e2
      · exact Or.inl ⟨a, al, b, nI n, e1, f1⟩
  · rw [isWithin_no (by omega) (by omega) (by omega) (by omega), Option.bind_some, Option.bind_some, if_pos rfl]
    exact Or.inl ⟨hs, al, ht, nI n, rfl, reads_no (nI n) ht (by omega)⟩
theorem back_run (ha : PH a h n) (hb : PH b h n) (n1 : 1 ≤ n) (n8 : n ≤ 8) {p : Nat} (hp : p < n) (pad : Nat → Int32) (pl : Int32) : ∀ (r k fuel fuel' : Nat), k + r = n → r < fuel → r < fuel' → (∃ c, k ≤ c ∧ c < n ∧ LL h n c = n - 1 - p) → ∃ v : Int32, f_X3_heightTurnedBack_L2 a (nI n) (nI p) fuel (nI k) = some v ∧ f_X8_back_L40 pad pl b (nI n) (nI p) fuel' (nI k) = some (v, b, nI n) := by
  intro r
  induction r with
  | zero => intro k fuel fuel' h1 h2 h3 ⟨c, c1, c2, _⟩; omega
  | succ r ih =>
    intro k fuel fuel' h1 h2 h3 ⟨c, c1, c2, c3⟩
    obtain ⟨g, rfl⟩ : ∃ g, fuel = g + 1 := ⟨fuel - 1, by omega⟩
    obtain ⟨g', rfl⟩ : ∃ g, fuel' = g + 1 := ⟨fuel' - 1, by omega⟩
    have hk : k < n := by omega
    have hl := LL_lt (h := h) n1 k
    have hh := hb k hk
    rw [f_X3_heightTurnedBack_L2, if_neg (nI_ge hk (by omega)), landing3 ha n8 hk, Option.bind_some, f_X8_back_L40, lands8 hb n8 hk, Option.bind_some, show nI n - (1 : Int32) = nI (n - 1) from pk_sub (b := 1) n1, pk_sub (by omega), heightAt3 ha n1 n8 (by omega), nI_1, if_neg (in_nI (by omega) (by decide)), nI_clamp (by omega), hh.2, Nat.mod_eq_of_lt hk]
    by_cases he : n - 1 - LL h n k = p
    · rw [if_pos (by rw [he]), if_pos (by rw [he])]
      exact ⟨_, rfl, rfl⟩
    · rw [if_neg (nI_ne he (by omega) (by omega)), if_neg (nI_ne he (by omega) (by omega))]
      exact ih (k + 1) g g' (by omega) (by omega) (by omega) ⟨c, by
        by_cases hck : c = k
        · subst hck; omega
        · omega, c2, c3⟩
end PT3
theorem oneIf0 : f_X7_oneIf 0 = some 0 := rfl
theorem oneIf1 : f_X7_oneIf 1 = some 1 := rfl
theorem st_pattern {a_pad_codes : (Nat → Int32)} {a_pad_length : Int32} {a_padPattern_heights : (Nat → Int32)} {a_padPattern_length : Int32} {b_pad : (Nat → Int32)} {b_padLong : Int32} {b_heights : (Nat → Int32)} {b_many : Int32} (hPd : RP a_pad_codes a_pad_length b_pad b_padLong) (p1 : Int32) : ∃ (R1 : Int32 × (Nat → Int32) × Int32) (R2 : Int32 × (Nat → Int32) × Int32), f_X7_pattern a_pad_codes a_pad_length a_padPattern_heights a_padPattern_length p1 = some R1 ∧ f_X8_pattern b_pad b_padLong b_heights b_many p1 = some R2 ∧ R1.1 = R2.1 := by
  have hz : 100 < zF := by decide
  obtain ⟨n, ch, rfl, rfl, hP⟩ := hPd.ch
  unfold f_X7_pattern f_X8_pattern
  rcases learn_ok hP a_padPattern_heights a_padPattern_length b_heights b_many with ⟨a, al, b, bm, e1, e2⟩ | ⟨a, b, h, n1, n8, ha, hb, e1, e2⟩
  · rw [e1, e2, Option.bind_some, Option.bind_some, if_pos rfl, if_pos rfl]
    exact ⟨_, _, rfl, rfl, rfl⟩
  · rw [e1, e2, Option.bind_some, Option.bind_some, if_neg h10, if_neg h10, in_within (p := p1) (lo := 0) (hi := 6) (by decide) (by decide)]
    obtain ⟨s, s1, s2, s3, s4⟩ := sound_ok ha hb n1 n8
    show ∃ R1 R2, (f_X7_isWithin p1 0 6).bind _ = some R1 ∧ (f_X7_isWithin p1 0 6).bind _ = some R2 ∧ _
    rcases within_nI (p := p1) 0 6 (by omega) (by omega) with hw | ⟨j, j0, j6, rfl, hw⟩
    · rw [show f_X7_isWithin p1 0 6 = some 0 from hw, Option.bind_some, Option.bind_some, if_pos rfl, if_pos rfl]
      exact ⟨_, _, rfl, rfl, rfl⟩
    · rw [show f_X7_isWithin (nI j) 0 6 = some 1 from hw, Option.bind_some, Option.bind_some, if_neg h10, if_neg h10, s2, s3]
      rw [Option.bind_some, Option.bind_some, Option.bind_some]
      rcases s1 with rfl | rfl
      · rw [if_pos rfl, if_pos rfl, if_pos rfl]
        by_cases hj : nI j = 0
        · rw [if_pos hj, if_pos hj, hj, if_neg (by decide), if_neg (by decide), if_neg (by decide), if_neg (by decide), if_neg (by decide), if_neg (by decide), oneIf0]
          exact ⟨_, _, rfl, rfl, rfl⟩
        · rw [if_neg hj, if_neg hj]
          exact ⟨_, _, rfl, rfl, rfl⟩
      · rw [if_neg h10, if_neg h10, if_neg h10]
        obtain ⟨-, hinj⟩ := s4 rfl
        obtain ⟨S, S1, S2, S3⟩ := sum_run ha hb n1 n8 n 0 0 zF zF (by omega) (by omega) (by omega) (by omega)
        have hS2 : f_X3_clubs a (nI n) = some (nI S / nI n) := S2
        have hS3 : f_X8_sumOfHeights b (nI n) = some (nI S) := S3
        obtain ⟨v, v1, v2⟩ := start_ok ha hb n1 n8
        obtain ⟨w, w1, w2⟩ := orbits_run ha hb n1 n8 hinj n 0 0 0 zF zF (by omega) (by omega) (by omega) (by omega) (fun x hx => ⟨fun hm => by unfold mem at hm; rw [Nat.zero_div] at hm; omega, fun ⟨c, hc, _⟩ => by omega⟩)
        have hw1 : f_X3_orbits a (nI n) = some w := w1
        have hw2 : f_X8_orbits b (nI n) = some w := w2
        obtain ⟨Y, -, y2, y3, -⟩ := orb_ok ha hb n8 (show 0 < n by omega)
        have hy2 : f_X3_orbitThrough a (nI n) 0 = some (nI Y) := y2
        have hy3 : f_X8_orbitOf b (nI n) 0 = some (nI Y) := y3
        obtain ⟨u, u1, u2⟩ := period_run ha hb n1 n8 (n - 1) 1 zF zF (by omega) (by omega) (by omega) (by omega) (fun e e1 e2 => by omega)
        have hu1 : f_X3_period a (nI n) = some u := u1
        have hu2 : f_X8_period b (nI n) = some u := u2
        unfold f_X8_told f_X7_firstBeats
        have hn0 : ¬ nI n = 0 := nI_ne0 (by omega) (by omega)
        rw [hS3, Option.bind_some, if_neg hn0, hS2, v1, v2, hw1, hw2, hy2, hy3, hu1, hu2]
        rcases (show j = 0 ∨ j = 1 ∨ j = 2 ∨ j = 3 ∨ j = 4 ∨ j = 5 ∨ j = 6 by omega) with rfl | rfl | rfl | rfl | rfl | rfl | rfl
        · exact ⟨_, _, rfl, rfl, rfl⟩
        · exact ⟨_, _, rfl, rfl, rfl⟩
        · exact ⟨_, _, rfl, rfl, rfl⟩
        · exact ⟨_, _, rfl, rfl, rfl⟩
        · exact ⟨_, _, rfl, rfl, rfl⟩
        · exact ⟨_, _, rfl, rfl, rfl⟩
        · rw [if_neg (show ¬ nI 6 = 0 by decide), if_neg (show ¬ nI 6 = 1 by decide), if_neg (show ¬ nI 6 = 2 by decide), if_neg (show ¬ nI 6 = 3 by decide), if_neg (show ¬ nI 6 = 4 by decide), if_neg (show ¬ nI 6 = 5 by decide), if_pos (show nI 6 = 6 by decide), if_neg (show ¬ nI 6 = 1 by decide), if_neg (show ¬ nI 6 = 2 by decide), if_neg (show ¬ nI 6 = 3 by decide), if_neg (show ¬ nI 6 = 4 by decide), if_neg (show ¬ nI 6 = 5 by decide), Option.bind_some, Option.bind_some, Option.bind_some, Option.bind_some]
          by_cases hv : v = ((1 : Int32) <<< ((nI S / nI n) &&& 31)) - (1 : Int32)
          · rw [if_pos hv, if_pos hv]
            exact ⟨_, _, rfl, rfl, rfl⟩
          · rw [if_neg hv, if_neg hv]
            exact ⟨_, _, rfl, rfl, rfl⟩
theorem wide_pred : ∀ n, n < 9 → (nI n - 1).toInt64 = (nI n).toInt64 - 1 := by decide +kernel
theorem st_back {a_pad_codes : (Nat → Int32)} {a_pad_length : Int32} {a_padPattern_heights : (Nat → Int32)} {a_padPattern_length : Int32} {b_pad : (Nat → Int32)} {b_padLong : Int32} {b_heights : (Nat → Int32)} {b_many : Int32} (hPd : RP a_pad_codes a_pad_length b_pad b_padLong) (p1 : Int32) : ∃ (R1 : Int32 × (Nat → Int32) × Int32) (R2 : Int32 × (Nat → Int32) × Int32), f_X7_back a_pad_codes a_pad_length a_padPattern_heights a_padPattern_length p1 = some R1 ∧ f_X8_back b_pad b_padLong b_heights b_many p1 = some R2 ∧ R1.1 = R2.1 := by
  have hz : 100 < zF := by decide
  obtain ⟨n, ch, rfl, rfl, hP⟩ := hPd.ch
  unfold f_X7_back f_X8_back
  rcases learn_ok hP a_padPattern_heights a_padPattern_length b_heights b_many with ⟨a, al, b, bm, e1, e2⟩ | ⟨a, b, h, n1, n8, ha, hb, e1, e2⟩
  · rw [e1, e2, Option.bind_some, Option.bind_some, if_pos rfl, if_pos rfl]
    exact ⟨_, _, rfl, rfl, rfl⟩
  · rw [e1, e2, Option.bind_some, Option.bind_some, if_neg h10, if_neg h10, in_within (p := p1) (lo := 0) (hi := nI n - 1) (by decide) (wide_pred n (by omega))]
    obtain ⟨s, s1, s2, s3, s4⟩ := sound_ok ha hb n1 n8
    show ∃ R1 R2, (f_X7_isWithin p1 0 (nI n - 1)).bind _ = some R1 ∧ (f_X7_isWithin p1 0 (nI n - 1)).bind _ = some R2 ∧ _
    rw [show nI n - (1 : Int32) = nI (n - 1) from pk_sub (b := 1) n1]
    rcases within_nI (p := p1) 0 (n - 1) (by omega) (by omega) with hw | ⟨p, p0, p6, rfl, hw⟩
    · rw [show f_X7_isWithin p1 0 (nI (n - 1)) = some 0 from hw, Option.bind_some, Option.bind_some, if_pos rfl, if_pos rfl]
      exact ⟨_, _, rfl, rfl, rfl⟩
    · rw [show f_X7_isWithin (nI p) 0 (nI (n - 1)) = some 1 from hw, Option.bind_some, Option.bind_some, if_neg h10, if_neg h10, s2, s3, Option.bind_some, Option.bind_some]
      rcases s1 with rfl | rfl
      · rw [if_pos rfl, if_pos rfl]
        exact ⟨_, _, rfl, rfl, rfl⟩
      · rw [if_neg h10, if_neg h10]
        obtain ⟨hsur, -⟩ := s4 rfl
        obtain ⟨c, c1, c2⟩ := hsur (n - 1 - p) (by omega)
        obtain ⟨v, v1, v2⟩ := back_run ha hb n1 n8 (p := p) (by omega) b_pad (nI n) n 0 zF zF (by omega) (by omega) (by omega) ⟨c, by omega, c1, c2⟩
        have hv1 : f_X3_heightTurnedBack a (nI n) (nI p) = some v := v1
        rw [hv1, Option.bind_some]
        exact ⟨_, _, rfl, v2, rfl⟩
