/-! thrown, drop, pick, start -/
theorem Wa.len {a : Nat → Int32} (h : Wa a) {q : Nat} (hq : q < 2) : ∃ n : Nat, 1 ≤ n ∧ n ≤ 8 ∧ a (4 + q) = nI n := by
  obtain ⟨⟨n, p, h1, h2, -, h3, -⟩, -⟩ := h.2 q hq
  exact ⟨n, h1, h2, h3⟩
theorem Rj.height {j : JT} {a : Nat → Int32} {q : Nat} (h : Rj j a q) {k : Nat} (hk : k < 8) : f_X1_heightAt j.2.1 (nI k) = some (a (6 + 8 * q + k)) := by
  rw [heightAt_ok _ hk, h.2.2.2.2.2.1 k hk]
theorem Rj.pass {j : JT} {a : Nat → Int32} {q : Nat} (h : Rj j a q) {n k : Nat} (hk : k < n) (hn : n ≤ 8) (hl : a (4 + q) = nI n) : f_X1_isPassAt j.2.2.1 (nI k) = some (a (22 + 8 * q + k)) := by
  unfold f_X1_isPassAt
  rw [h.2.2.2.2.2.2 k (by omega) (by rw [hl]; exact nI_lt hk (by omega))]
  rfl
theorem oneIf_ok {x : Int32} (h : x = 0 ∨ x = 1) : f_X7_oneIf x = some x := by
  rcases h with rfl | rfl <;> rfl
theorem st_thrown {a_now : ST} {b_all : (Nat → Int32)} (hA : Rs a_now b_all) (p1 : Int32) (p2 : Int32) (p3 : Int32) : ∃ (R1 : Int32) (R2 : Int32), f_X7_thrown a_now p1 p2 p3 = some R1 ∧ f_X8_thrown b_all p1 p2 p3 = some R2 ∧ R1 = R2 := by
  obtain ⟨⟨hz, ho, hf, ht, hpc, hw⟩, hb⟩ := hA
  unfold f_X7_thrown f_X8_thrown
  rcases jug_or p1 with ⟨h1, h2⟩ | ⟨q, hq, rfl, h1, h2⟩
  · rw [h1, h2]; exact ⟨_, _, rfl, rfl, rfl⟩
  · obtain ⟨n, n1, n2, n3⟩ := hw.len hq
    have e1 : (4 : Int32) + nI q = nI (4 + q) := nI_add 4 q
    have e2 : (b_all (4 + q)).toInt64 - (1 : Int64) = (nI (n - 1)).toInt64 := by
      rw [n3, nI_l (by omega), nI_l (by omega), show (1 : Int64) = lN 1 from rfl, lN_sub (by omega)]
    rw [h1, h2, Option.bind_some, Option.bind_some, if_neg h10, if_neg h10, e1, if_neg (in_nI (by omega) (by decide)), nI_clamp (by omega), e2, in_within (lo := 0) (hi := nI (n - 1)) (by decide) rfl]
    have hlen : ∀ j : JT, Rj j b_all q → j.2.2.2.1 - (1 : Int32) = nI (n - 1) := fun j hj => by
      rw [hj.2.1, n3]
      obtain ⟨m, rfl⟩ : ∃ m, n = m + 1 := ⟨n - 1, by omega⟩
      rw [nI_pred]; rfl
    have key : ∀ j : JT, Rj j b_all q → ∃ R1 R2 : Int32, ((f_X7_isWithin p2 (0 : Int32) (j.2.2.2.1 - (1 : Int32))).bind (fun q4 => if q4 = 0 then (some (-1 : Int32)) else (if p3 = (0 : Int32) then ((f_X1_heightAt j.2.1 p2).bind (fun q7 => some q7)) else (if p3 = (1 : Int32) then ((f_X1_isPassAt j.2.2.1 p2).bind (fun q9 => (f_X7_oneIf q9).bind (fun q10 => some q10))) else (some (-2 : Int32)))))) = some R1 ∧ ((f_X7_isWithin p2 (0 : Int32) (nI (n - 1))).bind (fun q4 => if q4 = 0 then (some (-1 : Int32)) else (if p3 = 0 then (if ((6 : Int32) + (((8 : Int32) * nI q) + p2)) < 0 ∨ 46 ≤ ((6 : Int32) + (((8 : Int32) * nI q) + p2)).toNatClampNeg then none else (some (b_all ((6 : Int32) + (((8 : Int32) * nI q) + p2)).toNatClampNeg))) else (if p3 = (1 : Int32) then (if ((22 : Int32) + (((8 : Int32) * nI q) + p2)) < 0 ∨ 46 ≤ ((22 : Int32) + (((8 : Int32) * nI q) + p2)).toNatClampNeg then none else (some (b_all ((22 : Int32) + (((8 : Int32) * nI q) + p2)).toNatClampNeg))) else (some (-2 : Int32)))))) = some R2 ∧ R1 = R2 := by
      intro j hj
      rw [hlen j hj]
      rcases within_lit (A := 0) (B := nI (n - 1)) p2 0 (n - 1) rfl rfl (by omega) (by omega) with h | ⟨k, k1, k2, rfl, h⟩
      · rw [h]; exact ⟨_, _, rfl, rfl, rfl⟩
      · have g1 : (6 : Int32) + (((8 : Int32) * nI q) + nI k) = nI (6 + 8 * q + k) := by
          rw [show (8 : Int32) = nI 8 from rfl, show (6 : Int32) = nI 6 from rfl, pk_mul, nI_add, nI_add, Nat.add_assoc]
        have g2 : (22 : Int32) + (((8 : Int32) * nI q) + nI k) = nI (22 + 8 * q + k) := by
          rw [show (8 : Int32) = nI 8 from rfl, show (22 : Int32) = nI 22 from rfl, pk_mul, nI_add, nI_add, Nat.add_assoc]
        rw [h, Option.bind_some, Option.bind_some, if_neg h10, if_neg h10, g1, g2, if_neg (in_nI (by omega) (by decide)), if_neg (in_nI (by omega) (by decide)), nI_clamp (by omega), nI_clamp (by omega), hj.height (by omega), hj.pass (n := n) (by omega) n2 n3]
        have h01 := (hw.2 q hq).2.2 k (by omega)
        rw [Option.bind_some, Option.bind_some, oneIf_ok h01]
        by_cases p30 : p3 = 0
        · subst p30; exact ⟨_, _, rfl, rfl, rfl⟩
        · rw [if_neg p30, if_neg p30]
          by_cases p31 : p3 = 1
          · subst p31; exact ⟨_, _, rfl, rfl, rfl⟩
          · rw [if_neg p31, if_neg p31]; exact ⟨_, _, rfl, rfl, rfl⟩
    rcases (show q = 0 ∨ q = 1 by omega) with rfl | rfl
    · rw [if_pos (show nI 0 = 0 from rfl)]
      exact key a_now.1 hz
    · rw [if_neg (show ¬ nI 1 = 0 by decide)]
      exact key a_now.2.1 ho
theorem comes_ok {a : Nat → Int32} {q k s : Nat} (hq : q < 2) (hk : k < 8) (hs : s < 256) (ha : a q = nI s) : (f_X8_comes a (nI q) (nI k) = some 0 ∧ s / 2 ^ k % 2 = 0) ∨ (f_X8_comes a (nI q) (nI k) = some 1 ∧ s / 2 ^ k % 2 = 1) := by
  unfold f_X8_comes
  have e1 : (0 : Int32) + nI q = nI q := by rw [show (0 : Int32) = nI 0 from rfl, nI_add, Nat.zero_add]
  rw [e1, if_neg (in_nI (by omega) (by decide)), nI_clamp (by omega), ha]
  by_cases h : s / 2 ^ k % 2 = 1
  · rw [if_pos ((b_bit1 k hk s hs).mpr h)]; exact Or.inr ⟨rfl, h⟩
  · rw [if_neg (fun e => h ((b_bit1 k hk s hs).mp e))]; exact Or.inl ⟨rfl, by omega⟩
/-- a juggler's state and the floor change: the class's scene and the reference's row -/
theorem Rs.set0 {S : ST} {a : Nat → Int32} (h : Rs S a) {s0 s1 f : Nat} (h0 : s0 < 256) (h1 : s1 < 256) (e1 : a 1 = nI s1) (hf : pcN s0 + pcN s1 + f ≤ 16) {fl : Int32} (ef : fl = nI f) : Rs ((nI s0, S.1.2.1, S.1.2.2.1, S.1.2.2.2.1, S.1.2.2.2.2.1, S.1.2.2.2.2.2.1, S.1.2.2.2.2.2.2), S.2.1, fl, S.2.2.2.1, S.2.2.2.2.1, S.2.2.2.2.2) (upd (upd a 0 (nI s0)) 38 fl) := by
  obtain ⟨⟨hz, ho, hfl, ht, hpc, hw⟩, hb⟩ := h
  have n : ∀ i, i ≠ 0 → i ≠ 38 → upd (upd a 0 (nI s0)) 38 fl i = a i := fun i i0 i1 => by rw [upd_n i1, upd_n i0]
  have k0 : upd (upd a 0 (nI s0)) 38 fl 0 = nI s0 := by rw [upd_n (by omega), upd_s]
  have k1 : upd (upd a 0 (nI s0)) 38 fl 38 = fl := upd_s
  refine ⟨⟨hz.set k0.symm (by rw [n _ (by omega) (by omega)]; exact hz.2.2.1) (by rw [n _ (by omega) (by omega)]; exact hz.2.2.2.1) (by rw [n _ (by omega) (by omega)]; exact hz.2.2.2.2.1) (n _ (by omega) (by omega)) (fun k hk => n _ (by omega) (by omega)) (fun k hk => n _ (by omega) (by omega)), ?_, k1.symm, by rw [n _ (by omega) (by omega)]; exact ht, by rw [n _ (by omega) (by omega)]; exact hpc, hw.set (fun i i1 i2 => n i (by omega) (by omega)) h0 h1 k0 (by rw [n _ (by omega) (by omega)]; exact e1) (k1.trans ef) hf (fun q hq n' p' _ _ h3 _ h5 => ⟨p', h3, by rw [n _ (by omega) (by omega)]; exact h5⟩)⟩, by rw [n _ (by omega) (by omega)]; exact hb⟩
  obtain ⟨g1, g2, g3, g4, g5, g6, g7⟩ := ho
  exact ⟨by rw [n _ (by omega) (by omega)]; exact g1, by rw [n _ (by omega) (by omega)]; exact g2, by rw [n _ (by omega) (by omega)]; exact g3, by rw [n _ (by omega) (by omega)]; exact g4, by rw [n _ (by omega) (by omega)]; exact g5, fun k hk => by rw [n _ (by omega) (by omega)]; exact g6 k hk, fun k hk hn => by rw [n _ (by omega) (by omega)]; rw [n _ (by omega) (by omega)] at hn; exact g7 k hk hn⟩
theorem Rs.set1 {S : ST} {a : Nat → Int32} (h : Rs S a) {s0 s1 f : Nat} (h0 : s0 < 256) (h1 : s1 < 256) (e0 : a 0 = nI s0) (hf : pcN s0 + pcN s1 + f ≤ 16) {fl : Int32} (ef : fl = nI f) : Rs (S.1, (nI s1, S.2.1.2.1, S.2.1.2.2.1, S.2.1.2.2.2.1, S.2.1.2.2.2.2.1, S.2.1.2.2.2.2.2.1, S.2.1.2.2.2.2.2.2), fl, S.2.2.2.1, S.2.2.2.2.1, S.2.2.2.2.2) (upd (upd a 1 (nI s1)) 38 fl) := by
  obtain ⟨⟨hz, ho, hfl, ht, hpc, hw⟩, hb⟩ := h
  have n : ∀ i, i ≠ 1 → i ≠ 38 → upd (upd a 1 (nI s1)) 38 fl i = a i := fun i i0 i1 => by rw [upd_n i1, upd_n i0]
  have k0 : upd (upd a 1 (nI s1)) 38 fl 1 = nI s1 := by rw [upd_n (by omega), upd_s]
  have k1 : upd (upd a 1 (nI s1)) 38 fl 38 = fl := upd_s
  refine ⟨⟨?_, ho.set k0.symm (by rw [n _ (by omega) (by omega)]; exact ho.2.2.1) (by rw [n _ (by omega) (by omega)]; exact ho.2.2.2.1) (by rw [n _ (by omega) (by omega)]; exact ho.2.2.2.2.1) (n _ (by omega) (by omega)) (fun k hk => n _ (by omega) (by omega)) (fun k hk => n _ (by omega) (by omega)), k1.symm, by rw [n _ (by omega) (by omega)]; exact ht, by rw [n _ (by omega) (by omega)]; exact hpc, hw.set (fun i i1 i2 => n i (by omega) (by omega)) h0 h1 (by rw [n _ (by omega) (by omega)]; exact e0) k0 (k1.trans ef) hf (fun q hq n' p' _ _ h3 _ h5 => ⟨p', h3, by rw [n _ (by omega) (by omega)]; exact h5⟩)⟩, by rw [n _ (by omega) (by omega)]; exact hb⟩
  obtain ⟨g1, g2, g3, g4, g5, g6, g7⟩ := hz
  exact ⟨by rw [n _ (by omega) (by omega)]; exact g1, by rw [n _ (by omega) (by omega)]; exact g2, by rw [n _ (by omega) (by omega)]; exact g3, by rw [n _ (by omega) (by omega)]; exact g4, by rw [n _ (by omega) (by omega)]; exact g5, fun k hk => by rw [n _ (by omega) (by omega)]; exact g6 k hk, fun k hk hn => by rw [n _ (by omega) (by omega)]; rw [n _ (by omega) (by omega)] at hn; exact g7 k hk hn⟩
theorem st_drop {a_now : ST} {a_history_rs : (Nat → ST)} {a_history_oldest : Int32} {a_history_size : Int32} {b_all : (Nat → Int32)} {b_kept : (Nat → Int32)} {b_history : (Nat → Int32)} {b_historyLong : Int32} (hA : Rs a_now b_all) (hH : RH a_history_rs a_history_oldest a_history_size b_history b_historyLong) (p1 : Int32) (p2 : Int32) : ∃ (R1 : Int32 × ST × (Nat → ST) × Int32 × Int32) (R2 : Int32 × (Nat → Int32) × (Nat → Int32) × (Nat → Int32) × Int32), f_X7_drop a_now a_history_rs a_history_oldest a_history_size p1 p2 = some R1 ∧ f_X8_drop b_all b_kept b_history b_historyLong p1 p2 = some R2 ∧ R1.1 = R2.1 ∧ Rs R1.2.1 R2.2.1 ∧ RH R1.2.2.1 R1.2.2.2.1 R1.2.2.2.2 R2.2.2.2.1 R2.2.2.2.2 := by
  unfold f_X7_drop f_X8_drop
  rcases jug_or p1 with ⟨h1, h2⟩ | ⟨q, hq, rfl, h1, h2⟩
  · rw [h1, h2]; exact ⟨_, _, rfl, rfl, rfl, hA, hH⟩
  rcases beat_or p2 with ⟨h3, h4⟩ | ⟨k, hk, rfl, h3, h4⟩
  · rw [h1, h2, h3, h4]; exact ⟨_, _, rfl, rfl, rfl, hA, hH⟩
  rw [h1, h2, Option.bind_some, Option.bind_some, if_neg h10, if_neg h10, h3, h4, Option.bind_some, Option.bind_some, if_neg h10, if_neg h10]
  obtain ⟨s0, s1, f, g0, g1, e0, e1, e2, hs⟩ := hA.1.2.2.2.2.2.1
  obtain ⟨kp, c1, c2⟩ := keep_ok b_all b_kept
  have hz := hA.1.1.1
  have ho := hA.1.2.1.1
  have hfl := hA.1.2.2.1
  have x0 : (0 : Int32) + nI 0 = nI 0 := rfl
  have x1 : (0 : Int32) + nI 1 = nI 1 := rfl
  rcases (show q = 0 ∨ q = 1 by omega) with rfl | rfl
  · rw [if_pos (show nI 0 = 0 from rfl), hz, e0]
    rcases comes_ok (a := b_all) (q := 0) (by omega) hk g0 e0 with ⟨k1, k2⟩ | ⟨k1, k2⟩ <;> rcases expects_or g0 hk with ⟨k3, k4⟩ | ⟨k3, k4⟩
    · rw [k1, k3]; exact ⟨_, _, rfl, rfl, rfl, hA, hH⟩
    · omega
    · omega
    · obtain ⟨l1, l2, l3, l4⟩ := b_lose k hk s0 g0 k2
      rw [k1, k3, Option.bind_some, Option.bind_some, if_neg h10, if_neg h10, c1, Option.bind_some, x0, if_neg (in_nI (by omega) (by decide)), if_neg (in_nI (by omega) (by decide)), nI_clamp (by omega), e0, l2]
      obtain ⟨R, hi, hl, r1, r2, r3⟩ := record_ok hH (hA.row (fun j hj => c2 j hj)) (nI (f + 1))
      rw [upd_n (show (38 : Nat) ≠ 0 by omega), e2, nI_1, upd_s, r2, Option.bind_some, r1, Option.bind_some, if_pos (show nI 0 = 0 from rfl)]
      unfold f_X1_lose
      rw [l1, Option.bind_some, hfl, e2, nI_1]
      exact ⟨_, _, rfl, rfl, rfl, hA.set0 l3 g1 e1 (f := f + 1) (by omega) rfl, r3⟩
  · rw [if_neg (show ¬ nI 1 = 0 by decide), ho, e1]
    rcases comes_ok (a := b_all) (q := 1) (by omega) hk g1 e1 with ⟨k1, k2⟩ | ⟨k1, k2⟩ <;> rcases expects_or g1 hk with ⟨k3, k4⟩ | ⟨k3, k4⟩
    · rw [k1, k3]; exact ⟨_, _, rfl, rfl, rfl, hA, hH⟩
    · omega
    · omega
    · obtain ⟨l1, l2, l3, l4⟩ := b_lose k hk s1 g1 k2
      rw [k1, k3, Option.bind_some, Option.bind_some, if_neg h10, if_neg h10, c1, Option.bind_some, x1, if_neg (in_nI (by omega) (by decide)), if_neg (in_nI (by omega) (by decide)), nI_clamp (by omega), e1, l2]
      obtain ⟨R, hi, hl, r1, r2, r3⟩ := record_ok hH (hA.row (fun j hj => c2 j hj)) (nI (f + 1))
      rw [upd_n (show (38 : Nat) ≠ 1 by omega), e2, nI_1, upd_s, r2, Option.bind_some, r1, Option.bind_some, if_neg (show ¬ nI 1 = 0 by decide)]
      unfold f_X1_lose
      rw [l1, Option.bind_some, hfl, e2, nI_1]
      exact ⟨_, _, rfl, rfl, rfl, hA.set1 g0 l3 e0 (f := f + 1) (by omega) rfl, r3⟩
theorem st_pick {a_now : ST} {a_history_rs : (Nat → ST)} {a_history_oldest : Int32} {a_history_size : Int32} {b_all : (Nat → Int32)} {b_kept : (Nat → Int32)} {b_history : (Nat → Int32)} {b_historyLong : Int32} (hA : Rs a_now b_all) (hH : RH a_history_rs a_history_oldest a_history_size b_history b_historyLong) (p1 : Int32) (p2 : Int32) : ∃ (R1 : Int32 × ST × (Nat → ST) × Int32 × Int32) (R2 : Int32 × (Nat → Int32) × (Nat → Int32) × (Nat → Int32) × Int32), f_X7_pick a_now a_history_rs a_history_oldest a_history_size p1 p2 = some R1 ∧ f_X8_pick b_all b_kept b_history b_historyLong p1 p2 = some R2 ∧ R1.1 = R2.1 ∧ Rs R1.2.1 R2.2.1 ∧ RH R1.2.2.1 R1.2.2.2.1 R1.2.2.2.2 R2.2.2.2.1 R2.2.2.2.2 := by
  unfold f_X7_pick f_X8_pick
  rcases jug_or p1 with ⟨h1, h2⟩ | ⟨q, hq, rfl, h1, h2⟩
  · rw [h1, h2]; exact ⟨_, _, rfl, rfl, rfl, hA, hH⟩
  rcases beat_or p2 with ⟨h3, h4⟩ | ⟨k, hk, rfl, h3, h4⟩
  · rw [h1, h2, h3, h4]; exact ⟨_, _, rfl, rfl, rfl, hA, hH⟩
  rw [h1, h2, Option.bind_some, Option.bind_some, if_neg h10, if_neg h10, h3, h4, Option.bind_some, Option.bind_some, if_neg h10, if_neg h10]
  obtain ⟨s0, s1, f, g0, g1, e0, e1, e2, hs⟩ := hA.1.2.2.2.2.2.1
  obtain ⟨kp, c1, c2⟩ := keep_ok b_all b_kept
  have hz := hA.1.1.1
  have ho := hA.1.2.1.1
  have hfl := hA.1.2.2.1
  by_cases hf0 : b_all 38 = 0
  · rw [if_pos (hfl.trans hf0), if_pos hf0]; exact ⟨_, _, rfl, rfl, rfl, hA, hH⟩
  rw [if_neg (fun e => hf0 (hfl.symm.trans e)), if_neg hf0]
  obtain ⟨f, rfl⟩ : ∃ g, f = g + 1 := ⟨f - 1, by
    have : f ≠ 0 := fun e => hf0 (by rw [e2, e]; rfl)
    omega⟩
  have x0 : (0 : Int32) + nI 0 = nI 0 := rfl
  have x1 : (0 : Int32) + nI 1 = nI 1 := rfl
  rcases (show q = 0 ∨ q = 1 by omega) with rfl | rfl
  · rw [if_pos (show nI 0 = 0 from rfl), hz, e0]
    rcases comes_ok (a := b_all) (q := 0) (by omega) hk g0 e0 with ⟨k1, k2⟩ | ⟨k1, k2⟩ <;> rcases expects_or g0 hk with ⟨k3, k4⟩ | ⟨k3, k4⟩
    · obtain ⟨l1, l2, l3, l4⟩ := b_or2 k hk s0 g0 k2
      rw [k1, k3, Option.bind_some, Option.bind_some, if_pos rfl, if_pos rfl, c1, Option.bind_some, x0, if_neg (in_nI (by omega) (by decide)), if_neg (in_nI (by omega) (by decide)), nI_clamp (by omega), e0, l2]
      obtain ⟨R, hi, hl, r1, r2, r3⟩ := record_ok hH (hA.row (fun j hj => c2 j hj)) (nI f)
      rw [upd_n (show (38 : Nat) ≠ 0 by omega), e2, nI_pred, upd_s, r2, Option.bind_some, r1, Option.bind_some, if_pos (show nI 0 = 0 from rfl)]
      unfold f_X1_expect
      rw [l1, Option.bind_some, hfl, e2, nI_pred]
      exact ⟨_, _, rfl, rfl, rfl, hA.set0 l3 g1 e1 (f := f) (by omega) rfl, r3⟩
    · omega
    · omega
    · rw [k1, k3]; exact ⟨_, _, rfl, rfl, rfl, hA, hH⟩
  · rw [if_neg (show ¬ nI 1 = 0 by decide), ho, e1]
    rcases comes_ok (a := b_all) (q := 1) (by omega) hk g1 e1 with ⟨k1, k2⟩ | ⟨k1, k2⟩ <;> rcases expects_or g1 hk with ⟨k3, k4⟩ | ⟨k3, k4⟩
    · obtain ⟨l1, l2, l3, l4⟩ := b_or2 k hk s1 g1 k2
      rw [k1, k3, Option.bind_some, Option.bind_some, if_pos rfl, if_pos rfl, c1, Option.bind_some, x1, if_neg (in_nI (by omega) (by decide)), if_neg (in_nI (by omega) (by decide)), nI_clamp (by omega), e1, l2]
      obtain ⟨R, hi, hl, r1, r2, r3⟩ := record_ok hH (hA.row (fun j hj => c2 j hj)) (nI f)
      rw [upd_n (show (38 : Nat) ≠ 1 by omega), e2, nI_pred, upd_s, r2, Option.bind_some, r1, Option.bind_some, if_neg (show ¬ nI 1 = 0 by decide)]
      unfold f_X1_expect
      rw [l1, Option.bind_some, hfl, e2, nI_pred]
      exact ⟨_, _, rfl, rfl, rfl, hA.set1 g0 l3 e0 (f := f) (by omega) rfl, r3⟩
    · omega
    · omega
    · rw [k1, k3]; exact ⟨_, _, rfl, rfl, rfl, hA, hH⟩
theorem st_start {a_now : ST} {a_history_rs : (Nat → ST)} {a_history_oldest : Int32} {a_history_size : Int32} {b_all : (Nat → Int32)} {b_kept : (Nat → Int32)} {b_history : (Nat → Int32)} {b_historyLong : Int32} (hA : Rs a_now b_all) (hH : RH a_history_rs a_history_oldest a_history_size b_history b_historyLong) (p1 : Int32) (p2 : Int32) : ∃ (R1 : Int32 × ST × (Nat → ST) × Int32 × Int32) (R2 : Int32 × (Nat → Int32) × (Nat → Int32) × (Nat → Int32) × Int32), f_X7_start a_now a_history_rs a_history_oldest a_history_size p1 p2 = some R1 ∧ f_X8_start b_all b_kept b_history b_historyLong p1 p2 = some R2 ∧ R1.1 = R2.1 ∧ Rs R1.2.1 R2.2.1 ∧ RH R1.2.2.1 R1.2.2.2.1 R1.2.2.2.2 R2.2.2.2.1 R2.2.2.2.2 := by
  unfold f_X7_start f_X8_start
  rw [in_within (p := p1) (lo := 0) (hi := 8) (by decide) (by decide), in_within (p := p2) (lo := 0) (hi := 8) (by decide) (by decide)]
  rcases within_lit (A := 0) (B := 8) p1 0 8 rfl rfl (by omega) (by omega) with h | ⟨n, -, hn, rfl, h⟩
  · rw [h]; exact ⟨_, _, rfl, rfl, rfl, hA, hH⟩
  rcases within_lit (A := 0) (B := 8) p2 0 8 rfl rfl (by omega) (by omega) with h' | ⟨m, -, hm, rfl, h'⟩
  · rw [h, h']; exact ⟨_, _, rfl, rfl, rfl, hA, hH⟩
  rw [h, Option.bind_some, Option.bind_some, if_neg h10, if_neg h10, h', Option.bind_some, Option.bind_some, if_neg h10, if_neg h10]
  obtain ⟨kp, c1, c2⟩ := keep_ok b_all b_kept
  obtain ⟨r, d1, d2⟩ := clubs_ok hA.1
  obtain ⟨R, hi, hl, r1, r2, r3⟩ := record_ok hH (hA.row (fun j hj => c2 j hj)) r
  obtain ⟨f1, f2, f3⟩ := b_first n (by omega)
  obtain ⟨f4, f5, f6⟩ := b_first m (by omega)
  rw [c1, Option.bind_some, d1, Option.bind_some, r1, Option.bind_some, d2, Option.bind_some, f1, f4]
  obtain ⟨all', s1, s2, s3⟩ := start_loop kp b_history (upd (upd (upd (upd b_all 0 (nI (2 ^ n - 1))) 1 (nI (2 ^ m - 1))) 2 (0 : Int32)) 3 (0 : Int32)) b_historyLong r
  rw [s1, r2]
  unfold f_X4_begin f_X1_begin f_X7_firstBeats
  rw [f1, f4]
  refine ⟨_, _, rfl, rfl, rfl, ?_, r3⟩
  obtain ⟨⟨hz, ho, hfl, ht, hpc, hw⟩, hb⟩ := hA
  have v0 : all' 0 = nI (2 ^ n - 1) := by rw [s2 _ (by omega), upd_n (by omega), upd_n (by omega), upd_n (by omega), upd_s]
  have v1 : all' 1 = nI (2 ^ m - 1) := by rw [s2 _ (by omega), upd_n (by omega), upd_n (by omega), upd_s]
  have v2 : all' 2 = 0 := by rw [s2 _ (by omega), upd_n (by omega), upd_s]
  have v3 : all' 3 = 0 := by rw [s2 _ (by omega), upd_s]
  have vp : ∀ i, 4 ≤ i → i < 38 → all' i = b_all i := fun i i1 i2 => by rw [s2 _ (by omega), upd_n (by omega), upd_n (by omega), upd_n (by omega), upd_n (by omega)]
  refine ⟨⟨hz.set v0.symm v2.symm (s3 _ (by omega) (by omega)).symm (s3 _ (by omega) (by omega)).symm (vp _ (by omega) (by omega)) (fun k hk => vp _ (by omega) (by omega)) (fun k hk => vp _ (by omega) (by omega)), ho.set v1.symm v3.symm (s3 _ (by omega) (by omega)).symm (s3 _ (by omega) (by omega)).symm (vp _ (by omega) (by omega)) (fun k hk => vp _ (by omega) (by omega)) (fun k hk => vp _ (by omega) (by omega)), (s3 _ (by omega) (by omega)).symm, (s3 _ (by omega) (by omega)).symm, (s3 _ (by omega) (by omega)).symm, hw.set vp f3 f6 v0 v1 (s3 38 (by omega) (by omega)) (f := 0) (by omega) (fun q hq n' p' i1 i2 i3 i4 i5 => ⟨0, by omega, ?_⟩)⟩, (s3 _ (by omega) (by omega)).symm⟩
  rcases (show q = 0 ∨ q = 1 by omega) with rfl | rfl
  · exact v2
  · exact v3
