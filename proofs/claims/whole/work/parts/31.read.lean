/-! the pad is read: st_read -/
/-- the row after the reading, at the place i of the loop -/
def Wd (a rH rP : Nat → Int32) (q i j : Nat) : Int32 := if 6 + 8 * q ≤ j ∧ j < 6 + 8 * q + i then rH (j - (6 + 8 * q)) else if 22 + 8 * q ≤ j ∧ j < 22 + 8 * q + i then rP (j - (22 + 8 * q)) else a j
theorem read_loop (kept hist all pad rH rP : Nat → Int32) (hl pl : Int32) {q m : Nat} (hq : q < 2) (hm : m ≤ 8) : ∃ s, (f_X8_read_L28 kept hist hl pad pl rH rP (nI m) (nI q) zF 0 all = (f_X8_changed kept hist hl (nI q)).bind (fun q7 => some (q7.1, upd (upd s (4 + q) (nI m)) (2 + q) 0, kept, q7.2.1, q7.2.2, (0 : Int32), rH, rP, nI m))) ∧ ∀ j, s j = Wd all rH rP q m j := by
  obtain ⟨k', e, g3⟩ := loop_run (fun n x s => f_X8_read_L28 kept hist hl pad pl rH rP (nI m) (nI q) n x s) m (fun s => (f_X8_changed kept hist hl (nI q)).bind (fun q7 => some (q7.1, upd (upd s (4 + q) (nI m)) (2 + q) 0, kept, q7.2.1, q7.2.2, (0 : Int32), rH, rP, nI m))) (fun i s => ∀ j, s j = Wd all rH rP q i j)
    (fun n s _ => by
      show f_X8_read_L28 kept hist hl pad pl rH rP (nI m) (nI q) (n + 1) (nI m) s = _
      rw [f_X8_read_L28, if_pos (nI_le (Nat.le_refl _) (by omega)), show (4 : Int32) + nI q = nI (4 + q) from nI_add 4 q, show (2 : Int32) + nI q = nI (2 + q) from nI_add 2 q, if_neg (in_nI (by omega) (by decide)), if_neg (in_nI (by omega) (by decide)), nI_clamp (by omega), nI_clamp (by omega)])
    (fun n i s hi h => by
      refine ⟨upd (upd s (6 + 8 * q + i) (rH i)) (22 + 8 * q + i) (rP i), ?_, ?_⟩
      · show f_X8_read_L28 kept hist hl pad pl rH rP (nI m) (nI q) (n + 1) (nI i) s = f_X8_read_L28 kept hist hl pad pl rH rP (nI m) (nI q) n (nI (i + 1)) _
        rw [f_X8_read_L28, if_neg (nI_ge hi (by omega)), show (6 : Int32) + (8 : Int32) * nI q = nI (6 + 8 * q) from by rw [show (8 : Int32) = nI 8 from rfl, pk_mul, show (6 : Int32) = nI 6 from rfl, nI_add], show (22 : Int32) + (8 : Int32) * nI q = nI (22 + 8 * q) from by rw [show (8 : Int32) = nI 8 from rfl, pk_mul, show (22 : Int32) = nI 22 from rfl, nI_add], nI_add, nI_add, if_neg (in_nI (by omega) (by decide)), if_neg (in_nI (by omega) (by decide)), if_neg (in_nI (by omega) (by decide)), if_neg (in_nI (by omega) (by decide)), nI_clamp (by omega), nI_clamp (by omega), nI_clamp (by omega), nI_1]
      · intro j
        show upd (upd s (6 + 8 * q + i) (rH i)) (22 + 8 * q + i) (rP i) j = _
        unfold Wd
        by_cases h1 : j = 22 + 8 * q + i
        · subst h1
          rw [upd_s, if_neg (by omega), if_pos (by omega), show 22 + 8 * q + i - (22 + 8 * q) = i by omega]
        · rw [upd_n h1]
          by_cases h2 : j = 6 + 8 * q + i
          · subst h2
            rw [upd_s, if_pos (by omega), show 6 + 8 * q + i - (6 + 8 * q) = i by omega]
          · rw [upd_n h2, h j]
            unfold Wd
            by_cases c1 : 6 + 8 * q ≤ j ∧ j < 6 + 8 * q + i
            · rw [if_pos c1, if_pos (by omega)]
            · by_cases c2 : 22 + 8 * q ≤ j ∧ j < 22 + 8 * q + i
              · rw [if_neg c1, if_pos c2, if_neg (by omega), if_pos (by omega)]
              · rw [if_neg c1, if_neg c2, if_neg (by omega), if_neg (by omega)]) zF 0 all (by omega) (zF_big (by omega)) (fun j => by unfold Wd; rw [if_neg (by omega), if_neg (by omega)])
  exact ⟨k', e, g3⟩
section RDS
variable {all rH rP h' b : Nat → Int32} {q m pp : Nat}
/-- the row b, when the juggler q has learnt -/
def Lb (all rH rP b : Nat → Int32) (q m : Nat) : Prop := b (4 + q) = nI m ∧ b (2 + q) = 0 ∧ ∀ j, j ≠ 4 + q → j ≠ 2 + q → b j = Wd all rH rP q m j
theorem Lb.other (h : Lb all rH rP b q m) (hm : m ≤ 8) {j : Nat} (h1 : j ≠ 4 + q) (h2 : j ≠ 2 + q) (h3 : ¬ (6 + 8 * q ≤ j ∧ j < 14 + 8 * q)) (h4 : ¬ (22 + 8 * q ≤ j ∧ j < 30 + 8 * q)) : b j = all j := by
  rw [h.2.2 j h1 h2]
  unfold Wd
  rw [if_neg (by omega), if_neg (by omega)]
theorem Lb.hi (h : Lb all rH rP b q m) (hq : q < 2) {k : Nat} (hk : k < 8) : b (6 + 8 * q + k) = if k < m then rH k else all (6 + 8 * q + k) := by
  rw [h.2.2 _ (by omega) (by omega)]
  unfold Wd
  by_cases hm : k < m
  · rw [if_pos (by omega), if_pos hm, show 6 + 8 * q + k - (6 + 8 * q) = k by omega]
  · rw [if_neg (by omega), if_neg (by omega), if_neg hm]
theorem Lb.pa (h : Lb all rH rP b q m) (hm8 : m ≤ 8) (hq : q < 2) {k : Nat} (hk : k < 8) : b (22 + 8 * q + k) = if k < m then rP k else all (22 + 8 * q + k) := by
  rw [h.2.2 _ (by omega) (by omega)]
  unfold Wd
  by_cases hm : k < m
  · rw [if_neg (by omega), if_pos (by omega), if_pos hm, show 22 + 8 * q + k - (22 + 8 * q) = k by omega]
  · rw [if_neg (by omega), if_neg (by omega), if_neg hm]
theorem Lb.rj (h : Lb all rH rP b q m) (hq : q < 2) (hm : m ≤ 8) {j : JT} (hj : Rj j all q) (hpp : pp < 256) (e1 : ∀ k, k < 8 → h' k = if 0 ≤ k ∧ k < m then rH k else j.2.1 k) (e2 : ∀ k, 0 ≤ k → k < m → rP k = nI (pp / 2 ^ k % 2)) : Rj (j.1, h', nI pp, nI m, 0, j.2.2.2.2.2.1, j.2.2.2.2.2.2) b q := by
  obtain ⟨g1, g2, g3, g4, g5, g6, g7⟩ := hj
  refine ⟨?_, h.1.symm, h.2.1.symm, ?_, ?_, fun k hk => ?_, fun k hk hn => ?_⟩
  · rw [h.other hm (by omega) (by omega) (by omega) (by omega)]; exact g1
  · rw [h.other hm (by omega) (by omega) (by omega) (by omega)]; exact g4
  · rw [h.other hm (by omega) (by omega) (by omega) (by omega)]; exact g5
  · rw [h.hi hq hk]
    show h' k = _
    rw [e1 k hk]
    by_cases hkm : k < m
    · rw [if_pos (by omega), if_pos hkm]
    · rw [if_neg (by omega), if_neg hkm, g6 k hk]
  · rw [h.1] at hn
    have hkm : k < m := by
      apply Classical.byContradiction
      intro hc
      exact nI_nlt (by omega) (by omega) hn
    rw [h.pa hm hq hk, if_pos hkm, e2 k (by omega) hkm]
    exact b_has k hk pp hpp
theorem Lb.rjo (h : Lb all rH rP b q m) (hm : m ≤ 8) {q2 : Nat} (hq2 : q2 < 2) (hq : q < 2) (hn : q2 ≠ q) {j : JT} (hj : Rj j all q2) : Rj j b q2 := by
  obtain ⟨g1, g2, g3, g4, g5, g6, g7⟩ := hj
  have e4 : b (4 + q2) = all (4 + q2) := h.other hm (by omega) (by omega) (by omega) (by omega)
  refine ⟨?_, ?_, ?_, ?_, ?_, fun k hk => ?_, fun k hk hk2 => ?_⟩
  · rw [h.other hm (by omega) (by omega) (by omega) (by omega)]; exact g1
  · rw [e4]; exact g2
  · rw [h.other hm (by omega) (by omega) (by omega) (by omega)]; exact g3
  · rw [h.other hm (by omega) (by omega) (by omega) (by omega)]; exact g4
  · rw [h.other hm (by omega) (by omega) (by omega) (by omega)]; exact g5
  · rw [h.other hm (by omega) (by omega) (by omega) (by omega)]; exact g6 k hk
  · rw [h.other hm (by omega) (by omega) (by omega) (by omega)]
    rw [e4] at hk2
    exact g7 k hk hk2
theorem Lb.wa (h : Lb all rH rP b q m) (hq : q < 2) (h1 : 1 ≤ m) (hm : m ≤ 8) (hW : Wa all) (hr : ∀ k, k < m → (∃ d : Nat, d < 8 ∧ rH k = nI d) ∧ (rP k = 0 ∨ rP k = 1)) : Wa b := by
  obtain ⟨⟨s0, s1, f, g1, g2, g3, g4, g5, g6⟩, g7⟩ := hW
  refine ⟨⟨s0, s1, f, g1, g2, ?_, ?_, ?_, g6⟩, fun q2 hq2 => ?_⟩
  · rw [h.other hm (by omega) (by omega) (by omega) (by omega)]; exact g3
  · rw [h.other hm (by omega) (by omega) (by omega) (by omega)]; exact g4
  · rw [h.other hm (by omega) (by omega) (by omega) (by omega)]; exact g5
  · obtain ⟨⟨n, p, k1, k2, k3, k4, k5⟩, k6, k7⟩ := g7 q2 hq2
    by_cases hn : q2 = q
    · subst hn
      refine ⟨⟨m, 0, h1, hm, by omega, h.1, h.2.1⟩, fun k hk => ?_, fun k hk => ?_⟩
      · rw [h.hi hq hk]
        by_cases hkm : k < m
        · rw [if_pos hkm]; exact (hr k hkm).1
        · rw [if_neg hkm]; exact k6 k hk
      · rw [h.pa hm hq hk]
        by_cases hkm : k < m
        · rw [if_pos hkm]; exact (hr k hkm).2
        · rw [if_neg hkm]; exact k7 k hk
    · refine ⟨⟨n, p, k1, k2, k3, ?_, ?_⟩, fun k hk => ?_, fun k hk => ?_⟩
      · rw [h.other hm (by omega) (by omega) (by omega) (by omega)]; exact k4
      · rw [h.other hm (by omega) (by omega) (by omega) (by omega)]; exact k5
      · rw [h.other hm (by omega) (by omega) (by omega) (by omega)]; exact k6 k hk
      · rw [h.other hm (by omega) (by omega) (by omega) (by omega)]; exact k7 k hk
end RDS
theorem st_read {a_now : ST} {a_pad_codes : (Nat → Int32)} {a_pad_length : Int32} {a_history_rs : (Nat → ST)} {a_history_oldest : Int32} {a_history_size : Int32} {b_all : (Nat → Int32)} {b_kept : (Nat → Int32)} {b_history : (Nat → Int32)} {b_historyLong : Int32} {b_pad : (Nat → Int32)} {b_padLong : Int32} {b_readHeight : (Nat → Int32)} {b_readPass : (Nat → Int32)} {b_readMany : Int32} (hA : Rs a_now b_all) (hH : RH a_history_rs a_history_oldest a_history_size b_history b_historyLong) (hPd : RP a_pad_codes a_pad_length b_pad b_padLong) : ∃ (R1 : Int32 × ST × Int32 × (Nat → ST) × Int32 × Int32) (R2 : Int32 × (Nat → Int32) × (Nat → Int32) × (Nat → Int32) × Int32 × Int32 × (Nat → Int32) × (Nat → Int32) × Int32), f_X7_read a_now a_pad_codes a_pad_length a_history_rs a_history_oldest a_history_size = some R1 ∧ f_X8_read b_all b_kept b_history b_historyLong b_pad b_padLong b_readHeight b_readPass b_readMany = some R2 ∧ R1.1 = R2.1 ∧ Rs R1.2.1 R2.2.1 ∧ RH R1.2.2.2.1 R1.2.2.2.2.1 R1.2.2.2.2.2 R2.2.2.2.1 R2.2.2.2.2.1 ∧ RP a_pad_codes R1.2.2.1 b_pad R2.2.2.2.2.2.1 := by
  obtain ⟨n, ch, rfl, rfl, hP⟩ := hPd.ch
  obtain ⟨ans, rH', rP', mm, e1, e2, e3⟩ := fault_all hP b_readHeight b_readPass b_readMany
  unfold f_X7_read f_X8_read
  rw [e1, e2, Option.bind_some, Option.bind_some]
  by_cases ha : ans = -6
  · obtain ⟨m, rfl, m1, m2, n2, c0, hr, hL⟩ := e3 ha
    have hn := hP.1
    have hz : n - 2 < zF := Nat.lt_of_lt_of_le (show n - 2 < 100 by omega) (by decide)
    rw [if_pos ha, if_pos ha]
    obtain ⟨k', ek, hk⟩ := keep_ok b_all b_kept
    rw [ek, Option.bind_some]
    have hK : Rs a_now k' := hA.row hk
    obtain ⟨q, hq, eq1⟩ : ∃ q : Nat, q < 2 ∧ ch 0 = 48 + q := ⟨ch 0 - 48, by omega, by omega⟩
    have eq2 : b_pad 0 - (48 : Int32) = nI q := by
      rw [(hP.2 0 (by omega)).2.1, show (48 : Int32) = nI 48 from rfl, pk_sub (by omega), show ch 0 - 48 = q by omega]
    have eq3 : f_X2_digit a_pad_codes 0 = some (nI q) := by
      show f_X2_digit a_pad_codes (nI 0) = _
      rw [digit_ok hP (by omega) (by omega), show ch 0 - 48 = q by omega]
    rw [eq2]
    obtain ⟨s, es, hs⟩ := read_loop k' b_history b_all b_pad rH' rP' b_historyLong (nI n) hq m2
    show ∃ R1 R2, _ ∧ f_X8_read_L28 k' b_history b_historyLong b_pad (nI n) rH' rP' (nI m) (nI q) zF 0 b_all = some R2 ∧ _
    rw [es]
    obtain ⟨Q1, hist', hl', z1, z2, z3⟩ := record_ok hH hK (nI q)
    rw [z1, z2, Option.bind_some, Option.bind_some, eq3, Option.bind_some]
    have hb : Lb b_all rH' rP' (upd (upd s (4 + q) (nI m)) (2 + q) 0) q m := by
      refine ⟨?_, upd_s, fun j j1 j2 => ?_⟩
      · rw [upd_n (by omega), upd_s]
      · rw [upd_n j2, upd_n j1, hs j]
    have hRP : RP a_pad_codes 0 b_pad 0 := ⟨0, by omega, rfl, rfl, fun k hk => by omega, fun k hk => by omega⟩
    obtain ⟨⟨j0, j1, r1, r2, r3, hW⟩, r4⟩ := hA
    have o38 := hb.other m2 (j := 38) (by omega) (by omega) (by omega) (by omega)
    have o39 := hb.other m2 (j := 39) (by omega) (by omega) (by omega) (by omega)
    have o44 := hb.other m2 (j := 44) (by omega) (by omega) (by omega) (by omega)
    have o45 := hb.other m2 (j := 45) (by omega) (by omega) (by omega) (by omega)
    have hWb := hb.wa hq m1 m2 hW hr
    rcases (show q = 0 ∨ q = 1 by omega) with rfl | rfl
    · obtain ⟨h', pp', w1, w2, w3, w4, w5⟩ := hL a_now.1.2.1 0 zF 0 hz (by decide)
      rw [if_pos (by decide), f_X1_learn, show f_X1_learn_L17 0 a_pad_codes (nI n) zF 2 a_now.1.2.1 0 0 = _ from w1, Option.bind_some, f_X2_clear, Option.bind_some]
      exact ⟨_, _, rfl, rfl, rfl, ⟨⟨hb.rj hq m2 j0 w2 w3 w5, hb.rjo m2 (by omega) (by omega) (by omega) j1, r1.trans o38.symm, r2.trans o44.symm, r3.trans o45.symm, hWb⟩, r4.trans o39.symm⟩, z3, hRP⟩
    · obtain ⟨h', pp', w1, w2, w3, w4, w5⟩ := hL a_now.2.1.2.1 0 zF 0 hz (by decide)
      rw [if_neg (by decide), f_X1_learn, show f_X1_learn_L17 0 a_pad_codes (nI n) zF 2 a_now.2.1.2.1 0 0 = _ from w1, Option.bind_some, f_X2_clear, Option.bind_some]
      exact ⟨_, _, rfl, rfl, rfl, ⟨⟨hb.rjo m2 (by omega) (by omega) (by omega) j0, hb.rj hq m2 j1 w2 w3 w5, r1.trans o38.symm, r2.trans o44.symm, r3.trans o45.symm, hWb⟩, r4.trans o39.symm⟩, z3, hRP⟩
  · rw [if_neg ha, if_neg ha]
    exact ⟨_, _, rfl, rfl, rfl, hA, hH, hPd⟩
