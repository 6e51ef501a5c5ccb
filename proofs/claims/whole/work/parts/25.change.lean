/-! start, drop, pick, undo, save, restore, of, thrown, count -/
theorem within_lit {A B : Int32} (p : Int32) (a b : Nat) (hA : A = nI a) (hB : B = nI b) (ha : a ≤ b) (hb : b < 2 ^ 30) : f_X7_isWithin p A B = some 0 ∨ (∃ k : Nat, a ≤ k ∧ k ≤ b ∧ p = nI k ∧ f_X7_isWithin p A B = some 1) := by
  subst hA; subst hB; exact within_nI a b ha hb
theorem b_bits : ∀ s, s < 256 → f_X8_bits (nI s) = some (nI (pcN s)) := by decide +kernel
theorem b_clubs : ∀ s, s < 256 → f_X1_clubs (nI s) = some (nI (pcN s)) := by decide +kernel
theorem b_has : ∀ k, k < 8 → ∀ s, s < 256 → f_X7_has (nI s) (nI k) = some (nI (s / 2 ^ k % 2)) := by decide +kernel
theorem b_bit1 : ∀ k, k < 8 → ∀ s, s < 256 → ((((nI s) >>> (nI k &&& 31)) &&& (1 : Int32)) = 1 ↔ s / 2 ^ k % 2 = 1) := by decide +kernel
theorem b_or2 : ∀ k, k < 8 → ∀ s, s < 256 → s / 2 ^ k % 2 = 0 → nI s ||| ((1 : Int32) <<< (nI k &&& 31)) = nI (s + 2 ^ k) ∧ nI s + ((1 : Int32) <<< (nI k &&& 31)) = nI (s + 2 ^ k) ∧ s + 2 ^ k < 256 ∧ pcN (s + 2 ^ k) = pcN s + 1 := by decide +kernel
theorem b_lose : ∀ k, k < 8 → ∀ s, s < 256 → s / 2 ^ k % 2 = 1 → nI s &&& (((1 : Int32) <<< (nI k &&& 31)) ^^^ (-1 : Int32)) = nI (s - 2 ^ k) ∧ nI s - ((1 : Int32) <<< (nI k &&& 31)) = nI (s - 2 ^ k) ∧ s - 2 ^ k < 256 ∧ pcN s = pcN (s - 2 ^ k) + 1 := by decide +kernel
theorem b_first : ∀ p, p < 9 → ((1 : Int32) <<< (nI p &&& 31)) - (1 : Int32) = nI (2 ^ p - 1) ∧ pcN (2 ^ p - 1) = p ∧ 2 ^ p - 1 < 256 := by decide +kernel
theorem h10 : ¬ (1 : Int32) = 0 := by decide
theorem mod2 (n : Nat) : n % 2 = 0 ∨ n % 2 = 1 := by omega
theorem expects_or {s k : Nat} (hs : s < 256) (hk : k < 8) : (f_X1_expects (nI s) (nI k) = some 0 ∧ s / 2 ^ k % 2 = 0) ∨ (f_X1_expects (nI s) (nI k) = some 1 ∧ s / 2 ^ k % 2 = 1) := by
  unfold f_X1_expects
  rw [b_has k hk s hs]
  rcases mod2 (s / 2 ^ k) with h | h
  · rw [h]; exact Or.inl ⟨rfl, rfl⟩
  · rw [h]; exact Or.inr ⟨rfl, rfl⟩
theorem Rj.set {j : JT} {a b : Nat → Int32} {q : Nat} (h : Rj j a q) {st pc sl cl : Int32} (h1 : st = b q) (h2 : pc = b (2 + q)) (h3 : sl = b (40 + q)) (h4 : cl = b (42 + q)) (h5 : b (4 + q) = a (4 + q)) (h6 : ∀ k, k < 8 → b (6 + 8 * q + k) = a (6 + 8 * q + k)) (h7 : ∀ k, k < 8 → b (22 + 8 * q + k) = a (22 + 8 * q + k)) : Rj (st, j.2.1, j.2.2.1, j.2.2.2.1, pc, sl, cl) b q := by
  obtain ⟨g1, g2, g3, g4, g5, g6, g7⟩ := h
  exact ⟨h1, by rw [h5]; exact g2, h2, h3, h4, fun k hk => by rw [h6 k hk]; exact g6 k hk, fun k hk hn => by rw [h7 k hk]; rw [h5] at hn; exact g7 k hk hn⟩
theorem Wa.set {a b : Nat → Int32} (h : Wa a) (hp : ∀ i, 4 ≤ i → i < 38 → b i = a i) {s0 s1 f : Nat} (h0 : s0 < 256) (h1 : s1 < 256) (e0 : b 0 = nI s0) (e1 : b 1 = nI s1) (e2 : b 38 = nI f) (hf : pcN s0 + pcN s1 + f ≤ 16) (hq : ∀ q, q < 2 → ∀ n p : Nat, 1 ≤ n → n ≤ 8 → p < n → a (4 + q) = nI n → a (2 + q) = nI p → ∃ p', p' < n ∧ b (2 + q) = nI p') : Wa b := by
  refine ⟨⟨s0, s1, f, h0, h1, e0, e1, e2, hf⟩, fun q hq2 => ?_⟩
  obtain ⟨⟨n, p, g1, g2, g3, g4, g5⟩, g6, g7⟩ := h.2 q hq2
  obtain ⟨p', k1, k2⟩ := hq q hq2 n p g1 g2 g3 g4 g5
  exact ⟨⟨n, p', g1, g2, k1, by rw [hp _ (by omega) (by omega)]; exact g4, k2⟩, fun k hk => by rw [hp _ (by omega) (by omega)]; exact g6 k hk, fun k hk => by rw [hp _ (by omega) (by omega)]; exact g7 k hk⟩
theorem clubs_ok {S : ST} {a : Nat → Int32} (h : Rq S a) : ∃ r, f_X4_clubs S = some r ∧ f_X8_clubs a = some r := by
  obtain ⟨hz, ho, hf, -, -, ⟨s0, s1, f, h0, h1, e0, e1, e2, -⟩, -⟩ := h
  unfold f_X4_clubs f_X8_clubs
  rw [hz.1, ho.1, hf, e0, e1, b_clubs s0 h0, b_clubs s1 h1, b_bits s0 h0, b_bits s1 h1]
  exact ⟨_, rfl, rfl⟩
theorem st_undo {a_now : ST} {a_history_rs : (Nat → ST)} {a_history_oldest : Int32} {a_history_size : Int32} {b_all : (Nat → Int32)} {b_history : (Nat → Int32)} {b_historyLong : Int32} (hA : Rs a_now b_all) (hH : RH a_history_rs a_history_oldest a_history_size b_history b_historyLong) : ∃ (R1 : Int32 × ST × Int32) (R2 : Int32 × (Nat → Int32) × Int32), f_X7_undo a_now a_history_rs a_history_oldest a_history_size = some R1 ∧ f_X8_undo b_all b_history b_historyLong = some R2 ∧ R1.1 = R2.1 ∧ Rs R1.2.1 R2.2.1 ∧ RH a_history_rs a_history_oldest R1.2.2 b_history R2.2.2 := by
  have hsz : a_history_size = b_historyLong := by
    obtain ⟨o, h, -, -, -, h1, h2, -⟩ := hH
    rw [h1, h2]
  by_cases h0 : b_historyLong = 0
  · unfold f_X7_undo f_X8_undo
    rw [if_pos (hsz.trans h0), if_pos h0]
    exact ⟨_, _, rfl, rfl, rfl, hA, hH⟩
  · obtain ⟨R1, h, e1, e2, hh, e3, g1, g2⟩ := takeBack_ok hH a_now h0
    have h0' : ¬ a_history_size = 0 := by rw [hsz]; exact h0
    obtain ⟨k', e, g3⟩ := loop_run (fun n x s => f_X8_undo_L22 b_history (nI h) n x s) 46 (fun s => some (nI h, s, nI h)) (fun i s => ∀ j, j < i → s j = b_history (46 * h + j))
      (fun n s _ => by
        show f_X8_undo_L22 _ _ (n + 1) (nI 46) s = _
        rw [f_X8_undo_L22, if_pos (show (46 : Int32) ≤ nI 46 by decide)])
      (fun n i s hi hI => by
        have e : ((46 : Int32) * nI h) + nI i = nI (46 * h + i) := by
          rw [show (46 : Int32) = nI 46 from rfl, pk_mul, nI_add]
        refine ⟨upd s i (b_history (46 * h + i)), ?_, fun j hj => ?_⟩
        · show f_X8_undo_L22 _ _ (n + 1) (nI i) s = f_X8_undo_L22 _ _ n (nI (i + 1)) _
          rw [f_X8_undo_L22, if_neg (show ¬ (46 : Int32) ≤ nI i from ge_lit hi (by decide)), e, if_neg (in_nI (by omega) (by decide)), if_neg (in_nI hi (by decide)), nI_1, nI_clamp (by omega), nI_clamp (by omega)]
        · by_cases hji : j = i
          · subst hji; rw [upd_s]
          · rw [upd_n hji]; exact hI j (by omega)) zF 0 b_all (by omega) (zF_big (by omega)) (fun j hj => by omega)
    unfold f_X7_undo f_X8_undo
    rw [if_neg h0', e1, if_neg h0, e2, nI_pred, Option.bind_some]
    refine ⟨_, _, rfl, e, e3, g1.row (fun j hj => g3 j hj), g2⟩
theorem slot_or (p : Int32) : (f_X7_isSlot p = some 0 ∧ f_X8_in p.toInt64 (0 : Int64) (1 : Int64) = some 0) ∨ (∃ q : Nat, q < 2 ∧ p = nI q ∧ f_X7_isSlot p = some 1 ∧ f_X8_in p.toInt64 (0 : Int64) (1 : Int64) = some 1) := by
  rw [in_within (lo := 0) (hi := 1) (by decide) (by decide)]
  unfold f_X7_isSlot
  rcases within_lit (A := 0) (B := 1) p 0 1 rfl rfl (by omega) (by omega) with h | ⟨k, h1, h2, h3, h4⟩
  · exact Or.inl ⟨by rw [h]; rfl, h⟩
  · exact Or.inr ⟨k, by omega, h3, by rw [h4]; rfl, h4⟩
theorem save_loop (all saved slots : Nat → Int32) (q : Nat) (hq : q < 2) (r : Int32) (hc : f_X8_clubs all = some r) : ∃ slots', f_X8_save_L15 all saved (nI q) zF 0 slots = some (r, slots', upd saved q 1) ∧ (∀ j, j < 46 → slots' (46 * q + j) = all j) ∧ ∀ j, j < 46 → ∀ p, p < 2 → p ≠ q → slots' (46 * p + j) = slots (46 * p + j) := by
  obtain ⟨k', e, g3⟩ := loop_run (fun n x s => f_X8_save_L15 all saved (nI q) n x s) 46 (fun s => some (r, s, upd saved q 1)) (fun i s => (∀ j, j < i → s (46 * q + j) = all j) ∧ ∀ j, j < 46 → ∀ p, p < 2 → p ≠ q → s (46 * p + j) = slots (46 * p + j))
    (fun n s _ => by
      show f_X8_save_L15 _ _ _ (n + 1) (nI 46) s = _
      rw [f_X8_save_L15, if_pos (show (46 : Int32) ≤ nI 46 by decide), if_neg (in_nI hq (by decide)), hc, nI_clamp (by omega)]
      rfl)
    (fun n i s hi hI => by
      have e : ((46 : Int32) * nI q) + nI i = nI (46 * q + i) := by
        rw [show (46 : Int32) = nI 46 from rfl, pk_mul, nI_add]
      refine ⟨upd s (46 * q + i) (all i), ?_, fun j hj => ?_, fun j hj p hp hpq => ?_⟩
      · show f_X8_save_L15 _ _ _ (n + 1) (nI i) s = f_X8_save_L15 _ _ _ n (nI (i + 1)) _
        rw [f_X8_save_L15, if_neg (show ¬ (46 : Int32) ≤ nI i from ge_lit hi (by decide)), if_neg (in_nI hi (by decide)), e, if_neg (in_nI (by omega) (by decide)), nI_1, nI_clamp (by omega), nI_clamp (by omega)]
      · by_cases hji : j = i
        · subst hji; rw [upd_s]
        · rw [upd_n (by omega)]; exact hI.1 j (by omega)
      · rw [upd_n (by omega)]; exact hI.2 j hj p hp hpq) zF 0 slots (by omega) (zF_big (by omega)) ⟨fun j hj => by omega, fun j hj p hp hpq => rfl⟩
  exact ⟨k', e, g3⟩
theorem st_save {a_now : ST} {a_slotZero_kept : ST} {a_slotZero_filled : Int32} {a_slotOne_kept : ST} {a_slotOne_filled : Int32} {b_all : (Nat → Int32)} {b_slots : (Nat → Int32)} {b_isSaved : (Nat → Int32)} (hA : Rs a_now b_all) (hS0 : RS a_slotZero_kept a_slotZero_filled a_slotOne_kept a_slotOne_filled b_slots b_isSaved) (p1 : Int32) : ∃ (R1 : Int32 × ST × Int32 × ST × Int32) (R2 : Int32 × (Nat → Int32) × (Nat → Int32)), f_X7_save a_now a_slotZero_kept a_slotZero_filled a_slotOne_kept a_slotOne_filled p1 = some R1 ∧ f_X8_save b_all b_slots b_isSaved p1 = some R2 ∧ R1.1 = R2.1 ∧ RS R1.2.1 R1.2.2.1 R1.2.2.2.1 R1.2.2.2.2 R2.2.1 R2.2.2 := by
  unfold f_X7_save f_X8_save
  rcases slot_or p1 with ⟨h1, h2⟩ | ⟨q, hq, rfl, h1, h2⟩
  · rw [h1, h2, Option.bind_some, Option.bind_some, if_pos rfl, if_pos rfl]
    exact ⟨_, _, rfl, rfl, rfl, hS0⟩
  · rw [h1, h2, Option.bind_some, Option.bind_some, if_neg h10, if_neg h10]
    obtain ⟨r, c1, c2⟩ := clubs_ok hA.1
    obtain ⟨sl', e, g1, g2⟩ := save_loop b_all b_isSaved b_slots q hq r c2
    rw [show f_X8_save_L15 b_all b_isSaved (nI q) zF (0 : Int32) b_slots = _ from e]
    obtain ⟨k1, k2, k3, k4, k5, k6⟩ := hS0
    rcases (show q = 0 ∨ q = 1 by omega) with rfl | rfl
    · obtain ⟨rr, e3, g4⟩ := become4 a_slotZero_kept a_now
      rw [if_pos (show nI 0 = 0 from rfl)]
      unfold f_X5_keep
      rw [e3, c1]
      refine ⟨_, _, rfl, rfl, rfl, Or.inr rfl, k2, by show upd b_isSaved 0 1 0 = 1; rw [upd_s], by show upd b_isSaved 0 1 1 = _; rw [upd_n (by omega)]; exact k4, fun _ => (g4.rs hA).row (fun j hj => by have := g1 j hj; rw [Nat.mul_zero, Nat.zero_add] at this; exact this), fun h => (k6 h).row (fun j hj => by have := g2 j hj 1 (by omega) (by omega); rw [Nat.mul_one] at this; exact this)⟩
    · obtain ⟨rr, e3, g4⟩ := become4 a_slotOne_kept a_now
      rw [if_neg (show ¬ nI 1 = 0 by decide)]
      unfold f_X5_keep
      rw [e3, c1]
      refine ⟨_, _, rfl, rfl, rfl, k1, Or.inr rfl, by show upd b_isSaved 1 1 0 = _; rw [upd_n (by omega)]; exact k3, by show upd b_isSaved 1 1 1 = 1; rw [upd_s], fun h => (k5 h).row (fun j hj => by have := g2 j hj 0 (by omega) (by omega); rw [Nat.mul_zero, Nat.zero_add] at this; exact this), fun _ => (g4.rs hA).row (fun j hj => by have := g1 j hj; rw [Nat.mul_one] at this; exact this)⟩
theorem restore_loop (kept hist slots saved all : Nat → Int32) (hl : Int32) (q : Nat) (hq : q < 2) : ∃ all', (f_X8_restore_L31 kept hist hl slots saved (nI q) zF 0 all = (f_X8_clubs all').bind (fun q7 => (f_X8_changed kept hist hl q7).bind (fun q8 => some (q8.1, all', kept, q8.2.1, q8.2.2)))) ∧ ∀ j, j < 46 → all' j = slots (46 * q + j) := by
  obtain ⟨k', e, g3⟩ := loop_run (fun n x s => f_X8_restore_L31 kept hist hl slots saved (nI q) n x s) 46 (fun s => (f_X8_clubs s).bind (fun q7 => (f_X8_changed kept hist hl q7).bind (fun q8 => some (q8.1, s, kept, q8.2.1, q8.2.2)))) (fun i s => ∀ j, j < i → s j = slots (46 * q + j))
    (fun n s _ => by
      show f_X8_restore_L31 _ _ _ _ _ _ (n + 1) (nI 46) s = _
      rw [f_X8_restore_L31, if_pos (show (46 : Int32) ≤ nI 46 by decide)])
    (fun n i s hi hI => by
      have e : ((46 : Int32) * nI q) + nI i = nI (46 * q + i) := by
        rw [show (46 : Int32) = nI 46 from rfl, pk_mul, nI_add]
      refine ⟨upd s i (slots (46 * q + i)), ?_, fun j hj => ?_⟩
      · show f_X8_restore_L31 _ _ _ _ _ _ (n + 1) (nI i) s = f_X8_restore_L31 _ _ _ _ _ _ n (nI (i + 1)) _
        rw [f_X8_restore_L31, if_neg (show ¬ (46 : Int32) ≤ nI i from ge_lit hi (by decide)), e, if_neg (in_nI (by omega) (by decide)), if_neg (in_nI hi (by decide)), nI_1, nI_clamp (by omega), nI_clamp (by omega)]
      · by_cases hji : j = i
        · subst hji; rw [upd_s]
        · rw [upd_n (by omega)]; exact hI j (by omega)) zF 0 all (by omega) (zF_big (by omega)) (fun j hj => by omega)
  exact ⟨k', e, g3⟩
theorem st_restore {a_now : ST} {a_history_rs : (Nat → ST)} {a_history_oldest : Int32} {a_history_size : Int32} {a_slotZero_kept : ST} {a_slotZero_filled : Int32} {a_slotOne_kept : ST} {a_slotOne_filled : Int32} {b_all : (Nat → Int32)} {b_kept : (Nat → Int32)} {b_history : (Nat → Int32)} {b_historyLong : Int32} {b_slots : (Nat → Int32)} {b_isSaved : (Nat → Int32)} (hA : Rs a_now b_all) (hH : RH a_history_rs a_history_oldest a_history_size b_history b_historyLong) (hS0 : RS a_slotZero_kept a_slotZero_filled a_slotOne_kept a_slotOne_filled b_slots b_isSaved) (p1 : Int32) : ∃ (R1 : Int32 × ST × (Nat → ST) × Int32 × Int32) (R2 : Int32 × (Nat → Int32) × (Nat → Int32) × (Nat → Int32) × Int32), f_X7_restore a_now a_history_rs a_history_oldest a_history_size a_slotZero_kept a_slotZero_filled a_slotOne_kept a_slotOne_filled p1 = some R1 ∧ f_X8_restore b_all b_kept b_history b_historyLong b_slots b_isSaved p1 = some R2 ∧ R1.1 = R2.1 ∧ Rs R1.2.1 R2.2.1 ∧ RH R1.2.2.1 R1.2.2.2.1 R1.2.2.2.2 R2.2.2.2.1 R2.2.2.2.2 := by
  unfold f_X7_restore f_X8_restore
  rcases slot_or p1 with ⟨h1, h2⟩ | ⟨q, hq, rfl, h1, h2⟩
  · rw [h1, h2, Option.bind_some, Option.bind_some, if_pos rfl, if_pos rfl]
    exact ⟨_, _, rfl, rfl, rfl, hA, hH⟩
  · rw [h1, h2, Option.bind_some, Option.bind_some, if_neg h10, if_neg h10, if_neg (in_nI hq (by decide)), nI_clamp (by omega)]
    obtain ⟨k1, k2, k3, k4, k5, k6⟩ := hS0
    obtain ⟨kp, e1, g1⟩ := keep_ok b_all b_kept
    obtain ⟨all', e2, g2⟩ := restore_loop kp b_history b_slots b_isSaved b_all b_historyLong q hq
    rcases (show q = 0 ∨ q = 1 by omega) with rfl | rfl
    · rw [if_pos (show nI 0 = 0 from rfl), k3]
      by_cases hz : a_slotZero_filled = 0
      · rw [if_pos hz, if_pos hz]
        exact ⟨_, _, rfl, rfl, rfl, hA, hH⟩
      · rw [if_neg hz, if_neg hz]
        have hrs := k5 (by rcases k1 with h | h; exact absurd h hz; exact h)
        obtain ⟨rr, e3, g4⟩ := become4 a_now a_slotZero_kept
        have hrr : Rs rr all' := (g4.rs hrs).row (fun j hj => by rw [g2 j hj, Nat.mul_zero, Nat.zero_add])
        obtain ⟨r, c1, c2⟩ := clubs_ok hrr.1
        obtain ⟨R, hi, hl, r1, r2, r3⟩ := record_ok hH (hA.row (fun j hj => g1 j hj)) r
        rw [e1, Option.bind_some, e2, c2, Option.bind_some, r2, Option.bind_some, r1, Option.bind_some, if_pos (show nI 0 = 0 from rfl), e3, Option.bind_some, c1, Option.bind_some]
        exact ⟨_, _, rfl, rfl, rfl, hrr, r3⟩
    · rw [if_neg (show ¬ nI 1 = 0 by decide), k4]
      by_cases hz : a_slotOne_filled = 0
      · rw [if_pos hz, if_pos hz]
        exact ⟨_, _, rfl, rfl, rfl, hA, hH⟩
      · rw [if_neg hz, if_neg hz]
        have hrs := k6 (by rcases k2 with h | h; exact absurd h hz; exact h)
        obtain ⟨rr, e3, g4⟩ := become4 a_now a_slotOne_kept
        have hrr : Rs rr all' := (g4.rs hrs).row (fun j hj => by rw [g2 j hj, Nat.mul_one])
        obtain ⟨r, c1, c2⟩ := clubs_ok hrr.1
        obtain ⟨R, hi, hl, r1, r2, r3⟩ := record_ok hH (hA.row (fun j hj => g1 j hj)) r
        rw [e1, Option.bind_some, e2, c2, Option.bind_some, r2, Option.bind_some, r1, Option.bind_some, if_neg (show ¬ nI 1 = 0 by decide), e3, Option.bind_some, c1, Option.bind_some]
        exact ⟨_, _, rfl, rfl, rfl, hrr, r3⟩

theorem start_loop (kept hist all : Nat → Int32) (hl x3 : Int32) : ∃ all', (f_X8_start_L76 kept hist hl x3 zF (38 : Int32) all = (f_X8_changed kept hist hl x3).bind (fun q8 => some (q8.1, all', kept, q8.2.1, q8.2.2))) ∧ (∀ j, j < 38 → all' j = all j) ∧ ∀ j, 38 ≤ j → j < 46 → all' j = 0 := by
  obtain ⟨k', e, g3⟩ := loop_run (fun n x s => f_X8_start_L76 kept hist hl x3 n x s) 46 (fun s => (f_X8_changed kept hist hl x3).bind (fun q8 => some (q8.1, s, kept, q8.2.1, q8.2.2))) (fun i s => 38 ≤ i ∧ (∀ j, j < 38 → s j = all j) ∧ ∀ j, 38 ≤ j → j < i → s j = 0)
    (fun n s _ => by
      show f_X8_start_L76 _ _ _ _ (n + 1) (nI 46) s = _
      rw [f_X8_start_L76, if_pos (show (46 : Int32) ≤ nI 46 by decide)])
    (fun n i s hi hI => by
      refine ⟨upd s i 0, ?_, by omega, fun j hj => ?_, fun j hj hj2 => ?_⟩
      · show f_X8_start_L76 _ _ _ _ (n + 1) (nI i) s = f_X8_start_L76 _ _ _ _ n (nI (i + 1)) _
        rw [f_X8_start_L76, if_neg (show ¬ (46 : Int32) ≤ nI i from ge_lit hi (by decide)), if_neg (in_nI hi (by decide)), nI_1, nI_clamp (by omega)]
      · rw [upd_n (by omega)]; exact hI.2.1 j hj
      · by_cases hji : j = i
        · subst hji; rw [upd_s]
        · rw [upd_n hji]; exact hI.2.2 j hj (by omega)) zF 38 all (by omega) (by unfold zF; omega) ⟨by omega, fun j hj => rfl, fun j hj hj2 => by omega⟩
  exact ⟨k', e, g3.2⟩

theorem bits_ok {a : Nat → Int32} (h : Wa a) : ∃ r0 r1, f_X1_clubs (a 0) = some r0 ∧ f_X8_bits (a 0) = some r0 ∧ f_X1_clubs (a 1) = some r1 ∧ f_X8_bits (a 1) = some r1 := by
  obtain ⟨⟨s0, s1, f, h0, h1, e0, e1, e2, -⟩, -⟩ := h
  rw [e0, e1, b_clubs s0 h0, b_clubs s1 h1, b_bits s0 h0, b_bits s1 h1]
  exact ⟨_, _, rfl, rfl, rfl, rfl⟩
theorem st_of {a_now : ST} {b_all : (Nat → Int32)} (hA : Rs a_now b_all) (p1 : Int32) (p2 : Int32) : ∃ (R1 : Int32) (R2 : Int32), f_X7_of a_now p1 p2 = some R1 ∧ f_X8_of b_all p1 p2 = some R2 ∧ R1 = R2 := by
  obtain ⟨⟨⟨z1, z2, z3, z4, z5, -, -⟩, ⟨o1, o2, o3, o4, o5, -, -⟩, hf, ht, hpc, hw⟩, hb⟩ := hA
  obtain ⟨r0, r1, c1, c2, c3, c4⟩ := bits_ok hw
  unfold f_X7_of f_X8_of
  rcases jug_or p1 with ⟨h1, h2⟩ | ⟨q, hq, rfl, h1, h2⟩
  · rw [h1, h2]; exact ⟨_, _, rfl, rfl, rfl⟩
  · rw [h1, h2]
    rcases (show q = 0 ∨ q = 1 by omega) with rfl | rfl
    · rw [show nI 0 = (0 : Int32) from rfl]
      by_cases k0 : p2 = 0
      · subst k0; simp [z1]
      by_cases k1 : p2 = 1
      · subst k1; simp [z1, c1, c2]
      by_cases k2 : p2 = 2
      · subst k2; simp [z2]
      by_cases k3 : p2 = 3
      · subst k3; simp [z3]
      by_cases k4 : p2 = 4
      · subst k4; simp [z4]
      by_cases k5 : p2 = 5
      · subst k5; simp [z5]
      simp [k0, k1, k2, k3, k4, k5]
    · rw [show nI 1 = (1 : Int32) from rfl]
      by_cases k0 : p2 = 0
      · subst k0; simp [o1]
      by_cases k1 : p2 = 1
      · subst k1; simp [o1, c3, c4]
      by_cases k2 : p2 = 2
      · subst k2; simp [o2]
      by_cases k3 : p2 = 3
      · subst k3; simp [o3]
      by_cases k4 : p2 = 4
      · subst k4; simp [o4]
      by_cases k5 : p2 = 5
      · subst k5; simp [o5]
      simp [k0, k1, k2, k3, k4, k5]
theorem st_count {a_now : ST} {a_pad_length : Int32} {a_history_size : Int32} {a_history_rs : (Nat → ST)} {a_history_oldest : Int32} {a_pad_codes : (Nat → Int32)} {b_all : (Nat → Int32)} {b_historyLong : Int32} {b_padLong : Int32} {b_history : (Nat → Int32)} {b_pad : (Nat → Int32)} (hA : Rs a_now b_all) (hH : RH a_history_rs a_history_oldest a_history_size b_history b_historyLong) (hPd : RP a_pad_codes a_pad_length b_pad b_padLong) (p1 : Int32) : ∃ (R1 : Int32) (R2 : Int32), f_X7_count a_now a_pad_length a_history_size p1 = some R1 ∧ f_X8_count b_all b_historyLong b_padLong p1 = some R2 ∧ R1 = R2 := by
  obtain ⟨r, c1, c2⟩ := clubs_ok hA.1
  obtain ⟨⟨-, -, hf, ht, hpc, hw⟩, hb⟩ := hA
  obtain ⟨o, h, -, -, -, h1, h2, -⟩ := hH
  obtain ⟨n, -, h3, h4, -⟩ := hPd
  unfold f_X7_count f_X8_count
  by_cases k0 : p1 = 0
  · subst k0; simp [hb]
  by_cases k1 : p1 = 1
  · subst k1; simp [hf]
  by_cases k2 : p1 = 2
  · subst k2; simp [c1, c2]
  by_cases k3 : p1 = 3
  · subst k3; simp [ht]
  by_cases k4 : p1 = 4
  · subst k4; simp [hpc]
  by_cases k5 : p1 = 5
  · subst k5; simp [h3, h4]
  by_cases k6 : p1 = 6
  · subst k6; simp [h1, h2]
  simp [k0, k1, k2, k3, k4, k5, k6]
