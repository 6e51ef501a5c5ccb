/-! the pad as a program: wipe, fault, read -/
theorem st_wipe {a_pad_length : Int32} {a_pad_codes : (Nat → Int32)} {b_padLong : Int32} {b_pad : (Nat → Int32)} (hPd : RP a_pad_codes a_pad_length b_pad b_padLong) : ∃ (R1 : Int32 × Int32) (R2 : Int32 × Int32), f_X7_wipe a_pad_length = some R1 ∧ f_X8_wipe b_padLong = some R2 ∧ R1.1 = R2.1 ∧ RP a_pad_codes R1.2 b_pad R2.2 := by
  obtain ⟨n, h1, h2, h3, h4, h5⟩ := hPd
  refine ⟨(a_pad_length, 0), (b_padLong, 0), rfl, rfl, h2.trans h3.symm, 0, by omega, rfl, rfl, fun k hk => by omega, fun k hk => by omega⟩
/-- the characters of the pad, in both -/
def Pch (codes pad : Nat → Int32) (n : Nat) (ch : Nat → Nat) : Prop := n ≤ 30 ∧ ∀ k, k < n → codes k = nI (ch k) ∧ pad k = nI (ch k) ∧ 33 ≤ ch k ∧ ch k ≤ 126
theorem RP.ch {codes pad : Nat → Int32} {len pl : Int32} (h : RP codes len pad pl) : ∃ (n : Nat) (ch : Nat → Nat), len = nI n ∧ pl = nI n ∧ Pch codes pad n ch := by
  obtain ⟨n, h1, h2, h3, h4, h5⟩ := h
  refine ⟨n, fun k => (pad k).toInt.toNat, h2, h3, h1, fun k hk => ?_⟩
  obtain ⟨c, c1, c2, c3⟩ := h5 k hk
  have e : (pad k).toInt.toNat = c := by rw [c3, nI_toInt (by omega)]; omega
  rw [h4 k hk]
  show pad k = nI (pad k).toInt.toNat ∧ pad k = nI (pad k).toInt.toNat ∧ 33 ≤ (pad k).toInt.toNat ∧ (pad k).toInt.toNat ≤ 126
  rw [e]
  exact ⟨c3, c3, c1, c2⟩
section PD
variable {codes pad : Nat → Int32} {n : Nat} {ch : Nat → Nat}
theorem codeAt_ok (k : Nat) (hk : k < 30) : f_X2_codeAt codes (nI k) = some (codes k) := by
  unfold f_X2_codeAt
  rw [valueAt_ok _ hk (by omega)]
  rfl
theorem isHeight_yes {c : Nat} (h1 : 48 ≤ c) (h2 : c ≤ 55) : f_X7_isHeight (nI c) = some 1 := by
  unfold f_X7_isHeight
  rw [show (48 : Int32) = nI 48 from rfl, show (55 : Int32) = nI 55 from rfl, isWithin_yes h1 h2 (by omega)]
  rfl
theorem isHeight_no {c : Nat} (h : c < 48 ∨ 55 < c) (hc : c < 2 ^ 30) : f_X7_isHeight (nI c) = some 0 := by
  unfold f_X7_isHeight
  rw [show (48 : Int32) = nI 48 from rfl, show (55 : Int32) = nI 55 from rfl, isWithin_no h (by omega) (by omega) hc]
  rfl
theorem isHeightAt_yes (hP : Pch codes pad n ch) {k : Nat} (hk : k < n) (h1 : 48 ≤ ch k) (h2 : ch k ≤ 55) : f_X2_isHeightAt codes (nI k) = some 1 := by
  unfold f_X2_isHeightAt
  have := hP.1
  rw [codeAt_ok k (by omega), (hP.2 k hk).1, Option.bind_some, isHeight_yes h1 h2]
  rfl
theorem isHeightAt_no (hP : Pch codes pad n ch) {k : Nat} (hk : k < n) (h : ch k < 48 ∨ 55 < ch k) : f_X2_isHeightAt codes (nI k) = some 0 := by
  unfold f_X2_isHeightAt
  have := hP.1
  have h126 := (hP.2 k hk).2.2.2
  rw [codeAt_ok k (by omega), (hP.2 k hk).1, Option.bind_some, isHeight_no h (by omega)]
  rfl
theorem digit_ok (hP : Pch codes pad n ch) {k : Nat} (hk : k < n) (h : 48 ≤ ch k) : f_X2_digit codes (nI k) = some (nI (ch k - 48)) := by
  unfold f_X2_digit
  have := hP.1
  rw [codeAt_ok k (by omega), (hP.2 k hk).1, Option.bind_some, show (48 : Int32) = nI 48 from rfl, pk_sub h]
theorem isAt_yes (hP : Pch codes pad n ch) {k lo hi : Nat} {A B : Int32} (hA : A = nI lo) (hB : B = nI hi) (hk : k < n) (h1 : lo ≤ ch k) (h2 : ch k ≤ hi) (hh : hi < 2 ^ 20) : f_X8_isAt pad (nI n) (nI k) A B = some 1 := by
  subst hA; subst hB
  unfold f_X8_isAt
  have := hP.1
  rw [if_neg (nI_ge hk (by omega)), if_neg (in_nI (by omega) (by decide)), nI_clamp (by omega), (hP.2 k hk).2.1, in_within rfl rfl, isWithin_yes h1 h2 (by omega)]
  rfl
theorem isAt_no (hP : Pch codes pad n ch) {k lo hi : Nat} {A B : Int32} (hA : A = nI lo) (hB : B = nI hi) (hlo : lo < 2 ^ 20) (hh : hi < 2 ^ 20) (hk : k < 2 ^ 20) (h : k < n → ch k < lo ∨ hi < ch k) : f_X8_isAt pad (nI n) (nI k) A B = some 0 := by
  subst hA; subst hB
  unfold f_X8_isAt
  have := hP.1
  by_cases hkn : k < n
  · have h126 := (hP.2 k hkn).2.2.2
    rw [if_neg (nI_ge hkn (by omega)), if_neg (in_nI (by omega) (by decide)), nI_clamp (by omega), (hP.2 k hkn).2.1, in_within rfl rfl, isWithin_no (h hkn) (by omega) (by omega) (by omega)]
    rfl
  · rw [if_pos (nI_le (by omega) (by omega))]
theorem nI_ne {a b : Nat} (h : a ≠ b) (ha : a < 2 ^ 31) (hb : b < 2 ^ 31) : ¬ nI a = nI b := fun e => h ((nI_eq ha hb).mp e)
theorem canStand_p (hP : Pch codes pad n ch) {s : Nat} (hs : 2 ≤ s) (hk : s < n) (hc : ch s = 112) (p2 : Int32) (h : 49 ≤ ch (s - 1) ∧ ch (s - 1) ≤ 55) : f_X2_canStand codes (nI s) p2 = some 1 := by
  unfold f_X2_canStand
  have := hP.1
  obtain ⟨t, rfl⟩ : ∃ t, s = t + 1 := ⟨s - 1, by omega⟩
  rw [codeAt_ok _ (by omega), (hP.2 _ hk).1, Option.bind_some, if_neg (nI_ne0 (by omega) (by omega)), if_neg (show ¬ nI (t + 1) = 1 from nI_ne (b := 1) (by omega) (by omega) (by omega)), hc, if_pos (show nI 112 = (112 : Int32) from rfl), nI_pred, isHeightAt_yes hP (by omega) (by simp at h; omega) (by simp at h; omega), Option.bind_some, if_neg h10, digit_ok hP (by omega) (by simp at h; omega), Option.bind_some, if_neg (nI_ne0 (by simp at h; omega) (by simp at h; omega))]
theorem canStand_pno (hP : Pch codes pad n ch) {s : Nat} (hs : 2 ≤ s) (hk : s < n) (hc : ch s = 112) (p2 : Int32) (h : ¬ (49 ≤ ch (s - 1) ∧ ch (s - 1) ≤ 55)) : f_X2_canStand codes (nI s) p2 = some 0 := by
  unfold f_X2_canStand
  have := hP.1
  obtain ⟨t, rfl⟩ : ∃ t, s = t + 1 := ⟨s - 1, by omega⟩
  rw [Nat.add_sub_cancel] at h
  rw [codeAt_ok _ (by omega), (hP.2 _ hk).1, Option.bind_some, if_neg (nI_ne0 (by omega) (by omega)), if_neg (show ¬ nI (t + 1) = 1 from nI_ne (b := 1) (by omega) (by omega) (by omega)), hc, if_pos (show nI 112 = (112 : Int32) from rfl), nI_pred]
  by_cases h48 : ch t = 48
  · rw [isHeightAt_yes hP (by omega) (by omega) (by omega), Option.bind_some, if_neg h10, digit_ok hP (by omega) (by omega), Option.bind_some, h48]
    rfl
  · rw [isHeightAt_no hP (by omega) (by omega)]
    rfl
theorem canStand_h (hP : Pch codes pad n ch) {s m : Nat} (hs : 2 ≤ s) (hk : s < n) (h1 : 48 ≤ ch s) (h2 : ch s ≤ 55) (hm : m < 8) : f_X2_canStand codes (nI s) (nI m) = some 1 := by
  unfold f_X2_canStand
  have := hP.1
  rw [codeAt_ok _ (by omega), (hP.2 _ hk).1, Option.bind_some, if_neg (nI_ne0 (by omega) (by omega)), if_neg (show ¬ nI s = 1 from nI_ne (b := 1) (by omega) (by omega) (by omega)), if_neg (show ¬ nI (ch s) = 112 from nI_ne (b := 112) (by omega) (by omega) (by omega)), isHeight_yes h1 h2, Option.bind_some, if_neg h10, if_neg (show ¬ (8 : Int32) ≤ nI m from ge_lit (m := 8) hm (by decide))]
theorem canStand_no (hP : Pch codes pad n ch) {s m : Nat} (hs : 2 ≤ s) (hk : s < n) (hc : ch s ≠ 112) (h : ¬ (48 ≤ ch s ∧ ch s ≤ 55) ∨ 8 ≤ m) (hm : m < 2 ^ 20) : f_X2_canStand codes (nI s) (nI m) = some 0 := by
  unfold f_X2_canStand
  have := hP.1
  have h126 := (hP.2 s hk).2.2.2
  rw [codeAt_ok _ (by omega), (hP.2 _ hk).1, Option.bind_some, if_neg (nI_ne0 (by omega) (by omega)), if_neg (show ¬ nI s = 1 from nI_ne (b := 1) (by omega) (by omega) (by omega)), if_neg (show ¬ nI (ch s) = 112 from nI_ne (b := 112) (by omega) (by omega) (by omega))]
  by_cases hh : 48 ≤ ch s ∧ ch s ≤ 55
  · rw [isHeight_yes hh.1 hh.2, Option.bind_some, if_neg h10, if_pos (show (8 : Int32) ≤ nI m from nI_le (a := 8) (by omega) (by omega))]
  · rw [isHeight_no (by omega) (by omega)]
    rfl
theorem in_m {m : Nat} (hm : m < 8) : ¬ (nI m < 0 ∨ 8 ≤ m) := by
  have := in_nI (N := 8) hm (by decide)
  rwa [nI_clamp (by omega)] at this
theorem b_pp : ∀ m, m < 8 → ∀ pp, pp < 256 → pp < 2 ^ m → ((1 : Nat) = (pp + 2 ^ m) / 2 ^ m % 2 ∧ pp + 2 ^ m < 2 ^ (m + 1) ∧ ∀ k, k < m → (pp + 2 ^ m) / 2 ^ k % 2 = pp / 2 ^ k % 2) := by decide +kernel
theorem b_pp0 : ∀ m, m < 8 → ∀ pp, pp < 256 → pp < 2 ^ m → pp / 2 ^ m % 2 = 0 ∧ pp < 2 ^ (m + 1) := by decide +kernel
theorem b_pow : ∀ m, m < 9 → 2 ^ m ≤ 256 := by decide +kernel
/-- what learn makes of the rest of the pad -/
def Lrn (codes : Nat → Int32) (n s m m' : Nat) (rH rP : Nat → Int32) (r : Nat) : Prop :=
  ∀ (h0 : Nat → Int32) (pp fuel : Nat) (place : Int32), r < fuel → pp < 2 ^ m → ∃ (h' : Nat → Int32) (pp' : Nat), f_X1_learn_L17 place codes (nI n) fuel (nI s) h0 (nI pp) (nI m) = some (h', nI pp', nI m', place) ∧ pp' < 256 ∧ (∀ k, k < 8 → h' k = if m ≤ k ∧ k < m' then rH k else h0 k) ∧ (∀ k, k < m → pp' / 2 ^ k % 2 = pp / 2 ^ k % 2) ∧ ∀ k, m ≤ k → k < m' → rP k = nI (pp' / 2 ^ k % 2)
theorem fault_run (hP : Pch codes pad n ch) : ∀ (r s m fuel fuel' : Nat) (rH rP : Nat → Int32), s + r = n → 2 ≤ s → m ≤ 8 → (s < n → ch s = 112 → ¬ (49 ≤ ch (s - 1) ∧ ch (s - 1) ≤ 55)) → r < fuel → r < fuel' →
    ∃ (ans : Int32) (rH' rP' : Nat → Int32) (m' : Nat), f_X8_fault_L35 pad (nI n) fuel' (nI s) rH rP (nI m) = some (ans, rH', rP', nI m') ∧ f_X2_programFault_L4 codes (nI n) fuel (nI m) (nI s) = some ans ∧ (ans = -6 → 1 ≤ m' ∧ m' ≤ 8 ∧ m ≤ m' ∧ (∀ k, k < m → rH' k = rH k ∧ rP' k = rP k) ∧ (∀ k, m ≤ k → k < m' → (∃ d : Nat, d < 8 ∧ rH' k = nI d) ∧ (rP' k = 0 ∨ rP' k = 1)) ∧ Lrn codes n s m m' rH' rP' r) := by
  intro r
  induction r using Nat.strongRecOn with
  | _ r ih =>
    intro s m fuel fuel' rH rP h1 h2 h3 h4 h5 h6
    have hn := hP.1
    obtain ⟨g, rfl⟩ : ∃ g, fuel = g + 1 := ⟨fuel - 1, by omega⟩
    obtain ⟨g', rfl⟩ : ∃ g, fuel' = g + 1 := ⟨fuel' - 1, by omega⟩
    by_cases hs : s < n
    · by_cases hh : m < 8 ∧ 48 ≤ ch s ∧ ch s ≤ 55
      · obtain ⟨hm, c1, c2⟩ := hh
        -- a height
        have hcs := canStand_h hP h2 hs c1 c2 hm
        have hha := isHeightAt_yes hP hs c1 c2
        have hdg := digit_ok hP hs c1
        have hpd : pad s - (48 : Int32) = nI (ch s - 48) := by rw [(hP.2 s hs).2.1, show (48 : Int32) = nI 48 from rfl, pk_sub c1]
        have estep : f_X2_programFault_L4 codes (nI n) (g + 1) (nI m) (nI s) = f_X2_programFault_L4 codes (nI n) g (nI (m + 1)) (nI (s + 1)) := by
          rw [f_X2_programFault_L4, if_neg (nI_ge hs (by omega)), hcs, Option.bind_some, if_neg h10, if_neg (show ¬ nI s < (2 : Int32) from nI_nlt (b := 2) (by omega) (by omega)), hha, Option.bind_some, if_neg h10, nI_1, nI_1]
        by_cases hp : s + 1 < n ∧ ch (s + 1) = 112 ∧ 49 ≤ ch s
        · obtain ⟨p1, p2, p3⟩ := hp
          -- with a p behind it
          obtain ⟨g2, rfl⟩ : ∃ k, g = k + 1 := ⟨g - 1, by omega⟩
          obtain ⟨ans, rH', rP', m', e1, e2, e3⟩ := ih (r - 2) (by omega) (s + 2) (m + 1) g2 g' (upd rH m (nI (ch s - 48))) (upd rP m 1) (by omega) (by omega) (by omega) (fun _ _ hx => by simp at hx; omega) (by omega) (by omega)
          refine ⟨ans, rH', rP', m', ?_, ?_, ?_⟩
          · rw [f_X8_fault_L35, if_neg (show ¬ (8 : Int32) ≤ nI m from ge_lit (m := 8) hm (by decide)), isAt_yes hP (A := 48) (B := 55) (lo := 48) (hi := 55) rfl rfl hs c1 c2 (by omega), Option.bind_some, if_neg h10, if_neg (in_nI (by omega) (by decide)), if_neg (in_nI hm (by decide)), if_neg (in_nI hm (by decide)), nI_clamp (by omega), nI_clamp (by omega), upd_s, hpd, if_neg (nI_nle (by omega) (by omega)), nI_1, isAt_yes hP (A := 112) (B := 112) (lo := 112) (hi := 112) rfl rfl p1 (by omega) (by omega) (by omega), Option.bind_some, if_neg h10, if_neg (in_m hm), nI_1, nI_1]
            exact e1
          · rw [estep, f_X2_programFault_L4, if_neg (nI_ge p1 (by omega)), canStand_p hP (by omega) p1 p2 _ (by rw [Nat.add_sub_cancel]; omega), Option.bind_some, if_neg h10, if_neg (show ¬ nI (s + 1) < (2 : Int32) from nI_nlt (b := 2) (by omega) (by omega)), isHeightAt_no hP p1 (by omega), Option.bind_some, if_pos rfl, nI_1]
            exact e2
          · intro ha
            obtain ⟨q1, q2, q3, q4, q5, q6⟩ := e3 ha
            refine ⟨q1, q2, by omega, fun k hk => ?_, fun k hk1 hk2 => ?_, ?_⟩
            · have := q4 k (by omega)
              rw [upd_n (by omega), upd_n (by omega)] at this
              exact this
            · by_cases hkm : k = m
              · subst hkm
                have := q4 k (by omega)
                rw [upd_s, upd_s] at this
                exact ⟨⟨ch s - 48, by omega, this.1⟩, Or.inr this.2⟩
              · exact q5 k (by omega) hk2
            · intro h0 pp fl place f1 f2
              have fpp : pp < 256 := Nat.lt_of_lt_of_le f2 (b_pow m (by omega))
              obtain ⟨b1, b2, b3⟩ := b_pp m hm pp fpp f2
              obtain ⟨b4, -⟩ := b_pp0 m hm pp fpp f2
              obtain ⟨fl, rfl⟩ : ∃ k, fl = k + 1 + 1 := ⟨fl - 2, by omega⟩
              obtain ⟨h', pp', z1, z2, z3, z4, z5⟩ := q6 (upd h0 m (nI (ch s - 48))) (pp + 2 ^ m) fl place (by omega) b2
              refine ⟨h', pp', ?_, z2, fun k hk => ?_, fun k hk => ?_, fun k hk1 hk2 => ?_⟩
              · rw [f_X1_learn_L17, if_neg (nI_ge hs (by omega)), hha, Option.bind_some, if_neg h10, hdg, Option.bind_some, setAt_ok _ _ hm (by omega), Option.bind_some, nI_1, nI_1, f_X1_learn_L17, if_neg (nI_ge p1 (by omega)), isHeightAt_no hP p1 (by omega), Option.bind_some, if_pos rfl, nI_pred, (b_or2 m hm pp fpp b4).1, nI_1]
                exact z1
              · rw [z3 k hk]
                have h4m := q4 m (by omega)
                rw [upd_s, upd_s] at h4m
                by_cases hkm : k = m
                · subst hkm
                  rw [if_neg (by omega), if_pos (by omega), upd_s]
                  exact h4m.1.symm
                · rw [upd_n hkm]
                  by_cases hk3 : m + 1 ≤ k ∧ k < m'
                  · rw [if_pos hk3, if_pos (by omega)]
                  · rw [if_neg hk3, if_neg (by omega)]
              · rw [z4 k (by omega), b3 k hk]
              · by_cases hkm : k = m
                · subst hkm
                  have h4m := q4 k (by omega)
                  rw [upd_s, upd_s] at h4m
                  rw [h4m.2, z4 k (by omega), ← b1]; rfl
                · exact z5 k (by omega) hk2
        · -- without
          obtain ⟨ans, rH', rP', m', e1, e2, e3⟩ := ih (r - 1) (by omega) (s + 1) (m + 1) g g' (upd rH m (nI (ch s - 48))) (upd rP m 0) (by omega) (by omega) (by omega) (fun hx1 hx2 hx3 => by rw [Nat.add_sub_cancel] at hx3; exact hp ⟨hx1, hx2, hx3.1⟩) (by omega) (by omega)
          refine ⟨ans, rH', rP', m', ?_, ?_, ?_⟩
          · rw [f_X8_fault_L35, if_neg (show ¬ (8 : Int32) ≤ nI m from ge_lit (m := 8) hm (by decide)), isAt_yes hP (A := 48) (B := 55) (lo := 48) (hi := 55) rfl rfl hs c1 c2 (by omega), Option.bind_some, if_neg h10, if_neg (in_nI (by omega) (by decide)), if_neg (in_nI hm (by decide)), if_neg (in_nI hm (by decide)), nI_clamp (by omega), nI_clamp (by omega), upd_s, hpd]
            by_cases h0 : ch s = 48
            · rw [if_pos (by rw [h0]; decide), if_neg (in_m hm), nI_1, nI_1, Int32.add_zero]
              exact e1
            · rw [if_neg (nI_nle (by omega) (by omega)), nI_1, isAt_no hP (k := s + 1) (A := 112) (B := 112) (lo := 112) (hi := 112) rfl rfl (by omega) (by omega) (by omega) (fun hx => by
                rcases Nat.lt_trichotomy (ch (s + 1)) 112 with hy | hy | hy
                · exact Or.inl hy
                · exact absurd ⟨hx, hy, by omega⟩ hp
                · exact Or.inr hy), Option.bind_some, if_pos rfl, if_neg (in_m hm), nI_1, Int32.add_zero]
              exact e1
          · rw [estep]; exact e2
          · intro ha
            obtain ⟨q1, q2, q3, q4, q5, q6⟩ := e3 ha
            refine ⟨q1, q2, by omega, fun k hk => ?_, fun k hk1 hk2 => ?_, ?_⟩
            · have := q4 k (by omega)
              rw [upd_n (by omega), upd_n (by omega)] at this
              exact this
            · by_cases hkm : k = m
              · subst hkm
                have := q4 k (by omega)
                rw [upd_s, upd_s] at this
                exact ⟨⟨ch s - 48, by omega, this.1⟩, Or.inl this.2⟩
              · exact q5 k (by omega) hk2
            · intro h0 pp fl place f1 f2
              have fpp : pp < 256 := Nat.lt_of_lt_of_le f2 (b_pow m (by omega))
              obtain ⟨b4, b5⟩ := b_pp0 m hm pp fpp f2
              obtain ⟨fl, rfl⟩ : ∃ k, fl = k + 1 := ⟨fl - 1, by omega⟩
              obtain ⟨h', pp', z1, z2, z3, z4, z5⟩ := q6 (upd h0 m (nI (ch s - 48))) pp fl place (by omega) b5
              refine ⟨h', pp', ?_, z2, fun k hk => ?_, fun k hk => z4 k (by omega), fun k hk1 hk2 => ?_⟩
              · rw [f_X1_learn_L17, if_neg (nI_ge hs (by omega)), hha, Option.bind_some, if_neg h10, hdg, Option.bind_some, setAt_ok _ _ hm (by omega), Option.bind_some, nI_1, nI_1]
                exact z1
              · rw [z3 k hk]
                have h4m := q4 m (by omega)
                rw [upd_s, upd_s] at h4m
                by_cases hkm : k = m
                · subst hkm
                  rw [if_neg (by omega), if_pos (by omega), upd_s]
                  exact h4m.1.symm
                · rw [upd_n hkm]
                  by_cases hk3 : m + 1 ≤ k ∧ k < m'
                  · rw [if_pos hk3, if_pos (by omega)]
                  · rw [if_neg hk3, if_neg (by omega)]
              · by_cases hkm : k = m
                · subst hkm
                  have h4m := q4 k (by omega)
                  rw [upd_s, upd_s] at h4m
                  rw [h4m.2, z4 k (by omega), b4]; rfl
                · exact z5 k (by omega) hk2
      · -- the first character that cannot stand
        refine ⟨nI s, rH, rP, m, ?_, ?_, ?_⟩
        · have ecl : (if nI m ≤ 0 then some (nI s, rH, rP, nI m) else (if nI s = nI n then some ((-6 : Int32), rH, rP, nI m) else some (nI s, rH, rP, nI m))) = some (nI s, rH, rP, nI m) := by
            by_cases hm0 : nI m ≤ 0
            · rw [if_pos hm0]
            · rw [if_neg hm0, if_neg (nI_ne (by omega) (by omega) (by omega))]
          rw [f_X8_fault_L35]
          by_cases hm : m < 8
          · rw [if_neg (show ¬ (8 : Int32) ≤ nI m from ge_lit (m := 8) hm (by decide)), isAt_no hP (k := s) (A := 48) (B := 55) (lo := 48) (hi := 55) rfl rfl (by omega) (by omega) (by omega) (fun _ => by omega), Option.bind_some, if_pos rfl]
            exact ecl
          · rw [if_pos (show (8 : Int32) ≤ nI m from nI_le (a := 8) (by omega) (by omega))]
            exact ecl
        · rw [f_X2_programFault_L4, if_neg (nI_ge hs (by omega))]
          by_cases hc : ch s = 112
          · rw [canStand_pno hP h2 hs hc _ (h4 hs hc), Option.bind_some, if_pos rfl]
          · rw [canStand_no hP h2 hs hc (by omega) (by omega), Option.bind_some, if_pos rfl]
        · intro ha
          rw [fa_eq, nI_toInt (by omega)] at ha
          exact absurd ha (by rw [show ((-6 : Int32)).toInt = -6 from by decide]; omega)
    · -- the end of the pad
      obtain rfl : s = n := by omega
      have hr0 : r = 0 := by omega
      by_cases hm0 : m = 0
      · subst hm0
        refine ⟨nI s, rH, rP, 0, ?_, ?_, ?_⟩
        · rw [f_X8_fault_L35, if_neg (show ¬ (8 : Int32) ≤ nI 0 by decide), isAt_no hP (k := s) (A := 48) (B := 55) (lo := 48) (hi := 55) rfl rfl (by omega) (by omega) (by omega) (fun h => by omega), Option.bind_some, if_pos rfl, if_pos (show nI 0 ≤ 0 by decide)]
        · rw [f_X2_programFault_L4, if_pos (nI_le (Nat.le_refl _) (by omega)), if_pos (show nI 0 = 0 from rfl)]
        · intro ha
          rw [fa_eq, nI_toInt (by omega)] at ha
          exact absurd ha (by rw [show ((-6 : Int32)).toInt = -6 from by decide]; omega)
      · have ecl : (if nI m ≤ 0 then some (nI s, rH, rP, nI m) else (if nI s = nI s then some ((-6 : Int32), rH, rP, nI m) else some (nI s, rH, rP, nI m))) = some ((-6 : Int32), rH, rP, nI m) := by
          rw [if_neg (nI_nle (by omega) (by omega)), if_pos rfl]
        refine ⟨-6, rH, rP, m, ?_, ?_, fun _ => ⟨by omega, h3, by omega, fun k hk => ⟨rfl, rfl⟩, fun k hk1 hk2 => by omega, ?_⟩⟩
        · rw [f_X8_fault_L35]
          by_cases hm : m < 8
          · rw [if_neg (show ¬ (8 : Int32) ≤ nI m from ge_lit (m := 8) hm (by decide)), isAt_no hP (k := s) (A := 48) (B := 55) (lo := 48) (hi := 55) rfl rfl (by omega) (by omega) (by omega) (fun h => by omega), Option.bind_some, if_pos rfl]
            exact ecl
          · rw [if_pos (show (8 : Int32) ≤ nI m from nI_le (a := 8) (by omega) (by omega))]
            exact ecl
        · rw [f_X2_programFault_L4, if_pos (nI_le (Nat.le_refl _) (by omega)), if_neg (nI_ne0 (by omega) (by omega))]
        · intro h0 pp fl place f1 f2
          obtain ⟨fl, rfl⟩ : ∃ k, fl = k + 1 := ⟨fl - 1, by omega⟩
          refine ⟨h0, pp, ?_, Nat.lt_of_lt_of_le f2 (b_pow m (by omega)), fun k hk => by rw [if_neg (by omega)], fun k hk => rfl, fun k hk1 hk2 => by omega⟩
          rw [f_X1_learn_L17, if_pos (nI_le (Nat.le_refl _) (by omega))]
theorem fault_all (hP : Pch codes pad n ch) (rH rP : Nat → Int32) (m0 : Int32) :
    ∃ (ans : Int32) (rH' rP' : Nat → Int32) (mm : Int32), f_X8_fault pad (nI n) rH rP m0 = some (ans, rH', rP', mm) ∧ f_X2_programFault codes (nI n) = some ans ∧ (ans = -6 → ∃ m' : Nat, mm = nI m' ∧ 1 ≤ m' ∧ m' ≤ 8 ∧ 2 ≤ n ∧ (ch 0 = 48 ∨ ch 0 = 49) ∧ (∀ k, k < m' → (∃ d : Nat, d < 8 ∧ rH' k = nI d) ∧ (rP' k = 0 ∨ rP' k = 1)) ∧ Lrn codes n 2 0 m' rH' rP' (n - 2)) := by
  have hn := hP.1
  obtain ⟨g, hg, hg2⟩ : ∃ g, zF = g + 1 + 1 ∧ 30 < g := ⟨_, rfl, by decide⟩
  have hz : 30 < zF := by omega
  unfold f_X8_fault f_X2_programFault
  rw [show f_X8_isAt pad (nI n) 0 48 49 = f_X8_isAt pad (nI n) (nI 0) 48 49 from rfl, show f_X8_isAt pad (nI n) 1 58 58 = f_X8_isAt pad (nI n) (nI 1) 58 58 from rfl]
  by_cases h0 : 0 < n ∧ (ch 0 = 48 ∨ ch 0 = 49)
  · obtain ⟨h1, h2⟩ := h0
    have hc0 : f_X2_canStand codes 0 0 = some 1 := by
      show f_X2_canStand codes (nI 0) 0 = some 1
      unfold f_X2_canStand
      rw [codeAt_ok _ (by omega), (hP.2 _ h1).1, Option.bind_some, if_pos (by decide)]
      rcases h2 with h2 | h2
      · rw [h2, if_pos (by decide)]
      · rw [h2, if_neg (by decide), if_pos (by decide)]
    have e1 : f_X2_programFault_L4 codes (nI n) zF 0 0 = f_X2_programFault_L4 codes (nI n) (g + 1) 0 1 := by
      rw [hg, f_X2_programFault_L4, if_neg (show ¬ nI n ≤ 0 from nI_ge (a := 0) h1 (by omega)), hc0, Option.bind_some, if_neg h10, if_pos (by decide)]
      rfl
    rw [e1, isAt_yes hP (k := 0) (A := 48) (B := 49) (lo := 48) (hi := 49) rfl rfl h1 (by omega) (by omega) (by omega), Option.bind_some, if_neg h10]
    by_cases h3 : 1 < n ∧ ch 1 = 58
    · obtain ⟨h3, h4⟩ := h3
      have hc1 : f_X2_canStand codes 1 0 = some 1 := by
        show f_X2_canStand codes (nI 1) 0 = some 1
        unfold f_X2_canStand
        rw [codeAt_ok _ (by omega), (hP.2 _ h3).1, Option.bind_some, if_neg (by decide), if_pos (by decide), h4, if_pos (by decide)]
      rw [f_X2_programFault_L4, if_neg (show ¬ nI n ≤ 1 from nI_ge (a := 1) h3 (by omega)), hc1, Option.bind_some, if_neg h10, if_pos (by decide), isAt_yes hP (k := 1) (A := 58) (B := 58) (lo := 58) (hi := 58) rfl rfl h3 (by omega) (by omega) (by omega), Option.bind_some, if_neg h10]
      obtain ⟨ans, rH', rP', m', z1, z2, z3⟩ := fault_run hP (n - 2) 2 0 g zF rH rP (by omega) (by omega) (by omega) (fun _ _ hx => by rw [show 2 - 1 = 1 from rfl] at hx; omega) (by omega) (by omega)
      exact ⟨ans, rH', rP', nI m', z1, z2, fun ha => by
        obtain ⟨q1, q2, q3, q4, q5, q6⟩ := z3 ha
        exact ⟨m', rfl, q1, q2, by omega, h2, fun k hk => q5 k (by omega) hk, q6⟩⟩
    · refine ⟨1, rH, rP, m0, ?_, ?_, fun h => absurd h (by decide)⟩
      · rw [isAt_no hP (k := 1) (A := 58) (B := 58) (lo := 58) (hi := 58) rfl rfl (by omega) (by omega) (by omega) (fun hx => by omega), Option.bind_some, if_pos rfl]
      · rw [f_X2_programFault_L4]
        by_cases h5 : 1 < n
        · have hc1 : f_X2_canStand codes 1 0 = some 0 := by
            show f_X2_canStand codes (nI 1) 0 = some 0
            unfold f_X2_canStand
            have := (hP.2 1 h5).2.2.2
            rw [codeAt_ok _ (by omega), (hP.2 _ h5).1, Option.bind_some, if_neg (by decide), if_pos (by decide), if_neg (show ¬ nI (ch 1) = 58 from nI_ne (b := 58) (by omega) (by omega) (by omega))]
          rw [if_neg (show ¬ nI n ≤ 1 from nI_ge (a := 1) h5 (by omega)), hc1, Option.bind_some, if_pos rfl]
        · obtain rfl : n = 1 := by omega
          rw [if_pos (by decide), if_pos rfl]
          rfl
  · refine ⟨0, rH, rP, m0, ?_, ?_, fun h => absurd h (by decide)⟩
    · rw [isAt_no hP (k := 0) (A := 48) (B := 49) (lo := 48) (hi := 49) rfl rfl (by omega) (by omega) (by omega) (fun hx => by omega), Option.bind_some, if_pos rfl]
    · rw [hg, f_X2_programFault_L4]
      by_cases h5 : 0 < n
      · have hc0 : f_X2_canStand codes 0 0 = some 0 := by
          show f_X2_canStand codes (nI 0) 0 = some 0
          unfold f_X2_canStand
          have := (hP.2 0 h5).2.2.2
          rw [codeAt_ok _ (by omega), (hP.2 _ h5).1, Option.bind_some, if_pos (by decide), if_neg (show ¬ nI (ch 0) = 48 from nI_ne (b := 48) (by omega) (by omega) (by omega)), if_neg (show ¬ nI (ch 0) = 49 from nI_ne (b := 49) (by omega) (by omega) (by omega))]
        rw [if_neg (show ¬ nI n ≤ 0 from nI_ge (a := 0) h5 (by omega)), hc0, Option.bind_some, if_pos rfl]
      · obtain rfl : n = 0 := by omega
        rw [if_pos (by decide), if_pos rfl]
        rfl
end PD
theorem st_fault {a_pad_codes : (Nat → Int32)} {a_pad_length : Int32} {b_pad : (Nat → Int32)} {b_padLong : Int32} {b_readHeight : (Nat → Int32)} {b_readPass : (Nat → Int32)} {b_readMany : Int32} (hPd : RP a_pad_codes a_pad_length b_pad b_padLong) : ∃ (R1 : Int32) (R2 : Int32 × (Nat → Int32) × (Nat → Int32) × Int32), f_X7_fault a_pad_codes a_pad_length = some R1 ∧ f_X8_fault b_pad b_padLong b_readHeight b_readPass b_readMany = some R2 ∧ R1 = R2.1 := by
  obtain ⟨n, ch, rfl, rfl, hP⟩ := hPd.ch
  obtain ⟨ans, rH', rP', mm, e1, e2, -⟩ := fault_all hP b_readHeight b_readPass b_readMany
  refine ⟨ans, (ans, rH', rP', mm), ?_, e1, rfl⟩
  unfold f_X7_fault
  rw [e2]
  rfl
