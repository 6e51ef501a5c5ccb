/-! the class's search -/
theorem w1 {s t : Nat} (hs : s < 256) (ht : t < 128) : wD s t = 15 ↔ pcN s ≠ pcN t := by
  have h := allN_ok (allN_ok w_c1 s hs) t ht
  unfold ck1 at h
  have e := Bool.eq_iff_iff.mp (eq_of_beq h)
  rw [beq_iff_eq, bne_iff_ne] at e
  exact e
theorem wD_lt (s t : Nat) : wD s t < 16 := by
  unfold wD
  by_cases h : s = t
  · rw [if_pos h]; omega
  · rw [if_neg h]
    by_cases h2 : t < 128
    · rw [if_pos h2]; omega
    · rw [if_neg h2]; omega
theorem wF_lt (s t : Nat) : wF s t < 16 := by
  unfold wF
  by_cases h : s = t
  · rw [if_pos h]; omega
  · rw [if_neg h]; omega
theorem wL_lt (s t : Nat) : wL s t < 16 := by
  unfold wL wE
  by_cases h : s = t
  · rw [if_pos h]; omega
  · rw [if_neg h]; omega
theorem wD_self (s : Nat) : wD s s = 0 := if_pos rfl
theorem w_128 {s t : Nat} (h : wD s t ≠ 15) (hn : s ≠ t) : t < 128 := by
  apply Classical.byContradiction
  intro hc
  exact h (by unfold wD; rw [if_neg hn, if_neg hc])
theorem w15 {s t h : Nat} (hs : s < 256) (hh : h < 8) (hl : lgl s h = true) (hd : wD s t = 15) : wD (nxt s h) t = 15 := by
  have hn : s ≠ t := by
    intro e
    subst e
    rw [wD_self] at hd
    exact absurd hd (by decide)
  obtain ⟨n1, n2, -, -⟩ := w_nx h hh s hs hl
  by_cases ht : t < 128
  · rw [w1 (by omega) ht, n2]
    exact (w1 hs ht).mp hd
  · unfold wD
    rw [if_neg (by omega), if_neg ht]
theorem w3 {s t : Nat} (hs : s < 256) (hd : wD s t ≠ 15) (hn : s ≠ t) : 1 ≤ wD s t ∧ wD s t ≤ 8 ∧ wF s t < 8 ∧ lgl s (wF s t) = true ∧ wD (nxt s (wF s t)) t + 1 = wD s t ∧ wL s t = (if wD s t = 1 then wF s t else wL (nxt s (wF s t)) t) ∧ ∀ h, h < 8 → lgl s h = true → wD s t ≤ wD (nxt s h) t + 1 ∧ (h < wF s t → wD (nxt s h) t + 1 ≠ wD s t) := by
  have h := allN_ok (allN_ok w_c3 s hs) t (w_128 hd hn)
  unfold ck3 at h
  rw [Bool.or_eq_true, Bool.or_eq_true, beq_iff_eq, beq_iff_eq] at h
  rcases h with (h | h) | h
  · exact absurd h hd
  · exact absurd h hn
  · rw [Bool.and_eq_true, Bool.and_eq_true, Bool.and_eq_true, Bool.and_eq_true, Bool.and_eq_true, Bool.and_eq_true, beq_iff_eq, beq_iff_eq] at h
    obtain ⟨⟨⟨⟨⟨⟨h1, h2⟩, h3⟩, h4⟩, h5⟩, h6⟩, h7⟩ := h
    refine ⟨Nat.le_of_ble_eq_true h1, Nat.le_of_ble_eq_true h2, Nat.le_of_ble_eq_true h3, h4, h5, h6, fun k hk hl => ?_⟩
    have hk2 := allN_ok h7 k hk
    unfold ck3h at hk2
    rw [hl, Bool.or_eq_true, Bool.and_eq_true] at hk2
    rcases hk2 with hk2 | ⟨k1, k2⟩
    · exact absurd hk2 (by decide)
    · refine ⟨Nat.le_of_ble_eq_true k1, fun hlt => ?_⟩
      rw [Bool.or_eq_true, bne_iff_ne] at k2
      rcases k2 with k2 | k2
      · have := Nat.le_of_ble_eq_true k2
        omega
      · exact k2
theorem wQ_lt (s i : Nat) : wQ s i < 256 := Nat.mod_lt _ (by omega)
/-- the arrays of the search from s, when c states are reached, those of V -/
def WI (s c V : Nat) (st f l rc : Nat → Int32) : Prop := 1 ≤ c ∧ c ≤ 40 ∧ (∀ u, u < 256 → (V.testBit u = true → st u = nI (wD s u) ∧ f u = nI (wF s u) ∧ l u = nI (wL s u)) ∧ (V.testBit u = false → st u = -1)) ∧ ∀ j, j < c → rc j = nI (wQ s j) ∧ V.testBit (wQ s j) = true
theorem st6 (st : Nat → Int32) {k : Nat} (hk : k < 256) : f_X6_stepsTo st (nI k) = some (st k) := by
  unfold f_X6_stepsTo
  rw [valueAt_ok _ hk (by omega)]
  rfl
theorem ft6 (st : Nat → Int32) {k : Nat} (hk : k < 256) : f_X6_firstThrowTo st (nI k) = some (st k) := by
  unfold f_X6_firstThrowTo
  rw [valueAt_ok _ hk (by omega)]
  rfl
theorem lt6 (st : Nat → Int32) {k : Nat} (hk : k < 256) : f_X6_lastThrowTo st (nI k) = some (st k) := by
  unfold f_X6_lastThrowTo
  rw [valueAt_ok _ hk (by omega)]
  rfl
theorem nI_m1 {k : Nat} (hk : k < 2 ^ 20) : ¬ nI k = -1 := by
  intro e
  rw [fa_eq, nI_toInt (by omega), show ((-1 : Int32)).toInt = -1 by decide] at e
  omega
section WY
variable {s c V : Nat} {st f l rc : Nat → Int32}
theorem reach_no {u : Nat} (hu : u < 256) (hm : ¬ st u = -1) (a b d : Int32) : f_X6_reach st f l rc (nI c) (nI u) a b d = some (st, f, l, rc, nI c) := by
  unfold f_X6_reach
  rw [st6 _ hu, Option.bind_some, if_neg hm]
theorem reach_yes {u : Nat} (hu : u < 256) (hc : c < 256) (hm : st u = -1) (a b d : Int32) : f_X6_reach st f l rc (nI c) (nI u) a b d = some (upd st u a, upd f u b, upd l u d, upd rc c (nI u), nI (c + 1)) := by
  unfold f_X6_reach
  rw [st6 _ hu, Option.bind_some, if_pos hm, setAt_ok _ _ hu (by omega), Option.bind_some, setAt_ok _ _ hu (by omega), Option.bind_some, setAt_ok _ _ hu (by omega), Option.bind_some, setAt_ok _ _ hc (by omega), Option.bind_some, nI_1]
theorem wi_throw {i h c' V' : Nat} (hI : WI s c V st f l rc) (hi : i < c) (hh : h < 8) (hl : lgl (wQ s i) h = true) (hS : wS s i h c V = some (c', V')) : ∃ st' f' l' rc', f_X6_makeThrow st f l rc (nI c) (nI (wQ s i)) (nI h) = some (st', f', l', rc', nI c') ∧ WI s c' V' st' f' l' rc' ∧ c ≤ c' := by
  obtain ⟨c1, c2, hu, hr⟩ := hI
  have hx := wQ_lt s i
  obtain ⟨x1, x2, x3⟩ := (hu _ hx).1 (hr i hi).2
  obtain ⟨n1, n2, n3, n4⟩ := w_nx h hh _ hx hl
  have hD := wD_lt s (wQ s i)
  unfold f_X6_makeThrow
  rw [st6 _ hx, Option.bind_some, ft6 _ hx, n4, x1, x2, nI_1]
  unfold wS at hS
  by_cases hv : V.testBit (nxt (wQ s i) h) = true
  · rw [if_pos hv] at hS
    injection hS with hS
    injection hS with e1 e2
    subst e1; subst e2
    have hm : ¬ st (nxt (wQ s i) h) = -1 := by
      rw [((hu _ (by omega)).1 hv).1]
      exact nI_m1 (by have := wD_lt s (nxt (wQ s i) h); omega)
    refine ⟨st, f, l, rc, ?_, ⟨c1, c2, hu, hr⟩, Nat.le_refl _⟩
    rw [reach_no (by omega) hm, Option.bind_some, Option.bind_some, reach_no (by omega) hm, Option.bind_some]
    by_cases h0 : nI (wD s (wQ s i)) = 0
    · rw [if_pos h0]
    · rw [if_neg h0]
  · rw [if_neg hv] at hS
    have hvf : V.testBit (nxt (wQ s i) h) = false := by
      cases hb : V.testBit (nxt (wQ s i) h)
      · rfl
      · exact absurd hb hv
    have hm := (hu _ (show nxt (wQ s i) h < 256 by omega)).2 hvf
    by_cases hk : wQ s c = nxt (wQ s i) h ∧ wD s (nxt (wQ s i) h) = wD s (wQ s i) + 1 ∧ wF s (nxt (wQ s i) h) = (if wD s (wQ s i) = 0 then h else wF s (wQ s i)) ∧ wL s (nxt (wQ s i) h) = h ∧ c < 40
    · rw [if_pos hk] at hS
      injection hS with hS
      injection hS with e1 e2
      subst e1; subst e2
      obtain ⟨k1, k2, k3, k4, k5⟩ := hk
      refine ⟨upd st (nxt (wQ s i) h) (nI (wD s (wQ s i) + 1)), upd f (nxt (wQ s i) h) (nI (wF s (nxt (wQ s i) h))), upd l (nxt (wQ s i) h) (nI h), upd rc c (nI (nxt (wQ s i) h)), ?_, ⟨by omega, by omega, fun u hu2 => ?_, fun j hj => ?_⟩, by omega⟩
      · rw [reach_yes (by omega) (by omega) hm, Option.bind_some, Option.bind_some, reach_yes (by omega) (by omega) hm, Option.bind_some, k3]
        by_cases h0 : wD s (wQ s i) = 0
        · rw [if_pos (by rw [h0]; rfl), if_pos h0]
        · rw [if_neg (nI_ne0 (by omega) (by omega)), if_neg h0]
      · rw [Nat.testBit_or, Nat.testBit_two_pow]
        by_cases hun : u = nxt (wQ s i) h
        · subst hun
          refine ⟨fun _ => ⟨by rw [upd_s, k2], by rw [upd_s], by rw [upd_s, k4]⟩, fun hb => ?_⟩
          rw [decide_eq_true rfl, Bool.or_true] at hb
          exact absurd hb (by decide)
        · rw [decide_eq_false (fun e => hun e.symm), Bool.or_false, upd_n hun, upd_n hun, upd_n hun]
          exact hu u hu2
      · rw [Nat.testBit_or, Nat.testBit_two_pow]
        by_cases hjc : j = c
        · subst hjc
          rw [upd_s, k1, decide_eq_true rfl, Bool.or_true]
          exact ⟨rfl, rfl⟩
        · rw [upd_n hjc, (hr j (by omega)).2, Bool.true_or]
          exact ⟨(hr j (by omega)).1, rfl⟩
    · rw [if_neg hk] at hS
      exact absurd hS (by simp)
theorem lgl_odd {x h : Nat} (hx : x % 2 = 1) (hh : 1 ≤ h) : lgl x h = true ↔ x / 2 ^ h % 2 = 0 := by
  unfold lgl
  rw [if_neg (by omega), Bool.and_eq_true, bne_iff_ne, beq_iff_eq]
  exact ⟨fun h => h.2, fun h2 => ⟨by omega, h2⟩⟩
theorem wN_even {i : Nat} (hx : wQ s i % 2 = 0) : ∀ r h c V, 1 ≤ h → wN s i r h c V = some (c, V)
  | 0, h, c, V, _ => rfl
  | r + 1, h, c, V, hh => by
    have : ¬ lgl (wQ s i) h = true := by
      unfold lgl
      rw [if_pos hx, beq_iff_eq]
      omega
    rw [wN, if_neg this]
    exact wN_even hx r (h + 1) c V (by omega)
theorem wi_loop {i c' V' : Nat} (hx : wQ s i % 2 = 1) : ∀ (r h c V fuel : Nat) (st f l rc : Nat → Int32), h + r = 8 → 1 ≤ h → r < fuel → WI s c V st f l rc → i < c → wN s i r h c V = some (c', V') → ∃ st' f' l' rc', f_X6_goOnFrom_L17 (nI (wQ s i)) fuel (nI h) st f l rc (nI c) = some (st', f', l', rc', nI c') ∧ WI s c' V' st' f' l' rc' ∧ i < c' := by
  have hq := wQ_lt s i
  intro r
  induction r with
  | zero =>
    intro h c V fuel st f l rc h1 h2 h3 h4 h5 h6
    obtain ⟨g, rfl⟩ : ∃ g, fuel = g + 1 := ⟨fuel - 1, by omega⟩
    rw [wN] at h6
    injection h6 with h6
    injection h6 with e1 e2
    subst e1; subst e2
    exact ⟨st, f, l, rc, by rw [f_X6_goOnFrom_L17, if_pos (show (8 : Int32) ≤ nI h from nI_le (a := 8) (by omega) (by omega))], h4, h5⟩
  | succ r ih =>
    intro h c V fuel st f l rc h1 h2 h3 h4 h5 h6
    obtain ⟨g, rfl⟩ : ∃ g, fuel = g + 1 := ⟨fuel - 1, by omega⟩
    rw [f_X6_goOnFrom_L17, if_neg (show ¬ (8 : Int32) ≤ nI h from nI_ge (b := 8) (by omega) (by omega)), b_has h (by omega) _ hq, Option.bind_some]
    rw [wN] at h6
    by_cases hl : lgl (wQ s i) h = true
    · rw [if_pos hl] at h6
      rw [if_pos (by rw [(lgl_odd hx h2).mp hl]; rfl)]
      cases hS : wS s i h c V with
      | none => rw [hS] at h6; exact absurd h6 (by simp)
      | some p =>
        rw [hS, Option.bind_some] at h6
        obtain ⟨st', f', l', rc', z1, z2, z3⟩ := wi_throw h4 h5 (by omega) hl (show wS s i h c V = some (p.1, p.2) from hS)
        rw [z1, Option.bind_some, nI_1]
        exact ih (h + 1) p.1 p.2 g st' f' l' rc' (by omega) (by omega) (by omega) z2 (by omega) h6
    · rw [if_neg hl] at h6
      have : wQ s i / 2 ^ h % 2 = 1 := by
        have := mt (lgl_odd hx h2).mpr hl
        omega
      rw [this, if_neg (show ¬ nI 1 = 0 by decide), nI_1]
      exact ih (h + 1) c V g st f l rc (by omega) (by omega) (by omega) h4 h5 h6
theorem wi_node {i c' V' : Nat} (hI : WI s c V st f l rc) (hi : i < c) (hN : wN s i 8 0 c V = some (c', V')) : ∃ st' f' l' rc', f_X6_goOnFrom st f l rc (nI c) (nI (wQ s i)) = some (st', f', l', rc', nI c') ∧ WI s c' V' st' f' l' rc' ∧ i < c' := by
  have hq := wQ_lt s i
  have hz : 100 < zF := by decide
  unfold f_X6_goOnFrom
  rw [show f_X7_has (nI (wQ s i)) 0 = f_X7_has (nI (wQ s i)) (nI 0) from rfl, b_has 0 (by omega) _ hq, Option.bind_some, Nat.pow_zero, Nat.div_one]
  rw [wN] at hN
  by_cases hx : wQ s i % 2 = 0
  · have hl : lgl (wQ s i) 0 = true := by unfold lgl; rw [if_pos hx]; rfl
    rw [if_pos hl] at hN
    rw [if_pos (by rw [hx]; rfl)]
    cases hS : wS s i 0 c V with
    | none => rw [hS] at hN; exact absurd hN (by simp)
    | some p =>
      rw [hS, Option.bind_some, wN_even hx _ _ _ _ (by omega)] at hN
      injection hN with hN
      injection hN with e1 e2
      obtain ⟨st', f', l', rc', z1, z2, z3⟩ := wi_throw hI hi (by omega) hl (show wS s i 0 c V = some (p.1, p.2) from hS)
      rw [e1] at z1 z2 z3
      rw [e2] at z2
      rw [show f_X6_makeThrow st f l rc (nI c) (nI (wQ s i)) 0 = _ from z1, Option.bind_some]
      exact ⟨st', f', l', rc', rfl, z2, by omega⟩
  · have hx1 : wQ s i % 2 = 1 := by omega
    have hl : ¬ lgl (wQ s i) 0 = true := by unfold lgl; rw [if_neg hx]; intro e; exact absurd e (by simp)
    rw [if_neg hl] at hN
    rw [hx1, if_neg (show ¬ nI 1 = 0 by decide)]
    exact wi_loop hx1 7 1 c V zF st f l rc (by omega) (by omega) (by omega) hI hi hN
theorem wi_search {c' V' : Nat} : ∀ (r i c V fuel : Nat) (st f l rc : Nat → Int32), r ≤ fuel → i ≤ 40 → WI s c V st f l rc → wB s r i c V = some (c', V') → ∃ st' f' l' rc', f_X6_searchFrom_L23 fuel (nI i) st f l rc (nI c) = some (st', f', l', rc', nI c') ∧ WI s c' V' st' f' l' rc' := by
  intro r
  induction r with
  | zero => intro i c V fuel st f l rc _ _ _ h; rw [wB] at h; exact absurd h (by simp)
  | succ r ih =>
    intro i c V fuel st f l rc h1 hi40 h2 h3
    obtain ⟨g, rfl⟩ : ∃ g, fuel = g + 1 := ⟨fuel - 1, by omega⟩
    have hc40 := h2.2.1
    rw [wB] at h3
    by_cases hci : c ≤ i
    · rw [if_pos hci] at h3
      injection h3 with h3
      injection h3 with e1 e2
      subst e1; subst e2
      refine ⟨st, f, l, rc, ?_, h2⟩
      rw [f_X6_searchFrom_L23, if_pos (nI_le hci (by omega))]
    · rw [if_neg hci] at h3
      rw [f_X6_searchFrom_L23, if_neg (nI_ge (by omega) (by omega)), if_neg (show ¬ (256 : Int32) ≤ nI i from nI_ge (b := 256) (by omega) (by omega)), valueAt_ok _ (by omega) (by omega), Option.bind_some, (h2.2.2.2 i (by omega)).1]
      cases hN : wN s i 8 0 c V with
      | none => rw [hN] at h3; exact absurd h3 (by simp)
      | some p =>
        rw [hN, Option.bind_some] at h3
        obtain ⟨st', f', l', rc', z1, z2, z3⟩ := wi_node h2 (by omega) (show wN s i 8 0 c V = some (p.1, p.2) from hN)
        rw [z1, Option.bind_some, nI_1]
        exact ih (i + 1) p.1 p.2 g st' f' l' rc' (by omega) (by omega) z2 h3
end WY
theorem fill_ok (st : Nat → Int32) : ∃ st', f_J7_fill_53178 256 st (-1) = some st' ∧ ∀ j, j < 256 → st' j = -1 := by
  obtain ⟨k', e, h⟩ := loop_run (fun n x s => f_J7_fill_53178_L5 256 (-1) (Int32.ofNat 256) n x s) 256 some (fun i s => ∀ j, j < i → s j = -1)
    (fun n s _ => by
      show f_J7_fill_53178_L5 256 (-1) (Int32.ofNat 256) (n + 1) (nI 256) s = some s
      rw [f_J7_fill_53178_L5, if_pos (show Int32.ofNat 256 ≤ nI 256 by decide)])
    (fun n i s hi h => by
      refine ⟨upd s i (-1), ?_, fun j hj => ?_⟩
      · show f_J7_fill_53178_L5 256 (-1) (Int32.ofNat 256) (n + 1) (nI i) s = f_J7_fill_53178_L5 256 (-1) (Int32.ofNat 256) n (nI (i + 1)) _
        rw [f_J7_fill_53178_L5, if_neg (show ¬ Int32.ofNat 256 ≤ nI i from nI_ge (b := 256) hi (by omega)), if_neg (in_nI hi (by decide)), nI_clamp (by omega), nI_1]
      · by_cases hji : j = i
        · subst hji; exact upd_s
        · rw [upd_n hji]; exact h j (by omega)) zF 0 st (by omega) (zF_big (by omega)) (fun j hj => by omega)
  exact ⟨k', e, h⟩
theorem search_ok {s : Nat} (hs : s < 256) (st f l rc : Nat → Int32) (m : Int32) : ∃ st' f' l' rc' m', f_X6_searchFrom st f l rc m (nI s) = some (st', f', l', rc', m') ∧ ∀ u, u < 256 → (wD s u = 15 → st' u = -1) ∧ (wD s u ≠ 15 → st' u = nI (wD s u) ∧ f' u = nI (wF s u) ∧ l' u = nI (wL s u)) := by
  have hz : 100 < zF := by decide
  have hB := allN_ok w_B s hs
  unfold ckB at hB
  rw [Bool.and_eq_true, beq_iff_eq] at hB
  obtain ⟨hQ, hB⟩ := hB
  cases hW : wB s 41 0 1 (2 ^ s) with
  | none => rw [hW] at hB; exact absurd hB (by simp)
  | some p =>
    rw [hW] at hB
    obtain ⟨st0, e0, h0⟩ := fill_ok st
    have hI : WI s 1 (2 ^ s) (upd st0 s 0) (upd f s 0) (upd l s 0) (upd rc 0 (nI s)) := by
      refine ⟨by omega, by omega, fun u hu => ?_, fun j hj => ?_⟩
      · rw [Nat.testBit_two_pow]
        by_cases hus : u = s
        · subst hus
          refine ⟨fun _ => ⟨by rw [upd_s, wD_self]; rfl, by rw [upd_s]; unfold wF; rw [if_pos rfl]; rfl, by rw [upd_s]; unfold wL; rw [if_pos rfl]; rfl⟩, fun hb => ?_⟩
          rw [decide_eq_true rfl] at hb
          exact absurd hb (by decide)
        · rw [decide_eq_false (fun e => hus e.symm)]
          exact ⟨fun hb => absurd hb (by decide), fun _ => by rw [upd_n hus]; exact h0 u hu⟩
      · obtain rfl : j = 0 := by omega
        rw [upd_s, hQ, Nat.testBit_two_pow, decide_eq_true rfl]
        exact ⟨rfl, rfl⟩
    obtain ⟨st', f', l', rc', z1, z2⟩ := wi_search 41 0 1 (2 ^ s) zF _ _ _ _ (by omega) (by omega) hI (show wB s 41 0 1 (2 ^ s) = some (p.1, p.2) from hW)
    refine ⟨st', f', l', rc', nI p.1, ?_, fun u hu => ?_⟩
    · unfold f_X6_searchFrom
      rw [e0, Option.bind_some, show f_X6_reach st0 f l rc 0 (nI s) 0 0 0 = f_X6_reach st0 f l rc (nI 0) (nI s) 0 0 0 from rfl, reach_yes hs (by omega) (h0 s hs), Option.bind_some]
      exact z1
    · have hb := Bool.eq_iff_iff.mp (eq_of_beq (allN_ok hB u hu))
      rw [bne_iff_ne] at hb
      obtain ⟨-, -, hu2, -⟩ := z2
      refine ⟨fun hd => (hu2 u hu).2 ?_, fun hd => (hu2 u hu).1 (hb.mpr hd)⟩
      cases ht : p.2.testBit u
      · rfl
      · exact absurd hd (hb.mp ht)
