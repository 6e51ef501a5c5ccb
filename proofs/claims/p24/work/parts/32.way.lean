/-! a way from a state to itself has no throws: the search ends, and its own state stays at 0 steps -/
theorem fill_ok (st : Nat → Int32) : ∃ st', f_J7_fill_53178 256 st (-1) = some st' ∧ ∀ j, j < 256 → st' j = -1 := by
  obtain ⟨k', e, h⟩ := loop_run (fun n x s => f_J7_fill_53178_L5 256 (-1) (Int32.ofNat 256) n x s) 256 some (fun i s => ∀ j, j < i → s j = -1)
    (fun n s _ => by
      show f_J7_fill_53178_L5 256 (-1) (Int32.ofNat 256) (n + 1) (nI 256) s = some s
      rw [f_J7_fill_53178_L5, if_pos (show Int32.ofNat 256 ≤ nI 256 by decide)])
    (fun n i s hi h => by
      refine ⟨upd s i (-1), ?_, fun j hj => ?_⟩
      · show f_J7_fill_53178_L5 256 (-1) (Int32.ofNat 256) (n + 1) (nI i) s = f_J7_fill_53178_L5 256 (-1) (Int32.ofNat 256) n (nI (i + 1)) _
        rw [f_J7_fill_53178_L5, if_neg (show ¬ Int32.ofNat 256 ≤ nI i from nI_ge (b := 256) hi (by omega)), if_neg (in_nI hi (by decide)), nI_clamp (by omega), nI_1]
      · by_cases hji : j = i
        · subst hji; exact upd_s
        · rw [upd_n hji]; exact h j (by omega)) zF 0 st (by omega) (zF_big (by omega)) (fun j hj => by omega)
  exact ⟨k', e, h⟩
theorem i32_in {n : Nat} {p : Int32} (hn : n < 2 ^ 31) (h1 : ¬ p < 0) (h2 : ¬ Int32.ofNat n ≤ p) : ∃ k, k < n ∧ p = nI k := by
  have h2' : ¬ nI n ≤ p := h2
  rw [fa_lt, show (0 : Int32).toInt = 0 from by decide] at h1
  rw [fa_le, nI_toInt hn] at h2'
  refine ⟨p.toInt.toNat, by omega, ?_⟩
  rw [fa_eq, nI_toInt (by omega)]
  omega
theorem valueAt_tot {n : Nat} (hn : n < 2 ^ 31) (f : Nat → Int32) (p : Int32) : ∃ v, f_X7_valueAt n f p = some v := by
  unfold f_X7_valueAt
  by_cases h1 : p < 0
  · rw [if_pos h1]; exact ⟨_, rfl⟩
  · rw [if_neg h1]
    by_cases h2 : Int32.ofNat n ≤ p
    · rw [if_pos h2]; exact ⟨_, rfl⟩
    · rw [if_neg h2]
      obtain ⟨k, hk, e⟩ := i32_in hn h1 h2
      subst e
      rw [if_neg (by rw [nI_clamp (by omega)]; exact fun x => x.elim h1 (fun y => by omega))]
      exact ⟨_, rfl⟩
theorem setAt_tot {n : Nat} (hn : n < 2 ^ 31) (f : Nat → Int32) (p x : Int32) : ∃ g, f_X7_setAt n f p x = some g ∧ ∀ k, p ≠ nI k → g k = f k := by
  unfold f_X7_setAt
  by_cases h1 : p < 0
  · rw [if_pos h1]; exact ⟨_, rfl, fun _ _ => rfl⟩
  · rw [if_neg h1]
    by_cases h2 : Int32.ofNat n ≤ p
    · rw [if_pos h2]; exact ⟨_, rfl, fun _ _ => rfl⟩
    · rw [if_neg h2]
      obtain ⟨k, hk, e⟩ := i32_in hn h1 h2
      subst e
      rw [nI_clamp (by omega), if_neg (fun x => x.elim h1 (fun y => by omega))]
      exact ⟨_, rfl, fun j hj => upd_n (fun e => hj (by rw [e]))⟩
theorem stepsTo_tot (st : Nat → Int32) (p : Int32) : ∃ v, f_X6_stepsTo st p = some v := by
  obtain ⟨v, e⟩ := valueAt_tot (n := 256) (by omega) st p
  exact ⟨v, by unfold f_X6_stepsTo; rw [e]; rfl⟩
theorem firstThrowTo_tot (st : Nat → Int32) (p : Int32) : ∃ v, f_X6_firstThrowTo st p = some v := by
  obtain ⟨v, e⟩ := valueAt_tot (n := 256) (by omega) st p
  exact ⟨v, by unfold f_X6_firstThrowTo; rw [e]; rfl⟩
theorem stepsTo_ok (st : Nat → Int32) {k : Nat} (hk : k < 256) : f_X6_stepsTo st (nI k) = some (st k) := by
  unfold f_X6_stepsTo
  rw [valueAt_ok st hk (by omega)]; rfl
section
variable {s : Nat}
theorem reach_tot {s : Nat} (hs : s < 256) (st f l rc : Nat → Int32) (m p a b d : Int32) (h0 : st s = 0) : ∃ (st' f' l' rc' : Nat → Int32) (m' : Int32), f_X6_reach st f l rc m p a b d = some (st', f', l', rc', m') ∧ st' s = 0 := by
  obtain ⟨v, ev⟩ := stepsTo_tot st p
  unfold f_X6_reach
  rw [ev, Option.bind_some]
  by_cases hv : v = -1
  · rw [if_pos hv]
    have hp : p ≠ nI s := by
      intro e
      rw [e, stepsTo_ok st hs] at ev
      have e2 := Option.some.inj ev
      rw [h0, hv] at e2
      exact absurd e2 (by decide)
    obtain ⟨g1, e1, k1⟩ := setAt_tot (n := 256) (by omega) st p a
    obtain ⟨g2, e2, -⟩ := setAt_tot (n := 256) (by omega) f p b
    obtain ⟨g3, e3, -⟩ := setAt_tot (n := 256) (by omega) l p d
    obtain ⟨g4, e4, -⟩ := setAt_tot (n := 256) (by omega) rc m p
    rw [e1, Option.bind_some, e2, Option.bind_some, e3, Option.bind_some, e4, Option.bind_some]
    exact ⟨_, _, _, _, _, rfl, by rw [k1 s hp]; exact h0⟩
  · rw [if_neg hv]
    exact ⟨_, _, _, _, _, rfl, h0⟩
theorem makeThrow_tot {s : Nat} (hs : s < 256) (st f l rc : Nat → Int32) (m p h : Int32) (h0 : st s = 0) : ∃ (st' f' l' rc' : Nat → Int32) (m' : Int32), f_X6_makeThrow st f l rc m p h = some (st', f', l', rc', m') ∧ st' s = 0 := by
  obtain ⟨v, ev⟩ := stepsTo_tot st p
  obtain ⟨w, ew⟩ := firstThrowTo_tot f p
  unfold f_X6_makeThrow
  rw [ev, Option.bind_some]
  by_cases hv : v = 0
  · rw [if_pos hv]
    obtain ⟨st', f', l', rc', m', e, e0⟩ := reach_tot hs st f l rc m ((p ||| ((1 : Int32) <<< (h &&& 31))) >>> ((1 : Int32) &&& 31)) (v + (1 : Int32)) h h h0
    rw [e, Option.bind_some]
    exact ⟨_, _, _, _, _, rfl, e0⟩
  · rw [if_neg hv, ew, Option.bind_some]
    obtain ⟨st', f', l', rc', m', e, e0⟩ := reach_tot hs st f l rc m ((p ||| ((1 : Int32) <<< (h &&& 31))) >>> ((1 : Int32) &&& 31)) (v + (1 : Int32)) w h h0
    rw [e, Option.bind_some]
    exact ⟨_, _, _, _, _, rfl, e0⟩
theorem has_tot (p k : Int32) : ∃ v, f_X7_has p k = some v := by
  unfold f_X7_has
  by_cases h : ((p >>> (k &&& 31)) &&& (1 : Int32)) = 0
  · rw [if_pos h]; exact ⟨_, rfl⟩
  · rw [if_neg h]; exact ⟨_, rfl⟩
theorem goOn17_tot {s : Nat} (hs : s < 256) (p : Int32) : ∀ (r h fuel : Nat) (st f l rc : Nat → Int32) (m : Int32), h + r = 8 → r < fuel → st s = 0 → ∃ (st' f' l' rc' : Nat → Int32) (m' : Int32), f_X6_goOnFrom_L17 p fuel (nI h) st f l rc m = some (st', f', l', rc', m') ∧ st' s = 0 := by
  intro r
  induction r with
  | zero =>
    intro h fuel st f l rc m h1 h2 h0
    obtain ⟨g, rfl⟩ : ∃ g, fuel = g + 1 := ⟨fuel - 1, by omega⟩
    rw [f_X6_goOnFrom_L17, if_pos (show (8 : Int32) ≤ nI h from nI_le (a := 8) (by omega) (by omega))]
    exact ⟨_, _, _, _, _, rfl, h0⟩
  | succ r ih =>
    intro h fuel st f l rc m h1 h2 h0
    obtain ⟨g, rfl⟩ : ∃ g, fuel = g + 1 := ⟨fuel - 1, by omega⟩
    obtain ⟨v, ev⟩ := has_tot p (nI h)
    rw [f_X6_goOnFrom_L17, if_neg (show ¬ (8 : Int32) ≤ nI h from ge_lit (m := 8) (by omega) (by decide)), ev, Option.bind_some, nI_1]
    by_cases hv : v = 0
    · rw [if_pos hv]
      obtain ⟨st', f', l', rc', m', e, e0⟩ := makeThrow_tot hs st f l rc m p (nI h) h0
      rw [e, Option.bind_some]
      exact ih (h + 1) g st' f' l' rc' m' (by omega) (by omega) e0
    · rw [if_neg hv]
      exact ih (h + 1) g st f l rc m (by omega) (by omega) h0
theorem goOn_tot {s : Nat} (hs : s < 256) (st f l rc : Nat → Int32) (m p : Int32) (h0 : st s = 0) : ∃ (st' f' l' rc' : Nat → Int32) (m' : Int32), f_X6_goOnFrom st f l rc m p = some (st', f', l', rc', m') ∧ st' s = 0 := by
  obtain ⟨v, ev⟩ := has_tot p 0
  unfold f_X6_goOnFrom
  rw [ev, Option.bind_some]
  by_cases hv : v = 0
  · rw [if_pos hv]
    obtain ⟨st', f', l', rc', m', e, e0⟩ := makeThrow_tot hs st f l rc m p 0 h0
    rw [e, Option.bind_some]
    exact ⟨_, _, _, _, _, rfl, e0⟩
  · rw [if_neg hv]
    exact goOn17_tot hs p 7 1 zF st f l rc m (by omega) (by unfold zF; omega) h0
theorem search23_tot {s : Nat} (hs : s < 256) : ∀ (r i fuel : Nat) (st f l rc : Nat → Int32) (m : Int32), i + r = 256 → r < fuel → st s = 0 → ∃ (st' f' l' rc' : Nat → Int32) (m' : Int32), f_X6_searchFrom_L23 fuel (nI i) st f l rc m = some (st', f', l', rc', m') ∧ st' s = 0 := by
  intro r
  induction r with
  | zero =>
    intro i fuel st f l rc m h1 h2 h0
    obtain ⟨g, rfl⟩ : ∃ g, fuel = g + 1 := ⟨fuel - 1, by omega⟩
    rw [f_X6_searchFrom_L23]
    by_cases hm : m ≤ nI i
    · rw [if_pos hm]; exact ⟨_, _, _, _, _, rfl, h0⟩
    · rw [if_neg hm, if_pos (show (256 : Int32) ≤ nI i from nI_le (a := 256) (by omega) (by omega))]
      exact ⟨_, _, _, _, _, rfl, h0⟩
  | succ r ih =>
    intro i fuel st f l rc m h1 h2 h0
    obtain ⟨g, rfl⟩ : ∃ g, fuel = g + 1 := ⟨fuel - 1, by omega⟩
    rw [f_X6_searchFrom_L23]
    by_cases hm : m ≤ nI i
    · rw [if_pos hm]; exact ⟨_, _, _, _, _, rfl, h0⟩
    · rw [if_neg hm, if_neg (show ¬ (256 : Int32) ≤ nI i from ge_lit (m := 256) (by omega) (by decide)), valueAt_ok rc (show i < 256 by omega) (by omega), Option.bind_some]
      obtain ⟨st', f', l', rc', m', e, e0⟩ := goOn_tot hs st f l rc m (rc i) h0
      rw [e, Option.bind_some, nI_1]
      exact ih (i + 1) g st' f' l' rc' m' (by omega) (by omega) e0
end
theorem search_self {s : Nat} (hs : s < 256) (st f l rc : Nat → Int32) (m : Int32) : ∃ (st' f' l' rc' : Nat → Int32) (m' : Int32), f_X6_searchFrom st f l rc m (nI s) = some (st', f', l', rc', m') ∧ st' s = 0 := by
  obtain ⟨q1, e1, h1⟩ := fill_ok st
  unfold f_X6_searchFrom
  rw [e1, Option.bind_some]
  have e2 : f_X6_reach q1 f l rc (0 : Int32) (nI s) (0 : Int32) (0 : Int32) (0 : Int32) = some (upd q1 s 0, upd f s 0, upd l s 0, upd rc 0 (nI s), 0 + 1) := by
    unfold f_X6_reach
    rw [stepsTo_ok q1 hs, Option.bind_some, if_pos (h1 s hs), setAt_ok _ _ hs (by omega), Option.bind_some, setAt_ok _ _ hs (by omega), Option.bind_some, setAt_ok _ _ hs (by omega), Option.bind_some, show f_X7_setAt 256 rc (0 : Int32) (nI s) = some (upd rc 0 (nI s)) from setAt_ok rc _ (k := 0) (by omega) (by omega), Option.bind_some]
  rw [e2, Option.bind_some]
  exact search23_tot hs 256 0 zF _ _ _ _ _ (by omega) (by unfold zF; omega) upd_s
theorem way_self {S : ST} {P : PG} {k : KY} {f : Nat} (h : WS S P k f) (W1 W2 W3 W4 : Nat → Int32) (W5 : Int32) : ∃ (R : Int32 × (Nat → Int32) × (Nat → Int32) × (Nat → Int32) × (Nat → Int32) × Int32), f_X7_way S W1 W2 W3 W4 W5 0 (nI k.1.1) 0 = some R ∧ R.1 = 0 := by
  have hs := h.1.1.1
  obtain ⟨st', f', l', rc', m', e, e0⟩ := search_self hs W1 W2 W3 W4 W5
  unfold f_X7_way
  rw [isJug0, Option.bind_some, if_neg h10, show f_X7_isWithin (nI k.1.1) (0 : Int32) (255 : Int32) = some 1 from isWithin_yes (a := 0) (b := 255) (by omega) (by omega) (by omega), Option.bind_some, if_neg h10, show f_X7_isWithin (0 : Int32) (0 : Int32) (2 : Int32) = some 1 by decide, Option.bind_some, if_neg h10, if_pos rfl, h.1.2.1, e, Option.bind_some, stepsTo_ok st' hs, Option.bind_some, e0, if_neg (by decide), if_pos rfl]
  exact ⟨_, rfl, rfl⟩
