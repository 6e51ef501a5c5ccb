/-! the reference's ways, and st_way -/
def TK (t r x : Nat) (T : Nat → Int32) : Prop := ∀ s, s < 256 → T s = if wD s t ≤ (if s < x then r + 1 else r) then nI (wD s t) else -1
section WX
variable {t r : Nat} {T : Nat → Int32}
theorem TK.cases {x : Nat} (h : TK t r x T) {s : Nat} (hs : s < 256) : (T s = nI (wD s t) ∧ wD s t ≤ r + 1) ∨ (T s = -1 ∧ r < wD s t) := by
  rw [h s hs]
  by_cases hx : s < x
  · rw [if_pos hx]
    by_cases hd : wD s t ≤ r + 1
    · rw [if_pos hd]; exact Or.inl ⟨rfl, hd⟩
    · rw [if_neg hd]; exact Or.inr ⟨rfl, by omega⟩
  · rw [if_neg hx]
    by_cases hd : wD s t ≤ r
    · rw [if_pos hd]; exact Or.inl ⟨rfl, by omega⟩
    · rw [if_neg hd]; exact Or.inr ⟨rfl, by omega⟩
theorem TK.eq_r {x : Nat} (h : TK t r x T) (hr : r ≤ 15) {s : Nat} (hs : s < 256) : T s = nI r ↔ wD s t = r := by
  have hw := wD_lt s t
  rcases h.cases hs with ⟨e, hd⟩ | ⟨e, hd⟩
  · rw [e]; exact nI_eq (by omega) (by omega)
  · rw [e]
    constructor
    · intro h2; exact absurd h2.symm (nI_m1 (by omega))
    · intro h2; omega
theorem m1_neg : (-1 : Int32) < 0 ∧ ¬ (0 : Int32) ≤ -1 := by decide
theorem nI_nn {k : Nat} (hk : k < 2 ^ 31) : (0 : Int32) ≤ nI k := nI_le (a := 0) (by omega) hk
/-- after the throw that comes nearer: out -/
theorem L55_out {x : Nat} (k : Int32 → Int32 → (Nat → Int32) → Option (Nat → Int32)) (hx : x < 256) {m : Nat} (hT : T x = nI m) (hm : m < 100) (fuel : Nat) (fl : Int32) {h : Nat} (hf : 0 < fuel) : f_X8_findWays_L55 (nI r) (nI x) k fuel fl (nI h) T = k fl (nI (x + 1)) T := by
  obtain ⟨g, rfl⟩ : ∃ g, fuel = g + 1 := ⟨fuel - 1, by omega⟩
  rw [f_X8_findWays_L55, if_neg (in_nI hx (by decide)), nI_clamp (by omega), hT, if_pos (nI_nn (by omega)), nI_1]
  by_cases h8 : (8 : Int32) ≤ nI h
  · rw [if_pos h8]
  · rw [if_neg h8]
theorem L55_run {x : Nat} (k : Int32 → Int32 → (Nat → Int32) → Option (Nat → Int32)) (hx : x < 256) (hr : r ≤ 14) (hK : TK t r x T) (hT : T x = -1) : ∀ (m h fuel : Nat) (fl : Int32), h + m = 8 → m < fuel → (fl = 0 ∨ fl = 1) → (f_X8_findWays_L55 (nI r) (nI x) k fuel fl (nI h) T = k fl (nI (x + 1)) T ∧ ∀ j, h ≤ j → j < 8 → lgl x j = true → wD (nxt x j) t ≠ r) ∨ (f_X8_findWays_L55 (nI r) (nI x) k fuel fl (nI h) T = k 1 (nI (x + 1)) (upd T x (nI (r + 1))) ∧ ∃ j, j < 8 ∧ lgl x j = true ∧ wD (nxt x j) t = r) := by
  intro m
  induction m with
  | zero =>
    intro h fuel fl h1 h2 h3
    obtain ⟨g, rfl⟩ : ∃ g, fuel = g + 1 := ⟨fuel - 1, by omega⟩
    refine Or.inl ⟨?_, fun j j1 j2 => by omega⟩
    rw [f_X8_findWays_L55, if_pos (show (8 : Int32) ≤ nI h from nI_le (a := 8) (by omega) (by omega)), nI_1]
  | succ m ih =>
    intro h fuel fl h1 h2 h3
    obtain ⟨g, rfl⟩ : ∃ g, fuel = g + 1 := ⟨fuel - 1, by omega⟩
    have hsame : upd T x (-1) = T := fa_upd_same hT
    have hin : ¬ (nI x < 0 ∨ 256 ≤ x) := fun e => e.elim (fun e => in_nI (N := 256) hx (by decide) (Or.inl e)) (fun e => by omega)
    have hstep : (if fl = 0 then f_X8_findWays_L55 (nI r) (nI x) k g 0 (nI (h + 1)) T else f_X8_findWays_L55 (nI r) (nI x) k g 1 (nI (h + 1)) T) = f_X8_findWays_L55 (nI r) (nI x) k g fl (nI (h + 1)) T := by
      rcases h3 with rfl | rfl
      · rw [if_pos rfl]
      · rw [if_neg h10]
    rw [f_X8_findWays_L55, if_neg (show ¬ (8 : Int32) ≤ nI h from nI_ge (b := 8) (by omega) (by omega)), if_neg (in_nI hx (by decide)), nI_clamp (by omega), hT, if_neg m1_neg.2]
    simp only [if_neg hin]
    rw [nI_1, hsame]
    by_cases hl : lgl x h = true
    · obtain ⟨n1, n2, n3, n4⟩ := w_nx h (by omega) x hx hl
      rw [n3, Option.bind_some, if_neg (show ¬ nI (nxt x h) < 0 from nI_nlt (b := 0) (by omega) (by omega)), if_neg (in_nI (by omega) (by decide)), nI_clamp (by omega)]
      by_cases hd : wD (nxt x h) t = r
      · rw [if_pos ((hK.eq_r (by omega) (by omega)).mpr hd), nI_1]
        refine Or.inr ⟨?_, h, by omega, hl, hd⟩
        have ho := L55_out (r := r) (T := upd T x (nI (r + 1))) k hx (m := r + 1) upd_s (by omega) g 1 (h := h + 1) (by omega)
        rw [ho]
        by_cases hf : fl = 0
        · rw [if_pos hf]
        · rw [if_neg hf]
      · rw [if_neg (fun e => hd ((hK.eq_r (by omega) (by omega)).mp e)), hstep]
        rcases ih (h + 1) g fl (by omega) (by omega) h3 with ⟨e1, e2⟩ | ⟨e1, e2⟩
        · refine Or.inl ⟨e1, fun j j1 j2 j3 => ?_⟩
          by_cases hjh : j = h
          · subst hjh; exact hd
          · exact e2 j (by omega) j2 j3
        · exact Or.inr ⟨e1, e2⟩
    · have hlf : lgl x h = false := by
        cases hb : lgl x h
        · rfl
        · exact absurd hb hl
      rw [w_no h (by omega) x hx hlf, Option.bind_some, if_pos m1_neg.1, hstep]
      rcases ih (h + 1) g fl (by omega) (by omega) h3 with ⟨e1, e2⟩ | ⟨e1, e2⟩
      · refine Or.inl ⟨e1, fun j j1 j2 j3 => ?_⟩
        by_cases hjh : j = h
        · subst hjh; exact absurd j3 hl
        · exact e2 j (by omega) j2 j3
      · exact Or.inr ⟨e1, e2⟩
theorem next_r {x : Nat} (hx : x < 256) (hr : r ≤ 10) (hd : r < wD x t) : wD x t = r + 1 ↔ ∃ j, j < 8 ∧ lgl x j = true ∧ wD (nxt x j) t = r := by
  constructor
  · intro e
    by_cases h15 : wD x t = 15
    · omega
    · have hn : x ≠ t := by
        intro e2; subst e2; rw [wD_self] at hd; omega
      obtain ⟨k1, k2, k3, k4, k5, -⟩ := w3 hx h15 hn
      exact ⟨wF x t, k3, k4, by omega⟩
  · rintro ⟨j, j1, j2, j3⟩
    have h15 : wD x t ≠ 15 := fun e => by
      have := w15 hx j1 j2 e
      omega
    have hn : x ≠ t := by
      intro e2; subst e2; rw [wD_self] at hd; omega
    obtain ⟨k1, k2, k3, k4, k5, -, k7⟩ := w3 hx h15 hn
    have := (k7 j j1 j2).1
    omega
theorem L55_ok {x : Nat} (k : Int32 → Int32 → (Nat → Int32) → Option (Nat → Int32)) (hx : x < 256) (hr : r ≤ 10) (hK : TK t r x T) {fl : Int32} (hf : fl = 0 ∨ fl = 1) : ∃ T' fl', f_X8_findWays_L55 (nI r) (nI x) k zF fl 0 T = k fl' (nI (x + 1)) T' ∧ TK t r (x + 1) T' ∧ (fl' = 0 ∨ fl' = 1) ∧ (fl' = 0 ↔ fl = 0 ∧ wD x t ≠ r + 1) := by
  have hz : 100 < zF := by decide
  have hw := wD_lt x t
  rcases hK.cases hx with ⟨e, hd⟩ | ⟨e, hd⟩
  · have hxr : wD x t ≤ r := by
      have e2 := hK x hx
      rw [if_neg (Nat.lt_irrefl x)] at e2
      apply Classical.byContradiction
      intro hc
      rw [if_neg hc, e] at e2
      exact nI_m1 (by omega) e2
    refine ⟨T, fl, L55_out (r := r) k hx e (by omega) zF fl (h := 0) (by omega), fun s hs => ?_, hf, ⟨fun h => ⟨h, by omega⟩, fun h => h.1⟩⟩
    rw [hK s hs]
    by_cases hsx : s = x
    · subst hsx
      rw [if_neg (Nat.lt_irrefl s), if_pos (Nat.lt_succ_self s), if_pos hxr, if_pos (by omega)]
    · by_cases hlt : s < x
      · rw [if_pos hlt, if_pos (show s < x + 1 by omega)]
      · rw [if_neg hlt, if_neg (show ¬ s < x + 1 by omega)]
  · have hnr := next_r hx hr hd
    rcases L55_run k hx (by omega) hK e 8 0 zF fl (by omega) (by omega) hf with ⟨e1, e2⟩ | ⟨e1, e2⟩
    · have hne : wD x t ≠ r + 1 := fun h => by
        obtain ⟨j, j1, j2, j3⟩ := hnr.mp h
        exact e2 j (by omega) j1 j2 j3
      refine ⟨T, fl, e1, fun s hs => ?_, hf, ⟨fun h => ⟨h, hne⟩, fun h => h.1⟩⟩
      rw [hK s hs]
      by_cases hsx : s = x
      · subst hsx
        rw [if_neg (Nat.lt_irrefl s), if_pos (Nat.lt_succ_self s), if_neg (by omega), if_neg (by omega)]
      · by_cases hlt : s < x
        · rw [if_pos hlt, if_pos (show s < x + 1 by omega)]
        · rw [if_neg hlt, if_neg (show ¬ s < x + 1 by omega)]
    · have he := hnr.mpr e2
      refine ⟨_, 1, e1, fun s hs => ?_, Or.inr rfl, ⟨fun h => absurd h h10, fun h => absurd he h.2⟩⟩
      by_cases hsx : s = x
      · subst hsx
        rw [upd_s, if_pos (Nat.lt_succ_self s), if_pos (by omega), he]
      · rw [upd_n hsx, hK s hs]
        by_cases hlt : s < x
        · rw [if_pos hlt, if_pos (show s < x + 1 by omega)]
        · rw [if_neg hlt, if_neg (show ¬ s < x + 1 by omega)]
end WX
theorem L44_ok {t r : Nat} (k : Int32 → Int32 → (Nat → Int32) → Option (Nat → Int32)) (hr : r ≤ 10) : ∀ (m x fuel : Nat) (fl : Int32) (T : Nat → Int32), x + m = 256 → m < fuel → (fl = 0 ∨ fl = 1) → TK t r x T → ∃ T' fl', f_X8_findWays_L44 (nI r) k fuel fl (nI x) T = k fl' (nI (r + 1)) T' ∧ TK t r 256 T' ∧ (fl' = 0 ∨ fl' = 1) ∧ (fl' = 0 ↔ fl = 0 ∧ ∀ s, x ≤ s → s < 256 → wD s t ≠ r + 1) := by
  intro m
  induction m with
  | zero =>
    intro x fuel fl T h1 h2 h3 h4
    obtain ⟨g, rfl⟩ : ∃ g, fuel = g + 1 := ⟨fuel - 1, by omega⟩
    obtain rfl : x = 256 := by omega
    refine ⟨T, fl, ?_, h4, h3, ⟨fun h => ⟨h, fun s s1 s2 => by omega⟩, fun h => h.1⟩⟩
    rw [f_X8_findWays_L44, if_pos (show (256 : Int32) ≤ nI 256 by decide), nI_1]
  | succ m ih =>
    intro x fuel fl T h1 h2 h3 h4
    obtain ⟨g, rfl⟩ : ∃ g, fuel = g + 1 := ⟨fuel - 1, by omega⟩
    rw [f_X8_findWays_L44, if_neg (show ¬ (256 : Int32) ≤ nI x from nI_ge (b := 256) (by omega) (by omega))]
    obtain ⟨T1, fl1, e1, e2, e3, e4⟩ := L55_ok (fun x2 x4 a => f_X8_findWays_L44 (nI r) k g x2 x4 a) (show x < 256 by omega) hr h4 h3
    rw [e1]
    obtain ⟨T2, fl2, f1, f2, f3, f4⟩ := ih (x + 1) g fl1 T1 (by omega) (by omega) e3 e2
    refine ⟨T2, fl2, f1, f2, f3, ?_⟩
    rw [f4, e4]
    constructor
    · rintro ⟨⟨a1, a2⟩, a3⟩
      refine ⟨a1, fun s s1 s2 => ?_⟩
      by_cases hsx : s = x
      · subst hsx; exact a2
      · exact a3 s (by omega) s2
    · rintro ⟨a1, a2⟩
      exact ⟨⟨a1, a2 x (Nat.le_refl _) (by omega)⟩, fun s s1 s2 => a2 s (by omega) s2⟩
theorem down_chain {t : Nat} : ∀ (m : Nat) {s r : Nat}, s < 256 → wD s t ≠ 15 → wD s t = r + m → ∃ s', s' < 256 ∧ wD s' t = r := by
  intro m
  induction m with
  | zero => intro s r hs _ h; exact ⟨s, hs, by omega⟩
  | succ m ih =>
    intro s r hs h15 h
    have hn : s ≠ t := by
      intro e; subst e; rw [wD_self] at h; omega
    obtain ⟨k1, k2, k3, k4, k5, -⟩ := w3 hs h15 hn
    have := w_nx _ k3 s hs k4
    exact ih (s := nxt s (wF s t)) (by omega) (by omega) (by omega)
def TF (t : Nat) (T : Nat → Int32) : Prop := ∀ s, s < 256 → T s = if wD s t = 15 then -1 else nI (wD s t)
theorem L35_ok {t : Nat} : ∀ (m r fuel : Nat) (fl : Int32) (T : Nat → Int32), r + m = 10 → m < fuel → (fl = 0 ∨ fl = 1) → (fl = 0 ↔ r ≠ 0 ∧ ∀ s, s < 256 → wD s t ≠ r) → TK t r 0 T → ∃ T', f_X8_findWays_L35 fuel fl (nI r) T = some T' ∧ TF t T' := by
  have hz : 1000 < zF := by decide
  have hlast : ∀ (r : Nat) (T : Nat → Int32), r ≤ 10 → (∀ s, s < 256 → wD s t ≠ r) → TK t r 0 T → TF t T := by
    intro r T hr hno hK s hs
    rw [hK s hs, if_neg (Nat.not_lt_zero s)]
    by_cases h15 : wD s t = 15
    · rw [if_pos h15, if_neg (by omega)]
    · rw [if_neg h15, if_pos]
      apply Classical.byContradiction
      intro hc
      obtain ⟨s', s1, s2⟩ := down_chain (wD s t - r) (r := r) hs h15 (by omega)
      exact hno s' s1 s2
  intro m
  induction m with
  | zero =>
    intro r fuel fl T h1 h2 h3 h4 h5
    obtain ⟨g, rfl⟩ : ∃ g, fuel = g + 1 := ⟨fuel - 1, by omega⟩
    obtain rfl : r = 10 := by omega
    have hno : ∀ s, s < 256 → wD s t ≠ 10 := fun s hs e => by
      have hn : s ≠ t := by
        intro e2; subst e2; rw [wD_self] at e; omega
      have := (w3 hs (by omega) hn).2.1
      omega
    have hf := h4.mpr ⟨by omega, hno⟩
    exact ⟨T, by rw [f_X8_findWays_L35, if_pos hf], hlast 10 T (by omega) hno h5⟩
  | succ m ih =>
    intro r fuel fl T h1 h2 h3 h4 h5
    obtain ⟨g, rfl⟩ : ∃ g, fuel = g + 1 := ⟨fuel - 1, by omega⟩
    rw [f_X8_findWays_L35]
    by_cases hf : fl = 0
    · rw [if_pos hf]
      exact ⟨T, rfl, hlast r T (by omega) (h4.mp hf).2 h5⟩
    · rw [if_neg hf]
      obtain ⟨T1, fl1, e1, e2, e3, e4⟩ := L44_ok (t := t) (r := r) (fun x2 x3 a => f_X8_findWays_L35 g x2 x3 a) (by omega) 256 0 zF 0 T (by omega) (by omega) (Or.inl rfl) h5
      rw [show f_X8_findWays_L44 (nI r) (fun x2 x3 a => f_X8_findWays_L35 g x2 x3 a) zF 0 0 T = _ from e1]
      refine ih (r + 1) g fl1 T1 (by omega) (by omega) e3 ?_ (fun s hs => ?_)
      · rw [e4]
        exact ⟨fun h => ⟨by omega, fun s hs => h.2 s (by omega) hs⟩, fun h => ⟨rfl, fun s _ hs => h.2 s hs⟩⟩
      · rw [e2 s hs, if_pos hs, if_neg (Nat.not_lt_zero s)]
theorem find_ok {t : Nat} (ht : t < 256) (T0 : Nat → Int32) : ∃ T, f_X8_findWays T0 (nI t) = some T ∧ TF t T := by
  obtain ⟨T1, e, h⟩ := loop_run (fun n x s => f_X8_findWays_L2 (nI t) n x s) 256 (fun s => f_X8_findWays_L35 zF 1 0 s) (fun i s => ∀ j, j < i → s j = if j = t then 0 else -1)
    (fun n s _ => by
      show f_X8_findWays_L2 (nI t) (n + 1) (nI 256) s = _
      rw [f_X8_findWays_L2, if_pos (show (256 : Int32) ≤ nI 256 by decide)])
    (fun n i s hi h => by
      refine ⟨upd s i (if i = t then 0 else -1), ?_, fun j hj => ?_⟩
      · show f_X8_findWays_L2 (nI t) (n + 1) (nI i) s = f_X8_findWays_L2 (nI t) n (nI (i + 1)) _
        rw [f_X8_findWays_L2, if_neg (show ¬ (256 : Int32) ≤ nI i from nI_ge (b := 256) hi (by omega)), nI_clamp (by omega), nI_1]
        have hin : ¬ (nI i < 0 ∨ 256 ≤ i) := fun e => e.elim (fun e => in_nI (N := 256) hi (by decide) (Or.inl e)) (fun e => by omega)
        simp only [if_neg hin]
        by_cases hit : i = t
        · rw [if_pos (by rw [hit]), if_pos hit]
        · rw [if_neg (nI_ne hit (by omega) (by omega)), if_neg hit]
      · by_cases hji : j = i
        · subst hji; exact upd_s
        · rw [upd_n hji]; exact h j (by omega)) zF 0 T0 (by omega) (zF_big (by omega)) (fun j hj => by omega)
  have hz : 1000 < zF := by decide
  obtain ⟨T, f1, f2⟩ := L35_ok (t := t) 10 0 zF 1 T1 (by omega) (by omega) (Or.inr rfl) ⟨fun h => absurd h h10, fun h => absurd rfl h.1⟩ (fun s hs => by
    rw [h s hs, if_neg (Nat.not_lt_zero s)]
    by_cases hst : s = t
    · subst hst; rw [if_pos rfl, wD_self, if_pos (Nat.le_refl _)]; rfl
    · rw [if_neg hst, if_neg]
      intro hd
      have := (w3 hs (by omega) hst).1
      omega)
  exact ⟨T, by unfold f_X8_findWays; rw [show f_X8_findWays_L2 (nI t) zF 0 T0 = _ from e]; exact f1, f2⟩
section WZ
variable {t : Nat} {T : Nat → Int32}
theorem TF.ok (hT : TF t T) {s : Nat} (hs : s < 256) (h : wD s t ≠ 15) : T s = nI (wD s t) := by
  rw [hT s hs, if_neg h]
theorem next_run (hT : TF t T) {s : Nat} (hs : s < 256) (h15 : wD s t ≠ 15) (hn : s ≠ t) : ∀ (m h fuel : Nat), h + m = wF s t → m < fuel → f_X8_nextThrow_L2 T (nI s) fuel (nI h) = some (nI (wF s t)) := by
  obtain ⟨k1, k2, k3, k4, k5, -, k7⟩ := w3 hs h15 hn
  have hTs : T s - 1 = nI (wD s t - 1) := by
    rw [hT.ok hs h15]
    exact pk_sub (b := 1) k1
  intro m
  induction m with
  | zero =>
    intro h fuel h1 h2
    obtain ⟨g, rfl⟩ : ∃ g, fuel = g + 1 := ⟨fuel - 1, by omega⟩
    obtain rfl : h = wF s t := by omega
    obtain ⟨n1, n2, n3, n4⟩ := w_nx _ k3 s hs k4
    rw [f_X8_nextThrow_L2, n3, Option.bind_some, if_neg (show ¬ nI (nxt s (wF s t)) < 0 from nI_nlt (b := 0) (by omega) (by omega)), Option.bind_some, if_neg (in_nI (by omega) (by decide)), if_neg (in_nI hs (by decide)), nI_clamp (by omega), nI_clamp (by omega), hTs, hT.ok (show nxt s (wF s t) < 256 by omega) (by omega), if_pos (by rw [← k5]; rfl)]
  | succ m ih =>
    intro h fuel h1 h2
    obtain ⟨g, rfl⟩ : ∃ g, fuel = g + 1 := ⟨fuel - 1, by omega⟩
    by_cases hl : lgl s h = true
    · obtain ⟨n1, n2, n3, n4⟩ := w_nx h (by omega) s hs hl
      have hne : ¬ T (nxt s h) = nI (wD s t - 1) := by
        rw [hT _ (by omega)]
        have hw := wD_lt (nxt s h) t
        have := (k7 h (by omega) hl).2 (by omega)
        by_cases h15 : wD (nxt s h) t = 15
        · rw [if_pos h15]
          exact fun e => nI_m1 (by omega) e.symm
        · rw [if_neg h15]
          exact nI_ne (by omega) (by omega) (by omega)
      rw [f_X8_nextThrow_L2, n3, Option.bind_some, if_neg (show ¬ nI (nxt s h) < 0 from nI_nlt (b := 0) (by omega) (by omega)), Option.bind_some, if_neg (in_nI (by omega) (by decide)), if_neg (in_nI hs (by decide)), nI_clamp (by omega), nI_clamp (by omega), hTs, if_neg hne, nI_1]
      exact ih (h + 1) g (by omega) (by omega)
    · have hlf : lgl s h = false := by
        cases hb : lgl s h
        · rfl
        · exact absurd hb hl
      rw [f_X8_nextThrow_L2, w_no h (by omega) s hs hlf, Option.bind_some, if_pos m1_neg.1, nI_1]
      exact ih (h + 1) g (by omega) (by omega)
theorem next_ok (hT : TF t T) {s : Nat} (hs : s < 256) (h15 : wD s t ≠ 15) (hn : s ≠ t) : f_X8_nextThrow T (nI s) = some (nI (wF s t)) := by
  have hz : 100 < zF := by decide
  have := wF_lt s t
  exact next_run hT hs h15 hn (wF s t) 0 zF (by omega) (by omega)
theorem last_run (all : Nat → Int32) (hT : TF t T) : ∀ (m s fuel : Nat), s < 256 → wD s t = m + 1 → m ≤ 8 → m < fuel → f_X8_way_L97 all T 2 fuel (nI s) (nI (wF s t)) = some (nI (wL s t), T) := by
  intro m
  induction m with
  | zero =>
    intro s fuel h1 h2 h3 h4
    obtain ⟨g, rfl⟩ : ∃ g, fuel = g + 1 := ⟨fuel - 1, by omega⟩
    have hn : s ≠ t := by
      intro e; subst e; rw [wD_self] at h2; omega
    have k := w3 h1 (by omega) hn
    rw [f_X8_way_L97, if_pos rfl, if_neg (in_nI h1 (by decide)), nI_clamp (by omega), hT.ok h1 (by omega), h2, if_pos (by decide), k.2.2.2.2.2.1, if_pos h2]
  | succ m ih =>
    intro s fuel h1 h2 h3 h4
    obtain ⟨g, rfl⟩ : ∃ g, fuel = g + 1 := ⟨fuel - 1, by omega⟩
    have hn : s ≠ t := by
      intro e; subst e; rw [wD_self] at h2; omega
    obtain ⟨k1, k2, k3, k4, k5, k6, k7⟩ := w3 h1 (by omega) hn
    obtain ⟨n1, n2, n3, n4⟩ := w_nx _ k3 s h1 k4
    have hn2 : nxt s (wF s t) ≠ t := by
      intro e; rw [e, wD_self] at k5; omega
    rw [f_X8_way_L97, if_pos rfl, if_neg (in_nI h1 (by decide)), nI_clamp (by omega), hT.ok h1 (by omega), h2, if_neg (show ¬ nI (m + 1 + 1) ≤ 1 from nI_ge (a := 1) (by omega) (by omega)), n3, Option.bind_some, next_ok hT (by omega) (by omega) hn2, Option.bind_some, k6, if_neg (by omega)]
    exact ih (nxt s (wF s t)) g (by omega) (by omega) (by omega) (by omega)
end WZ
theorem way_tail {s t j : Nat} (hs : s < 256) (ht : t < 256) (hj : j ≤ 2) (all st f l rc T0 : Nat → Int32) (m : Int32) : ∃ (v : Int32) (st' f' l' rc' : Nat → Int32) (m' : Int32) (T : Nat → Int32),
    ((f_X6_searchFrom st f l rc m (nI s)).bind (fun q8 => (f_X6_stepsTo q8.1 (nI t)).bind (fun q9 => if q9 = (-1 : Int32) then (some ((-5 : Int32), q8.1, q8.2.1, q8.2.2.1, q8.2.2.2.1, q8.2.2.2.2)) else (if nI j = 0 then (some (q9, q8.1, q8.2.1, q8.2.2.1, q8.2.2.2.1, q8.2.2.2.2)) else (if q9 = 0 then (some ((-6 : Int32), q8.1, q8.2.1, q8.2.2.1, q8.2.2.2.1, q8.2.2.2.2)) else (if nI j = (1 : Int32) then ((f_X6_firstThrowTo q8.2.1 (nI t)).bind (fun q15 => some (q15, q8.1, q8.2.1, q8.2.2.1, q8.2.2.2.1, q8.2.2.2.2))) else ((f_X6_lastThrowTo q8.2.2.1 (nI t)).bind (fun q14 => some (q14, q8.1, q8.2.1, q8.2.2.1, q8.2.2.2.1, q8.2.2.2.2))))))))) = some (v, st', f', l', rc', m') ∧
    ((f_X8_findWays T0 (nI t)).bind (fun q7 => if 0 ≤ (q7 s) then (if nI j = 0 then (some (q7 s, q7)) else (if (q7 s) = 0 then (some ((-6 : Int32), q7)) else ((f_X8_nextThrow q7 (nI s)).bind (fun q14 => f_X8_way_L97 all q7 (nI j) zF (nI s) q14)))) else (some ((-5 : Int32), q7)))) = some (v, T) := by
  have hz : 100 < zF := by decide
  obtain ⟨st', f', l', rc', m', e1, e2⟩ := search_ok hs st f l rc m
  obtain ⟨T, g1, g2⟩ := find_ok ht T0
  obtain ⟨u1, u2⟩ := e2 t ht
  have hw := wD_lt s t
  rw [e1, Option.bind_some, st6 _ ht, Option.bind_some, ft6 _ ht, lt6 _ ht, Option.bind_some, Option.bind_some, g1, Option.bind_some]
  by_cases h15 : wD s t = 15
  · rw [if_pos (u1 h15), g2 s hs, if_pos h15, if_neg m1_neg.2]
    exact ⟨_, _, _, _, _, _, _, rfl, rfl⟩
  · obtain ⟨x1, x2, x3⟩ := u2 h15
    rw [if_neg (show ¬ st' t = -1 from by rw [x1]; exact nI_m1 (by omega)), g2.ok hs h15, if_pos (nI_nn (by omega))]
    by_cases hj0 : j = 0
    · subst hj0
      rw [if_pos (show nI 0 = 0 from rfl), if_pos (show nI 0 = 0 from rfl)]
      exact ⟨nI (wD s t), st', f', l', rc', m', T, congrArg (fun z => some (z, st', f', l', rc', m')) x1, rfl⟩
    · rw [if_neg (nI_ne0 (by omega) (by omega)), if_neg (nI_ne0 (by omega) (by omega))]
      by_cases hst : s = t
      · subst hst
        rw [if_pos (show st' s = 0 from by rw [x1, wD_self]; rfl), wD_self, if_pos (show nI 0 = 0 from rfl)]
        exact ⟨_, _, _, _, _, _, _, rfl, rfl⟩
      · have k := w3 hs h15 hst
        rw [if_neg (show ¬ st' t = 0 from by rw [x1]; exact nI_ne0 (by omega) (by omega)), if_neg (nI_ne0 (by omega) (by omega)), next_ok g2 hs h15 hst, Option.bind_some]
        by_cases hj1 : j = 1
        · subst hj1
          obtain ⟨g, hg⟩ : ∃ g, zF = g + 1 := ⟨zF - 1, by omega⟩
          rw [if_pos (show nI 1 = 1 from rfl), hg, f_X8_way_L97, if_neg (show ¬ nI 1 = 2 by decide)]
          exact ⟨nI (wF s t), st', f', l', rc', m', T, congrArg (fun z => some (z, st', f', l', rc', m')) x2, rfl⟩
        · obtain rfl : j = 2 := by omega
          have hl := last_run all g2 (wD s t - 1) s zF hs (by omega) (by omega) (by omega)
          rw [if_neg (show ¬ nI 2 = 1 by decide), show f_X8_way_L97 all T (nI 2) zF (nI s) (nI (wF s t)) = _ from hl]
          exact ⟨nI (wL s t), st', f', l', rc', m', T, congrArg (fun z => some (z, st', f', l', rc', m')) x3, rfl⟩
theorem st_way {a_now : ST} {a_ways_steps : (Nat → Int32)} {a_ways_firstThrows : (Nat → Int32)} {a_ways_lastThrows : (Nat → Int32)} {a_ways_reached : (Nat → Int32)} {a_ways_reachedCount : Int32} {b_all : (Nat → Int32)} {b_takes : (Nat → Int32)} (hA : Rs a_now b_all) (p1 : Int32) (p2 : Int32) (p3 : Int32) : ∃ (R1 : Int32 × (Nat → Int32) × (Nat → Int32) × (Nat → Int32) × (Nat → Int32) × Int32) (R2 : Int32 × (Nat → Int32)), f_X7_way a_now a_ways_steps a_ways_firstThrows a_ways_lastThrows a_ways_reached a_ways_reachedCount p1 p2 p3 = some R1 ∧ f_X8_way b_all b_takes p1 p2 p3 = some R2 ∧ R1.1 = R2.1 := by
  obtain ⟨⟨j0, j1, hf, ht, hpc, hw⟩, hb⟩ := hA
  obtain ⟨⟨s0, s1, fl, c1, c2, c3, c4, -, -⟩, -⟩ := hw
  have z1 : a_now.1.1 = nI s0 := j0.1.trans c3
  have o1 : a_now.2.1.1 = nI s1 := j1.1.trans c4
  unfold f_X7_way f_X8_way
  rcases jug_or p1 with ⟨h1, h2⟩ | ⟨q, hq, rfl, h1, h2⟩
  · rw [h1, h2, Option.bind_some, Option.bind_some, if_pos rfl, if_pos rfl]
    exact ⟨_, _, rfl, rfl, rfl⟩
  · rw [h1, h2, Option.bind_some, Option.bind_some, if_neg h10, if_neg h10, in_within (p := p2) (lo := 0) (hi := 255) (by decide) (by decide), in_within (p := p3) (lo := 0) (hi := 2) (by decide) (by decide)]
    rcases within_lit (A := 0) (B := 255) p2 0 255 rfl rfl (by omega) (by omega) with h | ⟨t, -, ht, rfl, h⟩
    · rw [h, Option.bind_some, Option.bind_some, if_pos rfl, if_pos rfl]
      exact ⟨_, _, rfl, rfl, rfl⟩
    · rw [h, Option.bind_some, Option.bind_some, if_neg h10, if_neg h10]
      rcases within_lit (A := 0) (B := 2) p3 0 2 rfl rfl (by omega) (by omega) with h | ⟨j, -, hj, rfl, h⟩
      · rw [h, Option.bind_some, Option.bind_some, if_pos rfl, if_pos rfl]
        exact ⟨_, _, rfl, rfl, rfl⟩
      · rw [h, Option.bind_some, Option.bind_some, if_neg h10, if_neg h10]
        rcases (show q = 0 ∨ q = 1 by omega) with rfl | rfl
        · have hi1 : ¬ ((0 : Int32) + nI 0 < 0 ∨ 46 ≤ ((0 : Int32) + nI 0).toNatClampNeg) := by decide
          have hi2 : b_all ((0 : Int32) + nI 0).toNatClampNeg = nI s0 := c3
          have hi3 : ¬ (nI s0 < 0 ∨ 256 ≤ s0) := fun e => e.elim (fun e => in_nI (N := 256) c1 (by decide) (Or.inl e)) (fun e => by omega)
          simp only [if_neg hi1, hi2, nI_clamp (show s0 < 2 ^ 31 by omega), if_neg hi3]
          obtain ⟨v, st', f', l', rc', m', T, e1, e2⟩ := way_tail c1 (show t < 256 by omega) hj b_all a_ways_steps a_ways_firstThrows a_ways_lastThrows a_ways_reached b_takes a_ways_reachedCount
          rw [z1]
          exact ⟨_, _, e1, e2, rfl⟩
        · have hi1 : ¬ ((0 : Int32) + nI 1 < 0 ∨ 46 ≤ ((0 : Int32) + nI 1).toNatClampNeg) := by decide
          have hi2 : b_all ((0 : Int32) + nI 1).toNatClampNeg = nI s1 := c4
          have hi3 : ¬ (nI s1 < 0 ∨ 256 ≤ s1) := fun e => e.elim (fun e => in_nI (N := 256) c2 (by decide) (Or.inl e)) (fun e => by omega)
          simp only [if_neg hi1, hi2, nI_clamp (show s1 < 2 ^ 31 by omega), if_neg hi3]
          obtain ⟨v, st', f', l', rc', m', T, e1, e2⟩ := way_tail c2 (show t < 256 by omega) hj b_all a_ways_steps a_ways_firstThrows a_ways_lastThrows a_ways_reached b_takes a_ways_reachedCount
          rw [o1]
          exact ⟨_, _, e1, e2, rfl⟩
