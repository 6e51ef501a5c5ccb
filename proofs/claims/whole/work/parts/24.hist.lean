/-! the scene is copied, the history grows and shrinks -/
def Jeq (r s : JT) : Prop := r.1 = s.1 ∧ r.2.2 = s.2.2 ∧ ∀ k, k < 8 → r.2.1 k = s.2.1 k
def Seq (r s : ST) : Prop := Jeq r.1 s.1 ∧ Jeq r.2.1 s.2.1 ∧ r.2.2 = s.2.2
theorem become1 (st : Int32) (h : Nat → Int32) (pp pl pc sl cl : Int32) (b : JT) : ∃ r : JT, f_X1_become st h pp pl pc sl cl b.1 b.2.1 b.2.2.1 b.2.2.2.1 b.2.2.2.2.1 b.2.2.2.2.2.1 b.2.2.2.2.2.2 = some r ∧ Jeq r b := by
  obtain ⟨k', e, hk⟩ := loop_run (fun n x s => f_X1_become_L10 b.1 pp pl pc sl cl b.1 b.2.1 b.2.2.1 b.2.2.2.1 b.2.2.2.2.1 b.2.2.2.2.2.1 b.2.2.2.2.2.2 n x s) 8 (fun s => some ((b.1, s, b.2.2) : JT)) (fun i s => ∀ j, j < i → s j = b.2.1 j)
    (fun n s h => by
      show f_X1_become_L10 _ _ _ _ _ _ _ _ _ _ _ _ _ (n + 1) (nI 8) s = _
      rw [f_X1_become_L10, if_pos (show (8 : Int32) ≤ nI 8 by decide)])
    (fun n i s hi h => by
      refine ⟨upd s i (b.2.1 i), ?_, fun j hj => ?_⟩
      · show f_X1_become_L10 _ _ _ _ _ _ _ _ _ _ _ _ _ (n + 1) (nI i) s = f_X1_become_L10 _ _ _ _ _ _ _ _ _ _ _ _ _ n (nI (i + 1)) _
        rw [f_X1_become_L10, if_neg (show ¬ (8 : Int32) ≤ nI i from ge_lit hi (by decide)), heightAt_ok _ hi, Option.bind_some, setAt_ok _ _ hi (by omega), Option.bind_some, nI_1]
      · by_cases hji : j = i
        · subst hji; rw [upd_s]
        · rw [upd_n hji]; exact h j (by omega)) zF 0 h (by omega) (zF_big (by omega)) (fun j hj => by omega)
  exact ⟨_, e, rfl, rfl, hk⟩
theorem become4 (t s : ST) : ∃ r : ST, f_X4_become t s = some r ∧ Seq r s := by
  unfold f_X4_become
  obtain ⟨r1, e1, h1⟩ := become1 t.1.1 t.1.2.1 t.1.2.2.1 t.1.2.2.2.1 t.1.2.2.2.2.1 t.1.2.2.2.2.2.1 t.1.2.2.2.2.2.2 s.1
  obtain ⟨r2, e2, h2⟩ := become1 t.2.1.1 t.2.1.2.1 t.2.1.2.2.1 t.2.1.2.2.2.1 t.2.1.2.2.2.2.1 t.2.1.2.2.2.2.2.1 t.2.1.2.2.2.2.2.2 s.2.1
  rw [e1, Option.bind_some, e2, Option.bind_some]
  exact ⟨_, rfl, h1, h2, rfl⟩
theorem Jeq.rj {r s : JT} {a : Nat → Int32} {q : Nat} (h : Jeq r s) (hr : Rj s a q) : Rj r a q := by
  obtain ⟨h1, h2, h3⟩ := h
  obtain ⟨g1, g2, g3, g4, g5, g6, g7⟩ := hr
  refine ⟨by rw [h1]; exact g1, by rw [h2]; exact g2, by rw [h2]; exact g3, by rw [h2]; exact g4, by rw [h2]; exact g5, fun k hk => by rw [h3 k hk]; exact g6 k hk, fun k hk hn => by rw [h2]; exact g7 k hk hn⟩
theorem Seq.rq {r s : ST} {a : Nat → Int32} (h : Seq r s) (hr : Rq s a) : Rq r a := by
  obtain ⟨h1, h2, h3⟩ := h
  obtain ⟨g1, g2, g3, g4, g5, g6⟩ := hr
  exact ⟨h1.rj g1, h2.rj g2, by rw [h3]; exact g3, by rw [h3]; exact g4, by rw [h3]; exact g5, g6⟩
theorem Seq.rs {r s : ST} {a : Nat → Int32} (h : Seq r s) (hr : Rs s a) : Rs r a := ⟨h.rq hr.1, by rw [h.2.2]; exact hr.2⟩
theorem Rj.row {s : JT} {a b : Nat → Int32} {q : Nat} (hq : q < 2) (h : ∀ k, k < 46 → b k = a k) (hr : Rj s a q) : Rj s b q := by
  obtain ⟨g1, g2, g3, g4, g5, g6, g7⟩ := hr
  exact ⟨by rw [h _ (by omega)]; exact g1, by rw [h _ (by omega)]; exact g2, by rw [h _ (by omega)]; exact g3, by rw [h _ (by omega)]; exact g4, by rw [h _ (by omega)]; exact g5, fun k hk => by rw [h _ (by omega)]; exact g6 k hk, fun k hk hn => by rw [h _ (by omega)]; rw [h _ (by omega)] at hn; exact g7 k hk hn⟩
theorem Wa.row {a b : Nat → Int32} (h : ∀ k, k < 46 → b k = a k) (hr : Wa a) : Wa b := by
  obtain ⟨⟨s0, s1, f, g1, g2, g3, g4, g5, g6⟩, g7⟩ := hr
  refine ⟨⟨s0, s1, f, g1, g2, by rw [h _ (by omega)]; exact g3, by rw [h _ (by omega)]; exact g4, by rw [h _ (by omega)]; exact g5, g6⟩, fun q hq => ?_⟩
  obtain ⟨⟨n, p, e1, e2, e3, e4, e5⟩, e6, e7⟩ := g7 q hq
  exact ⟨⟨n, p, e1, e2, e3, by rw [h _ (by omega)]; exact e4, by rw [h _ (by omega)]; exact e5⟩, fun k hk => by rw [h _ (by omega)]; exact e6 k hk, fun k hk => by rw [h _ (by omega)]; exact e7 k hk⟩
theorem Rq.row {s : ST} {a b : Nat → Int32} (h : ∀ k, k < 46 → b k = a k) (hr : Rq s a) : Rq s b := by
  obtain ⟨g1, g2, g3, g4, g5, g6⟩ := hr
  exact ⟨g1.row (by omega) h, g2.row (by omega) h, by rw [h _ (by omega)]; exact g3, by rw [h _ (by omega)]; exact g4, by rw [h _ (by omega)]; exact g5, g6.row h⟩
theorem Rs.row {s : ST} {a b : Nat → Int32} (h : ∀ k, k < 46 → b k = a k) (hr : Rs s a) : Rs s b := ⟨hr.1.row h, by rw [h _ (by omega)]; exact hr.2⟩
-- the reference's history
theorem changed51 (kept hist : Nat → Int32) (h : Nat) (hh : h < 6) (res : Int32) : ∃ hist', f_X8_changed_L51 kept (nI h) res zF 0 hist = some (res, hist', nI (h + 1)) ∧ (∀ j, j < 46 → hist' (46 * h + j) = kept j) ∧ ∀ j, j < 46 * h → hist' j = hist j := by
  obtain ⟨k', e, h1, h2⟩ := loop_run (fun n x s => f_X8_changed_L51 kept (nI h) res n x s) 46 (fun s => some (res, s, nI (h + 1))) (fun i s => (∀ j, j < i → s (46 * h + j) = kept j) ∧ ∀ j, j < 46 * h → s j = hist j)
    (fun n s _ => by
      show f_X8_changed_L51 _ _ _ (n + 1) (nI 46) s = _
      rw [f_X8_changed_L51, if_pos (show (46 : Int32) ≤ nI 46 by decide), nI_1])
    (fun n i s hi hI => by
      have e : ((46 : Int32) * nI h) + nI i = nI (46 * h + i) := by
        rw [show (46 : Int32) = nI 46 from rfl, pk_mul, nI_add]
      refine ⟨upd s (46 * h + i) (kept i), ?_, fun j hj => ?_, fun j hj => ?_⟩
      · show f_X8_changed_L51 _ _ _ (n + 1) (nI i) s = f_X8_changed_L51 _ _ _ n (nI (i + 1)) _
        rw [f_X8_changed_L51, if_neg (show ¬ (46 : Int32) ≤ nI i from ge_lit hi (by decide)), if_neg (in_nI hi (by decide)), e, if_neg (in_nI (by omega) (by decide)), nI_1, nI_clamp (by omega), nI_clamp (by omega)]
      · by_cases hji : j = i
        · subst hji; rw [upd_s]
        · rw [upd_n (by omega)]; exact hI.1 j (by omega)
      · rw [upd_n (by omega)]; exact hI.2 j hj) zF 0 hist (by omega) (zF_big (by omega)) ⟨fun j hj => by omega, fun j hj => rfl⟩
  exact ⟨k', e, h1, h2⟩
theorem changed11 (kept hist : Nat → Int32) (res hl : Int32) : ∃ hist', f_X8_changed_L11 kept hl res zF 0 hist = f_X8_changed_L51 kept (hl - 1) res zF 0 hist' ∧ ∀ j, j < 230 → hist' j = hist (j + 46) := by
  obtain ⟨k', e, h1, h2⟩ := loop_run (fun n x s => f_X8_changed_L11 kept hl res n x s) 230 (fun s => f_X8_changed_L51 kept (hl - 1) res zF 0 s) (fun i s => (∀ j, j < i → s j = hist (j + 46)) ∧ ∀ j, i ≤ j → s j = hist j)
    (fun n s _ => by
      show f_X8_changed_L11 _ _ _ (n + 1) (nI 230) s = _
      rw [f_X8_changed_L11, if_pos (show (230 : Int32) ≤ nI 230 by decide)])
    (fun n i s hi hI => by
      have e : nI i + (46 : Int32) = nI (i + 46) := by
        rw [show (46 : Int32) = nI 46 from rfl, nI_add]
      refine ⟨upd s i (s (i + 46)), ?_, fun j hj => ?_, fun j hj => ?_⟩
      · show f_X8_changed_L11 _ _ _ (n + 1) (nI i) s = f_X8_changed_L11 _ _ _ n (nI (i + 1)) _
        rw [f_X8_changed_L11, if_neg (show ¬ (230 : Int32) ≤ nI i from ge_lit hi (by decide)), e, if_neg (in_nI (by omega) (by decide)), if_neg (in_nI (by omega) (by decide)), nI_1, nI_clamp (by omega), nI_clamp (by omega)]
      · by_cases hji : j = i
        · subst hji; rw [upd_s]; exact hI.2 _ (by omega)
        · rw [upd_n (by omega)]; exact hI.1 j (by omega)
      · rw [upd_n (by omega)]; exact hI.2 j (by omega)) zF 0 hist (by omega) (zF_big (by omega)) ⟨fun j hj => by omega, fun j hj => rfl⟩
  exact ⟨k', e, h1⟩
theorem chain6 {α : Type} (B : Nat → Option α) (m : Nat) (hm : m < 6) : (if nI m = (0 : Int32) then B 0 else (if nI m = (1 : Int32) then B 1 else (if nI m = (2 : Int32) then B 2 else (if nI m = (3 : Int32) then B 3 else (if nI m = (4 : Int32) then B 4 else (if nI m = (5 : Int32) then B 5 else none)))))) = B m := by
  match m, hm with
  | 0, _ => rw [if_pos (by decide)]
  | 1, _ => rw [if_neg (by decide), if_pos (by decide)]
  | 2, _ => rw [if_neg (by decide), if_neg (by decide), if_pos (by decide)]
  | 3, _ => rw [if_neg (by decide), if_neg (by decide), if_neg (by decide), if_pos (by decide)]
  | 4, _ => rw [if_neg (by decide), if_neg (by decide), if_neg (by decide), if_neg (by decide), if_pos (by decide)]
  | 5, _ => rw [if_neg (by decide), if_neg (by decide), if_neg (by decide), if_neg (by decide), if_neg (by decide), if_pos (by decide)]
theorem record_ok {rs : Nat → ST} {od sz : Int32} {hist : Nat → Int32} {hl : Int32} (hH : RH rs od sz hist hl) {s : ST} {kept : Nat → Int32} (hs : Rs s kept) (res : Int32) : ∃ (R1 : (Nat → ST) × Int32 × Int32) (hist' : Nat → Int32) (hl' : Int32), f_X0_record rs od sz s = some R1 ∧ f_X8_changed kept hist hl res = some (res, hist', hl') ∧ RH R1.1 R1.2.1 R1.2.2 hist' hl' := by
  obtain ⟨o, h, ho, hh, rfl, rfl, rfl, hR⟩ := hH
  by_cases h6 : h = 6
  · subst h6
    obtain ⟨hi1, e1, g1⟩ := changed11 kept hist res (nI 6)
    obtain ⟨hi2, e2, g2, g3⟩ := changed51 kept hi1 5 (by omega) res
    obtain ⟨r, e3, g4⟩ := become4 (rs o) s
    refine ⟨(va_up rs o r, nI ((o + 1) % 6), nI 6), hi2, nI 6, ?_, ?_, ?_⟩
    · unfold f_X0_record
      have k1 : f_X7_leftOver (nI o + (1 : Int32)) (6 : Int32) = some (nI ((o + 1) % 6)) := by
        rw [nI_1]; exact leftOver_ok 6 (by omega) _ (by omega) (by omega)
      have k2 : f_X7_leftOver ((nI ((o + 1) % 6) + nI 6) - (1 : Int32)) (6 : Int32) = some (nI o) := by
        rw [nI_add, show (o + 1) % 6 + 6 = ((o + 1) % 6 + 5) + 1 by omega, nI_pred]
        have := leftOver_ok 6 (by omega) ((o + 1) % 6 + 5) (by omega) (by omega)
        rw [show ((o + 1) % 6 + 5) % 6 = o by omega] at this
        exact this
      rw [if_pos (show (6 : Int32) ≤ nI 6 by decide), k1, Option.bind_some, k2, Option.bind_some]
      refine (chain6 (fun m => (f_X4_become (rs m) s).bind (fun q => some (va_up rs m q, nI ((o + 1) % 6), nI 6))) o ho).trans ?_
      show (f_X4_become (rs o) s).bind _ = _
      rw [e3]; rfl
    · unfold f_X8_changed
      rw [if_pos (show nI 6 = (6 : Int32) by decide), e1]
      exact e2
    · refine ⟨(o + 1) % 6, 6, by omega, by omega, rfl, rfl, rfl, fun k hk => ?_⟩
      show Rs (va_up rs o r _) _
      by_cases hk5 : k = 5
      · subst hk5
        rw [show ((o + 1) % 6 + 5) % 6 = o by omega, show va_up rs o r o = r by simp [va_up]]
        exact g4.rs (hs.row (fun j hj => g2 j hj))
      · rw [show va_up rs o r (((o + 1) % 6 + k) % 6) = rs (((o + 1) % 6 + k) % 6) by
          simp only [va_up]; rw [if_neg (by omega)]]
        rw [show ((o + 1) % 6 + k) % 6 = (o + (k + 1)) % 6 by omega]
        exact (hR (k + 1) (by omega)).row (fun j hj => by
          show hi2 (46 * k + j) = hist (46 * (k + 1) + j)
          rw [g3 _ (by omega), g1 _ (by omega)]
          rw [show 46 * k + j + 46 = 46 * (k + 1) + j by omega])
  · obtain ⟨hi2, e2, g2, g3⟩ := changed51 kept hist h (by omega) res
    obtain ⟨r, e3, g4⟩ := become4 (rs ((o + h) % 6)) s
    refine ⟨(va_up rs ((o + h) % 6) r, nI o, nI (h + 1)), hi2, nI (h + 1), ?_, ?_, ?_⟩
    · unfold f_X0_record
      have k2 : f_X7_leftOver ((nI o + (nI h + (1 : Int32))) - (1 : Int32)) (6 : Int32) = some (nI ((o + h) % 6)) := by
        rw [nI_1, nI_add, show o + (h + 1) = (o + h) + 1 by omega, nI_pred]
        exact leftOver_ok 6 (by omega) _ (by omega) (by omega)
      rw [if_neg (show ¬ (6 : Int32) ≤ nI h from ge_lit (m := 6) (by omega) (by decide)), k2, Option.bind_some]
      refine (chain6 (fun m => (f_X4_become (rs m) s).bind (fun q => some (va_up rs m q, nI o, nI h + 1))) ((o + h) % 6) (by omega)).trans ?_
      show (f_X4_become (rs ((o + h) % 6)) s).bind _ = _
      rw [e3, nI_1]; rfl
    · unfold f_X8_changed
      rw [if_neg (show ¬ nI h = (6 : Int32) from fun e => h6 ((nI_eq (by omega) (by decide)).mp e))]
      exact e2
    · refine ⟨o, h + 1, by omega, by omega, rfl, rfl, rfl, fun k hk => ?_⟩
      show Rs (va_up rs ((o + h) % 6) r _) _
      by_cases hkh : k = h
      · subst hkh
        rw [show va_up rs ((o + k) % 6) r ((o + k) % 6) = r by simp [va_up]]
        exact g4.rs (hs.row (fun j hj => g2 j hj))
      · rw [show va_up rs ((o + h) % 6) r ((o + k) % 6) = rs ((o + k) % 6) by
          simp only [va_up]; rw [if_neg (by omega)]]
        exact (hR k (by omega)).row (fun j hj => by
          show hi2 (46 * k + j) = hist (46 * k + j)
          rw [g3 _ (by omega)])
theorem takeBack_ok {rs : Nat → ST} {od sz : Int32} {hist : Nat → Int32} {hl : Int32} (hH : RH rs od sz hist hl) (s : ST) (hn : ¬ hl = 0) : ∃ (R1 : Int32 × ST) (h : Nat), f_X0_takeBack rs od sz s = some R1 ∧ hl = nI (h + 1) ∧ h < 6 ∧ R1.1 = nI h ∧ Rs R1.2 (fun i => hist (46 * h + i)) ∧ RH rs od R1.1 hist (nI h) := by
  obtain ⟨o, h, ho, hh, rfl, rfl, rfl, hR⟩ := hH
  have h0 : h ≠ 0 := fun e => hn (by rw [e]; rfl)
  obtain ⟨h, rfl⟩ : ∃ g, h = g + 1 := ⟨h - 1, by omega⟩
  obtain ⟨r, e3, g4⟩ := become4 s (rs ((o + h) % 6))
  refine ⟨(nI h, r), h, ?_, rfl, by omega, rfl, g4.rs (hR h (by omega)), o, h, ho, by omega, rfl, rfl, rfl, fun k hk => hR k (by omega)⟩
  unfold f_X0_takeBack
  have k2 : f_X7_leftOver ((nI o + nI (h + 1)) - (1 : Int32)) (6 : Int32) = some (nI ((o + h) % 6)) := by
    rw [nI_add, show o + (h + 1) = (o + h) + 1 by omega, nI_pred]
    exact leftOver_ok 6 (by omega) _ (by omega) (by omega)
  rw [k2, Option.bind_some]
  refine (chain6 (fun m => if nI (h + 1) ≤ 0 then some (nI (h + 1), s) else ((f_X4_become s (rs m)).bind (fun q => some (nI (h + 1) - (1 : Int32), q)))) ((o + h) % 6) (by omega)).trans ?_
  show (if nI (h + 1) ≤ 0 then _ else _) = _
  rw [if_neg (nI_nle (by omega) (by omega)), e3, nI_pred]
  rfl
