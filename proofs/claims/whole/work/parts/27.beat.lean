/-! a beat -/
theorem b_and1 : ∀ s, s < 256 → ((nI s &&& (1 : Int32)) = 1 ↔ s % 2 = 1) := by decide +kernel
theorem b_sh : ∀ s, s < 256 → nI s >>> ((1 : Int32) &&& 31) = nI (s / 2) := by decide +kernel
theorem b_add' : ∀ g, g < 7 → ∀ s, s < 256 → s / 2 ^ (g + 1) % 2 = 0 → nI s ||| ((1 : Int32) <<< (nI (g + 1) &&& 31)) = nI (s + 2 ^ (g + 1)) ∧ s + 2 ^ (g + 1) < 256 ∧ pcN ((s + 2 ^ (g + 1)) / 2) = pcN (s / 2) + 1 ∧ (s + 2 ^ (g + 1)) % 2 = s % 2 := by decide +kernel
theorem b_add (h : Nat) (hh : h < 8) (s : Nat) (hs : s < 256) (h1 : 1 ≤ h) (h2 : s / 2 ^ h % 2 = 0) : nI s ||| ((1 : Int32) <<< (nI h &&& 31)) = nI (s + 2 ^ h) ∧ s + 2 ^ h < 256 ∧ pcN ((s + 2 ^ h) / 2) = pcN (s / 2) + 1 ∧ (s + 2 ^ h) % 2 = s % 2 := by
  obtain ⟨g, rfl⟩ : ∃ g, h = g + 1 := ⟨h - 1, by omega⟩
  exact b_add' g (by omega) s hs h2
theorem b_pc : ∀ s, s < 256 → pcN s = pcN (s / 2) + s % 2 := by decide +kernel
/-- the reference's row behind a throw of juggler q -/
def twr (a : Nat → Int32) (q to h s : Nat) (ps : Int32) : Nat → Int32 :=
  if h = 0 then upd (upd (upd a 44 (a 44 + 1)) (40 + q) (a (40 + q) + 1)) 38 (a 38 + 1)
  else if s / 2 ^ h % 2 = 1 then upd (upd (upd a 44 (a 44 + 1)) (42 + q) (a (42 + q) + 1)) 38 (a 38 + 1)
  else upd (upd (upd a 44 (a 44 + 1)) to (nI (s + 2 ^ h))) 45 (a 45 + ps)
theorem throwsOne_ok {a : Nat → Int32} {q p h s to : Nat} {ps : Int32} (hq : q < 2) (hp : p < 8) (hh : h < 8) (ep : a (2 + q) = nI p) (eh : a (6 + 8 * q + p) = nI h) (eps : a (22 + 8 * q + p) = ps) (hto : (ps = 1 ∧ to = 1 - q) ∨ (ps = 0 ∧ to = q)) (hs : s < 256) (es : a to = nI s) :
    f_X8_throwsOne a (nI q) = some (twr a q to h s ps) := by
  have ck : ∀ k, k < 46 → (nI k < 0 ∨ 46 ≤ k) = False := fun k hk => by
    have := in_nI (k := k) (N := 46) hk (by decide)
    rw [nI_clamp (by omega)] at this
    exact eq_false this
  have nc : ∀ k, k < 46 → (nI k).toNatClampNeg = k := fun k hk => nI_clamp (by omega)
  have x2 : (2 : Int32) + nI q = nI (2 + q) := nI_add 2 q
  have x8 : (8 : Int32) * nI q = nI (8 * q) := pk_mul 8 q
  have xat : nI (8 * q) + nI p = nI (8 * q + p) := nI_add _ _
  have x6 : (6 : Int32) + nI (8 * q + p) = nI (6 + 8 * q + p) := by rw [Nat.add_assoc]; exact nI_add 6 _
  have x22 : (22 : Int32) + nI (8 * q + p) = nI (22 + 8 * q + p) := by rw [Nat.add_assoc]; exact nI_add 22 _
  have x40 : (40 : Int32) + nI q = nI (40 + q) := nI_add 40 q
  have x42 : (42 : Int32) + nI q = nI (42 + q) := nI_add 42 q
  have x0 : (0 : Int32) + nI q = nI q := by rw [show (0 : Int32) = nI 0 from rfl, nI_add, Nat.zero_add]
  have x1 : (1 : Int32) - nI q = nI (1 - q) := pk_sub (a := 1) (b := q) (by omega)
  have x01 : (0 : Int32) + nI (1 - q) = nI (1 - q) := by rw [show (0 : Int32) = nI 0 from rfl, nI_add, Nat.zero_add]
  have hh0 : (nI h = 0) = (h = 0) := propext (nI_eq (a := h) (b := 0) (by omega) (by omega))
  have u40 : ∀ v, upd a 44 v (40 + q) = a (40 + q) := fun v => upd_n (by omega)
  have u42 : ∀ v, upd a 44 v (42 + q) = a (42 + q) := fun v => upd_n (by omega)
  have uq : ∀ v, upd a 44 v q = a q := fun v => upd_n (by omega)
  have uq1 : ∀ v, upd a 44 v (1 - q) = a (1 - q) := fun v => upd_n (by omega)
  have v40 : ∀ v w, upd (upd a 44 v) (40 + q) w 38 = a 38 := fun v w => by rw [upd_n (by omega), upd_n (by omega)]
  have v42 : ∀ v w, upd (upd a 44 v) (42 + q) w 38 = a 38 := fun v w => by rw [upd_n (by omega), upd_n (by omega)]
  have vq : ∀ v w, upd (upd a 44 v) q w 45 = a 45 := fun v w => by rw [upd_n (by omega), upd_n (by omega)]
  have vq1 : ∀ v w, upd (upd a 44 v) (1 - q) w 45 = a 45 := fun v w => by rw [upd_n (by omega), upd_n (by omega)]
  have wq : ∀ v w, upd (upd a 44 v) q w (22 + 8 * q + p) = a (22 + 8 * q + p) := fun v w => by rw [upd_n (by omega), upd_n (by omega)]
  have wq1 : ∀ v w, upd (upd a 44 v) (1 - q) w (22 + 8 * q + p) = a (22 + 8 * q + p) := fun v w => by rw [upd_n (by omega), upd_n (by omega)]
  unfold f_X8_throwsOne twr
  simp only [x2, nc (2 + q) (by omega), ck (2 + q) (by omega), ep, x8, xat, x6, x22, nc (6 + 8 * q + p) (by omega), nc (22 + 8 * q + p) (by omega), ck (6 + 8 * q + p) (by omega), ck (22 + 8 * q + p) (by omega), eh, eps, x40, x42, x0, x1, x01, nc (40 + q) (by omega), nc (42 + q) (by omega), nc q (by omega), nc (1 - q) (by omega), ck (40 + q) (by omega), ck (42 + q) (by omega), ck q (by omega), ck (1 - q) (by omega), hh0, if_false, u40, u42, uq, uq1, v40, v42, vq, vq1, wq, wq1]
  rcases hto with ⟨rfl, rfl⟩ | ⟨rfl, rfl⟩
  · rw [if_pos rfl]
    by_cases h0 : h = 0
    · rw [if_pos h0, if_pos h0]
    · rw [if_neg h0, if_neg h0, es]
      have hb := b_bit1 h hh s hs
      by_cases hbit : s / 2 ^ h % 2 = 1
      · rw [if_pos (hb.mpr hbit), if_pos hbit]
      · rw [if_neg (fun e => hbit (hb.mp e)), if_neg hbit, (b_add h hh s hs (by omega) (by omega)).1]
  · rw [if_neg (show ¬ (0 : Int32) = 1 by decide)]
    by_cases h0 : h = 0
    · rw [if_pos h0, if_pos h0]
    · rw [if_neg h0, if_neg h0, es]
      have hb := b_bit1 h hh s hs
      by_cases hbit : s / 2 ^ h % 2 = 1
      · rw [if_pos (hb.mpr hbit), if_pos hbit]
      · rw [if_neg (fun e => hbit (hb.mp e)), if_neg hbit, (b_add h hh s hs (by omega) (by omega)).1]
theorem letThrow_ok {a : Nat → Int32} {j : JT} {q p h s to st : Nat} {ps : Int32} (hj : Rj j a q) (hq : q < 2) {n : Nat} (hp : p < n) (hn : n ≤ 8) (hl : a (4 + q) = nI n) (hh : h < 8) (ep : a (2 + q) = nI p) (eh : a (6 + 8 * q + p) = nI h) (eps : a (22 + 8 * q + p) = ps) (hto : (ps = 1 ∧ to = 1 - q) ∨ (ps = 0 ∧ to = q)) (hs : s < 256) (es : a to = nI s) (hst : st < 256) (est : a q = nI st) (h1 : st % 2 = 1) :
    f_X4_letThrow (a 38) (a 44) (a 45) j.1 j.2.1 j.2.2.1 j.2.2.2.2.1 j.2.2.2.2.2.1 j.2.2.2.2.2.2 (a (1 - q)) = some (twr a q to h s ps 38, twr a q to h s ps 44, twr a q to h s ps 45, twr a q to h s ps q, twr a q to h s ps (40 + q), twr a q to h s ps (42 + q), twr a q to h s ps (1 - q)) := by
  have e0 : f_X1_expects j.1 (0 : Int32) = some 1 := by
    rw [hj.1, est]
    have := b_has 0 (by omega) st hst
    unfold f_X1_expects
    rw [show (0 : Int32) = nI 0 from rfl, this]
    simp [h1, nI]
  have e1 : f_X1_heightAt j.2.1 j.2.2.2.2.1 = some (nI h) := by
    rw [hj.2.2.1, ep, hj.height (by omega), eh]
  have e2 : f_X1_isPassAt j.2.2.1 j.2.2.2.2.1 = some ps := by
    rw [hj.2.2.1, ep, hj.pass hp hn hl, eps]
  have hh0 : (nI h = 0) = (h = 0) := propext (nI_eq (a := h) (b := 0) (by omega) (by omega))
  unfold f_X4_letThrow
  rw [e0, Option.bind_some, if_neg h10, e1, Option.bind_some, e2, Option.bind_some]
  unfold twr
  rcases hto with ⟨rfl, rfl⟩ | ⟨rfl, hq2⟩
  · rw [if_neg h10]
    by_cases h0 : h = 0
    · rw [if_pos (by rw [h0]; rfl), if_pos h0, hj.1, hj.2.2.2.1, hj.2.2.2.2.1]
      rw [upd_s, upd_n (show 44 ≠ 38 by omega), upd_n (show 44 ≠ 40 + q by omega), upd_s, upd_n (show 45 ≠ 38 by omega), upd_n (show 45 ≠ 40 + q by omega), upd_n (show 45 ≠ 44 by omega), upd_n (show q ≠ 38 by omega), upd_n (show q ≠ 40 + q by omega), upd_n (show q ≠ 44 by omega), upd_n (show 40 + q ≠ 38 by omega), upd_s, upd_n (show 42 + q ≠ 38 by omega), upd_n (show 42 + q ≠ 40 + q by omega), upd_n (show 42 + q ≠ 44 by omega), upd_n (show 1 - q ≠ 38 by omega), upd_n (show 1 - q ≠ 40 + q by omega), upd_n (show 1 - q ≠ 44 by omega)]
    · rw [if_neg (by rw [hh0]; exact h0), if_neg h0, es]
      rcases expects_or hs hh with ⟨k1, k2⟩ | ⟨k1, k2⟩
      · rw [k1, Option.bind_some, if_pos rfl, if_neg (by omega)]
        unfold f_X1_expect
        rw [(b_add h hh s hs (by omega) k2).1, Option.bind_some, oneIf_ok (Or.inr rfl), Option.bind_some, hj.1, hj.2.2.2.1, hj.2.2.2.2.1]
        rw [upd_n (show 38 ≠ 45 by omega), upd_n (show 38 ≠ 1 - q by omega), upd_n (show 38 ≠ 44 by omega), upd_n (show 44 ≠ 45 by omega), upd_n (show 44 ≠ 1 - q by omega), upd_s, upd_s, upd_n (show q ≠ 45 by omega), upd_n (show q ≠ 1 - q by omega), upd_n (show q ≠ 44 by omega), upd_n (show 40 + q ≠ 45 by omega), upd_n (show 40 + q ≠ 1 - q by omega), upd_n (show 40 + q ≠ 44 by omega), upd_n (show 42 + q ≠ 45 by omega), upd_n (show 42 + q ≠ 1 - q by omega), upd_n (show 42 + q ≠ 44 by omega), upd_n (show 1 - q ≠ 45 by omega), upd_s]
      · rw [k1, Option.bind_some, if_neg h10, if_pos k2, hj.1, hj.2.2.2.1, hj.2.2.2.2.1]
        rw [upd_s, upd_n (show 44 ≠ 38 by omega), upd_n (show 44 ≠ 42 + q by omega), upd_s, upd_n (show 45 ≠ 38 by omega), upd_n (show 45 ≠ 42 + q by omega), upd_n (show 45 ≠ 44 by omega), upd_n (show q ≠ 38 by omega), upd_n (show q ≠ 42 + q by omega), upd_n (show q ≠ 44 by omega), upd_n (show 40 + q ≠ 38 by omega), upd_n (show 40 + q ≠ 42 + q by omega), upd_n (show 40 + q ≠ 44 by omega), upd_n (show 42 + q ≠ 38 by omega), upd_s, upd_n (show 1 - q ≠ 38 by omega), upd_n (show 1 - q ≠ 42 + q by omega), upd_n (show 1 - q ≠ 44 by omega), es]
  · have hq3 := hq2.symm
    subst hq3
    rw [if_pos rfl]
    by_cases h0 : h = 0
    · rw [if_pos (by rw [h0]; rfl), if_pos h0, hj.1, hj.2.2.2.1, hj.2.2.2.2.1]
      rw [upd_s, upd_n (show 44 ≠ 38 by omega), upd_n (show 44 ≠ 40 + q by omega), upd_s, upd_n (show 45 ≠ 38 by omega), upd_n (show 45 ≠ 40 + q by omega), upd_n (show 45 ≠ 44 by omega), upd_n (show q ≠ 38 by omega), upd_n (show q ≠ 40 + q by omega), upd_n (show q ≠ 44 by omega), upd_n (show 40 + q ≠ 38 by omega), upd_s, upd_n (show 42 + q ≠ 38 by omega), upd_n (show 42 + q ≠ 40 + q by omega), upd_n (show 42 + q ≠ 44 by omega), upd_n (show 1 - q ≠ 38 by omega), upd_n (show 1 - q ≠ 40 + q by omega), upd_n (show 1 - q ≠ 44 by omega)]
    · rw [if_neg (by rw [hh0]; exact h0), if_neg h0, hj.1, es]
      rcases expects_or hs hh with ⟨k1, k2⟩ | ⟨k1, k2⟩
      · rw [k1, Option.bind_some, if_pos rfl, if_neg (by omega)]
        unfold f_X1_expect
        rw [(b_add h hh s hs (by omega) k2).1, Option.bind_some, oneIf_ok (Or.inl rfl), Option.bind_some, hj.2.2.2.1, hj.2.2.2.2.1]
        rw [upd_n (show 38 ≠ 45 by omega), upd_n (show 38 ≠ q by omega), upd_n (show 38 ≠ 44 by omega), upd_n (show 44 ≠ 45 by omega), upd_n (show 44 ≠ q by omega), upd_s, upd_s, upd_n (show q ≠ 45 by omega), upd_s, upd_n (show 40 + q ≠ 45 by omega), upd_n (show 40 + q ≠ q by omega), upd_n (show 40 + q ≠ 44 by omega), upd_n (show 42 + q ≠ 45 by omega), upd_n (show 42 + q ≠ q by omega), upd_n (show 42 + q ≠ 44 by omega), upd_n (show 1 - q ≠ 45 by omega), upd_n (show 1 - q ≠ q by omega), upd_n (show 1 - q ≠ 44 by omega)]
      · rw [k1, Option.bind_some, if_neg h10, if_pos k2, hj.2.2.2.1, hj.2.2.2.2.1]
        rw [upd_s, upd_n (show 44 ≠ 38 by omega), upd_n (show 44 ≠ 42 + q by omega), upd_s, upd_n (show 45 ≠ 38 by omega), upd_n (show 45 ≠ 42 + q by omega), upd_n (show 45 ≠ 44 by omega), upd_n (show q ≠ 38 by omega), upd_n (show q ≠ 42 + q by omega), upd_n (show q ≠ 44 by omega), upd_n (show 40 + q ≠ 38 by omega), upd_n (show 40 + q ≠ 42 + q by omega), upd_n (show 40 + q ≠ 44 by omega), upd_n (show 42 + q ≠ 38 by omega), upd_s, upd_n (show 1 - q ≠ 38 by omega), upd_n (show 1 - q ≠ 42 + q by omega), upd_n (show 1 - q ≠ 44 by omega), es]

def Ma (a : Nat → Int32) (s u f : Nat) (q : Nat) : Prop := s < 256 ∧ u < 256 ∧ a q = nI s ∧ a (1 - q) = nI u ∧ a 38 = nI f
/-- a juggler's part of a beat, in both -/
theorem throw_sim {a : Nat → Int32} {j : JT} {q s u f : Nat} (hq : q < 2) (hp : ∀ q, q < 2 → (∃ n p : Nat, 1 ≤ n ∧ n ≤ 8 ∧ p < n ∧ a (4 + q) = nI n ∧ a (2 + q) = nI p) ∧ (∀ k, k < 8 → ∃ h : Nat, h < 8 ∧ a (6 + 8 * q + k) = nI h) ∧ (∀ k, k < 8 → a (22 + 8 * q + k) = 0 ∨ a (22 + 8 * q + k) = 1)) (hj : Rj j a q) (hM : Ma a s u f q) :
    ∃ (b : Nat → Int32) (s' u' f' : Nat), (if s % 2 = 1 then f_X8_throwsOne a (nI q) = some b else b = a) ∧ f_X4_letThrow (a 38) (a 44) (a 45) j.1 j.2.1 j.2.2.1 j.2.2.2.2.1 j.2.2.2.2.2.1 j.2.2.2.2.2.2 (a (1 - q)) = some (b 38, b 44, b 45, b q, b (40 + q), b (42 + q), b (1 - q)) ∧ (∀ i, 2 ≤ i → i < 38 → b i = a i) ∧ b 39 = a 39 ∧ b (40 + (1 - q)) = a (40 + (1 - q)) ∧ b (42 + (1 - q)) = a (42 + (1 - q)) ∧ Ma b s' u' f' q ∧ s' % 2 = s % 2 ∧ u' % 2 = u % 2 ∧ f ≤ f' ∧ f' ≤ f + 1 ∧ pcN (s' / 2) + pcN (u' / 2) + f' = pcN (s / 2) + pcN (u / 2) + f + s % 2 := by
  obtain ⟨hs, hu, es, eu, ef⟩ := hM
  by_cases h1 : s % 2 = 1
  · obtain ⟨⟨n, p, n1, n2, n3, n4, n5⟩, g6, g7⟩ := hp q hq
    obtain ⟨h, hh, eh⟩ := g6 p (by omega)
    have hps := g7 p (by omega)
    simp only [if_pos h1]
    -- where the club goes
    have main : ∀ (to t : Nat) (ps : Int32), a (22 + 8 * q + p) = ps → ((ps = 1 ∧ to = 1 - q) ∨ (ps = 0 ∧ to = q)) → t < 256 → a to = nI t → (to = q ∧ t = s ∨ to = 1 - q ∧ t = u) → ∃ (b : Nat → Int32) (s' u' f' : Nat), f_X8_throwsOne a (nI q) = some b ∧ f_X4_letThrow (a 38) (a 44) (a 45) j.1 j.2.1 j.2.2.1 j.2.2.2.2.1 j.2.2.2.2.2.1 j.2.2.2.2.2.2 (a (1 - q)) = some (b 38, b 44, b 45, b q, b (40 + q), b (42 + q), b (1 - q)) ∧ (∀ i, 2 ≤ i → i < 38 → b i = a i) ∧ b 39 = a 39 ∧ b (40 + (1 - q)) = a (40 + (1 - q)) ∧ b (42 + (1 - q)) = a (42 + (1 - q)) ∧ Ma b s' u' f' q ∧ s' % 2 = s % 2 ∧ u' % 2 = u % 2 ∧ f ≤ f' ∧ f' ≤ f + 1 ∧ pcN (s' / 2) + pcN (u' / 2) + f' = pcN (s / 2) + pcN (u / 2) + f + s % 2 := by
      intro to t ps eps hto ht et hwho
      refine ⟨twr a q to h t ps, ?_⟩
      have r1 := throwsOne_ok hq (p := p) (by omega) hh n5 eh eps hto ht et
      have r2 := letThrow_ok hj hq n3 n2 n4 hh n5 eh eps hto ht et hs es h1
      have hto2 : to < 2 := by omega
      rw [r1, r2]
      unfold twr
      by_cases h0 : h = 0
      · rw [if_pos h0]
        refine ⟨s, u, f + 1, rfl, rfl, fun i i1 i2 => by rw [upd_n (by omega), upd_n (by omega), upd_n (by omega)], by rw [upd_n (by omega), upd_n (by omega), upd_n (by omega)], by rw [upd_n (by omega), upd_n (by omega), upd_n (by omega)], by rw [upd_n (by omega), upd_n (by omega), upd_n (by omega)], ⟨hs, hu, by rw [upd_n (by omega), upd_n (by omega), upd_n (by omega)]; exact es, by rw [upd_n (by omega), upd_n (by omega), upd_n (by omega)]; exact eu, by rw [upd_s, ef, nI_1]⟩, rfl, rfl, by omega, by omega, by omega⟩
      · rw [if_neg h0]
        by_cases hbit : t / 2 ^ h % 2 = 1
        · rw [if_pos hbit]
          refine ⟨s, u, f + 1, rfl, rfl, fun i i1 i2 => by rw [upd_n (by omega), upd_n (by omega), upd_n (by omega)], by rw [upd_n (by omega), upd_n (by omega), upd_n (by omega)], by rw [upd_n (by omega), upd_n (by omega), upd_n (by omega)], by rw [upd_n (by omega), upd_n (by omega), upd_n (by omega)], ⟨hs, hu, by rw [upd_n (by omega), upd_n (by omega), upd_n (by omega)]; exact es, by rw [upd_n (by omega), upd_n (by omega), upd_n (by omega)]; exact eu, by rw [upd_s, ef, nI_1]⟩, rfl, rfl, by omega, by omega, by omega⟩
        · rw [if_neg hbit]
          obtain ⟨-, a2, a3, a4⟩ := b_add h hh t ht (by omega) (by omega)
          rcases hwho with ⟨rfl, rfl⟩ | ⟨rfl, rfl⟩
          · refine ⟨t + 2 ^ h, u, f, rfl, rfl, fun i i1 i2 => by rw [upd_n (by omega), upd_n (by omega), upd_n (by omega)], by rw [upd_n (by omega), upd_n (by omega), upd_n (by omega)], by rw [upd_n (by omega), upd_n (by omega), upd_n (by omega)], by rw [upd_n (by omega), upd_n (by omega), upd_n (by omega)], ⟨a2, hu, by rw [upd_n (by omega), upd_s], by rw [upd_n (by omega), upd_n (by omega), upd_n (by omega)]; exact eu, by rw [upd_n (by omega), upd_n (by omega), upd_n (by omega)]; exact ef⟩, a4, rfl, by omega, by omega, by omega⟩
          · refine ⟨s, t + 2 ^ h, f, rfl, rfl, fun i i1 i2 => by rw [upd_n (by omega), upd_n (by omega), upd_n (by omega)], by rw [upd_n (by omega), upd_n (by omega), upd_n (by omega)], by rw [upd_n (by omega), upd_n (by omega), upd_n (by omega)], by rw [upd_n (by omega), upd_n (by omega), upd_n (by omega)], ⟨hs, a2, by rw [upd_n (by omega), upd_n (by omega), upd_n (by omega)]; exact es, by rw [upd_n (by omega), upd_s], by rw [upd_n (by omega), upd_n (by omega), upd_n (by omega)]; exact ef⟩, rfl, a4, by omega, by omega, by omega⟩
    rcases hps with hps | hps
    · exact main q s 0 hps (Or.inr ⟨rfl, rfl⟩) hs es (Or.inl ⟨rfl, rfl⟩)
    · exact main (1 - q) u 1 hps (Or.inl ⟨rfl, rfl⟩) hu eu (Or.inr ⟨rfl, rfl⟩)
  · simp only [if_neg h1]
    have e0 : f_X1_expects j.1 (0 : Int32) = some 0 := by
      rw [hj.1, es]
      have := b_has 0 (by omega) s hs
      unfold f_X1_expects
      rw [show (0 : Int32) = nI 0 from rfl, this]
      have h2 : s / 2 ^ 0 % 2 = 0 := by simp; omega
      rw [h2]; rfl
    refine ⟨a, s, u, f, rfl, ?_, fun i _ _ => rfl, rfl, rfl, rfl, ⟨hs, hu, es, eu, ef⟩, rfl, rfl, by omega, by omega, by omega⟩
    unfold f_X4_letThrow
    rw [e0, Option.bind_some, if_pos rfl, hj.1, hj.2.2.2.1, hj.2.2.2.2.1]
