/-! a scene by numbers: the program of each, the key (states and places), the floor; a beat and many of them -/
abbrev PJ : Type := Nat × (Nat → Nat) × (Nat → Bool)
abbrev PG : Type := PJ × PJ
abbrev KY : Type := (Nat × Nat) × (Nat × Nat)
def Vp (P : PJ) (s p : Nat) : Prop := s < 256 ∧ 1 ≤ P.1 ∧ P.1 ≤ 8 ∧ p < P.1 ∧ ∀ k, k < 8 → P.2.1 k < 8
def Wj (j : JT) (P : PJ) (s p : Nat) : Prop := Vp P s p ∧ j.1 = nI s ∧ j.2.2.2.1 = nI P.1 ∧ j.2.2.2.2.1 = nI p ∧ (∀ k, k < 8 → j.2.1 k = nI (P.2.1 k)) ∧ ∀ k, k < 8 → f_X1_isPassAt j.2.2.1 (nI k) = some (if P.2.2 k then 1 else 0)
def tot (S : ST) : Int32 := S.1.2.2.2.2.2.1 + S.1.2.2.2.2.2.2 + S.2.1.2.2.2.2.2.1 + S.2.1.2.2.2.2.2.2
def WS (S : ST) (P : PG) (k : KY) (f : Nat) : Prop := Wj S.1 P.1 k.1.1 k.1.2 ∧ Wj S.2.1 P.2 k.2.1 k.2.2 ∧ S.2.2.1 = nI f ∧ pcN k.1.1 + pcN k.2.1 + f ≤ 16
def VK (P : PG) (k : KY) : Prop := Vp P.1 k.1.1 k.1.2 ∧ Vp P.2 k.2.1 k.2.2
theorem WS.vk {S : ST} {P : PG} {k : KY} {f : Nat} (h : WS S P k f) : VK P k := ⟨h.1.1, h.2.1.1⟩
theorem Wj.eq {r s : JT} {P : PJ} {a p : Nat} (h : Jeq r s) (hr : Wj s P a p) : Wj r P a p := by
  obtain ⟨h1, h2, h3⟩ := h
  obtain ⟨g0, g1, g2, g3, g4, g5⟩ := hr
  exact ⟨g0, by rw [h1]; exact g1, by rw [h2]; exact g2, by rw [h2]; exact g3, fun k hk => by rw [h3 k hk]; exact g4 k hk, fun k hk => by rw [h2]; exact g5 k hk⟩
theorem WS.eq {r s : ST} {P : PG} {k : KY} {f : Nat} (h : Seq r s) (hr : WS s P k f) : WS r P k f := by
  obtain ⟨h1, h2, h3⟩ := h
  obtain ⟨g1, g2, g3, g4⟩ := hr
  exact ⟨g1.eq h1, g2.eq h2, by rw [h3]; exact g3, g4⟩
theorem Seq.tot {r s : ST} (h : Seq r s) : tot r = tot s := by
  obtain ⟨⟨-, h1, -⟩, ⟨-, h2, -⟩, -⟩ := h
  show r.1.2.2.2.2.2.1 + r.1.2.2.2.2.2.2 + r.2.1.2.2.2.2.2.1 + r.2.1.2.2.2.2.2.2 = s.1.2.2.2.2.2.1 + s.1.2.2.2.2.2.2 + s.2.1.2.2.2.2.2.1 + s.2.1.2.2.2.2.2.2
  rw [h1, h2]
/-- a throw: the thrower's state, the partner's, clubs dropped -/
def thr (h : Nat) (b : Bool) (s u : Nat) : Nat × Nat × Nat :=
  if s % 2 = 0 then (s, u, 0) else if h = 0 then (s, u, 1) else if b then (if u / 2 ^ h % 2 = 1 then (s, u, 1) else (s, u + 2 ^ h, 0)) else (if s / 2 ^ h % 2 = 1 then (s, u, 1) else (s + 2 ^ h, u, 0))
theorem thr_ok {h : Nat} (b : Bool) {s u : Nat} (hh : h < 8) (hs : s < 256) (hu : u < 256) : (thr h b s u).1 < 256 ∧ (thr h b s u).2.1 < 256 ∧ (thr h b s u).2.2 ≤ 1 ∧ pcN ((thr h b s u).1 / 2) + pcN ((thr h b s u).2.1 / 2) + (thr h b s u).2.2 = pcN (s / 2) + pcN (u / 2) + s % 2 ∧ (thr h b s u).1 % 2 = s % 2 ∧ (thr h b s u).2.1 % 2 = u % 2 := by
  unfold thr
  by_cases h0 : s % 2 = 0
  · rw [if_pos h0]; exact ⟨hs, hu, Nat.zero_le _, by dsimp only; omega, rfl, rfl⟩
  rw [if_neg h0]
  by_cases h1 : h = 0
  · rw [if_pos h1]; exact ⟨hs, hu, Nat.le_refl _, by dsimp only; omega, rfl, rfl⟩
  rw [if_neg h1]
  cases b with
  | true =>
    rw [if_pos rfl]
    by_cases h2 : u / 2 ^ h % 2 = 1
    · rw [if_pos h2]; exact ⟨hs, hu, Nat.le_refl _, by dsimp only; omega, rfl, rfl⟩
    · rw [if_neg h2]
      obtain ⟨-, a2, a3, a4⟩ := b_add h hh u hu (by omega) (by omega)
      exact ⟨hs, a2, Nat.zero_le _, by show pcN (s / 2) + pcN ((u + 2 ^ h) / 2) + 0 = _; omega, rfl, a4⟩
  | false =>
    rw [if_neg (by decide)]
    by_cases h2 : s / 2 ^ h % 2 = 1
    · rw [if_pos h2]; exact ⟨hs, hu, Nat.le_refl _, by dsimp only; omega, rfl, rfl⟩
    · rw [if_neg h2]
      obtain ⟨-, a2, a3, a4⟩ := b_add h hh s hs (by omega) (by omega)
      exact ⟨a2, hu, Nat.zero_le _, by show pcN ((s + 2 ^ h) / 2) + pcN (u / 2) + 0 = _; omega, a4, rfl⟩
theorem add0 (a : Int32) : a = a + nI 0 := by rw [nI_0]; simp
theorem add1a (a b : Int32) : (a + 1) + b = a + b + nI 1 := by
  rw [show nI 1 = (1 : Int32) from rfl, Int32.add_assoc, Int32.add_comm 1 b, ← Int32.add_assoc]
theorem add1b (a b : Int32) : a + (b + 1) = a + b + nI 1 := by
  rw [show nI 1 = (1 : Int32) from rfl, Int32.add_assoc]
theorem letThrow_ok {j : JT} {P : PJ} {s p : Nat} (hj : Wj j P s p) {u : Nat} (hu : u < 256) (fl tm pc : Int32) : ∃ (fl' tm' pc' sl' cl' : Int32), f_X4_letThrow fl tm pc j.1 j.2.1 j.2.2.1 j.2.2.2.2.1 j.2.2.2.2.2.1 j.2.2.2.2.2.2 (nI u) = some (fl', tm', pc', nI (thr (P.2.1 p) (P.2.2 p) s u).1, sl', cl', nI (thr (P.2.1 p) (P.2.2 p) s u).2.1) ∧ fl' = fl + nI (thr (P.2.1 p) (P.2.2 p) s u).2.2 ∧ sl' + cl' = j.2.2.2.2.2.1 + j.2.2.2.2.2.2 + nI (thr (P.2.1 p) (P.2.2 p) s u).2.2 := by
  obtain ⟨⟨hs, n1, n8, hp, hh⟩, e1, e2, e3, e4, e5⟩ := hj
  have hP := hh p (by omega)
  have k0 : f_X1_expects j.1 (0 : Int32) = some (nI (s % 2)) := by
    rw [e1]
    have := b_has 0 (by omega) s hs
    unfold f_X1_expects
    rw [show (0 : Int32) = nI 0 from rfl, this]
    simp
  have k1 : f_X1_heightAt j.2.1 j.2.2.2.2.1 = some (nI (P.2.1 p)) := by
    rw [e3, heightAt_ok _ (by omega), e4 p (by omega)]
  have k2 : f_X1_isPassAt j.2.2.1 j.2.2.2.2.1 = some (if P.2.2 p then 1 else 0) := by
    rw [e3]; exact e5 p (by omega)
  unfold f_X4_letThrow thr
  rw [k0, Option.bind_some]
  by_cases h0 : s % 2 = 0
  · rw [if_pos (by rw [h0]; rfl), if_pos h0, e1]
    exact ⟨_, _, _, _, _, rfl, add0 _, add0 _⟩
  rw [if_neg (by rw [show s % 2 = 1 by omega]; decide), if_neg h0, k1, Option.bind_some, k2, Option.bind_some]
  have z0 : (nI (P.2.1 p) = 0) = (P.2.1 p = 0) := propext (nI_eq (a := P.2.1 p) (b := 0) (by omega) (by omega))
  cases hb : P.2.2 p with
  | false =>
    rw [if_neg (show ¬ false = true by decide), if_pos rfl, if_neg (show ¬ false = true by decide)]
    by_cases h1 : P.2.1 p = 0
    · rw [if_pos (by rw [h1]; rfl), if_pos h1, e1]
      exact ⟨_, _, _, _, _, rfl, rfl, add1a _ _⟩
    · rw [if_neg (by rw [z0]; exact h1), if_neg h1, e1]
      rcases expects_or hs hP with ⟨a1, a2⟩ | ⟨a1, a2⟩
      · rw [a1, Option.bind_some, if_pos rfl, if_neg (by omega)]
        unfold f_X1_expect
        rw [(b_add _ hP s hs (by omega) a2).1, Option.bind_some, oneIf_ok (Or.inl rfl), Option.bind_some]
        exact ⟨_, _, _, _, _, rfl, add0 _, add0 _⟩
      · rw [a1, Option.bind_some, if_neg h10, if_pos a2]
        exact ⟨_, _, _, _, _, rfl, rfl, add1b _ _⟩
  | true =>
    rw [if_pos rfl, if_neg h10, if_pos rfl]
    by_cases h1 : P.2.1 p = 0
    · rw [if_pos (by rw [h1]; rfl), if_pos h1, e1]
      exact ⟨_, _, _, _, _, rfl, rfl, add1a _ _⟩
    · rw [if_neg (by rw [z0]; exact h1), if_neg h1, e1]
      rcases expects_or hu hP with ⟨a1, a2⟩ | ⟨a1, a2⟩
      · rw [a1, Option.bind_some, if_pos rfl, if_neg (by omega)]
        unfold f_X1_expect
        rw [(b_add _ hP u hu (by omega) a2).1, Option.bind_some, oneIf_ok (Or.inr rfl), Option.bind_some]
        exact ⟨_, _, _, _, _, rfl, add0 _, add0 _⟩
      · rw [a1, Option.bind_some, if_neg h10, if_pos a2]
        exact ⟨_, _, _, _, _, rfl, rfl, add1b _ _⟩
/-- the two throws of a beat -/
def t0K (P : PG) (k : KY) : Nat × Nat × Nat := thr (P.1.2.1 k.1.2) (P.1.2.2 k.1.2) k.1.1 k.2.1
def t1K (P : PG) (k : KY) : Nat × Nat × Nat := thr (P.2.2.1 k.2.2) (P.2.2.2 k.2.2) (t0K P k).2.1 (t0K P k).1
def bK (P : PG) (k : KY) : KY := (((t1K P k).2.1 / 2, (k.1.2 + 1) % P.1.1), ((t1K P k).1 / 2, (k.2.2 + 1) % P.2.1))
def dK (P : PG) (k : KY) : Nat := (t0K P k).2.2 + (t1K P k).2.2
theorem t_lt {P : PG} {k : KY} (h : VK P k) : (t0K P k).1 < 256 ∧ (t0K P k).2.1 < 256 ∧ (t1K P k).1 < 256 ∧ (t1K P k).2.1 < 256 := by
  obtain ⟨⟨a1, a2, a3, a4, a5⟩, b1, b2, b3, b4, b5⟩ := h
  obtain ⟨c1, c2, -⟩ := thr_ok (P.1.2.2 k.1.2) (a5 k.1.2 (by omega)) a1 b1
  obtain ⟨d1, d2, -⟩ := thr_ok (P.2.2.2 k.2.2) (b5 k.2.2 (by omega)) c2 c1
  exact ⟨c1, c2, d1, d2⟩
theorem bK_ok {P : PG} {k : KY} (h : VK P k) : VK P (bK P k) ∧ pcN (bK P k).1.1 + pcN (bK P k).2.1 + dK P k = pcN k.1.1 + pcN k.2.1 := by
  obtain ⟨⟨a1, a2, a3, a4, a5⟩, b1, b2, b3, b4, b5⟩ := h
  obtain ⟨c1, c2, c3, c4, c5, c6⟩ := thr_ok (P.1.2.2 k.1.2) (a5 k.1.2 (by omega)) a1 b1
  obtain ⟨d1, d2, d3, d4, d5, d6⟩ := thr_ok (P.2.2.2 k.2.2) (b5 k.2.2 (by omega)) c2 c1
  have q0 := b_pc _ a1
  have q1 := b_pc _ b1
  refine ⟨⟨⟨?_, a2, a3, Nat.mod_lt _ (by omega), a5⟩, ?_, b2, b3, Nat.mod_lt _ (by omega), b5⟩, ?_⟩
  · show (t1K P k).2.1 / 2 < 256
    have : (t1K P k).2.1 < 256 := d2
    omega
  · show (t1K P k).1 / 2 < 256
    have : (t1K P k).1 < 256 := d1
    omega
  · show pcN ((t1K P k).2.1 / 2) + pcN ((t1K P k).1 / 2) + ((t0K P k).2.2 + (t1K P k).2.2) = _
    have e1 : pcN ((t1K P k).1 / 2) + pcN ((t1K P k).2.1 / 2) + (t1K P k).2.2 = pcN ((t0K P k).2.1 / 2) + pcN ((t0K P k).1 / 2) + (t0K P k).2.1 % 2 := d4
    have e0 : pcN ((t0K P k).1 / 2) + pcN ((t0K P k).2.1 / 2) + (t0K P k).2.2 = pcN (k.1.1 / 2) + pcN (k.2.1 / 2) + k.1.1 % 2 := c4
    have e2 : (t0K P k).2.1 % 2 = k.2.1 % 2 := c6
    omega
theorem add22 (x m y n : Int32) : x + m + (y + n) = x + y + (m + n) := by
  rw [Int32.add_assoc, Int32.add_assoc, ← Int32.add_assoc m y n, Int32.add_comm m y, Int32.add_assoc y m n]
theorem add4 {a b c d x y : Int32} {m n : Nat} (h1 : x = a + b + nI m) {z w : Int32} (h2 : z + w = c + d + nI n) (h3 : y = x) : y + z + w = a + b + c + d + nI (m + n) := by
  subst h3; subst h1
  rw [← nI_add, Int32.add_assoc _ z w, h2, add22, ← Int32.add_assoc (a + b) c d]
/-- one step of the class's loop -/
theorem play_step {S : ST} {P : PG} {k : KY} {f : Nat} (h : WS S P k f) : ∃ S' : ST, WS S' P (bK P k) (f + dK P k) ∧ S'.2.2.2.1 = S.2.2.2.1 ∧ tot S' = tot S + nI (dK P k) ∧ ∀ (x1 x2 x3 : Int32) (n : Nat), ¬ x1 ≤ x3 → f_X4_play_L7 x1 x2 (n + 1) x3 S = f_X4_play_L7 x1 x2 n (x3 + (1 : Int32)) S' := by
  obtain ⟨hz, ho, hf, hsum⟩ := h
  obtain ⟨v1, v2⟩ := bK_ok (P := P) (k := k) ⟨hz.1, ho.1⟩
  obtain ⟨l1, l2, l3, l4⟩ := t_lt (P := P) (k := k) ⟨hz.1, ho.1⟩
  have ez := hz.2.1
  have eo := ho.2.1
  obtain ⟨fl, tm, pc, sl, cl, r1, r2, r3⟩ := letThrow_ok hz ho.1.1 S.2.2.1 S.2.2.2.2.1 S.2.2.2.2.2
  have ho1 : Wj (nI (t0K P k).2.1, S.2.1.2.1, S.2.1.2.2.1, S.2.1.2.2.2.1, S.2.1.2.2.2.2.1, S.2.1.2.2.2.2.2.1, S.2.1.2.2.2.2.2.2) P.2 (t0K P k).2.1 k.2.2 :=
    ⟨⟨l2, ho.1.2⟩, rfl, ho.2.2⟩
  obtain ⟨fl2, tm2, pc2, sl2, cl2, w1, w2, w3⟩ := letThrow_ok ho1 l1 fl tm pc
  have E1 : f_X1_endBeat (nI (t1K P k).2.1) S.1.2.2.2.1 S.1.2.2.2.2.1 = some (nI ((t1K P k).2.1 / 2), nI ((k.1.2 + 1) % P.1.1)) := by
    rw [hz.2.2.1, hz.2.2.2.1]
    exact endBeat_ok l4 hz.1.2.2.2.1 hz.1.2.2.1
  have E2 : f_X1_endBeat (nI (t1K P k).1) S.2.1.2.2.2.1 S.2.1.2.2.2.2.1 = some (nI ((t1K P k).1 / 2), nI ((k.2.2 + 1) % P.2.1)) := by
    rw [ho.2.2.1, ho.2.2.2.1]
    exact endBeat_ok l3 ho.1.2.2.2.1 ho.1.2.2.1
  refine ⟨((nI ((t1K P k).2.1 / 2), S.1.2.1, S.1.2.2.1, S.1.2.2.2.1, nI ((k.1.2 + 1) % P.1.1), sl, cl), (nI ((t1K P k).1 / 2), S.2.1.2.1, S.2.1.2.2.1, S.2.1.2.2.2.1, nI ((k.2.2 + 1) % P.2.1), sl2, cl2), fl2, S.2.2.2.1, tm2, pc2), ⟨⟨v1.1, rfl, hz.2.2.1, rfl, hz.2.2.2.2⟩, ⟨v1.2, rfl, ho.2.2.1, rfl, ho.2.2.2.2⟩, ?_, by omega⟩, rfl, ?_, fun x1 x2 x3 n hx => ?_⟩
  · show fl2 = nI (f + dK P k)
    rw [w2, r2, hf, nI_add, nI_add, Nat.add_assoc]
    rfl
  · show sl + cl + sl2 + cl2 = _
    exact add4 r3 w3 rfl
  · rw [f_X4_play_L7, if_neg hx]
    rw [eo, r1, Option.bind_some]
    dsimp only
    rw [show nI (thr (P.1.2.1 k.1.2) (P.1.2.2 k.1.2) k.1.1 k.2.1).2.1 = nI (t0K P k).2.1 from rfl, show nI (thr (P.1.2.1 k.1.2) (P.1.2.2 k.1.2) k.1.1 k.2.1).1 = nI (t0K P k).1 from rfl]
    have w1' : f_X4_letThrow fl tm pc (nI (t0K P k).2.1) S.2.1.2.1 S.2.1.2.2.1 S.2.1.2.2.2.2.1 S.2.1.2.2.2.2.2.1 S.2.1.2.2.2.2.2.2 (nI (t0K P k).1) = some (fl2, tm2, pc2, nI (t1K P k).1, sl2, cl2, nI (t1K P k).2.1) := w1
    rw [w1', Option.bind_some]
    dsimp only
    rw [E1, Option.bind_some, E2, Option.bind_some]
def kyN (P : PG) : Nat → KY → KY
  | 0, k => k
  | n + 1, k => kyN P n (bK P k)
def dN (P : PG) : Nat → KY → Nat
  | 0, _ => 0
  | n + 1, k => dK P k + dN P n (bK P k)
def addB (S : ST) (x : Int32) : ST := (S.1, S.2.1, S.2.2.1, S.2.2.2.1 + x, S.2.2.2.2.1, S.2.2.2.2.2)
theorem play_run (n : Nat) (hn : n < 2 ^ 30) (x2 : Int32) : ∀ (m i fuel : Nat) (S : ST) (P : PG) (k : KY) (f : Nat), WS S P k f → i + m = n → m < fuel → ∃ S' : ST, f_X4_play_L7 (nI n) x2 fuel (nI i) S = some (S'.2.2.1 - x2, addB S' (nI n)) ∧ WS S' P (kyN P m k) (f + dN P m k) ∧ S'.2.2.2.1 = S.2.2.2.1 ∧ tot S' = tot S + nI (dN P m k) := by
  intro m
  induction m with
  | zero =>
    intro i fuel S P k f h h1 h2
    obtain ⟨g, rfl⟩ : ∃ g, fuel = g + 1 := ⟨fuel - 1, by omega⟩
    refine ⟨S, ?_, h, rfl, add0 _⟩
    rw [f_X4_play_L7, if_pos (nI_le (by omega) (by omega))]; rfl
  | succ m ih =>
    intro i fuel S P k f h h1 h2
    obtain ⟨g, rfl⟩ : ∃ g, fuel = g + 1 := ⟨fuel - 1, by omega⟩
    obtain ⟨S1, g1, g2, g3, g4⟩ := play_step h
    obtain ⟨S', k1, k2, k3, k4⟩ := ih (i + 1) g S1 P (bK P k) (f + dK P k) g1 (by omega) (by omega)
    refine ⟨S', ?_, ?_, k3.trans g2, ?_⟩
    · rw [g4 _ _ _ _ (nI_ge (by omega) (by omega)), nI_1]; exact k1
    · rw [Nat.add_assoc] at k2; exact k2
    · rw [k4, g3, Int32.add_assoc, nI_add]
      rfl
theorem play_ok {S : ST} {P : PG} {k : KY} {f : Nat} (h : WS S P k f) {n : Nat} (hn : n < 100000) : ∃ S' : ST, f_X4_play S (nI n) = some (nI (dN P n k), S') ∧ WS S' P (kyN P n k) (f + dN P n k) ∧ S'.2.2.2.1 = S.2.2.2.1 + nI n ∧ tot S' = tot S + nI (dN P n k) := by
  obtain ⟨S', k1, k2, k3, k4⟩ := play_run n (by omega) S.2.2.1 n 0 zF S P k f h (by omega) (by unfold zF; omega)
  refine ⟨addB S' (nI n), ?_, k2, ?_, k4⟩
  · unfold f_X4_play
    rw [show (0 : Int32) = nI 0 from rfl, k1, k2.2.2.1, h.2.2.1, pk_sub (by omega), show f + dN P n k - f = dN P n k by omega]
  · show S'.2.2.2.1 + nI n = _
    rw [k3]
