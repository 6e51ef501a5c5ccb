theorem b_sh1 {s : Nat} (hs : s < 256) : nI s >>> ((1 : Int32) &&& 31) = nI (s / 2) := b_sh s hs
theorem L34_step {a : Nat → Int32} {i s p m : Nat} (n : Nat) (hi : i < 2) (hs : s < 256) (es : a i = nI s) (hp : p < m) (hm : m ≤ 8) (ep : a (2 + i) = nI p) (em : a (4 + i) = nI m) : f_X8_beats_L34 (n + 1) (nI i) a = f_X8_beats_L34 n (nI (i + 1)) (upd (upd a i (nI (s / 2))) (2 + i) (nI ((p + 1) % m))) := by
  have ck : ∀ k, k < 46 → (nI k < 0 ∨ 46 ≤ k) = False := fun k hk => by
    have := in_nI (k := k) (N := 46) hk (by decide)
    rw [nI_clamp (by omega)] at this
    exact eq_false this
  have nc : ∀ k, k < 46 → (nI k).toNatClampNeg = k := fun k hk => nI_clamp (by omega)
  have x0 : (0 : Int32) + nI i = nI i := by rw [show (0 : Int32) = nI 0 from rfl, nI_add, Nat.zero_add]
  have x2 : (2 : Int32) + nI i = nI (2 + i) := nI_add 2 i
  have x4 : (4 : Int32) + nI i = nI (4 + i) := nI_add 4 i
  have u4 : ∀ v, upd a i v (4 + i) = nI m := fun v => by rw [upd_n (by omega), em]
  have u2 : ∀ v, upd a i v (2 + i) = nI p := fun v => by rw [upd_n (by omega), ep]
  have m0 : (nI m = 0) = False := eq_false (nI_ne0 (by omega) (by omega))
  rw [f_X8_beats_L34, if_neg (show ¬ (2 : Int32) ≤ nI i from ge_lit (m := 2) hi (by decide))]
  simp only [x0, x2, x4, nc i (by omega), nc (2 + i) (by omega), nc (4 + i) (by omega), ck i (by omega), ck (2 + i) (by omega), ck (4 + i) (by omega), es, b_sh1 hs, u4, u2, m0, if_false, nI_1]
  rw [pk_rem (by omega) (by omega) (by omega)]
theorem endBeat_ok {s n p : Nat} (hs : s < 256) (hp : p < n) (hn : n ≤ 8) : f_X1_endBeat (nI s) (nI n) (nI p) = some (nI (s / 2), nI ((p + 1) % n)) := by
  unfold f_X1_endBeat
  rw [nI_1, b_sh1 hs]
  by_cases h : p + 1 < n
  · rw [if_pos (nI_lt h (by omega)), Nat.mod_eq_of_lt h]
  · rw [if_neg (nI_nlt (by omega) (by omega)), show p + 1 = n by omega, Nat.mod_self]
    rfl
theorem L2_step {a b : Nat → Int32} {i s : Nat} (n : Nat) (hi : i < 2) (hs : s < 256) (es : a i = nI s) (h : if s % 2 = 1 then f_X8_throwsOne a (nI i) = some b else b = a) : f_X8_beats_L2 (n + 1) (nI i) a = f_X8_beats_L2 n (nI (i + 1)) b := by
  have x0 : (0 : Int32) + nI i = nI i := by rw [show (0 : Int32) = nI 0 from rfl, nI_add, Nat.zero_add]
  rw [f_X8_beats_L2, if_neg (show ¬ (2 : Int32) ≤ nI i from ge_lit (m := 2) hi (by decide)), x0, if_neg (in_nI (by omega) (by decide)), nI_clamp (by omega), es]
  by_cases h1 : s % 2 = 1
  · rw [if_pos h1] at h
    rw [if_pos ((b_and1 s hs).mpr h1), h, nI_1]
    rfl
  · rw [if_neg h1] at h
    rw [if_neg (fun e => h1 ((b_and1 s hs).mp e)), nI_1, h]
theorem beat_ok {S : ST} {a : Nat → Int32} (h : Rq S a) : ∃ (a' : Nat → Int32) (q2 q3 : Int32 × Int32 × Int32 × Int32 × Int32 × Int32 × Int32) (q4 q5 : Int32 × Int32) (f d : Nat), f_X8_beats a = some a' ∧
    f_X4_letThrow S.2.2.1 S.2.2.2.2.1 S.2.2.2.2.2 S.1.1 S.1.2.1 S.1.2.2.1 S.1.2.2.2.2.1 S.1.2.2.2.2.2.1 S.1.2.2.2.2.2.2 S.2.1.1 = some q2 ∧
    f_X4_letThrow q2.1 q2.2.1 q2.2.2.1 q2.2.2.2.2.2.2 S.2.1.2.1 S.2.1.2.2.1 S.2.1.2.2.2.2.1 S.2.1.2.2.2.2.2.1 S.2.1.2.2.2.2.2.2 q2.2.2.2.1 = some q3 ∧
    f_X1_endBeat q3.2.2.2.2.2.2 S.1.2.2.2.1 S.1.2.2.2.2.1 = some q4 ∧ f_X1_endBeat q3.2.2.2.1 S.2.1.2.2.2.1 S.2.1.2.2.2.2.1 = some q5 ∧
    Rq ((q4.1, S.1.2.1, S.1.2.2.1, S.1.2.2.2.1, q4.2, q2.2.2.2.2.1, q2.2.2.2.2.2.1), (q5.1, S.2.1.2.1, S.2.1.2.2.1, S.2.1.2.2.2.1, q5.2, q3.2.2.2.2.1, q3.2.2.2.2.2.1), q3.1, S.2.2.2.1, q3.2.1, q3.2.2.1) a' ∧
    a' 39 = a 39 + 1 ∧ a 38 = nI f ∧ f ≤ 16 ∧ d ≤ 2 ∧ a' 38 = nI (f + d) := by
  obtain ⟨hz, ho, hfl, htm, hpc, hw⟩ := h
  obtain ⟨⟨s0, s1, f, g0, g1, e0, e1, ef, hsum⟩, hprog⟩ := id hw
  -- juggler 0
  obtain ⟨b, t0, t1, f1, k1, k2, k3, k4, k5, k6, ⟨m1, m2, m3, m4, m5⟩, k8, k9, k10, k11, k12⟩ := throw_sim (q := 0) (by omega) hprog hz ⟨g0, g1, e0, e1, ef⟩
  -- juggler 1
  have hprog1 : ∀ q, q < 2 → (∃ n p : Nat, 1 ≤ n ∧ n ≤ 8 ∧ p < n ∧ b (4 + q) = nI n ∧ b (2 + q) = nI p) ∧ (∀ k, k < 8 → ∃ h : Nat, h < 8 ∧ b (6 + 8 * q + k) = nI h) ∧ (∀ k, k < 8 → b (22 + 8 * q + k) = 0 ∨ b (22 + 8 * q + k) = 1) := by
    intro q hq
    obtain ⟨⟨n, p, i1, i2, i3, i4, i5⟩, i6, i7⟩ := hprog q hq
    exact ⟨⟨n, p, i1, i2, i3, by rw [k3 _ (by omega) (by omega)]; exact i4, by rw [k3 _ (by omega) (by omega)]; exact i5⟩, fun k hk => by rw [k3 _ (by omega) (by omega)]; exact i6 k hk, fun k hk => by rw [k3 _ (by omega) (by omega)]; exact i7 k hk⟩
  have ho1 : Rj (b 1, S.2.1.2.1, S.2.1.2.2.1, S.2.1.2.2.2.1, S.2.1.2.2.2.2.1, S.2.1.2.2.2.2.2.1, S.2.1.2.2.2.2.2.2) b 1 :=
    ho.set rfl (by rw [k3 _ (by omega) (by omega)]; exact ho.2.2.1) (by rw [show (40 + 1 : Nat) = 40 + (1 - 0) from rfl, k5]; exact ho.2.2.2.1) (by rw [show (42 + 1 : Nat) = 42 + (1 - 0) from rfl, k6]; exact ho.2.2.2.2.1) (k3 _ (by omega) (by omega)) (fun k hk => k3 _ (by omega) (by omega)) (fun k hk => k3 _ (by omega) (by omega))
  obtain ⟨c, u1, u0, f2, l1, l2, l3, l4, l5, l6, ⟨w1, w2, w3, w4, w5⟩, l8, l9, l10, l11, l12⟩ := throw_sim (q := 1) (by omega) hprog1 ho1 ⟨m2, m1, m4, m3, m5⟩
  obtain ⟨⟨n0, p0, i1, i2, i3, i4, i5⟩, -, -⟩ := hprog 0 (by omega)
  obtain ⟨⟨n1, p1, j1, j2, j3, j4, j5⟩, -, -⟩ := hprog 1 (by omega)
  have c0 : c 0 = nI u0 := w4
  have c1 : c 1 = nI u1 := w3
  have cp : ∀ i, 2 ≤ i → i < 38 → c i = a i := fun i h1 h2 => by rw [l3 i h1 h2, k3 i h1 h2]
  have E1 : f_X1_endBeat (nI u0) S.1.2.2.2.1 S.1.2.2.2.2.1 = some (nI (u0 / 2), nI ((p0 + 1) % n0)) := by
    rw [hz.2.1, hz.2.2.1, show a (4 + 0) = nI n0 from i4, show a (2 + 0) = nI p0 from i5]
    exact endBeat_ok w2 i3 i2
  have E2 : f_X1_endBeat (nI u1) S.2.1.2.2.2.1 S.2.1.2.2.2.2.1 = some (nI (u1 / 2), nI ((p1 + 1) % n1)) := by
    rw [ho.2.1, ho.2.2.1, show a (4 + 1) = nI n1 from j4, show a (2 + 1) = nI p1 from j5]
    exact endBeat_ok w1 j3 j2
  have B1 : f_X8_beats a = some (upd (upd (upd (upd (upd c 0 (nI (u0 / 2))) 2 (nI ((p0 + 1) % n0))) 1 (nI (u1 / 2))) 3 (nI ((p1 + 1) % n1))) 39 (c 39 + 1)) := by
    unfold f_X8_beats
    rw [show zF = 99997 + 1 + 1 + 1 from rfl, show (0 : Int32) = nI 0 from rfl, L2_step _ (by omega) g0 e0 k1, L2_step _ (by omega) m2 m4 l1, f_X8_beats_L2, if_pos (show (2 : Int32) ≤ nI (0 + 1 + 1) by decide)]
    rw [show zF = 99997 + 1 + 1 + 1 from rfl, show (0 : Int32) = nI 0 from rfl, L34_step _ (by omega) w2 c0 i3 i2 (by rw [cp _ (by omega) (by omega)]; exact i5) (by rw [cp _ (by omega) (by omega)]; exact i4)]
    rw [L34_step (i := 0 + 1) (s := u1) (p := p1) (m := n1) _ (by omega) w1 (by rw [upd_n (by omega), upd_n (by omega)]; exact c1) j3 j2 (by rw [upd_n (by omega), upd_n (by omega), cp _ (by omega) (by omega)]; exact j5) (by rw [upd_n (by omega), upd_n (by omega), cp _ (by omega) (by omega)]; exact j4)]
    rw [f_X8_beats_L34, if_pos (show (2 : Int32) ≤ nI (0 + 1 + 1) by decide)]
    rw [upd_n (show 39 ≠ 2 + (0 + 1) by omega), upd_n (show 39 ≠ 0 + 1 by omega), upd_n (show 39 ≠ 2 + 0 by omega), upd_n (show 39 ≠ 0 by omega)]
  refine ⟨_, (b 38, b 44, b 45, b 0, b 40, b 42, b 1), (c 38, c 44, c 45, c 1, c 41, c 43, c 0), (nI (u0 / 2), nI ((p0 + 1) % n0)), (nI (u1 / 2), nI ((p1 + 1) % n1)), f, f2 - f, B1, ?_, ?_, ?_, ?_, ?_, ?_, ef, by omega, by omega, ?_⟩
  · rw [hfl, htm, hpc, ho.1]; exact k2
  · exact l2
  · show f_X1_endBeat (c 0) _ _ = _
    rw [c0]; exact E1
  · show f_X1_endBeat (c 1) _ _ = _
    rw [c1]; exact E2
  · -- the new row against the new scene
    have d0 : upd (upd (upd (upd (upd c 0 (nI (u0 / 2))) 2 (nI ((p0 + 1) % n0))) 1 (nI (u1 / 2))) 3 (nI ((p1 + 1) % n1))) 39 (c 39 + 1) 0 = nI (u0 / 2) := by
      rw [upd_n (by omega), upd_n (by omega), upd_n (by omega), upd_n (by omega), upd_s]
    have d1 : upd (upd (upd (upd (upd c 0 (nI (u0 / 2))) 2 (nI ((p0 + 1) % n0))) 1 (nI (u1 / 2))) 3 (nI ((p1 + 1) % n1))) 39 (c 39 + 1) 1 = nI (u1 / 2) := by
      rw [upd_n (by omega), upd_n (by omega), upd_s]
    have d2 : upd (upd (upd (upd (upd c 0 (nI (u0 / 2))) 2 (nI ((p0 + 1) % n0))) 1 (nI (u1 / 2))) 3 (nI ((p1 + 1) % n1))) 39 (c 39 + 1) 2 = nI ((p0 + 1) % n0) := by
      rw [upd_n (by omega), upd_n (by omega), upd_n (by omega), upd_s]
    have d3 : upd (upd (upd (upd (upd c 0 (nI (u0 / 2))) 2 (nI ((p0 + 1) % n0))) 1 (nI (u1 / 2))) 3 (nI ((p1 + 1) % n1))) 39 (c 39 + 1) 3 = nI ((p1 + 1) % n1) := by
      rw [upd_n (by omega), upd_s]
    have dn : ∀ i, 4 ≤ i → i ≠ 39 → upd (upd (upd (upd (upd c 0 (nI (u0 / 2))) 2 (nI ((p0 + 1) % n0))) 1 (nI (u1 / 2))) 3 (nI ((p1 + 1) % n1))) 39 (c 39 + 1) i = c i := fun i h1 h2 => by
      rw [upd_n (by omega), upd_n (by omega), upd_n (by omega), upd_n (by omega), upd_n (by omega)]
    have dp : ∀ i, 4 ≤ i → i < 38 → upd (upd (upd (upd (upd c 0 (nI (u0 / 2))) 2 (nI ((p0 + 1) % n0))) 1 (nI (u1 / 2))) 3 (nI ((p1 + 1) % n1))) 39 (c 39 + 1) i = a i := fun i h1 h2 => by rw [dn i h1 (by omega), cp i (by omega) h2]
    generalize upd (upd (upd (upd (upd c 0 (nI (u0 / 2))) 2 (nI ((p0 + 1) % n0))) 1 (nI (u1 / 2))) 3 (nI ((p1 + 1) % n1))) 39 (c 39 + 1) = a' at d0 d1 d2 d3 dn dp
    have q0 := b_pc s0 g0
    have q1 := b_pc s1 g1
    refine ⟨hz.set d0.symm d2.symm ?_ ?_ (dp _ (by omega) (by omega)) (fun k hk => dp _ (by omega) (by omega)) (fun k hk => dp _ (by omega) (by omega)), ho.set d1.symm d3.symm (dn _ (by omega) (by omega)).symm (dn _ (by omega) (by omega)).symm (dp _ (by omega) (by omega)) (fun k hk => dp _ (by omega) (by omega)) (fun k hk => dp _ (by omega) (by omega)), (dn _ (by omega) (by omega)).symm, (dn _ (by omega) (by omega)).symm, (dn _ (by omega) (by omega)).symm, hw.set dp (s0 := u0 / 2) (s1 := u1 / 2) (f := f2) (by omega) (by omega) d0 d1 ((dn _ (by omega) (by omega)).trans w5) (by omega) ?_⟩
    · rw [dn _ (by omega) (by omega)]; exact l5.symm
    · rw [dn _ (by omega) (by omega)]; exact l6.symm
    · intro q hq n p h1 h2 h3 h4 h5
      rcases (show q = 0 ∨ q = 1 by omega) with rfl | rfl
      · have : n0 = n := (nI_eq (by omega) (by omega)).mp (i4.symm.trans h4)
        subst this
        exact ⟨_, Nat.mod_lt _ (by omega), d2⟩
      · have : n1 = n := (nI_eq (by omega) (by omega)).mp (j4.symm.trans h4)
        subst this
        exact ⟨_, Nat.mod_lt _ (by omega), d3⟩
  · rw [upd_s, l4, k4]
  · rw [upd_n (by omega), upd_n (by omega), upd_n (by omega), upd_n (by omega), upd_n (by omega), w5, show f + (f2 - f) = f2 by omega]
