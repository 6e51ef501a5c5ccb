/-! what will be: firstDrop, comesRound, stateBehind -/
theorem kyN_add (P : PG) : ∀ (a b : Nat) (k : KY), kyN P (a + b) k = kyN P b (kyN P a k)
  | 0, b, k => by rw [Nat.zero_add]; rfl
  | a + 1, b, k => by rw [Nat.succ_add]; exact kyN_add P a b (bK P k)
theorem dN_add (P : PG) : ∀ (a b : Nat) (k : KY), dN P (a + b) k = dN P a k + dN P b (kyN P a k)
  | 0, b, k => by rw [Nat.zero_add]; show _ = 0 + _; rw [Nat.zero_add]; rfl
  | a + 1, b, k => by
    rw [Nat.succ_add]
    show dK P k + dN P (a + b) (bK P k) = dK P k + dN P a (bK P k) + dN P b (kyN P a (bK P k))
    rw [dN_add P a b (bK P k), Nat.add_assoc]
theorem kyN_vk {P : PG} : ∀ (n : Nat) {k : KY}, VK P k → VK P (kyN P n k)
  | 0, _, h => h
  | n + 1, _, h => kyN_vk n (bK_ok h).1
theorem dN_pc {P : PG} : ∀ (n : Nat) {k : KY}, VK P k → pcN (kyN P n k).1.1 + pcN (kyN P n k).2.1 + dN P n k = pcN k.1.1 + pcN k.2.1
  | 0, _, _ => rfl
  | n + 1, k, h => by
    have h1 := dN_pc n (bK_ok h).1
    have h2 := (bK_ok h).2
    show pcN (kyN P n (bK P k)).1.1 + pcN (kyN P n (bK P k)).2.1 + (dK P k + dN P n (bK P k)) = _
    omega
theorem round_d {P : PG} {k : KY} {i : Nat} (h : VK P k) (e : kyN P i k = k) : dN P i k = 0 := by
  have := dN_pc i h
  rw [e] at this
  omega
theorem round_mul {P : PG} {k : KY} {i : Nat} (e : kyN P i k = k) : ∀ m, kyN P (m * i) k = k
  | 0 => by rw [Nat.zero_mul]; rfl
  | m + 1 => by rw [Nat.succ_mul, kyN_add, round_mul e m, e]
theorem round_mod {P : PG} {k : KY} {i : Nat} (e : kyN P i k = k) (j : Nat) : kyN P j k = kyN P (j % i) k := by
  have h := Nat.div_add_mod j i
  rw [Nat.mul_comm] at h
  calc kyN P j k = kyN P (j / i * i + j % i) k := by rw [h]
    _ = _ := by rw [kyN_add, round_mul e]
theorem round_all {P : PG} {k : KY} {i : Nat} (h : VK P k) (h1 : 1 ≤ i) (e : kyN P i k = k) (j : Nat) : dK P (kyN P j k) = 0 := by
  rw [round_mod e]
  have hl := Nat.mod_lt j (show i > 0 by omega)
  generalize j % i = t at hl ⊢
  have h0 := round_d h e
  obtain ⟨r, rfl⟩ : ∃ r, i = t + (r + 1) := ⟨i - t - 1, by omega⟩
  rw [dN_add] at h0
  have h2 : dN P (r + 1) (kyN P t k) = dK P (kyN P t k) + dN P r (bK P (kyN P t k)) := rfl
  omega
theorem play_one {S : ST} {P : PG} {k : KY} {f : Nat} (h : WS S P k f) : ∃ S' : ST, f_X4_play S (1 : Int32) = some (nI (dK P k), S') ∧ WS S' P (bK P k) (f + dK P k) := by
  obtain ⟨S', h1, h2, -⟩ := play_ok h (n := 1) (by omega)
  exact ⟨S', h1, h2⟩
theorem kyN_suc (P : PG) (i : Nat) (k : KY) : kyN P (i + 1) k = bK P (kyN P i k) := by
  rw [kyN_add]; rfl
def FD (P : PG) (k : KY) (r : Int32) : Prop := (∃ i, i < 1000 ∧ r = nI i ∧ (∀ j, j < i → dK P (kyN P j k) = 0) ∧ 0 < dK P (kyN P i k)) ∨ (r = -6 ∧ ∀ j, j < 1000 → dK P (kyN P j k) = 0)
theorem dK_le {P : PG} {k : KY} (h : VK P k) : dK P k ≤ 16 := by
  have h1 := (bK_ok h).2
  have h2 : ∀ s, s < 256 → pcN s ≤ 8 := by decide +kernel
  have h3 := h2 _ h.1.1
  have h4 := h2 _ h.2.1
  omega
theorem firstDrop_run (now : ST) (P : PG) (k0 : KY) : ∀ (m i n : Nat) (S : ST) (f : Nat), i + m = 1000 → m < n → WS S P (kyN P i k0) f → (∀ j, j < i → dK P (kyN P j k0) = 0) → ∃ (r : Int32) (ah : ST), f_X7_firstDrop_L13 now n (nI i) S = some (r, ah) ∧ FD P k0 r := by
  intro m
  induction m with
  | zero =>
    intro i n S f h1 h2 h hz
    obtain ⟨g, rfl⟩ : ∃ g, n = g + 1 := ⟨n - 1, by omega⟩
    rw [f_X7_firstDrop_L13, if_pos (show (1000 : Int32) ≤ nI i from nI_le (a := 1000) (by omega) (by omega))]
    exact ⟨_, _, rfl, Or.inr ⟨rfl, fun j hj => hz j (by omega)⟩⟩
  | succ m ih =>
    intro i n S f h1 h2 h hz
    obtain ⟨g, rfl⟩ : ∃ g, n = g + 1 := ⟨n - 1, by omega⟩
    obtain ⟨S', e1, e2⟩ := play_one h
    rw [f_X7_firstDrop_L13, if_neg (show ¬ (1000 : Int32) ≤ nI i from ge_lit (m := 1000) (by omega) (by decide)), e1, Option.bind_some]
    dsimp only
    by_cases hd : dK P (kyN P i k0) = 0
    · rw [hd, if_pos (show nI 0 ≤ 0 by decide), nI_1]
      refine ih (i + 1) g S' _ (by omega) (by omega) (by rw [kyN_suc]; exact e2) (fun j hj => ?_)
      by_cases hji : j = i
      · rw [hji]; exact hd
      · exact hz j (by omega)
    · have hl := dK_le h.vk
      rw [if_neg (nI_nle (by omega) (by omega))]
      exact ⟨_, _, rfl, Or.inl ⟨i, by omega, rfl, hz, by omega⟩⟩
theorem firstDrop_ok {S : ST} {P : PG} {k : KY} {f : Nat} (h : WS S P k f) (ah : ST) : ∃ (r : Int32) (ah' : ST), f_X7_firstDrop S ah = some (r, ah') ∧ FD P k r := by
  obtain ⟨S1, e1, h1⟩ := become4 ah S
  unfold f_X7_firstDrop
  rw [e1, Option.bind_some]
  exact firstDrop_run S P k 1000 0 zF S1 f (by omega) (by unfold zF; omega) (h.eq h1) (fun j hj => by omega)
theorem ky_eq (a b : KY) : a = b ↔ (a.1.1 = b.1.1 ∧ a.1.2 = b.1.2) ∧ a.2.1 = b.2.1 ∧ a.2.2 = b.2.2 := by
  obtain ⟨⟨a1, a2⟩, a3, a4⟩ := a
  obtain ⟨⟨b1, b2⟩, b3, b4⟩ := b
  simp only [Prod.mk.injEq]
theorem like1 {j t : JT} {P : PJ} {s p u q : Nat} (h : Wj j P s p) (g : Wj t P u q) : f_X1_standsLike j.1 j.2.2.2.2.1 t.1 t.2.2.2.2.1 = some (if s = u ∧ p = q then 1 else 0) := by
  obtain ⟨⟨a1, -, a2, a3, -⟩, a4, -, a5, -⟩ := h
  obtain ⟨⟨b1, -, b2, b3, -⟩, b4, -, b5, -⟩ := g
  unfold f_X1_standsLike
  rw [a4, a5, b4, b5]
  by_cases h1 : s = u
  · rw [if_pos (by rw [h1])]
    by_cases h2 : p = q
    · rw [if_pos (by rw [h2]), if_pos ⟨h1, h2⟩]
    · rw [if_neg (fun e => h2 ((nI_eq (by omega) (by omega)).mp e)), if_neg (fun e => h2 e.2)]
  · rw [if_neg (fun e => h1 ((nI_eq (by omega) (by omega)).mp e)), if_neg (fun e => h1 e.1)]
theorem like_ok {S T : ST} {P : PG} {k u : KY} {f g : Nat} (h : WS S P k f) (t : WS T P u g) : f_X4_standsLike S T = some (if k = u then 1 else 0) := by
  unfold f_X4_standsLike
  rw [like1 h.1 t.1, Option.bind_some]
  by_cases h1 : k.1.1 = u.1.1 ∧ k.1.2 = u.1.2
  · rw [if_pos h1, if_neg h10, like1 h.2.1 t.2.1, Option.bind_some]
    by_cases h2 : k.2.1 = u.2.1 ∧ k.2.2 = u.2.2
    · rw [if_pos h2, if_neg h10, if_pos ((ky_eq k u).mpr ⟨h1, h2⟩)]
    · rw [if_neg h2, if_pos rfl, if_neg (fun e => h2 ((ky_eq k u).mp e).2)]
  · rw [if_neg h1, if_pos rfl, if_neg (fun e => h1 ((ky_eq k u).mp e).1)]
def CR (P : PG) (k : KY) (r : Int32) : Prop := (∃ i, 1 ≤ i ∧ i ≤ 1000 ∧ r = nI i ∧ kyN P i k = k ∧ ∀ j, 1 ≤ j → j < i → kyN P j k ≠ k) ∨ (r = -6 ∧ ∀ j, 1 ≤ j → j ≤ 1000 → kyN P j k ≠ k)
theorem comesRound_run (now : ST) (P : PG) (k0 : KY) (f0 : Nat) (hn : WS now P k0 f0) : ∀ (m i n : Nat) (S : ST) (f : Nat), i + m = 1000 → m + 1 < n → WS S P (kyN P i k0) f → (∀ j, 1 ≤ j → j ≤ i → kyN P j k0 ≠ k0) → ∃ (r : Int32) (ah : ST), f_X7_comesRound_L13 now n (nI (i + 1)) S = some (r, ah) ∧ CR P k0 r := by
  intro m
  induction m with
  | zero =>
    intro i n S f h1 h2 h hz
    obtain ⟨g, rfl⟩ : ∃ g, n = g + 1 := ⟨n - 1, by omega⟩
    rw [f_X7_comesRound_L13, if_pos (show (1000 : Int32) < nI (i + 1) from nI_lt (a := 1000) (by omega) (by omega))]
    exact ⟨_, _, rfl, Or.inr ⟨rfl, fun j hj hj2 => hz j hj (by omega)⟩⟩
  | succ m ih =>
    intro i n S f h1 h2 h hz
    obtain ⟨g, rfl⟩ : ∃ g, n = g + 1 := ⟨n - 1, by omega⟩
    obtain ⟨S', e1, e2⟩ := play_one h
    rw [← kyN_suc] at e2
    rw [f_X7_comesRound_L13, if_neg (show ¬ (1000 : Int32) < nI (i + 1) from nI_nlt (a := 1000) (by omega) (by omega)), e1, Option.bind_some]
    dsimp only
    rw [like_ok e2 hn, Option.bind_some]
    by_cases hd : kyN P (i + 1) k0 = k0
    · rw [if_pos hd, if_neg h10]
      exact ⟨_, _, rfl, Or.inl ⟨i + 1, by omega, by omega, rfl, hd, fun j h3 h4 => hz j h3 (by omega)⟩⟩
    · rw [if_neg hd, if_pos rfl, nI_1]
      refine ih (i + 1) g S' _ (by omega) (by omega) e2 (fun j h3 h4 => ?_)
      by_cases hji : j = i + 1
      · rw [hji]; exact hd
      · exact hz j h3 (by omega)
theorem comesRound_ok {S : ST} {P : PG} {k : KY} {f : Nat} (h : WS S P k f) (ah : ST) : ∃ (r : Int32) (ah' : ST), f_X7_comesRound S ah = some (r, ah') ∧ CR P k r := by
  obtain ⟨S1, e1, h1⟩ := become4 ah S
  unfold f_X7_comesRound
  rw [e1, Option.bind_some]
  exact comesRound_run S P k f h 1000 0 zF S1 f (by omega) (by unfold zF; omega) (h.eq h1) (fun j hj hj2 => by omega)
theorem CR.same {P : PG} {k : KY} {r r' : Int32} (h : CR P k r) (g : CR P k r') : r = r' := by
  rcases h with ⟨i, i1, i2, i3, i4, i5⟩ | ⟨i1, i2⟩
  · rcases g with ⟨j, j1, j2, j3, j4, j5⟩ | ⟨j1, j2⟩
    · rcases Nat.lt_trichotomy i j with h | h | h
      · exact absurd i4 (j5 i i1 h)
      · rw [i3, j3, h]
      · exact absurd j4 (i5 j j1 h)
    · exact absurd i4 (j2 i i1 i2)
  · rcases g with ⟨j, j1, j2, j3, j4, j5⟩ | ⟨j1, j2⟩
    · exact absurd j4 (i2 j j1 j2)
    · rw [i1, j1]
theorem isJug0 : f_X7_isJuggler 0 = some 1 := by decide
theorem isJug1 : f_X7_isJuggler 1 = some 1 := by decide
theorem behind0 {S : ST} {P : PG} {k : KY} {f : Nat} (h : WS S P k f) (ah : ST) {n : Nat} (h1 : 1 ≤ n) (h2 : n ≤ 200) : ∃ ah' : ST, f_X7_stateBehind S ah 0 (nI n) = some (nI (kyN P n k).1.1, ah') := by
  obtain ⟨S1, e1, g1⟩ := become4 ah S
  obtain ⟨S2, e2, g2, -⟩ := play_ok (h.eq g1) (n := n) (by omega)
  unfold f_X7_stateBehind
  rw [isJug0, Option.bind_some, if_neg h10, show f_X7_isWithin (nI n) (1 : Int32) (200 : Int32) = some 1 from isWithin_yes (a := 1) (b := 200) h1 h2 (by omega), Option.bind_some, if_neg h10, e1, Option.bind_some, e2, Option.bind_some, if_pos rfl, g2.1.2.1]
  exact ⟨_, rfl⟩
theorem behind1 {S : ST} {P : PG} {k : KY} {f : Nat} (h : WS S P k f) (ah : ST) {n : Nat} (h1 : 1 ≤ n) (h2 : n ≤ 200) : ∃ ah' : ST, f_X7_stateBehind S ah 1 (nI n) = some (nI (kyN P n k).2.1, ah') := by
  obtain ⟨S1, e1, g1⟩ := become4 ah S
  obtain ⟨S2, e2, g2, -⟩ := play_ok (h.eq g1) (n := n) (by omega)
  unfold f_X7_stateBehind
  rw [isJug1, Option.bind_some, if_neg h10, show f_X7_isWithin (nI n) (1 : Int32) (200 : Int32) = some 1 from isWithin_yes (a := 1) (b := 200) h1 h2 (by omega), Option.bind_some, if_neg h10, e1, Option.bind_some, e2, Option.bind_some, if_neg h10, g2.2.1.2.1]
  exact ⟨_, rfl⟩
