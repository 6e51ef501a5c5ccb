/-! isStep answers 1 -/
theorem dN_zero {P : PG} : ∀ (n : Nat) {k : KY}, (∀ j, j < n → dK P (kyN P j k) = 0) → dN P n k = 0
  | 0, _, _ => rfl
  | n + 1, k, h => by
    show dK P k + dN P n (bK P k) = 0
    rw [dN_zero n (k := bK P k) (fun j hj => h (j + 1) (by omega)), show dK P k = 0 from h 0 (by omega)]
theorem dN_pos {P : PG} : ∀ (n : Nat) {k : KY}, dN P n k = 0 → ∀ j, j < n → dK P (kyN P j k) = 0
  | 0, _, _, j, hj => absurd hj (by omega)
  | n + 1, k, h, j, hj => by
    have h1 : dK P k + dN P n (bK P k) = 0 := h
    cases j with
    | zero => show dK P k = 0; omega
    | succ j => exact dN_pos n (k := bK P k) (by omega) j (by omega)
def IV (B : Nat) (S : ST) (len od sz : Int32) : Prop := (∃ (P : PG) (k : KY) (f : Nat), WS S P k f) ∧ (∃ b : Nat, b ≤ B ∧ S.2.2.2.1 = nI b) ∧ (∃ n : Nat, n ≤ 30 ∧ len = nI n) ∧ HI od sz
theorem put_step {ρ : Type} (G : Int32 → (Nat → Int32) → Int32 → Option ρ) {v : Option Int32} {w : Nat} (hw : w < 5) (hv : v = some (nI w)) {codes : Nat → Int32} {n q m : Nat} {H : Nat → Nat} {B : Nat → Bool} (hp : Pd codes n q m H B) (hm : m < 8) {h : Nat} (hh : h < 8) : ∃ (codes' : Nat → Int32) (n' : Nat) (H' : Nat → Nat) (B' : Nat → Bool), Pd codes' n' q (m + 1) H' B' ∧ ((f_X7_put codes (nI n) (((48 : Int32) + nI h).toInt64)).bind (fun q38 => if q38.1 ≤ 0 then (G 0 q38.2.1 q38.2.2) else (if nI h = 0 then (G 1 q38.2.1 q38.2.2) else (v.bind (fun q41 => if 0 < q41 then (G 1 q38.2.1 q38.2.2) else ((f_X7_put q38.2.1 q38.2.2 (112 : Int64)).bind (fun q43 => if q43.1 ≤ 0 then (G 0 q43.2.1 q43.2.2) else (G 1 q43.2.1 q43.2.2)))))))) = G 1 codes' (nI n') := by
  have hn : n ≤ 2 * m + 2 := by rw [hp.2.2.1]; exact (psn_le B m).2
  rw [show (48 : Int32) + nI h = nI (48 + h) from nI_add 48 h, put_ok (by omega) (by omega) (by omega), Option.bind_some]
  dsimp only
  rw [if_neg (nI_nle (by omega) (by omega))]
  by_cases h0 : h = 0
  · rw [if_pos (by rw [h0]; rfl)]
    exact ⟨_, n + 1, _, _, hp.throw hm hh false (fun e => absurd e (by decide)) (fun k hk => upd_n (by omega)) upd_s (fun e => absurd e (by decide)), rfl⟩
  · rw [if_neg (nI_ne0 (by omega) (by omega)), hv, Option.bind_some]
    by_cases w0 : w = 0
    · rw [if_neg (by rw [w0]; decide), show (112 : Int64) = (nI 112).toInt64 by decide, put_ok (by omega) (by omega) (by omega), Option.bind_some]
      dsimp only
      rw [if_neg (nI_nle (by omega) (by omega))]
      exact ⟨_, n + 1 + 1, _, _, hp.throw hm hh true (fun _ => h0) (fun k hk => by rw [upd_n (by omega), upd_n (by omega)]) (by rw [upd_n (by omega), upd_s]) (fun _ => upd_s), rfl⟩
    · rw [if_pos (show (0 : Int32) < nI w from nI_lt (a := 0) (by omega) (by omega))]
      exact ⟨_, n + 1, _, _, hp.throw hm hh false (fun e => absurd e (by decide)) (fun k hk => upd_n (by omega)) upd_s (fun e => absurd e (by decide)), rfl⟩
theorem loop212 {S ah : ST} {rs : Nat → ST} {od sz : Int32} {P : PG} {k : KY} {f b j N sm : Nat} (h : WS S P k f) (hb : S.2.2.2.1 = nI b) (hH : HI od sz) (hN : 1 ≤ N) (hN8 : N ≤ 8) (hs : sm < 8) (x2 x3 : Int32) : ∀ (r m fuel n : Nat) (codes : Nat → Int32) (H : Nat → Nat) (B : Nat → Bool), m + r = N → r < fuel → Pd codes n j m H B → ∃ R : Int32 × ST × ST × (Nat → Int32) × Int32 × (Nat → ST) × Int32 × Int32, f_L_isStep_L212 S ah rs od sz x2 x3 (nI j) (nI (pcN k.1.1 + pcN k.2.1 + f)) (nI N) (nI sm) fuel 1 (nI m) codes (nI n) = some R ∧ R.1 = 1 ∧ IV b R.2.1 R.2.2.2.2.1 R.2.2.2.2.2.2.1 R.2.2.2.2.2.2.2 := by
  intro r
  induction r with
  | zero =>
    intro m fuel n codes H B h1 h2 hp
    obtain ⟨g, rfl⟩ : ∃ g, fuel = g + 1 := ⟨fuel - 1, by omega⟩
    have hmN : m = N := by omega
    subst hmN
    obtain ⟨R, pp, a1, a2, a3, a4, a5, a6, -⟩ := read_ok hp hN h rs hH
    rw [f_L_isStep_L212, if_pos (nI_le (Nat.le_refl _) (by omega)), if_neg h10]
    unfold f_X7_fault
    rw [fault_ok hp hN, Option.bind_some, Option.bind_some, if_pos rfl, a1, Option.bind_some, if_pos a2]
    have hq := hp.1
    rcases (show j = 0 ∨ j = 1 by omega) with rfl | rfl
    · rw [show f_X7_of R.2.1 (nI 0) 2 = some (nI m) from of02 a3, Option.bind_some, if_pos rfl, show f_X7_of R.2.1 (nI 0) 3 = some 0 from of03 a3, Option.bind_some, if_pos rfl, show f_X7_count R.2.1 R.2.2.1 R.2.2.2.2.2 2 = some (nI (pcN k.1.1 + pcN k.2.1 + f)) from count2 a3 _ _, Option.bind_some, if_pos rfl]
      exact ⟨_, rfl, rfl, ⟨_, _, _, a3⟩, ⟨b, Nat.le_refl _, a4.trans hb⟩, ⟨0, by omega, a5⟩, a6⟩
    · rw [show f_X7_of R.2.1 (nI 1) 2 = some (nI m) from of12 a3, Option.bind_some, if_pos rfl, show f_X7_of R.2.1 (nI 1) 3 = some 0 from of13 a3, Option.bind_some, if_pos rfl, show f_X7_count R.2.1 R.2.2.1 R.2.2.2.2.2 2 = some (nI (pcN k.1.1 + pcN k.2.1 + f)) from count2 a3 _ _, Option.bind_some, if_pos rfl]
      exact ⟨_, rfl, rfl, ⟨_, _, _, a3⟩, ⟨b, Nat.le_refl _, a4.trans hb⟩, ⟨0, by omega, a5⟩, a6⟩
  | succ r ih =>
    intro m fuel n codes H B h1 h2 hp
    obtain ⟨g, rfl⟩ : ∃ g, fuel = g + 1 := ⟨fuel - 1, by omega⟩
    rw [f_L_isStep_L212, if_neg (nI_ge (by omega) (by omega))]
    obtain ⟨u, u1, u2⟩ := up_ok (x3 >>> ((7 : Int32) &&& 31)) (m := 3) (by omega) (by omega)
    obtain ⟨t, t1, t2⟩ := up_ok (x2 >>> (((3 : Int32) * nI m) &&& 31)) (m := 8) (by omega) (by omega)
    obtain ⟨w, w1, w2⟩ := up_ok (x2 >>> (nI m &&& 31)) (m := 5) (by omega) (by omega)
    rw [show f_L_up (x3 >>> ((7 : Int32) &&& 31)) (3 : Int32) = _ from u2, Option.bind_some]
    by_cases u0 : u = 0
    · rw [if_pos (by rw [u0]; decide), show f_L_up (x2 >>> (((3 : Int32) * nI m) &&& 31)) (8 : Int32) = _ from t2, Option.bind_some, if_neg h10]
      obtain ⟨c', n', H', B', p1, p2⟩ := put_step (fun i c l => f_L_isStep_L212 S ah rs od sz x2 x3 (nI j) (nI (pcN k.1.1 + pcN k.2.1 + f)) (nI N) (nI sm) g i (nI m + 1) c l) w1 w2 hp (by omega) t1
      obtain ⟨R, r1, r2⟩ := ih (m + 1) g n' c' H' B' (by omega) (by omega) p1
      refine ⟨R, ?_, r2⟩
      refine p2.trans ?_
      rw [nI_1]; exact r1
    · rw [if_neg (nI_nle (by omega) (by omega)), if_neg h10]
      obtain ⟨c', n', H', B', p1, p2⟩ := put_step (fun i c l => f_L_isStep_L212 S ah rs od sz x2 x3 (nI j) (nI (pcN k.1.1 + pcN k.2.1 + f)) (nI N) (nI sm) g i (nI m + 1) c l) w1 w2 hp (by omega) hs
      obtain ⟨R, r1, r2⟩ := ih (m + 1) g n' c' H' B' (by omega) (by omega) p1
      refine ⟨R, ?_, r2⟩
      refine p2.trans ?_
      rw [nI_1]; exact r1
theorem Pd.zero (codes : Nat → Int32) {q : Nat} (hq : q < 2) : Pd (upd (upd codes 0 (nI (48 + q))) 1 (nI 58)) 2 q 0 (fun _ => 0) (fun _ => false) := ⟨hq, by omega, rfl, by rw [upd_n (by omega), upd_s], upd_s, fun j hj => absurd hj (by omega)⟩
theorem step_prog {S ah : ST} {rs : Nat → ST} {od sz : Int32} {P : PG} {k : KY} {f b j l : Nat} (h : WS S P k f) (hb : S.2.2.2.1 = nI b) (hH : HI od sz) (hl : l ≤ 30) (hj : j < 2) (x2 x3 : Int32) (codes : Nat → Int32) (A : Int32 × Int32 → Option (Int32 × ST × ST × (Nat → Int32) × Int32 × (Nat → ST) × Int32 × Int32)) (B C : Int32 × (Nat → Int32) × Int32 → Option (Int32 × ST × ST × (Nat → Int32) × Int32 × (Nat → ST) × Int32 × Int32)) : ∃ R : Int32 × ST × ST × (Nat → Int32) × Int32 × (Nat → ST) × Int32 × Int32, ((f_X7_wipe (nI l)).bind (fun q18 => if q18.1 < 0 then (A q18) else ((f_X7_put codes q18.2 (((48 : Int32) + nI j).toInt64)).bind (fun q53 => if q53.1 ≤ 0 then (B q53) else ((f_X7_put q53.2.1 q53.2.2 (58 : Int64)).bind (fun q57 => if q57.1 ≤ 0 then (C q57) else ((f_L_up (x3 >>> ((1 : Int32) &&& 31)) (8 : Int32)).bind (fun q61 => (f_L_up (x3 >>> ((4 : Int32) &&& 31)) (7 : Int32)).bind (fun q62 => f_L_isStep_L212 S ah rs od sz x2 x3 (nI j) (nI (pcN k.1.1 + pcN k.2.1 + f)) ((1 : Int32) + q61) ((1 : Int32) + q62) zF (1 : Int32) (0 : Int32) q57.2.1 q57.2.2))))))))) = some R ∧ R.1 = 1 ∧ IV b R.2.1 R.2.2.2.2.1 R.2.2.2.2.2.2.1 R.2.2.2.2.2.2.2 := by
  unfold f_X7_wipe f_X2_clear
  rw [Option.bind_some, Option.bind_some]
  dsimp only
  rw [if_neg (nI_pos (by omega)), show (48 : Int32) + nI j = nI (48 + j) from nI_add 48 j, show f_X7_put codes 0 (nI (48 + j)).toInt64 = _ from put_ok (n := 0) (by omega) (by omega) (by omega) codes, Option.bind_some]
  dsimp only
  rw [if_neg (nI_nle (by omega) (by omega)), show (58 : Int64) = (nI 58).toInt64 by decide, put_ok (by omega) (by omega) (by omega), Option.bind_some]
  dsimp only
  rw [if_neg (nI_nle (by omega) (by omega))]
  obtain ⟨u, u1, u2⟩ := up_ok (x3 >>> ((1 : Int32) &&& 31)) (m := 8) (by omega) (by omega)
  obtain ⟨t, t1, t2⟩ := up_ok (x3 >>> ((4 : Int32) &&& 31)) (m := 7) (by omega) (by omega)
  rw [show f_L_up (x3 >>> ((1 : Int32) &&& 31)) (8 : Int32) = _ from u2, Option.bind_some, show f_L_up (x3 >>> ((4 : Int32) &&& 31)) (7 : Int32) = _ from t2, Option.bind_some, show (1 : Int32) + nI u = nI (1 + u) from nI_add 1 u, show (1 : Int32) + nI t = nI (1 + t) from nI_add 1 t]
  exact loop212 h hb hH (by omega) (by omega) (by omega) x2 x3 (1 + u) 0 zF 2 _ _ _ (by omega) (by unfold zF; omega) (Pd.zero codes hj)
theorem IV.mono {B C : Nat} {S : ST} {len od sz : Int32} (h : IV B S len od sz) (hc : B ≤ C) : IV C S len od sz := by
  obtain ⟨h1, ⟨b, h2, h3⟩, h4⟩ := h
  exact ⟨h1, ⟨b, by omega, h3⟩, h4⟩
set_option maxHeartbeats 2000000 in
theorem st_isStep {Bd : Nat} {S : ST} {len od sz : Int32} (hI : IV Bd S len od sz) (hB : Bd ≤ 90000) (ah : ST) (codes : Nat → Int32) (rs : Nat → ST) (p1 p2 : Int32) : ∃ R : Int32 × ST × ST × (Nat → Int32) × Int32 × (Nat → ST) × Int32 × Int32, f_L_isStep S ah codes len rs od sz p1 p2 = some R ∧ R.1 = 1 ∧ IV (Bd + 20) R.2.1 R.2.2.2.2.1 R.2.2.2.2.2.2.1 R.2.2.2.2.2.2.2 := by
  obtain ⟨⟨P, k, f, h⟩, ⟨b, hb1, hb⟩, ⟨l, hl, rfl⟩, hH⟩ := hI
  have hsum := h.2.2.2
  obtain ⟨j, j1, j2⟩ := up_ok (p1 >>> ((4 : Int32) &&& 31)) (m := 2) (by omega) (by omega)
  obtain ⟨w, w1, w2⟩ := up_ok p1 (m := 9) (by omega) (by omega)
  have prog := fun A B C => step_prog (ah := ah) (rs := rs) h hb hH hl j1 p2 (p1 >>> ((4 : Int32) &&& 31)) codes A B C
  unfold f_L_isStep
  rw [show f_L_up (p1 >>> ((4 : Int32) &&& 31)) (2 : Int32) = _ from j2, Option.bind_some, count2 h, Option.bind_some, show f_L_up p1 (9 : Int32) = _ from w2, Option.bind_some]
  by_cases c0 : w = 0
  · rw [if_pos (by rw [c0]; rfl)]
    obtain ⟨x, x1, x2⟩ := up_ok (p1 >>> ((4 : Int32) &&& 31)) (m := 9) (by omega) (by omega)
    obtain ⟨y, y1, y2⟩ := up_ok ((p1 >>> ((4 : Int32) &&& 31)) >>> ((4 : Int32) &&& 31)) (m := 9) (by omega) (by omega)
    obtain ⟨R, a1, a2, a3, a4, a5⟩ := start_ok h (rs := rs) hH (a := x) (b := y) (by omega) (by omega)
    obtain ⟨bx1, bx2, -⟩ := b_first x (by omega)
    obtain ⟨by1, by2, -⟩ := b_first y (by omega)
    rw [show f_L_up (p1 >>> ((4 : Int32) &&& 31)) (9 : Int32) = _ from x2, Option.bind_some, show f_L_up ((p1 >>> ((4 : Int32) &&& 31)) >>> ((4 : Int32) &&& 31)) (9 : Int32) = _ from y2, Option.bind_some, a1, Option.bind_some, if_pos a2, count2 a3, Option.bind_some]
    dsimp only
    rw [bx2, by2, nI_add, Nat.add_zero, if_pos rfl, of00 a3, Option.bind_some]
    dsimp only
    rw [bx1, if_pos rfl, of11 a3, Option.bind_some]
    dsimp only
    rw [by2, if_pos rfl, count0, Option.bind_some, if_pos a4]
    exact ⟨_, rfl, rfl, ⟨_, _, _, a3⟩, ⟨0, by omega, a4⟩, ⟨l, hl, rfl⟩, a5⟩
  rw [if_neg (show ¬ nI w = (0 : Int32) from nI_ne0 (by omega) (by omega))]
  by_cases c1 : w = 1
  · rw [if_pos (by rw [c1]; rfl)]
    obtain ⟨R, r1, r2, r3⟩ := prog _ _ _
    exact ⟨R, r1, r2, r3.mono (by omega)⟩
  rw [if_neg (show ¬ nI w = (1 : Int32) from nI_ne (b := 1) c1 (by omega) (by omega))]
  by_cases c2 : w = 2
  · rw [if_pos (by rw [c2]; rfl)]
    obtain ⟨R, r1, r2, r3⟩ := prog _ _ _
    exact ⟨R, r1, r2, r3.mono (by omega)⟩
  rw [if_neg (show ¬ nI w = (2 : Int32) from nI_ne (b := 2) c2 (by omega) (by omega))]
  by_cases c3 : w = 3
  · rw [if_pos (by rw [c3]; rfl)]
    obtain ⟨R, r1, r2, r3⟩ := prog _ _ _
    exact ⟨R, r1, r2, r3.mono (by omega)⟩
  rw [if_neg (show ¬ nI w = (3 : Int32) from nI_ne (b := 3) c3 (by omega) (by omega))]
  by_cases c4 : w = 4
  · rw [if_pos (by rw [c4]; rfl)]
    obtain ⟨t, t1, t2⟩ := up_ok ((p1 >>> ((4 : Int32) &&& 31)) >>> ((1 : Int32) &&& 31)) (m := 8) (by omega) (by omega)
    rw [show f_L_up ((p1 >>> ((4 : Int32) &&& 31)) >>> ((1 : Int32) &&& 31)) (8 : Int32) = _ from t2, Option.bind_some]
    rcases (show j = 0 ∨ j = 1 by omega) with rfl | rfl
    · rcases mod2 (k.1.1 / 2 ^ t) with m0 | m1
      · rw [show f_X7_drop S rs od sz (nI 0) (nI t) = _ from drop0_no h t1 m0 rs od sz, Option.bind_some, if_neg (show ¬ (-5 : Int32) = 0 by decide), count2 h, Option.bind_some, if_pos rfl]
        exact ⟨_, rfl, rfl, ⟨_, _, _, h⟩, ⟨b, by omega, hb⟩, ⟨l, hl, rfl⟩, hH⟩
      · obtain ⟨R, a1, a2, a3, a4, a5, a6⟩ := drop0_yes h hH t1 m1 rs
        rw [show f_X7_drop S rs od sz (nI 0) (nI t) = _ from a1, Option.bind_some, if_neg (by rw [a2]; exact nI_ne0 (by omega) (by omega)), count2 a3, Option.bind_some]
        dsimp only
        rw [show pcN (k.1.1 - 2 ^ t) + pcN k.2.1 + (f + 1) = pcN k.1.1 + pcN k.2.1 + f by omega, if_pos rfl]
        exact ⟨_, rfl, rfl, ⟨_, _, _, a3⟩, ⟨b, by omega, a4.trans hb⟩, ⟨l, hl, rfl⟩, a5⟩
    · rcases mod2 (k.2.1 / 2 ^ t) with m0 | m1
      · rw [show f_X7_drop S rs od sz (nI 1) (nI t) = _ from drop1_no h t1 m0 rs od sz, Option.bind_some, if_neg (show ¬ (-5 : Int32) = 0 by decide), count2 h, Option.bind_some, if_pos rfl]
        exact ⟨_, rfl, rfl, ⟨_, _, _, h⟩, ⟨b, by omega, hb⟩, ⟨l, hl, rfl⟩, hH⟩
      · obtain ⟨R, a1, a2, a3, a4, a5, a6⟩ := drop1_yes h hH t1 m1 rs
        rw [show f_X7_drop S rs od sz (nI 1) (nI t) = _ from a1, Option.bind_some, if_neg (by rw [a2]; exact nI_ne0 (by omega) (by omega)), count2 a3, Option.bind_some]
        dsimp only
        rw [show pcN k.1.1 + pcN (k.2.1 - 2 ^ t) + (f + 1) = pcN k.1.1 + pcN k.2.1 + f by omega, if_pos rfl]
        exact ⟨_, rfl, rfl, ⟨_, _, _, a3⟩, ⟨b, by omega, a4.trans hb⟩, ⟨l, hl, rfl⟩, a5⟩
  rw [if_neg (show ¬ nI w = (4 : Int32) from nI_ne (b := 4) c4 (by omega) (by omega))]
  by_cases c5 : w = 5
  · rw [if_pos (by rw [c5]; rfl)]
    obtain ⟨t, t1, t2⟩ := up_ok ((p1 >>> ((4 : Int32) &&& 31)) >>> ((1 : Int32) &&& 31)) (m := 8) (by omega) (by omega)
    rw [show f_L_up ((p1 >>> ((4 : Int32) &&& 31)) >>> ((1 : Int32) &&& 31)) (8 : Int32) = _ from t2, Option.bind_some]
    by_cases f0 : f = 0
    · rw [pick_f h t1 f0 j j1, Option.bind_some, count2 h, Option.bind_some, if_neg (show ¬ nI (pcN k.1.1 + pcN k.2.1 + f) < (-5 : Int32) from fun hc => nI_pos (n := pcN k.1.1 + pcN k.2.1 + f) (by omega) (Int32.lt_trans hc (by decide))), Option.bind_some, if_pos rfl]
      exact ⟨_, rfl, rfl, ⟨_, _, _, h⟩, ⟨b, by omega, hb⟩, ⟨l, hl, rfl⟩, hH⟩
    · have hk : ∃ R : Int32 × ST × (Nat → ST) × Int32 × Int32, f_X7_pick S rs od sz (nI j) (nI t) = some R ∧ (R.1 = -5 ∨ R.1 = nI (f - 1)) ∧ (∃ (k' : KY) (f' : Nat), WS R.2.1 P k' f' ∧ pcN k'.1.1 + pcN k'.2.1 + f' = pcN k.1.1 + pcN k.2.1 + f) ∧ R.2.1.2.2.2.1 = S.2.2.2.1 ∧ HI R.2.2.2.1 R.2.2.2.2 := by
        rcases (show j = 0 ∨ j = 1 by omega) with rfl | rfl
        · exact pick0 h hH t1 (by omega) rs
        · exact pick1 h hH t1 (by omega) rs
      obtain ⟨R, a1, a2, ⟨k', f', a3, a3s⟩, a4, a5⟩ := hk
      have hlt : ¬ nI (pcN k.1.1 + pcN k.2.1 + f) < R.1 := by
        rcases a2 with a2 | a2
        · rw [a2]; exact fun hc => nI_pos (n := pcN k.1.1 + pcN k.2.1 + f) (by omega) (Int32.lt_trans hc (by decide))
        · rw [a2]; exact nI_nlt (by omega) (by omega)
      rw [a1, Option.bind_some, count2 a3, Option.bind_some, a3s, if_neg hlt, Option.bind_some, if_pos rfl]
      exact ⟨_, rfl, rfl, ⟨_, _, _, a3⟩, ⟨b, by omega, a4.trans hb⟩, ⟨l, hl, rfl⟩, a5⟩
  rw [if_neg (show ¬ nI w = (5 : Int32) from nI_ne (b := 5) c5 (by omega) (by omega))]
  obtain ⟨u, u1, u2⟩ := up_ok (p1 >>> ((4 : Int32) &&& 31)) (m := 20) (by omega) (by omega)
  obtain ⟨d, ah1, e1, g1⟩ := firstDrop_ok h ah
  obtain ⟨ah2, e2⟩ := behind0 h ah1 (n := 1 + u) (by omega) (by omega)
  obtain ⟨ah3, e3⟩ := behind1 h ah2 (n := 1 + u) (by omega) (by omega)
  obtain ⟨R, e4, q1, q2, q3, q4, q5⟩ := pass_ok h hb (rs := rs) hH (n := 1 + u) (by omega) (by omega) (by omega)
  have hc := dN_pc (1 + u) h.vk
  have hs2 := q2.2.2.2
  have ht : R.2.1.1.2.2.2.2.2.1 + R.2.1.1.2.2.2.2.2.2 + R.2.1.2.1.2.2.2.2.2.1 + R.2.1.2.1.2.2.2.2.2.2 = S.1.2.2.2.2.2.1 + S.1.2.2.2.2.2.2 + S.2.1.2.2.2.2.2.1 + S.2.1.2.2.2.2.2.2 + R.1 := by rw [q1]; exact q4
  rw [show f_L_up (p1 >>> ((4 : Int32) &&& 31)) (20 : Int32) = _ from u2, Option.bind_some, count1 h, Option.bind_some, of04, Option.bind_some, of05, Option.bind_some, of14, Option.bind_some, of15, Option.bind_some, e1, Option.bind_some]
  dsimp only
  rw [show (1 : Int32) + nI u = nI (1 + u) from nI_add 1 u, e2, Option.bind_some]
  dsimp only
  rw [e3, Option.bind_some, e4, Option.bind_some, count1 q2, Option.bind_some]
  dsimp only
  rw [if_pos (show nI (f + dN P (1 + u) k) = nI f + R.1 by rw [q1, nI_add]), of04, Option.bind_some, of05, Option.bind_some, of14, Option.bind_some, of15, Option.bind_some, if_pos ht, of00 q2, Option.bind_some, if_pos rfl, of10 q2, Option.bind_some, if_pos rfl, count2 q2, Option.bind_some, if_pos (show nI (pcN (kyN P (1 + u) k).1.1 + pcN (kyN P (1 + u) k).2.1 + (f + dN P (1 + u) k)) = nI (pcN k.1.1 + pcN k.2.1 + f) by rw [show pcN (kyN P (1 + u) k).1.1 + pcN (kyN P (1 + u) k).2.1 + (f + dN P (1 + u) k) = pcN k.1.1 + pcN k.2.1 + f by omega])]
  have fin : IV (Bd + 20) R.2.1 (nI l) R.2.2.2.1 R.2.2.2.2 := ⟨⟨_, _, _, q2⟩, ⟨b + (1 + u), by omega, q3⟩, ⟨l, hl, rfl⟩, q5.hi⟩
  by_cases d0 : dN P (1 + u) k = 0
  · rw [if_pos (by rw [q1, d0]; decide)]
    rcases g1 with ⟨i, i1, i2, i3, i4⟩ | ⟨i1, i2⟩
    · rw [i2, if_neg (nI_pos (by omega)), if_pos (nI_le (by
        apply Classical.byContradiction
        intro hx
        have := dN_pos (1 + u) d0 i (by omega)
        omega) (by omega))]
      exact ⟨_, rfl, rfl, fin⟩
    · rw [i1, if_pos (by decide)]
      exact ⟨_, rfl, rfl, fin⟩
  · rw [if_neg (by rw [q1]; exact nI_nle (by omega) (by omega))]
    rcases g1 with ⟨i, i1, i2, i3, i4⟩ | ⟨i1, i2⟩
    · rw [i2, if_neg (nI_pos (by omega)), if_neg (nI_ge (by
        apply Classical.byContradiction
        intro hx
        exact d0 (dN_zero (1 + u) (fun j hj => i3 j (by omega)))) (by omega))]
      exact ⟨_, rfl, rfl, fin⟩
    · exact absurd (dN_zero (1 + u) (fun j hj => i2 j (by omega))) d0
