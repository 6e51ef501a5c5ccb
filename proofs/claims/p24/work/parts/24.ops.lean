/-! the history's last row; the calls that change, and those that tell -/
def HI (od sz : Int32) : Prop := ∃ o h : Nat, o < 6 ∧ h ≤ 6 ∧ od = nI o ∧ sz = nI h
def HL (rs : Nat → ST) (od sz : Int32) (S : ST) : Prop := ∃ o h : Nat, o < 6 ∧ h < 6 ∧ od = nI o ∧ sz = nI (h + 1) ∧ Seq (rs ((o + h) % 6)) S
theorem HL.hi {rs : Nat → ST} {od sz : Int32} {S : ST} (h : HL rs od sz S) : HI od sz := by
  obtain ⟨o, h, h1, h2, h3, h4, -⟩ := h
  exact ⟨o, h + 1, h1, by omega, h3, h4⟩
theorem record_ok {od sz : Int32} (hH : HI od sz) (rs : Nat → ST) (s : ST) : ∃ R1 : (Nat → ST) × Int32 × Int32, f_X0_record rs od sz s = some R1 ∧ HL R1.1 R1.2.1 R1.2.2 s := by
  obtain ⟨o, h, ho, hh, rfl, rfl⟩ := hH
  by_cases h6 : h = 6
  · subst h6
    obtain ⟨r, e3, g4⟩ := become4 (rs o) s
    refine ⟨(va_up rs o r, nI ((o + 1) % 6), nI 6), ?_, ?_⟩
    · unfold f_X0_record
      have k1 : f_X7_leftOver (nI o + (1 : Int32)) (6 : Int32) = some (nI ((o + 1) % 6)) := by
        rw [nI_1]; exact leftOver_ok 6 (by omega) _ (by omega) (by omega)
      have k2 : f_X7_leftOver ((nI ((o + 1) % 6) + nI 6) - (1 : Int32)) (6 : Int32) = some (nI o) := by
        rw [nI_add, show (o + 1) % 6 + 6 = ((o + 1) % 6 + 5) + 1 by omega, nI_pred]
        have := leftOver_ok 6 (by omega) ((o + 1) % 6 + 5) (by omega) (by omega)
        rw [show ((o + 1) % 6 + 5) % 6 = o by omega] at this
        exact this
      rw [if_pos (show (6 : Int32) ≤ nI 6 by decide), k1, Option.bind_some, k2, Option.bind_some]
      refine (chain6 (fun m => (f_X4_become (rs m) s).bind (fun q => some (va_up rs m q, nI ((o + 1) % 6), nI 6))) o ho).trans ?_
      show (f_X4_become (rs o) s).bind _ = _
      rw [e3]; rfl
    · refine ⟨(o + 1) % 6, 5, by omega, by omega, rfl, rfl, ?_⟩
      rw [show ((o + 1) % 6 + 5) % 6 = o by omega]
      show Seq (va_up rs o r o) s
      rw [show va_up rs o r o = r by simp [va_up]]
      exact g4
  · obtain ⟨r, e3, g4⟩ := become4 (rs ((o + h) % 6)) s
    refine ⟨(va_up rs ((o + h) % 6) r, nI o, nI (h + 1)), ?_, ?_⟩
    · unfold f_X0_record
      have k2 : f_X7_leftOver ((nI o + (nI h + (1 : Int32))) - (1 : Int32)) (6 : Int32) = some (nI ((o + h) % 6)) := by
        rw [nI_1, nI_add, show o + (h + 1) = (o + h) + 1 by omega, nI_pred]
        exact leftOver_ok 6 (by omega) _ (by omega) (by omega)
      rw [if_neg (show ¬ (6 : Int32) ≤ nI h from ge_lit (m := 6) (by omega) (by decide)), k2, Option.bind_some]
      refine (chain6 (fun m => (f_X4_become (rs m) s).bind (fun q => some (va_up rs m q, nI o, nI h + 1))) ((o + h) % 6) (by omega)).trans ?_
      show (f_X4_become (rs ((o + h) % 6)) s).bind _ = _
      rw [e3, nI_1]; rfl
    · refine ⟨o, h, ho, by omega, rfl, rfl, ?_⟩
      show Seq (va_up rs ((o + h) % 6) r ((o + h) % 6)) s
      rw [show va_up rs ((o + h) % 6) r ((o + h) % 6) = r by simp [va_up]]
      exact g4
theorem undo_ok {rs : Nat → ST} {od sz : Int32} {S : ST} (hH : HL rs od sz S) (s : ST) : ∃ R : Int32 × ST × Int32, f_X7_undo s rs od sz = some R ∧ ¬ R.1 < 0 ∧ Seq R.2.1 S ∧ HI od R.2.2 := by
  obtain ⟨o, h, ho, hh, rfl, rfl, hR⟩ := hH
  obtain ⟨r, e3, g4⟩ := become4 s (rs ((o + h) % 6))
  have hq : Seq r S := ⟨⟨g4.1.1.trans hR.1.1, g4.1.2.1.trans hR.1.2.1, fun k hk => (g4.1.2.2 k hk).trans (hR.1.2.2 k hk)⟩, ⟨g4.2.1.1.trans hR.2.1.1, g4.2.1.2.1.trans hR.2.1.2.1, fun k hk => (g4.2.1.2.2 k hk).trans (hR.2.1.2.2 k hk)⟩, g4.2.2.trans hR.2.2⟩
  refine ⟨(nI h, r, nI h), ?_, nI_pos (by omega), hq, o, h, ho, by omega, rfl, rfl⟩
  unfold f_X7_undo f_X0_takeBack
  rw [if_neg (nI_ne0 (by omega) (by omega))]
  have k2 : f_X7_leftOver ((nI o + nI (h + 1)) - (1 : Int32)) (6 : Int32) = some (nI ((o + h) % 6)) := by
    rw [nI_add, show o + (h + 1) = (o + h) + 1 by omega, nI_pred]
    exact leftOver_ok 6 (by omega) _ (by omega) (by omega)
  have k3 := (chain6 (fun m => if nI (h + 1) ≤ 0 then some (nI (h + 1), s) else ((f_X4_become s (rs m)).bind (fun q => some (nI (h + 1) - (1 : Int32), q)))) ((o + h) % 6) (by omega)).trans (show _ = some (nI h, r) from by
    show (if nI (h + 1) ≤ 0 then some (nI (h + 1), s) else ((f_X4_become s (rs ((o + h) % 6))).bind (fun q => some (nI (h + 1) - (1 : Int32), q)))) = _
    rw [if_neg (nI_nle (by omega) (by omega)), e3, nI_pred]; rfl)
  rw [k2, Option.bind_some]
  have k4 := congrArg (fun x => Option.bind x (fun q2 : Int32 × ST => some (q2.1, q2.2, q2.1))) k3
  exact k4
-- what there is
theorem clubs_ok {S : ST} {P : PG} {k : KY} {f : Nat} (h : WS S P k f) : f_X4_clubs S = some (nI (pcN k.1.1 + pcN k.2.1 + f)) := by
  obtain ⟨hz, ho, hf, -⟩ := h
  unfold f_X4_clubs
  rw [hz.2.1, ho.2.1, hf, b_clubs _ hz.1.1, b_clubs _ ho.1.1, Option.bind_some, Option.bind_some, nI_add, nI_add]
section
theorem count0 (S : ST) (len sz : Int32) : f_X7_count S len sz 0 = some S.2.2.2.1 := by unfold f_X7_count; rw [if_pos rfl]
theorem count1 {S : ST} {P : PG} {k : KY} {f : Nat} (h : WS S P k f) (len sz : Int32) : f_X7_count S len sz 1 = some (nI f) := by
  unfold f_X7_count
  rw [if_neg (by decide), if_pos rfl, h.2.2.1]
theorem count2 {S : ST} {P : PG} {k : KY} {f : Nat} (h : WS S P k f) (len sz : Int32) : f_X7_count S len sz 2 = some (nI (pcN k.1.1 + pcN k.2.1 + f)) := by
  unfold f_X7_count
  rw [if_neg (by decide), if_neg (by decide), if_pos rfl, clubs_ok h]; rfl
theorem of00 {S : ST} {P : PG} {k : KY} {f : Nat} (h : WS S P k f) : f_X7_of S 0 0 = some (nI k.1.1) := by
  unfold f_X7_of
  rw [isJug0, Option.bind_some, if_neg h10, if_pos rfl, if_pos rfl, h.1.2.1]
theorem of10 {S : ST} {P : PG} {k : KY} {f : Nat} (h : WS S P k f) : f_X7_of S 1 0 = some (nI k.2.1) := by
  unfold f_X7_of
  rw [isJug1, Option.bind_some, if_neg h10, if_neg h10, if_pos rfl, h.2.1.2.1]
theorem of01 {S : ST} {P : PG} {k : KY} {f : Nat} (h : WS S P k f) : f_X7_of S 0 1 = some (nI (pcN k.1.1)) := by
  unfold f_X7_of
  rw [isJug0, Option.bind_some, if_neg h10, if_pos rfl, if_neg (by decide), if_pos rfl, h.1.2.1, b_clubs _ h.1.1.1]; rfl
theorem of11 {S : ST} {P : PG} {k : KY} {f : Nat} (h : WS S P k f) : f_X7_of S 1 1 = some (nI (pcN k.2.1)) := by
  unfold f_X7_of
  rw [isJug1, Option.bind_some, if_neg h10, if_neg h10, if_neg (by decide), if_pos rfl, h.2.1.2.1, b_clubs _ h.2.1.1.1]; rfl
theorem of02 {S : ST} {P : PG} {k : KY} {f : Nat} (h : WS S P k f) : f_X7_of S 0 2 = some (nI P.1.1) := by
  unfold f_X7_of
  rw [isJug0, Option.bind_some, if_neg h10, if_pos rfl, if_neg (by decide), if_neg (by decide), if_pos rfl, h.1.2.2.1]
theorem of12 {S : ST} {P : PG} {k : KY} {f : Nat} (h : WS S P k f) : f_X7_of S 1 2 = some (nI P.2.1) := by
  unfold f_X7_of
  rw [isJug1, Option.bind_some, if_neg h10, if_neg h10, if_neg (by decide), if_neg (by decide), if_pos rfl, h.2.1.2.2.1]
theorem of03 {S : ST} {P : PG} {k : KY} {f : Nat} (h : WS S P k f) : f_X7_of S 0 3 = some (nI k.1.2) := by
  unfold f_X7_of
  rw [isJug0, Option.bind_some, if_neg h10, if_pos rfl, if_neg (by decide), if_neg (by decide), if_neg (by decide), if_pos rfl, h.1.2.2.2.1]
theorem of13 {S : ST} {P : PG} {k : KY} {f : Nat} (h : WS S P k f) : f_X7_of S 1 3 = some (nI k.2.2) := by
  unfold f_X7_of
  rw [isJug1, Option.bind_some, if_neg h10, if_neg h10, if_neg (by decide), if_neg (by decide), if_neg (by decide), if_pos rfl, h.2.1.2.2.2.1]
theorem of04 (S : ST) : f_X7_of S 0 4 = some S.1.2.2.2.2.2.1 := by
  unfold f_X7_of
  rw [isJug0, Option.bind_some, if_neg h10, if_pos rfl, if_neg (by decide), if_neg (by decide), if_neg (by decide), if_neg (by decide), if_pos rfl]
theorem of05 (S : ST) : f_X7_of S 0 5 = some S.1.2.2.2.2.2.2 := by
  unfold f_X7_of
  rw [isJug0, Option.bind_some, if_neg h10, if_pos rfl, if_neg (by decide), if_neg (by decide), if_neg (by decide), if_neg (by decide), if_neg (by decide), if_pos rfl]
theorem of14 (S : ST) : f_X7_of S 1 4 = some S.2.1.2.2.2.2.2.1 := by
  unfold f_X7_of
  rw [isJug1, Option.bind_some, if_neg h10, if_neg h10, if_neg (by decide), if_neg (by decide), if_neg (by decide), if_neg (by decide), if_pos rfl]
theorem of15 (S : ST) : f_X7_of S 1 5 = some S.2.1.2.2.2.2.2.2 := by
  unfold f_X7_of
  rw [isJug1, Option.bind_some, if_neg h10, if_neg h10, if_neg (by decide), if_neg (by decide), if_neg (by decide), if_neg (by decide), if_neg (by decide), if_pos rfl]
end
-- the changes
theorem pass_ok {S : ST} {P : PG} {k : KY} {f b n : Nat} (h : WS S P k f) (hb : S.2.2.2.1 = nI b) {rs : Nat → ST} {od sz : Int32} (hH : HI od sz) (h1 : 1 ≤ n) (h2 : n ≤ 200) (h3 : b + n ≤ 100000) : ∃ R : Int32 × ST × (Nat → ST) × Int32 × Int32, f_X7_pass S rs od sz (nI n) = some R ∧ R.1 = nI (dN P n k) ∧ WS R.2.1 P (kyN P n k) (f + dN P n k) ∧ R.2.1.2.2.2.1 = nI (b + n) ∧ tot R.2.1 = tot S + nI (dN P n k) ∧ HL R.2.2.1 R.2.2.2.1 R.2.2.2.2 S := by
  obtain ⟨Q, e1, g1⟩ := record_ok hH rs S
  obtain ⟨S', e2, g2, g3, g4⟩ := play_ok h (n := n) (by omega)
  refine ⟨(nI (dN P n k), S', Q.1, Q.2.1, Q.2.2), ?_, rfl, g2, ?_, g4, g1⟩
  · unfold f_X7_pass
    rw [show f_X7_isWithin (nI n) (1 : Int32) (200 : Int32) = some 1 from isWithin_yes (a := 1) (b := 200) h1 h2 (by omega), Option.bind_some, if_neg h10, hb, nI_add, if_pos (show nI (b + n) ≤ (100000 : Int32) from nI_le (b := 100000) h3 (by omega)), e1, Option.bind_some, e2, Option.bind_some]
  · show S'.2.2.2.1 = _
    rw [g3, hb, nI_add]
theorem start_ok {S : ST} {P : PG} {k : KY} {f a b : Nat} (h : WS S P k f) {rs : Nat → ST} {od sz : Int32} (hH : HI od sz) (ha : a ≤ 8) (hb : b ≤ 8) : ∃ R : Int32 × ST × (Nat → ST) × Int32 × Int32, f_X7_start S rs od sz (nI a) (nI b) = some R ∧ R.1 = nI (pcN k.1.1 + pcN k.2.1 + f) ∧ WS R.2.1 P ((2 ^ a - 1, 0), (2 ^ b - 1, 0)) 0 ∧ R.2.1.2.2.2.1 = 0 ∧ HI R.2.2.2.1 R.2.2.2.2 := by
  obtain ⟨Q, e1, g1⟩ := record_ok hH rs S
  obtain ⟨a1, a2, a3⟩ := b_first a (by omega)
  obtain ⟨b1, b2, b3⟩ := b_first b (by omega)
  refine ⟨(nI (pcN k.1.1 + pcN k.2.1 + f), ((nI (2 ^ a - 1), S.1.2.1, S.1.2.2.1, S.1.2.2.2.1, 0, 0, 0), (nI (2 ^ b - 1), S.2.1.2.1, S.2.1.2.2.1, S.2.1.2.2.2.1, 0, 0, 0), 0, 0, 0, 0), Q.1, Q.2.1, Q.2.2), ?_, rfl, ⟨⟨⟨a3, h.1.1.2.1, h.1.1.2.2.1, by have := h.1.1.2.1; show 0 < P.1.1; omega, h.1.1.2.2.2.2⟩, rfl, h.1.2.2.1, rfl, h.1.2.2.2.2⟩, ⟨⟨b3, h.2.1.1.2.1, h.2.1.1.2.2.1, by have := h.2.1.1.2.1; show 0 < P.2.1; omega, h.2.1.1.2.2.2.2⟩, rfl, h.2.1.2.2.1, rfl, h.2.1.2.2.2.2⟩, rfl, ?_⟩, rfl, g1.hi⟩
  · unfold f_X7_start
    rw [show f_X7_isWithin (nI a) (0 : Int32) (8 : Int32) = some 1 from isWithin_yes (a := 0) (b := 8) (by omega) ha (by omega), Option.bind_some, if_neg h10, show f_X7_isWithin (nI b) (0 : Int32) (8 : Int32) = some 1 from isWithin_yes (a := 0) (b := 8) (by omega) hb (by omega), Option.bind_some, if_neg h10, clubs_ok h, Option.bind_some, e1, Option.bind_some]
    unfold f_X4_begin f_X1_begin f_X7_firstBeats
    rw [a1, b1]
    rfl
  · show pcN (2 ^ a - 1) + pcN (2 ^ b - 1) + 0 ≤ 16
    omega
theorem isBeat_ok {t : Nat} (ht : t < 8) : f_X7_isBeat (nI t) = some 1 := by
  unfold f_X7_isBeat
  rw [show f_X7_isWithin (nI t) (0 : Int32) (7 : Int32) = some 1 from isWithin_yes (a := 0) (b := 7) (by omega) (by omega) (by omega)]
  rfl
theorem Wj.st {j : JT} {P : PJ} {s p s' : Nat} (h : Wj j P s p) (hs : s' < 256) : Wj (nI s', j.2.1, j.2.2.1, j.2.2.2.1, j.2.2.2.2.1, j.2.2.2.2.2.1, j.2.2.2.2.2.2) P s' p := ⟨⟨hs, h.1.2⟩, rfl, h.2.2⟩
section
theorem drop0_no {S : ST} {P : PG} {k : KY} {f t : Nat} (h : WS S P k f) (ht : t < 8) (h0 : k.1.1 / 2 ^ t % 2 = 0) (rs : Nat → ST) (od sz : Int32) : f_X7_drop S rs od sz 0 (nI t) = some (-5, S, rs, od, sz) := by
  unfold f_X7_drop
  rw [isJug0, Option.bind_some, if_neg h10, isBeat_ok ht, Option.bind_some, if_neg h10, if_pos rfl, h.1.2.1]
  rcases expects_or h.1.1.1 ht with ⟨a1, a2⟩ | ⟨a1, a2⟩
  · rw [a1]; rfl
  · omega
theorem drop1_no {S : ST} {P : PG} {k : KY} {f t : Nat} (h : WS S P k f) (ht : t < 8) (h0 : k.2.1 / 2 ^ t % 2 = 0) (rs : Nat → ST) (od sz : Int32) : f_X7_drop S rs od sz 1 (nI t) = some (-5, S, rs, od, sz) := by
  unfold f_X7_drop
  rw [isJug1, Option.bind_some, if_neg h10, isBeat_ok ht, Option.bind_some, if_neg h10, if_neg h10, h.2.1.2.1]
  rcases expects_or h.2.1.1.1 ht with ⟨a1, a2⟩ | ⟨a1, a2⟩
  · rw [a1]; rfl
  · omega
theorem drop0_yes {S : ST} {P : PG} {k : KY} {f t : Nat} (h : WS S P k f) {od sz : Int32} (hH : HI od sz) (ht : t < 8) (h1 : k.1.1 / 2 ^ t % 2 = 1) (rs : Nat → ST) : ∃ R : Int32 × ST × (Nat → ST) × Int32 × Int32, f_X7_drop S rs od sz 0 (nI t) = some R ∧ R.1 = nI (f + 1) ∧ WS R.2.1 P ((k.1.1 - 2 ^ t, k.1.2), k.2) (f + 1) ∧ R.2.1.2.2.2.1 = S.2.2.2.1 ∧ HI R.2.2.2.1 R.2.2.2.2 ∧ pcN k.1.1 = pcN (k.1.1 - 2 ^ t) + 1 := by
  obtain ⟨Q, e1, g1⟩ := record_ok hH rs S
  obtain ⟨c1, -, c2, c3⟩ := b_lose t ht _ h.1.1.1 h1
  have hsum := h.2.2.2
  refine ⟨(nI (f + 1), ((nI (k.1.1 - 2 ^ t), S.1.2.1, S.1.2.2.1, S.1.2.2.2.1, S.1.2.2.2.2.1, S.1.2.2.2.2.2.1, S.1.2.2.2.2.2.2), S.2.1, nI (f + 1), S.2.2.2.1, S.2.2.2.2.1, S.2.2.2.2.2), Q.1, Q.2.1, Q.2.2), ?_, rfl, ⟨h.1.st c2, h.2.1, rfl, by show pcN (k.1.1 - 2 ^ t) + pcN k.2.1 + (f + 1) ≤ 16; omega⟩, rfl, g1.hi, c3⟩
  unfold f_X7_drop
  rw [isJug0, Option.bind_some, if_neg h10, isBeat_ok ht, Option.bind_some, if_neg h10, if_pos rfl, h.1.2.1]
  rcases expects_or h.1.1.1 ht with ⟨a1, a2⟩ | ⟨a1, a2⟩
  · omega
  · rw [a1, Option.bind_some, if_neg h10, e1, Option.bind_some, if_pos rfl]
    unfold f_X1_lose
    rw [c1, Option.bind_some, h.2.2.1, nI_1]
theorem drop1_yes {S : ST} {P : PG} {k : KY} {f t : Nat} (h : WS S P k f) {od sz : Int32} (hH : HI od sz) (ht : t < 8) (h1 : k.2.1 / 2 ^ t % 2 = 1) (rs : Nat → ST) : ∃ R : Int32 × ST × (Nat → ST) × Int32 × Int32, f_X7_drop S rs od sz 1 (nI t) = some R ∧ R.1 = nI (f + 1) ∧ WS R.2.1 P (k.1, (k.2.1 - 2 ^ t, k.2.2)) (f + 1) ∧ R.2.1.2.2.2.1 = S.2.2.2.1 ∧ HI R.2.2.2.1 R.2.2.2.2 ∧ pcN k.2.1 = pcN (k.2.1 - 2 ^ t) + 1 := by
  obtain ⟨Q, e1, g1⟩ := record_ok hH rs S
  obtain ⟨c1, -, c2, c3⟩ := b_lose t ht _ h.2.1.1.1 h1
  have hsum := h.2.2.2
  refine ⟨(nI (f + 1), (S.1, (nI (k.2.1 - 2 ^ t), S.2.1.2.1, S.2.1.2.2.1, S.2.1.2.2.2.1, S.2.1.2.2.2.2.1, S.2.1.2.2.2.2.2.1, S.2.1.2.2.2.2.2.2), nI (f + 1), S.2.2.2.1, S.2.2.2.2.1, S.2.2.2.2.2), Q.1, Q.2.1, Q.2.2), ?_, rfl, ⟨h.1, h.2.1.st c2, rfl, by show pcN k.1.1 + pcN (k.2.1 - 2 ^ t) + (f + 1) ≤ 16; omega⟩, rfl, g1.hi, c3⟩
  unfold f_X7_drop
  rw [isJug1, Option.bind_some, if_neg h10, isBeat_ok ht, Option.bind_some, if_neg h10, if_neg h10, h.2.1.2.1]
  rcases expects_or h.2.1.1.1 ht with ⟨a1, a2⟩ | ⟨a1, a2⟩
  · omega
  · rw [a1, Option.bind_some, if_neg h10, e1, Option.bind_some, if_neg h10]
    unfold f_X1_lose
    rw [c1, Option.bind_some, h.2.2.1, nI_1]
theorem pick_f {S : ST} {P : PG} {k : KY} {f t : Nat} (h : WS S P k f) (ht : t < 8) (hf : f = 0) (q : Nat) (hq : q < 2) (rs : Nat → ST) (od sz : Int32) : f_X7_pick S rs od sz (nI q) (nI t) = some (-5, S, rs, od, sz) := by
  unfold f_X7_pick
  rw [show f_X7_isJuggler (nI q) = some 1 by rcases (show q = 0 ∨ q = 1 by omega) with rfl | rfl <;> decide, Option.bind_some, if_neg h10, isBeat_ok ht, Option.bind_some, if_neg h10, h.2.2.1, hf, if_pos (by decide)]
theorem pick0 {S : ST} {P : PG} {k : KY} {f t : Nat} (h : WS S P k f) {od sz : Int32} (hH : HI od sz) (ht : t < 8) (hf : 0 < f) (rs : Nat → ST) : ∃ R : Int32 × ST × (Nat → ST) × Int32 × Int32, f_X7_pick S rs od sz 0 (nI t) = some R ∧ (R.1 = -5 ∨ R.1 = nI (f - 1)) ∧ (∃ (k' : KY) (f' : Nat), WS R.2.1 P k' f' ∧ pcN k'.1.1 + pcN k'.2.1 + f' = pcN k.1.1 + pcN k.2.1 + f) ∧ R.2.1.2.2.2.1 = S.2.2.2.1 ∧ HI R.2.2.2.1 R.2.2.2.2 := by
  obtain ⟨Q, e1, g1⟩ := record_ok hH rs S
  have hsum := h.2.2.2
  unfold f_X7_pick
  rw [isJug0, Option.bind_some, if_neg h10, isBeat_ok ht, Option.bind_some, if_neg h10, h.2.2.1, if_neg (nI_ne0 hf (by omega)), if_pos rfl, h.1.2.1]
  rcases expects_or h.1.1.1 ht with ⟨a1, a2⟩ | ⟨a1, a2⟩
  · obtain ⟨c1, -, c2, c3⟩ := b_or2 t ht _ h.1.1.1 a2
    rw [a1, Option.bind_some, if_pos rfl, e1, Option.bind_some, if_pos rfl]
    unfold f_X1_expect
    rw [c1, Option.bind_some]
    refine ⟨_, rfl, Or.inr (pk_sub hf), ⟨((k.1.1 + 2 ^ t, k.1.2), k.2), f - 1, ⟨h.1.st c2, h.2.1, pk_sub hf, ?_⟩, ?_⟩, rfl, g1.hi⟩
    · show pcN (k.1.1 + 2 ^ t) + pcN k.2.1 + (f - 1) ≤ 16
      omega
    · show pcN (k.1.1 + 2 ^ t) + pcN k.2.1 + (f - 1) = _
      omega
  · rw [a1, Option.bind_some, if_neg h10]
    exact ⟨_, rfl, Or.inl rfl, ⟨k, f, h, rfl⟩, rfl, hH⟩
theorem pick1 {S : ST} {P : PG} {k : KY} {f t : Nat} (h : WS S P k f) {od sz : Int32} (hH : HI od sz) (ht : t < 8) (hf : 0 < f) (rs : Nat → ST) : ∃ R : Int32 × ST × (Nat → ST) × Int32 × Int32, f_X7_pick S rs od sz 1 (nI t) = some R ∧ (R.1 = -5 ∨ R.1 = nI (f - 1)) ∧ (∃ (k' : KY) (f' : Nat), WS R.2.1 P k' f' ∧ pcN k'.1.1 + pcN k'.2.1 + f' = pcN k.1.1 + pcN k.2.1 + f) ∧ R.2.1.2.2.2.1 = S.2.2.2.1 ∧ HI R.2.2.2.1 R.2.2.2.2 := by
  obtain ⟨Q, e1, g1⟩ := record_ok hH rs S
  have hsum := h.2.2.2
  unfold f_X7_pick
  rw [isJug1, Option.bind_some, if_neg h10, isBeat_ok ht, Option.bind_some, if_neg h10, h.2.2.1, if_neg (nI_ne0 hf (by omega)), if_neg h10, h.2.1.2.1]
  rcases expects_or h.2.1.1.1 ht with ⟨a1, a2⟩ | ⟨a1, a2⟩
  · obtain ⟨c1, -, c2, c3⟩ := b_or2 t ht _ h.2.1.1.1 a2
    rw [a1, Option.bind_some, if_pos rfl, e1, Option.bind_some, if_neg h10]
    unfold f_X1_expect
    rw [c1, Option.bind_some]
    refine ⟨_, rfl, Or.inr (pk_sub hf), ⟨(k.1, (k.2.1 + 2 ^ t, k.2.2)), f - 1, ⟨h.1, h.2.1.st c2, pk_sub hf, ?_⟩, ?_⟩, rfl, g1.hi⟩
    · show pcN k.1.1 + pcN (k.2.1 + 2 ^ t) + (f - 1) ≤ 16
      omega
    · show pcN k.1.1 + pcN (k.2.1 + 2 ^ t) + (f - 1) = _
      omega
  · rw [a1, Option.bind_some, if_neg h10]
    exact ⟨_, rfl, Or.inl rfl, ⟨k, f, h, rfl⟩, rfl, hH⟩
end
