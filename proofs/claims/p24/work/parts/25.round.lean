/-! isRound answers 1 -/
theorem pc_zero : ∀ s, s < 256 → pcN s = 0 → s = 0 := by decide +kernel
theorem tailR {α : Type} {S : ST} {P : PG} {k : KY} {f : Nat} (h : WS S P k f) (len sz : Int32) (X Y : Option α) : ((f_X7_count S len sz (2 : Int32)).bind (fun q21 => (f_X7_count S len sz (1 : Int32)).bind (fun q22 => if q22 < q21 then X else ((f_X7_of S (0 : Int32) (0 : Int32)).bind (fun q24 => (f_X7_of S (1 : Int32) (0 : Int32)).bind (fun q25 => if (q24 + q25) = 0 then X else Y)))))) = X := by
  have hsum := h.2.2.2
  rw [count2 h, Option.bind_some, count1 h, Option.bind_some]
  by_cases hp : pcN k.1.1 + pcN k.2.1 = 0
  · have z0 := pc_zero _ h.1.1.1 (by omega)
    have z1 := pc_zero _ h.2.1.1.1 (by omega)
    rw [if_neg (nI_nlt (by omega) (by omega)), of00 h, Option.bind_some, of10 h, Option.bind_some, z0, z1, if_pos (by decide)]
  · rw [if_pos (nI_lt (by omega) (by omega))]
theorem st_isRound {S : ST} {P : PG} {k : KY} {f b : Nat} (h : WS S P k f) (hb : S.2.2.2.1 = nI b) (hb2 : b ≤ 99000) {od sz : Int32} (hH : HI od sz) (ah : ST) (len : Int32) (rs : Nat → ST) : ∃ R : Int32 × ST × ST × (Nat → ST) × Int32 × Int32, f_L_isRound S ah len rs od sz = some R ∧ R.1 = 1 ∧ WS R.2.1 P k f ∧ R.2.1.2.2.2.1 = nI b ∧ HI R.2.2.2.2.1 R.2.2.2.2.2 := by
  obtain ⟨r, ah1, e1, g1⟩ := comesRound_ok h ah
  obtain ⟨d, ah2, e2, g2⟩ := firstDrop_ok h ah1
  unfold f_L_isRound
  rw [e1, Option.bind_some, e2, Option.bind_some]
  dsimp only
  rcases id g1 with ⟨i, i1, i2, rfl, i4, i5⟩ | ⟨rfl, -⟩
  · have hd : d = -6 := by
      rcases g2 with ⟨t, -, -, -, t4⟩ | ⟨t1, -⟩
      · have := round_all h.vk i1 i4 t
        omega
      · exact t1
    subst hd
    rw [if_pos (nI_pos' (by omega)), if_pos rfl, if_neg (show ¬ nI i < (1 : Int32) from nI_nlt (b := 1) i1 (by omega)), if_neg (show ¬ (1000 : Int32) < nI i from nI_nlt (a := 1000) i2 (by omega))]
    by_cases h100 : 100 < i
    · rw [if_pos (show (100 : Int32) < nI i from nI_lt (a := 100) h100 (by omega)), tailR h]
      exact ⟨_, rfl, rfl, h, hb, hH⟩
    · rw [if_neg (show ¬ (100 : Int32) < nI i from nI_nlt (a := 100) (by omega) (by omega))]
      have m2 : (2 : Int32) * nI i = nI (2 * i) := pk_mul 2 i
      have k2 : kyN P (2 * i) k = k := round_mul i4 2
      obtain ⟨ah3, e3⟩ := behind0 h ah2 (n := i) i1 (by omega)
      obtain ⟨ah4, e4⟩ := behind1 h ah3 (n := 2 * i) (by omega) (by omega)
      obtain ⟨R, e5, p1, p2, p3, -, p5⟩ := pass_ok h hb (rs := rs) hH (n := 2 * i) (by omega) (by omega) (by omega)
      have d2 : dN P (2 * i) k = 0 := round_d h.vk k2
      rw [d2] at p1 p2
      rw [k2] at p2
      obtain ⟨r2, ah5, e6, g6⟩ := comesRound_ok p2 ah4
      have hr := g1.same g6
      subst hr
      obtain ⟨U, e7, u1, u2, u3⟩ := undo_ok p5 R.2.1
      have hU : WS U.2.1 P k f := h.eq u2
      have hUb : U.2.1.2.2.2.1 = nI b := by rw [u2.2.2]; exact hb
      rw [e3, Option.bind_some, of00 h, Option.bind_some]
      dsimp only
      rw [i4, if_pos rfl, m2, e4, Option.bind_some, of10 h, Option.bind_some]
      dsimp only
      rw [k2, if_pos rfl, e5, Option.bind_some, p1, if_pos (by decide), e6, Option.bind_some]
      dsimp only
      rw [if_pos rfl, e7, Option.bind_some, if_neg u1, tailR hU]
      exact ⟨_, rfl, rfl, hU, hUb, u3⟩
  · rw [if_neg (by decide), if_pos rfl]
    exact ⟨_, rfl, rfl, h, hb, hH⟩
