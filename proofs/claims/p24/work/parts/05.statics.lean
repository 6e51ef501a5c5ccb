def f_X7_isWithin (p0 : Int32) (p1 : Int32) (p2 : Int32) : Option (Int32) := if p0 < p1 then (some (0 : Int32)) else (if p2 < p0 then (some (0 : Int32)) else (some (1 : Int32)))
set_option maxHeartbeats 4000000 in
set_option maxRecDepth 100000 in
theorem c_X7_isWithin (l : Launch) (D : va_G) (cI cR : ClassId) (p0 : Int32) (p1 : Int32) (p2 : Int32) {R : Int32} (hf : f_X7_isWithin p0 p1 p2 = some R) : zM l D cI cR yX7_isWithin cX7_isWithin 3 (some .boolean) 0 0 [.int p0, .int p1, .int p2] [] (some (.int R)) [] := by
  refine z_of (own := RX7) rfl (by decide) (Nat.le_of_ble_eq_true rfl) ?_
  intro p e s m args below meth c A ls X hr hlocks Z hl
  have hx := X.1.1
  have hb := X.1.2.1
  have Z : zW D A s [] s.heap [] := Z
  have hl : lv_has ls 3 [(0, .int p0), (1, .int p1), (2, .int p2)] := hl
  refine lv_iload_n hx hb dX7_isWithin_0 rfl (lv_at hl 0 rfl) ?_
  refine lv_iload_n hx hb dX7_isWithin_1 rfl (lv_at hl 1 rfl) ?_
  refine lv_icmp_lt (tgt := 14) hx hb dX7_isWithin_2 (by decide) (fun c1 => ?_) (fun c1 => ?_)
  · have hf := it_t c1 hf
    refine lv_iconst (v := 0) hx hb dX7_isWithin_14 (by decide) ?_
    have hR := so_s hf
    subst hR
    refine z_zret X hr hlocks (Or.inl rfl) ?_ dX7_isWithin_15
    exact Z.eq rfl
  · have hf := it_f c1 hf
    refine lv_iload_n hx hb dX7_isWithin_5 rfl (lv_at hl 0 rfl) ?_
    refine lv_iload_n hx hb dX7_isWithin_6 rfl (lv_at hl 2 rfl) ?_
    refine lv_icmp_gt (tgt := 14) hx hb dX7_isWithin_7 (by decide) (fun c2 => ?_) (fun c2 => ?_)
    · have hf := it_t c2 hf
      refine lv_iconst (v := 0) hx hb dX7_isWithin_14 (by decide) ?_
      have hR := so_s hf
      subst hR
      refine z_zret X hr hlocks (Or.inl rfl) ?_ dX7_isWithin_15
      exact Z.eq rfl
    · have hf := it_f c2 hf
      refine lv_iconst (v := 1) hx hb dX7_isWithin_10 (by decide) ?_
      refine lv_goto (tgt := 15) hx hb dX7_isWithin_11 (by decide) ?_
      have hR := so_s hf
      subst hR
      refine z_zret X hr hlocks (Or.inr rfl) ?_ dX7_isWithin_15
      exact Z.eq rfl
theorem b_X7_isWithin {p0 : Int32} {p1 : Int32} {p2 : Int32} {R : Int32} (hf : f_X7_isWithin p0 p1 p2 = some R) : R = 0 ∨ R = 1 := by
  rcases Decidable.em (p0 < p1) with c1 | c1
  · have hf := it_t c1 hf
    have hR := so_s hf
    subst hR
    exact (Or.inl rfl)
  · have hf := it_f c1 hf
    rcases Decidable.em (p2 < p0) with c2 | c2
    · have hf := it_t c2 hf
      have hR := so_s hf
      subst hR
      exact (Or.inl rfl)
    · have hf := it_f c2 hf
      have hR := so_s hf
      subst hR
      exact (Or.inr rfl)
def f_X7_isJuggler (p0 : Int32) : Option (Int32) := (f_X7_isWithin p0 (0 : Int32) (1 : Int32)).bind (fun q1 => some q1)
set_option maxHeartbeats 4000000 in
set_option maxRecDepth 100000 in
theorem c_X7_isJuggler (l : Launch) (D : va_G) (cI cR : ClassId) (p0 : Int32) {R : Int32} (hf : f_X7_isJuggler p0 = some R) : zM l D cI cR yX7_isJuggler cX7_isJuggler 1 (some .boolean) 1 22 [.int p0] [] (some (.int R)) [] := by
  refine z_of (own := RX7) rfl (by decide) (Nat.le_of_ble_eq_true rfl) ?_
  intro p e s m args below meth c A ls X hr hlocks Z hl
  have hx := X.1.1
  have hb := X.1.2.1
  have Z : zW D A s [] s.heap [] := Z
  have hl : lv_has ls 1 [(0, .int p0)] := hl
  refine lv_iload_n hx hb dX7_isJuggler_0 rfl (lv_at hl 0 rfl) ?_
  refine lv_iconst (v := 0) hx hb dX7_isJuggler_1 (by decide) ?_
  refine lv_iconst (v := 1) hx hb dX7_isJuggler_2 (by decide) ?_
  obtain ⟨q1, hq1, hf⟩ := ob_s hf
  refine z_roS X Z (c_X7_isWithin l D cI cR   p0 (0 : Int32) (1 : Int32) hq1) (zw_X7_57 X.1.2.2.2.2 ⟨Nat.le_of_ble_eq_true rfl, Nat.le_of_ble_eq_true rfl⟩) [] [] (by decide : ([] ++ [] : List Nat).Perm (List.range 0)) rfl rfl hl.1 rfl (Nat.le_of_ble_eq_true rfl) dX7_isJuggler_3 ⟨Nat.le_of_ble_eq_true rfl, Nat.le_of_ble_eq_true rfl⟩ (fun H locs Z => ?_)
  have hR := so_s hf
  subst hR
  refine z_zret X hr hlocks (b_X7_isWithin hq1) ?_ dX7_isJuggler_6
  exact Z.eq rfl
theorem b_X7_isJuggler {p0 : Int32} {R : Int32} (hf : f_X7_isJuggler p0 = some R) : R = 0 ∨ R = 1 := by
  obtain ⟨q1, hq1, hf⟩ := ob_s hf
  have hR := so_s hf
  subst hR
  exact (b_X7_isWithin hq1)
def f_X7_isBeat (p0 : Int32) : Option (Int32) := (f_X7_isWithin p0 (0 : Int32) (7 : Int32)).bind (fun q1 => some q1)
set_option maxHeartbeats 4000000 in
set_option maxRecDepth 100000 in
theorem c_X7_isBeat (l : Launch) (D : va_G) (cI cR : ClassId) (p0 : Int32) {R : Int32} (hf : f_X7_isBeat p0 = some R) : zM l D cI cR yX7_isBeat cX7_isBeat 1 (some .boolean) 1 22 [.int p0] [] (some (.int R)) [] := by
  refine z_of (own := RX7) rfl (by decide) (Nat.le_of_ble_eq_true rfl) ?_
  intro p e s m args below meth c A ls X hr hlocks Z hl
  have hx := X.1.1
  have hb := X.1.2.1
  have Z : zW D A s [] s.heap [] := Z
  have hl : lv_has ls 1 [(0, .int p0)] := hl
  refine lv_iload_n hx hb dX7_isBeat_0 rfl (lv_at hl 0 rfl) ?_
  refine lv_iconst (v := 0) hx hb dX7_isBeat_1 (by decide) ?_
  refine lv_bipush (v := 7) hx hb dX7_isBeat_2 (by decide) ?_
  obtain ⟨q1, hq1, hf⟩ := ob_s hf
  refine z_roS X Z (c_X7_isWithin l D cI cR   p0 (0 : Int32) (7 : Int32) hq1) (zw_X7_57 X.1.2.2.2.2 ⟨Nat.le_of_ble_eq_true rfl, Nat.le_of_ble_eq_true rfl⟩) [] [] (by decide : ([] ++ [] : List Nat).Perm (List.range 0)) rfl rfl hl.1 rfl (Nat.le_of_ble_eq_true rfl) dX7_isBeat_4 ⟨Nat.le_of_ble_eq_true rfl, Nat.le_of_ble_eq_true rfl⟩ (fun H locs Z => ?_)
  have hR := so_s hf
  subst hR
  refine z_zret X hr hlocks (b_X7_isWithin hq1) ?_ dX7_isBeat_7
  exact Z.eq rfl
theorem b_X7_isBeat {p0 : Int32} {R : Int32} (hf : f_X7_isBeat p0 = some R) : R = 0 ∨ R = 1 := by
  obtain ⟨q1, hq1, hf⟩ := ob_s hf
  have hR := so_s hf
  subst hR
  exact (b_X7_isWithin hq1)
def f_X7_oneIf (p0 : Int32) : Option (Int32) := if p0 = 0 then (some (0 : Int32)) else (some (1 : Int32))
set_option maxHeartbeats 4000000 in
set_option maxRecDepth 100000 in
theorem c_X7_oneIf (l : Launch) (D : va_G) (cI cR : ClassId) (p0 : Int32) {R : Int32} (hf : f_X7_oneIf p0 = some R) : zM l D cI cR yX7_oneIf cX7_oneIf 1 (some .int) 0 0 [.int p0] [] (some (.int R)) [] := by
  refine z_of (own := RX7) rfl (by decide) (Nat.le_of_ble_eq_true rfl) ?_
  intro p e s m args below meth c A ls X hr hlocks Z hl
  have hx := X.1.1
  have hb := X.1.2.1
  have Z : zW D A s [] s.heap [] := Z
  have hl : lv_has ls 1 [(0, .int p0)] := hl
  refine lv_iload_n hx hb dX7_oneIf_0 rfl (lv_at hl 0 rfl) ?_
  refine lv_if_eq (tgt := 8) hx hb dX7_oneIf_1 (by decide) (fun c1 => ?_) (fun c1 => ?_)
  · have hf := it_t c1 hf
    refine lv_iconst (v := 0) hx hb dX7_oneIf_8 (by decide) ?_
    have hR := so_s hf
    subst hR
    refine z_iret X hr hlocks ?_ dX7_oneIf_9
    exact Z.eq rfl
  · have hf := it_f c1 hf
    refine lv_iconst (v := 1) hx hb dX7_oneIf_4 (by decide) ?_
    refine lv_goto (tgt := 9) hx hb dX7_oneIf_5 (by decide) ?_
    have hR := so_s hf
    subst hR
    refine z_iret X hr hlocks ?_ dX7_oneIf_9
    exact Z.eq rfl
def f_X7_firstBeats (p0 : Int32) : Option (Int32) := some (((1 : Int32) <<< (p0 &&& 31)) - (1 : Int32))
set_option maxHeartbeats 4000000 in
set_option maxRecDepth 100000 in
theorem c_X7_firstBeats (l : Launch) (D : va_G) (cI cR : ClassId) (p0 : Int32) {R : Int32} (hf : f_X7_firstBeats p0 = some R) : zM l D cI cR yX7_firstBeats cX7_firstBeats 1 (some .int) 0 0 [.int p0] [] (some (.int R)) [] := by
  refine z_of (own := RX7) rfl (by decide) (Nat.le_of_ble_eq_true rfl) ?_
  intro p e s m args below meth c A ls X hr hlocks Z hl
  have hx := X.1.1
  have hb := X.1.2.1
  have Z : zW D A s [] s.heap [] := Z
  have hl : lv_has ls 1 [(0, .int p0)] := hl
  refine lv_iconst (v := 1) hx hb dX7_firstBeats_0 (by decide) ?_
  refine lv_iload_n hx hb dX7_firstBeats_1 rfl (lv_at hl 0 rfl) ?_
  refine lv_ishl hx hb dX7_firstBeats_2 ?_
  refine lv_iconst (v := 1) hx hb dX7_firstBeats_3 (by decide) ?_
  refine lv_isub hx hb dX7_firstBeats_4 ?_
  have hR := so_s hf
  subst hR
  refine z_iret X hr hlocks ?_ dX7_firstBeats_5
  exact Z.eq rfl
def f_X7_has (p0 : Int32) (p1 : Int32) : Option (Int32) := if ((p0 >>> (p1 &&& 31)) &&& (1 : Int32)) = 0 then (some (0 : Int32)) else (some (1 : Int32))
set_option maxHeartbeats 4000000 in
set_option maxRecDepth 100000 in
theorem c_X7_has (l : Launch) (D : va_G) (cI cR : ClassId) (p0 : Int32) (p1 : Int32) {R : Int32} (hf : f_X7_has p0 p1 = some R) : zM l D cI cR yX7_has cX7_has 2 (some .boolean) 0 0 [.int p0, .int p1] [] (some (.int R)) [] := by
  refine z_of (own := RX7) rfl (by decide) (Nat.le_of_ble_eq_true rfl) ?_
  intro p e s m args below meth c A ls X hr hlocks Z hl
  have hx := X.1.1
  have hb := X.1.2.1
  have Z : zW D A s [] s.heap [] := Z
  have hl : lv_has ls 2 [(0, .int p0), (1, .int p1)] := hl
  refine lv_iload_n hx hb dX7_has_0 rfl (lv_at hl 0 rfl) ?_
  refine lv_iload_n hx hb dX7_has_1 rfl (lv_at hl 1 rfl) ?_
  refine lv_ishr hx hb dX7_has_2 ?_
  refine lv_iconst (v := 1) hx hb dX7_has_3 (by decide) ?_
  refine lv_iand hx hb dX7_has_4 ?_
  refine lv_if_eq (tgt := 12) hx hb dX7_has_5 (by decide) (fun c1 => ?_) (fun c1 => ?_)
  · have hf := it_t c1 hf
    refine lv_iconst (v := 0) hx hb dX7_has_12 (by decide) ?_
    have hR := so_s hf
    subst hR
    refine z_zret X hr hlocks (Or.inl rfl) ?_ dX7_has_13
    exact Z.eq rfl
  · have hf := it_f c1 hf
    refine lv_iconst (v := 1) hx hb dX7_has_8 (by decide) ?_
    refine lv_goto (tgt := 13) hx hb dX7_has_9 (by decide) ?_
    have hR := so_s hf
    subst hR
    refine z_zret X hr hlocks (Or.inr rfl) ?_ dX7_has_13
    exact Z.eq rfl
theorem b_X7_has {p0 : Int32} {p1 : Int32} {R : Int32} (hf : f_X7_has p0 p1 = some R) : R = 0 ∨ R = 1 := by
  rcases Decidable.em (((p0 >>> (p1 &&& 31)) &&& (1 : Int32)) = 0) with c1 | c1
  · have hf := it_t c1 hf
    have hR := so_s hf
    subst hR
    exact (Or.inl rfl)
  · have hf := it_f c1 hf
    have hR := so_s hf
    subst hR
    exact (Or.inr rfl)
def f_X7_valueAt (an : Nat) (a_h : (Nat → Int32)) (p1 : Int32) : Option (Int32) := if p1 < 0 then (some (0 : Int32)) else (if (Int32.ofNat an) ≤ p1 then (some (0 : Int32)) else (if p1 < 0 ∨ an ≤ p1.toNatClampNeg then none else (some (a_h p1.toNatClampNeg))))
set_option maxHeartbeats 4000000 in
set_option maxRecDepth 100000 in
theorem c_X7_valueAt (l : Launch) (D : va_G) (cI cR : ClassId) (a0 : Nat) (an : Nat) (a_h : (Nat → Int32)) (p1 : Int32) {R : Int32} (hf : f_X7_valueAt an a_h p1 = some R) : zM l D cI cR yX7_valueAt cX7_valueAt 2 (some .int) 0 0 [.ref a0, .int p1] [[(a0, .inl (cI, an, .inl a_h))]] (some (.int R)) [[(a0, .inl (cI, an, .inl a_h))]] := by
  refine z_of (own := RX7) rfl (by decide) (Nat.le_of_ble_eq_true rfl) ?_
  intro p e s m args below meth c A ls X hr hlocks Z hl
  have hx := X.1.1
  have hb := X.1.2.1
  have Z : zW D A s [[(a0, .inl (cI, an, .inl a_h))]] s.heap [] := Z
  have hl : lv_has ls 2 [(0, .ref a0), (1, .int p1)] := hl
  refine lv_iload_n hx hb dX7_valueAt_0 rfl (lv_at hl 1 rfl) ?_
  refine lv_if_lt (tgt := 16) hx hb dX7_valueAt_1 (by decide) (fun c1 => ?_) (fun c1 => ?_)
  · have hf := it_t c1 hf
    refine lv_iconst (v := 0) hx hb dX7_valueAt_16 (by decide) ?_
    have hR := so_s hf
    subst hR
    refine z_iret X hr hlocks ?_ dX7_valueAt_17
    exact Z.eq rfl
  · have hf := it_f c1 hf
    refine lv_iload_n hx hb dX7_valueAt_4 rfl (lv_at hl 1 rfl) ?_
    refine lv_aload_n hx hb dX7_valueAt_5 rfl (lv_at hl 0 rfl) ?_
    refine z_alen  X Z 0 rfl rfl dX7_valueAt_6 ?_
    refine lv_icmp_ge (tgt := 16) hx hb dX7_valueAt_7 (by decide) (fun c2 => ?_) (fun c2 => ?_)
    · have hf := it_t c2 hf
      refine lv_iconst (v := 0) hx hb dX7_valueAt_16 (by decide) ?_
      have hR := so_s hf
      subst hR
      refine z_iret X hr hlocks ?_ dX7_valueAt_17
      exact Z.eq rfl
    · have hf := it_f c2 hf
      refine lv_aload_n hx hb dX7_valueAt_10 rfl (lv_at hl 0 rfl) ?_
      refine lv_iload_n hx hb dX7_valueAt_11 rfl (lv_at hl 1 rfl) ?_
      obtain ⟨i3, hf⟩ := in_s hf
      refine z_ld (j := p1.toNatClampNeg) X Z 0 rfl i3 rfl dX7_valueAt_12 ?_
      refine lv_goto (tgt := 17) hx hb dX7_valueAt_13 (by decide) ?_
      have hR := so_s hf
      subst hR
      refine z_iret X hr hlocks ?_ dX7_valueAt_17
      exact Z.eq rfl
def f_X7_setAt (an : Nat) (a_h : (Nat → Int32)) (p1 : Int32) (p2 : Int32) : Option ((Nat → Int32)) := if p1 < 0 then (some a_h) else (if (Int32.ofNat an) ≤ p1 then (some a_h) else (if p1 < 0 ∨ an ≤ p1.toNatClampNeg then none else (some (upd a_h p1.toNatClampNeg p2))))
set_option maxHeartbeats 4000000 in
set_option maxRecDepth 100000 in
theorem c_X7_setAt (l : Launch) (D : va_G) (cI cR : ClassId) (a0 : Nat) (an : Nat) (a_h : (Nat → Int32)) (p1 : Int32) (p2 : Int32) {R : (Nat → Int32)} (hf : f_X7_setAt an a_h p1 p2 = some R) : zM l D cI cR yX7_setAt cX7_setAt 3 none 0 0 [.ref a0, .int p1, .int p2] [[(a0, .inl (cI, an, .inl a_h))]] none [[(a0, .inl (cI, an, .inl R))]] := by
  refine z_of (own := RX7) rfl (by decide) (Nat.le_of_ble_eq_true rfl) ?_
  intro p e s m args below meth c A ls X hr hlocks Z hl
  have hx := X.1.1
  have hb := X.1.2.1
  have Z : zW D A s [[(a0, .inl (cI, an, .inl a_h))]] s.heap [] := Z
  have hl : lv_has ls 3 [(0, .ref a0), (1, .int p1), (2, .int p2)] := hl
  refine lv_iload_n hx hb dX7_setAt_0 rfl (lv_at hl 1 rfl) ?_
  refine lv_if_lt (tgt := 14) hx hb dX7_setAt_1 (by decide) (fun c1 => ?_) (fun c1 => ?_)
  · have hf := it_t c1 hf
    have hR := so_s hf
    subst hR
    refine z_vret X hr hlocks ?_ dX7_setAt_14
    exact Z.eq rfl
  · have hf := it_f c1 hf
    refine lv_iload_n hx hb dX7_setAt_4 rfl (lv_at hl 1 rfl) ?_
    refine lv_aload_n hx hb dX7_setAt_5 rfl (lv_at hl 0 rfl) ?_
    refine z_alen  X Z 0 rfl rfl dX7_setAt_6 ?_
    refine lv_icmp_ge (tgt := 14) hx hb dX7_setAt_7 (by decide) (fun c2 => ?_) (fun c2 => ?_)
    · have hf := it_t c2 hf
      have hR := so_s hf
      subst hR
      refine z_vret X hr hlocks ?_ dX7_setAt_14
      exact Z.eq rfl
    · have hf := it_f c2 hf
      refine lv_aload_n hx hb dX7_setAt_10 rfl (lv_at hl 0 rfl) ?_
      refine lv_iload_n hx hb dX7_setAt_11 rfl (lv_at hl 1 rfl) ?_
      refine lv_iload_n hx hb dX7_setAt_12 rfl (lv_at hl 2 rfl) ?_
      obtain ⟨i3, hf⟩ := in_s hf
      refine z_st (j := p1.toNatClampNeg) X Z 0 rfl i3 rfl [[(a0, .inl (cI, an, .inl (upd a_h p1.toNatClampNeg p2)))]] rfl dX7_setAt_13 (fun H locs Z => ?_)
      have hR := so_s hf
      subst hR
      refine z_vret X hr hlocks ?_ dX7_setAt_14
      exact Z.eq rfl
def f_J9_floorMod_7cf53 (p0 : Int32) (p1 : Int32) : Option (Int32) := if p1 = 0 then none else (if 0 ≤ (p0 ^^^ p1) then (some (p0 - p0 / p1 * p1)) else (if (p0 - p0 / p1 * p1) = 0 then (some (p0 - p0 / p1 * p1)) else (some ((p0 - p0 / p1 * p1) + p1))))
set_option maxHeartbeats 4000000 in
set_option maxRecDepth 100000 in
theorem c_J9_floorMod_7cf53 (l : Launch) (D : va_G) (cI cR : ClassId) (p0 : Int32) (p1 : Int32) {R : Int32} (hf : f_J9_floorMod_7cf53 p0 p1 = some R) : zM l D cI cR yJ9_floorMod_7cf53 cJ9_floorMod_7cf53 3 (some .int) 0 0 [.int p0, .int p1] [] (some (.int R)) [] := by
  refine z_ofF (own := RJ9) rfl (by decide +kernel) (Nat.le_of_ble_eq_true rfl) ?_
  intro p e s m args below meth c A ls X hr hlocks Z hl
  have hx := X.1.1
  have hb := X.1.2.1
  have Z : zW D A s [] s.heap [] := Z
  have hl : lv_has ls 3 [(0, .int p0), (1, .int p1)] := hl
  refine lv_iload_n hx hb dJ9_floorMod_7cf53_0 rfl (lv_at hl 0 rfl) ?_
  refine lv_iload_n hx hb dJ9_floorMod_7cf53_1 rfl (lv_at hl 1 rfl) ?_
  obtain ⟨i1, hf⟩ := in_s hf
  refine lv_irem hx hb dJ9_floorMod_7cf53_2 i1 ?_
  refine lv_istore_n (lv' := [(2, .int (p0 - p0 / p1 * p1)), (0, .int p0), (1, .int p1)]) hx hb dJ9_floorMod_7cf53_3 rfl hl (by decide) rfl (fun ls hl => ?_)
  refine lv_iload_n hx hb dJ9_floorMod_7cf53_4 rfl (lv_at hl 1 rfl) ?_
  refine lv_iload_n hx hb dJ9_floorMod_7cf53_5 rfl (lv_at hl 2 rfl) ?_
  refine lv_ixor hx hb dJ9_floorMod_7cf53_6 ?_
  refine lv_if_ge (tgt := 18) hx hb dJ9_floorMod_7cf53_7 (by decide) (fun c2 => ?_) (fun c2 => ?_)
  · have hf := it_t c2 hf
    refine lv_iload_n hx hb dJ9_floorMod_7cf53_18 rfl (lv_at hl 0 rfl) ?_
    have hR := so_s hf
    subst hR
    refine z_iret X hr hlocks ?_ dJ9_floorMod_7cf53_19
    exact Z.eq rfl
  · have hf := it_f c2 hf
    refine lv_iload_n hx hb dJ9_floorMod_7cf53_10 rfl (lv_at hl 0 rfl) ?_
    refine lv_if_eq (tgt := 18) hx hb dJ9_floorMod_7cf53_11 (by decide) (fun c3 => ?_) (fun c3 => ?_)
    · have hf := it_t c3 hf
      refine lv_iload_n hx hb dJ9_floorMod_7cf53_18 rfl (lv_at hl 0 rfl) ?_
      have hR := so_s hf
      subst hR
      refine z_iret X hr hlocks ?_ dJ9_floorMod_7cf53_19
      exact Z.eq rfl
    · have hf := it_f c3 hf
      refine lv_iload_n hx hb dJ9_floorMod_7cf53_14 rfl (lv_at hl 0 rfl) ?_
      refine lv_iload_n hx hb dJ9_floorMod_7cf53_15 rfl (lv_at hl 2 rfl) ?_
      refine lv_iadd hx hb dJ9_floorMod_7cf53_16 ?_
      have hR := so_s hf
      subst hR
      refine z_iret X hr hlocks ?_ dJ9_floorMod_7cf53_17
      exact Z.eq rfl
def f_X7_leftOver (p0 : Int32) (p1 : Int32) : Option (Int32) := if p1 ≤ 0 then (some (0 : Int32)) else ((f_J9_floorMod_7cf53 p0 p1).bind (fun q2 => some q2))
set_option maxHeartbeats 4000000 in
set_option maxRecDepth 100000 in
theorem c_X7_leftOver (l : Launch) (D : va_G) (cI cR : ClassId) (p0 : Int32) (p1 : Int32) {R : Int32} (hf : f_X7_leftOver p0 p1 = some R) : zM l D cI cR yX7_leftOver cX7_leftOver 2 (some .int) 1 22 [.int p0, .int p1] [] (some (.int R)) [] := by
  refine z_of (own := RX7) rfl (by decide) (Nat.le_of_ble_eq_true rfl) ?_
  intro p e s m args below meth c A ls X hr hlocks Z hl
  have hx := X.1.1
  have hb := X.1.2.1
  have Z : zW D A s [] s.heap [] := Z
  have hl : lv_has ls 2 [(0, .int p0), (1, .int p1)] := hl
  refine lv_iload_n hx hb dX7_leftOver_0 rfl (lv_at hl 1 rfl) ?_
  refine lv_if_le (tgt := 12) hx hb dX7_leftOver_1 (by decide) (fun c1 => ?_) (fun c1 => ?_)
  · have hf := it_t c1 hf
    refine lv_iconst (v := 0) hx hb dX7_leftOver_12 (by decide) ?_
    have hR := so_s hf
    subst hR
    refine z_iret X hr hlocks ?_ dX7_leftOver_13
    exact Z.eq rfl
  · have hf := it_f c1 hf
    refine lv_iload_n hx hb dX7_leftOver_4 rfl (lv_at hl 0 rfl) ?_
    refine lv_iload_n hx hb dX7_leftOver_5 rfl (lv_at hl 1 rfl) ?_
    obtain ⟨q2, hq2, hf⟩ := ob_s hf
    refine z_roS X Z (c_J9_floorMod_7cf53 l D cI cR   p0 p1 hq2) (zw_X7_236 X.1.2.2.2.2 ⟨Nat.le_of_ble_eq_true rfl, Nat.le_of_ble_eq_true rfl⟩) [] [] (by decide : ([] ++ [] : List Nat).Perm (List.range 0)) rfl rfl hl.1 rfl (Nat.le_of_ble_eq_true rfl) dX7_leftOver_6 ⟨Nat.le_of_ble_eq_true rfl, Nat.le_of_ble_eq_true rfl⟩ (fun H locs Z => ?_)
    refine lv_goto (tgt := 13) hx hb dX7_leftOver_9 (by decide) ?_
    have hR := so_s hf
    subst hR
    refine z_iret X hr hlocks ?_ dX7_leftOver_13
    exact Z.eq rfl
def f_X7_isHeight (p0 : Int32) : Option (Int32) := (f_X7_isWithin p0 (48 : Int32) (55 : Int32)).bind (fun q1 => some q1)
set_option maxHeartbeats 4000000 in
set_option maxRecDepth 100000 in
theorem c_X7_isHeight (l : Launch) (D : va_G) (cI cR : ClassId) (p0 : Int32) {R : Int32} (hf : f_X7_isHeight p0 = some R) : zM l D cI cR yX7_isHeight cX7_isHeight 1 (some .boolean) 1 22 [.int p0] [] (some (.int R)) [] := by
  refine z_of (own := RX7) rfl (by decide) (Nat.le_of_ble_eq_true rfl) ?_
  intro p e s m args below meth c A ls X hr hlocks Z hl
  have hx := X.1.1
  have hb := X.1.2.1
  have Z : zW D A s [] s.heap [] := Z
  have hl : lv_has ls 1 [(0, .int p0)] := hl
  refine lv_iload_n hx hb dX7_isHeight_0 rfl (lv_at hl 0 rfl) ?_
  refine lv_bipush (v := 48) hx hb dX7_isHeight_1 (by decide) ?_
  refine lv_bipush (v := 55) hx hb dX7_isHeight_3 (by decide) ?_
  obtain ⟨q1, hq1, hf⟩ := ob_s hf
  refine z_roS X Z (c_X7_isWithin l D cI cR   p0 (48 : Int32) (55 : Int32) hq1) (zw_X7_57 X.1.2.2.2.2 ⟨Nat.le_of_ble_eq_true rfl, Nat.le_of_ble_eq_true rfl⟩) [] [] (by decide : ([] ++ [] : List Nat).Perm (List.range 0)) rfl rfl hl.1 rfl (Nat.le_of_ble_eq_true rfl) dX7_isHeight_5 ⟨Nat.le_of_ble_eq_true rfl, Nat.le_of_ble_eq_true rfl⟩ (fun H locs Z => ?_)
  have hR := so_s hf
  subst hR
  refine z_zret X hr hlocks (b_X7_isWithin hq1) ?_ dX7_isHeight_8
  exact Z.eq rfl
theorem b_X7_isHeight {p0 : Int32} {R : Int32} (hf : f_X7_isHeight p0 = some R) : R = 0 ∨ R = 1 := by
  obtain ⟨q1, hq1, hf⟩ := ob_s hf
  have hR := so_s hf
  subst hR
  exact (b_X7_isWithin hq1)
def f_X7_packedCharacters_L4 : Nat → Int32 → Int64 → Option (Int32)
  | 0, _, _ => none
  | n + 1, x2, x3 => if (8 : Int32) ≤ x2 then (some x2) else (if (lg_cmp x3 (0 : Int64)) = 0 then (some x2) else ((f_X7_isWithin ((x3 &&& (255 : Int64)).toInt32) (33 : Int32) (126 : Int32)).bind (fun q3 => if q3 = 0 then (some (0 : Int32)) else (f_X7_packedCharacters_L4  n (x2 + (1 : Int32)) ((x3.toUInt64 >>> ((8 : Int32).toInt64.toUInt64 &&& Int64.toUInt64 63)).toInt64) ))))
set_option maxHeartbeats 4000000 in
set_option maxRecDepth 100000 in
theorem w_X7_packedCharacters_L4 {p : Program} {l : Launch} {e : Env} {s : State} {m : MethodId} {args : Array Value} {below : List Frame} {meth : Method} {c : Code} {D : va_G} {cI cR : ClassId} {A : Nat → Prop} {R : Int32} (X : zX p s m c cX7_packedCharacters 5 args RX7 D cI cR A) (hr : meth.sig.returnType = (some .int)) (hlocks : meth.locks = false) : ∀ (n : Nat)  {x2 : Int32} {x3 : Int64} {H : Heap} {locs : List Loc} {ls : Array Slot}, f_X7_packedCharacters_L4  n x2 x3 = some R → zW D A s [] H locs → lv_has ls 5 [(2, .int x2), (3, .long x3)] → W p l e ({ frames := 1, cells := 0, slots := 0, locals := 22 } : Room) s m args below meth c H locs 0 0 (zE D A below s args (some (.int R)) []) (F0 m 4 ls []) := by
  have hx := X.1.1
  have hb := X.1.2.1
  intro n
  induction n with
  | zero =>
    intro x2 x3 H locs ls hf
    have hf : none = some R := hf
    cases hf
  | succ n ih =>
    intro x2 x3 H locs ls hf Z hl
    refine lv_iload_n hx hb dX7_packedCharacters_4 rfl (lv_at hl 0 rfl) ?_
    refine lv_bipush (v := 8) hx hb dX7_packedCharacters_5 (by decide) ?_
    refine lv_icmp_ge (tgt := 45) hx hb dX7_packedCharacters_7 (by decide) (fun c1 => ?_) (fun c1 => ?_)
    · have hf := it_t c1 hf
      refine lv_iload_n hx hb dX7_packedCharacters_45 rfl (lv_at hl 0 rfl) ?_
      have hR := so_s hf
      subst hR
      refine z_iret X hr hlocks ?_ dX7_packedCharacters_46
      exact Z.eq rfl
    · have hf := it_f c1 hf
      refine lv_lload_n hx hb dX7_packedCharacters_10 rfl (lv_at hl 1 rfl) ?_
      refine lv_lconst (v := 0) hx hb dX7_packedCharacters_11 (by decide) ?_
      refine W.lcmp hx hb dX7_packedCharacters_12 ?_
      refine lv_if_eq (tgt := 45) hx hb dX7_packedCharacters_13 (by decide) (fun c2 => ?_) (fun c2 => ?_)
      · have hf := it_t c2 hf
        refine lv_iload_n hx hb dX7_packedCharacters_45 rfl (lv_at hl 0 rfl) ?_
        have hR := so_s hf
        subst hR
        refine z_iret X hr hlocks ?_ dX7_packedCharacters_46
        exact Z.eq rfl
      · have hf := it_f c2 hf
        refine lv_lload_n hx hb dX7_packedCharacters_16 rfl (lv_at hl 1 rfl) ?_
        refine lv_ldc2 hx hb X.1.2.2.2.1 (X.1.2.2.2.2 _ mk_X7_242) dX7_packedCharacters_17 ?_
        refine lv_land hx hb dX7_packedCharacters_20 ?_
        refine lv_l2i hx hb dX7_packedCharacters_21 rfl ?_
        refine lv_bipush (v := 33) hx hb dX7_packedCharacters_22 (by decide) ?_
        refine lv_bipush (v := 126) hx hb dX7_packedCharacters_24 (by decide) ?_
        obtain ⟨q3, hq3, hf⟩ := ob_s hf
        refine z_roS X Z (c_X7_isWithin l D cI cR   ((x3 &&& (255 : Int64)).toInt32) (33 : Int32) (126 : Int32) hq3) (zw_X7_57 X.1.2.2.2.2 ⟨Nat.le_of_ble_eq_true rfl, Nat.le_of_ble_eq_true rfl⟩) [] [] (by decide : ([] ++ [] : List Nat).Perm (List.range 0)) rfl rfl hl.1 rfl (Nat.le_of_ble_eq_true rfl) dX7_packedCharacters_26 ⟨Nat.le_of_ble_eq_true rfl, Nat.le_of_ble_eq_true rfl⟩ (fun H locs Z => ?_)
        refine lv_if_ne (tgt := 34) hx hb dX7_packedCharacters_29 (by decide) (fun c4 => ?_) (fun c4 => ?_)
        · have hf := it_f c4 hf
          refine lv_lload_n hx hb dX7_packedCharacters_34 rfl (lv_at hl 1 rfl) ?_
          refine lv_bipush (v := 8) hx hb dX7_packedCharacters_35 (by decide) ?_
          refine lv_lushr hx hb dX7_packedCharacters_37 rfl ?_
          refine lv_lstore_n (lv' := [(3, .long ((x3.toUInt64 >>> ((8 : Int32).toInt64.toUInt64 &&& Int64.toUInt64 63)).toInt64)), (2, .int x2)]) hx hb dX7_packedCharacters_38 rfl hl (by decide) rfl (fun ls hl => ?_)
          refine lv_iinc (v := x2 + (1 : Int32)) (lv' := [(2, .int (x2 + (1 : Int32))), (3, .long ((x3.toUInt64 >>> ((8 : Int32).toInt64.toUInt64 &&& Int64.toUInt64 63)).toInt64))]) hx hb dX7_packedCharacters_39 hl (k := 1) rfl rfl (by decide) rfl (fun ls hl => ?_)
          refine lv_goto (tgt := 4) hx hb dX7_packedCharacters_42 (by decide) ?_
          exact ih hf Z (lv_sub hl [0, 1] rfl)
        · have hf := it_t c4 hf
          refine lv_iconst (v := 0) hx hb dX7_packedCharacters_32 (by decide) ?_
          have hR := so_s hf
          subst hR
          refine z_iret X hr hlocks ?_ dX7_packedCharacters_33
          exact Z.eq rfl

def f_X7_packedCharacters (p0 : Int64) : Option (Int32) := f_X7_packedCharacters_L4  zF (0 : Int32) p0
set_option maxHeartbeats 4000000 in
set_option maxRecDepth 100000 in
theorem c_X7_packedCharacters (l : Launch) (D : va_G) (cI cR : ClassId) (p0 : Int64) {R : Int32} (hf : f_X7_packedCharacters p0 = some R) : zM l D cI cR yX7_packedCharacters cX7_packedCharacters 5 (some .int) 1 22 [.long p0] [] (some (.int R)) [] := by
  refine z_of (own := RX7) rfl (by decide) (Nat.le_of_ble_eq_true rfl) ?_
  intro p e s m args below meth c A ls X hr hlocks Z hl
  have hx := X.1.1
  have hb := X.1.2.1
  have Z : zW D A s [] s.heap [] := Z
  have hl : lv_has ls 5 [(0, .long p0)] := hl
  refine lv_iconst (v := 0) hx hb dX7_packedCharacters_0 (by decide) ?_
  refine lv_istore_n (lv' := [(2, .int (0 : Int32)), (0, .long p0)]) hx hb dX7_packedCharacters_1 rfl hl (by decide) rfl (fun ls hl => ?_)
  refine lv_lload_n hx hb dX7_packedCharacters_2 rfl (lv_at hl 1 rfl) ?_
  refine lv_lstore_n (lv' := [(3, .long p0), (2, .int (0 : Int32)), (0, .long p0)]) hx hb dX7_packedCharacters_3 rfl hl (by decide) rfl (fun ls hl => ?_)
  exact w_X7_packedCharacters_L4 X hr hlocks _ hf Z (lv_sub hl [1, 0] rfl)
def f_J6_bitCount_0f7a4 (p0 : Int32) : Option (Int32) := some ((((((((p0 - (((p0.toUInt32 >>> ((1 : Int32).toUInt32 &&& Int32.toUInt32 31)).toInt32) &&& (1431655765 : Int32))) &&& (858993459 : Int32)) + ((((p0 - (((p0.toUInt32 >>> ((1 : Int32).toUInt32 &&& Int32.toUInt32 31)).toInt32) &&& (1431655765 : Int32))).toUInt32 >>> ((2 : Int32).toUInt32 &&& Int32.toUInt32 31)).toInt32) &&& (858993459 : Int32))) + (((((p0 - (((p0.toUInt32 >>> ((1 : Int32).toUInt32 &&& Int32.toUInt32 31)).toInt32) &&& (1431655765 : Int32))) &&& (858993459 : Int32)) + ((((p0 - (((p0.toUInt32 >>> ((1 : Int32).toUInt32 &&& Int32.toUInt32 31)).toInt32) &&& (1431655765 : Int32))).toUInt32 >>> ((2 : Int32).toUInt32 &&& Int32.toUInt32 31)).toInt32) &&& (858993459 : Int32))).toUInt32 >>> ((4 : Int32).toUInt32 &&& Int32.toUInt32 31)).toInt32)) &&& (252645135 : Int32)) + (((((((p0 - (((p0.toUInt32 >>> ((1 : Int32).toUInt32 &&& Int32.toUInt32 31)).toInt32) &&& (1431655765 : Int32))) &&& (858993459 : Int32)) + ((((p0 - (((p0.toUInt32 >>> ((1 : Int32).toUInt32 &&& Int32.toUInt32 31)).toInt32) &&& (1431655765 : Int32))).toUInt32 >>> ((2 : Int32).toUInt32 &&& Int32.toUInt32 31)).toInt32) &&& (858993459 : Int32))) + (((((p0 - (((p0.toUInt32 >>> ((1 : Int32).toUInt32 &&& Int32.toUInt32 31)).toInt32) &&& (1431655765 : Int32))) &&& (858993459 : Int32)) + ((((p0 - (((p0.toUInt32 >>> ((1 : Int32).toUInt32 &&& Int32.toUInt32 31)).toInt32) &&& (1431655765 : Int32))).toUInt32 >>> ((2 : Int32).toUInt32 &&& Int32.toUInt32 31)).toInt32) &&& (858993459 : Int32))).toUInt32 >>> ((4 : Int32).toUInt32 &&& Int32.toUInt32 31)).toInt32)) &&& (252645135 : Int32)).toUInt32 >>> ((8 : Int32).toUInt32 &&& Int32.toUInt32 31)).toInt32)) + ((((((((p0 - (((p0.toUInt32 >>> ((1 : Int32).toUInt32 &&& Int32.toUInt32 31)).toInt32) &&& (1431655765 : Int32))) &&& (858993459 : Int32)) + ((((p0 - (((p0.toUInt32 >>> ((1 : Int32).toUInt32 &&& Int32.toUInt32 31)).toInt32) &&& (1431655765 : Int32))).toUInt32 >>> ((2 : Int32).toUInt32 &&& Int32.toUInt32 31)).toInt32) &&& (858993459 : Int32))) + (((((p0 - (((p0.toUInt32 >>> ((1 : Int32).toUInt32 &&& Int32.toUInt32 31)).toInt32) &&& (1431655765 : Int32))) &&& (858993459 : Int32)) + ((((p0 - (((p0.toUInt32 >>> ((1 : Int32).toUInt32 &&& Int32.toUInt32 31)).toInt32) &&& (1431655765 : Int32))).toUInt32 >>> ((2 : Int32).toUInt32 &&& Int32.toUInt32 31)).toInt32) &&& (858993459 : Int32))).toUInt32 >>> ((4 : Int32).toUInt32 &&& Int32.toUInt32 31)).toInt32)) &&& (252645135 : Int32)) + (((((((p0 - (((p0.toUInt32 >>> ((1 : Int32).toUInt32 &&& Int32.toUInt32 31)).toInt32) &&& (1431655765 : Int32))) &&& (858993459 : Int32)) + ((((p0 - (((p0.toUInt32 >>> ((1 : Int32).toUInt32 &&& Int32.toUInt32 31)).toInt32) &&& (1431655765 : Int32))).toUInt32 >>> ((2 : Int32).toUInt32 &&& Int32.toUInt32 31)).toInt32) &&& (858993459 : Int32))) + (((((p0 - (((p0.toUInt32 >>> ((1 : Int32).toUInt32 &&& Int32.toUInt32 31)).toInt32) &&& (1431655765 : Int32))) &&& (858993459 : Int32)) + ((((p0 - (((p0.toUInt32 >>> ((1 : Int32).toUInt32 &&& Int32.toUInt32 31)).toInt32) &&& (1431655765 : Int32))).toUInt32 >>> ((2 : Int32).toUInt32 &&& Int32.toUInt32 31)).toInt32) &&& (858993459 : Int32))).toUInt32 >>> ((4 : Int32).toUInt32 &&& Int32.toUInt32 31)).toInt32)) &&& (252645135 : Int32)).toUInt32 >>> ((8 : Int32).toUInt32 &&& Int32.toUInt32 31)).toInt32)).toUInt32 >>> ((16 : Int32).toUInt32 &&& Int32.toUInt32 31)).toInt32)) &&& (63 : Int32))
set_option maxHeartbeats 4000000 in
set_option maxRecDepth 100000 in
theorem c_J6_bitCount_0f7a4 (l : Launch) (D : va_G) (cI cR : ClassId) (p0 : Int32) {R : Int32} (hf : f_J6_bitCount_0f7a4 p0 = some R) : zM l D cI cR yJ6_bitCount_0f7a4 cJ6_bitCount_0f7a4 1 (some .int) 0 0 [.int p0] [] (some (.int R)) [] := by
  refine z_of (own := RJ6) rfl (by decide) (Nat.le_of_ble_eq_true rfl) ?_
  intro p e s m args below meth c A ls X hr hlocks Z hl
  have hx := X.1.1
  have hb := X.1.2.1
  have Z : zW D A s [] s.heap [] := Z
  have hl : lv_has ls 1 [(0, .int p0)] := hl
  refine lv_iload_n hx hb dJ6_bitCount_0f7a4_0 rfl (lv_at hl 0 rfl) ?_
  refine lv_iload_n hx hb dJ6_bitCount_0f7a4_1 rfl (lv_at hl 0 rfl) ?_
  refine lv_iconst (v := 1) hx hb dJ6_bitCount_0f7a4_2 (by decide) ?_
  refine lv_iushr hx hb dJ6_bitCount_0f7a4_3 rfl ?_
  refine lv_ldcw hx hb X.1.2.2.2.1 (X.1.2.2.2.2 _ mk_J6_265) dJ6_bitCount_0f7a4_4 ?_
  refine lv_iand hx hb dJ6_bitCount_0f7a4_7 ?_
  refine lv_isub hx hb dJ6_bitCount_0f7a4_8 ?_
  refine lv_istore_n (lv' := [(0, .int (p0 - (((p0.toUInt32 >>> ((1 : Int32).toUInt32 &&& Int32.toUInt32 31)).toInt32) &&& (1431655765 : Int32))))]) hx hb dJ6_bitCount_0f7a4_9 rfl hl (by decide) rfl (fun ls hl => ?_)
  refine lv_iload_n hx hb dJ6_bitCount_0f7a4_10 rfl (lv_at hl 0 rfl) ?_
  refine lv_ldcw hx hb X.1.2.2.2.1 (X.1.2.2.2.2 _ mk_J6_266) dJ6_bitCount_0f7a4_11 ?_
  refine lv_iand hx hb dJ6_bitCount_0f7a4_14 ?_
  refine lv_iload_n hx hb dJ6_bitCount_0f7a4_15 rfl (lv_at hl 0 rfl) ?_
  refine lv_iconst (v := 2) hx hb dJ6_bitCount_0f7a4_16 (by decide) ?_
  refine lv_iushr hx hb dJ6_bitCount_0f7a4_17 rfl ?_
  refine lv_ldcw hx hb X.1.2.2.2.1 (X.1.2.2.2.2 _ mk_J6_266) dJ6_bitCount_0f7a4_18 ?_
  refine lv_iand hx hb dJ6_bitCount_0f7a4_21 ?_
  refine lv_iadd hx hb dJ6_bitCount_0f7a4_22 ?_
  refine lv_istore_n (lv' := [(0, .int (((p0 - (((p0.toUInt32 >>> ((1 : Int32).toUInt32 &&& Int32.toUInt32 31)).toInt32) &&& (1431655765 : Int32))) &&& (858993459 : Int32)) + ((((p0 - (((p0.toUInt32 >>> ((1 : Int32).toUInt32 &&& Int32.toUInt32 31)).toInt32) &&& (1431655765 : Int32))).toUInt32 >>> ((2 : Int32).toUInt32 &&& Int32.toUInt32 31)).toInt32) &&& (858993459 : Int32))))]) hx hb dJ6_bitCount_0f7a4_23 rfl hl (by decide) rfl (fun ls hl => ?_)
  refine lv_iload_n hx hb dJ6_bitCount_0f7a4_24 rfl (lv_at hl 0 rfl) ?_
  refine lv_iload_n hx hb dJ6_bitCount_0f7a4_25 rfl (lv_at hl 0 rfl) ?_
  refine lv_iconst (v := 4) hx hb dJ6_bitCount_0f7a4_26 (by decide) ?_
  refine lv_iushr hx hb dJ6_bitCount_0f7a4_27 rfl ?_
  refine lv_iadd hx hb dJ6_bitCount_0f7a4_28 ?_
  refine lv_ldcw hx hb X.1.2.2.2.1 (X.1.2.2.2.2 _ mk_J6_267) dJ6_bitCount_0f7a4_29 ?_
  refine lv_iand hx hb dJ6_bitCount_0f7a4_32 ?_
  refine lv_istore_n (lv' := [(0, .int (((((p0 - (((p0.toUInt32 >>> ((1 : Int32).toUInt32 &&& Int32.toUInt32 31)).toInt32) &&& (1431655765 : Int32))) &&& (858993459 : Int32)) + ((((p0 - (((p0.toUInt32 >>> ((1 : Int32).toUInt32 &&& Int32.toUInt32 31)).toInt32) &&& (1431655765 : Int32))).toUInt32 >>> ((2 : Int32).toUInt32 &&& Int32.toUInt32 31)).toInt32) &&& (858993459 : Int32))) + (((((p0 - (((p0.toUInt32 >>> ((1 : Int32).toUInt32 &&& Int32.toUInt32 31)).toInt32) &&& (1431655765 : Int32))) &&& (858993459 : Int32)) + ((((p0 - (((p0.toUInt32 >>> ((1 : Int32).toUInt32 &&& Int32.toUInt32 31)).toInt32) &&& (1431655765 : Int32))).toUInt32 >>> ((2 : Int32).toUInt32 &&& Int32.toUInt32 31)).toInt32) &&& (858993459 : Int32))).toUInt32 >>> ((4 : Int32).toUInt32 &&& Int32.toUInt32 31)).toInt32)) &&& (252645135 : Int32)))]) hx hb dJ6_bitCount_0f7a4_33 rfl hl (by decide) rfl (fun ls hl => ?_)
  refine lv_iload_n hx hb dJ6_bitCount_0f7a4_34 rfl (lv_at hl 0 rfl) ?_
  refine lv_iload_n hx hb dJ6_bitCount_0f7a4_35 rfl (lv_at hl 0 rfl) ?_
  refine lv_bipush (v := 8) hx hb dJ6_bitCount_0f7a4_36 (by decide) ?_
  refine lv_iushr hx hb dJ6_bitCount_0f7a4_38 rfl ?_
  refine lv_iadd hx hb dJ6_bitCount_0f7a4_39 ?_
  refine lv_istore_n (lv' := [(0, .int ((((((p0 - (((p0.toUInt32 >>> ((1 : Int32).toUInt32 &&& Int32.toUInt32 31)).toInt32) &&& (1431655765 : Int32))) &&& (858993459 : Int32)) + ((((p0 - (((p0.toUInt32 >>> ((1 : Int32).toUInt32 &&& Int32.toUInt32 31)).toInt32) &&& (1431655765 : Int32))).toUInt32 >>> ((2 : Int32).toUInt32 &&& Int32.toUInt32 31)).toInt32) &&& (858993459 : Int32))) + (((((p0 - (((p0.toUInt32 >>> ((1 : Int32).toUInt32 &&& Int32.toUInt32 31)).toInt32) &&& (1431655765 : Int32))) &&& (858993459 : Int32)) + ((((p0 - (((p0.toUInt32 >>> ((1 : Int32).toUInt32 &&& Int32.toUInt32 31)).toInt32) &&& (1431655765 : Int32))).toUInt32 >>> ((2 : Int32).toUInt32 &&& Int32.toUInt32 31)).toInt32) &&& (858993459 : Int32))).toUInt32 >>> ((4 : Int32).toUInt32 &&& Int32.toUInt32 31)).toInt32)) &&& (252645135 : Int32)) + (((((((p0 - (((p0.toUInt32 >>> ((1 : Int32).toUInt32 &&& Int32.toUInt32 31)).toInt32) &&& (1431655765 : Int32))) &&& (858993459 : Int32)) + ((((p0 - (((p0.toUInt32 >>> ((1 : Int32).toUInt32 &&& Int32.toUInt32 31)).toInt32) &&& (1431655765 : Int32))).toUInt32 >>> ((2 : Int32).toUInt32 &&& Int32.toUInt32 31)).toInt32) &&& (858993459 : Int32))) + (((((p0 - (((p0.toUInt32 >>> ((1 : Int32).toUInt32 &&& Int32.toUInt32 31)).toInt32) &&& (1431655765 : Int32))) &&& (858993459 : Int32)) + ((((p0 - (((p0.toUInt32 >>> ((1 : Int32).toUInt32 &&& Int32.toUInt32 31)).toInt32) &&& (1431655765 : Int32))).toUInt32 >>> ((2 : Int32).toUInt32 &&& Int32.toUInt32 31)).toInt32) &&& (858993459 : Int32))).toUInt32 >>> ((4 : Int32).toUInt32 &&& Int32.toUInt32 31)).toInt32)) &&& (252645135 : Int32)).toUInt32 >>> ((8 : Int32).toUInt32 &&& Int32.toUInt32 31)).toInt32)))]) hx hb dJ6_bitCount_0f7a4_40 rfl hl (by decide) rfl (fun ls hl => ?_)
  refine lv_iload_n hx hb dJ6_bitCount_0f7a4_41 rfl (lv_at hl 0 rfl) ?_
  refine lv_iload_n hx hb dJ6_bitCount_0f7a4_42 rfl (lv_at hl 0 rfl) ?_
  refine lv_bipush (v := 16) hx hb dJ6_bitCount_0f7a4_43 (by decide) ?_
  refine lv_iushr hx hb dJ6_bitCount_0f7a4_45 rfl ?_
  refine lv_iadd hx hb dJ6_bitCount_0f7a4_46 ?_
  refine lv_istore_n (lv' := [(0, .int (((((((p0 - (((p0.toUInt32 >>> ((1 : Int32).toUInt32 &&& Int32.toUInt32 31)).toInt32) &&& (1431655765 : Int32))) &&& (858993459 : Int32)) + ((((p0 - (((p0.toUInt32 >>> ((1 : Int32).toUInt32 &&& Int32.toUInt32 31)).toInt32) &&& (1431655765 : Int32))).toUInt32 >>> ((2 : Int32).toUInt32 &&& Int32.toUInt32 31)).toInt32) &&& (858993459 : Int32))) + (((((p0 - (((p0.toUInt32 >>> ((1 : Int32).toUInt32 &&& Int32.toUInt32 31)).toInt32) &&& (1431655765 : Int32))) &&& (858993459 : Int32)) + ((((p0 - (((p0.toUInt32 >>> ((1 : Int32).toUInt32 &&& Int32.toUInt32 31)).toInt32) &&& (1431655765 : Int32))).toUInt32 >>> ((2 : Int32).toUInt32 &&& Int32.toUInt32 31)).toInt32) &&& (858993459 : Int32))).toUInt32 >>> ((4 : Int32).toUInt32 &&& Int32.toUInt32 31)).toInt32)) &&& (252645135 : Int32)) + (((((((p0 - (((p0.toUInt32 >>> ((1 : Int32).toUInt32 &&& Int32.toUInt32 31)).toInt32) &&& (1431655765 : Int32))) &&& (858993459 : Int32)) + ((((p0 - (((p0.toUInt32 >>> ((1 : Int32).toUInt32 &&& Int32.toUInt32 31)).toInt32) &&& (1431655765 : Int32))).toUInt32 >>> ((2 : Int32).toUInt32 &&& Int32.toUInt32 31)).toInt32) &&& (858993459 : Int32))) + (((((p0 - (((p0.toUInt32 >>> ((1 : Int32).toUInt32 &&& Int32.toUInt32 31)).toInt32) &&& (1431655765 : Int32))) &&& (858993459 : Int32)) + ((((p0 - (((p0.toUInt32 >>> ((1 : Int32).toUInt32 &&& Int32.toUInt32 31)).toInt32) &&& (1431655765 : Int32))).toUInt32 >>> ((2 : Int32).toUInt32 &&& Int32.toUInt32 31)).toInt32) &&& (858993459 : Int32))).toUInt32 >>> ((4 : Int32).toUInt32 &&& Int32.toUInt32 31)).toInt32)) &&& (252645135 : Int32)).toUInt32 >>> ((8 : Int32).toUInt32 &&& Int32.toUInt32 31)).toInt32)) + ((((((((p0 - (((p0.toUInt32 >>> ((1 : Int32).toUInt32 &&& Int32.toUInt32 31)).toInt32) &&& (1431655765 : Int32))) &&& (858993459 : Int32)) + ((((p0 - (((p0.toUInt32 >>> ((1 : Int32).toUInt32 &&& Int32.toUInt32 31)).toInt32) &&& (1431655765 : Int32))).toUInt32 >>> ((2 : Int32).toUInt32 &&& Int32.toUInt32 31)).toInt32) &&& (858993459 : Int32))) + (((((p0 - (((p0.toUInt32 >>> ((1 : Int32).toUInt32 &&& Int32.toUInt32 31)).toInt32) &&& (1431655765 : Int32))) &&& (858993459 : Int32)) + ((((p0 - (((p0.toUInt32 >>> ((1 : Int32).toUInt32 &&& Int32.toUInt32 31)).toInt32) &&& (1431655765 : Int32))).toUInt32 >>> ((2 : Int32).toUInt32 &&& Int32.toUInt32 31)).toInt32) &&& (858993459 : Int32))).toUInt32 >>> ((4 : Int32).toUInt32 &&& Int32.toUInt32 31)).toInt32)) &&& (252645135 : Int32)) + (((((((p0 - (((p0.toUInt32 >>> ((1 : Int32).toUInt32 &&& Int32.toUInt32 31)).toInt32) &&& (1431655765 : Int32))) &&& (858993459 : Int32)) + ((((p0 - (((p0.toUInt32 >>> ((1 : Int32).toUInt32 &&& Int32.toUInt32 31)).toInt32) &&& (1431655765 : Int32))).toUInt32 >>> ((2 : Int32).toUInt32 &&& Int32.toUInt32 31)).toInt32) &&& (858993459 : Int32))) + (((((p0 - (((p0.toUInt32 >>> ((1 : Int32).toUInt32 &&& Int32.toUInt32 31)).toInt32) &&& (1431655765 : Int32))) &&& (858993459 : Int32)) + ((((p0 - (((p0.toUInt32 >>> ((1 : Int32).toUInt32 &&& Int32.toUInt32 31)).toInt32) &&& (1431655765 : Int32))).toUInt32 >>> ((2 : Int32).toUInt32 &&& Int32.toUInt32 31)).toInt32) &&& (858993459 : Int32))).toUInt32 >>> ((4 : Int32).toUInt32 &&& Int32.toUInt32 31)).toInt32)) &&& (252645135 : Int32)).toUInt32 >>> ((8 : Int32).toUInt32 &&& Int32.toUInt32 31)).toInt32)).toUInt32 >>> ((16 : Int32).toUInt32 &&& Int32.toUInt32 31)).toInt32)))]) hx hb dJ6_bitCount_0f7a4_47 rfl hl (by decide) rfl (fun ls hl => ?_)
  refine lv_iload_n hx hb dJ6_bitCount_0f7a4_48 rfl (lv_at hl 0 rfl) ?_
  refine lv_bipush (v := 63) hx hb dJ6_bitCount_0f7a4_49 (by decide) ?_
  refine lv_iand hx hb dJ6_bitCount_0f7a4_51 ?_
  have hR := so_s hf
  subst hR
  refine z_iret X hr hlocks ?_ dJ6_bitCount_0f7a4_52
  exact Z.eq rfl
def f_J7_fill_53178_L5 (an : Nat) (x1 : Int32) (x3 : Int32) : Nat → Int32 → (Nat → Int32) → Option ((Nat → Int32))
  | 0, _, _ => none
  | n + 1, x2, a_h => if x3 ≤ x2 then (some a_h) else (if x2 < 0 ∨ an ≤ x2.toNatClampNeg then none else (f_J7_fill_53178_L5 an x1 x3 n (x2 + (1 : Int32)) (upd a_h x2.toNatClampNeg x1)))
set_option maxHeartbeats 4000000 in
set_option maxRecDepth 100000 in
theorem w_J7_fill_53178_L5 {p : Program} {l : Launch} {e : Env} {s : State} {m : MethodId} {args : Array Value} {below : List Frame} {meth : Method} {c : Code} {D : va_G} {cI cR : ClassId} {A : Nat → Prop} {a0 : Nat} {an : Nat} {x1 : Int32} {x3 : Int32} {R : (Nat → Int32)} (X : zX p s m c cJ7_fill_53178 4 args RJ7 D cI cR A) (hr : meth.sig.returnType = none) (hlocks : meth.locks = false) : ∀ (n : Nat)  {x2 : Int32} {a_h : (Nat → Int32)} {H : Heap} {locs : List Loc} {ls : Array Slot}, f_J7_fill_53178_L5 an x1 x3 n x2 a_h = some R → zW D A s [[(a0, .inl (cI, an, .inl a_h))]] H locs → lv_has ls 4 [(0, .ref a0), (1, .int x1), (2, .int x2), (3, .int x3)] → W p l e ({ frames := 0, cells := 0, slots := 0, locals := 0 } : Room) s m args below meth c H locs 0 0 (zE D A below s args none [[(a0, .inl (cI, an, .inl R))]]) (F0 m 5 ls []) := by
  have hx := X.1.1
  have hb := X.1.2.1
  intro n
  induction n with
  | zero =>
    intro x2 a_h H locs ls hf
    have hf : none = some R := hf
    cases hf
  | succ n ih =>
    intro x2 a_h H locs ls hf Z hl
    refine lv_iload_n hx hb dJ7_fill_53178_5 rfl (lv_at hl 2 rfl) ?_
    refine lv_iload_n hx hb dJ7_fill_53178_6 rfl (lv_at hl 3 rfl) ?_
    refine lv_icmp_ge (tgt := 20) hx hb dJ7_fill_53178_7 (by decide) (fun c1 => ?_) (fun c1 => ?_)
    · have hf := it_t c1 hf
      have hR := so_s hf
      subst hR
      refine z_vret X hr hlocks ?_ dJ7_fill_53178_20
      exact Z.eq rfl
    · have hf := it_f c1 hf
      refine lv_aload_n hx hb dJ7_fill_53178_10 rfl (lv_at hl 0 rfl) ?_
      refine lv_iload_n hx hb dJ7_fill_53178_11 rfl (lv_at hl 2 rfl) ?_
      refine lv_iload_n hx hb dJ7_fill_53178_12 rfl (lv_at hl 1 rfl) ?_
      obtain ⟨i2, hf⟩ := in_s hf
      refine z_st (j := x2.toNatClampNeg) X Z 0 rfl i2 rfl [[(a0, .inl (cI, an, .inl (upd a_h x2.toNatClampNeg x1)))]] rfl dJ7_fill_53178_13 (fun H locs Z => ?_)
      refine lv_iinc (v := x2 + (1 : Int32)) (lv' := [(2, .int (x2 + (1 : Int32))), (0, .ref a0), (1, .int x1), (3, .int x3)]) hx hb dJ7_fill_53178_14 hl (k := 2) rfl rfl (by decide) rfl (fun ls hl => ?_)
      refine lv_goto (tgt := 5) hx hb dJ7_fill_53178_17 (by decide) ?_
      exact ih hf Z (lv_sub hl [1, 2, 0, 3] rfl)

def f_J7_fill_53178 (an : Nat) (a_h : (Nat → Int32)) (p1 : Int32) : Option ((Nat → Int32)) := f_J7_fill_53178_L5 an p1 (Int32.ofNat an) zF (0 : Int32) a_h
set_option maxHeartbeats 4000000 in
set_option maxRecDepth 100000 in
theorem c_J7_fill_53178 (l : Launch) (D : va_G) (cI cR : ClassId) (a0 : Nat) (an : Nat) (a_h : (Nat → Int32)) (p1 : Int32) {R : (Nat → Int32)} (hf : f_J7_fill_53178 an a_h p1 = some R) : zM l D cI cR yJ7_fill_53178 cJ7_fill_53178 4 none 0 0 [.ref a0, .int p1] [[(a0, .inl (cI, an, .inl a_h))]] none [[(a0, .inl (cI, an, .inl R))]] := by
  refine z_of (own := RJ7) rfl (by decide) (Nat.le_of_ble_eq_true rfl) ?_
  intro p e s m args below meth c A ls X hr hlocks Z hl
  have hx := X.1.1
  have hb := X.1.2.1
  have Z : zW D A s [[(a0, .inl (cI, an, .inl a_h))]] s.heap [] := Z
  have hl : lv_has ls 4 [(0, .ref a0), (1, .int p1)] := hl
  refine lv_iconst (v := 0) hx hb dJ7_fill_53178_0 (by decide) ?_
  refine lv_istore_n (lv' := [(2, .int (0 : Int32)), (0, .ref a0), (1, .int p1)]) hx hb dJ7_fill_53178_1 rfl hl (by decide) rfl (fun ls hl => ?_)
  refine lv_aload_n hx hb dJ7_fill_53178_2 rfl (lv_at hl 1 rfl) ?_
  refine z_alen  X Z 0 rfl rfl dJ7_fill_53178_3 ?_
  refine lv_istore_n (lv' := [(3, .int (Int32.ofNat an)), (2, .int (0 : Int32)), (0, .ref a0), (1, .int p1)]) hx hb dJ7_fill_53178_4 rfl hl (by decide) rfl (fun ls hl => ?_)
  exact w_J7_fill_53178_L5 X hr hlocks _ hf Z (lv_sub hl [2, 3, 1, 0] rfl)
