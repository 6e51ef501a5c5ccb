def f_X2_append (a_codes : (Nat → Int32)) (a_length : Int32) (p1 : Int32) : Option ((Nat → Int32) × Int32) := (f_X7_setAt 30 a_codes a_length p1).bind (fun q1 => some (q1, a_length + (1 : Int32)))
set_option maxHeartbeats 4000000 in
set_option maxRecDepth 100000 in
theorem c_X2_append (l : Launch) (D : va_G) (cI cR : ClassId) (a0 : Nat) (a1 : Nat) (a_codes : (Nat → Int32)) (a_length : Int32) (p1 : Int32) {R : (Nat → Int32) × Int32} (hf : f_X2_append a_codes a_length p1 = some R) : zM l D cI cR yX2_append cX2_append 2 none 1 22 [.ref a0, .int p1] [w_X2 cI cR a0 a1 a_codes a_length] none [w_X2 cI cR a0 a1 R.1 R.2] := by
  refine z_of (own := RX2) rfl (by decide) (Nat.le_of_ble_eq_true rfl) ?_
  intro p e s m args below meth c A ls X hr hlocks Z hl
  have hx := X.1.1
  have hb := X.1.2.1
  have Z : zW D A s [w_X2 cI cR a0 a1 a_codes a_length] s.heap [] := Z
  have hl : lv_has ls 2 [(0, .ref a0), (1, .int p1)] := hl
  refine lv_aload_n hx hb dX2_append_0 rfl (lv_at hl 0 rfl) ?_
  refine zg_X2_9 X Z 0 rfl rfl dX2_append_1 ?_
  refine lv_aload_n hx hb dX2_append_4 rfl (lv_at hl 0 rfl) ?_
  refine zg_X2_15 X Z 0 rfl rfl dX2_append_5 ?_
  refine lv_iload_n hx hb dX2_append_8 rfl (lv_at hl 1 rfl) ?_
  have Z : zW D A s [[(a0, .inr (2, [.ref a1, .int a_length]))], [(a1, .inl (cI, 30, .inl a_codes))]] _ _ := Z.eq rfl
  obtain ⟨q1, hq1, hf⟩ := ob_s hf
  refine z_callSN X Z (c_X7_setAt l D cI cR a1 30 a_codes a_length p1 hq1) (zw_X2_19 X.2.1 X.1.2.2.2.2 ⟨Nat.le_of_ble_eq_true rfl, Nat.le_of_ble_eq_true rfl⟩) [1] [0] [[(a0, .inr (2, [.ref a1, .int a_length]))], [(a1, .inl (cI, 30, .inl q1))]] (by decide : ([1] ++ [0] : List Nat).Perm (List.range 2)) rfl rfl rfl rfl rfl hl.1 rfl (Nat.le_of_ble_eq_true rfl) dX2_append_9 ⟨Nat.le_of_ble_eq_true rfl, Nat.le_of_ble_eq_true rfl⟩ (fun H locs Z => ?_)
  refine lv_aload_n hx hb dX2_append_12 rfl (lv_at hl 0 rfl) ?_
  refine lv_dup hx hb dX2_append_13 rfl ?_
  refine zg_X2_15 X Z 0 rfl rfl dX2_append_14 ?_
  refine lv_iconst (v := 1) hx hb dX2_append_17 (by decide) ?_
  refine lv_iadd hx hb dX2_append_18 ?_
  refine zp_X2_15 X Z 0 rfl (Nat.le_of_ble_eq_true rfl) [[(a0, .inr (2, [.ref a1, .int (a_length + (1 : Int32))]))], [(a1, .inl (cI, 30, .inl q1))]] rfl dX2_append_19 (fun H locs Z => ?_)
  have hR := so_s hf
  subst hR
  refine z_vret X hr hlocks ?_ dX2_append_22
  exact Z.eq rfl
def f_X2_clear (a_length : Int32) : Option (Int32) := some (0 : Int32)
set_option maxHeartbeats 4000000 in
set_option maxRecDepth 100000 in
theorem c_X2_clear (l : Launch) (D : va_G) (cI cR : ClassId) (a0 : Nat) (a1 : Nat) (a_codes : (Nat → Int32)) (a_length : Int32) {R : Int32} (hf : f_X2_clear a_length = some R) : zM l D cI cR yX2_clear cX2_clear 1 none 0 0 [.ref a0] [w_X2 cI cR a0 a1 a_codes a_length] none [w_X2 cI cR a0 a1 a_codes R] := by
  refine z_of (own := RX2) rfl (by decide) (Nat.le_of_ble_eq_true rfl) ?_
  intro p e s m args below meth c A ls X hr hlocks Z hl
  have hx := X.1.1
  have hb := X.1.2.1
  have Z : zW D A s [w_X2 cI cR a0 a1 a_codes a_length] s.heap [] := Z
  have hl : lv_has ls 1 [(0, .ref a0)] := hl
  refine lv_aload_n hx hb dX2_clear_0 rfl (lv_at hl 0 rfl) ?_
  refine lv_iconst (v := 0) hx hb dX2_clear_1 (by decide) ?_
  refine zp_X2_15 X Z 0 rfl (Nat.le_of_ble_eq_true rfl) [w_X2 cI cR a0 a1 a_codes (0 : Int32)] rfl dX2_clear_2 (fun H locs Z => ?_)
  have hR := so_s hf
  subst hR
  refine z_vret X hr hlocks ?_ dX2_clear_5
  exact Z.eq rfl
def f_X2_codeAt (a_codes : (Nat → Int32)) (p1 : Int32) : Option (Int32) := (f_X7_valueAt 30 a_codes p1).bind (fun q1 => some q1)
set_option maxHeartbeats 4000000 in
set_option maxRecDepth 100000 in
theorem c_X2_codeAt (l : Launch) (D : va_G) (cI cR : ClassId) (a0 : Nat) (a1 : Nat) (a_codes : (Nat → Int32)) (a_length : Int32) (p1 : Int32) {R : Int32} (hf : f_X2_codeAt a_codes p1 = some R) : zM l D cI cR yX2_codeAt cX2_codeAt 2 (some .int) 1 21 [.ref a0, .int p1] [w_X2 cI cR a0 a1 a_codes a_length] (some (.int R)) [w_X2 cI cR a0 a1 a_codes a_length] := by
  refine z_of (own := RX2) rfl (by decide) (Nat.le_of_ble_eq_true rfl) ?_
  intro p e s m args below meth c A ls X hr hlocks Z hl
  have hx := X.1.1
  have hb := X.1.2.1
  have Z : zW D A s [w_X2 cI cR a0 a1 a_codes a_length] s.heap [] := Z
  have hl : lv_has ls 2 [(0, .ref a0), (1, .int p1)] := hl
  refine lv_aload_n hx hb dX2_codeAt_0 rfl (lv_at hl 0 rfl) ?_
  refine zg_X2_9 X Z 0 rfl rfl dX2_codeAt_1 ?_
  refine lv_iload_n hx hb dX2_codeAt_4 rfl (lv_at hl 1 rfl) ?_
  have Z : zW D A s [[(a0, .inr (2, [.ref a1, .int a_length]))], [(a1, .inl (cI, 30, .inl a_codes))]] _ _ := Z.eq rfl
  obtain ⟨q1, hq1, hf⟩ := ob_s hf
  refine z_roSN X Z (c_X7_valueAt l D cI cR a1 30 a_codes p1 hq1) (zw_X2_23 X.2.1 X.1.2.2.2.2 ⟨Nat.le_of_ble_eq_true rfl, Nat.le_of_ble_eq_true rfl⟩) [1] [0] (by decide : ([1] ++ [0] : List Nat).Perm (List.range 2)) rfl rfl hl.1 rfl (Nat.le_of_ble_eq_true rfl) dX2_codeAt_5 ⟨Nat.le_of_ble_eq_true rfl, Nat.le_of_ble_eq_true rfl⟩ (fun H locs Z => ?_)
  have hR := so_s hf
  subst hR
  refine z_iret X hr hlocks ?_ dX2_codeAt_8
  exact Z.eq rfl
def f_X2_digit (a_codes : (Nat → Int32)) (p1 : Int32) : Option (Int32) := (f_X2_codeAt a_codes p1).bind (fun q1 => some (q1 - (48 : Int32)))
set_option maxHeartbeats 4000000 in
set_option maxRecDepth 100000 in
theorem c_X2_digit (l : Launch) (D : va_G) (cI cR : ClassId) (a0 : Nat) (a1 : Nat) (a_codes : (Nat → Int32)) (a_length : Int32) (p1 : Int32) {R : Int32} (hf : f_X2_digit a_codes p1 = some R) : zM l D cI cR yX2_digit cX2_digit 2 (some .int) 2 42 [.ref a0, .int p1] [w_X2 cI cR a0 a1 a_codes a_length] (some (.int R)) [w_X2 cI cR a0 a1 a_codes a_length] := by
  refine z_of (own := RX2) rfl (by decide) (Nat.le_of_ble_eq_true rfl) ?_
  intro p e s m args below meth c A ls X hr hlocks Z hl
  have hx := X.1.1
  have hb := X.1.2.1
  have Z : zW D A s [w_X2 cI cR a0 a1 a_codes a_length] s.heap [] := Z
  have hl : lv_has ls 2 [(0, .ref a0), (1, .int p1)] := hl
  refine lv_aload_n hx hb dX2_digit_0 rfl (lv_at hl 0 rfl) ?_
  refine lv_iload_n hx hb dX2_digit_1 rfl (lv_at hl 1 rfl) ?_
  obtain ⟨q1, hq1, hf⟩ := ob_s hf
  refine z_roV X Z (c_X2_codeAt l D cI cR a0 a1 a_codes a_length p1 hq1) (zw_X2_27 X.1.2.2.2.2 ⟨Nat.le_of_ble_eq_true rfl, Nat.le_of_ble_eq_true rfl⟩) 0 2 rfl rfl rfl [0] [] (by decide : ([0] ++ [] : List Nat).Perm (List.range 1)) rfl rfl hl.1 rfl (Nat.le_of_ble_eq_true rfl) dX2_digit_2 ⟨Nat.le_of_ble_eq_true rfl, Nat.le_of_ble_eq_true rfl⟩ (fun H locs Z => ?_)
  refine lv_bipush (v := 48) hx hb dX2_digit_5 (by decide) ?_
  refine lv_isub hx hb dX2_digit_7 ?_
  have hR := so_s hf
  subst hR
  refine z_iret X hr hlocks ?_ dX2_digit_8
  exact Z.eq rfl
def f_X2_isHeightAt (a_codes : (Nat → Int32)) (p1 : Int32) : Option (Int32) := (f_X2_codeAt a_codes p1).bind (fun q1 => (f_X7_isHeight q1).bind (fun q2 => some q2))
set_option maxHeartbeats 4000000 in
set_option maxRecDepth 100000 in
theorem c_X2_isHeightAt (l : Launch) (D : va_G) (cI cR : ClassId) (a0 : Nat) (a1 : Nat) (a_codes : (Nat → Int32)) (a_length : Int32) (p1 : Int32) {R : Int32} (hf : f_X2_isHeightAt a_codes p1 = some R) : zM l D cI cR yX2_isHeightAt cX2_isHeightAt 2 (some .boolean) 2 42 [.ref a0, .int p1] [w_X2 cI cR a0 a1 a_codes a_length] (some (.int R)) [w_X2 cI cR a0 a1 a_codes a_length] := by
  refine z_of (own := RX2) rfl (by decide) (Nat.le_of_ble_eq_true rfl) ?_
  intro p e s m args below meth c A ls X hr hlocks Z hl
  have hx := X.1.1
  have hb := X.1.2.1
  have Z : zW D A s [w_X2 cI cR a0 a1 a_codes a_length] s.heap [] := Z
  have hl : lv_has ls 2 [(0, .ref a0), (1, .int p1)] := hl
  refine lv_aload_n hx hb dX2_isHeightAt_0 rfl (lv_at hl 0 rfl) ?_
  refine lv_iload_n hx hb dX2_isHeightAt_1 rfl (lv_at hl 1 rfl) ?_
  obtain ⟨q1, hq1, hf⟩ := ob_s hf
  refine z_roV X Z (c_X2_codeAt l D cI cR a0 a1 a_codes a_length p1 hq1) (zw_X2_27 X.1.2.2.2.2 ⟨Nat.le_of_ble_eq_true rfl, Nat.le_of_ble_eq_true rfl⟩) 0 2 rfl rfl rfl [0] [] (by decide : ([0] ++ [] : List Nat).Perm (List.range 1)) rfl rfl hl.1 rfl (Nat.le_of_ble_eq_true rfl) dX2_isHeightAt_2 ⟨Nat.le_of_ble_eq_true rfl, Nat.le_of_ble_eq_true rfl⟩ (fun H locs Z => ?_)
  obtain ⟨q2, hq2, hf⟩ := ob_s hf
  refine z_roSN X Z (c_X7_isHeight l D cI cR   q1 hq2) (zw_X2_31 X.2.1 X.1.2.2.2.2 ⟨Nat.le_of_ble_eq_true rfl, Nat.le_of_ble_eq_true rfl⟩) [] [0] (by decide : ([] ++ [0] : List Nat).Perm (List.range 1)) rfl rfl hl.1 rfl (Nat.le_of_ble_eq_true rfl) dX2_isHeightAt_5 ⟨Nat.le_of_ble_eq_true rfl, Nat.le_of_ble_eq_true rfl⟩ (fun H locs Z => ?_)
  have hR := so_s hf
  subst hR
  refine z_zret X hr hlocks (b_X7_isHeight hq2) ?_ dX2_isHeightAt_8
  exact Z.eq rfl
theorem b_X2_isHeightAt {a_codes : (Nat → Int32)} {p1 : Int32} {R : Int32} (hf : f_X2_isHeightAt a_codes p1 = some R) : R = 0 ∨ R = 1 := by
  obtain ⟨q1, hq1, hf⟩ := ob_s hf
  obtain ⟨q2, hq2, hf⟩ := ob_s hf
  have hR := so_s hf
  subst hR
  exact (b_X7_isHeight hq2)
def f_X2_canStand (a_codes : (Nat → Int32)) (p1 : Int32) (p2 : Int32) : Option (Int32) := (f_X2_codeAt a_codes p1).bind (fun q1 => if p1 = 0 then (if q1 = (48 : Int32) then (some (1 : Int32)) else (if q1 = (49 : Int32) then (some (1 : Int32)) else (some (0 : Int32)))) else (if p1 = (1 : Int32) then (if q1 = (58 : Int32) then (some (1 : Int32)) else (some (0 : Int32))) else (if q1 = (112 : Int32) then ((f_X2_isHeightAt a_codes (p1 - (1 : Int32))).bind (fun q8 => if q8 = 0 then (some (0 : Int32)) else ((f_X2_digit a_codes (p1 - (1 : Int32))).bind (fun q10 => if q10 = 0 then (some (0 : Int32)) else (some (1 : Int32)))))) else ((f_X7_isHeight q1).bind (fun q5 => if q5 = 0 then (some (0 : Int32)) else (if (8 : Int32) ≤ p2 then (some (0 : Int32)) else (some (1 : Int32))))))))
set_option maxHeartbeats 4000000 in
set_option maxRecDepth 100000 in
theorem c_X2_canStand (l : Launch) (D : va_G) (cI cR : ClassId) (a0 : Nat) (a1 : Nat) (a_codes : (Nat → Int32)) (a_length : Int32) (p1 : Int32) (p2 : Int32) {R : Int32} (hf : f_X2_canStand a_codes p1 p2 = some R) : zM l D cI cR yX2_canStand cX2_canStand 4 (some .boolean) 3 63 [.ref a0, .int p1, .int p2] [w_X2 cI cR a0 a1 a_codes a_length] (some (.int R)) [w_X2 cI cR a0 a1 a_codes a_length] := by
  refine z_of (own := RX2) rfl (by decide) (Nat.le_of_ble_eq_true rfl) ?_
  intro p e s m args below meth c A ls X hr hlocks Z hl
  have hx := X.1.1
  have hb := X.1.2.1
  have Z : zW D A s [w_X2 cI cR a0 a1 a_codes a_length] s.heap [] := Z
  have hl : lv_has ls 4 [(0, .ref a0), (1, .int p1), (2, .int p2)] := hl
  refine lv_aload_n hx hb dX2_canStand_0 rfl (lv_at hl 0 rfl) ?_
  refine lv_iload_n hx hb dX2_canStand_1 rfl (lv_at hl 1 rfl) ?_
  obtain ⟨q1, hq1, hf⟩ := ob_s hf
  refine z_roV X Z (c_X2_codeAt l D cI cR a0 a1 a_codes a_length p1 hq1) (zw_X2_27 X.1.2.2.2.2 ⟨Nat.le_of_ble_eq_true rfl, Nat.le_of_ble_eq_true rfl⟩) 0 2 rfl rfl rfl [0] [] (by decide : ([0] ++ [] : List Nat).Perm (List.range 1)) rfl rfl hl.1 rfl (Nat.le_of_ble_eq_true rfl) dX2_canStand_2 ⟨Nat.le_of_ble_eq_true rfl, Nat.le_of_ble_eq_true rfl⟩ (fun H locs Z => ?_)
  refine lv_istore_n (lv' := [(3, .int q1), (0, .ref a0), (1, .int p1), (2, .int p2)]) hx hb dX2_canStand_5 rfl hl (by decide) rfl (fun ls hl => ?_)
  refine lv_iload_n hx hb dX2_canStand_6 rfl (lv_at hl 2 rfl) ?_
  refine lv_if_ne (tgt := 28) hx hb dX2_canStand_7 (by decide) (fun c2 => ?_) (fun c2 => ?_)
  · have hf := it_f c2 hf
    refine lv_iload_n hx hb dX2_canStand_28 rfl (lv_at hl 2 rfl) ?_
    refine lv_iconst (v := 1) hx hb dX2_canStand_29 (by decide) ?_
    refine lv_icmp_ne (tgt := 45) hx hb dX2_canStand_30 (by decide) (fun c3 => ?_) (fun c3 => ?_)
    · have hf := it_f c3 hf
      refine lv_iload_n hx hb dX2_canStand_45 rfl (lv_at hl 0 rfl) ?_
      refine lv_bipush (v := 112) hx hb dX2_canStand_46 (by decide) ?_
      refine lv_icmp_ne (tgt := 77) hx hb dX2_canStand_48 (by decide) (fun c4 => ?_) (fun c4 => ?_)
      · have hf := it_f c4 hf
        refine lv_iload_n hx hb dX2_canStand_77 rfl (lv_at hl 0 rfl) ?_
        obtain ⟨q5, hq5, hf⟩ := ob_s hf
        refine z_roSN X Z (c_X7_isHeight l D cI cR   q1 hq5) (zw_X2_31 X.2.1 X.1.2.2.2.2 ⟨Nat.le_of_ble_eq_true rfl, Nat.le_of_ble_eq_true rfl⟩) [] [0] (by decide : ([] ++ [0] : List Nat).Perm (List.range 1)) rfl rfl hl.1 rfl (Nat.le_of_ble_eq_true rfl) dX2_canStand_78 ⟨Nat.le_of_ble_eq_true rfl, Nat.le_of_ble_eq_true rfl⟩ (fun H locs Z => ?_)
        refine lv_if_eq (tgt := 94) hx hb dX2_canStand_81 (by decide) (fun c6 => ?_) (fun c6 => ?_)
        · have hf := it_t c6 hf
          refine lv_iconst (v := 0) hx hb dX2_canStand_94 (by decide) ?_
          have hR := so_s hf
          subst hR
          refine z_zret X hr hlocks (Or.inl rfl) ?_ dX2_canStand_95
          exact Z.eq rfl
        · have hf := it_f c6 hf
          refine lv_iload_n hx hb dX2_canStand_84 rfl (lv_at hl 3 rfl) ?_
          refine lv_bipush (v := 8) hx hb dX2_canStand_85 (by decide) ?_
          refine lv_icmp_ge (tgt := 94) hx hb dX2_canStand_87 (by decide) (fun c7 => ?_) (fun c7 => ?_)
          · have hf := it_t c7 hf
            refine lv_iconst (v := 0) hx hb dX2_canStand_94 (by decide) ?_
            have hR := so_s hf
            subst hR
            refine z_zret X hr hlocks (Or.inl rfl) ?_ dX2_canStand_95
            exact Z.eq rfl
          · have hf := it_f c7 hf
            refine lv_iconst (v := 1) hx hb dX2_canStand_90 (by decide) ?_
            refine lv_goto (tgt := 95) hx hb dX2_canStand_91 (by decide) ?_
            have hR := so_s hf
            subst hR
            refine z_zret X hr hlocks (Or.inr rfl) ?_ dX2_canStand_95
            exact Z.eq rfl
      · have hf := it_t c4 hf
        refine lv_aload_n hx hb dX2_canStand_51 rfl (lv_at hl 1 rfl) ?_
        refine lv_iload_n hx hb dX2_canStand_52 rfl (lv_at hl 2 rfl) ?_
        refine lv_iconst (v := 1) hx hb dX2_canStand_53 (by decide) ?_
        refine lv_isub hx hb dX2_canStand_54 ?_
        obtain ⟨q8, hq8, hf⟩ := ob_s hf
        refine z_roV X Z (c_X2_isHeightAt l D cI cR a0 a1 a_codes a_length (p1 - (1 : Int32)) hq8) (zw_X2_39 X.1.2.2.2.2 ⟨Nat.le_of_ble_eq_true rfl, Nat.le_of_ble_eq_true rfl⟩) 0 2 rfl rfl rfl [0] [] (by decide : ([0] ++ [] : List Nat).Perm (List.range 1)) rfl rfl hl.1 rfl (Nat.le_of_ble_eq_true rfl) dX2_canStand_55 ⟨Nat.le_of_ble_eq_true rfl, Nat.le_of_ble_eq_true rfl⟩ (fun H locs Z => ?_)
        refine lv_if_eq (tgt := 75) hx hb dX2_canStand_58 (by decide) (fun c9 => ?_) (fun c9 => ?_)
        · have hf := it_t c9 hf
          refine lv_iconst (v := 0) hx hb dX2_canStand_75 (by decide) ?_
          have hR := so_s hf
          subst hR
          refine z_zret X hr hlocks (Or.inl rfl) ?_ dX2_canStand_76
          exact Z.eq rfl
        · have hf := it_f c9 hf
          refine lv_aload_n hx hb dX2_canStand_61 rfl (lv_at hl 1 rfl) ?_
          refine lv_iload_n hx hb dX2_canStand_62 rfl (lv_at hl 2 rfl) ?_
          refine lv_iconst (v := 1) hx hb dX2_canStand_63 (by decide) ?_
          refine lv_isub hx hb dX2_canStand_64 ?_
          obtain ⟨q10, hq10, hf⟩ := ob_s hf
          refine z_roV X Z (c_X2_digit l D cI cR a0 a1 a_codes a_length (p1 - (1 : Int32)) hq10) (zw_X2_42 X.1.2.2.2.2 ⟨Nat.le_of_ble_eq_true rfl, Nat.le_of_ble_eq_true rfl⟩) 0 2 rfl rfl rfl [0] [] (by decide : ([0] ++ [] : List Nat).Perm (List.range 1)) rfl rfl hl.1 rfl (Nat.le_of_ble_eq_true rfl) dX2_canStand_65 ⟨Nat.le_of_ble_eq_true rfl, Nat.le_of_ble_eq_true rfl⟩ (fun H locs Z => ?_)
          refine lv_if_eq (tgt := 75) hx hb dX2_canStand_68 (by decide) (fun c11 => ?_) (fun c11 => ?_)
          · have hf := it_t c11 hf
            refine lv_iconst (v := 0) hx hb dX2_canStand_75 (by decide) ?_
            have hR := so_s hf
            subst hR
            refine z_zret X hr hlocks (Or.inl rfl) ?_ dX2_canStand_76
            exact Z.eq rfl
          · have hf := it_f c11 hf
            refine lv_iconst (v := 1) hx hb dX2_canStand_71 (by decide) ?_
            refine lv_goto (tgt := 76) hx hb dX2_canStand_72 (by decide) ?_
            have hR := so_s hf
            subst hR
            refine z_zret X hr hlocks (Or.inr rfl) ?_ dX2_canStand_76
            exact Z.eq rfl
    · have hf := it_t c3 hf
      refine lv_iload_n hx hb dX2_canStand_33 rfl (lv_at hl 0 rfl) ?_
      refine lv_bipush (v := 58) hx hb dX2_canStand_34 (by decide) ?_
      refine lv_icmp_ne (tgt := 43) hx hb dX2_canStand_36 (by decide) (fun c12 => ?_) (fun c12 => ?_)
      · have hf := it_f c12 hf
        refine lv_iconst (v := 0) hx hb dX2_canStand_43 (by decide) ?_
        have hR := so_s hf
        subst hR
        refine z_zret X hr hlocks (Or.inl rfl) ?_ dX2_canStand_44
        exact Z.eq rfl
      · have hf := it_t c12 hf
        refine lv_iconst (v := 1) hx hb dX2_canStand_39 (by decide) ?_
        refine lv_goto (tgt := 44) hx hb dX2_canStand_40 (by decide) ?_
        have hR := so_s hf
        subst hR
        refine z_zret X hr hlocks (Or.inr rfl) ?_ dX2_canStand_44
        exact Z.eq rfl
  · have hf := it_t c2 hf
    refine lv_iload_n hx hb dX2_canStand_10 rfl (lv_at hl 0 rfl) ?_
    refine lv_bipush (v := 48) hx hb dX2_canStand_11 (by decide) ?_
    refine lv_icmp_eq (tgt := 22) hx hb dX2_canStand_13 (by decide) (fun c13 => ?_) (fun c13 => ?_)
    · have hf := it_t c13 hf
      refine lv_iconst (v := 1) hx hb dX2_canStand_22 (by decide) ?_
      refine lv_goto (tgt := 27) hx hb dX2_canStand_23 (by decide) ?_
      have hR := so_s hf
      subst hR
      refine z_zret X hr hlocks (Or.inr rfl) ?_ dX2_canStand_27
      exact Z.eq rfl
    · have hf := it_f c13 hf
      refine lv_iload_n hx hb dX2_canStand_16 rfl (lv_at hl 0 rfl) ?_
      refine lv_bipush (v := 49) hx hb dX2_canStand_17 (by decide) ?_
      refine lv_icmp_ne (tgt := 26) hx hb dX2_canStand_19 (by decide) (fun c14 => ?_) (fun c14 => ?_)
      · have hf := it_f c14 hf
        refine lv_iconst (v := 0) hx hb dX2_canStand_26 (by decide) ?_
        have hR := so_s hf
        subst hR
        refine z_zret X hr hlocks (Or.inl rfl) ?_ dX2_canStand_27
        exact Z.eq rfl
      · have hf := it_t c14 hf
        refine lv_iconst (v := 1) hx hb dX2_canStand_22 (by decide) ?_
        refine lv_goto (tgt := 27) hx hb dX2_canStand_23 (by decide) ?_
        have hR := so_s hf
        subst hR
        refine z_zret X hr hlocks (Or.inr rfl) ?_ dX2_canStand_27
        exact Z.eq rfl
theorem b_X2_canStand {a_codes : (Nat → Int32)} {p1 : Int32} {p2 : Int32} {R : Int32} (hf : f_X2_canStand a_codes p1 p2 = some R) : R = 0 ∨ R = 1 := by
  obtain ⟨q1, hq1, hf⟩ := ob_s hf
  rcases Decidable.em (p1 = 0) with c2 | c2
  · have hf := it_t c2 hf
    rcases Decidable.em (q1 = (48 : Int32)) with c13 | c13
    · have hf := it_t c13 hf
      have hR := so_s hf
      subst hR
      exact (Or.inr rfl)
    · have hf := it_f c13 hf
      rcases Decidable.em (q1 = (49 : Int32)) with c14 | c14
      · have hf := it_t c14 hf
        have hR := so_s hf
        subst hR
        exact (Or.inr rfl)
      · have hf := it_f c14 hf
        have hR := so_s hf
        subst hR
        exact (Or.inl rfl)
  · have hf := it_f c2 hf
    rcases Decidable.em (p1 = (1 : Int32)) with c3 | c3
    · have hf := it_t c3 hf
      rcases Decidable.em (q1 = (58 : Int32)) with c12 | c12
      · have hf := it_t c12 hf
        have hR := so_s hf
        subst hR
        exact (Or.inr rfl)
      · have hf := it_f c12 hf
        have hR := so_s hf
        subst hR
        exact (Or.inl rfl)
    · have hf := it_f c3 hf
      rcases Decidable.em (q1 = (112 : Int32)) with c4 | c4
      · have hf := it_t c4 hf
        obtain ⟨q8, hq8, hf⟩ := ob_s hf
        rcases Decidable.em (q8 = 0) with c9 | c9
        · have hf := it_t c9 hf
          have hR := so_s hf
          subst hR
          exact (Or.inl rfl)
        · have hf := it_f c9 hf
          obtain ⟨q10, hq10, hf⟩ := ob_s hf
          rcases Decidable.em (q10 = 0) with c11 | c11
          · have hf := it_t c11 hf
            have hR := so_s hf
            subst hR
            exact (Or.inl rfl)
          · have hf := it_f c11 hf
            have hR := so_s hf
            subst hR
            exact (Or.inr rfl)
      · have hf := it_f c4 hf
        obtain ⟨q5, hq5, hf⟩ := ob_s hf
        rcases Decidable.em (q5 = 0) with c6 | c6
        · have hf := it_t c6 hf
          have hR := so_s hf
          subst hR
          exact (Or.inl rfl)
        · have hf := it_f c6 hf
          rcases Decidable.em ((8 : Int32) ≤ p2) with c7 | c7
          · have hf := it_t c7 hf
            have hR := so_s hf
            subst hR
            exact (Or.inl rfl)
          · have hf := it_f c7 hf
            have hR := so_s hf
            subst hR
            exact (Or.inr rfl)
def f_X2_programFault_L4 (a_codes : (Nat → Int32)) (a_length : Int32) : Nat → Int32 → Int32 → Option (Int32)
  | 0, _, _ => none
  | n + 1, x1, x2 => if a_length ≤ x2 then (if x1 = 0 then (some a_length) else (some (-6 : Int32))) else ((f_X2_canStand a_codes x2 x1).bind (fun q3 => if q3 = 0 then (some x2) else (if x2 < (2 : Int32) then (f_X2_programFault_L4 a_codes a_length n x1 (x2 + (1 : Int32)) ) else ((f_X2_isHeightAt a_codes x2).bind (fun q6 => if q6 = 0 then (f_X2_programFault_L4 a_codes a_length n x1 (x2 + (1 : Int32)) ) else (f_X2_programFault_L4 a_codes a_length n (x1 + (1 : Int32)) (x2 + (1 : Int32)) ))))))
set_option maxHeartbeats 4000000 in
set_option maxRecDepth 100000 in
theorem w_X2_programFault_L4 {p : Program} {l : Launch} {e : Env} {s : State} {m : MethodId} {args : Array Value} {below : List Frame} {meth : Method} {c : Code} {D : va_G} {cI cR : ClassId} {A : Nat → Prop} {a0 : Nat} {a1 : Nat} {a_codes : (Nat → Int32)} {a_length : Int32} {R : Int32} (X : zX p s m c cX2_programFault 3 args RX2 D cI cR A) (hr : meth.sig.returnType = (some .int)) (hlocks : meth.locks = false) : ∀ (n : Nat)  {x1 : Int32} {x2 : Int32} {H : Heap} {locs : List Loc} {ls : Array Slot}, f_X2_programFault_L4 a_codes a_length n x1 x2 = some R → zW D A s [w_X2 cI cR a0 a1 a_codes a_length] H locs → lv_has ls 3 [(0, .ref a0), (1, .int x1), (2, .int x2)] → W p l e ({ frames := 4, cells := 0, slots := 0, locals := 86 } : Room) s m args below meth c H locs 0 0 (zE D A below s args (some (.int R)) [w_X2 cI cR a0 a1 a_codes a_length]) (F0 m 4 ls []) := by
  have hx := X.1.1
  have hb := X.1.2.1
  intro n
  induction n with
  | zero =>
    intro x1 x2 H locs ls hf
    have hf : none = some R := hf
    cases hf
  | succ n ih =>
    intro x1 x2 H locs ls hf Z hl
    refine lv_iload_n hx hb dX2_programFault_4 rfl (lv_at hl 2 rfl) ?_
    refine lv_aload_n hx hb dX2_programFault_5 rfl (lv_at hl 0 rfl) ?_
    refine zg_X2_15 X Z 0 rfl rfl dX2_programFault_6 ?_
    refine lv_icmp_ge (tgt := 45) hx hb dX2_programFault_9 (by decide) (fun c1 => ?_) (fun c1 => ?_)
    · have hf := it_t c1 hf
      refine lv_iload_n hx hb dX2_programFault_45 rfl (lv_at hl 1 rfl) ?_
      refine lv_if_ne (tgt := 56) hx hb dX2_programFault_46 (by decide) (fun c2 => ?_) (fun c2 => ?_)
      · have hf := it_f c2 hf
        refine lv_bipush (v := -6) hx hb dX2_programFault_56 (by decide) ?_
        have hR := so_s hf
        subst hR
        refine z_iret X hr hlocks ?_ dX2_programFault_58
        exact Z.eq rfl
      · have hf := it_t c2 hf
        refine lv_aload_n hx hb dX2_programFault_49 rfl (lv_at hl 0 rfl) ?_
        refine zg_X2_15 X Z 0 rfl rfl dX2_programFault_50 ?_
        refine lv_goto (tgt := 58) hx hb dX2_programFault_53 (by decide) ?_
        have hR := so_s hf
        subst hR
        refine z_iret X hr hlocks ?_ dX2_programFault_58
        exact Z.eq rfl
    · have hf := it_f c1 hf
      refine lv_aload_n hx hb dX2_programFault_12 rfl (lv_at hl 0 rfl) ?_
      refine lv_iload_n hx hb dX2_programFault_13 rfl (lv_at hl 2 rfl) ?_
      refine lv_iload_n hx hb dX2_programFault_14 rfl (lv_at hl 1 rfl) ?_
      obtain ⟨q3, hq3, hf⟩ := ob_s hf
      refine z_roV X Z (c_X2_canStand l D cI cR a0 a1 a_codes a_length x2 x1 hq3) (zw_X2_35 X.1.2.2.2.2 ⟨Nat.le_of_ble_eq_true rfl, Nat.le_of_ble_eq_true rfl⟩) 0 2 rfl rfl rfl [0] [] (by decide : ([0] ++ [] : List Nat).Perm (List.range 1)) rfl rfl hl.1 rfl (Nat.le_of_ble_eq_true rfl) dX2_programFault_15 ⟨Nat.le_of_ble_eq_true rfl, Nat.le_of_ble_eq_true rfl⟩ (fun H locs Z => ?_)
      refine lv_if_ne (tgt := 23) hx hb dX2_programFault_18 (by decide) (fun c4 => ?_) (fun c4 => ?_)
      · have hf := it_f c4 hf
        refine lv_iload_n hx hb dX2_programFault_23 rfl (lv_at hl 2 rfl) ?_
        refine lv_iconst (v := 2) hx hb dX2_programFault_24 (by decide) ?_
        refine lv_icmp_lt (tgt := 39) hx hb dX2_programFault_25 (by decide) (fun c5 => ?_) (fun c5 => ?_)
        · have hf := it_t c5 hf
          refine lv_iinc (v := x2 + (1 : Int32)) (lv' := [(2, .int (x2 + (1 : Int32))), (0, .ref a0), (1, .int x1)]) hx hb dX2_programFault_39 hl (k := 2) rfl rfl (by decide) rfl (fun ls hl => ?_)
          refine lv_goto (tgt := 4) hx hb dX2_programFault_42 (by decide) ?_
          exact ih hf Z (lv_sub hl [1, 2, 0] rfl)
        · have hf := it_f c5 hf
          refine lv_aload_n hx hb dX2_programFault_28 rfl (lv_at hl 0 rfl) ?_
          refine lv_iload_n hx hb dX2_programFault_29 rfl (lv_at hl 2 rfl) ?_
          obtain ⟨q6, hq6, hf⟩ := ob_s hf
          refine z_roV X Z (c_X2_isHeightAt l D cI cR a0 a1 a_codes a_length x2 hq6) (zw_X2_39 X.1.2.2.2.2 ⟨Nat.le_of_ble_eq_true rfl, Nat.le_of_ble_eq_true rfl⟩) 0 2 rfl rfl rfl [0] [] (by decide : ([0] ++ [] : List Nat).Perm (List.range 1)) rfl rfl hl.1 rfl (Nat.le_of_ble_eq_true rfl) dX2_programFault_30 ⟨Nat.le_of_ble_eq_true rfl, Nat.le_of_ble_eq_true rfl⟩ (fun H locs Z => ?_)
          refine lv_if_eq (tgt := 39) hx hb dX2_programFault_33 (by decide) (fun c7 => ?_) (fun c7 => ?_)
          · have hf := it_t c7 hf
            refine lv_iinc (v := x2 + (1 : Int32)) (lv' := [(2, .int (x2 + (1 : Int32))), (0, .ref a0), (1, .int x1)]) hx hb dX2_programFault_39 hl (k := 2) rfl rfl (by decide) rfl (fun ls hl => ?_)
            refine lv_goto (tgt := 4) hx hb dX2_programFault_42 (by decide) ?_
            exact ih hf Z (lv_sub hl [1, 2, 0] rfl)
          · have hf := it_f c7 hf
            refine lv_iinc (v := x1 + (1 : Int32)) (lv' := [(1, .int (x1 + (1 : Int32))), (0, .ref a0), (2, .int x2)]) hx hb dX2_programFault_36 hl (k := 1) rfl rfl (by decide) rfl (fun ls hl => ?_)
            refine lv_iinc (v := x2 + (1 : Int32)) (lv' := [(2, .int (x2 + (1 : Int32))), (1, .int (x1 + (1 : Int32))), (0, .ref a0)]) hx hb dX2_programFault_39 hl (k := 2) rfl rfl (by decide) rfl (fun ls hl => ?_)
            refine lv_goto (tgt := 4) hx hb dX2_programFault_42 (by decide) ?_
            exact ih hf Z (lv_sub hl [2, 1, 0] rfl)
      · have hf := it_t c4 hf
        refine lv_iload_n hx hb dX2_programFault_21 rfl (lv_at hl 2 rfl) ?_
        have hR := so_s hf
        subst hR
        refine z_iret X hr hlocks ?_ dX2_programFault_22
        exact Z.eq rfl

def f_X2_programFault (a_codes : (Nat → Int32)) (a_length : Int32) : Option (Int32) := f_X2_programFault_L4 a_codes a_length zF (0 : Int32) (0 : Int32)
set_option maxHeartbeats 4000000 in
set_option maxRecDepth 100000 in
theorem c_X2_programFault (l : Launch) (D : va_G) (cI cR : ClassId) (a0 : Nat) (a1 : Nat) (a_codes : (Nat → Int32)) (a_length : Int32) {R : Int32} (hf : f_X2_programFault a_codes a_length = some R) : zM l D cI cR yX2_programFault cX2_programFault 3 (some .int) 4 86 [.ref a0] [w_X2 cI cR a0 a1 a_codes a_length] (some (.int R)) [w_X2 cI cR a0 a1 a_codes a_length] := by
  refine z_of (own := RX2) rfl (by decide) (Nat.le_of_ble_eq_true rfl) ?_
  intro p e s m args below meth c A ls X hr hlocks Z hl
  have hx := X.1.1
  have hb := X.1.2.1
  have Z : zW D A s [w_X2 cI cR a0 a1 a_codes a_length] s.heap [] := Z
  have hl : lv_has ls 3 [(0, .ref a0)] := hl
  refine lv_iconst (v := 0) hx hb dX2_programFault_0 (by decide) ?_
  refine lv_istore_n (lv' := [(1, .int (0 : Int32)), (0, .ref a0)]) hx hb dX2_programFault_1 rfl hl (by decide) rfl (fun ls hl => ?_)
  refine lv_iconst (v := 0) hx hb dX2_programFault_2 (by decide) ?_
  refine lv_istore_n (lv' := [(2, .int (0 : Int32)), (1, .int (0 : Int32)), (0, .ref a0)]) hx hb dX2_programFault_3 rfl hl (by decide) rfl (fun ls hl => ?_)
  exact w_X2_programFault_L4 X hr hlocks _ hf Z (lv_sub hl [2, 1, 0] rfl)
