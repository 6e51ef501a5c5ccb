def f_X7_start (a_now : ST) (a_history_rs : (Nat → ST)) (a_history_oldest : Int32) (a_history_size : Int32) (p1 : Int32) (p2 : Int32) : Option (Int32 × ST × (Nat → ST) × Int32 × Int32) := (f_X7_isWithin p1 (0 : Int32) (8 : Int32)).bind (fun q1 => if q1 = 0 then (some ((-2 : Int32), a_now, a_history_rs, a_history_oldest, a_history_size)) else ((f_X7_isWithin p2 (0 : Int32) (8 : Int32)).bind (fun q3 => if q3 = 0 then (some ((-2 : Int32), a_now, a_history_rs, a_history_oldest, a_history_size)) else ((f_X4_clubs a_now).bind (fun q5 => (f_X0_record a_history_rs a_history_oldest a_history_size a_now).bind (fun q6 => (f_X4_begin a_now p1 p2).bind (fun q7 => some (q5, q7, q6.1, q6.2.1, q6.2.2))))))))
set_option maxHeartbeats 4000000 in
set_option maxRecDepth 100000 in
theorem c_X7_start (l : Launch) (D : va_G) (cI cR : ClassId) (a : (Nat → Nat)) (a_now : ST) (a_ahead : ST) (a_pad_codes : (Nat → Int32)) (a_pad_length : Int32) (a_padPattern_heights : (Nat → Int32)) (a_padPattern_length : Int32) (a_ways_steps : (Nat → Int32)) (a_ways_firstThrows : (Nat → Int32)) (a_ways_lastThrows : (Nat → Int32)) (a_ways_reached : (Nat → Int32)) (a_ways_reachedCount : Int32) (a_history_rs : (Nat → ST)) (a_history_oldest : Int32) (a_history_size : Int32) (a_slotZero_kept : ST) (a_slotZero_filled : Int32) (a_slotOne_kept : ST) (a_slotOne_filled : Int32) (p1 : Int32) (p2 : Int32) {R : Int32 × ST × (Nat → ST) × Int32 × Int32} (hf : f_X7_start a_now a_history_rs a_history_oldest a_history_size p1 p2 = some R) : zM l D cI cR yX7_start cX7_start 4 (some .int) 5 107 [.ref (a 0), .int p1, .int p2] [w_X7 cI cR a a_now a_ahead a_pad_codes a_pad_length a_padPattern_heights a_padPattern_length a_ways_steps a_ways_firstThrows a_ways_lastThrows a_ways_reached a_ways_reachedCount a_history_rs a_history_oldest a_history_size a_slotZero_kept a_slotZero_filled a_slotOne_kept a_slotOne_filled] (some (.int R.1)) [w_X7 cI cR a R.2.1 a_ahead a_pad_codes a_pad_length a_padPattern_heights a_padPattern_length a_ways_steps a_ways_firstThrows a_ways_lastThrows a_ways_reached a_ways_reachedCount R.2.2.1 R.2.2.2.1 R.2.2.2.2 a_slotZero_kept a_slotZero_filled a_slotOne_kept a_slotOne_filled] := by
  refine z_of (own := RX7) rfl (by decide) (Nat.le_of_ble_eq_true rfl) ?_
  intro p e s m args below meth c A ls X hr hlocks Z hl
  have hx := X.1.1
  have hb := X.1.2.1
  have Z : zW D A s [w_X7 cI cR a a_now a_ahead a_pad_codes a_pad_length a_padPattern_heights a_padPattern_length a_ways_steps a_ways_firstThrows a_ways_lastThrows a_ways_reached a_ways_reachedCount a_history_rs a_history_oldest a_history_size a_slotZero_kept a_slotZero_filled a_slotOne_kept a_slotOne_filled] s.heap [] := Z
  have hl : lv_has ls 4 [(0, .ref (a 0)), (1, .int p1), (2, .int p2)] := hl
  refine lv_iload_n hx hb dX7_start_0 rfl (lv_at hl 1 rfl) ?_
  refine lv_iconst (v := 0) hx hb dX7_start_1 (by decide) ?_
  refine lv_bipush (v := 8) hx hb dX7_start_2 (by decide) ?_
  obtain ⟨q1, hq1, hf⟩ := ob_s hf
  refine z_roS X Z (c_X7_isWithin l D cI cR   p1 (0 : Int32) (8 : Int32) hq1) (zw_X7_57 X.1.2.2.2.2 ⟨Nat.le_of_ble_eq_true rfl, Nat.le_of_ble_eq_true rfl⟩) [] [0] (by decide : ([] ++ [0] : List Nat).Perm (List.range 1)) rfl rfl hl.1 rfl (Nat.le_of_ble_eq_true rfl) dX7_start_4 ⟨Nat.le_of_ble_eq_true rfl, Nat.le_of_ble_eq_true rfl⟩ (fun H locs Z => ?_)
  refine lv_if_eq (tgt := 20) hx hb dX7_start_7 (by decide) (fun c2 => ?_) (fun c2 => ?_)
  · have hf := it_t c2 hf
    refine lv_bipush (v := -2) hx hb dX7_start_20 (by decide) ?_
    have hR := so_s hf
    subst hR
    refine z_iret X hr hlocks ?_ dX7_start_22
    exact Z.eq rfl
  · have hf := it_f c2 hf
    refine lv_iload_n hx hb dX7_start_10 rfl (lv_at hl 2 rfl) ?_
    refine lv_iconst (v := 0) hx hb dX7_start_11 (by decide) ?_
    refine lv_bipush (v := 8) hx hb dX7_start_12 (by decide) ?_
    obtain ⟨q3, hq3, hf⟩ := ob_s hf
    refine z_roS X Z (c_X7_isWithin l D cI cR   p2 (0 : Int32) (8 : Int32) hq3) (zw_X7_57 X.1.2.2.2.2 ⟨Nat.le_of_ble_eq_true rfl, Nat.le_of_ble_eq_true rfl⟩) [] [0] (by decide : ([] ++ [0] : List Nat).Perm (List.range 1)) rfl rfl hl.1 rfl (Nat.le_of_ble_eq_true rfl) dX7_start_14 ⟨Nat.le_of_ble_eq_true rfl, Nat.le_of_ble_eq_true rfl⟩ (fun H locs Z => ?_)
    refine lv_if_ne (tgt := 23) hx hb dX7_start_17 (by decide) (fun c4 => ?_) (fun c4 => ?_)
    · have hf := it_f c4 hf
      refine lv_aload_n hx hb dX7_start_23 rfl (lv_at hl 0 rfl) ?_
      refine zg_X7_12 X Z 0 rfl rfl dX7_start_24 ?_
      have Z : zW D A s [[((a 0), .inr (7, [.ref (a 1), .ref (a 6), .ref (a 11), .ref (a 13), .ref (a 15), .ref (a 20), .ref (a 52), .ref (a 58)]))], w_X4 cI cR (a 1) (a 2) (a 3) (a 4) (a 5) a_now, w_X4 cI cR (a 6) (a 7) (a 8) (a 9) (a 10) a_ahead, w_X2 cI cR (a 11) (a 12) a_pad_codes a_pad_length, w_X3 cI cR (a 13) (a 14) a_padPattern_heights a_padPattern_length, w_X6 cI cR (a 15) (a 16) (a 17) (a 18) (a 19) a_ways_steps a_ways_firstThrows a_ways_lastThrows a_ways_reached a_ways_reachedCount, w_X0 cI cR (fun i => a (i + 20)) a_history_rs a_history_oldest a_history_size, w_X5 cI cR (a 52) (a 53) (a 54) (a 55) (a 56) (a 57) a_slotZero_kept a_slotZero_filled, w_X5 cI cR (a 58) (a 59) (a 60) (a 61) (a 62) (a 63) a_slotOne_kept a_slotOne_filled] _ _ := Z.eq rfl
      obtain ⟨q5, hq5, hf⟩ := ob_s hf
      refine z_roVN X Z (c_X4_clubs l D cI cR (a 1) (a 2) (a 3) (a 4) (a 5) a_now  hq5) (zw_X7_61 X.2.1 X.1.2.2.2.2 ⟨Nat.le_of_ble_eq_true rfl, Nat.le_of_ble_eq_true rfl⟩) 1 4 rfl rfl rfl [1] [0, 2, 3, 4, 5, 6, 7, 8] (by decide : ([1] ++ [0, 2, 3, 4, 5, 6, 7, 8] : List Nat).Perm (List.range 9)) rfl rfl hl.1 rfl (Nat.le_of_ble_eq_true rfl) dX7_start_27 ⟨Nat.le_of_ble_eq_true rfl, Nat.le_of_ble_eq_true rfl⟩ (fun H locs Z => ?_)
      refine lv_istore_n (lv' := [(3, .int q5), (0, .ref (a 0)), (1, .int p1), (2, .int p2)]) hx hb dX7_start_30 rfl hl (by decide) rfl (fun ls hl => ?_)
      refine lv_aload_n hx hb dX7_start_31 rfl (lv_at hl 1 rfl) ?_
      refine zg_X7_43 X Z 0 rfl rfl dX7_start_32 ?_
      refine lv_aload_n hx hb dX7_start_35 rfl (lv_at hl 1 rfl) ?_
      refine zg_X7_12 X Z 0 rfl rfl dX7_start_36 ?_
      obtain ⟨q6, hq6, hf⟩ := ob_s hf
      refine z_callVN X Z (c_X0_record l D cI cR (fun i => a (i + 20)) (a 1) (a 2) (a 3) (a 4) (a 5) a_history_rs a_history_oldest a_history_size a_now  hq6) (zw_X7_65 X.2.1 X.1.2.2.2.2 ⟨Nat.le_of_ble_eq_true rfl, Nat.le_of_ble_eq_true rfl⟩) 20 0 rfl rfl rfl [6, 1] [0, 2, 3, 4, 5, 7, 8] [[((a 0), .inr (7, [.ref (a 1), .ref (a 6), .ref (a 11), .ref (a 13), .ref (a 15), .ref (a 20), .ref (a 52), .ref (a 58)]))], w_X4 cI cR (a 1) (a 2) (a 3) (a 4) (a 5) a_now, w_X4 cI cR (a 6) (a 7) (a 8) (a 9) (a 10) a_ahead, w_X2 cI cR (a 11) (a 12) a_pad_codes a_pad_length, w_X3 cI cR (a 13) (a 14) a_padPattern_heights a_padPattern_length, w_X6 cI cR (a 15) (a 16) (a 17) (a 18) (a 19) a_ways_steps a_ways_firstThrows a_ways_lastThrows a_ways_reached a_ways_reachedCount, w_X0 cI cR (fun i => a (i + 20)) q6.1 q6.2.1 q6.2.2, w_X5 cI cR (a 52) (a 53) (a 54) (a 55) (a 56) (a 57) a_slotZero_kept a_slotZero_filled, w_X5 cI cR (a 58) (a 59) (a 60) (a 61) (a 62) (a 63) a_slotOne_kept a_slotOne_filled] (by decide : ([6, 1] ++ [0, 2, 3, 4, 5, 7, 8] : List Nat).Perm (List.range 9)) rfl rfl rfl rfl rfl hl.1 rfl (Nat.le_of_ble_eq_true rfl) dX7_start_39 ⟨Nat.le_of_ble_eq_true rfl, Nat.le_of_ble_eq_true rfl⟩ (fun H locs Z => ?_)
      refine lv_aload_n hx hb dX7_start_42 rfl (lv_at hl 1 rfl) ?_
      refine zg_X7_12 X Z 0 rfl rfl dX7_start_43 ?_
      refine lv_iload_n hx hb dX7_start_46 rfl (lv_at hl 2 rfl) ?_
      refine lv_iload_n hx hb dX7_start_47 rfl (lv_at hl 3 rfl) ?_
      obtain ⟨q7, hq7, hf⟩ := ob_s hf
      refine z_callVN X Z (c_X4_begin l D cI cR (a 1) (a 2) (a 3) (a 4) (a 5) a_now p1 p2 hq7) (zw_X7_69 X.2.1 X.1.2.2.2.2 ⟨Nat.le_of_ble_eq_true rfl, Nat.le_of_ble_eq_true rfl⟩) 1 4 rfl rfl rfl [1] [0, 2, 3, 4, 5, 6, 7, 8] [[((a 0), .inr (7, [.ref (a 1), .ref (a 6), .ref (a 11), .ref (a 13), .ref (a 15), .ref (a 20), .ref (a 52), .ref (a 58)]))], w_X4 cI cR (a 1) (a 2) (a 3) (a 4) (a 5) q7, w_X4 cI cR (a 6) (a 7) (a 8) (a 9) (a 10) a_ahead, w_X2 cI cR (a 11) (a 12) a_pad_codes a_pad_length, w_X3 cI cR (a 13) (a 14) a_padPattern_heights a_padPattern_length, w_X6 cI cR (a 15) (a 16) (a 17) (a 18) (a 19) a_ways_steps a_ways_firstThrows a_ways_lastThrows a_ways_reached a_ways_reachedCount, w_X0 cI cR (fun i => a (i + 20)) q6.1 q6.2.1 q6.2.2, w_X5 cI cR (a 52) (a 53) (a 54) (a 55) (a 56) (a 57) a_slotZero_kept a_slotZero_filled, w_X5 cI cR (a 58) (a 59) (a 60) (a 61) (a 62) (a 63) a_slotOne_kept a_slotOne_filled] (by decide : ([1] ++ [0, 2, 3, 4, 5, 6, 7, 8] : List Nat).Perm (List.range 9)) rfl rfl rfl rfl rfl hl.1 rfl (Nat.le_of_ble_eq_true rfl) dX7_start_48 ⟨Nat.le_of_ble_eq_true rfl, Nat.le_of_ble_eq_true rfl⟩ (fun H locs Z => ?_)
      refine lv_iload_n hx hb dX7_start_51 rfl (lv_at hl 0 rfl) ?_
      have hR := so_s hf
      subst hR
      refine z_iret X hr hlocks ?_ dX7_start_52
      exact Z.eq rfl
    · have hf := it_t c4 hf
      refine lv_bipush (v := -2) hx hb dX7_start_20 (by decide) ?_
      have hR := so_s hf
      subst hR
      refine z_iret X hr hlocks ?_ dX7_start_22
      exact Z.eq rfl
def f_X7_read (a_now : ST) (a_pad_codes : (Nat → Int32)) (a_pad_length : Int32) (a_history_rs : (Nat → ST)) (a_history_oldest : Int32) (a_history_size : Int32) : Option (Int32 × ST × Int32 × (Nat → ST) × Int32 × Int32) := (f_X2_programFault a_pad_codes a_pad_length).bind (fun q1 => if q1 = (-6 : Int32) then ((f_X0_record a_history_rs a_history_oldest a_history_size a_now).bind (fun q3 => (f_X2_digit a_pad_codes (0 : Int32)).bind (fun q4 => if q4 = 0 then ((f_X1_learn a_now.1.2.1 a_now.1.2.2.1 a_now.1.2.2.2.1 a_now.1.2.2.2.2.1 a_pad_codes a_pad_length).bind (fun q6 => (f_X2_clear a_pad_length).bind (fun q7 => some (q4, ((a_now.1.1, q6.1, q6.2.1, q6.2.2.1, q6.2.2.2, a_now.1.2.2.2.2.2.1, a_now.1.2.2.2.2.2.2), a_now.2.1, a_now.2.2.1, a_now.2.2.2.1, a_now.2.2.2.2.1, a_now.2.2.2.2.2), q7, q3.1, q3.2.1, q3.2.2)))) else ((f_X1_learn a_now.2.1.2.1 a_now.2.1.2.2.1 a_now.2.1.2.2.2.1 a_now.2.1.2.2.2.2.1 a_pad_codes a_pad_length).bind (fun q8 => (f_X2_clear a_pad_length).bind (fun q9 => some (q4, (a_now.1, (a_now.2.1.1, q8.1, q8.2.1, q8.2.2.1, q8.2.2.2, a_now.2.1.2.2.2.2.2.1, a_now.2.1.2.2.2.2.2.2), a_now.2.2.1, a_now.2.2.2.1, a_now.2.2.2.2.1, a_now.2.2.2.2.2), q9, q3.1, q3.2.1, q3.2.2))))))) else (some ((-3 : Int32), a_now, a_pad_length, a_history_rs, a_history_oldest, a_history_size)))
set_option maxHeartbeats 4000000 in
set_option maxRecDepth 100000 in
theorem c_X7_read (l : Launch) (D : va_G) (cI cR : ClassId) (a : (Nat → Nat)) (a_now : ST) (a_ahead : ST) (a_pad_codes : (Nat → Int32)) (a_pad_length : Int32) (a_padPattern_heights : (Nat → Int32)) (a_padPattern_length : Int32) (a_ways_steps : (Nat → Int32)) (a_ways_firstThrows : (Nat → Int32)) (a_ways_lastThrows : (Nat → Int32)) (a_ways_reached : (Nat → Int32)) (a_ways_reachedCount : Int32) (a_history_rs : (Nat → ST)) (a_history_oldest : Int32) (a_history_size : Int32) (a_slotZero_kept : ST) (a_slotZero_filled : Int32) (a_slotOne_kept : ST) (a_slotOne_filled : Int32) {R : Int32 × ST × Int32 × (Nat → ST) × Int32 × Int32} (hf : f_X7_read a_now a_pad_codes a_pad_length a_history_rs a_history_oldest a_history_size = some R) : zM l D cI cR yX7_read cX7_read 2 (some .int) 5 108 [.ref (a 0)] [w_X7 cI cR a a_now a_ahead a_pad_codes a_pad_length a_padPattern_heights a_padPattern_length a_ways_steps a_ways_firstThrows a_ways_lastThrows a_ways_reached a_ways_reachedCount a_history_rs a_history_oldest a_history_size a_slotZero_kept a_slotZero_filled a_slotOne_kept a_slotOne_filled] (some (.int R.1)) [w_X7 cI cR a R.2.1 a_ahead a_pad_codes R.2.2.1 a_padPattern_heights a_padPattern_length a_ways_steps a_ways_firstThrows a_ways_lastThrows a_ways_reached a_ways_reachedCount R.2.2.2.1 R.2.2.2.2.1 R.2.2.2.2.2 a_slotZero_kept a_slotZero_filled a_slotOne_kept a_slotOne_filled] := by
  refine z_of (own := RX7) rfl (by decide) (Nat.le_of_ble_eq_true rfl) ?_
  intro p e s m args below meth c A ls X hr hlocks Z hl
  have hx := X.1.1
  have hb := X.1.2.1
  have Z : zW D A s [w_X7 cI cR a a_now a_ahead a_pad_codes a_pad_length a_padPattern_heights a_padPattern_length a_ways_steps a_ways_firstThrows a_ways_lastThrows a_ways_reached a_ways_reachedCount a_history_rs a_history_oldest a_history_size a_slotZero_kept a_slotZero_filled a_slotOne_kept a_slotOne_filled] s.heap [] := Z
  have hl : lv_has ls 2 [(0, .ref (a 0))] := hl
  refine lv_aload_n hx hb dX7_read_0 rfl (lv_at hl 0 rfl) ?_
  refine zg_X7_22 X Z 0 rfl rfl dX7_read_1 ?_
  have Z : zW D A s [[((a 0), .inr (7, [.ref (a 1), .ref (a 6), .ref (a 11), .ref (a 13), .ref (a 15), .ref (a 20), .ref (a 52), .ref (a 58)]))], w_X4 cI cR (a 1) (a 2) (a 3) (a 4) (a 5) a_now, w_X4 cI cR (a 6) (a 7) (a 8) (a 9) (a 10) a_ahead, w_X2 cI cR (a 11) (a 12) a_pad_codes a_pad_length, w_X3 cI cR (a 13) (a 14) a_padPattern_heights a_padPattern_length, w_X6 cI cR (a 15) (a 16) (a 17) (a 18) (a 19) a_ways_steps a_ways_firstThrows a_ways_lastThrows a_ways_reached a_ways_reachedCount, w_X0 cI cR (fun i => a (i + 20)) a_history_rs a_history_oldest a_history_size, w_X5 cI cR (a 52) (a 53) (a 54) (a 55) (a 56) (a 57) a_slotZero_kept a_slotZero_filled, w_X5 cI cR (a 58) (a 59) (a 60) (a 61) (a 62) (a 63) a_slotOne_kept a_slotOne_filled] _ _ := Z.eq rfl
  obtain ⟨q1, hq1, hf⟩ := ob_s hf
  refine z_roVN X Z (c_X2_programFault l D cI cR (a 11) (a 12) a_pad_codes a_pad_length  hq1) (zw_X7_73 X.2.1 X.1.2.2.2.2 ⟨Nat.le_of_ble_eq_true rfl, Nat.le_of_ble_eq_true rfl⟩) 11 2 rfl rfl rfl [3] [0, 1, 2, 4, 5, 6, 7, 8] (by decide : ([3] ++ [0, 1, 2, 4, 5, 6, 7, 8] : List Nat).Perm (List.range 9)) rfl rfl hl.1 rfl (Nat.le_of_ble_eq_true rfl) dX7_read_4 ⟨Nat.le_of_ble_eq_true rfl, Nat.le_of_ble_eq_true rfl⟩ (fun H locs Z => ?_)
  refine lv_bipush (v := -6) hx hb dX7_read_7 (by decide) ?_
  refine lv_icmp_eq (tgt := 15) hx hb dX7_read_9 (by decide) (fun c2 => ?_) (fun c2 => ?_)
  · have hf := it_t c2 hf
    refine lv_aload_n hx hb dX7_read_15 rfl (lv_at hl 0 rfl) ?_
    refine zg_X7_43 X Z 0 rfl rfl dX7_read_16 ?_
    refine lv_aload_n hx hb dX7_read_19 rfl (lv_at hl 0 rfl) ?_
    refine zg_X7_12 X Z 0 rfl rfl dX7_read_20 ?_
    obtain ⟨q3, hq3, hf⟩ := ob_s hf
    refine z_callVN X Z (c_X0_record l D cI cR (fun i => a (i + 20)) (a 1) (a 2) (a 3) (a 4) (a 5) a_history_rs a_history_oldest a_history_size a_now  hq3) (zw_X7_65 X.2.1 X.1.2.2.2.2 ⟨Nat.le_of_ble_eq_true rfl, Nat.le_of_ble_eq_true rfl⟩) 20 0 rfl rfl rfl [6, 1] [0, 2, 3, 4, 5, 7, 8] [[((a 0), .inr (7, [.ref (a 1), .ref (a 6), .ref (a 11), .ref (a 13), .ref (a 15), .ref (a 20), .ref (a 52), .ref (a 58)]))], w_X4 cI cR (a 1) (a 2) (a 3) (a 4) (a 5) a_now, w_X4 cI cR (a 6) (a 7) (a 8) (a 9) (a 10) a_ahead, w_X2 cI cR (a 11) (a 12) a_pad_codes a_pad_length, w_X3 cI cR (a 13) (a 14) a_padPattern_heights a_padPattern_length, w_X6 cI cR (a 15) (a 16) (a 17) (a 18) (a 19) a_ways_steps a_ways_firstThrows a_ways_lastThrows a_ways_reached a_ways_reachedCount, w_X0 cI cR (fun i => a (i + 20)) q3.1 q3.2.1 q3.2.2, w_X5 cI cR (a 52) (a 53) (a 54) (a 55) (a 56) (a 57) a_slotZero_kept a_slotZero_filled, w_X5 cI cR (a 58) (a 59) (a 60) (a 61) (a 62) (a 63) a_slotOne_kept a_slotOne_filled] (by decide : ([6, 1] ++ [0, 2, 3, 4, 5, 7, 8] : List Nat).Perm (List.range 9)) rfl rfl rfl rfl rfl hl.1 rfl (Nat.le_of_ble_eq_true rfl) dX7_read_23 ⟨Nat.le_of_ble_eq_true rfl, Nat.le_of_ble_eq_true rfl⟩ (fun H locs Z => ?_)
    refine lv_aload_n hx hb dX7_read_26 rfl (lv_at hl 0 rfl) ?_
    refine zg_X7_22 X Z 0 rfl rfl dX7_read_27 ?_
    refine lv_iconst (v := 0) hx hb dX7_read_30 (by decide) ?_
    obtain ⟨q4, hq4, hf⟩ := ob_s hf
    refine z_roVN X Z (c_X2_digit l D cI cR (a 11) (a 12) a_pad_codes a_pad_length (0 : Int32) hq4) (zw_X7_76 X.2.1 X.1.2.2.2.2 ⟨Nat.le_of_ble_eq_true rfl, Nat.le_of_ble_eq_true rfl⟩) 11 2 rfl rfl rfl [3] [0, 1, 2, 4, 5, 6, 7, 8] (by decide : ([3] ++ [0, 1, 2, 4, 5, 6, 7, 8] : List Nat).Perm (List.range 9)) rfl rfl hl.1 rfl (Nat.le_of_ble_eq_true rfl) dX7_read_31 ⟨Nat.le_of_ble_eq_true rfl, Nat.le_of_ble_eq_true rfl⟩ (fun H locs Z => ?_)
    refine lv_istore_n (lv' := [(1, .int q4), (0, .ref (a 0))]) hx hb dX7_read_34 rfl hl (by decide) rfl (fun ls hl => ?_)
    refine lv_aload_n hx hb dX7_read_35 rfl (lv_at hl 1 rfl) ?_
    refine zg_X7_12 X Z 0 rfl rfl dX7_read_36 ?_
    refine lv_iload_n hx hb dX7_read_39 rfl (lv_at hl 0 rfl) ?_
    have Z : zW D A s [[((a 0), .inr (7, [.ref (a 1), .ref (a 6), .ref (a 11), .ref (a 13), .ref (a 15), .ref (a 20), .ref (a 52), .ref (a 58)]))], [((a 1), .inr (4, [.ref (a 2), .ref (a 4), .int a_now.2.2.1, .int a_now.2.2.2.1, .int a_now.2.2.2.2.1, .int a_now.2.2.2.2.2]))], w_X1 cI cR (a 2) (a 3) a_now.1.1 a_now.1.2.1 a_now.1.2.2.1 a_now.1.2.2.2.1 a_now.1.2.2.2.2.1 a_now.1.2.2.2.2.2.1 a_now.1.2.2.2.2.2.2, w_X1 cI cR (a 4) (a 5) a_now.2.1.1 a_now.2.1.2.1 a_now.2.1.2.2.1 a_now.2.1.2.2.2.1 a_now.2.1.2.2.2.2.1 a_now.2.1.2.2.2.2.2.1 a_now.2.1.2.2.2.2.2.2, w_X4 cI cR (a 6) (a 7) (a 8) (a 9) (a 10) a_ahead, w_X2 cI cR (a 11) (a 12) a_pad_codes a_pad_length, w_X3 cI cR (a 13) (a 14) a_padPattern_heights a_padPattern_length, w_X6 cI cR (a 15) (a 16) (a 17) (a 18) (a 19) a_ways_steps a_ways_firstThrows a_ways_lastThrows a_ways_reached a_ways_reachedCount, w_X0 cI cR (fun i => a (i + 20)) q3.1 q3.2.1 q3.2.2, w_X5 cI cR (a 52) (a 53) (a 54) (a 55) (a 56) (a 57) a_slotZero_kept a_slotZero_filled, w_X5 cI cR (a 58) (a 59) (a 60) (a 61) (a 62) (a 63) a_slotOne_kept a_slotOne_filled] _ _ := Z.eq rfl
    rcases Decidable.em (q4 = 0) with c5 | c5
    · have hf := it_t c5 hf
      refine z_roVN X Z (c_X4_juggler_0 l D cI cR (a 1) (a 2) (a 4) a_now.2.2.1 a_now.2.2.2.1 a_now.2.2.2.2.1 a_now.2.2.2.2.2 q4 c5) (zw_X7_80 X.2.1 X.1.2.2.2.2 ⟨Nat.le_of_ble_eq_true rfl, Nat.le_of_ble_eq_true rfl⟩) 1 4 rfl rfl rfl [1] [0, 2, 3, 4, 5, 6, 7, 8, 9, 10] (by decide : ([1] ++ [0, 2, 3, 4, 5, 6, 7, 8, 9, 10] : List Nat).Perm (List.range 11)) rfl rfl hl.1 rfl (Nat.le_of_ble_eq_true rfl) dX7_read_40 ⟨Nat.le_of_ble_eq_true rfl, Nat.le_of_ble_eq_true rfl⟩ (fun H locs Z => ?_)
      refine lv_aload_n hx hb dX7_read_43 rfl (lv_at hl 1 rfl) ?_
      refine zg_X7_22 X Z 0 rfl rfl dX7_read_44 ?_
      obtain ⟨q6, hq6, hf⟩ := ob_s hf
      refine z_callVN X Z (c_X1_learn l D cI cR (a 2) (a 3) (a 11) (a 12) a_now.1.1 a_now.1.2.1 a_now.1.2.2.1 a_now.1.2.2.2.1 a_now.1.2.2.2.2.1 a_now.1.2.2.2.2.2.1 a_now.1.2.2.2.2.2.2 a_pad_codes a_pad_length  hq6) (zw_X7_84 X.2.1 X.1.2.2.2.2 ⟨Nat.le_of_ble_eq_true rfl, Nat.le_of_ble_eq_true rfl⟩) 2 1 rfl rfl rfl [2, 5] [0, 1, 3, 4, 6, 7, 8, 9, 10] [[((a 0), .inr (7, [.ref (a 1), .ref (a 6), .ref (a 11), .ref (a 13), .ref (a 15), .ref (a 20), .ref (a 52), .ref (a 58)]))], [((a 1), .inr (4, [.ref (a 2), .ref (a 4), .int a_now.2.2.1, .int a_now.2.2.2.1, .int a_now.2.2.2.2.1, .int a_now.2.2.2.2.2]))], w_X1 cI cR (a 2) (a 3) a_now.1.1 q6.1 q6.2.1 q6.2.2.1 q6.2.2.2 a_now.1.2.2.2.2.2.1 a_now.1.2.2.2.2.2.2, w_X1 cI cR (a 4) (a 5) a_now.2.1.1 a_now.2.1.2.1 a_now.2.1.2.2.1 a_now.2.1.2.2.2.1 a_now.2.1.2.2.2.2.1 a_now.2.1.2.2.2.2.2.1 a_now.2.1.2.2.2.2.2.2, w_X4 cI cR (a 6) (a 7) (a 8) (a 9) (a 10) a_ahead, w_X2 cI cR (a 11) (a 12) a_pad_codes a_pad_length, w_X3 cI cR (a 13) (a 14) a_padPattern_heights a_padPattern_length, w_X6 cI cR (a 15) (a 16) (a 17) (a 18) (a 19) a_ways_steps a_ways_firstThrows a_ways_lastThrows a_ways_reached a_ways_reachedCount, w_X0 cI cR (fun i => a (i + 20)) q3.1 q3.2.1 q3.2.2, w_X5 cI cR (a 52) (a 53) (a 54) (a 55) (a 56) (a 57) a_slotZero_kept a_slotZero_filled, w_X5 cI cR (a 58) (a 59) (a 60) (a 61) (a 62) (a 63) a_slotOne_kept a_slotOne_filled] (by decide : ([2, 5] ++ [0, 1, 3, 4, 6, 7, 8, 9, 10] : List Nat).Perm (List.range 11)) rfl rfl rfl rfl rfl hl.1 rfl (Nat.le_of_ble_eq_true rfl) dX7_read_47 ⟨Nat.le_of_ble_eq_true rfl, Nat.le_of_ble_eq_true rfl⟩ (fun H locs Z => ?_)
      refine lv_aload_n hx hb dX7_read_50 rfl (lv_at hl 1 rfl) ?_
      refine zg_X7_22 X Z 0 rfl rfl dX7_read_51 ?_
      obtain ⟨q7, hq7, hf⟩ := ob_s hf
      refine z_callVN X Z (c_X2_clear l D cI cR (a 11) (a 12) a_pad_codes a_pad_length  hq7) (zw_X7_90 X.2.1 X.1.2.2.2.2 ⟨Nat.le_of_ble_eq_true rfl, Nat.le_of_ble_eq_true rfl⟩) 11 2 rfl rfl rfl [5] [0, 1, 2, 3, 4, 6, 7, 8, 9, 10] [[((a 0), .inr (7, [.ref (a 1), .ref (a 6), .ref (a 11), .ref (a 13), .ref (a 15), .ref (a 20), .ref (a 52), .ref (a 58)]))], [((a 1), .inr (4, [.ref (a 2), .ref (a 4), .int a_now.2.2.1, .int a_now.2.2.2.1, .int a_now.2.2.2.2.1, .int a_now.2.2.2.2.2]))], w_X1 cI cR (a 2) (a 3) a_now.1.1 q6.1 q6.2.1 q6.2.2.1 q6.2.2.2 a_now.1.2.2.2.2.2.1 a_now.1.2.2.2.2.2.2, w_X1 cI cR (a 4) (a 5) a_now.2.1.1 a_now.2.1.2.1 a_now.2.1.2.2.1 a_now.2.1.2.2.2.1 a_now.2.1.2.2.2.2.1 a_now.2.1.2.2.2.2.2.1 a_now.2.1.2.2.2.2.2.2, w_X4 cI cR (a 6) (a 7) (a 8) (a 9) (a 10) a_ahead, w_X2 cI cR (a 11) (a 12) a_pad_codes q7, w_X3 cI cR (a 13) (a 14) a_padPattern_heights a_padPattern_length, w_X6 cI cR (a 15) (a 16) (a 17) (a 18) (a 19) a_ways_steps a_ways_firstThrows a_ways_lastThrows a_ways_reached a_ways_reachedCount, w_X0 cI cR (fun i => a (i + 20)) q3.1 q3.2.1 q3.2.2, w_X5 cI cR (a 52) (a 53) (a 54) (a 55) (a 56) (a 57) a_slotZero_kept a_slotZero_filled, w_X5 cI cR (a 58) (a 59) (a 60) (a 61) (a 62) (a 63) a_slotOne_kept a_slotOne_filled] (by decide : ([5] ++ [0, 1, 2, 3, 4, 6, 7, 8, 9, 10] : List Nat).Perm (List.range 11)) rfl rfl rfl rfl rfl hl.1 rfl (Nat.le_of_ble_eq_true rfl) dX7_read_54 ⟨Nat.le_of_ble_eq_true rfl, Nat.le_of_ble_eq_true rfl⟩ (fun H locs Z => ?_)
      refine lv_iload_n hx hb dX7_read_57 rfl (lv_at hl 0 rfl) ?_
      have hR := so_s hf
      subst hR
      refine z_iret X hr hlocks ?_ dX7_read_58
      exact Z.eq rfl
    · have hf := it_f c5 hf
      refine z_roVN X Z (c_X4_juggler_1 l D cI cR (a 1) (a 2) (a 4) a_now.2.2.1 a_now.2.2.2.1 a_now.2.2.2.2.1 a_now.2.2.2.2.2 q4 c5) (zw_X7_80 X.2.1 X.1.2.2.2.2 ⟨Nat.le_of_ble_eq_true rfl, Nat.le_of_ble_eq_true rfl⟩) 1 4 rfl rfl rfl [1] [0, 2, 3, 4, 5, 6, 7, 8, 9, 10] (by decide : ([1] ++ [0, 2, 3, 4, 5, 6, 7, 8, 9, 10] : List Nat).Perm (List.range 11)) rfl rfl hl.1 rfl (Nat.le_of_ble_eq_true rfl) dX7_read_40 ⟨Nat.le_of_ble_eq_true rfl, Nat.le_of_ble_eq_true rfl⟩ (fun H locs Z => ?_)
      refine lv_aload_n hx hb dX7_read_43 rfl (lv_at hl 1 rfl) ?_
      refine zg_X7_22 X Z 0 rfl rfl dX7_read_44 ?_
      obtain ⟨q8, hq8, hf⟩ := ob_s hf
      refine z_callVN X Z (c_X1_learn l D cI cR (a 4) (a 5) (a 11) (a 12) a_now.2.1.1 a_now.2.1.2.1 a_now.2.1.2.2.1 a_now.2.1.2.2.2.1 a_now.2.1.2.2.2.2.1 a_now.2.1.2.2.2.2.2.1 a_now.2.1.2.2.2.2.2.2 a_pad_codes a_pad_length  hq8) (zw_X7_84 X.2.1 X.1.2.2.2.2 ⟨Nat.le_of_ble_eq_true rfl, Nat.le_of_ble_eq_true rfl⟩) 4 1 rfl rfl rfl [3, 5] [0, 1, 2, 4, 6, 7, 8, 9, 10] [[((a 0), .inr (7, [.ref (a 1), .ref (a 6), .ref (a 11), .ref (a 13), .ref (a 15), .ref (a 20), .ref (a 52), .ref (a 58)]))], [((a 1), .inr (4, [.ref (a 2), .ref (a 4), .int a_now.2.2.1, .int a_now.2.2.2.1, .int a_now.2.2.2.2.1, .int a_now.2.2.2.2.2]))], w_X1 cI cR (a 2) (a 3) a_now.1.1 a_now.1.2.1 a_now.1.2.2.1 a_now.1.2.2.2.1 a_now.1.2.2.2.2.1 a_now.1.2.2.2.2.2.1 a_now.1.2.2.2.2.2.2, w_X1 cI cR (a 4) (a 5) a_now.2.1.1 q8.1 q8.2.1 q8.2.2.1 q8.2.2.2 a_now.2.1.2.2.2.2.2.1 a_now.2.1.2.2.2.2.2.2, w_X4 cI cR (a 6) (a 7) (a 8) (a 9) (a 10) a_ahead, w_X2 cI cR (a 11) (a 12) a_pad_codes a_pad_length, w_X3 cI cR (a 13) (a 14) a_padPattern_heights a_padPattern_length, w_X6 cI cR (a 15) (a 16) (a 17) (a 18) (a 19) a_ways_steps a_ways_firstThrows a_ways_lastThrows a_ways_reached a_ways_reachedCount, w_X0 cI cR (fun i => a (i + 20)) q3.1 q3.2.1 q3.2.2, w_X5 cI cR (a 52) (a 53) (a 54) (a 55) (a 56) (a 57) a_slotZero_kept a_slotZero_filled, w_X5 cI cR (a 58) (a 59) (a 60) (a 61) (a 62) (a 63) a_slotOne_kept a_slotOne_filled] (by decide : ([3, 5] ++ [0, 1, 2, 4, 6, 7, 8, 9, 10] : List Nat).Perm (List.range 11)) rfl rfl rfl rfl rfl hl.1 rfl (Nat.le_of_ble_eq_true rfl) dX7_read_47 ⟨Nat.le_of_ble_eq_true rfl, Nat.le_of_ble_eq_true rfl⟩ (fun H locs Z => ?_)
      refine lv_aload_n hx hb dX7_read_50 rfl (lv_at hl 1 rfl) ?_
      refine zg_X7_22 X Z 0 rfl rfl dX7_read_51 ?_
      obtain ⟨q9, hq9, hf⟩ := ob_s hf
      refine z_callVN X Z (c_X2_clear l D cI cR (a 11) (a 12) a_pad_codes a_pad_length  hq9) (zw_X7_90 X.2.1 X.1.2.2.2.2 ⟨Nat.le_of_ble_eq_true rfl, Nat.le_of_ble_eq_true rfl⟩) 11 2 rfl rfl rfl [5] [0, 1, 2, 3, 4, 6, 7, 8, 9, 10] [[((a 0), .inr (7, [.ref (a 1), .ref (a 6), .ref (a 11), .ref (a 13), .ref (a 15), .ref (a 20), .ref (a 52), .ref (a 58)]))], [((a 1), .inr (4, [.ref (a 2), .ref (a 4), .int a_now.2.2.1, .int a_now.2.2.2.1, .int a_now.2.2.2.2.1, .int a_now.2.2.2.2.2]))], w_X1 cI cR (a 2) (a 3) a_now.1.1 a_now.1.2.1 a_now.1.2.2.1 a_now.1.2.2.2.1 a_now.1.2.2.2.2.1 a_now.1.2.2.2.2.2.1 a_now.1.2.2.2.2.2.2, w_X1 cI cR (a 4) (a 5) a_now.2.1.1 q8.1 q8.2.1 q8.2.2.1 q8.2.2.2 a_now.2.1.2.2.2.2.2.1 a_now.2.1.2.2.2.2.2.2, w_X4 cI cR (a 6) (a 7) (a 8) (a 9) (a 10) a_ahead, w_X2 cI cR (a 11) (a 12) a_pad_codes q9, w_X3 cI cR (a 13) (a 14) a_padPattern_heights a_padPattern_length, w_X6 cI cR (a 15) (a 16) (a 17) (a 18) (a 19) a_ways_steps a_ways_firstThrows a_ways_lastThrows a_ways_reached a_ways_reachedCount, w_X0 cI cR (fun i => a (i + 20)) q3.1 q3.2.1 q3.2.2, w_X5 cI cR (a 52) (a 53) (a 54) (a 55) (a 56) (a 57) a_slotZero_kept a_slotZero_filled, w_X5 cI cR (a 58) (a 59) (a 60) (a 61) (a 62) (a 63) a_slotOne_kept a_slotOne_filled] (by decide : ([5] ++ [0, 1, 2, 3, 4, 6, 7, 8, 9, 10] : List Nat).Perm (List.range 11)) rfl rfl rfl rfl rfl hl.1 rfl (Nat.le_of_ble_eq_true rfl) dX7_read_54 ⟨Nat.le_of_ble_eq_true rfl, Nat.le_of_ble_eq_true rfl⟩ (fun H locs Z => ?_)
      refine lv_iload_n hx hb dX7_read_57 rfl (lv_at hl 0 rfl) ?_
      have hR := so_s hf
      subst hR
      refine z_iret X hr hlocks ?_ dX7_read_58
      exact Z.eq rfl
  · have hf := it_f c2 hf
    refine lv_bipush (v := -3) hx hb dX7_read_12 (by decide) ?_
    have hR := so_s hf
    subst hR
    refine z_iret X hr hlocks ?_ dX7_read_14
    exact Z.eq rfl
def f_X7_pass (a_now : ST) (a_history_rs : (Nat → ST)) (a_history_oldest : Int32) (a_history_size : Int32) (p1 : Int32) : Option (Int32 × ST × (Nat → ST) × Int32 × Int32) := (f_X7_isWithin p1 (1 : Int32) (200 : Int32)).bind (fun q1 => if q1 = 0 then (some ((-2 : Int32), a_now, a_history_rs, a_history_oldest, a_history_size)) else (if (a_now.2.2.2.1 + p1) ≤ (100000 : Int32) then ((f_X0_record a_history_rs a_history_oldest a_history_size a_now).bind (fun q4 => (f_X4_play a_now p1).bind (fun q5 => some (q5.1, q5.2, q4.1, q4.2.1, q4.2.2)))) else (some ((-4 : Int32), a_now, a_history_rs, a_history_oldest, a_history_size))))
set_option maxHeartbeats 4000000 in
set_option maxRecDepth 100000 in
theorem c_X7_pass (l : Launch) (D : va_G) (cI cR : ClassId) (a : (Nat → Nat)) (a_now : ST) (a_ahead : ST) (a_pad_codes : (Nat → Int32)) (a_pad_length : Int32) (a_padPattern_heights : (Nat → Int32)) (a_padPattern_length : Int32) (a_ways_steps : (Nat → Int32)) (a_ways_firstThrows : (Nat → Int32)) (a_ways_lastThrows : (Nat → Int32)) (a_ways_reached : (Nat → Int32)) (a_ways_reachedCount : Int32) (a_history_rs : (Nat → ST)) (a_history_oldest : Int32) (a_history_size : Int32) (a_slotZero_kept : ST) (a_slotZero_filled : Int32) (a_slotOne_kept : ST) (a_slotOne_filled : Int32) (p1 : Int32) {R : Int32 × ST × (Nat → ST) × Int32 × Int32} (hf : f_X7_pass a_now a_history_rs a_history_oldest a_history_size p1 = some R) : zM l D cI cR yX7_pass cX7_pass 2 (some .int) 5 107 [.ref (a 0), .int p1] [w_X7 cI cR a a_now a_ahead a_pad_codes a_pad_length a_padPattern_heights a_padPattern_length a_ways_steps a_ways_firstThrows a_ways_lastThrows a_ways_reached a_ways_reachedCount a_history_rs a_history_oldest a_history_size a_slotZero_kept a_slotZero_filled a_slotOne_kept a_slotOne_filled] (some (.int R.1)) [w_X7 cI cR a R.2.1 a_ahead a_pad_codes a_pad_length a_padPattern_heights a_padPattern_length a_ways_steps a_ways_firstThrows a_ways_lastThrows a_ways_reached a_ways_reachedCount R.2.2.1 R.2.2.2.1 R.2.2.2.2 a_slotZero_kept a_slotZero_filled a_slotOne_kept a_slotOne_filled] := by
  refine z_of (own := RX7) rfl (by decide) (Nat.le_of_ble_eq_true rfl) ?_
  intro p e s m args below meth c A ls X hr hlocks Z hl
  have hx := X.1.1
  have hb := X.1.2.1
  have Z : zW D A s [w_X7 cI cR a a_now a_ahead a_pad_codes a_pad_length a_padPattern_heights a_padPattern_length a_ways_steps a_ways_firstThrows a_ways_lastThrows a_ways_reached a_ways_reachedCount a_history_rs a_history_oldest a_history_size a_slotZero_kept a_slotZero_filled a_slotOne_kept a_slotOne_filled] s.heap [] := Z
  have hl : lv_has ls 2 [(0, .ref (a 0)), (1, .int p1)] := hl
  refine lv_iload_n hx hb dX7_pass_0 rfl (lv_at hl 1 rfl) ?_
  refine lv_iconst (v := 1) hx hb dX7_pass_1 (by decide) ?_
  refine lv_sipush (v := 200) hx hb dX7_pass_2 (by decide) ?_
  obtain ⟨q1, hq1, hf⟩ := ob_s hf
  refine z_roS X Z (c_X7_isWithin l D cI cR   p1 (1 : Int32) (200 : Int32) hq1) (zw_X7_57 X.1.2.2.2.2 ⟨Nat.le_of_ble_eq_true rfl, Nat.le_of_ble_eq_true rfl⟩) [] [0] (by decide : ([] ++ [0] : List Nat).Perm (List.range 1)) rfl rfl hl.1 rfl (Nat.le_of_ble_eq_true rfl) dX7_pass_5 ⟨Nat.le_of_ble_eq_true rfl, Nat.le_of_ble_eq_true rfl⟩ (fun H locs Z => ?_)
  refine lv_if_ne (tgt := 14) hx hb dX7_pass_8 (by decide) (fun c2 => ?_) (fun c2 => ?_)
  · have hf := it_f c2 hf
    refine lv_aload_n hx hb dX7_pass_14 rfl (lv_at hl 0 rfl) ?_
    refine zg_X7_12 X Z 0 rfl rfl dX7_pass_15 ?_
    refine zg_X7_93 X Z 1 rfl rfl dX7_pass_18 ?_
    refine lv_iload_n hx hb dX7_pass_21 rfl (lv_at hl 1 rfl) ?_
    refine lv_iadd hx hb dX7_pass_22 ?_
    refine lv_ldc hx hb X.1.2.2.2.1 (X.1.2.2.2.2 _ mk_X7_97) dX7_pass_23 ?_
    refine lv_icmp_le (tgt := 31) hx hb dX7_pass_25 (by decide) (fun c3 => ?_) (fun c3 => ?_)
    · have hf := it_t c3 hf
      refine lv_aload_n hx hb dX7_pass_31 rfl (lv_at hl 0 rfl) ?_
      refine zg_X7_43 X Z 0 rfl rfl dX7_pass_32 ?_
      refine lv_aload_n hx hb dX7_pass_35 rfl (lv_at hl 0 rfl) ?_
      refine zg_X7_12 X Z 0 rfl rfl dX7_pass_36 ?_
      have Z : zW D A s [[((a 0), .inr (7, [.ref (a 1), .ref (a 6), .ref (a 11), .ref (a 13), .ref (a 15), .ref (a 20), .ref (a 52), .ref (a 58)]))], w_X4 cI cR (a 1) (a 2) (a 3) (a 4) (a 5) a_now, w_X4 cI cR (a 6) (a 7) (a 8) (a 9) (a 10) a_ahead, w_X2 cI cR (a 11) (a 12) a_pad_codes a_pad_length, w_X3 cI cR (a 13) (a 14) a_padPattern_heights a_padPattern_length, w_X6 cI cR (a 15) (a 16) (a 17) (a 18) (a 19) a_ways_steps a_ways_firstThrows a_ways_lastThrows a_ways_reached a_ways_reachedCount, w_X0 cI cR (fun i => a (i + 20)) a_history_rs a_history_oldest a_history_size, w_X5 cI cR (a 52) (a 53) (a 54) (a 55) (a 56) (a 57) a_slotZero_kept a_slotZero_filled, w_X5 cI cR (a 58) (a 59) (a 60) (a 61) (a 62) (a 63) a_slotOne_kept a_slotOne_filled] _ _ := Z.eq rfl
      obtain ⟨q4, hq4, hf⟩ := ob_s hf
      refine z_callVN X Z (c_X0_record l D cI cR (fun i => a (i + 20)) (a 1) (a 2) (a 3) (a 4) (a 5) a_history_rs a_history_oldest a_history_size a_now  hq4) (zw_X7_65 X.2.1 X.1.2.2.2.2 ⟨Nat.le_of_ble_eq_true rfl, Nat.le_of_ble_eq_true rfl⟩) 20 0 rfl rfl rfl [6, 1] [0, 2, 3, 4, 5, 7, 8] [[((a 0), .inr (7, [.ref (a 1), .ref (a 6), .ref (a 11), .ref (a 13), .ref (a 15), .ref (a 20), .ref (a 52), .ref (a 58)]))], w_X4 cI cR (a 1) (a 2) (a 3) (a 4) (a 5) a_now, w_X4 cI cR (a 6) (a 7) (a 8) (a 9) (a 10) a_ahead, w_X2 cI cR (a 11) (a 12) a_pad_codes a_pad_length, w_X3 cI cR (a 13) (a 14) a_padPattern_heights a_padPattern_length, w_X6 cI cR (a 15) (a 16) (a 17) (a 18) (a 19) a_ways_steps a_ways_firstThrows a_ways_lastThrows a_ways_reached a_ways_reachedCount, w_X0 cI cR (fun i => a (i + 20)) q4.1 q4.2.1 q4.2.2, w_X5 cI cR (a 52) (a 53) (a 54) (a 55) (a 56) (a 57) a_slotZero_kept a_slotZero_filled, w_X5 cI cR (a 58) (a 59) (a 60) (a 61) (a 62) (a 63) a_slotOne_kept a_slotOne_filled] (by decide : ([6, 1] ++ [0, 2, 3, 4, 5, 7, 8] : List Nat).Perm (List.range 9)) rfl rfl rfl rfl rfl hl.1 rfl (Nat.le_of_ble_eq_true rfl) dX7_pass_39 ⟨Nat.le_of_ble_eq_true rfl, Nat.le_of_ble_eq_true rfl⟩ (fun H locs Z => ?_)
      refine lv_aload_n hx hb dX7_pass_42 rfl (lv_at hl 0 rfl) ?_
      refine zg_X7_12 X Z 0 rfl rfl dX7_pass_43 ?_
      refine lv_iload_n hx hb dX7_pass_46 rfl (lv_at hl 1 rfl) ?_
      obtain ⟨q5, hq5, hf⟩ := ob_s hf
      refine z_callVN X Z (c_X4_play l D cI cR (a 1) (a 2) (a 3) (a 4) (a 5) a_now p1 hq5) (zw_X7_98 X.2.1 X.1.2.2.2.2 ⟨Nat.le_of_ble_eq_true rfl, Nat.le_of_ble_eq_true rfl⟩) 1 4 rfl rfl rfl [1] [0, 2, 3, 4, 5, 6, 7, 8] [[((a 0), .inr (7, [.ref (a 1), .ref (a 6), .ref (a 11), .ref (a 13), .ref (a 15), .ref (a 20), .ref (a 52), .ref (a 58)]))], w_X4 cI cR (a 1) (a 2) (a 3) (a 4) (a 5) q5.2, w_X4 cI cR (a 6) (a 7) (a 8) (a 9) (a 10) a_ahead, w_X2 cI cR (a 11) (a 12) a_pad_codes a_pad_length, w_X3 cI cR (a 13) (a 14) a_padPattern_heights a_padPattern_length, w_X6 cI cR (a 15) (a 16) (a 17) (a 18) (a 19) a_ways_steps a_ways_firstThrows a_ways_lastThrows a_ways_reached a_ways_reachedCount, w_X0 cI cR (fun i => a (i + 20)) q4.1 q4.2.1 q4.2.2, w_X5 cI cR (a 52) (a 53) (a 54) (a 55) (a 56) (a 57) a_slotZero_kept a_slotZero_filled, w_X5 cI cR (a 58) (a 59) (a 60) (a 61) (a 62) (a 63) a_slotOne_kept a_slotOne_filled] (by decide : ([1] ++ [0, 2, 3, 4, 5, 6, 7, 8] : List Nat).Perm (List.range 9)) rfl rfl rfl rfl rfl hl.1 rfl (Nat.le_of_ble_eq_true rfl) dX7_pass_47 ⟨Nat.le_of_ble_eq_true rfl, Nat.le_of_ble_eq_true rfl⟩ (fun H locs Z => ?_)
      have hR := so_s hf
      subst hR
      refine z_iret X hr hlocks ?_ dX7_pass_50
      exact Z.eq rfl
    · have hf := it_f c3 hf
      refine lv_bipush (v := -4) hx hb dX7_pass_28 (by decide) ?_
      have hR := so_s hf
      subst hR
      refine z_iret X hr hlocks ?_ dX7_pass_30
      exact Z.eq rfl
  · have hf := it_t c2 hf
    refine lv_bipush (v := -2) hx hb dX7_pass_11 (by decide) ?_
    have hR := so_s hf
    subst hR
    refine z_iret X hr hlocks ?_ dX7_pass_13
    exact Z.eq rfl
def f_X7_drop (a_now : ST) (a_history_rs : (Nat → ST)) (a_history_oldest : Int32) (a_history_size : Int32) (p1 : Int32) (p2 : Int32) : Option (Int32 × ST × (Nat → ST) × Int32 × Int32) := (f_X7_isJuggler p1).bind (fun q1 => if q1 = 0 then (some ((-1 : Int32), a_now, a_history_rs, a_history_oldest, a_history_size)) else ((f_X7_isBeat p2).bind (fun q3 => if q3 = 0 then (some ((-2 : Int32), a_now, a_history_rs, a_history_oldest, a_history_size)) else (if p1 = 0 then ((f_X1_expects a_now.1.1 p2).bind (fun q6 => if q6 = 0 then (some ((-5 : Int32), a_now, a_history_rs, a_history_oldest, a_history_size)) else ((f_X0_record a_history_rs a_history_oldest a_history_size a_now).bind (fun q8 => if p1 = 0 then ((f_X1_lose a_now.1.1 p2).bind (fun q10 => some (a_now.2.2.1 + (1 : Int32), ((q10, a_now.1.2.1, a_now.1.2.2.1, a_now.1.2.2.2.1, a_now.1.2.2.2.2.1, a_now.1.2.2.2.2.2.1, a_now.1.2.2.2.2.2.2), a_now.2.1, a_now.2.2.1 + (1 : Int32), a_now.2.2.2.1, a_now.2.2.2.2.1, a_now.2.2.2.2.2), q8.1, q8.2.1, q8.2.2))) else ((f_X1_lose a_now.2.1.1 p2).bind (fun q11 => some (a_now.2.2.1 + (1 : Int32), (a_now.1, (q11, a_now.2.1.2.1, a_now.2.1.2.2.1, a_now.2.1.2.2.2.1, a_now.2.1.2.2.2.2.1, a_now.2.1.2.2.2.2.2.1, a_now.2.1.2.2.2.2.2.2), a_now.2.2.1 + (1 : Int32), a_now.2.2.2.1, a_now.2.2.2.2.1, a_now.2.2.2.2.2), q8.1, q8.2.1, q8.2.2))))))) else ((f_X1_expects a_now.2.1.1 p2).bind (fun q12 => if q12 = 0 then (some ((-5 : Int32), a_now, a_history_rs, a_history_oldest, a_history_size)) else ((f_X0_record a_history_rs a_history_oldest a_history_size a_now).bind (fun q14 => if p1 = 0 then ((f_X1_lose a_now.1.1 p2).bind (fun q16 => some (a_now.2.2.1 + (1 : Int32), ((q16, a_now.1.2.1, a_now.1.2.2.1, a_now.1.2.2.2.1, a_now.1.2.2.2.2.1, a_now.1.2.2.2.2.2.1, a_now.1.2.2.2.2.2.2), a_now.2.1, a_now.2.2.1 + (1 : Int32), a_now.2.2.2.1, a_now.2.2.2.2.1, a_now.2.2.2.2.2), q14.1, q14.2.1, q14.2.2))) else ((f_X1_lose a_now.2.1.1 p2).bind (fun q17 => some (a_now.2.2.1 + (1 : Int32), (a_now.1, (q17, a_now.2.1.2.1, a_now.2.1.2.2.1, a_now.2.1.2.2.2.1, a_now.2.1.2.2.2.2.1, a_now.2.1.2.2.2.2.2.1, a_now.2.1.2.2.2.2.2.2), a_now.2.2.1 + (1 : Int32), a_now.2.2.2.1, a_now.2.2.2.2.1, a_now.2.2.2.2.2), q14.1, q14.2.1, q14.2.2)))))))))))
set_option maxHeartbeats 4000000 in
set_option maxRecDepth 100000 in
theorem c_X7_drop (l : Launch) (D : va_G) (cI cR : ClassId) (a : (Nat → Nat)) (a_now : ST) (a_ahead : ST) (a_pad_codes : (Nat → Int32)) (a_pad_length : Int32) (a_padPattern_heights : (Nat → Int32)) (a_padPattern_length : Int32) (a_ways_steps : (Nat → Int32)) (a_ways_firstThrows : (Nat → Int32)) (a_ways_lastThrows : (Nat → Int32)) (a_ways_reached : (Nat → Int32)) (a_ways_reachedCount : Int32) (a_history_rs : (Nat → ST)) (a_history_oldest : Int32) (a_history_size : Int32) (a_slotZero_kept : ST) (a_slotZero_filled : Int32) (a_slotOne_kept : ST) (a_slotOne_filled : Int32) (p1 : Int32) (p2 : Int32) {R : Int32 × ST × (Nat → ST) × Int32 × Int32} (hf : f_X7_drop a_now a_history_rs a_history_oldest a_history_size p1 p2 = some R) : zM l D cI cR yX7_drop cX7_drop 3 (some .int) 5 107 [.ref (a 0), .int p1, .int p2] [w_X7 cI cR a a_now a_ahead a_pad_codes a_pad_length a_padPattern_heights a_padPattern_length a_ways_steps a_ways_firstThrows a_ways_lastThrows a_ways_reached a_ways_reachedCount a_history_rs a_history_oldest a_history_size a_slotZero_kept a_slotZero_filled a_slotOne_kept a_slotOne_filled] (some (.int R.1)) [w_X7 cI cR a R.2.1 a_ahead a_pad_codes a_pad_length a_padPattern_heights a_padPattern_length a_ways_steps a_ways_firstThrows a_ways_lastThrows a_ways_reached a_ways_reachedCount R.2.2.1 R.2.2.2.1 R.2.2.2.2 a_slotZero_kept a_slotZero_filled a_slotOne_kept a_slotOne_filled] := by
  refine z_of (own := RX7) rfl (by decide) (Nat.le_of_ble_eq_true rfl) ?_
  intro p e s m args below meth c A ls X hr hlocks Z hl
  have hx := X.1.1
  have hb := X.1.2.1
  have Z : zW D A s [w_X7 cI cR a a_now a_ahead a_pad_codes a_pad_length a_padPattern_heights a_padPattern_length a_ways_steps a_ways_firstThrows a_ways_lastThrows a_ways_reached a_ways_reachedCount a_history_rs a_history_oldest a_history_size a_slotZero_kept a_slotZero_filled a_slotOne_kept a_slotOne_filled] s.heap [] := Z
  have hl : lv_has ls 3 [(0, .ref (a 0)), (1, .int p1), (2, .int p2)] := hl
  refine lv_iload_n hx hb dX7_drop_0 rfl (lv_at hl 1 rfl) ?_
  obtain ⟨q1, hq1, hf⟩ := ob_s hf
  refine z_roS X Z (c_X7_isJuggler l D cI cR   p1 hq1) (zw_X7_101 X.1.2.2.2.2 ⟨Nat.le_of_ble_eq_true rfl, Nat.le_of_ble_eq_true rfl⟩) [] [0] (by decide : ([] ++ [0] : List Nat).Perm (List.range 1)) rfl rfl hl.1 rfl (Nat.le_of_ble_eq_true rfl) dX7_drop_1 ⟨Nat.le_of_ble_eq_true rfl, Nat.le_of_ble_eq_true rfl⟩ (fun H locs Z => ?_)
  refine lv_if_ne (tgt := 9) hx hb dX7_drop_4 (by decide) (fun c2 => ?_) (fun c2 => ?_)
  · have hf := it_f c2 hf
    refine lv_iload_n hx hb dX7_drop_9 rfl (lv_at hl 2 rfl) ?_
    obtain ⟨q3, hq3, hf⟩ := ob_s hf
    refine z_roS X Z (c_X7_isBeat l D cI cR   p2 hq3) (zw_X7_105 X.1.2.2.2.2 ⟨Nat.le_of_ble_eq_true rfl, Nat.le_of_ble_eq_true rfl⟩) [] [0] (by decide : ([] ++ [0] : List Nat).Perm (List.range 1)) rfl rfl hl.1 rfl (Nat.le_of_ble_eq_true rfl) dX7_drop_10 ⟨Nat.le_of_ble_eq_true rfl, Nat.le_of_ble_eq_true rfl⟩ (fun H locs Z => ?_)
    refine lv_if_ne (tgt := 19) hx hb dX7_drop_13 (by decide) (fun c4 => ?_) (fun c4 => ?_)
    · have hf := it_f c4 hf
      refine lv_aload_n hx hb dX7_drop_19 rfl (lv_at hl 0 rfl) ?_
      refine zg_X7_12 X Z 0 rfl rfl dX7_drop_20 ?_
      refine lv_iload_n hx hb dX7_drop_23 rfl (lv_at hl 1 rfl) ?_
      have Z : zW D A s [[((a 0), .inr (7, [.ref (a 1), .ref (a 6), .ref (a 11), .ref (a 13), .ref (a 15), .ref (a 20), .ref (a 52), .ref (a 58)]))], [((a 1), .inr (4, [.ref (a 2), .ref (a 4), .int a_now.2.2.1, .int a_now.2.2.2.1, .int a_now.2.2.2.2.1, .int a_now.2.2.2.2.2]))], w_X1 cI cR (a 2) (a 3) a_now.1.1 a_now.1.2.1 a_now.1.2.2.1 a_now.1.2.2.2.1 a_now.1.2.2.2.2.1 a_now.1.2.2.2.2.2.1 a_now.1.2.2.2.2.2.2, w_X1 cI cR (a 4) (a 5) a_now.2.1.1 a_now.2.1.2.1 a_now.2.1.2.2.1 a_now.2.1.2.2.2.1 a_now.2.1.2.2.2.2.1 a_now.2.1.2.2.2.2.2.1 a_now.2.1.2.2.2.2.2.2, w_X4 cI cR (a 6) (a 7) (a 8) (a 9) (a 10) a_ahead, w_X2 cI cR (a 11) (a 12) a_pad_codes a_pad_length, w_X3 cI cR (a 13) (a 14) a_padPattern_heights a_padPattern_length, w_X6 cI cR (a 15) (a 16) (a 17) (a 18) (a 19) a_ways_steps a_ways_firstThrows a_ways_lastThrows a_ways_reached a_ways_reachedCount, w_X0 cI cR (fun i => a (i + 20)) a_history_rs a_history_oldest a_history_size, w_X5 cI cR (a 52) (a 53) (a 54) (a 55) (a 56) (a 57) a_slotZero_kept a_slotZero_filled, w_X5 cI cR (a 58) (a 59) (a 60) (a 61) (a 62) (a 63) a_slotOne_kept a_slotOne_filled] _ _ := Z.eq rfl
      rcases Decidable.em (p1 = 0) with c5 | c5
      · have hf := it_t c5 hf
        refine z_roVN X Z (c_X4_juggler_0 l D cI cR (a 1) (a 2) (a 4) a_now.2.2.1 a_now.2.2.2.1 a_now.2.2.2.2.1 a_now.2.2.2.2.2 p1 c5) (zw_X7_80 X.2.1 X.1.2.2.2.2 ⟨Nat.le_of_ble_eq_true rfl, Nat.le_of_ble_eq_true rfl⟩) 1 4 rfl rfl rfl [1] [0, 2, 3, 4, 5, 6, 7, 8, 9, 10] (by decide : ([1] ++ [0, 2, 3, 4, 5, 6, 7, 8, 9, 10] : List Nat).Perm (List.range 11)) rfl rfl hl.1 rfl (Nat.le_of_ble_eq_true rfl) dX7_drop_24 ⟨Nat.le_of_ble_eq_true rfl, Nat.le_of_ble_eq_true rfl⟩ (fun H locs Z => ?_)
        refine lv_iload_n hx hb dX7_drop_27 rfl (lv_at hl 2 rfl) ?_
        obtain ⟨q6, hq6, hf⟩ := ob_s hf
        refine z_roVN X Z (c_X1_expects l D cI cR (a 2) (a 3) a_now.1.1 a_now.1.2.1 a_now.1.2.2.1 a_now.1.2.2.2.1 a_now.1.2.2.2.2.1 a_now.1.2.2.2.2.2.1 a_now.1.2.2.2.2.2.2 p2 hq6) (zw_X7_108 X.2.1 X.1.2.2.2.2 ⟨Nat.le_of_ble_eq_true rfl, Nat.le_of_ble_eq_true rfl⟩) 2 1 rfl rfl rfl [2] [0, 1, 3, 4, 5, 6, 7, 8, 9, 10] (by decide : ([2] ++ [0, 1, 3, 4, 5, 6, 7, 8, 9, 10] : List Nat).Perm (List.range 11)) rfl rfl hl.1 rfl (Nat.le_of_ble_eq_true rfl) dX7_drop_28 ⟨Nat.le_of_ble_eq_true rfl, Nat.le_of_ble_eq_true rfl⟩ (fun H locs Z => ?_)
        refine lv_if_ne (tgt := 37) hx hb dX7_drop_31 (by decide) (fun c7 => ?_) (fun c7 => ?_)
        · have hf := it_f c7 hf
          refine lv_aload_n hx hb dX7_drop_37 rfl (lv_at hl 0 rfl) ?_
          refine zg_X7_43 X Z 0 rfl rfl dX7_drop_38 ?_
          refine lv_aload_n hx hb dX7_drop_41 rfl (lv_at hl 0 rfl) ?_
          refine zg_X7_12 X Z 0 rfl rfl dX7_drop_42 ?_
          have Z : zW D A s [[((a 0), .inr (7, [.ref (a 1), .ref (a 6), .ref (a 11), .ref (a 13), .ref (a 15), .ref (a 20), .ref (a 52), .ref (a 58)]))], w_X4 cI cR (a 1) (a 2) (a 3) (a 4) (a 5) a_now, w_X4 cI cR (a 6) (a 7) (a 8) (a 9) (a 10) a_ahead, w_X2 cI cR (a 11) (a 12) a_pad_codes a_pad_length, w_X3 cI cR (a 13) (a 14) a_padPattern_heights a_padPattern_length, w_X6 cI cR (a 15) (a 16) (a 17) (a 18) (a 19) a_ways_steps a_ways_firstThrows a_ways_lastThrows a_ways_reached a_ways_reachedCount, w_X0 cI cR (fun i => a (i + 20)) a_history_rs a_history_oldest a_history_size, w_X5 cI cR (a 52) (a 53) (a 54) (a 55) (a 56) (a 57) a_slotZero_kept a_slotZero_filled, w_X5 cI cR (a 58) (a 59) (a 60) (a 61) (a 62) (a 63) a_slotOne_kept a_slotOne_filled] _ _ := Z.eq rfl
          obtain ⟨q8, hq8, hf⟩ := ob_s hf
          refine z_callVN X Z (c_X0_record l D cI cR (fun i => a (i + 20)) (a 1) (a 2) (a 3) (a 4) (a 5) a_history_rs a_history_oldest a_history_size a_now  hq8) (zw_X7_65 X.2.1 X.1.2.2.2.2 ⟨Nat.le_of_ble_eq_true rfl, Nat.le_of_ble_eq_true rfl⟩) 20 0 rfl rfl rfl [6, 1] [0, 2, 3, 4, 5, 7, 8] [[((a 0), .inr (7, [.ref (a 1), .ref (a 6), .ref (a 11), .ref (a 13), .ref (a 15), .ref (a 20), .ref (a 52), .ref (a 58)]))], w_X4 cI cR (a 1) (a 2) (a 3) (a 4) (a 5) a_now, w_X4 cI cR (a 6) (a 7) (a 8) (a 9) (a 10) a_ahead, w_X2 cI cR (a 11) (a 12) a_pad_codes a_pad_length, w_X3 cI cR (a 13) (a 14) a_padPattern_heights a_padPattern_length, w_X6 cI cR (a 15) (a 16) (a 17) (a 18) (a 19) a_ways_steps a_ways_firstThrows a_ways_lastThrows a_ways_reached a_ways_reachedCount, w_X0 cI cR (fun i => a (i + 20)) q8.1 q8.2.1 q8.2.2, w_X5 cI cR (a 52) (a 53) (a 54) (a 55) (a 56) (a 57) a_slotZero_kept a_slotZero_filled, w_X5 cI cR (a 58) (a 59) (a 60) (a 61) (a 62) (a 63) a_slotOne_kept a_slotOne_filled] (by decide : ([6, 1] ++ [0, 2, 3, 4, 5, 7, 8] : List Nat).Perm (List.range 9)) rfl rfl rfl rfl rfl hl.1 rfl (Nat.le_of_ble_eq_true rfl) dX7_drop_45 ⟨Nat.le_of_ble_eq_true rfl, Nat.le_of_ble_eq_true rfl⟩ (fun H locs Z => ?_)
          refine lv_aload_n hx hb dX7_drop_48 rfl (lv_at hl 0 rfl) ?_
          refine zg_X7_12 X Z 0 rfl rfl dX7_drop_49 ?_
          refine lv_iload_n hx hb dX7_drop_52 rfl (lv_at hl 1 rfl) ?_
          have Z : zW D A s [[((a 0), .inr (7, [.ref (a 1), .ref (a 6), .ref (a 11), .ref (a 13), .ref (a 15), .ref (a 20), .ref (a 52), .ref (a 58)]))], [((a 1), .inr (4, [.ref (a 2), .ref (a 4), .int a_now.2.2.1, .int a_now.2.2.2.1, .int a_now.2.2.2.2.1, .int a_now.2.2.2.2.2]))], w_X1 cI cR (a 2) (a 3) a_now.1.1 a_now.1.2.1 a_now.1.2.2.1 a_now.1.2.2.2.1 a_now.1.2.2.2.2.1 a_now.1.2.2.2.2.2.1 a_now.1.2.2.2.2.2.2, w_X1 cI cR (a 4) (a 5) a_now.2.1.1 a_now.2.1.2.1 a_now.2.1.2.2.1 a_now.2.1.2.2.2.1 a_now.2.1.2.2.2.2.1 a_now.2.1.2.2.2.2.2.1 a_now.2.1.2.2.2.2.2.2, w_X4 cI cR (a 6) (a 7) (a 8) (a 9) (a 10) a_ahead, w_X2 cI cR (a 11) (a 12) a_pad_codes a_pad_length, w_X3 cI cR (a 13) (a 14) a_padPattern_heights a_padPattern_length, w_X6 cI cR (a 15) (a 16) (a 17) (a 18) (a 19) a_ways_steps a_ways_firstThrows a_ways_lastThrows a_ways_reached a_ways_reachedCount, w_X0 cI cR (fun i => a (i + 20)) q8.1 q8.2.1 q8.2.2, w_X5 cI cR (a 52) (a 53) (a 54) (a 55) (a 56) (a 57) a_slotZero_kept a_slotZero_filled, w_X5 cI cR (a 58) (a 59) (a 60) (a 61) (a 62) (a 63) a_slotOne_kept a_slotOne_filled] _ _ := Z.eq rfl
          rcases Decidable.em (p1 = 0) with c9 | c9
          · have hf := it_t c9 hf
            refine z_roVN X Z (c_X4_juggler_0 l D cI cR (a 1) (a 2) (a 4) a_now.2.2.1 a_now.2.2.2.1 a_now.2.2.2.2.1 a_now.2.2.2.2.2 p1 c9) (zw_X7_80 X.2.1 X.1.2.2.2.2 ⟨Nat.le_of_ble_eq_true rfl, Nat.le_of_ble_eq_true rfl⟩) 1 4 rfl rfl rfl [1] [0, 2, 3, 4, 5, 6, 7, 8, 9, 10] (by decide : ([1] ++ [0, 2, 3, 4, 5, 6, 7, 8, 9, 10] : List Nat).Perm (List.range 11)) rfl rfl hl.1 rfl (Nat.le_of_ble_eq_true rfl) dX7_drop_53 ⟨Nat.le_of_ble_eq_true rfl, Nat.le_of_ble_eq_true rfl⟩ (fun H locs Z => ?_)
            refine lv_iload_n hx hb dX7_drop_56 rfl (lv_at hl 2 rfl) ?_
            obtain ⟨q10, hq10, hf⟩ := ob_s hf
            refine z_callVN X Z (c_X1_lose l D cI cR (a 2) (a 3) a_now.1.1 a_now.1.2.1 a_now.1.2.2.1 a_now.1.2.2.2.1 a_now.1.2.2.2.2.1 a_now.1.2.2.2.2.2.1 a_now.1.2.2.2.2.2.2 p2 hq10) (zw_X7_111 X.2.1 X.1.2.2.2.2 ⟨Nat.le_of_ble_eq_true rfl, Nat.le_of_ble_eq_true rfl⟩) 2 1 rfl rfl rfl [2] [0, 1, 3, 4, 5, 6, 7, 8, 9, 10] [[((a 0), .inr (7, [.ref (a 1), .ref (a 6), .ref (a 11), .ref (a 13), .ref (a 15), .ref (a 20), .ref (a 52), .ref (a 58)]))], [((a 1), .inr (4, [.ref (a 2), .ref (a 4), .int a_now.2.2.1, .int a_now.2.2.2.1, .int a_now.2.2.2.2.1, .int a_now.2.2.2.2.2]))], w_X1 cI cR (a 2) (a 3) q10 a_now.1.2.1 a_now.1.2.2.1 a_now.1.2.2.2.1 a_now.1.2.2.2.2.1 a_now.1.2.2.2.2.2.1 a_now.1.2.2.2.2.2.2, w_X1 cI cR (a 4) (a 5) a_now.2.1.1 a_now.2.1.2.1 a_now.2.1.2.2.1 a_now.2.1.2.2.2.1 a_now.2.1.2.2.2.2.1 a_now.2.1.2.2.2.2.2.1 a_now.2.1.2.2.2.2.2.2, w_X4 cI cR (a 6) (a 7) (a 8) (a 9) (a 10) a_ahead, w_X2 cI cR (a 11) (a 12) a_pad_codes a_pad_length, w_X3 cI cR (a 13) (a 14) a_padPattern_heights a_padPattern_length, w_X6 cI cR (a 15) (a 16) (a 17) (a 18) (a 19) a_ways_steps a_ways_firstThrows a_ways_lastThrows a_ways_reached a_ways_reachedCount, w_X0 cI cR (fun i => a (i + 20)) q8.1 q8.2.1 q8.2.2, w_X5 cI cR (a 52) (a 53) (a 54) (a 55) (a 56) (a 57) a_slotZero_kept a_slotZero_filled, w_X5 cI cR (a 58) (a 59) (a 60) (a 61) (a 62) (a 63) a_slotOne_kept a_slotOne_filled] (by decide : ([2] ++ [0, 1, 3, 4, 5, 6, 7, 8, 9, 10] : List Nat).Perm (List.range 11)) rfl rfl rfl rfl rfl hl.1 rfl (Nat.le_of_ble_eq_true rfl) dX7_drop_57 ⟨Nat.le_of_ble_eq_true rfl, Nat.le_of_ble_eq_true rfl⟩ (fun H locs Z => ?_)
            refine lv_aload_n hx hb dX7_drop_60 rfl (lv_at hl 0 rfl) ?_
            refine zg_X7_12 X Z 0 rfl rfl dX7_drop_61 ?_
            refine lv_dup hx hb dX7_drop_64 rfl ?_
            refine zg_X7_115 X Z 1 rfl rfl dX7_drop_65 ?_
            refine lv_iconst (v := 1) hx hb dX7_drop_68 (by decide) ?_
            refine lv_iadd hx hb dX7_drop_69 ?_
            refine zp_X7_115 X Z 1 rfl (Nat.le_of_ble_eq_true rfl) [[((a 0), .inr (7, [.ref (a 1), .ref (a 6), .ref (a 11), .ref (a 13), .ref (a 15), .ref (a 20), .ref (a 52), .ref (a 58)]))], [((a 1), .inr (4, [.ref (a 2), .ref (a 4), .int (a_now.2.2.1 + (1 : Int32)), .int a_now.2.2.2.1, .int a_now.2.2.2.2.1, .int a_now.2.2.2.2.2]))], w_X1 cI cR (a 2) (a 3) q10 a_now.1.2.1 a_now.1.2.2.1 a_now.1.2.2.2.1 a_now.1.2.2.2.2.1 a_now.1.2.2.2.2.2.1 a_now.1.2.2.2.2.2.2, w_X1 cI cR (a 4) (a 5) a_now.2.1.1 a_now.2.1.2.1 a_now.2.1.2.2.1 a_now.2.1.2.2.2.1 a_now.2.1.2.2.2.2.1 a_now.2.1.2.2.2.2.2.1 a_now.2.1.2.2.2.2.2.2, w_X4 cI cR (a 6) (a 7) (a 8) (a 9) (a 10) a_ahead, w_X2 cI cR (a 11) (a 12) a_pad_codes a_pad_length, w_X3 cI cR (a 13) (a 14) a_padPattern_heights a_padPattern_length, w_X6 cI cR (a 15) (a 16) (a 17) (a 18) (a 19) a_ways_steps a_ways_firstThrows a_ways_lastThrows a_ways_reached a_ways_reachedCount, w_X0 cI cR (fun i => a (i + 20)) q8.1 q8.2.1 q8.2.2, w_X5 cI cR (a 52) (a 53) (a 54) (a 55) (a 56) (a 57) a_slotZero_kept a_slotZero_filled, w_X5 cI cR (a 58) (a 59) (a 60) (a 61) (a 62) (a 63) a_slotOne_kept a_slotOne_filled] rfl dX7_drop_70 (fun H locs Z => ?_)
            refine lv_aload_n hx hb dX7_drop_73 rfl (lv_at hl 0 rfl) ?_
            refine zg_X7_12 X Z 0 rfl rfl dX7_drop_74 ?_
            refine zg_X7_115 X Z 1 rfl rfl dX7_drop_77 ?_
            have hR := so_s hf
            subst hR
            refine z_iret X hr hlocks ?_ dX7_drop_80
            exact Z.eq rfl
          · have hf := it_f c9 hf
            refine z_roVN X Z (c_X4_juggler_1 l D cI cR (a 1) (a 2) (a 4) a_now.2.2.1 a_now.2.2.2.1 a_now.2.2.2.2.1 a_now.2.2.2.2.2 p1 c9) (zw_X7_80 X.2.1 X.1.2.2.2.2 ⟨Nat.le_of_ble_eq_true rfl, Nat.le_of_ble_eq_true rfl⟩) 1 4 rfl rfl rfl [1] [0, 2, 3, 4, 5, 6, 7, 8, 9, 10] (by decide : ([1] ++ [0, 2, 3, 4, 5, 6, 7, 8, 9, 10] : List Nat).Perm (List.range 11)) rfl rfl hl.1 rfl (Nat.le_of_ble_eq_true rfl) dX7_drop_53 ⟨Nat.le_of_ble_eq_true rfl, Nat.le_of_ble_eq_true rfl⟩ (fun H locs Z => ?_)
            refine lv_iload_n hx hb dX7_drop_56 rfl (lv_at hl 2 rfl) ?_
            obtain ⟨q11, hq11, hf⟩ := ob_s hf
            refine z_callVN X Z (c_X1_lose l D cI cR (a 4) (a 5) a_now.2.1.1 a_now.2.1.2.1 a_now.2.1.2.2.1 a_now.2.1.2.2.2.1 a_now.2.1.2.2.2.2.1 a_now.2.1.2.2.2.2.2.1 a_now.2.1.2.2.2.2.2.2 p2 hq11) (zw_X7_111 X.2.1 X.1.2.2.2.2 ⟨Nat.le_of_ble_eq_true rfl, Nat.le_of_ble_eq_true rfl⟩) 4 1 rfl rfl rfl [3] [0, 1, 2, 4, 5, 6, 7, 8, 9, 10] [[((a 0), .inr (7, [.ref (a 1), .ref (a 6), .ref (a 11), .ref (a 13), .ref (a 15), .ref (a 20), .ref (a 52), .ref (a 58)]))], [((a 1), .inr (4, [.ref (a 2), .ref (a 4), .int a_now.2.2.1, .int a_now.2.2.2.1, .int a_now.2.2.2.2.1, .int a_now.2.2.2.2.2]))], w_X1 cI cR (a 2) (a 3) a_now.1.1 a_now.1.2.1 a_now.1.2.2.1 a_now.1.2.2.2.1 a_now.1.2.2.2.2.1 a_now.1.2.2.2.2.2.1 a_now.1.2.2.2.2.2.2, w_X1 cI cR (a 4) (a 5) q11 a_now.2.1.2.1 a_now.2.1.2.2.1 a_now.2.1.2.2.2.1 a_now.2.1.2.2.2.2.1 a_now.2.1.2.2.2.2.2.1 a_now.2.1.2.2.2.2.2.2, w_X4 cI cR (a 6) (a 7) (a 8) (a 9) (a 10) a_ahead, w_X2 cI cR (a 11) (a 12) a_pad_codes a_pad_length, w_X3 cI cR (a 13) (a 14) a_padPattern_heights a_padPattern_length, w_X6 cI cR (a 15) (a 16) (a 17) (a 18) (a 19) a_ways_steps a_ways_firstThrows a_ways_lastThrows a_ways_reached a_ways_reachedCount, w_X0 cI cR (fun i => a (i + 20)) q8.1 q8.2.1 q8.2.2, w_X5 cI cR (a 52) (a 53) (a 54) (a 55) (a 56) (a 57) a_slotZero_kept a_slotZero_filled, w_X5 cI cR (a 58) (a 59) (a 60) (a 61) (a 62) (a 63) a_slotOne_kept a_slotOne_filled] (by decide : ([3] ++ [0, 1, 2, 4, 5, 6, 7, 8, 9, 10] : List Nat).Perm (List.range 11)) rfl rfl rfl rfl rfl hl.1 rfl (Nat.le_of_ble_eq_true rfl) dX7_drop_57 ⟨Nat.le_of_ble_eq_true rfl, Nat.le_of_ble_eq_true rfl⟩ (fun H locs Z => ?_)
            refine lv_aload_n hx hb dX7_drop_60 rfl (lv_at hl 0 rfl) ?_
            refine zg_X7_12 X Z 0 rfl rfl dX7_drop_61 ?_
            refine lv_dup hx hb dX7_drop_64 rfl ?_
            refine zg_X7_115 X Z 1 rfl rfl dX7_drop_65 ?_
            refine lv_iconst (v := 1) hx hb dX7_drop_68 (by decide) ?_
            refine lv_iadd hx hb dX7_drop_69 ?_
            refine zp_X7_115 X Z 1 rfl (Nat.le_of_ble_eq_true rfl) [[((a 0), .inr (7, [.ref (a 1), .ref (a 6), .ref (a 11), .ref (a 13), .ref (a 15), .ref (a 20), .ref (a 52), .ref (a 58)]))], [((a 1), .inr (4, [.ref (a 2), .ref (a 4), .int (a_now.2.2.1 + (1 : Int32)), .int a_now.2.2.2.1, .int a_now.2.2.2.2.1, .int a_now.2.2.2.2.2]))], w_X1 cI cR (a 2) (a 3) a_now.1.1 a_now.1.2.1 a_now.1.2.2.1 a_now.1.2.2.2.1 a_now.1.2.2.2.2.1 a_now.1.2.2.2.2.2.1 a_now.1.2.2.2.2.2.2, w_X1 cI cR (a 4) (a 5) q11 a_now.2.1.2.1 a_now.2.1.2.2.1 a_now.2.1.2.2.2.1 a_now.2.1.2.2.2.2.1 a_now.2.1.2.2.2.2.2.1 a_now.2.1.2.2.2.2.2.2, w_X4 cI cR (a 6) (a 7) (a 8) (a 9) (a 10) a_ahead, w_X2 cI cR (a 11) (a 12) a_pad_codes a_pad_length, w_X3 cI cR (a 13) (a 14) a_padPattern_heights a_padPattern_length, w_X6 cI cR (a 15) (a 16) (a 17) (a 18) (a 19) a_ways_steps a_ways_firstThrows a_ways_lastThrows a_ways_reached a_ways_reachedCount, w_X0 cI cR (fun i => a (i + 20)) q8.1 q8.2.1 q8.2.2, w_X5 cI cR (a 52) (a 53) (a 54) (a 55) (a 56) (a 57) a_slotZero_kept a_slotZero_filled, w_X5 cI cR (a 58) (a 59) (a 60) (a 61) (a 62) (a 63) a_slotOne_kept a_slotOne_filled] rfl dX7_drop_70 (fun H locs Z => ?_)
            refine lv_aload_n hx hb dX7_drop_73 rfl (lv_at hl 0 rfl) ?_
            refine zg_X7_12 X Z 0 rfl rfl dX7_drop_74 ?_
            refine zg_X7_115 X Z 1 rfl rfl dX7_drop_77 ?_
            have hR := so_s hf
            subst hR
            refine z_iret X hr hlocks ?_ dX7_drop_80
            exact Z.eq rfl
        · have hf := it_t c7 hf
          refine lv_bipush (v := -5) hx hb dX7_drop_34 (by decide) ?_
          have hR := so_s hf
          subst hR
          refine z_iret X hr hlocks ?_ dX7_drop_36
          exact Z.eq rfl
      · have hf := it_f c5 hf
        refine z_roVN X Z (c_X4_juggler_1 l D cI cR (a 1) (a 2) (a 4) a_now.2.2.1 a_now.2.2.2.1 a_now.2.2.2.2.1 a_now.2.2.2.2.2 p1 c5) (zw_X7_80 X.2.1 X.1.2.2.2.2 ⟨Nat.le_of_ble_eq_true rfl, Nat.le_of_ble_eq_true rfl⟩) 1 4 rfl rfl rfl [1] [0, 2, 3, 4, 5, 6, 7, 8, 9, 10] (by decide : ([1] ++ [0, 2, 3, 4, 5, 6, 7, 8, 9, 10] : List Nat).Perm (List.range 11)) rfl rfl hl.1 rfl (Nat.le_of_ble_eq_true rfl) dX7_drop_24 ⟨Nat.le_of_ble_eq_true rfl, Nat.le_of_ble_eq_true rfl⟩ (fun H locs Z => ?_)
        refine lv_iload_n hx hb dX7_drop_27 rfl (lv_at hl 2 rfl) ?_
        obtain ⟨q12, hq12, hf⟩ := ob_s hf
        refine z_roVN X Z (c_X1_expects l D cI cR (a 4) (a 5) a_now.2.1.1 a_now.2.1.2.1 a_now.2.1.2.2.1 a_now.2.1.2.2.2.1 a_now.2.1.2.2.2.2.1 a_now.2.1.2.2.2.2.2.1 a_now.2.1.2.2.2.2.2.2 p2 hq12) (zw_X7_108 X.2.1 X.1.2.2.2.2 ⟨Nat.le_of_ble_eq_true rfl, Nat.le_of_ble_eq_true rfl⟩) 4 1 rfl rfl rfl [3] [0, 1, 2, 4, 5, 6, 7, 8, 9, 10] (by decide : ([3] ++ [0, 1, 2, 4, 5, 6, 7, 8, 9, 10] : List Nat).Perm (List.range 11)) rfl rfl hl.1 rfl (Nat.le_of_ble_eq_true rfl) dX7_drop_28 ⟨Nat.le_of_ble_eq_true rfl, Nat.le_of_ble_eq_true rfl⟩ (fun H locs Z => ?_)
        refine lv_if_ne (tgt := 37) hx hb dX7_drop_31 (by decide) (fun c13 => ?_) (fun c13 => ?_)
        · have hf := it_f c13 hf
          refine lv_aload_n hx hb dX7_drop_37 rfl (lv_at hl 0 rfl) ?_
          refine zg_X7_43 X Z 0 rfl rfl dX7_drop_38 ?_
          refine lv_aload_n hx hb dX7_drop_41 rfl (lv_at hl 0 rfl) ?_
          refine zg_X7_12 X Z 0 rfl rfl dX7_drop_42 ?_
          have Z : zW D A s [[((a 0), .inr (7, [.ref (a 1), .ref (a 6), .ref (a 11), .ref (a 13), .ref (a 15), .ref (a 20), .ref (a 52), .ref (a 58)]))], w_X4 cI cR (a 1) (a 2) (a 3) (a 4) (a 5) a_now, w_X4 cI cR (a 6) (a 7) (a 8) (a 9) (a 10) a_ahead, w_X2 cI cR (a 11) (a 12) a_pad_codes a_pad_length, w_X3 cI cR (a 13) (a 14) a_padPattern_heights a_padPattern_length, w_X6 cI cR (a 15) (a 16) (a 17) (a 18) (a 19) a_ways_steps a_ways_firstThrows a_ways_lastThrows a_ways_reached a_ways_reachedCount, w_X0 cI cR (fun i => a (i + 20)) a_history_rs a_history_oldest a_history_size, w_X5 cI cR (a 52) (a 53) (a 54) (a 55) (a 56) (a 57) a_slotZero_kept a_slotZero_filled, w_X5 cI cR (a 58) (a 59) (a 60) (a 61) (a 62) (a 63) a_slotOne_kept a_slotOne_filled] _ _ := Z.eq rfl
          obtain ⟨q14, hq14, hf⟩ := ob_s hf
          refine z_callVN X Z (c_X0_record l D cI cR (fun i => a (i + 20)) (a 1) (a 2) (a 3) (a 4) (a 5) a_history_rs a_history_oldest a_history_size a_now  hq14) (zw_X7_65 X.2.1 X.1.2.2.2.2 ⟨Nat.le_of_ble_eq_true rfl, Nat.le_of_ble_eq_true rfl⟩) 20 0 rfl rfl rfl [6, 1] [0, 2, 3, 4, 5, 7, 8] [[((a 0), .inr (7, [.ref (a 1), .ref (a 6), .ref (a 11), .ref (a 13), .ref (a 15), .ref (a 20), .ref (a 52), .ref (a 58)]))], w_X4 cI cR (a 1) (a 2) (a 3) (a 4) (a 5) a_now, w_X4 cI cR (a 6) (a 7) (a 8) (a 9) (a 10) a_ahead, w_X2 cI cR (a 11) (a 12) a_pad_codes a_pad_length, w_X3 cI cR (a 13) (a 14) a_padPattern_heights a_padPattern_length, w_X6 cI cR (a 15) (a 16) (a 17) (a 18) (a 19) a_ways_steps a_ways_firstThrows a_ways_lastThrows a_ways_reached a_ways_reachedCount, w_X0 cI cR (fun i => a (i + 20)) q14.1 q14.2.1 q14.2.2, w_X5 cI cR (a 52) (a 53) (a 54) (a 55) (a 56) (a 57) a_slotZero_kept a_slotZero_filled, w_X5 cI cR (a 58) (a 59) (a 60) (a 61) (a 62) (a 63) a_slotOne_kept a_slotOne_filled] (by decide : ([6, 1] ++ [0, 2, 3, 4, 5, 7, 8] : List Nat).Perm (List.range 9)) rfl rfl rfl rfl rfl hl.1 rfl (Nat.le_of_ble_eq_true rfl) dX7_drop_45 ⟨Nat.le_of_ble_eq_true rfl, Nat.le_of_ble_eq_true rfl⟩ (fun H locs Z => ?_)
          refine lv_aload_n hx hb dX7_drop_48 rfl (lv_at hl 0 rfl) ?_
          refine zg_X7_12 X Z 0 rfl rfl dX7_drop_49 ?_
          refine lv_iload_n hx hb dX7_drop_52 rfl (lv_at hl 1 rfl) ?_
          have Z : zW D A s [[((a 0), .inr (7, [.ref (a 1), .ref (a 6), .ref (a 11), .ref (a 13), .ref (a 15), .ref (a 20), .ref (a 52), .ref (a 58)]))], [((a 1), .inr (4, [.ref (a 2), .ref (a 4), .int a_now.2.2.1, .int a_now.2.2.2.1, .int a_now.2.2.2.2.1, .int a_now.2.2.2.2.2]))], w_X1 cI cR (a 2) (a 3) a_now.1.1 a_now.1.2.1 a_now.1.2.2.1 a_now.1.2.2.2.1 a_now.1.2.2.2.2.1 a_now.1.2.2.2.2.2.1 a_now.1.2.2.2.2.2.2, w_X1 cI cR (a 4) (a 5) a_now.2.1.1 a_now.2.1.2.1 a_now.2.1.2.2.1 a_now.2.1.2.2.2.1 a_now.2.1.2.2.2.2.1 a_now.2.1.2.2.2.2.2.1 a_now.2.1.2.2.2.2.2.2, w_X4 cI cR (a 6) (a 7) (a 8) (a 9) (a 10) a_ahead, w_X2 cI cR (a 11) (a 12) a_pad_codes a_pad_length, w_X3 cI cR (a 13) (a 14) a_padPattern_heights a_padPattern_length, w_X6 cI cR (a 15) (a 16) (a 17) (a 18) (a 19) a_ways_steps a_ways_firstThrows a_ways_lastThrows a_ways_reached a_ways_reachedCount, w_X0 cI cR (fun i => a (i + 20)) q14.1 q14.2.1 q14.2.2, w_X5 cI cR (a 52) (a 53) (a 54) (a 55) (a 56) (a 57) a_slotZero_kept a_slotZero_filled, w_X5 cI cR (a 58) (a 59) (a 60) (a 61) (a 62) (a 63) a_slotOne_kept a_slotOne_filled] _ _ := Z.eq rfl
          rcases Decidable.em (p1 = 0) with c15 | c15
          · have hf := it_t c15 hf
            refine z_roVN X Z (c_X4_juggler_0 l D cI cR (a 1) (a 2) (a 4) a_now.2.2.1 a_now.2.2.2.1 a_now.2.2.2.2.1 a_now.2.2.2.2.2 p1 c15) (zw_X7_80 X.2.1 X.1.2.2.2.2 ⟨Nat.le_of_ble_eq_true rfl, Nat.le_of_ble_eq_true rfl⟩) 1 4 rfl rfl rfl [1] [0, 2, 3, 4, 5, 6, 7, 8, 9, 10] (by decide : ([1] ++ [0, 2, 3, 4, 5, 6, 7, 8, 9, 10] : List Nat).Perm (List.range 11)) rfl rfl hl.1 rfl (Nat.le_of_ble_eq_true rfl) dX7_drop_53 ⟨Nat.le_of_ble_eq_true rfl, Nat.le_of_ble_eq_true rfl⟩ (fun H locs Z => ?_)
            refine lv_iload_n hx hb dX7_drop_56 rfl (lv_at hl 2 rfl) ?_
            obtain ⟨q16, hq16, hf⟩ := ob_s hf
            refine z_callVN X Z (c_X1_lose l D cI cR (a 2) (a 3) a_now.1.1 a_now.1.2.1 a_now.1.2.2.1 a_now.1.2.2.2.1 a_now.1.2.2.2.2.1 a_now.1.2.2.2.2.2.1 a_now.1.2.2.2.2.2.2 p2 hq16) (zw_X7_111 X.2.1 X.1.2.2.2.2 ⟨Nat.le_of_ble_eq_true rfl, Nat.le_of_ble_eq_true rfl⟩) 2 1 rfl rfl rfl [2] [0, 1, 3, 4, 5, 6, 7, 8, 9, 10] [[((a 0), .inr (7, [.ref (a 1), .ref (a 6), .ref (a 11), .ref (a 13), .ref (a 15), .ref (a 20), .ref (a 52), .ref (a 58)]))], [((a 1), .inr (4, [.ref (a 2), .ref (a 4), .int a_now.2.2.1, .int a_now.2.2.2.1, .int a_now.2.2.2.2.1, .int a_now.2.2.2.2.2]))], w_X1 cI cR (a 2) (a 3) q16 a_now.1.2.1 a_now.1.2.2.1 a_now.1.2.2.2.1 a_now.1.2.2.2.2.1 a_now.1.2.2.2.2.2.1 a_now.1.2.2.2.2.2.2, w_X1 cI cR (a 4) (a 5) a_now.2.1.1 a_now.2.1.2.1 a_now.2.1.2.2.1 a_now.2.1.2.2.2.1 a_now.2.1.2.2.2.2.1 a_now.2.1.2.2.2.2.2.1 a_now.2.1.2.2.2.2.2.2, w_X4 cI cR (a 6) (a 7) (a 8) (a 9) (a 10) a_ahead, w_X2 cI cR (a 11) (a 12) a_pad_codes a_pad_length, w_X3 cI cR (a 13) (a 14) a_padPattern_heights a_padPattern_length, w_X6 cI cR (a 15) (a 16) (a 17) (a 18) (a 19) a_ways_steps a_ways_firstThrows a_ways_lastThrows a_ways_reached a_ways_reachedCount, w_X0 cI cR (fun i => a (i + 20)) q14.1 q14.2.1 q14.2.2, w_X5 cI cR (a 52) (a 53) (a 54) (a 55) (a 56) (a 57) a_slotZero_kept a_slotZero_filled, w_X5 cI cR (a 58) (a 59) (a 60) (a 61) (a 62) (a 63) a_slotOne_kept a_slotOne_filled] (by decide : ([2] ++ [0, 1, 3, 4, 5, 6, 7, 8, 9, 10] : List Nat).Perm (List.range 11)) rfl rfl rfl rfl rfl hl.1 rfl (Nat.le_of_ble_eq_true rfl) dX7_drop_57 ⟨Nat.le_of_ble_eq_true rfl, Nat.le_of_ble_eq_true rfl⟩ (fun H locs Z => ?_)
            refine lv_aload_n hx hb dX7_drop_60 rfl (lv_at hl 0 rfl) ?_
            refine zg_X7_12 X Z 0 rfl rfl dX7_drop_61 ?_
            refine lv_dup hx hb dX7_drop_64 rfl ?_
            refine zg_X7_115 X Z 1 rfl rfl dX7_drop_65 ?_
            refine lv_iconst (v := 1) hx hb dX7_drop_68 (by decide) ?_
            refine lv_iadd hx hb dX7_drop_69 ?_
            refine zp_X7_115 X Z 1 rfl (Nat.le_of_ble_eq_true rfl) [[((a 0), .inr (7, [.ref (a 1), .ref (a 6), .ref (a 11), .ref (a 13), .ref (a 15), .ref (a 20), .ref (a 52), .ref (a 58)]))], [((a 1), .inr (4, [.ref (a 2), .ref (a 4), .int (a_now.2.2.1 + (1 : Int32)), .int a_now.2.2.2.1, .int a_now.2.2.2.2.1, .int a_now.2.2.2.2.2]))], w_X1 cI cR (a 2) (a 3) q16 a_now.1.2.1 a_now.1.2.2.1 a_now.1.2.2.2.1 a_now.1.2.2.2.2.1 a_now.1.2.2.2.2.2.1 a_now.1.2.2.2.2.2.2, w_X1 cI cR (a 4) (a 5) a_now.2.1.1 a_now.2.1.2.1 a_now.2.1.2.2.1 a_now.2.1.2.2.2.1 a_now.2.1.2.2.2.2.1 a_now.2.1.2.2.2.2.2.1 a_now.2.1.2.2.2.2.2.2, w_X4 cI cR (a 6) (a 7) (a 8) (a 9) (a 10) a_ahead, w_X2 cI cR (a 11) (a 12) a_pad_codes a_pad_length, w_X3 cI cR (a 13) (a 14) a_padPattern_heights a_padPattern_length, w_X6 cI cR (a 15) (a 16) (a 17) (a 18) (a 19) a_ways_steps a_ways_firstThrows a_ways_lastThrows a_ways_reached a_ways_reachedCount, w_X0 cI cR (fun i => a (i + 20)) q14.1 q14.2.1 q14.2.2, w_X5 cI cR (a 52) (a 53) (a 54) (a 55) (a 56) (a 57) a_slotZero_kept a_slotZero_filled, w_X5 cI cR (a 58) (a 59) (a 60) (a 61) (a 62) (a 63) a_slotOne_kept a_slotOne_filled] rfl dX7_drop_70 (fun H locs Z => ?_)
            refine lv_aload_n hx hb dX7_drop_73 rfl (lv_at hl 0 rfl) ?_
            refine zg_X7_12 X Z 0 rfl rfl dX7_drop_74 ?_
            refine zg_X7_115 X Z 1 rfl rfl dX7_drop_77 ?_
            have hR := so_s hf
            subst hR
            refine z_iret X hr hlocks ?_ dX7_drop_80
            exact Z.eq rfl
          · have hf := it_f c15 hf
            refine z_roVN X Z (c_X4_juggler_1 l D cI cR (a 1) (a 2) (a 4) a_now.2.2.1 a_now.2.2.2.1 a_now.2.2.2.2.1 a_now.2.2.2.2.2 p1 c15) (zw_X7_80 X.2.1 X.1.2.2.2.2 ⟨Nat.le_of_ble_eq_true rfl, Nat.le_of_ble_eq_true rfl⟩) 1 4 rfl rfl rfl [1] [0, 2, 3, 4, 5, 6, 7, 8, 9, 10] (by decide : ([1] ++ [0, 2, 3, 4, 5, 6, 7, 8, 9, 10] : List Nat).Perm (List.range 11)) rfl rfl hl.1 rfl (Nat.le_of_ble_eq_true rfl) dX7_drop_53 ⟨Nat.le_of_ble_eq_true rfl, Nat.le_of_ble_eq_true rfl⟩ (fun H locs Z => ?_)
            refine lv_iload_n hx hb dX7_drop_56 rfl (lv_at hl 2 rfl) ?_
            obtain ⟨q17, hq17, hf⟩ := ob_s hf
            refine z_callVN X Z (c_X1_lose l D cI cR (a 4) (a 5) a_now.2.1.1 a_now.2.1.2.1 a_now.2.1.2.2.1 a_now.2.1.2.2.2.1 a_now.2.1.2.2.2.2.1 a_now.2.1.2.2.2.2.2.1 a_now.2.1.2.2.2.2.2.2 p2 hq17) (zw_X7_111 X.2.1 X.1.2.2.2.2 ⟨Nat.le_of_ble_eq_true rfl, Nat.le_of_ble_eq_true rfl⟩) 4 1 rfl rfl rfl [3] [0, 1, 2, 4, 5, 6, 7, 8, 9, 10] [[((a 0), .inr (7, [.ref (a 1), .ref (a 6), .ref (a 11), .ref (a 13), .ref (a 15), .ref (a 20), .ref (a 52), .ref (a 58)]))], [((a 1), .inr (4, [.ref (a 2), .ref (a 4), .int a_now.2.2.1, .int a_now.2.2.2.1, .int a_now.2.2.2.2.1, .int a_now.2.2.2.2.2]))], w_X1 cI cR (a 2) (a 3) a_now.1.1 a_now.1.2.1 a_now.1.2.2.1 a_now.1.2.2.2.1 a_now.1.2.2.2.2.1 a_now.1.2.2.2.2.2.1 a_now.1.2.2.2.2.2.2, w_X1 cI cR (a 4) (a 5) q17 a_now.2.1.2.1 a_now.2.1.2.2.1 a_now.2.1.2.2.2.1 a_now.2.1.2.2.2.2.1 a_now.2.1.2.2.2.2.2.1 a_now.2.1.2.2.2.2.2.2, w_X4 cI cR (a 6) (a 7) (a 8) (a 9) (a 10) a_ahead, w_X2 cI cR (a 11) (a 12) a_pad_codes a_pad_length, w_X3 cI cR (a 13) (a 14) a_padPattern_heights a_padPattern_length, w_X6 cI cR (a 15) (a 16) (a 17) (a 18) (a 19) a_ways_steps a_ways_firstThrows a_ways_lastThrows a_ways_reached a_ways_reachedCount, w_X0 cI cR (fun i => a (i + 20)) q14.1 q14.2.1 q14.2.2, w_X5 cI cR (a 52) (a 53) (a 54) (a 55) (a 56) (a 57) a_slotZero_kept a_slotZero_filled, w_X5 cI cR (a 58) (a 59) (a 60) (a 61) (a 62) (a 63) a_slotOne_kept a_slotOne_filled] (by decide : ([3] ++ [0, 1, 2, 4, 5, 6, 7, 8, 9, 10] : List Nat).Perm (List.range 11)) rfl rfl rfl rfl rfl hl.1 rfl (Nat.le_of_ble_eq_true rfl) dX7_drop_57 ⟨Nat.le_of_ble_eq_true rfl, Nat.le_of_ble_eq_true rfl⟩ (fun H locs Z => ?_)
            refine lv_aload_n hx hb dX7_drop_60 rfl (lv_at hl 0 rfl) ?_
            refine zg_X7_12 X Z 0 rfl rfl dX7_drop_61 ?_
            refine lv_dup hx hb dX7_drop_64 rfl ?_
            refine zg_X7_115 X Z 1 rfl rfl dX7_drop_65 ?_
            refine lv_iconst (v := 1) hx hb dX7_drop_68 (by decide) ?_
            refine lv_iadd hx hb dX7_drop_69 ?_
            refine zp_X7_115 X Z 1 rfl (Nat.le_of_ble_eq_true rfl) [[((a 0), .inr (7, [.ref (a 1), .ref (a 6), .ref (a 11), .ref (a 13), .ref (a 15), .ref (a 20), .ref (a 52), .ref (a 58)]))], [((a 1), .inr (4, [.ref (a 2), .ref (a 4), .int (a_now.2.2.1 + (1 : Int32)), .int a_now.2.2.2.1, .int a_now.2.2.2.2.1, .int a_now.2.2.2.2.2]))], w_X1 cI cR (a 2) (a 3) a_now.1.1 a_now.1.2.1 a_now.1.2.2.1 a_now.1.2.2.2.1 a_now.1.2.2.2.2.1 a_now.1.2.2.2.2.2.1 a_now.1.2.2.2.2.2.2, w_X1 cI cR (a 4) (a 5) q17 a_now.2.1.2.1 a_now.2.1.2.2.1 a_now.2.1.2.2.2.1 a_now.2.1.2.2.2.2.1 a_now.2.1.2.2.2.2.2.1 a_now.2.1.2.2.2.2.2.2, w_X4 cI cR (a 6) (a 7) (a 8) (a 9) (a 10) a_ahead, w_X2 cI cR (a 11) (a 12) a_pad_codes a_pad_length, w_X3 cI cR (a 13) (a 14) a_padPattern_heights a_padPattern_length, w_X6 cI cR (a 15) (a 16) (a 17) (a 18) (a 19) a_ways_steps a_ways_firstThrows a_ways_lastThrows a_ways_reached a_ways_reachedCount, w_X0 cI cR (fun i => a (i + 20)) q14.1 q14.2.1 q14.2.2, w_X5 cI cR (a 52) (a 53) (a 54) (a 55) (a 56) (a 57) a_slotZero_kept a_slotZero_filled, w_X5 cI cR (a 58) (a 59) (a 60) (a 61) (a 62) (a 63) a_slotOne_kept a_slotOne_filled] rfl dX7_drop_70 (fun H locs Z => ?_)
            refine lv_aload_n hx hb dX7_drop_73 rfl (lv_at hl 0 rfl) ?_
            refine zg_X7_12 X Z 0 rfl rfl dX7_drop_74 ?_
            refine zg_X7_115 X Z 1 rfl rfl dX7_drop_77 ?_
            have hR := so_s hf
            subst hR
            refine z_iret X hr hlocks ?_ dX7_drop_80
            exact Z.eq rfl
        · have hf := it_t c13 hf
          refine lv_bipush (v := -5) hx hb dX7_drop_34 (by decide) ?_
          have hR := so_s hf
          subst hR
          refine z_iret X hr hlocks ?_ dX7_drop_36
          exact Z.eq rfl
    · have hf := it_t c4 hf
      refine lv_bipush (v := -2) hx hb dX7_drop_16 (by decide) ?_
      have hR := so_s hf
      subst hR
      refine z_iret X hr hlocks ?_ dX7_drop_18
      exact Z.eq rfl
  · have hf := it_t c2 hf
    refine lv_iconst (v := -1) hx hb dX7_drop_7 (by decide) ?_
    have hR := so_s hf
    subst hR
    refine z_iret X hr hlocks ?_ dX7_drop_8
    exact Z.eq rfl
def f_X7_pick (a_now : ST) (a_history_rs : (Nat → ST)) (a_history_oldest : Int32) (a_history_size : Int32) (p1 : Int32) (p2 : Int32) : Option (Int32 × ST × (Nat → ST) × Int32 × Int32) := (f_X7_isJuggler p1).bind (fun q1 => if q1 = 0 then (some ((-1 : Int32), a_now, a_history_rs, a_history_oldest, a_history_size)) else ((f_X7_isBeat p2).bind (fun q3 => if q3 = 0 then (some ((-2 : Int32), a_now, a_history_rs, a_history_oldest, a_history_size)) else (if a_now.2.2.1 = 0 then (some ((-5 : Int32), a_now, a_history_rs, a_history_oldest, a_history_size)) else (if p1 = 0 then ((f_X1_expects a_now.1.1 p2).bind (fun q7 => if q7 = 0 then ((f_X0_record a_history_rs a_history_oldest a_history_size a_now).bind (fun q9 => if p1 = 0 then ((f_X1_expect a_now.1.1 p2).bind (fun q11 => some (a_now.2.2.1 - (1 : Int32), ((q11, a_now.1.2.1, a_now.1.2.2.1, a_now.1.2.2.2.1, a_now.1.2.2.2.2.1, a_now.1.2.2.2.2.2.1, a_now.1.2.2.2.2.2.2), a_now.2.1, a_now.2.2.1 - (1 : Int32), a_now.2.2.2.1, a_now.2.2.2.2.1, a_now.2.2.2.2.2), q9.1, q9.2.1, q9.2.2))) else ((f_X1_expect a_now.2.1.1 p2).bind (fun q12 => some (a_now.2.2.1 - (1 : Int32), (a_now.1, (q12, a_now.2.1.2.1, a_now.2.1.2.2.1, a_now.2.1.2.2.2.1, a_now.2.1.2.2.2.2.1, a_now.2.1.2.2.2.2.2.1, a_now.2.1.2.2.2.2.2.2), a_now.2.2.1 - (1 : Int32), a_now.2.2.2.1, a_now.2.2.2.2.1, a_now.2.2.2.2.2), q9.1, q9.2.1, q9.2.2))))) else (some ((-5 : Int32), a_now, a_history_rs, a_history_oldest, a_history_size)))) else ((f_X1_expects a_now.2.1.1 p2).bind (fun q13 => if q13 = 0 then ((f_X0_record a_history_rs a_history_oldest a_history_size a_now).bind (fun q15 => if p1 = 0 then ((f_X1_expect a_now.1.1 p2).bind (fun q17 => some (a_now.2.2.1 - (1 : Int32), ((q17, a_now.1.2.1, a_now.1.2.2.1, a_now.1.2.2.2.1, a_now.1.2.2.2.2.1, a_now.1.2.2.2.2.2.1, a_now.1.2.2.2.2.2.2), a_now.2.1, a_now.2.2.1 - (1 : Int32), a_now.2.2.2.1, a_now.2.2.2.2.1, a_now.2.2.2.2.2), q15.1, q15.2.1, q15.2.2))) else ((f_X1_expect a_now.2.1.1 p2).bind (fun q18 => some (a_now.2.2.1 - (1 : Int32), (a_now.1, (q18, a_now.2.1.2.1, a_now.2.1.2.2.1, a_now.2.1.2.2.2.1, a_now.2.1.2.2.2.2.1, a_now.2.1.2.2.2.2.2.1, a_now.2.1.2.2.2.2.2.2), a_now.2.2.1 - (1 : Int32), a_now.2.2.2.1, a_now.2.2.2.2.1, a_now.2.2.2.2.2), q15.1, q15.2.1, q15.2.2))))) else (some ((-5 : Int32), a_now, a_history_rs, a_history_oldest, a_history_size)))))))))
set_option maxHeartbeats 4000000 in
set_option maxRecDepth 100000 in
theorem c_X7_pick (l : Launch) (D : va_G) (cI cR : ClassId) (a : (Nat → Nat)) (a_now : ST) (a_ahead : ST) (a_pad_codes : (Nat → Int32)) (a_pad_length : Int32) (a_padPattern_heights : (Nat → Int32)) (a_padPattern_length : Int32) (a_ways_steps : (Nat → Int32)) (a_ways_firstThrows : (Nat → Int32)) (a_ways_lastThrows : (Nat → Int32)) (a_ways_reached : (Nat → Int32)) (a_ways_reachedCount : Int32) (a_history_rs : (Nat → ST)) (a_history_oldest : Int32) (a_history_size : Int32) (a_slotZero_kept : ST) (a_slotZero_filled : Int32) (a_slotOne_kept : ST) (a_slotOne_filled : Int32) (p1 : Int32) (p2 : Int32) {R : Int32 × ST × (Nat → ST) × Int32 × Int32} (hf : f_X7_pick a_now a_history_rs a_history_oldest a_history_size p1 p2 = some R) : zM l D cI cR yX7_pick cX7_pick 3 (some .int) 5 107 [.ref (a 0), .int p1, .int p2] [w_X7 cI cR a a_now a_ahead a_pad_codes a_pad_length a_padPattern_heights a_padPattern_length a_ways_steps a_ways_firstThrows a_ways_lastThrows a_ways_reached a_ways_reachedCount a_history_rs a_history_oldest a_history_size a_slotZero_kept a_slotZero_filled a_slotOne_kept a_slotOne_filled] (some (.int R.1)) [w_X7 cI cR a R.2.1 a_ahead a_pad_codes a_pad_length a_padPattern_heights a_padPattern_length a_ways_steps a_ways_firstThrows a_ways_lastThrows a_ways_reached a_ways_reachedCount R.2.2.1 R.2.2.2.1 R.2.2.2.2 a_slotZero_kept a_slotZero_filled a_slotOne_kept a_slotOne_filled] := by
  refine z_of (own := RX7) rfl (by decide) (Nat.le_of_ble_eq_true rfl) ?_
  intro p e s m args below meth c A ls X hr hlocks Z hl
  have hx := X.1.1
  have hb := X.1.2.1
  have Z : zW D A s [w_X7 cI cR a a_now a_ahead a_pad_codes a_pad_length a_padPattern_heights a_padPattern_length a_ways_steps a_ways_firstThrows a_ways_lastThrows a_ways_reached a_ways_reachedCount a_history_rs a_history_oldest a_history_size a_slotZero_kept a_slotZero_filled a_slotOne_kept a_slotOne_filled] s.heap [] := Z
  have hl : lv_has ls 3 [(0, .ref (a 0)), (1, .int p1), (2, .int p2)] := hl
  refine lv_iload_n hx hb dX7_pick_0 rfl (lv_at hl 1 rfl) ?_
  obtain ⟨q1, hq1, hf⟩ := ob_s hf
  refine z_roS X Z (c_X7_isJuggler l D cI cR   p1 hq1) (zw_X7_101 X.1.2.2.2.2 ⟨Nat.le_of_ble_eq_true rfl, Nat.le_of_ble_eq_true rfl⟩) [] [0] (by decide : ([] ++ [0] : List Nat).Perm (List.range 1)) rfl rfl hl.1 rfl (Nat.le_of_ble_eq_true rfl) dX7_pick_1 ⟨Nat.le_of_ble_eq_true rfl, Nat.le_of_ble_eq_true rfl⟩ (fun H locs Z => ?_)
  refine lv_if_ne (tgt := 9) hx hb dX7_pick_4 (by decide) (fun c2 => ?_) (fun c2 => ?_)
  · have hf := it_f c2 hf
    refine lv_iload_n hx hb dX7_pick_9 rfl (lv_at hl 2 rfl) ?_
    obtain ⟨q3, hq3, hf⟩ := ob_s hf
    refine z_roS X Z (c_X7_isBeat l D cI cR   p2 hq3) (zw_X7_105 X.1.2.2.2.2 ⟨Nat.le_of_ble_eq_true rfl, Nat.le_of_ble_eq_true rfl⟩) [] [0] (by decide : ([] ++ [0] : List Nat).Perm (List.range 1)) rfl rfl hl.1 rfl (Nat.le_of_ble_eq_true rfl) dX7_pick_10 ⟨Nat.le_of_ble_eq_true rfl, Nat.le_of_ble_eq_true rfl⟩ (fun H locs Z => ?_)
    refine lv_if_ne (tgt := 19) hx hb dX7_pick_13 (by decide) (fun c4 => ?_) (fun c4 => ?_)
    · have hf := it_f c4 hf
      refine lv_aload_n hx hb dX7_pick_19 rfl (lv_at hl 0 rfl) ?_
      refine zg_X7_12 X Z 0 rfl rfl dX7_pick_20 ?_
      refine zg_X7_115 X Z 1 rfl rfl dX7_pick_23 ?_
      refine lv_if_eq (tgt := 44) hx hb dX7_pick_26 (by decide) (fun c5 => ?_) (fun c5 => ?_)
      · have hf := it_t c5 hf
        refine lv_bipush (v := -5) hx hb dX7_pick_44 (by decide) ?_
        have hR := so_s hf
        subst hR
        refine z_iret X hr hlocks ?_ dX7_pick_46
        exact Z.eq rfl
      · have hf := it_f c5 hf
        refine lv_aload_n hx hb dX7_pick_29 rfl (lv_at hl 0 rfl) ?_
        refine zg_X7_12 X Z 0 rfl rfl dX7_pick_30 ?_
        refine lv_iload_n hx hb dX7_pick_33 rfl (lv_at hl 1 rfl) ?_
        have Z : zW D A s [[((a 0), .inr (7, [.ref (a 1), .ref (a 6), .ref (a 11), .ref (a 13), .ref (a 15), .ref (a 20), .ref (a 52), .ref (a 58)]))], [((a 1), .inr (4, [.ref (a 2), .ref (a 4), .int a_now.2.2.1, .int a_now.2.2.2.1, .int a_now.2.2.2.2.1, .int a_now.2.2.2.2.2]))], w_X1 cI cR (a 2) (a 3) a_now.1.1 a_now.1.2.1 a_now.1.2.2.1 a_now.1.2.2.2.1 a_now.1.2.2.2.2.1 a_now.1.2.2.2.2.2.1 a_now.1.2.2.2.2.2.2, w_X1 cI cR (a 4) (a 5) a_now.2.1.1 a_now.2.1.2.1 a_now.2.1.2.2.1 a_now.2.1.2.2.2.1 a_now.2.1.2.2.2.2.1 a_now.2.1.2.2.2.2.2.1 a_now.2.1.2.2.2.2.2.2, w_X4 cI cR (a 6) (a 7) (a 8) (a 9) (a 10) a_ahead, w_X2 cI cR (a 11) (a 12) a_pad_codes a_pad_length, w_X3 cI cR (a 13) (a 14) a_padPattern_heights a_padPattern_length, w_X6 cI cR (a 15) (a 16) (a 17) (a 18) (a 19) a_ways_steps a_ways_firstThrows a_ways_lastThrows a_ways_reached a_ways_reachedCount, w_X0 cI cR (fun i => a (i + 20)) a_history_rs a_history_oldest a_history_size, w_X5 cI cR (a 52) (a 53) (a 54) (a 55) (a 56) (a 57) a_slotZero_kept a_slotZero_filled, w_X5 cI cR (a 58) (a 59) (a 60) (a 61) (a 62) (a 63) a_slotOne_kept a_slotOne_filled] _ _ := Z.eq rfl
        rcases Decidable.em (p1 = 0) with c6 | c6
        · have hf := it_t c6 hf
          refine z_roVN X Z (c_X4_juggler_0 l D cI cR (a 1) (a 2) (a 4) a_now.2.2.1 a_now.2.2.2.1 a_now.2.2.2.2.1 a_now.2.2.2.2.2 p1 c6) (zw_X7_80 X.2.1 X.1.2.2.2.2 ⟨Nat.le_of_ble_eq_true rfl, Nat.le_of_ble_eq_true rfl⟩) 1 4 rfl rfl rfl [1] [0, 2, 3, 4, 5, 6, 7, 8, 9, 10] (by decide : ([1] ++ [0, 2, 3, 4, 5, 6, 7, 8, 9, 10] : List Nat).Perm (List.range 11)) rfl rfl hl.1 rfl (Nat.le_of_ble_eq_true rfl) dX7_pick_34 ⟨Nat.le_of_ble_eq_true rfl, Nat.le_of_ble_eq_true rfl⟩ (fun H locs Z => ?_)
          refine lv_iload_n hx hb dX7_pick_37 rfl (lv_at hl 2 rfl) ?_
          obtain ⟨q7, hq7, hf⟩ := ob_s hf
          refine z_roVN X Z (c_X1_expects l D cI cR (a 2) (a 3) a_now.1.1 a_now.1.2.1 a_now.1.2.2.1 a_now.1.2.2.2.1 a_now.1.2.2.2.2.1 a_now.1.2.2.2.2.2.1 a_now.1.2.2.2.2.2.2 p2 hq7) (zw_X7_108 X.2.1 X.1.2.2.2.2 ⟨Nat.le_of_ble_eq_true rfl, Nat.le_of_ble_eq_true rfl⟩) 2 1 rfl rfl rfl [2] [0, 1, 3, 4, 5, 6, 7, 8, 9, 10] (by decide : ([2] ++ [0, 1, 3, 4, 5, 6, 7, 8, 9, 10] : List Nat).Perm (List.range 11)) rfl rfl hl.1 rfl (Nat.le_of_ble_eq_true rfl) dX7_pick_38 ⟨Nat.le_of_ble_eq_true rfl, Nat.le_of_ble_eq_true rfl⟩ (fun H locs Z => ?_)
          refine lv_if_eq (tgt := 47) hx hb dX7_pick_41 (by decide) (fun c8 => ?_) (fun c8 => ?_)
          · have hf := it_t c8 hf
            refine lv_aload_n hx hb dX7_pick_47 rfl (lv_at hl 0 rfl) ?_
            refine zg_X7_43 X Z 0 rfl rfl dX7_pick_48 ?_
            refine lv_aload_n hx hb dX7_pick_51 rfl (lv_at hl 0 rfl) ?_
            refine zg_X7_12 X Z 0 rfl rfl dX7_pick_52 ?_
            have Z : zW D A s [[((a 0), .inr (7, [.ref (a 1), .ref (a 6), .ref (a 11), .ref (a 13), .ref (a 15), .ref (a 20), .ref (a 52), .ref (a 58)]))], w_X4 cI cR (a 1) (a 2) (a 3) (a 4) (a 5) a_now, w_X4 cI cR (a 6) (a 7) (a 8) (a 9) (a 10) a_ahead, w_X2 cI cR (a 11) (a 12) a_pad_codes a_pad_length, w_X3 cI cR (a 13) (a 14) a_padPattern_heights a_padPattern_length, w_X6 cI cR (a 15) (a 16) (a 17) (a 18) (a 19) a_ways_steps a_ways_firstThrows a_ways_lastThrows a_ways_reached a_ways_reachedCount, w_X0 cI cR (fun i => a (i + 20)) a_history_rs a_history_oldest a_history_size, w_X5 cI cR (a 52) (a 53) (a 54) (a 55) (a 56) (a 57) a_slotZero_kept a_slotZero_filled, w_X5 cI cR (a 58) (a 59) (a 60) (a 61) (a 62) (a 63) a_slotOne_kept a_slotOne_filled] _ _ := Z.eq rfl
            obtain ⟨q9, hq9, hf⟩ := ob_s hf
            refine z_callVN X Z (c_X0_record l D cI cR (fun i => a (i + 20)) (a 1) (a 2) (a 3) (a 4) (a 5) a_history_rs a_history_oldest a_history_size a_now  hq9) (zw_X7_65 X.2.1 X.1.2.2.2.2 ⟨Nat.le_of_ble_eq_true rfl, Nat.le_of_ble_eq_true rfl⟩) 20 0 rfl rfl rfl [6, 1] [0, 2, 3, 4, 5, 7, 8] [[((a 0), .inr (7, [.ref (a 1), .ref (a 6), .ref (a 11), .ref (a 13), .ref (a 15), .ref (a 20), .ref (a 52), .ref (a 58)]))], w_X4 cI cR (a 1) (a 2) (a 3) (a 4) (a 5) a_now, w_X4 cI cR (a 6) (a 7) (a 8) (a 9) (a 10) a_ahead, w_X2 cI cR (a 11) (a 12) a_pad_codes a_pad_length, w_X3 cI cR (a 13) (a 14) a_padPattern_heights a_padPattern_length, w_X6 cI cR (a 15) (a 16) (a 17) (a 18) (a 19) a_ways_steps a_ways_firstThrows a_ways_lastThrows a_ways_reached a_ways_reachedCount, w_X0 cI cR (fun i => a (i + 20)) q9.1 q9.2.1 q9.2.2, w_X5 cI cR (a 52) (a 53) (a 54) (a 55) (a 56) (a 57) a_slotZero_kept a_slotZero_filled, w_X5 cI cR (a 58) (a 59) (a 60) (a 61) (a 62) (a 63) a_slotOne_kept a_slotOne_filled] (by decide : ([6, 1] ++ [0, 2, 3, 4, 5, 7, 8] : List Nat).Perm (List.range 9)) rfl rfl rfl rfl rfl hl.1 rfl (Nat.le_of_ble_eq_true rfl) dX7_pick_55 ⟨Nat.le_of_ble_eq_true rfl, Nat.le_of_ble_eq_true rfl⟩ (fun H locs Z => ?_)
            refine lv_aload_n hx hb dX7_pick_58 rfl (lv_at hl 0 rfl) ?_
            refine zg_X7_12 X Z 0 rfl rfl dX7_pick_59 ?_
            refine lv_iload_n hx hb dX7_pick_62 rfl (lv_at hl 1 rfl) ?_
            have Z : zW D A s [[((a 0), .inr (7, [.ref (a 1), .ref (a 6), .ref (a 11), .ref (a 13), .ref (a 15), .ref (a 20), .ref (a 52), .ref (a 58)]))], [((a 1), .inr (4, [.ref (a 2), .ref (a 4), .int a_now.2.2.1, .int a_now.2.2.2.1, .int a_now.2.2.2.2.1, .int a_now.2.2.2.2.2]))], w_X1 cI cR (a 2) (a 3) a_now.1.1 a_now.1.2.1 a_now.1.2.2.1 a_now.1.2.2.2.1 a_now.1.2.2.2.2.1 a_now.1.2.2.2.2.2.1 a_now.1.2.2.2.2.2.2, w_X1 cI cR (a 4) (a 5) a_now.2.1.1 a_now.2.1.2.1 a_now.2.1.2.2.1 a_now.2.1.2.2.2.1 a_now.2.1.2.2.2.2.1 a_now.2.1.2.2.2.2.2.1 a_now.2.1.2.2.2.2.2.2, w_X4 cI cR (a 6) (a 7) (a 8) (a 9) (a 10) a_ahead, w_X2 cI cR (a 11) (a 12) a_pad_codes a_pad_length, w_X3 cI cR (a 13) (a 14) a_padPattern_heights a_padPattern_length, w_X6 cI cR (a 15) (a 16) (a 17) (a 18) (a 19) a_ways_steps a_ways_firstThrows a_ways_lastThrows a_ways_reached a_ways_reachedCount, w_X0 cI cR (fun i => a (i + 20)) q9.1 q9.2.1 q9.2.2, w_X5 cI cR (a 52) (a 53) (a 54) (a 55) (a 56) (a 57) a_slotZero_kept a_slotZero_filled, w_X5 cI cR (a 58) (a 59) (a 60) (a 61) (a 62) (a 63) a_slotOne_kept a_slotOne_filled] _ _ := Z.eq rfl
            rcases Decidable.em (p1 = 0) with c10 | c10
            · have hf := it_t c10 hf
              refine z_roVN X Z (c_X4_juggler_0 l D cI cR (a 1) (a 2) (a 4) a_now.2.2.1 a_now.2.2.2.1 a_now.2.2.2.2.1 a_now.2.2.2.2.2 p1 c10) (zw_X7_80 X.2.1 X.1.2.2.2.2 ⟨Nat.le_of_ble_eq_true rfl, Nat.le_of_ble_eq_true rfl⟩) 1 4 rfl rfl rfl [1] [0, 2, 3, 4, 5, 6, 7, 8, 9, 10] (by decide : ([1] ++ [0, 2, 3, 4, 5, 6, 7, 8, 9, 10] : List Nat).Perm (List.range 11)) rfl rfl hl.1 rfl (Nat.le_of_ble_eq_true rfl) dX7_pick_63 ⟨Nat.le_of_ble_eq_true rfl, Nat.le_of_ble_eq_true rfl⟩ (fun H locs Z => ?_)
              refine lv_iload_n hx hb dX7_pick_66 rfl (lv_at hl 2 rfl) ?_
              obtain ⟨q11, hq11, hf⟩ := ob_s hf
              refine z_callVN X Z (c_X1_expect l D cI cR (a 2) (a 3) a_now.1.1 a_now.1.2.1 a_now.1.2.2.1 a_now.1.2.2.2.1 a_now.1.2.2.2.2.1 a_now.1.2.2.2.2.2.1 a_now.1.2.2.2.2.2.2 p2 hq11) (zw_X7_118 X.2.1 X.1.2.2.2.2 ⟨Nat.le_of_ble_eq_true rfl, Nat.le_of_ble_eq_true rfl⟩) 2 1 rfl rfl rfl [2] [0, 1, 3, 4, 5, 6, 7, 8, 9, 10] [[((a 0), .inr (7, [.ref (a 1), .ref (a 6), .ref (a 11), .ref (a 13), .ref (a 15), .ref (a 20), .ref (a 52), .ref (a 58)]))], [((a 1), .inr (4, [.ref (a 2), .ref (a 4), .int a_now.2.2.1, .int a_now.2.2.2.1, .int a_now.2.2.2.2.1, .int a_now.2.2.2.2.2]))], w_X1 cI cR (a 2) (a 3) q11 a_now.1.2.1 a_now.1.2.2.1 a_now.1.2.2.2.1 a_now.1.2.2.2.2.1 a_now.1.2.2.2.2.2.1 a_now.1.2.2.2.2.2.2, w_X1 cI cR (a 4) (a 5) a_now.2.1.1 a_now.2.1.2.1 a_now.2.1.2.2.1 a_now.2.1.2.2.2.1 a_now.2.1.2.2.2.2.1 a_now.2.1.2.2.2.2.2.1 a_now.2.1.2.2.2.2.2.2, w_X4 cI cR (a 6) (a 7) (a 8) (a 9) (a 10) a_ahead, w_X2 cI cR (a 11) (a 12) a_pad_codes a_pad_length, w_X3 cI cR (a 13) (a 14) a_padPattern_heights a_padPattern_length, w_X6 cI cR (a 15) (a 16) (a 17) (a 18) (a 19) a_ways_steps a_ways_firstThrows a_ways_lastThrows a_ways_reached a_ways_reachedCount, w_X0 cI cR (fun i => a (i + 20)) q9.1 q9.2.1 q9.2.2, w_X5 cI cR (a 52) (a 53) (a 54) (a 55) (a 56) (a 57) a_slotZero_kept a_slotZero_filled, w_X5 cI cR (a 58) (a 59) (a 60) (a 61) (a 62) (a 63) a_slotOne_kept a_slotOne_filled] (by decide : ([2] ++ [0, 1, 3, 4, 5, 6, 7, 8, 9, 10] : List Nat).Perm (List.range 11)) rfl rfl rfl rfl rfl hl.1 rfl (Nat.le_of_ble_eq_true rfl) dX7_pick_67 ⟨Nat.le_of_ble_eq_true rfl, Nat.le_of_ble_eq_true rfl⟩ (fun H locs Z => ?_)
              refine lv_aload_n hx hb dX7_pick_70 rfl (lv_at hl 0 rfl) ?_
              refine zg_X7_12 X Z 0 rfl rfl dX7_pick_71 ?_
              refine lv_dup hx hb dX7_pick_74 rfl ?_
              refine zg_X7_115 X Z 1 rfl rfl dX7_pick_75 ?_
              refine lv_iconst (v := 1) hx hb dX7_pick_78 (by decide) ?_
              refine lv_isub hx hb dX7_pick_79 ?_
              refine zp_X7_115 X Z 1 rfl (Nat.le_of_ble_eq_true rfl) [[((a 0), .inr (7, [.ref (a 1), .ref (a 6), .ref (a 11), .ref (a 13), .ref (a 15), .ref (a 20), .ref (a 52), .ref (a 58)]))], [((a 1), .inr (4, [.ref (a 2), .ref (a 4), .int (a_now.2.2.1 - (1 : Int32)), .int a_now.2.2.2.1, .int a_now.2.2.2.2.1, .int a_now.2.2.2.2.2]))], w_X1 cI cR (a 2) (a 3) q11 a_now.1.2.1 a_now.1.2.2.1 a_now.1.2.2.2.1 a_now.1.2.2.2.2.1 a_now.1.2.2.2.2.2.1 a_now.1.2.2.2.2.2.2, w_X1 cI cR (a 4) (a 5) a_now.2.1.1 a_now.2.1.2.1 a_now.2.1.2.2.1 a_now.2.1.2.2.2.1 a_now.2.1.2.2.2.2.1 a_now.2.1.2.2.2.2.2.1 a_now.2.1.2.2.2.2.2.2, w_X4 cI cR (a 6) (a 7) (a 8) (a 9) (a 10) a_ahead, w_X2 cI cR (a 11) (a 12) a_pad_codes a_pad_length, w_X3 cI cR (a 13) (a 14) a_padPattern_heights a_padPattern_length, w_X6 cI cR (a 15) (a 16) (a 17) (a 18) (a 19) a_ways_steps a_ways_firstThrows a_ways_lastThrows a_ways_reached a_ways_reachedCount, w_X0 cI cR (fun i => a (i + 20)) q9.1 q9.2.1 q9.2.2, w_X5 cI cR (a 52) (a 53) (a 54) (a 55) (a 56) (a 57) a_slotZero_kept a_slotZero_filled, w_X5 cI cR (a 58) (a 59) (a 60) (a 61) (a 62) (a 63) a_slotOne_kept a_slotOne_filled] rfl dX7_pick_80 (fun H locs Z => ?_)
              refine lv_aload_n hx hb dX7_pick_83 rfl (lv_at hl 0 rfl) ?_
              refine zg_X7_12 X Z 0 rfl rfl dX7_pick_84 ?_
              refine zg_X7_115 X Z 1 rfl rfl dX7_pick_87 ?_
              have hR := so_s hf
              subst hR
              refine z_iret X hr hlocks ?_ dX7_pick_90
              exact Z.eq rfl
            · have hf := it_f c10 hf
              refine z_roVN X Z (c_X4_juggler_1 l D cI cR (a 1) (a 2) (a 4) a_now.2.2.1 a_now.2.2.2.1 a_now.2.2.2.2.1 a_now.2.2.2.2.2 p1 c10) (zw_X7_80 X.2.1 X.1.2.2.2.2 ⟨Nat.le_of_ble_eq_true rfl, Nat.le_of_ble_eq_true rfl⟩) 1 4 rfl rfl rfl [1] [0, 2, 3, 4, 5, 6, 7, 8, 9, 10] (by decide : ([1] ++ [0, 2, 3, 4, 5, 6, 7, 8, 9, 10] : List Nat).Perm (List.range 11)) rfl rfl hl.1 rfl (Nat.le_of_ble_eq_true rfl) dX7_pick_63 ⟨Nat.le_of_ble_eq_true rfl, Nat.le_of_ble_eq_true rfl⟩ (fun H locs Z => ?_)
              refine lv_iload_n hx hb dX7_pick_66 rfl (lv_at hl 2 rfl) ?_
              obtain ⟨q12, hq12, hf⟩ := ob_s hf
              refine z_callVN X Z (c_X1_expect l D cI cR (a 4) (a 5) a_now.2.1.1 a_now.2.1.2.1 a_now.2.1.2.2.1 a_now.2.1.2.2.2.1 a_now.2.1.2.2.2.2.1 a_now.2.1.2.2.2.2.2.1 a_now.2.1.2.2.2.2.2.2 p2 hq12) (zw_X7_118 X.2.1 X.1.2.2.2.2 ⟨Nat.le_of_ble_eq_true rfl, Nat.le_of_ble_eq_true rfl⟩) 4 1 rfl rfl rfl [3] [0, 1, 2, 4, 5, 6, 7, 8, 9, 10] [[((a 0), .inr (7, [.ref (a 1), .ref (a 6), .ref (a 11), .ref (a 13), .ref (a 15), .ref (a 20), .ref (a 52), .ref (a 58)]))], [((a 1), .inr (4, [.ref (a 2), .ref (a 4), .int a_now.2.2.1, .int a_now.2.2.2.1, .int a_now.2.2.2.2.1, .int a_now.2.2.2.2.2]))], w_X1 cI cR (a 2) (a 3) a_now.1.1 a_now.1.2.1 a_now.1.2.2.1 a_now.1.2.2.2.1 a_now.1.2.2.2.2.1 a_now.1.2.2.2.2.2.1 a_now.1.2.2.2.2.2.2, w_X1 cI cR (a 4) (a 5) q12 a_now.2.1.2.1 a_now.2.1.2.2.1 a_now.2.1.2.2.2.1 a_now.2.1.2.2.2.2.1 a_now.2.1.2.2.2.2.2.1 a_now.2.1.2.2.2.2.2.2, w_X4 cI cR (a 6) (a 7) (a 8) (a 9) (a 10) a_ahead, w_X2 cI cR (a 11) (a 12) a_pad_codes a_pad_length, w_X3 cI cR (a 13) (a 14) a_padPattern_heights a_padPattern_length, w_X6 cI cR (a 15) (a 16) (a 17) (a 18) (a 19) a_ways_steps a_ways_firstThrows a_ways_lastThrows a_ways_reached a_ways_reachedCount, w_X0 cI cR (fun i => a (i + 20)) q9.1 q9.2.1 q9.2.2, w_X5 cI cR (a 52) (a 53) (a 54) (a 55) (a 56) (a 57) a_slotZero_kept a_slotZero_filled, w_X5 cI cR (a 58) (a 59) (a 60) (a 61) (a 62) (a 63) a_slotOne_kept a_slotOne_filled] (by decide : ([3] ++ [0, 1, 2, 4, 5, 6, 7, 8, 9, 10] : List Nat).Perm (List.range 11)) rfl rfl rfl rfl rfl hl.1 rfl (Nat.le_of_ble_eq_true rfl) dX7_pick_67 ⟨Nat.le_of_ble_eq_true rfl, Nat.le_of_ble_eq_true rfl⟩ (fun H locs Z => ?_)
              refine lv_aload_n hx hb dX7_pick_70 rfl (lv_at hl 0 rfl) ?_
              refine zg_X7_12 X Z 0 rfl rfl dX7_pick_71 ?_
              refine lv_dup hx hb dX7_pick_74 rfl ?_
              refine zg_X7_115 X Z 1 rfl rfl dX7_pick_75 ?_
              refine lv_iconst (v := 1) hx hb dX7_pick_78 (by decide) ?_
              refine lv_isub hx hb dX7_pick_79 ?_
              refine zp_X7_115 X Z 1 rfl (Nat.le_of_ble_eq_true rfl) [[((a 0), .inr (7, [.ref (a 1), .ref (a 6), .ref (a 11), .ref (a 13), .ref (a 15), .ref (a 20), .ref (a 52), .ref (a 58)]))], [((a 1), .inr (4, [.ref (a 2), .ref (a 4), .int (a_now.2.2.1 - (1 : Int32)), .int a_now.2.2.2.1, .int a_now.2.2.2.2.1, .int a_now.2.2.2.2.2]))], w_X1 cI cR (a 2) (a 3) a_now.1.1 a_now.1.2.1 a_now.1.2.2.1 a_now.1.2.2.2.1 a_now.1.2.2.2.2.1 a_now.1.2.2.2.2.2.1 a_now.1.2.2.2.2.2.2, w_X1 cI cR (a 4) (a 5) q12 a_now.2.1.2.1 a_now.2.1.2.2.1 a_now.2.1.2.2.2.1 a_now.2.1.2.2.2.2.1 a_now.2.1.2.2.2.2.2.1 a_now.2.1.2.2.2.2.2.2, w_X4 cI cR (a 6) (a 7) (a 8) (a 9) (a 10) a_ahead, w_X2 cI cR (a 11) (a 12) a_pad_codes a_pad_length, w_X3 cI cR (a 13) (a 14) a_padPattern_heights a_padPattern_length, w_X6 cI cR (a 15) (a 16) (a 17) (a 18) (a 19) a_ways_steps a_ways_firstThrows a_ways_lastThrows a_ways_reached a_ways_reachedCount, w_X0 cI cR (fun i => a (i + 20)) q9.1 q9.2.1 q9.2.2, w_X5 cI cR (a 52) (a 53) (a 54) (a 55) (a 56) (a 57) a_slotZero_kept a_slotZero_filled, w_X5 cI cR (a 58) (a 59) (a 60) (a 61) (a 62) (a 63) a_slotOne_kept a_slotOne_filled] rfl dX7_pick_80 (fun H locs Z => ?_)
              refine lv_aload_n hx hb dX7_pick_83 rfl (lv_at hl 0 rfl) ?_
              refine zg_X7_12 X Z 0 rfl rfl dX7_pick_84 ?_
              refine zg_X7_115 X Z 1 rfl rfl dX7_pick_87 ?_
              have hR := so_s hf
              subst hR
              refine z_iret X hr hlocks ?_ dX7_pick_90
              exact Z.eq rfl
          · have hf := it_f c8 hf
            refine lv_bipush (v := -5) hx hb dX7_pick_44 (by decide) ?_
            have hR := so_s hf
            subst hR
            refine z_iret X hr hlocks ?_ dX7_pick_46
            exact Z.eq rfl
        · have hf := it_f c6 hf
          refine z_roVN X Z (c_X4_juggler_1 l D cI cR (a 1) (a 2) (a 4) a_now.2.2.1 a_now.2.2.2.1 a_now.2.2.2.2.1 a_now.2.2.2.2.2 p1 c6) (zw_X7_80 X.2.1 X.1.2.2.2.2 ⟨Nat.le_of_ble_eq_true rfl, Nat.le_of_ble_eq_true rfl⟩) 1 4 rfl rfl rfl [1] [0, 2, 3, 4, 5, 6, 7, 8, 9, 10] (by decide : ([1] ++ [0, 2, 3, 4, 5, 6, 7, 8, 9, 10] : List Nat).Perm (List.range 11)) rfl rfl hl.1 rfl (Nat.le_of_ble_eq_true rfl) dX7_pick_34 ⟨Nat.le_of_ble_eq_true rfl, Nat.le_of_ble_eq_true rfl⟩ (fun H locs Z => ?_)
          refine lv_iload_n hx hb dX7_pick_37 rfl (lv_at hl 2 rfl) ?_
          obtain ⟨q13, hq13, hf⟩ := ob_s hf
          refine z_roVN X Z (c_X1_expects l D cI cR (a 4) (a 5) a_now.2.1.1 a_now.2.1.2.1 a_now.2.1.2.2.1 a_now.2.1.2.2.2.1 a_now.2.1.2.2.2.2.1 a_now.2.1.2.2.2.2.2.1 a_now.2.1.2.2.2.2.2.2 p2 hq13) (zw_X7_108 X.2.1 X.1.2.2.2.2 ⟨Nat.le_of_ble_eq_true rfl, Nat.le_of_ble_eq_true rfl⟩) 4 1 rfl rfl rfl [3] [0, 1, 2, 4, 5, 6, 7, 8, 9, 10] (by decide : ([3] ++ [0, 1, 2, 4, 5, 6, 7, 8, 9, 10] : List Nat).Perm (List.range 11)) rfl rfl hl.1 rfl (Nat.le_of_ble_eq_true rfl) dX7_pick_38 ⟨Nat.le_of_ble_eq_true rfl, Nat.le_of_ble_eq_true rfl⟩ (fun H locs Z => ?_)
          refine lv_if_eq (tgt := 47) hx hb dX7_pick_41 (by decide) (fun c14 => ?_) (fun c14 => ?_)
          · have hf := it_t c14 hf
            refine lv_aload_n hx hb dX7_pick_47 rfl (lv_at hl 0 rfl) ?_
            refine zg_X7_43 X Z 0 rfl rfl dX7_pick_48 ?_
            refine lv_aload_n hx hb dX7_pick_51 rfl (lv_at hl 0 rfl) ?_
            refine zg_X7_12 X Z 0 rfl rfl dX7_pick_52 ?_
            have Z : zW D A s [[((a 0), .inr (7, [.ref (a 1), .ref (a 6), .ref (a 11), .ref (a 13), .ref (a 15), .ref (a 20), .ref (a 52), .ref (a 58)]))], w_X4 cI cR (a 1) (a 2) (a 3) (a 4) (a 5) a_now, w_X4 cI cR (a 6) (a 7) (a 8) (a 9) (a 10) a_ahead, w_X2 cI cR (a 11) (a 12) a_pad_codes a_pad_length, w_X3 cI cR (a 13) (a 14) a_padPattern_heights a_padPattern_length, w_X6 cI cR (a 15) (a 16) (a 17) (a 18) (a 19) a_ways_steps a_ways_firstThrows a_ways_lastThrows a_ways_reached a_ways_reachedCount, w_X0 cI cR (fun i => a (i + 20)) a_history_rs a_history_oldest a_history_size, w_X5 cI cR (a 52) (a 53) (a 54) (a 55) (a 56) (a 57) a_slotZero_kept a_slotZero_filled, w_X5 cI cR (a 58) (a 59) (a 60) (a 61) (a 62) (a 63) a_slotOne_kept a_slotOne_filled] _ _ := Z.eq rfl
            obtain ⟨q15, hq15, hf⟩ := ob_s hf
            refine z_callVN X Z (c_X0_record l D cI cR (fun i => a (i + 20)) (a 1) (a 2) (a 3) (a 4) (a 5) a_history_rs a_history_oldest a_history_size a_now  hq15) (zw_X7_65 X.2.1 X.1.2.2.2.2 ⟨Nat.le_of_ble_eq_true rfl, Nat.le_of_ble_eq_true rfl⟩) 20 0 rfl rfl rfl [6, 1] [0, 2, 3, 4, 5, 7, 8] [[((a 0), .inr (7, [.ref (a 1), .ref (a 6), .ref (a 11), .ref (a 13), .ref (a 15), .ref (a 20), .ref (a 52), .ref (a 58)]))], w_X4 cI cR (a 1) (a 2) (a 3) (a 4) (a 5) a_now, w_X4 cI cR (a 6) (a 7) (a 8) (a 9) (a 10) a_ahead, w_X2 cI cR (a 11) (a 12) a_pad_codes a_pad_length, w_X3 cI cR (a 13) (a 14) a_padPattern_heights a_padPattern_length, w_X6 cI cR (a 15) (a 16) (a 17) (a 18) (a 19) a_ways_steps a_ways_firstThrows a_ways_lastThrows a_ways_reached a_ways_reachedCount, w_X0 cI cR (fun i => a (i + 20)) q15.1 q15.2.1 q15.2.2, w_X5 cI cR (a 52) (a 53) (a 54) (a 55) (a 56) (a 57) a_slotZero_kept a_slotZero_filled, w_X5 cI cR (a 58) (a 59) (a 60) (a 61) (a 62) (a 63) a_slotOne_kept a_slotOne_filled] (by decide : ([6, 1] ++ [0, 2, 3, 4, 5, 7, 8] : List Nat).Perm (List.range 9)) rfl rfl rfl rfl rfl hl.1 rfl (Nat.le_of_ble_eq_true rfl) dX7_pick_55 ⟨Nat.le_of_ble_eq_true rfl, Nat.le_of_ble_eq_true rfl⟩ (fun H locs Z => ?_)
            refine lv_aload_n hx hb dX7_pick_58 rfl (lv_at hl 0 rfl) ?_
            refine zg_X7_12 X Z 0 rfl rfl dX7_pick_59 ?_
            refine lv_iload_n hx hb dX7_pick_62 rfl (lv_at hl 1 rfl) ?_
            have Z : zW D A s [[((a 0), .inr (7, [.ref (a 1), .ref (a 6), .ref (a 11), .ref (a 13), .ref (a 15), .ref (a 20), .ref (a 52), .ref (a 58)]))], [((a 1), .inr (4, [.ref (a 2), .ref (a 4), .int a_now.2.2.1, .int a_now.2.2.2.1, .int a_now.2.2.2.2.1, .int a_now.2.2.2.2.2]))], w_X1 cI cR (a 2) (a 3) a_now.1.1 a_now.1.2.1 a_now.1.2.2.1 a_now.1.2.2.2.1 a_now.1.2.2.2.2.1 a_now.1.2.2.2.2.2.1 a_now.1.2.2.2.2.2.2, w_X1 cI cR (a 4) (a 5) a_now.2.1.1 a_now.2.1.2.1 a_now.2.1.2.2.1 a_now.2.1.2.2.2.1 a_now.2.1.2.2.2.2.1 a_now.2.1.2.2.2.2.2.1 a_now.2.1.2.2.2.2.2.2, w_X4 cI cR (a 6) (a 7) (a 8) (a 9) (a 10) a_ahead, w_X2 cI cR (a 11) (a 12) a_pad_codes a_pad_length, w_X3 cI cR (a 13) (a 14) a_padPattern_heights a_padPattern_length, w_X6 cI cR (a 15) (a 16) (a 17) (a 18) (a 19) a_ways_steps a_ways_firstThrows a_ways_lastThrows a_ways_reached a_ways_reachedCount, w_X0 cI cR (fun i => a (i + 20)) q15.1 q15.2.1 q15.2.2, w_X5 cI cR (a 52) (a 53) (a 54) (a 55) (a 56) (a 57) a_slotZero_kept a_slotZero_filled, w_X5 cI cR (a 58) (a 59) (a 60) (a 61) (a 62) (a 63) a_slotOne_kept a_slotOne_filled] _ _ := Z.eq rfl
            rcases Decidable.em (p1 = 0) with c16 | c16
            · have hf := it_t c16 hf
              refine z_roVN X Z (c_X4_juggler_0 l D cI cR (a 1) (a 2) (a 4) a_now.2.2.1 a_now.2.2.2.1 a_now.2.2.2.2.1 a_now.2.2.2.2.2 p1 c16) (zw_X7_80 X.2.1 X.1.2.2.2.2 ⟨Nat.le_of_ble_eq_true rfl, Nat.le_of_ble_eq_true rfl⟩) 1 4 rfl rfl rfl [1] [0, 2, 3, 4, 5, 6, 7, 8, 9, 10] (by decide : ([1] ++ [0, 2, 3, 4, 5, 6, 7, 8, 9, 10] : List Nat).Perm (List.range 11)) rfl rfl hl.1 rfl (Nat.le_of_ble_eq_true rfl) dX7_pick_63 ⟨Nat.le_of_ble_eq_true rfl, Nat.le_of_ble_eq_true rfl⟩ (fun H locs Z => ?_)
              refine lv_iload_n hx hb dX7_pick_66 rfl (lv_at hl 2 rfl) ?_
              obtain ⟨q17, hq17, hf⟩ := ob_s hf
              refine z_callVN X Z (c_X1_expect l D cI cR (a 2) (a 3) a_now.1.1 a_now.1.2.1 a_now.1.2.2.1 a_now.1.2.2.2.1 a_now.1.2.2.2.2.1 a_now.1.2.2.2.2.2.1 a_now.1.2.2.2.2.2.2 p2 hq17) (zw_X7_118 X.2.1 X.1.2.2.2.2 ⟨Nat.le_of_ble_eq_true rfl, Nat.le_of_ble_eq_true rfl⟩) 2 1 rfl rfl rfl [2] [0, 1, 3, 4, 5, 6, 7, 8, 9, 10] [[((a 0), .inr (7, [.ref (a 1), .ref (a 6), .ref (a 11), .ref (a 13), .ref (a 15), .ref (a 20), .ref (a 52), .ref (a 58)]))], [((a 1), .inr (4, [.ref (a 2), .ref (a 4), .int a_now.2.2.1, .int a_now.2.2.2.1, .int a_now.2.2.2.2.1, .int a_now.2.2.2.2.2]))], w_X1 cI cR (a 2) (a 3) q17 a_now.1.2.1 a_now.1.2.2.1 a_now.1.2.2.2.1 a_now.1.2.2.2.2.1 a_now.1.2.2.2.2.2.1 a_now.1.2.2.2.2.2.2, w_X1 cI cR (a 4) (a 5) a_now.2.1.1 a_now.2.1.2.1 a_now.2.1.2.2.1 a_now.2.1.2.2.2.1 a_now.2.1.2.2.2.2.1 a_now.2.1.2.2.2.2.2.1 a_now.2.1.2.2.2.2.2.2, w_X4 cI cR (a 6) (a 7) (a 8) (a 9) (a 10) a_ahead, w_X2 cI cR (a 11) (a 12) a_pad_codes a_pad_length, w_X3 cI cR (a 13) (a 14) a_padPattern_heights a_padPattern_length, w_X6 cI cR (a 15) (a 16) (a 17) (a 18) (a 19) a_ways_steps a_ways_firstThrows a_ways_lastThrows a_ways_reached a_ways_reachedCount, w_X0 cI cR (fun i => a (i + 20)) q15.1 q15.2.1 q15.2.2, w_X5 cI cR (a 52) (a 53) (a 54) (a 55) (a 56) (a 57) a_slotZero_kept a_slotZero_filled, w_X5 cI cR (a 58) (a 59) (a 60) (a 61) (a 62) (a 63) a_slotOne_kept a_slotOne_filled] (by decide : ([2] ++ [0, 1, 3, 4, 5, 6, 7, 8, 9, 10] : List Nat).Perm (List.range 11)) rfl rfl rfl rfl rfl hl.1 rfl (Nat.le_of_ble_eq_true rfl) dX7_pick_67 ⟨Nat.le_of_ble_eq_true rfl, Nat.le_of_ble_eq_true rfl⟩ (fun H locs Z => ?_)
              refine lv_aload_n hx hb dX7_pick_70 rfl (lv_at hl 0 rfl) ?_
              refine zg_X7_12 X Z 0 rfl rfl dX7_pick_71 ?_
              refine lv_dup hx hb dX7_pick_74 rfl ?_
              refine zg_X7_115 X Z 1 rfl rfl dX7_pick_75 ?_
              refine lv_iconst (v := 1) hx hb dX7_pick_78 (by decide) ?_
              refine lv_isub hx hb dX7_pick_79 ?_
              refine zp_X7_115 X Z 1 rfl (Nat.le_of_ble_eq_true rfl) [[((a 0), .inr (7, [.ref (a 1), .ref (a 6), .ref (a 11), .ref (a 13), .ref (a 15), .ref (a 20), .ref (a 52), .ref (a 58)]))], [((a 1), .inr (4, [.ref (a 2), .ref (a 4), .int (a_now.2.2.1 - (1 : Int32)), .int a_now.2.2.2.1, .int a_now.2.2.2.2.1, .int a_now.2.2.2.2.2]))], w_X1 cI cR (a 2) (a 3) q17 a_now.1.2.1 a_now.1.2.2.1 a_now.1.2.2.2.1 a_now.1.2.2.2.2.1 a_now.1.2.2.2.2.2.1 a_now.1.2.2.2.2.2.2, w_X1 cI cR (a 4) (a 5) a_now.2.1.1 a_now.2.1.2.1 a_now.2.1.2.2.1 a_now.2.1.2.2.2.1 a_now.2.1.2.2.2.2.1 a_now.2.1.2.2.2.2.2.1 a_now.2.1.2.2.2.2.2.2, w_X4 cI cR (a 6) (a 7) (a 8) (a 9) (a 10) a_ahead, w_X2 cI cR (a 11) (a 12) a_pad_codes a_pad_length, w_X3 cI cR (a 13) (a 14) a_padPattern_heights a_padPattern_length, w_X6 cI cR (a 15) (a 16) (a 17) (a 18) (a 19) a_ways_steps a_ways_firstThrows a_ways_lastThrows a_ways_reached a_ways_reachedCount, w_X0 cI cR (fun i => a (i + 20)) q15.1 q15.2.1 q15.2.2, w_X5 cI cR (a 52) (a 53) (a 54) (a 55) (a 56) (a 57) a_slotZero_kept a_slotZero_filled, w_X5 cI cR (a 58) (a 59) (a 60) (a 61) (a 62) (a 63) a_slotOne_kept a_slotOne_filled] rfl dX7_pick_80 (fun H locs Z => ?_)
              refine lv_aload_n hx hb dX7_pick_83 rfl (lv_at hl 0 rfl) ?_
              refine zg_X7_12 X Z 0 rfl rfl dX7_pick_84 ?_
              refine zg_X7_115 X Z 1 rfl rfl dX7_pick_87 ?_
              have hR := so_s hf
              subst hR
              refine z_iret X hr hlocks ?_ dX7_pick_90
              exact Z.eq rfl
            · have hf := it_f c16 hf
              refine z_roVN X Z (c_X4_juggler_1 l D cI cR (a 1) (a 2) (a 4) a_now.2.2.1 a_now.2.2.2.1 a_now.2.2.2.2.1 a_now.2.2.2.2.2 p1 c16) (zw_X7_80 X.2.1 X.1.2.2.2.2 ⟨Nat.le_of_ble_eq_true rfl, Nat.le_of_ble_eq_true rfl⟩) 1 4 rfl rfl rfl [1] [0, 2, 3, 4, 5, 6, 7, 8, 9, 10] (by decide : ([1] ++ [0, 2, 3, 4, 5, 6, 7, 8, 9, 10] : List Nat).Perm (List.range 11)) rfl rfl hl.1 rfl (Nat.le_of_ble_eq_true rfl) dX7_pick_63 ⟨Nat.le_of_ble_eq_true rfl, Nat.le_of_ble_eq_true rfl⟩ (fun H locs Z => ?_)
              refine lv_iload_n hx hb dX7_pick_66 rfl (lv_at hl 2 rfl) ?_
              obtain ⟨q18, hq18, hf⟩ := ob_s hf
              refine z_callVN X Z (c_X1_expect l D cI cR (a 4) (a 5) a_now.2.1.1 a_now.2.1.2.1 a_now.2.1.2.2.1 a_now.2.1.2.2.2.1 a_now.2.1.2.2.2.2.1 a_now.2.1.2.2.2.2.2.1 a_now.2.1.2.2.2.2.2.2 p2 hq18) (zw_X7_118 X.2.1 X.1.2.2.2.2 ⟨Nat.le_of_ble_eq_true rfl, Nat.le_of_ble_eq_true rfl⟩) 4 1 rfl rfl rfl [3] [0, 1, 2, 4, 5, 6, 7, 8, 9, 10] [[((a 0), .inr (7, [.ref (a 1), .ref (a 6), .ref (a 11), .ref (a 13), .ref (a 15), .ref (a 20), .ref (a 52), .ref (a 58)]))], [((a 1), .inr (4, [.ref (a 2), .ref (a 4), .int a_now.2.2.1, .int a_now.2.2.2.1, .int a_now.2.2.2.2.1, .int a_now.2.2.2.2.2]))], w_X1 cI cR (a 2) (a 3) a_now.1.1 a_now.1.2.1 a_now.1.2.2.1 a_now.1.2.2.2.1 a_now.1.2.2.2.2.1 a_now.1.2.2.2.2.2.1 a_now.1.2.2.2.2.2.2, w_X1 cI cR (a 4) (a 5) q18 a_now.2.1.2.1 a_now.2.1.2.2.1 a_now.2.1.2.2.2.1 a_now.2.1.2.2.2.2.1 a_now.2.1.2.2.2.2.2.1 a_now.2.1.2.2.2.2.2.2, w_X4 cI cR (a 6) (a 7) (a 8) (a 9) (a 10) a_ahead, w_X2 cI cR (a 11) (a 12) a_pad_codes a_pad_length, w_X3 cI cR (a 13) (a 14) a_padPattern_heights a_padPattern_length, w_X6 cI cR (a 15) (a 16) (a 17) (a 18) (a 19) a_ways_steps a_ways_firstThrows a_ways_lastThrows a_ways_reached a_ways_reachedCount, w_X0 cI cR (fun i => a (i + 20)) q15.1 q15.2.1 q15.2.2, w_X5 cI cR (a 52) (a 53) (a 54) (a 55) (a 56) (a 57) a_slotZero_kept a_slotZero_filled, w_X5 cI cR (a 58) (a 59) (a 60) (a 61) (a 62) (a 63) a_slotOne_kept a_slotOne_filled] (by decide : ([3] ++ [0, 1, 2, 4, 5, 6, 7, 8, 9, 10] : List Nat).Perm (List.range 11)) rfl rfl rfl rfl rfl hl.1 rfl (Nat.le_of_ble_eq_true rfl) dX7_pick_67 ⟨Nat.le_of_ble_eq_true rfl, Nat.le_of_ble_eq_true rfl⟩ (fun H locs Z => ?_)
              refine lv_aload_n hx hb dX7_pick_70 rfl (lv_at hl 0 rfl) ?_
              refine zg_X7_12 X Z 0 rfl rfl dX7_pick_71 ?_
              refine lv_dup hx hb dX7_pick_74 rfl ?_
              refine zg_X7_115 X Z 1 rfl rfl dX7_pick_75 ?_
              refine lv_iconst (v := 1) hx hb dX7_pick_78 (by decide) ?_
              refine lv_isub hx hb dX7_pick_79 ?_
              refine zp_X7_115 X Z 1 rfl (Nat.le_of_ble_eq_true rfl) [[((a 0), .inr (7, [.ref (a 1), .ref (a 6), .ref (a 11), .ref (a 13), .ref (a 15), .ref (a 20), .ref (a 52), .ref (a 58)]))], [((a 1), .inr (4, [.ref (a 2), .ref (a 4), .int (a_now.2.2.1 - (1 : Int32)), .int a_now.2.2.2.1, .int a_now.2.2.2.2.1, .int a_now.2.2.2.2.2]))], w_X1 cI cR (a 2) (a 3) a_now.1.1 a_now.1.2.1 a_now.1.2.2.1 a_now.1.2.2.2.1 a_now.1.2.2.2.2.1 a_now.1.2.2.2.2.2.1 a_now.1.2.2.2.2.2.2, w_X1 cI cR (a 4) (a 5) q18 a_now.2.1.2.1 a_now.2.1.2.2.1 a_now.2.1.2.2.2.1 a_now.2.1.2.2.2.2.1 a_now.2.1.2.2.2.2.2.1 a_now.2.1.2.2.2.2.2.2, w_X4 cI cR (a 6) (a 7) (a 8) (a 9) (a 10) a_ahead, w_X2 cI cR (a 11) (a 12) a_pad_codes a_pad_length, w_X3 cI cR (a 13) (a 14) a_padPattern_heights a_padPattern_length, w_X6 cI cR (a 15) (a 16) (a 17) (a 18) (a 19) a_ways_steps a_ways_firstThrows a_ways_lastThrows a_ways_reached a_ways_reachedCount, w_X0 cI cR (fun i => a (i + 20)) q15.1 q15.2.1 q15.2.2, w_X5 cI cR (a 52) (a 53) (a 54) (a 55) (a 56) (a 57) a_slotZero_kept a_slotZero_filled, w_X5 cI cR (a 58) (a 59) (a 60) (a 61) (a 62) (a 63) a_slotOne_kept a_slotOne_filled] rfl dX7_pick_80 (fun H locs Z => ?_)
              refine lv_aload_n hx hb dX7_pick_83 rfl (lv_at hl 0 rfl) ?_
              refine zg_X7_12 X Z 0 rfl rfl dX7_pick_84 ?_
              refine zg_X7_115 X Z 1 rfl rfl dX7_pick_87 ?_
              have hR := so_s hf
              subst hR
              refine z_iret X hr hlocks ?_ dX7_pick_90
              exact Z.eq rfl
          · have hf := it_f c14 hf
            refine lv_bipush (v := -5) hx hb dX7_pick_44 (by decide) ?_
            have hR := so_s hf
            subst hR
            refine z_iret X hr hlocks ?_ dX7_pick_46
            exact Z.eq rfl
    · have hf := it_t c4 hf
      refine lv_bipush (v := -2) hx hb dX7_pick_16 (by decide) ?_
      have hR := so_s hf
      subst hR
      refine z_iret X hr hlocks ?_ dX7_pick_18
      exact Z.eq rfl
  · have hf := it_t c2 hf
    refine lv_iconst (v := -1) hx hb dX7_pick_7 (by decide) ?_
    have hR := so_s hf
    subst hR
    refine z_iret X hr hlocks ?_ dX7_pick_8
    exact Z.eq rfl
