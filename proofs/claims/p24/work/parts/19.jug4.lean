def f_X7_pattern (a_pad_codes : (Nat → Int32)) (a_pad_length : Int32) (a_padPattern_heights : (Nat → Int32)) (a_padPattern_length : Int32) (p1 : Int32) : Option (Int32 × (Nat → Int32) × Int32) := (f_X3_learn a_padPattern_heights a_padPattern_length a_pad_codes a_pad_length).bind (fun q1 => if q1.1 = 0 then (some ((-3 : Int32), q1.2.1, q1.2.2)) else ((f_X7_isWithin p1 (0 : Int32) (6 : Int32)).bind (fun q3 => if q3 = 0 then (some ((-2 : Int32), q1.2.1, q1.2.2)) else ((f_X3_isSound q1.2.1 q1.2.2).bind (fun q5 => if q5 = 0 then (if p1 = 0 then (if p1 = (1 : Int32) then ((f_X3_clubs q1.2.1 q1.2.2).bind (fun q27 => some (q27, q1.2.1, q1.2.2))) else (if p1 = (2 : Int32) then ((f_X3_startState q1.2.1 q1.2.2).bind (fun q29 => some (q29, q1.2.1, q1.2.2))) else (if p1 = (3 : Int32) then ((f_X3_orbits q1.2.1 q1.2.2).bind (fun q31 => some (q31, q1.2.1, q1.2.2))) else (if p1 = (4 : Int32) then ((f_X3_orbitThrough q1.2.1 q1.2.2 (0 : Int32)).bind (fun q33 => some (q33, q1.2.1, q1.2.2))) else (if p1 = (5 : Int32) then ((f_X3_period q1.2.1 q1.2.2).bind (fun q35 => some (q35, q1.2.1, q1.2.2))) else (if p1 = (6 : Int32) then ((f_X3_startState q1.2.1 q1.2.2).bind (fun q37 => (f_X3_clubs q1.2.1 q1.2.2).bind (fun q38 => (f_X7_firstBeats q38).bind (fun q39 => if q37 = q39 then ((f_X7_oneIf (1 : Int32)).bind (fun q42 => some (q42, q1.2.1, q1.2.2))) else ((f_X7_oneIf (0 : Int32)).bind (fun q41 => some (q41, q1.2.1, q1.2.2))))))) else ((f_X7_oneIf q5).bind (fun q43 => some (q43, q1.2.1, q1.2.2))))))))) else (some ((-5 : Int32), q1.2.1, q1.2.2))) else (if p1 = (1 : Int32) then ((f_X3_clubs q1.2.1 q1.2.2).bind (fun q8 => some (q8, q1.2.1, q1.2.2))) else (if p1 = (2 : Int32) then ((f_X3_startState q1.2.1 q1.2.2).bind (fun q10 => some (q10, q1.2.1, q1.2.2))) else (if p1 = (3 : Int32) then ((f_X3_orbits q1.2.1 q1.2.2).bind (fun q12 => some (q12, q1.2.1, q1.2.2))) else (if p1 = (4 : Int32) then ((f_X3_orbitThrough q1.2.1 q1.2.2 (0 : Int32)).bind (fun q14 => some (q14, q1.2.1, q1.2.2))) else (if p1 = (5 : Int32) then ((f_X3_period q1.2.1 q1.2.2).bind (fun q16 => some (q16, q1.2.1, q1.2.2))) else (if p1 = (6 : Int32) then ((f_X3_startState q1.2.1 q1.2.2).bind (fun q18 => (f_X3_clubs q1.2.1 q1.2.2).bind (fun q19 => (f_X7_firstBeats q19).bind (fun q20 => if q18 = q20 then ((f_X7_oneIf (1 : Int32)).bind (fun q23 => some (q23, q1.2.1, q1.2.2))) else ((f_X7_oneIf (0 : Int32)).bind (fun q22 => some (q22, q1.2.1, q1.2.2))))))) else ((f_X7_oneIf q5).bind (fun q24 => some (q24, q1.2.1, q1.2.2))))))))))))))
set_option maxHeartbeats 4000000 in
set_option maxRecDepth 100000 in
theorem c_X7_pattern (l : Launch) (D : va_G) (cI cR : ClassId) (a : (Nat → Nat)) (a_now : ST) (a_ahead : ST) (a_pad_codes : (Nat → Int32)) (a_pad_length : Int32) (a_padPattern_heights : (Nat → Int32)) (a_padPattern_length : Int32) (a_ways_steps : (Nat → Int32)) (a_ways_firstThrows : (Nat → Int32)) (a_ways_lastThrows : (Nat → Int32)) (a_ways_reached : (Nat → Int32)) (a_ways_reachedCount : Int32) (a_history_rs : (Nat → ST)) (a_history_oldest : Int32) (a_history_size : Int32) (a_slotZero_kept : ST) (a_slotZero_filled : Int32) (a_slotOne_kept : ST) (a_slotOne_filled : Int32) (p1 : Int32) {R : Int32 × (Nat → Int32) × Int32} (hf : f_X7_pattern a_pad_codes a_pad_length a_padPattern_heights a_padPattern_length p1 = some R) : zM l D cI cR yX7_pattern cX7_pattern 3 (some .int) 6 133 [.ref (a 0), .int p1] [w_X7 cI cR a a_now a_ahead a_pad_codes a_pad_length a_padPattern_heights a_padPattern_length a_ways_steps a_ways_firstThrows a_ways_lastThrows a_ways_reached a_ways_reachedCount a_history_rs a_history_oldest a_history_size a_slotZero_kept a_slotZero_filled a_slotOne_kept a_slotOne_filled] (some (.int R.1)) [w_X7 cI cR a a_now a_ahead a_pad_codes a_pad_length R.2.1 R.2.2 a_ways_steps a_ways_firstThrows a_ways_lastThrows a_ways_reached a_ways_reachedCount a_history_rs a_history_oldest a_history_size a_slotZero_kept a_slotZero_filled a_slotOne_kept a_slotOne_filled] := by
  refine z_of (own := RX7) rfl (by decide) (Nat.le_of_ble_eq_true rfl) ?_
  intro p e s m args below meth c A ls X hr hlocks Z hl
  have hx := X.1.1
  have hb := X.1.2.1
  have Z : zW D A s [w_X7 cI cR a a_now a_ahead a_pad_codes a_pad_length a_padPattern_heights a_padPattern_length a_ways_steps a_ways_firstThrows a_ways_lastThrows a_ways_reached a_ways_reachedCount a_history_rs a_history_oldest a_history_size a_slotZero_kept a_slotZero_filled a_slotOne_kept a_slotOne_filled] s.heap [] := Z
  have hl : lv_has ls 3 [(0, .ref (a 0)), (1, .int p1)] := hl
  refine lv_aload_n hx hb dX7_pattern_0 rfl (lv_at hl 0 rfl) ?_
  refine zg_X7_29 X Z 0 rfl rfl dX7_pattern_1 ?_
  refine lv_aload_n hx hb dX7_pattern_4 rfl (lv_at hl 0 rfl) ?_
  refine zg_X7_22 X Z 0 rfl rfl dX7_pattern_5 ?_
  have Z : zW D A s [[((a 0), .inr (7, [.ref (a 1), .ref (a 6), .ref (a 11), .ref (a 13), .ref (a 15), .ref (a 20), .ref (a 52), .ref (a 58)]))], w_X4 cI cR (a 1) (a 2) (a 3) (a 4) (a 5) a_now, w_X4 cI cR (a 6) (a 7) (a 8) (a 9) (a 10) a_ahead, w_X2 cI cR (a 11) (a 12) a_pad_codes a_pad_length, w_X3 cI cR (a 13) (a 14) a_padPattern_heights a_padPattern_length, w_X6 cI cR (a 15) (a 16) (a 17) (a 18) (a 19) a_ways_steps a_ways_firstThrows a_ways_lastThrows a_ways_reached a_ways_reachedCount, w_X0 cI cR (fun i => a (i + 20)) a_history_rs a_history_oldest a_history_size, w_X5 cI cR (a 52) (a 53) (a 54) (a 55) (a 56) (a 57) a_slotZero_kept a_slotZero_filled, w_X5 cI cR (a 58) (a 59) (a 60) (a 61) (a 62) (a 63) a_slotOne_kept a_slotOne_filled] _ _ := Z.eq rfl
  obtain ⟨q1, hq1, hf⟩ := ob_s hf
  refine z_callVN X Z (c_X3_learn l D cI cR (a 13) (a 14) (a 11) (a 12) a_padPattern_heights a_padPattern_length a_pad_codes a_pad_length  hq1) (zw_X7_166 X.2.1 X.1.2.2.2.2 ⟨Nat.le_of_ble_eq_true rfl, Nat.le_of_ble_eq_true rfl⟩) 13 3 rfl rfl rfl [4, 3] [0, 1, 2, 5, 6, 7, 8] [[((a 0), .inr (7, [.ref (a 1), .ref (a 6), .ref (a 11), .ref (a 13), .ref (a 15), .ref (a 20), .ref (a 52), .ref (a 58)]))], w_X4 cI cR (a 1) (a 2) (a 3) (a 4) (a 5) a_now, w_X4 cI cR (a 6) (a 7) (a 8) (a 9) (a 10) a_ahead, w_X2 cI cR (a 11) (a 12) a_pad_codes a_pad_length, w_X3 cI cR (a 13) (a 14) q1.2.1 q1.2.2, w_X6 cI cR (a 15) (a 16) (a 17) (a 18) (a 19) a_ways_steps a_ways_firstThrows a_ways_lastThrows a_ways_reached a_ways_reachedCount, w_X0 cI cR (fun i => a (i + 20)) a_history_rs a_history_oldest a_history_size, w_X5 cI cR (a 52) (a 53) (a 54) (a 55) (a 56) (a 57) a_slotZero_kept a_slotZero_filled, w_X5 cI cR (a 58) (a 59) (a 60) (a 61) (a 62) (a 63) a_slotOne_kept a_slotOne_filled] (by decide : ([4, 3] ++ [0, 1, 2, 5, 6, 7, 8] : List Nat).Perm (List.range 9)) rfl rfl rfl rfl rfl hl.1 rfl (Nat.le_of_ble_eq_true rfl) dX7_pattern_8 ⟨Nat.le_of_ble_eq_true rfl, Nat.le_of_ble_eq_true rfl⟩ (fun H locs Z => ?_)
  refine lv_if_ne (tgt := 17) hx hb dX7_pattern_11 (by decide) (fun c2 => ?_) (fun c2 => ?_)
  · have hf := it_f c2 hf
    refine lv_iload_n hx hb dX7_pattern_17 rfl (lv_at hl 1 rfl) ?_
    refine lv_iconst (v := 0) hx hb dX7_pattern_18 (by decide) ?_
    refine lv_bipush (v := 6) hx hb dX7_pattern_19 (by decide) ?_
    obtain ⟨q3, hq3, hf⟩ := ob_s hf
    refine z_roS X Z (c_X7_isWithin l D cI cR   p1 (0 : Int32) (6 : Int32) hq3) (zw_X7_57 X.1.2.2.2.2 ⟨Nat.le_of_ble_eq_true rfl, Nat.le_of_ble_eq_true rfl⟩) [] [0, 1, 2, 3, 4, 5, 6, 7, 8] (by decide : ([] ++ [0, 1, 2, 3, 4, 5, 6, 7, 8] : List Nat).Perm (List.range 9)) rfl rfl hl.1 rfl (Nat.le_of_ble_eq_true rfl) dX7_pattern_21 ⟨Nat.le_of_ble_eq_true rfl, Nat.le_of_ble_eq_true rfl⟩ (fun H locs Z => ?_)
    refine lv_if_ne (tgt := 30) hx hb dX7_pattern_24 (by decide) (fun c4 => ?_) (fun c4 => ?_)
    · have hf := it_f c4 hf
      refine lv_aload_n hx hb dX7_pattern_30 rfl (lv_at hl 0 rfl) ?_
      refine zg_X7_29 X Z 0 rfl rfl dX7_pattern_31 ?_
      obtain ⟨q5, hq5, hf⟩ := ob_s hf
      refine z_roVN X Z (c_X3_isSound l D cI cR (a 13) (a 14) q1.2.1 q1.2.2  hq5) (zw_X7_169 X.2.1 X.1.2.2.2.2 ⟨Nat.le_of_ble_eq_true rfl, Nat.le_of_ble_eq_true rfl⟩) 13 3 rfl rfl rfl [4] [0, 1, 2, 3, 5, 6, 7, 8] (by decide : ([4] ++ [0, 1, 2, 3, 5, 6, 7, 8] : List Nat).Perm (List.range 9)) rfl rfl hl.1 rfl (Nat.le_of_ble_eq_true rfl) dX7_pattern_34 ⟨Nat.le_of_ble_eq_true rfl, Nat.le_of_ble_eq_true rfl⟩ (fun H locs Z => ?_)
      refine lv_istore_n (lv' := [(2, .int q5), (0, .ref (a 0)), (1, .int p1)]) hx hb dX7_pattern_37 rfl hl (by decide) rfl (fun ls hl => ?_)
      refine lv_iload_n hx hb dX7_pattern_38 rfl (lv_at hl 0 rfl) ?_
      refine lv_if_ne (tgt := 49) hx hb dX7_pattern_39 (by decide) (fun c6 => ?_) (fun c6 => ?_)
      · have hf := it_f c6 hf
        refine lv_iload_n hx hb dX7_pattern_49 rfl (lv_at hl 2 rfl) ?_
        rcases Decidable.em (p1 = (1 : Int32)) with c7 | c7
        · have hf := it_t c7 hf
          refine z_tabIn hx hb 1 c7 (off := 38) (tgt := 88) dX7_pattern_50 (by decide) (by decide) (by decide) (by decide) ?_
          refine lv_aload_n hx hb dX7_pattern_88 rfl (lv_at hl 1 rfl) ?_
          refine zg_X7_29 X Z 0 rfl rfl dX7_pattern_89 ?_
          obtain ⟨q8, hq8, hf⟩ := ob_s hf
          refine z_roVN X Z (c_X3_clubs l D cI cR (a 13) (a 14) q1.2.1 q1.2.2  hq8) (zw_X7_173 X.2.1 X.1.2.2.2.2 ⟨Nat.le_of_ble_eq_true rfl, Nat.le_of_ble_eq_true rfl⟩) 13 3 rfl rfl rfl [4] [0, 1, 2, 3, 5, 6, 7, 8] (by decide : ([4] ++ [0, 1, 2, 3, 5, 6, 7, 8] : List Nat).Perm (List.range 9)) rfl rfl hl.1 rfl (Nat.le_of_ble_eq_true rfl) dX7_pattern_92 ⟨Nat.le_of_ble_eq_true rfl, Nat.le_of_ble_eq_true rfl⟩ (fun H locs Z => ?_)
          have hR := so_s hf
          subst hR
          refine z_iret X hr hlocks ?_ dX7_pattern_95
          exact Z.eq rfl
        · have hf := it_f c7 hf
          rcases Decidable.em (p1 = (2 : Int32)) with c9 | c9
          · have hf := it_t c9 hf
            refine z_tabIn hx hb 2 c9 (off := 46) (tgt := 96) dX7_pattern_50 (by decide) (by decide) (by decide) (by decide) ?_
            refine lv_aload_n hx hb dX7_pattern_96 rfl (lv_at hl 1 rfl) ?_
            refine zg_X7_29 X Z 0 rfl rfl dX7_pattern_97 ?_
            obtain ⟨q10, hq10, hf⟩ := ob_s hf
            refine z_roVN X Z (c_X3_startState l D cI cR (a 13) (a 14) q1.2.1 q1.2.2  hq10) (zw_X7_174 X.2.1 X.1.2.2.2.2 ⟨Nat.le_of_ble_eq_true rfl, Nat.le_of_ble_eq_true rfl⟩) 13 3 rfl rfl rfl [4] [0, 1, 2, 3, 5, 6, 7, 8] (by decide : ([4] ++ [0, 1, 2, 3, 5, 6, 7, 8] : List Nat).Perm (List.range 9)) rfl rfl hl.1 rfl (Nat.le_of_ble_eq_true rfl) dX7_pattern_100 ⟨Nat.le_of_ble_eq_true rfl, Nat.le_of_ble_eq_true rfl⟩ (fun H locs Z => ?_)
            have hR := so_s hf
            subst hR
            refine z_iret X hr hlocks ?_ dX7_pattern_103
            exact Z.eq rfl
          · have hf := it_f c9 hf
            rcases Decidable.em (p1 = (3 : Int32)) with c11 | c11
            · have hf := it_t c11 hf
              refine z_tabIn hx hb 3 c11 (off := 54) (tgt := 104) dX7_pattern_50 (by decide) (by decide) (by decide) (by decide) ?_
              refine lv_aload_n hx hb dX7_pattern_104 rfl (lv_at hl 1 rfl) ?_
              refine zg_X7_29 X Z 0 rfl rfl dX7_pattern_105 ?_
              obtain ⟨q12, hq12, hf⟩ := ob_s hf
              refine z_roVN X Z (c_X3_orbits l D cI cR (a 13) (a 14) q1.2.1 q1.2.2  hq12) (zw_X7_177 X.2.1 X.1.2.2.2.2 ⟨Nat.le_of_ble_eq_true rfl, Nat.le_of_ble_eq_true rfl⟩) 13 3 rfl rfl rfl [4] [0, 1, 2, 3, 5, 6, 7, 8] (by decide : ([4] ++ [0, 1, 2, 3, 5, 6, 7, 8] : List Nat).Perm (List.range 9)) rfl rfl hl.1 rfl (Nat.le_of_ble_eq_true rfl) dX7_pattern_108 ⟨Nat.le_of_ble_eq_true rfl, Nat.le_of_ble_eq_true rfl⟩ (fun H locs Z => ?_)
              have hR := so_s hf
              subst hR
              refine z_iret X hr hlocks ?_ dX7_pattern_111
              exact Z.eq rfl
            · have hf := it_f c11 hf
              rcases Decidable.em (p1 = (4 : Int32)) with c13 | c13
              · have hf := it_t c13 hf
                refine z_tabIn hx hb 4 c13 (off := 62) (tgt := 112) dX7_pattern_50 (by decide) (by decide) (by decide) (by decide) ?_
                refine lv_aload_n hx hb dX7_pattern_112 rfl (lv_at hl 1 rfl) ?_
                refine zg_X7_29 X Z 0 rfl rfl dX7_pattern_113 ?_
                refine lv_iconst (v := 0) hx hb dX7_pattern_116 (by decide) ?_
                obtain ⟨q14, hq14, hf⟩ := ob_s hf
                refine z_roVN X Z (c_X3_orbitThrough l D cI cR (a 13) (a 14) q1.2.1 q1.2.2 (0 : Int32) hq14) (zw_X7_180 X.2.1 X.1.2.2.2.2 ⟨Nat.le_of_ble_eq_true rfl, Nat.le_of_ble_eq_true rfl⟩) 13 3 rfl rfl rfl [4] [0, 1, 2, 3, 5, 6, 7, 8] (by decide : ([4] ++ [0, 1, 2, 3, 5, 6, 7, 8] : List Nat).Perm (List.range 9)) rfl rfl hl.1 rfl (Nat.le_of_ble_eq_true rfl) dX7_pattern_117 ⟨Nat.le_of_ble_eq_true rfl, Nat.le_of_ble_eq_true rfl⟩ (fun H locs Z => ?_)
                have hR := so_s hf
                subst hR
                refine z_iret X hr hlocks ?_ dX7_pattern_120
                exact Z.eq rfl
              · have hf := it_f c13 hf
                rcases Decidable.em (p1 = (5 : Int32)) with c15 | c15
                · have hf := it_t c15 hf
                  refine z_tabIn hx hb 5 c15 (off := 71) (tgt := 121) dX7_pattern_50 (by decide) (by decide) (by decide) (by decide) ?_
                  refine lv_aload_n hx hb dX7_pattern_121 rfl (lv_at hl 1 rfl) ?_
                  refine zg_X7_29 X Z 0 rfl rfl dX7_pattern_122 ?_
                  obtain ⟨q16, hq16, hf⟩ := ob_s hf
                  refine z_roVN X Z (c_X3_period l D cI cR (a 13) (a 14) q1.2.1 q1.2.2  hq16) (zw_X7_183 X.2.1 X.1.2.2.2.2 ⟨Nat.le_of_ble_eq_true rfl, Nat.le_of_ble_eq_true rfl⟩) 13 3 rfl rfl rfl [4] [0, 1, 2, 3, 5, 6, 7, 8] (by decide : ([4] ++ [0, 1, 2, 3, 5, 6, 7, 8] : List Nat).Perm (List.range 9)) rfl rfl hl.1 rfl (Nat.le_of_ble_eq_true rfl) dX7_pattern_125 ⟨Nat.le_of_ble_eq_true rfl, Nat.le_of_ble_eq_true rfl⟩ (fun H locs Z => ?_)
                  have hR := so_s hf
                  subst hR
                  refine z_iret X hr hlocks ?_ dX7_pattern_128
                  exact Z.eq rfl
                · have hf := it_f c15 hf
                  rcases Decidable.em (p1 = (6 : Int32)) with c17 | c17
                  · have hf := it_t c17 hf
                    refine z_tabIn hx hb 6 c17 (off := 79) (tgt := 129) dX7_pattern_50 (by decide) (by decide) (by decide) (by decide) ?_
                    refine lv_aload_n hx hb dX7_pattern_129 rfl (lv_at hl 1 rfl) ?_
                    refine zg_X7_29 X Z 0 rfl rfl dX7_pattern_130 ?_
                    obtain ⟨q18, hq18, hf⟩ := ob_s hf
                    refine z_roVN X Z (c_X3_startState l D cI cR (a 13) (a 14) q1.2.1 q1.2.2  hq18) (zw_X7_174 X.2.1 X.1.2.2.2.2 ⟨Nat.le_of_ble_eq_true rfl, Nat.le_of_ble_eq_true rfl⟩) 13 3 rfl rfl rfl [4] [0, 1, 2, 3, 5, 6, 7, 8] (by decide : ([4] ++ [0, 1, 2, 3, 5, 6, 7, 8] : List Nat).Perm (List.range 9)) rfl rfl hl.1 rfl (Nat.le_of_ble_eq_true rfl) dX7_pattern_133 ⟨Nat.le_of_ble_eq_true rfl, Nat.le_of_ble_eq_true rfl⟩ (fun H locs Z => ?_)
                    refine lv_aload_n hx hb dX7_pattern_136 rfl (lv_at hl 1 rfl) ?_
                    refine zg_X7_29 X Z 0 rfl rfl dX7_pattern_137 ?_
                    obtain ⟨q19, hq19, hf⟩ := ob_s hf
                    refine z_roVN X Z (c_X3_clubs l D cI cR (a 13) (a 14) q1.2.1 q1.2.2  hq19) (zw_X7_173 X.2.1 X.1.2.2.2.2 ⟨Nat.le_of_ble_eq_true rfl, Nat.le_of_ble_eq_true rfl⟩) 13 3 rfl rfl rfl [4] [0, 1, 2, 3, 5, 6, 7, 8] (by decide : ([4] ++ [0, 1, 2, 3, 5, 6, 7, 8] : List Nat).Perm (List.range 9)) rfl rfl hl.1 rfl (Nat.le_of_ble_eq_true rfl) dX7_pattern_140 ⟨Nat.le_of_ble_eq_true rfl, Nat.le_of_ble_eq_true rfl⟩ (fun H locs Z => ?_)
                    obtain ⟨q20, hq20, hf⟩ := ob_s hf
                    refine z_roS X Z (c_X7_firstBeats l D cI cR   q19 hq20) (zw_X7_186 X.1.2.2.2.2 ⟨Nat.le_of_ble_eq_true rfl, Nat.le_of_ble_eq_true rfl⟩) [] [0, 1, 2, 3, 4, 5, 6, 7, 8] (by decide : ([] ++ [0, 1, 2, 3, 4, 5, 6, 7, 8] : List Nat).Perm (List.range 9)) rfl rfl hl.1 rfl (Nat.le_of_ble_eq_true rfl) dX7_pattern_143 ⟨Nat.le_of_ble_eq_true rfl, Nat.le_of_ble_eq_true rfl⟩ (fun H locs Z => ?_)
                    refine lv_icmp_ne (tgt := 153) hx hb dX7_pattern_146 (by decide) (fun c21 => ?_) (fun c21 => ?_)
                    · have hf := it_f c21 hf
                      refine lv_iconst (v := 0) hx hb dX7_pattern_153 (by decide) ?_
                      obtain ⟨q22, hq22, hf⟩ := ob_s hf
                      refine z_roS X Z (c_X7_oneIf l D cI cR   (0 : Int32) hq22) (zw_X7_143 X.1.2.2.2.2 ⟨Nat.le_of_ble_eq_true rfl, Nat.le_of_ble_eq_true rfl⟩) [] [0, 1, 2, 3, 4, 5, 6, 7, 8] (by decide : ([] ++ [0, 1, 2, 3, 4, 5, 6, 7, 8] : List Nat).Perm (List.range 9)) rfl rfl hl.1 rfl (Nat.le_of_ble_eq_true rfl) dX7_pattern_154 ⟨Nat.le_of_ble_eq_true rfl, Nat.le_of_ble_eq_true rfl⟩ (fun H locs Z => ?_)
                      have hR := so_s hf
                      subst hR
                      refine z_iret X hr hlocks ?_ dX7_pattern_157
                      exact Z.eq rfl
                    · have hf := it_t c21 hf
                      refine lv_iconst (v := 1) hx hb dX7_pattern_149 (by decide) ?_
                      refine lv_goto (tgt := 154) hx hb dX7_pattern_150 (by decide) ?_
                      obtain ⟨q23, hq23, hf⟩ := ob_s hf
                      refine z_roS X Z (c_X7_oneIf l D cI cR   (1 : Int32) hq23) (zw_X7_143 X.1.2.2.2.2 ⟨Nat.le_of_ble_eq_true rfl, Nat.le_of_ble_eq_true rfl⟩) [] [0, 1, 2, 3, 4, 5, 6, 7, 8] (by decide : ([] ++ [0, 1, 2, 3, 4, 5, 6, 7, 8] : List Nat).Perm (List.range 9)) rfl rfl hl.1 rfl (Nat.le_of_ble_eq_true rfl) dX7_pattern_154 ⟨Nat.le_of_ble_eq_true rfl, Nat.le_of_ble_eq_true rfl⟩ (fun H locs Z => ?_)
                      have hR := so_s hf
                      subst hR
                      refine z_iret X hr hlocks ?_ dX7_pattern_157
                      exact Z.eq rfl
                  · have hf := it_f c17 hf
                    refine lv_tableOut (tgt := 158) hx hb dX7_pattern_50 ?_ (by decide) ?_
                    · have e1 := z_ne c7
                      have e2 := z_ne c9
                      have e3 := z_ne c11
                      have e4 := z_ne c13
                      have e5 := z_ne c15
                      have e6 := z_ne c17
                      try simp only [show (1 : Int32).toInt = 1 from by decide] at e1
                      try simp only [show (2 : Int32).toInt = 2 from by decide] at e2
                      try simp only [show (3 : Int32).toInt = 3 from by decide] at e3
                      try simp only [show (4 : Int32).toInt = 4 from by decide] at e4
                      try simp only [show (5 : Int32).toInt = 5 from by decide] at e5
                      try simp only [show (6 : Int32).toInt = 6 from by decide] at e6
                      omega
                    · refine lv_iload_n hx hb dX7_pattern_158 rfl (lv_at hl 0 rfl) ?_
                      obtain ⟨q24, hq24, hf⟩ := ob_s hf
                      refine z_roS X Z (c_X7_oneIf l D cI cR   q5 hq24) (zw_X7_143 X.1.2.2.2.2 ⟨Nat.le_of_ble_eq_true rfl, Nat.le_of_ble_eq_true rfl⟩) [] [0, 1, 2, 3, 4, 5, 6, 7, 8] (by decide : ([] ++ [0, 1, 2, 3, 4, 5, 6, 7, 8] : List Nat).Perm (List.range 9)) rfl rfl hl.1 rfl (Nat.le_of_ble_eq_true rfl) dX7_pattern_159 ⟨Nat.le_of_ble_eq_true rfl, Nat.le_of_ble_eq_true rfl⟩ (fun H locs Z => ?_)
                      have hR := so_s hf
                      subst hR
                      refine z_iret X hr hlocks ?_ dX7_pattern_162
                      exact Z.eq rfl
      · have hf := it_t c6 hf
        refine lv_iload_n hx hb dX7_pattern_42 rfl (lv_at hl 2 rfl) ?_
        refine lv_if_eq (tgt := 49) hx hb dX7_pattern_43 (by decide) (fun c25 => ?_) (fun c25 => ?_)
        · have hf := it_t c25 hf
          refine lv_iload_n hx hb dX7_pattern_49 rfl (lv_at hl 2 rfl) ?_
          rcases Decidable.em (p1 = (1 : Int32)) with c26 | c26
          · have hf := it_t c26 hf
            refine z_tabIn hx hb 1 c26 (off := 38) (tgt := 88) dX7_pattern_50 (by decide) (by decide) (by decide) (by decide) ?_
            refine lv_aload_n hx hb dX7_pattern_88 rfl (lv_at hl 1 rfl) ?_
            refine zg_X7_29 X Z 0 rfl rfl dX7_pattern_89 ?_
            obtain ⟨q27, hq27, hf⟩ := ob_s hf
            refine z_roVN X Z (c_X3_clubs l D cI cR (a 13) (a 14) q1.2.1 q1.2.2  hq27) (zw_X7_173 X.2.1 X.1.2.2.2.2 ⟨Nat.le_of_ble_eq_true rfl, Nat.le_of_ble_eq_true rfl⟩) 13 3 rfl rfl rfl [4] [0, 1, 2, 3, 5, 6, 7, 8] (by decide : ([4] ++ [0, 1, 2, 3, 5, 6, 7, 8] : List Nat).Perm (List.range 9)) rfl rfl hl.1 rfl (Nat.le_of_ble_eq_true rfl) dX7_pattern_92 ⟨Nat.le_of_ble_eq_true rfl, Nat.le_of_ble_eq_true rfl⟩ (fun H locs Z => ?_)
            have hR := so_s hf
            subst hR
            refine z_iret X hr hlocks ?_ dX7_pattern_95
            exact Z.eq rfl
          · have hf := it_f c26 hf
            rcases Decidable.em (p1 = (2 : Int32)) with c28 | c28
            · have hf := it_t c28 hf
              refine z_tabIn hx hb 2 c28 (off := 46) (tgt := 96) dX7_pattern_50 (by decide) (by decide) (by decide) (by decide) ?_
              refine lv_aload_n hx hb dX7_pattern_96 rfl (lv_at hl 1 rfl) ?_
              refine zg_X7_29 X Z 0 rfl rfl dX7_pattern_97 ?_
              obtain ⟨q29, hq29, hf⟩ := ob_s hf
              refine z_roVN X Z (c_X3_startState l D cI cR (a 13) (a 14) q1.2.1 q1.2.2  hq29) (zw_X7_174 X.2.1 X.1.2.2.2.2 ⟨Nat.le_of_ble_eq_true rfl, Nat.le_of_ble_eq_true rfl⟩) 13 3 rfl rfl rfl [4] [0, 1, 2, 3, 5, 6, 7, 8] (by decide : ([4] ++ [0, 1, 2, 3, 5, 6, 7, 8] : List Nat).Perm (List.range 9)) rfl rfl hl.1 rfl (Nat.le_of_ble_eq_true rfl) dX7_pattern_100 ⟨Nat.le_of_ble_eq_true rfl, Nat.le_of_ble_eq_true rfl⟩ (fun H locs Z => ?_)
              have hR := so_s hf
              subst hR
              refine z_iret X hr hlocks ?_ dX7_pattern_103
              exact Z.eq rfl
            · have hf := it_f c28 hf
              rcases Decidable.em (p1 = (3 : Int32)) with c30 | c30
              · have hf := it_t c30 hf
                refine z_tabIn hx hb 3 c30 (off := 54) (tgt := 104) dX7_pattern_50 (by decide) (by decide) (by decide) (by decide) ?_
                refine lv_aload_n hx hb dX7_pattern_104 rfl (lv_at hl 1 rfl) ?_
                refine zg_X7_29 X Z 0 rfl rfl dX7_pattern_105 ?_
                obtain ⟨q31, hq31, hf⟩ := ob_s hf
                refine z_roVN X Z (c_X3_orbits l D cI cR (a 13) (a 14) q1.2.1 q1.2.2  hq31) (zw_X7_177 X.2.1 X.1.2.2.2.2 ⟨Nat.le_of_ble_eq_true rfl, Nat.le_of_ble_eq_true rfl⟩) 13 3 rfl rfl rfl [4] [0, 1, 2, 3, 5, 6, 7, 8] (by decide : ([4] ++ [0, 1, 2, 3, 5, 6, 7, 8] : List Nat).Perm (List.range 9)) rfl rfl hl.1 rfl (Nat.le_of_ble_eq_true rfl) dX7_pattern_108 ⟨Nat.le_of_ble_eq_true rfl, Nat.le_of_ble_eq_true rfl⟩ (fun H locs Z => ?_)
                have hR := so_s hf
                subst hR
                refine z_iret X hr hlocks ?_ dX7_pattern_111
                exact Z.eq rfl
              · have hf := it_f c30 hf
                rcases Decidable.em (p1 = (4 : Int32)) with c32 | c32
                · have hf := it_t c32 hf
                  refine z_tabIn hx hb 4 c32 (off := 62) (tgt := 112) dX7_pattern_50 (by decide) (by decide) (by decide) (by decide) ?_
                  refine lv_aload_n hx hb dX7_pattern_112 rfl (lv_at hl 1 rfl) ?_
                  refine zg_X7_29 X Z 0 rfl rfl dX7_pattern_113 ?_
                  refine lv_iconst (v := 0) hx hb dX7_pattern_116 (by decide) ?_
                  obtain ⟨q33, hq33, hf⟩ := ob_s hf
                  refine z_roVN X Z (c_X3_orbitThrough l D cI cR (a 13) (a 14) q1.2.1 q1.2.2 (0 : Int32) hq33) (zw_X7_180 X.2.1 X.1.2.2.2.2 ⟨Nat.le_of_ble_eq_true rfl, Nat.le_of_ble_eq_true rfl⟩) 13 3 rfl rfl rfl [4] [0, 1, 2, 3, 5, 6, 7, 8] (by decide : ([4] ++ [0, 1, 2, 3, 5, 6, 7, 8] : List Nat).Perm (List.range 9)) rfl rfl hl.1 rfl (Nat.le_of_ble_eq_true rfl) dX7_pattern_117 ⟨Nat.le_of_ble_eq_true rfl, Nat.le_of_ble_eq_true rfl⟩ (fun H locs Z => ?_)
                  have hR := so_s hf
                  subst hR
                  refine z_iret X hr hlocks ?_ dX7_pattern_120
                  exact Z.eq rfl
                · have hf := it_f c32 hf
                  rcases Decidable.em (p1 = (5 : Int32)) with c34 | c34
                  · have hf := it_t c34 hf
                    refine z_tabIn hx hb 5 c34 (off := 71) (tgt := 121) dX7_pattern_50 (by decide) (by decide) (by decide) (by decide) ?_
                    refine lv_aload_n hx hb dX7_pattern_121 rfl (lv_at hl 1 rfl) ?_
                    refine zg_X7_29 X Z 0 rfl rfl dX7_pattern_122 ?_
                    obtain ⟨q35, hq35, hf⟩ := ob_s hf
                    refine z_roVN X Z (c_X3_period l D cI cR (a 13) (a 14) q1.2.1 q1.2.2  hq35) (zw_X7_183 X.2.1 X.1.2.2.2.2 ⟨Nat.le_of_ble_eq_true rfl, Nat.le_of_ble_eq_true rfl⟩) 13 3 rfl rfl rfl [4] [0, 1, 2, 3, 5, 6, 7, 8] (by decide : ([4] ++ [0, 1, 2, 3, 5, 6, 7, 8] : List Nat).Perm (List.range 9)) rfl rfl hl.1 rfl (Nat.le_of_ble_eq_true rfl) dX7_pattern_125 ⟨Nat.le_of_ble_eq_true rfl, Nat.le_of_ble_eq_true rfl⟩ (fun H locs Z => ?_)
                    have hR := so_s hf
                    subst hR
                    refine z_iret X hr hlocks ?_ dX7_pattern_128
                    exact Z.eq rfl
                  · have hf := it_f c34 hf
                    rcases Decidable.em (p1 = (6 : Int32)) with c36 | c36
                    · have hf := it_t c36 hf
                      refine z_tabIn hx hb 6 c36 (off := 79) (tgt := 129) dX7_pattern_50 (by decide) (by decide) (by decide) (by decide) ?_
                      refine lv_aload_n hx hb dX7_pattern_129 rfl (lv_at hl 1 rfl) ?_
                      refine zg_X7_29 X Z 0 rfl rfl dX7_pattern_130 ?_
                      obtain ⟨q37, hq37, hf⟩ := ob_s hf
                      refine z_roVN X Z (c_X3_startState l D cI cR (a 13) (a 14) q1.2.1 q1.2.2  hq37) (zw_X7_174 X.2.1 X.1.2.2.2.2 ⟨Nat.le_of_ble_eq_true rfl, Nat.le_of_ble_eq_true rfl⟩) 13 3 rfl rfl rfl [4] [0, 1, 2, 3, 5, 6, 7, 8] (by decide : ([4] ++ [0, 1, 2, 3, 5, 6, 7, 8] : List Nat).Perm (List.range 9)) rfl rfl hl.1 rfl (Nat.le_of_ble_eq_true rfl) dX7_pattern_133 ⟨Nat.le_of_ble_eq_true rfl, Nat.le_of_ble_eq_true rfl⟩ (fun H locs Z => ?_)
                      refine lv_aload_n hx hb dX7_pattern_136 rfl (lv_at hl 1 rfl) ?_
                      refine zg_X7_29 X Z 0 rfl rfl dX7_pattern_137 ?_
                      obtain ⟨q38, hq38, hf⟩ := ob_s hf
                      refine z_roVN X Z (c_X3_clubs l D cI cR (a 13) (a 14) q1.2.1 q1.2.2  hq38) (zw_X7_173 X.2.1 X.1.2.2.2.2 ⟨Nat.le_of_ble_eq_true rfl, Nat.le_of_ble_eq_true rfl⟩) 13 3 rfl rfl rfl [4] [0, 1, 2, 3, 5, 6, 7, 8] (by decide : ([4] ++ [0, 1, 2, 3, 5, 6, 7, 8] : List Nat).Perm (List.range 9)) rfl rfl hl.1 rfl (Nat.le_of_ble_eq_true rfl) dX7_pattern_140 ⟨Nat.le_of_ble_eq_true rfl, Nat.le_of_ble_eq_true rfl⟩ (fun H locs Z => ?_)
                      obtain ⟨q39, hq39, hf⟩ := ob_s hf
                      refine z_roS X Z (c_X7_firstBeats l D cI cR   q38 hq39) (zw_X7_186 X.1.2.2.2.2 ⟨Nat.le_of_ble_eq_true rfl, Nat.le_of_ble_eq_true rfl⟩) [] [0, 1, 2, 3, 4, 5, 6, 7, 8] (by decide : ([] ++ [0, 1, 2, 3, 4, 5, 6, 7, 8] : List Nat).Perm (List.range 9)) rfl rfl hl.1 rfl (Nat.le_of_ble_eq_true rfl) dX7_pattern_143 ⟨Nat.le_of_ble_eq_true rfl, Nat.le_of_ble_eq_true rfl⟩ (fun H locs Z => ?_)
                      refine lv_icmp_ne (tgt := 153) hx hb dX7_pattern_146 (by decide) (fun c40 => ?_) (fun c40 => ?_)
                      · have hf := it_f c40 hf
                        refine lv_iconst (v := 0) hx hb dX7_pattern_153 (by decide) ?_
                        obtain ⟨q41, hq41, hf⟩ := ob_s hf
                        refine z_roS X Z (c_X7_oneIf l D cI cR   (0 : Int32) hq41) (zw_X7_143 X.1.2.2.2.2 ⟨Nat.le_of_ble_eq_true rfl, Nat.le_of_ble_eq_true rfl⟩) [] [0, 1, 2, 3, 4, 5, 6, 7, 8] (by decide : ([] ++ [0, 1, 2, 3, 4, 5, 6, 7, 8] : List Nat).Perm (List.range 9)) rfl rfl hl.1 rfl (Nat.le_of_ble_eq_true rfl) dX7_pattern_154 ⟨Nat.le_of_ble_eq_true rfl, Nat.le_of_ble_eq_true rfl⟩ (fun H locs Z => ?_)
                        have hR := so_s hf
                        subst hR
                        refine z_iret X hr hlocks ?_ dX7_pattern_157
                        exact Z.eq rfl
                      · have hf := it_t c40 hf
                        refine lv_iconst (v := 1) hx hb dX7_pattern_149 (by decide) ?_
                        refine lv_goto (tgt := 154) hx hb dX7_pattern_150 (by decide) ?_
                        obtain ⟨q42, hq42, hf⟩ := ob_s hf
                        refine z_roS X Z (c_X7_oneIf l D cI cR   (1 : Int32) hq42) (zw_X7_143 X.1.2.2.2.2 ⟨Nat.le_of_ble_eq_true rfl, Nat.le_of_ble_eq_true rfl⟩) [] [0, 1, 2, 3, 4, 5, 6, 7, 8] (by decide : ([] ++ [0, 1, 2, 3, 4, 5, 6, 7, 8] : List Nat).Perm (List.range 9)) rfl rfl hl.1 rfl (Nat.le_of_ble_eq_true rfl) dX7_pattern_154 ⟨Nat.le_of_ble_eq_true rfl, Nat.le_of_ble_eq_true rfl⟩ (fun H locs Z => ?_)
                        have hR := so_s hf
                        subst hR
                        refine z_iret X hr hlocks ?_ dX7_pattern_157
                        exact Z.eq rfl
                    · have hf := it_f c36 hf
                      refine lv_tableOut (tgt := 158) hx hb dX7_pattern_50 ?_ (by decide) ?_
                      · have e1 := z_ne c26
                        have e2 := z_ne c28
                        have e3 := z_ne c30
                        have e4 := z_ne c32
                        have e5 := z_ne c34
                        have e6 := z_ne c36
                        try simp only [show (1 : Int32).toInt = 1 from by decide] at e1
                        try simp only [show (2 : Int32).toInt = 2 from by decide] at e2
                        try simp only [show (3 : Int32).toInt = 3 from by decide] at e3
                        try simp only [show (4 : Int32).toInt = 4 from by decide] at e4
                        try simp only [show (5 : Int32).toInt = 5 from by decide] at e5
                        try simp only [show (6 : Int32).toInt = 6 from by decide] at e6
                        omega
                      · refine lv_iload_n hx hb dX7_pattern_158 rfl (lv_at hl 0 rfl) ?_
                        obtain ⟨q43, hq43, hf⟩ := ob_s hf
                        refine z_roS X Z (c_X7_oneIf l D cI cR   q5 hq43) (zw_X7_143 X.1.2.2.2.2 ⟨Nat.le_of_ble_eq_true rfl, Nat.le_of_ble_eq_true rfl⟩) [] [0, 1, 2, 3, 4, 5, 6, 7, 8] (by decide : ([] ++ [0, 1, 2, 3, 4, 5, 6, 7, 8] : List Nat).Perm (List.range 9)) rfl rfl hl.1 rfl (Nat.le_of_ble_eq_true rfl) dX7_pattern_159 ⟨Nat.le_of_ble_eq_true rfl, Nat.le_of_ble_eq_true rfl⟩ (fun H locs Z => ?_)
                        have hR := so_s hf
                        subst hR
                        refine z_iret X hr hlocks ?_ dX7_pattern_162
                        exact Z.eq rfl
        · have hf := it_f c25 hf
          refine lv_bipush (v := -5) hx hb dX7_pattern_46 (by decide) ?_
          have hR := so_s hf
          subst hR
          refine z_iret X hr hlocks ?_ dX7_pattern_48
          exact Z.eq rfl
    · have hf := it_t c4 hf
      refine lv_bipush (v := -2) hx hb dX7_pattern_27 (by decide) ?_
      have hR := so_s hf
      subst hR
      refine z_iret X hr hlocks ?_ dX7_pattern_29
      exact Z.eq rfl
  · have hf := it_t c2 hf
    refine lv_bipush (v := -3) hx hb dX7_pattern_14 (by decide) ?_
    have hR := so_s hf
    subst hR
    refine z_iret X hr hlocks ?_ dX7_pattern_16
    exact Z.eq rfl
def f_X7_back (a_pad_codes : (Nat → Int32)) (a_pad_length : Int32) (a_padPattern_heights : (Nat → Int32)) (a_padPattern_length : Int32) (p1 : Int32) : Option (Int32 × (Nat → Int32) × Int32) := (f_X3_learn a_padPattern_heights a_padPattern_length a_pad_codes a_pad_length).bind (fun q1 => if q1.1 = 0 then (some ((-3 : Int32), q1.2.1, q1.2.2)) else ((f_X7_isWithin p1 (0 : Int32) (q1.2.2 - (1 : Int32))).bind (fun q3 => if q3 = 0 then (some ((-1 : Int32), q1.2.1, q1.2.2)) else ((f_X3_isSound q1.2.1 q1.2.2).bind (fun q5 => if q5 = 0 then (some ((-5 : Int32), q1.2.1, q1.2.2)) else ((f_X3_heightTurnedBack q1.2.1 q1.2.2 p1).bind (fun q7 => some (q7, q1.2.1, q1.2.2))))))))
set_option maxHeartbeats 4000000 in
set_option maxRecDepth 100000 in
theorem c_X7_back (l : Launch) (D : va_G) (cI cR : ClassId) (a : (Nat → Nat)) (a_now : ST) (a_ahead : ST) (a_pad_codes : (Nat → Int32)) (a_pad_length : Int32) (a_padPattern_heights : (Nat → Int32)) (a_padPattern_length : Int32) (a_ways_steps : (Nat → Int32)) (a_ways_firstThrows : (Nat → Int32)) (a_ways_lastThrows : (Nat → Int32)) (a_ways_reached : (Nat → Int32)) (a_ways_reachedCount : Int32) (a_history_rs : (Nat → ST)) (a_history_oldest : Int32) (a_history_size : Int32) (a_slotZero_kept : ST) (a_slotZero_filled : Int32) (a_slotOne_kept : ST) (a_slotOne_filled : Int32) (p1 : Int32) {R : Int32 × (Nat → Int32) × Int32} (hf : f_X7_back a_pad_codes a_pad_length a_padPattern_heights a_padPattern_length p1 = some R) : zM l D cI cR yX7_back cX7_back 2 (some .int) 5 107 [.ref (a 0), .int p1] [w_X7 cI cR a a_now a_ahead a_pad_codes a_pad_length a_padPattern_heights a_padPattern_length a_ways_steps a_ways_firstThrows a_ways_lastThrows a_ways_reached a_ways_reachedCount a_history_rs a_history_oldest a_history_size a_slotZero_kept a_slotZero_filled a_slotOne_kept a_slotOne_filled] (some (.int R.1)) [w_X7 cI cR a a_now a_ahead a_pad_codes a_pad_length R.2.1 R.2.2 a_ways_steps a_ways_firstThrows a_ways_lastThrows a_ways_reached a_ways_reachedCount a_history_rs a_history_oldest a_history_size a_slotZero_kept a_slotZero_filled a_slotOne_kept a_slotOne_filled] := by
  refine z_of (own := RX7) rfl (by decide) (Nat.le_of_ble_eq_true rfl) ?_
  intro p e s m args below meth c A ls X hr hlocks Z hl
  have hx := X.1.1
  have hb := X.1.2.1
  have Z : zW D A s [w_X7 cI cR a a_now a_ahead a_pad_codes a_pad_length a_padPattern_heights a_padPattern_length a_ways_steps a_ways_firstThrows a_ways_lastThrows a_ways_reached a_ways_reachedCount a_history_rs a_history_oldest a_history_size a_slotZero_kept a_slotZero_filled a_slotOne_kept a_slotOne_filled] s.heap [] := Z
  have hl : lv_has ls 2 [(0, .ref (a 0)), (1, .int p1)] := hl
  refine lv_aload_n hx hb dX7_back_0 rfl (lv_at hl 0 rfl) ?_
  refine zg_X7_29 X Z 0 rfl rfl dX7_back_1 ?_
  refine lv_aload_n hx hb dX7_back_4 rfl (lv_at hl 0 rfl) ?_
  refine zg_X7_22 X Z 0 rfl rfl dX7_back_5 ?_
  have Z : zW D A s [[((a 0), .inr (7, [.ref (a 1), .ref (a 6), .ref (a 11), .ref (a 13), .ref (a 15), .ref (a 20), .ref (a 52), .ref (a 58)]))], w_X4 cI cR (a 1) (a 2) (a 3) (a 4) (a 5) a_now, w_X4 cI cR (a 6) (a 7) (a 8) (a 9) (a 10) a_ahead, w_X2 cI cR (a 11) (a 12) a_pad_codes a_pad_length, w_X3 cI cR (a 13) (a 14) a_padPattern_heights a_padPattern_length, w_X6 cI cR (a 15) (a 16) (a 17) (a 18) (a 19) a_ways_steps a_ways_firstThrows a_ways_lastThrows a_ways_reached a_ways_reachedCount, w_X0 cI cR (fun i => a (i + 20)) a_history_rs a_history_oldest a_history_size, w_X5 cI cR (a 52) (a 53) (a 54) (a 55) (a 56) (a 57) a_slotZero_kept a_slotZero_filled, w_X5 cI cR (a 58) (a 59) (a 60) (a 61) (a 62) (a 63) a_slotOne_kept a_slotOne_filled] _ _ := Z.eq rfl
  obtain ⟨q1, hq1, hf⟩ := ob_s hf
  refine z_callVN X Z (c_X3_learn l D cI cR (a 13) (a 14) (a 11) (a 12) a_padPattern_heights a_padPattern_length a_pad_codes a_pad_length  hq1) (zw_X7_166 X.2.1 X.1.2.2.2.2 ⟨Nat.le_of_ble_eq_true rfl, Nat.le_of_ble_eq_true rfl⟩) 13 3 rfl rfl rfl [4, 3] [0, 1, 2, 5, 6, 7, 8] [[((a 0), .inr (7, [.ref (a 1), .ref (a 6), .ref (a 11), .ref (a 13), .ref (a 15), .ref (a 20), .ref (a 52), .ref (a 58)]))], w_X4 cI cR (a 1) (a 2) (a 3) (a 4) (a 5) a_now, w_X4 cI cR (a 6) (a 7) (a 8) (a 9) (a 10) a_ahead, w_X2 cI cR (a 11) (a 12) a_pad_codes a_pad_length, w_X3 cI cR (a 13) (a 14) q1.2.1 q1.2.2, w_X6 cI cR (a 15) (a 16) (a 17) (a 18) (a 19) a_ways_steps a_ways_firstThrows a_ways_lastThrows a_ways_reached a_ways_reachedCount, w_X0 cI cR (fun i => a (i + 20)) a_history_rs a_history_oldest a_history_size, w_X5 cI cR (a 52) (a 53) (a 54) (a 55) (a 56) (a 57) a_slotZero_kept a_slotZero_filled, w_X5 cI cR (a 58) (a 59) (a 60) (a 61) (a 62) (a 63) a_slotOne_kept a_slotOne_filled] (by decide : ([4, 3] ++ [0, 1, 2, 5, 6, 7, 8] : List Nat).Perm (List.range 9)) rfl rfl rfl rfl rfl hl.1 rfl (Nat.le_of_ble_eq_true rfl) dX7_back_8 ⟨Nat.le_of_ble_eq_true rfl, Nat.le_of_ble_eq_true rfl⟩ (fun H locs Z => ?_)
  refine lv_if_ne (tgt := 17) hx hb dX7_back_11 (by decide) (fun c2 => ?_) (fun c2 => ?_)
  · have hf := it_f c2 hf
    refine lv_iload_n hx hb dX7_back_17 rfl (lv_at hl 1 rfl) ?_
    refine lv_iconst (v := 0) hx hb dX7_back_18 (by decide) ?_
    refine lv_aload_n hx hb dX7_back_19 rfl (lv_at hl 0 rfl) ?_
    refine zg_X7_29 X Z 0 rfl rfl dX7_back_20 ?_
    refine zg_X7_189 X Z 13 rfl rfl dX7_back_23 ?_
    refine lv_iconst (v := 1) hx hb dX7_back_26 (by decide) ?_
    refine lv_isub hx hb dX7_back_27 ?_
    obtain ⟨q3, hq3, hf⟩ := ob_s hf
    refine z_roS X Z (c_X7_isWithin l D cI cR   p1 (0 : Int32) (q1.2.2 - (1 : Int32)) hq3) (zw_X7_57 X.1.2.2.2.2 ⟨Nat.le_of_ble_eq_true rfl, Nat.le_of_ble_eq_true rfl⟩) [] [0, 1, 2, 3, 4, 5, 6, 7, 8] (by decide : ([] ++ [0, 1, 2, 3, 4, 5, 6, 7, 8] : List Nat).Perm (List.range 9)) rfl rfl hl.1 rfl (Nat.le_of_ble_eq_true rfl) dX7_back_28 ⟨Nat.le_of_ble_eq_true rfl, Nat.le_of_ble_eq_true rfl⟩ (fun H locs Z => ?_)
    refine lv_if_ne (tgt := 36) hx hb dX7_back_31 (by decide) (fun c4 => ?_) (fun c4 => ?_)
    · have hf := it_f c4 hf
      refine lv_aload_n hx hb dX7_back_36 rfl (lv_at hl 0 rfl) ?_
      refine zg_X7_29 X Z 0 rfl rfl dX7_back_37 ?_
      obtain ⟨q5, hq5, hf⟩ := ob_s hf
      refine z_roVN X Z (c_X3_isSound l D cI cR (a 13) (a 14) q1.2.1 q1.2.2  hq5) (zw_X7_169 X.2.1 X.1.2.2.2.2 ⟨Nat.le_of_ble_eq_true rfl, Nat.le_of_ble_eq_true rfl⟩) 13 3 rfl rfl rfl [4] [0, 1, 2, 3, 5, 6, 7, 8] (by decide : ([4] ++ [0, 1, 2, 3, 5, 6, 7, 8] : List Nat).Perm (List.range 9)) rfl rfl hl.1 rfl (Nat.le_of_ble_eq_true rfl) dX7_back_40 ⟨Nat.le_of_ble_eq_true rfl, Nat.le_of_ble_eq_true rfl⟩ (fun H locs Z => ?_)
      refine lv_if_ne (tgt := 49) hx hb dX7_back_43 (by decide) (fun c6 => ?_) (fun c6 => ?_)
      · have hf := it_f c6 hf
        refine lv_aload_n hx hb dX7_back_49 rfl (lv_at hl 0 rfl) ?_
        refine zg_X7_29 X Z 0 rfl rfl dX7_back_50 ?_
        refine lv_iload_n hx hb dX7_back_53 rfl (lv_at hl 1 rfl) ?_
        obtain ⟨q7, hq7, hf⟩ := ob_s hf
        refine z_roVN X Z (c_X3_heightTurnedBack l D cI cR (a 13) (a 14) q1.2.1 q1.2.2 p1 hq7) (zw_X7_190 X.2.1 X.1.2.2.2.2 ⟨Nat.le_of_ble_eq_true rfl, Nat.le_of_ble_eq_true rfl⟩) 13 3 rfl rfl rfl [4] [0, 1, 2, 3, 5, 6, 7, 8] (by decide : ([4] ++ [0, 1, 2, 3, 5, 6, 7, 8] : List Nat).Perm (List.range 9)) rfl rfl hl.1 rfl (Nat.le_of_ble_eq_true rfl) dX7_back_54 ⟨Nat.le_of_ble_eq_true rfl, Nat.le_of_ble_eq_true rfl⟩ (fun H locs Z => ?_)
        have hR := so_s hf
        subst hR
        refine z_iret X hr hlocks ?_ dX7_back_57
        exact Z.eq rfl
      · have hf := it_t c6 hf
        refine lv_bipush (v := -5) hx hb dX7_back_46 (by decide) ?_
        have hR := so_s hf
        subst hR
        refine z_iret X hr hlocks ?_ dX7_back_48
        exact Z.eq rfl
    · have hf := it_t c4 hf
      refine lv_iconst (v := -1) hx hb dX7_back_34 (by decide) ?_
      have hR := so_s hf
      subst hR
      refine z_iret X hr hlocks ?_ dX7_back_35
      exact Z.eq rfl
  · have hf := it_t c2 hf
    refine lv_bipush (v := -3) hx hb dX7_back_14 (by decide) ?_
    have hR := so_s hf
    subst hR
    refine z_iret X hr hlocks ?_ dX7_back_16
    exact Z.eq rfl
def f_X7_way (a_now : ST) (a_ways_steps : (Nat → Int32)) (a_ways_firstThrows : (Nat → Int32)) (a_ways_lastThrows : (Nat → Int32)) (a_ways_reached : (Nat → Int32)) (a_ways_reachedCount : Int32) (p1 : Int32) (p2 : Int32) (p3 : Int32) : Option (Int32 × (Nat → Int32) × (Nat → Int32) × (Nat → Int32) × (Nat → Int32) × Int32) := (f_X7_isJuggler p1).bind (fun q1 => if q1 = 0 then (some ((-1 : Int32), a_ways_steps, a_ways_firstThrows, a_ways_lastThrows, a_ways_reached, a_ways_reachedCount)) else ((f_X7_isWithin p2 (0 : Int32) (255 : Int32)).bind (fun q3 => if q3 = 0 then (some ((-2 : Int32), a_ways_steps, a_ways_firstThrows, a_ways_lastThrows, a_ways_reached, a_ways_reachedCount)) else ((f_X7_isWithin p3 (0 : Int32) (2 : Int32)).bind (fun q5 => if q5 = 0 then (some ((-2 : Int32), a_ways_steps, a_ways_firstThrows, a_ways_lastThrows, a_ways_reached, a_ways_reachedCount)) else (if p1 = 0 then ((f_X6_searchFrom a_ways_steps a_ways_firstThrows a_ways_lastThrows a_ways_reached a_ways_reachedCount a_now.1.1).bind (fun q8 => (f_X6_stepsTo q8.1 p2).bind (fun q9 => if q9 = (-1 : Int32) then (some ((-5 : Int32), q8.1, q8.2.1, q8.2.2.1, q8.2.2.2.1, q8.2.2.2.2)) else (if p3 = 0 then (some (q9, q8.1, q8.2.1, q8.2.2.1, q8.2.2.2.1, q8.2.2.2.2)) else (if q9 = 0 then (some ((-6 : Int32), q8.1, q8.2.1, q8.2.2.1, q8.2.2.2.1, q8.2.2.2.2)) else (if p3 = (1 : Int32) then ((f_X6_firstThrowTo q8.2.1 p2).bind (fun q15 => some (q15, q8.1, q8.2.1, q8.2.2.1, q8.2.2.2.1, q8.2.2.2.2))) else ((f_X6_lastThrowTo q8.2.2.1 p2).bind (fun q14 => some (q14, q8.1, q8.2.1, q8.2.2.1, q8.2.2.2.1, q8.2.2.2.2))))))))) else ((f_X6_searchFrom a_ways_steps a_ways_firstThrows a_ways_lastThrows a_ways_reached a_ways_reachedCount a_now.2.1.1).bind (fun q16 => (f_X6_stepsTo q16.1 p2).bind (fun q17 => if q17 = (-1 : Int32) then (some ((-5 : Int32), q16.1, q16.2.1, q16.2.2.1, q16.2.2.2.1, q16.2.2.2.2)) else (if p3 = 0 then (some (q17, q16.1, q16.2.1, q16.2.2.1, q16.2.2.2.1, q16.2.2.2.2)) else (if q17 = 0 then (some ((-6 : Int32), q16.1, q16.2.1, q16.2.2.1, q16.2.2.2.1, q16.2.2.2.2)) else (if p3 = (1 : Int32) then ((f_X6_firstThrowTo q16.2.1 p2).bind (fun q23 => some (q23, q16.1, q16.2.1, q16.2.2.1, q16.2.2.2.1, q16.2.2.2.2))) else ((f_X6_lastThrowTo q16.2.2.1 p2).bind (fun q22 => some (q22, q16.1, q16.2.1, q16.2.2.1, q16.2.2.2.1, q16.2.2.2.2)))))))))))))))
set_option maxHeartbeats 4000000 in
set_option maxRecDepth 100000 in
theorem c_X7_way (l : Launch) (D : va_G) (cI cR : ClassId) (a : (Nat → Nat)) (a_now : ST) (a_ahead : ST) (a_pad_codes : (Nat → Int32)) (a_pad_length : Int32) (a_padPattern_heights : (Nat → Int32)) (a_padPattern_length : Int32) (a_ways_steps : (Nat → Int32)) (a_ways_firstThrows : (Nat → Int32)) (a_ways_lastThrows : (Nat → Int32)) (a_ways_reached : (Nat → Int32)) (a_ways_reachedCount : Int32) (a_history_rs : (Nat → ST)) (a_history_oldest : Int32) (a_history_size : Int32) (a_slotZero_kept : ST) (a_slotZero_filled : Int32) (a_slotOne_kept : ST) (a_slotOne_filled : Int32) (p1 : Int32) (p2 : Int32) (p3 : Int32) {R : Int32 × (Nat → Int32) × (Nat → Int32) × (Nat → Int32) × (Nat → Int32) × Int32} (hf : f_X7_way a_now a_ways_steps a_ways_firstThrows a_ways_lastThrows a_ways_reached a_ways_reachedCount p1 p2 p3 = some R) : zM l D cI cR yX7_way cX7_way 5 (some .int) 6 134 [.ref (a 0), .int p1, .int p2, .int p3] [w_X7 cI cR a a_now a_ahead a_pad_codes a_pad_length a_padPattern_heights a_padPattern_length a_ways_steps a_ways_firstThrows a_ways_lastThrows a_ways_reached a_ways_reachedCount a_history_rs a_history_oldest a_history_size a_slotZero_kept a_slotZero_filled a_slotOne_kept a_slotOne_filled] (some (.int R.1)) [w_X7 cI cR a a_now a_ahead a_pad_codes a_pad_length a_padPattern_heights a_padPattern_length R.2.1 R.2.2.1 R.2.2.2.1 R.2.2.2.2.1 R.2.2.2.2.2 a_history_rs a_history_oldest a_history_size a_slotZero_kept a_slotZero_filled a_slotOne_kept a_slotOne_filled] := by
  refine z_of (own := RX7) rfl (by decide) (Nat.le_of_ble_eq_true rfl) ?_
  intro p e s m args below meth c A ls X hr hlocks Z hl
  have hx := X.1.1
  have hb := X.1.2.1
  have Z : zW D A s [w_X7 cI cR a a_now a_ahead a_pad_codes a_pad_length a_padPattern_heights a_padPattern_length a_ways_steps a_ways_firstThrows a_ways_lastThrows a_ways_reached a_ways_reachedCount a_history_rs a_history_oldest a_history_size a_slotZero_kept a_slotZero_filled a_slotOne_kept a_slotOne_filled] s.heap [] := Z
  have hl : lv_has ls 5 [(0, .ref (a 0)), (1, .int p1), (2, .int p2), (3, .int p3)] := hl
  refine lv_iload_n hx hb dX7_way_0 rfl (lv_at hl 1 rfl) ?_
  obtain ⟨q1, hq1, hf⟩ := ob_s hf
  refine z_roS X Z (c_X7_isJuggler l D cI cR   p1 hq1) (zw_X7_101 X.1.2.2.2.2 ⟨Nat.le_of_ble_eq_true rfl, Nat.le_of_ble_eq_true rfl⟩) [] [0] (by decide : ([] ++ [0] : List Nat).Perm (List.range 1)) rfl rfl hl.1 rfl (Nat.le_of_ble_eq_true rfl) dX7_way_1 ⟨Nat.le_of_ble_eq_true rfl, Nat.le_of_ble_eq_true rfl⟩ (fun H locs Z => ?_)
  refine lv_if_ne (tgt := 9) hx hb dX7_way_4 (by decide) (fun c2 => ?_) (fun c2 => ?_)
  · have hf := it_f c2 hf
    refine lv_iload_n hx hb dX7_way_9 rfl (lv_at hl 2 rfl) ?_
    refine lv_iconst (v := 0) hx hb dX7_way_10 (by decide) ?_
    refine lv_sipush (v := 255) hx hb dX7_way_11 (by decide) ?_
    obtain ⟨q3, hq3, hf⟩ := ob_s hf
    refine z_roS X Z (c_X7_isWithin l D cI cR   p2 (0 : Int32) (255 : Int32) hq3) (zw_X7_57 X.1.2.2.2.2 ⟨Nat.le_of_ble_eq_true rfl, Nat.le_of_ble_eq_true rfl⟩) [] [0] (by decide : ([] ++ [0] : List Nat).Perm (List.range 1)) rfl rfl hl.1 rfl (Nat.le_of_ble_eq_true rfl) dX7_way_14 ⟨Nat.le_of_ble_eq_true rfl, Nat.le_of_ble_eq_true rfl⟩ (fun H locs Z => ?_)
    refine lv_if_eq (tgt := 29) hx hb dX7_way_17 (by decide) (fun c4 => ?_) (fun c4 => ?_)
    · have hf := it_t c4 hf
      refine lv_bipush (v := -2) hx hb dX7_way_29 (by decide) ?_
      have hR := so_s hf
      subst hR
      refine z_iret X hr hlocks ?_ dX7_way_31
      exact Z.eq rfl
    · have hf := it_f c4 hf
      refine lv_iload_n hx hb dX7_way_20 rfl (lv_at hl 3 rfl) ?_
      refine lv_iconst (v := 0) hx hb dX7_way_21 (by decide) ?_
      refine lv_iconst (v := 2) hx hb dX7_way_22 (by decide) ?_
      obtain ⟨q5, hq5, hf⟩ := ob_s hf
      refine z_roS X Z (c_X7_isWithin l D cI cR   p3 (0 : Int32) (2 : Int32) hq5) (zw_X7_57 X.1.2.2.2.2 ⟨Nat.le_of_ble_eq_true rfl, Nat.le_of_ble_eq_true rfl⟩) [] [0] (by decide : ([] ++ [0] : List Nat).Perm (List.range 1)) rfl rfl hl.1 rfl (Nat.le_of_ble_eq_true rfl) dX7_way_23 ⟨Nat.le_of_ble_eq_true rfl, Nat.le_of_ble_eq_true rfl⟩ (fun H locs Z => ?_)
      refine lv_if_ne (tgt := 32) hx hb dX7_way_26 (by decide) (fun c6 => ?_) (fun c6 => ?_)
      · have hf := it_f c6 hf
        refine lv_aload_n hx hb dX7_way_32 rfl (lv_at hl 0 rfl) ?_
        refine zg_X7_36 X Z 0 rfl rfl dX7_way_33 ?_
        refine lv_aload_n hx hb dX7_way_36 rfl (lv_at hl 0 rfl) ?_
        refine zg_X7_12 X Z 0 rfl rfl dX7_way_37 ?_
        refine lv_iload_n hx hb dX7_way_40 rfl (lv_at hl 1 rfl) ?_
        have Z : zW D A s [[((a 0), .inr (7, [.ref (a 1), .ref (a 6), .ref (a 11), .ref (a 13), .ref (a 15), .ref (a 20), .ref (a 52), .ref (a 58)]))], [((a 1), .inr (4, [.ref (a 2), .ref (a 4), .int a_now.2.2.1, .int a_now.2.2.2.1, .int a_now.2.2.2.2.1, .int a_now.2.2.2.2.2]))], w_X1 cI cR (a 2) (a 3) a_now.1.1 a_now.1.2.1 a_now.1.2.2.1 a_now.1.2.2.2.1 a_now.1.2.2.2.2.1 a_now.1.2.2.2.2.2.1 a_now.1.2.2.2.2.2.2, w_X1 cI cR (a 4) (a 5) a_now.2.1.1 a_now.2.1.2.1 a_now.2.1.2.2.1 a_now.2.1.2.2.2.1 a_now.2.1.2.2.2.2.1 a_now.2.1.2.2.2.2.2.1 a_now.2.1.2.2.2.2.2.2, w_X4 cI cR (a 6) (a 7) (a 8) (a 9) (a 10) a_ahead, w_X2 cI cR (a 11) (a 12) a_pad_codes a_pad_length, w_X3 cI cR (a 13) (a 14) a_padPattern_heights a_padPattern_length, w_X6 cI cR (a 15) (a 16) (a 17) (a 18) (a 19) a_ways_steps a_ways_firstThrows a_ways_lastThrows a_ways_reached a_ways_reachedCount, w_X0 cI cR (fun i => a (i + 20)) a_history_rs a_history_oldest a_history_size, w_X5 cI cR (a 52) (a 53) (a 54) (a 55) (a 56) (a 57) a_slotZero_kept a_slotZero_filled, w_X5 cI cR (a 58) (a 59) (a 60) (a 61) (a 62) (a 63) a_slotOne_kept a_slotOne_filled] _ _ := Z.eq rfl
        rcases Decidable.em (p1 = 0) with c7 | c7
        · have hf := it_t c7 hf
          refine z_roVN X Z (c_X4_juggler_0 l D cI cR (a 1) (a 2) (a 4) a_now.2.2.1 a_now.2.2.2.1 a_now.2.2.2.2.1 a_now.2.2.2.2.2 p1 c7) (zw_X7_80 X.2.1 X.1.2.2.2.2 ⟨Nat.le_of_ble_eq_true rfl, Nat.le_of_ble_eq_true rfl⟩) 1 4 rfl rfl rfl [1] [0, 2, 3, 4, 5, 6, 7, 8, 9, 10] (by decide : ([1] ++ [0, 2, 3, 4, 5, 6, 7, 8, 9, 10] : List Nat).Perm (List.range 11)) rfl rfl hl.1 rfl (Nat.le_of_ble_eq_true rfl) dX7_way_41 ⟨Nat.le_of_ble_eq_true rfl, Nat.le_of_ble_eq_true rfl⟩ (fun H locs Z => ?_)
          refine zg_X7_121 X Z 2 rfl rfl dX7_way_44 ?_
          obtain ⟨q8, hq8, hf⟩ := ob_s hf
          refine z_callVN X Z (c_X6_searchFrom l D cI cR (a 15) (a 16) (a 17) (a 18) (a 19) a_ways_steps a_ways_firstThrows a_ways_lastThrows a_ways_reached a_ways_reachedCount a_now.1.1 hq8) (zw_X7_193 X.2.1 X.1.2.2.2.2 ⟨Nat.le_of_ble_eq_true rfl, Nat.le_of_ble_eq_true rfl⟩) 15 6 rfl rfl rfl [7] [0, 1, 2, 3, 4, 5, 6, 8, 9, 10] [[((a 0), .inr (7, [.ref (a 1), .ref (a 6), .ref (a 11), .ref (a 13), .ref (a 15), .ref (a 20), .ref (a 52), .ref (a 58)]))], [((a 1), .inr (4, [.ref (a 2), .ref (a 4), .int a_now.2.2.1, .int a_now.2.2.2.1, .int a_now.2.2.2.2.1, .int a_now.2.2.2.2.2]))], w_X1 cI cR (a 2) (a 3) a_now.1.1 a_now.1.2.1 a_now.1.2.2.1 a_now.1.2.2.2.1 a_now.1.2.2.2.2.1 a_now.1.2.2.2.2.2.1 a_now.1.2.2.2.2.2.2, w_X1 cI cR (a 4) (a 5) a_now.2.1.1 a_now.2.1.2.1 a_now.2.1.2.2.1 a_now.2.1.2.2.2.1 a_now.2.1.2.2.2.2.1 a_now.2.1.2.2.2.2.2.1 a_now.2.1.2.2.2.2.2.2, w_X4 cI cR (a 6) (a 7) (a 8) (a 9) (a 10) a_ahead, w_X2 cI cR (a 11) (a 12) a_pad_codes a_pad_length, w_X3 cI cR (a 13) (a 14) a_padPattern_heights a_padPattern_length, w_X6 cI cR (a 15) (a 16) (a 17) (a 18) (a 19) q8.1 q8.2.1 q8.2.2.1 q8.2.2.2.1 q8.2.2.2.2, w_X0 cI cR (fun i => a (i + 20)) a_history_rs a_history_oldest a_history_size, w_X5 cI cR (a 52) (a 53) (a 54) (a 55) (a 56) (a 57) a_slotZero_kept a_slotZero_filled, w_X5 cI cR (a 58) (a 59) (a 60) (a 61) (a 62) (a 63) a_slotOne_kept a_slotOne_filled] (by decide : ([7] ++ [0, 1, 2, 3, 4, 5, 6, 8, 9, 10] : List Nat).Perm (List.range 11)) rfl rfl rfl rfl rfl hl.1 rfl (Nat.le_of_ble_eq_true rfl) dX7_way_47 ⟨Nat.le_of_ble_eq_true rfl, Nat.le_of_ble_eq_true rfl⟩ (fun H locs Z => ?_)
          refine lv_aload_n hx hb dX7_way_50 rfl (lv_at hl 0 rfl) ?_
          refine zg_X7_36 X Z 0 rfl rfl dX7_way_51 ?_
          refine lv_iload_n hx hb dX7_way_54 rfl (lv_at hl 2 rfl) ?_
          obtain ⟨q9, hq9, hf⟩ := ob_s hf
          refine z_roVN X Z (c_X6_stepsTo l D cI cR (a 15) (a 16) (a 17) (a 18) (a 19) q8.1 q8.2.1 q8.2.2.1 q8.2.2.2.1 q8.2.2.2.2 p2 hq9) (zw_X7_196 X.2.1 X.1.2.2.2.2 ⟨Nat.le_of_ble_eq_true rfl, Nat.le_of_ble_eq_true rfl⟩) 15 6 rfl rfl rfl [7] [0, 1, 2, 3, 4, 5, 6, 8, 9, 10] (by decide : ([7] ++ [0, 1, 2, 3, 4, 5, 6, 8, 9, 10] : List Nat).Perm (List.range 11)) rfl rfl hl.1 rfl (Nat.le_of_ble_eq_true rfl) dX7_way_55 ⟨Nat.le_of_ble_eq_true rfl, Nat.le_of_ble_eq_true rfl⟩ (fun H locs Z => ?_)
          refine lv_istore (lv' := [(4, .int q9), (0, .ref (a 0)), (1, .int p1), (2, .int p2), (3, .int p3)]) hx hb dX7_way_58 hl (by decide) rfl (fun ls hl => ?_)
          refine lv_iload hx hb dX7_way_60 (lv_at hl 0 rfl) ?_
          refine lv_iconst (v := -1) hx hb dX7_way_62 (by decide) ?_
          refine lv_icmp_ne (tgt := 69) hx hb dX7_way_63 (by decide) (fun c10 => ?_) (fun c10 => ?_)
          · have hf := it_f c10 hf
            refine lv_iload_n hx hb dX7_way_69 rfl (lv_at hl 4 rfl) ?_
            refine lv_if_ne (tgt := 76) hx hb dX7_way_70 (by decide) (fun c11 => ?_) (fun c11 => ?_)
            · have hf := it_f c11 hf
              refine lv_iload hx hb dX7_way_76 (lv_at hl 0 rfl) ?_
              refine lv_if_ne (tgt := 84) hx hb dX7_way_78 (by decide) (fun c12 => ?_) (fun c12 => ?_)
              · have hf := it_f c12 hf
                refine lv_iload_n hx hb dX7_way_84 rfl (lv_at hl 4 rfl) ?_
                refine lv_iconst (v := 1) hx hb dX7_way_85 (by decide) ?_
                refine lv_icmp_ne (tgt := 100) hx hb dX7_way_86 (by decide) (fun c13 => ?_) (fun c13 => ?_)
                · have hf := it_f c13 hf
                  refine lv_aload_n hx hb dX7_way_100 rfl (lv_at hl 1 rfl) ?_
                  refine zg_X7_36 X Z 0 rfl rfl dX7_way_101 ?_
                  refine lv_iload_n hx hb dX7_way_104 rfl (lv_at hl 3 rfl) ?_
                  obtain ⟨q14, hq14, hf⟩ := ob_s hf
                  refine z_roVN X Z (c_X6_lastThrowTo l D cI cR (a 15) (a 16) (a 17) (a 18) (a 19) q8.1 q8.2.1 q8.2.2.1 q8.2.2.2.1 q8.2.2.2.2 p2 hq14) (zw_X7_202 X.2.1 X.1.2.2.2.2 ⟨Nat.le_of_ble_eq_true rfl, Nat.le_of_ble_eq_true rfl⟩) 15 6 rfl rfl rfl [7] [0, 1, 2, 3, 4, 5, 6, 8, 9, 10] (by decide : ([7] ++ [0, 1, 2, 3, 4, 5, 6, 8, 9, 10] : List Nat).Perm (List.range 11)) rfl rfl hl.1 rfl (Nat.le_of_ble_eq_true rfl) dX7_way_105 ⟨Nat.le_of_ble_eq_true rfl, Nat.le_of_ble_eq_true rfl⟩ (fun H locs Z => ?_)
                  have hR := so_s hf
                  subst hR
                  refine z_iret X hr hlocks ?_ dX7_way_108
                  exact Z.eq rfl
                · have hf := it_t c13 hf
                  refine lv_aload_n hx hb dX7_way_89 rfl (lv_at hl 1 rfl) ?_
                  refine zg_X7_36 X Z 0 rfl rfl dX7_way_90 ?_
                  refine lv_iload_n hx hb dX7_way_93 rfl (lv_at hl 3 rfl) ?_
                  obtain ⟨q15, hq15, hf⟩ := ob_s hf
                  refine z_roVN X Z (c_X6_firstThrowTo l D cI cR (a 15) (a 16) (a 17) (a 18) (a 19) q8.1 q8.2.1 q8.2.2.1 q8.2.2.2.1 q8.2.2.2.2 p2 hq15) (zw_X7_199 X.2.1 X.1.2.2.2.2 ⟨Nat.le_of_ble_eq_true rfl, Nat.le_of_ble_eq_true rfl⟩) 15 6 rfl rfl rfl [7] [0, 1, 2, 3, 4, 5, 6, 8, 9, 10] (by decide : ([7] ++ [0, 1, 2, 3, 4, 5, 6, 8, 9, 10] : List Nat).Perm (List.range 11)) rfl rfl hl.1 rfl (Nat.le_of_ble_eq_true rfl) dX7_way_94 ⟨Nat.le_of_ble_eq_true rfl, Nat.le_of_ble_eq_true rfl⟩ (fun H locs Z => ?_)
                  refine lv_goto (tgt := 108) hx hb dX7_way_97 (by decide) ?_
                  have hR := so_s hf
                  subst hR
                  refine z_iret X hr hlocks ?_ dX7_way_108
                  exact Z.eq rfl
              · have hf := it_t c12 hf
                refine lv_bipush (v := -6) hx hb dX7_way_81 (by decide) ?_
                have hR := so_s hf
                subst hR
                refine z_iret X hr hlocks ?_ dX7_way_83
                exact Z.eq rfl
            · have hf := it_t c11 hf
              refine lv_iload hx hb dX7_way_73 (lv_at hl 0 rfl) ?_
              have hR := so_s hf
              subst hR
              refine z_iret X hr hlocks ?_ dX7_way_75
              exact Z.eq rfl
          · have hf := it_t c10 hf
            refine lv_bipush (v := -5) hx hb dX7_way_66 (by decide) ?_
            have hR := so_s hf
            subst hR
            refine z_iret X hr hlocks ?_ dX7_way_68
            exact Z.eq rfl
        · have hf := it_f c7 hf
          refine z_roVN X Z (c_X4_juggler_1 l D cI cR (a 1) (a 2) (a 4) a_now.2.2.1 a_now.2.2.2.1 a_now.2.2.2.2.1 a_now.2.2.2.2.2 p1 c7) (zw_X7_80 X.2.1 X.1.2.2.2.2 ⟨Nat.le_of_ble_eq_true rfl, Nat.le_of_ble_eq_true rfl⟩) 1 4 rfl rfl rfl [1] [0, 2, 3, 4, 5, 6, 7, 8, 9, 10] (by decide : ([1] ++ [0, 2, 3, 4, 5, 6, 7, 8, 9, 10] : List Nat).Perm (List.range 11)) rfl rfl hl.1 rfl (Nat.le_of_ble_eq_true rfl) dX7_way_41 ⟨Nat.le_of_ble_eq_true rfl, Nat.le_of_ble_eq_true rfl⟩ (fun H locs Z => ?_)
          refine zg_X7_121 X Z 4 rfl rfl dX7_way_44 ?_
          obtain ⟨q16, hq16, hf⟩ := ob_s hf
          refine z_callVN X Z (c_X6_searchFrom l D cI cR (a 15) (a 16) (a 17) (a 18) (a 19) a_ways_steps a_ways_firstThrows a_ways_lastThrows a_ways_reached a_ways_reachedCount a_now.2.1.1 hq16) (zw_X7_193 X.2.1 X.1.2.2.2.2 ⟨Nat.le_of_ble_eq_true rfl, Nat.le_of_ble_eq_true rfl⟩) 15 6 rfl rfl rfl [7] [0, 1, 2, 3, 4, 5, 6, 8, 9, 10] [[((a 0), .inr (7, [.ref (a 1), .ref (a 6), .ref (a 11), .ref (a 13), .ref (a 15), .ref (a 20), .ref (a 52), .ref (a 58)]))], [((a 1), .inr (4, [.ref (a 2), .ref (a 4), .int a_now.2.2.1, .int a_now.2.2.2.1, .int a_now.2.2.2.2.1, .int a_now.2.2.2.2.2]))], w_X1 cI cR (a 2) (a 3) a_now.1.1 a_now.1.2.1 a_now.1.2.2.1 a_now.1.2.2.2.1 a_now.1.2.2.2.2.1 a_now.1.2.2.2.2.2.1 a_now.1.2.2.2.2.2.2, w_X1 cI cR (a 4) (a 5) a_now.2.1.1 a_now.2.1.2.1 a_now.2.1.2.2.1 a_now.2.1.2.2.2.1 a_now.2.1.2.2.2.2.1 a_now.2.1.2.2.2.2.2.1 a_now.2.1.2.2.2.2.2.2, w_X4 cI cR (a 6) (a 7) (a 8) (a 9) (a 10) a_ahead, w_X2 cI cR (a 11) (a 12) a_pad_codes a_pad_length, w_X3 cI cR (a 13) (a 14) a_padPattern_heights a_padPattern_length, w_X6 cI cR (a 15) (a 16) (a 17) (a 18) (a 19) q16.1 q16.2.1 q16.2.2.1 q16.2.2.2.1 q16.2.2.2.2, w_X0 cI cR (fun i => a (i + 20)) a_history_rs a_history_oldest a_history_size, w_X5 cI cR (a 52) (a 53) (a 54) (a 55) (a 56) (a 57) a_slotZero_kept a_slotZero_filled, w_X5 cI cR (a 58) (a 59) (a 60) (a 61) (a 62) (a 63) a_slotOne_kept a_slotOne_filled] (by decide : ([7] ++ [0, 1, 2, 3, 4, 5, 6, 8, 9, 10] : List Nat).Perm (List.range 11)) rfl rfl rfl rfl rfl hl.1 rfl (Nat.le_of_ble_eq_true rfl) dX7_way_47 ⟨Nat.le_of_ble_eq_true rfl, Nat.le_of_ble_eq_true rfl⟩ (fun H locs Z => ?_)
          refine lv_aload_n hx hb dX7_way_50 rfl (lv_at hl 0 rfl) ?_
          refine zg_X7_36 X Z 0 rfl rfl dX7_way_51 ?_
          refine lv_iload_n hx hb dX7_way_54 rfl (lv_at hl 2 rfl) ?_
          obtain ⟨q17, hq17, hf⟩ := ob_s hf
          refine z_roVN X Z (c_X6_stepsTo l D cI cR (a 15) (a 16) (a 17) (a 18) (a 19) q16.1 q16.2.1 q16.2.2.1 q16.2.2.2.1 q16.2.2.2.2 p2 hq17) (zw_X7_196 X.2.1 X.1.2.2.2.2 ⟨Nat.le_of_ble_eq_true rfl, Nat.le_of_ble_eq_true rfl⟩) 15 6 rfl rfl rfl [7] [0, 1, 2, 3, 4, 5, 6, 8, 9, 10] (by decide : ([7] ++ [0, 1, 2, 3, 4, 5, 6, 8, 9, 10] : List Nat).Perm (List.range 11)) rfl rfl hl.1 rfl (Nat.le_of_ble_eq_true rfl) dX7_way_55 ⟨Nat.le_of_ble_eq_true rfl, Nat.le_of_ble_eq_true rfl⟩ (fun H locs Z => ?_)
          refine lv_istore (lv' := [(4, .int q17), (0, .ref (a 0)), (1, .int p1), (2, .int p2), (3, .int p3)]) hx hb dX7_way_58 hl (by decide) rfl (fun ls hl => ?_)
          refine lv_iload hx hb dX7_way_60 (lv_at hl 0 rfl) ?_
          refine lv_iconst (v := -1) hx hb dX7_way_62 (by decide) ?_
          refine lv_icmp_ne (tgt := 69) hx hb dX7_way_63 (by decide) (fun c18 => ?_) (fun c18 => ?_)
          · have hf := it_f c18 hf
            refine lv_iload_n hx hb dX7_way_69 rfl (lv_at hl 4 rfl) ?_
            refine lv_if_ne (tgt := 76) hx hb dX7_way_70 (by decide) (fun c19 => ?_) (fun c19 => ?_)
            · have hf := it_f c19 hf
              refine lv_iload hx hb dX7_way_76 (lv_at hl 0 rfl) ?_
              refine lv_if_ne (tgt := 84) hx hb dX7_way_78 (by decide) (fun c20 => ?_) (fun c20 => ?_)
              · have hf := it_f c20 hf
                refine lv_iload_n hx hb dX7_way_84 rfl (lv_at hl 4 rfl) ?_
                refine lv_iconst (v := 1) hx hb dX7_way_85 (by decide) ?_
                refine lv_icmp_ne (tgt := 100) hx hb dX7_way_86 (by decide) (fun c21 => ?_) (fun c21 => ?_)
                · have hf := it_f c21 hf
                  refine lv_aload_n hx hb dX7_way_100 rfl (lv_at hl 1 rfl) ?_
                  refine zg_X7_36 X Z 0 rfl rfl dX7_way_101 ?_
                  refine lv_iload_n hx hb dX7_way_104 rfl (lv_at hl 3 rfl) ?_
                  obtain ⟨q22, hq22, hf⟩ := ob_s hf
                  refine z_roVN X Z (c_X6_lastThrowTo l D cI cR (a 15) (a 16) (a 17) (a 18) (a 19) q16.1 q16.2.1 q16.2.2.1 q16.2.2.2.1 q16.2.2.2.2 p2 hq22) (zw_X7_202 X.2.1 X.1.2.2.2.2 ⟨Nat.le_of_ble_eq_true rfl, Nat.le_of_ble_eq_true rfl⟩) 15 6 rfl rfl rfl [7] [0, 1, 2, 3, 4, 5, 6, 8, 9, 10] (by decide : ([7] ++ [0, 1, 2, 3, 4, 5, 6, 8, 9, 10] : List Nat).Perm (List.range 11)) rfl rfl hl.1 rfl (Nat.le_of_ble_eq_true rfl) dX7_way_105 ⟨Nat.le_of_ble_eq_true rfl, Nat.le_of_ble_eq_true rfl⟩ (fun H locs Z => ?_)
                  have hR := so_s hf
                  subst hR
                  refine z_iret X hr hlocks ?_ dX7_way_108
                  exact Z.eq rfl
                · have hf := it_t c21 hf
                  refine lv_aload_n hx hb dX7_way_89 rfl (lv_at hl 1 rfl) ?_
                  refine zg_X7_36 X Z 0 rfl rfl dX7_way_90 ?_
                  refine lv_iload_n hx hb dX7_way_93 rfl (lv_at hl 3 rfl) ?_
                  obtain ⟨q23, hq23, hf⟩ := ob_s hf
                  refine z_roVN X Z (c_X6_firstThrowTo l D cI cR (a 15) (a 16) (a 17) (a 18) (a 19) q16.1 q16.2.1 q16.2.2.1 q16.2.2.2.1 q16.2.2.2.2 p2 hq23) (zw_X7_199 X.2.1 X.1.2.2.2.2 ⟨Nat.le_of_ble_eq_true rfl, Nat.le_of_ble_eq_true rfl⟩) 15 6 rfl rfl rfl [7] [0, 1, 2, 3, 4, 5, 6, 8, 9, 10] (by decide : ([7] ++ [0, 1, 2, 3, 4, 5, 6, 8, 9, 10] : List Nat).Perm (List.range 11)) rfl rfl hl.1 rfl (Nat.le_of_ble_eq_true rfl) dX7_way_94 ⟨Nat.le_of_ble_eq_true rfl, Nat.le_of_ble_eq_true rfl⟩ (fun H locs Z => ?_)
                  refine lv_goto (tgt := 108) hx hb dX7_way_97 (by decide) ?_
                  have hR := so_s hf
                  subst hR
                  refine z_iret X hr hlocks ?_ dX7_way_108
                  exact Z.eq rfl
              · have hf := it_t c20 hf
                refine lv_bipush (v := -6) hx hb dX7_way_81 (by decide) ?_
                have hR := so_s hf
                subst hR
                refine z_iret X hr hlocks ?_ dX7_way_83
                exact Z.eq rfl
            · have hf := it_t c19 hf
              refine lv_iload hx hb dX7_way_73 (lv_at hl 0 rfl) ?_
              have hR := so_s hf
              subst hR
              refine z_iret X hr hlocks ?_ dX7_way_75
              exact Z.eq rfl
          · have hf := it_t c18 hf
            refine lv_bipush (v := -5) hx hb dX7_way_66 (by decide) ?_
            have hR := so_s hf
            subst hR
            refine z_iret X hr hlocks ?_ dX7_way_68
            exact Z.eq rfl
      · have hf := it_t c6 hf
        refine lv_bipush (v := -2) hx hb dX7_way_29 (by decide) ?_
        have hR := so_s hf
        subst hR
        refine z_iret X hr hlocks ?_ dX7_way_31
        exact Z.eq rfl
  · have hf := it_t c2 hf
    refine lv_iconst (v := -1) hx hb dX7_way_7 (by decide) ?_
    have hR := so_s hf
    subst hR
    refine z_iret X hr hlocks ?_ dX7_way_8
    exact Z.eq rfl
def f_X7_undo (a_now : ST) (a_history_rs : (Nat → ST)) (a_history_oldest : Int32) (a_history_size : Int32) : Option (Int32 × ST × Int32) := if a_history_size = 0 then (some ((-5 : Int32), a_now, a_history_size)) else ((f_X0_takeBack a_history_rs a_history_oldest a_history_size a_now).bind (fun q2 => some (q2.1, q2.2, q2.1)))
set_option maxHeartbeats 4000000 in
set_option maxRecDepth 100000 in
theorem c_X7_undo (l : Launch) (D : va_G) (cI cR : ClassId) (a : (Nat → Nat)) (a_now : ST) (a_ahead : ST) (a_pad_codes : (Nat → Int32)) (a_pad_length : Int32) (a_padPattern_heights : (Nat → Int32)) (a_padPattern_length : Int32) (a_ways_steps : (Nat → Int32)) (a_ways_firstThrows : (Nat → Int32)) (a_ways_lastThrows : (Nat → Int32)) (a_ways_reached : (Nat → Int32)) (a_ways_reachedCount : Int32) (a_history_rs : (Nat → ST)) (a_history_oldest : Int32) (a_history_size : Int32) (a_slotZero_kept : ST) (a_slotZero_filled : Int32) (a_slotOne_kept : ST) (a_slotOne_filled : Int32) {R : Int32 × ST × Int32} (hf : f_X7_undo a_now a_history_rs a_history_oldest a_history_size = some R) : zM l D cI cR yX7_undo cX7_undo 1 (some .int) 5 107 [.ref (a 0)] [w_X7 cI cR a a_now a_ahead a_pad_codes a_pad_length a_padPattern_heights a_padPattern_length a_ways_steps a_ways_firstThrows a_ways_lastThrows a_ways_reached a_ways_reachedCount a_history_rs a_history_oldest a_history_size a_slotZero_kept a_slotZero_filled a_slotOne_kept a_slotOne_filled] (some (.int R.1)) [w_X7 cI cR a R.2.1 a_ahead a_pad_codes a_pad_length a_padPattern_heights a_padPattern_length a_ways_steps a_ways_firstThrows a_ways_lastThrows a_ways_reached a_ways_reachedCount a_history_rs a_history_oldest R.2.2 a_slotZero_kept a_slotZero_filled a_slotOne_kept a_slotOne_filled] := by
  refine z_of (own := RX7) rfl (by decide) (Nat.le_of_ble_eq_true rfl) ?_
  intro p e s m args below meth c A ls X hr hlocks Z hl
  have hx := X.1.1
  have hb := X.1.2.1
  have Z : zW D A s [w_X7 cI cR a a_now a_ahead a_pad_codes a_pad_length a_padPattern_heights a_padPattern_length a_ways_steps a_ways_firstThrows a_ways_lastThrows a_ways_reached a_ways_reachedCount a_history_rs a_history_oldest a_history_size a_slotZero_kept a_slotZero_filled a_slotOne_kept a_slotOne_filled] s.heap [] := Z
  have hl : lv_has ls 1 [(0, .ref (a 0))] := hl
  refine lv_aload_n hx hb dX7_undo_0 rfl (lv_at hl 0 rfl) ?_
  refine zg_X7_43 X Z 0 rfl rfl dX7_undo_1 ?_
  refine zg_X7_156 X Z 20 rfl rfl dX7_undo_4 ?_
  refine lv_if_ne (tgt := 13) hx hb dX7_undo_7 (by decide) (fun c1 => ?_) (fun c1 => ?_)
  · have hf := it_f c1 hf
    refine lv_aload_n hx hb dX7_undo_13 rfl (lv_at hl 0 rfl) ?_
    refine zg_X7_43 X Z 0 rfl rfl dX7_undo_14 ?_
    refine lv_aload_n hx hb dX7_undo_17 rfl (lv_at hl 0 rfl) ?_
    refine zg_X7_12 X Z 0 rfl rfl dX7_undo_18 ?_
    have Z : zW D A s [[((a 0), .inr (7, [.ref (a 1), .ref (a 6), .ref (a 11), .ref (a 13), .ref (a 15), .ref (a 20), .ref (a 52), .ref (a 58)]))], w_X4 cI cR (a 1) (a 2) (a 3) (a 4) (a 5) a_now, w_X4 cI cR (a 6) (a 7) (a 8) (a 9) (a 10) a_ahead, w_X2 cI cR (a 11) (a 12) a_pad_codes a_pad_length, w_X3 cI cR (a 13) (a 14) a_padPattern_heights a_padPattern_length, w_X6 cI cR (a 15) (a 16) (a 17) (a 18) (a 19) a_ways_steps a_ways_firstThrows a_ways_lastThrows a_ways_reached a_ways_reachedCount, w_X0 cI cR (fun i => a (i + 20)) a_history_rs a_history_oldest a_history_size, w_X5 cI cR (a 52) (a 53) (a 54) (a 55) (a 56) (a 57) a_slotZero_kept a_slotZero_filled, w_X5 cI cR (a 58) (a 59) (a 60) (a 61) (a 62) (a 63) a_slotOne_kept a_slotOne_filled] _ _ := Z.eq rfl
    obtain ⟨q2, hq2, hf⟩ := ob_s hf
    refine z_callVN X Z (c_X0_takeBack l D cI cR (fun i => a (i + 20)) (a 1) (a 2) (a 3) (a 4) (a 5) a_history_rs a_history_oldest a_history_size a_now  hq2) (zw_X7_216 X.2.1 X.1.2.2.2.2 ⟨Nat.le_of_ble_eq_true rfl, Nat.le_of_ble_eq_true rfl⟩) 20 0 rfl rfl rfl [6, 1] [0, 2, 3, 4, 5, 7, 8] [[((a 0), .inr (7, [.ref (a 1), .ref (a 6), .ref (a 11), .ref (a 13), .ref (a 15), .ref (a 20), .ref (a 52), .ref (a 58)]))], w_X4 cI cR (a 1) (a 2) (a 3) (a 4) (a 5) q2.2, w_X4 cI cR (a 6) (a 7) (a 8) (a 9) (a 10) a_ahead, w_X2 cI cR (a 11) (a 12) a_pad_codes a_pad_length, w_X3 cI cR (a 13) (a 14) a_padPattern_heights a_padPattern_length, w_X6 cI cR (a 15) (a 16) (a 17) (a 18) (a 19) a_ways_steps a_ways_firstThrows a_ways_lastThrows a_ways_reached a_ways_reachedCount, w_X0 cI cR (fun i => a (i + 20)) a_history_rs a_history_oldest q2.1, w_X5 cI cR (a 52) (a 53) (a 54) (a 55) (a 56) (a 57) a_slotZero_kept a_slotZero_filled, w_X5 cI cR (a 58) (a 59) (a 60) (a 61) (a 62) (a 63) a_slotOne_kept a_slotOne_filled] (by decide : ([6, 1] ++ [0, 2, 3, 4, 5, 7, 8] : List Nat).Perm (List.range 9)) rfl rfl rfl rfl rfl hl.1 rfl (Nat.le_of_ble_eq_true rfl) dX7_undo_21 ⟨Nat.le_of_ble_eq_true rfl, Nat.le_of_ble_eq_true rfl⟩ (fun H locs Z => ?_)
    refine lv_aload_n hx hb dX7_undo_24 rfl (lv_at hl 0 rfl) ?_
    refine zg_X7_43 X Z 0 rfl rfl dX7_undo_25 ?_
    refine zg_X7_156 X Z 20 rfl rfl dX7_undo_28 ?_
    have hR := so_s hf
    subst hR
    refine z_iret X hr hlocks ?_ dX7_undo_31
    exact Z.eq rfl
  · have hf := it_t c1 hf
    refine lv_bipush (v := -5) hx hb dX7_undo_10 (by decide) ?_
    have hR := so_s hf
    subst hR
    refine z_iret X hr hlocks ?_ dX7_undo_12
    exact Z.eq rfl
