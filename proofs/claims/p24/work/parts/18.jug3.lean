theorem z_look2 {x ka kb : Int32} {a b o1 o2 df : Int} (h1 : ¬ x = ka) (h2 : ¬ x = kb) (ha : ka.toInt = a) (hb : kb.toInt = b) : Op.lookupswitch.offset [(a, o1), (b, o2)] df x.toInt = df := by
  rw [Op.lookupswitch.offset_cons, if_neg (fun e => z_ne h1 (e.symm.trans ha.symm)), Op.lookupswitch.offset_cons, if_neg (fun e => z_ne h2 (e.symm.trans hb.symm)), Op.lookupswitch.offset_nil]
def f_X7_of (a_now : ST) (p1 : Int32) (p2 : Int32) : Option (Int32) := (f_X7_isJuggler p1).bind (fun q1 => if q1 = 0 then (some (-1 : Int32)) else (if p1 = 0 then (if p2 = (0 : Int32) then (some a_now.1.1) else (if p2 = (1 : Int32) then ((f_X1_clubs a_now.1.1).bind (fun q6 => some q6)) else (if p2 = (2 : Int32) then (some a_now.1.2.2.2.1) else (if p2 = (3 : Int32) then (some a_now.1.2.2.2.2.1) else (if p2 = (4 : Int32) then (some a_now.1.2.2.2.2.2.1) else (if p2 = (5 : Int32) then (some a_now.1.2.2.2.2.2.2) else (some (-2 : Int32)))))))) else (if p2 = (0 : Int32) then (some a_now.2.1.1) else (if p2 = (1 : Int32) then ((f_X1_clubs a_now.2.1.1).bind (fun q13 => some q13)) else (if p2 = (2 : Int32) then (some a_now.2.1.2.2.2.1) else (if p2 = (3 : Int32) then (some a_now.2.1.2.2.2.2.1) else (if p2 = (4 : Int32) then (some a_now.2.1.2.2.2.2.2.1) else (if p2 = (5 : Int32) then (some a_now.2.1.2.2.2.2.2.2) else (some (-2 : Int32))))))))))
set_option maxHeartbeats 4000000 in
set_option maxRecDepth 100000 in
theorem c_X7_of (l : Launch) (D : va_G) (cI cR : ClassId) (a : (Nat → Nat)) (a_now : ST) (a_ahead : ST) (a_pad_codes : (Nat → Int32)) (a_pad_length : Int32) (a_padPattern_heights : (Nat → Int32)) (a_padPattern_length : Int32) (a_ways_steps : (Nat → Int32)) (a_ways_firstThrows : (Nat → Int32)) (a_ways_lastThrows : (Nat → Int32)) (a_ways_reached : (Nat → Int32)) (a_ways_reachedCount : Int32) (a_history_rs : (Nat → ST)) (a_history_oldest : Int32) (a_history_size : Int32) (a_slotZero_kept : ST) (a_slotZero_filled : Int32) (a_slotOne_kept : ST) (a_slotOne_filled : Int32) (p1 : Int32) (p2 : Int32) {R : Int32} (hf : f_X7_of a_now p1 p2 = some R) : zM l D cI cR yX7_of cX7_of 4 (some .int) 2 42 [.ref (a 0), .int p1, .int p2] [w_X7 cI cR a a_now a_ahead a_pad_codes a_pad_length a_padPattern_heights a_padPattern_length a_ways_steps a_ways_firstThrows a_ways_lastThrows a_ways_reached a_ways_reachedCount a_history_rs a_history_oldest a_history_size a_slotZero_kept a_slotZero_filled a_slotOne_kept a_slotOne_filled] (some (.int R)) [w_X7 cI cR a a_now a_ahead a_pad_codes a_pad_length a_padPattern_heights a_padPattern_length a_ways_steps a_ways_firstThrows a_ways_lastThrows a_ways_reached a_ways_reachedCount a_history_rs a_history_oldest a_history_size a_slotZero_kept a_slotZero_filled a_slotOne_kept a_slotOne_filled] := by
  refine z_of (own := RX7) rfl (by decide) (Nat.le_of_ble_eq_true rfl) ?_
  intro p e s m args below meth c A ls X hr hlocks Z hl
  have hx := X.1.1
  have hb := X.1.2.1
  have Z : zW D A s [w_X7 cI cR a a_now a_ahead a_pad_codes a_pad_length a_padPattern_heights a_padPattern_length a_ways_steps a_ways_firstThrows a_ways_lastThrows a_ways_reached a_ways_reachedCount a_history_rs a_history_oldest a_history_size a_slotZero_kept a_slotZero_filled a_slotOne_kept a_slotOne_filled] s.heap [] := Z
  have hl : lv_has ls 4 [(0, .ref (a 0)), (1, .int p1), (2, .int p2)] := hl
  refine lv_iload_n hx hb dX7_of_0 rfl (lv_at hl 1 rfl) ?_
  obtain ⟨q1, hq1, hf⟩ := ob_s hf
  refine z_roS X Z (c_X7_isJuggler l D cI cR   p1 hq1) (zw_X7_101 X.1.2.2.2.2 ⟨Nat.le_of_ble_eq_true rfl, Nat.le_of_ble_eq_true rfl⟩) [] [0] (by decide : ([] ++ [0] : List Nat).Perm (List.range 1)) rfl rfl hl.1 rfl (Nat.le_of_ble_eq_true rfl) dX7_of_1 ⟨Nat.le_of_ble_eq_true rfl, Nat.le_of_ble_eq_true rfl⟩ (fun H locs Z => ?_)
  refine lv_if_ne (tgt := 9) hx hb dX7_of_4 (by decide) (fun c2 => ?_) (fun c2 => ?_)
  · have hf := it_f c2 hf
    refine lv_aload_n hx hb dX7_of_9 rfl (lv_at hl 0 rfl) ?_
    refine zg_X7_12 X Z 0 rfl rfl dX7_of_10 ?_
    refine lv_iload_n hx hb dX7_of_13 rfl (lv_at hl 1 rfl) ?_
    have Z : zW D A s [[((a 0), .inr (7, [.ref (a 1), .ref (a 6), .ref (a 11), .ref (a 13), .ref (a 15), .ref (a 20), .ref (a 52), .ref (a 58)]))], [((a 1), .inr (4, [.ref (a 2), .ref (a 4), .int a_now.2.2.1, .int a_now.2.2.2.1, .int a_now.2.2.2.2.1, .int a_now.2.2.2.2.2]))], w_X1 cI cR (a 2) (a 3) a_now.1.1 a_now.1.2.1 a_now.1.2.2.1 a_now.1.2.2.2.1 a_now.1.2.2.2.2.1 a_now.1.2.2.2.2.2.1 a_now.1.2.2.2.2.2.2, w_X1 cI cR (a 4) (a 5) a_now.2.1.1 a_now.2.1.2.1 a_now.2.1.2.2.1 a_now.2.1.2.2.2.1 a_now.2.1.2.2.2.2.1 a_now.2.1.2.2.2.2.2.1 a_now.2.1.2.2.2.2.2.2, w_X4 cI cR (a 6) (a 7) (a 8) (a 9) (a 10) a_ahead, w_X2 cI cR (a 11) (a 12) a_pad_codes a_pad_length, w_X3 cI cR (a 13) (a 14) a_padPattern_heights a_padPattern_length, w_X6 cI cR (a 15) (a 16) (a 17) (a 18) (a 19) a_ways_steps a_ways_firstThrows a_ways_lastThrows a_ways_reached a_ways_reachedCount, w_X0 cI cR (fun i => a (i + 20)) a_history_rs a_history_oldest a_history_size, w_X5 cI cR (a 52) (a 53) (a 54) (a 55) (a 56) (a 57) a_slotZero_kept a_slotZero_filled, w_X5 cI cR (a 58) (a 59) (a 60) (a 61) (a 62) (a 63) a_slotOne_kept a_slotOne_filled] _ _ := Z.eq rfl
    rcases Decidable.em (p1 = 0) with c3 | c3
    · have hf := it_t c3 hf
      refine z_roVN X Z (c_X4_juggler_0 l D cI cR (a 1) (a 2) (a 4) a_now.2.2.1 a_now.2.2.2.1 a_now.2.2.2.2.1 a_now.2.2.2.2.2 p1 c3) (zw_X7_80 X.2.1 X.1.2.2.2.2 ⟨Nat.le_of_ble_eq_true rfl, Nat.le_of_ble_eq_true rfl⟩) 1 4 rfl rfl rfl [1] [0, 2, 3, 4, 5, 6, 7, 8, 9, 10] (by decide : ([1] ++ [0, 2, 3, 4, 5, 6, 7, 8, 9, 10] : List Nat).Perm (List.range 11)) rfl rfl hl.1 rfl (Nat.le_of_ble_eq_true rfl) dX7_of_14 ⟨Nat.le_of_ble_eq_true rfl, Nat.le_of_ble_eq_true rfl⟩ (fun H locs Z => ?_)
      refine lv_astore_n (lv' := [(3, .ref (a 2)), (0, .ref (a 0)), (1, .int p1), (2, .int p2)]) hx hb dX7_of_17 rfl hl (by decide) rfl (fun ls hl => ?_)
      refine lv_iload_n hx hb dX7_of_18 rfl (lv_at hl 3 rfl) ?_
      rcases Decidable.em (p2 = (0 : Int32)) with c4 | c4
      · have hf := it_t c4 hf
        refine z_tabIn hx hb 0 c4 (off := 37) (tgt := 56) dX7_of_19 (by decide) (by decide) (by decide) (by decide) ?_
        refine lv_aload_n hx hb dX7_of_56 rfl (lv_at hl 0 rfl) ?_
        refine zg_X7_121 X Z 2 rfl rfl dX7_of_57 ?_
        have hR := so_s hf
        subst hR
        refine z_iret X hr hlocks ?_ dX7_of_60
        exact Z.eq rfl
      · have hf := it_f c4 hf
        rcases Decidable.em (p2 = (1 : Int32)) with c5 | c5
        · have hf := it_t c5 hf
          refine z_tabIn hx hb 1 c5 (off := 42) (tgt := 61) dX7_of_19 (by decide) (by decide) (by decide) (by decide) ?_
          refine lv_aload_n hx hb dX7_of_61 rfl (lv_at hl 0 rfl) ?_
          obtain ⟨q6, hq6, hf⟩ := ob_s hf
          refine z_roVN X Z (c_X1_clubs l D cI cR (a 2) (a 3) a_now.1.1 a_now.1.2.1 a_now.1.2.2.1 a_now.1.2.2.2.1 a_now.1.2.2.2.2.1 a_now.1.2.2.2.2.2.1 a_now.1.2.2.2.2.2.2  hq6) (zw_X7_124 X.2.1 X.1.2.2.2.2 ⟨Nat.le_of_ble_eq_true rfl, Nat.le_of_ble_eq_true rfl⟩) 2 1 rfl rfl rfl [2] [0, 1, 3, 4, 5, 6, 7, 8, 9, 10] (by decide : ([2] ++ [0, 1, 3, 4, 5, 6, 7, 8, 9, 10] : List Nat).Perm (List.range 11)) rfl rfl hl.1 rfl (Nat.le_of_ble_eq_true rfl) dX7_of_62 ⟨Nat.le_of_ble_eq_true rfl, Nat.le_of_ble_eq_true rfl⟩ (fun H locs Z => ?_)
          have hR := so_s hf
          subst hR
          refine z_iret X hr hlocks ?_ dX7_of_65
          exact Z.eq rfl
        · have hf := it_f c5 hf
          rcases Decidable.em (p2 = (2 : Int32)) with c7 | c7
          · have hf := it_t c7 hf
            refine z_tabIn hx hb 2 c7 (off := 47) (tgt := 66) dX7_of_19 (by decide) (by decide) (by decide) (by decide) ?_
            refine lv_aload_n hx hb dX7_of_66 rfl (lv_at hl 0 rfl) ?_
            refine zg_X7_125 X Z 2 rfl rfl dX7_of_67 ?_
            have hR := so_s hf
            subst hR
            refine z_iret X hr hlocks ?_ dX7_of_70
            exact Z.eq rfl
          · have hf := it_f c7 hf
            rcases Decidable.em (p2 = (3 : Int32)) with c8 | c8
            · have hf := it_t c8 hf
              refine z_tabIn hx hb 3 c8 (off := 52) (tgt := 71) dX7_of_19 (by decide) (by decide) (by decide) (by decide) ?_
              refine lv_aload_n hx hb dX7_of_71 rfl (lv_at hl 0 rfl) ?_
              refine zg_X7_128 X Z 2 rfl rfl dX7_of_72 ?_
              have hR := so_s hf
              subst hR
              refine z_iret X hr hlocks ?_ dX7_of_75
              exact Z.eq rfl
            · have hf := it_f c8 hf
              rcases Decidable.em (p2 = (4 : Int32)) with c9 | c9
              · have hf := it_t c9 hf
                refine z_tabIn hx hb 4 c9 (off := 57) (tgt := 76) dX7_of_19 (by decide) (by decide) (by decide) (by decide) ?_
                refine lv_aload_n hx hb dX7_of_76 rfl (lv_at hl 0 rfl) ?_
                refine zg_X7_131 X Z 2 rfl rfl dX7_of_77 ?_
                have hR := so_s hf
                subst hR
                refine z_iret X hr hlocks ?_ dX7_of_80
                exact Z.eq rfl
              · have hf := it_f c9 hf
                rcases Decidable.em (p2 = (5 : Int32)) with c10 | c10
                · have hf := it_t c10 hf
                  refine z_tabIn hx hb 5 c10 (off := 62) (tgt := 81) dX7_of_19 (by decide) (by decide) (by decide) (by decide) ?_
                  refine lv_aload_n hx hb dX7_of_81 rfl (lv_at hl 0 rfl) ?_
                  refine zg_X7_134 X Z 2 rfl rfl dX7_of_82 ?_
                  have hR := so_s hf
                  subst hR
                  refine z_iret X hr hlocks ?_ dX7_of_85
                  exact Z.eq rfl
                · have hf := it_f c10 hf
                  refine lv_tableOut (tgt := 86) hx hb dX7_of_19 ?_ (by decide) ?_
                  · have e0 := z_ne c4
                    have e1 := z_ne c5
                    have e2 := z_ne c7
                    have e3 := z_ne c8
                    have e4 := z_ne c9
                    have e5 := z_ne c10
                    try simp only [show (0 : Int32).toInt = 0 from by decide] at e0
                    try simp only [show (1 : Int32).toInt = 1 from by decide] at e1
                    try simp only [show (2 : Int32).toInt = 2 from by decide] at e2
                    try simp only [show (3 : Int32).toInt = 3 from by decide] at e3
                    try simp only [show (4 : Int32).toInt = 4 from by decide] at e4
                    try simp only [show (5 : Int32).toInt = 5 from by decide] at e5
                    omega
                  · refine lv_bipush (v := -2) hx hb dX7_of_86 (by decide) ?_
                    have hR := so_s hf
                    subst hR
                    refine z_iret X hr hlocks ?_ dX7_of_88
                    exact Z.eq rfl
    · have hf := it_f c3 hf
      refine z_roVN X Z (c_X4_juggler_1 l D cI cR (a 1) (a 2) (a 4) a_now.2.2.1 a_now.2.2.2.1 a_now.2.2.2.2.1 a_now.2.2.2.2.2 p1 c3) (zw_X7_80 X.2.1 X.1.2.2.2.2 ⟨Nat.le_of_ble_eq_true rfl, Nat.le_of_ble_eq_true rfl⟩) 1 4 rfl rfl rfl [1] [0, 2, 3, 4, 5, 6, 7, 8, 9, 10] (by decide : ([1] ++ [0, 2, 3, 4, 5, 6, 7, 8, 9, 10] : List Nat).Perm (List.range 11)) rfl rfl hl.1 rfl (Nat.le_of_ble_eq_true rfl) dX7_of_14 ⟨Nat.le_of_ble_eq_true rfl, Nat.le_of_ble_eq_true rfl⟩ (fun H locs Z => ?_)
      refine lv_astore_n (lv' := [(3, .ref (a 4)), (0, .ref (a 0)), (1, .int p1), (2, .int p2)]) hx hb dX7_of_17 rfl hl (by decide) rfl (fun ls hl => ?_)
      refine lv_iload_n hx hb dX7_of_18 rfl (lv_at hl 3 rfl) ?_
      rcases Decidable.em (p2 = (0 : Int32)) with c11 | c11
      · have hf := it_t c11 hf
        refine z_tabIn hx hb 0 c11 (off := 37) (tgt := 56) dX7_of_19 (by decide) (by decide) (by decide) (by decide) ?_
        refine lv_aload_n hx hb dX7_of_56 rfl (lv_at hl 0 rfl) ?_
        refine zg_X7_121 X Z 4 rfl rfl dX7_of_57 ?_
        have hR := so_s hf
        subst hR
        refine z_iret X hr hlocks ?_ dX7_of_60
        exact Z.eq rfl
      · have hf := it_f c11 hf
        rcases Decidable.em (p2 = (1 : Int32)) with c12 | c12
        · have hf := it_t c12 hf
          refine z_tabIn hx hb 1 c12 (off := 42) (tgt := 61) dX7_of_19 (by decide) (by decide) (by decide) (by decide) ?_
          refine lv_aload_n hx hb dX7_of_61 rfl (lv_at hl 0 rfl) ?_
          obtain ⟨q13, hq13, hf⟩ := ob_s hf
          refine z_roVN X Z (c_X1_clubs l D cI cR (a 4) (a 5) a_now.2.1.1 a_now.2.1.2.1 a_now.2.1.2.2.1 a_now.2.1.2.2.2.1 a_now.2.1.2.2.2.2.1 a_now.2.1.2.2.2.2.2.1 a_now.2.1.2.2.2.2.2.2  hq13) (zw_X7_124 X.2.1 X.1.2.2.2.2 ⟨Nat.le_of_ble_eq_true rfl, Nat.le_of_ble_eq_true rfl⟩) 4 1 rfl rfl rfl [3] [0, 1, 2, 4, 5, 6, 7, 8, 9, 10] (by decide : ([3] ++ [0, 1, 2, 4, 5, 6, 7, 8, 9, 10] : List Nat).Perm (List.range 11)) rfl rfl hl.1 rfl (Nat.le_of_ble_eq_true rfl) dX7_of_62 ⟨Nat.le_of_ble_eq_true rfl, Nat.le_of_ble_eq_true rfl⟩ (fun H locs Z => ?_)
          have hR := so_s hf
          subst hR
          refine z_iret X hr hlocks ?_ dX7_of_65
          exact Z.eq rfl
        · have hf := it_f c12 hf
          rcases Decidable.em (p2 = (2 : Int32)) with c14 | c14
          · have hf := it_t c14 hf
            refine z_tabIn hx hb 2 c14 (off := 47) (tgt := 66) dX7_of_19 (by decide) (by decide) (by decide) (by decide) ?_
            refine lv_aload_n hx hb dX7_of_66 rfl (lv_at hl 0 rfl) ?_
            refine zg_X7_125 X Z 4 rfl rfl dX7_of_67 ?_
            have hR := so_s hf
            subst hR
            refine z_iret X hr hlocks ?_ dX7_of_70
            exact Z.eq rfl
          · have hf := it_f c14 hf
            rcases Decidable.em (p2 = (3 : Int32)) with c15 | c15
            · have hf := it_t c15 hf
              refine z_tabIn hx hb 3 c15 (off := 52) (tgt := 71) dX7_of_19 (by decide) (by decide) (by decide) (by decide) ?_
              refine lv_aload_n hx hb dX7_of_71 rfl (lv_at hl 0 rfl) ?_
              refine zg_X7_128 X Z 4 rfl rfl dX7_of_72 ?_
              have hR := so_s hf
              subst hR
              refine z_iret X hr hlocks ?_ dX7_of_75
              exact Z.eq rfl
            · have hf := it_f c15 hf
              rcases Decidable.em (p2 = (4 : Int32)) with c16 | c16
              · have hf := it_t c16 hf
                refine z_tabIn hx hb 4 c16 (off := 57) (tgt := 76) dX7_of_19 (by decide) (by decide) (by decide) (by decide) ?_
                refine lv_aload_n hx hb dX7_of_76 rfl (lv_at hl 0 rfl) ?_
                refine zg_X7_131 X Z 4 rfl rfl dX7_of_77 ?_
                have hR := so_s hf
                subst hR
                refine z_iret X hr hlocks ?_ dX7_of_80
                exact Z.eq rfl
              · have hf := it_f c16 hf
                rcases Decidable.em (p2 = (5 : Int32)) with c17 | c17
                · have hf := it_t c17 hf
                  refine z_tabIn hx hb 5 c17 (off := 62) (tgt := 81) dX7_of_19 (by decide) (by decide) (by decide) (by decide) ?_
                  refine lv_aload_n hx hb dX7_of_81 rfl (lv_at hl 0 rfl) ?_
                  refine zg_X7_134 X Z 4 rfl rfl dX7_of_82 ?_
                  have hR := so_s hf
                  subst hR
                  refine z_iret X hr hlocks ?_ dX7_of_85
                  exact Z.eq rfl
                · have hf := it_f c17 hf
                  refine lv_tableOut (tgt := 86) hx hb dX7_of_19 ?_ (by decide) ?_
                  · have e0 := z_ne c11
                    have e1 := z_ne c12
                    have e2 := z_ne c14
                    have e3 := z_ne c15
                    have e4 := z_ne c16
                    have e5 := z_ne c17
                    try simp only [show (0 : Int32).toInt = 0 from by decide] at e0
                    try simp only [show (1 : Int32).toInt = 1 from by decide] at e1
                    try simp only [show (2 : Int32).toInt = 2 from by decide] at e2
                    try simp only [show (3 : Int32).toInt = 3 from by decide] at e3
                    try simp only [show (4 : Int32).toInt = 4 from by decide] at e4
                    try simp only [show (5 : Int32).toInt = 5 from by decide] at e5
                    omega
                  · refine lv_bipush (v := -2) hx hb dX7_of_86 (by decide) ?_
                    have hR := so_s hf
                    subst hR
                    refine z_iret X hr hlocks ?_ dX7_of_88
                    exact Z.eq rfl
  · have hf := it_t c2 hf
    refine lv_iconst (v := -1) hx hb dX7_of_7 (by decide) ?_
    have hR := so_s hf
    subst hR
    refine z_iret X hr hlocks ?_ dX7_of_8
    exact Z.eq rfl
def f_X7_thrown (a_now : ST) (p1 : Int32) (p2 : Int32) (p3 : Int32) : Option (Int32) := (f_X7_isJuggler p1).bind (fun q1 => if q1 = 0 then (some (-1 : Int32)) else (if p1 = 0 then ((f_X7_isWithin p2 (0 : Int32) (a_now.1.2.2.2.1 - (1 : Int32))).bind (fun q4 => if q4 = 0 then (some (-1 : Int32)) else (if p3 = (0 : Int32) then ((f_X1_heightAt a_now.1.2.1 p2).bind (fun q7 => some q7)) else (if p3 = (1 : Int32) then ((f_X1_isPassAt a_now.1.2.2.1 p2).bind (fun q9 => (f_X7_oneIf q9).bind (fun q10 => some q10))) else (some (-2 : Int32)))))) else ((f_X7_isWithin p2 (0 : Int32) (a_now.2.1.2.2.2.1 - (1 : Int32))).bind (fun q11 => if q11 = 0 then (some (-1 : Int32)) else (if p3 = (0 : Int32) then ((f_X1_heightAt a_now.2.1.2.1 p2).bind (fun q14 => some q14)) else (if p3 = (1 : Int32) then ((f_X1_isPassAt a_now.2.1.2.2.1 p2).bind (fun q16 => (f_X7_oneIf q16).bind (fun q17 => some q17))) else (some (-2 : Int32))))))))
set_option maxHeartbeats 4000000 in
set_option maxRecDepth 100000 in
theorem c_X7_thrown (l : Launch) (D : va_G) (cI cR : ClassId) (a : (Nat → Nat)) (a_now : ST) (a_ahead : ST) (a_pad_codes : (Nat → Int32)) (a_pad_length : Int32) (a_padPattern_heights : (Nat → Int32)) (a_padPattern_length : Int32) (a_ways_steps : (Nat → Int32)) (a_ways_firstThrows : (Nat → Int32)) (a_ways_lastThrows : (Nat → Int32)) (a_ways_reached : (Nat → Int32)) (a_ways_reachedCount : Int32) (a_history_rs : (Nat → ST)) (a_history_oldest : Int32) (a_history_size : Int32) (a_slotZero_kept : ST) (a_slotZero_filled : Int32) (a_slotOne_kept : ST) (a_slotOne_filled : Int32) (p1 : Int32) (p2 : Int32) (p3 : Int32) {R : Int32} (hf : f_X7_thrown a_now p1 p2 p3 = some R) : zM l D cI cR yX7_thrown cX7_thrown 5 (some .int) 2 42 [.ref (a 0), .int p1, .int p2, .int p3] [w_X7 cI cR a a_now a_ahead a_pad_codes a_pad_length a_padPattern_heights a_padPattern_length a_ways_steps a_ways_firstThrows a_ways_lastThrows a_ways_reached a_ways_reachedCount a_history_rs a_history_oldest a_history_size a_slotZero_kept a_slotZero_filled a_slotOne_kept a_slotOne_filled] (some (.int R)) [w_X7 cI cR a a_now a_ahead a_pad_codes a_pad_length a_padPattern_heights a_padPattern_length a_ways_steps a_ways_firstThrows a_ways_lastThrows a_ways_reached a_ways_reachedCount a_history_rs a_history_oldest a_history_size a_slotZero_kept a_slotZero_filled a_slotOne_kept a_slotOne_filled] := by
  refine z_of (own := RX7) rfl (by decide) (Nat.le_of_ble_eq_true rfl) ?_
  intro p e s m args below meth c A ls X hr hlocks Z hl
  have hx := X.1.1
  have hb := X.1.2.1
  have Z : zW D A s [w_X7 cI cR a a_now a_ahead a_pad_codes a_pad_length a_padPattern_heights a_padPattern_length a_ways_steps a_ways_firstThrows a_ways_lastThrows a_ways_reached a_ways_reachedCount a_history_rs a_history_oldest a_history_size a_slotZero_kept a_slotZero_filled a_slotOne_kept a_slotOne_filled] s.heap [] := Z
  have hl : lv_has ls 5 [(0, .ref (a 0)), (1, .int p1), (2, .int p2), (3, .int p3)] := hl
  refine lv_iload_n hx hb dX7_thrown_0 rfl (lv_at hl 1 rfl) ?_
  obtain ⟨q1, hq1, hf⟩ := ob_s hf
  refine z_roS X Z (c_X7_isJuggler l D cI cR   p1 hq1) (zw_X7_101 X.1.2.2.2.2 ⟨Nat.le_of_ble_eq_true rfl, Nat.le_of_ble_eq_true rfl⟩) [] [0] (by decide : ([] ++ [0] : List Nat).Perm (List.range 1)) rfl rfl hl.1 rfl (Nat.le_of_ble_eq_true rfl) dX7_thrown_1 ⟨Nat.le_of_ble_eq_true rfl, Nat.le_of_ble_eq_true rfl⟩ (fun H locs Z => ?_)
  refine lv_if_ne (tgt := 9) hx hb dX7_thrown_4 (by decide) (fun c2 => ?_) (fun c2 => ?_)
  · have hf := it_f c2 hf
    refine lv_aload_n hx hb dX7_thrown_9 rfl (lv_at hl 0 rfl) ?_
    refine zg_X7_12 X Z 0 rfl rfl dX7_thrown_10 ?_
    refine lv_iload_n hx hb dX7_thrown_13 rfl (lv_at hl 1 rfl) ?_
    have Z : zW D A s [[((a 0), .inr (7, [.ref (a 1), .ref (a 6), .ref (a 11), .ref (a 13), .ref (a 15), .ref (a 20), .ref (a 52), .ref (a 58)]))], [((a 1), .inr (4, [.ref (a 2), .ref (a 4), .int a_now.2.2.1, .int a_now.2.2.2.1, .int a_now.2.2.2.2.1, .int a_now.2.2.2.2.2]))], w_X1 cI cR (a 2) (a 3) a_now.1.1 a_now.1.2.1 a_now.1.2.2.1 a_now.1.2.2.2.1 a_now.1.2.2.2.2.1 a_now.1.2.2.2.2.2.1 a_now.1.2.2.2.2.2.2, w_X1 cI cR (a 4) (a 5) a_now.2.1.1 a_now.2.1.2.1 a_now.2.1.2.2.1 a_now.2.1.2.2.2.1 a_now.2.1.2.2.2.2.1 a_now.2.1.2.2.2.2.2.1 a_now.2.1.2.2.2.2.2.2, w_X4 cI cR (a 6) (a 7) (a 8) (a 9) (a 10) a_ahead, w_X2 cI cR (a 11) (a 12) a_pad_codes a_pad_length, w_X3 cI cR (a 13) (a 14) a_padPattern_heights a_padPattern_length, w_X6 cI cR (a 15) (a 16) (a 17) (a 18) (a 19) a_ways_steps a_ways_firstThrows a_ways_lastThrows a_ways_reached a_ways_reachedCount, w_X0 cI cR (fun i => a (i + 20)) a_history_rs a_history_oldest a_history_size, w_X5 cI cR (a 52) (a 53) (a 54) (a 55) (a 56) (a 57) a_slotZero_kept a_slotZero_filled, w_X5 cI cR (a 58) (a 59) (a 60) (a 61) (a 62) (a 63) a_slotOne_kept a_slotOne_filled] _ _ := Z.eq rfl
    rcases Decidable.em (p1 = 0) with c3 | c3
    · have hf := it_t c3 hf
      refine z_roVN X Z (c_X4_juggler_0 l D cI cR (a 1) (a 2) (a 4) a_now.2.2.1 a_now.2.2.2.1 a_now.2.2.2.2.1 a_now.2.2.2.2.2 p1 c3) (zw_X7_80 X.2.1 X.1.2.2.2.2 ⟨Nat.le_of_ble_eq_true rfl, Nat.le_of_ble_eq_true rfl⟩) 1 4 rfl rfl rfl [1] [0, 2, 3, 4, 5, 6, 7, 8, 9, 10] (by decide : ([1] ++ [0, 2, 3, 4, 5, 6, 7, 8, 9, 10] : List Nat).Perm (List.range 11)) rfl rfl hl.1 rfl (Nat.le_of_ble_eq_true rfl) dX7_thrown_14 ⟨Nat.le_of_ble_eq_true rfl, Nat.le_of_ble_eq_true rfl⟩ (fun H locs Z => ?_)
      refine lv_astore (lv' := [(4, .ref (a 2)), (0, .ref (a 0)), (1, .int p1), (2, .int p2), (3, .int p3)]) hx hb dX7_thrown_17 hl (by decide) rfl (fun ls hl => ?_)
      refine lv_iload_n hx hb dX7_thrown_19 rfl (lv_at hl 3 rfl) ?_
      refine lv_iconst (v := 0) hx hb dX7_thrown_20 (by decide) ?_
      refine lv_aload hx hb dX7_thrown_21 (lv_at hl 0 rfl) ?_
      refine zg_X7_125 X Z 2 rfl rfl dX7_thrown_23 ?_
      refine lv_iconst (v := 1) hx hb dX7_thrown_26 (by decide) ?_
      refine lv_isub hx hb dX7_thrown_27 ?_
      obtain ⟨q4, hq4, hf⟩ := ob_s hf
      refine z_roS X Z (c_X7_isWithin l D cI cR   p2 (0 : Int32) (a_now.1.2.2.2.1 - (1 : Int32)) hq4) (zw_X7_57 X.1.2.2.2.2 ⟨Nat.le_of_ble_eq_true rfl, Nat.le_of_ble_eq_true rfl⟩) [] [0, 1, 2, 3, 4, 5, 6, 7, 8, 9, 10] (by decide : ([] ++ [0, 1, 2, 3, 4, 5, 6, 7, 8, 9, 10] : List Nat).Perm (List.range 11)) rfl rfl hl.1 rfl (Nat.le_of_ble_eq_true rfl) dX7_thrown_28 ⟨Nat.le_of_ble_eq_true rfl, Nat.le_of_ble_eq_true rfl⟩ (fun H locs Z => ?_)
      refine lv_if_ne (tgt := 36) hx hb dX7_thrown_31 (by decide) (fun c5 => ?_) (fun c5 => ?_)
      · have hf := it_f c5 hf
        refine lv_iload_n hx hb dX7_thrown_36 rfl (lv_at hl 4 rfl) ?_
        rcases Decidable.em (p3 = (0 : Int32)) with c6 | c6
        · have hf := it_t c6 hf
          refine z_lookIn hx hb 0 c6 (off := 27) (tgt := 64) dX7_thrown_37 (by decide) (by decide) (by decide) ?_
          refine lv_aload hx hb dX7_thrown_64 (lv_at hl 0 rfl) ?_
          refine lv_iload_n hx hb dX7_thrown_66 rfl (lv_at hl 3 rfl) ?_
          obtain ⟨q7, hq7, hf⟩ := ob_s hf
          refine z_roVN X Z (c_X1_heightAt l D cI cR (a 2) (a 3) a_now.1.1 a_now.1.2.1 a_now.1.2.2.1 a_now.1.2.2.2.1 a_now.1.2.2.2.2.1 a_now.1.2.2.2.2.2.1 a_now.1.2.2.2.2.2.2 p2 hq7) (zw_X7_137 X.2.1 X.1.2.2.2.2 ⟨Nat.le_of_ble_eq_true rfl, Nat.le_of_ble_eq_true rfl⟩) 2 1 rfl rfl rfl [2] [0, 1, 3, 4, 5, 6, 7, 8, 9, 10] (by decide : ([2] ++ [0, 1, 3, 4, 5, 6, 7, 8, 9, 10] : List Nat).Perm (List.range 11)) rfl rfl hl.1 rfl (Nat.le_of_ble_eq_true rfl) dX7_thrown_67 ⟨Nat.le_of_ble_eq_true rfl, Nat.le_of_ble_eq_true rfl⟩ (fun H locs Z => ?_)
          have hR := so_s hf
          subst hR
          refine z_iret X hr hlocks ?_ dX7_thrown_70
          exact Z.eq rfl
        · have hf := it_f c6 hf
          rcases Decidable.em (p3 = (1 : Int32)) with c8 | c8
          · have hf := it_t c8 hf
            refine z_lookIn hx hb 1 c8 (off := 34) (tgt := 71) dX7_thrown_37 (by decide) (by decide) (by decide) ?_
            refine lv_aload hx hb dX7_thrown_71 (lv_at hl 0 rfl) ?_
            refine lv_iload_n hx hb dX7_thrown_73 rfl (lv_at hl 3 rfl) ?_
            obtain ⟨q9, hq9, hf⟩ := ob_s hf
            refine z_roVN X Z (c_X1_isPassAt l D cI cR (a 2) (a 3) a_now.1.1 a_now.1.2.1 a_now.1.2.2.1 a_now.1.2.2.2.1 a_now.1.2.2.2.2.1 a_now.1.2.2.2.2.2.1 a_now.1.2.2.2.2.2.2 p2 hq9) (zw_X7_140 X.2.1 X.1.2.2.2.2 ⟨Nat.le_of_ble_eq_true rfl, Nat.le_of_ble_eq_true rfl⟩) 2 1 rfl rfl rfl [2] [0, 1, 3, 4, 5, 6, 7, 8, 9, 10] (by decide : ([2] ++ [0, 1, 3, 4, 5, 6, 7, 8, 9, 10] : List Nat).Perm (List.range 11)) rfl rfl hl.1 rfl (Nat.le_of_ble_eq_true rfl) dX7_thrown_74 ⟨Nat.le_of_ble_eq_true rfl, Nat.le_of_ble_eq_true rfl⟩ (fun H locs Z => ?_)
            obtain ⟨q10, hq10, hf⟩ := ob_s hf
            refine z_roS X Z (c_X7_oneIf l D cI cR   q9 hq10) (zw_X7_143 X.1.2.2.2.2 ⟨Nat.le_of_ble_eq_true rfl, Nat.le_of_ble_eq_true rfl⟩) [] [0, 1, 2, 3, 4, 5, 6, 7, 8, 9, 10] (by decide : ([] ++ [0, 1, 2, 3, 4, 5, 6, 7, 8, 9, 10] : List Nat).Perm (List.range 11)) rfl rfl hl.1 rfl (Nat.le_of_ble_eq_true rfl) dX7_thrown_77 ⟨Nat.le_of_ble_eq_true rfl, Nat.le_of_ble_eq_true rfl⟩ (fun H locs Z => ?_)
            have hR := so_s hf
            subst hR
            refine z_iret X hr hlocks ?_ dX7_thrown_80
            exact Z.eq rfl
          · have hf := it_f c8 hf
            refine lv_lookup (off := 44) (tgt := 81) hx hb dX7_thrown_37 (by decide) ?_ (by decide) ?_
            · exact z_look2 c6 c8 (by decide) (by decide)
            · refine lv_bipush (v := -2) hx hb dX7_thrown_81 (by decide) ?_
              have hR := so_s hf
              subst hR
              refine z_iret X hr hlocks ?_ dX7_thrown_83
              exact Z.eq rfl
      · have hf := it_t c5 hf
        refine lv_iconst (v := -1) hx hb dX7_thrown_34 (by decide) ?_
        have hR := so_s hf
        subst hR
        refine z_iret X hr hlocks ?_ dX7_thrown_35
        exact Z.eq rfl
    · have hf := it_f c3 hf
      refine z_roVN X Z (c_X4_juggler_1 l D cI cR (a 1) (a 2) (a 4) a_now.2.2.1 a_now.2.2.2.1 a_now.2.2.2.2.1 a_now.2.2.2.2.2 p1 c3) (zw_X7_80 X.2.1 X.1.2.2.2.2 ⟨Nat.le_of_ble_eq_true rfl, Nat.le_of_ble_eq_true rfl⟩) 1 4 rfl rfl rfl [1] [0, 2, 3, 4, 5, 6, 7, 8, 9, 10] (by decide : ([1] ++ [0, 2, 3, 4, 5, 6, 7, 8, 9, 10] : List Nat).Perm (List.range 11)) rfl rfl hl.1 rfl (Nat.le_of_ble_eq_true rfl) dX7_thrown_14 ⟨Nat.le_of_ble_eq_true rfl, Nat.le_of_ble_eq_true rfl⟩ (fun H locs Z => ?_)
      refine lv_astore (lv' := [(4, .ref (a 4)), (0, .ref (a 0)), (1, .int p1), (2, .int p2), (3, .int p3)]) hx hb dX7_thrown_17 hl (by decide) rfl (fun ls hl => ?_)
      refine lv_iload_n hx hb dX7_thrown_19 rfl (lv_at hl 3 rfl) ?_
      refine lv_iconst (v := 0) hx hb dX7_thrown_20 (by decide) ?_
      refine lv_aload hx hb dX7_thrown_21 (lv_at hl 0 rfl) ?_
      refine zg_X7_125 X Z 4 rfl rfl dX7_thrown_23 ?_
      refine lv_iconst (v := 1) hx hb dX7_thrown_26 (by decide) ?_
      refine lv_isub hx hb dX7_thrown_27 ?_
      obtain ⟨q11, hq11, hf⟩ := ob_s hf
      refine z_roS X Z (c_X7_isWithin l D cI cR   p2 (0 : Int32) (a_now.2.1.2.2.2.1 - (1 : Int32)) hq11) (zw_X7_57 X.1.2.2.2.2 ⟨Nat.le_of_ble_eq_true rfl, Nat.le_of_ble_eq_true rfl⟩) [] [0, 1, 2, 3, 4, 5, 6, 7, 8, 9, 10] (by decide : ([] ++ [0, 1, 2, 3, 4, 5, 6, 7, 8, 9, 10] : List Nat).Perm (List.range 11)) rfl rfl hl.1 rfl (Nat.le_of_ble_eq_true rfl) dX7_thrown_28 ⟨Nat.le_of_ble_eq_true rfl, Nat.le_of_ble_eq_true rfl⟩ (fun H locs Z => ?_)
      refine lv_if_ne (tgt := 36) hx hb dX7_thrown_31 (by decide) (fun c12 => ?_) (fun c12 => ?_)
      · have hf := it_f c12 hf
        refine lv_iload_n hx hb dX7_thrown_36 rfl (lv_at hl 4 rfl) ?_
        rcases Decidable.em (p3 = (0 : Int32)) with c13 | c13
        · have hf := it_t c13 hf
          refine z_lookIn hx hb 0 c13 (off := 27) (tgt := 64) dX7_thrown_37 (by decide) (by decide) (by decide) ?_
          refine lv_aload hx hb dX7_thrown_64 (lv_at hl 0 rfl) ?_
          refine lv_iload_n hx hb dX7_thrown_66 rfl (lv_at hl 3 rfl) ?_
          obtain ⟨q14, hq14, hf⟩ := ob_s hf
          refine z_roVN X Z (c_X1_heightAt l D cI cR (a 4) (a 5) a_now.2.1.1 a_now.2.1.2.1 a_now.2.1.2.2.1 a_now.2.1.2.2.2.1 a_now.2.1.2.2.2.2.1 a_now.2.1.2.2.2.2.2.1 a_now.2.1.2.2.2.2.2.2 p2 hq14) (zw_X7_137 X.2.1 X.1.2.2.2.2 ⟨Nat.le_of_ble_eq_true rfl, Nat.le_of_ble_eq_true rfl⟩) 4 1 rfl rfl rfl [3] [0, 1, 2, 4, 5, 6, 7, 8, 9, 10] (by decide : ([3] ++ [0, 1, 2, 4, 5, 6, 7, 8, 9, 10] : List Nat).Perm (List.range 11)) rfl rfl hl.1 rfl (Nat.le_of_ble_eq_true rfl) dX7_thrown_67 ⟨Nat.le_of_ble_eq_true rfl, Nat.le_of_ble_eq_true rfl⟩ (fun H locs Z => ?_)
          have hR := so_s hf
          subst hR
          refine z_iret X hr hlocks ?_ dX7_thrown_70
          exact Z.eq rfl
        · have hf := it_f c13 hf
          rcases Decidable.em (p3 = (1 : Int32)) with c15 | c15
          · have hf := it_t c15 hf
            refine z_lookIn hx hb 1 c15 (off := 34) (tgt := 71) dX7_thrown_37 (by decide) (by decide) (by decide) ?_
            refine lv_aload hx hb dX7_thrown_71 (lv_at hl 0 rfl) ?_
            refine lv_iload_n hx hb dX7_thrown_73 rfl (lv_at hl 3 rfl) ?_
            obtain ⟨q16, hq16, hf⟩ := ob_s hf
            refine z_roVN X Z (c_X1_isPassAt l D cI cR (a 4) (a 5) a_now.2.1.1 a_now.2.1.2.1 a_now.2.1.2.2.1 a_now.2.1.2.2.2.1 a_now.2.1.2.2.2.2.1 a_now.2.1.2.2.2.2.2.1 a_now.2.1.2.2.2.2.2.2 p2 hq16) (zw_X7_140 X.2.1 X.1.2.2.2.2 ⟨Nat.le_of_ble_eq_true rfl, Nat.le_of_ble_eq_true rfl⟩) 4 1 rfl rfl rfl [3] [0, 1, 2, 4, 5, 6, 7, 8, 9, 10] (by decide : ([3] ++ [0, 1, 2, 4, 5, 6, 7, 8, 9, 10] : List Nat).Perm (List.range 11)) rfl rfl hl.1 rfl (Nat.le_of_ble_eq_true rfl) dX7_thrown_74 ⟨Nat.le_of_ble_eq_true rfl, Nat.le_of_ble_eq_true rfl⟩ (fun H locs Z => ?_)
            obtain ⟨q17, hq17, hf⟩ := ob_s hf
            refine z_roS X Z (c_X7_oneIf l D cI cR   q16 hq17) (zw_X7_143 X.1.2.2.2.2 ⟨Nat.le_of_ble_eq_true rfl, Nat.le_of_ble_eq_true rfl⟩) [] [0, 1, 2, 3, 4, 5, 6, 7, 8, 9, 10] (by decide : ([] ++ [0, 1, 2, 3, 4, 5, 6, 7, 8, 9, 10] : List Nat).Perm (List.range 11)) rfl rfl hl.1 rfl (Nat.le_of_ble_eq_true rfl) dX7_thrown_77 ⟨Nat.le_of_ble_eq_true rfl, Nat.le_of_ble_eq_true rfl⟩ (fun H locs Z => ?_)
            have hR := so_s hf
            subst hR
            refine z_iret X hr hlocks ?_ dX7_thrown_80
            exact Z.eq rfl
          · have hf := it_f c15 hf
            refine lv_lookup (off := 44) (tgt := 81) hx hb dX7_thrown_37 (by decide) ?_ (by decide) ?_
            · exact z_look2 c13 c15 (by decide) (by decide)
            · refine lv_bipush (v := -2) hx hb dX7_thrown_81 (by decide) ?_
              have hR := so_s hf
              subst hR
              refine z_iret X hr hlocks ?_ dX7_thrown_83
              exact Z.eq rfl
      · have hf := it_t c12 hf
        refine lv_iconst (v := -1) hx hb dX7_thrown_34 (by decide) ?_
        have hR := so_s hf
        subst hR
        refine z_iret X hr hlocks ?_ dX7_thrown_35
        exact Z.eq rfl
  · have hf := it_t c2 hf
    refine lv_iconst (v := -1) hx hb dX7_thrown_7 (by decide) ?_
    have hR := so_s hf
    subst hR
    refine z_iret X hr hlocks ?_ dX7_thrown_8
    exact Z.eq rfl
def f_X7_firstDrop_L13 (a_now : ST) : Nat → Int32 → ST → Option (Int32 × ST)
  | 0, _, _ => none
  | n + 1, x1, a_ahead => if (1000 : Int32) ≤ x1 then (some ((-6 : Int32), a_ahead)) else ((f_X4_play a_ahead (1 : Int32)).bind (fun q3 => if q3.1 ≤ 0 then (f_X7_firstDrop_L13 a_now n (x1 + (1 : Int32)) q3.2) else (some (x1, q3.2))))
set_option maxHeartbeats 4000000 in
set_option maxRecDepth 100000 in
theorem w_X7_firstDrop_L13 {p : Program} {l : Launch} {e : Env} {s : State} {m : MethodId} {args : Array Value} {below : List Frame} {meth : Method} {c : Code} {D : va_G} {cI cR : ClassId} {A : Nat → Prop} {a : (Nat → Nat)} {a_now : ST} {a_pad_codes : (Nat → Int32)} {a_pad_length : Int32} {a_padPattern_heights : (Nat → Int32)} {a_padPattern_length : Int32} {a_ways_steps : (Nat → Int32)} {a_ways_firstThrows : (Nat → Int32)} {a_ways_lastThrows : (Nat → Int32)} {a_ways_reached : (Nat → Int32)} {a_ways_reachedCount : Int32} {a_history_rs : (Nat → ST)} {a_history_oldest : Int32} {a_history_size : Int32} {a_slotZero_kept : ST} {a_slotZero_filled : Int32} {a_slotOne_kept : ST} {a_slotOne_filled : Int32} {R : Int32 × ST} (X : zX p s m c cX7_firstDrop 2 args RX7 D cI cR A) (hr : meth.sig.returnType = (some .int)) (hlocks : meth.locks = false) : ∀ (n : Nat)  {x1 : Int32} {a_ahead : ST} {H : Heap} {locs : List Loc} {ls : Array Slot}, f_X7_firstDrop_L13 a_now n x1 a_ahead = some R → zW D A s [w_X7 cI cR a a_now a_ahead a_pad_codes a_pad_length a_padPattern_heights a_padPattern_length a_ways_steps a_ways_firstThrows a_ways_lastThrows a_ways_reached a_ways_reachedCount a_history_rs a_history_oldest a_history_size a_slotZero_kept a_slotZero_filled a_slotOne_kept a_slotOne_filled] H locs → lv_has ls 2 [(0, .ref (a 0)), (1, .int x1)] → W p l e ({ frames := 4, cells := 0, slots := 0, locals := 90 } : Room) s m args below meth c H locs 0 0 (zE D A below s args (some (.int R.1)) [w_X7 cI cR a a_now R.2 a_pad_codes a_pad_length a_padPattern_heights a_padPattern_length a_ways_steps a_ways_firstThrows a_ways_lastThrows a_ways_reached a_ways_reachedCount a_history_rs a_history_oldest a_history_size a_slotZero_kept a_slotZero_filled a_slotOne_kept a_slotOne_filled]) (F0 m 13 ls []) := by
  have hx := X.1.1
  have hb := X.1.2.1
  intro n
  induction n with
  | zero =>
    intro x1 a_ahead H locs ls hf
    have hf : none = some R := hf
    cases hf
  | succ n ih =>
    intro x1 a_ahead H locs ls hf Z hl
    refine lv_iload_n hx hb dX7_firstDrop_13 rfl (lv_at hl 1 rfl) ?_
    refine lv_sipush (v := 1000) hx hb dX7_firstDrop_14 (by decide) ?_
    refine lv_icmp_ge (tgt := 39) hx hb dX7_firstDrop_17 (by decide) (fun c2 => ?_) (fun c2 => ?_)
    · have hf := it_t c2 hf
      refine lv_bipush (v := -6) hx hb dX7_firstDrop_39 (by decide) ?_
      have hR := so_s hf
      subst hR
      refine z_iret X hr hlocks ?_ dX7_firstDrop_41
      exact Z.eq rfl
    · have hf := it_f c2 hf
      refine lv_aload_n hx hb dX7_firstDrop_20 rfl (lv_at hl 0 rfl) ?_
      refine zg_X7_16 X Z 0 rfl rfl dX7_firstDrop_21 ?_
      refine lv_iconst (v := 1) hx hb dX7_firstDrop_24 (by decide) ?_
      have Z : zW D A s [[((a 0), .inr (7, [.ref (a 1), .ref (a 6), .ref (a 11), .ref (a 13), .ref (a 15), .ref (a 20), .ref (a 52), .ref (a 58)]))], w_X4 cI cR (a 1) (a 2) (a 3) (a 4) (a 5) a_now, w_X4 cI cR (a 6) (a 7) (a 8) (a 9) (a 10) a_ahead, w_X2 cI cR (a 11) (a 12) a_pad_codes a_pad_length, w_X3 cI cR (a 13) (a 14) a_padPattern_heights a_padPattern_length, w_X6 cI cR (a 15) (a 16) (a 17) (a 18) (a 19) a_ways_steps a_ways_firstThrows a_ways_lastThrows a_ways_reached a_ways_reachedCount, w_X0 cI cR (fun i => a (i + 20)) a_history_rs a_history_oldest a_history_size, w_X5 cI cR (a 52) (a 53) (a 54) (a 55) (a 56) (a 57) a_slotZero_kept a_slotZero_filled, w_X5 cI cR (a 58) (a 59) (a 60) (a 61) (a 62) (a 63) a_slotOne_kept a_slotOne_filled] _ _ := Z.eq rfl
      obtain ⟨q3, hq3, hf⟩ := ob_s hf
      refine z_callVN X Z (c_X4_play l D cI cR (a 6) (a 7) (a 8) (a 9) (a 10) a_ahead (1 : Int32) hq3) (zw_X7_98 X.2.1 X.1.2.2.2.2 ⟨Nat.le_of_ble_eq_true rfl, Nat.le_of_ble_eq_true rfl⟩) 6 4 rfl rfl rfl [2] [0, 1, 3, 4, 5, 6, 7, 8] [[((a 0), .inr (7, [.ref (a 1), .ref (a 6), .ref (a 11), .ref (a 13), .ref (a 15), .ref (a 20), .ref (a 52), .ref (a 58)]))], w_X4 cI cR (a 1) (a 2) (a 3) (a 4) (a 5) a_now, w_X4 cI cR (a 6) (a 7) (a 8) (a 9) (a 10) q3.2, w_X2 cI cR (a 11) (a 12) a_pad_codes a_pad_length, w_X3 cI cR (a 13) (a 14) a_padPattern_heights a_padPattern_length, w_X6 cI cR (a 15) (a 16) (a 17) (a 18) (a 19) a_ways_steps a_ways_firstThrows a_ways_lastThrows a_ways_reached a_ways_reachedCount, w_X0 cI cR (fun i => a (i + 20)) a_history_rs a_history_oldest a_history_size, w_X5 cI cR (a 52) (a 53) (a 54) (a 55) (a 56) (a 57) a_slotZero_kept a_slotZero_filled, w_X5 cI cR (a 58) (a 59) (a 60) (a 61) (a 62) (a 63) a_slotOne_kept a_slotOne_filled] (by decide : ([2] ++ [0, 1, 3, 4, 5, 6, 7, 8] : List Nat).Perm (List.range 9)) rfl rfl rfl rfl rfl hl.1 rfl (Nat.le_of_ble_eq_true rfl) dX7_firstDrop_25 ⟨Nat.le_of_ble_eq_true rfl, Nat.le_of_ble_eq_true rfl⟩ (fun H locs Z => ?_)
      refine lv_if_le (tgt := 33) hx hb dX7_firstDrop_28 (by decide) (fun c4 => ?_) (fun c4 => ?_)
      · have hf := it_t c4 hf
        refine lv_iinc (v := x1 + (1 : Int32)) (lv' := [(1, .int (x1 + (1 : Int32))), (0, .ref (a 0))]) hx hb dX7_firstDrop_33 hl (k := 1) rfl rfl (by decide) rfl (fun ls hl => ?_)
        refine lv_goto (tgt := 13) hx hb dX7_firstDrop_36 (by decide) ?_
        have Z : zW D A s [w_X7 cI cR a a_now q3.2 a_pad_codes a_pad_length a_padPattern_heights a_padPattern_length a_ways_steps a_ways_firstThrows a_ways_lastThrows a_ways_reached a_ways_reachedCount a_history_rs a_history_oldest a_history_size a_slotZero_kept a_slotZero_filled a_slotOne_kept a_slotOne_filled] _ _ := Z.eq rfl
        exact ih hf Z (lv_sub hl [1, 0] rfl)
      · have hf := it_f c4 hf
        refine lv_iload_n hx hb dX7_firstDrop_31 rfl (lv_at hl 1 rfl) ?_
        have hR := so_s hf
        subst hR
        refine z_iret X hr hlocks ?_ dX7_firstDrop_32
        exact Z.eq rfl

def f_X7_firstDrop (a_now : ST) (a_ahead : ST) : Option (Int32 × ST) := (f_X4_become a_ahead a_now).bind (fun q1 => f_X7_firstDrop_L13 a_now zF (0 : Int32) q1)
set_option maxHeartbeats 4000000 in
set_option maxRecDepth 100000 in
theorem c_X7_firstDrop (l : Launch) (D : va_G) (cI cR : ClassId) (a : (Nat → Nat)) (a_now : ST) (a_ahead : ST) (a_pad_codes : (Nat → Int32)) (a_pad_length : Int32) (a_padPattern_heights : (Nat → Int32)) (a_padPattern_length : Int32) (a_ways_steps : (Nat → Int32)) (a_ways_firstThrows : (Nat → Int32)) (a_ways_lastThrows : (Nat → Int32)) (a_ways_reached : (Nat → Int32)) (a_ways_reachedCount : Int32) (a_history_rs : (Nat → ST)) (a_history_oldest : Int32) (a_history_size : Int32) (a_slotZero_kept : ST) (a_slotZero_filled : Int32) (a_slotOne_kept : ST) (a_slotOne_filled : Int32) {R : Int32 × ST} (hf : f_X7_firstDrop a_now a_ahead = some R) : zM l D cI cR yX7_firstDrop cX7_firstDrop 2 (some .int) 4 90 [.ref (a 0)] [w_X7 cI cR a a_now a_ahead a_pad_codes a_pad_length a_padPattern_heights a_padPattern_length a_ways_steps a_ways_firstThrows a_ways_lastThrows a_ways_reached a_ways_reachedCount a_history_rs a_history_oldest a_history_size a_slotZero_kept a_slotZero_filled a_slotOne_kept a_slotOne_filled] (some (.int R.1)) [w_X7 cI cR a a_now R.2 a_pad_codes a_pad_length a_padPattern_heights a_padPattern_length a_ways_steps a_ways_firstThrows a_ways_lastThrows a_ways_reached a_ways_reachedCount a_history_rs a_history_oldest a_history_size a_slotZero_kept a_slotZero_filled a_slotOne_kept a_slotOne_filled] := by
  refine z_of (own := RX7) rfl (by decide) (Nat.le_of_ble_eq_true rfl) ?_
  intro p e s m args below meth c A ls X hr hlocks Z hl
  have hx := X.1.1
  have hb := X.1.2.1
  have Z : zW D A s [w_X7 cI cR a a_now a_ahead a_pad_codes a_pad_length a_padPattern_heights a_padPattern_length a_ways_steps a_ways_firstThrows a_ways_lastThrows a_ways_reached a_ways_reachedCount a_history_rs a_history_oldest a_history_size a_slotZero_kept a_slotZero_filled a_slotOne_kept a_slotOne_filled] s.heap [] := Z
  have hl : lv_has ls 2 [(0, .ref (a 0))] := hl
  refine lv_aload_n hx hb dX7_firstDrop_0 rfl (lv_at hl 0 rfl) ?_
  refine zg_X7_16 X Z 0 rfl rfl dX7_firstDrop_1 ?_
  refine lv_aload_n hx hb dX7_firstDrop_4 rfl (lv_at hl 0 rfl) ?_
  refine zg_X7_12 X Z 0 rfl rfl dX7_firstDrop_5 ?_
  have Z : zW D A s [[((a 0), .inr (7, [.ref (a 1), .ref (a 6), .ref (a 11), .ref (a 13), .ref (a 15), .ref (a 20), .ref (a 52), .ref (a 58)]))], w_X4 cI cR (a 1) (a 2) (a 3) (a 4) (a 5) a_now, w_X4 cI cR (a 6) (a 7) (a 8) (a 9) (a 10) a_ahead, w_X2 cI cR (a 11) (a 12) a_pad_codes a_pad_length, w_X3 cI cR (a 13) (a 14) a_padPattern_heights a_padPattern_length, w_X6 cI cR (a 15) (a 16) (a 17) (a 18) (a 19) a_ways_steps a_ways_firstThrows a_ways_lastThrows a_ways_reached a_ways_reachedCount, w_X0 cI cR (fun i => a (i + 20)) a_history_rs a_history_oldest a_history_size, w_X5 cI cR (a 52) (a 53) (a 54) (a 55) (a 56) (a 57) a_slotZero_kept a_slotZero_filled, w_X5 cI cR (a 58) (a 59) (a 60) (a 61) (a 62) (a 63) a_slotOne_kept a_slotOne_filled] _ _ := Z.eq rfl
  obtain ⟨q1, hq1, hf⟩ := ob_s hf
  refine z_callVN X Z (c_X4_become l D cI cR (a 6) (a 7) (a 8) (a 9) (a 10) (a 1) (a 2) (a 3) (a 4) (a 5) a_ahead a_now  hq1) (zw_X7_159 X.2.1 X.1.2.2.2.2 ⟨Nat.le_of_ble_eq_true rfl, Nat.le_of_ble_eq_true rfl⟩) 6 4 rfl rfl rfl [2, 1] [0, 3, 4, 5, 6, 7, 8] [[((a 0), .inr (7, [.ref (a 1), .ref (a 6), .ref (a 11), .ref (a 13), .ref (a 15), .ref (a 20), .ref (a 52), .ref (a 58)]))], w_X4 cI cR (a 1) (a 2) (a 3) (a 4) (a 5) a_now, w_X4 cI cR (a 6) (a 7) (a 8) (a 9) (a 10) q1, w_X2 cI cR (a 11) (a 12) a_pad_codes a_pad_length, w_X3 cI cR (a 13) (a 14) a_padPattern_heights a_padPattern_length, w_X6 cI cR (a 15) (a 16) (a 17) (a 18) (a 19) a_ways_steps a_ways_firstThrows a_ways_lastThrows a_ways_reached a_ways_reachedCount, w_X0 cI cR (fun i => a (i + 20)) a_history_rs a_history_oldest a_history_size, w_X5 cI cR (a 52) (a 53) (a 54) (a 55) (a 56) (a 57) a_slotZero_kept a_slotZero_filled, w_X5 cI cR (a 58) (a 59) (a 60) (a 61) (a 62) (a 63) a_slotOne_kept a_slotOne_filled] (by decide : ([2, 1] ++ [0, 3, 4, 5, 6, 7, 8] : List Nat).Perm (List.range 9)) rfl rfl rfl rfl rfl hl.1 rfl (Nat.le_of_ble_eq_true rfl) dX7_firstDrop_8 ⟨Nat.le_of_ble_eq_true rfl, Nat.le_of_ble_eq_true rfl⟩ (fun H locs Z => ?_)
  refine lv_iconst (v := 0) hx hb dX7_firstDrop_11 (by decide) ?_
  refine lv_istore_n (lv' := [(1, .int (0 : Int32)), (0, .ref (a 0))]) hx hb dX7_firstDrop_12 rfl hl (by decide) rfl (fun ls hl => ?_)
  have Z : zW D A s [w_X7 cI cR a a_now q1 a_pad_codes a_pad_length a_padPattern_heights a_padPattern_length a_ways_steps a_ways_firstThrows a_ways_lastThrows a_ways_reached a_ways_reachedCount a_history_rs a_history_oldest a_history_size a_slotZero_kept a_slotZero_filled a_slotOne_kept a_slotOne_filled] _ _ := Z.eq rfl
  exact w_X7_firstDrop_L13 X hr hlocks _ hf Z (lv_sub hl [1, 0] rfl)
def f_X7_comesRound_L13 (a_now : ST) : Nat → Int32 → ST → Option (Int32 × ST)
  | 0, _, _ => none
  | n + 1, x1, a_ahead => if (1000 : Int32) < x1 then (some ((-6 : Int32), a_ahead)) else ((f_X4_play a_ahead (1 : Int32)).bind (fun q3 => (f_X4_standsLike q3.2 a_now).bind (fun q4 => if q4 = 0 then (f_X7_comesRound_L13 a_now n (x1 + (1 : Int32)) q3.2) else (some (x1, q3.2)))))
set_option maxHeartbeats 4000000 in
set_option maxRecDepth 100000 in
theorem w_X7_comesRound_L13 {p : Program} {l : Launch} {e : Env} {s : State} {m : MethodId} {args : Array Value} {below : List Frame} {meth : Method} {c : Code} {D : va_G} {cI cR : ClassId} {A : Nat → Prop} {a : (Nat → Nat)} {a_now : ST} {a_pad_codes : (Nat → Int32)} {a_pad_length : Int32} {a_padPattern_heights : (Nat → Int32)} {a_padPattern_length : Int32} {a_ways_steps : (Nat → Int32)} {a_ways_firstThrows : (Nat → Int32)} {a_ways_lastThrows : (Nat → Int32)} {a_ways_reached : (Nat → Int32)} {a_ways_reachedCount : Int32} {a_history_rs : (Nat → ST)} {a_history_oldest : Int32} {a_history_size : Int32} {a_slotZero_kept : ST} {a_slotZero_filled : Int32} {a_slotOne_kept : ST} {a_slotOne_filled : Int32} {R : Int32 × ST} (X : zX p s m c cX7_comesRound 2 args RX7 D cI cR A) (hr : meth.sig.returnType = (some .int)) (hlocks : meth.locks = false) : ∀ (n : Nat)  {x1 : Int32} {a_ahead : ST} {H : Heap} {locs : List Loc} {ls : Array Slot}, f_X7_comesRound_L13 a_now n x1 a_ahead = some R → zW D A s [w_X7 cI cR a a_now a_ahead a_pad_codes a_pad_length a_padPattern_heights a_padPattern_length a_ways_steps a_ways_firstThrows a_ways_lastThrows a_ways_reached a_ways_reachedCount a_history_rs a_history_oldest a_history_size a_slotZero_kept a_slotZero_filled a_slotOne_kept a_slotOne_filled] H locs → lv_has ls 2 [(0, .ref (a 0)), (1, .int x1)] → W p l e ({ frames := 4, cells := 0, slots := 0, locals := 90 } : Room) s m args below meth c H locs 0 0 (zE D A below s args (some (.int R.1)) [w_X7 cI cR a a_now R.2 a_pad_codes a_pad_length a_padPattern_heights a_padPattern_length a_ways_steps a_ways_firstThrows a_ways_lastThrows a_ways_reached a_ways_reachedCount a_history_rs a_history_oldest a_history_size a_slotZero_kept a_slotZero_filled a_slotOne_kept a_slotOne_filled]) (F0 m 13 ls []) := by
  have hx := X.1.1
  have hb := X.1.2.1
  intro n
  induction n with
  | zero =>
    intro x1 a_ahead H locs ls hf
    have hf : none = some R := hf
    cases hf
  | succ n ih =>
    intro x1 a_ahead H locs ls hf Z hl
    refine lv_iload_n hx hb dX7_comesRound_13 rfl (lv_at hl 1 rfl) ?_
    refine lv_sipush (v := 1000) hx hb dX7_comesRound_14 (by decide) ?_
    refine lv_icmp_gt (tgt := 51) hx hb dX7_comesRound_17 (by decide) (fun c2 => ?_) (fun c2 => ?_)
    · have hf := it_t c2 hf
      refine lv_bipush (v := -6) hx hb dX7_comesRound_51 (by decide) ?_
      have hR := so_s hf
      subst hR
      refine z_iret X hr hlocks ?_ dX7_comesRound_53
      exact Z.eq rfl
    · have hf := it_f c2 hf
      refine lv_aload_n hx hb dX7_comesRound_20 rfl (lv_at hl 0 rfl) ?_
      refine zg_X7_16 X Z 0 rfl rfl dX7_comesRound_21 ?_
      refine lv_iconst (v := 1) hx hb dX7_comesRound_24 (by decide) ?_
      have Z : zW D A s [[((a 0), .inr (7, [.ref (a 1), .ref (a 6), .ref (a 11), .ref (a 13), .ref (a 15), .ref (a 20), .ref (a 52), .ref (a 58)]))], w_X4 cI cR (a 1) (a 2) (a 3) (a 4) (a 5) a_now, w_X4 cI cR (a 6) (a 7) (a 8) (a 9) (a 10) a_ahead, w_X2 cI cR (a 11) (a 12) a_pad_codes a_pad_length, w_X3 cI cR (a 13) (a 14) a_padPattern_heights a_padPattern_length, w_X6 cI cR (a 15) (a 16) (a 17) (a 18) (a 19) a_ways_steps a_ways_firstThrows a_ways_lastThrows a_ways_reached a_ways_reachedCount, w_X0 cI cR (fun i => a (i + 20)) a_history_rs a_history_oldest a_history_size, w_X5 cI cR (a 52) (a 53) (a 54) (a 55) (a 56) (a 57) a_slotZero_kept a_slotZero_filled, w_X5 cI cR (a 58) (a 59) (a 60) (a 61) (a 62) (a 63) a_slotOne_kept a_slotOne_filled] _ _ := Z.eq rfl
      obtain ⟨q3, hq3, hf⟩ := ob_s hf
      refine z_callVN X Z (c_X4_play l D cI cR (a 6) (a 7) (a 8) (a 9) (a 10) a_ahead (1 : Int32) hq3) (zw_X7_98 X.2.1 X.1.2.2.2.2 ⟨Nat.le_of_ble_eq_true rfl, Nat.le_of_ble_eq_true rfl⟩) 6 4 rfl rfl rfl [2] [0, 1, 3, 4, 5, 6, 7, 8] [[((a 0), .inr (7, [.ref (a 1), .ref (a 6), .ref (a 11), .ref (a 13), .ref (a 15), .ref (a 20), .ref (a 52), .ref (a 58)]))], w_X4 cI cR (a 1) (a 2) (a 3) (a 4) (a 5) a_now, w_X4 cI cR (a 6) (a 7) (a 8) (a 9) (a 10) q3.2, w_X2 cI cR (a 11) (a 12) a_pad_codes a_pad_length, w_X3 cI cR (a 13) (a 14) a_padPattern_heights a_padPattern_length, w_X6 cI cR (a 15) (a 16) (a 17) (a 18) (a 19) a_ways_steps a_ways_firstThrows a_ways_lastThrows a_ways_reached a_ways_reachedCount, w_X0 cI cR (fun i => a (i + 20)) a_history_rs a_history_oldest a_history_size, w_X5 cI cR (a 52) (a 53) (a 54) (a 55) (a 56) (a 57) a_slotZero_kept a_slotZero_filled, w_X5 cI cR (a 58) (a 59) (a 60) (a 61) (a 62) (a 63) a_slotOne_kept a_slotOne_filled] (by decide : ([2] ++ [0, 1, 3, 4, 5, 6, 7, 8] : List Nat).Perm (List.range 9)) rfl rfl rfl rfl rfl hl.1 rfl (Nat.le_of_ble_eq_true rfl) dX7_comesRound_25 ⟨Nat.le_of_ble_eq_true rfl, Nat.le_of_ble_eq_true rfl⟩ (fun H locs Z => ?_)
      refine lv_pop hx hb dX7_comesRound_28 rfl ?_
      refine lv_aload_n hx hb dX7_comesRound_29 rfl (lv_at hl 0 rfl) ?_
      refine zg_X7_16 X Z 0 rfl rfl dX7_comesRound_30 ?_
      refine lv_aload_n hx hb dX7_comesRound_33 rfl (lv_at hl 0 rfl) ?_
      refine zg_X7_12 X Z 0 rfl rfl dX7_comesRound_34 ?_
      obtain ⟨q4, hq4, hf⟩ := ob_s hf
      refine z_roVN X Z (c_X4_standsLike l D cI cR (a 6) (a 7) (a 8) (a 9) (a 10) (a 1) (a 2) (a 3) (a 4) (a 5) q3.2 a_now  hq4) (zw_X7_162 X.2.1 X.1.2.2.2.2 ⟨Nat.le_of_ble_eq_true rfl, Nat.le_of_ble_eq_true rfl⟩) 6 4 rfl rfl rfl [2, 1] [0, 3, 4, 5, 6, 7, 8] (by decide : ([2, 1] ++ [0, 3, 4, 5, 6, 7, 8] : List Nat).Perm (List.range 9)) rfl rfl hl.1 rfl (Nat.le_of_ble_eq_true rfl) dX7_comesRound_37 ⟨Nat.le_of_ble_eq_true rfl, Nat.le_of_ble_eq_true rfl⟩ (fun H locs Z => ?_)
      refine lv_if_eq (tgt := 45) hx hb dX7_comesRound_40 (by decide) (fun c5 => ?_) (fun c5 => ?_)
      · have hf := it_t c5 hf
        refine lv_iinc (v := x1 + (1 : Int32)) (lv' := [(1, .int (x1 + (1 : Int32))), (0, .ref (a 0))]) hx hb dX7_comesRound_45 hl (k := 1) rfl rfl (by decide) rfl (fun ls hl => ?_)
        refine lv_goto (tgt := 13) hx hb dX7_comesRound_48 (by decide) ?_
        have Z : zW D A s [w_X7 cI cR a a_now q3.2 a_pad_codes a_pad_length a_padPattern_heights a_padPattern_length a_ways_steps a_ways_firstThrows a_ways_lastThrows a_ways_reached a_ways_reachedCount a_history_rs a_history_oldest a_history_size a_slotZero_kept a_slotZero_filled a_slotOne_kept a_slotOne_filled] _ _ := Z.eq rfl
        exact ih hf Z (lv_sub hl [1, 0] rfl)
      · have hf := it_f c5 hf
        refine lv_iload_n hx hb dX7_comesRound_43 rfl (lv_at hl 1 rfl) ?_
        have hR := so_s hf
        subst hR
        refine z_iret X hr hlocks ?_ dX7_comesRound_44
        exact Z.eq rfl

def f_X7_comesRound (a_now : ST) (a_ahead : ST) : Option (Int32 × ST) := (f_X4_become a_ahead a_now).bind (fun q1 => f_X7_comesRound_L13 a_now zF (1 : Int32) q1)
set_option maxHeartbeats 4000000 in
set_option maxRecDepth 100000 in
theorem c_X7_comesRound (l : Launch) (D : va_G) (cI cR : ClassId) (a : (Nat → Nat)) (a_now : ST) (a_ahead : ST) (a_pad_codes : (Nat → Int32)) (a_pad_length : Int32) (a_padPattern_heights : (Nat → Int32)) (a_padPattern_length : Int32) (a_ways_steps : (Nat → Int32)) (a_ways_firstThrows : (Nat → Int32)) (a_ways_lastThrows : (Nat → Int32)) (a_ways_reached : (Nat → Int32)) (a_ways_reachedCount : Int32) (a_history_rs : (Nat → ST)) (a_history_oldest : Int32) (a_history_size : Int32) (a_slotZero_kept : ST) (a_slotZero_filled : Int32) (a_slotOne_kept : ST) (a_slotOne_filled : Int32) {R : Int32 × ST} (hf : f_X7_comesRound a_now a_ahead = some R) : zM l D cI cR yX7_comesRound cX7_comesRound 2 (some .int) 4 90 [.ref (a 0)] [w_X7 cI cR a a_now a_ahead a_pad_codes a_pad_length a_padPattern_heights a_padPattern_length a_ways_steps a_ways_firstThrows a_ways_lastThrows a_ways_reached a_ways_reachedCount a_history_rs a_history_oldest a_history_size a_slotZero_kept a_slotZero_filled a_slotOne_kept a_slotOne_filled] (some (.int R.1)) [w_X7 cI cR a a_now R.2 a_pad_codes a_pad_length a_padPattern_heights a_padPattern_length a_ways_steps a_ways_firstThrows a_ways_lastThrows a_ways_reached a_ways_reachedCount a_history_rs a_history_oldest a_history_size a_slotZero_kept a_slotZero_filled a_slotOne_kept a_slotOne_filled] := by
  refine z_of (own := RX7) rfl (by decide) (Nat.le_of_ble_eq_true rfl) ?_
  intro p e s m args below meth c A ls X hr hlocks Z hl
  have hx := X.1.1
  have hb := X.1.2.1
  have Z : zW D A s [w_X7 cI cR a a_now a_ahead a_pad_codes a_pad_length a_padPattern_heights a_padPattern_length a_ways_steps a_ways_firstThrows a_ways_lastThrows a_ways_reached a_ways_reachedCount a_history_rs a_history_oldest a_history_size a_slotZero_kept a_slotZero_filled a_slotOne_kept a_slotOne_filled] s.heap [] := Z
  have hl : lv_has ls 2 [(0, .ref (a 0))] := hl
  refine lv_aload_n hx hb dX7_comesRound_0 rfl (lv_at hl 0 rfl) ?_
  refine zg_X7_16 X Z 0 rfl rfl dX7_comesRound_1 ?_
  refine lv_aload_n hx hb dX7_comesRound_4 rfl (lv_at hl 0 rfl) ?_
  refine zg_X7_12 X Z 0 rfl rfl dX7_comesRound_5 ?_
  have Z : zW D A s [[((a 0), .inr (7, [.ref (a 1), .ref (a 6), .ref (a 11), .ref (a 13), .ref (a 15), .ref (a 20), .ref (a 52), .ref (a 58)]))], w_X4 cI cR (a 1) (a 2) (a 3) (a 4) (a 5) a_now, w_X4 cI cR (a 6) (a 7) (a 8) (a 9) (a 10) a_ahead, w_X2 cI cR (a 11) (a 12) a_pad_codes a_pad_length, w_X3 cI cR (a 13) (a 14) a_padPattern_heights a_padPattern_length, w_X6 cI cR (a 15) (a 16) (a 17) (a 18) (a 19) a_ways_steps a_ways_firstThrows a_ways_lastThrows a_ways_reached a_ways_reachedCount, w_X0 cI cR (fun i => a (i + 20)) a_history_rs a_history_oldest a_history_size, w_X5 cI cR (a 52) (a 53) (a 54) (a 55) (a 56) (a 57) a_slotZero_kept a_slotZero_filled, w_X5 cI cR (a 58) (a 59) (a 60) (a 61) (a 62) (a 63) a_slotOne_kept a_slotOne_filled] _ _ := Z.eq rfl
  obtain ⟨q1, hq1, hf⟩ := ob_s hf
  refine z_callVN X Z (c_X4_become l D cI cR (a 6) (a 7) (a 8) (a 9) (a 10) (a 1) (a 2) (a 3) (a 4) (a 5) a_ahead a_now  hq1) (zw_X7_159 X.2.1 X.1.2.2.2.2 ⟨Nat.le_of_ble_eq_true rfl, Nat.le_of_ble_eq_true rfl⟩) 6 4 rfl rfl rfl [2, 1] [0, 3, 4, 5, 6, 7, 8] [[((a 0), .inr (7, [.ref (a 1), .ref (a 6), .ref (a 11), .ref (a 13), .ref (a 15), .ref (a 20), .ref (a 52), .ref (a 58)]))], w_X4 cI cR (a 1) (a 2) (a 3) (a 4) (a 5) a_now, w_X4 cI cR (a 6) (a 7) (a 8) (a 9) (a 10) q1, w_X2 cI cR (a 11) (a 12) a_pad_codes a_pad_length, w_X3 cI cR (a 13) (a 14) a_padPattern_heights a_padPattern_length, w_X6 cI cR (a 15) (a 16) (a 17) (a 18) (a 19) a_ways_steps a_ways_firstThrows a_ways_lastThrows a_ways_reached a_ways_reachedCount, w_X0 cI cR (fun i => a (i + 20)) a_history_rs a_history_oldest a_history_size, w_X5 cI cR (a 52) (a 53) (a 54) (a 55) (a 56) (a 57) a_slotZero_kept a_slotZero_filled, w_X5 cI cR (a 58) (a 59) (a 60) (a 61) (a 62) (a 63) a_slotOne_kept a_slotOne_filled] (by decide : ([2, 1] ++ [0, 3, 4, 5, 6, 7, 8] : List Nat).Perm (List.range 9)) rfl rfl rfl rfl rfl hl.1 rfl (Nat.le_of_ble_eq_true rfl) dX7_comesRound_8 ⟨Nat.le_of_ble_eq_true rfl, Nat.le_of_ble_eq_true rfl⟩ (fun H locs Z => ?_)
  refine lv_iconst (v := 1) hx hb dX7_comesRound_11 (by decide) ?_
  refine lv_istore_n (lv' := [(1, .int (1 : Int32)), (0, .ref (a 0))]) hx hb dX7_comesRound_12 rfl hl (by decide) rfl (fun ls hl => ?_)
  have Z : zW D A s [w_X7 cI cR a a_now q1 a_pad_codes a_pad_length a_padPattern_heights a_padPattern_length a_ways_steps a_ways_firstThrows a_ways_lastThrows a_ways_reached a_ways_reachedCount a_history_rs a_history_oldest a_history_size a_slotZero_kept a_slotZero_filled a_slotOne_kept a_slotOne_filled] _ _ := Z.eq rfl
  exact w_X7_comesRound_L13 X hr hlocks _ hf Z (lv_sub hl [1, 0] rfl)
def f_X7_stateBehind (a_now : ST) (a_ahead : ST) (p1 : Int32) (p2 : Int32) : Option (Int32 × ST) := (f_X7_isJuggler p1).bind (fun q1 => if q1 = 0 then (some ((-1 : Int32), a_ahead)) else ((f_X7_isWithin p2 (1 : Int32) (200 : Int32)).bind (fun q3 => if q3 = 0 then (some ((-2 : Int32), a_ahead)) else ((f_X4_become a_ahead a_now).bind (fun q5 => (f_X4_play q5 p2).bind (fun q6 => if p1 = 0 then (some (q6.2.1.1, q6.2)) else (some (q6.2.2.1.1, q6.2))))))))
set_option maxHeartbeats 4000000 in
set_option maxRecDepth 100000 in
theorem c_X7_stateBehind (l : Launch) (D : va_G) (cI cR : ClassId) (a : (Nat → Nat)) (a_now : ST) (a_ahead : ST) (a_pad_codes : (Nat → Int32)) (a_pad_length : Int32) (a_padPattern_heights : (Nat → Int32)) (a_padPattern_length : Int32) (a_ways_steps : (Nat → Int32)) (a_ways_firstThrows : (Nat → Int32)) (a_ways_lastThrows : (Nat → Int32)) (a_ways_reached : (Nat → Int32)) (a_ways_reachedCount : Int32) (a_history_rs : (Nat → ST)) (a_history_oldest : Int32) (a_history_size : Int32) (a_slotZero_kept : ST) (a_slotZero_filled : Int32) (a_slotOne_kept : ST) (a_slotOne_filled : Int32) (p1 : Int32) (p2 : Int32) {R : Int32 × ST} (hf : f_X7_stateBehind a_now a_ahead p1 p2 = some R) : zM l D cI cR yX7_stateBehind cX7_stateBehind 3 (some .int) 4 90 [.ref (a 0), .int p1, .int p2] [w_X7 cI cR a a_now a_ahead a_pad_codes a_pad_length a_padPattern_heights a_padPattern_length a_ways_steps a_ways_firstThrows a_ways_lastThrows a_ways_reached a_ways_reachedCount a_history_rs a_history_oldest a_history_size a_slotZero_kept a_slotZero_filled a_slotOne_kept a_slotOne_filled] (some (.int R.1)) [w_X7 cI cR a a_now R.2 a_pad_codes a_pad_length a_padPattern_heights a_padPattern_length a_ways_steps a_ways_firstThrows a_ways_lastThrows a_ways_reached a_ways_reachedCount a_history_rs a_history_oldest a_history_size a_slotZero_kept a_slotZero_filled a_slotOne_kept a_slotOne_filled] := by
  refine z_of (own := RX7) rfl (by decide) (Nat.le_of_ble_eq_true rfl) ?_
  intro p e s m args below meth c A ls X hr hlocks Z hl
  have hx := X.1.1
  have hb := X.1.2.1
  have Z : zW D A s [w_X7 cI cR a a_now a_ahead a_pad_codes a_pad_length a_padPattern_heights a_padPattern_length a_ways_steps a_ways_firstThrows a_ways_lastThrows a_ways_reached a_ways_reachedCount a_history_rs a_history_oldest a_history_size a_slotZero_kept a_slotZero_filled a_slotOne_kept a_slotOne_filled] s.heap [] := Z
  have hl : lv_has ls 3 [(0, .ref (a 0)), (1, .int p1), (2, .int p2)] := hl
  refine lv_iload_n hx hb dX7_stateBehind_0 rfl (lv_at hl 1 rfl) ?_
  obtain ⟨q1, hq1, hf⟩ := ob_s hf
  refine z_roS X Z (c_X7_isJuggler l D cI cR   p1 hq1) (zw_X7_101 X.1.2.2.2.2 ⟨Nat.le_of_ble_eq_true rfl, Nat.le_of_ble_eq_true rfl⟩) [] [0] (by decide : ([] ++ [0] : List Nat).Perm (List.range 1)) rfl rfl hl.1 rfl (Nat.le_of_ble_eq_true rfl) dX7_stateBehind_1 ⟨Nat.le_of_ble_eq_true rfl, Nat.le_of_ble_eq_true rfl⟩ (fun H locs Z => ?_)
  refine lv_if_ne (tgt := 9) hx hb dX7_stateBehind_4 (by decide) (fun c2 => ?_) (fun c2 => ?_)
  · have hf := it_f c2 hf
    refine lv_iload_n hx hb dX7_stateBehind_9 rfl (lv_at hl 2 rfl) ?_
    refine lv_iconst (v := 1) hx hb dX7_stateBehind_10 (by decide) ?_
    refine lv_sipush (v := 200) hx hb dX7_stateBehind_11 (by decide) ?_
    obtain ⟨q3, hq3, hf⟩ := ob_s hf
    refine z_roS X Z (c_X7_isWithin l D cI cR   p2 (1 : Int32) (200 : Int32) hq3) (zw_X7_57 X.1.2.2.2.2 ⟨Nat.le_of_ble_eq_true rfl, Nat.le_of_ble_eq_true rfl⟩) [] [0] (by decide : ([] ++ [0] : List Nat).Perm (List.range 1)) rfl rfl hl.1 rfl (Nat.le_of_ble_eq_true rfl) dX7_stateBehind_14 ⟨Nat.le_of_ble_eq_true rfl, Nat.le_of_ble_eq_true rfl⟩ (fun H locs Z => ?_)
    refine lv_if_ne (tgt := 23) hx hb dX7_stateBehind_17 (by decide) (fun c4 => ?_) (fun c4 => ?_)
    · have hf := it_f c4 hf
      refine lv_aload_n hx hb dX7_stateBehind_23 rfl (lv_at hl 0 rfl) ?_
      refine zg_X7_16 X Z 0 rfl rfl dX7_stateBehind_24 ?_
      refine lv_aload_n hx hb dX7_stateBehind_27 rfl (lv_at hl 0 rfl) ?_
      refine zg_X7_12 X Z 0 rfl rfl dX7_stateBehind_28 ?_
      have Z : zW D A s [[((a 0), .inr (7, [.ref (a 1), .ref (a 6), .ref (a 11), .ref (a 13), .ref (a 15), .ref (a 20), .ref (a 52), .ref (a 58)]))], w_X4 cI cR (a 1) (a 2) (a 3) (a 4) (a 5) a_now, w_X4 cI cR (a 6) (a 7) (a 8) (a 9) (a 10) a_ahead, w_X2 cI cR (a 11) (a 12) a_pad_codes a_pad_length, w_X3 cI cR (a 13) (a 14) a_padPattern_heights a_padPattern_length, w_X6 cI cR (a 15) (a 16) (a 17) (a 18) (a 19) a_ways_steps a_ways_firstThrows a_ways_lastThrows a_ways_reached a_ways_reachedCount, w_X0 cI cR (fun i => a (i + 20)) a_history_rs a_history_oldest a_history_size, w_X5 cI cR (a 52) (a 53) (a 54) (a 55) (a 56) (a 57) a_slotZero_kept a_slotZero_filled, w_X5 cI cR (a 58) (a 59) (a 60) (a 61) (a 62) (a 63) a_slotOne_kept a_slotOne_filled] _ _ := Z.eq rfl
      obtain ⟨q5, hq5, hf⟩ := ob_s hf
      refine z_callVN X Z (c_X4_become l D cI cR (a 6) (a 7) (a 8) (a 9) (a 10) (a 1) (a 2) (a 3) (a 4) (a 5) a_ahead a_now  hq5) (zw_X7_159 X.2.1 X.1.2.2.2.2 ⟨Nat.le_of_ble_eq_true rfl, Nat.le_of_ble_eq_true rfl⟩) 6 4 rfl rfl rfl [2, 1] [0, 3, 4, 5, 6, 7, 8] [[((a 0), .inr (7, [.ref (a 1), .ref (a 6), .ref (a 11), .ref (a 13), .ref (a 15), .ref (a 20), .ref (a 52), .ref (a 58)]))], w_X4 cI cR (a 1) (a 2) (a 3) (a 4) (a 5) a_now, w_X4 cI cR (a 6) (a 7) (a 8) (a 9) (a 10) q5, w_X2 cI cR (a 11) (a 12) a_pad_codes a_pad_length, w_X3 cI cR (a 13) (a 14) a_padPattern_heights a_padPattern_length, w_X6 cI cR (a 15) (a 16) (a 17) (a 18) (a 19) a_ways_steps a_ways_firstThrows a_ways_lastThrows a_ways_reached a_ways_reachedCount, w_X0 cI cR (fun i => a (i + 20)) a_history_rs a_history_oldest a_history_size, w_X5 cI cR (a 52) (a 53) (a 54) (a 55) (a 56) (a 57) a_slotZero_kept a_slotZero_filled, w_X5 cI cR (a 58) (a 59) (a 60) (a 61) (a 62) (a 63) a_slotOne_kept a_slotOne_filled] (by decide : ([2, 1] ++ [0, 3, 4, 5, 6, 7, 8] : List Nat).Perm (List.range 9)) rfl rfl rfl rfl rfl hl.1 rfl (Nat.le_of_ble_eq_true rfl) dX7_stateBehind_31 ⟨Nat.le_of_ble_eq_true rfl, Nat.le_of_ble_eq_true rfl⟩ (fun H locs Z => ?_)
      refine lv_aload_n hx hb dX7_stateBehind_34 rfl (lv_at hl 0 rfl) ?_
      refine zg_X7_16 X Z 0 rfl rfl dX7_stateBehind_35 ?_
      refine lv_iload_n hx hb dX7_stateBehind_38 rfl (lv_at hl 2 rfl) ?_
      obtain ⟨q6, hq6, hf⟩ := ob_s hf
      refine z_callVN X Z (c_X4_play l D cI cR (a 6) (a 7) (a 8) (a 9) (a 10) q5 p2 hq6) (zw_X7_98 X.2.1 X.1.2.2.2.2 ⟨Nat.le_of_ble_eq_true rfl, Nat.le_of_ble_eq_true rfl⟩) 6 4 rfl rfl rfl [2] [0, 1, 3, 4, 5, 6, 7, 8] [[((a 0), .inr (7, [.ref (a 1), .ref (a 6), .ref (a 11), .ref (a 13), .ref (a 15), .ref (a 20), .ref (a 52), .ref (a 58)]))], w_X4 cI cR (a 1) (a 2) (a 3) (a 4) (a 5) a_now, w_X4 cI cR (a 6) (a 7) (a 8) (a 9) (a 10) q6.2, w_X2 cI cR (a 11) (a 12) a_pad_codes a_pad_length, w_X3 cI cR (a 13) (a 14) a_padPattern_heights a_padPattern_length, w_X6 cI cR (a 15) (a 16) (a 17) (a 18) (a 19) a_ways_steps a_ways_firstThrows a_ways_lastThrows a_ways_reached a_ways_reachedCount, w_X0 cI cR (fun i => a (i + 20)) a_history_rs a_history_oldest a_history_size, w_X5 cI cR (a 52) (a 53) (a 54) (a 55) (a 56) (a 57) a_slotZero_kept a_slotZero_filled, w_X5 cI cR (a 58) (a 59) (a 60) (a 61) (a 62) (a 63) a_slotOne_kept a_slotOne_filled] (by decide : ([2] ++ [0, 1, 3, 4, 5, 6, 7, 8] : List Nat).Perm (List.range 9)) rfl rfl rfl rfl rfl hl.1 rfl (Nat.le_of_ble_eq_true rfl) dX7_stateBehind_39 ⟨Nat.le_of_ble_eq_true rfl, Nat.le_of_ble_eq_true rfl⟩ (fun H locs Z => ?_)
      refine lv_pop hx hb dX7_stateBehind_42 rfl ?_
      refine lv_aload_n hx hb dX7_stateBehind_43 rfl (lv_at hl 0 rfl) ?_
      refine zg_X7_16 X Z 0 rfl rfl dX7_stateBehind_44 ?_
      refine lv_iload_n hx hb dX7_stateBehind_47 rfl (lv_at hl 1 rfl) ?_
      have Z : zW D A s [[((a 0), .inr (7, [.ref (a 1), .ref (a 6), .ref (a 11), .ref (a 13), .ref (a 15), .ref (a 20), .ref (a 52), .ref (a 58)]))], w_X4 cI cR (a 1) (a 2) (a 3) (a 4) (a 5) a_now, [((a 6), .inr (4, [.ref (a 7), .ref (a 9), .int q6.2.2.2.1, .int q6.2.2.2.2.1, .int q6.2.2.2.2.2.1, .int q6.2.2.2.2.2.2]))], w_X1 cI cR (a 7) (a 8) q6.2.1.1 q6.2.1.2.1 q6.2.1.2.2.1 q6.2.1.2.2.2.1 q6.2.1.2.2.2.2.1 q6.2.1.2.2.2.2.2.1 q6.2.1.2.2.2.2.2.2, w_X1 cI cR (a 9) (a 10) q6.2.2.1.1 q6.2.2.1.2.1 q6.2.2.1.2.2.1 q6.2.2.1.2.2.2.1 q6.2.2.1.2.2.2.2.1 q6.2.2.1.2.2.2.2.2.1 q6.2.2.1.2.2.2.2.2.2, w_X2 cI cR (a 11) (a 12) a_pad_codes a_pad_length, w_X3 cI cR (a 13) (a 14) a_padPattern_heights a_padPattern_length, w_X6 cI cR (a 15) (a 16) (a 17) (a 18) (a 19) a_ways_steps a_ways_firstThrows a_ways_lastThrows a_ways_reached a_ways_reachedCount, w_X0 cI cR (fun i => a (i + 20)) a_history_rs a_history_oldest a_history_size, w_X5 cI cR (a 52) (a 53) (a 54) (a 55) (a 56) (a 57) a_slotZero_kept a_slotZero_filled, w_X5 cI cR (a 58) (a 59) (a 60) (a 61) (a 62) (a 63) a_slotOne_kept a_slotOne_filled] _ _ := Z.eq rfl
      rcases Decidable.em (p1 = 0) with c7 | c7
      · have hf := it_t c7 hf
        refine z_roVN X Z (c_X4_juggler_0 l D cI cR (a 6) (a 7) (a 9) q6.2.2.2.1 q6.2.2.2.2.1 q6.2.2.2.2.2.1 q6.2.2.2.2.2.2 p1 c7) (zw_X7_80 X.2.1 X.1.2.2.2.2 ⟨Nat.le_of_ble_eq_true rfl, Nat.le_of_ble_eq_true rfl⟩) 6 4 rfl rfl rfl [2] [0, 1, 3, 4, 5, 6, 7, 8, 9, 10] (by decide : ([2] ++ [0, 1, 3, 4, 5, 6, 7, 8, 9, 10] : List Nat).Perm (List.range 11)) rfl rfl hl.1 rfl (Nat.le_of_ble_eq_true rfl) dX7_stateBehind_48 ⟨Nat.le_of_ble_eq_true rfl, Nat.le_of_ble_eq_true rfl⟩ (fun H locs Z => ?_)
        refine zg_X7_121 X Z 7 rfl rfl dX7_stateBehind_51 ?_
        have hR := so_s hf
        subst hR
        refine z_iret X hr hlocks ?_ dX7_stateBehind_54
        exact Z.eq rfl
      · have hf := it_f c7 hf
        refine z_roVN X Z (c_X4_juggler_1 l D cI cR (a 6) (a 7) (a 9) q6.2.2.2.1 q6.2.2.2.2.1 q6.2.2.2.2.2.1 q6.2.2.2.2.2.2 p1 c7) (zw_X7_80 X.2.1 X.1.2.2.2.2 ⟨Nat.le_of_ble_eq_true rfl, Nat.le_of_ble_eq_true rfl⟩) 6 4 rfl rfl rfl [2] [0, 1, 3, 4, 5, 6, 7, 8, 9, 10] (by decide : ([2] ++ [0, 1, 3, 4, 5, 6, 7, 8, 9, 10] : List Nat).Perm (List.range 11)) rfl rfl hl.1 rfl (Nat.le_of_ble_eq_true rfl) dX7_stateBehind_48 ⟨Nat.le_of_ble_eq_true rfl, Nat.le_of_ble_eq_true rfl⟩ (fun H locs Z => ?_)
        refine zg_X7_121 X Z 9 rfl rfl dX7_stateBehind_51 ?_
        have hR := so_s hf
        subst hR
        refine z_iret X hr hlocks ?_ dX7_stateBehind_54
        exact Z.eq rfl
    · have hf := it_t c4 hf
      refine lv_bipush (v := -2) hx hb dX7_stateBehind_20 (by decide) ?_
      have hR := so_s hf
      subst hR
      refine z_iret X hr hlocks ?_ dX7_stateBehind_22
      exact Z.eq rfl
  · have hf := it_t c2 hf
    refine lv_iconst (v := -1) hx hb dX7_stateBehind_7 (by decide) ?_
    have hR := so_s hf
    subst hR
    refine z_iret X hr hlocks ?_ dX7_stateBehind_8
    exact Z.eq rfl
