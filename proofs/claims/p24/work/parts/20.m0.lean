def f_L_up (p0 : Int32) (p1 : Int32) : Option (Int32) := if p1 = 0 then none else (some ((p0 &&& (2147483647 : Int32)) - (p0 &&& (2147483647 : Int32)) / p1 * p1))
set_option maxHeartbeats 4000000 in
set_option maxRecDepth 100000 in
theorem c_L_up (l : Launch) (D : va_G) (cI cR : ClassId) (p0 : Int32) (p1 : Int32) {R : Int32} (hf : f_L_up p0 p1 = some R) : zM l D cI cR yL_up cL_up 2 (some .int) 0 0 [.int p0, .int p1] [] (some (.int R)) [] := by
  refine z_of (own := RL) rfl (by decide) (Nat.le_of_ble_eq_true rfl) ?_
  intro p e s m args below meth c A ls X hr hlocks Z hl
  have hx := X.1.1
  have hb := X.1.2.1
  have Z : zW D A s [] s.heap [] := Z
  have hl : lv_has ls 2 [(0, .int p0), (1, .int p1)] := hl
  refine lv_iload_n hx hb dL_up_0 rfl (lv_at hl 0 rfl) ?_
  refine lv_ldc hx hb X.1.2.2.2.1 (X.1.2.2.2.2 _ mk_L_8) dL_up_1 ?_
  refine lv_iand hx hb dL_up_3 ?_
  refine lv_iload_n hx hb dL_up_4 rfl (lv_at hl 1 rfl) ?_
  obtain ⟨i1, hf⟩ := in_s hf
  refine lv_irem hx hb dL_up_5 i1 ?_
  have hR := so_s hf
  subst hR
  refine z_iret X hr hlocks ?_ dL_up_6
  exact Z.eq rfl
def f_L_isRound (a_now : ST) (a_ahead : ST) (a_pad_length : Int32) (a_history_rs : (Nat → ST)) (a_history_oldest : Int32) (a_history_size : Int32) : Option (Int32 × ST × ST × (Nat → ST) × Int32 × Int32) := (f_X7_comesRound a_now a_ahead).bind (fun q1 => (f_X7_firstDrop a_now q1.2).bind (fun q2 => if 0 ≤ q1.1 then (if q2.1 = (-6 : Int32) then (if q1.1 < (1 : Int32) then (if (100 : Int32) < q1.1 then (some ((0 : Int32), a_now, q2.2, a_history_rs, a_history_oldest, a_history_size)) else (some ((0 : Int32), a_now, q2.2, a_history_rs, a_history_oldest, a_history_size))) else (if (1000 : Int32) < q1.1 then (if (100 : Int32) < q1.1 then (some ((0 : Int32), a_now, q2.2, a_history_rs, a_history_oldest, a_history_size)) else (some ((0 : Int32), a_now, q2.2, a_history_rs, a_history_oldest, a_history_size))) else (if (100 : Int32) < q1.1 then ((f_X7_count a_now a_pad_length a_history_size (2 : Int32)).bind (fun q21 => (f_X7_count a_now a_pad_length a_history_size (1 : Int32)).bind (fun q22 => if q22 < q21 then (some ((1 : Int32), a_now, q2.2, a_history_rs, a_history_oldest, a_history_size)) else ((f_X7_of a_now (0 : Int32) (0 : Int32)).bind (fun q24 => (f_X7_of a_now (1 : Int32) (0 : Int32)).bind (fun q25 => if (q24 + q25) = 0 then (some ((1 : Int32), a_now, q2.2, a_history_rs, a_history_oldest, a_history_size)) else (some ((0 : Int32), a_now, q2.2, a_history_rs, a_history_oldest, a_history_size)))))))) else ((f_X7_stateBehind a_now q2.2 (0 : Int32) q1.1).bind (fun q28 => (f_X7_of a_now (0 : Int32) (0 : Int32)).bind (fun q29 => if q28.1 = q29 then ((f_X7_stateBehind a_now q28.2 (1 : Int32) ((2 : Int32) * q1.1)).bind (fun q32 => (f_X7_of a_now (1 : Int32) (0 : Int32)).bind (fun q33 => if q32.1 = q33 then ((f_X7_pass a_now a_history_rs a_history_oldest a_history_size ((2 : Int32) * q1.1)).bind (fun q36 => if q36.1 = 0 then ((f_X7_comesRound q36.2.1 q32.2).bind (fun q39 => if q39.1 = q1.1 then ((f_X7_undo q36.2.1 q36.2.2.1 q36.2.2.2.1 q36.2.2.2.2).bind (fun q42 => if q42.1 < 0 then (some ((0 : Int32), q42.2.1, q39.2, q36.2.2.1, q36.2.2.2.1, q42.2.2)) else ((f_X7_count q42.2.1 a_pad_length q42.2.2 (2 : Int32)).bind (fun q46 => (f_X7_count q42.2.1 a_pad_length q42.2.2 (1 : Int32)).bind (fun q47 => if q47 < q46 then (some ((1 : Int32), q42.2.1, q39.2, q36.2.2.1, q36.2.2.2.1, q42.2.2)) else ((f_X7_of q42.2.1 (0 : Int32) (0 : Int32)).bind (fun q49 => (f_X7_of q42.2.1 (1 : Int32) (0 : Int32)).bind (fun q50 => if (q49 + q50) = 0 then (some ((1 : Int32), q42.2.1, q39.2, q36.2.2.1, q36.2.2.2.1, q42.2.2)) else (some ((0 : Int32), q42.2.1, q39.2, q36.2.2.1, q36.2.2.2.1, q42.2.2)))))))))) else (some ((0 : Int32), q36.2.1, q39.2, q36.2.2.1, q36.2.2.2.1, q36.2.2.2.2)))) else (some ((0 : Int32), q36.2.1, q32.2, q36.2.2.1, q36.2.2.2.1, q36.2.2.2.2)))) else (some ((0 : Int32), a_now, q32.2, a_history_rs, a_history_oldest, a_history_size))))) else (some ((0 : Int32), a_now, q28.2, a_history_rs, a_history_oldest, a_history_size)))))))) else (if (100 : Int32) < q1.1 then (some ((0 : Int32), a_now, q2.2, a_history_rs, a_history_oldest, a_history_size)) else (some ((0 : Int32), a_now, q2.2, a_history_rs, a_history_oldest, a_history_size)))) else (if q1.1 = (-6 : Int32) then (some ((1 : Int32), a_now, q2.2, a_history_rs, a_history_oldest, a_history_size)) else (some ((0 : Int32), a_now, q2.2, a_history_rs, a_history_oldest, a_history_size)))))
set_option maxHeartbeats 4000000 in
set_option maxRecDepth 100000 in
theorem c_L_isRound (l : Launch) (D : va_G) (cI cR : ClassId) (a : (Nat → Nat)) (a_now : ST) (a_ahead : ST) (a_pad_codes : (Nat → Int32)) (a_pad_length : Int32) (a_padPattern_heights : (Nat → Int32)) (a_padPattern_length : Int32) (a_ways_steps : (Nat → Int32)) (a_ways_firstThrows : (Nat → Int32)) (a_ways_lastThrows : (Nat → Int32)) (a_ways_reached : (Nat → Int32)) (a_ways_reachedCount : Int32) (a_history_rs : (Nat → ST)) (a_history_oldest : Int32) (a_history_size : Int32) (a_slotZero_kept : ST) (a_slotZero_filled : Int32) (a_slotOne_kept : ST) (a_slotOne_filled : Int32) {R : Int32 × ST × ST × (Nat → ST) × Int32 × Int32} (hf : f_L_isRound a_now a_ahead a_pad_length a_history_rs a_history_oldest a_history_size = some R) : zM l D cI cR yL_isRound cL_isRound 4 (some .boolean) 6 128 [.ref (a 0)] [w_X7 cI cR a a_now a_ahead a_pad_codes a_pad_length a_padPattern_heights a_padPattern_length a_ways_steps a_ways_firstThrows a_ways_lastThrows a_ways_reached a_ways_reachedCount a_history_rs a_history_oldest a_history_size a_slotZero_kept a_slotZero_filled a_slotOne_kept a_slotOne_filled] (some (.int R.1)) [w_X7 cI cR a R.2.1 R.2.2.1 a_pad_codes a_pad_length a_padPattern_heights a_padPattern_length a_ways_steps a_ways_firstThrows a_ways_lastThrows a_ways_reached a_ways_reachedCount R.2.2.2.1 R.2.2.2.2.1 R.2.2.2.2.2 a_slotZero_kept a_slotZero_filled a_slotOne_kept a_slotOne_filled] := by
  refine z_of (own := RL) rfl (by decide) (Nat.le_of_ble_eq_true rfl) ?_
  intro p e s m args below meth c A ls X hr hlocks Z hl
  have hx := X.1.1
  have hb := X.1.2.1
  have Z : zW D A s [w_X7 cI cR a a_now a_ahead a_pad_codes a_pad_length a_padPattern_heights a_padPattern_length a_ways_steps a_ways_firstThrows a_ways_lastThrows a_ways_reached a_ways_reachedCount a_history_rs a_history_oldest a_history_size a_slotZero_kept a_slotZero_filled a_slotOne_kept a_slotOne_filled] s.heap [] := Z
  have hl : lv_has ls 4 [(0, .ref (a 0))] := hl
  refine lv_aload_n hx hb dL_isRound_0 rfl (lv_at hl 0 rfl) ?_
  obtain ⟨q1, hq1, hf⟩ := ob_s hf
  refine z_callV X Z (c_X7_comesRound l D cI cR a a_now a_ahead a_pad_codes a_pad_length a_padPattern_heights a_padPattern_length a_ways_steps a_ways_firstThrows a_ways_lastThrows a_ways_reached a_ways_reachedCount a_history_rs a_history_oldest a_history_size a_slotZero_kept a_slotZero_filled a_slotOne_kept a_slotOne_filled  hq1) (zw_L_60 X.1.2.2.2.2 ⟨Nat.le_of_ble_eq_true rfl, Nat.le_of_ble_eq_true rfl⟩) 0 7 rfl rfl rfl [0] [] [w_X7 cI cR a a_now q1.2 a_pad_codes a_pad_length a_padPattern_heights a_padPattern_length a_ways_steps a_ways_firstThrows a_ways_lastThrows a_ways_reached a_ways_reachedCount a_history_rs a_history_oldest a_history_size a_slotZero_kept a_slotZero_filled a_slotOne_kept a_slotOne_filled] (by decide : ([0] ++ [] : List Nat).Perm (List.range 1)) rfl rfl rfl rfl rfl hl.1 rfl (Nat.le_of_ble_eq_true rfl) dL_isRound_1 ⟨Nat.le_of_ble_eq_true rfl, Nat.le_of_ble_eq_true rfl⟩ (fun H locs Z => ?_)
  refine lv_istore_n (lv' := [(1, .int q1.1), (0, .ref (a 0))]) hx hb dL_isRound_4 rfl hl (by decide) rfl (fun ls hl => ?_)
  refine lv_aload_n hx hb dL_isRound_5 rfl (lv_at hl 1 rfl) ?_
  obtain ⟨q2, hq2, hf⟩ := ob_s hf
  refine z_callV X Z (c_X7_firstDrop l D cI cR a a_now q1.2 a_pad_codes a_pad_length a_padPattern_heights a_padPattern_length a_ways_steps a_ways_firstThrows a_ways_lastThrows a_ways_reached a_ways_reachedCount a_history_rs a_history_oldest a_history_size a_slotZero_kept a_slotZero_filled a_slotOne_kept a_slotOne_filled  hq2) (zw_L_51 X.1.2.2.2.2 ⟨Nat.le_of_ble_eq_true rfl, Nat.le_of_ble_eq_true rfl⟩) 0 7 rfl rfl rfl [0] [] [w_X7 cI cR a a_now q2.2 a_pad_codes a_pad_length a_padPattern_heights a_padPattern_length a_ways_steps a_ways_firstThrows a_ways_lastThrows a_ways_reached a_ways_reachedCount a_history_rs a_history_oldest a_history_size a_slotZero_kept a_slotZero_filled a_slotOne_kept a_slotOne_filled] (by decide : ([0] ++ [] : List Nat).Perm (List.range 1)) rfl rfl rfl rfl rfl hl.1 rfl (Nat.le_of_ble_eq_true rfl) dL_isRound_6 ⟨Nat.le_of_ble_eq_true rfl, Nat.le_of_ble_eq_true rfl⟩ (fun H locs Z => ?_)
  refine lv_istore_n (lv' := [(2, .int q2.1), (1, .int q1.1), (0, .ref (a 0))]) hx hb dL_isRound_9 rfl hl (by decide) rfl (fun ls hl => ?_)
  refine lv_iload_n hx hb dL_isRound_10 rfl (lv_at hl 1 rfl) ?_
  refine lv_if_ge (tgt := 26) hx hb dL_isRound_11 (by decide) (fun c3 => ?_) (fun c3 => ?_)
  · have hf := it_t c3 hf
    refine lv_iload_n hx hb dL_isRound_26 rfl (lv_at hl 0 rfl) ?_
    refine lv_bipush (v := -6) hx hb dL_isRound_27 (by decide) ?_
    refine lv_icmp_ne (tgt := 48) hx hb dL_isRound_29 (by decide) (fun c4 => ?_) (fun c4 => ?_)
    · have hf := it_f c4 hf
      refine lv_iconst (v := 0) hx hb dL_isRound_48 (by decide) ?_
      refine lv_istore_n (lv' := [(3, .int (0 : Int32)), (2, .int q2.1), (1, .int q1.1), (0, .ref (a 0))]) hx hb dL_isRound_49 rfl hl (by decide) rfl (fun ls hl => ?_)
      refine lv_iload_n hx hb dL_isRound_50 rfl (lv_at hl 2 rfl) ?_
      refine lv_bipush (v := 100) hx hb dL_isRound_51 (by decide) ?_
      refine lv_icmp_gt (tgt := 123) hx hb dL_isRound_53 (by decide) (fun c5 => ?_) (fun c5 => ?_)
      · have hf := it_t c5 hf
        refine lv_iload_n hx hb dL_isRound_123 rfl (lv_at hl 0 rfl) ?_
        refine lv_if_eq (tgt := 160) hx hb dL_isRound_124 (by decide) (fun _ => ?_) (fun c6 => absurd (by decide) c6)
        refine lv_iconst (v := 0) hx hb dL_isRound_160 (by decide) ?_
        have hR := so_s hf
        subst hR
        refine z_zret X hr hlocks (Or.inl rfl) ?_ dL_isRound_161
        exact Z.eq rfl
      · have hf := it_f c5 hf
        refine lv_iload_n hx hb dL_isRound_56 rfl (lv_at hl 0 rfl) ?_
        refine lv_if_eq (tgt := 121) hx hb dL_isRound_57 (by decide) (fun _ => ?_) (fun c7 => absurd (by decide) c7)
        refine lv_iconst (v := 0) hx hb dL_isRound_121 (by decide) ?_
        refine lv_istore_n (lv' := [(3, .int (0 : Int32)), (2, .int q2.1), (1, .int q1.1), (0, .ref (a 0))]) hx hb dL_isRound_122 rfl hl (by decide) rfl (fun ls hl => ?_)
        refine lv_iload_n hx hb dL_isRound_123 rfl (lv_at hl 0 rfl) ?_
        refine lv_if_eq (tgt := 160) hx hb dL_isRound_124 (by decide) (fun _ => ?_) (fun c8 => absurd (by decide) c8)
        refine lv_iconst (v := 0) hx hb dL_isRound_160 (by decide) ?_
        have hR := so_s hf
        subst hR
        refine z_zret X hr hlocks (Or.inl rfl) ?_ dL_isRound_161
        exact Z.eq rfl
    · have hf := it_t c4 hf
      refine lv_iload_n hx hb dL_isRound_32 rfl (lv_at hl 1 rfl) ?_
      refine lv_iconst (v := 1) hx hb dL_isRound_33 (by decide) ?_
      refine lv_icmp_lt (tgt := 48) hx hb dL_isRound_34 (by decide) (fun c9 => ?_) (fun c9 => ?_)
      · have hf := it_t c9 hf
        refine lv_iconst (v := 0) hx hb dL_isRound_48 (by decide) ?_
        refine lv_istore_n (lv' := [(3, .int (0 : Int32)), (2, .int q2.1), (1, .int q1.1), (0, .ref (a 0))]) hx hb dL_isRound_49 rfl hl (by decide) rfl (fun ls hl => ?_)
        refine lv_iload_n hx hb dL_isRound_50 rfl (lv_at hl 2 rfl) ?_
        refine lv_bipush (v := 100) hx hb dL_isRound_51 (by decide) ?_
        refine lv_icmp_gt (tgt := 123) hx hb dL_isRound_53 (by decide) (fun c10 => ?_) (fun c10 => ?_)
        · have hf := it_t c10 hf
          refine lv_iload_n hx hb dL_isRound_123 rfl (lv_at hl 0 rfl) ?_
          refine lv_if_eq (tgt := 160) hx hb dL_isRound_124 (by decide) (fun _ => ?_) (fun c11 => absurd (by decide) c11)
          refine lv_iconst (v := 0) hx hb dL_isRound_160 (by decide) ?_
          have hR := so_s hf
          subst hR
          refine z_zret X hr hlocks (Or.inl rfl) ?_ dL_isRound_161
          exact Z.eq rfl
        · have hf := it_f c10 hf
          refine lv_iload_n hx hb dL_isRound_56 rfl (lv_at hl 0 rfl) ?_
          refine lv_if_eq (tgt := 121) hx hb dL_isRound_57 (by decide) (fun _ => ?_) (fun c12 => absurd (by decide) c12)
          refine lv_iconst (v := 0) hx hb dL_isRound_121 (by decide) ?_
          refine lv_istore_n (lv' := [(3, .int (0 : Int32)), (2, .int q2.1), (1, .int q1.1), (0, .ref (a 0))]) hx hb dL_isRound_122 rfl hl (by decide) rfl (fun ls hl => ?_)
          refine lv_iload_n hx hb dL_isRound_123 rfl (lv_at hl 0 rfl) ?_
          refine lv_if_eq (tgt := 160) hx hb dL_isRound_124 (by decide) (fun _ => ?_) (fun c13 => absurd (by decide) c13)
          refine lv_iconst (v := 0) hx hb dL_isRound_160 (by decide) ?_
          have hR := so_s hf
          subst hR
          refine z_zret X hr hlocks (Or.inl rfl) ?_ dL_isRound_161
          exact Z.eq rfl
      · have hf := it_f c9 hf
        refine lv_iload_n hx hb dL_isRound_37 rfl (lv_at hl 1 rfl) ?_
        refine lv_sipush (v := 1000) hx hb dL_isRound_38 (by decide) ?_
        refine lv_icmp_gt (tgt := 48) hx hb dL_isRound_41 (by decide) (fun c14 => ?_) (fun c14 => ?_)
        · have hf := it_t c14 hf
          refine lv_iconst (v := 0) hx hb dL_isRound_48 (by decide) ?_
          refine lv_istore_n (lv' := [(3, .int (0 : Int32)), (2, .int q2.1), (1, .int q1.1), (0, .ref (a 0))]) hx hb dL_isRound_49 rfl hl (by decide) rfl (fun ls hl => ?_)
          refine lv_iload_n hx hb dL_isRound_50 rfl (lv_at hl 2 rfl) ?_
          refine lv_bipush (v := 100) hx hb dL_isRound_51 (by decide) ?_
          refine lv_icmp_gt (tgt := 123) hx hb dL_isRound_53 (by decide) (fun c15 => ?_) (fun c15 => ?_)
          · have hf := it_t c15 hf
            refine lv_iload_n hx hb dL_isRound_123 rfl (lv_at hl 0 rfl) ?_
            refine lv_if_eq (tgt := 160) hx hb dL_isRound_124 (by decide) (fun _ => ?_) (fun c16 => absurd (by decide) c16)
            refine lv_iconst (v := 0) hx hb dL_isRound_160 (by decide) ?_
            have hR := so_s hf
            subst hR
            refine z_zret X hr hlocks (Or.inl rfl) ?_ dL_isRound_161
            exact Z.eq rfl
          · have hf := it_f c15 hf
            refine lv_iload_n hx hb dL_isRound_56 rfl (lv_at hl 0 rfl) ?_
            refine lv_if_eq (tgt := 121) hx hb dL_isRound_57 (by decide) (fun _ => ?_) (fun c17 => absurd (by decide) c17)
            refine lv_iconst (v := 0) hx hb dL_isRound_121 (by decide) ?_
            refine lv_istore_n (lv' := [(3, .int (0 : Int32)), (2, .int q2.1), (1, .int q1.1), (0, .ref (a 0))]) hx hb dL_isRound_122 rfl hl (by decide) rfl (fun ls hl => ?_)
            refine lv_iload_n hx hb dL_isRound_123 rfl (lv_at hl 0 rfl) ?_
            refine lv_if_eq (tgt := 160) hx hb dL_isRound_124 (by decide) (fun _ => ?_) (fun c18 => absurd (by decide) c18)
            refine lv_iconst (v := 0) hx hb dL_isRound_160 (by decide) ?_
            have hR := so_s hf
            subst hR
            refine z_zret X hr hlocks (Or.inl rfl) ?_ dL_isRound_161
            exact Z.eq rfl
        · have hf := it_f c14 hf
          refine lv_iconst (v := 1) hx hb dL_isRound_44 (by decide) ?_
          refine lv_goto (tgt := 49) hx hb dL_isRound_45 (by decide) ?_
          refine lv_istore_n (lv' := [(3, .int (1 : Int32)), (2, .int q2.1), (1, .int q1.1), (0, .ref (a 0))]) hx hb dL_isRound_49 rfl hl (by decide) rfl (fun ls hl => ?_)
          refine lv_iload_n hx hb dL_isRound_50 rfl (lv_at hl 2 rfl) ?_
          refine lv_bipush (v := 100) hx hb dL_isRound_51 (by decide) ?_
          refine lv_icmp_gt (tgt := 123) hx hb dL_isRound_53 (by decide) (fun c19 => ?_) (fun c19 => ?_)
          · have hf := it_t c19 hf
            refine lv_iload_n hx hb dL_isRound_123 rfl (lv_at hl 0 rfl) ?_
            refine lv_if_eq (tgt := 160) hx hb dL_isRound_124 (by decide) (fun c20 => absurd c20 (by decide)) (fun _ => ?_)
            refine lv_aload_n hx hb dL_isRound_127 rfl (lv_at hl 3 rfl) ?_
            refine lv_iconst (v := 2) hx hb dL_isRound_128 (by decide) ?_
            obtain ⟨q21, hq21, hf⟩ := ob_s hf
            refine z_roV X Z (c_X7_count l D cI cR a a_now q2.2 a_pad_codes a_pad_length a_padPattern_heights a_padPattern_length a_ways_steps a_ways_firstThrows a_ways_lastThrows a_ways_reached a_ways_reachedCount a_history_rs a_history_oldest a_history_size a_slotZero_kept a_slotZero_filled a_slotOne_kept a_slotOne_filled (2 : Int32) hq21) (zw_L_15 X.1.2.2.2.2 ⟨Nat.le_of_ble_eq_true rfl, Nat.le_of_ble_eq_true rfl⟩) 0 7 rfl rfl rfl [0] [] (by decide : ([0] ++ [] : List Nat).Perm (List.range 1)) rfl rfl hl.1 rfl (Nat.le_of_ble_eq_true rfl) dL_isRound_129 ⟨Nat.le_of_ble_eq_true rfl, Nat.le_of_ble_eq_true rfl⟩ (fun H locs Z => ?_)
            refine lv_aload_n hx hb dL_isRound_132 rfl (lv_at hl 3 rfl) ?_
            refine lv_iconst (v := 1) hx hb dL_isRound_133 (by decide) ?_
            obtain ⟨q22, hq22, hf⟩ := ob_s hf
            refine z_roV X Z (c_X7_count l D cI cR a a_now q2.2 a_pad_codes a_pad_length a_padPattern_heights a_padPattern_length a_ways_steps a_ways_firstThrows a_ways_lastThrows a_ways_reached a_ways_reachedCount a_history_rs a_history_oldest a_history_size a_slotZero_kept a_slotZero_filled a_slotOne_kept a_slotOne_filled (1 : Int32) hq22) (zw_L_15 X.1.2.2.2.2 ⟨Nat.le_of_ble_eq_true rfl, Nat.le_of_ble_eq_true rfl⟩) 0 7 rfl rfl rfl [0] [] (by decide : ([0] ++ [] : List Nat).Perm (List.range 1)) rfl rfl hl.1 rfl (Nat.le_of_ble_eq_true rfl) dL_isRound_134 ⟨Nat.le_of_ble_eq_true rfl, Nat.le_of_ble_eq_true rfl⟩ (fun H locs Z => ?_)
            refine lv_icmp_gt (tgt := 156) hx hb dL_isRound_137 (by decide) (fun c23 => ?_) (fun c23 => ?_)
            · have hf := it_t c23 hf
              refine lv_iconst (v := 1) hx hb dL_isRound_156 (by decide) ?_
              refine lv_goto (tgt := 161) hx hb dL_isRound_157 (by decide) ?_
              have hR := so_s hf
              subst hR
              refine z_zret X hr hlocks (Or.inr rfl) ?_ dL_isRound_161
              exact Z.eq rfl
            · have hf := it_f c23 hf
              refine lv_aload_n hx hb dL_isRound_140 rfl (lv_at hl 3 rfl) ?_
              refine lv_iconst (v := 0) hx hb dL_isRound_141 (by decide) ?_
              refine lv_iconst (v := 0) hx hb dL_isRound_142 (by decide) ?_
              obtain ⟨q24, hq24, hf⟩ := ob_s hf
              refine z_roV X Z (c_X7_of l D cI cR a a_now q2.2 a_pad_codes a_pad_length a_padPattern_heights a_padPattern_length a_ways_steps a_ways_firstThrows a_ways_lastThrows a_ways_reached a_ways_reachedCount a_history_rs a_history_oldest a_history_size a_slotZero_kept a_slotZero_filled a_slotOne_kept a_slotOne_filled (0 : Int32) (0 : Int32) hq24) (zw_L_24 X.1.2.2.2.2 ⟨Nat.le_of_ble_eq_true rfl, Nat.le_of_ble_eq_true rfl⟩) 0 7 rfl rfl rfl [0] [] (by decide : ([0] ++ [] : List Nat).Perm (List.range 1)) rfl rfl hl.1 rfl (Nat.le_of_ble_eq_true rfl) dL_isRound_143 ⟨Nat.le_of_ble_eq_true rfl, Nat.le_of_ble_eq_true rfl⟩ (fun H locs Z => ?_)
              refine lv_aload_n hx hb dL_isRound_146 rfl (lv_at hl 3 rfl) ?_
              refine lv_iconst (v := 1) hx hb dL_isRound_147 (by decide) ?_
              refine lv_iconst (v := 0) hx hb dL_isRound_148 (by decide) ?_
              obtain ⟨q25, hq25, hf⟩ := ob_s hf
              refine z_roV X Z (c_X7_of l D cI cR a a_now q2.2 a_pad_codes a_pad_length a_padPattern_heights a_padPattern_length a_ways_steps a_ways_firstThrows a_ways_lastThrows a_ways_reached a_ways_reachedCount a_history_rs a_history_oldest a_history_size a_slotZero_kept a_slotZero_filled a_slotOne_kept a_slotOne_filled (1 : Int32) (0 : Int32) hq25) (zw_L_24 X.1.2.2.2.2 ⟨Nat.le_of_ble_eq_true rfl, Nat.le_of_ble_eq_true rfl⟩) 0 7 rfl rfl rfl [0] [] (by decide : ([0] ++ [] : List Nat).Perm (List.range 1)) rfl rfl hl.1 rfl (Nat.le_of_ble_eq_true rfl) dL_isRound_149 ⟨Nat.le_of_ble_eq_true rfl, Nat.le_of_ble_eq_true rfl⟩ (fun H locs Z => ?_)
              refine lv_iadd hx hb dL_isRound_152 ?_
              refine lv_if_ne (tgt := 160) hx hb dL_isRound_153 (by decide) (fun c26 => ?_) (fun c26 => ?_)
              · have hf := it_f c26 hf
                refine lv_iconst (v := 0) hx hb dL_isRound_160 (by decide) ?_
                have hR := so_s hf
                subst hR
                refine z_zret X hr hlocks (Or.inl rfl) ?_ dL_isRound_161
                exact Z.eq rfl
              · have hf := it_t c26 hf
                refine lv_iconst (v := 1) hx hb dL_isRound_156 (by decide) ?_
                refine lv_goto (tgt := 161) hx hb dL_isRound_157 (by decide) ?_
                have hR := so_s hf
                subst hR
                refine z_zret X hr hlocks (Or.inr rfl) ?_ dL_isRound_161
                exact Z.eq rfl
          · have hf := it_f c19 hf
            refine lv_iload_n hx hb dL_isRound_56 rfl (lv_at hl 0 rfl) ?_
            refine lv_if_eq (tgt := 121) hx hb dL_isRound_57 (by decide) (fun c27 => absurd c27 (by decide)) (fun _ => ?_)
            refine lv_aload_n hx hb dL_isRound_60 rfl (lv_at hl 3 rfl) ?_
            refine lv_iconst (v := 0) hx hb dL_isRound_61 (by decide) ?_
            refine lv_iload_n hx hb dL_isRound_62 rfl (lv_at hl 2 rfl) ?_
            obtain ⟨q28, hq28, hf⟩ := ob_s hf
            refine z_callV X Z (c_X7_stateBehind l D cI cR a a_now q2.2 a_pad_codes a_pad_length a_padPattern_heights a_padPattern_length a_ways_steps a_ways_firstThrows a_ways_lastThrows a_ways_reached a_ways_reachedCount a_history_rs a_history_oldest a_history_size a_slotZero_kept a_slotZero_filled a_slotOne_kept a_slotOne_filled (0 : Int32) q1.1 hq28) (zw_L_54 X.1.2.2.2.2 ⟨Nat.le_of_ble_eq_true rfl, Nat.le_of_ble_eq_true rfl⟩) 0 7 rfl rfl rfl [0] [] [w_X7 cI cR a a_now q28.2 a_pad_codes a_pad_length a_padPattern_heights a_padPattern_length a_ways_steps a_ways_firstThrows a_ways_lastThrows a_ways_reached a_ways_reachedCount a_history_rs a_history_oldest a_history_size a_slotZero_kept a_slotZero_filled a_slotOne_kept a_slotOne_filled] (by decide : ([0] ++ [] : List Nat).Perm (List.range 1)) rfl rfl rfl rfl rfl hl.1 rfl (Nat.le_of_ble_eq_true rfl) dL_isRound_63 ⟨Nat.le_of_ble_eq_true rfl, Nat.le_of_ble_eq_true rfl⟩ (fun H locs Z => ?_)
            refine lv_aload_n hx hb dL_isRound_66 rfl (lv_at hl 3 rfl) ?_
            refine lv_iconst (v := 0) hx hb dL_isRound_67 (by decide) ?_
            refine lv_iconst (v := 0) hx hb dL_isRound_68 (by decide) ?_
            obtain ⟨q29, hq29, hf⟩ := ob_s hf
            refine z_roV X Z (c_X7_of l D cI cR a a_now q28.2 a_pad_codes a_pad_length a_padPattern_heights a_padPattern_length a_ways_steps a_ways_firstThrows a_ways_lastThrows a_ways_reached a_ways_reachedCount a_history_rs a_history_oldest a_history_size a_slotZero_kept a_slotZero_filled a_slotOne_kept a_slotOne_filled (0 : Int32) (0 : Int32) hq29) (zw_L_24 X.1.2.2.2.2 ⟨Nat.le_of_ble_eq_true rfl, Nat.le_of_ble_eq_true rfl⟩) 0 7 rfl rfl rfl [0] [] (by decide : ([0] ++ [] : List Nat).Perm (List.range 1)) rfl rfl hl.1 rfl (Nat.le_of_ble_eq_true rfl) dL_isRound_69 ⟨Nat.le_of_ble_eq_true rfl, Nat.le_of_ble_eq_true rfl⟩ (fun H locs Z => ?_)
            refine lv_icmp_ne (tgt := 121) hx hb dL_isRound_72 (by decide) (fun c30 => ?_) (fun c30 => ?_)
            · have hf := it_f c30 hf
              refine lv_iconst (v := 0) hx hb dL_isRound_121 (by decide) ?_
              refine lv_istore_n (lv' := [(3, .int (0 : Int32)), (2, .int q2.1), (1, .int q1.1), (0, .ref (a 0))]) hx hb dL_isRound_122 rfl hl (by decide) rfl (fun ls hl => ?_)
              refine lv_iload_n hx hb dL_isRound_123 rfl (lv_at hl 0 rfl) ?_
              refine lv_if_eq (tgt := 160) hx hb dL_isRound_124 (by decide) (fun _ => ?_) (fun c31 => absurd (by decide) c31)
              refine lv_iconst (v := 0) hx hb dL_isRound_160 (by decide) ?_
              have hR := so_s hf
              subst hR
              refine z_zret X hr hlocks (Or.inl rfl) ?_ dL_isRound_161
              exact Z.eq rfl
            · have hf := it_t c30 hf
              refine lv_aload_n hx hb dL_isRound_75 rfl (lv_at hl 3 rfl) ?_
              refine lv_iconst (v := 1) hx hb dL_isRound_76 (by decide) ?_
              refine lv_iconst (v := 2) hx hb dL_isRound_77 (by decide) ?_
              refine lv_iload_n hx hb dL_isRound_78 rfl (lv_at hl 2 rfl) ?_
              refine lv_imul hx hb dL_isRound_79 ?_
              obtain ⟨q32, hq32, hf⟩ := ob_s hf
              refine z_callV X Z (c_X7_stateBehind l D cI cR a a_now q28.2 a_pad_codes a_pad_length a_padPattern_heights a_padPattern_length a_ways_steps a_ways_firstThrows a_ways_lastThrows a_ways_reached a_ways_reachedCount a_history_rs a_history_oldest a_history_size a_slotZero_kept a_slotZero_filled a_slotOne_kept a_slotOne_filled (1 : Int32) ((2 : Int32) * q1.1) hq32) (zw_L_54 X.1.2.2.2.2 ⟨Nat.le_of_ble_eq_true rfl, Nat.le_of_ble_eq_true rfl⟩) 0 7 rfl rfl rfl [0] [] [w_X7 cI cR a a_now q32.2 a_pad_codes a_pad_length a_padPattern_heights a_padPattern_length a_ways_steps a_ways_firstThrows a_ways_lastThrows a_ways_reached a_ways_reachedCount a_history_rs a_history_oldest a_history_size a_slotZero_kept a_slotZero_filled a_slotOne_kept a_slotOne_filled] (by decide : ([0] ++ [] : List Nat).Perm (List.range 1)) rfl rfl rfl rfl rfl hl.1 rfl (Nat.le_of_ble_eq_true rfl) dL_isRound_80 ⟨Nat.le_of_ble_eq_true rfl, Nat.le_of_ble_eq_true rfl⟩ (fun H locs Z => ?_)
              refine lv_aload_n hx hb dL_isRound_83 rfl (lv_at hl 3 rfl) ?_
              refine lv_iconst (v := 1) hx hb dL_isRound_84 (by decide) ?_
              refine lv_iconst (v := 0) hx hb dL_isRound_85 (by decide) ?_
              obtain ⟨q33, hq33, hf⟩ := ob_s hf
              refine z_roV X Z (c_X7_of l D cI cR a a_now q32.2 a_pad_codes a_pad_length a_padPattern_heights a_padPattern_length a_ways_steps a_ways_firstThrows a_ways_lastThrows a_ways_reached a_ways_reachedCount a_history_rs a_history_oldest a_history_size a_slotZero_kept a_slotZero_filled a_slotOne_kept a_slotOne_filled (1 : Int32) (0 : Int32) hq33) (zw_L_24 X.1.2.2.2.2 ⟨Nat.le_of_ble_eq_true rfl, Nat.le_of_ble_eq_true rfl⟩) 0 7 rfl rfl rfl [0] [] (by decide : ([0] ++ [] : List Nat).Perm (List.range 1)) rfl rfl hl.1 rfl (Nat.le_of_ble_eq_true rfl) dL_isRound_86 ⟨Nat.le_of_ble_eq_true rfl, Nat.le_of_ble_eq_true rfl⟩ (fun H locs Z => ?_)
              refine lv_icmp_ne (tgt := 121) hx hb dL_isRound_89 (by decide) (fun c34 => ?_) (fun c34 => ?_)
              · have hf := it_f c34 hf
                refine lv_iconst (v := 0) hx hb dL_isRound_121 (by decide) ?_
                refine lv_istore_n (lv' := [(3, .int (0 : Int32)), (2, .int q2.1), (1, .int q1.1), (0, .ref (a 0))]) hx hb dL_isRound_122 rfl hl (by decide) rfl (fun ls hl => ?_)
                refine lv_iload_n hx hb dL_isRound_123 rfl (lv_at hl 0 rfl) ?_
                refine lv_if_eq (tgt := 160) hx hb dL_isRound_124 (by decide) (fun _ => ?_) (fun c35 => absurd (by decide) c35)
                refine lv_iconst (v := 0) hx hb dL_isRound_160 (by decide) ?_
                have hR := so_s hf
                subst hR
                refine z_zret X hr hlocks (Or.inl rfl) ?_ dL_isRound_161
                exact Z.eq rfl
              · have hf := it_t c34 hf
                refine lv_aload_n hx hb dL_isRound_92 rfl (lv_at hl 3 rfl) ?_
                refine lv_iconst (v := 2) hx hb dL_isRound_93 (by decide) ?_
                refine lv_iload_n hx hb dL_isRound_94 rfl (lv_at hl 2 rfl) ?_
                refine lv_imul hx hb dL_isRound_95 ?_
                obtain ⟨q36, hq36, hf⟩ := ob_s hf
                refine z_callV X Z (c_X7_pass l D cI cR a a_now q32.2 a_pad_codes a_pad_length a_padPattern_heights a_padPattern_length a_ways_steps a_ways_firstThrows a_ways_lastThrows a_ways_reached a_ways_reachedCount a_history_rs a_history_oldest a_history_size a_slotZero_kept a_slotZero_filled a_slotOne_kept a_slotOne_filled ((2 : Int32) * q1.1) hq36) (zw_L_57 X.1.2.2.2.2 ⟨Nat.le_of_ble_eq_true rfl, Nat.le_of_ble_eq_true rfl⟩) 0 7 rfl rfl rfl [0] [] [w_X7 cI cR a q36.2.1 q32.2 a_pad_codes a_pad_length a_padPattern_heights a_padPattern_length a_ways_steps a_ways_firstThrows a_ways_lastThrows a_ways_reached a_ways_reachedCount q36.2.2.1 q36.2.2.2.1 q36.2.2.2.2 a_slotZero_kept a_slotZero_filled a_slotOne_kept a_slotOne_filled] (by decide : ([0] ++ [] : List Nat).Perm (List.range 1)) rfl rfl rfl rfl rfl hl.1 rfl (Nat.le_of_ble_eq_true rfl) dL_isRound_96 ⟨Nat.le_of_ble_eq_true rfl, Nat.le_of_ble_eq_true rfl⟩ (fun H locs Z => ?_)
                refine lv_if_ne (tgt := 121) hx hb dL_isRound_99 (by decide) (fun c37 => ?_) (fun c37 => ?_)
                · have hf := it_f c37 hf
                  refine lv_iconst (v := 0) hx hb dL_isRound_121 (by decide) ?_
                  refine lv_istore_n (lv' := [(3, .int (0 : Int32)), (2, .int q2.1), (1, .int q1.1), (0, .ref (a 0))]) hx hb dL_isRound_122 rfl hl (by decide) rfl (fun ls hl => ?_)
                  refine lv_iload_n hx hb dL_isRound_123 rfl (lv_at hl 0 rfl) ?_
                  refine lv_if_eq (tgt := 160) hx hb dL_isRound_124 (by decide) (fun _ => ?_) (fun c38 => absurd (by decide) c38)
                  refine lv_iconst (v := 0) hx hb dL_isRound_160 (by decide) ?_
                  have hR := so_s hf
                  subst hR
                  refine z_zret X hr hlocks (Or.inl rfl) ?_ dL_isRound_161
                  exact Z.eq rfl
                · have hf := it_t c37 hf
                  refine lv_aload_n hx hb dL_isRound_102 rfl (lv_at hl 3 rfl) ?_
                  obtain ⟨q39, hq39, hf⟩ := ob_s hf
                  refine z_callV X Z (c_X7_comesRound l D cI cR a q36.2.1 q32.2 a_pad_codes a_pad_length a_padPattern_heights a_padPattern_length a_ways_steps a_ways_firstThrows a_ways_lastThrows a_ways_reached a_ways_reachedCount q36.2.2.1 q36.2.2.2.1 q36.2.2.2.2 a_slotZero_kept a_slotZero_filled a_slotOne_kept a_slotOne_filled  hq39) (zw_L_60 X.1.2.2.2.2 ⟨Nat.le_of_ble_eq_true rfl, Nat.le_of_ble_eq_true rfl⟩) 0 7 rfl rfl rfl [0] [] [w_X7 cI cR a q36.2.1 q39.2 a_pad_codes a_pad_length a_padPattern_heights a_padPattern_length a_ways_steps a_ways_firstThrows a_ways_lastThrows a_ways_reached a_ways_reachedCount q36.2.2.1 q36.2.2.2.1 q36.2.2.2.2 a_slotZero_kept a_slotZero_filled a_slotOne_kept a_slotOne_filled] (by decide : ([0] ++ [] : List Nat).Perm (List.range 1)) rfl rfl rfl rfl rfl hl.1 rfl (Nat.le_of_ble_eq_true rfl) dL_isRound_103 ⟨Nat.le_of_ble_eq_true rfl, Nat.le_of_ble_eq_true rfl⟩ (fun H locs Z => ?_)
                  refine lv_iload_n hx hb dL_isRound_106 rfl (lv_at hl 2 rfl) ?_
                  refine lv_icmp_ne (tgt := 121) hx hb dL_isRound_107 (by decide) (fun c40 => ?_) (fun c40 => ?_)
                  · have hf := it_f c40 hf
                    refine lv_iconst (v := 0) hx hb dL_isRound_121 (by decide) ?_
                    refine lv_istore_n (lv' := [(3, .int (0 : Int32)), (2, .int q2.1), (1, .int q1.1), (0, .ref (a 0))]) hx hb dL_isRound_122 rfl hl (by decide) rfl (fun ls hl => ?_)
                    refine lv_iload_n hx hb dL_isRound_123 rfl (lv_at hl 0 rfl) ?_
                    refine lv_if_eq (tgt := 160) hx hb dL_isRound_124 (by decide) (fun _ => ?_) (fun c41 => absurd (by decide) c41)
                    refine lv_iconst (v := 0) hx hb dL_isRound_160 (by decide) ?_
                    have hR := so_s hf
                    subst hR
                    refine z_zret X hr hlocks (Or.inl rfl) ?_ dL_isRound_161
                    exact Z.eq rfl
                  · have hf := it_t c40 hf
                    refine lv_aload_n hx hb dL_isRound_110 rfl (lv_at hl 3 rfl) ?_
                    obtain ⟨q42, hq42, hf⟩ := ob_s hf
                    refine z_callV X Z (c_X7_undo l D cI cR a q36.2.1 q39.2 a_pad_codes a_pad_length a_padPattern_heights a_padPattern_length a_ways_steps a_ways_firstThrows a_ways_lastThrows a_ways_reached a_ways_reachedCount q36.2.2.1 q36.2.2.2.1 q36.2.2.2.2 a_slotZero_kept a_slotZero_filled a_slotOne_kept a_slotOne_filled  hq42) (zw_L_63 X.1.2.2.2.2 ⟨Nat.le_of_ble_eq_true rfl, Nat.le_of_ble_eq_true rfl⟩) 0 7 rfl rfl rfl [0] [] [w_X7 cI cR a q42.2.1 q39.2 a_pad_codes a_pad_length a_padPattern_heights a_padPattern_length a_ways_steps a_ways_firstThrows a_ways_lastThrows a_ways_reached a_ways_reachedCount q36.2.2.1 q36.2.2.2.1 q42.2.2 a_slotZero_kept a_slotZero_filled a_slotOne_kept a_slotOne_filled] (by decide : ([0] ++ [] : List Nat).Perm (List.range 1)) rfl rfl rfl rfl rfl hl.1 rfl (Nat.le_of_ble_eq_true rfl) dL_isRound_111 ⟨Nat.le_of_ble_eq_true rfl, Nat.le_of_ble_eq_true rfl⟩ (fun H locs Z => ?_)
                    refine lv_if_lt (tgt := 121) hx hb dL_isRound_114 (by decide) (fun c43 => ?_) (fun c43 => ?_)
                    · have hf := it_t c43 hf
                      refine lv_iconst (v := 0) hx hb dL_isRound_121 (by decide) ?_
                      refine lv_istore_n (lv' := [(3, .int (0 : Int32)), (2, .int q2.1), (1, .int q1.1), (0, .ref (a 0))]) hx hb dL_isRound_122 rfl hl (by decide) rfl (fun ls hl => ?_)
                      refine lv_iload_n hx hb dL_isRound_123 rfl (lv_at hl 0 rfl) ?_
                      refine lv_if_eq (tgt := 160) hx hb dL_isRound_124 (by decide) (fun _ => ?_) (fun c44 => absurd (by decide) c44)
                      refine lv_iconst (v := 0) hx hb dL_isRound_160 (by decide) ?_
                      have hR := so_s hf
                      subst hR
                      refine z_zret X hr hlocks (Or.inl rfl) ?_ dL_isRound_161
                      exact Z.eq rfl
                    · have hf := it_f c43 hf
                      refine lv_iconst (v := 1) hx hb dL_isRound_117 (by decide) ?_
                      refine lv_goto (tgt := 122) hx hb dL_isRound_118 (by decide) ?_
                      refine lv_istore_n (lv' := [(3, .int (1 : Int32)), (2, .int q2.1), (1, .int q1.1), (0, .ref (a 0))]) hx hb dL_isRound_122 rfl hl (by decide) rfl (fun ls hl => ?_)
                      refine lv_iload_n hx hb dL_isRound_123 rfl (lv_at hl 0 rfl) ?_
                      refine lv_if_eq (tgt := 160) hx hb dL_isRound_124 (by decide) (fun c45 => absurd c45 (by decide)) (fun _ => ?_)
                      refine lv_aload_n hx hb dL_isRound_127 rfl (lv_at hl 3 rfl) ?_
                      refine lv_iconst (v := 2) hx hb dL_isRound_128 (by decide) ?_
                      obtain ⟨q46, hq46, hf⟩ := ob_s hf
                      refine z_roV X Z (c_X7_count l D cI cR a q42.2.1 q39.2 a_pad_codes a_pad_length a_padPattern_heights a_padPattern_length a_ways_steps a_ways_firstThrows a_ways_lastThrows a_ways_reached a_ways_reachedCount q36.2.2.1 q36.2.2.2.1 q42.2.2 a_slotZero_kept a_slotZero_filled a_slotOne_kept a_slotOne_filled (2 : Int32) hq46) (zw_L_15 X.1.2.2.2.2 ⟨Nat.le_of_ble_eq_true rfl, Nat.le_of_ble_eq_true rfl⟩) 0 7 rfl rfl rfl [0] [] (by decide : ([0] ++ [] : List Nat).Perm (List.range 1)) rfl rfl hl.1 rfl (Nat.le_of_ble_eq_true rfl) dL_isRound_129 ⟨Nat.le_of_ble_eq_true rfl, Nat.le_of_ble_eq_true rfl⟩ (fun H locs Z => ?_)
                      refine lv_aload_n hx hb dL_isRound_132 rfl (lv_at hl 3 rfl) ?_
                      refine lv_iconst (v := 1) hx hb dL_isRound_133 (by decide) ?_
                      obtain ⟨q47, hq47, hf⟩ := ob_s hf
                      refine z_roV X Z (c_X7_count l D cI cR a q42.2.1 q39.2 a_pad_codes a_pad_length a_padPattern_heights a_padPattern_length a_ways_steps a_ways_firstThrows a_ways_lastThrows a_ways_reached a_ways_reachedCount q36.2.2.1 q36.2.2.2.1 q42.2.2 a_slotZero_kept a_slotZero_filled a_slotOne_kept a_slotOne_filled (1 : Int32) hq47) (zw_L_15 X.1.2.2.2.2 ⟨Nat.le_of_ble_eq_true rfl, Nat.le_of_ble_eq_true rfl⟩) 0 7 rfl rfl rfl [0] [] (by decide : ([0] ++ [] : List Nat).Perm (List.range 1)) rfl rfl hl.1 rfl (Nat.le_of_ble_eq_true rfl) dL_isRound_134 ⟨Nat.le_of_ble_eq_true rfl, Nat.le_of_ble_eq_true rfl⟩ (fun H locs Z => ?_)
                      refine lv_icmp_gt (tgt := 156) hx hb dL_isRound_137 (by decide) (fun c48 => ?_) (fun c48 => ?_)
                      · have hf := it_t c48 hf
                        refine lv_iconst (v := 1) hx hb dL_isRound_156 (by decide) ?_
                        refine lv_goto (tgt := 161) hx hb dL_isRound_157 (by decide) ?_
                        have hR := so_s hf
                        subst hR
                        refine z_zret X hr hlocks (Or.inr rfl) ?_ dL_isRound_161
                        exact Z.eq rfl
                      · have hf := it_f c48 hf
                        refine lv_aload_n hx hb dL_isRound_140 rfl (lv_at hl 3 rfl) ?_
                        refine lv_iconst (v := 0) hx hb dL_isRound_141 (by decide) ?_
                        refine lv_iconst (v := 0) hx hb dL_isRound_142 (by decide) ?_
                        obtain ⟨q49, hq49, hf⟩ := ob_s hf
                        refine z_roV X Z (c_X7_of l D cI cR a q42.2.1 q39.2 a_pad_codes a_pad_length a_padPattern_heights a_padPattern_length a_ways_steps a_ways_firstThrows a_ways_lastThrows a_ways_reached a_ways_reachedCount q36.2.2.1 q36.2.2.2.1 q42.2.2 a_slotZero_kept a_slotZero_filled a_slotOne_kept a_slotOne_filled (0 : Int32) (0 : Int32) hq49) (zw_L_24 X.1.2.2.2.2 ⟨Nat.le_of_ble_eq_true rfl, Nat.le_of_ble_eq_true rfl⟩) 0 7 rfl rfl rfl [0] [] (by decide : ([0] ++ [] : List Nat).Perm (List.range 1)) rfl rfl hl.1 rfl (Nat.le_of_ble_eq_true rfl) dL_isRound_143 ⟨Nat.le_of_ble_eq_true rfl, Nat.le_of_ble_eq_true rfl⟩ (fun H locs Z => ?_)
                        refine lv_aload_n hx hb dL_isRound_146 rfl (lv_at hl 3 rfl) ?_
                        refine lv_iconst (v := 1) hx hb dL_isRound_147 (by decide) ?_
                        refine lv_iconst (v := 0) hx hb dL_isRound_148 (by decide) ?_
                        obtain ⟨q50, hq50, hf⟩ := ob_s hf
                        refine z_roV X Z (c_X7_of l D cI cR a q42.2.1 q39.2 a_pad_codes a_pad_length a_padPattern_heights a_padPattern_length a_ways_steps a_ways_firstThrows a_ways_lastThrows a_ways_reached a_ways_reachedCount q36.2.2.1 q36.2.2.2.1 q42.2.2 a_slotZero_kept a_slotZero_filled a_slotOne_kept a_slotOne_filled (1 : Int32) (0 : Int32) hq50) (zw_L_24 X.1.2.2.2.2 ⟨Nat.le_of_ble_eq_true rfl, Nat.le_of_ble_eq_true rfl⟩) 0 7 rfl rfl rfl [0] [] (by decide : ([0] ++ [] : List Nat).Perm (List.range 1)) rfl rfl hl.1 rfl (Nat.le_of_ble_eq_true rfl) dL_isRound_149 ⟨Nat.le_of_ble_eq_true rfl, Nat.le_of_ble_eq_true rfl⟩ (fun H locs Z => ?_)
                        refine lv_iadd hx hb dL_isRound_152 ?_
                        refine lv_if_ne (tgt := 160) hx hb dL_isRound_153 (by decide) (fun c51 => ?_) (fun c51 => ?_)
                        · have hf := it_f c51 hf
                          refine lv_iconst (v := 0) hx hb dL_isRound_160 (by decide) ?_
                          have hR := so_s hf
                          subst hR
                          refine z_zret X hr hlocks (Or.inl rfl) ?_ dL_isRound_161
                          exact Z.eq rfl
                        · have hf := it_t c51 hf
                          refine lv_iconst (v := 1) hx hb dL_isRound_156 (by decide) ?_
                          refine lv_goto (tgt := 161) hx hb dL_isRound_157 (by decide) ?_
                          have hR := so_s hf
                          subst hR
                          refine z_zret X hr hlocks (Or.inr rfl) ?_ dL_isRound_161
                          exact Z.eq rfl
  · have hf := it_f c3 hf
    refine lv_iload_n hx hb dL_isRound_14 rfl (lv_at hl 1 rfl) ?_
    refine lv_bipush (v := -6) hx hb dL_isRound_15 (by decide) ?_
    refine lv_icmp_ne (tgt := 24) hx hb dL_isRound_17 (by decide) (fun c52 => ?_) (fun c52 => ?_)
    · have hf := it_f c52 hf
      refine lv_iconst (v := 0) hx hb dL_isRound_24 (by decide) ?_
      have hR := so_s hf
      subst hR
      refine z_zret X hr hlocks (Or.inl rfl) ?_ dL_isRound_25
      exact Z.eq rfl
    · have hf := it_t c52 hf
      refine lv_iconst (v := 1) hx hb dL_isRound_20 (by decide) ?_
      refine lv_goto (tgt := 25) hx hb dL_isRound_21 (by decide) ?_
      have hR := so_s hf
      subst hR
      refine z_zret X hr hlocks (Or.inr rfl) ?_ dL_isRound_25
      exact Z.eq rfl
def f_L_isCounted_L7 (x1 : Int32) : Nat → Int32 → Int32 → Option (Int32)
  | 0, _, _ => none
  | n + 1, x3, x4 => if x1 ≤ x4 then ((f_X7_howMany x1 (0 : Int32)).bind (fun q2 => if q2 = (1 : Int32) then ((f_X7_howMany x1 (1 : Int32)).bind (fun q5 => if q5 = (x3 - (1 : Int32)) then ((f_X7_howMany x1 (7 : Int32)).bind (fun q9 => if q9 = (1 : Int32) then ((f_X7_howMany x1 (8 : Int32)).bind (fun q11 => if q11 = (-2 : Int32) then (some (1 : Int32)) else (some (0 : Int32)))) else (some (0 : Int32)))) else (some (0 : Int32)))) else (some (0 : Int32)))) else (f_L_isCounted_L7 x1 n (x3 * (2 : Int32)) (x4 + (1 : Int32)) )
set_option maxHeartbeats 4000000 in
set_option maxRecDepth 100000 in
theorem w_L_isCounted_L7 {p : Program} {l : Launch} {e : Env} {s : State} {m : MethodId} {args : Array Value} {below : List Frame} {meth : Method} {c : Code} {D : va_G} {cI cR : ClassId} {A : Nat → Prop} {a : (Nat → Nat)} {a_now : ST} {a_ahead : ST} {a_pad_codes : (Nat → Int32)} {a_pad_length : Int32} {a_padPattern_heights : (Nat → Int32)} {a_padPattern_length : Int32} {a_ways_steps : (Nat → Int32)} {a_ways_firstThrows : (Nat → Int32)} {a_ways_lastThrows : (Nat → Int32)} {a_ways_reached : (Nat → Int32)} {a_ways_reachedCount : Int32} {a_history_rs : (Nat → ST)} {a_history_oldest : Int32} {a_history_size : Int32} {a_slotZero_kept : ST} {a_slotZero_filled : Int32} {a_slotOne_kept : ST} {a_slotOne_filled : Int32} {x1 : Int32} {R : Int32} (X : zX p s m c cL_isCounted 5 args RL D cI cR A) (hr : meth.sig.returnType = (some .boolean)) (hlocks : meth.locks = false) : ∀ (n : Nat)  {x3 : Int32} {x4 : Int32} {H : Heap} {locs : List Loc} {ls : Array Slot}, f_L_isCounted_L7 x1 n x3 x4 = some R → zW D A s [w_X7 cI cR a a_now a_ahead a_pad_codes a_pad_length a_padPattern_heights a_padPattern_length a_ways_steps a_ways_firstThrows a_ways_lastThrows a_ways_reached a_ways_reachedCount a_history_rs a_history_oldest a_history_size a_slotZero_kept a_slotZero_filled a_slotOne_kept a_slotOne_filled] H locs → lv_has ls 5 [(0, .ref (a 0)), (1, .int x1), (3, .int x3), (4, .int x4)] → W p l e ({ frames := 26, cells := 0, slots := 0, locals := 848 } : Room) s m args below meth c H locs 0 0 (zE D A below s args (some (.int R)) [w_X7 cI cR a a_now a_ahead a_pad_codes a_pad_length a_padPattern_heights a_padPattern_length a_ways_steps a_ways_firstThrows a_ways_lastThrows a_ways_reached a_ways_reachedCount a_history_rs a_history_oldest a_history_size a_slotZero_kept a_slotZero_filled a_slotOne_kept a_slotOne_filled]) (F0 m 7 ls []) := by
  have hx := X.1.1
  have hb := X.1.2.1
  intro n
  induction n with
  | zero =>
    intro x3 x4 H locs ls hf
    have hf : none = some R := hf
    cases hf
  | succ n ih =>
    intro x3 x4 H locs ls hf Z hl
    refine lv_iload hx hb dL_isCounted_7 (lv_at hl 3 rfl) ?_
    refine lv_iload_n hx hb dL_isCounted_9 rfl (lv_at hl 1 rfl) ?_
    refine lv_icmp_ge (tgt := 23) hx hb dL_isCounted_10 (by decide) (fun c1 => ?_) (fun c1 => ?_)
    · have hf := it_t c1 hf
      refine lv_aload_n hx hb dL_isCounted_23 rfl (lv_at hl 0 rfl) ?_
      refine lv_iload_n hx hb dL_isCounted_24 rfl (lv_at hl 1 rfl) ?_
      refine lv_iconst (v := 0) hx hb dL_isCounted_25 (by decide) ?_
      obtain ⟨q2, hq2, hf⟩ := ob_s hf
      refine z_roV X Z (c_X7_howMany l D cI cR a a_now a_ahead a_pad_codes a_pad_length a_padPattern_heights a_padPattern_length a_ways_steps a_ways_firstThrows a_ways_lastThrows a_ways_reached a_ways_reachedCount a_history_rs a_history_oldest a_history_size a_slotZero_kept a_slotZero_filled a_slotOne_kept a_slotOne_filled x1 (0 : Int32) hq2) (zw_L_82 X.1.2.2.2.2 ⟨Nat.le_of_ble_eq_true rfl, Nat.le_of_ble_eq_true rfl⟩) 0 7 rfl rfl rfl [0] [] (by decide : ([0] ++ [] : List Nat).Perm (List.range 1)) rfl rfl hl.1 rfl (Nat.le_of_ble_eq_true rfl) dL_isCounted_26 ⟨Nat.le_of_ble_eq_true rfl, Nat.le_of_ble_eq_true rfl⟩ (fun H locs Z => ?_)
      refine lv_iconst (v := 1) hx hb dL_isCounted_29 (by decide) ?_
      refine lv_icmp_ne (tgt := 49) hx hb dL_isCounted_30 (by decide) (fun c3 => ?_) (fun c3 => ?_)
      · have hf := it_f c3 hf
        refine lv_iconst (v := 0) hx hb dL_isCounted_49 (by decide) ?_
        refine lv_istore_n (lv' := [(2, .int (0 : Int32)), (0, .ref (a 0)), (1, .int x1), (3, .int x3), (4, .int x4)]) hx hb dL_isCounted_50 rfl hl (by decide) rfl (fun ls hl => ?_)
        refine lv_iload_n hx hb dL_isCounted_51 rfl (lv_at hl 0 rfl) ?_
        refine lv_if_eq (tgt := 82) hx hb dL_isCounted_52 (by decide) (fun _ => ?_) (fun c4 => absurd (by decide) c4)
        refine lv_iconst (v := 0) hx hb dL_isCounted_82 (by decide) ?_
        have hR := so_s hf
        subst hR
        refine z_zret X hr hlocks (Or.inl rfl) ?_ dL_isCounted_83
        exact Z.eq rfl
      · have hf := it_t c3 hf
        refine lv_aload_n hx hb dL_isCounted_33 rfl (lv_at hl 0 rfl) ?_
        refine lv_iload_n hx hb dL_isCounted_34 rfl (lv_at hl 1 rfl) ?_
        refine lv_iconst (v := 1) hx hb dL_isCounted_35 (by decide) ?_
        obtain ⟨q5, hq5, hf⟩ := ob_s hf
        refine z_roV X Z (c_X7_howMany l D cI cR a a_now a_ahead a_pad_codes a_pad_length a_padPattern_heights a_padPattern_length a_ways_steps a_ways_firstThrows a_ways_lastThrows a_ways_reached a_ways_reachedCount a_history_rs a_history_oldest a_history_size a_slotZero_kept a_slotZero_filled a_slotOne_kept a_slotOne_filled x1 (1 : Int32) hq5) (zw_L_82 X.1.2.2.2.2 ⟨Nat.le_of_ble_eq_true rfl, Nat.le_of_ble_eq_true rfl⟩) 0 7 rfl rfl rfl [0] [] (by decide : ([0] ++ [] : List Nat).Perm (List.range 1)) rfl rfl hl.1 rfl (Nat.le_of_ble_eq_true rfl) dL_isCounted_36 ⟨Nat.le_of_ble_eq_true rfl, Nat.le_of_ble_eq_true rfl⟩ (fun H locs Z => ?_)
        refine lv_iload_n hx hb dL_isCounted_39 rfl (lv_at hl 2 rfl) ?_
        refine lv_iconst (v := 1) hx hb dL_isCounted_40 (by decide) ?_
        refine lv_isub hx hb dL_isCounted_41 ?_
        refine lv_icmp_ne (tgt := 49) hx hb dL_isCounted_42 (by decide) (fun c6 => ?_) (fun c6 => ?_)
        · have hf := it_f c6 hf
          refine lv_iconst (v := 0) hx hb dL_isCounted_49 (by decide) ?_
          refine lv_istore_n (lv' := [(2, .int (0 : Int32)), (0, .ref (a 0)), (1, .int x1), (3, .int x3), (4, .int x4)]) hx hb dL_isCounted_50 rfl hl (by decide) rfl (fun ls hl => ?_)
          refine lv_iload_n hx hb dL_isCounted_51 rfl (lv_at hl 0 rfl) ?_
          refine lv_if_eq (tgt := 82) hx hb dL_isCounted_52 (by decide) (fun _ => ?_) (fun c7 => absurd (by decide) c7)
          refine lv_iconst (v := 0) hx hb dL_isCounted_82 (by decide) ?_
          have hR := so_s hf
          subst hR
          refine z_zret X hr hlocks (Or.inl rfl) ?_ dL_isCounted_83
          exact Z.eq rfl
        · have hf := it_t c6 hf
          refine lv_iconst (v := 1) hx hb dL_isCounted_45 (by decide) ?_
          refine lv_goto (tgt := 50) hx hb dL_isCounted_46 (by decide) ?_
          refine lv_istore_n (lv' := [(2, .int (1 : Int32)), (0, .ref (a 0)), (1, .int x1), (3, .int x3), (4, .int x4)]) hx hb dL_isCounted_50 rfl hl (by decide) rfl (fun ls hl => ?_)
          refine lv_iload_n hx hb dL_isCounted_51 rfl (lv_at hl 0 rfl) ?_
          refine lv_if_eq (tgt := 82) hx hb dL_isCounted_52 (by decide) (fun c8 => absurd c8 (by decide)) (fun _ => ?_)
          refine lv_aload_n hx hb dL_isCounted_55 rfl (lv_at hl 1 rfl) ?_
          refine lv_iload_n hx hb dL_isCounted_56 rfl (lv_at hl 2 rfl) ?_
          refine lv_bipush (v := 7) hx hb dL_isCounted_57 (by decide) ?_
          obtain ⟨q9, hq9, hf⟩ := ob_s hf
          refine z_roV X Z (c_X7_howMany l D cI cR a a_now a_ahead a_pad_codes a_pad_length a_padPattern_heights a_padPattern_length a_ways_steps a_ways_firstThrows a_ways_lastThrows a_ways_reached a_ways_reachedCount a_history_rs a_history_oldest a_history_size a_slotZero_kept a_slotZero_filled a_slotOne_kept a_slotOne_filled x1 (7 : Int32) hq9) (zw_L_82 X.1.2.2.2.2 ⟨Nat.le_of_ble_eq_true rfl, Nat.le_of_ble_eq_true rfl⟩) 0 7 rfl rfl rfl [0] [] (by decide : ([0] ++ [] : List Nat).Perm (List.range 1)) rfl rfl hl.1 rfl (Nat.le_of_ble_eq_true rfl) dL_isCounted_59 ⟨Nat.le_of_ble_eq_true rfl, Nat.le_of_ble_eq_true rfl⟩ (fun H locs Z => ?_)
          refine lv_iconst (v := 1) hx hb dL_isCounted_62 (by decide) ?_
          refine lv_icmp_ne (tgt := 82) hx hb dL_isCounted_63 (by decide) (fun c10 => ?_) (fun c10 => ?_)
          · have hf := it_f c10 hf
            refine lv_iconst (v := 0) hx hb dL_isCounted_82 (by decide) ?_
            have hR := so_s hf
            subst hR
            refine z_zret X hr hlocks (Or.inl rfl) ?_ dL_isCounted_83
            exact Z.eq rfl
          · have hf := it_t c10 hf
            refine lv_aload_n hx hb dL_isCounted_66 rfl (lv_at hl 1 rfl) ?_
            refine lv_iload_n hx hb dL_isCounted_67 rfl (lv_at hl 2 rfl) ?_
            refine lv_bipush (v := 8) hx hb dL_isCounted_68 (by decide) ?_
            obtain ⟨q11, hq11, hf⟩ := ob_s hf
            refine z_roV X Z (c_X7_howMany l D cI cR a a_now a_ahead a_pad_codes a_pad_length a_padPattern_heights a_padPattern_length a_ways_steps a_ways_firstThrows a_ways_lastThrows a_ways_reached a_ways_reachedCount a_history_rs a_history_oldest a_history_size a_slotZero_kept a_slotZero_filled a_slotOne_kept a_slotOne_filled x1 (8 : Int32) hq11) (zw_L_82 X.1.2.2.2.2 ⟨Nat.le_of_ble_eq_true rfl, Nat.le_of_ble_eq_true rfl⟩) 0 7 rfl rfl rfl [0] [] (by decide : ([0] ++ [] : List Nat).Perm (List.range 1)) rfl rfl hl.1 rfl (Nat.le_of_ble_eq_true rfl) dL_isCounted_70 ⟨Nat.le_of_ble_eq_true rfl, Nat.le_of_ble_eq_true rfl⟩ (fun H locs Z => ?_)
            refine lv_bipush (v := -2) hx hb dL_isCounted_73 (by decide) ?_
            refine lv_icmp_ne (tgt := 82) hx hb dL_isCounted_75 (by decide) (fun c12 => ?_) (fun c12 => ?_)
            · have hf := it_f c12 hf
              refine lv_iconst (v := 0) hx hb dL_isCounted_82 (by decide) ?_
              have hR := so_s hf
              subst hR
              refine z_zret X hr hlocks (Or.inl rfl) ?_ dL_isCounted_83
              exact Z.eq rfl
            · have hf := it_t c12 hf
              refine lv_iconst (v := 1) hx hb dL_isCounted_78 (by decide) ?_
              refine lv_goto (tgt := 83) hx hb dL_isCounted_79 (by decide) ?_
              have hR := so_s hf
              subst hR
              refine z_zret X hr hlocks (Or.inr rfl) ?_ dL_isCounted_83
              exact Z.eq rfl
    · have hf := it_f c1 hf
      refine lv_iload_n hx hb dL_isCounted_13 rfl (lv_at hl 2 rfl) ?_
      refine lv_iconst (v := 2) hx hb dL_isCounted_14 (by decide) ?_
      refine lv_imul hx hb dL_isCounted_15 ?_
      refine lv_istore_n (lv' := [(3, .int (x3 * (2 : Int32))), (0, .ref (a 0)), (1, .int x1), (4, .int x4)]) hx hb dL_isCounted_16 rfl hl (by decide) rfl (fun ls hl => ?_)
      refine lv_iinc (v := x4 + (1 : Int32)) (lv' := [(4, .int (x4 + (1 : Int32))), (3, .int (x3 * (2 : Int32))), (0, .ref (a 0)), (1, .int x1)]) hx hb dL_isCounted_17 hl (k := 3) rfl rfl (by decide) rfl (fun ls hl => ?_)
      refine lv_goto (tgt := 7) hx hb dL_isCounted_20 (by decide) ?_
      exact ih hf Z (lv_sub hl [2, 3, 1, 0] rfl)

def f_L_isCounted (p1 : Int32) : Option (Int32) := f_L_isCounted_L7 p1 zF (1 : Int32) (0 : Int32)
set_option maxHeartbeats 4000000 in
set_option maxRecDepth 100000 in
theorem c_L_isCounted (l : Launch) (D : va_G) (cI cR : ClassId) (a : (Nat → Nat)) (a_now : ST) (a_ahead : ST) (a_pad_codes : (Nat → Int32)) (a_pad_length : Int32) (a_padPattern_heights : (Nat → Int32)) (a_padPattern_length : Int32) (a_ways_steps : (Nat → Int32)) (a_ways_firstThrows : (Nat → Int32)) (a_ways_lastThrows : (Nat → Int32)) (a_ways_reached : (Nat → Int32)) (a_ways_reachedCount : Int32) (a_history_rs : (Nat → ST)) (a_history_oldest : Int32) (a_history_size : Int32) (a_slotZero_kept : ST) (a_slotZero_filled : Int32) (a_slotOne_kept : ST) (a_slotOne_filled : Int32) (p1 : Int32) {R : Int32} (hf : f_L_isCounted p1 = some R) : zM l D cI cR yL_isCounted cL_isCounted 5 (some .boolean) 26 848 [.ref (a 0), .int p1] [w_X7 cI cR a a_now a_ahead a_pad_codes a_pad_length a_padPattern_heights a_padPattern_length a_ways_steps a_ways_firstThrows a_ways_lastThrows a_ways_reached a_ways_reachedCount a_history_rs a_history_oldest a_history_size a_slotZero_kept a_slotZero_filled a_slotOne_kept a_slotOne_filled] (some (.int R)) [w_X7 cI cR a a_now a_ahead a_pad_codes a_pad_length a_padPattern_heights a_padPattern_length a_ways_steps a_ways_firstThrows a_ways_lastThrows a_ways_reached a_ways_reachedCount a_history_rs a_history_oldest a_history_size a_slotZero_kept a_slotZero_filled a_slotOne_kept a_slotOne_filled] := by
  refine z_of (own := RL) rfl (by decide) (Nat.le_of_ble_eq_true rfl) ?_
  intro p e s m args below meth c A ls X hr hlocks Z hl
  have hx := X.1.1
  have hb := X.1.2.1
  have Z : zW D A s [w_X7 cI cR a a_now a_ahead a_pad_codes a_pad_length a_padPattern_heights a_padPattern_length a_ways_steps a_ways_firstThrows a_ways_lastThrows a_ways_reached a_ways_reachedCount a_history_rs a_history_oldest a_history_size a_slotZero_kept a_slotZero_filled a_slotOne_kept a_slotOne_filled] s.heap [] := Z
  have hl : lv_has ls 5 [(0, .ref (a 0)), (1, .int p1)] := hl
  refine lv_iconst (v := 1) hx hb dL_isCounted_0 (by decide) ?_
  refine lv_istore_n (lv' := [(2, .int (1 : Int32)), (0, .ref (a 0)), (1, .int p1)]) hx hb dL_isCounted_1 rfl hl (by decide) rfl (fun ls hl => ?_)
  refine lv_iconst (v := 1) hx hb dL_isCounted_2 (by decide) ?_
  refine lv_istore_n (lv' := [(3, .int (1 : Int32)), (2, .int (1 : Int32)), (0, .ref (a 0)), (1, .int p1)]) hx hb dL_isCounted_3 rfl hl (by decide) rfl (fun ls hl => ?_)
  refine lv_iconst (v := 0) hx hb dL_isCounted_4 (by decide) ?_
  refine lv_istore (lv' := [(4, .int (0 : Int32)), (3, .int (1 : Int32)), (2, .int (1 : Int32)), (0, .ref (a 0)), (1, .int p1)]) hx hb dL_isCounted_5 hl (by decide) rfl (fun ls hl => ?_)
  exact w_L_isCounted_L7 X hr hlocks _ hf Z (lv_sub hl [3, 4, 1, 0] rfl)
