def f_L_isThrown_L518 (a_now : ST) (a_ahead : ST) (a_pad_codes : (Nat → Int32)) (a_pad_length : Int32) (a_ways_steps : (Nat → Int32)) (a_ways_firstThrows : (Nat → Int32)) (a_ways_lastThrows : (Nat → Int32)) (a_ways_reached : (Nat → Int32)) (a_ways_reachedCount : Int32) (a_history_rs : (Nat → ST)) (a_history_oldest : Int32) (a_history_size : Int32) (b_pad_codes : (Nat → Int32)) (b_pad_length : Int32) (b_padPattern_heights : (Nat → Int32)) (b_padPattern_length : Int32) (d_pad_codes : (Nat → Int32)) (d_pad_length : Int32) (x4 : Int32) : Nat → Int32 → Int32 → (Nat → Int32) → Int32 → Option (Int32)
  | 0, _, _, _, _ => none
  | n + 1, x5, x11, d_padPattern_heights, d_padPattern_length => if x4 ≤ x11 then (if x5 = 0 ∨ x5 = 1 then some x5 else none) else (if x5 = 0 then (if x5 = 0 ∨ x5 = 1 then some x5 else none) else ((f_X7_back d_pad_codes d_pad_length d_padPattern_heights d_padPattern_length x11).bind (fun q17 => (f_X7_thrown a_now (0 : Int32) x11 (0 : Int32)).bind (fun q18 => if q17.1 = q18 then (f_L_isThrown_L518 a_now a_ahead a_pad_codes a_pad_length a_ways_steps a_ways_firstThrows a_ways_lastThrows a_ways_reached a_ways_reachedCount a_history_rs a_history_oldest a_history_size b_pad_codes b_pad_length b_padPattern_heights b_padPattern_length d_pad_codes d_pad_length x4 n (1 : Int32) (x11 + (1 : Int32)) q17.2.1 q17.2.2) else (f_L_isThrown_L518 a_now a_ahead a_pad_codes a_pad_length a_ways_steps a_ways_firstThrows a_ways_lastThrows a_ways_reached a_ways_reachedCount a_history_rs a_history_oldest a_history_size b_pad_codes b_pad_length b_padPattern_heights b_padPattern_length d_pad_codes d_pad_length x4 n (0 : Int32) (x11 + (1 : Int32)) q17.2.1 q17.2.2)))))
set_option maxHeartbeats 4000000 in
set_option maxRecDepth 100000 in
theorem w_L_isThrown_L518 {p : Program} {l : Launch} {e : Env} {s : State} {m : MethodId} {args : Array Value} {below : List Frame} {meth : Method} {c : Code} {D : va_G} {cI cR : ClassId} {A : Nat → Prop} {a : Nat → Nat} {b : Nat → Nat} {d : Nat → Nat} {a_now : ST} {a_ahead : ST} {a_pad_codes : (Nat → Int32)} {a_pad_length : Int32} {a_padPattern_heights : (Nat → Int32)} {a_padPattern_length : Int32} {a_ways_steps : (Nat → Int32)} {a_ways_firstThrows : (Nat → Int32)} {a_ways_lastThrows : (Nat → Int32)} {a_ways_reached : (Nat → Int32)} {a_ways_reachedCount : Int32} {a_history_rs : (Nat → ST)} {a_history_oldest : Int32} {a_history_size : Int32} {a_slotZero_kept : ST} {a_slotZero_filled : Int32} {a_slotOne_kept : ST} {a_slotOne_filled : Int32} {b_now : ST} {b_ahead : ST} {b_pad_codes : (Nat → Int32)} {b_pad_length : Int32} {b_padPattern_heights : (Nat → Int32)} {b_padPattern_length : Int32} {b_ways_steps : (Nat → Int32)} {b_ways_firstThrows : (Nat → Int32)} {b_ways_lastThrows : (Nat → Int32)} {b_ways_reached : (Nat → Int32)} {b_ways_reachedCount : Int32} {b_history_rs : (Nat → ST)} {b_history_oldest : Int32} {b_history_size : Int32} {b_slotZero_kept : ST} {b_slotZero_filled : Int32} {b_slotOne_kept : ST} {b_slotOne_filled : Int32} {d_now : ST} {d_ahead : ST} {d_pad_codes : (Nat → Int32)} {d_pad_length : Int32} {d_ways_steps : (Nat → Int32)} {d_ways_firstThrows : (Nat → Int32)} {d_ways_lastThrows : (Nat → Int32)} {d_ways_reached : (Nat → Int32)} {d_ways_reachedCount : Int32} {d_history_rs : (Nat → ST)} {d_history_oldest : Int32} {d_history_size : Int32} {d_slotZero_kept : ST} {d_slotZero_filled : Int32} {d_slotOne_kept : ST} {d_slotOne_filled : Int32} {x4 : Int32} {R : Int32} (X : zX p s m c cL_isThrown 12 args RL D cI cR A) (hO : va_AO "JugglerStates$Scene" s) (hr : meth.sig.returnType = (some .boolean)) (hlocks : meth.locks = false) : ∀ (n : Nat)  {x5 : Int32} {x11 : Int32} {d_padPattern_heights : (Nat → Int32)} {d_padPattern_length : Int32} {H : Heap} {locs : List Loc} {ls : Array Slot}, f_L_isThrown_L518 a_now a_ahead a_pad_codes a_pad_length a_ways_steps a_ways_firstThrows a_ways_lastThrows a_ways_reached a_ways_reachedCount a_history_rs a_history_oldest a_history_size b_pad_codes b_pad_length b_padPattern_heights b_padPattern_length d_pad_codes d_pad_length x4 n x5 x11 d_padPattern_heights d_padPattern_length = some R → zW D A s [w_X7 cI cR a a_now a_ahead a_pad_codes a_pad_length a_padPattern_heights a_padPattern_length a_ways_steps a_ways_firstThrows a_ways_lastThrows a_ways_reached a_ways_reachedCount a_history_rs a_history_oldest a_history_size a_slotZero_kept a_slotZero_filled a_slotOne_kept a_slotOne_filled, w_X7 cI cR b b_now b_ahead b_pad_codes b_pad_length b_padPattern_heights b_padPattern_length b_ways_steps b_ways_firstThrows b_ways_lastThrows b_ways_reached b_ways_reachedCount b_history_rs b_history_oldest b_history_size b_slotZero_kept b_slotZero_filled b_slotOne_kept b_slotOne_filled, w_X7 cI cR d d_now d_ahead d_pad_codes d_pad_length d_padPattern_heights d_padPattern_length d_ways_steps d_ways_firstThrows d_ways_lastThrows d_ways_reached d_ways_reachedCount d_history_rs d_history_oldest d_history_size d_slotZero_kept d_slotZero_filled d_slotOne_kept d_slotOne_filled] H locs → lv_has ls 12 [(2, .ref (a 0)), (4, .int x4), (5, .int x5), (10, .ref (d 0)), (11, .int x11)] → W p l e ({ frames := 7, cells := 192, slots := 4356, locals := 158 } : Room) s m args below meth c H locs 192 4356 (zET D A below s args (some (.int R)) [] 192 4356) (F0 m 518 ls []) := by
  have hx := X.1.1
  have hb := X.1.2.1
  intro n
  induction n with
  | zero =>
    intro x5 x11 d_padPattern_heights d_padPattern_length H locs ls hf
    have hf : none = some R := hf
    cases hf
  | succ n ih =>
    intro x5 x11 d_padPattern_heights d_padPattern_length H locs ls hf Z hl
    refine lv_iload hx hb dL_isThrown_518 (lv_at hl 4 rfl) ?_
    refine lv_iload hx hb dL_isThrown_520 (lv_at hl 1 rfl) ?_
    refine lv_icmp_ge (tgt := 561) hx hb dL_isThrown_522 (by decide) (fun c15 => ?_) (fun c15 => ?_)
    · have hf := it_t c15 hf
      refine lv_iload hx hb dL_isThrown_561 (lv_at hl 2 rfl) ?_
      obtain ⟨hz, hf⟩ := oi_s hf
      have hR := so_s hf
      subst hR
      refine W.widen (k := 192) (n := 4356) (Nat.le_of_ble_eq_true rfl) (Nat.le_of_ble_eq_true rfl) ?_
      exact z_zretT X hr hlocks hz Z.nil dL_isThrown_563
    · have hf := it_f c15 hf
      refine lv_iload hx hb dL_isThrown_525 (lv_at hl 2 rfl) ?_
      refine lv_if_eq (tgt := 561) hx hb dL_isThrown_527 (by decide) (fun c16 => ?_) (fun c16 => ?_)
      · have hf := it_t c16 hf
        refine lv_iload hx hb dL_isThrown_561 (lv_at hl 2 rfl) ?_
        obtain ⟨hz, hf⟩ := oi_s hf
        have hR := so_s hf
        subst hR
        refine W.widen (k := 192) (n := 4356) (Nat.le_of_ble_eq_true rfl) (Nat.le_of_ble_eq_true rfl) ?_
        exact z_zretT X hr hlocks hz Z.nil dL_isThrown_563
      · have hf := it_f c16 hf
        refine lv_aload hx hb dL_isThrown_530 (lv_at hl 3 rfl) ?_
        refine lv_iload hx hb dL_isThrown_532 (lv_at hl 4 rfl) ?_
        obtain ⟨q17, hq17, hf⟩ := ob_s hf
        refine z_callV X Z (c_X7_back l D cI cR d d_now d_ahead d_pad_codes d_pad_length d_padPattern_heights d_padPattern_length d_ways_steps d_ways_firstThrows d_ways_lastThrows d_ways_reached d_ways_reachedCount d_history_rs d_history_oldest d_history_size d_slotZero_kept d_slotZero_filled d_slotOne_kept d_slotOne_filled x11 hq17) (zw_L_76 X.1.2.2.2.2 ⟨Nat.le_of_ble_eq_true rfl, Nat.le_of_ble_eq_true rfl⟩) 128 7 rfl rfl rfl [2] [0, 1] [w_X7 cI cR a a_now a_ahead a_pad_codes a_pad_length a_padPattern_heights a_padPattern_length a_ways_steps a_ways_firstThrows a_ways_lastThrows a_ways_reached a_ways_reachedCount a_history_rs a_history_oldest a_history_size a_slotZero_kept a_slotZero_filled a_slotOne_kept a_slotOne_filled, w_X7 cI cR b b_now b_ahead b_pad_codes b_pad_length b_padPattern_heights b_padPattern_length b_ways_steps b_ways_firstThrows b_ways_lastThrows b_ways_reached b_ways_reachedCount b_history_rs b_history_oldest b_history_size b_slotZero_kept b_slotZero_filled b_slotOne_kept b_slotOne_filled, w_X7 cI cR d d_now d_ahead d_pad_codes d_pad_length q17.2.1 q17.2.2 d_ways_steps d_ways_firstThrows d_ways_lastThrows d_ways_reached d_ways_reachedCount d_history_rs d_history_oldest d_history_size d_slotZero_kept d_slotZero_filled d_slotOne_kept d_slotOne_filled] (by decide : ([2] ++ [0, 1] : List Nat).Perm (List.range 3)) rfl rfl rfl rfl rfl hl.1 rfl (Nat.le_of_ble_eq_true rfl) dL_isThrown_534 ⟨Nat.le_of_ble_eq_true rfl, Nat.le_of_ble_eq_true rfl⟩ (fun H locs Z => ?_)
        refine lv_aload_n hx hb dL_isThrown_537 rfl (lv_at hl 0 rfl) ?_
        refine lv_iconst (v := 0) hx hb dL_isThrown_538 (by decide) ?_
        refine lv_iload hx hb dL_isThrown_539 (lv_at hl 4 rfl) ?_
        refine lv_iconst (v := 0) hx hb dL_isThrown_541 (by decide) ?_
        obtain ⟨q18, hq18, hf⟩ := ob_s hf
        refine z_roV X Z (c_X7_thrown l D cI cR a a_now a_ahead a_pad_codes a_pad_length a_padPattern_heights a_padPattern_length a_ways_steps a_ways_firstThrows a_ways_lastThrows a_ways_reached a_ways_reachedCount a_history_rs a_history_oldest a_history_size a_slotZero_kept a_slotZero_filled a_slotOne_kept a_slotOne_filled (0 : Int32) x11 (0 : Int32) hq18) (zw_L_79 X.1.2.2.2.2 ⟨Nat.le_of_ble_eq_true rfl, Nat.le_of_ble_eq_true rfl⟩) 0 7 rfl rfl rfl [0] [1, 2] (by decide : ([0] ++ [1, 2] : List Nat).Perm (List.range 3)) rfl rfl hl.1 rfl (Nat.le_of_ble_eq_true rfl) dL_isThrown_542 ⟨Nat.le_of_ble_eq_true rfl, Nat.le_of_ble_eq_true rfl⟩ (fun H locs Z => ?_)
        refine lv_icmp_ne (tgt := 552) hx hb dL_isThrown_545 (by decide) (fun c19 => ?_) (fun c19 => ?_)
        · have hf := it_f c19 hf
          refine lv_iconst (v := 0) hx hb dL_isThrown_552 (by decide) ?_
          refine lv_istore (lv' := [(5, .int (0 : Int32)), (2, .ref (a 0)), (4, .int x4), (10, .ref (d 0)), (11, .int x11)]) hx hb dL_isThrown_553 hl (by decide) rfl (fun ls hl => ?_)
          refine lv_iinc (v := x11 + (1 : Int32)) (lv' := [(11, .int (x11 + (1 : Int32))), (5, .int (0 : Int32)), (2, .ref (a 0)), (4, .int x4), (10, .ref (d 0))]) hx hb dL_isThrown_555 hl (k := 4) rfl rfl (by decide) rfl (fun ls hl => ?_)
          refine lv_goto (tgt := 518) hx hb dL_isThrown_558 (by decide) ?_
          exact ih hf Z (lv_sub hl [2, 3, 1, 4, 0] rfl)
        · have hf := it_t c19 hf
          refine lv_iconst (v := 1) hx hb dL_isThrown_548 (by decide) ?_
          refine lv_goto (tgt := 553) hx hb dL_isThrown_549 (by decide) ?_
          refine lv_istore (lv' := [(5, .int (1 : Int32)), (2, .ref (a 0)), (4, .int x4), (10, .ref (d 0)), (11, .int x11)]) hx hb dL_isThrown_553 hl (by decide) rfl (fun ls hl => ?_)
          refine lv_iinc (v := x11 + (1 : Int32)) (lv' := [(11, .int (x11 + (1 : Int32))), (5, .int (1 : Int32)), (2, .ref (a 0)), (4, .int x4), (10, .ref (d 0))]) hx hb dL_isThrown_555 hl (k := 4) rfl rfl (by decide) rfl (fun ls hl => ?_)
          refine lv_goto (tgt := 518) hx hb dL_isThrown_558 (by decide) ?_
          exact ih hf Z (lv_sub hl [2, 3, 1, 4, 0] rfl)

def f_L_isThrown_L396 (a_now : ST) (a_ahead : ST) (a_pad_codes : (Nat → Int32)) (a_pad_length : Int32) (a_ways_steps : (Nat → Int32)) (a_ways_firstThrows : (Nat → Int32)) (a_ways_lastThrows : (Nat → Int32)) (a_ways_reached : (Nat → Int32)) (a_ways_reachedCount : Int32) (a_history_rs : (Nat → ST)) (a_history_oldest : Int32) (a_history_size : Int32) (b_pad_codes : (Nat → Int32)) (b_pad_length : Int32) (d_padPattern_heights : (Nat → Int32)) (d_padPattern_length : Int32) (x4 : Int32) (x7 : Int32) (x8 : Int32) (x9 : Int32) : Nat → Int32 → Int32 → (Nat → Int32) → Int32 → (Nat → Int32) → Int32 → Option (Int32)
  | 0, _, _, _, _, _, _ => none
  | n + 1, x5, x11, b_padPattern_heights, b_padPattern_length, d_pad_codes, d_pad_length => if x4 ≤ x11 then (if x5 = 0 then (f_L_isThrown_L518 a_now a_ahead a_pad_codes a_pad_length a_ways_steps a_ways_firstThrows a_ways_lastThrows a_ways_reached a_ways_reachedCount a_history_rs a_history_oldest a_history_size b_pad_codes b_pad_length b_padPattern_heights b_padPattern_length d_pad_codes d_pad_length x4 zF (0 : Int32) (0 : Int32) d_padPattern_heights d_padPattern_length) else (if x8 = (x7 * x4) then ((f_X7_pattern d_pad_codes d_pad_length d_padPattern_heights d_padPattern_length (0 : Int32)).bind (fun q21 => if q21.1 = (1 : Int32) then ((f_X7_pattern d_pad_codes d_pad_length q21.2.1 q21.2.2 (1 : Int32)).bind (fun q23 => if q23.1 = x7 then ((f_X7_pattern d_pad_codes d_pad_length q23.2.1 q23.2.2 (3 : Int32)).bind (fun q25 => (f_X7_pattern b_pad_codes b_pad_length b_padPattern_heights b_padPattern_length (3 : Int32)).bind (fun q26 => if q25.1 = q26.1 then ((f_X7_pattern d_pad_codes d_pad_length q25.2.1 q25.2.2 (5 : Int32)).bind (fun q28 => (f_X7_pattern b_pad_codes b_pad_length q26.2.1 q26.2.2 (5 : Int32)).bind (fun q29 => if q28.1 = q29.1 then (if x9 < 0 then (f_L_isThrown_L518 a_now a_ahead a_pad_codes a_pad_length a_ways_steps a_ways_firstThrows a_ways_lastThrows a_ways_reached a_ways_reachedCount a_history_rs a_history_oldest a_history_size b_pad_codes b_pad_length q29.2.1 q29.2.2 d_pad_codes d_pad_length x4 zF (0 : Int32) (0 : Int32) q28.2.1 q28.2.2) else (f_L_isThrown_L518 a_now a_ahead a_pad_codes a_pad_length a_ways_steps a_ways_firstThrows a_ways_lastThrows a_ways_reached a_ways_reachedCount a_history_rs a_history_oldest a_history_size b_pad_codes b_pad_length q29.2.1 q29.2.2 d_pad_codes d_pad_length x4 zF (1 : Int32) (0 : Int32) q28.2.1 q28.2.2)) else (f_L_isThrown_L518 a_now a_ahead a_pad_codes a_pad_length a_ways_steps a_ways_firstThrows a_ways_lastThrows a_ways_reached a_ways_reachedCount a_history_rs a_history_oldest a_history_size b_pad_codes b_pad_length q29.2.1 q29.2.2 d_pad_codes d_pad_length x4 zF (0 : Int32) (0 : Int32) q28.2.1 q28.2.2)))) else (f_L_isThrown_L518 a_now a_ahead a_pad_codes a_pad_length a_ways_steps a_ways_firstThrows a_ways_lastThrows a_ways_reached a_ways_reachedCount a_history_rs a_history_oldest a_history_size b_pad_codes b_pad_length q26.2.1 q26.2.2 d_pad_codes d_pad_length x4 zF (0 : Int32) (0 : Int32) q25.2.1 q25.2.2)))) else (f_L_isThrown_L518 a_now a_ahead a_pad_codes a_pad_length a_ways_steps a_ways_firstThrows a_ways_lastThrows a_ways_reached a_ways_reachedCount a_history_rs a_history_oldest a_history_size b_pad_codes b_pad_length b_padPattern_heights b_padPattern_length d_pad_codes d_pad_length x4 zF (0 : Int32) (0 : Int32) q23.2.1 q23.2.2))) else (f_L_isThrown_L518 a_now a_ahead a_pad_codes a_pad_length a_ways_steps a_ways_firstThrows a_ways_lastThrows a_ways_reached a_ways_reachedCount a_history_rs a_history_oldest a_history_size b_pad_codes b_pad_length b_padPattern_heights b_padPattern_length d_pad_codes d_pad_length x4 zF (0 : Int32) (0 : Int32) q21.2.1 q21.2.2))) else (f_L_isThrown_L518 a_now a_ahead a_pad_codes a_pad_length a_ways_steps a_ways_firstThrows a_ways_lastThrows a_ways_reached a_ways_reachedCount a_history_rs a_history_oldest a_history_size b_pad_codes b_pad_length b_padPattern_heights b_padPattern_length d_pad_codes d_pad_length x4 zF (0 : Int32) (0 : Int32) d_padPattern_heights d_padPattern_length))) else (if x5 = 0 then (f_L_isThrown_L396 a_now a_ahead a_pad_codes a_pad_length a_ways_steps a_ways_firstThrows a_ways_lastThrows a_ways_reached a_ways_reachedCount a_history_rs a_history_oldest a_history_size b_pad_codes b_pad_length d_padPattern_heights d_padPattern_length x4 x7 x8 x9 n (0 : Int32) (x11 + (1 : Int32)) b_padPattern_heights b_padPattern_length d_pad_codes d_pad_length) else ((f_X7_back b_pad_codes b_pad_length b_padPattern_heights b_padPattern_length x11).bind (fun q33 => (f_X7_put d_pad_codes d_pad_length (((48 : Int32) + q33.1).toInt64)).bind (fun q34 => if q34.1 ≤ 0 then (f_L_isThrown_L396 a_now a_ahead a_pad_codes a_pad_length a_ways_steps a_ways_firstThrows a_ways_lastThrows a_ways_reached a_ways_reachedCount a_history_rs a_history_oldest a_history_size b_pad_codes b_pad_length d_padPattern_heights d_padPattern_length x4 x7 x8 x9 n (0 : Int32) (x11 + (1 : Int32)) q33.2.1 q33.2.2 q34.2.1 q34.2.2) else (f_L_isThrown_L396 a_now a_ahead a_pad_codes a_pad_length a_ways_steps a_ways_firstThrows a_ways_lastThrows a_ways_reached a_ways_reachedCount a_history_rs a_history_oldest a_history_size b_pad_codes b_pad_length d_padPattern_heights d_padPattern_length x4 x7 x8 x9 n (1 : Int32) (x11 + (1 : Int32)) q33.2.1 q33.2.2 q34.2.1 q34.2.2)))))
set_option maxHeartbeats 4000000 in
set_option maxRecDepth 100000 in
theorem w_L_isThrown_L396 {p : Program} {l : Launch} {e : Env} {s : State} {m : MethodId} {args : Array Value} {below : List Frame} {meth : Method} {c : Code} {D : va_G} {cI cR : ClassId} {A : Nat → Prop} {a : Nat → Nat} {b : Nat → Nat} {d : Nat → Nat} {a_now : ST} {a_ahead : ST} {a_pad_codes : (Nat → Int32)} {a_pad_length : Int32} {a_padPattern_heights : (Nat → Int32)} {a_padPattern_length : Int32} {a_ways_steps : (Nat → Int32)} {a_ways_firstThrows : (Nat → Int32)} {a_ways_lastThrows : (Nat → Int32)} {a_ways_reached : (Nat → Int32)} {a_ways_reachedCount : Int32} {a_history_rs : (Nat → ST)} {a_history_oldest : Int32} {a_history_size : Int32} {a_slotZero_kept : ST} {a_slotZero_filled : Int32} {a_slotOne_kept : ST} {a_slotOne_filled : Int32} {b_now : ST} {b_ahead : ST} {b_pad_codes : (Nat → Int32)} {b_pad_length : Int32} {b_ways_steps : (Nat → Int32)} {b_ways_firstThrows : (Nat → Int32)} {b_ways_lastThrows : (Nat → Int32)} {b_ways_reached : (Nat → Int32)} {b_ways_reachedCount : Int32} {b_history_rs : (Nat → ST)} {b_history_oldest : Int32} {b_history_size : Int32} {b_slotZero_kept : ST} {b_slotZero_filled : Int32} {b_slotOne_kept : ST} {b_slotOne_filled : Int32} {d_now : ST} {d_ahead : ST} {d_padPattern_heights : (Nat → Int32)} {d_padPattern_length : Int32} {d_ways_steps : (Nat → Int32)} {d_ways_firstThrows : (Nat → Int32)} {d_ways_lastThrows : (Nat → Int32)} {d_ways_reached : (Nat → Int32)} {d_ways_reachedCount : Int32} {d_history_rs : (Nat → ST)} {d_history_oldest : Int32} {d_history_size : Int32} {d_slotZero_kept : ST} {d_slotZero_filled : Int32} {d_slotOne_kept : ST} {d_slotOne_filled : Int32} {x4 : Int32} {x7 : Int32} {x8 : Int32} {x9 : Int32} {R : Int32} (X : zX p s m c cL_isThrown 12 args RL D cI cR A) (hO : va_AO "JugglerStates$Scene" s) (hr : meth.sig.returnType = (some .boolean)) (hlocks : meth.locks = false) : ∀ (n : Nat)  {x5 : Int32} {x11 : Int32} {b_padPattern_heights : (Nat → Int32)} {b_padPattern_length : Int32} {d_pad_codes : (Nat → Int32)} {d_pad_length : Int32} {H : Heap} {locs : List Loc} {ls : Array Slot}, f_L_isThrown_L396 a_now a_ahead a_pad_codes a_pad_length a_ways_steps a_ways_firstThrows a_ways_lastThrows a_ways_reached a_ways_reachedCount a_history_rs a_history_oldest a_history_size b_pad_codes b_pad_length d_padPattern_heights d_padPattern_length x4 x7 x8 x9 n x5 x11 b_padPattern_heights b_padPattern_length d_pad_codes d_pad_length = some R → zW D A s [w_X7 cI cR a a_now a_ahead a_pad_codes a_pad_length a_padPattern_heights a_padPattern_length a_ways_steps a_ways_firstThrows a_ways_lastThrows a_ways_reached a_ways_reachedCount a_history_rs a_history_oldest a_history_size a_slotZero_kept a_slotZero_filled a_slotOne_kept a_slotOne_filled, w_X7 cI cR b b_now b_ahead b_pad_codes b_pad_length b_padPattern_heights b_padPattern_length b_ways_steps b_ways_firstThrows b_ways_lastThrows b_ways_reached b_ways_reachedCount b_history_rs b_history_oldest b_history_size b_slotZero_kept b_slotZero_filled b_slotOne_kept b_slotOne_filled, w_X7 cI cR d d_now d_ahead d_pad_codes d_pad_length d_padPattern_heights d_padPattern_length d_ways_steps d_ways_firstThrows d_ways_lastThrows d_ways_reached d_ways_reachedCount d_history_rs d_history_oldest d_history_size d_slotZero_kept d_slotZero_filled d_slotOne_kept d_slotOne_filled] H locs → lv_has ls 12 [(2, .ref (a 0)), (3, .ref (b 0)), (4, .int x4), (5, .int x5), (7, .int x7), (8, .int x8), (9, .int x9), (10, .ref (d 0)), (11, .int x11)] → W p l e ({ frames := 7, cells := 192, slots := 4356, locals := 158 } : Room) s m args below meth c H locs 192 4356 (zET D A below s args (some (.int R)) [] 192 4356) (F0 m 396 ls []) := by
  have hx := X.1.1
  have hb := X.1.2.1
  intro n
  induction n with
  | zero =>
    intro x5 x11 b_padPattern_heights b_padPattern_length d_pad_codes d_pad_length H locs ls hf
    have hf : none = some R := hf
    cases hf
  | succ n ih =>
    intro x5 x11 b_padPattern_heights b_padPattern_length d_pad_codes d_pad_length H locs ls hf Z hl
    refine lv_iload hx hb dL_isThrown_396 (lv_at hl 8 rfl) ?_
    refine lv_iload hx hb dL_isThrown_398 (lv_at hl 2 rfl) ?_
    refine lv_icmp_ge (tgt := 439) hx hb dL_isThrown_400 (by decide) (fun c13 => ?_) (fun c13 => ?_)
    · have hf := it_t c13 hf
      refine lv_iload hx hb dL_isThrown_439 (lv_at hl 3 rfl) ?_
      refine lv_if_eq (tgt := 512) hx hb dL_isThrown_441 (by decide) (fun c14 => ?_) (fun c14 => ?_)
      · have hf := it_t c14 hf
        refine lv_iconst (v := 0) hx hb dL_isThrown_512 (by decide) ?_
        refine lv_istore (lv' := [(5, .int (0 : Int32)), (2, .ref (a 0)), (3, .ref (b 0)), (4, .int x4), (7, .int x7), (8, .int x8), (9, .int x9), (10, .ref (d 0)), (11, .int x11)]) hx hb dL_isThrown_513 hl (by decide) rfl (fun ls hl => ?_)
        refine lv_iconst (v := 0) hx hb dL_isThrown_515 (by decide) ?_
        refine lv_istore (lv' := [(11, .int (0 : Int32)), (5, .int (0 : Int32)), (2, .ref (a 0)), (3, .ref (b 0)), (4, .int x4), (7, .int x7), (8, .int x8), (9, .int x9), (10, .ref (d 0))]) hx hb dL_isThrown_516 hl (by decide) rfl (fun ls hl => ?_)
        refine W.widen (k := 192) (n := 4356) (Nat.le_of_ble_eq_true rfl) (Nat.le_of_ble_eq_true rfl) ?_
        exact w_L_isThrown_L518 X hO hr hlocks _ hf Z (lv_sub hl [2, 4, 1, 8, 0] rfl)
      · have hf := it_f c14 hf
        refine lv_iload hx hb dL_isThrown_444 (lv_at hl 5 rfl) ?_
        refine lv_iload hx hb dL_isThrown_446 (lv_at hl 4 rfl) ?_
        refine lv_iload hx hb dL_isThrown_448 (lv_at hl 2 rfl) ?_
        refine lv_imul hx hb dL_isThrown_450 ?_
        refine lv_icmp_ne (tgt := 512) hx hb dL_isThrown_451 (by decide) (fun c20 => ?_) (fun c20 => ?_)
        · have hf := it_f c20 hf
          refine lv_iconst (v := 0) hx hb dL_isThrown_512 (by decide) ?_
          refine lv_istore (lv' := [(5, .int (0 : Int32)), (2, .ref (a 0)), (3, .ref (b 0)), (4, .int x4), (7, .int x7), (8, .int x8), (9, .int x9), (10, .ref (d 0)), (11, .int x11)]) hx hb dL_isThrown_513 hl (by decide) rfl (fun ls hl => ?_)
          refine lv_iconst (v := 0) hx hb dL_isThrown_515 (by decide) ?_
          refine lv_istore (lv' := [(11, .int (0 : Int32)), (5, .int (0 : Int32)), (2, .ref (a 0)), (3, .ref (b 0)), (4, .int x4), (7, .int x7), (8, .int x8), (9, .int x9), (10, .ref (d 0))]) hx hb dL_isThrown_516 hl (by decide) rfl (fun ls hl => ?_)
          refine W.widen (k := 192) (n := 4356) (Nat.le_of_ble_eq_true rfl) (Nat.le_of_ble_eq_true rfl) ?_
          exact w_L_isThrown_L518 X hO hr hlocks _ hf Z (lv_sub hl [2, 4, 1, 8, 0] rfl)
        · have hf := it_t c20 hf
          refine lv_aload hx hb dL_isThrown_454 (lv_at hl 7 rfl) ?_
          refine lv_iconst (v := 0) hx hb dL_isThrown_456 (by decide) ?_
          obtain ⟨q21, hq21, hf⟩ := ob_s hf
          refine z_callV X Z (c_X7_pattern l D cI cR d d_now d_ahead d_pad_codes d_pad_length d_padPattern_heights d_padPattern_length d_ways_steps d_ways_firstThrows d_ways_lastThrows d_ways_reached d_ways_reachedCount d_history_rs d_history_oldest d_history_size d_slotZero_kept d_slotZero_filled d_slotOne_kept d_slotOne_filled (0 : Int32) hq21) (zw_L_69 X.1.2.2.2.2 ⟨Nat.le_of_ble_eq_true rfl, Nat.le_of_ble_eq_true rfl⟩) 128 7 rfl rfl rfl [2] [0, 1] [w_X7 cI cR a a_now a_ahead a_pad_codes a_pad_length a_padPattern_heights a_padPattern_length a_ways_steps a_ways_firstThrows a_ways_lastThrows a_ways_reached a_ways_reachedCount a_history_rs a_history_oldest a_history_size a_slotZero_kept a_slotZero_filled a_slotOne_kept a_slotOne_filled, w_X7 cI cR b b_now b_ahead b_pad_codes b_pad_length b_padPattern_heights b_padPattern_length b_ways_steps b_ways_firstThrows b_ways_lastThrows b_ways_reached b_ways_reachedCount b_history_rs b_history_oldest b_history_size b_slotZero_kept b_slotZero_filled b_slotOne_kept b_slotOne_filled, w_X7 cI cR d d_now d_ahead d_pad_codes d_pad_length q21.2.1 q21.2.2 d_ways_steps d_ways_firstThrows d_ways_lastThrows d_ways_reached d_ways_reachedCount d_history_rs d_history_oldest d_history_size d_slotZero_kept d_slotZero_filled d_slotOne_kept d_slotOne_filled] (by decide : ([2] ++ [0, 1] : List Nat).Perm (List.range 3)) rfl rfl rfl rfl rfl hl.1 rfl (Nat.le_of_ble_eq_true rfl) dL_isThrown_457 ⟨Nat.le_of_ble_eq_true rfl, Nat.le_of_ble_eq_true rfl⟩ (fun H locs Z => ?_)
          refine lv_iconst (v := 1) hx hb dL_isThrown_460 (by decide) ?_
          refine lv_icmp_ne (tgt := 512) hx hb dL_isThrown_461 (by decide) (fun c22 => ?_) (fun c22 => ?_)
          · have hf := it_f c22 hf
            refine lv_iconst (v := 0) hx hb dL_isThrown_512 (by decide) ?_
            refine lv_istore (lv' := [(5, .int (0 : Int32)), (2, .ref (a 0)), (3, .ref (b 0)), (4, .int x4), (7, .int x7), (8, .int x8), (9, .int x9), (10, .ref (d 0)), (11, .int x11)]) hx hb dL_isThrown_513 hl (by decide) rfl (fun ls hl => ?_)
            refine lv_iconst (v := 0) hx hb dL_isThrown_515 (by decide) ?_
            refine lv_istore (lv' := [(11, .int (0 : Int32)), (5, .int (0 : Int32)), (2, .ref (a 0)), (3, .ref (b 0)), (4, .int x4), (7, .int x7), (8, .int x8), (9, .int x9), (10, .ref (d 0))]) hx hb dL_isThrown_516 hl (by decide) rfl (fun ls hl => ?_)
            refine W.widen (k := 192) (n := 4356) (Nat.le_of_ble_eq_true rfl) (Nat.le_of_ble_eq_true rfl) ?_
            exact w_L_isThrown_L518 X hO hr hlocks _ hf Z (lv_sub hl [2, 4, 1, 8, 0] rfl)
          · have hf := it_t c22 hf
            refine lv_aload hx hb dL_isThrown_464 (lv_at hl 7 rfl) ?_
            refine lv_iconst (v := 1) hx hb dL_isThrown_466 (by decide) ?_
            obtain ⟨q23, hq23, hf⟩ := ob_s hf
            refine z_callV X Z (c_X7_pattern l D cI cR d d_now d_ahead d_pad_codes d_pad_length q21.2.1 q21.2.2 d_ways_steps d_ways_firstThrows d_ways_lastThrows d_ways_reached d_ways_reachedCount d_history_rs d_history_oldest d_history_size d_slotZero_kept d_slotZero_filled d_slotOne_kept d_slotOne_filled (1 : Int32) hq23) (zw_L_69 X.1.2.2.2.2 ⟨Nat.le_of_ble_eq_true rfl, Nat.le_of_ble_eq_true rfl⟩) 128 7 rfl rfl rfl [2] [0, 1] [w_X7 cI cR a a_now a_ahead a_pad_codes a_pad_length a_padPattern_heights a_padPattern_length a_ways_steps a_ways_firstThrows a_ways_lastThrows a_ways_reached a_ways_reachedCount a_history_rs a_history_oldest a_history_size a_slotZero_kept a_slotZero_filled a_slotOne_kept a_slotOne_filled, w_X7 cI cR b b_now b_ahead b_pad_codes b_pad_length b_padPattern_heights b_padPattern_length b_ways_steps b_ways_firstThrows b_ways_lastThrows b_ways_reached b_ways_reachedCount b_history_rs b_history_oldest b_history_size b_slotZero_kept b_slotZero_filled b_slotOne_kept b_slotOne_filled, w_X7 cI cR d d_now d_ahead d_pad_codes d_pad_length q23.2.1 q23.2.2 d_ways_steps d_ways_firstThrows d_ways_lastThrows d_ways_reached d_ways_reachedCount d_history_rs d_history_oldest d_history_size d_slotZero_kept d_slotZero_filled d_slotOne_kept d_slotOne_filled] (by decide : ([2] ++ [0, 1] : List Nat).Perm (List.range 3)) rfl rfl rfl rfl rfl hl.1 rfl (Nat.le_of_ble_eq_true rfl) dL_isThrown_467 ⟨Nat.le_of_ble_eq_true rfl, Nat.le_of_ble_eq_true rfl⟩ (fun H locs Z => ?_)
            refine lv_iload hx hb dL_isThrown_470 (lv_at hl 4 rfl) ?_
            refine lv_icmp_ne (tgt := 512) hx hb dL_isThrown_472 (by decide) (fun c24 => ?_) (fun c24 => ?_)
            · have hf := it_f c24 hf
              refine lv_iconst (v := 0) hx hb dL_isThrown_512 (by decide) ?_
              refine lv_istore (lv' := [(5, .int (0 : Int32)), (2, .ref (a 0)), (3, .ref (b 0)), (4, .int x4), (7, .int x7), (8, .int x8), (9, .int x9), (10, .ref (d 0)), (11, .int x11)]) hx hb dL_isThrown_513 hl (by decide) rfl (fun ls hl => ?_)
              refine lv_iconst (v := 0) hx hb dL_isThrown_515 (by decide) ?_
              refine lv_istore (lv' := [(11, .int (0 : Int32)), (5, .int (0 : Int32)), (2, .ref (a 0)), (3, .ref (b 0)), (4, .int x4), (7, .int x7), (8, .int x8), (9, .int x9), (10, .ref (d 0))]) hx hb dL_isThrown_516 hl (by decide) rfl (fun ls hl => ?_)
              refine W.widen (k := 192) (n := 4356) (Nat.le_of_ble_eq_true rfl) (Nat.le_of_ble_eq_true rfl) ?_
              exact w_L_isThrown_L518 X hO hr hlocks _ hf Z (lv_sub hl [2, 4, 1, 8, 0] rfl)
            · have hf := it_t c24 hf
              refine lv_aload hx hb dL_isThrown_475 (lv_at hl 7 rfl) ?_
              refine lv_iconst (v := 3) hx hb dL_isThrown_477 (by decide) ?_
              obtain ⟨q25, hq25, hf⟩ := ob_s hf
              refine z_callV X Z (c_X7_pattern l D cI cR d d_now d_ahead d_pad_codes d_pad_length q23.2.1 q23.2.2 d_ways_steps d_ways_firstThrows d_ways_lastThrows d_ways_reached d_ways_reachedCount d_history_rs d_history_oldest d_history_size d_slotZero_kept d_slotZero_filled d_slotOne_kept d_slotOne_filled (3 : Int32) hq25) (zw_L_69 X.1.2.2.2.2 ⟨Nat.le_of_ble_eq_true rfl, Nat.le_of_ble_eq_true rfl⟩) 128 7 rfl rfl rfl [2] [0, 1] [w_X7 cI cR a a_now a_ahead a_pad_codes a_pad_length a_padPattern_heights a_padPattern_length a_ways_steps a_ways_firstThrows a_ways_lastThrows a_ways_reached a_ways_reachedCount a_history_rs a_history_oldest a_history_size a_slotZero_kept a_slotZero_filled a_slotOne_kept a_slotOne_filled, w_X7 cI cR b b_now b_ahead b_pad_codes b_pad_length b_padPattern_heights b_padPattern_length b_ways_steps b_ways_firstThrows b_ways_lastThrows b_ways_reached b_ways_reachedCount b_history_rs b_history_oldest b_history_size b_slotZero_kept b_slotZero_filled b_slotOne_kept b_slotOne_filled, w_X7 cI cR d d_now d_ahead d_pad_codes d_pad_length q25.2.1 q25.2.2 d_ways_steps d_ways_firstThrows d_ways_lastThrows d_ways_reached d_ways_reachedCount d_history_rs d_history_oldest d_history_size d_slotZero_kept d_slotZero_filled d_slotOne_kept d_slotOne_filled] (by decide : ([2] ++ [0, 1] : List Nat).Perm (List.range 3)) rfl rfl rfl rfl rfl hl.1 rfl (Nat.le_of_ble_eq_true rfl) dL_isThrown_478 ⟨Nat.le_of_ble_eq_true rfl, Nat.le_of_ble_eq_true rfl⟩ (fun H locs Z => ?_)
              refine lv_aload_n hx hb dL_isThrown_481 rfl (lv_at hl 1 rfl) ?_
              refine lv_iconst (v := 3) hx hb dL_isThrown_482 (by decide) ?_
              obtain ⟨q26, hq26, hf⟩ := ob_s hf
              refine z_callV X Z (c_X7_pattern l D cI cR b b_now b_ahead b_pad_codes b_pad_length b_padPattern_heights b_padPattern_length b_ways_steps b_ways_firstThrows b_ways_lastThrows b_ways_reached b_ways_reachedCount b_history_rs b_history_oldest b_history_size b_slotZero_kept b_slotZero_filled b_slotOne_kept b_slotOne_filled (3 : Int32) hq26) (zw_L_69 X.1.2.2.2.2 ⟨Nat.le_of_ble_eq_true rfl, Nat.le_of_ble_eq_true rfl⟩) 64 7 rfl rfl rfl [1] [0, 2] [w_X7 cI cR a a_now a_ahead a_pad_codes a_pad_length a_padPattern_heights a_padPattern_length a_ways_steps a_ways_firstThrows a_ways_lastThrows a_ways_reached a_ways_reachedCount a_history_rs a_history_oldest a_history_size a_slotZero_kept a_slotZero_filled a_slotOne_kept a_slotOne_filled, w_X7 cI cR b b_now b_ahead b_pad_codes b_pad_length q26.2.1 q26.2.2 b_ways_steps b_ways_firstThrows b_ways_lastThrows b_ways_reached b_ways_reachedCount b_history_rs b_history_oldest b_history_size b_slotZero_kept b_slotZero_filled b_slotOne_kept b_slotOne_filled, w_X7 cI cR d d_now d_ahead d_pad_codes d_pad_length q25.2.1 q25.2.2 d_ways_steps d_ways_firstThrows d_ways_lastThrows d_ways_reached d_ways_reachedCount d_history_rs d_history_oldest d_history_size d_slotZero_kept d_slotZero_filled d_slotOne_kept d_slotOne_filled] (by decide : ([1] ++ [0, 2] : List Nat).Perm (List.range 3)) rfl rfl rfl rfl rfl hl.1 rfl (Nat.le_of_ble_eq_true rfl) dL_isThrown_483 ⟨Nat.le_of_ble_eq_true rfl, Nat.le_of_ble_eq_true rfl⟩ (fun H locs Z => ?_)
              refine lv_icmp_ne (tgt := 512) hx hb dL_isThrown_486 (by decide) (fun c27 => ?_) (fun c27 => ?_)
              · have hf := it_f c27 hf
                refine lv_iconst (v := 0) hx hb dL_isThrown_512 (by decide) ?_
                refine lv_istore (lv' := [(5, .int (0 : Int32)), (2, .ref (a 0)), (3, .ref (b 0)), (4, .int x4), (7, .int x7), (8, .int x8), (9, .int x9), (10, .ref (d 0)), (11, .int x11)]) hx hb dL_isThrown_513 hl (by decide) rfl (fun ls hl => ?_)
                refine lv_iconst (v := 0) hx hb dL_isThrown_515 (by decide) ?_
                refine lv_istore (lv' := [(11, .int (0 : Int32)), (5, .int (0 : Int32)), (2, .ref (a 0)), (3, .ref (b 0)), (4, .int x4), (7, .int x7), (8, .int x8), (9, .int x9), (10, .ref (d 0))]) hx hb dL_isThrown_516 hl (by decide) rfl (fun ls hl => ?_)
                refine W.widen (k := 192) (n := 4356) (Nat.le_of_ble_eq_true rfl) (Nat.le_of_ble_eq_true rfl) ?_
                exact w_L_isThrown_L518 X hO hr hlocks _ hf Z (lv_sub hl [2, 4, 1, 8, 0] rfl)
              · have hf := it_t c27 hf
                refine lv_aload hx hb dL_isThrown_489 (lv_at hl 7 rfl) ?_
                refine lv_iconst (v := 5) hx hb dL_isThrown_491 (by decide) ?_
                obtain ⟨q28, hq28, hf⟩ := ob_s hf
                refine z_callV X Z (c_X7_pattern l D cI cR d d_now d_ahead d_pad_codes d_pad_length q25.2.1 q25.2.2 d_ways_steps d_ways_firstThrows d_ways_lastThrows d_ways_reached d_ways_reachedCount d_history_rs d_history_oldest d_history_size d_slotZero_kept d_slotZero_filled d_slotOne_kept d_slotOne_filled (5 : Int32) hq28) (zw_L_69 X.1.2.2.2.2 ⟨Nat.le_of_ble_eq_true rfl, Nat.le_of_ble_eq_true rfl⟩) 128 7 rfl rfl rfl [2] [0, 1] [w_X7 cI cR a a_now a_ahead a_pad_codes a_pad_length a_padPattern_heights a_padPattern_length a_ways_steps a_ways_firstThrows a_ways_lastThrows a_ways_reached a_ways_reachedCount a_history_rs a_history_oldest a_history_size a_slotZero_kept a_slotZero_filled a_slotOne_kept a_slotOne_filled, w_X7 cI cR b b_now b_ahead b_pad_codes b_pad_length q26.2.1 q26.2.2 b_ways_steps b_ways_firstThrows b_ways_lastThrows b_ways_reached b_ways_reachedCount b_history_rs b_history_oldest b_history_size b_slotZero_kept b_slotZero_filled b_slotOne_kept b_slotOne_filled, w_X7 cI cR d d_now d_ahead d_pad_codes d_pad_length q28.2.1 q28.2.2 d_ways_steps d_ways_firstThrows d_ways_lastThrows d_ways_reached d_ways_reachedCount d_history_rs d_history_oldest d_history_size d_slotZero_kept d_slotZero_filled d_slotOne_kept d_slotOne_filled] (by decide : ([2] ++ [0, 1] : List Nat).Perm (List.range 3)) rfl rfl rfl rfl rfl hl.1 rfl (Nat.le_of_ble_eq_true rfl) dL_isThrown_492 ⟨Nat.le_of_ble_eq_true rfl, Nat.le_of_ble_eq_true rfl⟩ (fun H locs Z => ?_)
                refine lv_aload_n hx hb dL_isThrown_495 rfl (lv_at hl 1 rfl) ?_
                refine lv_iconst (v := 5) hx hb dL_isThrown_496 (by decide) ?_
                obtain ⟨q29, hq29, hf⟩ := ob_s hf
                refine z_callV X Z (c_X7_pattern l D cI cR b b_now b_ahead b_pad_codes b_pad_length q26.2.1 q26.2.2 b_ways_steps b_ways_firstThrows b_ways_lastThrows b_ways_reached b_ways_reachedCount b_history_rs b_history_oldest b_history_size b_slotZero_kept b_slotZero_filled b_slotOne_kept b_slotOne_filled (5 : Int32) hq29) (zw_L_69 X.1.2.2.2.2 ⟨Nat.le_of_ble_eq_true rfl, Nat.le_of_ble_eq_true rfl⟩) 64 7 rfl rfl rfl [1] [0, 2] [w_X7 cI cR a a_now a_ahead a_pad_codes a_pad_length a_padPattern_heights a_padPattern_length a_ways_steps a_ways_firstThrows a_ways_lastThrows a_ways_reached a_ways_reachedCount a_history_rs a_history_oldest a_history_size a_slotZero_kept a_slotZero_filled a_slotOne_kept a_slotOne_filled, w_X7 cI cR b b_now b_ahead b_pad_codes b_pad_length q29.2.1 q29.2.2 b_ways_steps b_ways_firstThrows b_ways_lastThrows b_ways_reached b_ways_reachedCount b_history_rs b_history_oldest b_history_size b_slotZero_kept b_slotZero_filled b_slotOne_kept b_slotOne_filled, w_X7 cI cR d d_now d_ahead d_pad_codes d_pad_length q28.2.1 q28.2.2 d_ways_steps d_ways_firstThrows d_ways_lastThrows d_ways_reached d_ways_reachedCount d_history_rs d_history_oldest d_history_size d_slotZero_kept d_slotZero_filled d_slotOne_kept d_slotOne_filled] (by decide : ([1] ++ [0, 2] : List Nat).Perm (List.range 3)) rfl rfl rfl rfl rfl hl.1 rfl (Nat.le_of_ble_eq_true rfl) dL_isThrown_497 ⟨Nat.le_of_ble_eq_true rfl, Nat.le_of_ble_eq_true rfl⟩ (fun H locs Z => ?_)
                refine lv_icmp_ne (tgt := 512) hx hb dL_isThrown_500 (by decide) (fun c30 => ?_) (fun c30 => ?_)
                · have hf := it_f c30 hf
                  refine lv_iconst (v := 0) hx hb dL_isThrown_512 (by decide) ?_
                  refine lv_istore (lv' := [(5, .int (0 : Int32)), (2, .ref (a 0)), (3, .ref (b 0)), (4, .int x4), (7, .int x7), (8, .int x8), (9, .int x9), (10, .ref (d 0)), (11, .int x11)]) hx hb dL_isThrown_513 hl (by decide) rfl (fun ls hl => ?_)
                  refine lv_iconst (v := 0) hx hb dL_isThrown_515 (by decide) ?_
                  refine lv_istore (lv' := [(11, .int (0 : Int32)), (5, .int (0 : Int32)), (2, .ref (a 0)), (3, .ref (b 0)), (4, .int x4), (7, .int x7), (8, .int x8), (9, .int x9), (10, .ref (d 0))]) hx hb dL_isThrown_516 hl (by decide) rfl (fun ls hl => ?_)
                  refine W.widen (k := 192) (n := 4356) (Nat.le_of_ble_eq_true rfl) (Nat.le_of_ble_eq_true rfl) ?_
                  exact w_L_isThrown_L518 X hO hr hlocks _ hf Z (lv_sub hl [2, 4, 1, 8, 0] rfl)
                · have hf := it_t c30 hf
                  refine lv_iload hx hb dL_isThrown_503 (lv_at hl 6 rfl) ?_
                  refine lv_if_lt (tgt := 512) hx hb dL_isThrown_505 (by decide) (fun c31 => ?_) (fun c31 => ?_)
                  · have hf := it_t c31 hf
                    refine lv_iconst (v := 0) hx hb dL_isThrown_512 (by decide) ?_
                    refine lv_istore (lv' := [(5, .int (0 : Int32)), (2, .ref (a 0)), (3, .ref (b 0)), (4, .int x4), (7, .int x7), (8, .int x8), (9, .int x9), (10, .ref (d 0)), (11, .int x11)]) hx hb dL_isThrown_513 hl (by decide) rfl (fun ls hl => ?_)
                    refine lv_iconst (v := 0) hx hb dL_isThrown_515 (by decide) ?_
                    refine lv_istore (lv' := [(11, .int (0 : Int32)), (5, .int (0 : Int32)), (2, .ref (a 0)), (3, .ref (b 0)), (4, .int x4), (7, .int x7), (8, .int x8), (9, .int x9), (10, .ref (d 0))]) hx hb dL_isThrown_516 hl (by decide) rfl (fun ls hl => ?_)
                    refine W.widen (k := 192) (n := 4356) (Nat.le_of_ble_eq_true rfl) (Nat.le_of_ble_eq_true rfl) ?_
                    exact w_L_isThrown_L518 X hO hr hlocks _ hf Z (lv_sub hl [2, 4, 1, 8, 0] rfl)
                  · have hf := it_f c31 hf
                    refine lv_iconst (v := 1) hx hb dL_isThrown_508 (by decide) ?_
                    refine lv_goto (tgt := 513) hx hb dL_isThrown_509 (by decide) ?_
                    refine lv_istore (lv' := [(5, .int (1 : Int32)), (2, .ref (a 0)), (3, .ref (b 0)), (4, .int x4), (7, .int x7), (8, .int x8), (9, .int x9), (10, .ref (d 0)), (11, .int x11)]) hx hb dL_isThrown_513 hl (by decide) rfl (fun ls hl => ?_)
                    refine lv_iconst (v := 0) hx hb dL_isThrown_515 (by decide) ?_
                    refine lv_istore (lv' := [(11, .int (0 : Int32)), (5, .int (1 : Int32)), (2, .ref (a 0)), (3, .ref (b 0)), (4, .int x4), (7, .int x7), (8, .int x8), (9, .int x9), (10, .ref (d 0))]) hx hb dL_isThrown_516 hl (by decide) rfl (fun ls hl => ?_)
                    refine W.widen (k := 192) (n := 4356) (Nat.le_of_ble_eq_true rfl) (Nat.le_of_ble_eq_true rfl) ?_
                    exact w_L_isThrown_L518 X hO hr hlocks _ hf Z (lv_sub hl [2, 4, 1, 8, 0] rfl)
    · have hf := it_f c13 hf
      refine lv_iload hx hb dL_isThrown_403 (lv_at hl 3 rfl) ?_
      refine lv_if_eq (tgt := 430) hx hb dL_isThrown_405 (by decide) (fun c32 => ?_) (fun c32 => ?_)
      · have hf := it_t c32 hf
        refine lv_iconst (v := 0) hx hb dL_isThrown_430 (by decide) ?_
        refine lv_istore (lv' := [(5, .int (0 : Int32)), (2, .ref (a 0)), (3, .ref (b 0)), (4, .int x4), (7, .int x7), (8, .int x8), (9, .int x9), (10, .ref (d 0)), (11, .int x11)]) hx hb dL_isThrown_431 hl (by decide) rfl (fun ls hl => ?_)
        refine lv_iinc (v := x11 + (1 : Int32)) (lv' := [(11, .int (x11 + (1 : Int32))), (5, .int (0 : Int32)), (2, .ref (a 0)), (3, .ref (b 0)), (4, .int x4), (7, .int x7), (8, .int x8), (9, .int x9), (10, .ref (d 0))]) hx hb dL_isThrown_433 hl (k := 8) rfl rfl (by decide) rfl (fun ls hl => ?_)
        refine lv_goto (tgt := 396) hx hb dL_isThrown_436 (by decide) ?_
        exact ih hf Z (lv_sub hl [2, 3, 4, 1, 5, 6, 7, 8, 0] rfl)
      · have hf := it_f c32 hf
        refine lv_aload hx hb dL_isThrown_408 (lv_at hl 7 rfl) ?_
        refine lv_bipush (v := 48) hx hb dL_isThrown_410 (by decide) ?_
        refine lv_aload_n hx hb dL_isThrown_412 rfl (lv_at hl 1 rfl) ?_
        refine lv_iload hx hb dL_isThrown_413 (lv_at hl 8 rfl) ?_
        obtain ⟨q33, hq33, hf⟩ := ob_s hf
        refine z_callV X Z (c_X7_back l D cI cR b b_now b_ahead b_pad_codes b_pad_length b_padPattern_heights b_padPattern_length b_ways_steps b_ways_firstThrows b_ways_lastThrows b_ways_reached b_ways_reachedCount b_history_rs b_history_oldest b_history_size b_slotZero_kept b_slotZero_filled b_slotOne_kept b_slotOne_filled x11 hq33) (zw_L_76 X.1.2.2.2.2 ⟨Nat.le_of_ble_eq_true rfl, Nat.le_of_ble_eq_true rfl⟩) 64 7 rfl rfl rfl [1] [0, 2] [w_X7 cI cR a a_now a_ahead a_pad_codes a_pad_length a_padPattern_heights a_padPattern_length a_ways_steps a_ways_firstThrows a_ways_lastThrows a_ways_reached a_ways_reachedCount a_history_rs a_history_oldest a_history_size a_slotZero_kept a_slotZero_filled a_slotOne_kept a_slotOne_filled, w_X7 cI cR b b_now b_ahead b_pad_codes b_pad_length q33.2.1 q33.2.2 b_ways_steps b_ways_firstThrows b_ways_lastThrows b_ways_reached b_ways_reachedCount b_history_rs b_history_oldest b_history_size b_slotZero_kept b_slotZero_filled b_slotOne_kept b_slotOne_filled, w_X7 cI cR d d_now d_ahead d_pad_codes d_pad_length d_padPattern_heights d_padPattern_length d_ways_steps d_ways_firstThrows d_ways_lastThrows d_ways_reached d_ways_reachedCount d_history_rs d_history_oldest d_history_size d_slotZero_kept d_slotZero_filled d_slotOne_kept d_slotOne_filled] (by decide : ([1] ++ [0, 2] : List Nat).Perm (List.range 3)) rfl rfl rfl rfl rfl hl.1 rfl (Nat.le_of_ble_eq_true rfl) dL_isThrown_415 ⟨Nat.le_of_ble_eq_true rfl, Nat.le_of_ble_eq_true rfl⟩ (fun H locs Z => ?_)
        refine lv_iadd hx hb dL_isThrown_418 ?_
        refine lv_i2l hx hb dL_isThrown_419 rfl ?_
        obtain ⟨q34, hq34, hf⟩ := ob_s hf
        refine z_callV X Z (c_X7_put l D cI cR d d_now d_ahead d_pad_codes d_pad_length d_padPattern_heights d_padPattern_length d_ways_steps d_ways_firstThrows d_ways_lastThrows d_ways_reached d_ways_reachedCount d_history_rs d_history_oldest d_history_size d_slotZero_kept d_slotZero_filled d_slotOne_kept d_slotOne_filled (((48 : Int32) + q33.1).toInt64) hq34) (zw_L_31 X.1.2.2.2.2 ⟨Nat.le_of_ble_eq_true rfl, Nat.le_of_ble_eq_true rfl⟩) 128 7 rfl rfl rfl [2] [0, 1] [w_X7 cI cR a a_now a_ahead a_pad_codes a_pad_length a_padPattern_heights a_padPattern_length a_ways_steps a_ways_firstThrows a_ways_lastThrows a_ways_reached a_ways_reachedCount a_history_rs a_history_oldest a_history_size a_slotZero_kept a_slotZero_filled a_slotOne_kept a_slotOne_filled, w_X7 cI cR b b_now b_ahead b_pad_codes b_pad_length q33.2.1 q33.2.2 b_ways_steps b_ways_firstThrows b_ways_lastThrows b_ways_reached b_ways_reachedCount b_history_rs b_history_oldest b_history_size b_slotZero_kept b_slotZero_filled b_slotOne_kept b_slotOne_filled, w_X7 cI cR d d_now d_ahead q34.2.1 q34.2.2 d_padPattern_heights d_padPattern_length d_ways_steps d_ways_firstThrows d_ways_lastThrows d_ways_reached d_ways_reachedCount d_history_rs d_history_oldest d_history_size d_slotZero_kept d_slotZero_filled d_slotOne_kept d_slotOne_filled] (by decide : ([2] ++ [0, 1] : List Nat).Perm (List.range 3)) rfl rfl rfl rfl rfl hl.1 rfl (Nat.le_of_ble_eq_true rfl) dL_isThrown_420 ⟨Nat.le_of_ble_eq_true rfl, Nat.le_of_ble_eq_true rfl⟩ (fun H locs Z => ?_)
        refine lv_if_le (tgt := 430) hx hb dL_isThrown_423 (by decide) (fun c35 => ?_) (fun c35 => ?_)
        · have hf := it_t c35 hf
          refine lv_iconst (v := 0) hx hb dL_isThrown_430 (by decide) ?_
          refine lv_istore (lv' := [(5, .int (0 : Int32)), (2, .ref (a 0)), (3, .ref (b 0)), (4, .int x4), (7, .int x7), (8, .int x8), (9, .int x9), (10, .ref (d 0)), (11, .int x11)]) hx hb dL_isThrown_431 hl (by decide) rfl (fun ls hl => ?_)
          refine lv_iinc (v := x11 + (1 : Int32)) (lv' := [(11, .int (x11 + (1 : Int32))), (5, .int (0 : Int32)), (2, .ref (a 0)), (3, .ref (b 0)), (4, .int x4), (7, .int x7), (8, .int x8), (9, .int x9), (10, .ref (d 0))]) hx hb dL_isThrown_433 hl (k := 8) rfl rfl (by decide) rfl (fun ls hl => ?_)
          refine lv_goto (tgt := 396) hx hb dL_isThrown_436 (by decide) ?_
          exact ih hf Z (lv_sub hl [2, 3, 4, 1, 5, 6, 7, 8, 0] rfl)
        · have hf := it_f c35 hf
          refine lv_iconst (v := 1) hx hb dL_isThrown_426 (by decide) ?_
          refine lv_goto (tgt := 431) hx hb dL_isThrown_427 (by decide) ?_
          refine lv_istore (lv' := [(5, .int (1 : Int32)), (2, .ref (a 0)), (3, .ref (b 0)), (4, .int x4), (7, .int x7), (8, .int x8), (9, .int x9), (10, .ref (d 0)), (11, .int x11)]) hx hb dL_isThrown_431 hl (by decide) rfl (fun ls hl => ?_)
          refine lv_iinc (v := x11 + (1 : Int32)) (lv' := [(11, .int (x11 + (1 : Int32))), (5, .int (1 : Int32)), (2, .ref (a 0)), (3, .ref (b 0)), (4, .int x4), (7, .int x7), (8, .int x8), (9, .int x9), (10, .ref (d 0))]) hx hb dL_isThrown_433 hl (k := 8) rfl rfl (by decide) rfl (fun ls hl => ?_)
          refine lv_goto (tgt := 396) hx hb dL_isThrown_436 (by decide) ?_
          exact ih hf Z (lv_sub hl [2, 3, 4, 1, 5, 6, 7, 8, 0] rfl)

def f_L_isThrown_L346 (a_now : ST) (a_ahead : ST) (a_pad_codes : (Nat → Int32)) (a_pad_length : Int32) (a_ways_steps : (Nat → Int32)) (a_ways_firstThrows : (Nat → Int32)) (a_ways_lastThrows : (Nat → Int32)) (a_ways_reached : (Nat → Int32)) (a_ways_reachedCount : Int32) (a_history_rs : (Nat → ST)) (a_history_oldest : Int32) (a_history_size : Int32) (b_pad_codes : (Nat → Int32)) (b_pad_length : Int32) (x4 : Int32) (x5 : Int32) (x7 : Int32) : Nat → Int32 → Int32 → Int32 → (Nat → Int32) → Int32 → Option (Int32)
  | 0, _, _, _, _, _ => none
  | n + 1, x8, x9, x10, b_padPattern_heights, b_padPattern_length => if x4 ≤ x10 then (f_L_isThrown_L396 a_now a_ahead a_pad_codes a_pad_length a_ways_steps a_ways_firstThrows a_ways_lastThrows a_ways_reached a_ways_reachedCount a_history_rs a_history_oldest a_history_size b_pad_codes b_pad_length (fun _ => 0) 0 x4 x7 x8 x9 zF x5 (0 : Int32) b_padPattern_heights b_padPattern_length (fun _ => 0) 0) else ((f_X7_back b_pad_codes b_pad_length b_padPattern_heights b_padPattern_length x10).bind (fun q36 => (f_X7_back b_pad_codes b_pad_length q36.2.1 q36.2.2 x10).bind (fun q37 => f_L_isThrown_L346 a_now a_ahead a_pad_codes a_pad_length a_ways_steps a_ways_firstThrows a_ways_lastThrows a_ways_reached a_ways_reachedCount a_history_rs a_history_oldest a_history_size b_pad_codes b_pad_length x4 x5 x7 n (x8 + q36.1) (((10 : Int32) * x9) + q37.1) (x10 + (1 : Int32)) q37.2.1 q37.2.2)))
set_option maxHeartbeats 4000000 in
set_option maxRecDepth 100000 in
theorem w_L_isThrown_L346 {p : Program} {l : Launch} {e : Env} {s : State} {m : MethodId} {args : Array Value} {below : List Frame} {meth : Method} {c : Code} {D : va_G} {cI cR : ClassId} {A : Nat → Prop} {a : Nat → Nat} {b : Nat → Nat} {a_now : ST} {a_ahead : ST} {a_pad_codes : (Nat → Int32)} {a_pad_length : Int32} {a_padPattern_heights : (Nat → Int32)} {a_padPattern_length : Int32} {a_ways_steps : (Nat → Int32)} {a_ways_firstThrows : (Nat → Int32)} {a_ways_lastThrows : (Nat → Int32)} {a_ways_reached : (Nat → Int32)} {a_ways_reachedCount : Int32} {a_history_rs : (Nat → ST)} {a_history_oldest : Int32} {a_history_size : Int32} {a_slotZero_kept : ST} {a_slotZero_filled : Int32} {a_slotOne_kept : ST} {a_slotOne_filled : Int32} {b_now : ST} {b_ahead : ST} {b_pad_codes : (Nat → Int32)} {b_pad_length : Int32} {b_ways_steps : (Nat → Int32)} {b_ways_firstThrows : (Nat → Int32)} {b_ways_lastThrows : (Nat → Int32)} {b_ways_reached : (Nat → Int32)} {b_ways_reachedCount : Int32} {b_history_rs : (Nat → ST)} {b_history_oldest : Int32} {b_history_size : Int32} {b_slotZero_kept : ST} {b_slotZero_filled : Int32} {b_slotOne_kept : ST} {b_slotOne_filled : Int32} {x4 : Int32} {x5 : Int32} {x7 : Int32} {R : Int32} (X : zX p s m c cL_isThrown 12 args RL D cI cR A) (hO : va_AO "JugglerStates$Scene" s) (hr : meth.sig.returnType = (some .boolean)) (hlocks : meth.locks = false) : ∀ (n : Nat)  {x8 : Int32} {x9 : Int32} {x10 : Int32} {b_padPattern_heights : (Nat → Int32)} {b_padPattern_length : Int32} {H : Heap} {locs : List Loc} {ls : Array Slot}, f_L_isThrown_L346 a_now a_ahead a_pad_codes a_pad_length a_ways_steps a_ways_firstThrows a_ways_lastThrows a_ways_reached a_ways_reachedCount a_history_rs a_history_oldest a_history_size b_pad_codes b_pad_length x4 x5 x7 n x8 x9 x10 b_padPattern_heights b_padPattern_length = some R → zW D A s [w_X7 cI cR a a_now a_ahead a_pad_codes a_pad_length a_padPattern_heights a_padPattern_length a_ways_steps a_ways_firstThrows a_ways_lastThrows a_ways_reached a_ways_reachedCount a_history_rs a_history_oldest a_history_size a_slotZero_kept a_slotZero_filled a_slotOne_kept a_slotOne_filled, w_X7 cI cR b b_now b_ahead b_pad_codes b_pad_length b_padPattern_heights b_padPattern_length b_ways_steps b_ways_firstThrows b_ways_lastThrows b_ways_reached b_ways_reachedCount b_history_rs b_history_oldest b_history_size b_slotZero_kept b_slotZero_filled b_slotOne_kept b_slotOne_filled] H locs → lv_has ls 12 [(2, .ref (a 0)), (3, .ref (b 0)), (4, .int x4), (5, .int x5), (7, .int x7), (8, .int x8), (9, .int x9), (10, .int x10)] → W p l e ({ frames := 7, cells := 192, slots := 4356, locals := 158 } : Room) s m args below meth c H locs 128 2904 (zET D A below s args (some (.int R)) [] 192 4356) (F0 m 346 ls []) := by
  have hx := X.1.1
  have hb := X.1.2.1
  intro n
  induction n with
  | zero =>
    intro x8 x9 x10 b_padPattern_heights b_padPattern_length H locs ls hf
    have hf : none = some R := hf
    cases hf
  | succ n ih =>
    intro x8 x9 x10 b_padPattern_heights b_padPattern_length H locs ls hf Z hl
    refine lv_iload hx hb dL_isThrown_346 (lv_at hl 7 rfl) ?_
    refine lv_iload hx hb dL_isThrown_348 (lv_at hl 2 rfl) ?_
    refine lv_icmp_ge (tgt := 384) hx hb dL_isThrown_350 (by decide) (fun c12 => ?_) (fun c12 => ?_)
    · have hf := it_t c12 hf
      refine z_new (C := RX7) (T := TX7) (N := 8) (ci := 7) (fs := [.null, .null, .null, .null, .null, .null, .null, .null]) tyX7 X Z in_X7 tyX7_ok rfl ml_L_16 mn_X7 mi_X7 (fun j hj => by rcases (show j = 0 ∨ j = 1 ∨ j = 2 ∨ j = 3 ∨ j = 4 ∨ j = 5 ∨ j = 6 ∨ j = 7 by omega) with rfl | rfl | rfl | rfl | rfl | rfl | rfl | rfl <;> rfl) (Nat.le_of_ble_eq_true rfl) (Nat.le_of_ble_eq_true rfl) dL_isThrown_384 (fun q H Z => ?_)
      have Z : zW D A s [w_X7 cI cR a a_now a_ahead a_pad_codes a_pad_length a_padPattern_heights a_padPattern_length a_ways_steps a_ways_firstThrows a_ways_lastThrows a_ways_reached a_ways_reachedCount a_history_rs a_history_oldest a_history_size a_slotZero_kept a_slotZero_filled a_slotOne_kept a_slotOne_filled, w_X7 cI cR b b_now b_ahead b_pad_codes b_pad_length b_padPattern_heights b_padPattern_length b_ways_steps b_ways_firstThrows b_ways_lastThrows b_ways_reached b_ways_reachedCount b_history_rs b_history_oldest b_history_size b_slotZero_kept b_slotZero_filled b_slotOne_kept b_slotOne_filled, [(q, .inr (7, [.null, .null, .null, .null, .null, .null, .null, .null]))]] _ _ := Z
      refine lv_dup hx hb dL_isThrown_387 rfl ?_
      refine z_callI X hO Z (c_X7_init l D cI cR q) (zw_L_66 X.1.2.2.2.2 ⟨Nat.le_of_ble_eq_true rfl, Nat.le_of_ble_eq_true rfl⟩) [2] [0, 1] (fun d => [w_X7 cI cR a a_now a_ahead a_pad_codes a_pad_length a_padPattern_heights a_padPattern_length a_ways_steps a_ways_firstThrows a_ways_lastThrows a_ways_reached a_ways_reachedCount a_history_rs a_history_oldest a_history_size a_slotZero_kept a_slotZero_filled a_slotOne_kept a_slotOne_filled, w_X7 cI cR b b_now b_ahead b_pad_codes b_pad_length b_padPattern_heights b_padPattern_length b_ways_steps b_ways_firstThrows b_ways_lastThrows b_ways_reached b_ways_reachedCount b_history_rs b_history_oldest b_history_size b_slotZero_kept b_slotZero_filled b_slotOne_kept b_slotOne_filled, w_X7 cI cR d zS0 zS0 (fun _ => 0) 0 (fun _ => 0) 0 (fun _ => 0) (fun _ => 0) (fun _ => 0) (fun _ => 0) 0 (fun _ => zS0) 0 0 zS0 0 zS0 0]) (by decide : ([2] ++ [0, 1] : List Nat).Perm (List.range 3)) rfl (fun _ => rfl) (fun _ => rfl) (fun _ => rfl) rfl hl.1 rfl (Nat.le_of_ble_eq_true rfl) dL_isThrown_388 ⟨Nat.le_of_ble_eq_true rfl, Nat.le_of_ble_eq_true rfl⟩ (fun d hd H locs Z2 => ?_)
      subst hd
      have Z : zW D A s [w_X7 cI cR a a_now a_ahead a_pad_codes a_pad_length a_padPattern_heights a_padPattern_length a_ways_steps a_ways_firstThrows a_ways_lastThrows a_ways_reached a_ways_reachedCount a_history_rs a_history_oldest a_history_size a_slotZero_kept a_slotZero_filled a_slotOne_kept a_slotOne_filled, w_X7 cI cR b b_now b_ahead b_pad_codes b_pad_length b_padPattern_heights b_padPattern_length b_ways_steps b_ways_firstThrows b_ways_lastThrows b_ways_reached b_ways_reachedCount b_history_rs b_history_oldest b_history_size b_slotZero_kept b_slotZero_filled b_slotOne_kept b_slotOne_filled, w_X7 cI cR d zS0 zS0 (fun _ => 0) 0 (fun _ => 0) 0 (fun _ => 0) (fun _ => 0) (fun _ => 0) (fun _ => 0) 0 (fun _ => zS0) 0 0 zS0 0 zS0 0] _ _ := Z2
      refine lv_astore (lv' := [(10, .ref (d 0)), (2, .ref (a 0)), (3, .ref (b 0)), (4, .int x4), (5, .int x5), (7, .int x7), (8, .int x8), (9, .int x9)]) hx hb dL_isThrown_391 hl (by decide) rfl (fun ls hl => ?_)
      refine lv_iconst (v := 0) hx hb dL_isThrown_393 (by decide) ?_
      refine lv_istore (lv' := [(11, .int (0 : Int32)), (10, .ref (d 0)), (2, .ref (a 0)), (3, .ref (b 0)), (4, .int x4), (5, .int x5), (7, .int x7), (8, .int x8), (9, .int x9)]) hx hb dL_isThrown_394 hl (by decide) rfl (fun ls hl => ?_)
      refine W.widen (k := 192) (n := 4356) (Nat.le_of_ble_eq_true rfl) (Nat.le_of_ble_eq_true rfl) ?_
      exact w_L_isThrown_L396 X hO hr hlocks _ hf Z (lv_sub hl [2, 3, 4, 5, 6, 7, 8, 1, 0] rfl)
    · have hf := it_f c12 hf
      refine lv_iload hx hb dL_isThrown_353 (lv_at hl 5 rfl) ?_
      refine lv_aload_n hx hb dL_isThrown_355 rfl (lv_at hl 1 rfl) ?_
      refine lv_iload hx hb dL_isThrown_356 (lv_at hl 7 rfl) ?_
      obtain ⟨q36, hq36, hf⟩ := ob_s hf
      refine z_callV X Z (c_X7_back l D cI cR b b_now b_ahead b_pad_codes b_pad_length b_padPattern_heights b_padPattern_length b_ways_steps b_ways_firstThrows b_ways_lastThrows b_ways_reached b_ways_reachedCount b_history_rs b_history_oldest b_history_size b_slotZero_kept b_slotZero_filled b_slotOne_kept b_slotOne_filled x10 hq36) (zw_L_76 X.1.2.2.2.2 ⟨Nat.le_of_ble_eq_true rfl, Nat.le_of_ble_eq_true rfl⟩) 64 7 rfl rfl rfl [1] [0] [w_X7 cI cR a a_now a_ahead a_pad_codes a_pad_length a_padPattern_heights a_padPattern_length a_ways_steps a_ways_firstThrows a_ways_lastThrows a_ways_reached a_ways_reachedCount a_history_rs a_history_oldest a_history_size a_slotZero_kept a_slotZero_filled a_slotOne_kept a_slotOne_filled, w_X7 cI cR b b_now b_ahead b_pad_codes b_pad_length q36.2.1 q36.2.2 b_ways_steps b_ways_firstThrows b_ways_lastThrows b_ways_reached b_ways_reachedCount b_history_rs b_history_oldest b_history_size b_slotZero_kept b_slotZero_filled b_slotOne_kept b_slotOne_filled] (by decide : ([1] ++ [0] : List Nat).Perm (List.range 2)) rfl rfl rfl rfl rfl hl.1 rfl (Nat.le_of_ble_eq_true rfl) dL_isThrown_358 ⟨Nat.le_of_ble_eq_true rfl, Nat.le_of_ble_eq_true rfl⟩ (fun H locs Z => ?_)
      refine lv_iadd hx hb dL_isThrown_361 ?_
      refine lv_istore (lv' := [(8, .int (x8 + q36.1)), (2, .ref (a 0)), (3, .ref (b 0)), (4, .int x4), (5, .int x5), (7, .int x7), (9, .int x9), (10, .int x10)]) hx hb dL_isThrown_362 hl (by decide) rfl (fun ls hl => ?_)
      refine lv_bipush (v := 10) hx hb dL_isThrown_364 (by decide) ?_
      refine lv_iload hx hb dL_isThrown_366 (lv_at hl 6 rfl) ?_
      refine lv_imul hx hb dL_isThrown_368 ?_
      refine lv_aload_n hx hb dL_isThrown_369 rfl (lv_at hl 2 rfl) ?_
      refine lv_iload hx hb dL_isThrown_370 (lv_at hl 7 rfl) ?_
      obtain ⟨q37, hq37, hf⟩ := ob_s hf
      refine z_callV X Z (c_X7_back l D cI cR b b_now b_ahead b_pad_codes b_pad_length q36.2.1 q36.2.2 b_ways_steps b_ways_firstThrows b_ways_lastThrows b_ways_reached b_ways_reachedCount b_history_rs b_history_oldest b_history_size b_slotZero_kept b_slotZero_filled b_slotOne_kept b_slotOne_filled x10 hq37) (zw_L_76 X.1.2.2.2.2 ⟨Nat.le_of_ble_eq_true rfl, Nat.le_of_ble_eq_true rfl⟩) 64 7 rfl rfl rfl [1] [0] [w_X7 cI cR a a_now a_ahead a_pad_codes a_pad_length a_padPattern_heights a_padPattern_length a_ways_steps a_ways_firstThrows a_ways_lastThrows a_ways_reached a_ways_reachedCount a_history_rs a_history_oldest a_history_size a_slotZero_kept a_slotZero_filled a_slotOne_kept a_slotOne_filled, w_X7 cI cR b b_now b_ahead b_pad_codes b_pad_length q37.2.1 q37.2.2 b_ways_steps b_ways_firstThrows b_ways_lastThrows b_ways_reached b_ways_reachedCount b_history_rs b_history_oldest b_history_size b_slotZero_kept b_slotZero_filled b_slotOne_kept b_slotOne_filled] (by decide : ([1] ++ [0] : List Nat).Perm (List.range 2)) rfl rfl rfl rfl rfl hl.1 rfl (Nat.le_of_ble_eq_true rfl) dL_isThrown_372 ⟨Nat.le_of_ble_eq_true rfl, Nat.le_of_ble_eq_true rfl⟩ (fun H locs Z => ?_)
      refine lv_iadd hx hb dL_isThrown_375 ?_
      refine lv_istore (lv' := [(9, .int (((10 : Int32) * x9) + q37.1)), (8, .int (x8 + q36.1)), (2, .ref (a 0)), (3, .ref (b 0)), (4, .int x4), (5, .int x5), (7, .int x7), (10, .int x10)]) hx hb dL_isThrown_376 hl (by decide) rfl (fun ls hl => ?_)
      refine lv_iinc (v := x10 + (1 : Int32)) (lv' := [(10, .int (x10 + (1 : Int32))), (9, .int (((10 : Int32) * x9) + q37.1)), (8, .int (x8 + q36.1)), (2, .ref (a 0)), (3, .ref (b 0)), (4, .int x4), (5, .int x5), (7, .int x7)]) hx hb dL_isThrown_378 hl (k := 7) rfl rfl (by decide) rfl (fun ls hl => ?_)
      refine lv_goto (tgt := 346) hx hb dL_isThrown_381 (by decide) ?_
      exact ih hf Z (lv_sub hl [3, 4, 5, 6, 7, 2, 1, 0] rfl)

def f_L_isThrown_L218 (a_ahead : ST) (a_pad_codes : (Nat → Int32)) (a_pad_length : Int32) (a_ways_steps : (Nat → Int32)) (a_ways_firstThrows : (Nat → Int32)) (a_ways_lastThrows : (Nat → Int32)) (a_ways_reached : (Nat → Int32)) (a_ways_reachedCount : Int32) (b_pad_codes : (Nat → Int32)) (b_pad_length : Int32) (b_padPattern_heights : (Nat → Int32)) (b_padPattern_length : Int32) (x4 : Int32) (x6 : Int32) (x7 : Int32) : Nat → Int32 → Int32 → ST → (Nat → ST) → Int32 → Int32 → Option (Int32)
  | 0, _, _, _, _, _, _ => none
  | n + 1, x5, x8, a_now, a_history_rs, a_history_oldest, a_history_size => if (8 : Int32) ≤ x8 then (if x5 = 0 then (f_L_isThrown_L346 a_now a_ahead a_pad_codes a_pad_length a_ways_steps a_ways_firstThrows a_ways_lastThrows a_ways_reached a_ways_reachedCount a_history_rs a_history_oldest a_history_size b_pad_codes b_pad_length x4 (0 : Int32) x7 zF (0 : Int32) (0 : Int32) (0 : Int32) b_padPattern_heights b_padPattern_length) else ((f_X7_of a_now (0 : Int32) (1 : Int32)).bind (fun q38 => if q38 = x7 then ((f_X7_firstDrop a_now a_ahead).bind (fun q40 => if q40.1 = (-6 : Int32) then ((f_X7_comesRound a_now q40.2).bind (fun q42 => if q42.1 < (1 : Int32) then (f_L_isThrown_L346 a_now q42.2 a_pad_codes a_pad_length a_ways_steps a_ways_firstThrows a_ways_lastThrows a_ways_reached a_ways_reachedCount a_history_rs a_history_oldest a_history_size b_pad_codes b_pad_length x4 (0 : Int32) x7 zF (0 : Int32) (0 : Int32) (0 : Int32) b_padPattern_heights b_padPattern_length) else ((f_X7_comesRound a_now q42.2).bind (fun q44 => if q44.1 = 0 then none else (if (x4 - x4 / q44.1 * q44.1) = 0 then ((f_X7_stateBehind a_now q44.2 (0 : Int32) x4).bind (fun q47 => if q47.1 = x6 then ((f_X7_way a_now a_ways_steps a_ways_firstThrows a_ways_lastThrows a_ways_reached a_ways_reachedCount (0 : Int32) x6 (0 : Int32)).bind (fun q49 => if q49.1 = 0 then (f_L_isThrown_L346 a_now q47.2 a_pad_codes a_pad_length q49.2.1 q49.2.2.1 q49.2.2.2.1 q49.2.2.2.2.1 q49.2.2.2.2.2 a_history_rs a_history_oldest a_history_size b_pad_codes b_pad_length x4 (1 : Int32) x7 zF (0 : Int32) (0 : Int32) (0 : Int32) b_padPattern_heights b_padPattern_length) else (f_L_isThrown_L346 a_now q47.2 a_pad_codes a_pad_length q49.2.1 q49.2.2.1 q49.2.2.2.1 q49.2.2.2.2.1 q49.2.2.2.2.2 a_history_rs a_history_oldest a_history_size b_pad_codes b_pad_length x4 (0 : Int32) x7 zF (0 : Int32) (0 : Int32) (0 : Int32) b_padPattern_heights b_padPattern_length))) else (f_L_isThrown_L346 a_now q47.2 a_pad_codes a_pad_length a_ways_steps a_ways_firstThrows a_ways_lastThrows a_ways_reached a_ways_reachedCount a_history_rs a_history_oldest a_history_size b_pad_codes b_pad_length x4 (0 : Int32) x7 zF (0 : Int32) (0 : Int32) (0 : Int32) b_padPattern_heights b_padPattern_length))) else (f_L_isThrown_L346 a_now q44.2 a_pad_codes a_pad_length a_ways_steps a_ways_firstThrows a_ways_lastThrows a_ways_reached a_ways_reachedCount a_history_rs a_history_oldest a_history_size b_pad_codes b_pad_length x4 (0 : Int32) x7 zF (0 : Int32) (0 : Int32) (0 : Int32) b_padPattern_heights b_padPattern_length)))))) else (f_L_isThrown_L346 a_now q40.2 a_pad_codes a_pad_length a_ways_steps a_ways_firstThrows a_ways_lastThrows a_ways_reached a_ways_reachedCount a_history_rs a_history_oldest a_history_size b_pad_codes b_pad_length x4 (0 : Int32) x7 zF (0 : Int32) (0 : Int32) (0 : Int32) b_padPattern_heights b_padPattern_length))) else (f_L_isThrown_L346 a_now a_ahead a_pad_codes a_pad_length a_ways_steps a_ways_firstThrows a_ways_lastThrows a_ways_reached a_ways_reachedCount a_history_rs a_history_oldest a_history_size b_pad_codes b_pad_length x4 (0 : Int32) x7 zF (0 : Int32) (0 : Int32) (0 : Int32) b_padPattern_heights b_padPattern_length)))) else (if x5 = 0 then (f_L_isThrown_L218 a_ahead a_pad_codes a_pad_length a_ways_steps a_ways_firstThrows a_ways_lastThrows a_ways_reached a_ways_reachedCount b_pad_codes b_pad_length b_padPattern_heights b_padPattern_length x4 x6 x7 n (0 : Int32) (x8 + (1 : Int32)) a_now a_history_rs a_history_oldest a_history_size) else (if ((x6 >>> (x8 &&& 31)) &&& (1 : Int32)) = (1 : Int32) then (f_L_isThrown_L218 a_ahead a_pad_codes a_pad_length a_ways_steps a_ways_firstThrows a_ways_lastThrows a_ways_reached a_ways_reachedCount b_pad_codes b_pad_length b_padPattern_heights b_padPattern_length x4 x6 x7 n (1 : Int32) (x8 + (1 : Int32)) a_now a_history_rs a_history_oldest a_history_size) else ((f_X7_drop a_now a_history_rs a_history_oldest a_history_size (0 : Int32) x8).bind (fun q53 => if q53.1 ≤ 0 then (f_L_isThrown_L218 a_ahead a_pad_codes a_pad_length a_ways_steps a_ways_firstThrows a_ways_lastThrows a_ways_reached a_ways_reachedCount b_pad_codes b_pad_length b_padPattern_heights b_padPattern_length x4 x6 x7 n (0 : Int32) (x8 + (1 : Int32)) q53.2.1 q53.2.2.1 q53.2.2.2.1 q53.2.2.2.2) else (f_L_isThrown_L218 a_ahead a_pad_codes a_pad_length a_ways_steps a_ways_firstThrows a_ways_lastThrows a_ways_reached a_ways_reachedCount b_pad_codes b_pad_length b_padPattern_heights b_padPattern_length x4 x6 x7 n (1 : Int32) (x8 + (1 : Int32)) q53.2.1 q53.2.2.1 q53.2.2.2.1 q53.2.2.2.2)))))
set_option maxHeartbeats 4000000 in
set_option maxRecDepth 100000 in
theorem w_L_isThrown_L218 {p : Program} {l : Launch} {e : Env} {s : State} {m : MethodId} {args : Array Value} {below : List Frame} {meth : Method} {c : Code} {D : va_G} {cI cR : ClassId} {A : Nat → Prop} {a : Nat → Nat} {b : Nat → Nat} {a_ahead : ST} {a_pad_codes : (Nat → Int32)} {a_pad_length : Int32} {a_padPattern_heights : (Nat → Int32)} {a_padPattern_length : Int32} {a_ways_steps : (Nat → Int32)} {a_ways_firstThrows : (Nat → Int32)} {a_ways_lastThrows : (Nat → Int32)} {a_ways_reached : (Nat → Int32)} {a_ways_reachedCount : Int32} {a_slotZero_kept : ST} {a_slotZero_filled : Int32} {a_slotOne_kept : ST} {a_slotOne_filled : Int32} {b_now : ST} {b_ahead : ST} {b_pad_codes : (Nat → Int32)} {b_pad_length : Int32} {b_padPattern_heights : (Nat → Int32)} {b_padPattern_length : Int32} {b_ways_steps : (Nat → Int32)} {b_ways_firstThrows : (Nat → Int32)} {b_ways_lastThrows : (Nat → Int32)} {b_ways_reached : (Nat → Int32)} {b_ways_reachedCount : Int32} {b_history_rs : (Nat → ST)} {b_history_oldest : Int32} {b_history_size : Int32} {b_slotZero_kept : ST} {b_slotZero_filled : Int32} {b_slotOne_kept : ST} {b_slotOne_filled : Int32} {x4 : Int32} {x6 : Int32} {x7 : Int32} {R : Int32} (X : zX p s m c cL_isThrown 12 args RL D cI cR A) (hO : va_AO "JugglerStates$Scene" s) (hr : meth.sig.returnType = (some .boolean)) (hlocks : meth.locks = false) : ∀ (n : Nat)  {x5 : Int32} {x8 : Int32} {a_now : ST} {a_history_rs : (Nat → ST)} {a_history_oldest : Int32} {a_history_size : Int32} {H : Heap} {locs : List Loc} {ls : Array Slot}, f_L_isThrown_L218 a_ahead a_pad_codes a_pad_length a_ways_steps a_ways_firstThrows a_ways_lastThrows a_ways_reached a_ways_reachedCount b_pad_codes b_pad_length b_padPattern_heights b_padPattern_length x4 x6 x7 n x5 x8 a_now a_history_rs a_history_oldest a_history_size = some R → zW D A s [w_X7 cI cR a a_now a_ahead a_pad_codes a_pad_length a_padPattern_heights a_padPattern_length a_ways_steps a_ways_firstThrows a_ways_lastThrows a_ways_reached a_ways_reachedCount a_history_rs a_history_oldest a_history_size a_slotZero_kept a_slotZero_filled a_slotOne_kept a_slotOne_filled, w_X7 cI cR b b_now b_ahead b_pad_codes b_pad_length b_padPattern_heights b_padPattern_length b_ways_steps b_ways_firstThrows b_ways_lastThrows b_ways_reached b_ways_reachedCount b_history_rs b_history_oldest b_history_size b_slotZero_kept b_slotZero_filled b_slotOne_kept b_slotOne_filled] H locs → lv_has ls 12 [(2, .ref (a 0)), (3, .ref (b 0)), (4, .int x4), (5, .int x5), (6, .int x6), (7, .int x7), (8, .int x8)] → W p l e ({ frames := 7, cells := 192, slots := 4356, locals := 158 } : Room) s m args below meth c H locs 128 2904 (zET D A below s args (some (.int R)) [] 192 4356) (F0 m 218 ls []) := by
  have hx := X.1.1
  have hb := X.1.2.1
  intro n
  induction n with
  | zero =>
    intro x5 x8 a_now a_history_rs a_history_oldest a_history_size H locs ls hf
    have hf : none = some R := hf
    cases hf
  | succ n ih =>
    intro x5 x8 a_now a_history_rs a_history_oldest a_history_size H locs ls hf Z hl
    refine lv_iload hx hb dL_isThrown_218 (lv_at hl 6 rfl) ?_
    refine lv_bipush (v := 8) hx hb dL_isThrown_220 (by decide) ?_
    refine lv_icmp_ge (tgt := 264) hx hb dL_isThrown_222 (by decide) (fun c10 => ?_) (fun c10 => ?_)
    · have hf := it_t c10 hf
      refine lv_iload hx hb dL_isThrown_264 (lv_at hl 3 rfl) ?_
      refine lv_if_eq (tgt := 334) hx hb dL_isThrown_266 (by decide) (fun c11 => ?_) (fun c11 => ?_)
      · have hf := it_t c11 hf
        refine lv_iconst (v := 0) hx hb dL_isThrown_334 (by decide) ?_
        refine lv_istore (lv' := [(5, .int (0 : Int32)), (2, .ref (a 0)), (3, .ref (b 0)), (4, .int x4), (6, .int x6), (7, .int x7), (8, .int x8)]) hx hb dL_isThrown_335 hl (by decide) rfl (fun ls hl => ?_)
        refine lv_iconst (v := 0) hx hb dL_isThrown_337 (by decide) ?_
        refine lv_istore (lv' := [(8, .int (0 : Int32)), (5, .int (0 : Int32)), (2, .ref (a 0)), (3, .ref (b 0)), (4, .int x4), (6, .int x6), (7, .int x7)]) hx hb dL_isThrown_338 hl (by decide) rfl (fun ls hl => ?_)
        refine lv_iconst (v := 0) hx hb dL_isThrown_340 (by decide) ?_
        refine lv_istore (lv' := [(9, .int (0 : Int32)), (8, .int (0 : Int32)), (5, .int (0 : Int32)), (2, .ref (a 0)), (3, .ref (b 0)), (4, .int x4), (6, .int x6), (7, .int x7)]) hx hb dL_isThrown_341 hl (by decide) rfl (fun ls hl => ?_)
        refine lv_iconst (v := 0) hx hb dL_isThrown_343 (by decide) ?_
        refine lv_istore (lv' := [(10, .int (0 : Int32)), (9, .int (0 : Int32)), (8, .int (0 : Int32)), (5, .int (0 : Int32)), (2, .ref (a 0)), (3, .ref (b 0)), (4, .int x4), (6, .int x6), (7, .int x7)]) hx hb dL_isThrown_344 hl (by decide) rfl (fun ls hl => ?_)
        refine W.widen (k := 128) (n := 2904) (Nat.le_of_ble_eq_true rfl) (Nat.le_of_ble_eq_true rfl) ?_
        exact w_L_isThrown_L346 X hO hr hlocks _ hf Z (lv_sub hl [4, 5, 6, 3, 8, 2, 1, 0] rfl)
      · have hf := it_f c11 hf
        refine lv_aload_n hx hb dL_isThrown_269 rfl (lv_at hl 0 rfl) ?_
        refine lv_iconst (v := 0) hx hb dL_isThrown_270 (by decide) ?_
        refine lv_iconst (v := 1) hx hb dL_isThrown_271 (by decide) ?_
        obtain ⟨q38, hq38, hf⟩ := ob_s hf
        refine z_roV X Z (c_X7_of l D cI cR a a_now a_ahead a_pad_codes a_pad_length a_padPattern_heights a_padPattern_length a_ways_steps a_ways_firstThrows a_ways_lastThrows a_ways_reached a_ways_reachedCount a_history_rs a_history_oldest a_history_size a_slotZero_kept a_slotZero_filled a_slotOne_kept a_slotOne_filled (0 : Int32) (1 : Int32) hq38) (zw_L_24 X.1.2.2.2.2 ⟨Nat.le_of_ble_eq_true rfl, Nat.le_of_ble_eq_true rfl⟩) 0 7 rfl rfl rfl [0] [1] (by decide : ([0] ++ [1] : List Nat).Perm (List.range 2)) rfl rfl hl.1 rfl (Nat.le_of_ble_eq_true rfl) dL_isThrown_272 ⟨Nat.le_of_ble_eq_true rfl, Nat.le_of_ble_eq_true rfl⟩ (fun H locs Z => ?_)
        refine lv_iload hx hb dL_isThrown_275 (lv_at hl 5 rfl) ?_
        refine lv_icmp_ne (tgt := 334) hx hb dL_isThrown_277 (by decide) (fun c39 => ?_) (fun c39 => ?_)
        · have hf := it_f c39 hf
          refine lv_iconst (v := 0) hx hb dL_isThrown_334 (by decide) ?_
          refine lv_istore (lv' := [(5, .int (0 : Int32)), (2, .ref (a 0)), (3, .ref (b 0)), (4, .int x4), (6, .int x6), (7, .int x7), (8, .int x8)]) hx hb dL_isThrown_335 hl (by decide) rfl (fun ls hl => ?_)
          refine lv_iconst (v := 0) hx hb dL_isThrown_337 (by decide) ?_
          refine lv_istore (lv' := [(8, .int (0 : Int32)), (5, .int (0 : Int32)), (2, .ref (a 0)), (3, .ref (b 0)), (4, .int x4), (6, .int x6), (7, .int x7)]) hx hb dL_isThrown_338 hl (by decide) rfl (fun ls hl => ?_)
          refine lv_iconst (v := 0) hx hb dL_isThrown_340 (by decide) ?_
          refine lv_istore (lv' := [(9, .int (0 : Int32)), (8, .int (0 : Int32)), (5, .int (0 : Int32)), (2, .ref (a 0)), (3, .ref (b 0)), (4, .int x4), (6, .int x6), (7, .int x7)]) hx hb dL_isThrown_341 hl (by decide) rfl (fun ls hl => ?_)
          refine lv_iconst (v := 0) hx hb dL_isThrown_343 (by decide) ?_
          refine lv_istore (lv' := [(10, .int (0 : Int32)), (9, .int (0 : Int32)), (8, .int (0 : Int32)), (5, .int (0 : Int32)), (2, .ref (a 0)), (3, .ref (b 0)), (4, .int x4), (6, .int x6), (7, .int x7)]) hx hb dL_isThrown_344 hl (by decide) rfl (fun ls hl => ?_)
          refine W.widen (k := 128) (n := 2904) (Nat.le_of_ble_eq_true rfl) (Nat.le_of_ble_eq_true rfl) ?_
          exact w_L_isThrown_L346 X hO hr hlocks _ hf Z (lv_sub hl [4, 5, 6, 3, 8, 2, 1, 0] rfl)
        · have hf := it_t c39 hf
          refine lv_aload_n hx hb dL_isThrown_280 rfl (lv_at hl 0 rfl) ?_
          obtain ⟨q40, hq40, hf⟩ := ob_s hf
          refine z_callV X Z (c_X7_firstDrop l D cI cR a a_now a_ahead a_pad_codes a_pad_length a_padPattern_heights a_padPattern_length a_ways_steps a_ways_firstThrows a_ways_lastThrows a_ways_reached a_ways_reachedCount a_history_rs a_history_oldest a_history_size a_slotZero_kept a_slotZero_filled a_slotOne_kept a_slotOne_filled  hq40) (zw_L_51 X.1.2.2.2.2 ⟨Nat.le_of_ble_eq_true rfl, Nat.le_of_ble_eq_true rfl⟩) 0 7 rfl rfl rfl [0] [1] [w_X7 cI cR a a_now q40.2 a_pad_codes a_pad_length a_padPattern_heights a_padPattern_length a_ways_steps a_ways_firstThrows a_ways_lastThrows a_ways_reached a_ways_reachedCount a_history_rs a_history_oldest a_history_size a_slotZero_kept a_slotZero_filled a_slotOne_kept a_slotOne_filled, w_X7 cI cR b b_now b_ahead b_pad_codes b_pad_length b_padPattern_heights b_padPattern_length b_ways_steps b_ways_firstThrows b_ways_lastThrows b_ways_reached b_ways_reachedCount b_history_rs b_history_oldest b_history_size b_slotZero_kept b_slotZero_filled b_slotOne_kept b_slotOne_filled] (by decide : ([0] ++ [1] : List Nat).Perm (List.range 2)) rfl rfl rfl rfl rfl hl.1 rfl (Nat.le_of_ble_eq_true rfl) dL_isThrown_281 ⟨Nat.le_of_ble_eq_true rfl, Nat.le_of_ble_eq_true rfl⟩ (fun H locs Z => ?_)
          refine lv_bipush (v := -6) hx hb dL_isThrown_284 (by decide) ?_
          refine lv_icmp_ne (tgt := 334) hx hb dL_isThrown_286 (by decide) (fun c41 => ?_) (fun c41 => ?_)
          · have hf := it_f c41 hf
            refine lv_iconst (v := 0) hx hb dL_isThrown_334 (by decide) ?_
            refine lv_istore (lv' := [(5, .int (0 : Int32)), (2, .ref (a 0)), (3, .ref (b 0)), (4, .int x4), (6, .int x6), (7, .int x7), (8, .int x8)]) hx hb dL_isThrown_335 hl (by decide) rfl (fun ls hl => ?_)
            refine lv_iconst (v := 0) hx hb dL_isThrown_337 (by decide) ?_
            refine lv_istore (lv' := [(8, .int (0 : Int32)), (5, .int (0 : Int32)), (2, .ref (a 0)), (3, .ref (b 0)), (4, .int x4), (6, .int x6), (7, .int x7)]) hx hb dL_isThrown_338 hl (by decide) rfl (fun ls hl => ?_)
            refine lv_iconst (v := 0) hx hb dL_isThrown_340 (by decide) ?_
            refine lv_istore (lv' := [(9, .int (0 : Int32)), (8, .int (0 : Int32)), (5, .int (0 : Int32)), (2, .ref (a 0)), (3, .ref (b 0)), (4, .int x4), (6, .int x6), (7, .int x7)]) hx hb dL_isThrown_341 hl (by decide) rfl (fun ls hl => ?_)
            refine lv_iconst (v := 0) hx hb dL_isThrown_343 (by decide) ?_
            refine lv_istore (lv' := [(10, .int (0 : Int32)), (9, .int (0 : Int32)), (8, .int (0 : Int32)), (5, .int (0 : Int32)), (2, .ref (a 0)), (3, .ref (b 0)), (4, .int x4), (6, .int x6), (7, .int x7)]) hx hb dL_isThrown_344 hl (by decide) rfl (fun ls hl => ?_)
            refine W.widen (k := 128) (n := 2904) (Nat.le_of_ble_eq_true rfl) (Nat.le_of_ble_eq_true rfl) ?_
            exact w_L_isThrown_L346 X hO hr hlocks _ hf Z (lv_sub hl [4, 5, 6, 3, 8, 2, 1, 0] rfl)
          · have hf := it_t c41 hf
            refine lv_aload_n hx hb dL_isThrown_289 rfl (lv_at hl 0 rfl) ?_
            obtain ⟨q42, hq42, hf⟩ := ob_s hf
            refine z_callV X Z (c_X7_comesRound l D cI cR a a_now q40.2 a_pad_codes a_pad_length a_padPattern_heights a_padPattern_length a_ways_steps a_ways_firstThrows a_ways_lastThrows a_ways_reached a_ways_reachedCount a_history_rs a_history_oldest a_history_size a_slotZero_kept a_slotZero_filled a_slotOne_kept a_slotOne_filled  hq42) (zw_L_60 X.1.2.2.2.2 ⟨Nat.le_of_ble_eq_true rfl, Nat.le_of_ble_eq_true rfl⟩) 0 7 rfl rfl rfl [0] [1] [w_X7 cI cR a a_now q42.2 a_pad_codes a_pad_length a_padPattern_heights a_padPattern_length a_ways_steps a_ways_firstThrows a_ways_lastThrows a_ways_reached a_ways_reachedCount a_history_rs a_history_oldest a_history_size a_slotZero_kept a_slotZero_filled a_slotOne_kept a_slotOne_filled, w_X7 cI cR b b_now b_ahead b_pad_codes b_pad_length b_padPattern_heights b_padPattern_length b_ways_steps b_ways_firstThrows b_ways_lastThrows b_ways_reached b_ways_reachedCount b_history_rs b_history_oldest b_history_size b_slotZero_kept b_slotZero_filled b_slotOne_kept b_slotOne_filled] (by decide : ([0] ++ [1] : List Nat).Perm (List.range 2)) rfl rfl rfl rfl rfl hl.1 rfl (Nat.le_of_ble_eq_true rfl) dL_isThrown_290 ⟨Nat.le_of_ble_eq_true rfl, Nat.le_of_ble_eq_true rfl⟩ (fun H locs Z => ?_)
            refine lv_iconst (v := 1) hx hb dL_isThrown_293 (by decide) ?_
            refine lv_icmp_lt (tgt := 334) hx hb dL_isThrown_294 (by decide) (fun c43 => ?_) (fun c43 => ?_)
            · have hf := it_t c43 hf
              refine lv_iconst (v := 0) hx hb dL_isThrown_334 (by decide) ?_
              refine lv_istore (lv' := [(5, .int (0 : Int32)), (2, .ref (a 0)), (3, .ref (b 0)), (4, .int x4), (6, .int x6), (7, .int x7), (8, .int x8)]) hx hb dL_isThrown_335 hl (by decide) rfl (fun ls hl => ?_)
              refine lv_iconst (v := 0) hx hb dL_isThrown_337 (by decide) ?_
              refine lv_istore (lv' := [(8, .int (0 : Int32)), (5, .int (0 : Int32)), (2, .ref (a 0)), (3, .ref (b 0)), (4, .int x4), (6, .int x6), (7, .int x7)]) hx hb dL_isThrown_338 hl (by decide) rfl (fun ls hl => ?_)
              refine lv_iconst (v := 0) hx hb dL_isThrown_340 (by decide) ?_
              refine lv_istore (lv' := [(9, .int (0 : Int32)), (8, .int (0 : Int32)), (5, .int (0 : Int32)), (2, .ref (a 0)), (3, .ref (b 0)), (4, .int x4), (6, .int x6), (7, .int x7)]) hx hb dL_isThrown_341 hl (by decide) rfl (fun ls hl => ?_)
              refine lv_iconst (v := 0) hx hb dL_isThrown_343 (by decide) ?_
              refine lv_istore (lv' := [(10, .int (0 : Int32)), (9, .int (0 : Int32)), (8, .int (0 : Int32)), (5, .int (0 : Int32)), (2, .ref (a 0)), (3, .ref (b 0)), (4, .int x4), (6, .int x6), (7, .int x7)]) hx hb dL_isThrown_344 hl (by decide) rfl (fun ls hl => ?_)
              refine W.widen (k := 128) (n := 2904) (Nat.le_of_ble_eq_true rfl) (Nat.le_of_ble_eq_true rfl) ?_
              exact w_L_isThrown_L346 X hO hr hlocks _ hf Z (lv_sub hl [4, 5, 6, 3, 8, 2, 1, 0] rfl)
            · have hf := it_f c43 hf
              refine lv_iload hx hb dL_isThrown_297 (lv_at hl 2 rfl) ?_
              refine lv_aload_n hx hb dL_isThrown_299 rfl (lv_at hl 0 rfl) ?_
              obtain ⟨q44, hq44, hf⟩ := ob_s hf
              refine z_callV X Z (c_X7_comesRound l D cI cR a a_now q42.2 a_pad_codes a_pad_length a_padPattern_heights a_padPattern_length a_ways_steps a_ways_firstThrows a_ways_lastThrows a_ways_reached a_ways_reachedCount a_history_rs a_history_oldest a_history_size a_slotZero_kept a_slotZero_filled a_slotOne_kept a_slotOne_filled  hq44) (zw_L_60 X.1.2.2.2.2 ⟨Nat.le_of_ble_eq_true rfl, Nat.le_of_ble_eq_true rfl⟩) 0 7 rfl rfl rfl [0] [1] [w_X7 cI cR a a_now q44.2 a_pad_codes a_pad_length a_padPattern_heights a_padPattern_length a_ways_steps a_ways_firstThrows a_ways_lastThrows a_ways_reached a_ways_reachedCount a_history_rs a_history_oldest a_history_size a_slotZero_kept a_slotZero_filled a_slotOne_kept a_slotOne_filled, w_X7 cI cR b b_now b_ahead b_pad_codes b_pad_length b_padPattern_heights b_padPattern_length b_ways_steps b_ways_firstThrows b_ways_lastThrows b_ways_reached b_ways_reachedCount b_history_rs b_history_oldest b_history_size b_slotZero_kept b_slotZero_filled b_slotOne_kept b_slotOne_filled] (by decide : ([0] ++ [1] : List Nat).Perm (List.range 2)) rfl rfl rfl rfl rfl hl.1 rfl (Nat.le_of_ble_eq_true rfl) dL_isThrown_300 ⟨Nat.le_of_ble_eq_true rfl, Nat.le_of_ble_eq_true rfl⟩ (fun H locs Z => ?_)
              obtain ⟨i45, hf⟩ := in_s hf
              refine lv_irem hx hb dL_isThrown_303 i45 ?_
              refine lv_if_ne (tgt := 334) hx hb dL_isThrown_304 (by decide) (fun c46 => ?_) (fun c46 => ?_)
              · have hf := it_f c46 hf
                refine lv_iconst (v := 0) hx hb dL_isThrown_334 (by decide) ?_
                refine lv_istore (lv' := [(5, .int (0 : Int32)), (2, .ref (a 0)), (3, .ref (b 0)), (4, .int x4), (6, .int x6), (7, .int x7), (8, .int x8)]) hx hb dL_isThrown_335 hl (by decide) rfl (fun ls hl => ?_)
                refine lv_iconst (v := 0) hx hb dL_isThrown_337 (by decide) ?_
                refine lv_istore (lv' := [(8, .int (0 : Int32)), (5, .int (0 : Int32)), (2, .ref (a 0)), (3, .ref (b 0)), (4, .int x4), (6, .int x6), (7, .int x7)]) hx hb dL_isThrown_338 hl (by decide) rfl (fun ls hl => ?_)
                refine lv_iconst (v := 0) hx hb dL_isThrown_340 (by decide) ?_
                refine lv_istore (lv' := [(9, .int (0 : Int32)), (8, .int (0 : Int32)), (5, .int (0 : Int32)), (2, .ref (a 0)), (3, .ref (b 0)), (4, .int x4), (6, .int x6), (7, .int x7)]) hx hb dL_isThrown_341 hl (by decide) rfl (fun ls hl => ?_)
                refine lv_iconst (v := 0) hx hb dL_isThrown_343 (by decide) ?_
                refine lv_istore (lv' := [(10, .int (0 : Int32)), (9, .int (0 : Int32)), (8, .int (0 : Int32)), (5, .int (0 : Int32)), (2, .ref (a 0)), (3, .ref (b 0)), (4, .int x4), (6, .int x6), (7, .int x7)]) hx hb dL_isThrown_344 hl (by decide) rfl (fun ls hl => ?_)
                refine W.widen (k := 128) (n := 2904) (Nat.le_of_ble_eq_true rfl) (Nat.le_of_ble_eq_true rfl) ?_
                exact w_L_isThrown_L346 X hO hr hlocks _ hf Z (lv_sub hl [4, 5, 6, 3, 8, 2, 1, 0] rfl)
              · have hf := it_t c46 hf
                refine lv_aload_n hx hb dL_isThrown_307 rfl (lv_at hl 0 rfl) ?_
                refine lv_iconst (v := 0) hx hb dL_isThrown_308 (by decide) ?_
                refine lv_iload hx hb dL_isThrown_309 (lv_at hl 2 rfl) ?_
                obtain ⟨q47, hq47, hf⟩ := ob_s hf
                refine z_callV X Z (c_X7_stateBehind l D cI cR a a_now q44.2 a_pad_codes a_pad_length a_padPattern_heights a_padPattern_length a_ways_steps a_ways_firstThrows a_ways_lastThrows a_ways_reached a_ways_reachedCount a_history_rs a_history_oldest a_history_size a_slotZero_kept a_slotZero_filled a_slotOne_kept a_slotOne_filled (0 : Int32) x4 hq47) (zw_L_54 X.1.2.2.2.2 ⟨Nat.le_of_ble_eq_true rfl, Nat.le_of_ble_eq_true rfl⟩) 0 7 rfl rfl rfl [0] [1] [w_X7 cI cR a a_now q47.2 a_pad_codes a_pad_length a_padPattern_heights a_padPattern_length a_ways_steps a_ways_firstThrows a_ways_lastThrows a_ways_reached a_ways_reachedCount a_history_rs a_history_oldest a_history_size a_slotZero_kept a_slotZero_filled a_slotOne_kept a_slotOne_filled, w_X7 cI cR b b_now b_ahead b_pad_codes b_pad_length b_padPattern_heights b_padPattern_length b_ways_steps b_ways_firstThrows b_ways_lastThrows b_ways_reached b_ways_reachedCount b_history_rs b_history_oldest b_history_size b_slotZero_kept b_slotZero_filled b_slotOne_kept b_slotOne_filled] (by decide : ([0] ++ [1] : List Nat).Perm (List.range 2)) rfl rfl rfl rfl rfl hl.1 rfl (Nat.le_of_ble_eq_true rfl) dL_isThrown_311 ⟨Nat.le_of_ble_eq_true rfl, Nat.le_of_ble_eq_true rfl⟩ (fun H locs Z => ?_)
                refine lv_iload hx hb dL_isThrown_314 (lv_at hl 4 rfl) ?_
                refine lv_icmp_ne (tgt := 334) hx hb dL_isThrown_316 (by decide) (fun c48 => ?_) (fun c48 => ?_)
                · have hf := it_f c48 hf
                  refine lv_iconst (v := 0) hx hb dL_isThrown_334 (by decide) ?_
                  refine lv_istore (lv' := [(5, .int (0 : Int32)), (2, .ref (a 0)), (3, .ref (b 0)), (4, .int x4), (6, .int x6), (7, .int x7), (8, .int x8)]) hx hb dL_isThrown_335 hl (by decide) rfl (fun ls hl => ?_)
                  refine lv_iconst (v := 0) hx hb dL_isThrown_337 (by decide) ?_
                  refine lv_istore (lv' := [(8, .int (0 : Int32)), (5, .int (0 : Int32)), (2, .ref (a 0)), (3, .ref (b 0)), (4, .int x4), (6, .int x6), (7, .int x7)]) hx hb dL_isThrown_338 hl (by decide) rfl (fun ls hl => ?_)
                  refine lv_iconst (v := 0) hx hb dL_isThrown_340 (by decide) ?_
                  refine lv_istore (lv' := [(9, .int (0 : Int32)), (8, .int (0 : Int32)), (5, .int (0 : Int32)), (2, .ref (a 0)), (3, .ref (b 0)), (4, .int x4), (6, .int x6), (7, .int x7)]) hx hb dL_isThrown_341 hl (by decide) rfl (fun ls hl => ?_)
                  refine lv_iconst (v := 0) hx hb dL_isThrown_343 (by decide) ?_
                  refine lv_istore (lv' := [(10, .int (0 : Int32)), (9, .int (0 : Int32)), (8, .int (0 : Int32)), (5, .int (0 : Int32)), (2, .ref (a 0)), (3, .ref (b 0)), (4, .int x4), (6, .int x6), (7, .int x7)]) hx hb dL_isThrown_344 hl (by decide) rfl (fun ls hl => ?_)
                  refine W.widen (k := 128) (n := 2904) (Nat.le_of_ble_eq_true rfl) (Nat.le_of_ble_eq_true rfl) ?_
                  exact w_L_isThrown_L346 X hO hr hlocks _ hf Z (lv_sub hl [4, 5, 6, 3, 8, 2, 1, 0] rfl)
                · have hf := it_t c48 hf
                  refine lv_aload_n hx hb dL_isThrown_319 rfl (lv_at hl 0 rfl) ?_
                  refine lv_iconst (v := 0) hx hb dL_isThrown_320 (by decide) ?_
                  refine lv_iload hx hb dL_isThrown_321 (lv_at hl 4 rfl) ?_
                  refine lv_iconst (v := 0) hx hb dL_isThrown_323 (by decide) ?_
                  obtain ⟨q49, hq49, hf⟩ := ob_s hf
                  refine z_callV X Z (c_X7_way l D cI cR a a_now q47.2 a_pad_codes a_pad_length a_padPattern_heights a_padPattern_length a_ways_steps a_ways_firstThrows a_ways_lastThrows a_ways_reached a_ways_reachedCount a_history_rs a_history_oldest a_history_size a_slotZero_kept a_slotZero_filled a_slotOne_kept a_slotOne_filled (0 : Int32) x6 (0 : Int32) hq49) (zw_L_72 X.1.2.2.2.2 ⟨Nat.le_of_ble_eq_true rfl, Nat.le_of_ble_eq_true rfl⟩) 0 7 rfl rfl rfl [0] [1] [w_X7 cI cR a a_now q47.2 a_pad_codes a_pad_length a_padPattern_heights a_padPattern_length q49.2.1 q49.2.2.1 q49.2.2.2.1 q49.2.2.2.2.1 q49.2.2.2.2.2 a_history_rs a_history_oldest a_history_size a_slotZero_kept a_slotZero_filled a_slotOne_kept a_slotOne_filled, w_X7 cI cR b b_now b_ahead b_pad_codes b_pad_length b_padPattern_heights b_padPattern_length b_ways_steps b_ways_firstThrows b_ways_lastThrows b_ways_reached b_ways_reachedCount b_history_rs b_history_oldest b_history_size b_slotZero_kept b_slotZero_filled b_slotOne_kept b_slotOne_filled] (by decide : ([0] ++ [1] : List Nat).Perm (List.range 2)) rfl rfl rfl rfl rfl hl.1 rfl (Nat.le_of_ble_eq_true rfl) dL_isThrown_324 ⟨Nat.le_of_ble_eq_true rfl, Nat.le_of_ble_eq_true rfl⟩ (fun H locs Z => ?_)
                  refine lv_if_ne (tgt := 334) hx hb dL_isThrown_327 (by decide) (fun c50 => ?_) (fun c50 => ?_)
                  · have hf := it_f c50 hf
                    refine lv_iconst (v := 0) hx hb dL_isThrown_334 (by decide) ?_
                    refine lv_istore (lv' := [(5, .int (0 : Int32)), (2, .ref (a 0)), (3, .ref (b 0)), (4, .int x4), (6, .int x6), (7, .int x7), (8, .int x8)]) hx hb dL_isThrown_335 hl (by decide) rfl (fun ls hl => ?_)
                    refine lv_iconst (v := 0) hx hb dL_isThrown_337 (by decide) ?_
                    refine lv_istore (lv' := [(8, .int (0 : Int32)), (5, .int (0 : Int32)), (2, .ref (a 0)), (3, .ref (b 0)), (4, .int x4), (6, .int x6), (7, .int x7)]) hx hb dL_isThrown_338 hl (by decide) rfl (fun ls hl => ?_)
                    refine lv_iconst (v := 0) hx hb dL_isThrown_340 (by decide) ?_
                    refine lv_istore (lv' := [(9, .int (0 : Int32)), (8, .int (0 : Int32)), (5, .int (0 : Int32)), (2, .ref (a 0)), (3, .ref (b 0)), (4, .int x4), (6, .int x6), (7, .int x7)]) hx hb dL_isThrown_341 hl (by decide) rfl (fun ls hl => ?_)
                    refine lv_iconst (v := 0) hx hb dL_isThrown_343 (by decide) ?_
                    refine lv_istore (lv' := [(10, .int (0 : Int32)), (9, .int (0 : Int32)), (8, .int (0 : Int32)), (5, .int (0 : Int32)), (2, .ref (a 0)), (3, .ref (b 0)), (4, .int x4), (6, .int x6), (7, .int x7)]) hx hb dL_isThrown_344 hl (by decide) rfl (fun ls hl => ?_)
                    refine W.widen (k := 128) (n := 2904) (Nat.le_of_ble_eq_true rfl) (Nat.le_of_ble_eq_true rfl) ?_
                    exact w_L_isThrown_L346 X hO hr hlocks _ hf Z (lv_sub hl [4, 5, 6, 3, 8, 2, 1, 0] rfl)
                  · have hf := it_t c50 hf
                    refine lv_iconst (v := 1) hx hb dL_isThrown_330 (by decide) ?_
                    refine lv_goto (tgt := 335) hx hb dL_isThrown_331 (by decide) ?_
                    refine lv_istore (lv' := [(5, .int (1 : Int32)), (2, .ref (a 0)), (3, .ref (b 0)), (4, .int x4), (6, .int x6), (7, .int x7), (8, .int x8)]) hx hb dL_isThrown_335 hl (by decide) rfl (fun ls hl => ?_)
                    refine lv_iconst (v := 0) hx hb dL_isThrown_337 (by decide) ?_
                    refine lv_istore (lv' := [(8, .int (0 : Int32)), (5, .int (1 : Int32)), (2, .ref (a 0)), (3, .ref (b 0)), (4, .int x4), (6, .int x6), (7, .int x7)]) hx hb dL_isThrown_338 hl (by decide) rfl (fun ls hl => ?_)
                    refine lv_iconst (v := 0) hx hb dL_isThrown_340 (by decide) ?_
                    refine lv_istore (lv' := [(9, .int (0 : Int32)), (8, .int (0 : Int32)), (5, .int (1 : Int32)), (2, .ref (a 0)), (3, .ref (b 0)), (4, .int x4), (6, .int x6), (7, .int x7)]) hx hb dL_isThrown_341 hl (by decide) rfl (fun ls hl => ?_)
                    refine lv_iconst (v := 0) hx hb dL_isThrown_343 (by decide) ?_
                    refine lv_istore (lv' := [(10, .int (0 : Int32)), (9, .int (0 : Int32)), (8, .int (0 : Int32)), (5, .int (1 : Int32)), (2, .ref (a 0)), (3, .ref (b 0)), (4, .int x4), (6, .int x6), (7, .int x7)]) hx hb dL_isThrown_344 hl (by decide) rfl (fun ls hl => ?_)
                    refine W.widen (k := 128) (n := 2904) (Nat.le_of_ble_eq_true rfl) (Nat.le_of_ble_eq_true rfl) ?_
                    exact w_L_isThrown_L346 X hO hr hlocks _ hf Z (lv_sub hl [4, 5, 6, 3, 8, 2, 1, 0] rfl)
    · have hf := it_f c10 hf
      refine lv_iload hx hb dL_isThrown_225 (lv_at hl 3 rfl) ?_
      refine lv_if_eq (tgt := 255) hx hb dL_isThrown_227 (by decide) (fun c51 => ?_) (fun c51 => ?_)
      · have hf := it_t c51 hf
        refine lv_iconst (v := 0) hx hb dL_isThrown_255 (by decide) ?_
        refine lv_istore (lv' := [(5, .int (0 : Int32)), (2, .ref (a 0)), (3, .ref (b 0)), (4, .int x4), (6, .int x6), (7, .int x7), (8, .int x8)]) hx hb dL_isThrown_256 hl (by decide) rfl (fun ls hl => ?_)
        refine lv_iinc (v := x8 + (1 : Int32)) (lv' := [(8, .int (x8 + (1 : Int32))), (5, .int (0 : Int32)), (2, .ref (a 0)), (3, .ref (b 0)), (4, .int x4), (6, .int x6), (7, .int x7)]) hx hb dL_isThrown_258 hl (k := 6) rfl rfl (by decide) rfl (fun ls hl => ?_)
        refine lv_goto (tgt := 218) hx hb dL_isThrown_261 (by decide) ?_
        exact ih hf Z (lv_sub hl [2, 3, 4, 1, 5, 6, 0] rfl)
      · have hf := it_f c51 hf
        refine lv_iload hx hb dL_isThrown_230 (lv_at hl 4 rfl) ?_
        refine lv_iload hx hb dL_isThrown_232 (lv_at hl 6 rfl) ?_
        refine lv_ishr hx hb dL_isThrown_234 ?_
        refine lv_iconst (v := 1) hx hb dL_isThrown_235 (by decide) ?_
        refine lv_iand hx hb dL_isThrown_236 ?_
        refine lv_iconst (v := 1) hx hb dL_isThrown_237 (by decide) ?_
        refine lv_icmp_eq (tgt := 251) hx hb dL_isThrown_238 (by decide) (fun c52 => ?_) (fun c52 => ?_)
        · have hf := it_t c52 hf
          refine lv_iconst (v := 1) hx hb dL_isThrown_251 (by decide) ?_
          refine lv_goto (tgt := 256) hx hb dL_isThrown_252 (by decide) ?_
          refine lv_istore (lv' := [(5, .int (1 : Int32)), (2, .ref (a 0)), (3, .ref (b 0)), (4, .int x4), (6, .int x6), (7, .int x7), (8, .int x8)]) hx hb dL_isThrown_256 hl (by decide) rfl (fun ls hl => ?_)
          refine lv_iinc (v := x8 + (1 : Int32)) (lv' := [(8, .int (x8 + (1 : Int32))), (5, .int (1 : Int32)), (2, .ref (a 0)), (3, .ref (b 0)), (4, .int x4), (6, .int x6), (7, .int x7)]) hx hb dL_isThrown_258 hl (k := 6) rfl rfl (by decide) rfl (fun ls hl => ?_)
          refine lv_goto (tgt := 218) hx hb dL_isThrown_261 (by decide) ?_
          exact ih hf Z (lv_sub hl [2, 3, 4, 1, 5, 6, 0] rfl)
        · have hf := it_f c52 hf
          refine lv_aload_n hx hb dL_isThrown_241 rfl (lv_at hl 0 rfl) ?_
          refine lv_iconst (v := 0) hx hb dL_isThrown_242 (by decide) ?_
          refine lv_iload hx hb dL_isThrown_243 (lv_at hl 6 rfl) ?_
          obtain ⟨q53, hq53, hf⟩ := ob_s hf
          refine z_callV X Z (c_X7_drop l D cI cR a a_now a_ahead a_pad_codes a_pad_length a_padPattern_heights a_padPattern_length a_ways_steps a_ways_firstThrows a_ways_lastThrows a_ways_reached a_ways_reachedCount a_history_rs a_history_oldest a_history_size a_slotZero_kept a_slotZero_filled a_slotOne_kept a_slotOne_filled (0 : Int32) x8 hq53) (zw_L_45 X.1.2.2.2.2 ⟨Nat.le_of_ble_eq_true rfl, Nat.le_of_ble_eq_true rfl⟩) 0 7 rfl rfl rfl [0] [1] [w_X7 cI cR a q53.2.1 a_ahead a_pad_codes a_pad_length a_padPattern_heights a_padPattern_length a_ways_steps a_ways_firstThrows a_ways_lastThrows a_ways_reached a_ways_reachedCount q53.2.2.1 q53.2.2.2.1 q53.2.2.2.2 a_slotZero_kept a_slotZero_filled a_slotOne_kept a_slotOne_filled, w_X7 cI cR b b_now b_ahead b_pad_codes b_pad_length b_padPattern_heights b_padPattern_length b_ways_steps b_ways_firstThrows b_ways_lastThrows b_ways_reached b_ways_reachedCount b_history_rs b_history_oldest b_history_size b_slotZero_kept b_slotZero_filled b_slotOne_kept b_slotOne_filled] (by decide : ([0] ++ [1] : List Nat).Perm (List.range 2)) rfl rfl rfl rfl rfl hl.1 rfl (Nat.le_of_ble_eq_true rfl) dL_isThrown_245 ⟨Nat.le_of_ble_eq_true rfl, Nat.le_of_ble_eq_true rfl⟩ (fun H locs Z => ?_)
          refine lv_if_le (tgt := 255) hx hb dL_isThrown_248 (by decide) (fun c54 => ?_) (fun c54 => ?_)
          · have hf := it_t c54 hf
            refine lv_iconst (v := 0) hx hb dL_isThrown_255 (by decide) ?_
            refine lv_istore (lv' := [(5, .int (0 : Int32)), (2, .ref (a 0)), (3, .ref (b 0)), (4, .int x4), (6, .int x6), (7, .int x7), (8, .int x8)]) hx hb dL_isThrown_256 hl (by decide) rfl (fun ls hl => ?_)
            refine lv_iinc (v := x8 + (1 : Int32)) (lv' := [(8, .int (x8 + (1 : Int32))), (5, .int (0 : Int32)), (2, .ref (a 0)), (3, .ref (b 0)), (4, .int x4), (6, .int x6), (7, .int x7)]) hx hb dL_isThrown_258 hl (k := 6) rfl rfl (by decide) rfl (fun ls hl => ?_)
            refine lv_goto (tgt := 218) hx hb dL_isThrown_261 (by decide) ?_
            exact ih hf Z (lv_sub hl [2, 3, 4, 1, 5, 6, 0] rfl)
          · have hf := it_f c54 hf
            refine lv_iconst (v := 1) hx hb dL_isThrown_251 (by decide) ?_
            refine lv_goto (tgt := 256) hx hb dL_isThrown_252 (by decide) ?_
            refine lv_istore (lv' := [(5, .int (1 : Int32)), (2, .ref (a 0)), (3, .ref (b 0)), (4, .int x4), (6, .int x6), (7, .int x7), (8, .int x8)]) hx hb dL_isThrown_256 hl (by decide) rfl (fun ls hl => ?_)
            refine lv_iinc (v := x8 + (1 : Int32)) (lv' := [(8, .int (x8 + (1 : Int32))), (5, .int (1 : Int32)), (2, .ref (a 0)), (3, .ref (b 0)), (4, .int x4), (6, .int x6), (7, .int x7)]) hx hb dL_isThrown_258 hl (k := 6) rfl rfl (by decide) rfl (fun ls hl => ?_)
            refine lv_goto (tgt := 218) hx hb dL_isThrown_261 (by decide) ?_
            exact ih hf Z (lv_sub hl [2, 3, 4, 1, 5, 6, 0] rfl)

def f_L_isThrown_L56 (a_now : ST) (a_ahead : ST) (a_ways_steps : (Nat → Int32)) (a_ways_firstThrows : (Nat → Int32)) (a_ways_lastThrows : (Nat → Int32)) (a_ways_reached : (Nat → Int32)) (a_ways_reachedCount : Int32) (a_history_rs : (Nat → ST)) (a_history_oldest : Int32) (a_history_size : Int32) (b_padPattern_heights : (Nat → Int32)) (b_padPattern_length : Int32) (x0 : Int32) (x1 : Int32) (x4 : Int32) : Nat → Int32 → Int32 → (Nat → Int32) → Int32 → (Nat → Int32) → Int32 → Option (Int32)
  | 0, _, _, _, _, _, _ => none
  | n + 1, x5, x6, a_pad_codes, a_pad_length, b_pad_codes, b_pad_length => if x4 ≤ x6 then ((f_X7_pattern b_pad_codes b_pad_length b_padPattern_heights b_padPattern_length (0 : Int32)).bind (fun q5 => if q5.1 = 0 then (if x5 = 0 then (some (0 : Int32)) else ((f_X7_pattern b_pad_codes b_pad_length q5.2.1 q5.2.2 (2 : Int32)).bind (fun q60 => if q60.1 = (-5 : Int32) then (some (1 : Int32)) else (some (0 : Int32))))) else ((f_X7_pattern b_pad_codes b_pad_length q5.2.1 q5.2.2 (2 : Int32)).bind (fun q7 => (f_X7_pattern b_pad_codes b_pad_length q7.2.1 q7.2.2 (1 : Int32)).bind (fun q8 => if x5 = 0 then (f_L_isThrown_L218 a_ahead a_pad_codes a_pad_length a_ways_steps a_ways_firstThrows a_ways_lastThrows a_ways_reached a_ways_reachedCount b_pad_codes b_pad_length q8.2.1 q8.2.2 x4 q7.1 q8.1 zF (0 : Int32) (0 : Int32) a_now a_history_rs a_history_oldest a_history_size) else ((f_X7_read a_now a_pad_codes a_pad_length a_history_rs a_history_oldest a_history_size).bind (fun q55 => if q55.1 = 0 then ((f_X7_start q55.2.1 q55.2.2.2.1 q55.2.2.2.2.1 q55.2.2.2.2.2 (8 : Int32) (0 : Int32)).bind (fun q57 => if q57.1 = 0 then (f_L_isThrown_L218 a_ahead a_pad_codes q55.2.2.1 a_ways_steps a_ways_firstThrows a_ways_lastThrows a_ways_reached a_ways_reachedCount b_pad_codes b_pad_length q8.2.1 q8.2.2 x4 q7.1 q8.1 zF (1 : Int32) (0 : Int32) q57.2.1 q57.2.2.1 q57.2.2.2.1 q57.2.2.2.2) else (f_L_isThrown_L218 a_ahead a_pad_codes q55.2.2.1 a_ways_steps a_ways_firstThrows a_ways_lastThrows a_ways_reached a_ways_reachedCount b_pad_codes b_pad_length q8.2.1 q8.2.2 x4 q7.1 q8.1 zF (0 : Int32) (0 : Int32) q57.2.1 q57.2.2.1 q57.2.2.2.1 q57.2.2.2.2))) else (f_L_isThrown_L218 a_ahead a_pad_codes q55.2.2.1 a_ways_steps a_ways_firstThrows a_ways_lastThrows a_ways_reached a_ways_reachedCount b_pad_codes b_pad_length q8.2.1 q8.2.2 x4 q7.1 q8.1 zF (0 : Int32) (0 : Int32) q55.2.1 q55.2.2.2.1 q55.2.2.2.2.1 q55.2.2.2.2.2)))))))) else ((f_L_up (x0 >>> ((3 : Int32) &&& 31)) (2 : Int32)).bind (fun q62 => if q62 = 0 then ((f_L_up (x0 >>> ((4 : Int32) &&& 31)) (7 : Int32)).bind (fun q70 => if x5 = 0 then (f_L_isThrown_L56 a_now a_ahead a_ways_steps a_ways_firstThrows a_ways_lastThrows a_ways_reached a_ways_reachedCount a_history_rs a_history_oldest a_history_size b_padPattern_heights b_padPattern_length x0 x1 x4 n (0 : Int32) (x6 + (1 : Int32)) a_pad_codes a_pad_length b_pad_codes b_pad_length) else ((f_X7_put a_pad_codes a_pad_length (((48 : Int32) + ((1 : Int32) + q70)).toInt64)).bind (fun q72 => if q72.1 ≤ 0 then (f_L_isThrown_L56 a_now a_ahead a_ways_steps a_ways_firstThrows a_ways_lastThrows a_ways_reached a_ways_reachedCount a_history_rs a_history_oldest a_history_size b_padPattern_heights b_padPattern_length x0 x1 x4 n (0 : Int32) (x6 + (1 : Int32)) q72.2.1 q72.2.2 b_pad_codes b_pad_length) else ((f_X7_put b_pad_codes b_pad_length (((48 : Int32) + ((1 : Int32) + q70)).toInt64)).bind (fun q74 => if q74.1 ≤ 0 then (f_L_isThrown_L56 a_now a_ahead a_ways_steps a_ways_firstThrows a_ways_lastThrows a_ways_reached a_ways_reachedCount a_history_rs a_history_oldest a_history_size b_padPattern_heights b_padPattern_length x0 x1 x4 n (0 : Int32) (x6 + (1 : Int32)) q72.2.1 q72.2.2 q74.2.1 q74.2.2) else (f_L_isThrown_L56 a_now a_ahead a_ways_steps a_ways_firstThrows a_ways_lastThrows a_ways_reached a_ways_reachedCount a_history_rs a_history_oldest a_history_size b_padPattern_heights b_padPattern_length x0 x1 x4 n (1 : Int32) (x6 + (1 : Int32)) q72.2.1 q72.2.2 q74.2.1 q74.2.2))))))) else ((f_L_up (x1 >>> (((3 : Int32) * x6) &&& 31)) (8 : Int32)).bind (fun q64 => if x5 = 0 then (f_L_isThrown_L56 a_now a_ahead a_ways_steps a_ways_firstThrows a_ways_lastThrows a_ways_reached a_ways_reachedCount a_history_rs a_history_oldest a_history_size b_padPattern_heights b_padPattern_length x0 x1 x4 n (0 : Int32) (x6 + (1 : Int32)) a_pad_codes a_pad_length b_pad_codes b_pad_length) else ((f_X7_put a_pad_codes a_pad_length (((48 : Int32) + q64).toInt64)).bind (fun q66 => if q66.1 ≤ 0 then (f_L_isThrown_L56 a_now a_ahead a_ways_steps a_ways_firstThrows a_ways_lastThrows a_ways_reached a_ways_reachedCount a_history_rs a_history_oldest a_history_size b_padPattern_heights b_padPattern_length x0 x1 x4 n (0 : Int32) (x6 + (1 : Int32)) q66.2.1 q66.2.2 b_pad_codes b_pad_length) else ((f_X7_put b_pad_codes b_pad_length (((48 : Int32) + q64).toInt64)).bind (fun q68 => if q68.1 ≤ 0 then (f_L_isThrown_L56 a_now a_ahead a_ways_steps a_ways_firstThrows a_ways_lastThrows a_ways_reached a_ways_reachedCount a_history_rs a_history_oldest a_history_size b_padPattern_heights b_padPattern_length x0 x1 x4 n (0 : Int32) (x6 + (1 : Int32)) q66.2.1 q66.2.2 q68.2.1 q68.2.2) else (f_L_isThrown_L56 a_now a_ahead a_ways_steps a_ways_firstThrows a_ways_lastThrows a_ways_reached a_ways_reachedCount a_history_rs a_history_oldest a_history_size b_padPattern_heights b_padPattern_length x0 x1 x4 n (1 : Int32) (x6 + (1 : Int32)) q66.2.1 q66.2.2 q68.2.1 q68.2.2)))))))))
set_option maxHeartbeats 4000000 in
set_option maxRecDepth 100000 in
theorem w_L_isThrown_L56 {p : Program} {l : Launch} {e : Env} {s : State} {m : MethodId} {args : Array Value} {below : List Frame} {meth : Method} {c : Code} {D : va_G} {cI cR : ClassId} {A : Nat → Prop} {a : Nat → Nat} {b : Nat → Nat} {a_now : ST} {a_ahead : ST} {a_padPattern_heights : (Nat → Int32)} {a_padPattern_length : Int32} {a_ways_steps : (Nat → Int32)} {a_ways_firstThrows : (Nat → Int32)} {a_ways_lastThrows : (Nat → Int32)} {a_ways_reached : (Nat → Int32)} {a_ways_reachedCount : Int32} {a_history_rs : (Nat → ST)} {a_history_oldest : Int32} {a_history_size : Int32} {a_slotZero_kept : ST} {a_slotZero_filled : Int32} {a_slotOne_kept : ST} {a_slotOne_filled : Int32} {b_now : ST} {b_ahead : ST} {b_padPattern_heights : (Nat → Int32)} {b_padPattern_length : Int32} {b_ways_steps : (Nat → Int32)} {b_ways_firstThrows : (Nat → Int32)} {b_ways_lastThrows : (Nat → Int32)} {b_ways_reached : (Nat → Int32)} {b_ways_reachedCount : Int32} {b_history_rs : (Nat → ST)} {b_history_oldest : Int32} {b_history_size : Int32} {b_slotZero_kept : ST} {b_slotZero_filled : Int32} {b_slotOne_kept : ST} {b_slotOne_filled : Int32} {x0 : Int32} {x1 : Int32} {x4 : Int32} {R : Int32} (X : zX p s m c cL_isThrown 12 args RL D cI cR A) (hO : va_AO "JugglerStates$Scene" s) (hr : meth.sig.returnType = (some .boolean)) (hlocks : meth.locks = false) : ∀ (n : Nat)  {x5 : Int32} {x6 : Int32} {a_pad_codes : (Nat → Int32)} {a_pad_length : Int32} {b_pad_codes : (Nat → Int32)} {b_pad_length : Int32} {H : Heap} {locs : List Loc} {ls : Array Slot}, f_L_isThrown_L56 a_now a_ahead a_ways_steps a_ways_firstThrows a_ways_lastThrows a_ways_reached a_ways_reachedCount a_history_rs a_history_oldest a_history_size b_padPattern_heights b_padPattern_length x0 x1 x4 n x5 x6 a_pad_codes a_pad_length b_pad_codes b_pad_length = some R → zW D A s [w_X7 cI cR a a_now a_ahead a_pad_codes a_pad_length a_padPattern_heights a_padPattern_length a_ways_steps a_ways_firstThrows a_ways_lastThrows a_ways_reached a_ways_reachedCount a_history_rs a_history_oldest a_history_size a_slotZero_kept a_slotZero_filled a_slotOne_kept a_slotOne_filled, w_X7 cI cR b b_now b_ahead b_pad_codes b_pad_length b_padPattern_heights b_padPattern_length b_ways_steps b_ways_firstThrows b_ways_lastThrows b_ways_reached b_ways_reachedCount b_history_rs b_history_oldest b_history_size b_slotZero_kept b_slotZero_filled b_slotOne_kept b_slotOne_filled] H locs → lv_has ls 12 [(0, .int x0), (1, .int x1), (2, .ref (a 0)), (3, .ref (b 0)), (4, .int x4), (5, .int x5), (6, .int x6)] → W p l e ({ frames := 7, cells := 192, slots := 4356, locals := 158 } : Room) s m args below meth c H locs 128 2904 (zET D A below s args (some (.int R)) [] 192 4356) (F0 m 56 ls []) := by
  have hx := X.1.1
  have hb := X.1.2.1
  intro n
  induction n with
  | zero =>
    intro x5 x6 a_pad_codes a_pad_length b_pad_codes b_pad_length H locs ls hf
    have hf : none = some R := hf
    cases hf
  | succ n ih =>
    intro x5 x6 a_pad_codes a_pad_length b_pad_codes b_pad_length H locs ls hf Z hl
    refine lv_iload hx hb dL_isThrown_56 (lv_at hl 6 rfl) ?_
    refine lv_iload hx hb dL_isThrown_58 (lv_at hl 4 rfl) ?_
    refine lv_icmp_ge (tgt := 143) hx hb dL_isThrown_60 (by decide) (fun c4 => ?_) (fun c4 => ?_)
    · have hf := it_t c4 hf
      refine lv_aload_n hx hb dL_isThrown_143 rfl (lv_at hl 3 rfl) ?_
      refine lv_iconst (v := 0) hx hb dL_isThrown_144 (by decide) ?_
      obtain ⟨q5, hq5, hf⟩ := ob_s hf
      refine z_callV X Z (c_X7_pattern l D cI cR b b_now b_ahead b_pad_codes b_pad_length b_padPattern_heights b_padPattern_length b_ways_steps b_ways_firstThrows b_ways_lastThrows b_ways_reached b_ways_reachedCount b_history_rs b_history_oldest b_history_size b_slotZero_kept b_slotZero_filled b_slotOne_kept b_slotOne_filled (0 : Int32) hq5) (zw_L_69 X.1.2.2.2.2 ⟨Nat.le_of_ble_eq_true rfl, Nat.le_of_ble_eq_true rfl⟩) 64 7 rfl rfl rfl [1] [0] [w_X7 cI cR a a_now a_ahead a_pad_codes a_pad_length a_padPattern_heights a_padPattern_length a_ways_steps a_ways_firstThrows a_ways_lastThrows a_ways_reached a_ways_reachedCount a_history_rs a_history_oldest a_history_size a_slotZero_kept a_slotZero_filled a_slotOne_kept a_slotOne_filled, w_X7 cI cR b b_now b_ahead b_pad_codes b_pad_length q5.2.1 q5.2.2 b_ways_steps b_ways_firstThrows b_ways_lastThrows b_ways_reached b_ways_reachedCount b_history_rs b_history_oldest b_history_size b_slotZero_kept b_slotZero_filled b_slotOne_kept b_slotOne_filled] (by decide : ([1] ++ [0] : List Nat).Perm (List.range 2)) rfl rfl rfl rfl rfl hl.1 rfl (Nat.le_of_ble_eq_true rfl) dL_isThrown_145 ⟨Nat.le_of_ble_eq_true rfl, Nat.le_of_ble_eq_true rfl⟩ (fun H locs Z => ?_)
      refine lv_if_ne (tgt := 172) hx hb dL_isThrown_148 (by decide) (fun c6 => ?_) (fun c6 => ?_)
      · have hf := it_f c6 hf
        refine lv_aload_n hx hb dL_isThrown_172 rfl (lv_at hl 3 rfl) ?_
        refine lv_iconst (v := 2) hx hb dL_isThrown_173 (by decide) ?_
        obtain ⟨q7, hq7, hf⟩ := ob_s hf
        refine z_callV X Z (c_X7_pattern l D cI cR b b_now b_ahead b_pad_codes b_pad_length q5.2.1 q5.2.2 b_ways_steps b_ways_firstThrows b_ways_lastThrows b_ways_reached b_ways_reachedCount b_history_rs b_history_oldest b_history_size b_slotZero_kept b_slotZero_filled b_slotOne_kept b_slotOne_filled (2 : Int32) hq7) (zw_L_69 X.1.2.2.2.2 ⟨Nat.le_of_ble_eq_true rfl, Nat.le_of_ble_eq_true rfl⟩) 64 7 rfl rfl rfl [1] [0] [w_X7 cI cR a a_now a_ahead a_pad_codes a_pad_length a_padPattern_heights a_padPattern_length a_ways_steps a_ways_firstThrows a_ways_lastThrows a_ways_reached a_ways_reachedCount a_history_rs a_history_oldest a_history_size a_slotZero_kept a_slotZero_filled a_slotOne_kept a_slotOne_filled, w_X7 cI cR b b_now b_ahead b_pad_codes b_pad_length q7.2.1 q7.2.2 b_ways_steps b_ways_firstThrows b_ways_lastThrows b_ways_reached b_ways_reachedCount b_history_rs b_history_oldest b_history_size b_slotZero_kept b_slotZero_filled b_slotOne_kept b_slotOne_filled] (by decide : ([1] ++ [0] : List Nat).Perm (List.range 2)) rfl rfl rfl rfl rfl hl.1 rfl (Nat.le_of_ble_eq_true rfl) dL_isThrown_174 ⟨Nat.le_of_ble_eq_true rfl, Nat.le_of_ble_eq_true rfl⟩ (fun H locs Z => ?_)
        refine lv_istore (lv' := [(6, .int q7.1), (0, .int x0), (1, .int x1), (2, .ref (a 0)), (3, .ref (b 0)), (4, .int x4), (5, .int x5)]) hx hb dL_isThrown_177 hl (by decide) rfl (fun ls hl => ?_)
        refine lv_aload_n hx hb dL_isThrown_179 rfl (lv_at hl 4 rfl) ?_
        refine lv_iconst (v := 1) hx hb dL_isThrown_180 (by decide) ?_
        obtain ⟨q8, hq8, hf⟩ := ob_s hf
        refine z_callV X Z (c_X7_pattern l D cI cR b b_now b_ahead b_pad_codes b_pad_length q7.2.1 q7.2.2 b_ways_steps b_ways_firstThrows b_ways_lastThrows b_ways_reached b_ways_reachedCount b_history_rs b_history_oldest b_history_size b_slotZero_kept b_slotZero_filled b_slotOne_kept b_slotOne_filled (1 : Int32) hq8) (zw_L_69 X.1.2.2.2.2 ⟨Nat.le_of_ble_eq_true rfl, Nat.le_of_ble_eq_true rfl⟩) 64 7 rfl rfl rfl [1] [0] [w_X7 cI cR a a_now a_ahead a_pad_codes a_pad_length a_padPattern_heights a_padPattern_length a_ways_steps a_ways_firstThrows a_ways_lastThrows a_ways_reached a_ways_reachedCount a_history_rs a_history_oldest a_history_size a_slotZero_kept a_slotZero_filled a_slotOne_kept a_slotOne_filled, w_X7 cI cR b b_now b_ahead b_pad_codes b_pad_length q8.2.1 q8.2.2 b_ways_steps b_ways_firstThrows b_ways_lastThrows b_ways_reached b_ways_reachedCount b_history_rs b_history_oldest b_history_size b_slotZero_kept b_slotZero_filled b_slotOne_kept b_slotOne_filled] (by decide : ([1] ++ [0] : List Nat).Perm (List.range 2)) rfl rfl rfl rfl rfl hl.1 rfl (Nat.le_of_ble_eq_true rfl) dL_isThrown_181 ⟨Nat.le_of_ble_eq_true rfl, Nat.le_of_ble_eq_true rfl⟩ (fun H locs Z => ?_)
        refine lv_istore (lv' := [(7, .int q8.1), (6, .int q7.1), (0, .int x0), (1, .int x1), (2, .ref (a 0)), (3, .ref (b 0)), (4, .int x4), (5, .int x5)]) hx hb dL_isThrown_184 hl (by decide) rfl (fun ls hl => ?_)
        refine lv_iload hx hb dL_isThrown_186 (lv_at hl 7 rfl) ?_
        refine lv_if_eq (tgt := 212) hx hb dL_isThrown_188 (by decide) (fun c9 => ?_) (fun c9 => ?_)
        · have hf := it_t c9 hf
          refine lv_iconst (v := 0) hx hb dL_isThrown_212 (by decide) ?_
          refine lv_istore (lv' := [(5, .int (0 : Int32)), (7, .int q8.1), (6, .int q7.1), (0, .int x0), (1, .int x1), (2, .ref (a 0)), (3, .ref (b 0)), (4, .int x4)]) hx hb dL_isThrown_213 hl (by decide) rfl (fun ls hl => ?_)
          refine lv_iconst (v := 0) hx hb dL_isThrown_215 (by decide) ?_
          refine lv_istore (lv' := [(8, .int (0 : Int32)), (5, .int (0 : Int32)), (7, .int q8.1), (6, .int q7.1), (0, .int x0), (1, .int x1), (2, .ref (a 0)), (3, .ref (b 0)), (4, .int x4)]) hx hb dL_isThrown_216 hl (by decide) rfl (fun ls hl => ?_)
          refine W.widen (k := 128) (n := 2904) (Nat.le_of_ble_eq_true rfl) (Nat.le_of_ble_eq_true rfl) ?_
          exact w_L_isThrown_L218 X hO hr hlocks _ hf Z (lv_sub hl [6, 7, 8, 1, 3, 2, 0] rfl)
        · have hf := it_f c9 hf
          refine lv_aload_n hx hb dL_isThrown_191 rfl (lv_at hl 4 rfl) ?_
          obtain ⟨q55, hq55, hf⟩ := ob_s hf
          refine z_callV X Z (c_X7_read l D cI cR a a_now a_ahead a_pad_codes a_pad_length a_padPattern_heights a_padPattern_length a_ways_steps a_ways_firstThrows a_ways_lastThrows a_ways_reached a_ways_reachedCount a_history_rs a_history_oldest a_history_size a_slotZero_kept a_slotZero_filled a_slotOne_kept a_slotOne_filled  hq55) (zw_L_42 X.1.2.2.2.2 ⟨Nat.le_of_ble_eq_true rfl, Nat.le_of_ble_eq_true rfl⟩) 0 7 rfl rfl rfl [0] [1] [w_X7 cI cR a q55.2.1 a_ahead a_pad_codes q55.2.2.1 a_padPattern_heights a_padPattern_length a_ways_steps a_ways_firstThrows a_ways_lastThrows a_ways_reached a_ways_reachedCount q55.2.2.2.1 q55.2.2.2.2.1 q55.2.2.2.2.2 a_slotZero_kept a_slotZero_filled a_slotOne_kept a_slotOne_filled, w_X7 cI cR b b_now b_ahead b_pad_codes b_pad_length q8.2.1 q8.2.2 b_ways_steps b_ways_firstThrows b_ways_lastThrows b_ways_reached b_ways_reachedCount b_history_rs b_history_oldest b_history_size b_slotZero_kept b_slotZero_filled b_slotOne_kept b_slotOne_filled] (by decide : ([0] ++ [1] : List Nat).Perm (List.range 2)) rfl rfl rfl rfl rfl hl.1 rfl (Nat.le_of_ble_eq_true rfl) dL_isThrown_192 ⟨Nat.le_of_ble_eq_true rfl, Nat.le_of_ble_eq_true rfl⟩ (fun H locs Z => ?_)
          refine lv_if_ne (tgt := 212) hx hb dL_isThrown_195 (by decide) (fun c56 => ?_) (fun c56 => ?_)
          · have hf := it_f c56 hf
            refine lv_iconst (v := 0) hx hb dL_isThrown_212 (by decide) ?_
            refine lv_istore (lv' := [(5, .int (0 : Int32)), (7, .int q8.1), (6, .int q7.1), (0, .int x0), (1, .int x1), (2, .ref (a 0)), (3, .ref (b 0)), (4, .int x4)]) hx hb dL_isThrown_213 hl (by decide) rfl (fun ls hl => ?_)
            refine lv_iconst (v := 0) hx hb dL_isThrown_215 (by decide) ?_
            refine lv_istore (lv' := [(8, .int (0 : Int32)), (5, .int (0 : Int32)), (7, .int q8.1), (6, .int q7.1), (0, .int x0), (1, .int x1), (2, .ref (a 0)), (3, .ref (b 0)), (4, .int x4)]) hx hb dL_isThrown_216 hl (by decide) rfl (fun ls hl => ?_)
            refine W.widen (k := 128) (n := 2904) (Nat.le_of_ble_eq_true rfl) (Nat.le_of_ble_eq_true rfl) ?_
            exact w_L_isThrown_L218 X hO hr hlocks _ hf Z (lv_sub hl [6, 7, 8, 1, 3, 2, 0] rfl)
          · have hf := it_t c56 hf
            refine lv_aload_n hx hb dL_isThrown_198 rfl (lv_at hl 4 rfl) ?_
            refine lv_bipush (v := 8) hx hb dL_isThrown_199 (by decide) ?_
            refine lv_iconst (v := 0) hx hb dL_isThrown_201 (by decide) ?_
            obtain ⟨q57, hq57, hf⟩ := ob_s hf
            refine z_callV X Z (c_X7_start l D cI cR a q55.2.1 a_ahead a_pad_codes q55.2.2.1 a_padPattern_heights a_padPattern_length a_ways_steps a_ways_firstThrows a_ways_lastThrows a_ways_reached a_ways_reachedCount q55.2.2.2.1 q55.2.2.2.2.1 q55.2.2.2.2.2 a_slotZero_kept a_slotZero_filled a_slotOne_kept a_slotOne_filled (8 : Int32) (0 : Int32) hq57) (zw_L_21 X.1.2.2.2.2 ⟨Nat.le_of_ble_eq_true rfl, Nat.le_of_ble_eq_true rfl⟩) 0 7 rfl rfl rfl [0] [1] [w_X7 cI cR a q57.2.1 a_ahead a_pad_codes q55.2.2.1 a_padPattern_heights a_padPattern_length a_ways_steps a_ways_firstThrows a_ways_lastThrows a_ways_reached a_ways_reachedCount q57.2.2.1 q57.2.2.2.1 q57.2.2.2.2 a_slotZero_kept a_slotZero_filled a_slotOne_kept a_slotOne_filled, w_X7 cI cR b b_now b_ahead b_pad_codes b_pad_length q8.2.1 q8.2.2 b_ways_steps b_ways_firstThrows b_ways_lastThrows b_ways_reached b_ways_reachedCount b_history_rs b_history_oldest b_history_size b_slotZero_kept b_slotZero_filled b_slotOne_kept b_slotOne_filled] (by decide : ([0] ++ [1] : List Nat).Perm (List.range 2)) rfl rfl rfl rfl rfl hl.1 rfl (Nat.le_of_ble_eq_true rfl) dL_isThrown_202 ⟨Nat.le_of_ble_eq_true rfl, Nat.le_of_ble_eq_true rfl⟩ (fun H locs Z => ?_)
            refine lv_if_ne (tgt := 212) hx hb dL_isThrown_205 (by decide) (fun c58 => ?_) (fun c58 => ?_)
            · have hf := it_f c58 hf
              refine lv_iconst (v := 0) hx hb dL_isThrown_212 (by decide) ?_
              refine lv_istore (lv' := [(5, .int (0 : Int32)), (7, .int q8.1), (6, .int q7.1), (0, .int x0), (1, .int x1), (2, .ref (a 0)), (3, .ref (b 0)), (4, .int x4)]) hx hb dL_isThrown_213 hl (by decide) rfl (fun ls hl => ?_)
              refine lv_iconst (v := 0) hx hb dL_isThrown_215 (by decide) ?_
              refine lv_istore (lv' := [(8, .int (0 : Int32)), (5, .int (0 : Int32)), (7, .int q8.1), (6, .int q7.1), (0, .int x0), (1, .int x1), (2, .ref (a 0)), (3, .ref (b 0)), (4, .int x4)]) hx hb dL_isThrown_216 hl (by decide) rfl (fun ls hl => ?_)
              refine W.widen (k := 128) (n := 2904) (Nat.le_of_ble_eq_true rfl) (Nat.le_of_ble_eq_true rfl) ?_
              exact w_L_isThrown_L218 X hO hr hlocks _ hf Z (lv_sub hl [6, 7, 8, 1, 3, 2, 0] rfl)
            · have hf := it_t c58 hf
              refine lv_iconst (v := 1) hx hb dL_isThrown_208 (by decide) ?_
              refine lv_goto (tgt := 213) hx hb dL_isThrown_209 (by decide) ?_
              refine lv_istore (lv' := [(5, .int (1 : Int32)), (7, .int q8.1), (6, .int q7.1), (0, .int x0), (1, .int x1), (2, .ref (a 0)), (3, .ref (b 0)), (4, .int x4)]) hx hb dL_isThrown_213 hl (by decide) rfl (fun ls hl => ?_)
              refine lv_iconst (v := 0) hx hb dL_isThrown_215 (by decide) ?_
              refine lv_istore (lv' := [(8, .int (0 : Int32)), (5, .int (1 : Int32)), (7, .int q8.1), (6, .int q7.1), (0, .int x0), (1, .int x1), (2, .ref (a 0)), (3, .ref (b 0)), (4, .int x4)]) hx hb dL_isThrown_216 hl (by decide) rfl (fun ls hl => ?_)
              refine W.widen (k := 128) (n := 2904) (Nat.le_of_ble_eq_true rfl) (Nat.le_of_ble_eq_true rfl) ?_
              exact w_L_isThrown_L218 X hO hr hlocks _ hf Z (lv_sub hl [6, 7, 8, 1, 3, 2, 0] rfl)
      · have hf := it_t c6 hf
        refine lv_iload hx hb dL_isThrown_151 (lv_at hl 5 rfl) ?_
        refine lv_if_eq (tgt := 170) hx hb dL_isThrown_153 (by decide) (fun c59 => ?_) (fun c59 => ?_)
        · have hf := it_t c59 hf
          refine lv_iconst (v := 0) hx hb dL_isThrown_170 (by decide) ?_
          have hR := so_s hf
          subst hR
          refine W.widen (k := 192) (n := 4356) (Nat.le_of_ble_eq_true rfl) (Nat.le_of_ble_eq_true rfl) ?_
          exact z_zretT X hr hlocks (Or.inl rfl) Z.nil dL_isThrown_171
        · have hf := it_f c59 hf
          refine lv_aload_n hx hb dL_isThrown_156 rfl (lv_at hl 3 rfl) ?_
          refine lv_iconst (v := 2) hx hb dL_isThrown_157 (by decide) ?_
          obtain ⟨q60, hq60, hf⟩ := ob_s hf
          refine z_callV X Z (c_X7_pattern l D cI cR b b_now b_ahead b_pad_codes b_pad_length q5.2.1 q5.2.2 b_ways_steps b_ways_firstThrows b_ways_lastThrows b_ways_reached b_ways_reachedCount b_history_rs b_history_oldest b_history_size b_slotZero_kept b_slotZero_filled b_slotOne_kept b_slotOne_filled (2 : Int32) hq60) (zw_L_69 X.1.2.2.2.2 ⟨Nat.le_of_ble_eq_true rfl, Nat.le_of_ble_eq_true rfl⟩) 64 7 rfl rfl rfl [1] [0] [w_X7 cI cR a a_now a_ahead a_pad_codes a_pad_length a_padPattern_heights a_padPattern_length a_ways_steps a_ways_firstThrows a_ways_lastThrows a_ways_reached a_ways_reachedCount a_history_rs a_history_oldest a_history_size a_slotZero_kept a_slotZero_filled a_slotOne_kept a_slotOne_filled, w_X7 cI cR b b_now b_ahead b_pad_codes b_pad_length q60.2.1 q60.2.2 b_ways_steps b_ways_firstThrows b_ways_lastThrows b_ways_reached b_ways_reachedCount b_history_rs b_history_oldest b_history_size b_slotZero_kept b_slotZero_filled b_slotOne_kept b_slotOne_filled] (by decide : ([1] ++ [0] : List Nat).Perm (List.range 2)) rfl rfl rfl rfl rfl hl.1 rfl (Nat.le_of_ble_eq_true rfl) dL_isThrown_158 ⟨Nat.le_of_ble_eq_true rfl, Nat.le_of_ble_eq_true rfl⟩ (fun H locs Z => ?_)
          refine lv_bipush (v := -5) hx hb dL_isThrown_161 (by decide) ?_
          refine lv_icmp_ne (tgt := 170) hx hb dL_isThrown_163 (by decide) (fun c61 => ?_) (fun c61 => ?_)
          · have hf := it_f c61 hf
            refine lv_iconst (v := 0) hx hb dL_isThrown_170 (by decide) ?_
            have hR := so_s hf
            subst hR
            refine W.widen (k := 192) (n := 4356) (Nat.le_of_ble_eq_true rfl) (Nat.le_of_ble_eq_true rfl) ?_
            exact z_zretT X hr hlocks (Or.inl rfl) Z.nil dL_isThrown_171
          · have hf := it_t c61 hf
            refine lv_iconst (v := 1) hx hb dL_isThrown_166 (by decide) ?_
            refine lv_goto (tgt := 171) hx hb dL_isThrown_167 (by decide) ?_
            have hR := so_s hf
            subst hR
            refine W.widen (k := 192) (n := 4356) (Nat.le_of_ble_eq_true rfl) (Nat.le_of_ble_eq_true rfl) ?_
            exact z_zretT X hr hlocks (Or.inr rfl) Z.nil dL_isThrown_171
    · have hf := it_f c4 hf
      refine lv_iload_n hx hb dL_isThrown_63 rfl (lv_at hl 0 rfl) ?_
      refine lv_iconst (v := 3) hx hb dL_isThrown_64 (by decide) ?_
      refine lv_ishr hx hb dL_isThrown_65 ?_
      refine lv_iconst (v := 2) hx hb dL_isThrown_66 (by decide) ?_
      obtain ⟨q62, hq62, hf⟩ := ob_s hf
      refine z_roS X Z (c_L_up l D cI cR   (x0 >>> ((3 : Int32) &&& 31)) (2 : Int32) hq62) (zw_L_9 X.1.2.2.2.2 ⟨Nat.le_of_ble_eq_true rfl, Nat.le_of_ble_eq_true rfl⟩) [] [0, 1] (by decide : ([] ++ [0, 1] : List Nat).Perm (List.range 2)) rfl rfl hl.1 rfl (Nat.le_of_ble_eq_true rfl) dL_isThrown_67 ⟨Nat.le_of_ble_eq_true rfl, Nat.le_of_ble_eq_true rfl⟩ (fun H locs Z => ?_)
      refine lv_if_ne (tgt := 86) hx hb dL_isThrown_70 (by decide) (fun c63 => ?_) (fun c63 => ?_)
      · have hf := it_f c63 hf
        refine lv_iload_n hx hb dL_isThrown_86 rfl (lv_at hl 1 rfl) ?_
        refine lv_iconst (v := 3) hx hb dL_isThrown_87 (by decide) ?_
        refine lv_iload hx hb dL_isThrown_88 (lv_at hl 6 rfl) ?_
        refine lv_imul hx hb dL_isThrown_90 ?_
        refine lv_ishr hx hb dL_isThrown_91 ?_
        refine lv_bipush (v := 8) hx hb dL_isThrown_92 (by decide) ?_
        obtain ⟨q64, hq64, hf⟩ := ob_s hf
        refine z_roS X Z (c_L_up l D cI cR   (x1 >>> (((3 : Int32) * x6) &&& 31)) (8 : Int32) hq64) (zw_L_9 X.1.2.2.2.2 ⟨Nat.le_of_ble_eq_true rfl, Nat.le_of_ble_eq_true rfl⟩) [] [0, 1] (by decide : ([] ++ [0, 1] : List Nat).Perm (List.range 2)) rfl rfl hl.1 rfl (Nat.le_of_ble_eq_true rfl) dL_isThrown_94 ⟨Nat.le_of_ble_eq_true rfl, Nat.le_of_ble_eq_true rfl⟩ (fun H locs Z => ?_)
        refine lv_istore (lv' := [(7, .int q64), (0, .int x0), (1, .int x1), (2, .ref (a 0)), (3, .ref (b 0)), (4, .int x4), (5, .int x5), (6, .int x6)]) hx hb dL_isThrown_97 hl (by decide) rfl (fun ls hl => ?_)
        refine lv_iload hx hb dL_isThrown_99 (lv_at hl 6 rfl) ?_
        refine lv_if_eq (tgt := 134) hx hb dL_isThrown_101 (by decide) (fun c65 => ?_) (fun c65 => ?_)
        · have hf := it_t c65 hf
          refine lv_iconst (v := 0) hx hb dL_isThrown_134 (by decide) ?_
          refine lv_istore (lv' := [(5, .int (0 : Int32)), (7, .int q64), (0, .int x0), (1, .int x1), (2, .ref (a 0)), (3, .ref (b 0)), (4, .int x4), (6, .int x6)]) hx hb dL_isThrown_135 hl (by decide) rfl (fun ls hl => ?_)
          refine lv_iinc (v := x6 + (1 : Int32)) (lv' := [(6, .int (x6 + (1 : Int32))), (5, .int (0 : Int32)), (7, .int q64), (0, .int x0), (1, .int x1), (2, .ref (a 0)), (3, .ref (b 0)), (4, .int x4)]) hx hb dL_isThrown_137 hl (k := 7) rfl rfl (by decide) rfl (fun ls hl => ?_)
          refine lv_goto (tgt := 56) hx hb dL_isThrown_140 (by decide) ?_
          exact ih hf Z (lv_sub hl [3, 4, 5, 6, 7, 1, 0] rfl)
        · have hf := it_f c65 hf
          refine lv_aload_n hx hb dL_isThrown_104 rfl (lv_at hl 3 rfl) ?_
          refine lv_bipush (v := 48) hx hb dL_isThrown_105 (by decide) ?_
          refine lv_iload hx hb dL_isThrown_107 (lv_at hl 0 rfl) ?_
          refine lv_iadd hx hb dL_isThrown_109 ?_
          refine lv_i2l hx hb dL_isThrown_110 rfl ?_
          obtain ⟨q66, hq66, hf⟩ := ob_s hf
          refine z_callV X Z (c_X7_put l D cI cR a a_now a_ahead a_pad_codes a_pad_length a_padPattern_heights a_padPattern_length a_ways_steps a_ways_firstThrows a_ways_lastThrows a_ways_reached a_ways_reachedCount a_history_rs a_history_oldest a_history_size a_slotZero_kept a_slotZero_filled a_slotOne_kept a_slotOne_filled (((48 : Int32) + q64).toInt64) hq66) (zw_L_31 X.1.2.2.2.2 ⟨Nat.le_of_ble_eq_true rfl, Nat.le_of_ble_eq_true rfl⟩) 0 7 rfl rfl rfl [0] [1] [w_X7 cI cR a a_now a_ahead q66.2.1 q66.2.2 a_padPattern_heights a_padPattern_length a_ways_steps a_ways_firstThrows a_ways_lastThrows a_ways_reached a_ways_reachedCount a_history_rs a_history_oldest a_history_size a_slotZero_kept a_slotZero_filled a_slotOne_kept a_slotOne_filled, w_X7 cI cR b b_now b_ahead b_pad_codes b_pad_length b_padPattern_heights b_padPattern_length b_ways_steps b_ways_firstThrows b_ways_lastThrows b_ways_reached b_ways_reachedCount b_history_rs b_history_oldest b_history_size b_slotZero_kept b_slotZero_filled b_slotOne_kept b_slotOne_filled] (by decide : ([0] ++ [1] : List Nat).Perm (List.range 2)) rfl rfl rfl rfl rfl hl.1 rfl (Nat.le_of_ble_eq_true rfl) dL_isThrown_111 ⟨Nat.le_of_ble_eq_true rfl, Nat.le_of_ble_eq_true rfl⟩ (fun H locs Z => ?_)
          refine lv_if_le (tgt := 134) hx hb dL_isThrown_114 (by decide) (fun c67 => ?_) (fun c67 => ?_)
          · have hf := it_t c67 hf
            refine lv_iconst (v := 0) hx hb dL_isThrown_134 (by decide) ?_
            refine lv_istore (lv' := [(5, .int (0 : Int32)), (7, .int q64), (0, .int x0), (1, .int x1), (2, .ref (a 0)), (3, .ref (b 0)), (4, .int x4), (6, .int x6)]) hx hb dL_isThrown_135 hl (by decide) rfl (fun ls hl => ?_)
            refine lv_iinc (v := x6 + (1 : Int32)) (lv' := [(6, .int (x6 + (1 : Int32))), (5, .int (0 : Int32)), (7, .int q64), (0, .int x0), (1, .int x1), (2, .ref (a 0)), (3, .ref (b 0)), (4, .int x4)]) hx hb dL_isThrown_137 hl (k := 7) rfl rfl (by decide) rfl (fun ls hl => ?_)
            refine lv_goto (tgt := 56) hx hb dL_isThrown_140 (by decide) ?_
            exact ih hf Z (lv_sub hl [3, 4, 5, 6, 7, 1, 0] rfl)
          · have hf := it_f c67 hf
            refine lv_aload_n hx hb dL_isThrown_117 rfl (lv_at hl 4 rfl) ?_
            refine lv_bipush (v := 48) hx hb dL_isThrown_118 (by decide) ?_
            refine lv_iload hx hb dL_isThrown_120 (lv_at hl 0 rfl) ?_
            refine lv_iadd hx hb dL_isThrown_122 ?_
            refine lv_i2l hx hb dL_isThrown_123 rfl ?_
            obtain ⟨q68, hq68, hf⟩ := ob_s hf
            refine z_callV X Z (c_X7_put l D cI cR b b_now b_ahead b_pad_codes b_pad_length b_padPattern_heights b_padPattern_length b_ways_steps b_ways_firstThrows b_ways_lastThrows b_ways_reached b_ways_reachedCount b_history_rs b_history_oldest b_history_size b_slotZero_kept b_slotZero_filled b_slotOne_kept b_slotOne_filled (((48 : Int32) + q64).toInt64) hq68) (zw_L_31 X.1.2.2.2.2 ⟨Nat.le_of_ble_eq_true rfl, Nat.le_of_ble_eq_true rfl⟩) 64 7 rfl rfl rfl [1] [0] [w_X7 cI cR a a_now a_ahead q66.2.1 q66.2.2 a_padPattern_heights a_padPattern_length a_ways_steps a_ways_firstThrows a_ways_lastThrows a_ways_reached a_ways_reachedCount a_history_rs a_history_oldest a_history_size a_slotZero_kept a_slotZero_filled a_slotOne_kept a_slotOne_filled, w_X7 cI cR b b_now b_ahead q68.2.1 q68.2.2 b_padPattern_heights b_padPattern_length b_ways_steps b_ways_firstThrows b_ways_lastThrows b_ways_reached b_ways_reachedCount b_history_rs b_history_oldest b_history_size b_slotZero_kept b_slotZero_filled b_slotOne_kept b_slotOne_filled] (by decide : ([1] ++ [0] : List Nat).Perm (List.range 2)) rfl rfl rfl rfl rfl hl.1 rfl (Nat.le_of_ble_eq_true rfl) dL_isThrown_124 ⟨Nat.le_of_ble_eq_true rfl, Nat.le_of_ble_eq_true rfl⟩ (fun H locs Z => ?_)
            refine lv_if_le (tgt := 134) hx hb dL_isThrown_127 (by decide) (fun c69 => ?_) (fun c69 => ?_)
            · have hf := it_t c69 hf
              refine lv_iconst (v := 0) hx hb dL_isThrown_134 (by decide) ?_
              refine lv_istore (lv' := [(5, .int (0 : Int32)), (7, .int q64), (0, .int x0), (1, .int x1), (2, .ref (a 0)), (3, .ref (b 0)), (4, .int x4), (6, .int x6)]) hx hb dL_isThrown_135 hl (by decide) rfl (fun ls hl => ?_)
              refine lv_iinc (v := x6 + (1 : Int32)) (lv' := [(6, .int (x6 + (1 : Int32))), (5, .int (0 : Int32)), (7, .int q64), (0, .int x0), (1, .int x1), (2, .ref (a 0)), (3, .ref (b 0)), (4, .int x4)]) hx hb dL_isThrown_137 hl (k := 7) rfl rfl (by decide) rfl (fun ls hl => ?_)
              refine lv_goto (tgt := 56) hx hb dL_isThrown_140 (by decide) ?_
              exact ih hf Z (lv_sub hl [3, 4, 5, 6, 7, 1, 0] rfl)
            · have hf := it_f c69 hf
              refine lv_iconst (v := 1) hx hb dL_isThrown_130 (by decide) ?_
              refine lv_goto (tgt := 135) hx hb dL_isThrown_131 (by decide) ?_
              refine lv_istore (lv' := [(5, .int (1 : Int32)), (7, .int q64), (0, .int x0), (1, .int x1), (2, .ref (a 0)), (3, .ref (b 0)), (4, .int x4), (6, .int x6)]) hx hb dL_isThrown_135 hl (by decide) rfl (fun ls hl => ?_)
              refine lv_iinc (v := x6 + (1 : Int32)) (lv' := [(6, .int (x6 + (1 : Int32))), (5, .int (1 : Int32)), (7, .int q64), (0, .int x0), (1, .int x1), (2, .ref (a 0)), (3, .ref (b 0)), (4, .int x4)]) hx hb dL_isThrown_137 hl (k := 7) rfl rfl (by decide) rfl (fun ls hl => ?_)
              refine lv_goto (tgt := 56) hx hb dL_isThrown_140 (by decide) ?_
              exact ih hf Z (lv_sub hl [3, 4, 5, 6, 7, 1, 0] rfl)
      · have hf := it_t c63 hf
        refine lv_iconst (v := 1) hx hb dL_isThrown_73 (by decide) ?_
        refine lv_iload_n hx hb dL_isThrown_74 rfl (lv_at hl 0 rfl) ?_
        refine lv_iconst (v := 4) hx hb dL_isThrown_75 (by decide) ?_
        refine lv_ishr hx hb dL_isThrown_76 ?_
        refine lv_bipush (v := 7) hx hb dL_isThrown_77 (by decide) ?_
        obtain ⟨q70, hq70, hf⟩ := ob_s hf
        refine z_roS X Z (c_L_up l D cI cR   (x0 >>> ((4 : Int32) &&& 31)) (7 : Int32) hq70) (zw_L_9 X.1.2.2.2.2 ⟨Nat.le_of_ble_eq_true rfl, Nat.le_of_ble_eq_true rfl⟩) [] [0, 1] (by decide : ([] ++ [0, 1] : List Nat).Perm (List.range 2)) rfl rfl hl.1 rfl (Nat.le_of_ble_eq_true rfl) dL_isThrown_79 ⟨Nat.le_of_ble_eq_true rfl, Nat.le_of_ble_eq_true rfl⟩ (fun H locs Z => ?_)
        refine lv_iadd hx hb dL_isThrown_82 ?_
        refine lv_goto (tgt := 97) hx hb dL_isThrown_83 (by decide) ?_
        refine lv_istore (lv' := [(7, .int ((1 : Int32) + q70)), (0, .int x0), (1, .int x1), (2, .ref (a 0)), (3, .ref (b 0)), (4, .int x4), (5, .int x5), (6, .int x6)]) hx hb dL_isThrown_97 hl (by decide) rfl (fun ls hl => ?_)
        refine lv_iload hx hb dL_isThrown_99 (lv_at hl 6 rfl) ?_
        refine lv_if_eq (tgt := 134) hx hb dL_isThrown_101 (by decide) (fun c71 => ?_) (fun c71 => ?_)
        · have hf := it_t c71 hf
          refine lv_iconst (v := 0) hx hb dL_isThrown_134 (by decide) ?_
          refine lv_istore (lv' := [(5, .int (0 : Int32)), (7, .int ((1 : Int32) + q70)), (0, .int x0), (1, .int x1), (2, .ref (a 0)), (3, .ref (b 0)), (4, .int x4), (6, .int x6)]) hx hb dL_isThrown_135 hl (by decide) rfl (fun ls hl => ?_)
          refine lv_iinc (v := x6 + (1 : Int32)) (lv' := [(6, .int (x6 + (1 : Int32))), (5, .int (0 : Int32)), (7, .int ((1 : Int32) + q70)), (0, .int x0), (1, .int x1), (2, .ref (a 0)), (3, .ref (b 0)), (4, .int x4)]) hx hb dL_isThrown_137 hl (k := 7) rfl rfl (by decide) rfl (fun ls hl => ?_)
          refine lv_goto (tgt := 56) hx hb dL_isThrown_140 (by decide) ?_
          exact ih hf Z (lv_sub hl [3, 4, 5, 6, 7, 1, 0] rfl)
        · have hf := it_f c71 hf
          refine lv_aload_n hx hb dL_isThrown_104 rfl (lv_at hl 3 rfl) ?_
          refine lv_bipush (v := 48) hx hb dL_isThrown_105 (by decide) ?_
          refine lv_iload hx hb dL_isThrown_107 (lv_at hl 0 rfl) ?_
          refine lv_iadd hx hb dL_isThrown_109 ?_
          refine lv_i2l hx hb dL_isThrown_110 rfl ?_
          obtain ⟨q72, hq72, hf⟩ := ob_s hf
          refine z_callV X Z (c_X7_put l D cI cR a a_now a_ahead a_pad_codes a_pad_length a_padPattern_heights a_padPattern_length a_ways_steps a_ways_firstThrows a_ways_lastThrows a_ways_reached a_ways_reachedCount a_history_rs a_history_oldest a_history_size a_slotZero_kept a_slotZero_filled a_slotOne_kept a_slotOne_filled (((48 : Int32) + ((1 : Int32) + q70)).toInt64) hq72) (zw_L_31 X.1.2.2.2.2 ⟨Nat.le_of_ble_eq_true rfl, Nat.le_of_ble_eq_true rfl⟩) 0 7 rfl rfl rfl [0] [1] [w_X7 cI cR a a_now a_ahead q72.2.1 q72.2.2 a_padPattern_heights a_padPattern_length a_ways_steps a_ways_firstThrows a_ways_lastThrows a_ways_reached a_ways_reachedCount a_history_rs a_history_oldest a_history_size a_slotZero_kept a_slotZero_filled a_slotOne_kept a_slotOne_filled, w_X7 cI cR b b_now b_ahead b_pad_codes b_pad_length b_padPattern_heights b_padPattern_length b_ways_steps b_ways_firstThrows b_ways_lastThrows b_ways_reached b_ways_reachedCount b_history_rs b_history_oldest b_history_size b_slotZero_kept b_slotZero_filled b_slotOne_kept b_slotOne_filled] (by decide : ([0] ++ [1] : List Nat).Perm (List.range 2)) rfl rfl rfl rfl rfl hl.1 rfl (Nat.le_of_ble_eq_true rfl) dL_isThrown_111 ⟨Nat.le_of_ble_eq_true rfl, Nat.le_of_ble_eq_true rfl⟩ (fun H locs Z => ?_)
          refine lv_if_le (tgt := 134) hx hb dL_isThrown_114 (by decide) (fun c73 => ?_) (fun c73 => ?_)
          · have hf := it_t c73 hf
            refine lv_iconst (v := 0) hx hb dL_isThrown_134 (by decide) ?_
            refine lv_istore (lv' := [(5, .int (0 : Int32)), (7, .int ((1 : Int32) + q70)), (0, .int x0), (1, .int x1), (2, .ref (a 0)), (3, .ref (b 0)), (4, .int x4), (6, .int x6)]) hx hb dL_isThrown_135 hl (by decide) rfl (fun ls hl => ?_)
            refine lv_iinc (v := x6 + (1 : Int32)) (lv' := [(6, .int (x6 + (1 : Int32))), (5, .int (0 : Int32)), (7, .int ((1 : Int32) + q70)), (0, .int x0), (1, .int x1), (2, .ref (a 0)), (3, .ref (b 0)), (4, .int x4)]) hx hb dL_isThrown_137 hl (k := 7) rfl rfl (by decide) rfl (fun ls hl => ?_)
            refine lv_goto (tgt := 56) hx hb dL_isThrown_140 (by decide) ?_
            exact ih hf Z (lv_sub hl [3, 4, 5, 6, 7, 1, 0] rfl)
          · have hf := it_f c73 hf
            refine lv_aload_n hx hb dL_isThrown_117 rfl (lv_at hl 4 rfl) ?_
            refine lv_bipush (v := 48) hx hb dL_isThrown_118 (by decide) ?_
            refine lv_iload hx hb dL_isThrown_120 (lv_at hl 0 rfl) ?_
            refine lv_iadd hx hb dL_isThrown_122 ?_
            refine lv_i2l hx hb dL_isThrown_123 rfl ?_
            obtain ⟨q74, hq74, hf⟩ := ob_s hf
            refine z_callV X Z (c_X7_put l D cI cR b b_now b_ahead b_pad_codes b_pad_length b_padPattern_heights b_padPattern_length b_ways_steps b_ways_firstThrows b_ways_lastThrows b_ways_reached b_ways_reachedCount b_history_rs b_history_oldest b_history_size b_slotZero_kept b_slotZero_filled b_slotOne_kept b_slotOne_filled (((48 : Int32) + ((1 : Int32) + q70)).toInt64) hq74) (zw_L_31 X.1.2.2.2.2 ⟨Nat.le_of_ble_eq_true rfl, Nat.le_of_ble_eq_true rfl⟩) 64 7 rfl rfl rfl [1] [0] [w_X7 cI cR a a_now a_ahead q72.2.1 q72.2.2 a_padPattern_heights a_padPattern_length a_ways_steps a_ways_firstThrows a_ways_lastThrows a_ways_reached a_ways_reachedCount a_history_rs a_history_oldest a_history_size a_slotZero_kept a_slotZero_filled a_slotOne_kept a_slotOne_filled, w_X7 cI cR b b_now b_ahead q74.2.1 q74.2.2 b_padPattern_heights b_padPattern_length b_ways_steps b_ways_firstThrows b_ways_lastThrows b_ways_reached b_ways_reachedCount b_history_rs b_history_oldest b_history_size b_slotZero_kept b_slotZero_filled b_slotOne_kept b_slotOne_filled] (by decide : ([1] ++ [0] : List Nat).Perm (List.range 2)) rfl rfl rfl rfl rfl hl.1 rfl (Nat.le_of_ble_eq_true rfl) dL_isThrown_124 ⟨Nat.le_of_ble_eq_true rfl, Nat.le_of_ble_eq_true rfl⟩ (fun H locs Z => ?_)
            refine lv_if_le (tgt := 134) hx hb dL_isThrown_127 (by decide) (fun c75 => ?_) (fun c75 => ?_)
            · have hf := it_t c75 hf
              refine lv_iconst (v := 0) hx hb dL_isThrown_134 (by decide) ?_
              refine lv_istore (lv' := [(5, .int (0 : Int32)), (7, .int ((1 : Int32) + q70)), (0, .int x0), (1, .int x1), (2, .ref (a 0)), (3, .ref (b 0)), (4, .int x4), (6, .int x6)]) hx hb dL_isThrown_135 hl (by decide) rfl (fun ls hl => ?_)
              refine lv_iinc (v := x6 + (1 : Int32)) (lv' := [(6, .int (x6 + (1 : Int32))), (5, .int (0 : Int32)), (7, .int ((1 : Int32) + q70)), (0, .int x0), (1, .int x1), (2, .ref (a 0)), (3, .ref (b 0)), (4, .int x4)]) hx hb dL_isThrown_137 hl (k := 7) rfl rfl (by decide) rfl (fun ls hl => ?_)
              refine lv_goto (tgt := 56) hx hb dL_isThrown_140 (by decide) ?_
              exact ih hf Z (lv_sub hl [3, 4, 5, 6, 7, 1, 0] rfl)
            · have hf := it_f c75 hf
              refine lv_iconst (v := 1) hx hb dL_isThrown_130 (by decide) ?_
              refine lv_goto (tgt := 135) hx hb dL_isThrown_131 (by decide) ?_
              refine lv_istore (lv' := [(5, .int (1 : Int32)), (7, .int ((1 : Int32) + q70)), (0, .int x0), (1, .int x1), (2, .ref (a 0)), (3, .ref (b 0)), (4, .int x4), (6, .int x6)]) hx hb dL_isThrown_135 hl (by decide) rfl (fun ls hl => ?_)
              refine lv_iinc (v := x6 + (1 : Int32)) (lv' := [(6, .int (x6 + (1 : Int32))), (5, .int (1 : Int32)), (7, .int ((1 : Int32) + q70)), (0, .int x0), (1, .int x1), (2, .ref (a 0)), (3, .ref (b 0)), (4, .int x4)]) hx hb dL_isThrown_137 hl (k := 7) rfl rfl (by decide) rfl (fun ls hl => ?_)
              refine lv_goto (tgt := 56) hx hb dL_isThrown_140 (by decide) ?_
              exact ih hf Z (lv_sub hl [3, 4, 5, 6, 7, 1, 0] rfl)

def f_L_isThrown (p0 : Int32) (p1 : Int32) : Option (Int32) := (f_L_up p0 (6 : Int32)).bind (fun q1 => (f_X7_put (fun _ => 0) 0 (48 : Int64)).bind (fun q2 => if q2.1 ≤ 0 then (f_L_isThrown_L56 zS0 zS0 (fun _ => 0) (fun _ => 0) (fun _ => 0) (fun _ => 0) 0 (fun _ => zS0) 0 0 (fun _ => 0) 0 p0 p1 ((1 : Int32) + q1) zF (0 : Int32) (0 : Int32) q2.2.1 q2.2.2 (fun _ => 0) 0) else ((f_X7_put q2.2.1 q2.2.2 (58 : Int64)).bind (fun q76 => if q76.1 ≤ 0 then (f_L_isThrown_L56 zS0 zS0 (fun _ => 0) (fun _ => 0) (fun _ => 0) (fun _ => 0) 0 (fun _ => zS0) 0 0 (fun _ => 0) 0 p0 p1 ((1 : Int32) + q1) zF (0 : Int32) (0 : Int32) q76.2.1 q76.2.2 (fun _ => 0) 0) else (f_L_isThrown_L56 zS0 zS0 (fun _ => 0) (fun _ => 0) (fun _ => 0) (fun _ => 0) 0 (fun _ => zS0) 0 0 (fun _ => 0) 0 p0 p1 ((1 : Int32) + q1) zF (1 : Int32) (0 : Int32) q76.2.1 q76.2.2 (fun _ => 0) 0)))))
set_option maxHeartbeats 4000000 in
set_option maxRecDepth 100000 in
theorem c_L_isThrown (l : Launch) (D : va_G) (cI cR : ClassId) (p0 : Int32) (p1 : Int32) {R : Int32} (hf : f_L_isThrown p0 p1 = some R) : zMT l D cI cR yL_isThrown cL_isThrown 12 (some .boolean) 7 158 192 4356 [.int p0, .int p1] [] (some (.int R)) [] := by
  refine z_ofT (own := RL) rfl (by decide) (Nat.le_of_ble_eq_true rfl) ?_
  intro p e s m args below meth c A ls X hO hr hlocks Z hl
  have hx := X.1.1
  have hb := X.1.2.1
  have Z : zW D A s [] s.heap [] := Z
  have hl : lv_has ls 12 [(0, .int p0), (1, .int p1)] := hl
  refine z_new (C := RX7) (T := TX7) (N := 8) (ci := 7) (fs := [.null, .null, .null, .null, .null, .null, .null, .null]) tyX7 X Z in_X7 tyX7_ok rfl ml_L_16 mn_X7 mi_X7 (fun j hj => by rcases (show j = 0 ∨ j = 1 ∨ j = 2 ∨ j = 3 ∨ j = 4 ∨ j = 5 ∨ j = 6 ∨ j = 7 by omega) with rfl | rfl | rfl | rfl | rfl | rfl | rfl | rfl <;> rfl) (Nat.le_of_ble_eq_true rfl) (Nat.le_of_ble_eq_true rfl) dL_isThrown_0 (fun q H Z => ?_)
  have Z : zW D A s [[(q, .inr (7, [.null, .null, .null, .null, .null, .null, .null, .null]))]] _ _ := Z
  refine lv_dup hx hb dL_isThrown_3 rfl ?_
  refine z_callI X hO Z (c_X7_init l D cI cR q) (zw_L_66 X.1.2.2.2.2 ⟨Nat.le_of_ble_eq_true rfl, Nat.le_of_ble_eq_true rfl⟩) [0] [] (fun a => [w_X7 cI cR a zS0 zS0 (fun _ => 0) 0 (fun _ => 0) 0 (fun _ => 0) (fun _ => 0) (fun _ => 0) (fun _ => 0) 0 (fun _ => zS0) 0 0 zS0 0 zS0 0]) (by decide : ([0] ++ [] : List Nat).Perm (List.range 1)) rfl (fun _ => rfl) (fun _ => rfl) (fun _ => rfl) rfl hl.1 rfl (Nat.le_of_ble_eq_true rfl) dL_isThrown_4 ⟨Nat.le_of_ble_eq_true rfl, Nat.le_of_ble_eq_true rfl⟩ (fun a ha H locs Z2 => ?_)
  subst ha
  have Z : zW D A s [w_X7 cI cR a zS0 zS0 (fun _ => 0) 0 (fun _ => 0) 0 (fun _ => 0) (fun _ => 0) (fun _ => 0) (fun _ => 0) 0 (fun _ => zS0) 0 0 zS0 0 zS0 0] _ _ := Z2
  refine lv_astore_n (lv' := [(2, .ref (a 0)), (0, .int p0), (1, .int p1)]) hx hb dL_isThrown_7 rfl hl (by decide) rfl (fun ls hl => ?_)
  refine z_new (C := RX7) (T := TX7) (N := 8) (ci := 7) (fs := [.null, .null, .null, .null, .null, .null, .null, .null]) tyX7 X Z in_X7 tyX7_ok rfl ml_L_16 mn_X7 mi_X7 (fun j hj => by rcases (show j = 0 ∨ j = 1 ∨ j = 2 ∨ j = 3 ∨ j = 4 ∨ j = 5 ∨ j = 6 ∨ j = 7 by omega) with rfl | rfl | rfl | rfl | rfl | rfl | rfl | rfl <;> rfl) (Nat.le_of_ble_eq_true rfl) (Nat.le_of_ble_eq_true rfl) dL_isThrown_8 (fun q H Z => ?_)
  have Z : zW D A s [w_X7 cI cR a zS0 zS0 (fun _ => 0) 0 (fun _ => 0) 0 (fun _ => 0) (fun _ => 0) (fun _ => 0) (fun _ => 0) 0 (fun _ => zS0) 0 0 zS0 0 zS0 0, [(q, .inr (7, [.null, .null, .null, .null, .null, .null, .null, .null]))]] _ _ := Z
  refine lv_dup hx hb dL_isThrown_11 rfl ?_
  refine z_callI X hO Z (c_X7_init l D cI cR q) (zw_L_66 X.1.2.2.2.2 ⟨Nat.le_of_ble_eq_true rfl, Nat.le_of_ble_eq_true rfl⟩) [1] [0] (fun b => [w_X7 cI cR a zS0 zS0 (fun _ => 0) 0 (fun _ => 0) 0 (fun _ => 0) (fun _ => 0) (fun _ => 0) (fun _ => 0) 0 (fun _ => zS0) 0 0 zS0 0 zS0 0, w_X7 cI cR b zS0 zS0 (fun _ => 0) 0 (fun _ => 0) 0 (fun _ => 0) (fun _ => 0) (fun _ => 0) (fun _ => 0) 0 (fun _ => zS0) 0 0 zS0 0 zS0 0]) (by decide : ([1] ++ [0] : List Nat).Perm (List.range 2)) rfl (fun _ => rfl) (fun _ => rfl) (fun _ => rfl) rfl hl.1 rfl (Nat.le_of_ble_eq_true rfl) dL_isThrown_12 ⟨Nat.le_of_ble_eq_true rfl, Nat.le_of_ble_eq_true rfl⟩ (fun b hb H locs Z2 => ?_)
  subst hb
  have Z : zW D A s [w_X7 cI cR a zS0 zS0 (fun _ => 0) 0 (fun _ => 0) 0 (fun _ => 0) (fun _ => 0) (fun _ => 0) (fun _ => 0) 0 (fun _ => zS0) 0 0 zS0 0 zS0 0, w_X7 cI cR b zS0 zS0 (fun _ => 0) 0 (fun _ => 0) 0 (fun _ => 0) (fun _ => 0) (fun _ => 0) (fun _ => 0) 0 (fun _ => zS0) 0 0 zS0 0 zS0 0] _ _ := Z2
  refine lv_astore_n (lv' := [(3, .ref (b 0)), (2, .ref (a 0)), (0, .int p0), (1, .int p1)]) hx hb dL_isThrown_15 rfl hl (by decide) rfl (fun ls hl => ?_)
  refine lv_iconst (v := 1) hx hb dL_isThrown_16 (by decide) ?_
  refine lv_iload_n hx hb dL_isThrown_17 rfl (lv_at hl 2 rfl) ?_
  refine lv_bipush (v := 6) hx hb dL_isThrown_18 (by decide) ?_
  obtain ⟨q1, hq1, hf⟩ := ob_s hf
  refine z_roS X Z (c_L_up l D cI cR   p0 (6 : Int32) hq1) (zw_L_9 X.1.2.2.2.2 ⟨Nat.le_of_ble_eq_true rfl, Nat.le_of_ble_eq_true rfl⟩) [] [0, 1] (by decide : ([] ++ [0, 1] : List Nat).Perm (List.range 2)) rfl rfl hl.1 rfl (Nat.le_of_ble_eq_true rfl) dL_isThrown_20 ⟨Nat.le_of_ble_eq_true rfl, Nat.le_of_ble_eq_true rfl⟩ (fun H locs Z => ?_)
  refine lv_iadd hx hb dL_isThrown_23 ?_
  refine lv_istore (lv' := [(4, .int ((1 : Int32) + q1)), (3, .ref (b 0)), (2, .ref (a 0)), (0, .int p0), (1, .int p1)]) hx hb dL_isThrown_24 hl (by decide) rfl (fun ls hl => ?_)
  refine lv_aload_n hx hb dL_isThrown_26 rfl (lv_at hl 2 rfl) ?_
  refine lv_ldc2 hx hb X.1.2.2.2.1 (X.1.2.2.2.2 _ mk_L_67) dL_isThrown_27 ?_
  obtain ⟨q2, hq2, hf⟩ := ob_s hf
  refine z_callV X Z (c_X7_put l D cI cR a zS0 zS0 (fun _ => 0) 0 (fun _ => 0) 0 (fun _ => 0) (fun _ => 0) (fun _ => 0) (fun _ => 0) 0 (fun _ => zS0) 0 0 zS0 0 zS0 0 (48 : Int64) hq2) (zw_L_31 X.1.2.2.2.2 ⟨Nat.le_of_ble_eq_true rfl, Nat.le_of_ble_eq_true rfl⟩) 0 7 rfl rfl rfl [0] [1] [w_X7 cI cR a zS0 zS0 q2.2.1 q2.2.2 (fun _ => 0) 0 (fun _ => 0) (fun _ => 0) (fun _ => 0) (fun _ => 0) 0 (fun _ => zS0) 0 0 zS0 0 zS0 0, w_X7 cI cR b zS0 zS0 (fun _ => 0) 0 (fun _ => 0) 0 (fun _ => 0) (fun _ => 0) (fun _ => 0) (fun _ => 0) 0 (fun _ => zS0) 0 0 zS0 0 zS0 0] (by decide : ([0] ++ [1] : List Nat).Perm (List.range 2)) rfl rfl rfl rfl rfl hl.1 rfl (Nat.le_of_ble_eq_true rfl) dL_isThrown_30 ⟨Nat.le_of_ble_eq_true rfl, Nat.le_of_ble_eq_true rfl⟩ (fun H locs Z => ?_)
  refine lv_if_le (tgt := 50) hx hb dL_isThrown_33 (by decide) (fun c3 => ?_) (fun c3 => ?_)
  · have hf := it_t c3 hf
    refine lv_iconst (v := 0) hx hb dL_isThrown_50 (by decide) ?_
    refine lv_istore (lv' := [(5, .int (0 : Int32)), (4, .int ((1 : Int32) + q1)), (3, .ref (b 0)), (2, .ref (a 0)), (0, .int p0), (1, .int p1)]) hx hb dL_isThrown_51 hl (by decide) rfl (fun ls hl => ?_)
    refine lv_iconst (v := 0) hx hb dL_isThrown_53 (by decide) ?_
    refine lv_istore (lv' := [(6, .int (0 : Int32)), (5, .int (0 : Int32)), (4, .int ((1 : Int32) + q1)), (3, .ref (b 0)), (2, .ref (a 0)), (0, .int p0), (1, .int p1)]) hx hb dL_isThrown_54 hl (by decide) rfl (fun ls hl => ?_)
    refine W.widen (k := 128) (n := 2904) (Nat.le_of_ble_eq_true rfl) (Nat.le_of_ble_eq_true rfl) ?_
    exact w_L_isThrown_L56 X hO hr hlocks _ hf Z (lv_sub hl [5, 6, 4, 3, 2, 1, 0] rfl)
  · have hf := it_f c3 hf
    refine lv_aload_n hx hb dL_isThrown_36 rfl (lv_at hl 2 rfl) ?_
    refine lv_ldc2 hx hb X.1.2.2.2.1 (X.1.2.2.2.2 _ mk_L_35) dL_isThrown_37 ?_
    obtain ⟨q76, hq76, hf⟩ := ob_s hf
    refine z_callV X Z (c_X7_put l D cI cR a zS0 zS0 q2.2.1 q2.2.2 (fun _ => 0) 0 (fun _ => 0) (fun _ => 0) (fun _ => 0) (fun _ => 0) 0 (fun _ => zS0) 0 0 zS0 0 zS0 0 (58 : Int64) hq76) (zw_L_31 X.1.2.2.2.2 ⟨Nat.le_of_ble_eq_true rfl, Nat.le_of_ble_eq_true rfl⟩) 0 7 rfl rfl rfl [0] [1] [w_X7 cI cR a zS0 zS0 q76.2.1 q76.2.2 (fun _ => 0) 0 (fun _ => 0) (fun _ => 0) (fun _ => 0) (fun _ => 0) 0 (fun _ => zS0) 0 0 zS0 0 zS0 0, w_X7 cI cR b zS0 zS0 (fun _ => 0) 0 (fun _ => 0) 0 (fun _ => 0) (fun _ => 0) (fun _ => 0) (fun _ => 0) 0 (fun _ => zS0) 0 0 zS0 0 zS0 0] (by decide : ([0] ++ [1] : List Nat).Perm (List.range 2)) rfl rfl rfl rfl rfl hl.1 rfl (Nat.le_of_ble_eq_true rfl) dL_isThrown_40 ⟨Nat.le_of_ble_eq_true rfl, Nat.le_of_ble_eq_true rfl⟩ (fun H locs Z => ?_)
    refine lv_if_le (tgt := 50) hx hb dL_isThrown_43 (by decide) (fun c77 => ?_) (fun c77 => ?_)
    · have hf := it_t c77 hf
      refine lv_iconst (v := 0) hx hb dL_isThrown_50 (by decide) ?_
      refine lv_istore (lv' := [(5, .int (0 : Int32)), (4, .int ((1 : Int32) + q1)), (3, .ref (b 0)), (2, .ref (a 0)), (0, .int p0), (1, .int p1)]) hx hb dL_isThrown_51 hl (by decide) rfl (fun ls hl => ?_)
      refine lv_iconst (v := 0) hx hb dL_isThrown_53 (by decide) ?_
      refine lv_istore (lv' := [(6, .int (0 : Int32)), (5, .int (0 : Int32)), (4, .int ((1 : Int32) + q1)), (3, .ref (b 0)), (2, .ref (a 0)), (0, .int p0), (1, .int p1)]) hx hb dL_isThrown_54 hl (by decide) rfl (fun ls hl => ?_)
      refine W.widen (k := 128) (n := 2904) (Nat.le_of_ble_eq_true rfl) (Nat.le_of_ble_eq_true rfl) ?_
      exact w_L_isThrown_L56 X hO hr hlocks _ hf Z (lv_sub hl [5, 6, 4, 3, 2, 1, 0] rfl)
    · have hf := it_f c77 hf
      refine lv_iconst (v := 1) hx hb dL_isThrown_46 (by decide) ?_
      refine lv_goto (tgt := 51) hx hb dL_isThrown_47 (by decide) ?_
      refine lv_istore (lv' := [(5, .int (1 : Int32)), (4, .int ((1 : Int32) + q1)), (3, .ref (b 0)), (2, .ref (a 0)), (0, .int p0), (1, .int p1)]) hx hb dL_isThrown_51 hl (by decide) rfl (fun ls hl => ?_)
      refine lv_iconst (v := 0) hx hb dL_isThrown_53 (by decide) ?_
      refine lv_istore (lv' := [(6, .int (0 : Int32)), (5, .int (1 : Int32)), (4, .int ((1 : Int32) + q1)), (3, .ref (b 0)), (2, .ref (a 0)), (0, .int p0), (1, .int p1)]) hx hb dL_isThrown_54 hl (by decide) rfl (fun ls hl => ?_)
      refine W.widen (k := 128) (n := 2904) (Nat.le_of_ble_eq_true rfl) (Nat.le_of_ble_eq_true rfl) ?_
      exact w_L_isThrown_L56 X hO hr hlocks _ hf Z (lv_sub hl [5, 6, 4, 3, 2, 1, 0] rfl)
