def f_X7_soundEndings_L21 (x0 : Int32) (x1 : Int32) (x2 : Int32) (x3 : Int32) (g : Int32 → Int32 → Int32 → Int32 → Option Int32) : Nat → Int32 → Int32 → Option (Int32)
  | 0, _, _ => none
  | n + 1, x4, x5 => if (8 : Int32) ≤ x5 then (some x4) else (if x3 < x5 then (some x4) else ((f_X7_leftOver (x1 + x5) x0).bind (fun q4 => (f_X7_has x2 q4).bind (fun q5 => if q5 = 0 then ((g x0 (x1 + (1 : Int32)) (x2 ||| ((1 : Int32) <<< (q4 &&& 31))) (x3 - x5)).bind (fun q7 => f_X7_soundEndings_L21 x0 x1 x2 x3 g n (x4 + q7) (x5 + (1 : Int32)) )) else (f_X7_soundEndings_L21 x0 x1 x2 x3 g n x4 (x5 + (1 : Int32)) )))))
set_option maxHeartbeats 4000000 in
set_option maxRecDepth 100000 in
theorem w_X7_soundEndings_L21 {p : Program} {l : Launch} {e : Env} {s : State} {m : MethodId} {args : Array Value} {below : List Frame} {meth : Method} {c : Code} {D : va_G} {cI cR : ClassId} {A : Nat → Prop} {x0 : Int32} {x1 : Int32} {x2 : Int32} {x3 : Int32} {R : Int32} {g : Int32 → Int32 → Int32 → Int32 → Option Int32} {frg log : Nat} (hg : ∀ (x0 x1 x2 x3 : Int32) {r : Int32}, g x0 x1 x2 x3 = some r → zM l D cI cR yX7_soundEndings cX7_soundEndings 7 (some .int) frg log [.int x0, .int x1, .int x2, .int x3] [] (some (.int r)) []) (X : zX p s m c cX7_soundEndings 7 args RX7 D cI cR A) (hr : meth.sig.returnType = (some .int)) (hlocks : meth.locks = false) : ∀ (n : Nat)  {x4 : Int32} {x5 : Int32} {H : Heap} {locs : List Loc} {ls : Array Slot}, f_X7_soundEndings_L21 x0 x1 x2 x3 g n x4 x5 = some R → zW D A s [] H locs → lv_has ls 7 [(0, .int x0), (1, .int x1), (2, .int x2), (3, .int x3), (4, .int x4), (5, .int x5)] → W p l e ({ frames := frg + 3, cells := 0, slots := 0, locals := log + 100 } : Room) s m args below meth c H locs 0 0 (zE D A below s args (some (.int R)) []) (F0 m 21 ls []) := by
  have hx := X.1.1
  have hb := X.1.2.1
  intro n
  induction n with
  | zero =>
    intro x4 x5 H locs ls hf
    have hf : none = some R := hf
    cases hf
  | succ n ih =>
    intro x4 x5 H locs ls hf Z hl
    refine lv_iload hx hb dX7_soundEndings_21 (lv_at hl 5 rfl) ?_
    refine lv_bipush (v := 8) hx hb dX7_soundEndings_23 (by decide) ?_
    refine lv_icmp_ge (tgt := 81) hx hb dX7_soundEndings_25 (by decide) (fun c2 => ?_) (fun c2 => ?_)
    · have hf := it_t c2 hf
      refine lv_iload hx hb dX7_soundEndings_81 (lv_at hl 4 rfl) ?_
      have hR := so_s hf
      subst hR
      refine z_iret X hr hlocks ?_ dX7_soundEndings_83
      exact Z.eq rfl
    · have hf := it_f c2 hf
      refine lv_iload hx hb dX7_soundEndings_28 (lv_at hl 5 rfl) ?_
      refine lv_iload_n hx hb dX7_soundEndings_30 rfl (lv_at hl 3 rfl) ?_
      refine lv_icmp_gt (tgt := 81) hx hb dX7_soundEndings_31 (by decide) (fun c3 => ?_) (fun c3 => ?_)
      · have hf := it_t c3 hf
        refine lv_iload hx hb dX7_soundEndings_81 (lv_at hl 4 rfl) ?_
        have hR := so_s hf
        subst hR
        refine z_iret X hr hlocks ?_ dX7_soundEndings_83
        exact Z.eq rfl
      · have hf := it_f c3 hf
        refine lv_iload_n hx hb dX7_soundEndings_34 rfl (lv_at hl 1 rfl) ?_
        refine lv_iload hx hb dX7_soundEndings_35 (lv_at hl 5 rfl) ?_
        refine lv_iadd hx hb dX7_soundEndings_37 ?_
        refine lv_iload_n hx hb dX7_soundEndings_38 rfl (lv_at hl 0 rfl) ?_
        obtain ⟨q4, hq4, hf⟩ := ob_s hf
        refine z_roS X Z (c_X7_leftOver l D cI cR   (x1 + x5) x0 hq4) (zw_X7_244 X.1.2.2.2.2 ⟨by dsimp only; omega, by dsimp only; omega⟩) [] [] (by decide : ([] ++ [] : List Nat).Perm (List.range 0)) rfl rfl hl.1 rfl (Nat.le_of_ble_eq_true rfl) dX7_soundEndings_39 ⟨by dsimp only; omega, by dsimp only; omega⟩ (fun H locs Z => ?_)
        refine lv_istore (lv' := [(6, .int q4), (0, .int x0), (1, .int x1), (2, .int x2), (3, .int x3), (4, .int x4), (5, .int x5)]) hx hb dX7_soundEndings_42 hl (by decide) rfl (fun ls hl => ?_)
        refine lv_iload_n hx hb dX7_soundEndings_44 rfl (lv_at hl 3 rfl) ?_
        refine lv_iload hx hb dX7_soundEndings_45 (lv_at hl 0 rfl) ?_
        obtain ⟨q5, hq5, hf⟩ := ob_s hf
        refine z_roS X Z (c_X7_has l D cI cR   x2 q4 hq5) (zw_X7_247 X.1.2.2.2.2 ⟨by dsimp only; omega, by dsimp only; omega⟩) [] [] (by decide : ([] ++ [] : List Nat).Perm (List.range 0)) rfl rfl hl.1 rfl (Nat.le_of_ble_eq_true rfl) dX7_soundEndings_47 ⟨by dsimp only; omega, by dsimp only; omega⟩ (fun H locs Z => ?_)
        refine lv_if_ne (tgt := 75) hx hb dX7_soundEndings_50 (by decide) (fun c6 => ?_) (fun c6 => ?_)
        · have hf := it_f c6 hf
          refine lv_iinc (v := x5 + (1 : Int32)) (lv' := [(5, .int (x5 + (1 : Int32))), (6, .int q4), (0, .int x0), (1, .int x1), (2, .int x2), (3, .int x3), (4, .int x4)]) hx hb dX7_soundEndings_75 hl (k := 6) rfl rfl (by decide) rfl (fun ls hl => ?_)
          refine lv_goto (tgt := 21) hx hb dX7_soundEndings_78 (by decide) ?_
          exact ih hf Z (lv_sub hl [2, 3, 4, 5, 6, 0] rfl)
        · have hf := it_t c6 hf
          refine lv_iload hx hb dX7_soundEndings_53 (lv_at hl 5 rfl) ?_
          refine lv_iload_n hx hb dX7_soundEndings_55 rfl (lv_at hl 1 rfl) ?_
          refine lv_iload_n hx hb dX7_soundEndings_56 rfl (lv_at hl 2 rfl) ?_
          refine lv_iconst (v := 1) hx hb dX7_soundEndings_57 (by decide) ?_
          refine lv_iadd hx hb dX7_soundEndings_58 ?_
          refine lv_iload_n hx hb dX7_soundEndings_59 rfl (lv_at hl 3 rfl) ?_
          refine lv_iconst (v := 1) hx hb dX7_soundEndings_60 (by decide) ?_
          refine lv_iload hx hb dX7_soundEndings_61 (lv_at hl 0 rfl) ?_
          refine lv_ishl hx hb dX7_soundEndings_63 ?_
          refine lv_ior hx hb dX7_soundEndings_64 ?_
          refine lv_iload_n hx hb dX7_soundEndings_65 rfl (lv_at hl 4 rfl) ?_
          refine lv_iload hx hb dX7_soundEndings_66 (lv_at hl 6 rfl) ?_
          refine lv_isub hx hb dX7_soundEndings_68 ?_
          obtain ⟨q7, hq7, hf⟩ := ob_s hf
          refine z_roS X Z (hg _ _ _ _ hq7) (zw_X7_205 X.1.2.2.2.2 ⟨by dsimp only; omega, by dsimp only; omega⟩) [] [] (by decide : ([] ++ [] : List Nat).Perm (List.range 0)) rfl rfl hl.1 rfl (Nat.le_of_ble_eq_true rfl) dX7_soundEndings_69 ⟨Nat.zero_le _, Nat.zero_le _⟩ (fun H locs Z => ?_)
          refine lv_iadd hx hb dX7_soundEndings_72 ?_
          refine lv_istore (lv' := [(4, .int (x4 + q7)), (6, .int q4), (0, .int x0), (1, .int x1), (2, .int x2), (3, .int x3), (5, .int x5)]) hx hb dX7_soundEndings_73 hl (by decide) rfl (fun ls hl => ?_)
          refine lv_iinc (v := x5 + (1 : Int32)) (lv' := [(5, .int (x5 + (1 : Int32))), (4, .int (x4 + q7)), (6, .int q4), (0, .int x0), (1, .int x1), (2, .int x2), (3, .int x3)]) hx hb dX7_soundEndings_75 hl (k := 6) rfl rfl (by decide) rfl (fun ls hl => ?_)
          refine lv_goto (tgt := 21) hx hb dX7_soundEndings_78 (by decide) ?_
          exact ih hf Z (lv_sub hl [3, 4, 5, 6, 1, 0] rfl)

def f_X7_soundEndings : Nat → Int32 → Int32 → Int32 → Int32 → Option Int32
  | 0, _, _, _, _ => none
  | d + 1, p0, p1, p2, p3 => if p1 < p0 then (f_X7_soundEndings_L21 p0 p1 p2 p3 (f_X7_soundEndings d) zF (0 : Int32) (0 : Int32)) else (if p3 = 0 then (some (1 : Int32)) else (some (0 : Int32)))
set_option maxHeartbeats 4000000 in
set_option maxRecDepth 100000 in
theorem c_X7_soundEndings (l : Launch) (D : va_G) (cI cR : ClassId) : ∀ (d : Nat) (p0 : Int32) (p1 : Int32) (p2 : Int32) (p3 : Int32) {R : Int32} (hf : f_X7_soundEndings d p0 p1 p2 p3 = some R), zM l D cI cR yX7_soundEndings cX7_soundEndings 7 (some .int) (3 * d) (100 * d) [.int p0, .int p1, .int p2, .int p3] [] (some (.int R)) [] := by
  intro d
  induction d with
  | zero =>
    intro p0 p1 p2 p3 R hf
    have hf : none = some R := hf
    cases hf
  | succ d ihd =>
    intro p0 p1 p2 p3 R hf
    show zM l D cI cR yX7_soundEndings cX7_soundEndings 7 (some .int) (3 * d + 3) (100 * d + 100) [.int p0, .int p1, .int p2, .int p3] [] (some (.int R)) []
    refine z_of (own := RX7) rfl (by decide) (Nat.le_of_ble_eq_true rfl) ?_
    intro p e s m args below meth c A ls X hr hlocks Z hl
    have hx := X.1.1
    have hb := X.1.2.1
    have Z : zW D A s [] s.heap [] := Z
    have hl : lv_has ls 7 [(0, .int p0), (1, .int p1), (2, .int p2), (3, .int p3)] := hl
    refine lv_iload_n hx hb dX7_soundEndings_0 rfl (lv_at hl 1 rfl) ?_
    refine lv_iload_n hx hb dX7_soundEndings_1 rfl (lv_at hl 0 rfl) ?_
    refine lv_icmp_lt (tgt := 15) hx hb dX7_soundEndings_2 (by decide) (fun c1 => ?_) (fun c1 => ?_)
    · have hf := it_t c1 hf
      refine lv_iconst (v := 0) hx hb dX7_soundEndings_15 (by decide) ?_
      refine lv_istore (lv' := [(4, .int (0 : Int32)), (0, .int p0), (1, .int p1), (2, .int p2), (3, .int p3)]) hx hb dX7_soundEndings_16 hl (by decide) rfl (fun ls hl => ?_)
      refine lv_iconst (v := 0) hx hb dX7_soundEndings_18 (by decide) ?_
      refine lv_istore (lv' := [(5, .int (0 : Int32)), (4, .int (0 : Int32)), (0, .int p0), (1, .int p1), (2, .int p2), (3, .int p3)]) hx hb dX7_soundEndings_19 hl (by decide) rfl (fun ls hl => ?_)
      exact w_X7_soundEndings_L21 (hg := fun _ _ _ _ _ h => ihd _ _ _ _ h) X hr hlocks _ hf Z (lv_sub hl [2, 3, 4, 5, 1, 0] rfl)
    · have hf := it_f c1 hf
      refine lv_iload_n hx hb dX7_soundEndings_5 rfl (lv_at hl 3 rfl) ?_
      refine lv_if_ne (tgt := 13) hx hb dX7_soundEndings_6 (by decide) (fun c8 => ?_) (fun c8 => ?_)
      · have hf := it_f c8 hf
        refine lv_iconst (v := 0) hx hb dX7_soundEndings_13 (by decide) ?_
        have hR := so_s hf
        subst hR
        refine z_iret X hr hlocks ?_ dX7_soundEndings_14
        exact Z.eq rfl
      · have hf := it_t c8 hf
        refine lv_iconst (v := 1) hx hb dX7_soundEndings_9 (by decide) ?_
        refine lv_goto (tgt := 14) hx hb dX7_soundEndings_10 (by decide) ?_
        have hR := so_s hf
        subst hR
        refine z_iret X hr hlocks ?_ dX7_soundEndings_14
        exact Z.eq rfl
def f_X7_howMany (p1 : Int32) (p2 : Int32) : Option (Int32) := (f_X7_isWithin p1 (1 : Int32) (5 : Int32)).bind (fun q1 => if q1 = 0 then (some (-2 : Int32)) else ((f_X7_isWithin p2 (0 : Int32) (7 : Int32)).bind (fun q3 => if q3 = 0 then (some (-2 : Int32)) else ((f_X7_soundEndings 8 p1 (0 : Int32) (0 : Int32) (p1 * p2)).bind (fun q5 => some q5)))))
set_option maxHeartbeats 4000000 in
set_option maxRecDepth 100000 in
theorem c_X7_howMany (l : Launch) (D : va_G) (cI cR : ClassId) (a : (Nat → Nat)) (a_now : ST) (a_ahead : ST) (a_pad_codes : (Nat → Int32)) (a_pad_length : Int32) (a_padPattern_heights : (Nat → Int32)) (a_padPattern_length : Int32) (a_ways_steps : (Nat → Int32)) (a_ways_firstThrows : (Nat → Int32)) (a_ways_lastThrows : (Nat → Int32)) (a_ways_reached : (Nat → Int32)) (a_ways_reachedCount : Int32) (a_history_rs : (Nat → ST)) (a_history_oldest : Int32) (a_history_size : Int32) (a_slotZero_kept : ST) (a_slotZero_filled : Int32) (a_slotOne_kept : ST) (a_slotOne_filled : Int32) (p1 : Int32) (p2 : Int32) {R : Int32} (hf : f_X7_howMany p1 p2 = some R) : zM l D cI cR yX7_howMany cX7_howMany 3 (some .int) 25 826 [.ref (a 0), .int p1, .int p2] [w_X7 cI cR a a_now a_ahead a_pad_codes a_pad_length a_padPattern_heights a_padPattern_length a_ways_steps a_ways_firstThrows a_ways_lastThrows a_ways_reached a_ways_reachedCount a_history_rs a_history_oldest a_history_size a_slotZero_kept a_slotZero_filled a_slotOne_kept a_slotOne_filled] (some (.int R)) [w_X7 cI cR a a_now a_ahead a_pad_codes a_pad_length a_padPattern_heights a_padPattern_length a_ways_steps a_ways_firstThrows a_ways_lastThrows a_ways_reached a_ways_reachedCount a_history_rs a_history_oldest a_history_size a_slotZero_kept a_slotZero_filled a_slotOne_kept a_slotOne_filled] := by
  refine z_of (own := RX7) rfl (by decide) (Nat.le_of_ble_eq_true rfl) ?_
  intro p e s m args below meth c A ls X hr hlocks Z hl
  have hx := X.1.1
  have hb := X.1.2.1
  have Z : zW D A s [w_X7 cI cR a a_now a_ahead a_pad_codes a_pad_length a_padPattern_heights a_padPattern_length a_ways_steps a_ways_firstThrows a_ways_lastThrows a_ways_reached a_ways_reachedCount a_history_rs a_history_oldest a_history_size a_slotZero_kept a_slotZero_filled a_slotOne_kept a_slotOne_filled] s.heap [] := Z
  have hl : lv_has ls 3 [(0, .ref (a 0)), (1, .int p1), (2, .int p2)] := hl
  refine lv_iload_n hx hb dX7_howMany_0 rfl (lv_at hl 1 rfl) ?_
  refine lv_iconst (v := 1) hx hb dX7_howMany_1 (by decide) ?_
  refine lv_iconst (v := 5) hx hb dX7_howMany_2 (by decide) ?_
  obtain ⟨q1, hq1, hf⟩ := ob_s hf
  refine z_roS X Z (c_X7_isWithin l D cI cR   p1 (1 : Int32) (5 : Int32) hq1) (zw_X7_57 X.1.2.2.2.2 ⟨Nat.le_of_ble_eq_true rfl, Nat.le_of_ble_eq_true rfl⟩) [] [0] (by decide : ([] ++ [0] : List Nat).Perm (List.range 1)) rfl rfl hl.1 rfl (Nat.le_of_ble_eq_true rfl) dX7_howMany_3 ⟨Nat.le_of_ble_eq_true rfl, Nat.le_of_ble_eq_true rfl⟩ (fun H locs Z => ?_)
  refine lv_if_eq (tgt := 19) hx hb dX7_howMany_6 (by decide) (fun c2 => ?_) (fun c2 => ?_)
  · have hf := it_t c2 hf
    refine lv_bipush (v := -2) hx hb dX7_howMany_19 (by decide) ?_
    have hR := so_s hf
    subst hR
    refine z_iret X hr hlocks ?_ dX7_howMany_21
    exact Z.eq rfl
  · have hf := it_f c2 hf
    refine lv_iload_n hx hb dX7_howMany_9 rfl (lv_at hl 2 rfl) ?_
    refine lv_iconst (v := 0) hx hb dX7_howMany_10 (by decide) ?_
    refine lv_bipush (v := 7) hx hb dX7_howMany_11 (by decide) ?_
    obtain ⟨q3, hq3, hf⟩ := ob_s hf
    refine z_roS X Z (c_X7_isWithin l D cI cR   p2 (0 : Int32) (7 : Int32) hq3) (zw_X7_57 X.1.2.2.2.2 ⟨Nat.le_of_ble_eq_true rfl, Nat.le_of_ble_eq_true rfl⟩) [] [0] (by decide : ([] ++ [0] : List Nat).Perm (List.range 1)) rfl rfl hl.1 rfl (Nat.le_of_ble_eq_true rfl) dX7_howMany_13 ⟨Nat.le_of_ble_eq_true rfl, Nat.le_of_ble_eq_true rfl⟩ (fun H locs Z => ?_)
    refine lv_if_ne (tgt := 22) hx hb dX7_howMany_16 (by decide) (fun c4 => ?_) (fun c4 => ?_)
    · have hf := it_f c4 hf
      refine lv_iload_n hx hb dX7_howMany_22 rfl (lv_at hl 1 rfl) ?_
      refine lv_iconst (v := 0) hx hb dX7_howMany_23 (by decide) ?_
      refine lv_iconst (v := 0) hx hb dX7_howMany_24 (by decide) ?_
      refine lv_iload_n hx hb dX7_howMany_25 rfl (lv_at hl 1 rfl) ?_
      refine lv_iload_n hx hb dX7_howMany_26 rfl (lv_at hl 2 rfl) ?_
      refine lv_imul hx hb dX7_howMany_27 ?_
      obtain ⟨q5, hq5, hf⟩ := ob_s hf
      refine z_roS X Z (c_X7_soundEndings l D cI cR 8   p1 (0 : Int32) (0 : Int32) (p1 * p2) hq5) (zw_X7_205 X.1.2.2.2.2 ⟨Nat.le_of_ble_eq_true rfl, Nat.le_of_ble_eq_true rfl⟩) [] [0] (by decide : ([] ++ [0] : List Nat).Perm (List.range 1)) rfl rfl hl.1 rfl (Nat.le_of_ble_eq_true rfl) dX7_howMany_28 ⟨Nat.le_of_ble_eq_true rfl, Nat.le_of_ble_eq_true rfl⟩ (fun H locs Z => ?_)
      have hR := so_s hf
      subst hR
      refine z_iret X hr hlocks ?_ dX7_howMany_31
      exact Z.eq rfl
    · have hf := it_t c4 hf
      refine lv_bipush (v := -2) hx hb dX7_howMany_19 (by decide) ?_
      have hR := so_s hf
      subst hR
      refine z_iret X hr hlocks ?_ dX7_howMany_21
      exact Z.eq rfl
def f_X7_fault (a_pad_codes : (Nat → Int32)) (a_pad_length : Int32) : Option (Int32) := (f_X2_programFault a_pad_codes a_pad_length).bind (fun q1 => some q1)
set_option maxHeartbeats 4000000 in
set_option maxRecDepth 100000 in
theorem c_X7_fault (l : Launch) (D : va_G) (cI cR : ClassId) (a : (Nat → Nat)) (a_now : ST) (a_ahead : ST) (a_pad_codes : (Nat → Int32)) (a_pad_length : Int32) (a_padPattern_heights : (Nat → Int32)) (a_padPattern_length : Int32) (a_ways_steps : (Nat → Int32)) (a_ways_firstThrows : (Nat → Int32)) (a_ways_lastThrows : (Nat → Int32)) (a_ways_reached : (Nat → Int32)) (a_ways_reachedCount : Int32) (a_history_rs : (Nat → ST)) (a_history_oldest : Int32) (a_history_size : Int32) (a_slotZero_kept : ST) (a_slotZero_filled : Int32) (a_slotOne_kept : ST) (a_slotOne_filled : Int32) {R : Int32} (hf : f_X7_fault a_pad_codes a_pad_length = some R) : zM l D cI cR yX7_fault cX7_fault 1 (some .int) 5 108 [.ref (a 0)] [w_X7 cI cR a a_now a_ahead a_pad_codes a_pad_length a_padPattern_heights a_padPattern_length a_ways_steps a_ways_firstThrows a_ways_lastThrows a_ways_reached a_ways_reachedCount a_history_rs a_history_oldest a_history_size a_slotZero_kept a_slotZero_filled a_slotOne_kept a_slotOne_filled] (some (.int R)) [w_X7 cI cR a a_now a_ahead a_pad_codes a_pad_length a_padPattern_heights a_padPattern_length a_ways_steps a_ways_firstThrows a_ways_lastThrows a_ways_reached a_ways_reachedCount a_history_rs a_history_oldest a_history_size a_slotZero_kept a_slotZero_filled a_slotOne_kept a_slotOne_filled] := by
  refine z_of (own := RX7) rfl (by decide) (Nat.le_of_ble_eq_true rfl) ?_
  intro p e s m args below meth c A ls X hr hlocks Z hl
  have hx := X.1.1
  have hb := X.1.2.1
  have Z : zW D A s [w_X7 cI cR a a_now a_ahead a_pad_codes a_pad_length a_padPattern_heights a_padPattern_length a_ways_steps a_ways_firstThrows a_ways_lastThrows a_ways_reached a_ways_reachedCount a_history_rs a_history_oldest a_history_size a_slotZero_kept a_slotZero_filled a_slotOne_kept a_slotOne_filled] s.heap [] := Z
  have hl : lv_has ls 1 [(0, .ref (a 0))] := hl
  refine lv_aload_n hx hb dX7_fault_0 rfl (lv_at hl 0 rfl) ?_
  refine zg_X7_22 X Z 0 rfl rfl dX7_fault_1 ?_
  have Z : zW D A s [[((a 0), .inr (7, [.ref (a 1), .ref (a 6), .ref (a 11), .ref (a 13), .ref (a 15), .ref (a 20), .ref (a 52), .ref (a 58)]))], w_X4 cI cR (a 1) (a 2) (a 3) (a 4) (a 5) a_now, w_X4 cI cR (a 6) (a 7) (a 8) (a 9) (a 10) a_ahead, w_X2 cI cR (a 11) (a 12) a_pad_codes a_pad_length, w_X3 cI cR (a 13) (a 14) a_padPattern_heights a_padPattern_length, w_X6 cI cR (a 15) (a 16) (a 17) (a 18) (a 19) a_ways_steps a_ways_firstThrows a_ways_lastThrows a_ways_reached a_ways_reachedCount, w_X0 cI cR (fun i => a (i + 20)) a_history_rs a_history_oldest a_history_size, w_X5 cI cR (a 52) (a 53) (a 54) (a 55) (a 56) (a 57) a_slotZero_kept a_slotZero_filled, w_X5 cI cR (a 58) (a 59) (a 60) (a 61) (a 62) (a 63) a_slotOne_kept a_slotOne_filled] _ _ := Z.eq rfl
  obtain ⟨q1, hq1, hf⟩ := ob_s hf
  refine z_roVN X Z (c_X2_programFault l D cI cR (a 11) (a 12) a_pad_codes a_pad_length  hq1) (zw_X7_73 X.2.1 X.1.2.2.2.2 ⟨Nat.le_of_ble_eq_true rfl, Nat.le_of_ble_eq_true rfl⟩) 11 2 rfl rfl rfl [3] [0, 1, 2, 4, 5, 6, 7, 8] (by decide : ([3] ++ [0, 1, 2, 4, 5, 6, 7, 8] : List Nat).Perm (List.range 9)) rfl rfl hl.1 rfl (Nat.le_of_ble_eq_true rfl) dX7_fault_4 ⟨Nat.le_of_ble_eq_true rfl, Nat.le_of_ble_eq_true rfl⟩ (fun H locs Z => ?_)
  have hR := so_s hf
  subst hR
  refine z_iret X hr hlocks ?_ dX7_fault_7
  exact Z.eq rfl
def f_X7_wipe (a_pad_length : Int32) : Option (Int32 × Int32) := (f_X2_clear a_pad_length).bind (fun q1 => some (a_pad_length, q1))
set_option maxHeartbeats 4000000 in
set_option maxRecDepth 100000 in
theorem c_X7_wipe (l : Launch) (D : va_G) (cI cR : ClassId) (a : (Nat → Nat)) (a_now : ST) (a_ahead : ST) (a_pad_codes : (Nat → Int32)) (a_pad_length : Int32) (a_padPattern_heights : (Nat → Int32)) (a_padPattern_length : Int32) (a_ways_steps : (Nat → Int32)) (a_ways_firstThrows : (Nat → Int32)) (a_ways_lastThrows : (Nat → Int32)) (a_ways_reached : (Nat → Int32)) (a_ways_reachedCount : Int32) (a_history_rs : (Nat → ST)) (a_history_oldest : Int32) (a_history_size : Int32) (a_slotZero_kept : ST) (a_slotZero_filled : Int32) (a_slotOne_kept : ST) (a_slotOne_filled : Int32) {R : Int32 × Int32} (hf : f_X7_wipe a_pad_length = some R) : zM l D cI cR yX7_wipe cX7_wipe 2 (some .int) 1 20 [.ref (a 0)] [w_X7 cI cR a a_now a_ahead a_pad_codes a_pad_length a_padPattern_heights a_padPattern_length a_ways_steps a_ways_firstThrows a_ways_lastThrows a_ways_reached a_ways_reachedCount a_history_rs a_history_oldest a_history_size a_slotZero_kept a_slotZero_filled a_slotOne_kept a_slotOne_filled] (some (.int R.1)) [w_X7 cI cR a a_now a_ahead a_pad_codes R.2 a_padPattern_heights a_padPattern_length a_ways_steps a_ways_firstThrows a_ways_lastThrows a_ways_reached a_ways_reachedCount a_history_rs a_history_oldest a_history_size a_slotZero_kept a_slotZero_filled a_slotOne_kept a_slotOne_filled] := by
  refine z_of (own := RX7) rfl (by decide) (Nat.le_of_ble_eq_true rfl) ?_
  intro p e s m args below meth c A ls X hr hlocks Z hl
  have hx := X.1.1
  have hb := X.1.2.1
  have Z : zW D A s [w_X7 cI cR a a_now a_ahead a_pad_codes a_pad_length a_padPattern_heights a_padPattern_length a_ways_steps a_ways_firstThrows a_ways_lastThrows a_ways_reached a_ways_reachedCount a_history_rs a_history_oldest a_history_size a_slotZero_kept a_slotZero_filled a_slotOne_kept a_slotOne_filled] s.heap [] := Z
  have hl : lv_has ls 2 [(0, .ref (a 0))] := hl
  refine lv_aload_n hx hb dX7_wipe_0 rfl (lv_at hl 0 rfl) ?_
  refine zg_X7_22 X Z 0 rfl rfl dX7_wipe_1 ?_
  refine zg_X7_153 X Z 11 rfl rfl dX7_wipe_4 ?_
  refine lv_istore_n (lv' := [(1, .int a_pad_length), (0, .ref (a 0))]) hx hb dX7_wipe_7 rfl hl (by decide) rfl (fun ls hl => ?_)
  refine lv_aload_n hx hb dX7_wipe_8 rfl (lv_at hl 1 rfl) ?_
  refine zg_X7_22 X Z 0 rfl rfl dX7_wipe_9 ?_
  have Z : zW D A s [[((a 0), .inr (7, [.ref (a 1), .ref (a 6), .ref (a 11), .ref (a 13), .ref (a 15), .ref (a 20), .ref (a 52), .ref (a 58)]))], w_X4 cI cR (a 1) (a 2) (a 3) (a 4) (a 5) a_now, w_X4 cI cR (a 6) (a 7) (a 8) (a 9) (a 10) a_ahead, w_X2 cI cR (a 11) (a 12) a_pad_codes a_pad_length, w_X3 cI cR (a 13) (a 14) a_padPattern_heights a_padPattern_length, w_X6 cI cR (a 15) (a 16) (a 17) (a 18) (a 19) a_ways_steps a_ways_firstThrows a_ways_lastThrows a_ways_reached a_ways_reachedCount, w_X0 cI cR (fun i => a (i + 20)) a_history_rs a_history_oldest a_history_size, w_X5 cI cR (a 52) (a 53) (a 54) (a 55) (a 56) (a 57) a_slotZero_kept a_slotZero_filled, w_X5 cI cR (a 58) (a 59) (a 60) (a 61) (a 62) (a 63) a_slotOne_kept a_slotOne_filled] _ _ := Z.eq rfl
  obtain ⟨q1, hq1, hf⟩ := ob_s hf
  refine z_callVN X Z (c_X2_clear l D cI cR (a 11) (a 12) a_pad_codes a_pad_length  hq1) (zw_X7_90 X.2.1 X.1.2.2.2.2 ⟨Nat.le_of_ble_eq_true rfl, Nat.le_of_ble_eq_true rfl⟩) 11 2 rfl rfl rfl [3] [0, 1, 2, 4, 5, 6, 7, 8] [[((a 0), .inr (7, [.ref (a 1), .ref (a 6), .ref (a 11), .ref (a 13), .ref (a 15), .ref (a 20), .ref (a 52), .ref (a 58)]))], w_X4 cI cR (a 1) (a 2) (a 3) (a 4) (a 5) a_now, w_X4 cI cR (a 6) (a 7) (a 8) (a 9) (a 10) a_ahead, w_X2 cI cR (a 11) (a 12) a_pad_codes q1, w_X3 cI cR (a 13) (a 14) a_padPattern_heights a_padPattern_length, w_X6 cI cR (a 15) (a 16) (a 17) (a 18) (a 19) a_ways_steps a_ways_firstThrows a_ways_lastThrows a_ways_reached a_ways_reachedCount, w_X0 cI cR (fun i => a (i + 20)) a_history_rs a_history_oldest a_history_size, w_X5 cI cR (a 52) (a 53) (a 54) (a 55) (a 56) (a 57) a_slotZero_kept a_slotZero_filled, w_X5 cI cR (a 58) (a 59) (a 60) (a 61) (a 62) (a 63) a_slotOne_kept a_slotOne_filled] (by decide : ([3] ++ [0, 1, 2, 4, 5, 6, 7, 8] : List Nat).Perm (List.range 9)) rfl rfl rfl rfl rfl hl.1 rfl (Nat.le_of_ble_eq_true rfl) dX7_wipe_12 ⟨Nat.le_of_ble_eq_true rfl, Nat.le_of_ble_eq_true rfl⟩ (fun H locs Z => ?_)
  refine lv_iload_n hx hb dX7_wipe_15 rfl (lv_at hl 0 rfl) ?_
  have hR := so_s hf
  subst hR
  refine z_iret X hr hlocks ?_ dX7_wipe_16
  exact Z.eq rfl
def f_X7_put_L34 (x1 : Int64) : Nat → Int32 → (Nat → Int32) → Int32 → Option (Int32 × (Nat → Int32) × Int32)
  | 0, _, _, _ => none
  | n + 1, x4, a_pad_codes, a_pad_length => if x4 < 0 then (some (a_pad_length, a_pad_codes, a_pad_length)) else ((f_X2_append a_pad_codes a_pad_length ((((x1.toUInt64 >>> (((8 : Int32) * x4).toInt64.toUInt64 &&& Int64.toUInt64 63)).toInt64).toInt32) &&& (255 : Int32))).bind (fun q5 => f_X7_put_L34 x1 n (x4 + (-1 : Int32)) q5.1 q5.2))
set_option maxHeartbeats 4000000 in
set_option maxRecDepth 100000 in
theorem w_X7_put_L34 {p : Program} {l : Launch} {e : Env} {s : State} {m : MethodId} {args : Array Value} {below : List Frame} {meth : Method} {c : Code} {D : va_G} {cI cR : ClassId} {A : Nat → Prop} {a : (Nat → Nat)} {a_now : ST} {a_ahead : ST} {a_padPattern_heights : (Nat → Int32)} {a_padPattern_length : Int32} {a_ways_steps : (Nat → Int32)} {a_ways_firstThrows : (Nat → Int32)} {a_ways_lastThrows : (Nat → Int32)} {a_ways_reached : (Nat → Int32)} {a_ways_reachedCount : Int32} {a_history_rs : (Nat → ST)} {a_history_oldest : Int32} {a_history_size : Int32} {a_slotZero_kept : ST} {a_slotZero_filled : Int32} {a_slotOne_kept : ST} {a_slotOne_filled : Int32} {x1 : Int64} {R : Int32 × (Nat → Int32) × Int32} (X : zX p s m c cX7_put 5 args RX7 D cI cR A) (hr : meth.sig.returnType = (some .int)) (hlocks : meth.locks = false) : ∀ (n : Nat)  {x4 : Int32} {a_pad_codes : (Nat → Int32)} {a_pad_length : Int32} {H : Heap} {locs : List Loc} {ls : Array Slot}, f_X7_put_L34 x1 n x4 a_pad_codes a_pad_length = some R → zW D A s [w_X7 cI cR a a_now a_ahead a_pad_codes a_pad_length a_padPattern_heights a_padPattern_length a_ways_steps a_ways_firstThrows a_ways_lastThrows a_ways_reached a_ways_reachedCount a_history_rs a_history_oldest a_history_size a_slotZero_kept a_slotZero_filled a_slotOne_kept a_slotOne_filled] H locs → lv_has ls 5 [(0, .ref (a 0)), (1, .long x1), (4, .int x4)] → W p l e ({ frames := 2, cells := 0, slots := 0, locals := 46 } : Room) s m args below meth c H locs 0 0 (zE D A below s args (some (.int R.1)) [w_X7 cI cR a a_now a_ahead R.2.1 R.2.2 a_padPattern_heights a_padPattern_length a_ways_steps a_ways_firstThrows a_ways_lastThrows a_ways_reached a_ways_reachedCount a_history_rs a_history_oldest a_history_size a_slotZero_kept a_slotZero_filled a_slotOne_kept a_slotOne_filled]) (F0 m 34 ls []) := by
  have hx := X.1.1
  have hb := X.1.2.1
  intro n
  induction n with
  | zero =>
    intro x4 a_pad_codes a_pad_length H locs ls hf
    have hf : none = some R := hf
    cases hf
  | succ n ih =>
    intro x4 a_pad_codes a_pad_length H locs ls hf Z hl
    refine lv_iload hx hb dX7_put_34 (lv_at hl 2 rfl) ?_
    refine lv_if_lt (tgt := 64) hx hb dX7_put_36 (by decide) (fun c4 => ?_) (fun c4 => ?_)
    · have hf := it_t c4 hf
      refine lv_aload_n hx hb dX7_put_64 rfl (lv_at hl 0 rfl) ?_
      refine zg_X7_22 X Z 0 rfl rfl dX7_put_65 ?_
      refine zg_X7_153 X Z 11 rfl rfl dX7_put_68 ?_
      have hR := so_s hf
      subst hR
      refine z_iret X hr hlocks ?_ dX7_put_71
      exact Z.eq rfl
    · have hf := it_f c4 hf
      refine lv_aload_n hx hb dX7_put_39 rfl (lv_at hl 0 rfl) ?_
      refine zg_X7_22 X Z 0 rfl rfl dX7_put_40 ?_
      refine lv_lload_n hx hb dX7_put_43 rfl (lv_at hl 1 rfl) ?_
      refine lv_bipush (v := 8) hx hb dX7_put_44 (by decide) ?_
      refine lv_iload hx hb dX7_put_46 (lv_at hl 2 rfl) ?_
      refine lv_imul hx hb dX7_put_48 ?_
      refine lv_lushr hx hb dX7_put_49 rfl ?_
      refine lv_l2i hx hb dX7_put_50 rfl ?_
      refine lv_sipush (v := 255) hx hb dX7_put_51 (by decide) ?_
      refine lv_iand hx hb dX7_put_54 ?_
      have Z : zW D A s [[((a 0), .inr (7, [.ref (a 1), .ref (a 6), .ref (a 11), .ref (a 13), .ref (a 15), .ref (a 20), .ref (a 52), .ref (a 58)]))], w_X4 cI cR (a 1) (a 2) (a 3) (a 4) (a 5) a_now, w_X4 cI cR (a 6) (a 7) (a 8) (a 9) (a 10) a_ahead, w_X2 cI cR (a 11) (a 12) a_pad_codes a_pad_length, w_X3 cI cR (a 13) (a 14) a_padPattern_heights a_padPattern_length, w_X6 cI cR (a 15) (a 16) (a 17) (a 18) (a 19) a_ways_steps a_ways_firstThrows a_ways_lastThrows a_ways_reached a_ways_reachedCount, w_X0 cI cR (fun i => a (i + 20)) a_history_rs a_history_oldest a_history_size, w_X5 cI cR (a 52) (a 53) (a 54) (a 55) (a 56) (a 57) a_slotZero_kept a_slotZero_filled, w_X5 cI cR (a 58) (a 59) (a 60) (a 61) (a 62) (a 63) a_slotOne_kept a_slotOne_filled] _ _ := Z.eq rfl
      obtain ⟨q5, hq5, hf⟩ := ob_s hf
      refine z_callVN X Z (c_X2_append l D cI cR (a 11) (a 12) a_pad_codes a_pad_length ((((x1.toUInt64 >>> (((8 : Int32) * x4).toInt64.toUInt64 &&& Int64.toUInt64 63)).toInt64).toInt32) &&& (255 : Int32)) hq5) (zw_X7_213 X.2.1 X.1.2.2.2.2 ⟨Nat.le_of_ble_eq_true rfl, Nat.le_of_ble_eq_true rfl⟩) 11 2 rfl rfl rfl [3] [0, 1, 2, 4, 5, 6, 7, 8] [[((a 0), .inr (7, [.ref (a 1), .ref (a 6), .ref (a 11), .ref (a 13), .ref (a 15), .ref (a 20), .ref (a 52), .ref (a 58)]))], w_X4 cI cR (a 1) (a 2) (a 3) (a 4) (a 5) a_now, w_X4 cI cR (a 6) (a 7) (a 8) (a 9) (a 10) a_ahead, w_X2 cI cR (a 11) (a 12) q5.1 q5.2, w_X3 cI cR (a 13) (a 14) a_padPattern_heights a_padPattern_length, w_X6 cI cR (a 15) (a 16) (a 17) (a 18) (a 19) a_ways_steps a_ways_firstThrows a_ways_lastThrows a_ways_reached a_ways_reachedCount, w_X0 cI cR (fun i => a (i + 20)) a_history_rs a_history_oldest a_history_size, w_X5 cI cR (a 52) (a 53) (a 54) (a 55) (a 56) (a 57) a_slotZero_kept a_slotZero_filled, w_X5 cI cR (a 58) (a 59) (a 60) (a 61) (a 62) (a 63) a_slotOne_kept a_slotOne_filled] (by decide : ([3] ++ [0, 1, 2, 4, 5, 6, 7, 8] : List Nat).Perm (List.range 9)) rfl rfl rfl rfl rfl hl.1 rfl (Nat.le_of_ble_eq_true rfl) dX7_put_55 ⟨Nat.le_of_ble_eq_true rfl, Nat.le_of_ble_eq_true rfl⟩ (fun H locs Z => ?_)
      refine lv_iinc (v := x4 + (-1 : Int32)) (lv' := [(4, .int (x4 + (-1 : Int32))), (0, .ref (a 0)), (1, .long x1)]) hx hb dX7_put_58 hl (k := 2) rfl rfl (by decide) rfl (fun ls hl => ?_)
      refine lv_goto (tgt := 34) hx hb dX7_put_61 (by decide) ?_
      have Z : zW D A s [w_X7 cI cR a a_now a_ahead q5.1 q5.2 a_padPattern_heights a_padPattern_length a_ways_steps a_ways_firstThrows a_ways_lastThrows a_ways_reached a_ways_reachedCount a_history_rs a_history_oldest a_history_size a_slotZero_kept a_slotZero_filled a_slotOne_kept a_slotOne_filled] _ _ := Z.eq rfl
      exact ih hf Z (lv_sub hl [1, 2, 0] rfl)

def f_X7_put (a_pad_codes : (Nat → Int32)) (a_pad_length : Int32) (p1 : Int64) : Option (Int32 × (Nat → Int32) × Int32) := (f_X7_packedCharacters p1).bind (fun q1 => if q1 = 0 then (some ((-2 : Int32), a_pad_codes, a_pad_length)) else (if (a_pad_length + q1) ≤ (30 : Int32) then (f_X7_put_L34 p1 zF (q1 - (1 : Int32)) a_pad_codes a_pad_length) else (some ((-4 : Int32), a_pad_codes, a_pad_length))))
set_option maxHeartbeats 4000000 in
set_option maxRecDepth 100000 in
theorem c_X7_put (l : Launch) (D : va_G) (cI cR : ClassId) (a : (Nat → Nat)) (a_now : ST) (a_ahead : ST) (a_pad_codes : (Nat → Int32)) (a_pad_length : Int32) (a_padPattern_heights : (Nat → Int32)) (a_padPattern_length : Int32) (a_ways_steps : (Nat → Int32)) (a_ways_firstThrows : (Nat → Int32)) (a_ways_lastThrows : (Nat → Int32)) (a_ways_reached : (Nat → Int32)) (a_ways_reachedCount : Int32) (a_history_rs : (Nat → ST)) (a_history_oldest : Int32) (a_history_size : Int32) (a_slotZero_kept : ST) (a_slotZero_filled : Int32) (a_slotOne_kept : ST) (a_slotOne_filled : Int32) (p1 : Int64) {R : Int32 × (Nat → Int32) × Int32} (hf : f_X7_put a_pad_codes a_pad_length p1 = some R) : zM l D cI cR yX7_put cX7_put 5 (some .int) 2 46 [.ref (a 0), .long p1] [w_X7 cI cR a a_now a_ahead a_pad_codes a_pad_length a_padPattern_heights a_padPattern_length a_ways_steps a_ways_firstThrows a_ways_lastThrows a_ways_reached a_ways_reachedCount a_history_rs a_history_oldest a_history_size a_slotZero_kept a_slotZero_filled a_slotOne_kept a_slotOne_filled] (some (.int R.1)) [w_X7 cI cR a a_now a_ahead R.2.1 R.2.2 a_padPattern_heights a_padPattern_length a_ways_steps a_ways_firstThrows a_ways_lastThrows a_ways_reached a_ways_reachedCount a_history_rs a_history_oldest a_history_size a_slotZero_kept a_slotZero_filled a_slotOne_kept a_slotOne_filled] := by
  refine z_of (own := RX7) rfl (by decide) (Nat.le_of_ble_eq_true rfl) ?_
  intro p e s m args below meth c A ls X hr hlocks Z hl
  have hx := X.1.1
  have hb := X.1.2.1
  have Z : zW D A s [w_X7 cI cR a a_now a_ahead a_pad_codes a_pad_length a_padPattern_heights a_padPattern_length a_ways_steps a_ways_firstThrows a_ways_lastThrows a_ways_reached a_ways_reachedCount a_history_rs a_history_oldest a_history_size a_slotZero_kept a_slotZero_filled a_slotOne_kept a_slotOne_filled] s.heap [] := Z
  have hl : lv_has ls 5 [(0, .ref (a 0)), (1, .long p1)] := hl
  refine lv_lload_n hx hb dX7_put_0 rfl (lv_at hl 1 rfl) ?_
  obtain ⟨q1, hq1, hf⟩ := ob_s hf
  refine z_roS X Z (c_X7_packedCharacters l D cI cR   p1 hq1) (zw_X7_209 X.1.2.2.2.2 ⟨Nat.le_of_ble_eq_true rfl, Nat.le_of_ble_eq_true rfl⟩) [] [0] (by decide : ([] ++ [0] : List Nat).Perm (List.range 1)) rfl rfl hl.1 rfl (Nat.le_of_ble_eq_true rfl) dX7_put_1 ⟨Nat.le_of_ble_eq_true rfl, Nat.le_of_ble_eq_true rfl⟩ (fun H locs Z => ?_)
  refine lv_istore_n (lv' := [(3, .int q1), (0, .ref (a 0)), (1, .long p1)]) hx hb dX7_put_4 rfl hl (by decide) rfl (fun ls hl => ?_)
  refine lv_iload_n hx hb dX7_put_5 rfl (lv_at hl 0 rfl) ?_
  refine lv_if_ne (tgt := 12) hx hb dX7_put_6 (by decide) (fun c2 => ?_) (fun c2 => ?_)
  · have hf := it_f c2 hf
    refine lv_aload_n hx hb dX7_put_12 rfl (lv_at hl 1 rfl) ?_
    refine zg_X7_22 X Z 0 rfl rfl dX7_put_13 ?_
    refine zg_X7_153 X Z 11 rfl rfl dX7_put_16 ?_
    refine lv_iload_n hx hb dX7_put_19 rfl (lv_at hl 0 rfl) ?_
    refine lv_iadd hx hb dX7_put_20 ?_
    refine lv_bipush (v := 30) hx hb dX7_put_21 (by decide) ?_
    refine lv_icmp_le (tgt := 29) hx hb dX7_put_23 (by decide) (fun c3 => ?_) (fun c3 => ?_)
    · have hf := it_t c3 hf
      refine lv_iload_n hx hb dX7_put_29 rfl (lv_at hl 0 rfl) ?_
      refine lv_iconst (v := 1) hx hb dX7_put_30 (by decide) ?_
      refine lv_isub hx hb dX7_put_31 ?_
      refine lv_istore (lv' := [(4, .int (q1 - (1 : Int32))), (3, .int q1), (0, .ref (a 0)), (1, .long p1)]) hx hb dX7_put_32 hl (by decide) rfl (fun ls hl => ?_)
      exact w_X7_put_L34 X hr hlocks _ hf Z (lv_sub hl [2, 3, 0] rfl)
    · have hf := it_f c3 hf
      refine lv_bipush (v := -4) hx hb dX7_put_26 (by decide) ?_
      have hR := so_s hf
      subst hR
      refine z_iret X hr hlocks ?_ dX7_put_28
      exact Z.eq rfl
  · have hf := it_t c2 hf
    refine lv_bipush (v := -2) hx hb dX7_put_9 (by decide) ?_
    have hR := so_s hf
    subst hR
    refine z_iret X hr hlocks ?_ dX7_put_11
    exact Z.eq rfl
def f_X7_count (a_now : ST) (a_pad_length : Int32) (a_history_size : Int32) (p1 : Int32) : Option (Int32) := if p1 = (0 : Int32) then (some a_now.2.2.2.1) else (if p1 = (1 : Int32) then (some a_now.2.2.1) else (if p1 = (2 : Int32) then ((f_X4_clubs a_now).bind (fun q4 => some q4)) else (if p1 = (3 : Int32) then (some a_now.2.2.2.2.1) else (if p1 = (4 : Int32) then (some a_now.2.2.2.2.2) else (if p1 = (5 : Int32) then (some a_pad_length) else (if p1 = (6 : Int32) then (some a_history_size) else (some (-2 : Int32))))))))
set_option maxHeartbeats 4000000 in
set_option maxRecDepth 100000 in
theorem c_X7_count (l : Launch) (D : va_G) (cI cR : ClassId) (a : (Nat → Nat)) (a_now : ST) (a_ahead : ST) (a_pad_codes : (Nat → Int32)) (a_pad_length : Int32) (a_padPattern_heights : (Nat → Int32)) (a_padPattern_length : Int32) (a_ways_steps : (Nat → Int32)) (a_ways_firstThrows : (Nat → Int32)) (a_ways_lastThrows : (Nat → Int32)) (a_ways_reached : (Nat → Int32)) (a_ways_reachedCount : Int32) (a_history_rs : (Nat → ST)) (a_history_oldest : Int32) (a_history_size : Int32) (a_slotZero_kept : ST) (a_slotZero_filled : Int32) (a_slotOne_kept : ST) (a_slotOne_filled : Int32) (p1 : Int32) {R : Int32} (hf : f_X7_count a_now a_pad_length a_history_size p1 = some R) : zM l D cI cR yX7_count cX7_count 2 (some .int) 3 60 [.ref (a 0), .int p1] [w_X7 cI cR a a_now a_ahead a_pad_codes a_pad_length a_padPattern_heights a_padPattern_length a_ways_steps a_ways_firstThrows a_ways_lastThrows a_ways_reached a_ways_reachedCount a_history_rs a_history_oldest a_history_size a_slotZero_kept a_slotZero_filled a_slotOne_kept a_slotOne_filled] (some (.int R)) [w_X7 cI cR a a_now a_ahead a_pad_codes a_pad_length a_padPattern_heights a_padPattern_length a_ways_steps a_ways_firstThrows a_ways_lastThrows a_ways_reached a_ways_reachedCount a_history_rs a_history_oldest a_history_size a_slotZero_kept a_slotZero_filled a_slotOne_kept a_slotOne_filled] := by
  refine z_of (own := RX7) rfl (by decide) (Nat.le_of_ble_eq_true rfl) ?_
  intro p e s m args below meth c A ls X hr hlocks Z hl
  have hx := X.1.1
  have hb := X.1.2.1
  have Z : zW D A s [w_X7 cI cR a a_now a_ahead a_pad_codes a_pad_length a_padPattern_heights a_padPattern_length a_ways_steps a_ways_firstThrows a_ways_lastThrows a_ways_reached a_ways_reachedCount a_history_rs a_history_oldest a_history_size a_slotZero_kept a_slotZero_filled a_slotOne_kept a_slotOne_filled] s.heap [] := Z
  have hl : lv_has ls 2 [(0, .ref (a 0)), (1, .int p1)] := hl
  refine lv_iload_n hx hb dX7_count_0 rfl (lv_at hl 1 rfl) ?_
  rcases Decidable.em (p1 = (0 : Int32)) with c1 | c1
  · have hf := it_t c1 hf
    refine z_tabIn hx hb 0 c1 (off := 43) (tgt := 44) dX7_count_1 (by decide) (by decide) (by decide) (by decide) ?_
    refine lv_aload_n hx hb dX7_count_44 rfl (lv_at hl 0 rfl) ?_
    refine zg_X7_12 X Z 0 rfl rfl dX7_count_45 ?_
    refine zg_X7_93 X Z 1 rfl rfl dX7_count_48 ?_
    have hR := so_s hf
    subst hR
    refine z_iret X hr hlocks ?_ dX7_count_51
    exact Z.eq rfl
  · have hf := it_f c1 hf
    rcases Decidable.em (p1 = (1 : Int32)) with c2 | c2
    · have hf := it_t c2 hf
      refine z_tabIn hx hb 1 c2 (off := 51) (tgt := 52) dX7_count_1 (by decide) (by decide) (by decide) (by decide) ?_
      refine lv_aload_n hx hb dX7_count_52 rfl (lv_at hl 0 rfl) ?_
      refine zg_X7_12 X Z 0 rfl rfl dX7_count_53 ?_
      refine zg_X7_115 X Z 1 rfl rfl dX7_count_56 ?_
      have hR := so_s hf
      subst hR
      refine z_iret X hr hlocks ?_ dX7_count_59
      exact Z.eq rfl
    · have hf := it_f c2 hf
      rcases Decidable.em (p1 = (2 : Int32)) with c3 | c3
      · have hf := it_t c3 hf
        refine z_tabIn hx hb 2 c3 (off := 59) (tgt := 60) dX7_count_1 (by decide) (by decide) (by decide) (by decide) ?_
        refine lv_aload_n hx hb dX7_count_60 rfl (lv_at hl 0 rfl) ?_
        refine zg_X7_12 X Z 0 rfl rfl dX7_count_61 ?_
        have Z : zW D A s [[((a 0), .inr (7, [.ref (a 1), .ref (a 6), .ref (a 11), .ref (a 13), .ref (a 15), .ref (a 20), .ref (a 52), .ref (a 58)]))], w_X4 cI cR (a 1) (a 2) (a 3) (a 4) (a 5) a_now, w_X4 cI cR (a 6) (a 7) (a 8) (a 9) (a 10) a_ahead, w_X2 cI cR (a 11) (a 12) a_pad_codes a_pad_length, w_X3 cI cR (a 13) (a 14) a_padPattern_heights a_padPattern_length, w_X6 cI cR (a 15) (a 16) (a 17) (a 18) (a 19) a_ways_steps a_ways_firstThrows a_ways_lastThrows a_ways_reached a_ways_reachedCount, w_X0 cI cR (fun i => a (i + 20)) a_history_rs a_history_oldest a_history_size, w_X5 cI cR (a 52) (a 53) (a 54) (a 55) (a 56) (a 57) a_slotZero_kept a_slotZero_filled, w_X5 cI cR (a 58) (a 59) (a 60) (a 61) (a 62) (a 63) a_slotOne_kept a_slotOne_filled] _ _ := Z.eq rfl
        obtain ⟨q4, hq4, hf⟩ := ob_s hf
        refine z_roVN X Z (c_X4_clubs l D cI cR (a 1) (a 2) (a 3) (a 4) (a 5) a_now  hq4) (zw_X7_61 X.2.1 X.1.2.2.2.2 ⟨Nat.le_of_ble_eq_true rfl, Nat.le_of_ble_eq_true rfl⟩) 1 4 rfl rfl rfl [1] [0, 2, 3, 4, 5, 6, 7, 8] (by decide : ([1] ++ [0, 2, 3, 4, 5, 6, 7, 8] : List Nat).Perm (List.range 9)) rfl rfl hl.1 rfl (Nat.le_of_ble_eq_true rfl) dX7_count_64 ⟨Nat.le_of_ble_eq_true rfl, Nat.le_of_ble_eq_true rfl⟩ (fun H locs Z => ?_)
        have hR := so_s hf
        subst hR
        refine z_iret X hr hlocks ?_ dX7_count_67
        exact Z.eq rfl
      · have hf := it_f c3 hf
        rcases Decidable.em (p1 = (3 : Int32)) with c5 | c5
        · have hf := it_t c5 hf
          refine z_tabIn hx hb 3 c5 (off := 67) (tgt := 68) dX7_count_1 (by decide) (by decide) (by decide) (by decide) ?_
          refine lv_aload_n hx hb dX7_count_68 rfl (lv_at hl 0 rfl) ?_
          refine zg_X7_12 X Z 0 rfl rfl dX7_count_69 ?_
          refine zg_X7_147 X Z 1 rfl rfl dX7_count_72 ?_
          have hR := so_s hf
          subst hR
          refine z_iret X hr hlocks ?_ dX7_count_75
          exact Z.eq rfl
        · have hf := it_f c5 hf
          rcases Decidable.em (p1 = (4 : Int32)) with c6 | c6
          · have hf := it_t c6 hf
            refine z_tabIn hx hb 4 c6 (off := 75) (tgt := 76) dX7_count_1 (by decide) (by decide) (by decide) (by decide) ?_
            refine lv_aload_n hx hb dX7_count_76 rfl (lv_at hl 0 rfl) ?_
            refine zg_X7_12 X Z 0 rfl rfl dX7_count_77 ?_
            refine zg_X7_150 X Z 1 rfl rfl dX7_count_80 ?_
            have hR := so_s hf
            subst hR
            refine z_iret X hr hlocks ?_ dX7_count_83
            exact Z.eq rfl
          · have hf := it_f c6 hf
            rcases Decidable.em (p1 = (5 : Int32)) with c7 | c7
            · have hf := it_t c7 hf
              refine z_tabIn hx hb 5 c7 (off := 83) (tgt := 84) dX7_count_1 (by decide) (by decide) (by decide) (by decide) ?_
              refine lv_aload_n hx hb dX7_count_84 rfl (lv_at hl 0 rfl) ?_
              refine zg_X7_22 X Z 0 rfl rfl dX7_count_85 ?_
              refine zg_X7_153 X Z 11 rfl rfl dX7_count_88 ?_
              have hR := so_s hf
              subst hR
              refine z_iret X hr hlocks ?_ dX7_count_91
              exact Z.eq rfl
            · have hf := it_f c7 hf
              rcases Decidable.em (p1 = (6 : Int32)) with c8 | c8
              · have hf := it_t c8 hf
                refine z_tabIn hx hb 6 c8 (off := 91) (tgt := 92) dX7_count_1 (by decide) (by decide) (by decide) (by decide) ?_
                refine lv_aload_n hx hb dX7_count_92 rfl (lv_at hl 0 rfl) ?_
                refine zg_X7_43 X Z 0 rfl rfl dX7_count_93 ?_
                refine zg_X7_156 X Z 20 rfl rfl dX7_count_96 ?_
                have hR := so_s hf
                subst hR
                refine z_iret X hr hlocks ?_ dX7_count_99
                exact Z.eq rfl
              · have hf := it_f c8 hf
                refine lv_tableOut (tgt := 100) hx hb dX7_count_1 ?_ (by decide) ?_
                · have e0 := z_ne c1
                  have e1 := z_ne c2
                  have e2 := z_ne c3
                  have e3 := z_ne c5
                  have e4 := z_ne c6
                  have e5 := z_ne c7
                  have e6 := z_ne c8
                  try simp only [show (0 : Int32).toInt = 0 from by decide] at e0
                  try simp only [show (1 : Int32).toInt = 1 from by decide] at e1
                  try simp only [show (2 : Int32).toInt = 2 from by decide] at e2
                  try simp only [show (3 : Int32).toInt = 3 from by decide] at e3
                  try simp only [show (4 : Int32).toInt = 4 from by decide] at e4
                  try simp only [show (5 : Int32).toInt = 5 from by decide] at e5
                  try simp only [show (6 : Int32).toInt = 6 from by decide] at e6
                  omega
                · refine lv_bipush (v := -2) hx hb dX7_count_100 (by decide) ?_
                  have hR := so_s hf
                  subst hR
                  refine z_iret X hr hlocks ?_ dX7_count_102
                  exact Z.eq rfl
