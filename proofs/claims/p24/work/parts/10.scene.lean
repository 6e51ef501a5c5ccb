def f_X4_become (a_s : ST) (b_s : ST) : Option (ST) := (f_X1_become a_s.1.1 a_s.1.2.1 a_s.1.2.2.1 a_s.1.2.2.2.1 a_s.1.2.2.2.2.1 a_s.1.2.2.2.2.2.1 a_s.1.2.2.2.2.2.2 b_s.1.1 b_s.1.2.1 b_s.1.2.2.1 b_s.1.2.2.2.1 b_s.1.2.2.2.2.1 b_s.1.2.2.2.2.2.1 b_s.1.2.2.2.2.2.2).bind (fun q1 => (f_X1_become a_s.2.1.1 a_s.2.1.2.1 a_s.2.1.2.2.1 a_s.2.1.2.2.2.1 a_s.2.1.2.2.2.2.1 a_s.2.1.2.2.2.2.2.1 a_s.2.1.2.2.2.2.2.2 b_s.2.1.1 b_s.2.1.2.1 b_s.2.1.2.2.1 b_s.2.1.2.2.2.1 b_s.2.1.2.2.2.2.1 b_s.2.1.2.2.2.2.2.1 b_s.2.1.2.2.2.2.2.2).bind (fun q2 => some (q1, q2, b_s.2.2.1, b_s.2.2.2.1, b_s.2.2.2.2.1, b_s.2.2.2.2.2)))
set_option maxHeartbeats 4000000 in
set_option maxRecDepth 100000 in
theorem c_X4_become (l : Launch) (D : va_G) (cI cR : ClassId) (a0 : Nat) (a1 : Nat) (a2 : Nat) (a3 : Nat) (a4 : Nat) (b0 : Nat) (b1 : Nat) (b2 : Nat) (b3 : Nat) (b4 : Nat) (a_s : ST) (b_s : ST) {R : ST} (hf : f_X4_become a_s b_s = some R) : zM l D cI cR yX4_become cX4_become 2 none 3 64 [.ref a0, .ref b0] [w_X4 cI cR a0 a1 a2 a3 a4 a_s, w_X4 cI cR b0 b1 b2 b3 b4 b_s] none [w_X4 cI cR a0 a1 a2 a3 a4 R, w_X4 cI cR b0 b1 b2 b3 b4 b_s] := by
  refine z_of (own := RX4) rfl (by decide) (Nat.le_of_ble_eq_true rfl) ?_
  intro p e s m args below meth c A ls X hr hlocks Z hl
  have hx := X.1.1
  have hb := X.1.2.1
  have Z : zW D A s [w_X4 cI cR a0 a1 a2 a3 a4 a_s, w_X4 cI cR b0 b1 b2 b3 b4 b_s] s.heap [] := Z
  have hl : lv_has ls 2 [(0, .ref a0), (1, .ref b0)] := hl
  refine lv_aload_n hx hb dX4_become_0 rfl (lv_at hl 0 rfl) ?_
  refine zg_X4_10 X Z 0 rfl rfl dX4_become_1 ?_
  refine lv_aload_n hx hb dX4_become_4 rfl (lv_at hl 1 rfl) ?_
  refine zg_X4_10 X Z 5 rfl rfl dX4_become_5 ?_
  have Z : zW D A s [[(a0, .inr (4, [.ref a1, .ref a3, .int a_s.2.2.1, .int a_s.2.2.2.1, .int a_s.2.2.2.2.1, .int a_s.2.2.2.2.2]))], w_X1 cI cR a1 a2 a_s.1.1 a_s.1.2.1 a_s.1.2.2.1 a_s.1.2.2.2.1 a_s.1.2.2.2.2.1 a_s.1.2.2.2.2.2.1 a_s.1.2.2.2.2.2.2, w_X1 cI cR a3 a4 a_s.2.1.1 a_s.2.1.2.1 a_s.2.1.2.2.1 a_s.2.1.2.2.2.1 a_s.2.1.2.2.2.2.1 a_s.2.1.2.2.2.2.2.1 a_s.2.1.2.2.2.2.2.2, [(b0, .inr (4, [.ref b1, .ref b3, .int b_s.2.2.1, .int b_s.2.2.2.1, .int b_s.2.2.2.2.1, .int b_s.2.2.2.2.2]))], w_X1 cI cR b1 b2 b_s.1.1 b_s.1.2.1 b_s.1.2.2.1 b_s.1.2.2.2.1 b_s.1.2.2.2.2.1 b_s.1.2.2.2.2.2.1 b_s.1.2.2.2.2.2.2, w_X1 cI cR b3 b4 b_s.2.1.1 b_s.2.1.2.1 b_s.2.1.2.2.1 b_s.2.1.2.2.2.1 b_s.2.1.2.2.2.2.1 b_s.2.1.2.2.2.2.2.1 b_s.2.1.2.2.2.2.2.2] _ _ := Z.eq rfl
  obtain ⟨q1, hq1, hf⟩ := ob_s hf
  refine z_callVN X Z (c_X1_become l D cI cR a1 a2 b1 b2 a_s.1.1 a_s.1.2.1 a_s.1.2.2.1 a_s.1.2.2.2.1 a_s.1.2.2.2.2.1 a_s.1.2.2.2.2.2.1 a_s.1.2.2.2.2.2.2 b_s.1.1 b_s.1.2.1 b_s.1.2.2.1 b_s.1.2.2.2.1 b_s.1.2.2.2.2.1 b_s.1.2.2.2.2.2.1 b_s.1.2.2.2.2.2.2  hq1) (zw_X4_19 X.2.1 X.1.2.2.2.2 ⟨Nat.le_of_ble_eq_true rfl, Nat.le_of_ble_eq_true rfl⟩) 1 1 rfl rfl rfl [1, 4] [0, 2, 3, 5] [[(a0, .inr (4, [.ref a1, .ref a3, .int a_s.2.2.1, .int a_s.2.2.2.1, .int a_s.2.2.2.2.1, .int a_s.2.2.2.2.2]))], w_X1 cI cR a1 a2 q1.1 q1.2.1 q1.2.2.1 q1.2.2.2.1 q1.2.2.2.2.1 q1.2.2.2.2.2.1 q1.2.2.2.2.2.2, w_X1 cI cR a3 a4 a_s.2.1.1 a_s.2.1.2.1 a_s.2.1.2.2.1 a_s.2.1.2.2.2.1 a_s.2.1.2.2.2.2.1 a_s.2.1.2.2.2.2.2.1 a_s.2.1.2.2.2.2.2.2, [(b0, .inr (4, [.ref b1, .ref b3, .int b_s.2.2.1, .int b_s.2.2.2.1, .int b_s.2.2.2.2.1, .int b_s.2.2.2.2.2]))], w_X1 cI cR b1 b2 b_s.1.1 b_s.1.2.1 b_s.1.2.2.1 b_s.1.2.2.2.1 b_s.1.2.2.2.2.1 b_s.1.2.2.2.2.2.1 b_s.1.2.2.2.2.2.2, w_X1 cI cR b3 b4 b_s.2.1.1 b_s.2.1.2.1 b_s.2.1.2.2.1 b_s.2.1.2.2.2.1 b_s.2.1.2.2.2.2.1 b_s.2.1.2.2.2.2.2.1 b_s.2.1.2.2.2.2.2.2] (by decide : ([1, 4] ++ [0, 2, 3, 5] : List Nat).Perm (List.range 6)) rfl rfl rfl rfl rfl hl.1 rfl (Nat.le_of_ble_eq_true rfl) dX4_become_8 ⟨Nat.le_of_ble_eq_true rfl, Nat.le_of_ble_eq_true rfl⟩ (fun H locs Z => ?_)
  refine lv_aload_n hx hb dX4_become_11 rfl (lv_at hl 0 rfl) ?_
  refine zg_X4_16 X Z 0 rfl rfl dX4_become_12 ?_
  refine lv_aload_n hx hb dX4_become_15 rfl (lv_at hl 1 rfl) ?_
  refine zg_X4_16 X Z 5 rfl rfl dX4_become_16 ?_
  obtain ⟨q2, hq2, hf⟩ := ob_s hf
  refine z_callVN X Z (c_X1_become l D cI cR a3 a4 b3 b4 a_s.2.1.1 a_s.2.1.2.1 a_s.2.1.2.2.1 a_s.2.1.2.2.2.1 a_s.2.1.2.2.2.2.1 a_s.2.1.2.2.2.2.2.1 a_s.2.1.2.2.2.2.2.2 b_s.2.1.1 b_s.2.1.2.1 b_s.2.1.2.2.1 b_s.2.1.2.2.2.1 b_s.2.1.2.2.2.2.1 b_s.2.1.2.2.2.2.2.1 b_s.2.1.2.2.2.2.2.2  hq2) (zw_X4_19 X.2.1 X.1.2.2.2.2 ⟨Nat.le_of_ble_eq_true rfl, Nat.le_of_ble_eq_true rfl⟩) 3 1 rfl rfl rfl [2, 5] [0, 1, 3, 4] [[(a0, .inr (4, [.ref a1, .ref a3, .int a_s.2.2.1, .int a_s.2.2.2.1, .int a_s.2.2.2.2.1, .int a_s.2.2.2.2.2]))], w_X1 cI cR a1 a2 q1.1 q1.2.1 q1.2.2.1 q1.2.2.2.1 q1.2.2.2.2.1 q1.2.2.2.2.2.1 q1.2.2.2.2.2.2, w_X1 cI cR a3 a4 q2.1 q2.2.1 q2.2.2.1 q2.2.2.2.1 q2.2.2.2.2.1 q2.2.2.2.2.2.1 q2.2.2.2.2.2.2, [(b0, .inr (4, [.ref b1, .ref b3, .int b_s.2.2.1, .int b_s.2.2.2.1, .int b_s.2.2.2.2.1, .int b_s.2.2.2.2.2]))], w_X1 cI cR b1 b2 b_s.1.1 b_s.1.2.1 b_s.1.2.2.1 b_s.1.2.2.2.1 b_s.1.2.2.2.2.1 b_s.1.2.2.2.2.2.1 b_s.1.2.2.2.2.2.2, w_X1 cI cR b3 b4 b_s.2.1.1 b_s.2.1.2.1 b_s.2.1.2.2.1 b_s.2.1.2.2.2.1 b_s.2.1.2.2.2.2.1 b_s.2.1.2.2.2.2.2.1 b_s.2.1.2.2.2.2.2.2] (by decide : ([2, 5] ++ [0, 1, 3, 4] : List Nat).Perm (List.range 6)) rfl rfl rfl rfl rfl hl.1 rfl (Nat.le_of_ble_eq_true rfl) dX4_become_19 ⟨Nat.le_of_ble_eq_true rfl, Nat.le_of_ble_eq_true rfl⟩ (fun H locs Z => ?_)
  refine lv_aload_n hx hb dX4_become_22 rfl (lv_at hl 0 rfl) ?_
  refine lv_aload_n hx hb dX4_become_23 rfl (lv_at hl 1 rfl) ?_
  refine zg_X4_23 X Z 5 rfl rfl dX4_become_24 ?_
  refine zp_X4_23 X Z 0 rfl (Nat.le_of_ble_eq_true rfl) [[(a0, .inr (4, [.ref a1, .ref a3, .int b_s.2.2.1, .int a_s.2.2.2.1, .int a_s.2.2.2.2.1, .int a_s.2.2.2.2.2]))], w_X1 cI cR a1 a2 q1.1 q1.2.1 q1.2.2.1 q1.2.2.2.1 q1.2.2.2.2.1 q1.2.2.2.2.2.1 q1.2.2.2.2.2.2, w_X1 cI cR a3 a4 q2.1 q2.2.1 q2.2.2.1 q2.2.2.2.1 q2.2.2.2.2.1 q2.2.2.2.2.2.1 q2.2.2.2.2.2.2, [(b0, .inr (4, [.ref b1, .ref b3, .int b_s.2.2.1, .int b_s.2.2.2.1, .int b_s.2.2.2.2.1, .int b_s.2.2.2.2.2]))], w_X1 cI cR b1 b2 b_s.1.1 b_s.1.2.1 b_s.1.2.2.1 b_s.1.2.2.2.1 b_s.1.2.2.2.2.1 b_s.1.2.2.2.2.2.1 b_s.1.2.2.2.2.2.2, w_X1 cI cR b3 b4 b_s.2.1.1 b_s.2.1.2.1 b_s.2.1.2.2.1 b_s.2.1.2.2.2.1 b_s.2.1.2.2.2.2.1 b_s.2.1.2.2.2.2.2.1 b_s.2.1.2.2.2.2.2.2] rfl dX4_become_27 (fun H locs Z => ?_)
  refine lv_aload_n hx hb dX4_become_30 rfl (lv_at hl 0 rfl) ?_
  refine lv_aload_n hx hb dX4_become_31 rfl (lv_at hl 1 rfl) ?_
  refine zg_X4_27 X Z 5 rfl rfl dX4_become_32 ?_
  refine zp_X4_27 X Z 0 rfl (Nat.le_of_ble_eq_true rfl) [[(a0, .inr (4, [.ref a1, .ref a3, .int b_s.2.2.1, .int b_s.2.2.2.1, .int a_s.2.2.2.2.1, .int a_s.2.2.2.2.2]))], w_X1 cI cR a1 a2 q1.1 q1.2.1 q1.2.2.1 q1.2.2.2.1 q1.2.2.2.2.1 q1.2.2.2.2.2.1 q1.2.2.2.2.2.2, w_X1 cI cR a3 a4 q2.1 q2.2.1 q2.2.2.1 q2.2.2.2.1 q2.2.2.2.2.1 q2.2.2.2.2.2.1 q2.2.2.2.2.2.2, [(b0, .inr (4, [.ref b1, .ref b3, .int b_s.2.2.1, .int b_s.2.2.2.1, .int b_s.2.2.2.2.1, .int b_s.2.2.2.2.2]))], w_X1 cI cR b1 b2 b_s.1.1 b_s.1.2.1 b_s.1.2.2.1 b_s.1.2.2.2.1 b_s.1.2.2.2.2.1 b_s.1.2.2.2.2.2.1 b_s.1.2.2.2.2.2.2, w_X1 cI cR b3 b4 b_s.2.1.1 b_s.2.1.2.1 b_s.2.1.2.2.1 b_s.2.1.2.2.2.1 b_s.2.1.2.2.2.2.1 b_s.2.1.2.2.2.2.2.1 b_s.2.1.2.2.2.2.2.2] rfl dX4_become_35 (fun H locs Z => ?_)
  refine lv_aload_n hx hb dX4_become_38 rfl (lv_at hl 0 rfl) ?_
  refine lv_aload_n hx hb dX4_become_39 rfl (lv_at hl 1 rfl) ?_
  refine zg_X4_30 X Z 5 rfl rfl dX4_become_40 ?_
  refine zp_X4_30 X Z 0 rfl (Nat.le_of_ble_eq_true rfl) [[(a0, .inr (4, [.ref a1, .ref a3, .int b_s.2.2.1, .int b_s.2.2.2.1, .int b_s.2.2.2.2.1, .int a_s.2.2.2.2.2]))], w_X1 cI cR a1 a2 q1.1 q1.2.1 q1.2.2.1 q1.2.2.2.1 q1.2.2.2.2.1 q1.2.2.2.2.2.1 q1.2.2.2.2.2.2, w_X1 cI cR a3 a4 q2.1 q2.2.1 q2.2.2.1 q2.2.2.2.1 q2.2.2.2.2.1 q2.2.2.2.2.2.1 q2.2.2.2.2.2.2, [(b0, .inr (4, [.ref b1, .ref b3, .int b_s.2.2.1, .int b_s.2.2.2.1, .int b_s.2.2.2.2.1, .int b_s.2.2.2.2.2]))], w_X1 cI cR b1 b2 b_s.1.1 b_s.1.2.1 b_s.1.2.2.1 b_s.1.2.2.2.1 b_s.1.2.2.2.2.1 b_s.1.2.2.2.2.2.1 b_s.1.2.2.2.2.2.2, w_X1 cI cR b3 b4 b_s.2.1.1 b_s.2.1.2.1 b_s.2.1.2.2.1 b_s.2.1.2.2.2.1 b_s.2.1.2.2.2.2.1 b_s.2.1.2.2.2.2.2.1 b_s.2.1.2.2.2.2.2.2] rfl dX4_become_43 (fun H locs Z => ?_)
  refine lv_aload_n hx hb dX4_become_46 rfl (lv_at hl 0 rfl) ?_
  refine lv_aload_n hx hb dX4_become_47 rfl (lv_at hl 1 rfl) ?_
  refine zg_X4_33 X Z 5 rfl rfl dX4_become_48 ?_
  refine zp_X4_33 X Z 0 rfl (Nat.le_of_ble_eq_true rfl) [[(a0, .inr (4, [.ref a1, .ref a3, .int b_s.2.2.1, .int b_s.2.2.2.1, .int b_s.2.2.2.2.1, .int b_s.2.2.2.2.2]))], w_X1 cI cR a1 a2 q1.1 q1.2.1 q1.2.2.1 q1.2.2.2.1 q1.2.2.2.2.1 q1.2.2.2.2.2.1 q1.2.2.2.2.2.2, w_X1 cI cR a3 a4 q2.1 q2.2.1 q2.2.2.1 q2.2.2.2.1 q2.2.2.2.2.1 q2.2.2.2.2.2.1 q2.2.2.2.2.2.2, [(b0, .inr (4, [.ref b1, .ref b3, .int b_s.2.2.1, .int b_s.2.2.2.1, .int b_s.2.2.2.2.1, .int b_s.2.2.2.2.2]))], w_X1 cI cR b1 b2 b_s.1.1 b_s.1.2.1 b_s.1.2.2.1 b_s.1.2.2.2.1 b_s.1.2.2.2.2.1 b_s.1.2.2.2.2.2.1 b_s.1.2.2.2.2.2.2, w_X1 cI cR b3 b4 b_s.2.1.1 b_s.2.1.2.1 b_s.2.1.2.2.1 b_s.2.1.2.2.2.1 b_s.2.1.2.2.2.2.1 b_s.2.1.2.2.2.2.2.1 b_s.2.1.2.2.2.2.2.2] rfl dX4_become_51 (fun H locs Z => ?_)
  have hR := so_s hf
  subst hR
  refine z_vret X hr hlocks ?_ dX4_become_54
  exact Z.eq rfl
def f_X4_begin (a_s : ST) (p1 : Int32) (p2 : Int32) : Option (ST) := (f_X1_begin a_s.1.1 a_s.1.2.2.2.2.1 a_s.1.2.2.2.2.2.1 a_s.1.2.2.2.2.2.2 p1).bind (fun q1 => (f_X1_begin a_s.2.1.1 a_s.2.1.2.2.2.2.1 a_s.2.1.2.2.2.2.2.1 a_s.2.1.2.2.2.2.2.2 p2).bind (fun q2 => some ((q1.1, a_s.1.2.1, a_s.1.2.2.1, a_s.1.2.2.2.1, q1.2.1, q1.2.2.1, q1.2.2.2), (q2.1, a_s.2.1.2.1, a_s.2.1.2.2.1, a_s.2.1.2.2.2.1, q2.2.1, q2.2.2.1, q2.2.2.2), (0 : Int32), (0 : Int32), (0 : Int32), (0 : Int32))))
set_option maxHeartbeats 4000000 in
set_option maxRecDepth 100000 in
theorem c_X4_begin (l : Launch) (D : va_G) (cI cR : ClassId) (a0 : Nat) (a1 : Nat) (a2 : Nat) (a3 : Nat) (a4 : Nat) (a_s : ST) (p1 : Int32) (p2 : Int32) {R : ST} (hf : f_X4_begin a_s p1 p2 = some R) : zM l D cI cR yX4_begin cX4_begin 3 none 2 41 [.ref a0, .int p1, .int p2] [w_X4 cI cR a0 a1 a2 a3 a4 a_s] none [w_X4 cI cR a0 a1 a2 a3 a4 R] := by
  refine z_of (own := RX4) rfl (by decide) (Nat.le_of_ble_eq_true rfl) ?_
  intro p e s m args below meth c A ls X hr hlocks Z hl
  have hx := X.1.1
  have hb := X.1.2.1
  have Z : zW D A s [w_X4 cI cR a0 a1 a2 a3 a4 a_s] s.heap [] := Z
  have hl : lv_has ls 3 [(0, .ref a0), (1, .int p1), (2, .int p2)] := hl
  refine lv_aload_n hx hb dX4_begin_0 rfl (lv_at hl 0 rfl) ?_
  refine zg_X4_10 X Z 0 rfl rfl dX4_begin_1 ?_
  refine lv_iload_n hx hb dX4_begin_4 rfl (lv_at hl 1 rfl) ?_
  have Z : zW D A s [[(a0, .inr (4, [.ref a1, .ref a3, .int a_s.2.2.1, .int a_s.2.2.2.1, .int a_s.2.2.2.2.1, .int a_s.2.2.2.2.2]))], w_X1 cI cR a1 a2 a_s.1.1 a_s.1.2.1 a_s.1.2.2.1 a_s.1.2.2.2.1 a_s.1.2.2.2.2.1 a_s.1.2.2.2.2.2.1 a_s.1.2.2.2.2.2.2, w_X1 cI cR a3 a4 a_s.2.1.1 a_s.2.1.2.1 a_s.2.1.2.2.1 a_s.2.1.2.2.2.1 a_s.2.1.2.2.2.2.1 a_s.2.1.2.2.2.2.2.1 a_s.2.1.2.2.2.2.2.2] _ _ := Z.eq rfl
  obtain ⟨q1, hq1, hf⟩ := ob_s hf
  refine z_callVN X Z (c_X1_begin l D cI cR a1 a2 a_s.1.1 a_s.1.2.1 a_s.1.2.2.1 a_s.1.2.2.2.1 a_s.1.2.2.2.2.1 a_s.1.2.2.2.2.2.1 a_s.1.2.2.2.2.2.2 p1 hq1) (zw_X4_36 X.2.1 X.1.2.2.2.2 ⟨Nat.le_of_ble_eq_true rfl, Nat.le_of_ble_eq_true rfl⟩) 1 1 rfl rfl rfl [1] [0, 2] [[(a0, .inr (4, [.ref a1, .ref a3, .int a_s.2.2.1, .int a_s.2.2.2.1, .int a_s.2.2.2.2.1, .int a_s.2.2.2.2.2]))], w_X1 cI cR a1 a2 q1.1 a_s.1.2.1 a_s.1.2.2.1 a_s.1.2.2.2.1 q1.2.1 q1.2.2.1 q1.2.2.2, w_X1 cI cR a3 a4 a_s.2.1.1 a_s.2.1.2.1 a_s.2.1.2.2.1 a_s.2.1.2.2.2.1 a_s.2.1.2.2.2.2.1 a_s.2.1.2.2.2.2.2.1 a_s.2.1.2.2.2.2.2.2] (by decide : ([1] ++ [0, 2] : List Nat).Perm (List.range 3)) rfl rfl rfl rfl rfl hl.1 rfl (Nat.le_of_ble_eq_true rfl) dX4_begin_5 ⟨Nat.le_of_ble_eq_true rfl, Nat.le_of_ble_eq_true rfl⟩ (fun H locs Z => ?_)
  refine lv_aload_n hx hb dX4_begin_8 rfl (lv_at hl 0 rfl) ?_
  refine zg_X4_16 X Z 0 rfl rfl dX4_begin_9 ?_
  refine lv_iload_n hx hb dX4_begin_12 rfl (lv_at hl 2 rfl) ?_
  obtain ⟨q2, hq2, hf⟩ := ob_s hf
  refine z_callVN X Z (c_X1_begin l D cI cR a3 a4 a_s.2.1.1 a_s.2.1.2.1 a_s.2.1.2.2.1 a_s.2.1.2.2.2.1 a_s.2.1.2.2.2.2.1 a_s.2.1.2.2.2.2.2.1 a_s.2.1.2.2.2.2.2.2 p2 hq2) (zw_X4_36 X.2.1 X.1.2.2.2.2 ⟨Nat.le_of_ble_eq_true rfl, Nat.le_of_ble_eq_true rfl⟩) 3 1 rfl rfl rfl [2] [0, 1] [[(a0, .inr (4, [.ref a1, .ref a3, .int a_s.2.2.1, .int a_s.2.2.2.1, .int a_s.2.2.2.2.1, .int a_s.2.2.2.2.2]))], w_X1 cI cR a1 a2 q1.1 a_s.1.2.1 a_s.1.2.2.1 a_s.1.2.2.2.1 q1.2.1 q1.2.2.1 q1.2.2.2, w_X1 cI cR a3 a4 q2.1 a_s.2.1.2.1 a_s.2.1.2.2.1 a_s.2.1.2.2.2.1 q2.2.1 q2.2.2.1 q2.2.2.2] (by decide : ([2] ++ [0, 1] : List Nat).Perm (List.range 3)) rfl rfl rfl rfl rfl hl.1 rfl (Nat.le_of_ble_eq_true rfl) dX4_begin_13 ⟨Nat.le_of_ble_eq_true rfl, Nat.le_of_ble_eq_true rfl⟩ (fun H locs Z => ?_)
  refine lv_aload_n hx hb dX4_begin_16 rfl (lv_at hl 0 rfl) ?_
  refine lv_iconst (v := 0) hx hb dX4_begin_17 (by decide) ?_
  refine zp_X4_23 X Z 0 rfl (Nat.le_of_ble_eq_true rfl) [[(a0, .inr (4, [.ref a1, .ref a3, .int (0 : Int32), .int a_s.2.2.2.1, .int a_s.2.2.2.2.1, .int a_s.2.2.2.2.2]))], w_X1 cI cR a1 a2 q1.1 a_s.1.2.1 a_s.1.2.2.1 a_s.1.2.2.2.1 q1.2.1 q1.2.2.1 q1.2.2.2, w_X1 cI cR a3 a4 q2.1 a_s.2.1.2.1 a_s.2.1.2.2.1 a_s.2.1.2.2.2.1 q2.2.1 q2.2.2.1 q2.2.2.2] rfl dX4_begin_18 (fun H locs Z => ?_)
  refine lv_aload_n hx hb dX4_begin_21 rfl (lv_at hl 0 rfl) ?_
  refine lv_iconst (v := 0) hx hb dX4_begin_22 (by decide) ?_
  refine zp_X4_27 X Z 0 rfl (Nat.le_of_ble_eq_true rfl) [[(a0, .inr (4, [.ref a1, .ref a3, .int (0 : Int32), .int (0 : Int32), .int a_s.2.2.2.2.1, .int a_s.2.2.2.2.2]))], w_X1 cI cR a1 a2 q1.1 a_s.1.2.1 a_s.1.2.2.1 a_s.1.2.2.2.1 q1.2.1 q1.2.2.1 q1.2.2.2, w_X1 cI cR a3 a4 q2.1 a_s.2.1.2.1 a_s.2.1.2.2.1 a_s.2.1.2.2.2.1 q2.2.1 q2.2.2.1 q2.2.2.2] rfl dX4_begin_23 (fun H locs Z => ?_)
  refine lv_aload_n hx hb dX4_begin_26 rfl (lv_at hl 0 rfl) ?_
  refine lv_iconst (v := 0) hx hb dX4_begin_27 (by decide) ?_
  refine zp_X4_30 X Z 0 rfl (Nat.le_of_ble_eq_true rfl) [[(a0, .inr (4, [.ref a1, .ref a3, .int (0 : Int32), .int (0 : Int32), .int (0 : Int32), .int a_s.2.2.2.2.2]))], w_X1 cI cR a1 a2 q1.1 a_s.1.2.1 a_s.1.2.2.1 a_s.1.2.2.2.1 q1.2.1 q1.2.2.1 q1.2.2.2, w_X1 cI cR a3 a4 q2.1 a_s.2.1.2.1 a_s.2.1.2.2.1 a_s.2.1.2.2.2.1 q2.2.1 q2.2.2.1 q2.2.2.2] rfl dX4_begin_28 (fun H locs Z => ?_)
  refine lv_aload_n hx hb dX4_begin_31 rfl (lv_at hl 0 rfl) ?_
  refine lv_iconst (v := 0) hx hb dX4_begin_32 (by decide) ?_
  refine zp_X4_33 X Z 0 rfl (Nat.le_of_ble_eq_true rfl) [[(a0, .inr (4, [.ref a1, .ref a3, .int (0 : Int32), .int (0 : Int32), .int (0 : Int32), .int (0 : Int32)]))], w_X1 cI cR a1 a2 q1.1 a_s.1.2.1 a_s.1.2.2.1 a_s.1.2.2.2.1 q1.2.1 q1.2.2.1 q1.2.2.2, w_X1 cI cR a3 a4 q2.1 a_s.2.1.2.1 a_s.2.1.2.2.1 a_s.2.1.2.2.2.1 q2.2.1 q2.2.2.1 q2.2.2.2] rfl dX4_begin_33 (fun H locs Z => ?_)
  have hR := so_s hf
  subst hR
  refine z_vret X hr hlocks ?_ dX4_begin_36
  exact Z.eq rfl
set_option maxHeartbeats 4000000 in
set_option maxRecDepth 100000 in
theorem c_X4_juggler_0 (l : Launch) (D : va_G) (cI cR : ClassId) (a0 : Nat) (a1 : Nat) (a2 : Nat) (a_floor : Int32) (a_beatsPassed : Int32) (a_throwsMade : Int32) (a_passesCome : Int32) (p1 : Int32) (h : p1 = 0) : zM l D cI cR yX4_juggler cX4_juggler 2 (some (.object "JugglerStates$Juggler")) 0 0 [.ref a0, .int p1] [[(a0, .inr (4, [.ref a1, .ref a2, .int a_floor, .int a_beatsPassed, .int a_throwsMade, .int a_passesCome]))]] (some (.ref a1)) [[(a0, .inr (4, [.ref a1, .ref a2, .int a_floor, .int a_beatsPassed, .int a_throwsMade, .int a_passesCome]))]] := by
  refine z_of (own := RX4) rfl (by decide) (Nat.le_of_ble_eq_true rfl) ?_
  intro p e s m args below meth c A ls X hr hlocks Z hl
  have hx := X.1.1
  have hb := X.1.2.1
  have Z : zW D A s [[(a0, .inr (4, [.ref a1, .ref a2, .int a_floor, .int a_beatsPassed, .int a_throwsMade, .int a_passesCome]))]] s.heap [] := Z
  have hl : lv_has ls 2 [(0, .ref a0), (1, .int p1)] := hl
  refine lv_iload_n hx hb dX4_juggler_0 rfl (lv_at hl 1 rfl) ?_
  refine lv_if_ne (tgt := 11) hx hb dX4_juggler_1 (by decide) (fun c1 => absurd h c1) (fun _ => ?_)
  refine lv_aload_n hx hb dX4_juggler_4 rfl (lv_at hl 0 rfl) ?_
  refine zg_X4_10 X Z 0 rfl rfl dX4_juggler_5 ?_
  refine lv_goto (tgt := 15) hx hb dX4_juggler_8 (by decide) ?_
  refine z_aret X hr hlocks (Or.inr ⟨_, rfl⟩) ?_ dX4_juggler_15
  exact Z.eq rfl
set_option maxHeartbeats 4000000 in
set_option maxRecDepth 100000 in
theorem c_X4_juggler_1 (l : Launch) (D : va_G) (cI cR : ClassId) (a0 : Nat) (a1 : Nat) (a2 : Nat) (a_floor : Int32) (a_beatsPassed : Int32) (a_throwsMade : Int32) (a_passesCome : Int32) (p1 : Int32) (h : ¬ p1 = 0) : zM l D cI cR yX4_juggler cX4_juggler 2 (some (.object "JugglerStates$Juggler")) 0 0 [.ref a0, .int p1] [[(a0, .inr (4, [.ref a1, .ref a2, .int a_floor, .int a_beatsPassed, .int a_throwsMade, .int a_passesCome]))]] (some (.ref a2)) [[(a0, .inr (4, [.ref a1, .ref a2, .int a_floor, .int a_beatsPassed, .int a_throwsMade, .int a_passesCome]))]] := by
  refine z_of (own := RX4) rfl (by decide) (Nat.le_of_ble_eq_true rfl) ?_
  intro p e s m args below meth c A ls X hr hlocks Z hl
  have hx := X.1.1
  have hb := X.1.2.1
  have Z : zW D A s [[(a0, .inr (4, [.ref a1, .ref a2, .int a_floor, .int a_beatsPassed, .int a_throwsMade, .int a_passesCome]))]] s.heap [] := Z
  have hl : lv_has ls 2 [(0, .ref a0), (1, .int p1)] := hl
  refine lv_iload_n hx hb dX4_juggler_0 rfl (lv_at hl 1 rfl) ?_
  refine lv_if_ne (tgt := 11) hx hb dX4_juggler_1 (by decide) (fun _ => ?_) (fun c1 => absurd c1 h)
  refine lv_aload_n hx hb dX4_juggler_11 rfl (lv_at hl 0 rfl) ?_
  refine zg_X4_16 X Z 0 rfl rfl dX4_juggler_12 ?_
  refine z_aret X hr hlocks (Or.inr ⟨_, rfl⟩) ?_ dX4_juggler_15
  exact Z.eq rfl
def f_X4_clubs (a_s : ST) : Option (Int32) := (f_X1_clubs a_s.1.1).bind (fun q1 => (f_X1_clubs a_s.2.1.1).bind (fun q2 => some ((q1 + q2) + a_s.2.2.1)))
set_option maxHeartbeats 4000000 in
set_option maxRecDepth 100000 in
theorem c_X4_clubs (l : Launch) (D : va_G) (cI cR : ClassId) (a0 : Nat) (a1 : Nat) (a2 : Nat) (a3 : Nat) (a4 : Nat) (a_s : ST) {R : Int32} (hf : f_X4_clubs a_s = some R) : zM l D cI cR yX4_clubs cX4_clubs 1 (some .int) 2 40 [.ref a0] [w_X4 cI cR a0 a1 a2 a3 a4 a_s] (some (.int R)) [w_X4 cI cR a0 a1 a2 a3 a4 a_s] := by
  refine z_of (own := RX4) rfl (by decide) (Nat.le_of_ble_eq_true rfl) ?_
  intro p e s m args below meth c A ls X hr hlocks Z hl
  have hx := X.1.1
  have hb := X.1.2.1
  have Z : zW D A s [w_X4 cI cR a0 a1 a2 a3 a4 a_s] s.heap [] := Z
  have hl : lv_has ls 1 [(0, .ref a0)] := hl
  refine lv_aload_n hx hb dX4_clubs_0 rfl (lv_at hl 0 rfl) ?_
  refine zg_X4_10 X Z 0 rfl rfl dX4_clubs_1 ?_
  have Z : zW D A s [[(a0, .inr (4, [.ref a1, .ref a3, .int a_s.2.2.1, .int a_s.2.2.2.1, .int a_s.2.2.2.2.1, .int a_s.2.2.2.2.2]))], w_X1 cI cR a1 a2 a_s.1.1 a_s.1.2.1 a_s.1.2.2.1 a_s.1.2.2.2.1 a_s.1.2.2.2.2.1 a_s.1.2.2.2.2.2.1 a_s.1.2.2.2.2.2.2, w_X1 cI cR a3 a4 a_s.2.1.1 a_s.2.1.2.1 a_s.2.1.2.2.1 a_s.2.1.2.2.2.1 a_s.2.1.2.2.2.2.1 a_s.2.1.2.2.2.2.2.1 a_s.2.1.2.2.2.2.2.2] _ _ := Z.eq rfl
  obtain ⟨q1, hq1, hf⟩ := ob_s hf
  refine z_roVN X Z (c_X1_clubs l D cI cR a1 a2 a_s.1.1 a_s.1.2.1 a_s.1.2.2.1 a_s.1.2.2.2.1 a_s.1.2.2.2.2.1 a_s.1.2.2.2.2.2.1 a_s.1.2.2.2.2.2.2  hq1) (zw_X4_40 X.2.1 X.1.2.2.2.2 ⟨Nat.le_of_ble_eq_true rfl, Nat.le_of_ble_eq_true rfl⟩) 1 1 rfl rfl rfl [1] [0, 2] (by decide : ([1] ++ [0, 2] : List Nat).Perm (List.range 3)) rfl rfl hl.1 rfl (Nat.le_of_ble_eq_true rfl) dX4_clubs_4 ⟨Nat.le_of_ble_eq_true rfl, Nat.le_of_ble_eq_true rfl⟩ (fun H locs Z => ?_)
  refine lv_aload_n hx hb dX4_clubs_7 rfl (lv_at hl 0 rfl) ?_
  refine zg_X4_16 X Z 0 rfl rfl dX4_clubs_8 ?_
  obtain ⟨q2, hq2, hf⟩ := ob_s hf
  refine z_roVN X Z (c_X1_clubs l D cI cR a3 a4 a_s.2.1.1 a_s.2.1.2.1 a_s.2.1.2.2.1 a_s.2.1.2.2.2.1 a_s.2.1.2.2.2.2.1 a_s.2.1.2.2.2.2.2.1 a_s.2.1.2.2.2.2.2.2  hq2) (zw_X4_40 X.2.1 X.1.2.2.2.2 ⟨Nat.le_of_ble_eq_true rfl, Nat.le_of_ble_eq_true rfl⟩) 3 1 rfl rfl rfl [2] [0, 1] (by decide : ([2] ++ [0, 1] : List Nat).Perm (List.range 3)) rfl rfl hl.1 rfl (Nat.le_of_ble_eq_true rfl) dX4_clubs_11 ⟨Nat.le_of_ble_eq_true rfl, Nat.le_of_ble_eq_true rfl⟩ (fun H locs Z => ?_)
  refine lv_iadd hx hb dX4_clubs_14 ?_
  refine lv_aload_n hx hb dX4_clubs_15 rfl (lv_at hl 0 rfl) ?_
  refine zg_X4_23 X Z 0 rfl rfl dX4_clubs_16 ?_
  refine lv_iadd hx hb dX4_clubs_19 ?_
  have hR := so_s hf
  subst hR
  refine z_iret X hr hlocks ?_ dX4_clubs_20
  exact Z.eq rfl
def f_X4_letThrow (a_floor : Int32) (a_throwsMade : Int32) (a_passesCome : Int32) (b_state : Int32) (b_heights : (Nat → Int32)) (b_passPlaces : Int32) (b_place : Int32) (b_slips : Int32) (b_clashes : Int32) (d_state : Int32) : Option (Int32 × Int32 × Int32 × Int32 × Int32 × Int32 × Int32) := (f_X1_expects b_state (0 : Int32)).bind (fun q1 => if q1 = 0 then (some (a_floor, a_throwsMade, a_passesCome, b_state, b_slips, b_clashes, d_state)) else ((f_X1_heightAt b_heights b_place).bind (fun q3 => (f_X1_isPassAt b_passPlaces b_place).bind (fun q4 => if q4 = 0 then (if q3 = 0 then (some (a_floor + (1 : Int32), a_throwsMade + (1 : Int32), a_passesCome, b_state, b_slips + (1 : Int32), b_clashes, d_state)) else ((f_X1_expects b_state q3).bind (fun q7 => if q7 = 0 then ((f_X1_expect b_state q3).bind (fun q9 => (f_X7_oneIf q4).bind (fun q10 => some (a_floor, a_throwsMade + (1 : Int32), a_passesCome + q10, q9, b_slips, b_clashes, d_state)))) else (some (a_floor + (1 : Int32), a_throwsMade + (1 : Int32), a_passesCome, b_state, b_slips, b_clashes + (1 : Int32), d_state))))) else (if q3 = 0 then (some (a_floor + (1 : Int32), a_throwsMade + (1 : Int32), a_passesCome, b_state, b_slips + (1 : Int32), b_clashes, d_state)) else ((f_X1_expects d_state q3).bind (fun q12 => if q12 = 0 then ((f_X1_expect d_state q3).bind (fun q14 => (f_X7_oneIf q4).bind (fun q15 => some (a_floor, a_throwsMade + (1 : Int32), a_passesCome + q15, b_state, b_slips, b_clashes, q14)))) else (some (a_floor + (1 : Int32), a_throwsMade + (1 : Int32), a_passesCome, b_state, b_slips, b_clashes + (1 : Int32), d_state)))))))))
set_option maxHeartbeats 4000000 in
set_option maxRecDepth 100000 in
theorem c_X4_letThrow (l : Launch) (D : va_G) (cI cR : ClassId) (a0 : Nat) (a1 : Nat) (a2 : Nat) (b0 : Nat) (b1 : Nat) (d0 : Nat) (d1 : Nat) (a_floor : Int32) (a_beatsPassed : Int32) (a_throwsMade : Int32) (a_passesCome : Int32) (b_state : Int32) (b_heights : (Nat → Int32)) (b_passPlaces : Int32) (b_programLength : Int32) (b_place : Int32) (b_slips : Int32) (b_clashes : Int32) (d_state : Int32) (d_heights : (Nat → Int32)) (d_passPlaces : Int32) (d_programLength : Int32) (d_place : Int32) (d_slips : Int32) (d_clashes : Int32) {R : Int32 × Int32 × Int32 × Int32 × Int32 × Int32 × Int32} (hf : f_X4_letThrow a_floor a_throwsMade a_passesCome b_state b_heights b_passPlaces b_place b_slips b_clashes d_state = some R) : zM l D cI cR yX4_letThrow cX4_letThrow 6 none 2 42 [.ref a0, .ref b0, .ref d0] [[(a0, .inr (4, [.ref a1, .ref a2, .int a_floor, .int a_beatsPassed, .int a_throwsMade, .int a_passesCome]))], w_X1 cI cR b0 b1 b_state b_heights b_passPlaces b_programLength b_place b_slips b_clashes, w_X1 cI cR d0 d1 d_state d_heights d_passPlaces d_programLength d_place d_slips d_clashes] none [[(a0, .inr (4, [.ref a1, .ref a2, .int R.1, .int a_beatsPassed, .int R.2.1, .int R.2.2.1]))], w_X1 cI cR b0 b1 R.2.2.2.1 b_heights b_passPlaces b_programLength b_place R.2.2.2.2.1 R.2.2.2.2.2.1, w_X1 cI cR d0 d1 R.2.2.2.2.2.2 d_heights d_passPlaces d_programLength d_place d_slips d_clashes] := by
  refine z_of (own := RX4) rfl (by decide) (Nat.le_of_ble_eq_true rfl) ?_
  intro p e s m args below meth c A ls X hr hlocks Z hl
  have hx := X.1.1
  have hb := X.1.2.1
  have Z : zW D A s [[(a0, .inr (4, [.ref a1, .ref a2, .int a_floor, .int a_beatsPassed, .int a_throwsMade, .int a_passesCome]))], w_X1 cI cR b0 b1 b_state b_heights b_passPlaces b_programLength b_place b_slips b_clashes, w_X1 cI cR d0 d1 d_state d_heights d_passPlaces d_programLength d_place d_slips d_clashes] s.heap [] := Z
  have hl : lv_has ls 6 [(0, .ref a0), (1, .ref b0), (2, .ref d0)] := hl
  refine lv_aload_n hx hb dX4_letThrow_0 rfl (lv_at hl 1 rfl) ?_
  refine lv_iconst (v := 0) hx hb dX4_letThrow_1 (by decide) ?_
  obtain ⟨q1, hq1, hf⟩ := ob_s hf
  refine z_roVN X Z (c_X1_expects l D cI cR b0 b1 b_state b_heights b_passPlaces b_programLength b_place b_slips b_clashes (0 : Int32) hq1) (zw_X4_51 X.2.1 X.1.2.2.2.2 ⟨Nat.le_of_ble_eq_true rfl, Nat.le_of_ble_eq_true rfl⟩) 1 1 rfl rfl rfl [1] [0, 2] (by decide : ([1] ++ [0, 2] : List Nat).Perm (List.range 3)) rfl rfl hl.1 rfl (Nat.le_of_ble_eq_true rfl) dX4_letThrow_2 ⟨Nat.le_of_ble_eq_true rfl, Nat.le_of_ble_eq_true rfl⟩ (fun H locs Z => ?_)
  refine lv_if_ne (tgt := 9) hx hb dX4_letThrow_5 (by decide) (fun c2 => ?_) (fun c2 => ?_)
  · have hf := it_f c2 hf
    refine lv_aload_n hx hb dX4_letThrow_9 rfl (lv_at hl 0 rfl) ?_
    refine lv_dup hx hb dX4_letThrow_10 rfl ?_
    refine zg_X4_30 X Z 0 rfl rfl dX4_letThrow_11 ?_
    refine lv_iconst (v := 1) hx hb dX4_letThrow_14 (by decide) ?_
    refine lv_iadd hx hb dX4_letThrow_15 ?_
    refine zp_X4_30 X Z 0 rfl (Nat.le_of_ble_eq_true rfl) [[(a0, .inr (4, [.ref a1, .ref a2, .int a_floor, .int a_beatsPassed, .int (a_throwsMade + (1 : Int32)), .int a_passesCome]))], w_X1 cI cR b0 b1 b_state b_heights b_passPlaces b_programLength b_place b_slips b_clashes, w_X1 cI cR d0 d1 d_state d_heights d_passPlaces d_programLength d_place d_slips d_clashes] rfl dX4_letThrow_16 (fun H locs Z => ?_)
    refine lv_aload_n hx hb dX4_letThrow_19 rfl (lv_at hl 1 rfl) ?_
    refine lv_aload_n hx hb dX4_letThrow_20 rfl (lv_at hl 1 rfl) ?_
    refine zg_X4_55 X Z 1 rfl rfl dX4_letThrow_21 ?_
    obtain ⟨q3, hq3, hf⟩ := ob_s hf
    refine z_roVN X Z (c_X1_heightAt l D cI cR b0 b1 b_state b_heights b_passPlaces b_programLength b_place b_slips b_clashes b_place hq3) (zw_X4_58 X.2.1 X.1.2.2.2.2 ⟨Nat.le_of_ble_eq_true rfl, Nat.le_of_ble_eq_true rfl⟩) 1 1 rfl rfl rfl [1] [0, 2] (by decide : ([1] ++ [0, 2] : List Nat).Perm (List.range 3)) rfl rfl hl.1 rfl (Nat.le_of_ble_eq_true rfl) dX4_letThrow_24 ⟨Nat.le_of_ble_eq_true rfl, Nat.le_of_ble_eq_true rfl⟩ (fun H locs Z => ?_)
    refine lv_istore_n (lv' := [(3, .int q3), (0, .ref a0), (1, .ref b0), (2, .ref d0)]) hx hb dX4_letThrow_27 rfl hl (by decide) rfl (fun ls hl => ?_)
    refine lv_aload_n hx hb dX4_letThrow_28 rfl (lv_at hl 2 rfl) ?_
    refine lv_aload_n hx hb dX4_letThrow_29 rfl (lv_at hl 2 rfl) ?_
    refine zg_X4_55 X Z 1 rfl rfl dX4_letThrow_30 ?_
    obtain ⟨q4, hq4, hf⟩ := ob_s hf
    refine z_roVN X Z (c_X1_isPassAt l D cI cR b0 b1 b_state b_heights b_passPlaces b_programLength b_place b_slips b_clashes b_place hq4) (zw_X4_62 X.2.1 X.1.2.2.2.2 ⟨Nat.le_of_ble_eq_true rfl, Nat.le_of_ble_eq_true rfl⟩) 1 1 rfl rfl rfl [1] [0, 2] (by decide : ([1] ++ [0, 2] : List Nat).Perm (List.range 3)) rfl rfl hl.1 rfl (Nat.le_of_ble_eq_true rfl) dX4_letThrow_33 ⟨Nat.le_of_ble_eq_true rfl, Nat.le_of_ble_eq_true rfl⟩ (fun H locs Z => ?_)
    refine lv_istore (lv' := [(4, .int q4), (3, .int q3), (0, .ref a0), (1, .ref b0), (2, .ref d0)]) hx hb dX4_letThrow_36 hl (by decide) rfl (fun ls hl => ?_)
    refine lv_iload hx hb dX4_letThrow_38 (lv_at hl 0 rfl) ?_
    refine lv_if_eq (tgt := 47) hx hb dX4_letThrow_40 (by decide) (fun c5 => ?_) (fun c5 => ?_)
    · have hf := it_t c5 hf
      refine lv_aload_n hx hb dX4_letThrow_47 rfl (lv_at hl 3 rfl) ?_
      refine lv_astore (lv' := [(5, .ref b0), (4, .int q4), (3, .int q3), (0, .ref a0), (1, .ref b0), (2, .ref d0)]) hx hb dX4_letThrow_48 hl (by decide) rfl (fun ls hl => ?_)
      refine lv_iload_n hx hb dX4_letThrow_50 rfl (lv_at hl 2 rfl) ?_
      refine lv_if_ne (tgt := 77) hx hb dX4_letThrow_51 (by decide) (fun c6 => ?_) (fun c6 => ?_)
      · have hf := it_f c6 hf
        refine lv_aload hx hb dX4_letThrow_77 (lv_at hl 0 rfl) ?_
        refine lv_iload_n hx hb dX4_letThrow_79 rfl (lv_at hl 2 rfl) ?_
        obtain ⟨q7, hq7, hf⟩ := ob_s hf
        refine z_roVN X Z (c_X1_expects l D cI cR b0 b1 b_state b_heights b_passPlaces b_programLength b_place b_slips b_clashes q3 hq7) (zw_X4_51 X.2.1 X.1.2.2.2.2 ⟨Nat.le_of_ble_eq_true rfl, Nat.le_of_ble_eq_true rfl⟩) 1 1 rfl rfl rfl [1] [0, 2] (by decide : ([1] ++ [0, 2] : List Nat).Perm (List.range 3)) rfl rfl hl.1 rfl (Nat.le_of_ble_eq_true rfl) dX4_letThrow_80 ⟨Nat.le_of_ble_eq_true rfl, Nat.le_of_ble_eq_true rfl⟩ (fun H locs Z => ?_)
        refine lv_if_eq (tgt := 109) hx hb dX4_letThrow_83 (by decide) (fun c8 => ?_) (fun c8 => ?_)
        · have hf := it_t c8 hf
          refine lv_aload hx hb dX4_letThrow_109 (lv_at hl 0 rfl) ?_
          refine lv_iload_n hx hb dX4_letThrow_111 rfl (lv_at hl 2 rfl) ?_
          obtain ⟨q9, hq9, hf⟩ := ob_s hf
          refine z_callVN X Z (c_X1_expect l D cI cR b0 b1 b_state b_heights b_passPlaces b_programLength b_place b_slips b_clashes q3 hq9) (zw_X4_71 X.2.1 X.1.2.2.2.2 ⟨Nat.le_of_ble_eq_true rfl, Nat.le_of_ble_eq_true rfl⟩) 1 1 rfl rfl rfl [1] [0, 2] [[(a0, .inr (4, [.ref a1, .ref a2, .int a_floor, .int a_beatsPassed, .int (a_throwsMade + (1 : Int32)), .int a_passesCome]))], w_X1 cI cR b0 b1 q9 b_heights b_passPlaces b_programLength b_place b_slips b_clashes, w_X1 cI cR d0 d1 d_state d_heights d_passPlaces d_programLength d_place d_slips d_clashes] (by decide : ([1] ++ [0, 2] : List Nat).Perm (List.range 3)) rfl rfl rfl rfl rfl hl.1 rfl (Nat.le_of_ble_eq_true rfl) dX4_letThrow_112 ⟨Nat.le_of_ble_eq_true rfl, Nat.le_of_ble_eq_true rfl⟩ (fun H locs Z => ?_)
          refine lv_aload_n hx hb dX4_letThrow_115 rfl (lv_at hl 3 rfl) ?_
          refine lv_dup hx hb dX4_letThrow_116 rfl ?_
          refine zg_X4_33 X Z 0 rfl rfl dX4_letThrow_117 ?_
          refine lv_iload hx hb dX4_letThrow_120 (lv_at hl 1 rfl) ?_
          obtain ⟨q10, hq10, hf⟩ := ob_s hf
          refine z_roSN X Z (c_X7_oneIf l D cI cR   q4 hq10) (zw_X4_74 X.2.1 X.1.2.2.2.2 ⟨Nat.le_of_ble_eq_true rfl, Nat.le_of_ble_eq_true rfl⟩) [] [0, 1, 2] (by decide : ([] ++ [0, 1, 2] : List Nat).Perm (List.range 3)) rfl rfl hl.1 rfl (Nat.le_of_ble_eq_true rfl) dX4_letThrow_122 ⟨Nat.le_of_ble_eq_true rfl, Nat.le_of_ble_eq_true rfl⟩ (fun H locs Z => ?_)
          refine lv_iadd hx hb dX4_letThrow_125 ?_
          refine zp_X4_33 X Z 0 rfl (Nat.le_of_ble_eq_true rfl) [[(a0, .inr (4, [.ref a1, .ref a2, .int a_floor, .int a_beatsPassed, .int (a_throwsMade + (1 : Int32)), .int (a_passesCome + q10)]))], w_X1 cI cR b0 b1 q9 b_heights b_passPlaces b_programLength b_place b_slips b_clashes, w_X1 cI cR d0 d1 d_state d_heights d_passPlaces d_programLength d_place d_slips d_clashes] rfl dX4_letThrow_126 (fun H locs Z => ?_)
          have hR := so_s hf
          subst hR
          refine z_vret X hr hlocks ?_ dX4_letThrow_129
          exact Z.eq rfl
        · have hf := it_f c8 hf
          refine lv_aload_n hx hb dX4_letThrow_86 rfl (lv_at hl 4 rfl) ?_
          refine lv_dup hx hb dX4_letThrow_87 rfl ?_
          refine zg_X4_68 X Z 1 rfl rfl dX4_letThrow_88 ?_
          refine lv_iconst (v := 1) hx hb dX4_letThrow_91 (by decide) ?_
          refine lv_iadd hx hb dX4_letThrow_92 ?_
          refine zp_X4_68 X Z 1 rfl (Nat.le_of_ble_eq_true rfl) [[(a0, .inr (4, [.ref a1, .ref a2, .int a_floor, .int a_beatsPassed, .int (a_throwsMade + (1 : Int32)), .int a_passesCome]))], w_X1 cI cR b0 b1 b_state b_heights b_passPlaces b_programLength b_place b_slips (b_clashes + (1 : Int32)), w_X1 cI cR d0 d1 d_state d_heights d_passPlaces d_programLength d_place d_slips d_clashes] rfl dX4_letThrow_93 (fun H locs Z => ?_)
          refine lv_aload_n hx hb dX4_letThrow_96 rfl (lv_at hl 3 rfl) ?_
          refine lv_dup hx hb dX4_letThrow_97 rfl ?_
          refine zg_X4_23 X Z 0 rfl rfl dX4_letThrow_98 ?_
          refine lv_iconst (v := 1) hx hb dX4_letThrow_101 (by decide) ?_
          refine lv_iadd hx hb dX4_letThrow_102 ?_
          refine zp_X4_23 X Z 0 rfl (Nat.le_of_ble_eq_true rfl) [[(a0, .inr (4, [.ref a1, .ref a2, .int (a_floor + (1 : Int32)), .int a_beatsPassed, .int (a_throwsMade + (1 : Int32)), .int a_passesCome]))], w_X1 cI cR b0 b1 b_state b_heights b_passPlaces b_programLength b_place b_slips (b_clashes + (1 : Int32)), w_X1 cI cR d0 d1 d_state d_heights d_passPlaces d_programLength d_place d_slips d_clashes] rfl dX4_letThrow_103 (fun H locs Z => ?_)
          refine lv_goto (tgt := 129) hx hb dX4_letThrow_106 (by decide) ?_
          have hR := so_s hf
          subst hR
          refine z_vret X hr hlocks ?_ dX4_letThrow_129
          exact Z.eq rfl
      · have hf := it_t c6 hf
        refine lv_aload_n hx hb dX4_letThrow_54 rfl (lv_at hl 4 rfl) ?_
        refine lv_dup hx hb dX4_letThrow_55 rfl ?_
        refine zg_X4_65 X Z 1 rfl rfl dX4_letThrow_56 ?_
        refine lv_iconst (v := 1) hx hb dX4_letThrow_59 (by decide) ?_
        refine lv_iadd hx hb dX4_letThrow_60 ?_
        refine zp_X4_65 X Z 1 rfl (Nat.le_of_ble_eq_true rfl) [[(a0, .inr (4, [.ref a1, .ref a2, .int a_floor, .int a_beatsPassed, .int (a_throwsMade + (1 : Int32)), .int a_passesCome]))], w_X1 cI cR b0 b1 b_state b_heights b_passPlaces b_programLength b_place (b_slips + (1 : Int32)) b_clashes, w_X1 cI cR d0 d1 d_state d_heights d_passPlaces d_programLength d_place d_slips d_clashes] rfl dX4_letThrow_61 (fun H locs Z => ?_)
        refine lv_aload_n hx hb dX4_letThrow_64 rfl (lv_at hl 3 rfl) ?_
        refine lv_dup hx hb dX4_letThrow_65 rfl ?_
        refine zg_X4_23 X Z 0 rfl rfl dX4_letThrow_66 ?_
        refine lv_iconst (v := 1) hx hb dX4_letThrow_69 (by decide) ?_
        refine lv_iadd hx hb dX4_letThrow_70 ?_
        refine zp_X4_23 X Z 0 rfl (Nat.le_of_ble_eq_true rfl) [[(a0, .inr (4, [.ref a1, .ref a2, .int (a_floor + (1 : Int32)), .int a_beatsPassed, .int (a_throwsMade + (1 : Int32)), .int a_passesCome]))], w_X1 cI cR b0 b1 b_state b_heights b_passPlaces b_programLength b_place (b_slips + (1 : Int32)) b_clashes, w_X1 cI cR d0 d1 d_state d_heights d_passPlaces d_programLength d_place d_slips d_clashes] rfl dX4_letThrow_71 (fun H locs Z => ?_)
        refine lv_goto (tgt := 129) hx hb dX4_letThrow_74 (by decide) ?_
        have hR := so_s hf
        subst hR
        refine z_vret X hr hlocks ?_ dX4_letThrow_129
        exact Z.eq rfl
    · have hf := it_f c5 hf
      refine lv_aload_n hx hb dX4_letThrow_43 rfl (lv_at hl 4 rfl) ?_
      refine lv_goto (tgt := 48) hx hb dX4_letThrow_44 (by decide) ?_
      refine lv_astore (lv' := [(5, .ref d0), (4, .int q4), (3, .int q3), (0, .ref a0), (1, .ref b0), (2, .ref d0)]) hx hb dX4_letThrow_48 hl (by decide) rfl (fun ls hl => ?_)
      refine lv_iload_n hx hb dX4_letThrow_50 rfl (lv_at hl 2 rfl) ?_
      refine lv_if_ne (tgt := 77) hx hb dX4_letThrow_51 (by decide) (fun c11 => ?_) (fun c11 => ?_)
      · have hf := it_f c11 hf
        refine lv_aload hx hb dX4_letThrow_77 (lv_at hl 0 rfl) ?_
        refine lv_iload_n hx hb dX4_letThrow_79 rfl (lv_at hl 2 rfl) ?_
        obtain ⟨q12, hq12, hf⟩ := ob_s hf
        refine z_roVN X Z (c_X1_expects l D cI cR d0 d1 d_state d_heights d_passPlaces d_programLength d_place d_slips d_clashes q3 hq12) (zw_X4_51 X.2.1 X.1.2.2.2.2 ⟨Nat.le_of_ble_eq_true rfl, Nat.le_of_ble_eq_true rfl⟩) 3 1 rfl rfl rfl [2] [0, 1] (by decide : ([2] ++ [0, 1] : List Nat).Perm (List.range 3)) rfl rfl hl.1 rfl (Nat.le_of_ble_eq_true rfl) dX4_letThrow_80 ⟨Nat.le_of_ble_eq_true rfl, Nat.le_of_ble_eq_true rfl⟩ (fun H locs Z => ?_)
        refine lv_if_eq (tgt := 109) hx hb dX4_letThrow_83 (by decide) (fun c13 => ?_) (fun c13 => ?_)
        · have hf := it_t c13 hf
          refine lv_aload hx hb dX4_letThrow_109 (lv_at hl 0 rfl) ?_
          refine lv_iload_n hx hb dX4_letThrow_111 rfl (lv_at hl 2 rfl) ?_
          obtain ⟨q14, hq14, hf⟩ := ob_s hf
          refine z_callVN X Z (c_X1_expect l D cI cR d0 d1 d_state d_heights d_passPlaces d_programLength d_place d_slips d_clashes q3 hq14) (zw_X4_71 X.2.1 X.1.2.2.2.2 ⟨Nat.le_of_ble_eq_true rfl, Nat.le_of_ble_eq_true rfl⟩) 3 1 rfl rfl rfl [2] [0, 1] [[(a0, .inr (4, [.ref a1, .ref a2, .int a_floor, .int a_beatsPassed, .int (a_throwsMade + (1 : Int32)), .int a_passesCome]))], w_X1 cI cR b0 b1 b_state b_heights b_passPlaces b_programLength b_place b_slips b_clashes, w_X1 cI cR d0 d1 q14 d_heights d_passPlaces d_programLength d_place d_slips d_clashes] (by decide : ([2] ++ [0, 1] : List Nat).Perm (List.range 3)) rfl rfl rfl rfl rfl hl.1 rfl (Nat.le_of_ble_eq_true rfl) dX4_letThrow_112 ⟨Nat.le_of_ble_eq_true rfl, Nat.le_of_ble_eq_true rfl⟩ (fun H locs Z => ?_)
          refine lv_aload_n hx hb dX4_letThrow_115 rfl (lv_at hl 3 rfl) ?_
          refine lv_dup hx hb dX4_letThrow_116 rfl ?_
          refine zg_X4_33 X Z 0 rfl rfl dX4_letThrow_117 ?_
          refine lv_iload hx hb dX4_letThrow_120 (lv_at hl 1 rfl) ?_
          obtain ⟨q15, hq15, hf⟩ := ob_s hf
          refine z_roSN X Z (c_X7_oneIf l D cI cR   q4 hq15) (zw_X4_74 X.2.1 X.1.2.2.2.2 ⟨Nat.le_of_ble_eq_true rfl, Nat.le_of_ble_eq_true rfl⟩) [] [0, 1, 2] (by decide : ([] ++ [0, 1, 2] : List Nat).Perm (List.range 3)) rfl rfl hl.1 rfl (Nat.le_of_ble_eq_true rfl) dX4_letThrow_122 ⟨Nat.le_of_ble_eq_true rfl, Nat.le_of_ble_eq_true rfl⟩ (fun H locs Z => ?_)
          refine lv_iadd hx hb dX4_letThrow_125 ?_
          refine zp_X4_33 X Z 0 rfl (Nat.le_of_ble_eq_true rfl) [[(a0, .inr (4, [.ref a1, .ref a2, .int a_floor, .int a_beatsPassed, .int (a_throwsMade + (1 : Int32)), .int (a_passesCome + q15)]))], w_X1 cI cR b0 b1 b_state b_heights b_passPlaces b_programLength b_place b_slips b_clashes, w_X1 cI cR d0 d1 q14 d_heights d_passPlaces d_programLength d_place d_slips d_clashes] rfl dX4_letThrow_126 (fun H locs Z => ?_)
          have hR := so_s hf
          subst hR
          refine z_vret X hr hlocks ?_ dX4_letThrow_129
          exact Z.eq rfl
        · have hf := it_f c13 hf
          refine lv_aload_n hx hb dX4_letThrow_86 rfl (lv_at hl 4 rfl) ?_
          refine lv_dup hx hb dX4_letThrow_87 rfl ?_
          refine zg_X4_68 X Z 1 rfl rfl dX4_letThrow_88 ?_
          refine lv_iconst (v := 1) hx hb dX4_letThrow_91 (by decide) ?_
          refine lv_iadd hx hb dX4_letThrow_92 ?_
          refine zp_X4_68 X Z 1 rfl (Nat.le_of_ble_eq_true rfl) [[(a0, .inr (4, [.ref a1, .ref a2, .int a_floor, .int a_beatsPassed, .int (a_throwsMade + (1 : Int32)), .int a_passesCome]))], w_X1 cI cR b0 b1 b_state b_heights b_passPlaces b_programLength b_place b_slips (b_clashes + (1 : Int32)), w_X1 cI cR d0 d1 d_state d_heights d_passPlaces d_programLength d_place d_slips d_clashes] rfl dX4_letThrow_93 (fun H locs Z => ?_)
          refine lv_aload_n hx hb dX4_letThrow_96 rfl (lv_at hl 3 rfl) ?_
          refine lv_dup hx hb dX4_letThrow_97 rfl ?_
          refine zg_X4_23 X Z 0 rfl rfl dX4_letThrow_98 ?_
          refine lv_iconst (v := 1) hx hb dX4_letThrow_101 (by decide) ?_
          refine lv_iadd hx hb dX4_letThrow_102 ?_
          refine zp_X4_23 X Z 0 rfl (Nat.le_of_ble_eq_true rfl) [[(a0, .inr (4, [.ref a1, .ref a2, .int (a_floor + (1 : Int32)), .int a_beatsPassed, .int (a_throwsMade + (1 : Int32)), .int a_passesCome]))], w_X1 cI cR b0 b1 b_state b_heights b_passPlaces b_programLength b_place b_slips (b_clashes + (1 : Int32)), w_X1 cI cR d0 d1 d_state d_heights d_passPlaces d_programLength d_place d_slips d_clashes] rfl dX4_letThrow_103 (fun H locs Z => ?_)
          refine lv_goto (tgt := 129) hx hb dX4_letThrow_106 (by decide) ?_
          have hR := so_s hf
          subst hR
          refine z_vret X hr hlocks ?_ dX4_letThrow_129
          exact Z.eq rfl
      · have hf := it_t c11 hf
        refine lv_aload_n hx hb dX4_letThrow_54 rfl (lv_at hl 4 rfl) ?_
        refine lv_dup hx hb dX4_letThrow_55 rfl ?_
        refine zg_X4_65 X Z 1 rfl rfl dX4_letThrow_56 ?_
        refine lv_iconst (v := 1) hx hb dX4_letThrow_59 (by decide) ?_
        refine lv_iadd hx hb dX4_letThrow_60 ?_
        refine zp_X4_65 X Z 1 rfl (Nat.le_of_ble_eq_true rfl) [[(a0, .inr (4, [.ref a1, .ref a2, .int a_floor, .int a_beatsPassed, .int (a_throwsMade + (1 : Int32)), .int a_passesCome]))], w_X1 cI cR b0 b1 b_state b_heights b_passPlaces b_programLength b_place (b_slips + (1 : Int32)) b_clashes, w_X1 cI cR d0 d1 d_state d_heights d_passPlaces d_programLength d_place d_slips d_clashes] rfl dX4_letThrow_61 (fun H locs Z => ?_)
        refine lv_aload_n hx hb dX4_letThrow_64 rfl (lv_at hl 3 rfl) ?_
        refine lv_dup hx hb dX4_letThrow_65 rfl ?_
        refine zg_X4_23 X Z 0 rfl rfl dX4_letThrow_66 ?_
        refine lv_iconst (v := 1) hx hb dX4_letThrow_69 (by decide) ?_
        refine lv_iadd hx hb dX4_letThrow_70 ?_
        refine zp_X4_23 X Z 0 rfl (Nat.le_of_ble_eq_true rfl) [[(a0, .inr (4, [.ref a1, .ref a2, .int (a_floor + (1 : Int32)), .int a_beatsPassed, .int (a_throwsMade + (1 : Int32)), .int a_passesCome]))], w_X1 cI cR b0 b1 b_state b_heights b_passPlaces b_programLength b_place (b_slips + (1 : Int32)) b_clashes, w_X1 cI cR d0 d1 d_state d_heights d_passPlaces d_programLength d_place d_slips d_clashes] rfl dX4_letThrow_71 (fun H locs Z => ?_)
        refine lv_goto (tgt := 129) hx hb dX4_letThrow_74 (by decide) ?_
        have hR := so_s hf
        subst hR
        refine z_vret X hr hlocks ?_ dX4_letThrow_129
        exact Z.eq rfl
  · have hf := it_t c2 hf
    have hR := so_s hf
    subst hR
    refine z_vret X hr hlocks ?_ dX4_letThrow_8
    exact Z.eq rfl
def f_X4_play_L7 (x1 : Int32) (x2 : Int32) : Nat → Int32 → ST → Option (Int32 × ST)
  | 0, _, _ => none
  | n + 1, x3, a_s => if x1 ≤ x3 then (some (a_s.2.2.1 - x2, (a_s.1, a_s.2.1, a_s.2.2.1, a_s.2.2.2.1 + x1, a_s.2.2.2.2.1, a_s.2.2.2.2.2))) else ((f_X4_letThrow a_s.2.2.1 a_s.2.2.2.2.1 a_s.2.2.2.2.2 a_s.1.1 a_s.1.2.1 a_s.1.2.2.1 a_s.1.2.2.2.2.1 a_s.1.2.2.2.2.2.1 a_s.1.2.2.2.2.2.2 a_s.2.1.1).bind (fun q2 => (f_X4_letThrow q2.1 q2.2.1 q2.2.2.1 q2.2.2.2.2.2.2 a_s.2.1.2.1 a_s.2.1.2.2.1 a_s.2.1.2.2.2.2.1 a_s.2.1.2.2.2.2.2.1 a_s.2.1.2.2.2.2.2.2 q2.2.2.2.1).bind (fun q3 => (f_X1_endBeat q3.2.2.2.2.2.2 a_s.1.2.2.2.1 a_s.1.2.2.2.2.1).bind (fun q4 => (f_X1_endBeat q3.2.2.2.1 a_s.2.1.2.2.2.1 a_s.2.1.2.2.2.2.1).bind (fun q5 => f_X4_play_L7 x1 x2 n (x3 + (1 : Int32)) ((q4.1, a_s.1.2.1, a_s.1.2.2.1, a_s.1.2.2.2.1, q4.2, q2.2.2.2.2.1, q2.2.2.2.2.2.1), (q5.1, a_s.2.1.2.1, a_s.2.1.2.2.1, a_s.2.1.2.2.2.1, q5.2, q3.2.2.2.2.1, q3.2.2.2.2.2.1), q3.1, a_s.2.2.2.1, q3.2.1, q3.2.2.1))))))
set_option maxHeartbeats 4000000 in
set_option maxRecDepth 100000 in
theorem w_X4_play_L7 {p : Program} {l : Launch} {e : Env} {s : State} {m : MethodId} {args : Array Value} {below : List Frame} {meth : Method} {c : Code} {D : va_G} {cI cR : ClassId} {A : Nat → Prop} {a0 : Nat} {a1 : Nat} {a2 : Nat} {a3 : Nat} {a4 : Nat} {x1 : Int32} {x2 : Int32} {R : Int32 × ST} (X : zX p s m c cX4_play 4 args RX4 D cI cR A) (hr : meth.sig.returnType = (some .int)) (hlocks : meth.locks = false) : ∀ (n : Nat)  {x3 : Int32} {a_s : ST} {H : Heap} {locs : List Loc} {ls : Array Slot}, f_X4_play_L7 x1 x2 n x3 a_s = some R → zW D A s [w_X4 cI cR a0 a1 a2 a3 a4 a_s] H locs → lv_has ls 4 [(0, .ref a0), (1, .int x1), (2, .int x2), (3, .int x3)] → W p l e ({ frames := 3, cells := 0, slots := 0, locals := 67 } : Room) s m args below meth c H locs 0 0 (zE D A below s args (some (.int R.1)) [w_X4 cI cR a0 a1 a2 a3 a4 R.2]) (F0 m 7 ls []) := by
  have hx := X.1.1
  have hb := X.1.2.1
  intro n
  induction n with
  | zero =>
    intro x3 a_s H locs ls hf
    have hf : none = some R := hf
    cases hf
  | succ n ih =>
    intro x3 a_s H locs ls hf Z hl
    refine lv_iload_n hx hb dX4_play_7 rfl (lv_at hl 3 rfl) ?_
    refine lv_iload_n hx hb dX4_play_8 rfl (lv_at hl 1 rfl) ?_
    refine lv_icmp_ge (tgt := 56) hx hb dX4_play_9 (by decide) (fun c1 => ?_) (fun c1 => ?_)
    · have hf := it_t c1 hf
      refine lv_aload_n hx hb dX4_play_56 rfl (lv_at hl 0 rfl) ?_
      refine lv_dup hx hb dX4_play_57 rfl ?_
      refine zg_X4_27 X Z 0 rfl rfl dX4_play_58 ?_
      refine lv_iload_n hx hb dX4_play_61 rfl (lv_at hl 1 rfl) ?_
      refine lv_iadd hx hb dX4_play_62 ?_
      refine zp_X4_27 X Z 0 rfl (Nat.le_of_ble_eq_true rfl) [w_X4 cI cR a0 a1 a2 a3 a4 (a_s.1, a_s.2.1, a_s.2.2.1, a_s.2.2.2.1 + x1, a_s.2.2.2.2.1, a_s.2.2.2.2.2)] rfl dX4_play_63 (fun H locs Z => ?_)
      refine lv_aload_n hx hb dX4_play_66 rfl (lv_at hl 0 rfl) ?_
      refine zg_X4_23 X Z 0 rfl rfl dX4_play_67 ?_
      refine lv_iload_n hx hb dX4_play_70 rfl (lv_at hl 2 rfl) ?_
      refine lv_isub hx hb dX4_play_71 ?_
      have hR := so_s hf
      subst hR
      refine z_iret X hr hlocks ?_ dX4_play_72
      exact Z.eq rfl
    · have hf := it_f c1 hf
      refine lv_aload_n hx hb dX4_play_12 rfl (lv_at hl 0 rfl) ?_
      refine lv_aload_n hx hb dX4_play_13 rfl (lv_at hl 0 rfl) ?_
      refine zg_X4_10 X Z 0 rfl rfl dX4_play_14 ?_
      refine lv_aload_n hx hb dX4_play_17 rfl (lv_at hl 0 rfl) ?_
      refine zg_X4_16 X Z 0 rfl rfl dX4_play_18 ?_
      have Z : zW D A s [[(a0, .inr (4, [.ref a1, .ref a3, .int a_s.2.2.1, .int a_s.2.2.2.1, .int a_s.2.2.2.2.1, .int a_s.2.2.2.2.2]))], w_X1 cI cR a1 a2 a_s.1.1 a_s.1.2.1 a_s.1.2.2.1 a_s.1.2.2.2.1 a_s.1.2.2.2.2.1 a_s.1.2.2.2.2.2.1 a_s.1.2.2.2.2.2.2, w_X1 cI cR a3 a4 a_s.2.1.1 a_s.2.1.2.1 a_s.2.1.2.2.1 a_s.2.1.2.2.2.1 a_s.2.1.2.2.2.2.1 a_s.2.1.2.2.2.2.2.1 a_s.2.1.2.2.2.2.2.2] _ _ := Z.eq rfl
      obtain ⟨q2, hq2, hf⟩ := ob_s hf
      refine z_callV X Z (c_X4_letThrow l D cI cR a0 a1 a3 a1 a2 a3 a4 a_s.2.2.1 a_s.2.2.2.1 a_s.2.2.2.2.1 a_s.2.2.2.2.2 a_s.1.1 a_s.1.2.1 a_s.1.2.2.1 a_s.1.2.2.2.1 a_s.1.2.2.2.2.1 a_s.1.2.2.2.2.2.1 a_s.1.2.2.2.2.2.2 a_s.2.1.1 a_s.2.1.2.1 a_s.2.1.2.2.1 a_s.2.1.2.2.2.1 a_s.2.1.2.2.2.2.1 a_s.2.1.2.2.2.2.2.1 a_s.2.1.2.2.2.2.2.2  hq2) (zw_X4_44 X.1.2.2.2.2 ⟨Nat.le_of_ble_eq_true rfl, Nat.le_of_ble_eq_true rfl⟩) 0 4 rfl rfl rfl [0, 1, 2] [] [[(a0, .inr (4, [.ref a1, .ref a3, .int q2.1, .int a_s.2.2.2.1, .int q2.2.1, .int q2.2.2.1]))], w_X1 cI cR a1 a2 q2.2.2.2.1 a_s.1.2.1 a_s.1.2.2.1 a_s.1.2.2.2.1 a_s.1.2.2.2.2.1 q2.2.2.2.2.1 q2.2.2.2.2.2.1, w_X1 cI cR a3 a4 q2.2.2.2.2.2.2 a_s.2.1.2.1 a_s.2.1.2.2.1 a_s.2.1.2.2.2.1 a_s.2.1.2.2.2.2.1 a_s.2.1.2.2.2.2.2.1 a_s.2.1.2.2.2.2.2.2] (by decide : ([0, 1, 2] ++ [] : List Nat).Perm (List.range 3)) rfl rfl rfl rfl rfl hl.1 rfl (Nat.le_of_ble_eq_true rfl) dX4_play_21 ⟨Nat.le_of_ble_eq_true rfl, Nat.le_of_ble_eq_true rfl⟩ (fun H locs Z => ?_)
      refine lv_aload_n hx hb dX4_play_24 rfl (lv_at hl 0 rfl) ?_
      refine lv_aload_n hx hb dX4_play_25 rfl (lv_at hl 0 rfl) ?_
      refine zg_X4_16 X Z 0 rfl rfl dX4_play_26 ?_
      refine lv_aload_n hx hb dX4_play_29 rfl (lv_at hl 0 rfl) ?_
      refine zg_X4_10 X Z 0 rfl rfl dX4_play_30 ?_
      obtain ⟨q3, hq3, hf⟩ := ob_s hf
      refine z_callV X Z (c_X4_letThrow l D cI cR a0 a1 a3 a3 a4 a1 a2 q2.1 a_s.2.2.2.1 q2.2.1 q2.2.2.1 q2.2.2.2.2.2.2 a_s.2.1.2.1 a_s.2.1.2.2.1 a_s.2.1.2.2.2.1 a_s.2.1.2.2.2.2.1 a_s.2.1.2.2.2.2.2.1 a_s.2.1.2.2.2.2.2.2 q2.2.2.2.1 a_s.1.2.1 a_s.1.2.2.1 a_s.1.2.2.2.1 a_s.1.2.2.2.2.1 q2.2.2.2.2.1 q2.2.2.2.2.2.1  hq3) (zw_X4_44 X.1.2.2.2.2 ⟨Nat.le_of_ble_eq_true rfl, Nat.le_of_ble_eq_true rfl⟩) 0 4 rfl rfl rfl [0, 2, 1] [] [[(a0, .inr (4, [.ref a1, .ref a3, .int q3.1, .int a_s.2.2.2.1, .int q3.2.1, .int q3.2.2.1]))], w_X1 cI cR a1 a2 q3.2.2.2.2.2.2 a_s.1.2.1 a_s.1.2.2.1 a_s.1.2.2.2.1 a_s.1.2.2.2.2.1 q2.2.2.2.2.1 q2.2.2.2.2.2.1, w_X1 cI cR a3 a4 q3.2.2.2.1 a_s.2.1.2.1 a_s.2.1.2.2.1 a_s.2.1.2.2.2.1 a_s.2.1.2.2.2.2.1 q3.2.2.2.2.1 q3.2.2.2.2.2.1] (by decide : ([0, 2, 1] ++ [] : List Nat).Perm (List.range 3)) rfl rfl rfl rfl rfl hl.1 rfl (Nat.le_of_ble_eq_true rfl) dX4_play_33 ⟨Nat.le_of_ble_eq_true rfl, Nat.le_of_ble_eq_true rfl⟩ (fun H locs Z => ?_)
      refine lv_aload_n hx hb dX4_play_36 rfl (lv_at hl 0 rfl) ?_
      refine zg_X4_10 X Z 0 rfl rfl dX4_play_37 ?_
      obtain ⟨q4, hq4, hf⟩ := ob_s hf
      refine z_callVN X Z (c_X1_endBeat l D cI cR a1 a2 q3.2.2.2.2.2.2 a_s.1.2.1 a_s.1.2.2.1 a_s.1.2.2.2.1 a_s.1.2.2.2.2.1 q2.2.2.2.2.1 q2.2.2.2.2.2.1  hq4) (zw_X4_48 X.2.1 X.1.2.2.2.2 ⟨Nat.le_of_ble_eq_true rfl, Nat.le_of_ble_eq_true rfl⟩) 1 1 rfl rfl rfl [1] [0, 2] [[(a0, .inr (4, [.ref a1, .ref a3, .int q3.1, .int a_s.2.2.2.1, .int q3.2.1, .int q3.2.2.1]))], w_X1 cI cR a1 a2 q4.1 a_s.1.2.1 a_s.1.2.2.1 a_s.1.2.2.2.1 q4.2 q2.2.2.2.2.1 q2.2.2.2.2.2.1, w_X1 cI cR a3 a4 q3.2.2.2.1 a_s.2.1.2.1 a_s.2.1.2.2.1 a_s.2.1.2.2.2.1 a_s.2.1.2.2.2.2.1 q3.2.2.2.2.1 q3.2.2.2.2.2.1] (by decide : ([1] ++ [0, 2] : List Nat).Perm (List.range 3)) rfl rfl rfl rfl rfl hl.1 rfl (Nat.le_of_ble_eq_true rfl) dX4_play_40 ⟨Nat.le_of_ble_eq_true rfl, Nat.le_of_ble_eq_true rfl⟩ (fun H locs Z => ?_)
      refine lv_aload_n hx hb dX4_play_43 rfl (lv_at hl 0 rfl) ?_
      refine zg_X4_16 X Z 0 rfl rfl dX4_play_44 ?_
      obtain ⟨q5, hq5, hf⟩ := ob_s hf
      refine z_callVN X Z (c_X1_endBeat l D cI cR a3 a4 q3.2.2.2.1 a_s.2.1.2.1 a_s.2.1.2.2.1 a_s.2.1.2.2.2.1 a_s.2.1.2.2.2.2.1 q3.2.2.2.2.1 q3.2.2.2.2.2.1  hq5) (zw_X4_48 X.2.1 X.1.2.2.2.2 ⟨Nat.le_of_ble_eq_true rfl, Nat.le_of_ble_eq_true rfl⟩) 3 1 rfl rfl rfl [2] [0, 1] [[(a0, .inr (4, [.ref a1, .ref a3, .int q3.1, .int a_s.2.2.2.1, .int q3.2.1, .int q3.2.2.1]))], w_X1 cI cR a1 a2 q4.1 a_s.1.2.1 a_s.1.2.2.1 a_s.1.2.2.2.1 q4.2 q2.2.2.2.2.1 q2.2.2.2.2.2.1, w_X1 cI cR a3 a4 q5.1 a_s.2.1.2.1 a_s.2.1.2.2.1 a_s.2.1.2.2.2.1 q5.2 q3.2.2.2.2.1 q3.2.2.2.2.2.1] (by decide : ([2] ++ [0, 1] : List Nat).Perm (List.range 3)) rfl rfl rfl rfl rfl hl.1 rfl (Nat.le_of_ble_eq_true rfl) dX4_play_47 ⟨Nat.le_of_ble_eq_true rfl, Nat.le_of_ble_eq_true rfl⟩ (fun H locs Z => ?_)
      refine lv_iinc (v := x3 + (1 : Int32)) (lv' := [(3, .int (x3 + (1 : Int32))), (0, .ref a0), (1, .int x1), (2, .int x2)]) hx hb dX4_play_50 hl (k := 3) rfl rfl (by decide) rfl (fun ls hl => ?_)
      refine lv_goto (tgt := 7) hx hb dX4_play_53 (by decide) ?_
      have Z : zW D A s [w_X4 cI cR a0 a1 a2 a3 a4 ((q4.1, a_s.1.2.1, a_s.1.2.2.1, a_s.1.2.2.2.1, q4.2, q2.2.2.2.2.1, q2.2.2.2.2.2.1), (q5.1, a_s.2.1.2.1, a_s.2.1.2.2.1, a_s.2.1.2.2.2.1, q5.2, q3.2.2.2.2.1, q3.2.2.2.2.2.1), q3.1, a_s.2.2.2.1, q3.2.1, q3.2.2.1)] _ _ := Z.eq rfl
      exact ih hf Z (lv_sub hl [1, 2, 3, 0] rfl)

def f_X4_play (a_s : ST) (p1 : Int32) : Option (Int32 × ST) := f_X4_play_L7 p1 a_s.2.2.1 zF (0 : Int32) a_s
set_option maxHeartbeats 4000000 in
set_option maxRecDepth 100000 in
theorem c_X4_play (l : Launch) (D : va_G) (cI cR : ClassId) (a0 : Nat) (a1 : Nat) (a2 : Nat) (a3 : Nat) (a4 : Nat) (a_s : ST) (p1 : Int32) {R : Int32 × ST} (hf : f_X4_play a_s p1 = some R) : zM l D cI cR yX4_play cX4_play 4 (some .int) 3 67 [.ref a0, .int p1] [w_X4 cI cR a0 a1 a2 a3 a4 a_s] (some (.int R.1)) [w_X4 cI cR a0 a1 a2 a3 a4 R.2] := by
  refine z_of (own := RX4) rfl (by decide) (Nat.le_of_ble_eq_true rfl) ?_
  intro p e s m args below meth c A ls X hr hlocks Z hl
  have hx := X.1.1
  have hb := X.1.2.1
  have Z : zW D A s [w_X4 cI cR a0 a1 a2 a3 a4 a_s] s.heap [] := Z
  have hl : lv_has ls 4 [(0, .ref a0), (1, .int p1)] := hl
  refine lv_aload_n hx hb dX4_play_0 rfl (lv_at hl 0 rfl) ?_
  refine zg_X4_23 X Z 0 rfl rfl dX4_play_1 ?_
  refine lv_istore_n (lv' := [(2, .int a_s.2.2.1), (0, .ref a0), (1, .int p1)]) hx hb dX4_play_4 rfl hl (by decide) rfl (fun ls hl => ?_)
  refine lv_iconst (v := 0) hx hb dX4_play_5 (by decide) ?_
  refine lv_istore_n (lv' := [(3, .int (0 : Int32)), (2, .int a_s.2.2.1), (0, .ref a0), (1, .int p1)]) hx hb dX4_play_6 rfl hl (by decide) rfl (fun ls hl => ?_)
  exact w_X4_play_L7 X hr hlocks _ hf Z (lv_sub hl [2, 3, 1, 0] rfl)
def f_X4_standsLike (a_s : ST) (b_s : ST) : Option (Int32) := (f_X1_standsLike a_s.1.1 a_s.1.2.2.2.2.1 b_s.1.1 b_s.1.2.2.2.2.1).bind (fun q1 => if q1 = 0 then (some (0 : Int32)) else ((f_X1_standsLike a_s.2.1.1 a_s.2.1.2.2.2.2.1 b_s.2.1.1 b_s.2.1.2.2.2.2.1).bind (fun q3 => if q3 = 0 then (some (0 : Int32)) else (some (1 : Int32)))))
set_option maxHeartbeats 4000000 in
set_option maxRecDepth 100000 in
theorem c_X4_standsLike (l : Launch) (D : va_G) (cI cR : ClassId) (a0 : Nat) (a1 : Nat) (a2 : Nat) (a3 : Nat) (a4 : Nat) (b0 : Nat) (b1 : Nat) (b2 : Nat) (b3 : Nat) (b4 : Nat) (a_s : ST) (b_s : ST) {R : Int32} (hf : f_X4_standsLike a_s b_s = some R) : zM l D cI cR yX4_standsLike cX4_standsLike 2 (some .boolean) 1 21 [.ref a0, .ref b0] [w_X4 cI cR a0 a1 a2 a3 a4 a_s, w_X4 cI cR b0 b1 b2 b3 b4 b_s] (some (.int R)) [w_X4 cI cR a0 a1 a2 a3 a4 a_s, w_X4 cI cR b0 b1 b2 b3 b4 b_s] := by
  refine z_of (own := RX4) rfl (by decide) (Nat.le_of_ble_eq_true rfl) ?_
  intro p e s m args below meth c A ls X hr hlocks Z hl
  have hx := X.1.1
  have hb := X.1.2.1
  have Z : zW D A s [w_X4 cI cR a0 a1 a2 a3 a4 a_s, w_X4 cI cR b0 b1 b2 b3 b4 b_s] s.heap [] := Z
  have hl : lv_has ls 2 [(0, .ref a0), (1, .ref b0)] := hl
  refine lv_aload_n hx hb dX4_standsLike_0 rfl (lv_at hl 0 rfl) ?_
  refine zg_X4_10 X Z 0 rfl rfl dX4_standsLike_1 ?_
  refine lv_aload_n hx hb dX4_standsLike_4 rfl (lv_at hl 1 rfl) ?_
  refine zg_X4_10 X Z 5 rfl rfl dX4_standsLike_5 ?_
  have Z : zW D A s [[(a0, .inr (4, [.ref a1, .ref a3, .int a_s.2.2.1, .int a_s.2.2.2.1, .int a_s.2.2.2.2.1, .int a_s.2.2.2.2.2]))], w_X1 cI cR a1 a2 a_s.1.1 a_s.1.2.1 a_s.1.2.2.1 a_s.1.2.2.2.1 a_s.1.2.2.2.2.1 a_s.1.2.2.2.2.2.1 a_s.1.2.2.2.2.2.2, w_X1 cI cR a3 a4 a_s.2.1.1 a_s.2.1.2.1 a_s.2.1.2.2.1 a_s.2.1.2.2.2.1 a_s.2.1.2.2.2.2.1 a_s.2.1.2.2.2.2.2.1 a_s.2.1.2.2.2.2.2.2, [(b0, .inr (4, [.ref b1, .ref b3, .int b_s.2.2.1, .int b_s.2.2.2.1, .int b_s.2.2.2.2.1, .int b_s.2.2.2.2.2]))], w_X1 cI cR b1 b2 b_s.1.1 b_s.1.2.1 b_s.1.2.2.1 b_s.1.2.2.2.1 b_s.1.2.2.2.2.1 b_s.1.2.2.2.2.2.1 b_s.1.2.2.2.2.2.2, w_X1 cI cR b3 b4 b_s.2.1.1 b_s.2.1.2.1 b_s.2.1.2.2.1 b_s.2.1.2.2.2.1 b_s.2.1.2.2.2.2.1 b_s.2.1.2.2.2.2.2.1 b_s.2.1.2.2.2.2.2.2] _ _ := Z.eq rfl
  obtain ⟨q1, hq1, hf⟩ := ob_s hf
  refine z_roVN X Z (c_X1_standsLike l D cI cR a1 a2 b1 b2 a_s.1.1 a_s.1.2.1 a_s.1.2.2.1 a_s.1.2.2.2.1 a_s.1.2.2.2.2.1 a_s.1.2.2.2.2.2.1 a_s.1.2.2.2.2.2.2 b_s.1.1 b_s.1.2.1 b_s.1.2.2.1 b_s.1.2.2.2.1 b_s.1.2.2.2.2.1 b_s.1.2.2.2.2.2.1 b_s.1.2.2.2.2.2.2  hq1) (zw_X4_80 X.2.1 X.1.2.2.2.2 ⟨Nat.le_of_ble_eq_true rfl, Nat.le_of_ble_eq_true rfl⟩) 1 1 rfl rfl rfl [1, 4] [0, 2, 3, 5] (by decide : ([1, 4] ++ [0, 2, 3, 5] : List Nat).Perm (List.range 6)) rfl rfl hl.1 rfl (Nat.le_of_ble_eq_true rfl) dX4_standsLike_8 ⟨Nat.le_of_ble_eq_true rfl, Nat.le_of_ble_eq_true rfl⟩ (fun H locs Z => ?_)
  refine lv_if_eq (tgt := 32) hx hb dX4_standsLike_11 (by decide) (fun c2 => ?_) (fun c2 => ?_)
  · have hf := it_t c2 hf
    refine lv_iconst (v := 0) hx hb dX4_standsLike_32 (by decide) ?_
    have hR := so_s hf
    subst hR
    refine z_zret X hr hlocks (Or.inl rfl) ?_ dX4_standsLike_33
    exact Z.eq rfl
  · have hf := it_f c2 hf
    refine lv_aload_n hx hb dX4_standsLike_14 rfl (lv_at hl 0 rfl) ?_
    refine zg_X4_16 X Z 0 rfl rfl dX4_standsLike_15 ?_
    refine lv_aload_n hx hb dX4_standsLike_18 rfl (lv_at hl 1 rfl) ?_
    refine zg_X4_16 X Z 5 rfl rfl dX4_standsLike_19 ?_
    obtain ⟨q3, hq3, hf⟩ := ob_s hf
    refine z_roVN X Z (c_X1_standsLike l D cI cR a3 a4 b3 b4 a_s.2.1.1 a_s.2.1.2.1 a_s.2.1.2.2.1 a_s.2.1.2.2.2.1 a_s.2.1.2.2.2.2.1 a_s.2.1.2.2.2.2.2.1 a_s.2.1.2.2.2.2.2.2 b_s.2.1.1 b_s.2.1.2.1 b_s.2.1.2.2.1 b_s.2.1.2.2.2.1 b_s.2.1.2.2.2.2.1 b_s.2.1.2.2.2.2.2.1 b_s.2.1.2.2.2.2.2.2  hq3) (zw_X4_80 X.2.1 X.1.2.2.2.2 ⟨Nat.le_of_ble_eq_true rfl, Nat.le_of_ble_eq_true rfl⟩) 3 1 rfl rfl rfl [2, 5] [0, 1, 3, 4] (by decide : ([2, 5] ++ [0, 1, 3, 4] : List Nat).Perm (List.range 6)) rfl rfl hl.1 rfl (Nat.le_of_ble_eq_true rfl) dX4_standsLike_22 ⟨Nat.le_of_ble_eq_true rfl, Nat.le_of_ble_eq_true rfl⟩ (fun H locs Z => ?_)
    refine lv_if_eq (tgt := 32) hx hb dX4_standsLike_25 (by decide) (fun c4 => ?_) (fun c4 => ?_)
    · have hf := it_t c4 hf
      refine lv_iconst (v := 0) hx hb dX4_standsLike_32 (by decide) ?_
      have hR := so_s hf
      subst hR
      refine z_zret X hr hlocks (Or.inl rfl) ?_ dX4_standsLike_33
      exact Z.eq rfl
    · have hf := it_f c4 hf
      refine lv_iconst (v := 1) hx hb dX4_standsLike_28 (by decide) ?_
      refine lv_goto (tgt := 33) hx hb dX4_standsLike_29 (by decide) ?_
      have hR := so_s hf
      subst hR
      refine z_zret X hr hlocks (Or.inr rfl) ?_ dX4_standsLike_33
      exact Z.eq rfl
theorem b_X4_standsLike {a_s : ST} {b_s : ST} {R : Int32} (hf : f_X4_standsLike a_s b_s = some R) : R = 0 ∨ R = 1 := by
  obtain ⟨q1, hq1, hf⟩ := ob_s hf
  rcases Decidable.em (q1 = 0) with c2 | c2
  · have hf := it_t c2 hf
    have hR := so_s hf
    subst hR
    exact (Or.inl rfl)
  · have hf := it_f c2 hf
    obtain ⟨q3, hq3, hf⟩ := ob_s hf
    rcases Decidable.em (q3 = 0) with c4 | c4
    · have hf := it_t c4 hf
      have hR := so_s hf
      subst hR
      exact (Or.inl rfl)
    · have hf := it_f c4 hf
      have hR := so_s hf
      subst hR
      exact (Or.inr rfl)
