def f_X6_stepsTo (a_steps : (Nat → Int32)) (p1 : Int32) : Option (Int32) := (f_X7_valueAt 256 a_steps p1).bind (fun q1 => some q1)
set_option maxHeartbeats 4000000 in
set_option maxRecDepth 100000 in
theorem c_X6_stepsTo (l : Launch) (D : va_G) (cI cR : ClassId) (a0 : Nat) (a1 : Nat) (a2 : Nat) (a3 : Nat) (a4 : Nat) (a_steps : (Nat → Int32)) (a_firstThrows : (Nat → Int32)) (a_lastThrows : (Nat → Int32)) (a_reached : (Nat → Int32)) (a_reachedCount : Int32) (p1 : Int32) {R : Int32} (hf : f_X6_stepsTo a_steps p1 = some R) : zM l D cI cR yX6_stepsTo cX6_stepsTo 2 (some .int) 1 21 [.ref a0, .int p1] [w_X6 cI cR a0 a1 a2 a3 a4 a_steps a_firstThrows a_lastThrows a_reached a_reachedCount] (some (.int R)) [w_X6 cI cR a0 a1 a2 a3 a4 a_steps a_firstThrows a_lastThrows a_reached a_reachedCount] := by
  refine z_of (own := RX6) rfl (by decide) (Nat.le_of_ble_eq_true rfl) ?_
  intro p e s m args below meth c A ls X hr hlocks Z hl
  have hx := X.1.1
  have hb := X.1.2.1
  have Z : zW D A s [w_X6 cI cR a0 a1 a2 a3 a4 a_steps a_firstThrows a_lastThrows a_reached a_reachedCount] s.heap [] := Z
  have hl : lv_has ls 2 [(0, .ref a0), (1, .int p1)] := hl
  refine lv_aload_n hx hb dX6_stepsTo_0 rfl (lv_at hl 0 rfl) ?_
  refine zg_X6_9 X Z 0 rfl rfl dX6_stepsTo_1 ?_
  refine lv_iload_n hx hb dX6_stepsTo_4 rfl (lv_at hl 1 rfl) ?_
  have Z : zW D A s [[(a0, .inr (6, [.ref a1, .ref a2, .ref a3, .ref a4, .int a_reachedCount]))], [(a1, .inl (cI, 256, .inl a_steps))], [(a2, .inl (cI, 256, .inl a_firstThrows))], [(a3, .inl (cI, 256, .inl a_lastThrows))], [(a4, .inl (cI, 256, .inl a_reached))]] _ _ := Z.eq rfl
  obtain ⟨q1, hq1, hf⟩ := ob_s hf
  refine z_roSN X Z (c_X7_valueAt l D cI cR a1 256 a_steps p1 hq1) (zw_X6_38 X.2.1 X.1.2.2.2.2 ⟨Nat.le_of_ble_eq_true rfl, Nat.le_of_ble_eq_true rfl⟩) [1] [0, 2, 3, 4] (by decide : ([1] ++ [0, 2, 3, 4] : List Nat).Perm (List.range 5)) rfl rfl hl.1 rfl (Nat.le_of_ble_eq_true rfl) dX6_stepsTo_5 ⟨Nat.le_of_ble_eq_true rfl, Nat.le_of_ble_eq_true rfl⟩ (fun H locs Z => ?_)
  have hR := so_s hf
  subst hR
  refine z_iret X hr hlocks ?_ dX6_stepsTo_8
  exact Z.eq rfl
def f_X6_firstThrowTo (a_firstThrows : (Nat → Int32)) (p1 : Int32) : Option (Int32) := (f_X7_valueAt 256 a_firstThrows p1).bind (fun q1 => some q1)
set_option maxHeartbeats 4000000 in
set_option maxRecDepth 100000 in
theorem c_X6_firstThrowTo (l : Launch) (D : va_G) (cI cR : ClassId) (a0 : Nat) (a1 : Nat) (a2 : Nat) (a3 : Nat) (a4 : Nat) (a_steps : (Nat → Int32)) (a_firstThrows : (Nat → Int32)) (a_lastThrows : (Nat → Int32)) (a_reached : (Nat → Int32)) (a_reachedCount : Int32) (p1 : Int32) {R : Int32} (hf : f_X6_firstThrowTo a_firstThrows p1 = some R) : zM l D cI cR yX6_firstThrowTo cX6_firstThrowTo 2 (some .int) 1 21 [.ref a0, .int p1] [w_X6 cI cR a0 a1 a2 a3 a4 a_steps a_firstThrows a_lastThrows a_reached a_reachedCount] (some (.int R)) [w_X6 cI cR a0 a1 a2 a3 a4 a_steps a_firstThrows a_lastThrows a_reached a_reachedCount] := by
  refine z_of (own := RX6) rfl (by decide) (Nat.le_of_ble_eq_true rfl) ?_
  intro p e s m args below meth c A ls X hr hlocks Z hl
  have hx := X.1.1
  have hb := X.1.2.1
  have Z : zW D A s [w_X6 cI cR a0 a1 a2 a3 a4 a_steps a_firstThrows a_lastThrows a_reached a_reachedCount] s.heap [] := Z
  have hl : lv_has ls 2 [(0, .ref a0), (1, .int p1)] := hl
  refine lv_aload_n hx hb dX6_firstThrowTo_0 rfl (lv_at hl 0 rfl) ?_
  refine zg_X6_15 X Z 0 rfl rfl dX6_firstThrowTo_1 ?_
  refine lv_iload_n hx hb dX6_firstThrowTo_4 rfl (lv_at hl 1 rfl) ?_
  have Z : zW D A s [[(a0, .inr (6, [.ref a1, .ref a2, .ref a3, .ref a4, .int a_reachedCount]))], [(a1, .inl (cI, 256, .inl a_steps))], [(a2, .inl (cI, 256, .inl a_firstThrows))], [(a3, .inl (cI, 256, .inl a_lastThrows))], [(a4, .inl (cI, 256, .inl a_reached))]] _ _ := Z.eq rfl
  obtain ⟨q1, hq1, hf⟩ := ob_s hf
  refine z_roSN X Z (c_X7_valueAt l D cI cR a2 256 a_firstThrows p1 hq1) (zw_X6_38 X.2.1 X.1.2.2.2.2 ⟨Nat.le_of_ble_eq_true rfl, Nat.le_of_ble_eq_true rfl⟩) [2] [0, 1, 3, 4] (by decide : ([2] ++ [0, 1, 3, 4] : List Nat).Perm (List.range 5)) rfl rfl hl.1 rfl (Nat.le_of_ble_eq_true rfl) dX6_firstThrowTo_5 ⟨Nat.le_of_ble_eq_true rfl, Nat.le_of_ble_eq_true rfl⟩ (fun H locs Z => ?_)
  have hR := so_s hf
  subst hR
  refine z_iret X hr hlocks ?_ dX6_firstThrowTo_8
  exact Z.eq rfl
def f_X6_lastThrowTo (a_lastThrows : (Nat → Int32)) (p1 : Int32) : Option (Int32) := (f_X7_valueAt 256 a_lastThrows p1).bind (fun q1 => some q1)
set_option maxHeartbeats 4000000 in
set_option maxRecDepth 100000 in
theorem c_X6_lastThrowTo (l : Launch) (D : va_G) (cI cR : ClassId) (a0 : Nat) (a1 : Nat) (a2 : Nat) (a3 : Nat) (a4 : Nat) (a_steps : (Nat → Int32)) (a_firstThrows : (Nat → Int32)) (a_lastThrows : (Nat → Int32)) (a_reached : (Nat → Int32)) (a_reachedCount : Int32) (p1 : Int32) {R : Int32} (hf : f_X6_lastThrowTo a_lastThrows p1 = some R) : zM l D cI cR yX6_lastThrowTo cX6_lastThrowTo 2 (some .int) 1 21 [.ref a0, .int p1] [w_X6 cI cR a0 a1 a2 a3 a4 a_steps a_firstThrows a_lastThrows a_reached a_reachedCount] (some (.int R)) [w_X6 cI cR a0 a1 a2 a3 a4 a_steps a_firstThrows a_lastThrows a_reached a_reachedCount] := by
  refine z_of (own := RX6) rfl (by decide) (Nat.le_of_ble_eq_true rfl) ?_
  intro p e s m args below meth c A ls X hr hlocks Z hl
  have hx := X.1.1
  have hb := X.1.2.1
  have Z : zW D A s [w_X6 cI cR a0 a1 a2 a3 a4 a_steps a_firstThrows a_lastThrows a_reached a_reachedCount] s.heap [] := Z
  have hl : lv_has ls 2 [(0, .ref a0), (1, .int p1)] := hl
  refine lv_aload_n hx hb dX6_lastThrowTo_0 rfl (lv_at hl 0 rfl) ?_
  refine zg_X6_18 X Z 0 rfl rfl dX6_lastThrowTo_1 ?_
  refine lv_iload_n hx hb dX6_lastThrowTo_4 rfl (lv_at hl 1 rfl) ?_
  have Z : zW D A s [[(a0, .inr (6, [.ref a1, .ref a2, .ref a3, .ref a4, .int a_reachedCount]))], [(a1, .inl (cI, 256, .inl a_steps))], [(a2, .inl (cI, 256, .inl a_firstThrows))], [(a3, .inl (cI, 256, .inl a_lastThrows))], [(a4, .inl (cI, 256, .inl a_reached))]] _ _ := Z.eq rfl
  obtain ⟨q1, hq1, hf⟩ := ob_s hf
  refine z_roSN X Z (c_X7_valueAt l D cI cR a3 256 a_lastThrows p1 hq1) (zw_X6_38 X.2.1 X.1.2.2.2.2 ⟨Nat.le_of_ble_eq_true rfl, Nat.le_of_ble_eq_true rfl⟩) [3] [0, 1, 2, 4] (by decide : ([3] ++ [0, 1, 2, 4] : List Nat).Perm (List.range 5)) rfl rfl hl.1 rfl (Nat.le_of_ble_eq_true rfl) dX6_lastThrowTo_5 ⟨Nat.le_of_ble_eq_true rfl, Nat.le_of_ble_eq_true rfl⟩ (fun H locs Z => ?_)
  have hR := so_s hf
  subst hR
  refine z_iret X hr hlocks ?_ dX6_lastThrowTo_8
  exact Z.eq rfl
def f_X6_reach (a_steps : (Nat → Int32)) (a_firstThrows : (Nat → Int32)) (a_lastThrows : (Nat → Int32)) (a_reached : (Nat → Int32)) (a_reachedCount : Int32) (p1 : Int32) (p2 : Int32) (p3 : Int32) (p4 : Int32) : Option ((Nat → Int32) × (Nat → Int32) × (Nat → Int32) × (Nat → Int32) × Int32) := (f_X6_stepsTo a_steps p1).bind (fun q1 => if q1 = (-1 : Int32) then ((f_X7_setAt 256 a_steps p1 p2).bind (fun q3 => (f_X7_setAt 256 a_firstThrows p1 p3).bind (fun q4 => (f_X7_setAt 256 a_lastThrows p1 p4).bind (fun q5 => (f_X7_setAt 256 a_reached a_reachedCount p1).bind (fun q6 => some (q3, q4, q5, q6, a_reachedCount + (1 : Int32))))))) else (some (a_steps, a_firstThrows, a_lastThrows, a_reached, a_reachedCount)))
set_option maxHeartbeats 4000000 in
set_option maxRecDepth 100000 in
theorem c_X6_reach (l : Launch) (D : va_G) (cI cR : ClassId) (a0 : Nat) (a1 : Nat) (a2 : Nat) (a3 : Nat) (a4 : Nat) (a_steps : (Nat → Int32)) (a_firstThrows : (Nat → Int32)) (a_lastThrows : (Nat → Int32)) (a_reached : (Nat → Int32)) (a_reachedCount : Int32) (p1 : Int32) (p2 : Int32) (p3 : Int32) (p4 : Int32) {R : (Nat → Int32) × (Nat → Int32) × (Nat → Int32) × (Nat → Int32) × Int32} (hf : f_X6_reach a_steps a_firstThrows a_lastThrows a_reached a_reachedCount p1 p2 p3 p4 = some R) : zM l D cI cR yX6_reach cX6_reach 5 none 2 42 [.ref a0, .int p1, .int p2, .int p3, .int p4] [w_X6 cI cR a0 a1 a2 a3 a4 a_steps a_firstThrows a_lastThrows a_reached a_reachedCount] none [w_X6 cI cR a0 a1 a2 a3 a4 R.1 R.2.1 R.2.2.1 R.2.2.2.1 R.2.2.2.2] := by
  refine z_of (own := RX6) rfl (by decide) (Nat.le_of_ble_eq_true rfl) ?_
  intro p e s m args below meth c A ls X hr hlocks Z hl
  have hx := X.1.1
  have hb := X.1.2.1
  have Z : zW D A s [w_X6 cI cR a0 a1 a2 a3 a4 a_steps a_firstThrows a_lastThrows a_reached a_reachedCount] s.heap [] := Z
  have hl : lv_has ls 5 [(0, .ref a0), (1, .int p1), (2, .int p2), (3, .int p3), (4, .int p4)] := hl
  refine lv_aload_n hx hb dX6_reach_0 rfl (lv_at hl 0 rfl) ?_
  refine lv_iload_n hx hb dX6_reach_1 rfl (lv_at hl 1 rfl) ?_
  obtain ⟨q1, hq1, hf⟩ := ob_s hf
  refine z_roV X Z (c_X6_stepsTo l D cI cR a0 a1 a2 a3 a4 a_steps a_firstThrows a_lastThrows a_reached a_reachedCount p1 hq1) (zw_X6_54 X.1.2.2.2.2 ⟨Nat.le_of_ble_eq_true rfl, Nat.le_of_ble_eq_true rfl⟩) 0 6 rfl rfl rfl [0] [] (by decide : ([0] ++ [] : List Nat).Perm (List.range 1)) rfl rfl hl.1 rfl (Nat.le_of_ble_eq_true rfl) dX6_reach_2 ⟨Nat.le_of_ble_eq_true rfl, Nat.le_of_ble_eq_true rfl⟩ (fun H locs Z => ?_)
  refine lv_iconst (v := -1) hx hb dX6_reach_5 (by decide) ?_
  refine lv_icmp_eq (tgt := 10) hx hb dX6_reach_6 (by decide) (fun c2 => ?_) (fun c2 => ?_)
  · have hf := it_t c2 hf
    refine lv_aload_n hx hb dX6_reach_10 rfl (lv_at hl 0 rfl) ?_
    refine zg_X6_9 X Z 0 rfl rfl dX6_reach_11 ?_
    refine lv_iload_n hx hb dX6_reach_14 rfl (lv_at hl 1 rfl) ?_
    refine lv_iload_n hx hb dX6_reach_15 rfl (lv_at hl 2 rfl) ?_
    have Z : zW D A s [[(a0, .inr (6, [.ref a1, .ref a2, .ref a3, .ref a4, .int a_reachedCount]))], [(a1, .inl (cI, 256, .inl a_steps))], [(a2, .inl (cI, 256, .inl a_firstThrows))], [(a3, .inl (cI, 256, .inl a_lastThrows))], [(a4, .inl (cI, 256, .inl a_reached))]] _ _ := Z.eq rfl
    obtain ⟨q3, hq3, hf⟩ := ob_s hf
    refine z_callSN X Z (c_X7_setAt l D cI cR a1 256 a_steps p1 p2 hq3) (zw_X6_61 X.2.1 X.1.2.2.2.2 ⟨Nat.le_of_ble_eq_true rfl, Nat.le_of_ble_eq_true rfl⟩) [1] [0, 2, 3, 4] [[(a0, .inr (6, [.ref a1, .ref a2, .ref a3, .ref a4, .int a_reachedCount]))], [(a1, .inl (cI, 256, .inl q3))], [(a2, .inl (cI, 256, .inl a_firstThrows))], [(a3, .inl (cI, 256, .inl a_lastThrows))], [(a4, .inl (cI, 256, .inl a_reached))]] (by decide : ([1] ++ [0, 2, 3, 4] : List Nat).Perm (List.range 5)) rfl rfl rfl rfl rfl hl.1 rfl (Nat.le_of_ble_eq_true rfl) dX6_reach_16 ⟨Nat.le_of_ble_eq_true rfl, Nat.le_of_ble_eq_true rfl⟩ (fun H locs Z => ?_)
    refine lv_aload_n hx hb dX6_reach_19 rfl (lv_at hl 0 rfl) ?_
    refine zg_X6_15 X Z 0 rfl rfl dX6_reach_20 ?_
    refine lv_iload_n hx hb dX6_reach_23 rfl (lv_at hl 1 rfl) ?_
    refine lv_iload_n hx hb dX6_reach_24 rfl (lv_at hl 3 rfl) ?_
    obtain ⟨q4, hq4, hf⟩ := ob_s hf
    refine z_callSN X Z (c_X7_setAt l D cI cR a2 256 a_firstThrows p1 p3 hq4) (zw_X6_61 X.2.1 X.1.2.2.2.2 ⟨Nat.le_of_ble_eq_true rfl, Nat.le_of_ble_eq_true rfl⟩) [2] [0, 1, 3, 4] [[(a0, .inr (6, [.ref a1, .ref a2, .ref a3, .ref a4, .int a_reachedCount]))], [(a1, .inl (cI, 256, .inl q3))], [(a2, .inl (cI, 256, .inl q4))], [(a3, .inl (cI, 256, .inl a_lastThrows))], [(a4, .inl (cI, 256, .inl a_reached))]] (by decide : ([2] ++ [0, 1, 3, 4] : List Nat).Perm (List.range 5)) rfl rfl rfl rfl rfl hl.1 rfl (Nat.le_of_ble_eq_true rfl) dX6_reach_25 ⟨Nat.le_of_ble_eq_true rfl, Nat.le_of_ble_eq_true rfl⟩ (fun H locs Z => ?_)
    refine lv_aload_n hx hb dX6_reach_28 rfl (lv_at hl 0 rfl) ?_
    refine zg_X6_18 X Z 0 rfl rfl dX6_reach_29 ?_
    refine lv_iload_n hx hb dX6_reach_32 rfl (lv_at hl 1 rfl) ?_
    refine lv_iload hx hb dX6_reach_33 (lv_at hl 4 rfl) ?_
    obtain ⟨q5, hq5, hf⟩ := ob_s hf
    refine z_callSN X Z (c_X7_setAt l D cI cR a3 256 a_lastThrows p1 p4 hq5) (zw_X6_61 X.2.1 X.1.2.2.2.2 ⟨Nat.le_of_ble_eq_true rfl, Nat.le_of_ble_eq_true rfl⟩) [3] [0, 1, 2, 4] [[(a0, .inr (6, [.ref a1, .ref a2, .ref a3, .ref a4, .int a_reachedCount]))], [(a1, .inl (cI, 256, .inl q3))], [(a2, .inl (cI, 256, .inl q4))], [(a3, .inl (cI, 256, .inl q5))], [(a4, .inl (cI, 256, .inl a_reached))]] (by decide : ([3] ++ [0, 1, 2, 4] : List Nat).Perm (List.range 5)) rfl rfl rfl rfl rfl hl.1 rfl (Nat.le_of_ble_eq_true rfl) dX6_reach_35 ⟨Nat.le_of_ble_eq_true rfl, Nat.le_of_ble_eq_true rfl⟩ (fun H locs Z => ?_)
    refine lv_aload_n hx hb dX6_reach_38 rfl (lv_at hl 0 rfl) ?_
    refine zg_X6_21 X Z 0 rfl rfl dX6_reach_39 ?_
    refine lv_aload_n hx hb dX6_reach_42 rfl (lv_at hl 0 rfl) ?_
    refine zg_X6_30 X Z 0 rfl rfl dX6_reach_43 ?_
    refine lv_iload_n hx hb dX6_reach_46 rfl (lv_at hl 1 rfl) ?_
    obtain ⟨q6, hq6, hf⟩ := ob_s hf
    refine z_callSN X Z (c_X7_setAt l D cI cR a4 256 a_reached a_reachedCount p1 hq6) (zw_X6_61 X.2.1 X.1.2.2.2.2 ⟨Nat.le_of_ble_eq_true rfl, Nat.le_of_ble_eq_true rfl⟩) [4] [0, 1, 2, 3] [[(a0, .inr (6, [.ref a1, .ref a2, .ref a3, .ref a4, .int a_reachedCount]))], [(a1, .inl (cI, 256, .inl q3))], [(a2, .inl (cI, 256, .inl q4))], [(a3, .inl (cI, 256, .inl q5))], [(a4, .inl (cI, 256, .inl q6))]] (by decide : ([4] ++ [0, 1, 2, 3] : List Nat).Perm (List.range 5)) rfl rfl rfl rfl rfl hl.1 rfl (Nat.le_of_ble_eq_true rfl) dX6_reach_47 ⟨Nat.le_of_ble_eq_true rfl, Nat.le_of_ble_eq_true rfl⟩ (fun H locs Z => ?_)
    refine lv_aload_n hx hb dX6_reach_50 rfl (lv_at hl 0 rfl) ?_
    refine lv_dup hx hb dX6_reach_51 rfl ?_
    refine zg_X6_30 X Z 0 rfl rfl dX6_reach_52 ?_
    refine lv_iconst (v := 1) hx hb dX6_reach_55 (by decide) ?_
    refine lv_iadd hx hb dX6_reach_56 ?_
    refine zp_X6_30 X Z 0 rfl (Nat.le_of_ble_eq_true rfl) [[(a0, .inr (6, [.ref a1, .ref a2, .ref a3, .ref a4, .int (a_reachedCount + (1 : Int32))]))], [(a1, .inl (cI, 256, .inl q3))], [(a2, .inl (cI, 256, .inl q4))], [(a3, .inl (cI, 256, .inl q5))], [(a4, .inl (cI, 256, .inl q6))]] rfl dX6_reach_57 (fun H locs Z => ?_)
    have hR := so_s hf
    subst hR
    refine z_vret X hr hlocks ?_ dX6_reach_60
    exact Z.eq rfl
  · have hf := it_f c2 hf
    have hR := so_s hf
    subst hR
    refine z_vret X hr hlocks ?_ dX6_reach_9
    exact Z.eq rfl
def f_X6_makeThrow (a_steps : (Nat → Int32)) (a_firstThrows : (Nat → Int32)) (a_lastThrows : (Nat → Int32)) (a_reached : (Nat → Int32)) (a_reachedCount : Int32) (p1 : Int32) (p2 : Int32) : Option ((Nat → Int32) × (Nat → Int32) × (Nat → Int32) × (Nat → Int32) × Int32) := (f_X6_stepsTo a_steps p1).bind (fun q1 => if q1 = 0 then ((f_X6_reach a_steps a_firstThrows a_lastThrows a_reached a_reachedCount ((p1 ||| ((1 : Int32) <<< (p2 &&& 31))) >>> ((1 : Int32) &&& 31)) (q1 + (1 : Int32)) p2 p2).bind (fun q5 => some (q5.1, q5.2.1, q5.2.2.1, q5.2.2.2.1, q5.2.2.2.2))) else ((f_X6_firstThrowTo a_firstThrows p1).bind (fun q3 => (f_X6_reach a_steps a_firstThrows a_lastThrows a_reached a_reachedCount ((p1 ||| ((1 : Int32) <<< (p2 &&& 31))) >>> ((1 : Int32) &&& 31)) (q1 + (1 : Int32)) q3 p2).bind (fun q4 => some (q4.1, q4.2.1, q4.2.2.1, q4.2.2.2.1, q4.2.2.2.2)))))
set_option maxHeartbeats 4000000 in
set_option maxRecDepth 100000 in
theorem c_X6_makeThrow (l : Launch) (D : va_G) (cI cR : ClassId) (a0 : Nat) (a1 : Nat) (a2 : Nat) (a3 : Nat) (a4 : Nat) (a_steps : (Nat → Int32)) (a_firstThrows : (Nat → Int32)) (a_lastThrows : (Nat → Int32)) (a_reached : (Nat → Int32)) (a_reachedCount : Int32) (p1 : Int32) (p2 : Int32) {R : (Nat → Int32) × (Nat → Int32) × (Nat → Int32) × (Nat → Int32) × Int32} (hf : f_X6_makeThrow a_steps a_firstThrows a_lastThrows a_reached a_reachedCount p1 p2 = some R) : zM l D cI cR yX6_makeThrow cX6_makeThrow 5 none 3 66 [.ref a0, .int p1, .int p2] [w_X6 cI cR a0 a1 a2 a3 a4 a_steps a_firstThrows a_lastThrows a_reached a_reachedCount] none [w_X6 cI cR a0 a1 a2 a3 a4 R.1 R.2.1 R.2.2.1 R.2.2.2.1 R.2.2.2.2] := by
  refine z_of (own := RX6) rfl (by decide) (Nat.le_of_ble_eq_true rfl) ?_
  intro p e s m args below meth c A ls X hr hlocks Z hl
  have hx := X.1.1
  have hb := X.1.2.1
  have Z : zW D A s [w_X6 cI cR a0 a1 a2 a3 a4 a_steps a_firstThrows a_lastThrows a_reached a_reachedCount] s.heap [] := Z
  have hl : lv_has ls 5 [(0, .ref a0), (1, .int p1), (2, .int p2)] := hl
  refine lv_iload_n hx hb dX6_makeThrow_0 rfl (lv_at hl 1 rfl) ?_
  refine lv_iconst (v := 1) hx hb dX6_makeThrow_1 (by decide) ?_
  refine lv_iload_n hx hb dX6_makeThrow_2 rfl (lv_at hl 2 rfl) ?_
  refine lv_ishl hx hb dX6_makeThrow_3 ?_
  refine lv_ior hx hb dX6_makeThrow_4 ?_
  refine lv_iconst (v := 1) hx hb dX6_makeThrow_5 (by decide) ?_
  refine lv_ishr hx hb dX6_makeThrow_6 ?_
  refine lv_istore_n (lv' := [(3, .int ((p1 ||| ((1 : Int32) <<< (p2 &&& 31))) >>> ((1 : Int32) &&& 31))), (0, .ref a0), (1, .int p1), (2, .int p2)]) hx hb dX6_makeThrow_7 rfl hl (by decide) rfl (fun ls hl => ?_)
  refine lv_aload_n hx hb dX6_makeThrow_8 rfl (lv_at hl 1 rfl) ?_
  refine lv_iload_n hx hb dX6_makeThrow_9 rfl (lv_at hl 2 rfl) ?_
  obtain ⟨q1, hq1, hf⟩ := ob_s hf
  refine z_roV X Z (c_X6_stepsTo l D cI cR a0 a1 a2 a3 a4 a_steps a_firstThrows a_lastThrows a_reached a_reachedCount p1 hq1) (zw_X6_54 X.1.2.2.2.2 ⟨Nat.le_of_ble_eq_true rfl, Nat.le_of_ble_eq_true rfl⟩) 0 6 rfl rfl rfl [0] [] (by decide : ([0] ++ [] : List Nat).Perm (List.range 1)) rfl rfl hl.1 rfl (Nat.le_of_ble_eq_true rfl) dX6_makeThrow_10 ⟨Nat.le_of_ble_eq_true rfl, Nat.le_of_ble_eq_true rfl⟩ (fun H locs Z => ?_)
  refine lv_istore (lv' := [(4, .int q1), (3, .int ((p1 ||| ((1 : Int32) <<< (p2 &&& 31))) >>> ((1 : Int32) &&& 31))), (0, .ref a0), (1, .int p1), (2, .int p2)]) hx hb dX6_makeThrow_13 hl (by decide) rfl (fun ls hl => ?_)
  refine lv_aload_n hx hb dX6_makeThrow_15 rfl (lv_at hl 2 rfl) ?_
  refine lv_iload_n hx hb dX6_makeThrow_16 rfl (lv_at hl 1 rfl) ?_
  refine lv_iload hx hb dX6_makeThrow_17 (lv_at hl 0 rfl) ?_
  refine lv_iconst (v := 1) hx hb dX6_makeThrow_19 (by decide) ?_
  refine lv_iadd hx hb dX6_makeThrow_20 ?_
  refine lv_iload hx hb dX6_makeThrow_21 (lv_at hl 0 rfl) ?_
  refine lv_if_ne (tgt := 30) hx hb dX6_makeThrow_23 (by decide) (fun c2 => ?_) (fun c2 => ?_)
  · have hf := it_f c2 hf
    refine lv_aload_n hx hb dX6_makeThrow_30 rfl (lv_at hl 2 rfl) ?_
    refine lv_iload_n hx hb dX6_makeThrow_31 rfl (lv_at hl 3 rfl) ?_
    obtain ⟨q3, hq3, hf⟩ := ob_s hf
    refine z_roV X Z (c_X6_firstThrowTo l D cI cR a0 a1 a2 a3 a4 a_steps a_firstThrows a_lastThrows a_reached a_reachedCount p1 hq3) (zw_X6_58 X.1.2.2.2.2 ⟨Nat.le_of_ble_eq_true rfl, Nat.le_of_ble_eq_true rfl⟩) 0 6 rfl rfl rfl [0] [] (by decide : ([0] ++ [] : List Nat).Perm (List.range 1)) rfl rfl hl.1 rfl (Nat.le_of_ble_eq_true rfl) dX6_makeThrow_32 ⟨Nat.le_of_ble_eq_true rfl, Nat.le_of_ble_eq_true rfl⟩ (fun H locs Z => ?_)
    refine lv_iload_n hx hb dX6_makeThrow_35 rfl (lv_at hl 4 rfl) ?_
    obtain ⟨q4, hq4, hf⟩ := ob_s hf
    refine z_callV X Z (c_X6_reach l D cI cR a0 a1 a2 a3 a4 a_steps a_firstThrows a_lastThrows a_reached a_reachedCount ((p1 ||| ((1 : Int32) <<< (p2 &&& 31))) >>> ((1 : Int32) &&& 31)) (q1 + (1 : Int32)) q3 p2 hq4) (zw_X6_34 X.1.2.2.2.2 ⟨Nat.le_of_ble_eq_true rfl, Nat.le_of_ble_eq_true rfl⟩) 0 6 rfl rfl rfl [0] [] [w_X6 cI cR a0 a1 a2 a3 a4 q4.1 q4.2.1 q4.2.2.1 q4.2.2.2.1 q4.2.2.2.2] (by decide : ([0] ++ [] : List Nat).Perm (List.range 1)) rfl rfl rfl rfl rfl hl.1 rfl (Nat.le_of_ble_eq_true rfl) dX6_makeThrow_36 ⟨Nat.le_of_ble_eq_true rfl, Nat.le_of_ble_eq_true rfl⟩ (fun H locs Z => ?_)
    have hR := so_s hf
    subst hR
    refine z_vret X hr hlocks ?_ dX6_makeThrow_39
    exact Z.eq rfl
  · have hf := it_t c2 hf
    refine lv_iload_n hx hb dX6_makeThrow_26 rfl (lv_at hl 4 rfl) ?_
    refine lv_goto (tgt := 35) hx hb dX6_makeThrow_27 (by decide) ?_
    refine lv_iload_n hx hb dX6_makeThrow_35 rfl (lv_at hl 4 rfl) ?_
    obtain ⟨q5, hq5, hf⟩ := ob_s hf
    refine z_callV X Z (c_X6_reach l D cI cR a0 a1 a2 a3 a4 a_steps a_firstThrows a_lastThrows a_reached a_reachedCount ((p1 ||| ((1 : Int32) <<< (p2 &&& 31))) >>> ((1 : Int32) &&& 31)) (q1 + (1 : Int32)) p2 p2 hq5) (zw_X6_34 X.1.2.2.2.2 ⟨Nat.le_of_ble_eq_true rfl, Nat.le_of_ble_eq_true rfl⟩) 0 6 rfl rfl rfl [0] [] [w_X6 cI cR a0 a1 a2 a3 a4 q5.1 q5.2.1 q5.2.2.1 q5.2.2.2.1 q5.2.2.2.2] (by decide : ([0] ++ [] : List Nat).Perm (List.range 1)) rfl rfl rfl rfl rfl hl.1 rfl (Nat.le_of_ble_eq_true rfl) dX6_makeThrow_36 ⟨Nat.le_of_ble_eq_true rfl, Nat.le_of_ble_eq_true rfl⟩ (fun H locs Z => ?_)
    have hR := so_s hf
    subst hR
    refine z_vret X hr hlocks ?_ dX6_makeThrow_39
    exact Z.eq rfl
def f_X6_goOnFrom_L17 (x1 : Int32) : Nat → Int32 → (Nat → Int32) → (Nat → Int32) → (Nat → Int32) → (Nat → Int32) → Int32 → Option ((Nat → Int32) × (Nat → Int32) × (Nat → Int32) × (Nat → Int32) × Int32)
  | 0, _, _, _, _, _, _ => none
  | n + 1, x2, a_steps, a_firstThrows, a_lastThrows, a_reached, a_reachedCount => if (8 : Int32) ≤ x2 then (some (a_steps, a_firstThrows, a_lastThrows, a_reached, a_reachedCount)) else ((f_X7_has x1 x2).bind (fun q4 => if q4 = 0 then ((f_X6_makeThrow a_steps a_firstThrows a_lastThrows a_reached a_reachedCount x1 x2).bind (fun q6 => f_X6_goOnFrom_L17 x1 n (x2 + (1 : Int32)) q6.1 q6.2.1 q6.2.2.1 q6.2.2.2.1 q6.2.2.2.2)) else (f_X6_goOnFrom_L17 x1 n (x2 + (1 : Int32)) a_steps a_firstThrows a_lastThrows a_reached a_reachedCount)))
set_option maxHeartbeats 4000000 in
set_option maxRecDepth 100000 in
theorem w_X6_goOnFrom_L17 {p : Program} {l : Launch} {e : Env} {s : State} {m : MethodId} {args : Array Value} {below : List Frame} {meth : Method} {c : Code} {D : va_G} {cI cR : ClassId} {A : Nat → Prop} {a0 : Nat} {a1 : Nat} {a2 : Nat} {a3 : Nat} {a4 : Nat} {x1 : Int32} {R : (Nat → Int32) × (Nat → Int32) × (Nat → Int32) × (Nat → Int32) × Int32} (X : zX p s m c cX6_goOnFrom 3 args RX6 D cI cR A) (hr : meth.sig.returnType = none) (hlocks : meth.locks = false) : ∀ (n : Nat)  {x2 : Int32} {a_steps : (Nat → Int32)} {a_firstThrows : (Nat → Int32)} {a_lastThrows : (Nat → Int32)} {a_reached : (Nat → Int32)} {a_reachedCount : Int32} {H : Heap} {locs : List Loc} {ls : Array Slot}, f_X6_goOnFrom_L17 x1 n x2 a_steps a_firstThrows a_lastThrows a_reached a_reachedCount = some R → zW D A s [w_X6 cI cR a0 a1 a2 a3 a4 a_steps a_firstThrows a_lastThrows a_reached a_reachedCount] H locs → lv_has ls 3 [(0, .ref a0), (1, .int x1), (2, .int x2)] → W p l e ({ frames := 4, cells := 0, slots := 0, locals := 90 } : Room) s m args below meth c H locs 0 0 (zE D A below s args none [w_X6 cI cR a0 a1 a2 a3 a4 R.1 R.2.1 R.2.2.1 R.2.2.2.1 R.2.2.2.2]) (F0 m 17 ls []) := by
  have hx := X.1.1
  have hb := X.1.2.1
  intro n
  induction n with
  | zero =>
    intro x2 a_steps a_firstThrows a_lastThrows a_reached a_reachedCount H locs ls hf
    have hf : none = some R := hf
    cases hf
  | succ n ih =>
    intro x2 a_steps a_firstThrows a_lastThrows a_reached a_reachedCount H locs ls hf Z hl
    refine lv_iload_n hx hb dX6_goOnFrom_17 rfl (lv_at hl 2 rfl) ?_
    refine lv_bipush (v := 8) hx hb dX6_goOnFrom_18 (by decide) ?_
    refine lv_icmp_ge (tgt := 43) hx hb dX6_goOnFrom_20 (by decide) (fun c3 => ?_) (fun c3 => ?_)
    · have hf := it_t c3 hf
      have hR := so_s hf
      subst hR
      refine z_vret X hr hlocks ?_ dX6_goOnFrom_43
      exact Z.eq rfl
    · have hf := it_f c3 hf
      refine lv_iload_n hx hb dX6_goOnFrom_23 rfl (lv_at hl 1 rfl) ?_
      refine lv_iload_n hx hb dX6_goOnFrom_24 rfl (lv_at hl 2 rfl) ?_
      obtain ⟨q4, hq4, hf⟩ := ob_s hf
      refine z_roSN X Z (c_X7_has l D cI cR   x1 x2 hq4) (zw_X6_46 X.2.1 X.1.2.2.2.2 ⟨Nat.le_of_ble_eq_true rfl, Nat.le_of_ble_eq_true rfl⟩) [] [0] (by decide : ([] ++ [0] : List Nat).Perm (List.range 1)) rfl rfl hl.1 rfl (Nat.le_of_ble_eq_true rfl) dX6_goOnFrom_25 ⟨Nat.le_of_ble_eq_true rfl, Nat.le_of_ble_eq_true rfl⟩ (fun H locs Z => ?_)
      refine lv_if_ne (tgt := 37) hx hb dX6_goOnFrom_28 (by decide) (fun c5 => ?_) (fun c5 => ?_)
      · have hf := it_f c5 hf
        refine lv_iinc (v := x2 + (1 : Int32)) (lv' := [(2, .int (x2 + (1 : Int32))), (0, .ref a0), (1, .int x1)]) hx hb dX6_goOnFrom_37 hl (k := 2) rfl rfl (by decide) rfl (fun ls hl => ?_)
        refine lv_goto (tgt := 17) hx hb dX6_goOnFrom_40 (by decide) ?_
        exact ih hf Z (lv_sub hl [1, 2, 0] rfl)
      · have hf := it_t c5 hf
        refine lv_aload_n hx hb dX6_goOnFrom_31 rfl (lv_at hl 0 rfl) ?_
        refine lv_iload_n hx hb dX6_goOnFrom_32 rfl (lv_at hl 1 rfl) ?_
        refine lv_iload_n hx hb dX6_goOnFrom_33 rfl (lv_at hl 2 rfl) ?_
        obtain ⟨q6, hq6, hf⟩ := ob_s hf
        refine z_callV X Z (c_X6_makeThrow l D cI cR a0 a1 a2 a3 a4 a_steps a_firstThrows a_lastThrows a_reached a_reachedCount x1 x2 hq6) (zw_X6_50 X.1.2.2.2.2 ⟨Nat.le_of_ble_eq_true rfl, Nat.le_of_ble_eq_true rfl⟩) 0 6 rfl rfl rfl [0] [] [w_X6 cI cR a0 a1 a2 a3 a4 q6.1 q6.2.1 q6.2.2.1 q6.2.2.2.1 q6.2.2.2.2] (by decide : ([0] ++ [] : List Nat).Perm (List.range 1)) rfl rfl rfl rfl rfl hl.1 rfl (Nat.le_of_ble_eq_true rfl) dX6_goOnFrom_34 ⟨Nat.le_of_ble_eq_true rfl, Nat.le_of_ble_eq_true rfl⟩ (fun H locs Z => ?_)
        refine lv_iinc (v := x2 + (1 : Int32)) (lv' := [(2, .int (x2 + (1 : Int32))), (0, .ref a0), (1, .int x1)]) hx hb dX6_goOnFrom_37 hl (k := 2) rfl rfl (by decide) rfl (fun ls hl => ?_)
        refine lv_goto (tgt := 17) hx hb dX6_goOnFrom_40 (by decide) ?_
        exact ih hf Z (lv_sub hl [1, 2, 0] rfl)

def f_X6_goOnFrom (a_steps : (Nat → Int32)) (a_firstThrows : (Nat → Int32)) (a_lastThrows : (Nat → Int32)) (a_reached : (Nat → Int32)) (a_reachedCount : Int32) (p1 : Int32) : Option ((Nat → Int32) × (Nat → Int32) × (Nat → Int32) × (Nat → Int32) × Int32) := (f_X7_has p1 (0 : Int32)).bind (fun q1 => if q1 = 0 then ((f_X6_makeThrow a_steps a_firstThrows a_lastThrows a_reached a_reachedCount p1 (0 : Int32)).bind (fun q7 => some (q7.1, q7.2.1, q7.2.2.1, q7.2.2.2.1, q7.2.2.2.2))) else (f_X6_goOnFrom_L17 p1 zF (1 : Int32) a_steps a_firstThrows a_lastThrows a_reached a_reachedCount))
set_option maxHeartbeats 4000000 in
set_option maxRecDepth 100000 in
theorem c_X6_goOnFrom (l : Launch) (D : va_G) (cI cR : ClassId) (a0 : Nat) (a1 : Nat) (a2 : Nat) (a3 : Nat) (a4 : Nat) (a_steps : (Nat → Int32)) (a_firstThrows : (Nat → Int32)) (a_lastThrows : (Nat → Int32)) (a_reached : (Nat → Int32)) (a_reachedCount : Int32) (p1 : Int32) {R : (Nat → Int32) × (Nat → Int32) × (Nat → Int32) × (Nat → Int32) × Int32} (hf : f_X6_goOnFrom a_steps a_firstThrows a_lastThrows a_reached a_reachedCount p1 = some R) : zM l D cI cR yX6_goOnFrom cX6_goOnFrom 3 none 4 90 [.ref a0, .int p1] [w_X6 cI cR a0 a1 a2 a3 a4 a_steps a_firstThrows a_lastThrows a_reached a_reachedCount] none [w_X6 cI cR a0 a1 a2 a3 a4 R.1 R.2.1 R.2.2.1 R.2.2.2.1 R.2.2.2.2] := by
  refine z_of (own := RX6) rfl (by decide) (Nat.le_of_ble_eq_true rfl) ?_
  intro p e s m args below meth c A ls X hr hlocks Z hl
  have hx := X.1.1
  have hb := X.1.2.1
  have Z : zW D A s [w_X6 cI cR a0 a1 a2 a3 a4 a_steps a_firstThrows a_lastThrows a_reached a_reachedCount] s.heap [] := Z
  have hl : lv_has ls 3 [(0, .ref a0), (1, .int p1)] := hl
  refine lv_iload_n hx hb dX6_goOnFrom_0 rfl (lv_at hl 1 rfl) ?_
  refine lv_iconst (v := 0) hx hb dX6_goOnFrom_1 (by decide) ?_
  obtain ⟨q1, hq1, hf⟩ := ob_s hf
  refine z_roSN X Z (c_X7_has l D cI cR   p1 (0 : Int32) hq1) (zw_X6_46 X.2.1 X.1.2.2.2.2 ⟨Nat.le_of_ble_eq_true rfl, Nat.le_of_ble_eq_true rfl⟩) [] [0] (by decide : ([] ++ [0] : List Nat).Perm (List.range 1)) rfl rfl hl.1 rfl (Nat.le_of_ble_eq_true rfl) dX6_goOnFrom_2 ⟨Nat.le_of_ble_eq_true rfl, Nat.le_of_ble_eq_true rfl⟩ (fun H locs Z => ?_)
  refine lv_if_ne (tgt := 15) hx hb dX6_goOnFrom_5 (by decide) (fun c2 => ?_) (fun c2 => ?_)
  · have hf := it_f c2 hf
    refine lv_iconst (v := 1) hx hb dX6_goOnFrom_15 (by decide) ?_
    refine lv_istore_n (lv' := [(2, .int (1 : Int32)), (0, .ref a0), (1, .int p1)]) hx hb dX6_goOnFrom_16 rfl hl (by decide) rfl (fun ls hl => ?_)
    exact w_X6_goOnFrom_L17 X hr hlocks _ hf Z (lv_sub hl [1, 2, 0] rfl)
  · have hf := it_t c2 hf
    refine lv_aload_n hx hb dX6_goOnFrom_8 rfl (lv_at hl 0 rfl) ?_
    refine lv_iload_n hx hb dX6_goOnFrom_9 rfl (lv_at hl 1 rfl) ?_
    refine lv_iconst (v := 0) hx hb dX6_goOnFrom_10 (by decide) ?_
    obtain ⟨q7, hq7, hf⟩ := ob_s hf
    refine z_callV X Z (c_X6_makeThrow l D cI cR a0 a1 a2 a3 a4 a_steps a_firstThrows a_lastThrows a_reached a_reachedCount p1 (0 : Int32) hq7) (zw_X6_50 X.1.2.2.2.2 ⟨Nat.le_of_ble_eq_true rfl, Nat.le_of_ble_eq_true rfl⟩) 0 6 rfl rfl rfl [0] [] [w_X6 cI cR a0 a1 a2 a3 a4 q7.1 q7.2.1 q7.2.2.1 q7.2.2.2.1 q7.2.2.2.2] (by decide : ([0] ++ [] : List Nat).Perm (List.range 1)) rfl rfl rfl rfl rfl hl.1 rfl (Nat.le_of_ble_eq_true rfl) dX6_goOnFrom_11 ⟨Nat.le_of_ble_eq_true rfl, Nat.le_of_ble_eq_true rfl⟩ (fun H locs Z => ?_)
    have hR := so_s hf
    subst hR
    refine z_vret X hr hlocks ?_ dX6_goOnFrom_14
    exact Z.eq rfl
def f_X6_searchFrom_L23 : Nat → Int32 → (Nat → Int32) → (Nat → Int32) → (Nat → Int32) → (Nat → Int32) → Int32 → Option ((Nat → Int32) × (Nat → Int32) × (Nat → Int32) × (Nat → Int32) × Int32)
  | 0, _, _, _, _, _, _ => none
  | n + 1, x2, a_steps, a_firstThrows, a_lastThrows, a_reached, a_reachedCount => if a_reachedCount ≤ x2 then (some (a_steps, a_firstThrows, a_lastThrows, a_reached, a_reachedCount)) else (if (256 : Int32) ≤ x2 then (some (a_steps, a_firstThrows, a_lastThrows, a_reached, a_reachedCount)) else ((f_X7_valueAt 256 a_reached x2).bind (fun q5 => (f_X6_goOnFrom a_steps a_firstThrows a_lastThrows a_reached a_reachedCount q5).bind (fun q6 => f_X6_searchFrom_L23  n (x2 + (1 : Int32)) q6.1 q6.2.1 q6.2.2.1 q6.2.2.2.1 q6.2.2.2.2))))
set_option maxHeartbeats 4000000 in
set_option maxRecDepth 100000 in
theorem w_X6_searchFrom_L23 {p : Program} {l : Launch} {e : Env} {s : State} {m : MethodId} {args : Array Value} {below : List Frame} {meth : Method} {c : Code} {D : va_G} {cI cR : ClassId} {A : Nat → Prop} {a0 : Nat} {a1 : Nat} {a2 : Nat} {a3 : Nat} {a4 : Nat} {R : (Nat → Int32) × (Nat → Int32) × (Nat → Int32) × (Nat → Int32) × Int32} (X : zX p s m c cX6_searchFrom 3 args RX6 D cI cR A) (hr : meth.sig.returnType = none) (hlocks : meth.locks = false) : ∀ (n : Nat)  {x2 : Int32} {a_steps : (Nat → Int32)} {a_firstThrows : (Nat → Int32)} {a_lastThrows : (Nat → Int32)} {a_reached : (Nat → Int32)} {a_reachedCount : Int32} {H : Heap} {locs : List Loc} {ls : Array Slot}, f_X6_searchFrom_L23  n x2 a_steps a_firstThrows a_lastThrows a_reached a_reachedCount = some R → zW D A s [w_X6 cI cR a0 a1 a2 a3 a4 a_steps a_firstThrows a_lastThrows a_reached a_reachedCount] H locs → lv_has ls 3 [(0, .ref a0), (2, .int x2)] → W p l e ({ frames := 5, cells := 0, slots := 0, locals := 112 } : Room) s m args below meth c H locs 0 0 (zE D A below s args none [w_X6 cI cR a0 a1 a2 a3 a4 R.1 R.2.1 R.2.2.1 R.2.2.2.1 R.2.2.2.2]) (F0 m 23 ls []) := by
  have hx := X.1.1
  have hb := X.1.2.1
  intro n
  induction n with
  | zero =>
    intro x2 a_steps a_firstThrows a_lastThrows a_reached a_reachedCount H locs ls hf
    have hf : none = some R := hf
    cases hf
  | succ n ih =>
    intro x2 a_steps a_firstThrows a_lastThrows a_reached a_reachedCount H locs ls hf Z hl
    refine lv_iload_n hx hb dX6_searchFrom_23 rfl (lv_at hl 1 rfl) ?_
    refine lv_aload_n hx hb dX6_searchFrom_24 rfl (lv_at hl 0 rfl) ?_
    refine zg_X6_30 X Z 0 rfl rfl dX6_searchFrom_25 ?_
    refine lv_icmp_ge (tgt := 56) hx hb dX6_searchFrom_28 (by decide) (fun c3 => ?_) (fun c3 => ?_)
    · have hf := it_t c3 hf
      have hR := so_s hf
      subst hR
      refine z_vret X hr hlocks ?_ dX6_searchFrom_56
      exact Z.eq rfl
    · have hf := it_f c3 hf
      refine lv_iload_n hx hb dX6_searchFrom_31 rfl (lv_at hl 1 rfl) ?_
      refine lv_sipush (v := 256) hx hb dX6_searchFrom_32 (by decide) ?_
      refine lv_icmp_ge (tgt := 56) hx hb dX6_searchFrom_35 (by decide) (fun c4 => ?_) (fun c4 => ?_)
      · have hf := it_t c4 hf
        have hR := so_s hf
        subst hR
        refine z_vret X hr hlocks ?_ dX6_searchFrom_56
        exact Z.eq rfl
      · have hf := it_f c4 hf
        refine lv_aload_n hx hb dX6_searchFrom_38 rfl (lv_at hl 0 rfl) ?_
        refine lv_aload_n hx hb dX6_searchFrom_39 rfl (lv_at hl 0 rfl) ?_
        refine zg_X6_21 X Z 0 rfl rfl dX6_searchFrom_40 ?_
        refine lv_iload_n hx hb dX6_searchFrom_43 rfl (lv_at hl 1 rfl) ?_
        have Z : zW D A s [[(a0, .inr (6, [.ref a1, .ref a2, .ref a3, .ref a4, .int a_reachedCount]))], [(a1, .inl (cI, 256, .inl a_steps))], [(a2, .inl (cI, 256, .inl a_firstThrows))], [(a3, .inl (cI, 256, .inl a_lastThrows))], [(a4, .inl (cI, 256, .inl a_reached))]] _ _ := Z.eq rfl
        obtain ⟨q5, hq5, hf⟩ := ob_s hf
        refine z_roSN X Z (c_X7_valueAt l D cI cR a4 256 a_reached x2 hq5) (zw_X6_38 X.2.1 X.1.2.2.2.2 ⟨Nat.le_of_ble_eq_true rfl, Nat.le_of_ble_eq_true rfl⟩) [4] [0, 1, 2, 3] (by decide : ([4] ++ [0, 1, 2, 3] : List Nat).Perm (List.range 5)) rfl rfl hl.1 rfl (Nat.le_of_ble_eq_true rfl) dX6_searchFrom_44 ⟨Nat.le_of_ble_eq_true rfl, Nat.le_of_ble_eq_true rfl⟩ (fun H locs Z => ?_)
        have Z : zW D A s [w_X6 cI cR a0 a1 a2 a3 a4 a_steps a_firstThrows a_lastThrows a_reached a_reachedCount] _ _ := Z.eq rfl
        obtain ⟨q6, hq6, hf⟩ := ob_s hf
        refine z_callV X Z (c_X6_goOnFrom l D cI cR a0 a1 a2 a3 a4 a_steps a_firstThrows a_lastThrows a_reached a_reachedCount q5 hq6) (zw_X6_42 X.1.2.2.2.2 ⟨Nat.le_of_ble_eq_true rfl, Nat.le_of_ble_eq_true rfl⟩) 0 6 rfl rfl rfl [0] [] [w_X6 cI cR a0 a1 a2 a3 a4 q6.1 q6.2.1 q6.2.2.1 q6.2.2.2.1 q6.2.2.2.2] (by decide : ([0] ++ [] : List Nat).Perm (List.range 1)) rfl rfl rfl rfl rfl hl.1 rfl (Nat.le_of_ble_eq_true rfl) dX6_searchFrom_47 ⟨Nat.le_of_ble_eq_true rfl, Nat.le_of_ble_eq_true rfl⟩ (fun H locs Z => ?_)
        refine lv_iinc (v := x2 + (1 : Int32)) (lv' := [(2, .int (x2 + (1 : Int32))), (0, .ref a0)]) hx hb dX6_searchFrom_50 hl (k := 1) rfl rfl (by decide) rfl (fun ls hl => ?_)
        refine lv_goto (tgt := 23) hx hb dX6_searchFrom_53 (by decide) ?_
        exact ih hf Z (lv_sub hl [1, 0] rfl)

def f_X6_searchFrom (a_steps : (Nat → Int32)) (a_firstThrows : (Nat → Int32)) (a_lastThrows : (Nat → Int32)) (a_reached : (Nat → Int32)) (a_reachedCount : Int32) (p1 : Int32) : Option ((Nat → Int32) × (Nat → Int32) × (Nat → Int32) × (Nat → Int32) × Int32) := (f_J7_fill_53178 256 a_steps (-1 : Int32)).bind (fun q1 => (f_X6_reach q1 a_firstThrows a_lastThrows a_reached (0 : Int32) p1 (0 : Int32) (0 : Int32) (0 : Int32)).bind (fun q2 => f_X6_searchFrom_L23  zF (0 : Int32) q2.1 q2.2.1 q2.2.2.1 q2.2.2.2.1 q2.2.2.2.2))
set_option maxHeartbeats 4000000 in
set_option maxRecDepth 100000 in
theorem c_X6_searchFrom (l : Launch) (D : va_G) (cI cR : ClassId) (a0 : Nat) (a1 : Nat) (a2 : Nat) (a3 : Nat) (a4 : Nat) (a_steps : (Nat → Int32)) (a_firstThrows : (Nat → Int32)) (a_lastThrows : (Nat → Int32)) (a_reached : (Nat → Int32)) (a_reachedCount : Int32) (p1 : Int32) {R : (Nat → Int32) × (Nat → Int32) × (Nat → Int32) × (Nat → Int32) × Int32} (hf : f_X6_searchFrom a_steps a_firstThrows a_lastThrows a_reached a_reachedCount p1 = some R) : zM l D cI cR yX6_searchFrom cX6_searchFrom 3 none 5 112 [.ref a0, .int p1] [w_X6 cI cR a0 a1 a2 a3 a4 a_steps a_firstThrows a_lastThrows a_reached a_reachedCount] none [w_X6 cI cR a0 a1 a2 a3 a4 R.1 R.2.1 R.2.2.1 R.2.2.2.1 R.2.2.2.2] := by
  refine z_of (own := RX6) rfl (by decide) (Nat.le_of_ble_eq_true rfl) ?_
  intro p e s m args below meth c A ls X hr hlocks Z hl
  have hx := X.1.1
  have hb := X.1.2.1
  have Z : zW D A s [w_X6 cI cR a0 a1 a2 a3 a4 a_steps a_firstThrows a_lastThrows a_reached a_reachedCount] s.heap [] := Z
  have hl : lv_has ls 3 [(0, .ref a0), (1, .int p1)] := hl
  refine lv_aload_n hx hb dX6_searchFrom_0 rfl (lv_at hl 0 rfl) ?_
  refine zg_X6_9 X Z 0 rfl rfl dX6_searchFrom_1 ?_
  refine lv_iconst (v := -1) hx hb dX6_searchFrom_4 (by decide) ?_
  have Z : zW D A s [[(a0, .inr (6, [.ref a1, .ref a2, .ref a3, .ref a4, .int a_reachedCount]))], [(a1, .inl (cI, 256, .inl a_steps))], [(a2, .inl (cI, 256, .inl a_firstThrows))], [(a3, .inl (cI, 256, .inl a_lastThrows))], [(a4, .inl (cI, 256, .inl a_reached))]] _ _ := Z.eq rfl
  obtain ⟨q1, hq1, hf⟩ := ob_s hf
  refine z_callS X Z (c_J7_fill_53178 l D cI cR a1 256 a_steps (-1 : Int32) hq1) (zw_X6_24 X.1.2.2.2.2 ⟨Nat.le_of_ble_eq_true rfl, Nat.le_of_ble_eq_true rfl⟩) [1] [0, 2, 3, 4] [[(a0, .inr (6, [.ref a1, .ref a2, .ref a3, .ref a4, .int a_reachedCount]))], [(a1, .inl (cI, 256, .inl q1))], [(a2, .inl (cI, 256, .inl a_firstThrows))], [(a3, .inl (cI, 256, .inl a_lastThrows))], [(a4, .inl (cI, 256, .inl a_reached))]] (by decide : ([1] ++ [0, 2, 3, 4] : List Nat).Perm (List.range 5)) rfl rfl rfl rfl rfl hl.1 rfl (Nat.le_of_ble_eq_true rfl) dX6_searchFrom_5 ⟨Nat.le_of_ble_eq_true rfl, Nat.le_of_ble_eq_true rfl⟩ (fun H locs Z => ?_)
  refine lv_aload_n hx hb dX6_searchFrom_8 rfl (lv_at hl 0 rfl) ?_
  refine lv_iconst (v := 0) hx hb dX6_searchFrom_9 (by decide) ?_
  refine zp_X6_30 X Z 0 rfl (Nat.le_of_ble_eq_true rfl) [[(a0, .inr (6, [.ref a1, .ref a2, .ref a3, .ref a4, .int (0 : Int32)]))], [(a1, .inl (cI, 256, .inl q1))], [(a2, .inl (cI, 256, .inl a_firstThrows))], [(a3, .inl (cI, 256, .inl a_lastThrows))], [(a4, .inl (cI, 256, .inl a_reached))]] rfl dX6_searchFrom_10 (fun H locs Z => ?_)
  refine lv_aload_n hx hb dX6_searchFrom_13 rfl (lv_at hl 0 rfl) ?_
  refine lv_iload_n hx hb dX6_searchFrom_14 rfl (lv_at hl 1 rfl) ?_
  refine lv_iconst (v := 0) hx hb dX6_searchFrom_15 (by decide) ?_
  refine lv_iconst (v := 0) hx hb dX6_searchFrom_16 (by decide) ?_
  refine lv_iconst (v := 0) hx hb dX6_searchFrom_17 (by decide) ?_
  have Z : zW D A s [w_X6 cI cR a0 a1 a2 a3 a4 q1 a_firstThrows a_lastThrows a_reached (0 : Int32)] _ _ := Z.eq rfl
  obtain ⟨q2, hq2, hf⟩ := ob_s hf
  refine z_callV X Z (c_X6_reach l D cI cR a0 a1 a2 a3 a4 q1 a_firstThrows a_lastThrows a_reached (0 : Int32) p1 (0 : Int32) (0 : Int32) (0 : Int32) hq2) (zw_X6_34 X.1.2.2.2.2 ⟨Nat.le_of_ble_eq_true rfl, Nat.le_of_ble_eq_true rfl⟩) 0 6 rfl rfl rfl [0] [] [w_X6 cI cR a0 a1 a2 a3 a4 q2.1 q2.2.1 q2.2.2.1 q2.2.2.2.1 q2.2.2.2.2] (by decide : ([0] ++ [] : List Nat).Perm (List.range 1)) rfl rfl rfl rfl rfl hl.1 rfl (Nat.le_of_ble_eq_true rfl) dX6_searchFrom_18 ⟨Nat.le_of_ble_eq_true rfl, Nat.le_of_ble_eq_true rfl⟩ (fun H locs Z => ?_)
  refine lv_iconst (v := 0) hx hb dX6_searchFrom_21 (by decide) ?_
  refine lv_istore_n (lv' := [(2, .int (0 : Int32)), (0, .ref a0), (1, .int p1)]) hx hb dX6_searchFrom_22 rfl hl (by decide) rfl (fun ls hl => ?_)
  exact w_X6_searchFrom_L23 X hr hlocks _ hf Z (lv_sub hl [1, 0] rfl)
