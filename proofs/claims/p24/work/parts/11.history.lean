theorem z_ldq {p : Program} {l : Launch} {e : Env} {R : Room} {s : State} {m : MethodId} {args : Array Value} {below : List Frame} {meth : Method} {c : Code} {H : Heap} {locs : List Loc} {cells slots : Nat} {Q : State → Prop} {cc : ByteArray} {nL : Nat} {own : String} {D : va_G} {cI cR : ClassId} {A : Nat → Prop} {bs : zB} {pc : Nat} {ls : Array Slot} {rest : List Value} {a : Nat} {n : Nat} {f : Nat → Option Nat} {i : Int32} {j b : Nat} (X : zX p s m c cc nL args own D cI cR A) (Z : zW D A s bs H locs) (q0 : Nat) (ha : (bl bs)[q0]? = some (a, .inl (cR, n, .inr (.inr (.inr (.inr f)))))) (hin : ¬ (i < 0 ∨ n ≤ i.toNatClampNeg)) (hj : i.toNatClampNeg = j) (hv : f j = some b) (hdg : decode cc pc = .ok (.aaload, 1))
    (kk : W p l e R s m args below meth c H locs cells slots Q (F0 m (pc + 1) ls (.ref b :: rest))) : W p l e R s m args below meth c H locs cells slots Q (F0 m pc ls (.int i :: .ref a :: rest)) := by
  subst hj
  refine va_aldq X.1.1 X.1.2.1 X.2.1.1 Z.1 q0 1 ha rfl hin hdg ?_
  rw [hv]
  exact kk
set_option maxHeartbeats 4000000 in
set_option maxRecDepth 100000 in
theorem c_X0_latest_0 (l : Launch) (D : va_G) (cI cR : ClassId) (a : (Nat → Nat)) (a_rs : (Nat → ST)) (a_oldest : Int32) (a_size : Int32) (hi : f_X7_leftOver ((a_oldest + a_size) - (1 : Int32)) (6 : Int32) = some (0 : Int32)) : zM l D cI cR yX0_latest cX0_latest 2 (some (.object "JugglerStates$Scene")) 2 43 [.ref (a 0)] [w_X0 cI cR a a_rs a_oldest a_size] (some (.ref (a 2))) [w_X0 cI cR a a_rs a_oldest a_size] := by
  refine z_of (own := RX0) rfl (by decide) (Nat.le_of_ble_eq_true rfl) ?_
  intro p e s m args below meth c A ls X hr hlocks Z hl
  have hx := X.1.1
  have hb := X.1.2.1
  have Z : zW D A s [w_X0 cI cR a a_rs a_oldest a_size] s.heap [] := Z
  have hl : lv_has ls 2 [(0, .ref (a 0))] := hl
  refine lv_aload_n hx hb dX0_latest_0 rfl (lv_at hl 0 rfl) ?_
  refine zg_X0_22 X Z 0 rfl rfl dX0_latest_1 ?_
  refine lv_aload_n hx hb dX0_latest_4 rfl (lv_at hl 0 rfl) ?_
  refine zg_X0_18 X Z 0 rfl rfl dX0_latest_5 ?_
  refine lv_iadd hx hb dX0_latest_8 ?_
  refine lv_iconst (v := 1) hx hb dX0_latest_9 (by decide) ?_
  refine lv_isub hx hb dX0_latest_10 ?_
  refine lv_bipush (v := 6) hx hb dX0_latest_11 (by decide) ?_
  refine z_roSN X Z (c_X7_leftOver l D cI cR ((a_oldest + a_size) - (1 : Int32)) (6 : Int32) hi) (zw_X0_25 X.2.1 X.1.2.2.2.2 ⟨Nat.le_of_ble_eq_true rfl, Nat.le_of_ble_eq_true rfl⟩) [] [0] (by decide : ([] ++ [0] : List Nat).Perm (List.range 1)) rfl rfl hl.1 rfl (Nat.le_of_ble_eq_true rfl) dX0_latest_13 ⟨Nat.le_of_ble_eq_true rfl, Nat.le_of_ble_eq_true rfl⟩ (fun H locs Z => ?_)
  refine lv_istore_n (lv' := [(1, .int (0 : Int32)), (0, .ref (a 0))]) hx hb dX0_latest_16 rfl hl (by decide) rfl (fun ls hl => ?_)
  refine lv_iload_n hx hb dX0_latest_17 rfl (lv_at hl 0 rfl) ?_
  refine lv_if_lt (tgt := 39) hx hb dX0_latest_18 (by decide) (fun c1 => absurd c1 (by decide)) (fun _ => ?_)
  refine lv_iload_n hx hb dX0_latest_21 rfl (lv_at hl 0 rfl) ?_
  refine lv_aload_n hx hb dX0_latest_22 rfl (lv_at hl 1 rfl) ?_
  refine zg_X0_11 X Z 0 rfl rfl dX0_latest_23 ?_
  refine z_alenR (v := 6) X Z 1 rfl rfl dX0_latest_26 ?_
  refine lv_icmp_ge (tgt := 39) hx hb dX0_latest_27 (by decide) (fun c2 => absurd c2 (by decide)) (fun _ => ?_)
  refine lv_aload_n hx hb dX0_latest_30 rfl (lv_at hl 1 rfl) ?_
  refine zg_X0_11 X Z 0 rfl rfl dX0_latest_31 ?_
  refine lv_iload_n hx hb dX0_latest_34 rfl (lv_at hl 0 rfl) ?_
  refine z_ldq (j := 0) (b := (a 2)) X Z 1 rfl (by decide) (by decide) rfl dX0_latest_35 ?_
  refine lv_goto (tgt := 40) hx hb dX0_latest_36 (by decide) ?_
  refine z_aret X hr hlocks (Or.inr ⟨_, rfl⟩) ?_ dX0_latest_40
  exact Z.eq rfl
set_option maxHeartbeats 4000000 in
set_option maxRecDepth 100000 in
theorem c_X0_latest_1 (l : Launch) (D : va_G) (cI cR : ClassId) (a : (Nat → Nat)) (a_rs : (Nat → ST)) (a_oldest : Int32) (a_size : Int32) (hi : f_X7_leftOver ((a_oldest + a_size) - (1 : Int32)) (6 : Int32) = some (1 : Int32)) : zM l D cI cR yX0_latest cX0_latest 2 (some (.object "JugglerStates$Scene")) 2 43 [.ref (a 0)] [w_X0 cI cR a a_rs a_oldest a_size] (some (.ref (a 7))) [w_X0 cI cR a a_rs a_oldest a_size] := by
  refine z_of (own := RX0) rfl (by decide) (Nat.le_of_ble_eq_true rfl) ?_
  intro p e s m args below meth c A ls X hr hlocks Z hl
  have hx := X.1.1
  have hb := X.1.2.1
  have Z : zW D A s [w_X0 cI cR a a_rs a_oldest a_size] s.heap [] := Z
  have hl : lv_has ls 2 [(0, .ref (a 0))] := hl
  refine lv_aload_n hx hb dX0_latest_0 rfl (lv_at hl 0 rfl) ?_
  refine zg_X0_22 X Z 0 rfl rfl dX0_latest_1 ?_
  refine lv_aload_n hx hb dX0_latest_4 rfl (lv_at hl 0 rfl) ?_
  refine zg_X0_18 X Z 0 rfl rfl dX0_latest_5 ?_
  refine lv_iadd hx hb dX0_latest_8 ?_
  refine lv_iconst (v := 1) hx hb dX0_latest_9 (by decide) ?_
  refine lv_isub hx hb dX0_latest_10 ?_
  refine lv_bipush (v := 6) hx hb dX0_latest_11 (by decide) ?_
  refine z_roSN X Z (c_X7_leftOver l D cI cR ((a_oldest + a_size) - (1 : Int32)) (6 : Int32) hi) (zw_X0_25 X.2.1 X.1.2.2.2.2 ⟨Nat.le_of_ble_eq_true rfl, Nat.le_of_ble_eq_true rfl⟩) [] [0] (by decide : ([] ++ [0] : List Nat).Perm (List.range 1)) rfl rfl hl.1 rfl (Nat.le_of_ble_eq_true rfl) dX0_latest_13 ⟨Nat.le_of_ble_eq_true rfl, Nat.le_of_ble_eq_true rfl⟩ (fun H locs Z => ?_)
  refine lv_istore_n (lv' := [(1, .int (1 : Int32)), (0, .ref (a 0))]) hx hb dX0_latest_16 rfl hl (by decide) rfl (fun ls hl => ?_)
  refine lv_iload_n hx hb dX0_latest_17 rfl (lv_at hl 0 rfl) ?_
  refine lv_if_lt (tgt := 39) hx hb dX0_latest_18 (by decide) (fun c1 => absurd c1 (by decide)) (fun _ => ?_)
  refine lv_iload_n hx hb dX0_latest_21 rfl (lv_at hl 0 rfl) ?_
  refine lv_aload_n hx hb dX0_latest_22 rfl (lv_at hl 1 rfl) ?_
  refine zg_X0_11 X Z 0 rfl rfl dX0_latest_23 ?_
  refine z_alenR (v := 6) X Z 1 rfl rfl dX0_latest_26 ?_
  refine lv_icmp_ge (tgt := 39) hx hb dX0_latest_27 (by decide) (fun c2 => absurd c2 (by decide)) (fun _ => ?_)
  refine lv_aload_n hx hb dX0_latest_30 rfl (lv_at hl 1 rfl) ?_
  refine zg_X0_11 X Z 0 rfl rfl dX0_latest_31 ?_
  refine lv_iload_n hx hb dX0_latest_34 rfl (lv_at hl 0 rfl) ?_
  refine z_ldq (j := 1) (b := (a 7)) X Z 1 rfl (by decide) (by decide) rfl dX0_latest_35 ?_
  refine lv_goto (tgt := 40) hx hb dX0_latest_36 (by decide) ?_
  refine z_aret X hr hlocks (Or.inr ⟨_, rfl⟩) ?_ dX0_latest_40
  exact Z.eq rfl
set_option maxHeartbeats 4000000 in
set_option maxRecDepth 100000 in
theorem c_X0_latest_2 (l : Launch) (D : va_G) (cI cR : ClassId) (a : (Nat → Nat)) (a_rs : (Nat → ST)) (a_oldest : Int32) (a_size : Int32) (hi : f_X7_leftOver ((a_oldest + a_size) - (1 : Int32)) (6 : Int32) = some (2 : Int32)) : zM l D cI cR yX0_latest cX0_latest 2 (some (.object "JugglerStates$Scene")) 2 43 [.ref (a 0)] [w_X0 cI cR a a_rs a_oldest a_size] (some (.ref (a 12))) [w_X0 cI cR a a_rs a_oldest a_size] := by
  refine z_of (own := RX0) rfl (by decide) (Nat.le_of_ble_eq_true rfl) ?_
  intro p e s m args below meth c A ls X hr hlocks Z hl
  have hx := X.1.1
  have hb := X.1.2.1
  have Z : zW D A s [w_X0 cI cR a a_rs a_oldest a_size] s.heap [] := Z
  have hl : lv_has ls 2 [(0, .ref (a 0))] := hl
  refine lv_aload_n hx hb dX0_latest_0 rfl (lv_at hl 0 rfl) ?_
  refine zg_X0_22 X Z 0 rfl rfl dX0_latest_1 ?_
  refine lv_aload_n hx hb dX0_latest_4 rfl (lv_at hl 0 rfl) ?_
  refine zg_X0_18 X Z 0 rfl rfl dX0_latest_5 ?_
  refine lv_iadd hx hb dX0_latest_8 ?_
  refine lv_iconst (v := 1) hx hb dX0_latest_9 (by decide) ?_
  refine lv_isub hx hb dX0_latest_10 ?_
  refine lv_bipush (v := 6) hx hb dX0_latest_11 (by decide) ?_
  refine z_roSN X Z (c_X7_leftOver l D cI cR ((a_oldest + a_size) - (1 : Int32)) (6 : Int32) hi) (zw_X0_25 X.2.1 X.1.2.2.2.2 ⟨Nat.le_of_ble_eq_true rfl, Nat.le_of_ble_eq_true rfl⟩) [] [0] (by decide : ([] ++ [0] : List Nat).Perm (List.range 1)) rfl rfl hl.1 rfl (Nat.le_of_ble_eq_true rfl) dX0_latest_13 ⟨Nat.le_of_ble_eq_true rfl, Nat.le_of_ble_eq_true rfl⟩ (fun H locs Z => ?_)
  refine lv_istore_n (lv' := [(1, .int (2 : Int32)), (0, .ref (a 0))]) hx hb dX0_latest_16 rfl hl (by decide) rfl (fun ls hl => ?_)
  refine lv_iload_n hx hb dX0_latest_17 rfl (lv_at hl 0 rfl) ?_
  refine lv_if_lt (tgt := 39) hx hb dX0_latest_18 (by decide) (fun c1 => absurd c1 (by decide)) (fun _ => ?_)
  refine lv_iload_n hx hb dX0_latest_21 rfl (lv_at hl 0 rfl) ?_
  refine lv_aload_n hx hb dX0_latest_22 rfl (lv_at hl 1 rfl) ?_
  refine zg_X0_11 X Z 0 rfl rfl dX0_latest_23 ?_
  refine z_alenR (v := 6) X Z 1 rfl rfl dX0_latest_26 ?_
  refine lv_icmp_ge (tgt := 39) hx hb dX0_latest_27 (by decide) (fun c2 => absurd c2 (by decide)) (fun _ => ?_)
  refine lv_aload_n hx hb dX0_latest_30 rfl (lv_at hl 1 rfl) ?_
  refine zg_X0_11 X Z 0 rfl rfl dX0_latest_31 ?_
  refine lv_iload_n hx hb dX0_latest_34 rfl (lv_at hl 0 rfl) ?_
  refine z_ldq (j := 2) (b := (a 12)) X Z 1 rfl (by decide) (by decide) rfl dX0_latest_35 ?_
  refine lv_goto (tgt := 40) hx hb dX0_latest_36 (by decide) ?_
  refine z_aret X hr hlocks (Or.inr ⟨_, rfl⟩) ?_ dX0_latest_40
  exact Z.eq rfl
set_option maxHeartbeats 4000000 in
set_option maxRecDepth 100000 in
theorem c_X0_latest_3 (l : Launch) (D : va_G) (cI cR : ClassId) (a : (Nat → Nat)) (a_rs : (Nat → ST)) (a_oldest : Int32) (a_size : Int32) (hi : f_X7_leftOver ((a_oldest + a_size) - (1 : Int32)) (6 : Int32) = some (3 : Int32)) : zM l D cI cR yX0_latest cX0_latest 2 (some (.object "JugglerStates$Scene")) 2 43 [.ref (a 0)] [w_X0 cI cR a a_rs a_oldest a_size] (some (.ref (a 17))) [w_X0 cI cR a a_rs a_oldest a_size] := by
  refine z_of (own := RX0) rfl (by decide) (Nat.le_of_ble_eq_true rfl) ?_
  intro p e s m args below meth c A ls X hr hlocks Z hl
  have hx := X.1.1
  have hb := X.1.2.1
  have Z : zW D A s [w_X0 cI cR a a_rs a_oldest a_size] s.heap [] := Z
  have hl : lv_has ls 2 [(0, .ref (a 0))] := hl
  refine lv_aload_n hx hb dX0_latest_0 rfl (lv_at hl 0 rfl) ?_
  refine zg_X0_22 X Z 0 rfl rfl dX0_latest_1 ?_
  refine lv_aload_n hx hb dX0_latest_4 rfl (lv_at hl 0 rfl) ?_
  refine zg_X0_18 X Z 0 rfl rfl dX0_latest_5 ?_
  refine lv_iadd hx hb dX0_latest_8 ?_
  refine lv_iconst (v := 1) hx hb dX0_latest_9 (by decide) ?_
  refine lv_isub hx hb dX0_latest_10 ?_
  refine lv_bipush (v := 6) hx hb dX0_latest_11 (by decide) ?_
  refine z_roSN X Z (c_X7_leftOver l D cI cR ((a_oldest + a_size) - (1 : Int32)) (6 : Int32) hi) (zw_X0_25 X.2.1 X.1.2.2.2.2 ⟨Nat.le_of_ble_eq_true rfl, Nat.le_of_ble_eq_true rfl⟩) [] [0] (by decide : ([] ++ [0] : List Nat).Perm (List.range 1)) rfl rfl hl.1 rfl (Nat.le_of_ble_eq_true rfl) dX0_latest_13 ⟨Nat.le_of_ble_eq_true rfl, Nat.le_of_ble_eq_true rfl⟩ (fun H locs Z => ?_)
  refine lv_istore_n (lv' := [(1, .int (3 : Int32)), (0, .ref (a 0))]) hx hb dX0_latest_16 rfl hl (by decide) rfl (fun ls hl => ?_)
  refine lv_iload_n hx hb dX0_latest_17 rfl (lv_at hl 0 rfl) ?_
  refine lv_if_lt (tgt := 39) hx hb dX0_latest_18 (by decide) (fun c1 => absurd c1 (by decide)) (fun _ => ?_)
  refine lv_iload_n hx hb dX0_latest_21 rfl (lv_at hl 0 rfl) ?_
  refine lv_aload_n hx hb dX0_latest_22 rfl (lv_at hl 1 rfl) ?_
  refine zg_X0_11 X Z 0 rfl rfl dX0_latest_23 ?_
  refine z_alenR (v := 6) X Z 1 rfl rfl dX0_latest_26 ?_
  refine lv_icmp_ge (tgt := 39) hx hb dX0_latest_27 (by decide) (fun c2 => absurd c2 (by decide)) (fun _ => ?_)
  refine lv_aload_n hx hb dX0_latest_30 rfl (lv_at hl 1 rfl) ?_
  refine zg_X0_11 X Z 0 rfl rfl dX0_latest_31 ?_
  refine lv_iload_n hx hb dX0_latest_34 rfl (lv_at hl 0 rfl) ?_
  refine z_ldq (j := 3) (b := (a 17)) X Z 1 rfl (by decide) (by decide) rfl dX0_latest_35 ?_
  refine lv_goto (tgt := 40) hx hb dX0_latest_36 (by decide) ?_
  refine z_aret X hr hlocks (Or.inr ⟨_, rfl⟩) ?_ dX0_latest_40
  exact Z.eq rfl
set_option maxHeartbeats 4000000 in
set_option maxRecDepth 100000 in
theorem c_X0_latest_4 (l : Launch) (D : va_G) (cI cR : ClassId) (a : (Nat → Nat)) (a_rs : (Nat → ST)) (a_oldest : Int32) (a_size : Int32) (hi : f_X7_leftOver ((a_oldest + a_size) - (1 : Int32)) (6 : Int32) = some (4 : Int32)) : zM l D cI cR yX0_latest cX0_latest 2 (some (.object "JugglerStates$Scene")) 2 43 [.ref (a 0)] [w_X0 cI cR a a_rs a_oldest a_size] (some (.ref (a 22))) [w_X0 cI cR a a_rs a_oldest a_size] := by
  refine z_of (own := RX0) rfl (by decide) (Nat.le_of_ble_eq_true rfl) ?_
  intro p e s m args below meth c A ls X hr hlocks Z hl
  have hx := X.1.1
  have hb := X.1.2.1
  have Z : zW D A s [w_X0 cI cR a a_rs a_oldest a_size] s.heap [] := Z
  have hl : lv_has ls 2 [(0, .ref (a 0))] := hl
  refine lv_aload_n hx hb dX0_latest_0 rfl (lv_at hl 0 rfl) ?_
  refine zg_X0_22 X Z 0 rfl rfl dX0_latest_1 ?_
  refine lv_aload_n hx hb dX0_latest_4 rfl (lv_at hl 0 rfl) ?_
  refine zg_X0_18 X Z 0 rfl rfl dX0_latest_5 ?_
  refine lv_iadd hx hb dX0_latest_8 ?_
  refine lv_iconst (v := 1) hx hb dX0_latest_9 (by decide) ?_
  refine lv_isub hx hb dX0_latest_10 ?_
  refine lv_bipush (v := 6) hx hb dX0_latest_11 (by decide) ?_
  refine z_roSN X Z (c_X7_leftOver l D cI cR ((a_oldest + a_size) - (1 : Int32)) (6 : Int32) hi) (zw_X0_25 X.2.1 X.1.2.2.2.2 ⟨Nat.le_of_ble_eq_true rfl, Nat.le_of_ble_eq_true rfl⟩) [] [0] (by decide : ([] ++ [0] : List Nat).Perm (List.range 1)) rfl rfl hl.1 rfl (Nat.le_of_ble_eq_true rfl) dX0_latest_13 ⟨Nat.le_of_ble_eq_true rfl, Nat.le_of_ble_eq_true rfl⟩ (fun H locs Z => ?_)
  refine lv_istore_n (lv' := [(1, .int (4 : Int32)), (0, .ref (a 0))]) hx hb dX0_latest_16 rfl hl (by decide) rfl (fun ls hl => ?_)
  refine lv_iload_n hx hb dX0_latest_17 rfl (lv_at hl 0 rfl) ?_
  refine lv_if_lt (tgt := 39) hx hb dX0_latest_18 (by decide) (fun c1 => absurd c1 (by decide)) (fun _ => ?_)
  refine lv_iload_n hx hb dX0_latest_21 rfl (lv_at hl 0 rfl) ?_
  refine lv_aload_n hx hb dX0_latest_22 rfl (lv_at hl 1 rfl) ?_
  refine zg_X0_11 X Z 0 rfl rfl dX0_latest_23 ?_
  refine z_alenR (v := 6) X Z 1 rfl rfl dX0_latest_26 ?_
  refine lv_icmp_ge (tgt := 39) hx hb dX0_latest_27 (by decide) (fun c2 => absurd c2 (by decide)) (fun _ => ?_)
  refine lv_aload_n hx hb dX0_latest_30 rfl (lv_at hl 1 rfl) ?_
  refine zg_X0_11 X Z 0 rfl rfl dX0_latest_31 ?_
  refine lv_iload_n hx hb dX0_latest_34 rfl (lv_at hl 0 rfl) ?_
  refine z_ldq (j := 4) (b := (a 22)) X Z 1 rfl (by decide) (by decide) rfl dX0_latest_35 ?_
  refine lv_goto (tgt := 40) hx hb dX0_latest_36 (by decide) ?_
  refine z_aret X hr hlocks (Or.inr ⟨_, rfl⟩) ?_ dX0_latest_40
  exact Z.eq rfl
set_option maxHeartbeats 4000000 in
set_option maxRecDepth 100000 in
theorem c_X0_latest_5 (l : Launch) (D : va_G) (cI cR : ClassId) (a : (Nat → Nat)) (a_rs : (Nat → ST)) (a_oldest : Int32) (a_size : Int32) (hi : f_X7_leftOver ((a_oldest + a_size) - (1 : Int32)) (6 : Int32) = some (5 : Int32)) : zM l D cI cR yX0_latest cX0_latest 2 (some (.object "JugglerStates$Scene")) 2 43 [.ref (a 0)] [w_X0 cI cR a a_rs a_oldest a_size] (some (.ref (a 27))) [w_X0 cI cR a a_rs a_oldest a_size] := by
  refine z_of (own := RX0) rfl (by decide) (Nat.le_of_ble_eq_true rfl) ?_
  intro p e s m args below meth c A ls X hr hlocks Z hl
  have hx := X.1.1
  have hb := X.1.2.1
  have Z : zW D A s [w_X0 cI cR a a_rs a_oldest a_size] s.heap [] := Z
  have hl : lv_has ls 2 [(0, .ref (a 0))] := hl
  refine lv_aload_n hx hb dX0_latest_0 rfl (lv_at hl 0 rfl) ?_
  refine zg_X0_22 X Z 0 rfl rfl dX0_latest_1 ?_
  refine lv_aload_n hx hb dX0_latest_4 rfl (lv_at hl 0 rfl) ?_
  refine zg_X0_18 X Z 0 rfl rfl dX0_latest_5 ?_
  refine lv_iadd hx hb dX0_latest_8 ?_
  refine lv_iconst (v := 1) hx hb dX0_latest_9 (by decide) ?_
  refine lv_isub hx hb dX0_latest_10 ?_
  refine lv_bipush (v := 6) hx hb dX0_latest_11 (by decide) ?_
  refine z_roSN X Z (c_X7_leftOver l D cI cR ((a_oldest + a_size) - (1 : Int32)) (6 : Int32) hi) (zw_X0_25 X.2.1 X.1.2.2.2.2 ⟨Nat.le_of_ble_eq_true rfl, Nat.le_of_ble_eq_true rfl⟩) [] [0] (by decide : ([] ++ [0] : List Nat).Perm (List.range 1)) rfl rfl hl.1 rfl (Nat.le_of_ble_eq_true rfl) dX0_latest_13 ⟨Nat.le_of_ble_eq_true rfl, Nat.le_of_ble_eq_true rfl⟩ (fun H locs Z => ?_)
  refine lv_istore_n (lv' := [(1, .int (5 : Int32)), (0, .ref (a 0))]) hx hb dX0_latest_16 rfl hl (by decide) rfl (fun ls hl => ?_)
  refine lv_iload_n hx hb dX0_latest_17 rfl (lv_at hl 0 rfl) ?_
  refine lv_if_lt (tgt := 39) hx hb dX0_latest_18 (by decide) (fun c1 => absurd c1 (by decide)) (fun _ => ?_)
  refine lv_iload_n hx hb dX0_latest_21 rfl (lv_at hl 0 rfl) ?_
  refine lv_aload_n hx hb dX0_latest_22 rfl (lv_at hl 1 rfl) ?_
  refine zg_X0_11 X Z 0 rfl rfl dX0_latest_23 ?_
  refine z_alenR (v := 6) X Z 1 rfl rfl dX0_latest_26 ?_
  refine lv_icmp_ge (tgt := 39) hx hb dX0_latest_27 (by decide) (fun c2 => absurd c2 (by decide)) (fun _ => ?_)
  refine lv_aload_n hx hb dX0_latest_30 rfl (lv_at hl 1 rfl) ?_
  refine zg_X0_11 X Z 0 rfl rfl dX0_latest_31 ?_
  refine lv_iload_n hx hb dX0_latest_34 rfl (lv_at hl 0 rfl) ?_
  refine z_ldq (j := 5) (b := (a 27)) X Z 1 rfl (by decide) (by decide) rfl dX0_latest_35 ?_
  refine lv_goto (tgt := 40) hx hb dX0_latest_36 (by decide) ?_
  refine z_aret X hr hlocks (Or.inr ⟨_, rfl⟩) ?_ dX0_latest_40
  exact Z.eq rfl
def f_X0_record (a_rs : (Nat → ST)) (a_oldest : Int32) (a_size : Int32) (b_s : ST) : Option ((Nat → ST) × Int32 × Int32) := if (6 : Int32) ≤ a_size then ((f_X7_leftOver (a_oldest + (1 : Int32)) (6 : Int32)).bind (fun q2 => (f_X7_leftOver ((q2 + a_size) - (1 : Int32)) (6 : Int32)).bind (fun q3 => if q3 = (0 : Int32) then ((f_X4_become (a_rs 0) b_s).bind (fun q5 => some (va_up a_rs 0 q5, q2, a_size))) else (if q3 = (1 : Int32) then ((f_X4_become (a_rs 1) b_s).bind (fun q7 => some (va_up a_rs 1 q7, q2, a_size))) else (if q3 = (2 : Int32) then ((f_X4_become (a_rs 2) b_s).bind (fun q9 => some (va_up a_rs 2 q9, q2, a_size))) else (if q3 = (3 : Int32) then ((f_X4_become (a_rs 3) b_s).bind (fun q11 => some (va_up a_rs 3 q11, q2, a_size))) else (if q3 = (4 : Int32) then ((f_X4_become (a_rs 4) b_s).bind (fun q13 => some (va_up a_rs 4 q13, q2, a_size))) else (if q3 = (5 : Int32) then ((f_X4_become (a_rs 5) b_s).bind (fun q15 => some (va_up a_rs 5 q15, q2, a_size))) else (none))))))))) else ((f_X7_leftOver ((a_oldest + (a_size + (1 : Int32))) - (1 : Int32)) (6 : Int32)).bind (fun q16 => if q16 = (0 : Int32) then ((f_X4_become (a_rs 0) b_s).bind (fun q18 => some (va_up a_rs 0 q18, a_oldest, a_size + (1 : Int32)))) else (if q16 = (1 : Int32) then ((f_X4_become (a_rs 1) b_s).bind (fun q20 => some (va_up a_rs 1 q20, a_oldest, a_size + (1 : Int32)))) else (if q16 = (2 : Int32) then ((f_X4_become (a_rs 2) b_s).bind (fun q22 => some (va_up a_rs 2 q22, a_oldest, a_size + (1 : Int32)))) else (if q16 = (3 : Int32) then ((f_X4_become (a_rs 3) b_s).bind (fun q24 => some (va_up a_rs 3 q24, a_oldest, a_size + (1 : Int32)))) else (if q16 = (4 : Int32) then ((f_X4_become (a_rs 4) b_s).bind (fun q26 => some (va_up a_rs 4 q26, a_oldest, a_size + (1 : Int32)))) else (if q16 = (5 : Int32) then ((f_X4_become (a_rs 5) b_s).bind (fun q28 => some (va_up a_rs 5 q28, a_oldest, a_size + (1 : Int32)))) else (none))))))))
set_option maxHeartbeats 4000000 in
set_option maxRecDepth 100000 in
theorem c_X0_record (l : Launch) (D : va_G) (cI cR : ClassId) (a : (Nat → Nat)) (b0 : Nat) (b1 : Nat) (b2 : Nat) (b3 : Nat) (b4 : Nat) (a_rs : (Nat → ST)) (a_oldest : Int32) (a_size : Int32) (b_s : ST) {R : (Nat → ST) × Int32 × Int32} (hf : f_X0_record a_rs a_oldest a_size b_s = some R) : zM l D cI cR yX0_record cX0_record 3 none 4 85 [.ref (a 0), .ref b0] [w_X0 cI cR a a_rs a_oldest a_size, w_X4 cI cR b0 b1 b2 b3 b4 b_s] none [w_X0 cI cR a R.1 R.2.1 R.2.2, w_X4 cI cR b0 b1 b2 b3 b4 b_s] := by
  refine z_of (own := RX0) rfl (by decide) (Nat.le_of_ble_eq_true rfl) ?_
  intro p e s m args below meth c A ls X hr hlocks Z hl
  have hx := X.1.1
  have hb := X.1.2.1
  have Z : zW D A s [w_X0 cI cR a a_rs a_oldest a_size, w_X4 cI cR b0 b1 b2 b3 b4 b_s] s.heap [] := Z
  have hl : lv_has ls 3 [(0, .ref (a 0)), (1, .ref b0)] := hl
  refine lv_aload_n hx hb dX0_record_0 rfl (lv_at hl 0 rfl) ?_
  refine zg_X0_18 X Z 0 rfl rfl dX0_record_1 ?_
  refine lv_bipush (v := 6) hx hb dX0_record_4 (by decide) ?_
  refine lv_icmp_ge (tgt := 22) hx hb dX0_record_6 (by decide) (fun c1 => ?_) (fun c1 => ?_)
  · have hf := it_t c1 hf
    refine lv_aload_n hx hb dX0_record_22 rfl (lv_at hl 0 rfl) ?_
    refine lv_aload_n hx hb dX0_record_23 rfl (lv_at hl 0 rfl) ?_
    refine zg_X0_22 X Z 0 rfl rfl dX0_record_24 ?_
    refine lv_iconst (v := 1) hx hb dX0_record_27 (by decide) ?_
    refine lv_iadd hx hb dX0_record_28 ?_
    refine lv_bipush (v := 6) hx hb dX0_record_29 (by decide) ?_
    obtain ⟨q2, hq2, hf⟩ := ob_s hf
    refine z_roSN X Z (c_X7_leftOver l D cI cR   (a_oldest + (1 : Int32)) (6 : Int32) hq2) (zw_X0_25 X.2.1 X.1.2.2.2.2 ⟨Nat.le_of_ble_eq_true rfl, Nat.le_of_ble_eq_true rfl⟩) [] [0, 1] (by decide : ([] ++ [0, 1] : List Nat).Perm (List.range 2)) rfl rfl hl.1 rfl (Nat.le_of_ble_eq_true rfl) dX0_record_31 ⟨Nat.le_of_ble_eq_true rfl, Nat.le_of_ble_eq_true rfl⟩ (fun H locs Z => ?_)
    refine zp_X0_22 X Z 0 rfl (Nat.le_of_ble_eq_true rfl) [w_X0 cI cR a a_rs q2 a_size, w_X4 cI cR b0 b1 b2 b3 b4 b_s] rfl dX0_record_34 (fun H locs Z => ?_)
    refine lv_aload_n hx hb dX0_record_37 rfl (lv_at hl 0 rfl) ?_
    obtain ⟨q3, hq3, hf⟩ := ob_s hf
    rcases Decidable.em (q3 = (0 : Int32)) with c4 | c4
    · have hf := it_t c4 hf
      rw [c4] at hq3
      refine z_roV X Z (c_X0_latest_0 l D cI cR a a_rs q2 a_size hq3) (zw_X0_29 X.1.2.2.2.2 ⟨Nat.le_of_ble_eq_true rfl, Nat.le_of_ble_eq_true rfl⟩) 0 0 rfl rfl rfl [0] [1] (by decide : ([0] ++ [1] : List Nat).Perm (List.range 2)) rfl rfl hl.1 rfl (Nat.le_of_ble_eq_true rfl) dX0_record_38 ⟨Nat.le_of_ble_eq_true rfl, Nat.le_of_ble_eq_true rfl⟩ (fun H locs Z => ?_)
      refine lv_astore_n (lv' := [(2, .ref (a 2)), (0, .ref (a 0)), (1, .ref b0)]) hx hb dX0_record_41 rfl hl (by decide) rfl (fun ls hl => ?_)
      refine lv_aload_n hx hb dX0_record_42 rfl (lv_at hl 0 rfl) ?_
      refine lv_ifnull hx hb dX0_record_43 ?_
      refine lv_aload_n hx hb dX0_record_46 rfl (lv_at hl 0 rfl) ?_
      refine lv_aload_n hx hb dX0_record_47 rfl (lv_at hl 2 rfl) ?_
      have Z : zW D A s [[((a 0), .inr (0, [.ref (a 1), .int q2, .int a_size]))], [((a 1), .inl (cR, 6, .inr (.inr (.inr (.inr (fun k => if k < 6 then some (a (2 + 5 * k)) else none))))))], w_X4 cI cR (a 2) (a 3) (a 4) (a 5) (a 6) (a_rs 0), w_X4 cI cR (a 7) (a 8) (a 9) (a 10) (a 11) (a_rs 1), w_X4 cI cR (a 12) (a 13) (a 14) (a 15) (a 16) (a_rs 2), w_X4 cI cR (a 17) (a 18) (a 19) (a 20) (a 21) (a_rs 3), w_X4 cI cR (a 22) (a 23) (a 24) (a 25) (a 26) (a_rs 4), w_X4 cI cR (a 27) (a 28) (a 29) (a 30) (a 31) (a_rs 5), w_X4 cI cR b0 b1 b2 b3 b4 b_s] _ _ := Z.eq rfl
      obtain ⟨q5, hq5, hf⟩ := ob_s hf
      refine z_callVN X Z (c_X4_become l D cI cR (a 2) (a 3) (a 4) (a 5) (a 6) b0 b1 b2 b3 b4 (a_rs 0) b_s  hq5) (zw_X0_33 X.2.1 X.1.2.2.2.2 ⟨Nat.le_of_ble_eq_true rfl, Nat.le_of_ble_eq_true rfl⟩) 2 4 rfl rfl rfl [2, 8] [0, 1, 3, 4, 5, 6, 7] [[((a 0), .inr (0, [.ref (a 1), .int q2, .int a_size]))], [((a 1), .inl (cR, 6, .inr (.inr (.inr (.inr (fun k => if k < 6 then some (a (2 + 5 * k)) else none))))))], w_X4 cI cR (a 2) (a 3) (a 4) (a 5) (a 6) q5, w_X4 cI cR (a 7) (a 8) (a 9) (a 10) (a 11) (a_rs 1), w_X4 cI cR (a 12) (a 13) (a 14) (a 15) (a 16) (a_rs 2), w_X4 cI cR (a 17) (a 18) (a 19) (a 20) (a 21) (a_rs 3), w_X4 cI cR (a 22) (a 23) (a 24) (a 25) (a 26) (a_rs 4), w_X4 cI cR (a 27) (a 28) (a 29) (a 30) (a 31) (a_rs 5), w_X4 cI cR b0 b1 b2 b3 b4 b_s] (by decide : ([2, 8] ++ [0, 1, 3, 4, 5, 6, 7] : List Nat).Perm (List.range 9)) rfl rfl rfl rfl rfl hl.1 rfl (Nat.le_of_ble_eq_true rfl) dX0_record_48 ⟨Nat.le_of_ble_eq_true rfl, Nat.le_of_ble_eq_true rfl⟩ (fun H locs Z => ?_)
      have hR := so_s hf
      subst hR
      refine z_vret X hr hlocks ?_ dX0_record_51
      exact Z.eq rfl
    · have hf := it_f c4 hf
      rcases Decidable.em (q3 = (1 : Int32)) with c6 | c6
      · have hf := it_t c6 hf
        rw [c6] at hq3
        refine z_roV X Z (c_X0_latest_1 l D cI cR a a_rs q2 a_size hq3) (zw_X0_29 X.1.2.2.2.2 ⟨Nat.le_of_ble_eq_true rfl, Nat.le_of_ble_eq_true rfl⟩) 0 0 rfl rfl rfl [0] [1] (by decide : ([0] ++ [1] : List Nat).Perm (List.range 2)) rfl rfl hl.1 rfl (Nat.le_of_ble_eq_true rfl) dX0_record_38 ⟨Nat.le_of_ble_eq_true rfl, Nat.le_of_ble_eq_true rfl⟩ (fun H locs Z => ?_)
        refine lv_astore_n (lv' := [(2, .ref (a 7)), (0, .ref (a 0)), (1, .ref b0)]) hx hb dX0_record_41 rfl hl (by decide) rfl (fun ls hl => ?_)
        refine lv_aload_n hx hb dX0_record_42 rfl (lv_at hl 0 rfl) ?_
        refine lv_ifnull hx hb dX0_record_43 ?_
        refine lv_aload_n hx hb dX0_record_46 rfl (lv_at hl 0 rfl) ?_
        refine lv_aload_n hx hb dX0_record_47 rfl (lv_at hl 2 rfl) ?_
        have Z : zW D A s [[((a 0), .inr (0, [.ref (a 1), .int q2, .int a_size]))], [((a 1), .inl (cR, 6, .inr (.inr (.inr (.inr (fun k => if k < 6 then some (a (2 + 5 * k)) else none))))))], w_X4 cI cR (a 2) (a 3) (a 4) (a 5) (a 6) (a_rs 0), w_X4 cI cR (a 7) (a 8) (a 9) (a 10) (a 11) (a_rs 1), w_X4 cI cR (a 12) (a 13) (a 14) (a 15) (a 16) (a_rs 2), w_X4 cI cR (a 17) (a 18) (a 19) (a 20) (a 21) (a_rs 3), w_X4 cI cR (a 22) (a 23) (a 24) (a 25) (a 26) (a_rs 4), w_X4 cI cR (a 27) (a 28) (a 29) (a 30) (a 31) (a_rs 5), w_X4 cI cR b0 b1 b2 b3 b4 b_s] _ _ := Z.eq rfl
        obtain ⟨q7, hq7, hf⟩ := ob_s hf
        refine z_callVN X Z (c_X4_become l D cI cR (a 7) (a 8) (a 9) (a 10) (a 11) b0 b1 b2 b3 b4 (a_rs 1) b_s  hq7) (zw_X0_33 X.2.1 X.1.2.2.2.2 ⟨Nat.le_of_ble_eq_true rfl, Nat.le_of_ble_eq_true rfl⟩) 7 4 rfl rfl rfl [3, 8] [0, 1, 2, 4, 5, 6, 7] [[((a 0), .inr (0, [.ref (a 1), .int q2, .int a_size]))], [((a 1), .inl (cR, 6, .inr (.inr (.inr (.inr (fun k => if k < 6 then some (a (2 + 5 * k)) else none))))))], w_X4 cI cR (a 2) (a 3) (a 4) (a 5) (a 6) (a_rs 0), w_X4 cI cR (a 7) (a 8) (a 9) (a 10) (a 11) q7, w_X4 cI cR (a 12) (a 13) (a 14) (a 15) (a 16) (a_rs 2), w_X4 cI cR (a 17) (a 18) (a 19) (a 20) (a 21) (a_rs 3), w_X4 cI cR (a 22) (a 23) (a 24) (a 25) (a 26) (a_rs 4), w_X4 cI cR (a 27) (a 28) (a 29) (a 30) (a 31) (a_rs 5), w_X4 cI cR b0 b1 b2 b3 b4 b_s] (by decide : ([3, 8] ++ [0, 1, 2, 4, 5, 6, 7] : List Nat).Perm (List.range 9)) rfl rfl rfl rfl rfl hl.1 rfl (Nat.le_of_ble_eq_true rfl) dX0_record_48 ⟨Nat.le_of_ble_eq_true rfl, Nat.le_of_ble_eq_true rfl⟩ (fun H locs Z => ?_)
        have hR := so_s hf
        subst hR
        refine z_vret X hr hlocks ?_ dX0_record_51
        exact Z.eq rfl
      · have hf := it_f c6 hf
        rcases Decidable.em (q3 = (2 : Int32)) with c8 | c8
        · have hf := it_t c8 hf
          rw [c8] at hq3
          refine z_roV X Z (c_X0_latest_2 l D cI cR a a_rs q2 a_size hq3) (zw_X0_29 X.1.2.2.2.2 ⟨Nat.le_of_ble_eq_true rfl, Nat.le_of_ble_eq_true rfl⟩) 0 0 rfl rfl rfl [0] [1] (by decide : ([0] ++ [1] : List Nat).Perm (List.range 2)) rfl rfl hl.1 rfl (Nat.le_of_ble_eq_true rfl) dX0_record_38 ⟨Nat.le_of_ble_eq_true rfl, Nat.le_of_ble_eq_true rfl⟩ (fun H locs Z => ?_)
          refine lv_astore_n (lv' := [(2, .ref (a 12)), (0, .ref (a 0)), (1, .ref b0)]) hx hb dX0_record_41 rfl hl (by decide) rfl (fun ls hl => ?_)
          refine lv_aload_n hx hb dX0_record_42 rfl (lv_at hl 0 rfl) ?_
          refine lv_ifnull hx hb dX0_record_43 ?_
          refine lv_aload_n hx hb dX0_record_46 rfl (lv_at hl 0 rfl) ?_
          refine lv_aload_n hx hb dX0_record_47 rfl (lv_at hl 2 rfl) ?_
          have Z : zW D A s [[((a 0), .inr (0, [.ref (a 1), .int q2, .int a_size]))], [((a 1), .inl (cR, 6, .inr (.inr (.inr (.inr (fun k => if k < 6 then some (a (2 + 5 * k)) else none))))))], w_X4 cI cR (a 2) (a 3) (a 4) (a 5) (a 6) (a_rs 0), w_X4 cI cR (a 7) (a 8) (a 9) (a 10) (a 11) (a_rs 1), w_X4 cI cR (a 12) (a 13) (a 14) (a 15) (a 16) (a_rs 2), w_X4 cI cR (a 17) (a 18) (a 19) (a 20) (a 21) (a_rs 3), w_X4 cI cR (a 22) (a 23) (a 24) (a 25) (a 26) (a_rs 4), w_X4 cI cR (a 27) (a 28) (a 29) (a 30) (a 31) (a_rs 5), w_X4 cI cR b0 b1 b2 b3 b4 b_s] _ _ := Z.eq rfl
          obtain ⟨q9, hq9, hf⟩ := ob_s hf
          refine z_callVN X Z (c_X4_become l D cI cR (a 12) (a 13) (a 14) (a 15) (a 16) b0 b1 b2 b3 b4 (a_rs 2) b_s  hq9) (zw_X0_33 X.2.1 X.1.2.2.2.2 ⟨Nat.le_of_ble_eq_true rfl, Nat.le_of_ble_eq_true rfl⟩) 12 4 rfl rfl rfl [4, 8] [0, 1, 2, 3, 5, 6, 7] [[((a 0), .inr (0, [.ref (a 1), .int q2, .int a_size]))], [((a 1), .inl (cR, 6, .inr (.inr (.inr (.inr (fun k => if k < 6 then some (a (2 + 5 * k)) else none))))))], w_X4 cI cR (a 2) (a 3) (a 4) (a 5) (a 6) (a_rs 0), w_X4 cI cR (a 7) (a 8) (a 9) (a 10) (a 11) (a_rs 1), w_X4 cI cR (a 12) (a 13) (a 14) (a 15) (a 16) q9, w_X4 cI cR (a 17) (a 18) (a 19) (a 20) (a 21) (a_rs 3), w_X4 cI cR (a 22) (a 23) (a 24) (a 25) (a 26) (a_rs 4), w_X4 cI cR (a 27) (a 28) (a 29) (a 30) (a 31) (a_rs 5), w_X4 cI cR b0 b1 b2 b3 b4 b_s] (by decide : ([4, 8] ++ [0, 1, 2, 3, 5, 6, 7] : List Nat).Perm (List.range 9)) rfl rfl rfl rfl rfl hl.1 rfl (Nat.le_of_ble_eq_true rfl) dX0_record_48 ⟨Nat.le_of_ble_eq_true rfl, Nat.le_of_ble_eq_true rfl⟩ (fun H locs Z => ?_)
          have hR := so_s hf
          subst hR
          refine z_vret X hr hlocks ?_ dX0_record_51
          exact Z.eq rfl
        · have hf := it_f c8 hf
          rcases Decidable.em (q3 = (3 : Int32)) with c10 | c10
          · have hf := it_t c10 hf
            rw [c10] at hq3
            refine z_roV X Z (c_X0_latest_3 l D cI cR a a_rs q2 a_size hq3) (zw_X0_29 X.1.2.2.2.2 ⟨Nat.le_of_ble_eq_true rfl, Nat.le_of_ble_eq_true rfl⟩) 0 0 rfl rfl rfl [0] [1] (by decide : ([0] ++ [1] : List Nat).Perm (List.range 2)) rfl rfl hl.1 rfl (Nat.le_of_ble_eq_true rfl) dX0_record_38 ⟨Nat.le_of_ble_eq_true rfl, Nat.le_of_ble_eq_true rfl⟩ (fun H locs Z => ?_)
            refine lv_astore_n (lv' := [(2, .ref (a 17)), (0, .ref (a 0)), (1, .ref b0)]) hx hb dX0_record_41 rfl hl (by decide) rfl (fun ls hl => ?_)
            refine lv_aload_n hx hb dX0_record_42 rfl (lv_at hl 0 rfl) ?_
            refine lv_ifnull hx hb dX0_record_43 ?_
            refine lv_aload_n hx hb dX0_record_46 rfl (lv_at hl 0 rfl) ?_
            refine lv_aload_n hx hb dX0_record_47 rfl (lv_at hl 2 rfl) ?_
            have Z : zW D A s [[((a 0), .inr (0, [.ref (a 1), .int q2, .int a_size]))], [((a 1), .inl (cR, 6, .inr (.inr (.inr (.inr (fun k => if k < 6 then some (a (2 + 5 * k)) else none))))))], w_X4 cI cR (a 2) (a 3) (a 4) (a 5) (a 6) (a_rs 0), w_X4 cI cR (a 7) (a 8) (a 9) (a 10) (a 11) (a_rs 1), w_X4 cI cR (a 12) (a 13) (a 14) (a 15) (a 16) (a_rs 2), w_X4 cI cR (a 17) (a 18) (a 19) (a 20) (a 21) (a_rs 3), w_X4 cI cR (a 22) (a 23) (a 24) (a 25) (a 26) (a_rs 4), w_X4 cI cR (a 27) (a 28) (a 29) (a 30) (a 31) (a_rs 5), w_X4 cI cR b0 b1 b2 b3 b4 b_s] _ _ := Z.eq rfl
            obtain ⟨q11, hq11, hf⟩ := ob_s hf
            refine z_callVN X Z (c_X4_become l D cI cR (a 17) (a 18) (a 19) (a 20) (a 21) b0 b1 b2 b3 b4 (a_rs 3) b_s  hq11) (zw_X0_33 X.2.1 X.1.2.2.2.2 ⟨Nat.le_of_ble_eq_true rfl, Nat.le_of_ble_eq_true rfl⟩) 17 4 rfl rfl rfl [5, 8] [0, 1, 2, 3, 4, 6, 7] [[((a 0), .inr (0, [.ref (a 1), .int q2, .int a_size]))], [((a 1), .inl (cR, 6, .inr (.inr (.inr (.inr (fun k => if k < 6 then some (a (2 + 5 * k)) else none))))))], w_X4 cI cR (a 2) (a 3) (a 4) (a 5) (a 6) (a_rs 0), w_X4 cI cR (a 7) (a 8) (a 9) (a 10) (a 11) (a_rs 1), w_X4 cI cR (a 12) (a 13) (a 14) (a 15) (a 16) (a_rs 2), w_X4 cI cR (a 17) (a 18) (a 19) (a 20) (a 21) q11, w_X4 cI cR (a 22) (a 23) (a 24) (a 25) (a 26) (a_rs 4), w_X4 cI cR (a 27) (a 28) (a 29) (a 30) (a 31) (a_rs 5), w_X4 cI cR b0 b1 b2 b3 b4 b_s] (by decide : ([5, 8] ++ [0, 1, 2, 3, 4, 6, 7] : List Nat).Perm (List.range 9)) rfl rfl rfl rfl rfl hl.1 rfl (Nat.le_of_ble_eq_true rfl) dX0_record_48 ⟨Nat.le_of_ble_eq_true rfl, Nat.le_of_ble_eq_true rfl⟩ (fun H locs Z => ?_)
            have hR := so_s hf
            subst hR
            refine z_vret X hr hlocks ?_ dX0_record_51
            exact Z.eq rfl
          · have hf := it_f c10 hf
            rcases Decidable.em (q3 = (4 : Int32)) with c12 | c12
            · have hf := it_t c12 hf
              rw [c12] at hq3
              refine z_roV X Z (c_X0_latest_4 l D cI cR a a_rs q2 a_size hq3) (zw_X0_29 X.1.2.2.2.2 ⟨Nat.le_of_ble_eq_true rfl, Nat.le_of_ble_eq_true rfl⟩) 0 0 rfl rfl rfl [0] [1] (by decide : ([0] ++ [1] : List Nat).Perm (List.range 2)) rfl rfl hl.1 rfl (Nat.le_of_ble_eq_true rfl) dX0_record_38 ⟨Nat.le_of_ble_eq_true rfl, Nat.le_of_ble_eq_true rfl⟩ (fun H locs Z => ?_)
              refine lv_astore_n (lv' := [(2, .ref (a 22)), (0, .ref (a 0)), (1, .ref b0)]) hx hb dX0_record_41 rfl hl (by decide) rfl (fun ls hl => ?_)
              refine lv_aload_n hx hb dX0_record_42 rfl (lv_at hl 0 rfl) ?_
              refine lv_ifnull hx hb dX0_record_43 ?_
              refine lv_aload_n hx hb dX0_record_46 rfl (lv_at hl 0 rfl) ?_
              refine lv_aload_n hx hb dX0_record_47 rfl (lv_at hl 2 rfl) ?_
              have Z : zW D A s [[((a 0), .inr (0, [.ref (a 1), .int q2, .int a_size]))], [((a 1), .inl (cR, 6, .inr (.inr (.inr (.inr (fun k => if k < 6 then some (a (2 + 5 * k)) else none))))))], w_X4 cI cR (a 2) (a 3) (a 4) (a 5) (a 6) (a_rs 0), w_X4 cI cR (a 7) (a 8) (a 9) (a 10) (a 11) (a_rs 1), w_X4 cI cR (a 12) (a 13) (a 14) (a 15) (a 16) (a_rs 2), w_X4 cI cR (a 17) (a 18) (a 19) (a 20) (a 21) (a_rs 3), w_X4 cI cR (a 22) (a 23) (a 24) (a 25) (a 26) (a_rs 4), w_X4 cI cR (a 27) (a 28) (a 29) (a 30) (a 31) (a_rs 5), w_X4 cI cR b0 b1 b2 b3 b4 b_s] _ _ := Z.eq rfl
              obtain ⟨q13, hq13, hf⟩ := ob_s hf
              refine z_callVN X Z (c_X4_become l D cI cR (a 22) (a 23) (a 24) (a 25) (a 26) b0 b1 b2 b3 b4 (a_rs 4) b_s  hq13) (zw_X0_33 X.2.1 X.1.2.2.2.2 ⟨Nat.le_of_ble_eq_true rfl, Nat.le_of_ble_eq_true rfl⟩) 22 4 rfl rfl rfl [6, 8] [0, 1, 2, 3, 4, 5, 7] [[((a 0), .inr (0, [.ref (a 1), .int q2, .int a_size]))], [((a 1), .inl (cR, 6, .inr (.inr (.inr (.inr (fun k => if k < 6 then some (a (2 + 5 * k)) else none))))))], w_X4 cI cR (a 2) (a 3) (a 4) (a 5) (a 6) (a_rs 0), w_X4 cI cR (a 7) (a 8) (a 9) (a 10) (a 11) (a_rs 1), w_X4 cI cR (a 12) (a 13) (a 14) (a 15) (a 16) (a_rs 2), w_X4 cI cR (a 17) (a 18) (a 19) (a 20) (a 21) (a_rs 3), w_X4 cI cR (a 22) (a 23) (a 24) (a 25) (a 26) q13, w_X4 cI cR (a 27) (a 28) (a 29) (a 30) (a 31) (a_rs 5), w_X4 cI cR b0 b1 b2 b3 b4 b_s] (by decide : ([6, 8] ++ [0, 1, 2, 3, 4, 5, 7] : List Nat).Perm (List.range 9)) rfl rfl rfl rfl rfl hl.1 rfl (Nat.le_of_ble_eq_true rfl) dX0_record_48 ⟨Nat.le_of_ble_eq_true rfl, Nat.le_of_ble_eq_true rfl⟩ (fun H locs Z => ?_)
              have hR := so_s hf
              subst hR
              refine z_vret X hr hlocks ?_ dX0_record_51
              exact Z.eq rfl
            · have hf := it_f c12 hf
              rcases Decidable.em (q3 = (5 : Int32)) with c14 | c14
              · have hf := it_t c14 hf
                rw [c14] at hq3
                refine z_roV X Z (c_X0_latest_5 l D cI cR a a_rs q2 a_size hq3) (zw_X0_29 X.1.2.2.2.2 ⟨Nat.le_of_ble_eq_true rfl, Nat.le_of_ble_eq_true rfl⟩) 0 0 rfl rfl rfl [0] [1] (by decide : ([0] ++ [1] : List Nat).Perm (List.range 2)) rfl rfl hl.1 rfl (Nat.le_of_ble_eq_true rfl) dX0_record_38 ⟨Nat.le_of_ble_eq_true rfl, Nat.le_of_ble_eq_true rfl⟩ (fun H locs Z => ?_)
                refine lv_astore_n (lv' := [(2, .ref (a 27)), (0, .ref (a 0)), (1, .ref b0)]) hx hb dX0_record_41 rfl hl (by decide) rfl (fun ls hl => ?_)
                refine lv_aload_n hx hb dX0_record_42 rfl (lv_at hl 0 rfl) ?_
                refine lv_ifnull hx hb dX0_record_43 ?_
                refine lv_aload_n hx hb dX0_record_46 rfl (lv_at hl 0 rfl) ?_
                refine lv_aload_n hx hb dX0_record_47 rfl (lv_at hl 2 rfl) ?_
                have Z : zW D A s [[((a 0), .inr (0, [.ref (a 1), .int q2, .int a_size]))], [((a 1), .inl (cR, 6, .inr (.inr (.inr (.inr (fun k => if k < 6 then some (a (2 + 5 * k)) else none))))))], w_X4 cI cR (a 2) (a 3) (a 4) (a 5) (a 6) (a_rs 0), w_X4 cI cR (a 7) (a 8) (a 9) (a 10) (a 11) (a_rs 1), w_X4 cI cR (a 12) (a 13) (a 14) (a 15) (a 16) (a_rs 2), w_X4 cI cR (a 17) (a 18) (a 19) (a 20) (a 21) (a_rs 3), w_X4 cI cR (a 22) (a 23) (a 24) (a 25) (a 26) (a_rs 4), w_X4 cI cR (a 27) (a 28) (a 29) (a 30) (a 31) (a_rs 5), w_X4 cI cR b0 b1 b2 b3 b4 b_s] _ _ := Z.eq rfl
                obtain ⟨q15, hq15, hf⟩ := ob_s hf
                refine z_callVN X Z (c_X4_become l D cI cR (a 27) (a 28) (a 29) (a 30) (a 31) b0 b1 b2 b3 b4 (a_rs 5) b_s  hq15) (zw_X0_33 X.2.1 X.1.2.2.2.2 ⟨Nat.le_of_ble_eq_true rfl, Nat.le_of_ble_eq_true rfl⟩) 27 4 rfl rfl rfl [7, 8] [0, 1, 2, 3, 4, 5, 6] [[((a 0), .inr (0, [.ref (a 1), .int q2, .int a_size]))], [((a 1), .inl (cR, 6, .inr (.inr (.inr (.inr (fun k => if k < 6 then some (a (2 + 5 * k)) else none))))))], w_X4 cI cR (a 2) (a 3) (a 4) (a 5) (a 6) (a_rs 0), w_X4 cI cR (a 7) (a 8) (a 9) (a 10) (a 11) (a_rs 1), w_X4 cI cR (a 12) (a 13) (a 14) (a 15) (a 16) (a_rs 2), w_X4 cI cR (a 17) (a 18) (a 19) (a 20) (a 21) (a_rs 3), w_X4 cI cR (a 22) (a 23) (a 24) (a 25) (a 26) (a_rs 4), w_X4 cI cR (a 27) (a 28) (a 29) (a 30) (a 31) q15, w_X4 cI cR b0 b1 b2 b3 b4 b_s] (by decide : ([7, 8] ++ [0, 1, 2, 3, 4, 5, 6] : List Nat).Perm (List.range 9)) rfl rfl rfl rfl rfl hl.1 rfl (Nat.le_of_ble_eq_true rfl) dX0_record_48 ⟨Nat.le_of_ble_eq_true rfl, Nat.le_of_ble_eq_true rfl⟩ (fun H locs Z => ?_)
                have hR := so_s hf
                subst hR
                refine z_vret X hr hlocks ?_ dX0_record_51
                exact Z.eq rfl
              · have hf := it_f c14 hf
                cases hf
  · have hf := it_f c1 hf
    refine lv_aload_n hx hb dX0_record_9 rfl (lv_at hl 0 rfl) ?_
    refine lv_dup hx hb dX0_record_10 rfl ?_
    refine zg_X0_18 X Z 0 rfl rfl dX0_record_11 ?_
    refine lv_iconst (v := 1) hx hb dX0_record_14 (by decide) ?_
    refine lv_iadd hx hb dX0_record_15 ?_
    refine zp_X0_18 X Z 0 rfl (Nat.le_of_ble_eq_true rfl) [w_X0 cI cR a a_rs a_oldest (a_size + (1 : Int32)), w_X4 cI cR b0 b1 b2 b3 b4 b_s] rfl dX0_record_16 (fun H locs Z => ?_)
    refine lv_goto (tgt := 37) hx hb dX0_record_19 (by decide) ?_
    refine lv_aload_n hx hb dX0_record_37 rfl (lv_at hl 0 rfl) ?_
    obtain ⟨q16, hq16, hf⟩ := ob_s hf
    rcases Decidable.em (q16 = (0 : Int32)) with c17 | c17
    · have hf := it_t c17 hf
      rw [c17] at hq16
      refine z_roV X Z (c_X0_latest_0 l D cI cR a a_rs a_oldest (a_size + (1 : Int32)) hq16) (zw_X0_29 X.1.2.2.2.2 ⟨Nat.le_of_ble_eq_true rfl, Nat.le_of_ble_eq_true rfl⟩) 0 0 rfl rfl rfl [0] [1] (by decide : ([0] ++ [1] : List Nat).Perm (List.range 2)) rfl rfl hl.1 rfl (Nat.le_of_ble_eq_true rfl) dX0_record_38 ⟨Nat.le_of_ble_eq_true rfl, Nat.le_of_ble_eq_true rfl⟩ (fun H locs Z => ?_)
      refine lv_astore_n (lv' := [(2, .ref (a 2)), (0, .ref (a 0)), (1, .ref b0)]) hx hb dX0_record_41 rfl hl (by decide) rfl (fun ls hl => ?_)
      refine lv_aload_n hx hb dX0_record_42 rfl (lv_at hl 0 rfl) ?_
      refine lv_ifnull hx hb dX0_record_43 ?_
      refine lv_aload_n hx hb dX0_record_46 rfl (lv_at hl 0 rfl) ?_
      refine lv_aload_n hx hb dX0_record_47 rfl (lv_at hl 2 rfl) ?_
      have Z : zW D A s [[((a 0), .inr (0, [.ref (a 1), .int a_oldest, .int (a_size + (1 : Int32))]))], [((a 1), .inl (cR, 6, .inr (.inr (.inr (.inr (fun k => if k < 6 then some (a (2 + 5 * k)) else none))))))], w_X4 cI cR (a 2) (a 3) (a 4) (a 5) (a 6) (a_rs 0), w_X4 cI cR (a 7) (a 8) (a 9) (a 10) (a 11) (a_rs 1), w_X4 cI cR (a 12) (a 13) (a 14) (a 15) (a 16) (a_rs 2), w_X4 cI cR (a 17) (a 18) (a 19) (a 20) (a 21) (a_rs 3), w_X4 cI cR (a 22) (a 23) (a 24) (a 25) (a 26) (a_rs 4), w_X4 cI cR (a 27) (a 28) (a 29) (a 30) (a 31) (a_rs 5), w_X4 cI cR b0 b1 b2 b3 b4 b_s] _ _ := Z.eq rfl
      obtain ⟨q18, hq18, hf⟩ := ob_s hf
      refine z_callVN X Z (c_X4_become l D cI cR (a 2) (a 3) (a 4) (a 5) (a 6) b0 b1 b2 b3 b4 (a_rs 0) b_s  hq18) (zw_X0_33 X.2.1 X.1.2.2.2.2 ⟨Nat.le_of_ble_eq_true rfl, Nat.le_of_ble_eq_true rfl⟩) 2 4 rfl rfl rfl [2, 8] [0, 1, 3, 4, 5, 6, 7] [[((a 0), .inr (0, [.ref (a 1), .int a_oldest, .int (a_size + (1 : Int32))]))], [((a 1), .inl (cR, 6, .inr (.inr (.inr (.inr (fun k => if k < 6 then some (a (2 + 5 * k)) else none))))))], w_X4 cI cR (a 2) (a 3) (a 4) (a 5) (a 6) q18, w_X4 cI cR (a 7) (a 8) (a 9) (a 10) (a 11) (a_rs 1), w_X4 cI cR (a 12) (a 13) (a 14) (a 15) (a 16) (a_rs 2), w_X4 cI cR (a 17) (a 18) (a 19) (a 20) (a 21) (a_rs 3), w_X4 cI cR (a 22) (a 23) (a 24) (a 25) (a 26) (a_rs 4), w_X4 cI cR (a 27) (a 28) (a 29) (a 30) (a 31) (a_rs 5), w_X4 cI cR b0 b1 b2 b3 b4 b_s] (by decide : ([2, 8] ++ [0, 1, 3, 4, 5, 6, 7] : List Nat).Perm (List.range 9)) rfl rfl rfl rfl rfl hl.1 rfl (Nat.le_of_ble_eq_true rfl) dX0_record_48 ⟨Nat.le_of_ble_eq_true rfl, Nat.le_of_ble_eq_true rfl⟩ (fun H locs Z => ?_)
      have hR := so_s hf
      subst hR
      refine z_vret X hr hlocks ?_ dX0_record_51
      exact Z.eq rfl
    · have hf := it_f c17 hf
      rcases Decidable.em (q16 = (1 : Int32)) with c19 | c19
      · have hf := it_t c19 hf
        rw [c19] at hq16
        refine z_roV X Z (c_X0_latest_1 l D cI cR a a_rs a_oldest (a_size + (1 : Int32)) hq16) (zw_X0_29 X.1.2.2.2.2 ⟨Nat.le_of_ble_eq_true rfl, Nat.le_of_ble_eq_true rfl⟩) 0 0 rfl rfl rfl [0] [1] (by decide : ([0] ++ [1] : List Nat).Perm (List.range 2)) rfl rfl hl.1 rfl (Nat.le_of_ble_eq_true rfl) dX0_record_38 ⟨Nat.le_of_ble_eq_true rfl, Nat.le_of_ble_eq_true rfl⟩ (fun H locs Z => ?_)
        refine lv_astore_n (lv' := [(2, .ref (a 7)), (0, .ref (a 0)), (1, .ref b0)]) hx hb dX0_record_41 rfl hl (by decide) rfl (fun ls hl => ?_)
        refine lv_aload_n hx hb dX0_record_42 rfl (lv_at hl 0 rfl) ?_
        refine lv_ifnull hx hb dX0_record_43 ?_
        refine lv_aload_n hx hb dX0_record_46 rfl (lv_at hl 0 rfl) ?_
        refine lv_aload_n hx hb dX0_record_47 rfl (lv_at hl 2 rfl) ?_
        have Z : zW D A s [[((a 0), .inr (0, [.ref (a 1), .int a_oldest, .int (a_size + (1 : Int32))]))], [((a 1), .inl (cR, 6, .inr (.inr (.inr (.inr (fun k => if k < 6 then some (a (2 + 5 * k)) else none))))))], w_X4 cI cR (a 2) (a 3) (a 4) (a 5) (a 6) (a_rs 0), w_X4 cI cR (a 7) (a 8) (a 9) (a 10) (a 11) (a_rs 1), w_X4 cI cR (a 12) (a 13) (a 14) (a 15) (a 16) (a_rs 2), w_X4 cI cR (a 17) (a 18) (a 19) (a 20) (a 21) (a_rs 3), w_X4 cI cR (a 22) (a 23) (a 24) (a 25) (a 26) (a_rs 4), w_X4 cI cR (a 27) (a 28) (a 29) (a 30) (a 31) (a_rs 5), w_X4 cI cR b0 b1 b2 b3 b4 b_s] _ _ := Z.eq rfl
        obtain ⟨q20, hq20, hf⟩ := ob_s hf
        refine z_callVN X Z (c_X4_become l D cI cR (a 7) (a 8) (a 9) (a 10) (a 11) b0 b1 b2 b3 b4 (a_rs 1) b_s  hq20) (zw_X0_33 X.2.1 X.1.2.2.2.2 ⟨Nat.le_of_ble_eq_true rfl, Nat.le_of_ble_eq_true rfl⟩) 7 4 rfl rfl rfl [3, 8] [0, 1, 2, 4, 5, 6, 7] [[((a 0), .inr (0, [.ref (a 1), .int a_oldest, .int (a_size + (1 : Int32))]))], [((a 1), .inl (cR, 6, .inr (.inr (.inr (.inr (fun k => if k < 6 then some (a (2 + 5 * k)) else none))))))], w_X4 cI cR (a 2) (a 3) (a 4) (a 5) (a 6) (a_rs 0), w_X4 cI cR (a 7) (a 8) (a 9) (a 10) (a 11) q20, w_X4 cI cR (a 12) (a 13) (a 14) (a 15) (a 16) (a_rs 2), w_X4 cI cR (a 17) (a 18) (a 19) (a 20) (a 21) (a_rs 3), w_X4 cI cR (a 22) (a 23) (a 24) (a 25) (a 26) (a_rs 4), w_X4 cI cR (a 27) (a 28) (a 29) (a 30) (a 31) (a_rs 5), w_X4 cI cR b0 b1 b2 b3 b4 b_s] (by decide : ([3, 8] ++ [0, 1, 2, 4, 5, 6, 7] : List Nat).Perm (List.range 9)) rfl rfl rfl rfl rfl hl.1 rfl (Nat.le_of_ble_eq_true rfl) dX0_record_48 ⟨Nat.le_of_ble_eq_true rfl, Nat.le_of_ble_eq_true rfl⟩ (fun H locs Z => ?_)
        have hR := so_s hf
        subst hR
        refine z_vret X hr hlocks ?_ dX0_record_51
        exact Z.eq rfl
      · have hf := it_f c19 hf
        rcases Decidable.em (q16 = (2 : Int32)) with c21 | c21
        · have hf := it_t c21 hf
          rw [c21] at hq16
          refine z_roV X Z (c_X0_latest_2 l D cI cR a a_rs a_oldest (a_size + (1 : Int32)) hq16) (zw_X0_29 X.1.2.2.2.2 ⟨Nat.le_of_ble_eq_true rfl, Nat.le_of_ble_eq_true rfl⟩) 0 0 rfl rfl rfl [0] [1] (by decide : ([0] ++ [1] : List Nat).Perm (List.range 2)) rfl rfl hl.1 rfl (Nat.le_of_ble_eq_true rfl) dX0_record_38 ⟨Nat.le_of_ble_eq_true rfl, Nat.le_of_ble_eq_true rfl⟩ (fun H locs Z => ?_)
          refine lv_astore_n (lv' := [(2, .ref (a 12)), (0, .ref (a 0)), (1, .ref b0)]) hx hb dX0_record_41 rfl hl (by decide) rfl (fun ls hl => ?_)
          refine lv_aload_n hx hb dX0_record_42 rfl (lv_at hl 0 rfl) ?_
          refine lv_ifnull hx hb dX0_record_43 ?_
          refine lv_aload_n hx hb dX0_record_46 rfl (lv_at hl 0 rfl) ?_
          refine lv_aload_n hx hb dX0_record_47 rfl (lv_at hl 2 rfl) ?_
          have Z : zW D A s [[((a 0), .inr (0, [.ref (a 1), .int a_oldest, .int (a_size + (1 : Int32))]))], [((a 1), .inl (cR, 6, .inr (.inr (.inr (.inr (fun k => if k < 6 then some (a (2 + 5 * k)) else none))))))], w_X4 cI cR (a 2) (a 3) (a 4) (a 5) (a 6) (a_rs 0), w_X4 cI cR (a 7) (a 8) (a 9) (a 10) (a 11) (a_rs 1), w_X4 cI cR (a 12) (a 13) (a 14) (a 15) (a 16) (a_rs 2), w_X4 cI cR (a 17) (a 18) (a 19) (a 20) (a 21) (a_rs 3), w_X4 cI cR (a 22) (a 23) (a 24) (a 25) (a 26) (a_rs 4), w_X4 cI cR (a 27) (a 28) (a 29) (a 30) (a 31) (a_rs 5), w_X4 cI cR b0 b1 b2 b3 b4 b_s] _ _ := Z.eq rfl
          obtain ⟨q22, hq22, hf⟩ := ob_s hf
          refine z_callVN X Z (c_X4_become l D cI cR (a 12) (a 13) (a 14) (a 15) (a 16) b0 b1 b2 b3 b4 (a_rs 2) b_s  hq22) (zw_X0_33 X.2.1 X.1.2.2.2.2 ⟨Nat.le_of_ble_eq_true rfl, Nat.le_of_ble_eq_true rfl⟩) 12 4 rfl rfl rfl [4, 8] [0, 1, 2, 3, 5, 6, 7] [[((a 0), .inr (0, [.ref (a 1), .int a_oldest, .int (a_size + (1 : Int32))]))], [((a 1), .inl (cR, 6, .inr (.inr (.inr (.inr (fun k => if k < 6 then some (a (2 + 5 * k)) else none))))))], w_X4 cI cR (a 2) (a 3) (a 4) (a 5) (a 6) (a_rs 0), w_X4 cI cR (a 7) (a 8) (a 9) (a 10) (a 11) (a_rs 1), w_X4 cI cR (a 12) (a 13) (a 14) (a 15) (a 16) q22, w_X4 cI cR (a 17) (a 18) (a 19) (a 20) (a 21) (a_rs 3), w_X4 cI cR (a 22) (a 23) (a 24) (a 25) (a 26) (a_rs 4), w_X4 cI cR (a 27) (a 28) (a 29) (a 30) (a 31) (a_rs 5), w_X4 cI cR b0 b1 b2 b3 b4 b_s] (by decide : ([4, 8] ++ [0, 1, 2, 3, 5, 6, 7] : List Nat).Perm (List.range 9)) rfl rfl rfl rfl rfl hl.1 rfl (Nat.le_of_ble_eq_true rfl) dX0_record_48 ⟨Nat.le_of_ble_eq_true rfl, Nat.le_of_ble_eq_true rfl⟩ (fun H locs Z => ?_)
          have hR := so_s hf
          subst hR
          refine z_vret X hr hlocks ?_ dX0_record_51
          exact Z.eq rfl
        · have hf := it_f c21 hf
          rcases Decidable.em (q16 = (3 : Int32)) with c23 | c23
          · have hf := it_t c23 hf
            rw [c23] at hq16
            refine z_roV X Z (c_X0_latest_3 l D cI cR a a_rs a_oldest (a_size + (1 : Int32)) hq16) (zw_X0_29 X.1.2.2.2.2 ⟨Nat.le_of_ble_eq_true rfl, Nat.le_of_ble_eq_true rfl⟩) 0 0 rfl rfl rfl [0] [1] (by decide : ([0] ++ [1] : List Nat).Perm (List.range 2)) rfl rfl hl.1 rfl (Nat.le_of_ble_eq_true rfl) dX0_record_38 ⟨Nat.le_of_ble_eq_true rfl, Nat.le_of_ble_eq_true rfl⟩ (fun H locs Z => ?_)
            refine lv_astore_n (lv' := [(2, .ref (a 17)), (0, .ref (a 0)), (1, .ref b0)]) hx hb dX0_record_41 rfl hl (by decide) rfl (fun ls hl => ?_)
            refine lv_aload_n hx hb dX0_record_42 rfl (lv_at hl 0 rfl) ?_
            refine lv_ifnull hx hb dX0_record_43 ?_
            refine lv_aload_n hx hb dX0_record_46 rfl (lv_at hl 0 rfl) ?_
            refine lv_aload_n hx hb dX0_record_47 rfl (lv_at hl 2 rfl) ?_
            have Z : zW D A s [[((a 0), .inr (0, [.ref (a 1), .int a_oldest, .int (a_size + (1 : Int32))]))], [((a 1), .inl (cR, 6, .inr (.inr (.inr (.inr (fun k => if k < 6 then some (a (2 + 5 * k)) else none))))))], w_X4 cI cR (a 2) (a 3) (a 4) (a 5) (a 6) (a_rs 0), w_X4 cI cR (a 7) (a 8) (a 9) (a 10) (a 11) (a_rs 1), w_X4 cI cR (a 12) (a 13) (a 14) (a 15) (a 16) (a_rs 2), w_X4 cI cR (a 17) (a 18) (a 19) (a 20) (a 21) (a_rs 3), w_X4 cI cR (a 22) (a 23) (a 24) (a 25) (a 26) (a_rs 4), w_X4 cI cR (a 27) (a 28) (a 29) (a 30) (a 31) (a_rs 5), w_X4 cI cR b0 b1 b2 b3 b4 b_s] _ _ := Z.eq rfl
            obtain ⟨q24, hq24, hf⟩ := ob_s hf
            refine z_callVN X Z (c_X4_become l D cI cR (a 17) (a 18) (a 19) (a 20) (a 21) b0 b1 b2 b3 b4 (a_rs 3) b_s  hq24) (zw_X0_33 X.2.1 X.1.2.2.2.2 ⟨Nat.le_of_ble_eq_true rfl, Nat.le_of_ble_eq_true rfl⟩) 17 4 rfl rfl rfl [5, 8] [0, 1, 2, 3, 4, 6, 7] [[((a 0), .inr (0, [.ref (a 1), .int a_oldest, .int (a_size + (1 : Int32))]))], [((a 1), .inl (cR, 6, .inr (.inr (.inr (.inr (fun k => if k < 6 then some (a (2 + 5 * k)) else none))))))], w_X4 cI cR (a 2) (a 3) (a 4) (a 5) (a 6) (a_rs 0), w_X4 cI cR (a 7) (a 8) (a 9) (a 10) (a 11) (a_rs 1), w_X4 cI cR (a 12) (a 13) (a 14) (a 15) (a 16) (a_rs 2), w_X4 cI cR (a 17) (a 18) (a 19) (a 20) (a 21) q24, w_X4 cI cR (a 22) (a 23) (a 24) (a 25) (a 26) (a_rs 4), w_X4 cI cR (a 27) (a 28) (a 29) (a 30) (a 31) (a_rs 5), w_X4 cI cR b0 b1 b2 b3 b4 b_s] (by decide : ([5, 8] ++ [0, 1, 2, 3, 4, 6, 7] : List Nat).Perm (List.range 9)) rfl rfl rfl rfl rfl hl.1 rfl (Nat.le_of_ble_eq_true rfl) dX0_record_48 ⟨Nat.le_of_ble_eq_true rfl, Nat.le_of_ble_eq_true rfl⟩ (fun H locs Z => ?_)
            have hR := so_s hf
            subst hR
            refine z_vret X hr hlocks ?_ dX0_record_51
            exact Z.eq rfl
          · have hf := it_f c23 hf
            rcases Decidable.em (q16 = (4 : Int32)) with c25 | c25
            · have hf := it_t c25 hf
              rw [c25] at hq16
              refine z_roV X Z (c_X0_latest_4 l D cI cR a a_rs a_oldest (a_size + (1 : Int32)) hq16) (zw_X0_29 X.1.2.2.2.2 ⟨Nat.le_of_ble_eq_true rfl, Nat.le_of_ble_eq_true rfl⟩) 0 0 rfl rfl rfl [0] [1] (by decide : ([0] ++ [1] : List Nat).Perm (List.range 2)) rfl rfl hl.1 rfl (Nat.le_of_ble_eq_true rfl) dX0_record_38 ⟨Nat.le_of_ble_eq_true rfl, Nat.le_of_ble_eq_true rfl⟩ (fun H locs Z => ?_)
              refine lv_astore_n (lv' := [(2, .ref (a 22)), (0, .ref (a 0)), (1, .ref b0)]) hx hb dX0_record_41 rfl hl (by decide) rfl (fun ls hl => ?_)
              refine lv_aload_n hx hb dX0_record_42 rfl (lv_at hl 0 rfl) ?_
              refine lv_ifnull hx hb dX0_record_43 ?_
              refine lv_aload_n hx hb dX0_record_46 rfl (lv_at hl 0 rfl) ?_
              refine lv_aload_n hx hb dX0_record_47 rfl (lv_at hl 2 rfl) ?_
              have Z : zW D A s [[((a 0), .inr (0, [.ref (a 1), .int a_oldest, .int (a_size + (1 : Int32))]))], [((a 1), .inl (cR, 6, .inr (.inr (.inr (.inr (fun k => if k < 6 then some (a (2 + 5 * k)) else none))))))], w_X4 cI cR (a 2) (a 3) (a 4) (a 5) (a 6) (a_rs 0), w_X4 cI cR (a 7) (a 8) (a 9) (a 10) (a 11) (a_rs 1), w_X4 cI cR (a 12) (a 13) (a 14) (a 15) (a 16) (a_rs 2), w_X4 cI cR (a 17) (a 18) (a 19) (a 20) (a 21) (a_rs 3), w_X4 cI cR (a 22) (a 23) (a 24) (a 25) (a 26) (a_rs 4), w_X4 cI cR (a 27) (a 28) (a 29) (a 30) (a 31) (a_rs 5), w_X4 cI cR b0 b1 b2 b3 b4 b_s] _ _ := Z.eq rfl
              obtain ⟨q26, hq26, hf⟩ := ob_s hf
              refine z_callVN X Z (c_X4_become l D cI cR (a 22) (a 23) (a 24) (a 25) (a 26) b0 b1 b2 b3 b4 (a_rs 4) b_s  hq26) (zw_X0_33 X.2.1 X.1.2.2.2.2 ⟨Nat.le_of_ble_eq_true rfl, Nat.le_of_ble_eq_true rfl⟩) 22 4 rfl rfl rfl [6, 8] [0, 1, 2, 3, 4, 5, 7] [[((a 0), .inr (0, [.ref (a 1), .int a_oldest, .int (a_size + (1 : Int32))]))], [((a 1), .inl (cR, 6, .inr (.inr (.inr (.inr (fun k => if k < 6 then some (a (2 + 5 * k)) else none))))))], w_X4 cI cR (a 2) (a 3) (a 4) (a 5) (a 6) (a_rs 0), w_X4 cI cR (a 7) (a 8) (a 9) (a 10) (a 11) (a_rs 1), w_X4 cI cR (a 12) (a 13) (a 14) (a 15) (a 16) (a_rs 2), w_X4 cI cR (a 17) (a 18) (a 19) (a 20) (a 21) (a_rs 3), w_X4 cI cR (a 22) (a 23) (a 24) (a 25) (a 26) q26, w_X4 cI cR (a 27) (a 28) (a 29) (a 30) (a 31) (a_rs 5), w_X4 cI cR b0 b1 b2 b3 b4 b_s] (by decide : ([6, 8] ++ [0, 1, 2, 3, 4, 5, 7] : List Nat).Perm (List.range 9)) rfl rfl rfl rfl rfl hl.1 rfl (Nat.le_of_ble_eq_true rfl) dX0_record_48 ⟨Nat.le_of_ble_eq_true rfl, Nat.le_of_ble_eq_true rfl⟩ (fun H locs Z => ?_)
              have hR := so_s hf
              subst hR
              refine z_vret X hr hlocks ?_ dX0_record_51
              exact Z.eq rfl
            · have hf := it_f c25 hf
              rcases Decidable.em (q16 = (5 : Int32)) with c27 | c27
              · have hf := it_t c27 hf
                rw [c27] at hq16
                refine z_roV X Z (c_X0_latest_5 l D cI cR a a_rs a_oldest (a_size + (1 : Int32)) hq16) (zw_X0_29 X.1.2.2.2.2 ⟨Nat.le_of_ble_eq_true rfl, Nat.le_of_ble_eq_true rfl⟩) 0 0 rfl rfl rfl [0] [1] (by decide : ([0] ++ [1] : List Nat).Perm (List.range 2)) rfl rfl hl.1 rfl (Nat.le_of_ble_eq_true rfl) dX0_record_38 ⟨Nat.le_of_ble_eq_true rfl, Nat.le_of_ble_eq_true rfl⟩ (fun H locs Z => ?_)
                refine lv_astore_n (lv' := [(2, .ref (a 27)), (0, .ref (a 0)), (1, .ref b0)]) hx hb dX0_record_41 rfl hl (by decide) rfl (fun ls hl => ?_)
                refine lv_aload_n hx hb dX0_record_42 rfl (lv_at hl 0 rfl) ?_
                refine lv_ifnull hx hb dX0_record_43 ?_
                refine lv_aload_n hx hb dX0_record_46 rfl (lv_at hl 0 rfl) ?_
                refine lv_aload_n hx hb dX0_record_47 rfl (lv_at hl 2 rfl) ?_
                have Z : zW D A s [[((a 0), .inr (0, [.ref (a 1), .int a_oldest, .int (a_size + (1 : Int32))]))], [((a 1), .inl (cR, 6, .inr (.inr (.inr (.inr (fun k => if k < 6 then some (a (2 + 5 * k)) else none))))))], w_X4 cI cR (a 2) (a 3) (a 4) (a 5) (a 6) (a_rs 0), w_X4 cI cR (a 7) (a 8) (a 9) (a 10) (a 11) (a_rs 1), w_X4 cI cR (a 12) (a 13) (a 14) (a 15) (a 16) (a_rs 2), w_X4 cI cR (a 17) (a 18) (a 19) (a 20) (a 21) (a_rs 3), w_X4 cI cR (a 22) (a 23) (a 24) (a 25) (a 26) (a_rs 4), w_X4 cI cR (a 27) (a 28) (a 29) (a 30) (a 31) (a_rs 5), w_X4 cI cR b0 b1 b2 b3 b4 b_s] _ _ := Z.eq rfl
                obtain ⟨q28, hq28, hf⟩ := ob_s hf
                refine z_callVN X Z (c_X4_become l D cI cR (a 27) (a 28) (a 29) (a 30) (a 31) b0 b1 b2 b3 b4 (a_rs 5) b_s  hq28) (zw_X0_33 X.2.1 X.1.2.2.2.2 ⟨Nat.le_of_ble_eq_true rfl, Nat.le_of_ble_eq_true rfl⟩) 27 4 rfl rfl rfl [7, 8] [0, 1, 2, 3, 4, 5, 6] [[((a 0), .inr (0, [.ref (a 1), .int a_oldest, .int (a_size + (1 : Int32))]))], [((a 1), .inl (cR, 6, .inr (.inr (.inr (.inr (fun k => if k < 6 then some (a (2 + 5 * k)) else none))))))], w_X4 cI cR (a 2) (a 3) (a 4) (a 5) (a 6) (a_rs 0), w_X4 cI cR (a 7) (a 8) (a 9) (a 10) (a 11) (a_rs 1), w_X4 cI cR (a 12) (a 13) (a 14) (a 15) (a 16) (a_rs 2), w_X4 cI cR (a 17) (a 18) (a 19) (a 20) (a 21) (a_rs 3), w_X4 cI cR (a 22) (a 23) (a 24) (a 25) (a 26) (a_rs 4), w_X4 cI cR (a 27) (a 28) (a 29) (a 30) (a 31) q28, w_X4 cI cR b0 b1 b2 b3 b4 b_s] (by decide : ([7, 8] ++ [0, 1, 2, 3, 4, 5, 6] : List Nat).Perm (List.range 9)) rfl rfl rfl rfl rfl hl.1 rfl (Nat.le_of_ble_eq_true rfl) dX0_record_48 ⟨Nat.le_of_ble_eq_true rfl, Nat.le_of_ble_eq_true rfl⟩ (fun H locs Z => ?_)
                have hR := so_s hf
                subst hR
                refine z_vret X hr hlocks ?_ dX0_record_51
                exact Z.eq rfl
              · have hf := it_f c27 hf
                cases hf
def f_X0_takeBack (a_rs : (Nat → ST)) (a_oldest : Int32) (a_size : Int32) (b_s : ST) : Option (Int32 × ST) := (f_X7_leftOver ((a_oldest + a_size) - (1 : Int32)) (6 : Int32)).bind (fun q1 => if q1 = (0 : Int32) then (if a_size ≤ 0 then (some (a_size, b_s)) else ((f_X4_become b_s (a_rs 0)).bind (fun q4 => some (a_size - (1 : Int32), q4)))) else (if q1 = (1 : Int32) then (if a_size ≤ 0 then (some (a_size, b_s)) else ((f_X4_become b_s (a_rs 1)).bind (fun q7 => some (a_size - (1 : Int32), q7)))) else (if q1 = (2 : Int32) then (if a_size ≤ 0 then (some (a_size, b_s)) else ((f_X4_become b_s (a_rs 2)).bind (fun q10 => some (a_size - (1 : Int32), q10)))) else (if q1 = (3 : Int32) then (if a_size ≤ 0 then (some (a_size, b_s)) else ((f_X4_become b_s (a_rs 3)).bind (fun q13 => some (a_size - (1 : Int32), q13)))) else (if q1 = (4 : Int32) then (if a_size ≤ 0 then (some (a_size, b_s)) else ((f_X4_become b_s (a_rs 4)).bind (fun q16 => some (a_size - (1 : Int32), q16)))) else (if q1 = (5 : Int32) then (if a_size ≤ 0 then (some (a_size, b_s)) else ((f_X4_become b_s (a_rs 5)).bind (fun q19 => some (a_size - (1 : Int32), q19)))) else (none)))))))
set_option maxHeartbeats 4000000 in
set_option maxRecDepth 100000 in
theorem c_X0_takeBack (l : Launch) (D : va_G) (cI cR : ClassId) (a : (Nat → Nat)) (b0 : Nat) (b1 : Nat) (b2 : Nat) (b3 : Nat) (b4 : Nat) (a_rs : (Nat → ST)) (a_oldest : Int32) (a_size : Int32) (b_s : ST) {R : Int32 × ST} (hf : f_X0_takeBack a_rs a_oldest a_size b_s = some R) : zM l D cI cR yX0_takeBack cX0_takeBack 3 none 4 85 [.ref (a 0), .ref b0] [w_X0 cI cR a a_rs a_oldest a_size, w_X4 cI cR b0 b1 b2 b3 b4 b_s] none [w_X0 cI cR a a_rs a_oldest R.1, w_X4 cI cR b0 b1 b2 b3 b4 R.2] := by
  refine z_of (own := RX0) rfl (by decide) (Nat.le_of_ble_eq_true rfl) ?_
  intro p e s m args below meth c A ls X hr hlocks Z hl
  have hx := X.1.1
  have hb := X.1.2.1
  have Z : zW D A s [w_X0 cI cR a a_rs a_oldest a_size, w_X4 cI cR b0 b1 b2 b3 b4 b_s] s.heap [] := Z
  have hl : lv_has ls 3 [(0, .ref (a 0)), (1, .ref b0)] := hl
  refine lv_aload_n hx hb dX0_takeBack_0 rfl (lv_at hl 0 rfl) ?_
  obtain ⟨q1, hq1, hf⟩ := ob_s hf
  rcases Decidable.em (q1 = (0 : Int32)) with c2 | c2
  · have hf := it_t c2 hf
    rw [c2] at hq1
    refine z_roV X Z (c_X0_latest_0 l D cI cR a a_rs a_oldest a_size hq1) (zw_X0_29 X.1.2.2.2.2 ⟨Nat.le_of_ble_eq_true rfl, Nat.le_of_ble_eq_true rfl⟩) 0 0 rfl rfl rfl [0] [1] (by decide : ([0] ++ [1] : List Nat).Perm (List.range 2)) rfl rfl hl.1 rfl (Nat.le_of_ble_eq_true rfl) dX0_takeBack_1 ⟨Nat.le_of_ble_eq_true rfl, Nat.le_of_ble_eq_true rfl⟩ (fun H locs Z => ?_)
    refine lv_astore_n (lv' := [(2, .ref (a 2)), (0, .ref (a 0)), (1, .ref b0)]) hx hb dX0_takeBack_4 rfl hl (by decide) rfl (fun ls hl => ?_)
    refine lv_aload_n hx hb dX0_takeBack_5 rfl (lv_at hl 1 rfl) ?_
    refine zg_X0_18 X Z 0 rfl rfl dX0_takeBack_6 ?_
    refine lv_if_le (tgt := 31) hx hb dX0_takeBack_9 (by decide) (fun c3 => ?_) (fun c3 => ?_)
    · have hf := it_t c3 hf
      have hR := so_s hf
      subst hR
      refine z_vret X hr hlocks ?_ dX0_takeBack_31
      exact Z.eq rfl
    · have hf := it_f c3 hf
      refine lv_aload_n hx hb dX0_takeBack_12 rfl (lv_at hl 0 rfl) ?_
      refine lv_ifnull hx hb dX0_takeBack_13 ?_
      refine lv_aload_n hx hb dX0_takeBack_16 rfl (lv_at hl 2 rfl) ?_
      refine lv_aload_n hx hb dX0_takeBack_17 rfl (lv_at hl 0 rfl) ?_
      have Z : zW D A s [[((a 0), .inr (0, [.ref (a 1), .int a_oldest, .int a_size]))], [((a 1), .inl (cR, 6, .inr (.inr (.inr (.inr (fun k => if k < 6 then some (a (2 + 5 * k)) else none))))))], w_X4 cI cR (a 2) (a 3) (a 4) (a 5) (a 6) (a_rs 0), w_X4 cI cR (a 7) (a 8) (a 9) (a 10) (a 11) (a_rs 1), w_X4 cI cR (a 12) (a 13) (a 14) (a 15) (a 16) (a_rs 2), w_X4 cI cR (a 17) (a 18) (a 19) (a 20) (a 21) (a_rs 3), w_X4 cI cR (a 22) (a 23) (a 24) (a 25) (a 26) (a_rs 4), w_X4 cI cR (a 27) (a 28) (a 29) (a 30) (a 31) (a_rs 5), w_X4 cI cR b0 b1 b2 b3 b4 b_s] _ _ := Z.eq rfl
      obtain ⟨q4, hq4, hf⟩ := ob_s hf
      refine z_callVN X Z (c_X4_become l D cI cR b0 b1 b2 b3 b4 (a 2) (a 3) (a 4) (a 5) (a 6) b_s (a_rs 0)  hq4) (zw_X0_33 X.2.1 X.1.2.2.2.2 ⟨Nat.le_of_ble_eq_true rfl, Nat.le_of_ble_eq_true rfl⟩) 32 4 rfl rfl rfl [8, 2] [0, 1, 3, 4, 5, 6, 7] [[((a 0), .inr (0, [.ref (a 1), .int a_oldest, .int a_size]))], [((a 1), .inl (cR, 6, .inr (.inr (.inr (.inr (fun k => if k < 6 then some (a (2 + 5 * k)) else none))))))], w_X4 cI cR (a 2) (a 3) (a 4) (a 5) (a 6) (a_rs 0), w_X4 cI cR (a 7) (a 8) (a 9) (a 10) (a 11) (a_rs 1), w_X4 cI cR (a 12) (a 13) (a 14) (a 15) (a 16) (a_rs 2), w_X4 cI cR (a 17) (a 18) (a 19) (a 20) (a 21) (a_rs 3), w_X4 cI cR (a 22) (a 23) (a 24) (a 25) (a 26) (a_rs 4), w_X4 cI cR (a 27) (a 28) (a 29) (a 30) (a 31) (a_rs 5), w_X4 cI cR b0 b1 b2 b3 b4 q4] (by decide : ([8, 2] ++ [0, 1, 3, 4, 5, 6, 7] : List Nat).Perm (List.range 9)) rfl rfl rfl rfl rfl hl.1 rfl (Nat.le_of_ble_eq_true rfl) dX0_takeBack_18 ⟨Nat.le_of_ble_eq_true rfl, Nat.le_of_ble_eq_true rfl⟩ (fun H locs Z => ?_)
      refine lv_aload_n hx hb dX0_takeBack_21 rfl (lv_at hl 1 rfl) ?_
      refine lv_dup hx hb dX0_takeBack_22 rfl ?_
      refine zg_X0_18 X Z 0 rfl rfl dX0_takeBack_23 ?_
      refine lv_iconst (v := 1) hx hb dX0_takeBack_26 (by decide) ?_
      refine lv_isub hx hb dX0_takeBack_27 ?_
      refine zp_X0_18 X Z 0 rfl (Nat.le_of_ble_eq_true rfl) [[((a 0), .inr (0, [.ref (a 1), .int a_oldest, .int (a_size - (1 : Int32))]))], [((a 1), .inl (cR, 6, .inr (.inr (.inr (.inr (fun k => if k < 6 then some (a (2 + 5 * k)) else none))))))], w_X4 cI cR (a 2) (a 3) (a 4) (a 5) (a 6) (a_rs 0), w_X4 cI cR (a 7) (a 8) (a 9) (a 10) (a 11) (a_rs 1), w_X4 cI cR (a 12) (a 13) (a 14) (a 15) (a 16) (a_rs 2), w_X4 cI cR (a 17) (a 18) (a 19) (a 20) (a 21) (a_rs 3), w_X4 cI cR (a 22) (a 23) (a 24) (a 25) (a 26) (a_rs 4), w_X4 cI cR (a 27) (a 28) (a 29) (a 30) (a 31) (a_rs 5), w_X4 cI cR b0 b1 b2 b3 b4 q4] rfl dX0_takeBack_28 (fun H locs Z => ?_)
      have hR := so_s hf
      subst hR
      refine z_vret X hr hlocks ?_ dX0_takeBack_31
      exact Z.eq rfl
  · have hf := it_f c2 hf
    rcases Decidable.em (q1 = (1 : Int32)) with c5 | c5
    · have hf := it_t c5 hf
      rw [c5] at hq1
      refine z_roV X Z (c_X0_latest_1 l D cI cR a a_rs a_oldest a_size hq1) (zw_X0_29 X.1.2.2.2.2 ⟨Nat.le_of_ble_eq_true rfl, Nat.le_of_ble_eq_true rfl⟩) 0 0 rfl rfl rfl [0] [1] (by decide : ([0] ++ [1] : List Nat).Perm (List.range 2)) rfl rfl hl.1 rfl (Nat.le_of_ble_eq_true rfl) dX0_takeBack_1 ⟨Nat.le_of_ble_eq_true rfl, Nat.le_of_ble_eq_true rfl⟩ (fun H locs Z => ?_)
      refine lv_astore_n (lv' := [(2, .ref (a 7)), (0, .ref (a 0)), (1, .ref b0)]) hx hb dX0_takeBack_4 rfl hl (by decide) rfl (fun ls hl => ?_)
      refine lv_aload_n hx hb dX0_takeBack_5 rfl (lv_at hl 1 rfl) ?_
      refine zg_X0_18 X Z 0 rfl rfl dX0_takeBack_6 ?_
      refine lv_if_le (tgt := 31) hx hb dX0_takeBack_9 (by decide) (fun c6 => ?_) (fun c6 => ?_)
      · have hf := it_t c6 hf
        have hR := so_s hf
        subst hR
        refine z_vret X hr hlocks ?_ dX0_takeBack_31
        exact Z.eq rfl
      · have hf := it_f c6 hf
        refine lv_aload_n hx hb dX0_takeBack_12 rfl (lv_at hl 0 rfl) ?_
        refine lv_ifnull hx hb dX0_takeBack_13 ?_
        refine lv_aload_n hx hb dX0_takeBack_16 rfl (lv_at hl 2 rfl) ?_
        refine lv_aload_n hx hb dX0_takeBack_17 rfl (lv_at hl 0 rfl) ?_
        have Z : zW D A s [[((a 0), .inr (0, [.ref (a 1), .int a_oldest, .int a_size]))], [((a 1), .inl (cR, 6, .inr (.inr (.inr (.inr (fun k => if k < 6 then some (a (2 + 5 * k)) else none))))))], w_X4 cI cR (a 2) (a 3) (a 4) (a 5) (a 6) (a_rs 0), w_X4 cI cR (a 7) (a 8) (a 9) (a 10) (a 11) (a_rs 1), w_X4 cI cR (a 12) (a 13) (a 14) (a 15) (a 16) (a_rs 2), w_X4 cI cR (a 17) (a 18) (a 19) (a 20) (a 21) (a_rs 3), w_X4 cI cR (a 22) (a 23) (a 24) (a 25) (a 26) (a_rs 4), w_X4 cI cR (a 27) (a 28) (a 29) (a 30) (a 31) (a_rs 5), w_X4 cI cR b0 b1 b2 b3 b4 b_s] _ _ := Z.eq rfl
        obtain ⟨q7, hq7, hf⟩ := ob_s hf
        refine z_callVN X Z (c_X4_become l D cI cR b0 b1 b2 b3 b4 (a 7) (a 8) (a 9) (a 10) (a 11) b_s (a_rs 1)  hq7) (zw_X0_33 X.2.1 X.1.2.2.2.2 ⟨Nat.le_of_ble_eq_true rfl, Nat.le_of_ble_eq_true rfl⟩) 32 4 rfl rfl rfl [8, 3] [0, 1, 2, 4, 5, 6, 7] [[((a 0), .inr (0, [.ref (a 1), .int a_oldest, .int a_size]))], [((a 1), .inl (cR, 6, .inr (.inr (.inr (.inr (fun k => if k < 6 then some (a (2 + 5 * k)) else none))))))], w_X4 cI cR (a 2) (a 3) (a 4) (a 5) (a 6) (a_rs 0), w_X4 cI cR (a 7) (a 8) (a 9) (a 10) (a 11) (a_rs 1), w_X4 cI cR (a 12) (a 13) (a 14) (a 15) (a 16) (a_rs 2), w_X4 cI cR (a 17) (a 18) (a 19) (a 20) (a 21) (a_rs 3), w_X4 cI cR (a 22) (a 23) (a 24) (a 25) (a 26) (a_rs 4), w_X4 cI cR (a 27) (a 28) (a 29) (a 30) (a 31) (a_rs 5), w_X4 cI cR b0 b1 b2 b3 b4 q7] (by decide : ([8, 3] ++ [0, 1, 2, 4, 5, 6, 7] : List Nat).Perm (List.range 9)) rfl rfl rfl rfl rfl hl.1 rfl (Nat.le_of_ble_eq_true rfl) dX0_takeBack_18 ⟨Nat.le_of_ble_eq_true rfl, Nat.le_of_ble_eq_true rfl⟩ (fun H locs Z => ?_)
        refine lv_aload_n hx hb dX0_takeBack_21 rfl (lv_at hl 1 rfl) ?_
        refine lv_dup hx hb dX0_takeBack_22 rfl ?_
        refine zg_X0_18 X Z 0 rfl rfl dX0_takeBack_23 ?_
        refine lv_iconst (v := 1) hx hb dX0_takeBack_26 (by decide) ?_
        refine lv_isub hx hb dX0_takeBack_27 ?_
        refine zp_X0_18 X Z 0 rfl (Nat.le_of_ble_eq_true rfl) [[((a 0), .inr (0, [.ref (a 1), .int a_oldest, .int (a_size - (1 : Int32))]))], [((a 1), .inl (cR, 6, .inr (.inr (.inr (.inr (fun k => if k < 6 then some (a (2 + 5 * k)) else none))))))], w_X4 cI cR (a 2) (a 3) (a 4) (a 5) (a 6) (a_rs 0), w_X4 cI cR (a 7) (a 8) (a 9) (a 10) (a 11) (a_rs 1), w_X4 cI cR (a 12) (a 13) (a 14) (a 15) (a 16) (a_rs 2), w_X4 cI cR (a 17) (a 18) (a 19) (a 20) (a 21) (a_rs 3), w_X4 cI cR (a 22) (a 23) (a 24) (a 25) (a 26) (a_rs 4), w_X4 cI cR (a 27) (a 28) (a 29) (a 30) (a 31) (a_rs 5), w_X4 cI cR b0 b1 b2 b3 b4 q7] rfl dX0_takeBack_28 (fun H locs Z => ?_)
        have hR := so_s hf
        subst hR
        refine z_vret X hr hlocks ?_ dX0_takeBack_31
        exact Z.eq rfl
    · have hf := it_f c5 hf
      rcases Decidable.em (q1 = (2 : Int32)) with c8 | c8
      · have hf := it_t c8 hf
        rw [c8] at hq1
        refine z_roV X Z (c_X0_latest_2 l D cI cR a a_rs a_oldest a_size hq1) (zw_X0_29 X.1.2.2.2.2 ⟨Nat.le_of_ble_eq_true rfl, Nat.le_of_ble_eq_true rfl⟩) 0 0 rfl rfl rfl [0] [1] (by decide : ([0] ++ [1] : List Nat).Perm (List.range 2)) rfl rfl hl.1 rfl (Nat.le_of_ble_eq_true rfl) dX0_takeBack_1 ⟨Nat.le_of_ble_eq_true rfl, Nat.le_of_ble_eq_true rfl⟩ (fun H locs Z => ?_)
        refine lv_astore_n (lv' := [(2, .ref (a 12)), (0, .ref (a 0)), (1, .ref b0)]) hx hb dX0_takeBack_4 rfl hl (by decide) rfl (fun ls hl => ?_)
        refine lv_aload_n hx hb dX0_takeBack_5 rfl (lv_at hl 1 rfl) ?_
        refine zg_X0_18 X Z 0 rfl rfl dX0_takeBack_6 ?_
        refine lv_if_le (tgt := 31) hx hb dX0_takeBack_9 (by decide) (fun c9 => ?_) (fun c9 => ?_)
        · have hf := it_t c9 hf
          have hR := so_s hf
          subst hR
          refine z_vret X hr hlocks ?_ dX0_takeBack_31
          exact Z.eq rfl
        · have hf := it_f c9 hf
          refine lv_aload_n hx hb dX0_takeBack_12 rfl (lv_at hl 0 rfl) ?_
          refine lv_ifnull hx hb dX0_takeBack_13 ?_
          refine lv_aload_n hx hb dX0_takeBack_16 rfl (lv_at hl 2 rfl) ?_
          refine lv_aload_n hx hb dX0_takeBack_17 rfl (lv_at hl 0 rfl) ?_
          have Z : zW D A s [[((a 0), .inr (0, [.ref (a 1), .int a_oldest, .int a_size]))], [((a 1), .inl (cR, 6, .inr (.inr (.inr (.inr (fun k => if k < 6 then some (a (2 + 5 * k)) else none))))))], w_X4 cI cR (a 2) (a 3) (a 4) (a 5) (a 6) (a_rs 0), w_X4 cI cR (a 7) (a 8) (a 9) (a 10) (a 11) (a_rs 1), w_X4 cI cR (a 12) (a 13) (a 14) (a 15) (a 16) (a_rs 2), w_X4 cI cR (a 17) (a 18) (a 19) (a 20) (a 21) (a_rs 3), w_X4 cI cR (a 22) (a 23) (a 24) (a 25) (a 26) (a_rs 4), w_X4 cI cR (a 27) (a 28) (a 29) (a 30) (a 31) (a_rs 5), w_X4 cI cR b0 b1 b2 b3 b4 b_s] _ _ := Z.eq rfl
          obtain ⟨q10, hq10, hf⟩ := ob_s hf
          refine z_callVN X Z (c_X4_become l D cI cR b0 b1 b2 b3 b4 (a 12) (a 13) (a 14) (a 15) (a 16) b_s (a_rs 2)  hq10) (zw_X0_33 X.2.1 X.1.2.2.2.2 ⟨Nat.le_of_ble_eq_true rfl, Nat.le_of_ble_eq_true rfl⟩) 32 4 rfl rfl rfl [8, 4] [0, 1, 2, 3, 5, 6, 7] [[((a 0), .inr (0, [.ref (a 1), .int a_oldest, .int a_size]))], [((a 1), .inl (cR, 6, .inr (.inr (.inr (.inr (fun k => if k < 6 then some (a (2 + 5 * k)) else none))))))], w_X4 cI cR (a 2) (a 3) (a 4) (a 5) (a 6) (a_rs 0), w_X4 cI cR (a 7) (a 8) (a 9) (a 10) (a 11) (a_rs 1), w_X4 cI cR (a 12) (a 13) (a 14) (a 15) (a 16) (a_rs 2), w_X4 cI cR (a 17) (a 18) (a 19) (a 20) (a 21) (a_rs 3), w_X4 cI cR (a 22) (a 23) (a 24) (a 25) (a 26) (a_rs 4), w_X4 cI cR (a 27) (a 28) (a 29) (a 30) (a 31) (a_rs 5), w_X4 cI cR b0 b1 b2 b3 b4 q10] (by decide : ([8, 4] ++ [0, 1, 2, 3, 5, 6, 7] : List Nat).Perm (List.range 9)) rfl rfl rfl rfl rfl hl.1 rfl (Nat.le_of_ble_eq_true rfl) dX0_takeBack_18 ⟨Nat.le_of_ble_eq_true rfl, Nat.le_of_ble_eq_true rfl⟩ (fun H locs Z => ?_)
          refine lv_aload_n hx hb dX0_takeBack_21 rfl (lv_at hl 1 rfl) ?_
          refine lv_dup hx hb dX0_takeBack_22 rfl ?_
          refine zg_X0_18 X Z 0 rfl rfl dX0_takeBack_23 ?_
          refine lv_iconst (v := 1) hx hb dX0_takeBack_26 (by decide) ?_
          refine lv_isub hx hb dX0_takeBack_27 ?_
          refine zp_X0_18 X Z 0 rfl (Nat.le_of_ble_eq_true rfl) [[((a 0), .inr (0, [.ref (a 1), .int a_oldest, .int (a_size - (1 : Int32))]))], [((a 1), .inl (cR, 6, .inr (.inr (.inr (.inr (fun k => if k < 6 then some (a (2 + 5 * k)) else none))))))], w_X4 cI cR (a 2) (a 3) (a 4) (a 5) (a 6) (a_rs 0), w_X4 cI cR (a 7) (a 8) (a 9) (a 10) (a 11) (a_rs 1), w_X4 cI cR (a 12) (a 13) (a 14) (a 15) (a 16) (a_rs 2), w_X4 cI cR (a 17) (a 18) (a 19) (a 20) (a 21) (a_rs 3), w_X4 cI cR (a 22) (a 23) (a 24) (a 25) (a 26) (a_rs 4), w_X4 cI cR (a 27) (a 28) (a 29) (a 30) (a 31) (a_rs 5), w_X4 cI cR b0 b1 b2 b3 b4 q10] rfl dX0_takeBack_28 (fun H locs Z => ?_)
          have hR := so_s hf
          subst hR
          refine z_vret X hr hlocks ?_ dX0_takeBack_31
          exact Z.eq rfl
      · have hf := it_f c8 hf
        rcases Decidable.em (q1 = (3 : Int32)) with c11 | c11
        · have hf := it_t c11 hf
          rw [c11] at hq1
          refine z_roV X Z (c_X0_latest_3 l D cI cR a a_rs a_oldest a_size hq1) (zw_X0_29 X.1.2.2.2.2 ⟨Nat.le_of_ble_eq_true rfl, Nat.le_of_ble_eq_true rfl⟩) 0 0 rfl rfl rfl [0] [1] (by decide : ([0] ++ [1] : List Nat).Perm (List.range 2)) rfl rfl hl.1 rfl (Nat.le_of_ble_eq_true rfl) dX0_takeBack_1 ⟨Nat.le_of_ble_eq_true rfl, Nat.le_of_ble_eq_true rfl⟩ (fun H locs Z => ?_)
          refine lv_astore_n (lv' := [(2, .ref (a 17)), (0, .ref (a 0)), (1, .ref b0)]) hx hb dX0_takeBack_4 rfl hl (by decide) rfl (fun ls hl => ?_)
          refine lv_aload_n hx hb dX0_takeBack_5 rfl (lv_at hl 1 rfl) ?_
          refine zg_X0_18 X Z 0 rfl rfl dX0_takeBack_6 ?_
          refine lv_if_le (tgt := 31) hx hb dX0_takeBack_9 (by decide) (fun c12 => ?_) (fun c12 => ?_)
          · have hf := it_t c12 hf
            have hR := so_s hf
            subst hR
            refine z_vret X hr hlocks ?_ dX0_takeBack_31
            exact Z.eq rfl
          · have hf := it_f c12 hf
            refine lv_aload_n hx hb dX0_takeBack_12 rfl (lv_at hl 0 rfl) ?_
            refine lv_ifnull hx hb dX0_takeBack_13 ?_
            refine lv_aload_n hx hb dX0_takeBack_16 rfl (lv_at hl 2 rfl) ?_
            refine lv_aload_n hx hb dX0_takeBack_17 rfl (lv_at hl 0 rfl) ?_
            have Z : zW D A s [[((a 0), .inr (0, [.ref (a 1), .int a_oldest, .int a_size]))], [((a 1), .inl (cR, 6, .inr (.inr (.inr (.inr (fun k => if k < 6 then some (a (2 + 5 * k)) else none))))))], w_X4 cI cR (a 2) (a 3) (a 4) (a 5) (a 6) (a_rs 0), w_X4 cI cR (a 7) (a 8) (a 9) (a 10) (a 11) (a_rs 1), w_X4 cI cR (a 12) (a 13) (a 14) (a 15) (a 16) (a_rs 2), w_X4 cI cR (a 17) (a 18) (a 19) (a 20) (a 21) (a_rs 3), w_X4 cI cR (a 22) (a 23) (a 24) (a 25) (a 26) (a_rs 4), w_X4 cI cR (a 27) (a 28) (a 29) (a 30) (a 31) (a_rs 5), w_X4 cI cR b0 b1 b2 b3 b4 b_s] _ _ := Z.eq rfl
            obtain ⟨q13, hq13, hf⟩ := ob_s hf
            refine z_callVN X Z (c_X4_become l D cI cR b0 b1 b2 b3 b4 (a 17) (a 18) (a 19) (a 20) (a 21) b_s (a_rs 3)  hq13) (zw_X0_33 X.2.1 X.1.2.2.2.2 ⟨Nat.le_of_ble_eq_true rfl, Nat.le_of_ble_eq_true rfl⟩) 32 4 rfl rfl rfl [8, 5] [0, 1, 2, 3, 4, 6, 7] [[((a 0), .inr (0, [.ref (a 1), .int a_oldest, .int a_size]))], [((a 1), .inl (cR, 6, .inr (.inr (.inr (.inr (fun k => if k < 6 then some (a (2 + 5 * k)) else none))))))], w_X4 cI cR (a 2) (a 3) (a 4) (a 5) (a 6) (a_rs 0), w_X4 cI cR (a 7) (a 8) (a 9) (a 10) (a 11) (a_rs 1), w_X4 cI cR (a 12) (a 13) (a 14) (a 15) (a 16) (a_rs 2), w_X4 cI cR (a 17) (a 18) (a 19) (a 20) (a 21) (a_rs 3), w_X4 cI cR (a 22) (a 23) (a 24) (a 25) (a 26) (a_rs 4), w_X4 cI cR (a 27) (a 28) (a 29) (a 30) (a 31) (a_rs 5), w_X4 cI cR b0 b1 b2 b3 b4 q13] (by decide : ([8, 5] ++ [0, 1, 2, 3, 4, 6, 7] : List Nat).Perm (List.range 9)) rfl rfl rfl rfl rfl hl.1 rfl (Nat.le_of_ble_eq_true rfl) dX0_takeBack_18 ⟨Nat.le_of_ble_eq_true rfl, Nat.le_of_ble_eq_true rfl⟩ (fun H locs Z => ?_)
            refine lv_aload_n hx hb dX0_takeBack_21 rfl (lv_at hl 1 rfl) ?_
            refine lv_dup hx hb dX0_takeBack_22 rfl ?_
            refine zg_X0_18 X Z 0 rfl rfl dX0_takeBack_23 ?_
            refine lv_iconst (v := 1) hx hb dX0_takeBack_26 (by decide) ?_
            refine lv_isub hx hb dX0_takeBack_27 ?_
            refine zp_X0_18 X Z 0 rfl (Nat.le_of_ble_eq_true rfl) [[((a 0), .inr (0, [.ref (a 1), .int a_oldest, .int (a_size - (1 : Int32))]))], [((a 1), .inl (cR, 6, .inr (.inr (.inr (.inr (fun k => if k < 6 then some (a (2 + 5 * k)) else none))))))], w_X4 cI cR (a 2) (a 3) (a 4) (a 5) (a 6) (a_rs 0), w_X4 cI cR (a 7) (a 8) (a 9) (a 10) (a 11) (a_rs 1), w_X4 cI cR (a 12) (a 13) (a 14) (a 15) (a 16) (a_rs 2), w_X4 cI cR (a 17) (a 18) (a 19) (a 20) (a 21) (a_rs 3), w_X4 cI cR (a 22) (a 23) (a 24) (a 25) (a 26) (a_rs 4), w_X4 cI cR (a 27) (a 28) (a 29) (a 30) (a 31) (a_rs 5), w_X4 cI cR b0 b1 b2 b3 b4 q13] rfl dX0_takeBack_28 (fun H locs Z => ?_)
            have hR := so_s hf
            subst hR
            refine z_vret X hr hlocks ?_ dX0_takeBack_31
            exact Z.eq rfl
        · have hf := it_f c11 hf
          rcases Decidable.em (q1 = (4 : Int32)) with c14 | c14
          · have hf := it_t c14 hf
            rw [c14] at hq1
            refine z_roV X Z (c_X0_latest_4 l D cI cR a a_rs a_oldest a_size hq1) (zw_X0_29 X.1.2.2.2.2 ⟨Nat.le_of_ble_eq_true rfl, Nat.le_of_ble_eq_true rfl⟩) 0 0 rfl rfl rfl [0] [1] (by decide : ([0] ++ [1] : List Nat).Perm (List.range 2)) rfl rfl hl.1 rfl (Nat.le_of_ble_eq_true rfl) dX0_takeBack_1 ⟨Nat.le_of_ble_eq_true rfl, Nat.le_of_ble_eq_true rfl⟩ (fun H locs Z => ?_)
            refine lv_astore_n (lv' := [(2, .ref (a 22)), (0, .ref (a 0)), (1, .ref b0)]) hx hb dX0_takeBack_4 rfl hl (by decide) rfl (fun ls hl => ?_)
            refine lv_aload_n hx hb dX0_takeBack_5 rfl (lv_at hl 1 rfl) ?_
            refine zg_X0_18 X Z 0 rfl rfl dX0_takeBack_6 ?_
            refine lv_if_le (tgt := 31) hx hb dX0_takeBack_9 (by decide) (fun c15 => ?_) (fun c15 => ?_)
            · have hf := it_t c15 hf
              have hR := so_s hf
              subst hR
              refine z_vret X hr hlocks ?_ dX0_takeBack_31
              exact Z.eq rfl
            · have hf := it_f c15 hf
              refine lv_aload_n hx hb dX0_takeBack_12 rfl (lv_at hl 0 rfl) ?_
              refine lv_ifnull hx hb dX0_takeBack_13 ?_
              refine lv_aload_n hx hb dX0_takeBack_16 rfl (lv_at hl 2 rfl) ?_
              refine lv_aload_n hx hb dX0_takeBack_17 rfl (lv_at hl 0 rfl) ?_
              have Z : zW D A s [[((a 0), .inr (0, [.ref (a 1), .int a_oldest, .int a_size]))], [((a 1), .inl (cR, 6, .inr (.inr (.inr (.inr (fun k => if k < 6 then some (a (2 + 5 * k)) else none))))))], w_X4 cI cR (a 2) (a 3) (a 4) (a 5) (a 6) (a_rs 0), w_X4 cI cR (a 7) (a 8) (a 9) (a 10) (a 11) (a_rs 1), w_X4 cI cR (a 12) (a 13) (a 14) (a 15) (a 16) (a_rs 2), w_X4 cI cR (a 17) (a 18) (a 19) (a 20) (a 21) (a_rs 3), w_X4 cI cR (a 22) (a 23) (a 24) (a 25) (a 26) (a_rs 4), w_X4 cI cR (a 27) (a 28) (a 29) (a 30) (a 31) (a_rs 5), w_X4 cI cR b0 b1 b2 b3 b4 b_s] _ _ := Z.eq rfl
              obtain ⟨q16, hq16, hf⟩ := ob_s hf
              refine z_callVN X Z (c_X4_become l D cI cR b0 b1 b2 b3 b4 (a 22) (a 23) (a 24) (a 25) (a 26) b_s (a_rs 4)  hq16) (zw_X0_33 X.2.1 X.1.2.2.2.2 ⟨Nat.le_of_ble_eq_true rfl, Nat.le_of_ble_eq_true rfl⟩) 32 4 rfl rfl rfl [8, 6] [0, 1, 2, 3, 4, 5, 7] [[((a 0), .inr (0, [.ref (a 1), .int a_oldest, .int a_size]))], [((a 1), .inl (cR, 6, .inr (.inr (.inr (.inr (fun k => if k < 6 then some (a (2 + 5 * k)) else none))))))], w_X4 cI cR (a 2) (a 3) (a 4) (a 5) (a 6) (a_rs 0), w_X4 cI cR (a 7) (a 8) (a 9) (a 10) (a 11) (a_rs 1), w_X4 cI cR (a 12) (a 13) (a 14) (a 15) (a 16) (a_rs 2), w_X4 cI cR (a 17) (a 18) (a 19) (a 20) (a 21) (a_rs 3), w_X4 cI cR (a 22) (a 23) (a 24) (a 25) (a 26) (a_rs 4), w_X4 cI cR (a 27) (a 28) (a 29) (a 30) (a 31) (a_rs 5), w_X4 cI cR b0 b1 b2 b3 b4 q16] (by decide : ([8, 6] ++ [0, 1, 2, 3, 4, 5, 7] : List Nat).Perm (List.range 9)) rfl rfl rfl rfl rfl hl.1 rfl (Nat.le_of_ble_eq_true rfl) dX0_takeBack_18 ⟨Nat.le_of_ble_eq_true rfl, Nat.le_of_ble_eq_true rfl⟩ (fun H locs Z => ?_)
              refine lv_aload_n hx hb dX0_takeBack_21 rfl (lv_at hl 1 rfl) ?_
              refine lv_dup hx hb dX0_takeBack_22 rfl ?_
              refine zg_X0_18 X Z 0 rfl rfl dX0_takeBack_23 ?_
              refine lv_iconst (v := 1) hx hb dX0_takeBack_26 (by decide) ?_
              refine lv_isub hx hb dX0_takeBack_27 ?_
              refine zp_X0_18 X Z 0 rfl (Nat.le_of_ble_eq_true rfl) [[((a 0), .inr (0, [.ref (a 1), .int a_oldest, .int (a_size - (1 : Int32))]))], [((a 1), .inl (cR, 6, .inr (.inr (.inr (.inr (fun k => if k < 6 then some (a (2 + 5 * k)) else none))))))], w_X4 cI cR (a 2) (a 3) (a 4) (a 5) (a 6) (a_rs 0), w_X4 cI cR (a 7) (a 8) (a 9) (a 10) (a 11) (a_rs 1), w_X4 cI cR (a 12) (a 13) (a 14) (a 15) (a 16) (a_rs 2), w_X4 cI cR (a 17) (a 18) (a 19) (a 20) (a 21) (a_rs 3), w_X4 cI cR (a 22) (a 23) (a 24) (a 25) (a 26) (a_rs 4), w_X4 cI cR (a 27) (a 28) (a 29) (a 30) (a 31) (a_rs 5), w_X4 cI cR b0 b1 b2 b3 b4 q16] rfl dX0_takeBack_28 (fun H locs Z => ?_)
              have hR := so_s hf
              subst hR
              refine z_vret X hr hlocks ?_ dX0_takeBack_31
              exact Z.eq rfl
          · have hf := it_f c14 hf
            rcases Decidable.em (q1 = (5 : Int32)) with c17 | c17
            · have hf := it_t c17 hf
              rw [c17] at hq1
              refine z_roV X Z (c_X0_latest_5 l D cI cR a a_rs a_oldest a_size hq1) (zw_X0_29 X.1.2.2.2.2 ⟨Nat.le_of_ble_eq_true rfl, Nat.le_of_ble_eq_true rfl⟩) 0 0 rfl rfl rfl [0] [1] (by decide : ([0] ++ [1] : List Nat).Perm (List.range 2)) rfl rfl hl.1 rfl (Nat.le_of_ble_eq_true rfl) dX0_takeBack_1 ⟨Nat.le_of_ble_eq_true rfl, Nat.le_of_ble_eq_true rfl⟩ (fun H locs Z => ?_)
              refine lv_astore_n (lv' := [(2, .ref (a 27)), (0, .ref (a 0)), (1, .ref b0)]) hx hb dX0_takeBack_4 rfl hl (by decide) rfl (fun ls hl => ?_)
              refine lv_aload_n hx hb dX0_takeBack_5 rfl (lv_at hl 1 rfl) ?_
              refine zg_X0_18 X Z 0 rfl rfl dX0_takeBack_6 ?_
              refine lv_if_le (tgt := 31) hx hb dX0_takeBack_9 (by decide) (fun c18 => ?_) (fun c18 => ?_)
              · have hf := it_t c18 hf
                have hR := so_s hf
                subst hR
                refine z_vret X hr hlocks ?_ dX0_takeBack_31
                exact Z.eq rfl
              · have hf := it_f c18 hf
                refine lv_aload_n hx hb dX0_takeBack_12 rfl (lv_at hl 0 rfl) ?_
                refine lv_ifnull hx hb dX0_takeBack_13 ?_
                refine lv_aload_n hx hb dX0_takeBack_16 rfl (lv_at hl 2 rfl) ?_
                refine lv_aload_n hx hb dX0_takeBack_17 rfl (lv_at hl 0 rfl) ?_
                have Z : zW D A s [[((a 0), .inr (0, [.ref (a 1), .int a_oldest, .int a_size]))], [((a 1), .inl (cR, 6, .inr (.inr (.inr (.inr (fun k => if k < 6 then some (a (2 + 5 * k)) else none))))))], w_X4 cI cR (a 2) (a 3) (a 4) (a 5) (a 6) (a_rs 0), w_X4 cI cR (a 7) (a 8) (a 9) (a 10) (a 11) (a_rs 1), w_X4 cI cR (a 12) (a 13) (a 14) (a 15) (a 16) (a_rs 2), w_X4 cI cR (a 17) (a 18) (a 19) (a 20) (a 21) (a_rs 3), w_X4 cI cR (a 22) (a 23) (a 24) (a 25) (a 26) (a_rs 4), w_X4 cI cR (a 27) (a 28) (a 29) (a 30) (a 31) (a_rs 5), w_X4 cI cR b0 b1 b2 b3 b4 b_s] _ _ := Z.eq rfl
                obtain ⟨q19, hq19, hf⟩ := ob_s hf
                refine z_callVN X Z (c_X4_become l D cI cR b0 b1 b2 b3 b4 (a 27) (a 28) (a 29) (a 30) (a 31) b_s (a_rs 5)  hq19) (zw_X0_33 X.2.1 X.1.2.2.2.2 ⟨Nat.le_of_ble_eq_true rfl, Nat.le_of_ble_eq_true rfl⟩) 32 4 rfl rfl rfl [8, 7] [0, 1, 2, 3, 4, 5, 6] [[((a 0), .inr (0, [.ref (a 1), .int a_oldest, .int a_size]))], [((a 1), .inl (cR, 6, .inr (.inr (.inr (.inr (fun k => if k < 6 then some (a (2 + 5 * k)) else none))))))], w_X4 cI cR (a 2) (a 3) (a 4) (a 5) (a 6) (a_rs 0), w_X4 cI cR (a 7) (a 8) (a 9) (a 10) (a 11) (a_rs 1), w_X4 cI cR (a 12) (a 13) (a 14) (a 15) (a 16) (a_rs 2), w_X4 cI cR (a 17) (a 18) (a 19) (a 20) (a 21) (a_rs 3), w_X4 cI cR (a 22) (a 23) (a 24) (a 25) (a 26) (a_rs 4), w_X4 cI cR (a 27) (a 28) (a 29) (a 30) (a 31) (a_rs 5), w_X4 cI cR b0 b1 b2 b3 b4 q19] (by decide : ([8, 7] ++ [0, 1, 2, 3, 4, 5, 6] : List Nat).Perm (List.range 9)) rfl rfl rfl rfl rfl hl.1 rfl (Nat.le_of_ble_eq_true rfl) dX0_takeBack_18 ⟨Nat.le_of_ble_eq_true rfl, Nat.le_of_ble_eq_true rfl⟩ (fun H locs Z => ?_)
                refine lv_aload_n hx hb dX0_takeBack_21 rfl (lv_at hl 1 rfl) ?_
                refine lv_dup hx hb dX0_takeBack_22 rfl ?_
                refine zg_X0_18 X Z 0 rfl rfl dX0_takeBack_23 ?_
                refine lv_iconst (v := 1) hx hb dX0_takeBack_26 (by decide) ?_
                refine lv_isub hx hb dX0_takeBack_27 ?_
                refine zp_X0_18 X Z 0 rfl (Nat.le_of_ble_eq_true rfl) [[((a 0), .inr (0, [.ref (a 1), .int a_oldest, .int (a_size - (1 : Int32))]))], [((a 1), .inl (cR, 6, .inr (.inr (.inr (.inr (fun k => if k < 6 then some (a (2 + 5 * k)) else none))))))], w_X4 cI cR (a 2) (a 3) (a 4) (a 5) (a 6) (a_rs 0), w_X4 cI cR (a 7) (a 8) (a 9) (a 10) (a 11) (a_rs 1), w_X4 cI cR (a 12) (a 13) (a 14) (a 15) (a 16) (a_rs 2), w_X4 cI cR (a 17) (a 18) (a 19) (a 20) (a 21) (a_rs 3), w_X4 cI cR (a 22) (a 23) (a 24) (a 25) (a 26) (a_rs 4), w_X4 cI cR (a 27) (a 28) (a 29) (a 30) (a 31) (a_rs 5), w_X4 cI cR b0 b1 b2 b3 b4 q19] rfl dX0_takeBack_28 (fun H locs Z => ?_)
                have hR := so_s hf
                subst hR
                refine z_vret X hr hlocks ?_ dX0_takeBack_31
                exact Z.eq rfl
            · have hf := it_f c17 hf
              cases hf
