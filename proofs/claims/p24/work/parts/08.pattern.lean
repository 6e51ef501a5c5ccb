def f_X3_learn_L17 (a_length : Int32) (b_codes : (Nat → Int32)) (b_length : Int32) : Nat → Int32 → (Nat → Int32) → Option (Int32 × (Nat → Int32) × Int32)
  | 0, _, _ => none
  | n + 1, x2, a_heights => if b_length ≤ x2 then (some ((1 : Int32), a_heights, b_length)) else ((f_X2_isHeightAt b_codes x2).bind (fun q4 => if q4 = 0 then (some ((0 : Int32), a_heights, a_length)) else ((f_X2_digit b_codes x2).bind (fun q6 => (f_X7_setAt 8 a_heights x2 q6).bind (fun q7 => f_X3_learn_L17 a_length b_codes b_length n (x2 + (1 : Int32)) q7)))))
set_option maxHeartbeats 4000000 in
set_option maxRecDepth 100000 in
theorem w_X3_learn_L17 {p : Program} {l : Launch} {e : Env} {s : State} {m : MethodId} {args : Array Value} {below : List Frame} {meth : Method} {c : Code} {D : va_G} {cI cR : ClassId} {A : Nat → Prop} {a0 : Nat} {a1 : Nat} {b0 : Nat} {b1 : Nat} {a_length : Int32} {b_codes : (Nat → Int32)} {b_length : Int32} {R : Int32 × (Nat → Int32) × Int32} (X : zX p s m c cX3_learn 3 args RX3 D cI cR A) (hr : meth.sig.returnType = (some .boolean)) (hlocks : meth.locks = false) : ∀ (n : Nat)  {x2 : Int32} {a_heights : (Nat → Int32)} {H : Heap} {locs : List Loc} {ls : Array Slot}, f_X3_learn_L17 a_length b_codes b_length n x2 a_heights = some R → zW D A s [w_X3 cI cR a0 a1 a_heights a_length, w_X2 cI cR b0 b1 b_codes b_length] H locs → lv_has ls 3 [(0, .ref a0), (1, .ref b0), (2, .int x2)] → W p l e ({ frames := 3, cells := 0, slots := 0, locals := 63 } : Room) s m args below meth c H locs 0 0 (zE D A below s args (some (.int R.1)) [w_X3 cI cR a0 a1 R.2.1 R.2.2, w_X2 cI cR b0 b1 b_codes b_length]) (F0 m 17 ls []) := by
  have hx := X.1.1
  have hb := X.1.2.1
  intro n
  induction n with
  | zero =>
    intro x2 a_heights H locs ls hf
    have hf : none = some R := hf
    cases hf
  | succ n ih =>
    intro x2 a_heights H locs ls hf Z hl
    refine lv_iload_n hx hb dX3_learn_17 rfl (lv_at hl 2 rfl) ?_
    refine lv_aload_n hx hb dX3_learn_18 rfl (lv_at hl 1 rfl) ?_
    refine zg_X3_15 X Z 2 rfl rfl dX3_learn_19 ?_
    refine lv_icmp_ge (tgt := 54) hx hb dX3_learn_22 (by decide) (fun c3 => ?_) (fun c3 => ?_)
    · have hf := it_t c3 hf
      refine lv_aload_n hx hb dX3_learn_54 rfl (lv_at hl 0 rfl) ?_
      refine lv_aload_n hx hb dX3_learn_55 rfl (lv_at hl 1 rfl) ?_
      refine zg_X3_15 X Z 2 rfl rfl dX3_learn_56 ?_
      refine zp_X3_37 X Z 0 rfl (Nat.le_of_ble_eq_true rfl) [w_X3 cI cR a0 a1 a_heights b_length, w_X2 cI cR b0 b1 b_codes b_length] rfl dX3_learn_59 (fun H locs Z => ?_)
      refine lv_iconst (v := 1) hx hb dX3_learn_62 (by decide) ?_
      have hR := so_s hf
      subst hR
      refine z_zret X hr hlocks (Or.inr rfl) ?_ dX3_learn_63
      exact Z.eq rfl
    · have hf := it_f c3 hf
      refine lv_aload_n hx hb dX3_learn_25 rfl (lv_at hl 1 rfl) ?_
      refine lv_iload_n hx hb dX3_learn_26 rfl (lv_at hl 2 rfl) ?_
      obtain ⟨q4, hq4, hf⟩ := ob_s hf
      refine z_roVN X Z (c_X2_isHeightAt l D cI cR b0 b1 b_codes b_length x2 hq4) (zw_X3_25 X.2.1 X.1.2.2.2.2 ⟨Nat.le_of_ble_eq_true rfl, Nat.le_of_ble_eq_true rfl⟩) 2 2 rfl rfl rfl [1] [0] (by decide : ([1] ++ [0] : List Nat).Perm (List.range 2)) rfl rfl hl.1 rfl (Nat.le_of_ble_eq_true rfl) dX3_learn_27 ⟨Nat.le_of_ble_eq_true rfl, Nat.le_of_ble_eq_true rfl⟩ (fun H locs Z => ?_)
      refine lv_if_ne (tgt := 35) hx hb dX3_learn_30 (by decide) (fun c5 => ?_) (fun c5 => ?_)
      · have hf := it_f c5 hf
        refine lv_aload_n hx hb dX3_learn_35 rfl (lv_at hl 0 rfl) ?_
        refine zg_X3_9 X Z 0 rfl rfl dX3_learn_36 ?_
        refine lv_iload_n hx hb dX3_learn_39 rfl (lv_at hl 2 rfl) ?_
        refine lv_aload_n hx hb dX3_learn_40 rfl (lv_at hl 1 rfl) ?_
        refine lv_iload_n hx hb dX3_learn_41 rfl (lv_at hl 2 rfl) ?_
        obtain ⟨q6, hq6, hf⟩ := ob_s hf
        refine z_roVN X Z (c_X2_digit l D cI cR b0 b1 b_codes b_length x2 hq6) (zw_X3_29 X.2.1 X.1.2.2.2.2 ⟨Nat.le_of_ble_eq_true rfl, Nat.le_of_ble_eq_true rfl⟩) 2 2 rfl rfl rfl [1] [0] (by decide : ([1] ++ [0] : List Nat).Perm (List.range 2)) rfl rfl hl.1 rfl (Nat.le_of_ble_eq_true rfl) dX3_learn_42 ⟨Nat.le_of_ble_eq_true rfl, Nat.le_of_ble_eq_true rfl⟩ (fun H locs Z => ?_)
        have Z : zW D A s [[(a0, .inr (3, [.ref a1, .int a_length]))], [(a1, .inl (cI, 8, .inl a_heights))], w_X2 cI cR b0 b1 b_codes b_length] _ _ := Z.eq rfl
        obtain ⟨q7, hq7, hf⟩ := ob_s hf
        refine z_callSN X Z (c_X7_setAt l D cI cR a1 8 a_heights x2 q6 hq7) (zw_X3_33 X.2.1 X.1.2.2.2.2 ⟨Nat.le_of_ble_eq_true rfl, Nat.le_of_ble_eq_true rfl⟩) [1] [0, 2] [[(a0, .inr (3, [.ref a1, .int a_length]))], [(a1, .inl (cI, 8, .inl q7))], w_X2 cI cR b0 b1 b_codes b_length] (by decide : ([1] ++ [0, 2] : List Nat).Perm (List.range 3)) rfl rfl rfl rfl rfl hl.1 rfl (Nat.le_of_ble_eq_true rfl) dX3_learn_45 ⟨Nat.le_of_ble_eq_true rfl, Nat.le_of_ble_eq_true rfl⟩ (fun H locs Z => ?_)
        refine lv_iinc (v := x2 + (1 : Int32)) (lv' := [(2, .int (x2 + (1 : Int32))), (0, .ref a0), (1, .ref b0)]) hx hb dX3_learn_48 hl (k := 2) rfl rfl (by decide) rfl (fun ls hl => ?_)
        refine lv_goto (tgt := 17) hx hb dX3_learn_51 (by decide) ?_
        have Z : zW D A s [w_X3 cI cR a0 a1 q7 a_length, w_X2 cI cR b0 b1 b_codes b_length] _ _ := Z.eq rfl
        exact ih hf Z (lv_sub hl [1, 2, 0] rfl)
      · have hf := it_t c5 hf
        refine lv_iconst (v := 0) hx hb dX3_learn_33 (by decide) ?_
        have hR := so_s hf
        subst hR
        refine z_zret X hr hlocks (Or.inl rfl) ?_ dX3_learn_34
        exact Z.eq rfl

def f_X3_learn (a_heights : (Nat → Int32)) (a_length : Int32) (b_codes : (Nat → Int32)) (b_length : Int32) : Option (Int32 × (Nat → Int32) × Int32) := (f_X7_isWithin b_length (1 : Int32) (8 : Int32)).bind (fun q1 => if q1 = 0 then (some ((0 : Int32), a_heights, a_length)) else (f_X3_learn_L17 a_length b_codes b_length zF (0 : Int32) a_heights))
set_option maxHeartbeats 4000000 in
set_option maxRecDepth 100000 in
theorem c_X3_learn (l : Launch) (D : va_G) (cI cR : ClassId) (a0 : Nat) (a1 : Nat) (b0 : Nat) (b1 : Nat) (a_heights : (Nat → Int32)) (a_length : Int32) (b_codes : (Nat → Int32)) (b_length : Int32) {R : Int32 × (Nat → Int32) × Int32} (hf : f_X3_learn a_heights a_length b_codes b_length = some R) : zM l D cI cR yX3_learn cX3_learn 3 (some .boolean) 3 63 [.ref a0, .ref b0] [w_X3 cI cR a0 a1 a_heights a_length, w_X2 cI cR b0 b1 b_codes b_length] (some (.int R.1)) [w_X3 cI cR a0 a1 R.2.1 R.2.2, w_X2 cI cR b0 b1 b_codes b_length] := by
  refine z_of (own := RX3) rfl (by decide) (Nat.le_of_ble_eq_true rfl) ?_
  intro p e s m args below meth c A ls X hr hlocks Z hl
  have hx := X.1.1
  have hb := X.1.2.1
  have Z : zW D A s [w_X3 cI cR a0 a1 a_heights a_length, w_X2 cI cR b0 b1 b_codes b_length] s.heap [] := Z
  have hl : lv_has ls 3 [(0, .ref a0), (1, .ref b0)] := hl
  refine lv_aload_n hx hb dX3_learn_0 rfl (lv_at hl 1 rfl) ?_
  refine zg_X3_15 X Z 2 rfl rfl dX3_learn_1 ?_
  refine lv_iconst (v := 1) hx hb dX3_learn_4 (by decide) ?_
  refine lv_bipush (v := 8) hx hb dX3_learn_5 (by decide) ?_
  obtain ⟨q1, hq1, hf⟩ := ob_s hf
  refine z_roSN X Z (c_X7_isWithin l D cI cR   b_length (1 : Int32) (8 : Int32) hq1) (zw_X3_21 X.2.1 X.1.2.2.2.2 ⟨Nat.le_of_ble_eq_true rfl, Nat.le_of_ble_eq_true rfl⟩) [] [0, 1] (by decide : ([] ++ [0, 1] : List Nat).Perm (List.range 2)) rfl rfl hl.1 rfl (Nat.le_of_ble_eq_true rfl) dX3_learn_7 ⟨Nat.le_of_ble_eq_true rfl, Nat.le_of_ble_eq_true rfl⟩ (fun H locs Z => ?_)
  refine lv_if_ne (tgt := 15) hx hb dX3_learn_10 (by decide) (fun c2 => ?_) (fun c2 => ?_)
  · have hf := it_f c2 hf
    refine lv_iconst (v := 0) hx hb dX3_learn_15 (by decide) ?_
    refine lv_istore_n (lv' := [(2, .int (0 : Int32)), (0, .ref a0), (1, .ref b0)]) hx hb dX3_learn_16 rfl hl (by decide) rfl (fun ls hl => ?_)
    exact w_X3_learn_L17 X hr hlocks _ hf Z (lv_sub hl [1, 2, 0] rfl)
  · have hf := it_t c2 hf
    refine lv_iconst (v := 0) hx hb dX3_learn_13 (by decide) ?_
    have hR := so_s hf
    subst hR
    refine z_zret X hr hlocks (Or.inl rfl) ?_ dX3_learn_14
    exact Z.eq rfl
def f_X3_heightAt (a_heights : (Nat → Int32)) (a_length : Int32) (p1 : Int32) : Option (Int32) := (f_X7_leftOver p1 a_length).bind (fun q1 => (f_X7_valueAt 8 a_heights q1).bind (fun q2 => some q2))
set_option maxHeartbeats 4000000 in
set_option maxRecDepth 100000 in
theorem c_X3_heightAt (l : Launch) (D : va_G) (cI cR : ClassId) (a0 : Nat) (a1 : Nat) (a_heights : (Nat → Int32)) (a_length : Int32) (p1 : Int32) {R : Int32} (hf : f_X3_heightAt a_heights a_length p1 = some R) : zM l D cI cR yX3_heightAt cX3_heightAt 2 (some .int) 2 43 [.ref a0, .int p1] [w_X3 cI cR a0 a1 a_heights a_length] (some (.int R)) [w_X3 cI cR a0 a1 a_heights a_length] := by
  refine z_of (own := RX3) rfl (by decide) (Nat.le_of_ble_eq_true rfl) ?_
  intro p e s m args below meth c A ls X hr hlocks Z hl
  have hx := X.1.1
  have hb := X.1.2.1
  have Z : zW D A s [w_X3 cI cR a0 a1 a_heights a_length] s.heap [] := Z
  have hl : lv_has ls 2 [(0, .ref a0), (1, .int p1)] := hl
  refine lv_aload_n hx hb dX3_heightAt_0 rfl (lv_at hl 0 rfl) ?_
  refine zg_X3_9 X Z 0 rfl rfl dX3_heightAt_1 ?_
  refine lv_iload_n hx hb dX3_heightAt_4 rfl (lv_at hl 1 rfl) ?_
  refine lv_aload_n hx hb dX3_heightAt_5 rfl (lv_at hl 0 rfl) ?_
  refine zg_X3_37 X Z 0 rfl rfl dX3_heightAt_6 ?_
  obtain ⟨q1, hq1, hf⟩ := ob_s hf
  refine z_roSN X Z (c_X7_leftOver l D cI cR   p1 a_length hq1) (zw_X3_38 X.2.1 X.1.2.2.2.2 ⟨Nat.le_of_ble_eq_true rfl, Nat.le_of_ble_eq_true rfl⟩) [] [0] (by decide : ([] ++ [0] : List Nat).Perm (List.range 1)) rfl rfl hl.1 rfl (Nat.le_of_ble_eq_true rfl) dX3_heightAt_9 ⟨Nat.le_of_ble_eq_true rfl, Nat.le_of_ble_eq_true rfl⟩ (fun H locs Z => ?_)
  have Z : zW D A s [[(a0, .inr (3, [.ref a1, .int a_length]))], [(a1, .inl (cI, 8, .inl a_heights))]] _ _ := Z.eq rfl
  obtain ⟨q2, hq2, hf⟩ := ob_s hf
  refine z_roSN X Z (c_X7_valueAt l D cI cR a1 8 a_heights q1 hq2) (zw_X3_42 X.2.1 X.1.2.2.2.2 ⟨Nat.le_of_ble_eq_true rfl, Nat.le_of_ble_eq_true rfl⟩) [1] [0] (by decide : ([1] ++ [0] : List Nat).Perm (List.range 2)) rfl rfl hl.1 rfl (Nat.le_of_ble_eq_true rfl) dX3_heightAt_12 ⟨Nat.le_of_ble_eq_true rfl, Nat.le_of_ble_eq_true rfl⟩ (fun H locs Z => ?_)
  have hR := so_s hf
  subst hR
  refine z_iret X hr hlocks ?_ dX3_heightAt_15
  exact Z.eq rfl
def f_X3_landing (a_heights : (Nat → Int32)) (a_length : Int32) (p1 : Int32) : Option (Int32) := (f_X3_heightAt a_heights a_length p1).bind (fun q1 => (f_X7_leftOver (p1 + q1) a_length).bind (fun q2 => some q2))
set_option maxHeartbeats 4000000 in
set_option maxRecDepth 100000 in
theorem c_X3_landing (l : Launch) (D : va_G) (cI cR : ClassId) (a0 : Nat) (a1 : Nat) (a_heights : (Nat → Int32)) (a_length : Int32) (p1 : Int32) {R : Int32} (hf : f_X3_landing a_heights a_length p1 = some R) : zM l D cI cR yX3_landing cX3_landing 2 (some .int) 3 64 [.ref a0, .int p1] [w_X3 cI cR a0 a1 a_heights a_length] (some (.int R)) [w_X3 cI cR a0 a1 a_heights a_length] := by
  refine z_of (own := RX3) rfl (by decide) (Nat.le_of_ble_eq_true rfl) ?_
  intro p e s m args below meth c A ls X hr hlocks Z hl
  have hx := X.1.1
  have hb := X.1.2.1
  have Z : zW D A s [w_X3 cI cR a0 a1 a_heights a_length] s.heap [] := Z
  have hl : lv_has ls 2 [(0, .ref a0), (1, .int p1)] := hl
  refine lv_iload_n hx hb dX3_landing_0 rfl (lv_at hl 1 rfl) ?_
  refine lv_aload_n hx hb dX3_landing_1 rfl (lv_at hl 0 rfl) ?_
  refine lv_iload_n hx hb dX3_landing_2 rfl (lv_at hl 1 rfl) ?_
  obtain ⟨q1, hq1, hf⟩ := ob_s hf
  refine z_roV X Z (c_X3_heightAt l D cI cR a0 a1 a_heights a_length p1 hq1) (zw_X3_46 X.1.2.2.2.2 ⟨Nat.le_of_ble_eq_true rfl, Nat.le_of_ble_eq_true rfl⟩) 0 3 rfl rfl rfl [0] [] (by decide : ([0] ++ [] : List Nat).Perm (List.range 1)) rfl rfl hl.1 rfl (Nat.le_of_ble_eq_true rfl) dX3_landing_3 ⟨Nat.le_of_ble_eq_true rfl, Nat.le_of_ble_eq_true rfl⟩ (fun H locs Z => ?_)
  refine lv_iadd hx hb dX3_landing_6 ?_
  refine lv_aload_n hx hb dX3_landing_7 rfl (lv_at hl 0 rfl) ?_
  refine zg_X3_37 X Z 0 rfl rfl dX3_landing_8 ?_
  obtain ⟨q2, hq2, hf⟩ := ob_s hf
  refine z_roSN X Z (c_X7_leftOver l D cI cR   (p1 + q1) a_length hq2) (zw_X3_38 X.2.1 X.1.2.2.2.2 ⟨Nat.le_of_ble_eq_true rfl, Nat.le_of_ble_eq_true rfl⟩) [] [0] (by decide : ([] ++ [0] : List Nat).Perm (List.range 1)) rfl rfl hl.1 rfl (Nat.le_of_ble_eq_true rfl) dX3_landing_11 ⟨Nat.le_of_ble_eq_true rfl, Nat.le_of_ble_eq_true rfl⟩ (fun H locs Z => ?_)
  have hR := so_s hf
  subst hR
  refine z_iret X hr hlocks ?_ dX3_landing_14
  exact Z.eq rfl
def f_X3_isSound_L4 (a_heights : (Nat → Int32)) (a_length : Int32) : Nat → Int32 → Int32 → Option (Int32)
  | 0, _, _ => none
  | n + 1, x1, x2 => if a_length ≤ x2 then (if x1 = (((1 : Int32) <<< (a_length &&& 31)) - (1 : Int32)) then (some (1 : Int32)) else (some (0 : Int32))) else ((f_X3_landing a_heights a_length x2).bind (fun q3 => f_X3_isSound_L4 a_heights a_length n (x1 ||| ((1 : Int32) <<< (q3 &&& 31))) (x2 + (1 : Int32)) ))
set_option maxHeartbeats 4000000 in
set_option maxRecDepth 100000 in
theorem w_X3_isSound_L4 {p : Program} {l : Launch} {e : Env} {s : State} {m : MethodId} {args : Array Value} {below : List Frame} {meth : Method} {c : Code} {D : va_G} {cI cR : ClassId} {A : Nat → Prop} {a0 : Nat} {a1 : Nat} {a_heights : (Nat → Int32)} {a_length : Int32} {R : Int32} (X : zX p s m c cX3_isSound 3 args RX3 D cI cR A) (hr : meth.sig.returnType = (some .boolean)) (hlocks : meth.locks = false) : ∀ (n : Nat)  {x1 : Int32} {x2 : Int32} {H : Heap} {locs : List Loc} {ls : Array Slot}, f_X3_isSound_L4 a_heights a_length n x1 x2 = some R → zW D A s [w_X3 cI cR a0 a1 a_heights a_length] H locs → lv_has ls 3 [(0, .ref a0), (1, .int x1), (2, .int x2)] → W p l e ({ frames := 4, cells := 0, slots := 0, locals := 85 } : Room) s m args below meth c H locs 0 0 (zE D A below s args (some (.int R)) [w_X3 cI cR a0 a1 a_heights a_length]) (F0 m 4 ls []) := by
  have hx := X.1.1
  have hb := X.1.2.1
  intro n
  induction n with
  | zero =>
    intro x1 x2 H locs ls hf
    have hf : none = some R := hf
    cases hf
  | succ n ih =>
    intro x1 x2 H locs ls hf Z hl
    refine lv_iload_n hx hb dX3_isSound_4 rfl (lv_at hl 2 rfl) ?_
    refine lv_aload_n hx hb dX3_isSound_5 rfl (lv_at hl 0 rfl) ?_
    refine zg_X3_37 X Z 0 rfl rfl dX3_isSound_6 ?_
    refine lv_icmp_ge (tgt := 28) hx hb dX3_isSound_9 (by decide) (fun c1 => ?_) (fun c1 => ?_)
    · have hf := it_t c1 hf
      refine lv_iload_n hx hb dX3_isSound_28 rfl (lv_at hl 1 rfl) ?_
      refine lv_iconst (v := 1) hx hb dX3_isSound_29 (by decide) ?_
      refine lv_aload_n hx hb dX3_isSound_30 rfl (lv_at hl 0 rfl) ?_
      refine zg_X3_37 X Z 0 rfl rfl dX3_isSound_31 ?_
      refine lv_ishl hx hb dX3_isSound_34 ?_
      refine lv_iconst (v := 1) hx hb dX3_isSound_35 (by decide) ?_
      refine lv_isub hx hb dX3_isSound_36 ?_
      refine lv_icmp_ne (tgt := 44) hx hb dX3_isSound_37 (by decide) (fun c2 => ?_) (fun c2 => ?_)
      · have hf := it_f c2 hf
        refine lv_iconst (v := 0) hx hb dX3_isSound_44 (by decide) ?_
        have hR := so_s hf
        subst hR
        refine z_zret X hr hlocks (Or.inl rfl) ?_ dX3_isSound_45
        exact Z.eq rfl
      · have hf := it_t c2 hf
        refine lv_iconst (v := 1) hx hb dX3_isSound_40 (by decide) ?_
        refine lv_goto (tgt := 45) hx hb dX3_isSound_41 (by decide) ?_
        have hR := so_s hf
        subst hR
        refine z_zret X hr hlocks (Or.inr rfl) ?_ dX3_isSound_45
        exact Z.eq rfl
    · have hf := it_f c1 hf
      refine lv_iload_n hx hb dX3_isSound_12 rfl (lv_at hl 1 rfl) ?_
      refine lv_iconst (v := 1) hx hb dX3_isSound_13 (by decide) ?_
      refine lv_aload_n hx hb dX3_isSound_14 rfl (lv_at hl 0 rfl) ?_
      refine lv_iload_n hx hb dX3_isSound_15 rfl (lv_at hl 2 rfl) ?_
      obtain ⟨q3, hq3, hf⟩ := ob_s hf
      refine z_roV X Z (c_X3_landing l D cI cR a0 a1 a_heights a_length x2 hq3) (zw_X3_49 X.1.2.2.2.2 ⟨Nat.le_of_ble_eq_true rfl, Nat.le_of_ble_eq_true rfl⟩) 0 3 rfl rfl rfl [0] [] (by decide : ([0] ++ [] : List Nat).Perm (List.range 1)) rfl rfl hl.1 rfl (Nat.le_of_ble_eq_true rfl) dX3_isSound_16 ⟨Nat.le_of_ble_eq_true rfl, Nat.le_of_ble_eq_true rfl⟩ (fun H locs Z => ?_)
      refine lv_ishl hx hb dX3_isSound_19 ?_
      refine lv_ior hx hb dX3_isSound_20 ?_
      refine lv_istore_n (lv' := [(1, .int (x1 ||| ((1 : Int32) <<< (q3 &&& 31)))), (0, .ref a0), (2, .int x2)]) hx hb dX3_isSound_21 rfl hl (by decide) rfl (fun ls hl => ?_)
      refine lv_iinc (v := x2 + (1 : Int32)) (lv' := [(2, .int (x2 + (1 : Int32))), (1, .int (x1 ||| ((1 : Int32) <<< (q3 &&& 31)))), (0, .ref a0)]) hx hb dX3_isSound_22 hl (k := 2) rfl rfl (by decide) rfl (fun ls hl => ?_)
      refine lv_goto (tgt := 4) hx hb dX3_isSound_25 (by decide) ?_
      exact ih hf Z (lv_sub hl [2, 1, 0] rfl)

def f_X3_isSound (a_heights : (Nat → Int32)) (a_length : Int32) : Option (Int32) := f_X3_isSound_L4 a_heights a_length zF (0 : Int32) (0 : Int32)
set_option maxHeartbeats 4000000 in
set_option maxRecDepth 100000 in
theorem c_X3_isSound (l : Launch) (D : va_G) (cI cR : ClassId) (a0 : Nat) (a1 : Nat) (a_heights : (Nat → Int32)) (a_length : Int32) {R : Int32} (hf : f_X3_isSound a_heights a_length = some R) : zM l D cI cR yX3_isSound cX3_isSound 3 (some .boolean) 4 85 [.ref a0] [w_X3 cI cR a0 a1 a_heights a_length] (some (.int R)) [w_X3 cI cR a0 a1 a_heights a_length] := by
  refine z_of (own := RX3) rfl (by decide) (Nat.le_of_ble_eq_true rfl) ?_
  intro p e s m args below meth c A ls X hr hlocks Z hl
  have hx := X.1.1
  have hb := X.1.2.1
  have Z : zW D A s [w_X3 cI cR a0 a1 a_heights a_length] s.heap [] := Z
  have hl : lv_has ls 3 [(0, .ref a0)] := hl
  refine lv_iconst (v := 0) hx hb dX3_isSound_0 (by decide) ?_
  refine lv_istore_n (lv' := [(1, .int (0 : Int32)), (0, .ref a0)]) hx hb dX3_isSound_1 rfl hl (by decide) rfl (fun ls hl => ?_)
  refine lv_iconst (v := 0) hx hb dX3_isSound_2 (by decide) ?_
  refine lv_istore_n (lv' := [(2, .int (0 : Int32)), (1, .int (0 : Int32)), (0, .ref a0)]) hx hb dX3_isSound_3 rfl hl (by decide) rfl (fun ls hl => ?_)
  exact w_X3_isSound_L4 X hr hlocks _ hf Z (lv_sub hl [2, 1, 0] rfl)
def f_X3_clubs_L4 (a_heights : (Nat → Int32)) (a_length : Int32) : Nat → Int32 → Int32 → Option (Int32)
  | 0, _, _ => none
  | n + 1, x1, x2 => if a_length ≤ x2 then (if a_length ≤ 0 then (some (0 : Int32)) else (if a_length = 0 then none else (some (x1 / a_length)))) else ((f_X3_heightAt a_heights a_length x2).bind (fun q4 => f_X3_clubs_L4 a_heights a_length n (x1 + q4) (x2 + (1 : Int32)) ))
set_option maxHeartbeats 4000000 in
set_option maxRecDepth 100000 in
theorem w_X3_clubs_L4 {p : Program} {l : Launch} {e : Env} {s : State} {m : MethodId} {args : Array Value} {below : List Frame} {meth : Method} {c : Code} {D : va_G} {cI cR : ClassId} {A : Nat → Prop} {a0 : Nat} {a1 : Nat} {a_heights : (Nat → Int32)} {a_length : Int32} {R : Int32} (X : zX p s m c cX3_clubs 3 args RX3 D cI cR A) (hr : meth.sig.returnType = (some .int)) (hlocks : meth.locks = false) : ∀ (n : Nat)  {x1 : Int32} {x2 : Int32} {H : Heap} {locs : List Loc} {ls : Array Slot}, f_X3_clubs_L4 a_heights a_length n x1 x2 = some R → zW D A s [w_X3 cI cR a0 a1 a_heights a_length] H locs → lv_has ls 3 [(0, .ref a0), (1, .int x1), (2, .int x2)] → W p l e ({ frames := 3, cells := 0, slots := 0, locals := 64 } : Room) s m args below meth c H locs 0 0 (zE D A below s args (some (.int R)) [w_X3 cI cR a0 a1 a_heights a_length]) (F0 m 4 ls []) := by
  have hx := X.1.1
  have hb := X.1.2.1
  intro n
  induction n with
  | zero =>
    intro x1 x2 H locs ls hf
    have hf : none = some R := hf
    cases hf
  | succ n ih =>
    intro x1 x2 H locs ls hf Z hl
    refine lv_iload_n hx hb dX3_clubs_4 rfl (lv_at hl 2 rfl) ?_
    refine lv_aload_n hx hb dX3_clubs_5 rfl (lv_at hl 0 rfl) ?_
    refine zg_X3_37 X Z 0 rfl rfl dX3_clubs_6 ?_
    refine lv_icmp_ge (tgt := 26) hx hb dX3_clubs_9 (by decide) (fun c1 => ?_) (fun c1 => ?_)
    · have hf := it_t c1 hf
      refine lv_aload_n hx hb dX3_clubs_26 rfl (lv_at hl 0 rfl) ?_
      refine zg_X3_37 X Z 0 rfl rfl dX3_clubs_27 ?_
      refine lv_if_le (tgt := 42) hx hb dX3_clubs_30 (by decide) (fun c2 => ?_) (fun c2 => ?_)
      · have hf := it_t c2 hf
        refine lv_iconst (v := 0) hx hb dX3_clubs_42 (by decide) ?_
        have hR := so_s hf
        subst hR
        refine z_iret X hr hlocks ?_ dX3_clubs_43
        exact Z.eq rfl
      · have hf := it_f c2 hf
        refine lv_iload_n hx hb dX3_clubs_33 rfl (lv_at hl 1 rfl) ?_
        refine lv_aload_n hx hb dX3_clubs_34 rfl (lv_at hl 0 rfl) ?_
        refine zg_X3_37 X Z 0 rfl rfl dX3_clubs_35 ?_
        obtain ⟨i3, hf⟩ := in_s hf
        refine lv_idiv hx hb dX3_clubs_38 i3 ?_
        refine lv_goto (tgt := 43) hx hb dX3_clubs_39 (by decide) ?_
        have hR := so_s hf
        subst hR
        refine z_iret X hr hlocks ?_ dX3_clubs_43
        exact Z.eq rfl
    · have hf := it_f c1 hf
      refine lv_iload_n hx hb dX3_clubs_12 rfl (lv_at hl 1 rfl) ?_
      refine lv_aload_n hx hb dX3_clubs_13 rfl (lv_at hl 0 rfl) ?_
      refine lv_iload_n hx hb dX3_clubs_14 rfl (lv_at hl 2 rfl) ?_
      obtain ⟨q4, hq4, hf⟩ := ob_s hf
      refine z_roV X Z (c_X3_heightAt l D cI cR a0 a1 a_heights a_length x2 hq4) (zw_X3_46 X.1.2.2.2.2 ⟨Nat.le_of_ble_eq_true rfl, Nat.le_of_ble_eq_true rfl⟩) 0 3 rfl rfl rfl [0] [] (by decide : ([0] ++ [] : List Nat).Perm (List.range 1)) rfl rfl hl.1 rfl (Nat.le_of_ble_eq_true rfl) dX3_clubs_15 ⟨Nat.le_of_ble_eq_true rfl, Nat.le_of_ble_eq_true rfl⟩ (fun H locs Z => ?_)
      refine lv_iadd hx hb dX3_clubs_18 ?_
      refine lv_istore_n (lv' := [(1, .int (x1 + q4)), (0, .ref a0), (2, .int x2)]) hx hb dX3_clubs_19 rfl hl (by decide) rfl (fun ls hl => ?_)
      refine lv_iinc (v := x2 + (1 : Int32)) (lv' := [(2, .int (x2 + (1 : Int32))), (1, .int (x1 + q4)), (0, .ref a0)]) hx hb dX3_clubs_20 hl (k := 2) rfl rfl (by decide) rfl (fun ls hl => ?_)
      refine lv_goto (tgt := 4) hx hb dX3_clubs_23 (by decide) ?_
      exact ih hf Z (lv_sub hl [2, 1, 0] rfl)

def f_X3_clubs (a_heights : (Nat → Int32)) (a_length : Int32) : Option (Int32) := f_X3_clubs_L4 a_heights a_length zF (0 : Int32) (0 : Int32)
set_option maxHeartbeats 4000000 in
set_option maxRecDepth 100000 in
theorem c_X3_clubs (l : Launch) (D : va_G) (cI cR : ClassId) (a0 : Nat) (a1 : Nat) (a_heights : (Nat → Int32)) (a_length : Int32) {R : Int32} (hf : f_X3_clubs a_heights a_length = some R) : zM l D cI cR yX3_clubs cX3_clubs 3 (some .int) 3 64 [.ref a0] [w_X3 cI cR a0 a1 a_heights a_length] (some (.int R)) [w_X3 cI cR a0 a1 a_heights a_length] := by
  refine z_of (own := RX3) rfl (by decide) (Nat.le_of_ble_eq_true rfl) ?_
  intro p e s m args below meth c A ls X hr hlocks Z hl
  have hx := X.1.1
  have hb := X.1.2.1
  have Z : zW D A s [w_X3 cI cR a0 a1 a_heights a_length] s.heap [] := Z
  have hl : lv_has ls 3 [(0, .ref a0)] := hl
  refine lv_iconst (v := 0) hx hb dX3_clubs_0 (by decide) ?_
  refine lv_istore_n (lv' := [(1, .int (0 : Int32)), (0, .ref a0)]) hx hb dX3_clubs_1 rfl hl (by decide) rfl (fun ls hl => ?_)
  refine lv_iconst (v := 0) hx hb dX3_clubs_2 (by decide) ?_
  refine lv_istore_n (lv' := [(2, .int (0 : Int32)), (1, .int (0 : Int32)), (0, .ref a0)]) hx hb dX3_clubs_3 rfl hl (by decide) rfl (fun ls hl => ?_)
  exact w_X3_clubs_L4 X hr hlocks _ hf Z (lv_sub hl [2, 1, 0] rfl)
def f_X3_startState_L5 (a_heights : (Nat → Int32)) (a_length : Int32) : Nat → Int32 → Int32 → Option (Int32)
  | 0, _, _ => none
  | n + 1, x1, x2 => if 0 ≤ x2 then (some x1) else ((f_X3_heightAt a_heights a_length x2).bind (fun q2 => if (x2 + q2) < 0 then (f_X3_startState_L5 a_heights a_length n x1 (x2 + (1 : Int32)) ) else (f_X3_startState_L5 a_heights a_length n (x1 ||| ((1 : Int32) <<< ((x2 + q2) &&& 31))) (x2 + (1 : Int32)) )))
set_option maxHeartbeats 4000000 in
set_option maxRecDepth 100000 in
theorem w_X3_startState_L5 {p : Program} {l : Launch} {e : Env} {s : State} {m : MethodId} {args : Array Value} {below : List Frame} {meth : Method} {c : Code} {D : va_G} {cI cR : ClassId} {A : Nat → Prop} {a0 : Nat} {a1 : Nat} {a_heights : (Nat → Int32)} {a_length : Int32} {R : Int32} (X : zX p s m c cX3_startState 4 args RX3 D cI cR A) (hr : meth.sig.returnType = (some .int)) (hlocks : meth.locks = false) : ∀ (n : Nat)  {x1 : Int32} {x2 : Int32} {H : Heap} {locs : List Loc} {ls : Array Slot}, f_X3_startState_L5 a_heights a_length n x1 x2 = some R → zW D A s [w_X3 cI cR a0 a1 a_heights a_length] H locs → lv_has ls 4 [(0, .ref a0), (1, .int x1), (2, .int x2)] → W p l e ({ frames := 3, cells := 0, slots := 0, locals := 64 } : Room) s m args below meth c H locs 0 0 (zE D A below s args (some (.int R)) [w_X3 cI cR a0 a1 a_heights a_length]) (F0 m 5 ls []) := by
  have hx := X.1.1
  have hb := X.1.2.1
  intro n
  induction n with
  | zero =>
    intro x1 x2 H locs ls hf
    have hf : none = some R := hf
    cases hf
  | succ n ih =>
    intro x1 x2 H locs ls hf Z hl
    refine lv_iload_n hx hb dX3_startState_5 rfl (lv_at hl 2 rfl) ?_
    refine lv_if_ge (tgt := 33) hx hb dX3_startState_6 (by decide) (fun c1 => ?_) (fun c1 => ?_)
    · have hf := it_t c1 hf
      refine lv_iload_n hx hb dX3_startState_33 rfl (lv_at hl 1 rfl) ?_
      have hR := so_s hf
      subst hR
      refine z_iret X hr hlocks ?_ dX3_startState_34
      exact Z.eq rfl
    · have hf := it_f c1 hf
      refine lv_iload_n hx hb dX3_startState_9 rfl (lv_at hl 2 rfl) ?_
      refine lv_aload_n hx hb dX3_startState_10 rfl (lv_at hl 0 rfl) ?_
      refine lv_iload_n hx hb dX3_startState_11 rfl (lv_at hl 2 rfl) ?_
      obtain ⟨q2, hq2, hf⟩ := ob_s hf
      refine z_roV X Z (c_X3_heightAt l D cI cR a0 a1 a_heights a_length x2 hq2) (zw_X3_46 X.1.2.2.2.2 ⟨Nat.le_of_ble_eq_true rfl, Nat.le_of_ble_eq_true rfl⟩) 0 3 rfl rfl rfl [0] [] (by decide : ([0] ++ [] : List Nat).Perm (List.range 1)) rfl rfl hl.1 rfl (Nat.le_of_ble_eq_true rfl) dX3_startState_12 ⟨Nat.le_of_ble_eq_true rfl, Nat.le_of_ble_eq_true rfl⟩ (fun H locs Z => ?_)
      refine lv_iadd hx hb dX3_startState_15 ?_
      refine lv_istore_n (lv' := [(3, .int (x2 + q2)), (0, .ref a0), (1, .int x1), (2, .int x2)]) hx hb dX3_startState_16 rfl hl (by decide) rfl (fun ls hl => ?_)
      refine lv_iload_n hx hb dX3_startState_17 rfl (lv_at hl 0 rfl) ?_
      refine lv_if_lt (tgt := 27) hx hb dX3_startState_18 (by decide) (fun c3 => ?_) (fun c3 => ?_)
      · have hf := it_t c3 hf
        refine lv_iinc (v := x2 + (1 : Int32)) (lv' := [(2, .int (x2 + (1 : Int32))), (3, .int (x2 + q2)), (0, .ref a0), (1, .int x1)]) hx hb dX3_startState_27 hl (k := 3) rfl rfl (by decide) rfl (fun ls hl => ?_)
        refine lv_goto (tgt := 5) hx hb dX3_startState_30 (by decide) ?_
        exact ih hf Z (lv_sub hl [2, 3, 0] rfl)
      · have hf := it_f c3 hf
        refine lv_iload_n hx hb dX3_startState_21 rfl (lv_at hl 2 rfl) ?_
        refine lv_iconst (v := 1) hx hb dX3_startState_22 (by decide) ?_
        refine lv_iload_n hx hb dX3_startState_23 rfl (lv_at hl 0 rfl) ?_
        refine lv_ishl hx hb dX3_startState_24 ?_
        refine lv_ior hx hb dX3_startState_25 ?_
        refine lv_istore_n (lv' := [(1, .int (x1 ||| ((1 : Int32) <<< ((x2 + q2) &&& 31)))), (3, .int (x2 + q2)), (0, .ref a0), (2, .int x2)]) hx hb dX3_startState_26 rfl hl (by decide) rfl (fun ls hl => ?_)
        refine lv_iinc (v := x2 + (1 : Int32)) (lv' := [(2, .int (x2 + (1 : Int32))), (1, .int (x1 ||| ((1 : Int32) <<< ((x2 + q2) &&& 31)))), (3, .int (x2 + q2)), (0, .ref a0)]) hx hb dX3_startState_27 hl (k := 3) rfl rfl (by decide) rfl (fun ls hl => ?_)
        refine lv_goto (tgt := 5) hx hb dX3_startState_30 (by decide) ?_
        exact ih hf Z (lv_sub hl [3, 1, 0] rfl)

def f_X3_startState (a_heights : (Nat → Int32)) (a_length : Int32) : Option (Int32) := f_X3_startState_L5 a_heights a_length zF (0 : Int32) (-7 : Int32)
set_option maxHeartbeats 4000000 in
set_option maxRecDepth 100000 in
theorem c_X3_startState (l : Launch) (D : va_G) (cI cR : ClassId) (a0 : Nat) (a1 : Nat) (a_heights : (Nat → Int32)) (a_length : Int32) {R : Int32} (hf : f_X3_startState a_heights a_length = some R) : zM l D cI cR yX3_startState cX3_startState 4 (some .int) 3 64 [.ref a0] [w_X3 cI cR a0 a1 a_heights a_length] (some (.int R)) [w_X3 cI cR a0 a1 a_heights a_length] := by
  refine z_of (own := RX3) rfl (by decide) (Nat.le_of_ble_eq_true rfl) ?_
  intro p e s m args below meth c A ls X hr hlocks Z hl
  have hx := X.1.1
  have hb := X.1.2.1
  have Z : zW D A s [w_X3 cI cR a0 a1 a_heights a_length] s.heap [] := Z
  have hl : lv_has ls 4 [(0, .ref a0)] := hl
  refine lv_iconst (v := 0) hx hb dX3_startState_0 (by decide) ?_
  refine lv_istore_n (lv' := [(1, .int (0 : Int32)), (0, .ref a0)]) hx hb dX3_startState_1 rfl hl (by decide) rfl (fun ls hl => ?_)
  refine lv_bipush (v := -7) hx hb dX3_startState_2 (by decide) ?_
  refine lv_istore_n (lv' := [(2, .int (-7 : Int32)), (1, .int (0 : Int32)), (0, .ref a0)]) hx hb dX3_startState_4 rfl hl (by decide) rfl (fun ls hl => ?_)
  exact w_X3_startState_L5 X hr hlocks _ hf Z (lv_sub hl [2, 1, 0] rfl)
def f_X3_orbitThrough_L17 (a_heights : (Nat → Int32)) (a_length : Int32) : Nat → Int32 → Int32 → Int32 → Option (Int32)
  | 0, _, _, _ => none
  | n + 1, x2, x3, x4 => if a_length ≤ x4 then (some x2) else ((f_X3_landing a_heights a_length x3).bind (fun q4 => f_X3_orbitThrough_L17 a_heights a_length n (x2 ||| ((1 : Int32) <<< (x3 &&& 31))) q4 (x4 + (1 : Int32)) ))
set_option maxHeartbeats 4000000 in
set_option maxRecDepth 100000 in
theorem w_X3_orbitThrough_L17 {p : Program} {l : Launch} {e : Env} {s : State} {m : MethodId} {args : Array Value} {below : List Frame} {meth : Method} {c : Code} {D : va_G} {cI cR : ClassId} {A : Nat → Prop} {a0 : Nat} {a1 : Nat} {a_heights : (Nat → Int32)} {a_length : Int32} {R : Int32} (X : zX p s m c cX3_orbitThrough 5 args RX3 D cI cR A) (hr : meth.sig.returnType = (some .int)) (hlocks : meth.locks = false) : ∀ (n : Nat)  {x2 : Int32} {x3 : Int32} {x4 : Int32} {H : Heap} {locs : List Loc} {ls : Array Slot}, f_X3_orbitThrough_L17 a_heights a_length n x2 x3 x4 = some R → zW D A s [w_X3 cI cR a0 a1 a_heights a_length] H locs → lv_has ls 5 [(0, .ref a0), (2, .int x2), (3, .int x3), (4, .int x4)] → W p l e ({ frames := 4, cells := 0, slots := 0, locals := 85 } : Room) s m args below meth c H locs 0 0 (zE D A below s args (some (.int R)) [w_X3 cI cR a0 a1 a_heights a_length]) (F0 m 17 ls []) := by
  have hx := X.1.1
  have hb := X.1.2.1
  intro n
  induction n with
  | zero =>
    intro x2 x3 x4 H locs ls hf
    have hf : none = some R := hf
    cases hf
  | succ n ih =>
    intro x2 x3 x4 H locs ls hf Z hl
    refine lv_iload hx hb dX3_orbitThrough_17 (lv_at hl 3 rfl) ?_
    refine lv_aload_n hx hb dX3_orbitThrough_19 rfl (lv_at hl 0 rfl) ?_
    refine zg_X3_37 X Z 0 rfl rfl dX3_orbitThrough_20 ?_
    refine lv_icmp_ge (tgt := 44) hx hb dX3_orbitThrough_23 (by decide) (fun c3 => ?_) (fun c3 => ?_)
    · have hf := it_t c3 hf
      refine lv_iload_n hx hb dX3_orbitThrough_44 rfl (lv_at hl 1 rfl) ?_
      have hR := so_s hf
      subst hR
      refine z_iret X hr hlocks ?_ dX3_orbitThrough_45
      exact Z.eq rfl
    · have hf := it_f c3 hf
      refine lv_iload_n hx hb dX3_orbitThrough_26 rfl (lv_at hl 1 rfl) ?_
      refine lv_iconst (v := 1) hx hb dX3_orbitThrough_27 (by decide) ?_
      refine lv_iload_n hx hb dX3_orbitThrough_28 rfl (lv_at hl 2 rfl) ?_
      refine lv_ishl hx hb dX3_orbitThrough_29 ?_
      refine lv_ior hx hb dX3_orbitThrough_30 ?_
      refine lv_istore_n (lv' := [(2, .int (x2 ||| ((1 : Int32) <<< (x3 &&& 31)))), (0, .ref a0), (3, .int x3), (4, .int x4)]) hx hb dX3_orbitThrough_31 rfl hl (by decide) rfl (fun ls hl => ?_)
      refine lv_aload_n hx hb dX3_orbitThrough_32 rfl (lv_at hl 1 rfl) ?_
      refine lv_iload_n hx hb dX3_orbitThrough_33 rfl (lv_at hl 2 rfl) ?_
      obtain ⟨q4, hq4, hf⟩ := ob_s hf
      refine z_roV X Z (c_X3_landing l D cI cR a0 a1 a_heights a_length x3 hq4) (zw_X3_49 X.1.2.2.2.2 ⟨Nat.le_of_ble_eq_true rfl, Nat.le_of_ble_eq_true rfl⟩) 0 3 rfl rfl rfl [0] [] (by decide : ([0] ++ [] : List Nat).Perm (List.range 1)) rfl rfl hl.1 rfl (Nat.le_of_ble_eq_true rfl) dX3_orbitThrough_34 ⟨Nat.le_of_ble_eq_true rfl, Nat.le_of_ble_eq_true rfl⟩ (fun H locs Z => ?_)
      refine lv_istore_n (lv' := [(3, .int q4), (2, .int (x2 ||| ((1 : Int32) <<< (x3 &&& 31)))), (0, .ref a0), (4, .int x4)]) hx hb dX3_orbitThrough_37 rfl hl (by decide) rfl (fun ls hl => ?_)
      refine lv_iinc (v := x4 + (1 : Int32)) (lv' := [(4, .int (x4 + (1 : Int32))), (3, .int q4), (2, .int (x2 ||| ((1 : Int32) <<< (x3 &&& 31)))), (0, .ref a0)]) hx hb dX3_orbitThrough_38 hl (k := 3) rfl rfl (by decide) rfl (fun ls hl => ?_)
      refine lv_goto (tgt := 17) hx hb dX3_orbitThrough_41 (by decide) ?_
      exact ih hf Z (lv_sub hl [3, 2, 1, 0] rfl)

def f_X3_orbitThrough (a_heights : (Nat → Int32)) (a_length : Int32) (p1 : Int32) : Option (Int32) := (f_X3_heightAt a_heights a_length p1).bind (fun q1 => if q1 = 0 then (some (0 : Int32)) else (f_X3_orbitThrough_L17 a_heights a_length zF (0 : Int32) p1 (0 : Int32)))
set_option maxHeartbeats 4000000 in
set_option maxRecDepth 100000 in
theorem c_X3_orbitThrough (l : Launch) (D : va_G) (cI cR : ClassId) (a0 : Nat) (a1 : Nat) (a_heights : (Nat → Int32)) (a_length : Int32) (p1 : Int32) {R : Int32} (hf : f_X3_orbitThrough a_heights a_length p1 = some R) : zM l D cI cR yX3_orbitThrough cX3_orbitThrough 5 (some .int) 4 85 [.ref a0, .int p1] [w_X3 cI cR a0 a1 a_heights a_length] (some (.int R)) [w_X3 cI cR a0 a1 a_heights a_length] := by
  refine z_of (own := RX3) rfl (by decide) (Nat.le_of_ble_eq_true rfl) ?_
  intro p e s m args below meth c A ls X hr hlocks Z hl
  have hx := X.1.1
  have hb := X.1.2.1
  have Z : zW D A s [w_X3 cI cR a0 a1 a_heights a_length] s.heap [] := Z
  have hl : lv_has ls 5 [(0, .ref a0), (1, .int p1)] := hl
  refine lv_aload_n hx hb dX3_orbitThrough_0 rfl (lv_at hl 0 rfl) ?_
  refine lv_iload_n hx hb dX3_orbitThrough_1 rfl (lv_at hl 1 rfl) ?_
  obtain ⟨q1, hq1, hf⟩ := ob_s hf
  refine z_roV X Z (c_X3_heightAt l D cI cR a0 a1 a_heights a_length p1 hq1) (zw_X3_46 X.1.2.2.2.2 ⟨Nat.le_of_ble_eq_true rfl, Nat.le_of_ble_eq_true rfl⟩) 0 3 rfl rfl rfl [0] [] (by decide : ([0] ++ [] : List Nat).Perm (List.range 1)) rfl rfl hl.1 rfl (Nat.le_of_ble_eq_true rfl) dX3_orbitThrough_2 ⟨Nat.le_of_ble_eq_true rfl, Nat.le_of_ble_eq_true rfl⟩ (fun H locs Z => ?_)
  refine lv_if_ne (tgt := 10) hx hb dX3_orbitThrough_5 (by decide) (fun c2 => ?_) (fun c2 => ?_)
  · have hf := it_f c2 hf
    refine lv_iconst (v := 0) hx hb dX3_orbitThrough_10 (by decide) ?_
    refine lv_istore_n (lv' := [(2, .int (0 : Int32)), (0, .ref a0), (1, .int p1)]) hx hb dX3_orbitThrough_11 rfl hl (by decide) rfl (fun ls hl => ?_)
    refine lv_iload_n hx hb dX3_orbitThrough_12 rfl (lv_at hl 2 rfl) ?_
    refine lv_istore_n (lv' := [(3, .int p1), (2, .int (0 : Int32)), (0, .ref a0), (1, .int p1)]) hx hb dX3_orbitThrough_13 rfl hl (by decide) rfl (fun ls hl => ?_)
    refine lv_iconst (v := 0) hx hb dX3_orbitThrough_14 (by decide) ?_
    refine lv_istore (lv' := [(4, .int (0 : Int32)), (3, .int p1), (2, .int (0 : Int32)), (0, .ref a0), (1, .int p1)]) hx hb dX3_orbitThrough_15 hl (by decide) rfl (fun ls hl => ?_)
    exact w_X3_orbitThrough_L17 X hr hlocks _ hf Z (lv_sub hl [3, 2, 1, 0] rfl)
  · have hf := it_t c2 hf
    refine lv_iconst (v := 0) hx hb dX3_orbitThrough_8 (by decide) ?_
    have hR := so_s hf
    subst hR
    refine z_iret X hr hlocks ?_ dX3_orbitThrough_9
    exact Z.eq rfl
def f_X3_orbits_L6 (a_heights : (Nat → Int32)) (a_length : Int32) : Nat → Int32 → Int32 → Int32 → Option (Int32)
  | 0, _, _, _ => none
  | n + 1, x1, x2, x3 => if a_length ≤ x3 then (some x1) else ((f_X3_orbitThrough a_heights a_length x3).bind (fun q2 => if q2 = 0 then (f_X3_orbits_L6 a_heights a_length n x1 (x2 ||| q2) (x3 + (1 : Int32)) ) else ((f_X7_has x2 x3).bind (fun q4 => if q4 = 0 then (f_X3_orbits_L6 a_heights a_length n (x1 + (1 : Int32)) (x2 ||| q2) (x3 + (1 : Int32)) ) else (f_X3_orbits_L6 a_heights a_length n x1 (x2 ||| q2) (x3 + (1 : Int32)) )))))
set_option maxHeartbeats 4000000 in
set_option maxRecDepth 100000 in
theorem w_X3_orbits_L6 {p : Program} {l : Launch} {e : Env} {s : State} {m : MethodId} {args : Array Value} {below : List Frame} {meth : Method} {c : Code} {D : va_G} {cI cR : ClassId} {A : Nat → Prop} {a0 : Nat} {a1 : Nat} {a_heights : (Nat → Int32)} {a_length : Int32} {R : Int32} (X : zX p s m c cX3_orbits 5 args RX3 D cI cR A) (hr : meth.sig.returnType = (some .int)) (hlocks : meth.locks = false) : ∀ (n : Nat)  {x1 : Int32} {x2 : Int32} {x3 : Int32} {H : Heap} {locs : List Loc} {ls : Array Slot}, f_X3_orbits_L6 a_heights a_length n x1 x2 x3 = some R → zW D A s [w_X3 cI cR a0 a1 a_heights a_length] H locs → lv_has ls 5 [(0, .ref a0), (1, .int x1), (2, .int x2), (3, .int x3)] → W p l e ({ frames := 5, cells := 0, slots := 0, locals := 109 } : Room) s m args below meth c H locs 0 0 (zE D A below s args (some (.int R)) [w_X3 cI cR a0 a1 a_heights a_length]) (F0 m 6 ls []) := by
  have hx := X.1.1
  have hb := X.1.2.1
  intro n
  induction n with
  | zero =>
    intro x1 x2 x3 H locs ls hf
    have hf : none = some R := hf
    cases hf
  | succ n ih =>
    intro x1 x2 x3 H locs ls hf Z hl
    refine lv_iload_n hx hb dX3_orbits_6 rfl (lv_at hl 3 rfl) ?_
    refine lv_aload_n hx hb dX3_orbits_7 rfl (lv_at hl 0 rfl) ?_
    refine zg_X3_37 X Z 0 rfl rfl dX3_orbits_8 ?_
    refine lv_icmp_ge (tgt := 48) hx hb dX3_orbits_11 (by decide) (fun c1 => ?_) (fun c1 => ?_)
    · have hf := it_t c1 hf
      refine lv_iload_n hx hb dX3_orbits_48 rfl (lv_at hl 1 rfl) ?_
      have hR := so_s hf
      subst hR
      refine z_iret X hr hlocks ?_ dX3_orbits_49
      exact Z.eq rfl
    · have hf := it_f c1 hf
      refine lv_aload_n hx hb dX3_orbits_14 rfl (lv_at hl 0 rfl) ?_
      refine lv_iload_n hx hb dX3_orbits_15 rfl (lv_at hl 3 rfl) ?_
      obtain ⟨q2, hq2, hf⟩ := ob_s hf
      refine z_roV X Z (c_X3_orbitThrough l D cI cR a0 a1 a_heights a_length x3 hq2) (zw_X3_52 X.1.2.2.2.2 ⟨Nat.le_of_ble_eq_true rfl, Nat.le_of_ble_eq_true rfl⟩) 0 3 rfl rfl rfl [0] [] (by decide : ([0] ++ [] : List Nat).Perm (List.range 1)) rfl rfl hl.1 rfl (Nat.le_of_ble_eq_true rfl) dX3_orbits_16 ⟨Nat.le_of_ble_eq_true rfl, Nat.le_of_ble_eq_true rfl⟩ (fun H locs Z => ?_)
      refine lv_istore (lv' := [(4, .int q2), (0, .ref a0), (1, .int x1), (2, .int x2), (3, .int x3)]) hx hb dX3_orbits_19 hl (by decide) rfl (fun ls hl => ?_)
      refine lv_iload hx hb dX3_orbits_21 (lv_at hl 0 rfl) ?_
      refine lv_if_eq (tgt := 37) hx hb dX3_orbits_23 (by decide) (fun c3 => ?_) (fun c3 => ?_)
      · have hf := it_t c3 hf
        refine lv_iload_n hx hb dX3_orbits_37 rfl (lv_at hl 3 rfl) ?_
        refine lv_iload hx hb dX3_orbits_38 (lv_at hl 0 rfl) ?_
        refine lv_ior hx hb dX3_orbits_40 ?_
        refine lv_istore_n (lv' := [(2, .int (x2 ||| q2)), (4, .int q2), (0, .ref a0), (1, .int x1), (3, .int x3)]) hx hb dX3_orbits_41 rfl hl (by decide) rfl (fun ls hl => ?_)
        refine lv_iinc (v := x3 + (1 : Int32)) (lv' := [(3, .int (x3 + (1 : Int32))), (2, .int (x2 ||| q2)), (4, .int q2), (0, .ref a0), (1, .int x1)]) hx hb dX3_orbits_42 hl (k := 4) rfl rfl (by decide) rfl (fun ls hl => ?_)
        refine lv_goto (tgt := 6) hx hb dX3_orbits_45 (by decide) ?_
        exact ih hf Z (lv_sub hl [3, 4, 1, 0] rfl)
      · have hf := it_f c3 hf
        refine lv_iload_n hx hb dX3_orbits_26 rfl (lv_at hl 3 rfl) ?_
        refine lv_iload_n hx hb dX3_orbits_27 rfl (lv_at hl 4 rfl) ?_
        obtain ⟨q4, hq4, hf⟩ := ob_s hf
        refine z_roSN X Z (c_X7_has l D cI cR   x2 x3 hq4) (zw_X3_55 X.2.1 X.1.2.2.2.2 ⟨Nat.le_of_ble_eq_true rfl, Nat.le_of_ble_eq_true rfl⟩) [] [0] (by decide : ([] ++ [0] : List Nat).Perm (List.range 1)) rfl rfl hl.1 rfl (Nat.le_of_ble_eq_true rfl) dX3_orbits_28 ⟨Nat.le_of_ble_eq_true rfl, Nat.le_of_ble_eq_true rfl⟩ (fun H locs Z => ?_)
        refine lv_if_ne (tgt := 37) hx hb dX3_orbits_31 (by decide) (fun c5 => ?_) (fun c5 => ?_)
        · have hf := it_f c5 hf
          refine lv_iload_n hx hb dX3_orbits_37 rfl (lv_at hl 3 rfl) ?_
          refine lv_iload hx hb dX3_orbits_38 (lv_at hl 0 rfl) ?_
          refine lv_ior hx hb dX3_orbits_40 ?_
          refine lv_istore_n (lv' := [(2, .int (x2 ||| q2)), (4, .int q2), (0, .ref a0), (1, .int x1), (3, .int x3)]) hx hb dX3_orbits_41 rfl hl (by decide) rfl (fun ls hl => ?_)
          refine lv_iinc (v := x3 + (1 : Int32)) (lv' := [(3, .int (x3 + (1 : Int32))), (2, .int (x2 ||| q2)), (4, .int q2), (0, .ref a0), (1, .int x1)]) hx hb dX3_orbits_42 hl (k := 4) rfl rfl (by decide) rfl (fun ls hl => ?_)
          refine lv_goto (tgt := 6) hx hb dX3_orbits_45 (by decide) ?_
          exact ih hf Z (lv_sub hl [3, 4, 1, 0] rfl)
        · have hf := it_t c5 hf
          refine lv_iinc (v := x1 + (1 : Int32)) (lv' := [(1, .int (x1 + (1 : Int32))), (4, .int q2), (0, .ref a0), (2, .int x2), (3, .int x3)]) hx hb dX3_orbits_34 hl (k := 2) rfl rfl (by decide) rfl (fun ls hl => ?_)
          refine lv_iload_n hx hb dX3_orbits_37 rfl (lv_at hl 3 rfl) ?_
          refine lv_iload hx hb dX3_orbits_38 (lv_at hl 1 rfl) ?_
          refine lv_ior hx hb dX3_orbits_40 ?_
          refine lv_istore_n (lv' := [(2, .int (x2 ||| q2)), (1, .int (x1 + (1 : Int32))), (4, .int q2), (0, .ref a0), (3, .int x3)]) hx hb dX3_orbits_41 rfl hl (by decide) rfl (fun ls hl => ?_)
          refine lv_iinc (v := x3 + (1 : Int32)) (lv' := [(3, .int (x3 + (1 : Int32))), (2, .int (x2 ||| q2)), (1, .int (x1 + (1 : Int32))), (4, .int q2), (0, .ref a0)]) hx hb dX3_orbits_42 hl (k := 4) rfl rfl (by decide) rfl (fun ls hl => ?_)
          refine lv_goto (tgt := 6) hx hb dX3_orbits_45 (by decide) ?_
          exact ih hf Z (lv_sub hl [4, 2, 1, 0] rfl)

def f_X3_orbits (a_heights : (Nat → Int32)) (a_length : Int32) : Option (Int32) := f_X3_orbits_L6 a_heights a_length zF (0 : Int32) (0 : Int32) (0 : Int32)
set_option maxHeartbeats 4000000 in
set_option maxRecDepth 100000 in
theorem c_X3_orbits (l : Launch) (D : va_G) (cI cR : ClassId) (a0 : Nat) (a1 : Nat) (a_heights : (Nat → Int32)) (a_length : Int32) {R : Int32} (hf : f_X3_orbits a_heights a_length = some R) : zM l D cI cR yX3_orbits cX3_orbits 5 (some .int) 5 109 [.ref a0] [w_X3 cI cR a0 a1 a_heights a_length] (some (.int R)) [w_X3 cI cR a0 a1 a_heights a_length] := by
  refine z_of (own := RX3) rfl (by decide) (Nat.le_of_ble_eq_true rfl) ?_
  intro p e s m args below meth c A ls X hr hlocks Z hl
  have hx := X.1.1
  have hb := X.1.2.1
  have Z : zW D A s [w_X3 cI cR a0 a1 a_heights a_length] s.heap [] := Z
  have hl : lv_has ls 5 [(0, .ref a0)] := hl
  refine lv_iconst (v := 0) hx hb dX3_orbits_0 (by decide) ?_
  refine lv_istore_n (lv' := [(1, .int (0 : Int32)), (0, .ref a0)]) hx hb dX3_orbits_1 rfl hl (by decide) rfl (fun ls hl => ?_)
  refine lv_iconst (v := 0) hx hb dX3_orbits_2 (by decide) ?_
  refine lv_istore_n (lv' := [(2, .int (0 : Int32)), (1, .int (0 : Int32)), (0, .ref a0)]) hx hb dX3_orbits_3 rfl hl (by decide) rfl (fun ls hl => ?_)
  refine lv_iconst (v := 0) hx hb dX3_orbits_4 (by decide) ?_
  refine lv_istore_n (lv' := [(3, .int (0 : Int32)), (2, .int (0 : Int32)), (1, .int (0 : Int32)), (0, .ref a0)]) hx hb dX3_orbits_5 rfl hl (by decide) rfl (fun ls hl => ?_)
  exact w_X3_orbits_L6 X hr hlocks _ hf Z (lv_sub hl [3, 2, 1, 0] rfl)
def f_X3_comesAgainBehind_L2 (a_heights : (Nat → Int32)) (a_length : Int32) (x1 : Int32) : Nat → Int32 → Option (Int32)
  | 0, _ => none
  | n + 1, x2 => if a_length ≤ x2 then (some (1 : Int32)) else ((f_X3_heightAt a_heights a_length x2).bind (fun q2 => (f_X3_heightAt a_heights a_length (x2 + x1)).bind (fun q3 => if q2 = q3 then (f_X3_comesAgainBehind_L2 a_heights a_length x1 n (x2 + (1 : Int32)) ) else (some (0 : Int32)))))
set_option maxHeartbeats 4000000 in
set_option maxRecDepth 100000 in
theorem w_X3_comesAgainBehind_L2 {p : Program} {l : Launch} {e : Env} {s : State} {m : MethodId} {args : Array Value} {below : List Frame} {meth : Method} {c : Code} {D : va_G} {cI cR : ClassId} {A : Nat → Prop} {a0 : Nat} {a1 : Nat} {a_heights : (Nat → Int32)} {a_length : Int32} {x1 : Int32} {R : Int32} (X : zX p s m c cX3_comesAgainBehind 3 args RX3 D cI cR A) (hr : meth.sig.returnType = (some .boolean)) (hlocks : meth.locks = false) : ∀ (n : Nat)  {x2 : Int32} {H : Heap} {locs : List Loc} {ls : Array Slot}, f_X3_comesAgainBehind_L2 a_heights a_length x1 n x2 = some R → zW D A s [w_X3 cI cR a0 a1 a_heights a_length] H locs → lv_has ls 3 [(0, .ref a0), (1, .int x1), (2, .int x2)] → W p l e ({ frames := 3, cells := 0, slots := 0, locals := 64 } : Room) s m args below meth c H locs 0 0 (zE D A below s args (some (.int R)) [w_X3 cI cR a0 a1 a_heights a_length]) (F0 m 2 ls []) := by
  have hx := X.1.1
  have hb := X.1.2.1
  intro n
  induction n with
  | zero =>
    intro x2 H locs ls hf
    have hf : none = some R := hf
    cases hf
  | succ n ih =>
    intro x2 H locs ls hf Z hl
    refine lv_iload_n hx hb dX3_comesAgainBehind_2 rfl (lv_at hl 2 rfl) ?_
    refine lv_aload_n hx hb dX3_comesAgainBehind_3 rfl (lv_at hl 0 rfl) ?_
    refine zg_X3_37 X Z 0 rfl rfl dX3_comesAgainBehind_4 ?_
    refine lv_icmp_ge (tgt := 33) hx hb dX3_comesAgainBehind_7 (by decide) (fun c1 => ?_) (fun c1 => ?_)
    · have hf := it_t c1 hf
      refine lv_iconst (v := 1) hx hb dX3_comesAgainBehind_33 (by decide) ?_
      have hR := so_s hf
      subst hR
      refine z_zret X hr hlocks (Or.inr rfl) ?_ dX3_comesAgainBehind_34
      exact Z.eq rfl
    · have hf := it_f c1 hf
      refine lv_aload_n hx hb dX3_comesAgainBehind_10 rfl (lv_at hl 0 rfl) ?_
      refine lv_iload_n hx hb dX3_comesAgainBehind_11 rfl (lv_at hl 2 rfl) ?_
      obtain ⟨q2, hq2, hf⟩ := ob_s hf
      refine z_roV X Z (c_X3_heightAt l D cI cR a0 a1 a_heights a_length x2 hq2) (zw_X3_46 X.1.2.2.2.2 ⟨Nat.le_of_ble_eq_true rfl, Nat.le_of_ble_eq_true rfl⟩) 0 3 rfl rfl rfl [0] [] (by decide : ([0] ++ [] : List Nat).Perm (List.range 1)) rfl rfl hl.1 rfl (Nat.le_of_ble_eq_true rfl) dX3_comesAgainBehind_12 ⟨Nat.le_of_ble_eq_true rfl, Nat.le_of_ble_eq_true rfl⟩ (fun H locs Z => ?_)
      refine lv_aload_n hx hb dX3_comesAgainBehind_15 rfl (lv_at hl 0 rfl) ?_
      refine lv_iload_n hx hb dX3_comesAgainBehind_16 rfl (lv_at hl 2 rfl) ?_
      refine lv_iload_n hx hb dX3_comesAgainBehind_17 rfl (lv_at hl 1 rfl) ?_
      refine lv_iadd hx hb dX3_comesAgainBehind_18 ?_
      obtain ⟨q3, hq3, hf⟩ := ob_s hf
      refine z_roV X Z (c_X3_heightAt l D cI cR a0 a1 a_heights a_length (x2 + x1) hq3) (zw_X3_46 X.1.2.2.2.2 ⟨Nat.le_of_ble_eq_true rfl, Nat.le_of_ble_eq_true rfl⟩) 0 3 rfl rfl rfl [0] [] (by decide : ([0] ++ [] : List Nat).Perm (List.range 1)) rfl rfl hl.1 rfl (Nat.le_of_ble_eq_true rfl) dX3_comesAgainBehind_19 ⟨Nat.le_of_ble_eq_true rfl, Nat.le_of_ble_eq_true rfl⟩ (fun H locs Z => ?_)
      refine lv_icmp_eq (tgt := 27) hx hb dX3_comesAgainBehind_22 (by decide) (fun c4 => ?_) (fun c4 => ?_)
      · have hf := it_t c4 hf
        refine lv_iinc (v := x2 + (1 : Int32)) (lv' := [(2, .int (x2 + (1 : Int32))), (0, .ref a0), (1, .int x1)]) hx hb dX3_comesAgainBehind_27 hl (k := 2) rfl rfl (by decide) rfl (fun ls hl => ?_)
        refine lv_goto (tgt := 2) hx hb dX3_comesAgainBehind_30 (by decide) ?_
        exact ih hf Z (lv_sub hl [1, 2, 0] rfl)
      · have hf := it_f c4 hf
        refine lv_iconst (v := 0) hx hb dX3_comesAgainBehind_25 (by decide) ?_
        have hR := so_s hf
        subst hR
        refine z_zret X hr hlocks (Or.inl rfl) ?_ dX3_comesAgainBehind_26
        exact Z.eq rfl

def f_X3_comesAgainBehind (a_heights : (Nat → Int32)) (a_length : Int32) (p1 : Int32) : Option (Int32) := f_X3_comesAgainBehind_L2 a_heights a_length p1 zF (0 : Int32)
set_option maxHeartbeats 4000000 in
set_option maxRecDepth 100000 in
theorem c_X3_comesAgainBehind (l : Launch) (D : va_G) (cI cR : ClassId) (a0 : Nat) (a1 : Nat) (a_heights : (Nat → Int32)) (a_length : Int32) (p1 : Int32) {R : Int32} (hf : f_X3_comesAgainBehind a_heights a_length p1 = some R) : zM l D cI cR yX3_comesAgainBehind cX3_comesAgainBehind 3 (some .boolean) 3 64 [.ref a0, .int p1] [w_X3 cI cR a0 a1 a_heights a_length] (some (.int R)) [w_X3 cI cR a0 a1 a_heights a_length] := by
  refine z_of (own := RX3) rfl (by decide) (Nat.le_of_ble_eq_true rfl) ?_
  intro p e s m args below meth c A ls X hr hlocks Z hl
  have hx := X.1.1
  have hb := X.1.2.1
  have Z : zW D A s [w_X3 cI cR a0 a1 a_heights a_length] s.heap [] := Z
  have hl : lv_has ls 3 [(0, .ref a0), (1, .int p1)] := hl
  refine lv_iconst (v := 0) hx hb dX3_comesAgainBehind_0 (by decide) ?_
  refine lv_istore_n (lv' := [(2, .int (0 : Int32)), (0, .ref a0), (1, .int p1)]) hx hb dX3_comesAgainBehind_1 rfl hl (by decide) rfl (fun ls hl => ?_)
  exact w_X3_comesAgainBehind_L2 X hr hlocks _ hf Z (lv_sub hl [1, 2, 0] rfl)
def f_X3_period_L2 (a_heights : (Nat → Int32)) (a_length : Int32) : Nat → Int32 → Option (Int32)
  | 0, _ => none
  | n + 1, x1 => if a_length ≤ x1 then (some a_length) else ((f_X3_comesAgainBehind a_heights a_length x1).bind (fun q2 => if q2 = 0 then (f_X3_period_L2 a_heights a_length n (x1 + (1 : Int32)) ) else (some x1)))
set_option maxHeartbeats 4000000 in
set_option maxRecDepth 100000 in
theorem w_X3_period_L2 {p : Program} {l : Launch} {e : Env} {s : State} {m : MethodId} {args : Array Value} {below : List Frame} {meth : Method} {c : Code} {D : va_G} {cI cR : ClassId} {A : Nat → Prop} {a0 : Nat} {a1 : Nat} {a_heights : (Nat → Int32)} {a_length : Int32} {R : Int32} (X : zX p s m c cX3_period 2 args RX3 D cI cR A) (hr : meth.sig.returnType = (some .int)) (hlocks : meth.locks = false) : ∀ (n : Nat)  {x1 : Int32} {H : Heap} {locs : List Loc} {ls : Array Slot}, f_X3_period_L2 a_heights a_length n x1 = some R → zW D A s [w_X3 cI cR a0 a1 a_heights a_length] H locs → lv_has ls 2 [(0, .ref a0), (1, .int x1)] → W p l e ({ frames := 4, cells := 0, slots := 0, locals := 86 } : Room) s m args below meth c H locs 0 0 (zE D A below s args (some (.int R)) [w_X3 cI cR a0 a1 a_heights a_length]) (F0 m 2 ls []) := by
  have hx := X.1.1
  have hb := X.1.2.1
  intro n
  induction n with
  | zero =>
    intro x1 H locs ls hf
    have hf : none = some R := hf
    cases hf
  | succ n ih =>
    intro x1 H locs ls hf Z hl
    refine lv_iload_n hx hb dX3_period_2 rfl (lv_at hl 1 rfl) ?_
    refine lv_aload_n hx hb dX3_period_3 rfl (lv_at hl 0 rfl) ?_
    refine zg_X3_37 X Z 0 rfl rfl dX3_period_4 ?_
    refine lv_icmp_ge (tgt := 26) hx hb dX3_period_7 (by decide) (fun c1 => ?_) (fun c1 => ?_)
    · have hf := it_t c1 hf
      refine lv_aload_n hx hb dX3_period_26 rfl (lv_at hl 0 rfl) ?_
      refine zg_X3_37 X Z 0 rfl rfl dX3_period_27 ?_
      have hR := so_s hf
      subst hR
      refine z_iret X hr hlocks ?_ dX3_period_30
      exact Z.eq rfl
    · have hf := it_f c1 hf
      refine lv_aload_n hx hb dX3_period_10 rfl (lv_at hl 0 rfl) ?_
      refine lv_iload_n hx hb dX3_period_11 rfl (lv_at hl 1 rfl) ?_
      obtain ⟨q2, hq2, hf⟩ := ob_s hf
      refine z_roV X Z (c_X3_comesAgainBehind l D cI cR a0 a1 a_heights a_length x1 hq2) (zw_X3_59 X.1.2.2.2.2 ⟨Nat.le_of_ble_eq_true rfl, Nat.le_of_ble_eq_true rfl⟩) 0 3 rfl rfl rfl [0] [] (by decide : ([0] ++ [] : List Nat).Perm (List.range 1)) rfl rfl hl.1 rfl (Nat.le_of_ble_eq_true rfl) dX3_period_12 ⟨Nat.le_of_ble_eq_true rfl, Nat.le_of_ble_eq_true rfl⟩ (fun H locs Z => ?_)
      refine lv_if_eq (tgt := 20) hx hb dX3_period_15 (by decide) (fun c3 => ?_) (fun c3 => ?_)
      · have hf := it_t c3 hf
        refine lv_iinc (v := x1 + (1 : Int32)) (lv' := [(1, .int (x1 + (1 : Int32))), (0, .ref a0)]) hx hb dX3_period_20 hl (k := 1) rfl rfl (by decide) rfl (fun ls hl => ?_)
        refine lv_goto (tgt := 2) hx hb dX3_period_23 (by decide) ?_
        exact ih hf Z (lv_sub hl [1, 0] rfl)
      · have hf := it_f c3 hf
        refine lv_iload_n hx hb dX3_period_18 rfl (lv_at hl 1 rfl) ?_
        have hR := so_s hf
        subst hR
        refine z_iret X hr hlocks ?_ dX3_period_19
        exact Z.eq rfl

def f_X3_period (a_heights : (Nat → Int32)) (a_length : Int32) : Option (Int32) := f_X3_period_L2 a_heights a_length zF (1 : Int32)
set_option maxHeartbeats 4000000 in
set_option maxRecDepth 100000 in
theorem c_X3_period (l : Launch) (D : va_G) (cI cR : ClassId) (a0 : Nat) (a1 : Nat) (a_heights : (Nat → Int32)) (a_length : Int32) {R : Int32} (hf : f_X3_period a_heights a_length = some R) : zM l D cI cR yX3_period cX3_period 2 (some .int) 4 86 [.ref a0] [w_X3 cI cR a0 a1 a_heights a_length] (some (.int R)) [w_X3 cI cR a0 a1 a_heights a_length] := by
  refine z_of (own := RX3) rfl (by decide) (Nat.le_of_ble_eq_true rfl) ?_
  intro p e s m args below meth c A ls X hr hlocks Z hl
  have hx := X.1.1
  have hb := X.1.2.1
  have Z : zW D A s [w_X3 cI cR a0 a1 a_heights a_length] s.heap [] := Z
  have hl : lv_has ls 2 [(0, .ref a0)] := hl
  refine lv_iconst (v := 1) hx hb dX3_period_0 (by decide) ?_
  refine lv_istore_n (lv' := [(1, .int (1 : Int32)), (0, .ref a0)]) hx hb dX3_period_1 rfl hl (by decide) rfl (fun ls hl => ?_)
  exact w_X3_period_L2 X hr hlocks _ hf Z (lv_sub hl [1, 0] rfl)
def f_X3_heightTurnedBack_L2 (a_heights : (Nat → Int32)) (a_length : Int32) (x1 : Int32) : Nat → Int32 → Option (Int32)
  | 0, _ => none
  | n + 1, x2 => if a_length ≤ x2 then (some (0 : Int32)) else ((f_X3_landing a_heights a_length x2).bind (fun q2 => if ((a_length - (1 : Int32)) - q2) = x1 then ((f_X3_heightAt a_heights a_length x2).bind (fun q4 => some q4)) else (f_X3_heightTurnedBack_L2 a_heights a_length x1 n (x2 + (1 : Int32)) )))
set_option maxHeartbeats 4000000 in
set_option maxRecDepth 100000 in
theorem w_X3_heightTurnedBack_L2 {p : Program} {l : Launch} {e : Env} {s : State} {m : MethodId} {args : Array Value} {below : List Frame} {meth : Method} {c : Code} {D : va_G} {cI cR : ClassId} {A : Nat → Prop} {a0 : Nat} {a1 : Nat} {a_heights : (Nat → Int32)} {a_length : Int32} {x1 : Int32} {R : Int32} (X : zX p s m c cX3_heightTurnedBack 3 args RX3 D cI cR A) (hr : meth.sig.returnType = (some .int)) (hlocks : meth.locks = false) : ∀ (n : Nat)  {x2 : Int32} {H : Heap} {locs : List Loc} {ls : Array Slot}, f_X3_heightTurnedBack_L2 a_heights a_length x1 n x2 = some R → zW D A s [w_X3 cI cR a0 a1 a_heights a_length] H locs → lv_has ls 3 [(0, .ref a0), (1, .int x1), (2, .int x2)] → W p l e ({ frames := 4, cells := 0, slots := 0, locals := 85 } : Room) s m args below meth c H locs 0 0 (zE D A below s args (some (.int R)) [w_X3 cI cR a0 a1 a_heights a_length]) (F0 m 2 ls []) := by
  have hx := X.1.1
  have hb := X.1.2.1
  intro n
  induction n with
  | zero =>
    intro x2 H locs ls hf
    have hf : none = some R := hf
    cases hf
  | succ n ih =>
    intro x2 H locs ls hf Z hl
    refine lv_iload_n hx hb dX3_heightTurnedBack_2 rfl (lv_at hl 2 rfl) ?_
    refine lv_aload_n hx hb dX3_heightTurnedBack_3 rfl (lv_at hl 0 rfl) ?_
    refine zg_X3_37 X Z 0 rfl rfl dX3_heightTurnedBack_4 ?_
    refine lv_icmp_ge (tgt := 38) hx hb dX3_heightTurnedBack_7 (by decide) (fun c1 => ?_) (fun c1 => ?_)
    · have hf := it_t c1 hf
      refine lv_iconst (v := 0) hx hb dX3_heightTurnedBack_38 (by decide) ?_
      have hR := so_s hf
      subst hR
      refine z_iret X hr hlocks ?_ dX3_heightTurnedBack_39
      exact Z.eq rfl
    · have hf := it_f c1 hf
      refine lv_aload_n hx hb dX3_heightTurnedBack_10 rfl (lv_at hl 0 rfl) ?_
      refine zg_X3_37 X Z 0 rfl rfl dX3_heightTurnedBack_11 ?_
      refine lv_iconst (v := 1) hx hb dX3_heightTurnedBack_14 (by decide) ?_
      refine lv_isub hx hb dX3_heightTurnedBack_15 ?_
      refine lv_aload_n hx hb dX3_heightTurnedBack_16 rfl (lv_at hl 0 rfl) ?_
      refine lv_iload_n hx hb dX3_heightTurnedBack_17 rfl (lv_at hl 2 rfl) ?_
      obtain ⟨q2, hq2, hf⟩ := ob_s hf
      refine z_roV X Z (c_X3_landing l D cI cR a0 a1 a_heights a_length x2 hq2) (zw_X3_49 X.1.2.2.2.2 ⟨Nat.le_of_ble_eq_true rfl, Nat.le_of_ble_eq_true rfl⟩) 0 3 rfl rfl rfl [0] [] (by decide : ([0] ++ [] : List Nat).Perm (List.range 1)) rfl rfl hl.1 rfl (Nat.le_of_ble_eq_true rfl) dX3_heightTurnedBack_18 ⟨Nat.le_of_ble_eq_true rfl, Nat.le_of_ble_eq_true rfl⟩ (fun H locs Z => ?_)
      refine lv_isub hx hb dX3_heightTurnedBack_21 ?_
      refine lv_iload_n hx hb dX3_heightTurnedBack_22 rfl (lv_at hl 1 rfl) ?_
      refine lv_icmp_ne (tgt := 32) hx hb dX3_heightTurnedBack_23 (by decide) (fun c3 => ?_) (fun c3 => ?_)
      · have hf := it_f c3 hf
        refine lv_iinc (v := x2 + (1 : Int32)) (lv' := [(2, .int (x2 + (1 : Int32))), (0, .ref a0), (1, .int x1)]) hx hb dX3_heightTurnedBack_32 hl (k := 2) rfl rfl (by decide) rfl (fun ls hl => ?_)
        refine lv_goto (tgt := 2) hx hb dX3_heightTurnedBack_35 (by decide) ?_
        exact ih hf Z (lv_sub hl [1, 2, 0] rfl)
      · have hf := it_t c3 hf
        refine lv_aload_n hx hb dX3_heightTurnedBack_26 rfl (lv_at hl 0 rfl) ?_
        refine lv_iload_n hx hb dX3_heightTurnedBack_27 rfl (lv_at hl 2 rfl) ?_
        obtain ⟨q4, hq4, hf⟩ := ob_s hf
        refine z_roV X Z (c_X3_heightAt l D cI cR a0 a1 a_heights a_length x2 hq4) (zw_X3_46 X.1.2.2.2.2 ⟨Nat.le_of_ble_eq_true rfl, Nat.le_of_ble_eq_true rfl⟩) 0 3 rfl rfl rfl [0] [] (by decide : ([0] ++ [] : List Nat).Perm (List.range 1)) rfl rfl hl.1 rfl (Nat.le_of_ble_eq_true rfl) dX3_heightTurnedBack_28 ⟨Nat.le_of_ble_eq_true rfl, Nat.le_of_ble_eq_true rfl⟩ (fun H locs Z => ?_)
        have hR := so_s hf
        subst hR
        refine z_iret X hr hlocks ?_ dX3_heightTurnedBack_31
        exact Z.eq rfl

def f_X3_heightTurnedBack (a_heights : (Nat → Int32)) (a_length : Int32) (p1 : Int32) : Option (Int32) := f_X3_heightTurnedBack_L2 a_heights a_length p1 zF (0 : Int32)
set_option maxHeartbeats 4000000 in
set_option maxRecDepth 100000 in
theorem c_X3_heightTurnedBack (l : Launch) (D : va_G) (cI cR : ClassId) (a0 : Nat) (a1 : Nat) (a_heights : (Nat → Int32)) (a_length : Int32) (p1 : Int32) {R : Int32} (hf : f_X3_heightTurnedBack a_heights a_length p1 = some R) : zM l D cI cR yX3_heightTurnedBack cX3_heightTurnedBack 3 (some .int) 4 85 [.ref a0, .int p1] [w_X3 cI cR a0 a1 a_heights a_length] (some (.int R)) [w_X3 cI cR a0 a1 a_heights a_length] := by
  refine z_of (own := RX3) rfl (by decide) (Nat.le_of_ble_eq_true rfl) ?_
  intro p e s m args below meth c A ls X hr hlocks Z hl
  have hx := X.1.1
  have hb := X.1.2.1
  have Z : zW D A s [w_X3 cI cR a0 a1 a_heights a_length] s.heap [] := Z
  have hl : lv_has ls 3 [(0, .ref a0), (1, .int p1)] := hl
  refine lv_iconst (v := 0) hx hb dX3_heightTurnedBack_0 (by decide) ?_
  refine lv_istore_n (lv' := [(2, .int (0 : Int32)), (0, .ref a0), (1, .int p1)]) hx hb dX3_heightTurnedBack_1 rfl hl (by decide) rfl (fun ls hl => ?_)
  exact w_X3_heightTurnedBack_L2 X hr hlocks _ hf Z (lv_sub hl [1, 2, 0] rfl)
