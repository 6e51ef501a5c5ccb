def f_X1_heightAt (a_heights : (Nat → Int32)) (p1 : Int32) : Option (Int32) := (f_X7_valueAt 8 a_heights p1).bind (fun q1 => some q1)
set_option maxHeartbeats 4000000 in
set_option maxRecDepth 100000 in
theorem c_X1_heightAt (l : Launch) (D : va_G) (cI cR : ClassId) (a0 : Nat) (a1 : Nat) (a_state : Int32) (a_heights : (Nat → Int32)) (a_passPlaces : Int32) (a_programLength : Int32) (a_place : Int32) (a_slips : Int32) (a_clashes : Int32) (p1 : Int32) {R : Int32} (hf : f_X1_heightAt a_heights p1 = some R) : zM l D cI cR yX1_heightAt cX1_heightAt 2 (some .int) 1 21 [.ref a0, .int p1] [w_X1 cI cR a0 a1 a_state a_heights a_passPlaces a_programLength a_place a_slips a_clashes] (some (.int R)) [w_X1 cI cR a0 a1 a_state a_heights a_passPlaces a_programLength a_place a_slips a_clashes] := by
  refine z_of (own := RX1) rfl (by decide) (Nat.le_of_ble_eq_true rfl) ?_
  intro p e s m args below meth c A ls X hr hlocks Z hl
  have hx := X.1.1
  have hb := X.1.2.1
  have Z : zW D A s [w_X1 cI cR a0 a1 a_state a_heights a_passPlaces a_programLength a_place a_slips a_clashes] s.heap [] := Z
  have hl : lv_has ls 2 [(0, .ref a0), (1, .int p1)] := hl
  refine lv_aload_n hx hb dX1_heightAt_0 rfl (lv_at hl 0 rfl) ?_
  refine zg_X1_9 X Z 0 rfl rfl dX1_heightAt_1 ?_
  refine lv_iload_n hx hb dX1_heightAt_4 rfl (lv_at hl 1 rfl) ?_
  have Z : zW D A s [[(a0, .inr (1, [.int a_state, .ref a1, .int a_passPlaces, .int a_programLength, .int a_place, .int a_slips, .int a_clashes]))], [(a1, .inl (cI, 8, .inl a_heights))]] _ _ := Z.eq rfl
  obtain ⟨q1, hq1, hf⟩ := ob_s hf
  refine z_roSN X Z (c_X7_valueAt l D cI cR a1 8 a_heights p1 hq1) (zw_X1_62 X.2.1 X.1.2.2.2.2 ⟨Nat.le_of_ble_eq_true rfl, Nat.le_of_ble_eq_true rfl⟩) [1] [0] (by decide : ([1] ++ [0] : List Nat).Perm (List.range 2)) rfl rfl hl.1 rfl (Nat.le_of_ble_eq_true rfl) dX1_heightAt_5 ⟨Nat.le_of_ble_eq_true rfl, Nat.le_of_ble_eq_true rfl⟩ (fun H locs Z => ?_)
  have hR := so_s hf
  subst hR
  refine z_iret X hr hlocks ?_ dX1_heightAt_8
  exact Z.eq rfl
def f_X1_isPassAt (a_passPlaces : Int32) (p1 : Int32) : Option (Int32) := (f_X7_has a_passPlaces p1).bind (fun q1 => some q1)
set_option maxHeartbeats 4000000 in
set_option maxRecDepth 100000 in
theorem c_X1_isPassAt (l : Launch) (D : va_G) (cI cR : ClassId) (a0 : Nat) (a1 : Nat) (a_state : Int32) (a_heights : (Nat → Int32)) (a_passPlaces : Int32) (a_programLength : Int32) (a_place : Int32) (a_slips : Int32) (a_clashes : Int32) (p1 : Int32) {R : Int32} (hf : f_X1_isPassAt a_passPlaces p1 = some R) : zM l D cI cR yX1_isPassAt cX1_isPassAt 2 (some .boolean) 1 21 [.ref a0, .int p1] [w_X1 cI cR a0 a1 a_state a_heights a_passPlaces a_programLength a_place a_slips a_clashes] (some (.int R)) [w_X1 cI cR a0 a1 a_state a_heights a_passPlaces a_programLength a_place a_slips a_clashes] := by
  refine z_of (own := RX1) rfl (by decide) (Nat.le_of_ble_eq_true rfl) ?_
  intro p e s m args below meth c A ls X hr hlocks Z hl
  have hx := X.1.1
  have hb := X.1.2.1
  have Z : zW D A s [w_X1 cI cR a0 a1 a_state a_heights a_passPlaces a_programLength a_place a_slips a_clashes] s.heap [] := Z
  have hl : lv_has ls 2 [(0, .ref a0), (1, .int p1)] := hl
  refine lv_aload_n hx hb dX1_isPassAt_0 rfl (lv_at hl 0 rfl) ?_
  refine zg_X1_30 X Z 0 rfl rfl dX1_isPassAt_1 ?_
  refine lv_iload_n hx hb dX1_isPassAt_4 rfl (lv_at hl 1 rfl) ?_
  obtain ⟨q1, hq1, hf⟩ := ob_s hf
  refine z_roSN X Z (c_X7_has l D cI cR   a_passPlaces p1 hq1) (zw_X1_66 X.2.1 X.1.2.2.2.2 ⟨Nat.le_of_ble_eq_true rfl, Nat.le_of_ble_eq_true rfl⟩) [] [0] (by decide : ([] ++ [0] : List Nat).Perm (List.range 1)) rfl rfl hl.1 rfl (Nat.le_of_ble_eq_true rfl) dX1_isPassAt_5 ⟨Nat.le_of_ble_eq_true rfl, Nat.le_of_ble_eq_true rfl⟩ (fun H locs Z => ?_)
  have hR := so_s hf
  subst hR
  refine z_zret X hr hlocks (b_X7_has hq1) ?_ dX1_isPassAt_8
  exact Z.eq rfl
theorem b_X1_isPassAt {a_passPlaces : Int32} {p1 : Int32} {R : Int32} (hf : f_X1_isPassAt a_passPlaces p1 = some R) : R = 0 ∨ R = 1 := by
  obtain ⟨q1, hq1, hf⟩ := ob_s hf
  have hR := so_s hf
  subst hR
  exact (b_X7_has hq1)
def f_X1_expects (a_state : Int32) (p1 : Int32) : Option (Int32) := (f_X7_has a_state p1).bind (fun q1 => some q1)
set_option maxHeartbeats 4000000 in
set_option maxRecDepth 100000 in
theorem c_X1_expects (l : Launch) (D : va_G) (cI cR : ClassId) (a0 : Nat) (a1 : Nat) (a_state : Int32) (a_heights : (Nat → Int32)) (a_passPlaces : Int32) (a_programLength : Int32) (a_place : Int32) (a_slips : Int32) (a_clashes : Int32) (p1 : Int32) {R : Int32} (hf : f_X1_expects a_state p1 = some R) : zM l D cI cR yX1_expects cX1_expects 2 (some .boolean) 1 21 [.ref a0, .int p1] [w_X1 cI cR a0 a1 a_state a_heights a_passPlaces a_programLength a_place a_slips a_clashes] (some (.int R)) [w_X1 cI cR a0 a1 a_state a_heights a_passPlaces a_programLength a_place a_slips a_clashes] := by
  refine z_of (own := RX1) rfl (by decide) (Nat.le_of_ble_eq_true rfl) ?_
  intro p e s m args below meth c A ls X hr hlocks Z hl
  have hx := X.1.1
  have hb := X.1.2.1
  have Z : zW D A s [w_X1 cI cR a0 a1 a_state a_heights a_passPlaces a_programLength a_place a_slips a_clashes] s.heap [] := Z
  have hl : lv_has ls 2 [(0, .ref a0), (1, .int p1)] := hl
  refine lv_aload_n hx hb dX1_expects_0 rfl (lv_at hl 0 rfl) ?_
  refine zg_X1_19 X Z 0 rfl rfl dX1_expects_1 ?_
  refine lv_iload_n hx hb dX1_expects_4 rfl (lv_at hl 1 rfl) ?_
  obtain ⟨q1, hq1, hf⟩ := ob_s hf
  refine z_roSN X Z (c_X7_has l D cI cR   a_state p1 hq1) (zw_X1_66 X.2.1 X.1.2.2.2.2 ⟨Nat.le_of_ble_eq_true rfl, Nat.le_of_ble_eq_true rfl⟩) [] [0] (by decide : ([] ++ [0] : List Nat).Perm (List.range 1)) rfl rfl hl.1 rfl (Nat.le_of_ble_eq_true rfl) dX1_expects_5 ⟨Nat.le_of_ble_eq_true rfl, Nat.le_of_ble_eq_true rfl⟩ (fun H locs Z => ?_)
  have hR := so_s hf
  subst hR
  refine z_zret X hr hlocks (b_X7_has hq1) ?_ dX1_expects_8
  exact Z.eq rfl
theorem b_X1_expects {a_state : Int32} {p1 : Int32} {R : Int32} (hf : f_X1_expects a_state p1 = some R) : R = 0 ∨ R = 1 := by
  obtain ⟨q1, hq1, hf⟩ := ob_s hf
  have hR := so_s hf
  subst hR
  exact (b_X7_has hq1)
def f_X1_expect (a_state : Int32) (p1 : Int32) : Option (Int32) := some (a_state ||| ((1 : Int32) <<< (p1 &&& 31)))
set_option maxHeartbeats 4000000 in
set_option maxRecDepth 100000 in
theorem c_X1_expect (l : Launch) (D : va_G) (cI cR : ClassId) (a0 : Nat) (a1 : Nat) (a_state : Int32) (a_heights : (Nat → Int32)) (a_passPlaces : Int32) (a_programLength : Int32) (a_place : Int32) (a_slips : Int32) (a_clashes : Int32) (p1 : Int32) {R : Int32} (hf : f_X1_expect a_state p1 = some R) : zM l D cI cR yX1_expect cX1_expect 2 none 0 0 [.ref a0, .int p1] [w_X1 cI cR a0 a1 a_state a_heights a_passPlaces a_programLength a_place a_slips a_clashes] none [w_X1 cI cR a0 a1 R a_heights a_passPlaces a_programLength a_place a_slips a_clashes] := by
  refine z_of (own := RX1) rfl (by decide) (Nat.le_of_ble_eq_true rfl) ?_
  intro p e s m args below meth c A ls X hr hlocks Z hl
  have hx := X.1.1
  have hb := X.1.2.1
  have Z : zW D A s [w_X1 cI cR a0 a1 a_state a_heights a_passPlaces a_programLength a_place a_slips a_clashes] s.heap [] := Z
  have hl : lv_has ls 2 [(0, .ref a0), (1, .int p1)] := hl
  refine lv_aload_n hx hb dX1_expect_0 rfl (lv_at hl 0 rfl) ?_
  refine lv_dup hx hb dX1_expect_1 rfl ?_
  refine zg_X1_19 X Z 0 rfl rfl dX1_expect_2 ?_
  refine lv_iconst (v := 1) hx hb dX1_expect_5 (by decide) ?_
  refine lv_iload_n hx hb dX1_expect_6 rfl (lv_at hl 1 rfl) ?_
  refine lv_ishl hx hb dX1_expect_7 ?_
  refine lv_ior hx hb dX1_expect_8 ?_
  refine zp_X1_19 X Z 0 rfl (Nat.le_of_ble_eq_true rfl) [w_X1 cI cR a0 a1 (a_state ||| ((1 : Int32) <<< (p1 &&& 31))) a_heights a_passPlaces a_programLength a_place a_slips a_clashes] rfl dX1_expect_9 (fun H locs Z => ?_)
  have hR := so_s hf
  subst hR
  refine z_vret X hr hlocks ?_ dX1_expect_12
  exact Z.eq rfl
def f_X1_lose (a_state : Int32) (p1 : Int32) : Option (Int32) := some (a_state &&& (((1 : Int32) <<< (p1 &&& 31)) ^^^ (-1 : Int32)))
set_option maxHeartbeats 4000000 in
set_option maxRecDepth 100000 in
theorem c_X1_lose (l : Launch) (D : va_G) (cI cR : ClassId) (a0 : Nat) (a1 : Nat) (a_state : Int32) (a_heights : (Nat → Int32)) (a_passPlaces : Int32) (a_programLength : Int32) (a_place : Int32) (a_slips : Int32) (a_clashes : Int32) (p1 : Int32) {R : Int32} (hf : f_X1_lose a_state p1 = some R) : zM l D cI cR yX1_lose cX1_lose 2 none 0 0 [.ref a0, .int p1] [w_X1 cI cR a0 a1 a_state a_heights a_passPlaces a_programLength a_place a_slips a_clashes] none [w_X1 cI cR a0 a1 R a_heights a_passPlaces a_programLength a_place a_slips a_clashes] := by
  refine z_of (own := RX1) rfl (by decide) (Nat.le_of_ble_eq_true rfl) ?_
  intro p e s m args below meth c A ls X hr hlocks Z hl
  have hx := X.1.1
  have hb := X.1.2.1
  have Z : zW D A s [w_X1 cI cR a0 a1 a_state a_heights a_passPlaces a_programLength a_place a_slips a_clashes] s.heap [] := Z
  have hl : lv_has ls 2 [(0, .ref a0), (1, .int p1)] := hl
  refine lv_aload_n hx hb dX1_lose_0 rfl (lv_at hl 0 rfl) ?_
  refine lv_dup hx hb dX1_lose_1 rfl ?_
  refine zg_X1_19 X Z 0 rfl rfl dX1_lose_2 ?_
  refine lv_iconst (v := 1) hx hb dX1_lose_5 (by decide) ?_
  refine lv_iload_n hx hb dX1_lose_6 rfl (lv_at hl 1 rfl) ?_
  refine lv_ishl hx hb dX1_lose_7 ?_
  refine lv_iconst (v := -1) hx hb dX1_lose_8 (by decide) ?_
  refine lv_ixor hx hb dX1_lose_9 ?_
  refine lv_iand hx hb dX1_lose_10 ?_
  refine zp_X1_19 X Z 0 rfl (Nat.le_of_ble_eq_true rfl) [w_X1 cI cR a0 a1 (a_state &&& (((1 : Int32) <<< (p1 &&& 31)) ^^^ (-1 : Int32))) a_heights a_passPlaces a_programLength a_place a_slips a_clashes] rfl dX1_lose_11 (fun H locs Z => ?_)
  have hR := so_s hf
  subst hR
  refine z_vret X hr hlocks ?_ dX1_lose_14
  exact Z.eq rfl
def f_X1_clubs (a_state : Int32) : Option (Int32) := (f_J6_bitCount_0f7a4 a_state).bind (fun q1 => some q1)
set_option maxHeartbeats 4000000 in
set_option maxRecDepth 100000 in
theorem c_X1_clubs (l : Launch) (D : va_G) (cI cR : ClassId) (a0 : Nat) (a1 : Nat) (a_state : Int32) (a_heights : (Nat → Int32)) (a_passPlaces : Int32) (a_programLength : Int32) (a_place : Int32) (a_slips : Int32) (a_clashes : Int32) {R : Int32} (hf : f_X1_clubs a_state = some R) : zM l D cI cR yX1_clubs cX1_clubs 1 (some .int) 1 20 [.ref a0] [w_X1 cI cR a0 a1 a_state a_heights a_passPlaces a_programLength a_place a_slips a_clashes] (some (.int R)) [w_X1 cI cR a0 a1 a_state a_heights a_passPlaces a_programLength a_place a_slips a_clashes] := by
  refine z_of (own := RX1) rfl (by decide) (Nat.le_of_ble_eq_true rfl) ?_
  intro p e s m args below meth c A ls X hr hlocks Z hl
  have hx := X.1.1
  have hb := X.1.2.1
  have Z : zW D A s [w_X1 cI cR a0 a1 a_state a_heights a_passPlaces a_programLength a_place a_slips a_clashes] s.heap [] := Z
  have hl : lv_has ls 1 [(0, .ref a0)] := hl
  refine lv_aload_n hx hb dX1_clubs_0 rfl (lv_at hl 0 rfl) ?_
  refine zg_X1_19 X Z 0 rfl rfl dX1_clubs_1 ?_
  obtain ⟨q1, hq1, hf⟩ := ob_s hf
  refine z_roS X Z (c_J6_bitCount_0f7a4 l D cI cR   a_state hq1) (zw_X1_57 X.1.2.2.2.2 ⟨Nat.le_of_ble_eq_true rfl, Nat.le_of_ble_eq_true rfl⟩) [] [0] (by decide : ([] ++ [0] : List Nat).Perm (List.range 1)) rfl rfl hl.1 rfl (Nat.le_of_ble_eq_true rfl) dX1_clubs_4 ⟨Nat.le_of_ble_eq_true rfl, Nat.le_of_ble_eq_true rfl⟩ (fun H locs Z => ?_)
  have hR := so_s hf
  subst hR
  refine z_iret X hr hlocks ?_ dX1_clubs_7
  exact Z.eq rfl
def f_X1_become_L10 (a_state : Int32) (a_passPlaces : Int32) (a_programLength : Int32) (a_place : Int32) (a_slips : Int32) (a_clashes : Int32) (b_state : Int32) (b_heights : (Nat → Int32)) (b_passPlaces : Int32) (b_programLength : Int32) (b_place : Int32) (b_slips : Int32) (b_clashes : Int32) : Nat → Int32 → (Nat → Int32) → Option (Int32 × (Nat → Int32) × Int32 × Int32 × Int32 × Int32 × Int32)
  | 0, _, _ => none
  | n + 1, x2, a_heights => if (8 : Int32) ≤ x2 then (some (a_state, a_heights, b_passPlaces, b_programLength, b_place, b_slips, b_clashes)) else ((f_X1_heightAt b_heights x2).bind (fun q2 => (f_X7_setAt 8 a_heights x2 q2).bind (fun q3 => f_X1_become_L10 a_state a_passPlaces a_programLength a_place a_slips a_clashes b_state b_heights b_passPlaces b_programLength b_place b_slips b_clashes n (x2 + (1 : Int32)) q3)))
set_option maxHeartbeats 4000000 in
set_option maxRecDepth 100000 in
theorem w_X1_become_L10 {p : Program} {l : Launch} {e : Env} {s : State} {m : MethodId} {args : Array Value} {below : List Frame} {meth : Method} {c : Code} {D : va_G} {cI cR : ClassId} {A : Nat → Prop} {a0 : Nat} {a1 : Nat} {b0 : Nat} {b1 : Nat} {a_state : Int32} {a_passPlaces : Int32} {a_programLength : Int32} {a_place : Int32} {a_slips : Int32} {a_clashes : Int32} {b_state : Int32} {b_heights : (Nat → Int32)} {b_passPlaces : Int32} {b_programLength : Int32} {b_place : Int32} {b_slips : Int32} {b_clashes : Int32} {R : Int32 × (Nat → Int32) × Int32 × Int32 × Int32 × Int32 × Int32} (X : zX p s m c cX1_become 3 args RX1 D cI cR A) (hr : meth.sig.returnType = none) (hlocks : meth.locks = false) : ∀ (n : Nat)  {x2 : Int32} {a_heights : (Nat → Int32)} {H : Heap} {locs : List Loc} {ls : Array Slot}, f_X1_become_L10 a_state a_passPlaces a_programLength a_place a_slips a_clashes b_state b_heights b_passPlaces b_programLength b_place b_slips b_clashes n x2 a_heights = some R → zW D A s [w_X1 cI cR a0 a1 a_state a_heights a_passPlaces a_programLength a_place a_slips a_clashes, w_X1 cI cR b0 b1 b_state b_heights b_passPlaces b_programLength b_place b_slips b_clashes] H locs → lv_has ls 3 [(0, .ref a0), (1, .ref b0), (2, .int x2)] → W p l e ({ frames := 2, cells := 0, slots := 0, locals := 42 } : Room) s m args below meth c H locs 0 0 (zE D A below s args none [w_X1 cI cR a0 a1 R.1 R.2.1 R.2.2.1 R.2.2.2.1 R.2.2.2.2.1 R.2.2.2.2.2.1 R.2.2.2.2.2.2, w_X1 cI cR b0 b1 b_state b_heights b_passPlaces b_programLength b_place b_slips b_clashes]) (F0 m 10 ls []) := by
  have hx := X.1.1
  have hb := X.1.2.1
  intro n
  induction n with
  | zero =>
    intro x2 a_heights H locs ls hf
    have hf : none = some R := hf
    cases hf
  | succ n ih =>
    intro x2 a_heights H locs ls hf Z hl
    refine lv_iload_n hx hb dX1_become_10 rfl (lv_at hl 2 rfl) ?_
    refine lv_bipush (v := 8) hx hb dX1_become_11 (by decide) ?_
    refine lv_icmp_ge (tgt := 35) hx hb dX1_become_13 (by decide) (fun c1 => ?_) (fun c1 => ?_)
    · have hf := it_t c1 hf
      refine lv_aload_n hx hb dX1_become_35 rfl (lv_at hl 0 rfl) ?_
      refine lv_aload_n hx hb dX1_become_36 rfl (lv_at hl 1 rfl) ?_
      refine zg_X1_30 X Z 2 rfl rfl dX1_become_37 ?_
      refine zp_X1_30 X Z 0 rfl (Nat.le_of_ble_eq_true rfl) [w_X1 cI cR a0 a1 a_state a_heights b_passPlaces a_programLength a_place a_slips a_clashes, w_X1 cI cR b0 b1 b_state b_heights b_passPlaces b_programLength b_place b_slips b_clashes] rfl dX1_become_40 (fun H locs Z => ?_)
      refine lv_aload_n hx hb dX1_become_43 rfl (lv_at hl 0 rfl) ?_
      refine lv_aload_n hx hb dX1_become_44 rfl (lv_at hl 1 rfl) ?_
      refine zg_X1_15 X Z 2 rfl rfl dX1_become_45 ?_
      refine zp_X1_15 X Z 0 rfl (Nat.le_of_ble_eq_true rfl) [w_X1 cI cR a0 a1 a_state a_heights b_passPlaces b_programLength a_place a_slips a_clashes, w_X1 cI cR b0 b1 b_state b_heights b_passPlaces b_programLength b_place b_slips b_clashes] rfl dX1_become_48 (fun H locs Z => ?_)
      refine lv_aload_n hx hb dX1_become_51 rfl (lv_at hl 0 rfl) ?_
      refine lv_aload_n hx hb dX1_become_52 rfl (lv_at hl 1 rfl) ?_
      refine zg_X1_33 X Z 2 rfl rfl dX1_become_53 ?_
      refine zp_X1_33 X Z 0 rfl (Nat.le_of_ble_eq_true rfl) [w_X1 cI cR a0 a1 a_state a_heights b_passPlaces b_programLength b_place a_slips a_clashes, w_X1 cI cR b0 b1 b_state b_heights b_passPlaces b_programLength b_place b_slips b_clashes] rfl dX1_become_56 (fun H locs Z => ?_)
      refine lv_aload_n hx hb dX1_become_59 rfl (lv_at hl 0 rfl) ?_
      refine lv_aload_n hx hb dX1_become_60 rfl (lv_at hl 1 rfl) ?_
      refine zg_X1_36 X Z 2 rfl rfl dX1_become_61 ?_
      refine zp_X1_36 X Z 0 rfl (Nat.le_of_ble_eq_true rfl) [w_X1 cI cR a0 a1 a_state a_heights b_passPlaces b_programLength b_place b_slips a_clashes, w_X1 cI cR b0 b1 b_state b_heights b_passPlaces b_programLength b_place b_slips b_clashes] rfl dX1_become_64 (fun H locs Z => ?_)
      refine lv_aload_n hx hb dX1_become_67 rfl (lv_at hl 0 rfl) ?_
      refine lv_aload_n hx hb dX1_become_68 rfl (lv_at hl 1 rfl) ?_
      refine zg_X1_39 X Z 2 rfl rfl dX1_become_69 ?_
      refine zp_X1_39 X Z 0 rfl (Nat.le_of_ble_eq_true rfl) [w_X1 cI cR a0 a1 a_state a_heights b_passPlaces b_programLength b_place b_slips b_clashes, w_X1 cI cR b0 b1 b_state b_heights b_passPlaces b_programLength b_place b_slips b_clashes] rfl dX1_become_72 (fun H locs Z => ?_)
      have hR := so_s hf
      subst hR
      refine z_vret X hr hlocks ?_ dX1_become_75
      exact Z.eq rfl
    · have hf := it_f c1 hf
      refine lv_aload_n hx hb dX1_become_16 rfl (lv_at hl 0 rfl) ?_
      refine zg_X1_9 X Z 0 rfl rfl dX1_become_17 ?_
      refine lv_iload_n hx hb dX1_become_20 rfl (lv_at hl 2 rfl) ?_
      refine lv_aload_n hx hb dX1_become_21 rfl (lv_at hl 1 rfl) ?_
      refine lv_iload_n hx hb dX1_become_22 rfl (lv_at hl 2 rfl) ?_
      obtain ⟨q2, hq2, hf⟩ := ob_s hf
      refine z_roV X Z (c_X1_heightAt l D cI cR b0 b1 b_state b_heights b_passPlaces b_programLength b_place b_slips b_clashes x2 hq2) (zw_X1_22 X.1.2.2.2.2 ⟨Nat.le_of_ble_eq_true rfl, Nat.le_of_ble_eq_true rfl⟩) 2 1 rfl rfl rfl [1] [0] (by decide : ([1] ++ [0] : List Nat).Perm (List.range 2)) rfl rfl hl.1 rfl (Nat.le_of_ble_eq_true rfl) dX1_become_23 ⟨Nat.le_of_ble_eq_true rfl, Nat.le_of_ble_eq_true rfl⟩ (fun H locs Z => ?_)
      have Z : zW D A s [[(a0, .inr (1, [.int a_state, .ref a1, .int a_passPlaces, .int a_programLength, .int a_place, .int a_slips, .int a_clashes]))], [(a1, .inl (cI, 8, .inl a_heights))], w_X1 cI cR b0 b1 b_state b_heights b_passPlaces b_programLength b_place b_slips b_clashes] _ _ := Z.eq rfl
      obtain ⟨q3, hq3, hf⟩ := ob_s hf
      refine z_callSN X Z (c_X7_setAt l D cI cR a1 8 a_heights x2 q2 hq3) (zw_X1_26 X.2.1 X.1.2.2.2.2 ⟨Nat.le_of_ble_eq_true rfl, Nat.le_of_ble_eq_true rfl⟩) [1] [0, 2] [[(a0, .inr (1, [.int a_state, .ref a1, .int a_passPlaces, .int a_programLength, .int a_place, .int a_slips, .int a_clashes]))], [(a1, .inl (cI, 8, .inl q3))], w_X1 cI cR b0 b1 b_state b_heights b_passPlaces b_programLength b_place b_slips b_clashes] (by decide : ([1] ++ [0, 2] : List Nat).Perm (List.range 3)) rfl rfl rfl rfl rfl hl.1 rfl (Nat.le_of_ble_eq_true rfl) dX1_become_26 ⟨Nat.le_of_ble_eq_true rfl, Nat.le_of_ble_eq_true rfl⟩ (fun H locs Z => ?_)
      refine lv_iinc (v := x2 + (1 : Int32)) (lv' := [(2, .int (x2 + (1 : Int32))), (0, .ref a0), (1, .ref b0)]) hx hb dX1_become_29 hl (k := 2) rfl rfl (by decide) rfl (fun ls hl => ?_)
      refine lv_goto (tgt := 10) hx hb dX1_become_32 (by decide) ?_
      have Z : zW D A s [w_X1 cI cR a0 a1 a_state q3 a_passPlaces a_programLength a_place a_slips a_clashes, w_X1 cI cR b0 b1 b_state b_heights b_passPlaces b_programLength b_place b_slips b_clashes] _ _ := Z.eq rfl
      exact ih hf Z (lv_sub hl [1, 2, 0] rfl)

def f_X1_become (a_state : Int32) (a_heights : (Nat → Int32)) (a_passPlaces : Int32) (a_programLength : Int32) (a_place : Int32) (a_slips : Int32) (a_clashes : Int32) (b_state : Int32) (b_heights : (Nat → Int32)) (b_passPlaces : Int32) (b_programLength : Int32) (b_place : Int32) (b_slips : Int32) (b_clashes : Int32) : Option (Int32 × (Nat → Int32) × Int32 × Int32 × Int32 × Int32 × Int32) := f_X1_become_L10 b_state a_passPlaces a_programLength a_place a_slips a_clashes b_state b_heights b_passPlaces b_programLength b_place b_slips b_clashes zF (0 : Int32) a_heights
set_option maxHeartbeats 4000000 in
set_option maxRecDepth 100000 in
theorem c_X1_become (l : Launch) (D : va_G) (cI cR : ClassId) (a0 : Nat) (a1 : Nat) (b0 : Nat) (b1 : Nat) (a_state : Int32) (a_heights : (Nat → Int32)) (a_passPlaces : Int32) (a_programLength : Int32) (a_place : Int32) (a_slips : Int32) (a_clashes : Int32) (b_state : Int32) (b_heights : (Nat → Int32)) (b_passPlaces : Int32) (b_programLength : Int32) (b_place : Int32) (b_slips : Int32) (b_clashes : Int32) {R : Int32 × (Nat → Int32) × Int32 × Int32 × Int32 × Int32 × Int32} (hf : f_X1_become a_state a_heights a_passPlaces a_programLength a_place a_slips a_clashes b_state b_heights b_passPlaces b_programLength b_place b_slips b_clashes = some R) : zM l D cI cR yX1_become cX1_become 3 none 2 42 [.ref a0, .ref b0] [w_X1 cI cR a0 a1 a_state a_heights a_passPlaces a_programLength a_place a_slips a_clashes, w_X1 cI cR b0 b1 b_state b_heights b_passPlaces b_programLength b_place b_slips b_clashes] none [w_X1 cI cR a0 a1 R.1 R.2.1 R.2.2.1 R.2.2.2.1 R.2.2.2.2.1 R.2.2.2.2.2.1 R.2.2.2.2.2.2, w_X1 cI cR b0 b1 b_state b_heights b_passPlaces b_programLength b_place b_slips b_clashes] := by
  refine z_of (own := RX1) rfl (by decide) (Nat.le_of_ble_eq_true rfl) ?_
  intro p e s m args below meth c A ls X hr hlocks Z hl
  have hx := X.1.1
  have hb := X.1.2.1
  have Z : zW D A s [w_X1 cI cR a0 a1 a_state a_heights a_passPlaces a_programLength a_place a_slips a_clashes, w_X1 cI cR b0 b1 b_state b_heights b_passPlaces b_programLength b_place b_slips b_clashes] s.heap [] := Z
  have hl : lv_has ls 3 [(0, .ref a0), (1, .ref b0)] := hl
  refine lv_aload_n hx hb dX1_become_0 rfl (lv_at hl 0 rfl) ?_
  refine lv_aload_n hx hb dX1_become_1 rfl (lv_at hl 1 rfl) ?_
  refine zg_X1_19 X Z 2 rfl rfl dX1_become_2 ?_
  refine zp_X1_19 X Z 0 rfl (Nat.le_of_ble_eq_true rfl) [w_X1 cI cR a0 a1 b_state a_heights a_passPlaces a_programLength a_place a_slips a_clashes, w_X1 cI cR b0 b1 b_state b_heights b_passPlaces b_programLength b_place b_slips b_clashes] rfl dX1_become_5 (fun H locs Z => ?_)
  refine lv_iconst (v := 0) hx hb dX1_become_8 (by decide) ?_
  refine lv_istore_n (lv' := [(2, .int (0 : Int32)), (0, .ref a0), (1, .ref b0)]) hx hb dX1_become_9 rfl hl (by decide) rfl (fun ls hl => ?_)
  exact w_X1_become_L10 X hr hlocks _ hf Z (lv_sub hl [1, 2, 0] rfl)
def f_X1_begin (a_state : Int32) (a_place : Int32) (a_slips : Int32) (a_clashes : Int32) (p1 : Int32) : Option (Int32 × Int32 × Int32 × Int32) := (f_X7_firstBeats p1).bind (fun q1 => some (q1, (0 : Int32), (0 : Int32), (0 : Int32)))
set_option maxHeartbeats 4000000 in
set_option maxRecDepth 100000 in
theorem c_X1_begin (l : Launch) (D : va_G) (cI cR : ClassId) (a0 : Nat) (a1 : Nat) (a_state : Int32) (a_heights : (Nat → Int32)) (a_passPlaces : Int32) (a_programLength : Int32) (a_place : Int32) (a_slips : Int32) (a_clashes : Int32) (p1 : Int32) {R : Int32 × Int32 × Int32 × Int32} (hf : f_X1_begin a_state a_place a_slips a_clashes p1 = some R) : zM l D cI cR yX1_begin cX1_begin 2 none 1 20 [.ref a0, .int p1] [w_X1 cI cR a0 a1 a_state a_heights a_passPlaces a_programLength a_place a_slips a_clashes] none [w_X1 cI cR a0 a1 R.1 a_heights a_passPlaces a_programLength R.2.1 R.2.2.1 R.2.2.2] := by
  refine z_of (own := RX1) rfl (by decide) (Nat.le_of_ble_eq_true rfl) ?_
  intro p e s m args below meth c A ls X hr hlocks Z hl
  have hx := X.1.1
  have hb := X.1.2.1
  have Z : zW D A s [w_X1 cI cR a0 a1 a_state a_heights a_passPlaces a_programLength a_place a_slips a_clashes] s.heap [] := Z
  have hl : lv_has ls 2 [(0, .ref a0), (1, .int p1)] := hl
  refine lv_aload_n hx hb dX1_begin_0 rfl (lv_at hl 0 rfl) ?_
  refine lv_iload_n hx hb dX1_begin_1 rfl (lv_at hl 1 rfl) ?_
  obtain ⟨q1, hq1, hf⟩ := ob_s hf
  refine z_roSN X Z (c_X7_firstBeats l D cI cR   p1 hq1) (zw_X1_42 X.2.1 X.1.2.2.2.2 ⟨Nat.le_of_ble_eq_true rfl, Nat.le_of_ble_eq_true rfl⟩) [] [0] (by decide : ([] ++ [0] : List Nat).Perm (List.range 1)) rfl rfl hl.1 rfl (Nat.le_of_ble_eq_true rfl) dX1_begin_2 ⟨Nat.le_of_ble_eq_true rfl, Nat.le_of_ble_eq_true rfl⟩ (fun H locs Z => ?_)
  refine zp_X1_19 X Z 0 rfl (Nat.le_of_ble_eq_true rfl) [w_X1 cI cR a0 a1 q1 a_heights a_passPlaces a_programLength a_place a_slips a_clashes] rfl dX1_begin_5 (fun H locs Z => ?_)
  refine lv_aload_n hx hb dX1_begin_8 rfl (lv_at hl 0 rfl) ?_
  refine lv_iconst (v := 0) hx hb dX1_begin_9 (by decide) ?_
  refine zp_X1_33 X Z 0 rfl (Nat.le_of_ble_eq_true rfl) [w_X1 cI cR a0 a1 q1 a_heights a_passPlaces a_programLength (0 : Int32) a_slips a_clashes] rfl dX1_begin_10 (fun H locs Z => ?_)
  refine lv_aload_n hx hb dX1_begin_13 rfl (lv_at hl 0 rfl) ?_
  refine lv_iconst (v := 0) hx hb dX1_begin_14 (by decide) ?_
  refine zp_X1_36 X Z 0 rfl (Nat.le_of_ble_eq_true rfl) [w_X1 cI cR a0 a1 q1 a_heights a_passPlaces a_programLength (0 : Int32) (0 : Int32) a_clashes] rfl dX1_begin_15 (fun H locs Z => ?_)
  refine lv_aload_n hx hb dX1_begin_18 rfl (lv_at hl 0 rfl) ?_
  refine lv_iconst (v := 0) hx hb dX1_begin_19 (by decide) ?_
  refine zp_X1_39 X Z 0 rfl (Nat.le_of_ble_eq_true rfl) [w_X1 cI cR a0 a1 q1 a_heights a_passPlaces a_programLength (0 : Int32) (0 : Int32) (0 : Int32)] rfl dX1_begin_20 (fun H locs Z => ?_)
  have hR := so_s hf
  subst hR
  refine z_vret X hr hlocks ?_ dX1_begin_23
  exact Z.eq rfl
def f_X1_learn_L17 (a_place : Int32) (b_codes : (Nat → Int32)) (b_length : Int32) : Nat → Int32 → (Nat → Int32) → Int32 → Int32 → Option ((Nat → Int32) × Int32 × Int32 × Int32)
  | 0, _, _, _, _ => none
  | n + 1, x2, a_heights, a_passPlaces, a_programLength => if b_length ≤ x2 then (some (a_heights, a_passPlaces, a_programLength, a_place)) else ((f_X2_isHeightAt b_codes x2).bind (fun q2 => if q2 = 0 then (f_X1_learn_L17 a_place b_codes b_length n (x2 + (1 : Int32)) a_heights (a_passPlaces ||| ((1 : Int32) <<< ((a_programLength - (1 : Int32)) &&& 31))) a_programLength) else ((f_X2_digit b_codes x2).bind (fun q4 => (f_X7_setAt 8 a_heights a_programLength q4).bind (fun q5 => f_X1_learn_L17 a_place b_codes b_length n (x2 + (1 : Int32)) q5 a_passPlaces (a_programLength + (1 : Int32)))))))
set_option maxHeartbeats 4000000 in
set_option maxRecDepth 100000 in
theorem w_X1_learn_L17 {p : Program} {l : Launch} {e : Env} {s : State} {m : MethodId} {args : Array Value} {below : List Frame} {meth : Method} {c : Code} {D : va_G} {cI cR : ClassId} {A : Nat → Prop} {a0 : Nat} {a1 : Nat} {b0 : Nat} {b1 : Nat} {a_state : Int32} {a_place : Int32} {a_slips : Int32} {a_clashes : Int32} {b_codes : (Nat → Int32)} {b_length : Int32} {R : (Nat → Int32) × Int32 × Int32 × Int32} (X : zX p s m c cX1_learn 3 args RX1 D cI cR A) (hr : meth.sig.returnType = none) (hlocks : meth.locks = false) : ∀ (n : Nat)  {x2 : Int32} {a_heights : (Nat → Int32)} {a_passPlaces : Int32} {a_programLength : Int32} {H : Heap} {locs : List Loc} {ls : Array Slot}, f_X1_learn_L17 a_place b_codes b_length n x2 a_heights a_passPlaces a_programLength = some R → zW D A s [w_X1 cI cR a0 a1 a_state a_heights a_passPlaces a_programLength a_place a_slips a_clashes, w_X2 cI cR b0 b1 b_codes b_length] H locs → lv_has ls 3 [(0, .ref a0), (1, .ref b0), (2, .int x2)] → W p l e ({ frames := 3, cells := 0, slots := 0, locals := 63 } : Room) s m args below meth c H locs 0 0 (zE D A below s args none [w_X1 cI cR a0 a1 a_state R.1 R.2.1 R.2.2.1 R.2.2.2 a_slips a_clashes, w_X2 cI cR b0 b1 b_codes b_length]) (F0 m 17 ls []) := by
  have hx := X.1.1
  have hb := X.1.2.1
  intro n
  induction n with
  | zero =>
    intro x2 a_heights a_passPlaces a_programLength H locs ls hf
    have hf : none = some R := hf
    cases hf
  | succ n ih =>
    intro x2 a_heights a_passPlaces a_programLength H locs ls hf Z hl
    refine lv_iload_n hx hb dX1_learn_17 rfl (lv_at hl 2 rfl) ?_
    refine lv_aload_n hx hb dX1_learn_18 rfl (lv_at hl 1 rfl) ?_
    refine zg_X1_47 X Z 2 rfl rfl dX1_learn_19 ?_
    refine lv_icmp_ge (tgt := 85) hx hb dX1_learn_22 (by decide) (fun c1 => ?_) (fun c1 => ?_)
    · have hf := it_t c1 hf
      have hR := so_s hf
      subst hR
      refine z_vret X hr hlocks ?_ dX1_learn_85
      exact Z.eq rfl
    · have hf := it_f c1 hf
      refine lv_aload_n hx hb dX1_learn_25 rfl (lv_at hl 1 rfl) ?_
      refine lv_iload_n hx hb dX1_learn_26 rfl (lv_at hl 2 rfl) ?_
      obtain ⟨q2, hq2, hf⟩ := ob_s hf
      refine z_roVN X Z (c_X2_isHeightAt l D cI cR b0 b1 b_codes b_length x2 hq2) (zw_X1_50 X.2.1 X.1.2.2.2.2 ⟨Nat.le_of_ble_eq_true rfl, Nat.le_of_ble_eq_true rfl⟩) 2 2 rfl rfl rfl [1] [0] (by decide : ([1] ++ [0] : List Nat).Perm (List.range 2)) rfl rfl hl.1 rfl (Nat.le_of_ble_eq_true rfl) dX1_learn_27 ⟨Nat.le_of_ble_eq_true rfl, Nat.le_of_ble_eq_true rfl⟩ (fun H locs Z => ?_)
      refine lv_if_eq (tgt := 62) hx hb dX1_learn_30 (by decide) (fun c3 => ?_) (fun c3 => ?_)
      · have hf := it_t c3 hf
        refine lv_aload_n hx hb dX1_learn_62 rfl (lv_at hl 0 rfl) ?_
        refine lv_dup hx hb dX1_learn_63 rfl ?_
        refine zg_X1_30 X Z 0 rfl rfl dX1_learn_64 ?_
        refine lv_iconst (v := 1) hx hb dX1_learn_67 (by decide) ?_
        refine lv_aload_n hx hb dX1_learn_68 rfl (lv_at hl 0 rfl) ?_
        refine zg_X1_15 X Z 0 rfl rfl dX1_learn_69 ?_
        refine lv_iconst (v := 1) hx hb dX1_learn_72 (by decide) ?_
        refine lv_isub hx hb dX1_learn_73 ?_
        refine lv_ishl hx hb dX1_learn_74 ?_
        refine lv_ior hx hb dX1_learn_75 ?_
        refine zp_X1_30 X Z 0 rfl (Nat.le_of_ble_eq_true rfl) [w_X1 cI cR a0 a1 a_state a_heights (a_passPlaces ||| ((1 : Int32) <<< ((a_programLength - (1 : Int32)) &&& 31))) a_programLength a_place a_slips a_clashes, w_X2 cI cR b0 b1 b_codes b_length] rfl dX1_learn_76 (fun H locs Z => ?_)
        refine lv_iinc (v := x2 + (1 : Int32)) (lv' := [(2, .int (x2 + (1 : Int32))), (0, .ref a0), (1, .ref b0)]) hx hb dX1_learn_79 hl (k := 2) rfl rfl (by decide) rfl (fun ls hl => ?_)
        refine lv_goto (tgt := 17) hx hb dX1_learn_82 (by decide) ?_
        exact ih hf Z (lv_sub hl [1, 2, 0] rfl)
      · have hf := it_f c3 hf
        refine lv_aload_n hx hb dX1_learn_33 rfl (lv_at hl 0 rfl) ?_
        refine zg_X1_9 X Z 0 rfl rfl dX1_learn_34 ?_
        refine lv_aload_n hx hb dX1_learn_37 rfl (lv_at hl 0 rfl) ?_
        refine zg_X1_15 X Z 0 rfl rfl dX1_learn_38 ?_
        refine lv_aload_n hx hb dX1_learn_41 rfl (lv_at hl 1 rfl) ?_
        refine lv_iload_n hx hb dX1_learn_42 rfl (lv_at hl 2 rfl) ?_
        obtain ⟨q4, hq4, hf⟩ := ob_s hf
        refine z_roVN X Z (c_X2_digit l D cI cR b0 b1 b_codes b_length x2 hq4) (zw_X1_54 X.2.1 X.1.2.2.2.2 ⟨Nat.le_of_ble_eq_true rfl, Nat.le_of_ble_eq_true rfl⟩) 2 2 rfl rfl rfl [1] [0] (by decide : ([1] ++ [0] : List Nat).Perm (List.range 2)) rfl rfl hl.1 rfl (Nat.le_of_ble_eq_true rfl) dX1_learn_43 ⟨Nat.le_of_ble_eq_true rfl, Nat.le_of_ble_eq_true rfl⟩ (fun H locs Z => ?_)
        have Z : zW D A s [[(a0, .inr (1, [.int a_state, .ref a1, .int a_passPlaces, .int a_programLength, .int a_place, .int a_slips, .int a_clashes]))], [(a1, .inl (cI, 8, .inl a_heights))], w_X2 cI cR b0 b1 b_codes b_length] _ _ := Z.eq rfl
        obtain ⟨q5, hq5, hf⟩ := ob_s hf
        refine z_callSN X Z (c_X7_setAt l D cI cR a1 8 a_heights a_programLength q4 hq5) (zw_X1_26 X.2.1 X.1.2.2.2.2 ⟨Nat.le_of_ble_eq_true rfl, Nat.le_of_ble_eq_true rfl⟩) [1] [0, 2] [[(a0, .inr (1, [.int a_state, .ref a1, .int a_passPlaces, .int a_programLength, .int a_place, .int a_slips, .int a_clashes]))], [(a1, .inl (cI, 8, .inl q5))], w_X2 cI cR b0 b1 b_codes b_length] (by decide : ([1] ++ [0, 2] : List Nat).Perm (List.range 3)) rfl rfl rfl rfl rfl hl.1 rfl (Nat.le_of_ble_eq_true rfl) dX1_learn_46 ⟨Nat.le_of_ble_eq_true rfl, Nat.le_of_ble_eq_true rfl⟩ (fun H locs Z => ?_)
        refine lv_aload_n hx hb dX1_learn_49 rfl (lv_at hl 0 rfl) ?_
        refine lv_dup hx hb dX1_learn_50 rfl ?_
        refine zg_X1_15 X Z 0 rfl rfl dX1_learn_51 ?_
        refine lv_iconst (v := 1) hx hb dX1_learn_54 (by decide) ?_
        refine lv_iadd hx hb dX1_learn_55 ?_
        refine zp_X1_15 X Z 0 rfl (Nat.le_of_ble_eq_true rfl) [[(a0, .inr (1, [.int a_state, .ref a1, .int a_passPlaces, .int (a_programLength + (1 : Int32)), .int a_place, .int a_slips, .int a_clashes]))], [(a1, .inl (cI, 8, .inl q5))], w_X2 cI cR b0 b1 b_codes b_length] rfl dX1_learn_56 (fun H locs Z => ?_)
        refine lv_goto (tgt := 79) hx hb dX1_learn_59 (by decide) ?_
        refine lv_iinc (v := x2 + (1 : Int32)) (lv' := [(2, .int (x2 + (1 : Int32))), (0, .ref a0), (1, .ref b0)]) hx hb dX1_learn_79 hl (k := 2) rfl rfl (by decide) rfl (fun ls hl => ?_)
        refine lv_goto (tgt := 17) hx hb dX1_learn_82 (by decide) ?_
        have Z : zW D A s [w_X1 cI cR a0 a1 a_state q5 a_passPlaces (a_programLength + (1 : Int32)) a_place a_slips a_clashes, w_X2 cI cR b0 b1 b_codes b_length] _ _ := Z.eq rfl
        exact ih hf Z (lv_sub hl [1, 2, 0] rfl)

def f_X1_learn (a_heights : (Nat → Int32)) (a_passPlaces : Int32) (a_programLength : Int32) (a_place : Int32) (b_codes : (Nat → Int32)) (b_length : Int32) : Option ((Nat → Int32) × Int32 × Int32 × Int32) := f_X1_learn_L17 (0 : Int32) b_codes b_length zF (2 : Int32) a_heights (0 : Int32) (0 : Int32)
set_option maxHeartbeats 4000000 in
set_option maxRecDepth 100000 in
theorem c_X1_learn (l : Launch) (D : va_G) (cI cR : ClassId) (a0 : Nat) (a1 : Nat) (b0 : Nat) (b1 : Nat) (a_state : Int32) (a_heights : (Nat → Int32)) (a_passPlaces : Int32) (a_programLength : Int32) (a_place : Int32) (a_slips : Int32) (a_clashes : Int32) (b_codes : (Nat → Int32)) (b_length : Int32) {R : (Nat → Int32) × Int32 × Int32 × Int32} (hf : f_X1_learn a_heights a_passPlaces a_programLength a_place b_codes b_length = some R) : zM l D cI cR yX1_learn cX1_learn 3 none 3 63 [.ref a0, .ref b0] [w_X1 cI cR a0 a1 a_state a_heights a_passPlaces a_programLength a_place a_slips a_clashes, w_X2 cI cR b0 b1 b_codes b_length] none [w_X1 cI cR a0 a1 a_state R.1 R.2.1 R.2.2.1 R.2.2.2 a_slips a_clashes, w_X2 cI cR b0 b1 b_codes b_length] := by
  refine z_of (own := RX1) rfl (by decide) (Nat.le_of_ble_eq_true rfl) ?_
  intro p e s m args below meth c A ls X hr hlocks Z hl
  have hx := X.1.1
  have hb := X.1.2.1
  have Z : zW D A s [w_X1 cI cR a0 a1 a_state a_heights a_passPlaces a_programLength a_place a_slips a_clashes, w_X2 cI cR b0 b1 b_codes b_length] s.heap [] := Z
  have hl : lv_has ls 3 [(0, .ref a0), (1, .ref b0)] := hl
  refine lv_aload_n hx hb dX1_learn_0 rfl (lv_at hl 0 rfl) ?_
  refine lv_iconst (v := 0) hx hb dX1_learn_1 (by decide) ?_
  refine zp_X1_15 X Z 0 rfl (Nat.le_of_ble_eq_true rfl) [w_X1 cI cR a0 a1 a_state a_heights a_passPlaces (0 : Int32) a_place a_slips a_clashes, w_X2 cI cR b0 b1 b_codes b_length] rfl dX1_learn_2 (fun H locs Z => ?_)
  refine lv_aload_n hx hb dX1_learn_5 rfl (lv_at hl 0 rfl) ?_
  refine lv_iconst (v := 0) hx hb dX1_learn_6 (by decide) ?_
  refine zp_X1_30 X Z 0 rfl (Nat.le_of_ble_eq_true rfl) [w_X1 cI cR a0 a1 a_state a_heights (0 : Int32) (0 : Int32) a_place a_slips a_clashes, w_X2 cI cR b0 b1 b_codes b_length] rfl dX1_learn_7 (fun H locs Z => ?_)
  refine lv_aload_n hx hb dX1_learn_10 rfl (lv_at hl 0 rfl) ?_
  refine lv_iconst (v := 0) hx hb dX1_learn_11 (by decide) ?_
  refine zp_X1_33 X Z 0 rfl (Nat.le_of_ble_eq_true rfl) [w_X1 cI cR a0 a1 a_state a_heights (0 : Int32) (0 : Int32) (0 : Int32) a_slips a_clashes, w_X2 cI cR b0 b1 b_codes b_length] rfl dX1_learn_12 (fun H locs Z => ?_)
  refine lv_iconst (v := 2) hx hb dX1_learn_15 (by decide) ?_
  refine lv_istore_n (lv' := [(2, .int (2 : Int32)), (0, .ref a0), (1, .ref b0)]) hx hb dX1_learn_16 rfl hl (by decide) rfl (fun ls hl => ?_)
  exact w_X1_learn_L17 X hr hlocks _ hf Z (lv_sub hl [1, 2, 0] rfl)
def f_X1_endBeat (a_state : Int32) (a_programLength : Int32) (a_place : Int32) : Option (Int32 × Int32) := if (a_place + (1 : Int32)) < a_programLength then (some (a_state >>> ((1 : Int32) &&& 31), a_place + (1 : Int32))) else (some (a_state >>> ((1 : Int32) &&& 31), (0 : Int32)))
set_option maxHeartbeats 4000000 in
set_option maxRecDepth 100000 in
theorem c_X1_endBeat (l : Launch) (D : va_G) (cI cR : ClassId) (a0 : Nat) (a1 : Nat) (a_state : Int32) (a_heights : (Nat → Int32)) (a_passPlaces : Int32) (a_programLength : Int32) (a_place : Int32) (a_slips : Int32) (a_clashes : Int32) {R : Int32 × Int32} (hf : f_X1_endBeat a_state a_programLength a_place = some R) : zM l D cI cR yX1_endBeat cX1_endBeat 1 none 0 0 [.ref a0] [w_X1 cI cR a0 a1 a_state a_heights a_passPlaces a_programLength a_place a_slips a_clashes] none [w_X1 cI cR a0 a1 R.1 a_heights a_passPlaces a_programLength R.2 a_slips a_clashes] := by
  refine z_of (own := RX1) rfl (by decide) (Nat.le_of_ble_eq_true rfl) ?_
  intro p e s m args below meth c A ls X hr hlocks Z hl
  have hx := X.1.1
  have hb := X.1.2.1
  have Z : zW D A s [w_X1 cI cR a0 a1 a_state a_heights a_passPlaces a_programLength a_place a_slips a_clashes] s.heap [] := Z
  have hl : lv_has ls 1 [(0, .ref a0)] := hl
  refine lv_aload_n hx hb dX1_endBeat_0 rfl (lv_at hl 0 rfl) ?_
  refine lv_dup hx hb dX1_endBeat_1 rfl ?_
  refine zg_X1_19 X Z 0 rfl rfl dX1_endBeat_2 ?_
  refine lv_iconst (v := 1) hx hb dX1_endBeat_5 (by decide) ?_
  refine lv_ishr hx hb dX1_endBeat_6 ?_
  refine zp_X1_19 X Z 0 rfl (Nat.le_of_ble_eq_true rfl) [w_X1 cI cR a0 a1 (a_state >>> ((1 : Int32) &&& 31)) a_heights a_passPlaces a_programLength a_place a_slips a_clashes] rfl dX1_endBeat_7 (fun H locs Z => ?_)
  refine lv_aload_n hx hb dX1_endBeat_10 rfl (lv_at hl 0 rfl) ?_
  refine lv_dup hx hb dX1_endBeat_11 rfl ?_
  refine zg_X1_33 X Z 0 rfl rfl dX1_endBeat_12 ?_
  refine lv_iconst (v := 1) hx hb dX1_endBeat_15 (by decide) ?_
  refine lv_iadd hx hb dX1_endBeat_16 ?_
  refine zp_X1_33 X Z 0 rfl (Nat.le_of_ble_eq_true rfl) [w_X1 cI cR a0 a1 (a_state >>> ((1 : Int32) &&& 31)) a_heights a_passPlaces a_programLength (a_place + (1 : Int32)) a_slips a_clashes] rfl dX1_endBeat_17 (fun H locs Z => ?_)
  refine lv_aload_n hx hb dX1_endBeat_20 rfl (lv_at hl 0 rfl) ?_
  refine zg_X1_33 X Z 0 rfl rfl dX1_endBeat_21 ?_
  refine lv_aload_n hx hb dX1_endBeat_24 rfl (lv_at hl 0 rfl) ?_
  refine zg_X1_15 X Z 0 rfl rfl dX1_endBeat_25 ?_
  refine lv_icmp_lt (tgt := 36) hx hb dX1_endBeat_28 (by decide) (fun c1 => ?_) (fun c1 => ?_)
  · have hf := it_t c1 hf
    have hR := so_s hf
    subst hR
    refine z_vret X hr hlocks ?_ dX1_endBeat_36
    exact Z.eq rfl
  · have hf := it_f c1 hf
    refine lv_aload_n hx hb dX1_endBeat_31 rfl (lv_at hl 0 rfl) ?_
    refine lv_iconst (v := 0) hx hb dX1_endBeat_32 (by decide) ?_
    refine zp_X1_33 X Z 0 rfl (Nat.le_of_ble_eq_true rfl) [w_X1 cI cR a0 a1 (a_state >>> ((1 : Int32) &&& 31)) a_heights a_passPlaces a_programLength (0 : Int32) a_slips a_clashes] rfl dX1_endBeat_33 (fun H locs Z => ?_)
    have hR := so_s hf
    subst hR
    refine z_vret X hr hlocks ?_ dX1_endBeat_36
    exact Z.eq rfl
def f_X1_standsLike (a_state : Int32) (a_place : Int32) (b_state : Int32) (b_place : Int32) : Option (Int32) := if a_state = b_state then (if a_place = b_place then (some (1 : Int32)) else (some (0 : Int32))) else (some (0 : Int32))
set_option maxHeartbeats 4000000 in
set_option maxRecDepth 100000 in
theorem c_X1_standsLike (l : Launch) (D : va_G) (cI cR : ClassId) (a0 : Nat) (a1 : Nat) (b0 : Nat) (b1 : Nat) (a_state : Int32) (a_heights : (Nat → Int32)) (a_passPlaces : Int32) (a_programLength : Int32) (a_place : Int32) (a_slips : Int32) (a_clashes : Int32) (b_state : Int32) (b_heights : (Nat → Int32)) (b_passPlaces : Int32) (b_programLength : Int32) (b_place : Int32) (b_slips : Int32) (b_clashes : Int32) {R : Int32} (hf : f_X1_standsLike a_state a_place b_state b_place = some R) : zM l D cI cR yX1_standsLike cX1_standsLike 2 (some .boolean) 0 0 [.ref a0, .ref b0] [w_X1 cI cR a0 a1 a_state a_heights a_passPlaces a_programLength a_place a_slips a_clashes, w_X1 cI cR b0 b1 b_state b_heights b_passPlaces b_programLength b_place b_slips b_clashes] (some (.int R)) [w_X1 cI cR a0 a1 a_state a_heights a_passPlaces a_programLength a_place a_slips a_clashes, w_X1 cI cR b0 b1 b_state b_heights b_passPlaces b_programLength b_place b_slips b_clashes] := by
  refine z_of (own := RX1) rfl (by decide) (Nat.le_of_ble_eq_true rfl) ?_
  intro p e s m args below meth c A ls X hr hlocks Z hl
  have hx := X.1.1
  have hb := X.1.2.1
  have Z : zW D A s [w_X1 cI cR a0 a1 a_state a_heights a_passPlaces a_programLength a_place a_slips a_clashes, w_X1 cI cR b0 b1 b_state b_heights b_passPlaces b_programLength b_place b_slips b_clashes] s.heap [] := Z
  have hl : lv_has ls 2 [(0, .ref a0), (1, .ref b0)] := hl
  refine lv_aload_n hx hb dX1_standsLike_0 rfl (lv_at hl 0 rfl) ?_
  refine zg_X1_19 X Z 0 rfl rfl dX1_standsLike_1 ?_
  refine lv_aload_n hx hb dX1_standsLike_4 rfl (lv_at hl 1 rfl) ?_
  refine zg_X1_19 X Z 2 rfl rfl dX1_standsLike_5 ?_
  refine lv_icmp_ne (tgt := 26) hx hb dX1_standsLike_8 (by decide) (fun c1 => ?_) (fun c1 => ?_)
  · have hf := it_f c1 hf
    refine lv_iconst (v := 0) hx hb dX1_standsLike_26 (by decide) ?_
    have hR := so_s hf
    subst hR
    refine z_zret X hr hlocks (Or.inl rfl) ?_ dX1_standsLike_27
    exact Z.eq rfl
  · have hf := it_t c1 hf
    refine lv_aload_n hx hb dX1_standsLike_11 rfl (lv_at hl 0 rfl) ?_
    refine zg_X1_33 X Z 0 rfl rfl dX1_standsLike_12 ?_
    refine lv_aload_n hx hb dX1_standsLike_15 rfl (lv_at hl 1 rfl) ?_
    refine zg_X1_33 X Z 2 rfl rfl dX1_standsLike_16 ?_
    refine lv_icmp_ne (tgt := 26) hx hb dX1_standsLike_19 (by decide) (fun c2 => ?_) (fun c2 => ?_)
    · have hf := it_f c2 hf
      refine lv_iconst (v := 0) hx hb dX1_standsLike_26 (by decide) ?_
      have hR := so_s hf
      subst hR
      refine z_zret X hr hlocks (Or.inl rfl) ?_ dX1_standsLike_27
      exact Z.eq rfl
    · have hf := it_t c2 hf
      refine lv_iconst (v := 1) hx hb dX1_standsLike_22 (by decide) ?_
      refine lv_goto (tgt := 27) hx hb dX1_standsLike_23 (by decide) ?_
      have hR := so_s hf
      subst hR
      refine z_zret X hr hlocks (Or.inr rfl) ?_ dX1_standsLike_27
      exact Z.eq rfl
theorem b_X1_standsLike {a_state : Int32} {a_place : Int32} {b_state : Int32} {b_place : Int32} {R : Int32} (hf : f_X1_standsLike a_state a_place b_state b_place = some R) : R = 0 ∨ R = 1 := by
  rcases Decidable.em (a_state = b_state) with c1 | c1
  · have hf := it_t c1 hf
    rcases Decidable.em (a_place = b_place) with c2 | c2
    · have hf := it_t c2 hf
      have hR := so_s hf
      subst hR
      exact (Or.inr rfl)
    · have hf := it_f c2 hf
      have hR := so_s hf
      subst hR
      exact (Or.inl rfl)
  · have hf := it_f c1 hf
    have hR := so_s hf
    subst hR
    exact (Or.inl rfl)
