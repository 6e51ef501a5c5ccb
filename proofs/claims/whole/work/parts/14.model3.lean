def f_X8_readsPattern_L23 (a_pad : (Nat → Int32)) (a_padLong : Int32) (a_many : Int32) : Nat → Int32 → Int32 → (Nat → Int32) → Option (Int32 × (Nat → Int32) × Int32)
  | 0, _, _, _ => none
  | n + 1, x1, x2, a_heights => if a_padLong ≤ x2 then (if x1 = 0 ∨ x1 = 1 then some (x1, a_heights, a_many) else none) else (if x1 = 0 then (if x1 = 0 ∨ x1 = 1 then some (x1, a_heights, a_many) else none) else ((f_X8_isAt a_pad a_padLong x2 (48 : Int32) (55 : Int32)).bind (fun q4 => if x2 < 0 ∨ 30 ≤ x2.toNatClampNeg then none else (if x2 < 0 ∨ 8 ≤ x2.toNatClampNeg then none else (f_X8_readsPattern_L23 a_pad a_padLong a_many n q4 (x2 + (1 : Int32)) (upd a_heights x2.toNatClampNeg ((a_pad x2.toNatClampNeg) - (48 : Int32))))))))
set_option maxHeartbeats 4000000 in
set_option maxRecDepth 100000 in
theorem w_X8_readsPattern_L23 {p : Program} {l : Launch} {e : Env} {s : State} {m : MethodId} {args : Array Value} {below : List Frame} {meth : Method} {c : Code} {D : va_G} {cI cR : ClassId} {A : Nat → Prop} {a : (Nat → Nat)} {a_all : (Nat → Int32)} {a_kept : (Nat → Int32)} {a_history : (Nat → Int32)} {a_historyLong : Int32} {a_slots : (Nat → Int32)} {a_isSaved : (Nat → Int32)} {a_pad : (Nat → Int32)} {a_padLong : Int32} {a_readHeight : (Nat → Int32)} {a_readPass : (Nat → Int32)} {a_readMany : Int32} {a_many : Int32} {a_takes : (Nat → Int32)} {R : Int32 × (Nat → Int32) × Int32} (X : zX p s m c cX8_readsPattern 3 args RX8 D cI cR A) (hr : meth.sig.returnType = (some .boolean)) (hlocks : meth.locks = false) : ∀ (n : Nat)  {x1 : Int32} {x2 : Int32} {a_heights : (Nat → Int32)} {H : Heap} {locs : List Loc} {ls : Array Slot}, f_X8_readsPattern_L23 a_pad a_padLong a_many n x1 x2 a_heights = some R → zW D A s [w_X8 cI cR a a_all a_kept a_history a_historyLong a_slots a_isSaved a_pad a_padLong a_readHeight a_readPass a_readMany a_heights a_many a_takes] H locs → lv_has ls 3 [(0, .ref (a 0)), (1, .int x1), (2, .int x2)] → W p l e ({ frames := 2, cells := 0, slots := 0, locals := 48 } : Room) s m args below meth c H locs 0 0 (zE D A below s args (some (.int R.1)) [w_X8 cI cR a a_all a_kept a_history a_historyLong a_slots a_isSaved a_pad a_padLong a_readHeight a_readPass a_readMany R.2.1 R.2.2 a_takes]) (F0 m 23 ls []) := by
  have hx := X.1.1
  have hb := X.1.2.1
  intro n
  induction n with
  | zero =>
    intro x1 x2 a_heights H locs ls hf
    have hf : none = some R := hf
    cases hf
  | succ n ih =>
    intro x1 x2 a_heights H locs ls hf Z hl
    refine lv_iload_n hx hb dX8_readsPattern_23 rfl (lv_at hl 2 rfl) ?_
    refine lv_aload_n hx hb dX8_readsPattern_24 rfl (lv_at hl 0 rfl) ?_
    refine zg_X8_87 X Z 0 rfl rfl dX8_readsPattern_25 ?_
    refine lv_icmp_ge (tgt := 66) hx hb dX8_readsPattern_28 (by decide) (fun c2 => ?_) (fun c2 => ?_)
    · have hf := it_t c2 hf
      refine lv_iload_n hx hb dX8_readsPattern_66 rfl (lv_at hl 1 rfl) ?_
      obtain ⟨hz, hf⟩ := oi_s hf
      have hR := so_s hf
      subst hR
      refine z_zret X hr hlocks hz ?_ dX8_readsPattern_67
      exact Z.eq rfl
    · have hf := it_f c2 hf
      refine lv_iload_n hx hb dX8_readsPattern_31 rfl (lv_at hl 1 rfl) ?_
      refine lv_if_eq (tgt := 66) hx hb dX8_readsPattern_32 (by decide) (fun c3 => ?_) (fun c3 => ?_)
      · have hf := it_t c3 hf
        refine lv_iload_n hx hb dX8_readsPattern_66 rfl (lv_at hl 1 rfl) ?_
        obtain ⟨hz, hf⟩ := oi_s hf
        have hR := so_s hf
        subst hR
        refine z_zret X hr hlocks hz ?_ dX8_readsPattern_67
        exact Z.eq rfl
      · have hf := it_f c3 hf
        refine lv_aload_n hx hb dX8_readsPattern_35 rfl (lv_at hl 0 rfl) ?_
        refine lv_iload_n hx hb dX8_readsPattern_36 rfl (lv_at hl 2 rfl) ?_
        refine lv_bipush (v := 48) hx hb dX8_readsPattern_37 (by decide) ?_
        refine lv_bipush (v := 55) hx hb dX8_readsPattern_39 (by decide) ?_
        obtain ⟨q4, hq4, hf⟩ := ob_s hf
        refine z_roV X Z (c_X8_isAt l D cI cR a a_all a_kept a_history a_historyLong a_slots a_isSaved a_pad a_padLong a_readHeight a_readPass a_readMany a_heights a_many a_takes x2 (48 : Int32) (55 : Int32) hq4) (zw_X8_103 X.1.2.2.2.2 ⟨Nat.le_of_ble_eq_true rfl, Nat.le_of_ble_eq_true rfl⟩) 0 8 rfl rfl rfl [0] [] (by decide : ([0] ++ [] : List Nat).Perm (List.range 1)) rfl rfl hl.1 rfl (Nat.le_of_ble_eq_true rfl) dX8_readsPattern_41 ⟨Nat.le_of_ble_eq_true rfl, Nat.le_of_ble_eq_true rfl⟩ (fun H locs Z => ?_)
        refine lv_istore_n (lv' := [(1, .int q4), (0, .ref (a 0)), (2, .int x2)]) hx hb dX8_readsPattern_44 rfl hl (by decide) rfl (fun ls hl => ?_)
        refine lv_aload_n hx hb dX8_readsPattern_45 rfl (lv_at hl 1 rfl) ?_
        refine zg_X8_34 X Z 0 rfl rfl dX8_readsPattern_46 ?_
        refine lv_iload_n hx hb dX8_readsPattern_49 rfl (lv_at hl 2 rfl) ?_
        refine lv_aload_n hx hb dX8_readsPattern_50 rfl (lv_at hl 1 rfl) ?_
        refine zg_X8_25 X Z 0 rfl rfl dX8_readsPattern_51 ?_
        refine lv_iload_n hx hb dX8_readsPattern_54 rfl (lv_at hl 2 rfl) ?_
        obtain ⟨i5, hf⟩ := in_s hf
        refine z_ld (j := x2.toNatClampNeg) X Z 6 rfl i5 rfl dX8_readsPattern_55 ?_
        refine lv_bipush (v := 48) hx hb dX8_readsPattern_56 (by decide) ?_
        refine lv_isub hx hb dX8_readsPattern_58 ?_
        obtain ⟨i6, hf⟩ := in_s hf
        refine z_st (j := x2.toNatClampNeg) X Z 9 rfl i6 rfl [w_X8 cI cR a a_all a_kept a_history a_historyLong a_slots a_isSaved a_pad a_padLong a_readHeight a_readPass a_readMany (upd a_heights x2.toNatClampNeg ((a_pad x2.toNatClampNeg) - (48 : Int32))) a_many a_takes] rfl dX8_readsPattern_59 (fun H locs Z => ?_)
        refine lv_iinc (v := x2 + (1 : Int32)) (lv' := [(2, .int (x2 + (1 : Int32))), (1, .int q4), (0, .ref (a 0))]) hx hb dX8_readsPattern_60 hl (k := 2) rfl rfl (by decide) rfl (fun ls hl => ?_)
        refine lv_goto (tgt := 23) hx hb dX8_readsPattern_63 (by decide) ?_
        exact ih hf Z (lv_sub hl [2, 1, 0] rfl)

def f_X8_readsPattern (a_pad : (Nat → Int32)) (a_padLong : Int32) (a_heights : (Nat → Int32)) (a_many : Int32) : Option (Int32 × (Nat → Int32) × Int32) := (f_X8_in a_padLong.toInt64 (1 : Int64) (8 : Int64)).bind (fun q1 => f_X8_readsPattern_L23 a_pad a_padLong a_padLong zF q1 (0 : Int32) a_heights)
set_option maxHeartbeats 4000000 in
set_option maxRecDepth 100000 in
theorem c_X8_readsPattern (l : Launch) (D : va_G) (cI cR : ClassId) (a : (Nat → Nat)) (a_all : (Nat → Int32)) (a_kept : (Nat → Int32)) (a_history : (Nat → Int32)) (a_historyLong : Int32) (a_slots : (Nat → Int32)) (a_isSaved : (Nat → Int32)) (a_pad : (Nat → Int32)) (a_padLong : Int32) (a_readHeight : (Nat → Int32)) (a_readPass : (Nat → Int32)) (a_readMany : Int32) (a_heights : (Nat → Int32)) (a_many : Int32) (a_takes : (Nat → Int32)) {R : Int32 × (Nat → Int32) × Int32} (hf : f_X8_readsPattern a_pad a_padLong a_heights a_many = some R) : zM l D cI cR yX8_readsPattern cX8_readsPattern 3 (some .boolean) 2 48 [.ref (a 0)] [w_X8 cI cR a a_all a_kept a_history a_historyLong a_slots a_isSaved a_pad a_padLong a_readHeight a_readPass a_readMany a_heights a_many a_takes] (some (.int R.1)) [w_X8 cI cR a a_all a_kept a_history a_historyLong a_slots a_isSaved a_pad a_padLong a_readHeight a_readPass a_readMany R.2.1 R.2.2 a_takes] := by
  refine z_of (own := RX8) rfl (by decide) (Nat.le_of_ble_eq_true rfl) ?_
  intro p e s m args below meth c A ls X hr hlocks Z hl
  have hx := X.1.1
  have hb := X.1.2.1
  have Z : zW D A s [w_X8 cI cR a a_all a_kept a_history a_historyLong a_slots a_isSaved a_pad a_padLong a_readHeight a_readPass a_readMany a_heights a_many a_takes] s.heap [] := Z
  have hl : lv_has ls 3 [(0, .ref (a 0))] := hl
  refine lv_aload_n hx hb dX8_readsPattern_0 rfl (lv_at hl 0 rfl) ?_
  refine lv_aload_n hx hb dX8_readsPattern_1 rfl (lv_at hl 0 rfl) ?_
  refine zg_X8_87 X Z 0 rfl rfl dX8_readsPattern_2 ?_
  refine zp_X8_113 X Z 0 rfl (Nat.le_of_ble_eq_true rfl) [w_X8 cI cR a a_all a_kept a_history a_historyLong a_slots a_isSaved a_pad a_padLong a_readHeight a_readPass a_readMany a_heights a_padLong a_takes] rfl dX8_readsPattern_5 (fun H locs Z => ?_)
  refine lv_aload_n hx hb dX8_readsPattern_8 rfl (lv_at hl 0 rfl) ?_
  refine zg_X8_87 X Z 0 rfl rfl dX8_readsPattern_9 ?_
  refine lv_i2l hx hb dX8_readsPattern_12 rfl ?_
  refine lv_lconst (v := 1) hx hb dX8_readsPattern_13 (by decide) ?_
  refine lv_ldc2 hx hb X.1.2.2.2.1 (X.1.2.2.2.2 _ mk_X8_58) dX8_readsPattern_14 ?_
  obtain ⟨q1, hq1, hf⟩ := ob_s hf
  refine z_roS X Z (c_X8_in l D cI cR   a_padLong.toInt64 (1 : Int64) (8 : Int64) hq1) (zw_X8_44 X.1.2.2.2.2 ⟨Nat.le_of_ble_eq_true rfl, Nat.le_of_ble_eq_true rfl⟩) [] [0] (by decide : ([] ++ [0] : List Nat).Perm (List.range 1)) rfl rfl hl.1 rfl (Nat.le_of_ble_eq_true rfl) dX8_readsPattern_17 ⟨Nat.le_of_ble_eq_true rfl, Nat.le_of_ble_eq_true rfl⟩ (fun H locs Z => ?_)
  refine lv_istore_n (lv' := [(1, .int q1), (0, .ref (a 0))]) hx hb dX8_readsPattern_20 rfl hl (by decide) rfl (fun ls hl => ?_)
  refine lv_iconst (v := 0) hx hb dX8_readsPattern_21 (by decide) ?_
  refine lv_istore_n (lv' := [(2, .int (0 : Int32)), (1, .int q1), (0, .ref (a 0))]) hx hb dX8_readsPattern_22 rfl hl (by decide) rfl (fun ls hl => ?_)
  exact w_X8_readsPattern_L23 X hr hlocks _ hf Z (lv_sub hl [2, 1, 0] rfl)
def f_X8_lands (a_heights : (Nat → Int32)) (a_many : Int32) (p1 : Int32) : Option (Int32) := if p1 < 0 ∨ 8 ≤ p1.toNatClampNeg then none else (if a_many = 0 then none else (some ((p1 + (a_heights p1.toNatClampNeg)) - (p1 + (a_heights p1.toNatClampNeg)) / a_many * a_many)))
set_option maxHeartbeats 4000000 in
set_option maxRecDepth 100000 in
theorem c_X8_lands (l : Launch) (D : va_G) (cI cR : ClassId) (a : (Nat → Nat)) (a_all : (Nat → Int32)) (a_kept : (Nat → Int32)) (a_history : (Nat → Int32)) (a_historyLong : Int32) (a_slots : (Nat → Int32)) (a_isSaved : (Nat → Int32)) (a_pad : (Nat → Int32)) (a_padLong : Int32) (a_readHeight : (Nat → Int32)) (a_readPass : (Nat → Int32)) (a_readMany : Int32) (a_heights : (Nat → Int32)) (a_many : Int32) (a_takes : (Nat → Int32)) (p1 : Int32) {R : Int32} (hf : f_X8_lands a_heights a_many p1 = some R) : zM l D cI cR yX8_lands cX8_lands 2 (some .int) 0 0 [.ref (a 0), .int p1] [w_X8 cI cR a a_all a_kept a_history a_historyLong a_slots a_isSaved a_pad a_padLong a_readHeight a_readPass a_readMany a_heights a_many a_takes] (some (.int R)) [w_X8 cI cR a a_all a_kept a_history a_historyLong a_slots a_isSaved a_pad a_padLong a_readHeight a_readPass a_readMany a_heights a_many a_takes] := by
  refine z_of (own := RX8) rfl (by decide) (Nat.le_of_ble_eq_true rfl) ?_
  intro p e s m args below meth c A ls X hr hlocks Z hl
  have hx := X.1.1
  have hb := X.1.2.1
  have Z : zW D A s [w_X8 cI cR a a_all a_kept a_history a_historyLong a_slots a_isSaved a_pad a_padLong a_readHeight a_readPass a_readMany a_heights a_many a_takes] s.heap [] := Z
  have hl : lv_has ls 2 [(0, .ref (a 0)), (1, .int p1)] := hl
  refine lv_iload_n hx hb dX8_lands_0 rfl (lv_at hl 1 rfl) ?_
  refine lv_aload_n hx hb dX8_lands_1 rfl (lv_at hl 0 rfl) ?_
  refine zg_X8_34 X Z 0 rfl rfl dX8_lands_2 ?_
  refine lv_iload_n hx hb dX8_lands_5 rfl (lv_at hl 1 rfl) ?_
  obtain ⟨i1, hf⟩ := in_s hf
  refine z_ld (j := p1.toNatClampNeg) X Z 9 rfl i1 rfl dX8_lands_6 ?_
  refine lv_iadd hx hb dX8_lands_7 ?_
  refine lv_aload_n hx hb dX8_lands_8 rfl (lv_at hl 0 rfl) ?_
  refine zg_X8_113 X Z 0 rfl rfl dX8_lands_9 ?_
  obtain ⟨i2, hf⟩ := in_s hf
  refine lv_irem hx hb dX8_lands_12 i2 ?_
  have hR := so_s hf
  subst hR
  refine z_iret X hr hlocks ?_ dX8_lands_13
  exact Z.eq rfl
def f_X8_isSound_L4 (a_heights : (Nat → Int32)) (a_many : Int32) : Nat → Int32 → Int32 → Option (Int32)
  | 0, _, _ => none
  | n + 1, x1, x2 => if a_many ≤ x2 then (if x1 = (((1 : Int32) <<< (a_many &&& 31)) - (1 : Int32)) then (some (1 : Int32)) else (some (0 : Int32))) else ((f_X8_lands a_heights a_many x2).bind (fun q3 => f_X8_isSound_L4 a_heights a_many n (x1 ||| ((1 : Int32) <<< (q3 &&& 31))) (x2 + (1 : Int32)) ))
set_option maxHeartbeats 4000000 in
set_option maxRecDepth 100000 in
theorem w_X8_isSound_L4 {p : Program} {l : Launch} {e : Env} {s : State} {m : MethodId} {args : Array Value} {below : List Frame} {meth : Method} {c : Code} {D : va_G} {cI cR : ClassId} {A : Nat → Prop} {a : (Nat → Nat)} {a_all : (Nat → Int32)} {a_kept : (Nat → Int32)} {a_history : (Nat → Int32)} {a_historyLong : Int32} {a_slots : (Nat → Int32)} {a_isSaved : (Nat → Int32)} {a_pad : (Nat → Int32)} {a_padLong : Int32} {a_readHeight : (Nat → Int32)} {a_readPass : (Nat → Int32)} {a_readMany : Int32} {a_heights : (Nat → Int32)} {a_many : Int32} {a_takes : (Nat → Int32)} {R : Int32} (X : zX p s m c cX8_isSound 3 args RX8 D cI cR A) (hr : meth.sig.returnType = (some .boolean)) (hlocks : meth.locks = false) : ∀ (n : Nat)  {x1 : Int32} {x2 : Int32} {H : Heap} {locs : List Loc} {ls : Array Slot}, f_X8_isSound_L4 a_heights a_many n x1 x2 = some R → zW D A s [w_X8 cI cR a a_all a_kept a_history a_historyLong a_slots a_isSaved a_pad a_padLong a_readHeight a_readPass a_readMany a_heights a_many a_takes] H locs → lv_has ls 3 [(0, .ref (a 0)), (1, .int x1), (2, .int x2)] → W p l e ({ frames := 1, cells := 0, slots := 0, locals := 21 } : Room) s m args below meth c H locs 0 0 (zE D A below s args (some (.int R)) [w_X8 cI cR a a_all a_kept a_history a_historyLong a_slots a_isSaved a_pad a_padLong a_readHeight a_readPass a_readMany a_heights a_many a_takes]) (F0 m 4 ls []) := by
  have hx := X.1.1
  have hb := X.1.2.1
  intro n
  induction n with
  | zero =>
    intro x1 x2 H locs ls hf
    have hf : none = some R := hf
    cases hf
  | succ n ih =>
    intro x1 x2 H locs ls hf Z hl
    refine lv_iload_n hx hb dX8_isSound_4 rfl (lv_at hl 2 rfl) ?_
    refine lv_aload_n hx hb dX8_isSound_5 rfl (lv_at hl 0 rfl) ?_
    refine zg_X8_113 X Z 0 rfl rfl dX8_isSound_6 ?_
    refine lv_icmp_ge (tgt := 28) hx hb dX8_isSound_9 (by decide) (fun c1 => ?_) (fun c1 => ?_)
    · have hf := it_t c1 hf
      refine lv_iload_n hx hb dX8_isSound_28 rfl (lv_at hl 1 rfl) ?_
      refine lv_iconst (v := 1) hx hb dX8_isSound_29 (by decide) ?_
      refine lv_aload_n hx hb dX8_isSound_30 rfl (lv_at hl 0 rfl) ?_
      refine zg_X8_113 X Z 0 rfl rfl dX8_isSound_31 ?_
      refine lv_ishl hx hb dX8_isSound_34 ?_
      refine lv_iconst (v := 1) hx hb dX8_isSound_35 (by decide) ?_
      refine lv_isub hx hb dX8_isSound_36 ?_
      refine lv_icmp_ne (tgt := 44) hx hb dX8_isSound_37 (by decide) (fun c2 => ?_) (fun c2 => ?_)
      · have hf := it_f c2 hf
        refine lv_iconst (v := 0) hx hb dX8_isSound_44 (by decide) ?_
        have hR := so_s hf
        subst hR
        refine z_zret X hr hlocks (Or.inl rfl) ?_ dX8_isSound_45
        exact Z.eq rfl
      · have hf := it_t c2 hf
        refine lv_iconst (v := 1) hx hb dX8_isSound_40 (by decide) ?_
        refine lv_goto (tgt := 45) hx hb dX8_isSound_41 (by decide) ?_
        have hR := so_s hf
        subst hR
        refine z_zret X hr hlocks (Or.inr rfl) ?_ dX8_isSound_45
        exact Z.eq rfl
    · have hf := it_f c1 hf
      refine lv_iload_n hx hb dX8_isSound_12 rfl (lv_at hl 1 rfl) ?_
      refine lv_iconst (v := 1) hx hb dX8_isSound_13 (by decide) ?_
      refine lv_aload_n hx hb dX8_isSound_14 rfl (lv_at hl 0 rfl) ?_
      refine lv_iload_n hx hb dX8_isSound_15 rfl (lv_at hl 2 rfl) ?_
      obtain ⟨q3, hq3, hf⟩ := ob_s hf
      refine z_roV X Z (c_X8_lands l D cI cR a a_all a_kept a_history a_historyLong a_slots a_isSaved a_pad a_padLong a_readHeight a_readPass a_readMany a_heights a_many a_takes x2 hq3) (zw_X8_116 X.1.2.2.2.2 ⟨Nat.le_of_ble_eq_true rfl, Nat.le_of_ble_eq_true rfl⟩) 0 8 rfl rfl rfl [0] [] (by decide : ([0] ++ [] : List Nat).Perm (List.range 1)) rfl rfl hl.1 rfl (Nat.le_of_ble_eq_true rfl) dX8_isSound_16 ⟨Nat.le_of_ble_eq_true rfl, Nat.le_of_ble_eq_true rfl⟩ (fun H locs Z => ?_)
      refine lv_ishl hx hb dX8_isSound_19 ?_
      refine lv_ior hx hb dX8_isSound_20 ?_
      refine lv_istore_n (lv' := [(1, .int (x1 ||| ((1 : Int32) <<< (q3 &&& 31)))), (0, .ref (a 0)), (2, .int x2)]) hx hb dX8_isSound_21 rfl hl (by decide) rfl (fun ls hl => ?_)
      refine lv_iinc (v := x2 + (1 : Int32)) (lv' := [(2, .int (x2 + (1 : Int32))), (1, .int (x1 ||| ((1 : Int32) <<< (q3 &&& 31)))), (0, .ref (a 0))]) hx hb dX8_isSound_22 hl (k := 2) rfl rfl (by decide) rfl (fun ls hl => ?_)
      refine lv_goto (tgt := 4) hx hb dX8_isSound_25 (by decide) ?_
      exact ih hf Z (lv_sub hl [2, 1, 0] rfl)

def f_X8_isSound (a_heights : (Nat → Int32)) (a_many : Int32) : Option (Int32) := f_X8_isSound_L4 a_heights a_many zF (0 : Int32) (0 : Int32)
set_option maxHeartbeats 4000000 in
set_option maxRecDepth 100000 in
theorem c_X8_isSound (l : Launch) (D : va_G) (cI cR : ClassId) (a : (Nat → Nat)) (a_all : (Nat → Int32)) (a_kept : (Nat → Int32)) (a_history : (Nat → Int32)) (a_historyLong : Int32) (a_slots : (Nat → Int32)) (a_isSaved : (Nat → Int32)) (a_pad : (Nat → Int32)) (a_padLong : Int32) (a_readHeight : (Nat → Int32)) (a_readPass : (Nat → Int32)) (a_readMany : Int32) (a_heights : (Nat → Int32)) (a_many : Int32) (a_takes : (Nat → Int32)) {R : Int32} (hf : f_X8_isSound a_heights a_many = some R) : zM l D cI cR yX8_isSound cX8_isSound 3 (some .boolean) 1 21 [.ref (a 0)] [w_X8 cI cR a a_all a_kept a_history a_historyLong a_slots a_isSaved a_pad a_padLong a_readHeight a_readPass a_readMany a_heights a_many a_takes] (some (.int R)) [w_X8 cI cR a a_all a_kept a_history a_historyLong a_slots a_isSaved a_pad a_padLong a_readHeight a_readPass a_readMany a_heights a_many a_takes] := by
  refine z_of (own := RX8) rfl (by decide) (Nat.le_of_ble_eq_true rfl) ?_
  intro p e s m args below meth c A ls X hr hlocks Z hl
  have hx := X.1.1
  have hb := X.1.2.1
  have Z : zW D A s [w_X8 cI cR a a_all a_kept a_history a_historyLong a_slots a_isSaved a_pad a_padLong a_readHeight a_readPass a_readMany a_heights a_many a_takes] s.heap [] := Z
  have hl : lv_has ls 3 [(0, .ref (a 0))] := hl
  refine lv_iconst (v := 0) hx hb dX8_isSound_0 (by decide) ?_
  refine lv_istore_n (lv' := [(1, .int (0 : Int32)), (0, .ref (a 0))]) hx hb dX8_isSound_1 rfl hl (by decide) rfl (fun ls hl => ?_)
  refine lv_iconst (v := 0) hx hb dX8_isSound_2 (by decide) ?_
  refine lv_istore_n (lv' := [(2, .int (0 : Int32)), (1, .int (0 : Int32)), (0, .ref (a 0))]) hx hb dX8_isSound_3 rfl hl (by decide) rfl (fun ls hl => ?_)
  exact w_X8_isSound_L4 X hr hlocks _ hf Z (lv_sub hl [2, 1, 0] rfl)
def f_X8_sumOfHeights_L4 (a_heights : (Nat → Int32)) (a_many : Int32) : Nat → Int32 → Int32 → Option (Int32)
  | 0, _, _ => none
  | n + 1, x1, x2 => if a_many ≤ x2 then (some x1) else (if x2 < 0 ∨ 8 ≤ x2.toNatClampNeg then none else (f_X8_sumOfHeights_L4 a_heights a_many n (x1 + (a_heights x2.toNatClampNeg)) (x2 + (1 : Int32)) ))
set_option maxHeartbeats 4000000 in
set_option maxRecDepth 100000 in
theorem w_X8_sumOfHeights_L4 {p : Program} {l : Launch} {e : Env} {s : State} {m : MethodId} {args : Array Value} {below : List Frame} {meth : Method} {c : Code} {D : va_G} {cI cR : ClassId} {A : Nat → Prop} {a : (Nat → Nat)} {a_all : (Nat → Int32)} {a_kept : (Nat → Int32)} {a_history : (Nat → Int32)} {a_historyLong : Int32} {a_slots : (Nat → Int32)} {a_isSaved : (Nat → Int32)} {a_pad : (Nat → Int32)} {a_padLong : Int32} {a_readHeight : (Nat → Int32)} {a_readPass : (Nat → Int32)} {a_readMany : Int32} {a_heights : (Nat → Int32)} {a_many : Int32} {a_takes : (Nat → Int32)} {R : Int32} (X : zX p s m c cX8_sumOfHeights 3 args RX8 D cI cR A) (hr : meth.sig.returnType = (some .int)) (hlocks : meth.locks = false) : ∀ (n : Nat)  {x1 : Int32} {x2 : Int32} {H : Heap} {locs : List Loc} {ls : Array Slot}, f_X8_sumOfHeights_L4 a_heights a_many n x1 x2 = some R → zW D A s [w_X8 cI cR a a_all a_kept a_history a_historyLong a_slots a_isSaved a_pad a_padLong a_readHeight a_readPass a_readMany a_heights a_many a_takes] H locs → lv_has ls 3 [(0, .ref (a 0)), (1, .int x1), (2, .int x2)] → W p l e ({ frames := 0, cells := 0, slots := 0, locals := 0 } : Room) s m args below meth c H locs 0 0 (zE D A below s args (some (.int R)) [w_X8 cI cR a a_all a_kept a_history a_historyLong a_slots a_isSaved a_pad a_padLong a_readHeight a_readPass a_readMany a_heights a_many a_takes]) (F0 m 4 ls []) := by
  have hx := X.1.1
  have hb := X.1.2.1
  intro n
  induction n with
  | zero =>
    intro x1 x2 H locs ls hf
    have hf : none = some R := hf
    cases hf
  | succ n ih =>
    intro x1 x2 H locs ls hf Z hl
    refine lv_iload_n hx hb dX8_sumOfHeights_4 rfl (lv_at hl 2 rfl) ?_
    refine lv_aload_n hx hb dX8_sumOfHeights_5 rfl (lv_at hl 0 rfl) ?_
    refine zg_X8_113 X Z 0 rfl rfl dX8_sumOfHeights_6 ?_
    refine lv_icmp_ge (tgt := 27) hx hb dX8_sumOfHeights_9 (by decide) (fun c1 => ?_) (fun c1 => ?_)
    · have hf := it_t c1 hf
      refine lv_iload_n hx hb dX8_sumOfHeights_27 rfl (lv_at hl 1 rfl) ?_
      have hR := so_s hf
      subst hR
      refine z_iret X hr hlocks ?_ dX8_sumOfHeights_28
      exact Z.eq rfl
    · have hf := it_f c1 hf
      refine lv_iload_n hx hb dX8_sumOfHeights_12 rfl (lv_at hl 1 rfl) ?_
      refine lv_aload_n hx hb dX8_sumOfHeights_13 rfl (lv_at hl 0 rfl) ?_
      refine zg_X8_34 X Z 0 rfl rfl dX8_sumOfHeights_14 ?_
      refine lv_iload_n hx hb dX8_sumOfHeights_17 rfl (lv_at hl 2 rfl) ?_
      obtain ⟨i2, hf⟩ := in_s hf
      refine z_ld (j := x2.toNatClampNeg) X Z 9 rfl i2 rfl dX8_sumOfHeights_18 ?_
      refine lv_iadd hx hb dX8_sumOfHeights_19 ?_
      refine lv_istore_n (lv' := [(1, .int (x1 + (a_heights x2.toNatClampNeg))), (0, .ref (a 0)), (2, .int x2)]) hx hb dX8_sumOfHeights_20 rfl hl (by decide) rfl (fun ls hl => ?_)
      refine lv_iinc (v := x2 + (1 : Int32)) (lv' := [(2, .int (x2 + (1 : Int32))), (1, .int (x1 + (a_heights x2.toNatClampNeg))), (0, .ref (a 0))]) hx hb dX8_sumOfHeights_21 hl (k := 2) rfl rfl (by decide) rfl (fun ls hl => ?_)
      refine lv_goto (tgt := 4) hx hb dX8_sumOfHeights_24 (by decide) ?_
      exact ih hf Z (lv_sub hl [2, 1, 0] rfl)

def f_X8_sumOfHeights (a_heights : (Nat → Int32)) (a_many : Int32) : Option (Int32) := f_X8_sumOfHeights_L4 a_heights a_many zF (0 : Int32) (0 : Int32)
set_option maxHeartbeats 4000000 in
set_option maxRecDepth 100000 in
theorem c_X8_sumOfHeights (l : Launch) (D : va_G) (cI cR : ClassId) (a : (Nat → Nat)) (a_all : (Nat → Int32)) (a_kept : (Nat → Int32)) (a_history : (Nat → Int32)) (a_historyLong : Int32) (a_slots : (Nat → Int32)) (a_isSaved : (Nat → Int32)) (a_pad : (Nat → Int32)) (a_padLong : Int32) (a_readHeight : (Nat → Int32)) (a_readPass : (Nat → Int32)) (a_readMany : Int32) (a_heights : (Nat → Int32)) (a_many : Int32) (a_takes : (Nat → Int32)) {R : Int32} (hf : f_X8_sumOfHeights a_heights a_many = some R) : zM l D cI cR yX8_sumOfHeights cX8_sumOfHeights 3 (some .int) 0 0 [.ref (a 0)] [w_X8 cI cR a a_all a_kept a_history a_historyLong a_slots a_isSaved a_pad a_padLong a_readHeight a_readPass a_readMany a_heights a_many a_takes] (some (.int R)) [w_X8 cI cR a a_all a_kept a_history a_historyLong a_slots a_isSaved a_pad a_padLong a_readHeight a_readPass a_readMany a_heights a_many a_takes] := by
  refine z_of (own := RX8) rfl (by decide) (Nat.le_of_ble_eq_true rfl) ?_
  intro p e s m args below meth c A ls X hr hlocks Z hl
  have hx := X.1.1
  have hb := X.1.2.1
  have Z : zW D A s [w_X8 cI cR a a_all a_kept a_history a_historyLong a_slots a_isSaved a_pad a_padLong a_readHeight a_readPass a_readMany a_heights a_many a_takes] s.heap [] := Z
  have hl : lv_has ls 3 [(0, .ref (a 0))] := hl
  refine lv_iconst (v := 0) hx hb dX8_sumOfHeights_0 (by decide) ?_
  refine lv_istore_n (lv' := [(1, .int (0 : Int32)), (0, .ref (a 0))]) hx hb dX8_sumOfHeights_1 rfl hl (by decide) rfl (fun ls hl => ?_)
  refine lv_iconst (v := 0) hx hb dX8_sumOfHeights_2 (by decide) ?_
  refine lv_istore_n (lv' := [(2, .int (0 : Int32)), (1, .int (0 : Int32)), (0, .ref (a 0))]) hx hb dX8_sumOfHeights_3 rfl hl (by decide) rfl (fun ls hl => ?_)
  exact w_X8_sumOfHeights_L4 X hr hlocks _ hf Z (lv_sub hl [2, 1, 0] rfl)
def f_X8_startOf_L4 (a_heights : (Nat → Int32)) (a_many : Int32) : Nat → Int32 → Int32 → Option (Int32)
  | 0, _, _ => none
  | n + 1, x1, x2 => if (7 : Int32) < x2 then (some x1) else (if a_many = 0 then none else (if ((((8 : Int32) * a_many) - x2) - (((8 : Int32) * a_many) - x2) / a_many * a_many) < 0 ∨ 8 ≤ ((((8 : Int32) * a_many) - x2) - (((8 : Int32) * a_many) - x2) / a_many * a_many).toNatClampNeg then none else (if (a_heights ((((8 : Int32) * a_many) - x2) - (((8 : Int32) * a_many) - x2) / a_many * a_many).toNatClampNeg) < x2 then (f_X8_startOf_L4 a_heights a_many n (x1 ||| (0 : Int32)) (x2 + (1 : Int32)) ) else (if ((((8 : Int32) * a_many) - x2) - (((8 : Int32) * a_many) - x2) / a_many * a_many) < 0 ∨ 8 ≤ ((((8 : Int32) * a_many) - x2) - (((8 : Int32) * a_many) - x2) / a_many * a_many).toNatClampNeg then none else (f_X8_startOf_L4 a_heights a_many n (x1 ||| ((1 : Int32) <<< (((a_heights ((((8 : Int32) * a_many) - x2) - (((8 : Int32) * a_many) - x2) / a_many * a_many).toNatClampNeg) - x2) &&& 31))) (x2 + (1 : Int32)) )))))
set_option maxHeartbeats 4000000 in
set_option maxRecDepth 100000 in
theorem w_X8_startOf_L4 {p : Program} {l : Launch} {e : Env} {s : State} {m : MethodId} {args : Array Value} {below : List Frame} {meth : Method} {c : Code} {D : va_G} {cI cR : ClassId} {A : Nat → Prop} {a : (Nat → Nat)} {a_all : (Nat → Int32)} {a_kept : (Nat → Int32)} {a_history : (Nat → Int32)} {a_historyLong : Int32} {a_slots : (Nat → Int32)} {a_isSaved : (Nat → Int32)} {a_pad : (Nat → Int32)} {a_padLong : Int32} {a_readHeight : (Nat → Int32)} {a_readPass : (Nat → Int32)} {a_readMany : Int32} {a_heights : (Nat → Int32)} {a_many : Int32} {a_takes : (Nat → Int32)} {R : Int32} (X : zX p s m c cX8_startOf 4 args RX8 D cI cR A) (hr : meth.sig.returnType = (some .int)) (hlocks : meth.locks = false) : ∀ (n : Nat)  {x1 : Int32} {x2 : Int32} {H : Heap} {locs : List Loc} {ls : Array Slot}, f_X8_startOf_L4 a_heights a_many n x1 x2 = some R → zW D A s [w_X8 cI cR a a_all a_kept a_history a_historyLong a_slots a_isSaved a_pad a_padLong a_readHeight a_readPass a_readMany a_heights a_many a_takes] H locs → lv_has ls 4 [(0, .ref (a 0)), (1, .int x1), (2, .int x2)] → W p l e ({ frames := 0, cells := 0, slots := 0, locals := 0 } : Room) s m args below meth c H locs 0 0 (zE D A below s args (some (.int R)) [w_X8 cI cR a a_all a_kept a_history a_historyLong a_slots a_isSaved a_pad a_padLong a_readHeight a_readPass a_readMany a_heights a_many a_takes]) (F0 m 4 ls []) := by
  have hx := X.1.1
  have hb := X.1.2.1
  intro n
  induction n with
  | zero =>
    intro x1 x2 H locs ls hf
    have hf : none = some R := hf
    cases hf
  | succ n ih =>
    intro x1 x2 H locs ls hf Z hl
    refine lv_iload_n hx hb dX8_startOf_4 rfl (lv_at hl 2 rfl) ?_
    refine lv_bipush (v := 7) hx hb dX8_startOf_5 (by decide) ?_
    refine lv_icmp_gt (tgt := 58) hx hb dX8_startOf_7 (by decide) (fun c1 => ?_) (fun c1 => ?_)
    · have hf := it_t c1 hf
      refine lv_iload_n hx hb dX8_startOf_58 rfl (lv_at hl 1 rfl) ?_
      have hR := so_s hf
      subst hR
      refine z_iret X hr hlocks ?_ dX8_startOf_59
      exact Z.eq rfl
    · have hf := it_f c1 hf
      refine lv_bipush (v := 8) hx hb dX8_startOf_10 (by decide) ?_
      refine lv_aload_n hx hb dX8_startOf_12 rfl (lv_at hl 0 rfl) ?_
      refine zg_X8_113 X Z 0 rfl rfl dX8_startOf_13 ?_
      refine lv_imul hx hb dX8_startOf_16 ?_
      refine lv_iload_n hx hb dX8_startOf_17 rfl (lv_at hl 2 rfl) ?_
      refine lv_isub hx hb dX8_startOf_18 ?_
      refine lv_aload_n hx hb dX8_startOf_19 rfl (lv_at hl 0 rfl) ?_
      refine zg_X8_113 X Z 0 rfl rfl dX8_startOf_20 ?_
      obtain ⟨i2, hf⟩ := in_s hf
      refine lv_irem hx hb dX8_startOf_23 i2 ?_
      refine lv_istore_n (lv' := [(3, .int ((((8 : Int32) * a_many) - x2) - (((8 : Int32) * a_many) - x2) / a_many * a_many)), (0, .ref (a 0)), (1, .int x1), (2, .int x2)]) hx hb dX8_startOf_24 rfl hl (by decide) rfl (fun ls hl => ?_)
      refine lv_iload_n hx hb dX8_startOf_25 rfl (lv_at hl 2 rfl) ?_
      refine lv_aload_n hx hb dX8_startOf_26 rfl (lv_at hl 1 rfl) ?_
      refine zg_X8_34 X Z 0 rfl rfl dX8_startOf_27 ?_
      refine lv_iload_n hx hb dX8_startOf_30 rfl (lv_at hl 0 rfl) ?_
      obtain ⟨i3, hf⟩ := in_s hf
      refine z_ld (j := ((((8 : Int32) * a_many) - x2) - (((8 : Int32) * a_many) - x2) / a_many * a_many).toNatClampNeg) X Z 9 rfl i3 rfl dX8_startOf_31 ?_
      refine lv_iload_n hx hb dX8_startOf_32 rfl (lv_at hl 3 rfl) ?_
      refine lv_icmp_lt (tgt := 49) hx hb dX8_startOf_33 (by decide) (fun c4 => ?_) (fun c4 => ?_)
      · have hf := it_t c4 hf
        refine lv_iconst (v := 0) hx hb dX8_startOf_49 (by decide) ?_
        refine lv_ior hx hb dX8_startOf_50 ?_
        refine lv_istore_n (lv' := [(1, .int (x1 ||| (0 : Int32))), (3, .int ((((8 : Int32) * a_many) - x2) - (((8 : Int32) * a_many) - x2) / a_many * a_many)), (0, .ref (a 0)), (2, .int x2)]) hx hb dX8_startOf_51 rfl hl (by decide) rfl (fun ls hl => ?_)
        refine lv_iinc (v := x2 + (1 : Int32)) (lv' := [(2, .int (x2 + (1 : Int32))), (1, .int (x1 ||| (0 : Int32))), (3, .int ((((8 : Int32) * a_many) - x2) - (((8 : Int32) * a_many) - x2) / a_many * a_many)), (0, .ref (a 0))]) hx hb dX8_startOf_52 hl (k := 3) rfl rfl (by decide) rfl (fun ls hl => ?_)
        refine lv_goto (tgt := 4) hx hb dX8_startOf_55 (by decide) ?_
        exact ih hf Z (lv_sub hl [3, 1, 0] rfl)
      · have hf := it_f c4 hf
        refine lv_iconst (v := 1) hx hb dX8_startOf_36 (by decide) ?_
        refine lv_aload_n hx hb dX8_startOf_37 rfl (lv_at hl 1 rfl) ?_
        refine zg_X8_34 X Z 0 rfl rfl dX8_startOf_38 ?_
        refine lv_iload_n hx hb dX8_startOf_41 rfl (lv_at hl 0 rfl) ?_
        obtain ⟨i5, hf⟩ := in_s hf
        refine z_ld (j := ((((8 : Int32) * a_many) - x2) - (((8 : Int32) * a_many) - x2) / a_many * a_many).toNatClampNeg) X Z 9 rfl i5 rfl dX8_startOf_42 ?_
        refine lv_iload_n hx hb dX8_startOf_43 rfl (lv_at hl 3 rfl) ?_
        refine lv_isub hx hb dX8_startOf_44 ?_
        refine lv_ishl hx hb dX8_startOf_45 ?_
        refine lv_goto (tgt := 50) hx hb dX8_startOf_46 (by decide) ?_
        refine lv_ior hx hb dX8_startOf_50 ?_
        refine lv_istore_n (lv' := [(1, .int (x1 ||| ((1 : Int32) <<< (((a_heights ((((8 : Int32) * a_many) - x2) - (((8 : Int32) * a_many) - x2) / a_many * a_many).toNatClampNeg) - x2) &&& 31)))), (3, .int ((((8 : Int32) * a_many) - x2) - (((8 : Int32) * a_many) - x2) / a_many * a_many)), (0, .ref (a 0)), (2, .int x2)]) hx hb dX8_startOf_51 rfl hl (by decide) rfl (fun ls hl => ?_)
        refine lv_iinc (v := x2 + (1 : Int32)) (lv' := [(2, .int (x2 + (1 : Int32))), (1, .int (x1 ||| ((1 : Int32) <<< (((a_heights ((((8 : Int32) * a_many) - x2) - (((8 : Int32) * a_many) - x2) / a_many * a_many).toNatClampNeg) - x2) &&& 31)))), (3, .int ((((8 : Int32) * a_many) - x2) - (((8 : Int32) * a_many) - x2) / a_many * a_many)), (0, .ref (a 0))]) hx hb dX8_startOf_52 hl (k := 3) rfl rfl (by decide) rfl (fun ls hl => ?_)
        refine lv_goto (tgt := 4) hx hb dX8_startOf_55 (by decide) ?_
        exact ih hf Z (lv_sub hl [3, 1, 0] rfl)

def f_X8_startOf (a_heights : (Nat → Int32)) (a_many : Int32) : Option (Int32) := f_X8_startOf_L4 a_heights a_many zF (0 : Int32) (1 : Int32)
set_option maxHeartbeats 4000000 in
set_option maxRecDepth 100000 in
theorem c_X8_startOf (l : Launch) (D : va_G) (cI cR : ClassId) (a : (Nat → Nat)) (a_all : (Nat → Int32)) (a_kept : (Nat → Int32)) (a_history : (Nat → Int32)) (a_historyLong : Int32) (a_slots : (Nat → Int32)) (a_isSaved : (Nat → Int32)) (a_pad : (Nat → Int32)) (a_padLong : Int32) (a_readHeight : (Nat → Int32)) (a_readPass : (Nat → Int32)) (a_readMany : Int32) (a_heights : (Nat → Int32)) (a_many : Int32) (a_takes : (Nat → Int32)) {R : Int32} (hf : f_X8_startOf a_heights a_many = some R) : zM l D cI cR yX8_startOf cX8_startOf 4 (some .int) 0 0 [.ref (a 0)] [w_X8 cI cR a a_all a_kept a_history a_historyLong a_slots a_isSaved a_pad a_padLong a_readHeight a_readPass a_readMany a_heights a_many a_takes] (some (.int R)) [w_X8 cI cR a a_all a_kept a_history a_historyLong a_slots a_isSaved a_pad a_padLong a_readHeight a_readPass a_readMany a_heights a_many a_takes] := by
  refine z_of (own := RX8) rfl (by decide) (Nat.le_of_ble_eq_true rfl) ?_
  intro p e s m args below meth c A ls X hr hlocks Z hl
  have hx := X.1.1
  have hb := X.1.2.1
  have Z : zW D A s [w_X8 cI cR a a_all a_kept a_history a_historyLong a_slots a_isSaved a_pad a_padLong a_readHeight a_readPass a_readMany a_heights a_many a_takes] s.heap [] := Z
  have hl : lv_has ls 4 [(0, .ref (a 0))] := hl
  refine lv_iconst (v := 0) hx hb dX8_startOf_0 (by decide) ?_
  refine lv_istore_n (lv' := [(1, .int (0 : Int32)), (0, .ref (a 0))]) hx hb dX8_startOf_1 rfl hl (by decide) rfl (fun ls hl => ?_)
  refine lv_iconst (v := 1) hx hb dX8_startOf_2 (by decide) ?_
  refine lv_istore_n (lv' := [(2, .int (1 : Int32)), (1, .int (0 : Int32)), (0, .ref (a 0))]) hx hb dX8_startOf_3 rfl hl (by decide) rfl (fun ls hl => ?_)
  exact w_X8_startOf_L4 X hr hlocks _ hf Z (lv_sub hl [2, 1, 0] rfl)
def f_X8_orbitOf_L15 (a_heights : (Nat → Int32)) (a_many : Int32) : Nat → Int32 → Int32 → Option (Int32)
  | 0, _, _ => none
  | n + 1, x2, x3 => if ((x2 >>> (x3 &&& 31)) &&& (1 : Int32)) = 0 then ((f_X8_lands a_heights a_many x3).bind (fun q4 => f_X8_orbitOf_L15 a_heights a_many n (x2 ||| ((1 : Int32) <<< (x3 &&& 31))) q4 )) else (some x2)
set_option maxHeartbeats 4000000 in
set_option maxRecDepth 100000 in
theorem w_X8_orbitOf_L15 {p : Program} {l : Launch} {e : Env} {s : State} {m : MethodId} {args : Array Value} {below : List Frame} {meth : Method} {c : Code} {D : va_G} {cI cR : ClassId} {A : Nat → Prop} {a : (Nat → Nat)} {a_all : (Nat → Int32)} {a_kept : (Nat → Int32)} {a_history : (Nat → Int32)} {a_historyLong : Int32} {a_slots : (Nat → Int32)} {a_isSaved : (Nat → Int32)} {a_pad : (Nat → Int32)} {a_padLong : Int32} {a_readHeight : (Nat → Int32)} {a_readPass : (Nat → Int32)} {a_readMany : Int32} {a_heights : (Nat → Int32)} {a_many : Int32} {a_takes : (Nat → Int32)} {R : Int32} (X : zX p s m c cX8_orbitOf 4 args RX8 D cI cR A) (hr : meth.sig.returnType = (some .int)) (hlocks : meth.locks = false) : ∀ (n : Nat)  {x2 : Int32} {x3 : Int32} {H : Heap} {locs : List Loc} {ls : Array Slot}, f_X8_orbitOf_L15 a_heights a_many n x2 x3 = some R → zW D A s [w_X8 cI cR a a_all a_kept a_history a_historyLong a_slots a_isSaved a_pad a_padLong a_readHeight a_readPass a_readMany a_heights a_many a_takes] H locs → lv_has ls 4 [(0, .ref (a 0)), (2, .int x2), (3, .int x3)] → W p l e ({ frames := 1, cells := 0, slots := 0, locals := 21 } : Room) s m args below meth c H locs 0 0 (zE D A below s args (some (.int R)) [w_X8 cI cR a a_all a_kept a_history a_historyLong a_slots a_isSaved a_pad a_padLong a_readHeight a_readPass a_readMany a_heights a_many a_takes]) (F0 m 15 ls []) := by
  have hx := X.1.1
  have hb := X.1.2.1
  intro n
  induction n with
  | zero =>
    intro x2 x3 H locs ls hf
    have hf : none = some R := hf
    cases hf
  | succ n ih =>
    intro x2 x3 H locs ls hf Z hl
    refine lv_iload_n hx hb dX8_orbitOf_15 rfl (lv_at hl 1 rfl) ?_
    refine lv_iload_n hx hb dX8_orbitOf_16 rfl (lv_at hl 2 rfl) ?_
    refine lv_ishr hx hb dX8_orbitOf_17 ?_
    refine lv_iconst (v := 1) hx hb dX8_orbitOf_18 (by decide) ?_
    refine lv_iand hx hb dX8_orbitOf_19 ?_
    refine lv_if_ne (tgt := 38) hx hb dX8_orbitOf_20 (by decide) (fun c3 => ?_) (fun c3 => ?_)
    · have hf := it_f c3 hf
      refine lv_iload_n hx hb dX8_orbitOf_38 rfl (lv_at hl 1 rfl) ?_
      have hR := so_s hf
      subst hR
      refine z_iret X hr hlocks ?_ dX8_orbitOf_39
      exact Z.eq rfl
    · have hf := it_t c3 hf
      refine lv_iload_n hx hb dX8_orbitOf_23 rfl (lv_at hl 1 rfl) ?_
      refine lv_iconst (v := 1) hx hb dX8_orbitOf_24 (by decide) ?_
      refine lv_iload_n hx hb dX8_orbitOf_25 rfl (lv_at hl 2 rfl) ?_
      refine lv_ishl hx hb dX8_orbitOf_26 ?_
      refine lv_ior hx hb dX8_orbitOf_27 ?_
      refine lv_istore_n (lv' := [(2, .int (x2 ||| ((1 : Int32) <<< (x3 &&& 31)))), (0, .ref (a 0)), (3, .int x3)]) hx hb dX8_orbitOf_28 rfl hl (by decide) rfl (fun ls hl => ?_)
      refine lv_aload_n hx hb dX8_orbitOf_29 rfl (lv_at hl 1 rfl) ?_
      refine lv_iload_n hx hb dX8_orbitOf_30 rfl (lv_at hl 2 rfl) ?_
      obtain ⟨q4, hq4, hf⟩ := ob_s hf
      refine z_roV X Z (c_X8_lands l D cI cR a a_all a_kept a_history a_historyLong a_slots a_isSaved a_pad a_padLong a_readHeight a_readPass a_readMany a_heights a_many a_takes x3 hq4) (zw_X8_116 X.1.2.2.2.2 ⟨Nat.le_of_ble_eq_true rfl, Nat.le_of_ble_eq_true rfl⟩) 0 8 rfl rfl rfl [0] [] (by decide : ([0] ++ [] : List Nat).Perm (List.range 1)) rfl rfl hl.1 rfl (Nat.le_of_ble_eq_true rfl) dX8_orbitOf_31 ⟨Nat.le_of_ble_eq_true rfl, Nat.le_of_ble_eq_true rfl⟩ (fun H locs Z => ?_)
      refine lv_istore_n (lv' := [(3, .int q4), (2, .int (x2 ||| ((1 : Int32) <<< (x3 &&& 31)))), (0, .ref (a 0))]) hx hb dX8_orbitOf_34 rfl hl (by decide) rfl (fun ls hl => ?_)
      refine lv_goto (tgt := 15) hx hb dX8_orbitOf_35 (by decide) ?_
      exact ih hf Z (lv_sub hl [2, 1, 0] rfl)

def f_X8_orbitOf (a_heights : (Nat → Int32)) (a_many : Int32) (p1 : Int32) : Option (Int32) := if p1 < 0 ∨ 8 ≤ p1.toNatClampNeg then none else (if (a_heights p1.toNatClampNeg) = 0 then (some (0 : Int32)) else (f_X8_orbitOf_L15 a_heights a_many zF (0 : Int32) p1))
set_option maxHeartbeats 4000000 in
set_option maxRecDepth 100000 in
theorem c_X8_orbitOf (l : Launch) (D : va_G) (cI cR : ClassId) (a : (Nat → Nat)) (a_all : (Nat → Int32)) (a_kept : (Nat → Int32)) (a_history : (Nat → Int32)) (a_historyLong : Int32) (a_slots : (Nat → Int32)) (a_isSaved : (Nat → Int32)) (a_pad : (Nat → Int32)) (a_padLong : Int32) (a_readHeight : (Nat → Int32)) (a_readPass : (Nat → Int32)) (a_readMany : Int32) (a_heights : (Nat → Int32)) (a_many : Int32) (a_takes : (Nat → Int32)) (p1 : Int32) {R : Int32} (hf : f_X8_orbitOf a_heights a_many p1 = some R) : zM l D cI cR yX8_orbitOf cX8_orbitOf 4 (some .int) 1 21 [.ref (a 0), .int p1] [w_X8 cI cR a a_all a_kept a_history a_historyLong a_slots a_isSaved a_pad a_padLong a_readHeight a_readPass a_readMany a_heights a_many a_takes] (some (.int R)) [w_X8 cI cR a a_all a_kept a_history a_historyLong a_slots a_isSaved a_pad a_padLong a_readHeight a_readPass a_readMany a_heights a_many a_takes] := by
  refine z_of (own := RX8) rfl (by decide) (Nat.le_of_ble_eq_true rfl) ?_
  intro p e s m args below meth c A ls X hr hlocks Z hl
  have hx := X.1.1
  have hb := X.1.2.1
  have Z : zW D A s [w_X8 cI cR a a_all a_kept a_history a_historyLong a_slots a_isSaved a_pad a_padLong a_readHeight a_readPass a_readMany a_heights a_many a_takes] s.heap [] := Z
  have hl : lv_has ls 4 [(0, .ref (a 0)), (1, .int p1)] := hl
  refine lv_aload_n hx hb dX8_orbitOf_0 rfl (lv_at hl 0 rfl) ?_
  refine zg_X8_34 X Z 0 rfl rfl dX8_orbitOf_1 ?_
  refine lv_iload_n hx hb dX8_orbitOf_4 rfl (lv_at hl 1 rfl) ?_
  obtain ⟨i1, hf⟩ := in_s hf
  refine z_ld (j := p1.toNatClampNeg) X Z 9 rfl i1 rfl dX8_orbitOf_5 ?_
  refine lv_if_ne (tgt := 11) hx hb dX8_orbitOf_6 (by decide) (fun c2 => ?_) (fun c2 => ?_)
  · have hf := it_f c2 hf
    refine lv_iconst (v := 0) hx hb dX8_orbitOf_11 (by decide) ?_
    refine lv_istore_n (lv' := [(2, .int (0 : Int32)), (0, .ref (a 0)), (1, .int p1)]) hx hb dX8_orbitOf_12 rfl hl (by decide) rfl (fun ls hl => ?_)
    refine lv_iload_n hx hb dX8_orbitOf_13 rfl (lv_at hl 2 rfl) ?_
    refine lv_istore_n (lv' := [(3, .int p1), (2, .int (0 : Int32)), (0, .ref (a 0)), (1, .int p1)]) hx hb dX8_orbitOf_14 rfl hl (by decide) rfl (fun ls hl => ?_)
    exact w_X8_orbitOf_L15 X hr hlocks _ hf Z (lv_sub hl [2, 1, 0] rfl)
  · have hf := it_t c2 hf
    refine lv_iconst (v := 0) hx hb dX8_orbitOf_9 (by decide) ?_
    have hR := so_s hf
    subst hR
    refine z_iret X hr hlocks ?_ dX8_orbitOf_10
    exact Z.eq rfl
def f_X8_orbits_L4 (a_heights : (Nat → Int32)) (a_many : Int32) : Nat → Int32 → Int32 → Option (Int32)
  | 0, _, _ => none
  | n + 1, x1, x2 => if a_many ≤ x2 then (some x1) else ((f_X8_orbitOf a_heights a_many x2).bind (fun q2 => if q2 = 0 then (f_X8_orbits_L4 a_heights a_many n (x1 + (0 : Int32)) (x2 + (1 : Int32)) ) else (if (q2 &&& (((1 : Int32) <<< (x2 &&& 31)) - (1 : Int32))) = 0 then (f_X8_orbits_L4 a_heights a_many n (x1 + (1 : Int32)) (x2 + (1 : Int32)) ) else (f_X8_orbits_L4 a_heights a_many n (x1 + (0 : Int32)) (x2 + (1 : Int32)) ))))
set_option maxHeartbeats 4000000 in
set_option maxRecDepth 100000 in
theorem w_X8_orbits_L4 {p : Program} {l : Launch} {e : Env} {s : State} {m : MethodId} {args : Array Value} {below : List Frame} {meth : Method} {c : Code} {D : va_G} {cI cR : ClassId} {A : Nat → Prop} {a : (Nat → Nat)} {a_all : (Nat → Int32)} {a_kept : (Nat → Int32)} {a_history : (Nat → Int32)} {a_historyLong : Int32} {a_slots : (Nat → Int32)} {a_isSaved : (Nat → Int32)} {a_pad : (Nat → Int32)} {a_padLong : Int32} {a_readHeight : (Nat → Int32)} {a_readPass : (Nat → Int32)} {a_readMany : Int32} {a_heights : (Nat → Int32)} {a_many : Int32} {a_takes : (Nat → Int32)} {R : Int32} (X : zX p s m c cX8_orbits 4 args RX8 D cI cR A) (hr : meth.sig.returnType = (some .int)) (hlocks : meth.locks = false) : ∀ (n : Nat)  {x1 : Int32} {x2 : Int32} {H : Heap} {locs : List Loc} {ls : Array Slot}, f_X8_orbits_L4 a_heights a_many n x1 x2 = some R → zW D A s [w_X8 cI cR a a_all a_kept a_history a_historyLong a_slots a_isSaved a_pad a_padLong a_readHeight a_readPass a_readMany a_heights a_many a_takes] H locs → lv_has ls 4 [(0, .ref (a 0)), (1, .int x1), (2, .int x2)] → W p l e ({ frames := 2, cells := 0, slots := 0, locals := 44 } : Room) s m args below meth c H locs 0 0 (zE D A below s args (some (.int R)) [w_X8 cI cR a a_all a_kept a_history a_historyLong a_slots a_isSaved a_pad a_padLong a_readHeight a_readPass a_readMany a_heights a_many a_takes]) (F0 m 4 ls []) := by
  have hx := X.1.1
  have hb := X.1.2.1
  intro n
  induction n with
  | zero =>
    intro x1 x2 H locs ls hf
    have hf : none = some R := hf
    cases hf
  | succ n ih =>
    intro x1 x2 H locs ls hf Z hl
    refine lv_iload_n hx hb dX8_orbits_4 rfl (lv_at hl 2 rfl) ?_
    refine lv_aload_n hx hb dX8_orbits_5 rfl (lv_at hl 0 rfl) ?_
    refine zg_X8_113 X Z 0 rfl rfl dX8_orbits_6 ?_
    refine lv_icmp_ge (tgt := 46) hx hb dX8_orbits_9 (by decide) (fun c1 => ?_) (fun c1 => ?_)
    · have hf := it_t c1 hf
      refine lv_iload_n hx hb dX8_orbits_46 rfl (lv_at hl 1 rfl) ?_
      have hR := so_s hf
      subst hR
      refine z_iret X hr hlocks ?_ dX8_orbits_47
      exact Z.eq rfl
    · have hf := it_f c1 hf
      refine lv_aload_n hx hb dX8_orbits_12 rfl (lv_at hl 0 rfl) ?_
      refine lv_iload_n hx hb dX8_orbits_13 rfl (lv_at hl 2 rfl) ?_
      obtain ⟨q2, hq2, hf⟩ := ob_s hf
      refine z_roV X Z (c_X8_orbitOf l D cI cR a a_all a_kept a_history a_historyLong a_slots a_isSaved a_pad a_padLong a_readHeight a_readPass a_readMany a_heights a_many a_takes x2 hq2) (zw_X8_119 X.1.2.2.2.2 ⟨Nat.le_of_ble_eq_true rfl, Nat.le_of_ble_eq_true rfl⟩) 0 8 rfl rfl rfl [0] [] (by decide : ([0] ++ [] : List Nat).Perm (List.range 1)) rfl rfl hl.1 rfl (Nat.le_of_ble_eq_true rfl) dX8_orbits_14 ⟨Nat.le_of_ble_eq_true rfl, Nat.le_of_ble_eq_true rfl⟩ (fun H locs Z => ?_)
      refine lv_istore_n (lv' := [(3, .int q2), (0, .ref (a 0)), (1, .int x1), (2, .int x2)]) hx hb dX8_orbits_17 rfl hl (by decide) rfl (fun ls hl => ?_)
      refine lv_iload_n hx hb dX8_orbits_18 rfl (lv_at hl 2 rfl) ?_
      refine lv_iload_n hx hb dX8_orbits_19 rfl (lv_at hl 0 rfl) ?_
      refine lv_if_eq (tgt := 37) hx hb dX8_orbits_20 (by decide) (fun c3 => ?_) (fun c3 => ?_)
      · have hf := it_t c3 hf
        refine lv_iconst (v := 0) hx hb dX8_orbits_37 (by decide) ?_
        refine lv_iadd hx hb dX8_orbits_38 ?_
        refine lv_istore_n (lv' := [(1, .int (x1 + (0 : Int32))), (3, .int q2), (0, .ref (a 0)), (2, .int x2)]) hx hb dX8_orbits_39 rfl hl (by decide) rfl (fun ls hl => ?_)
        refine lv_iinc (v := x2 + (1 : Int32)) (lv' := [(2, .int (x2 + (1 : Int32))), (1, .int (x1 + (0 : Int32))), (3, .int q2), (0, .ref (a 0))]) hx hb dX8_orbits_40 hl (k := 3) rfl rfl (by decide) rfl (fun ls hl => ?_)
        refine lv_goto (tgt := 4) hx hb dX8_orbits_43 (by decide) ?_
        exact ih hf Z (lv_sub hl [3, 1, 0] rfl)
      · have hf := it_f c3 hf
        refine lv_iload_n hx hb dX8_orbits_23 rfl (lv_at hl 0 rfl) ?_
        refine lv_iconst (v := 1) hx hb dX8_orbits_24 (by decide) ?_
        refine lv_iload_n hx hb dX8_orbits_25 rfl (lv_at hl 3 rfl) ?_
        refine lv_ishl hx hb dX8_orbits_26 ?_
        refine lv_iconst (v := 1) hx hb dX8_orbits_27 (by decide) ?_
        refine lv_isub hx hb dX8_orbits_28 ?_
        refine lv_iand hx hb dX8_orbits_29 ?_
        refine lv_if_ne (tgt := 37) hx hb dX8_orbits_30 (by decide) (fun c4 => ?_) (fun c4 => ?_)
        · have hf := it_f c4 hf
          refine lv_iconst (v := 0) hx hb dX8_orbits_37 (by decide) ?_
          refine lv_iadd hx hb dX8_orbits_38 ?_
          refine lv_istore_n (lv' := [(1, .int (x1 + (0 : Int32))), (3, .int q2), (0, .ref (a 0)), (2, .int x2)]) hx hb dX8_orbits_39 rfl hl (by decide) rfl (fun ls hl => ?_)
          refine lv_iinc (v := x2 + (1 : Int32)) (lv' := [(2, .int (x2 + (1 : Int32))), (1, .int (x1 + (0 : Int32))), (3, .int q2), (0, .ref (a 0))]) hx hb dX8_orbits_40 hl (k := 3) rfl rfl (by decide) rfl (fun ls hl => ?_)
          refine lv_goto (tgt := 4) hx hb dX8_orbits_43 (by decide) ?_
          exact ih hf Z (lv_sub hl [3, 1, 0] rfl)
        · have hf := it_t c4 hf
          refine lv_iconst (v := 1) hx hb dX8_orbits_33 (by decide) ?_
          refine lv_goto (tgt := 38) hx hb dX8_orbits_34 (by decide) ?_
          refine lv_iadd hx hb dX8_orbits_38 ?_
          refine lv_istore_n (lv' := [(1, .int (x1 + (1 : Int32))), (3, .int q2), (0, .ref (a 0)), (2, .int x2)]) hx hb dX8_orbits_39 rfl hl (by decide) rfl (fun ls hl => ?_)
          refine lv_iinc (v := x2 + (1 : Int32)) (lv' := [(2, .int (x2 + (1 : Int32))), (1, .int (x1 + (1 : Int32))), (3, .int q2), (0, .ref (a 0))]) hx hb dX8_orbits_40 hl (k := 3) rfl rfl (by decide) rfl (fun ls hl => ?_)
          refine lv_goto (tgt := 4) hx hb dX8_orbits_43 (by decide) ?_
          exact ih hf Z (lv_sub hl [3, 1, 0] rfl)

def f_X8_orbits (a_heights : (Nat → Int32)) (a_many : Int32) : Option (Int32) := f_X8_orbits_L4 a_heights a_many zF (0 : Int32) (0 : Int32)
set_option maxHeartbeats 4000000 in
set_option maxRecDepth 100000 in
theorem c_X8_orbits (l : Launch) (D : va_G) (cI cR : ClassId) (a : (Nat → Nat)) (a_all : (Nat → Int32)) (a_kept : (Nat → Int32)) (a_history : (Nat → Int32)) (a_historyLong : Int32) (a_slots : (Nat → Int32)) (a_isSaved : (Nat → Int32)) (a_pad : (Nat → Int32)) (a_padLong : Int32) (a_readHeight : (Nat → Int32)) (a_readPass : (Nat → Int32)) (a_readMany : Int32) (a_heights : (Nat → Int32)) (a_many : Int32) (a_takes : (Nat → Int32)) {R : Int32} (hf : f_X8_orbits a_heights a_many = some R) : zM l D cI cR yX8_orbits cX8_orbits 4 (some .int) 2 44 [.ref (a 0)] [w_X8 cI cR a a_all a_kept a_history a_historyLong a_slots a_isSaved a_pad a_padLong a_readHeight a_readPass a_readMany a_heights a_many a_takes] (some (.int R)) [w_X8 cI cR a a_all a_kept a_history a_historyLong a_slots a_isSaved a_pad a_padLong a_readHeight a_readPass a_readMany a_heights a_many a_takes] := by
  refine z_of (own := RX8) rfl (by decide) (Nat.le_of_ble_eq_true rfl) ?_
  intro p e s m args below meth c A ls X hr hlocks Z hl
  have hx := X.1.1
  have hb := X.1.2.1
  have Z : zW D A s [w_X8 cI cR a a_all a_kept a_history a_historyLong a_slots a_isSaved a_pad a_padLong a_readHeight a_readPass a_readMany a_heights a_many a_takes] s.heap [] := Z
  have hl : lv_has ls 4 [(0, .ref (a 0))] := hl
  refine lv_iconst (v := 0) hx hb dX8_orbits_0 (by decide) ?_
  refine lv_istore_n (lv' := [(1, .int (0 : Int32)), (0, .ref (a 0))]) hx hb dX8_orbits_1 rfl hl (by decide) rfl (fun ls hl => ?_)
  refine lv_iconst (v := 0) hx hb dX8_orbits_2 (by decide) ?_
  refine lv_istore_n (lv' := [(2, .int (0 : Int32)), (1, .int (0 : Int32)), (0, .ref (a 0))]) hx hb dX8_orbits_3 rfl hl (by decide) rfl (fun ls hl => ?_)
  exact w_X8_orbits_L4 X hr hlocks _ hf Z (lv_sub hl [2, 1, 0] rfl)
def f_X8_comesAgain_L17 (a_heights : (Nat → Int32)) (a_many : Int32) (x1 : Int32) : Nat → Int32 → Int32 → Option (Int32)
  | 0, _, _ => none
  | n + 1, x2, x3 => if a_many ≤ x3 then (if x2 = 0 ∨ x2 = 1 then some x2 else none) else (if x2 = 0 then (f_X8_comesAgain_L17 a_heights a_many x1 n (0 : Int32) (x3 + (1 : Int32)) ) else (if x3 < 0 ∨ 8 ≤ x3.toNatClampNeg then none else (if (x3 - x1) < 0 ∨ 8 ≤ (x3 - x1).toNatClampNeg then none else (if (a_heights x3.toNatClampNeg) = (a_heights (x3 - x1).toNatClampNeg) then (f_X8_comesAgain_L17 a_heights a_many x1 n (1 : Int32) (x3 + (1 : Int32)) ) else (f_X8_comesAgain_L17 a_heights a_many x1 n (0 : Int32) (x3 + (1 : Int32)) )))))
set_option maxHeartbeats 4000000 in
set_option maxRecDepth 100000 in
theorem w_X8_comesAgain_L17 {p : Program} {l : Launch} {e : Env} {s : State} {m : MethodId} {args : Array Value} {below : List Frame} {meth : Method} {c : Code} {D : va_G} {cI cR : ClassId} {A : Nat → Prop} {a : (Nat → Nat)} {a_all : (Nat → Int32)} {a_kept : (Nat → Int32)} {a_history : (Nat → Int32)} {a_historyLong : Int32} {a_slots : (Nat → Int32)} {a_isSaved : (Nat → Int32)} {a_pad : (Nat → Int32)} {a_padLong : Int32} {a_readHeight : (Nat → Int32)} {a_readPass : (Nat → Int32)} {a_readMany : Int32} {a_heights : (Nat → Int32)} {a_many : Int32} {a_takes : (Nat → Int32)} {x1 : Int32} {R : Int32} (X : zX p s m c cX8_comesAgain 4 args RX8 D cI cR A) (hr : meth.sig.returnType = (some .boolean)) (hlocks : meth.locks = false) : ∀ (n : Nat)  {x2 : Int32} {x3 : Int32} {H : Heap} {locs : List Loc} {ls : Array Slot}, f_X8_comesAgain_L17 a_heights a_many x1 n x2 x3 = some R → zW D A s [w_X8 cI cR a a_all a_kept a_history a_historyLong a_slots a_isSaved a_pad a_padLong a_readHeight a_readPass a_readMany a_heights a_many a_takes] H locs → lv_has ls 4 [(0, .ref (a 0)), (1, .int x1), (2, .int x2), (3, .int x3)] → W p l e ({ frames := 0, cells := 0, slots := 0, locals := 0 } : Room) s m args below meth c H locs 0 0 (zE D A below s args (some (.int R)) [w_X8 cI cR a a_all a_kept a_history a_historyLong a_slots a_isSaved a_pad a_padLong a_readHeight a_readPass a_readMany a_heights a_many a_takes]) (F0 m 17 ls []) := by
  have hx := X.1.1
  have hb := X.1.2.1
  intro n
  induction n with
  | zero =>
    intro x2 x3 H locs ls hf
    have hf : none = some R := hf
    cases hf
  | succ n ih =>
    intro x2 x3 H locs ls hf Z hl
    refine lv_iload_n hx hb dX8_comesAgain_17 rfl (lv_at hl 3 rfl) ?_
    refine lv_aload_n hx hb dX8_comesAgain_18 rfl (lv_at hl 0 rfl) ?_
    refine zg_X8_113 X Z 0 rfl rfl dX8_comesAgain_19 ?_
    refine lv_icmp_ge (tgt := 58) hx hb dX8_comesAgain_22 (by decide) (fun c3 => ?_) (fun c3 => ?_)
    · have hf := it_t c3 hf
      refine lv_iload_n hx hb dX8_comesAgain_58 rfl (lv_at hl 2 rfl) ?_
      obtain ⟨hz, hf⟩ := oi_s hf
      have hR := so_s hf
      subst hR
      refine z_zret X hr hlocks hz ?_ dX8_comesAgain_59
      exact Z.eq rfl
    · have hf := it_f c3 hf
      refine lv_iload_n hx hb dX8_comesAgain_25 rfl (lv_at hl 2 rfl) ?_
      refine lv_if_eq (tgt := 50) hx hb dX8_comesAgain_26 (by decide) (fun c4 => ?_) (fun c4 => ?_)
      · have hf := it_t c4 hf
        refine lv_iconst (v := 0) hx hb dX8_comesAgain_50 (by decide) ?_
        refine lv_istore_n (lv' := [(2, .int (0 : Int32)), (0, .ref (a 0)), (1, .int x1), (3, .int x3)]) hx hb dX8_comesAgain_51 rfl hl (by decide) rfl (fun ls hl => ?_)
        refine lv_iinc (v := x3 + (1 : Int32)) (lv' := [(3, .int (x3 + (1 : Int32))), (2, .int (0 : Int32)), (0, .ref (a 0)), (1, .int x1)]) hx hb dX8_comesAgain_52 hl (k := 3) rfl rfl (by decide) rfl (fun ls hl => ?_)
        refine lv_goto (tgt := 17) hx hb dX8_comesAgain_55 (by decide) ?_
        exact ih hf Z (lv_sub hl [2, 3, 1, 0] rfl)
      · have hf := it_f c4 hf
        refine lv_aload_n hx hb dX8_comesAgain_29 rfl (lv_at hl 0 rfl) ?_
        refine zg_X8_34 X Z 0 rfl rfl dX8_comesAgain_30 ?_
        refine lv_iload_n hx hb dX8_comesAgain_33 rfl (lv_at hl 3 rfl) ?_
        obtain ⟨i5, hf⟩ := in_s hf
        refine z_ld (j := x3.toNatClampNeg) X Z 9 rfl i5 rfl dX8_comesAgain_34 ?_
        refine lv_aload_n hx hb dX8_comesAgain_35 rfl (lv_at hl 0 rfl) ?_
        refine zg_X8_34 X Z 0 rfl rfl dX8_comesAgain_36 ?_
        refine lv_iload_n hx hb dX8_comesAgain_39 rfl (lv_at hl 3 rfl) ?_
        refine lv_iload_n hx hb dX8_comesAgain_40 rfl (lv_at hl 1 rfl) ?_
        refine lv_isub hx hb dX8_comesAgain_41 ?_
        obtain ⟨i6, hf⟩ := in_s hf
        refine z_ld (j := (x3 - x1).toNatClampNeg) X Z 9 rfl i6 rfl dX8_comesAgain_42 ?_
        refine lv_icmp_ne (tgt := 50) hx hb dX8_comesAgain_43 (by decide) (fun c7 => ?_) (fun c7 => ?_)
        · have hf := it_f c7 hf
          refine lv_iconst (v := 0) hx hb dX8_comesAgain_50 (by decide) ?_
          refine lv_istore_n (lv' := [(2, .int (0 : Int32)), (0, .ref (a 0)), (1, .int x1), (3, .int x3)]) hx hb dX8_comesAgain_51 rfl hl (by decide) rfl (fun ls hl => ?_)
          refine lv_iinc (v := x3 + (1 : Int32)) (lv' := [(3, .int (x3 + (1 : Int32))), (2, .int (0 : Int32)), (0, .ref (a 0)), (1, .int x1)]) hx hb dX8_comesAgain_52 hl (k := 3) rfl rfl (by decide) rfl (fun ls hl => ?_)
          refine lv_goto (tgt := 17) hx hb dX8_comesAgain_55 (by decide) ?_
          exact ih hf Z (lv_sub hl [2, 3, 1, 0] rfl)
        · have hf := it_t c7 hf
          refine lv_iconst (v := 1) hx hb dX8_comesAgain_46 (by decide) ?_
          refine lv_goto (tgt := 51) hx hb dX8_comesAgain_47 (by decide) ?_
          refine lv_istore_n (lv' := [(2, .int (1 : Int32)), (0, .ref (a 0)), (1, .int x1), (3, .int x3)]) hx hb dX8_comesAgain_51 rfl hl (by decide) rfl (fun ls hl => ?_)
          refine lv_iinc (v := x3 + (1 : Int32)) (lv' := [(3, .int (x3 + (1 : Int32))), (2, .int (1 : Int32)), (0, .ref (a 0)), (1, .int x1)]) hx hb dX8_comesAgain_52 hl (k := 3) rfl rfl (by decide) rfl (fun ls hl => ?_)
          refine lv_goto (tgt := 17) hx hb dX8_comesAgain_55 (by decide) ?_
          exact ih hf Z (lv_sub hl [2, 3, 1, 0] rfl)

def f_X8_comesAgain (a_heights : (Nat → Int32)) (a_many : Int32) (p1 : Int32) : Option (Int32) := if p1 = 0 then none else (if (a_many - a_many / p1 * p1) = 0 then (f_X8_comesAgain_L17 a_heights a_many p1 zF (1 : Int32) p1) else (f_X8_comesAgain_L17 a_heights a_many p1 zF (0 : Int32) p1))
set_option maxHeartbeats 4000000 in
set_option maxRecDepth 100000 in
theorem c_X8_comesAgain (l : Launch) (D : va_G) (cI cR : ClassId) (a : (Nat → Nat)) (a_all : (Nat → Int32)) (a_kept : (Nat → Int32)) (a_history : (Nat → Int32)) (a_historyLong : Int32) (a_slots : (Nat → Int32)) (a_isSaved : (Nat → Int32)) (a_pad : (Nat → Int32)) (a_padLong : Int32) (a_readHeight : (Nat → Int32)) (a_readPass : (Nat → Int32)) (a_readMany : Int32) (a_heights : (Nat → Int32)) (a_many : Int32) (a_takes : (Nat → Int32)) (p1 : Int32) {R : Int32} (hf : f_X8_comesAgain a_heights a_many p1 = some R) : zM l D cI cR yX8_comesAgain cX8_comesAgain 4 (some .boolean) 0 0 [.ref (a 0), .int p1] [w_X8 cI cR a a_all a_kept a_history a_historyLong a_slots a_isSaved a_pad a_padLong a_readHeight a_readPass a_readMany a_heights a_many a_takes] (some (.int R)) [w_X8 cI cR a a_all a_kept a_history a_historyLong a_slots a_isSaved a_pad a_padLong a_readHeight a_readPass a_readMany a_heights a_many a_takes] := by
  refine z_of (own := RX8) rfl (by decide) (Nat.le_of_ble_eq_true rfl) ?_
  intro p e s m args below meth c A ls X hr hlocks Z hl
  have hx := X.1.1
  have hb := X.1.2.1
  have Z : zW D A s [w_X8 cI cR a a_all a_kept a_history a_historyLong a_slots a_isSaved a_pad a_padLong a_readHeight a_readPass a_readMany a_heights a_many a_takes] s.heap [] := Z
  have hl : lv_has ls 4 [(0, .ref (a 0)), (1, .int p1)] := hl
  refine lv_aload_n hx hb dX8_comesAgain_0 rfl (lv_at hl 0 rfl) ?_
  refine zg_X8_113 X Z 0 rfl rfl dX8_comesAgain_1 ?_
  refine lv_iload_n hx hb dX8_comesAgain_4 rfl (lv_at hl 1 rfl) ?_
  obtain ⟨i1, hf⟩ := in_s hf
  refine lv_irem hx hb dX8_comesAgain_5 i1 ?_
  refine lv_if_ne (tgt := 13) hx hb dX8_comesAgain_6 (by decide) (fun c2 => ?_) (fun c2 => ?_)
  · have hf := it_f c2 hf
    refine lv_iconst (v := 0) hx hb dX8_comesAgain_13 (by decide) ?_
    refine lv_istore_n (lv' := [(2, .int (0 : Int32)), (0, .ref (a 0)), (1, .int p1)]) hx hb dX8_comesAgain_14 rfl hl (by decide) rfl (fun ls hl => ?_)
    refine lv_iload_n hx hb dX8_comesAgain_15 rfl (lv_at hl 2 rfl) ?_
    refine lv_istore_n (lv' := [(3, .int p1), (2, .int (0 : Int32)), (0, .ref (a 0)), (1, .int p1)]) hx hb dX8_comesAgain_16 rfl hl (by decide) rfl (fun ls hl => ?_)
    exact w_X8_comesAgain_L17 X hr hlocks _ hf Z (lv_sub hl [2, 3, 1, 0] rfl)
  · have hf := it_t c2 hf
    refine lv_iconst (v := 1) hx hb dX8_comesAgain_9 (by decide) ?_
    refine lv_goto (tgt := 14) hx hb dX8_comesAgain_10 (by decide) ?_
    refine lv_istore_n (lv' := [(2, .int (1 : Int32)), (0, .ref (a 0)), (1, .int p1)]) hx hb dX8_comesAgain_14 rfl hl (by decide) rfl (fun ls hl => ?_)
    refine lv_iload_n hx hb dX8_comesAgain_15 rfl (lv_at hl 2 rfl) ?_
    refine lv_istore_n (lv' := [(3, .int p1), (2, .int (1 : Int32)), (0, .ref (a 0)), (1, .int p1)]) hx hb dX8_comesAgain_16 rfl hl (by decide) rfl (fun ls hl => ?_)
    exact w_X8_comesAgain_L17 X hr hlocks _ hf Z (lv_sub hl [2, 3, 1, 0] rfl)
def f_X8_period_L2 (a_heights : (Nat → Int32)) (a_many : Int32) : Nat → Int32 → Option (Int32)
  | 0, _ => none
  | n + 1, x1 => (f_X8_comesAgain a_heights a_many x1).bind (fun q1 => if q1 = 0 then (f_X8_period_L2 a_heights a_many n (x1 + (1 : Int32)) ) else (some x1))
set_option maxHeartbeats 4000000 in
set_option maxRecDepth 100000 in
theorem w_X8_period_L2 {p : Program} {l : Launch} {e : Env} {s : State} {m : MethodId} {args : Array Value} {below : List Frame} {meth : Method} {c : Code} {D : va_G} {cI cR : ClassId} {A : Nat → Prop} {a : (Nat → Nat)} {a_all : (Nat → Int32)} {a_kept : (Nat → Int32)} {a_history : (Nat → Int32)} {a_historyLong : Int32} {a_slots : (Nat → Int32)} {a_isSaved : (Nat → Int32)} {a_pad : (Nat → Int32)} {a_padLong : Int32} {a_readHeight : (Nat → Int32)} {a_readPass : (Nat → Int32)} {a_readMany : Int32} {a_heights : (Nat → Int32)} {a_many : Int32} {a_takes : (Nat → Int32)} {R : Int32} (X : zX p s m c cX8_period 2 args RX8 D cI cR A) (hr : meth.sig.returnType = (some .int)) (hlocks : meth.locks = false) : ∀ (n : Nat)  {x1 : Int32} {H : Heap} {locs : List Loc} {ls : Array Slot}, f_X8_period_L2 a_heights a_many n x1 = some R → zW D A s [w_X8 cI cR a a_all a_kept a_history a_historyLong a_slots a_isSaved a_pad a_padLong a_readHeight a_readPass a_readMany a_heights a_many a_takes] H locs → lv_has ls 2 [(0, .ref (a 0)), (1, .int x1)] → W p l e ({ frames := 1, cells := 0, slots := 0, locals := 23 } : Room) s m args below meth c H locs 0 0 (zE D A below s args (some (.int R)) [w_X8 cI cR a a_all a_kept a_history a_historyLong a_slots a_isSaved a_pad a_padLong a_readHeight a_readPass a_readMany a_heights a_many a_takes]) (F0 m 2 ls []) := by
  have hx := X.1.1
  have hb := X.1.2.1
  intro n
  induction n with
  | zero =>
    intro x1 H locs ls hf
    have hf : none = some R := hf
    cases hf
  | succ n ih =>
    intro x1 H locs ls hf Z hl
    refine lv_aload_n hx hb dX8_period_2 rfl (lv_at hl 0 rfl) ?_
    refine lv_iload_n hx hb dX8_period_3 rfl (lv_at hl 1 rfl) ?_
    obtain ⟨q1, hq1, hf⟩ := ob_s hf
    refine z_roV X Z (c_X8_comesAgain l D cI cR a a_all a_kept a_history a_historyLong a_slots a_isSaved a_pad a_padLong a_readHeight a_readPass a_readMany a_heights a_many a_takes x1 hq1) (zw_X8_122 X.1.2.2.2.2 ⟨Nat.le_of_ble_eq_true rfl, Nat.le_of_ble_eq_true rfl⟩) 0 8 rfl rfl rfl [0] [] (by decide : ([0] ++ [] : List Nat).Perm (List.range 1)) rfl rfl hl.1 rfl (Nat.le_of_ble_eq_true rfl) dX8_period_4 ⟨Nat.le_of_ble_eq_true rfl, Nat.le_of_ble_eq_true rfl⟩ (fun H locs Z => ?_)
    refine lv_if_ne (tgt := 16) hx hb dX8_period_7 (by decide) (fun c2 => ?_) (fun c2 => ?_)
    · have hf := it_f c2 hf
      refine lv_iload_n hx hb dX8_period_16 rfl (lv_at hl 1 rfl) ?_
      have hR := so_s hf
      subst hR
      refine z_iret X hr hlocks ?_ dX8_period_17
      exact Z.eq rfl
    · have hf := it_t c2 hf
      refine lv_iinc (v := x1 + (1 : Int32)) (lv' := [(1, .int (x1 + (1 : Int32))), (0, .ref (a 0))]) hx hb dX8_period_10 hl (k := 1) rfl rfl (by decide) rfl (fun ls hl => ?_)
      refine lv_goto (tgt := 2) hx hb dX8_period_13 (by decide) ?_
      exact ih hf Z (lv_sub hl [1, 0] rfl)

def f_X8_period (a_heights : (Nat → Int32)) (a_many : Int32) : Option (Int32) := f_X8_period_L2 a_heights a_many zF (1 : Int32)
set_option maxHeartbeats 4000000 in
set_option maxRecDepth 100000 in
theorem c_X8_period (l : Launch) (D : va_G) (cI cR : ClassId) (a : (Nat → Nat)) (a_all : (Nat → Int32)) (a_kept : (Nat → Int32)) (a_history : (Nat → Int32)) (a_historyLong : Int32) (a_slots : (Nat → Int32)) (a_isSaved : (Nat → Int32)) (a_pad : (Nat → Int32)) (a_padLong : Int32) (a_readHeight : (Nat → Int32)) (a_readPass : (Nat → Int32)) (a_readMany : Int32) (a_heights : (Nat → Int32)) (a_many : Int32) (a_takes : (Nat → Int32)) {R : Int32} (hf : f_X8_period a_heights a_many = some R) : zM l D cI cR yX8_period cX8_period 2 (some .int) 1 23 [.ref (a 0)] [w_X8 cI cR a a_all a_kept a_history a_historyLong a_slots a_isSaved a_pad a_padLong a_readHeight a_readPass a_readMany a_heights a_many a_takes] (some (.int R)) [w_X8 cI cR a a_all a_kept a_history a_historyLong a_slots a_isSaved a_pad a_padLong a_readHeight a_readPass a_readMany a_heights a_many a_takes] := by
  refine z_of (own := RX8) rfl (by decide) (Nat.le_of_ble_eq_true rfl) ?_
  intro p e s m args below meth c A ls X hr hlocks Z hl
  have hx := X.1.1
  have hb := X.1.2.1
  have Z : zW D A s [w_X8 cI cR a a_all a_kept a_history a_historyLong a_slots a_isSaved a_pad a_padLong a_readHeight a_readPass a_readMany a_heights a_many a_takes] s.heap [] := Z
  have hl : lv_has ls 2 [(0, .ref (a 0))] := hl
  refine lv_iconst (v := 1) hx hb dX8_period_0 (by decide) ?_
  refine lv_istore_n (lv' := [(1, .int (1 : Int32)), (0, .ref (a 0))]) hx hb dX8_period_1 rfl hl (by decide) rfl (fun ls hl => ?_)
  exact w_X8_period_L2 X hr hlocks _ hf Z (lv_sub hl [1, 0] rfl)
def f_X8_told (a_heights : (Nat → Int32)) (a_many : Int32) (p1 : Int32) : Option (Int32) := (f_X8_sumOfHeights a_heights a_many).bind (fun q1 => if a_many = 0 then none else (if p1 = (1 : Int32) then (some (q1 / a_many)) else (if p1 = (2 : Int32) then ((f_X8_startOf a_heights a_many).bind (fun q13 => some q13)) else (if p1 = (3 : Int32) then ((f_X8_orbits a_heights a_many).bind (fun q12 => some q12)) else (if p1 = (4 : Int32) then ((f_X8_orbitOf a_heights a_many (0 : Int32)).bind (fun q11 => some q11)) else (if p1 = (5 : Int32) then ((f_X8_period a_heights a_many).bind (fun q10 => some q10)) else ((f_X8_startOf a_heights a_many).bind (fun q8 => if q8 = (((1 : Int32) <<< ((q1 / a_many) &&& 31)) - (1 : Int32)) then (some (1 : Int32)) else (some (0 : Int32))))))))))
set_option maxHeartbeats 4000000 in
set_option maxRecDepth 100000 in
theorem c_X8_told (l : Launch) (D : va_G) (cI cR : ClassId) (a : (Nat → Nat)) (a_all : (Nat → Int32)) (a_kept : (Nat → Int32)) (a_history : (Nat → Int32)) (a_historyLong : Int32) (a_slots : (Nat → Int32)) (a_isSaved : (Nat → Int32)) (a_pad : (Nat → Int32)) (a_padLong : Int32) (a_readHeight : (Nat → Int32)) (a_readPass : (Nat → Int32)) (a_readMany : Int32) (a_heights : (Nat → Int32)) (a_many : Int32) (a_takes : (Nat → Int32)) (p1 : Int32) {R : Int32} (hf : f_X8_told a_heights a_many p1 = some R) : zM l D cI cR yX8_told cX8_told 3 (some .int) 3 67 [.ref (a 0), .int p1] [w_X8 cI cR a a_all a_kept a_history a_historyLong a_slots a_isSaved a_pad a_padLong a_readHeight a_readPass a_readMany a_heights a_many a_takes] (some (.int R)) [w_X8 cI cR a a_all a_kept a_history a_historyLong a_slots a_isSaved a_pad a_padLong a_readHeight a_readPass a_readMany a_heights a_many a_takes] := by
  refine z_of (own := RX8) rfl (by decide) (Nat.le_of_ble_eq_true rfl) ?_
  intro p e s m args below meth c A ls X hr hlocks Z hl
  have hx := X.1.1
  have hb := X.1.2.1
  have Z : zW D A s [w_X8 cI cR a a_all a_kept a_history a_historyLong a_slots a_isSaved a_pad a_padLong a_readHeight a_readPass a_readMany a_heights a_many a_takes] s.heap [] := Z
  have hl : lv_has ls 3 [(0, .ref (a 0)), (1, .int p1)] := hl
  refine lv_aload_n hx hb dX8_told_0 rfl (lv_at hl 0 rfl) ?_
  obtain ⟨q1, hq1, hf⟩ := ob_s hf
  refine z_roV X Z (c_X8_sumOfHeights l D cI cR a a_all a_kept a_history a_historyLong a_slots a_isSaved a_pad a_padLong a_readHeight a_readPass a_readMany a_heights a_many a_takes  hq1) (zw_X8_125 X.1.2.2.2.2 ⟨Nat.le_of_ble_eq_true rfl, Nat.le_of_ble_eq_true rfl⟩) 0 8 rfl rfl rfl [0] [] (by decide : ([0] ++ [] : List Nat).Perm (List.range 1)) rfl rfl hl.1 rfl (Nat.le_of_ble_eq_true rfl) dX8_told_1 ⟨Nat.le_of_ble_eq_true rfl, Nat.le_of_ble_eq_true rfl⟩ (fun H locs Z => ?_)
  refine lv_aload_n hx hb dX8_told_4 rfl (lv_at hl 0 rfl) ?_
  refine zg_X8_113 X Z 0 rfl rfl dX8_told_5 ?_
  obtain ⟨i2, hf⟩ := in_s hf
  refine lv_idiv hx hb dX8_told_8 i2 ?_
  refine lv_istore_n (lv' := [(2, .int (q1 / a_many)), (0, .ref (a 0)), (1, .int p1)]) hx hb dX8_told_9 rfl hl (by decide) rfl (fun ls hl => ?_)
  refine lv_iload_n hx hb dX8_told_10 rfl (lv_at hl 2 rfl) ?_
  refine lv_iconst (v := 1) hx hb dX8_told_11 (by decide) ?_
  refine lv_icmp_ne (tgt := 19) hx hb dX8_told_12 (by decide) (fun c3 => ?_) (fun c3 => ?_)
  · have hf := it_f c3 hf
    refine lv_iload_n hx hb dX8_told_19 rfl (lv_at hl 2 rfl) ?_
    refine lv_iconst (v := 2) hx hb dX8_told_20 (by decide) ?_
    refine lv_icmp_ne (tgt := 31) hx hb dX8_told_21 (by decide) (fun c4 => ?_) (fun c4 => ?_)
    · have hf := it_f c4 hf
      refine lv_iload_n hx hb dX8_told_31 rfl (lv_at hl 2 rfl) ?_
      refine lv_iconst (v := 3) hx hb dX8_told_32 (by decide) ?_
      refine lv_icmp_ne (tgt := 43) hx hb dX8_told_33 (by decide) (fun c5 => ?_) (fun c5 => ?_)
      · have hf := it_f c5 hf
        refine lv_iload_n hx hb dX8_told_43 rfl (lv_at hl 2 rfl) ?_
        refine lv_iconst (v := 4) hx hb dX8_told_44 (by decide) ?_
        refine lv_icmp_ne (tgt := 56) hx hb dX8_told_45 (by decide) (fun c6 => ?_) (fun c6 => ?_)
        · have hf := it_f c6 hf
          refine lv_iload_n hx hb dX8_told_56 rfl (lv_at hl 2 rfl) ?_
          refine lv_iconst (v := 5) hx hb dX8_told_57 (by decide) ?_
          refine lv_icmp_ne (tgt := 68) hx hb dX8_told_58 (by decide) (fun c7 => ?_) (fun c7 => ?_)
          · have hf := it_f c7 hf
            refine lv_aload_n hx hb dX8_told_68 rfl (lv_at hl 1 rfl) ?_
            obtain ⟨q8, hq8, hf⟩ := ob_s hf
            refine z_roV X Z (c_X8_startOf l D cI cR a a_all a_kept a_history a_historyLong a_slots a_isSaved a_pad a_padLong a_readHeight a_readPass a_readMany a_heights a_many a_takes  hq8) (zw_X8_128 X.1.2.2.2.2 ⟨Nat.le_of_ble_eq_true rfl, Nat.le_of_ble_eq_true rfl⟩) 0 8 rfl rfl rfl [0] [] (by decide : ([0] ++ [] : List Nat).Perm (List.range 1)) rfl rfl hl.1 rfl (Nat.le_of_ble_eq_true rfl) dX8_told_69 ⟨Nat.le_of_ble_eq_true rfl, Nat.le_of_ble_eq_true rfl⟩ (fun H locs Z => ?_)
            refine lv_iconst (v := 1) hx hb dX8_told_72 (by decide) ?_
            refine lv_iload_n hx hb dX8_told_73 rfl (lv_at hl 0 rfl) ?_
            refine lv_ishl hx hb dX8_told_74 ?_
            refine lv_iconst (v := 1) hx hb dX8_told_75 (by decide) ?_
            refine lv_isub hx hb dX8_told_76 ?_
            refine lv_icmp_ne (tgt := 84) hx hb dX8_told_77 (by decide) (fun c9 => ?_) (fun c9 => ?_)
            · have hf := it_f c9 hf
              refine lv_iconst (v := 0) hx hb dX8_told_84 (by decide) ?_
              have hR := so_s hf
              subst hR
              refine z_iret X hr hlocks ?_ dX8_told_85
              exact Z.eq rfl
            · have hf := it_t c9 hf
              refine lv_iconst (v := 1) hx hb dX8_told_80 (by decide) ?_
              refine lv_goto (tgt := 85) hx hb dX8_told_81 (by decide) ?_
              have hR := so_s hf
              subst hR
              refine z_iret X hr hlocks ?_ dX8_told_85
              exact Z.eq rfl
          · have hf := it_t c7 hf
            refine lv_aload_n hx hb dX8_told_61 rfl (lv_at hl 1 rfl) ?_
            obtain ⟨q10, hq10, hf⟩ := ob_s hf
            refine z_roV X Z (c_X8_period l D cI cR a a_all a_kept a_history a_historyLong a_slots a_isSaved a_pad a_padLong a_readHeight a_readPass a_readMany a_heights a_many a_takes  hq10) (zw_X8_134 X.1.2.2.2.2 ⟨Nat.le_of_ble_eq_true rfl, Nat.le_of_ble_eq_true rfl⟩) 0 8 rfl rfl rfl [0] [] (by decide : ([0] ++ [] : List Nat).Perm (List.range 1)) rfl rfl hl.1 rfl (Nat.le_of_ble_eq_true rfl) dX8_told_62 ⟨Nat.le_of_ble_eq_true rfl, Nat.le_of_ble_eq_true rfl⟩ (fun H locs Z => ?_)
            refine lv_goto (tgt := 85) hx hb dX8_told_65 (by decide) ?_
            have hR := so_s hf
            subst hR
            refine z_iret X hr hlocks ?_ dX8_told_85
            exact Z.eq rfl
        · have hf := it_t c6 hf
          refine lv_aload_n hx hb dX8_told_48 rfl (lv_at hl 1 rfl) ?_
          refine lv_iconst (v := 0) hx hb dX8_told_49 (by decide) ?_
          obtain ⟨q11, hq11, hf⟩ := ob_s hf
          refine z_roV X Z (c_X8_orbitOf l D cI cR a a_all a_kept a_history a_historyLong a_slots a_isSaved a_pad a_padLong a_readHeight a_readPass a_readMany a_heights a_many a_takes (0 : Int32) hq11) (zw_X8_119 X.1.2.2.2.2 ⟨Nat.le_of_ble_eq_true rfl, Nat.le_of_ble_eq_true rfl⟩) 0 8 rfl rfl rfl [0] [] (by decide : ([0] ++ [] : List Nat).Perm (List.range 1)) rfl rfl hl.1 rfl (Nat.le_of_ble_eq_true rfl) dX8_told_50 ⟨Nat.le_of_ble_eq_true rfl, Nat.le_of_ble_eq_true rfl⟩ (fun H locs Z => ?_)
          refine lv_goto (tgt := 85) hx hb dX8_told_53 (by decide) ?_
          have hR := so_s hf
          subst hR
          refine z_iret X hr hlocks ?_ dX8_told_85
          exact Z.eq rfl
      · have hf := it_t c5 hf
        refine lv_aload_n hx hb dX8_told_36 rfl (lv_at hl 1 rfl) ?_
        obtain ⟨q12, hq12, hf⟩ := ob_s hf
        refine z_roV X Z (c_X8_orbits l D cI cR a a_all a_kept a_history a_historyLong a_slots a_isSaved a_pad a_padLong a_readHeight a_readPass a_readMany a_heights a_many a_takes  hq12) (zw_X8_131 X.1.2.2.2.2 ⟨Nat.le_of_ble_eq_true rfl, Nat.le_of_ble_eq_true rfl⟩) 0 8 rfl rfl rfl [0] [] (by decide : ([0] ++ [] : List Nat).Perm (List.range 1)) rfl rfl hl.1 rfl (Nat.le_of_ble_eq_true rfl) dX8_told_37 ⟨Nat.le_of_ble_eq_true rfl, Nat.le_of_ble_eq_true rfl⟩ (fun H locs Z => ?_)
        refine lv_goto (tgt := 85) hx hb dX8_told_40 (by decide) ?_
        have hR := so_s hf
        subst hR
        refine z_iret X hr hlocks ?_ dX8_told_85
        exact Z.eq rfl
    · have hf := it_t c4 hf
      refine lv_aload_n hx hb dX8_told_24 rfl (lv_at hl 1 rfl) ?_
      obtain ⟨q13, hq13, hf⟩ := ob_s hf
      refine z_roV X Z (c_X8_startOf l D cI cR a a_all a_kept a_history a_historyLong a_slots a_isSaved a_pad a_padLong a_readHeight a_readPass a_readMany a_heights a_many a_takes  hq13) (zw_X8_128 X.1.2.2.2.2 ⟨Nat.le_of_ble_eq_true rfl, Nat.le_of_ble_eq_true rfl⟩) 0 8 rfl rfl rfl [0] [] (by decide : ([0] ++ [] : List Nat).Perm (List.range 1)) rfl rfl hl.1 rfl (Nat.le_of_ble_eq_true rfl) dX8_told_25 ⟨Nat.le_of_ble_eq_true rfl, Nat.le_of_ble_eq_true rfl⟩ (fun H locs Z => ?_)
      refine lv_goto (tgt := 85) hx hb dX8_told_28 (by decide) ?_
      have hR := so_s hf
      subst hR
      refine z_iret X hr hlocks ?_ dX8_told_85
      exact Z.eq rfl
  · have hf := it_t c3 hf
    refine lv_iload_n hx hb dX8_told_15 rfl (lv_at hl 0 rfl) ?_
    refine lv_goto (tgt := 85) hx hb dX8_told_16 (by decide) ?_
    have hR := so_s hf
    subst hR
    refine z_iret X hr hlocks ?_ dX8_told_85
    exact Z.eq rfl
def f_X8_pattern (a_pad : (Nat → Int32)) (a_padLong : Int32) (a_heights : (Nat → Int32)) (a_many : Int32) (p1 : Int32) : Option (Int32 × (Nat → Int32) × Int32) := (f_X8_readsPattern a_pad a_padLong a_heights a_many).bind (fun q1 => if q1.1 = 0 then (some ((-3 : Int32), q1.2.1, q1.2.2)) else ((f_X8_in p1.toInt64 (0 : Int64) (6 : Int64)).bind (fun q3 => if q3 = 0 then (some ((-2 : Int32), q1.2.1, q1.2.2)) else (if p1 = 0 then ((f_X8_isSound q1.2.1 q1.2.2).bind (fun q9 => if q9 = 0 then (some ((0 : Int32), q1.2.1, q1.2.2)) else (some ((1 : Int32), q1.2.1, q1.2.2)))) else ((f_X8_isSound q1.2.1 q1.2.2).bind (fun q6 => if q6 = 0 then (some ((-5 : Int32), q1.2.1, q1.2.2)) else ((f_X8_told q1.2.1 q1.2.2 p1).bind (fun q8 => some (q8, q1.2.1, q1.2.2)))))))))
set_option maxHeartbeats 4000000 in
set_option maxRecDepth 100000 in
theorem c_X8_pattern (l : Launch) (D : va_G) (cI cR : ClassId) (a : (Nat → Nat)) (a_all : (Nat → Int32)) (a_kept : (Nat → Int32)) (a_history : (Nat → Int32)) (a_historyLong : Int32) (a_slots : (Nat → Int32)) (a_isSaved : (Nat → Int32)) (a_pad : (Nat → Int32)) (a_padLong : Int32) (a_readHeight : (Nat → Int32)) (a_readPass : (Nat → Int32)) (a_readMany : Int32) (a_heights : (Nat → Int32)) (a_many : Int32) (a_takes : (Nat → Int32)) (p1 : Int32) {R : Int32 × (Nat → Int32) × Int32} (hf : f_X8_pattern a_pad a_padLong a_heights a_many p1 = some R) : zM l D cI cR yX8_pattern cX8_pattern 2 (some .int) 4 89 [.ref (a 0), .int p1] [w_X8 cI cR a a_all a_kept a_history a_historyLong a_slots a_isSaved a_pad a_padLong a_readHeight a_readPass a_readMany a_heights a_many a_takes] (some (.int R.1)) [w_X8 cI cR a a_all a_kept a_history a_historyLong a_slots a_isSaved a_pad a_padLong a_readHeight a_readPass a_readMany R.2.1 R.2.2 a_takes] := by
  refine z_of (own := RX8) rfl (by decide) (Nat.le_of_ble_eq_true rfl) ?_
  intro p e s m args below meth c A ls X hr hlocks Z hl
  have hx := X.1.1
  have hb := X.1.2.1
  have Z : zW D A s [w_X8 cI cR a a_all a_kept a_history a_historyLong a_slots a_isSaved a_pad a_padLong a_readHeight a_readPass a_readMany a_heights a_many a_takes] s.heap [] := Z
  have hl : lv_has ls 2 [(0, .ref (a 0)), (1, .int p1)] := hl
  refine lv_aload_n hx hb dX8_pattern_0 rfl (lv_at hl 0 rfl) ?_
  obtain ⟨q1, hq1, hf⟩ := ob_s hf
  refine z_callV X Z (c_X8_readsPattern l D cI cR a a_all a_kept a_history a_historyLong a_slots a_isSaved a_pad a_padLong a_readHeight a_readPass a_readMany a_heights a_many a_takes  hq1) (zw_X8_137 X.1.2.2.2.2 ⟨Nat.le_of_ble_eq_true rfl, Nat.le_of_ble_eq_true rfl⟩) 0 8 rfl rfl rfl [0] [] [w_X8 cI cR a a_all a_kept a_history a_historyLong a_slots a_isSaved a_pad a_padLong a_readHeight a_readPass a_readMany q1.2.1 q1.2.2 a_takes] (by decide : ([0] ++ [] : List Nat).Perm (List.range 1)) rfl rfl rfl rfl rfl hl.1 rfl (Nat.le_of_ble_eq_true rfl) dX8_pattern_1 ⟨Nat.le_of_ble_eq_true rfl, Nat.le_of_ble_eq_true rfl⟩ (fun H locs Z => ?_)
  refine lv_if_ne (tgt := 10) hx hb dX8_pattern_4 (by decide) (fun c2 => ?_) (fun c2 => ?_)
  · have hf := it_f c2 hf
    refine lv_iload_n hx hb dX8_pattern_10 rfl (lv_at hl 1 rfl) ?_
    refine lv_i2l hx hb dX8_pattern_11 rfl ?_
    refine lv_lconst (v := 0) hx hb dX8_pattern_12 (by decide) ?_
    refine lv_ldc2 hx hb X.1.2.2.2.1 (X.1.2.2.2.2 _ mk_X8_140) dX8_pattern_13 ?_
    obtain ⟨q3, hq3, hf⟩ := ob_s hf
    refine z_roS X Z (c_X8_in l D cI cR   p1.toInt64 (0 : Int64) (6 : Int64) hq3) (zw_X8_44 X.1.2.2.2.2 ⟨Nat.le_of_ble_eq_true rfl, Nat.le_of_ble_eq_true rfl⟩) [] [0] (by decide : ([] ++ [0] : List Nat).Perm (List.range 1)) rfl rfl hl.1 rfl (Nat.le_of_ble_eq_true rfl) dX8_pattern_16 ⟨Nat.le_of_ble_eq_true rfl, Nat.le_of_ble_eq_true rfl⟩ (fun H locs Z => ?_)
    refine lv_if_ne (tgt := 25) hx hb dX8_pattern_19 (by decide) (fun c4 => ?_) (fun c4 => ?_)
    · have hf := it_f c4 hf
      refine lv_iload_n hx hb dX8_pattern_25 rfl (lv_at hl 1 rfl) ?_
      refine lv_if_ne (tgt := 42) hx hb dX8_pattern_26 (by decide) (fun c5 => ?_) (fun c5 => ?_)
      · have hf := it_f c5 hf
        refine lv_aload_n hx hb dX8_pattern_42 rfl (lv_at hl 0 rfl) ?_
        obtain ⟨q6, hq6, hf⟩ := ob_s hf
        refine z_roV X Z (c_X8_isSound l D cI cR a a_all a_kept a_history a_historyLong a_slots a_isSaved a_pad a_padLong a_readHeight a_readPass a_readMany q1.2.1 q1.2.2 a_takes  hq6) (zw_X8_142 X.1.2.2.2.2 ⟨Nat.le_of_ble_eq_true rfl, Nat.le_of_ble_eq_true rfl⟩) 0 8 rfl rfl rfl [0] [] (by decide : ([0] ++ [] : List Nat).Perm (List.range 1)) rfl rfl hl.1 rfl (Nat.le_of_ble_eq_true rfl) dX8_pattern_43 ⟨Nat.le_of_ble_eq_true rfl, Nat.le_of_ble_eq_true rfl⟩ (fun H locs Z => ?_)
        refine lv_if_eq (tgt := 57) hx hb dX8_pattern_46 (by decide) (fun c7 => ?_) (fun c7 => ?_)
        · have hf := it_t c7 hf
          refine lv_bipush (v := -5) hx hb dX8_pattern_57 (by decide) ?_
          have hR := so_s hf
          subst hR
          refine z_iret X hr hlocks ?_ dX8_pattern_59
          exact Z.eq rfl
        · have hf := it_f c7 hf
          refine lv_aload_n hx hb dX8_pattern_49 rfl (lv_at hl 0 rfl) ?_
          refine lv_iload_n hx hb dX8_pattern_50 rfl (lv_at hl 1 rfl) ?_
          obtain ⟨q8, hq8, hf⟩ := ob_s hf
          refine z_roV X Z (c_X8_told l D cI cR a a_all a_kept a_history a_historyLong a_slots a_isSaved a_pad a_padLong a_readHeight a_readPass a_readMany q1.2.1 q1.2.2 a_takes p1 hq8) (zw_X8_145 X.1.2.2.2.2 ⟨Nat.le_of_ble_eq_true rfl, Nat.le_of_ble_eq_true rfl⟩) 0 8 rfl rfl rfl [0] [] (by decide : ([0] ++ [] : List Nat).Perm (List.range 1)) rfl rfl hl.1 rfl (Nat.le_of_ble_eq_true rfl) dX8_pattern_51 ⟨Nat.le_of_ble_eq_true rfl, Nat.le_of_ble_eq_true rfl⟩ (fun H locs Z => ?_)
          refine lv_goto (tgt := 59) hx hb dX8_pattern_54 (by decide) ?_
          have hR := so_s hf
          subst hR
          refine z_iret X hr hlocks ?_ dX8_pattern_59
          exact Z.eq rfl
      · have hf := it_t c5 hf
        refine lv_aload_n hx hb dX8_pattern_29 rfl (lv_at hl 0 rfl) ?_
        obtain ⟨q9, hq9, hf⟩ := ob_s hf
        refine z_roV X Z (c_X8_isSound l D cI cR a a_all a_kept a_history a_historyLong a_slots a_isSaved a_pad a_padLong a_readHeight a_readPass a_readMany q1.2.1 q1.2.2 a_takes  hq9) (zw_X8_142 X.1.2.2.2.2 ⟨Nat.le_of_ble_eq_true rfl, Nat.le_of_ble_eq_true rfl⟩) 0 8 rfl rfl rfl [0] [] (by decide : ([0] ++ [] : List Nat).Perm (List.range 1)) rfl rfl hl.1 rfl (Nat.le_of_ble_eq_true rfl) dX8_pattern_30 ⟨Nat.le_of_ble_eq_true rfl, Nat.le_of_ble_eq_true rfl⟩ (fun H locs Z => ?_)
        refine lv_if_eq (tgt := 40) hx hb dX8_pattern_33 (by decide) (fun c10 => ?_) (fun c10 => ?_)
        · have hf := it_t c10 hf
          refine lv_iconst (v := 0) hx hb dX8_pattern_40 (by decide) ?_
          have hR := so_s hf
          subst hR
          refine z_iret X hr hlocks ?_ dX8_pattern_41
          exact Z.eq rfl
        · have hf := it_f c10 hf
          refine lv_iconst (v := 1) hx hb dX8_pattern_36 (by decide) ?_
          refine lv_goto (tgt := 41) hx hb dX8_pattern_37 (by decide) ?_
          have hR := so_s hf
          subst hR
          refine z_iret X hr hlocks ?_ dX8_pattern_41
          exact Z.eq rfl
    · have hf := it_t c4 hf
      refine lv_bipush (v := -2) hx hb dX8_pattern_22 (by decide) ?_
      have hR := so_s hf
      subst hR
      refine z_iret X hr hlocks ?_ dX8_pattern_24
      exact Z.eq rfl
  · have hf := it_t c2 hf
    refine lv_bipush (v := -3) hx hb dX8_pattern_7 (by decide) ?_
    have hR := so_s hf
    subst hR
    refine z_iret X hr hlocks ?_ dX8_pattern_9
    exact Z.eq rfl
def f_X8_back_L40 (a_pad : (Nat → Int32)) (a_padLong : Int32) (a_heights : (Nat → Int32)) (a_many : Int32) (x1 : Int32) : Nat → Int32 → Option (Int32 × (Nat → Int32) × Int32)
  | 0, _ => none
  | n + 1, x2 => (f_X8_lands a_heights a_many x2).bind (fun q7 => if ((a_many - (1 : Int32)) - q7) = x1 then (if x2 < 0 ∨ 8 ≤ x2.toNatClampNeg then none else (some (a_heights x2.toNatClampNeg, a_heights, a_many))) else (f_X8_back_L40 a_pad a_padLong a_heights a_many x1 n (x2 + (1 : Int32)) ))
set_option maxHeartbeats 4000000 in
set_option maxRecDepth 100000 in
theorem w_X8_back_L40 {p : Program} {l : Launch} {e : Env} {s : State} {m : MethodId} {args : Array Value} {below : List Frame} {meth : Method} {c : Code} {D : va_G} {cI cR : ClassId} {A : Nat → Prop} {a : (Nat → Nat)} {a_all : (Nat → Int32)} {a_kept : (Nat → Int32)} {a_history : (Nat → Int32)} {a_historyLong : Int32} {a_slots : (Nat → Int32)} {a_isSaved : (Nat → Int32)} {a_pad : (Nat → Int32)} {a_padLong : Int32} {a_readHeight : (Nat → Int32)} {a_readPass : (Nat → Int32)} {a_readMany : Int32} {a_heights : (Nat → Int32)} {a_many : Int32} {a_takes : (Nat → Int32)} {x1 : Int32} {R : Int32 × (Nat → Int32) × Int32} (X : zX p s m c cX8_back 3 args RX8 D cI cR A) (hr : meth.sig.returnType = (some .int)) (hlocks : meth.locks = false) : ∀ (n : Nat)  {x2 : Int32} {H : Heap} {locs : List Loc} {ls : Array Slot}, f_X8_back_L40 a_pad a_padLong a_heights a_many x1 n x2 = some R → zW D A s [w_X8 cI cR a a_all a_kept a_history a_historyLong a_slots a_isSaved a_pad a_padLong a_readHeight a_readPass a_readMany a_heights a_many a_takes] H locs → lv_has ls 3 [(0, .ref (a 0)), (1, .int x1), (2, .int x2)] → W p l e ({ frames := 3, cells := 0, slots := 0, locals := 70 } : Room) s m args below meth c H locs 0 0 (zE D A below s args (some (.int R.1)) [w_X8 cI cR a a_all a_kept a_history a_historyLong a_slots a_isSaved a_pad a_padLong a_readHeight a_readPass a_readMany R.2.1 R.2.2 a_takes]) (F0 m 40 ls []) := by
  have hx := X.1.1
  have hb := X.1.2.1
  intro n
  induction n with
  | zero =>
    intro x2 H locs ls hf
    have hf : none = some R := hf
    cases hf
  | succ n ih =>
    intro x2 H locs ls hf Z hl
    refine lv_aload_n hx hb dX8_back_40 rfl (lv_at hl 0 rfl) ?_
    refine zg_X8_113 X Z 0 rfl rfl dX8_back_41 ?_
    refine lv_iconst (v := 1) hx hb dX8_back_44 (by decide) ?_
    refine lv_isub hx hb dX8_back_45 ?_
    refine lv_aload_n hx hb dX8_back_46 rfl (lv_at hl 0 rfl) ?_
    refine lv_iload_n hx hb dX8_back_47 rfl (lv_at hl 2 rfl) ?_
    obtain ⟨q7, hq7, hf⟩ := ob_s hf
    refine z_roV X Z (c_X8_lands l D cI cR a a_all a_kept a_history a_historyLong a_slots a_isSaved a_pad a_padLong a_readHeight a_readPass a_readMany a_heights a_many a_takes x2 hq7) (zw_X8_116 X.1.2.2.2.2 ⟨Nat.le_of_ble_eq_true rfl, Nat.le_of_ble_eq_true rfl⟩) 0 8 rfl rfl rfl [0] [] (by decide : ([0] ++ [] : List Nat).Perm (List.range 1)) rfl rfl hl.1 rfl (Nat.le_of_ble_eq_true rfl) dX8_back_48 ⟨Nat.le_of_ble_eq_true rfl, Nat.le_of_ble_eq_true rfl⟩ (fun H locs Z => ?_)
    refine lv_isub hx hb dX8_back_51 ?_
    refine lv_iload_n hx hb dX8_back_52 rfl (lv_at hl 1 rfl) ?_
    refine lv_icmp_eq (tgt := 62) hx hb dX8_back_53 (by decide) (fun c8 => ?_) (fun c8 => ?_)
    · have hf := it_t c8 hf
      refine lv_aload_n hx hb dX8_back_62 rfl (lv_at hl 0 rfl) ?_
      refine zg_X8_34 X Z 0 rfl rfl dX8_back_63 ?_
      refine lv_iload_n hx hb dX8_back_66 rfl (lv_at hl 2 rfl) ?_
      obtain ⟨i9, hf⟩ := in_s hf
      refine z_ld (j := x2.toNatClampNeg) X Z 9 rfl i9 rfl dX8_back_67 ?_
      have hR := so_s hf
      subst hR
      refine z_iret X hr hlocks ?_ dX8_back_68
      exact Z.eq rfl
    · have hf := it_f c8 hf
      refine lv_iinc (v := x2 + (1 : Int32)) (lv' := [(2, .int (x2 + (1 : Int32))), (0, .ref (a 0)), (1, .int x1)]) hx hb dX8_back_56 hl (k := 2) rfl rfl (by decide) rfl (fun ls hl => ?_)
      refine lv_goto (tgt := 40) hx hb dX8_back_59 (by decide) ?_
      exact ih hf Z (lv_sub hl [1, 2, 0] rfl)

def f_X8_back (a_pad : (Nat → Int32)) (a_padLong : Int32) (a_heights : (Nat → Int32)) (a_many : Int32) (p1 : Int32) : Option (Int32 × (Nat → Int32) × Int32) := (f_X8_readsPattern a_pad a_padLong a_heights a_many).bind (fun q1 => if q1.1 = 0 then (some ((-3 : Int32), q1.2.1, q1.2.2)) else ((f_X8_in p1.toInt64 (0 : Int64) (q1.2.2.toInt64 - (1 : Int64))).bind (fun q3 => if q3 = 0 then (some ((-1 : Int32), q1.2.1, q1.2.2)) else ((f_X8_isSound q1.2.1 q1.2.2).bind (fun q5 => if q5 = 0 then (some ((-5 : Int32), q1.2.1, q1.2.2)) else (f_X8_back_L40 a_pad a_padLong q1.2.1 q1.2.2 p1 zF (0 : Int32)))))))
set_option maxHeartbeats 4000000 in
set_option maxRecDepth 100000 in
theorem c_X8_back (l : Launch) (D : va_G) (cI cR : ClassId) (a : (Nat → Nat)) (a_all : (Nat → Int32)) (a_kept : (Nat → Int32)) (a_history : (Nat → Int32)) (a_historyLong : Int32) (a_slots : (Nat → Int32)) (a_isSaved : (Nat → Int32)) (a_pad : (Nat → Int32)) (a_padLong : Int32) (a_readHeight : (Nat → Int32)) (a_readPass : (Nat → Int32)) (a_readMany : Int32) (a_heights : (Nat → Int32)) (a_many : Int32) (a_takes : (Nat → Int32)) (p1 : Int32) {R : Int32 × (Nat → Int32) × Int32} (hf : f_X8_back a_pad a_padLong a_heights a_many p1 = some R) : zM l D cI cR yX8_back cX8_back 3 (some .int) 3 70 [.ref (a 0), .int p1] [w_X8 cI cR a a_all a_kept a_history a_historyLong a_slots a_isSaved a_pad a_padLong a_readHeight a_readPass a_readMany a_heights a_many a_takes] (some (.int R.1)) [w_X8 cI cR a a_all a_kept a_history a_historyLong a_slots a_isSaved a_pad a_padLong a_readHeight a_readPass a_readMany R.2.1 R.2.2 a_takes] := by
  refine z_of (own := RX8) rfl (by decide) (Nat.le_of_ble_eq_true rfl) ?_
  intro p e s m args below meth c A ls X hr hlocks Z hl
  have hx := X.1.1
  have hb := X.1.2.1
  have Z : zW D A s [w_X8 cI cR a a_all a_kept a_history a_historyLong a_slots a_isSaved a_pad a_padLong a_readHeight a_readPass a_readMany a_heights a_many a_takes] s.heap [] := Z
  have hl : lv_has ls 3 [(0, .ref (a 0)), (1, .int p1)] := hl
  refine lv_aload_n hx hb dX8_back_0 rfl (lv_at hl 0 rfl) ?_
  obtain ⟨q1, hq1, hf⟩ := ob_s hf
  refine z_callV X Z (c_X8_readsPattern l D cI cR a a_all a_kept a_history a_historyLong a_slots a_isSaved a_pad a_padLong a_readHeight a_readPass a_readMany a_heights a_many a_takes  hq1) (zw_X8_137 X.1.2.2.2.2 ⟨Nat.le_of_ble_eq_true rfl, Nat.le_of_ble_eq_true rfl⟩) 0 8 rfl rfl rfl [0] [] [w_X8 cI cR a a_all a_kept a_history a_historyLong a_slots a_isSaved a_pad a_padLong a_readHeight a_readPass a_readMany q1.2.1 q1.2.2 a_takes] (by decide : ([0] ++ [] : List Nat).Perm (List.range 1)) rfl rfl rfl rfl rfl hl.1 rfl (Nat.le_of_ble_eq_true rfl) dX8_back_1 ⟨Nat.le_of_ble_eq_true rfl, Nat.le_of_ble_eq_true rfl⟩ (fun H locs Z => ?_)
  refine lv_if_ne (tgt := 10) hx hb dX8_back_4 (by decide) (fun c2 => ?_) (fun c2 => ?_)
  · have hf := it_f c2 hf
    refine lv_iload_n hx hb dX8_back_10 rfl (lv_at hl 1 rfl) ?_
    refine lv_i2l hx hb dX8_back_11 rfl ?_
    refine lv_lconst (v := 0) hx hb dX8_back_12 (by decide) ?_
    refine lv_aload_n hx hb dX8_back_13 rfl (lv_at hl 0 rfl) ?_
    refine zg_X8_113 X Z 0 rfl rfl dX8_back_14 ?_
    refine lv_i2l hx hb dX8_back_17 rfl ?_
    refine lv_lconst (v := 1) hx hb dX8_back_18 (by decide) ?_
    refine lv_lsub hx hb dX8_back_19 ?_
    obtain ⟨q3, hq3, hf⟩ := ob_s hf
    refine z_roS X Z (c_X8_in l D cI cR   p1.toInt64 (0 : Int64) (q1.2.2.toInt64 - (1 : Int64)) hq3) (zw_X8_44 X.1.2.2.2.2 ⟨Nat.le_of_ble_eq_true rfl, Nat.le_of_ble_eq_true rfl⟩) [] [0] (by decide : ([] ++ [0] : List Nat).Perm (List.range 1)) rfl rfl hl.1 rfl (Nat.le_of_ble_eq_true rfl) dX8_back_20 ⟨Nat.le_of_ble_eq_true rfl, Nat.le_of_ble_eq_true rfl⟩ (fun H locs Z => ?_)
    refine lv_if_ne (tgt := 28) hx hb dX8_back_23 (by decide) (fun c4 => ?_) (fun c4 => ?_)
    · have hf := it_f c4 hf
      refine lv_aload_n hx hb dX8_back_28 rfl (lv_at hl 0 rfl) ?_
      obtain ⟨q5, hq5, hf⟩ := ob_s hf
      refine z_roV X Z (c_X8_isSound l D cI cR a a_all a_kept a_history a_historyLong a_slots a_isSaved a_pad a_padLong a_readHeight a_readPass a_readMany q1.2.1 q1.2.2 a_takes  hq5) (zw_X8_142 X.1.2.2.2.2 ⟨Nat.le_of_ble_eq_true rfl, Nat.le_of_ble_eq_true rfl⟩) 0 8 rfl rfl rfl [0] [] (by decide : ([0] ++ [] : List Nat).Perm (List.range 1)) rfl rfl hl.1 rfl (Nat.le_of_ble_eq_true rfl) dX8_back_29 ⟨Nat.le_of_ble_eq_true rfl, Nat.le_of_ble_eq_true rfl⟩ (fun H locs Z => ?_)
      refine lv_if_ne (tgt := 38) hx hb dX8_back_32 (by decide) (fun c6 => ?_) (fun c6 => ?_)
      · have hf := it_f c6 hf
        refine lv_iconst (v := 0) hx hb dX8_back_38 (by decide) ?_
        refine lv_istore_n (lv' := [(2, .int (0 : Int32)), (0, .ref (a 0)), (1, .int p1)]) hx hb dX8_back_39 rfl hl (by decide) rfl (fun ls hl => ?_)
        exact w_X8_back_L40 X hr hlocks _ hf Z (lv_sub hl [1, 2, 0] rfl)
      · have hf := it_t c6 hf
        refine lv_bipush (v := -5) hx hb dX8_back_35 (by decide) ?_
        have hR := so_s hf
        subst hR
        refine z_iret X hr hlocks ?_ dX8_back_37
        exact Z.eq rfl
    · have hf := it_t c4 hf
      refine lv_iconst (v := -1) hx hb dX8_back_26 (by decide) ?_
      have hR := so_s hf
      subst hR
      refine z_iret X hr hlocks ?_ dX8_back_27
      exact Z.eq rfl
  · have hf := it_t c2 hf
    refine lv_bipush (v := -3) hx hb dX8_back_7 (by decide) ?_
    have hR := so_s hf
    subst hR
    refine z_iret X hr hlocks ?_ dX8_back_9
    exact Z.eq rfl
