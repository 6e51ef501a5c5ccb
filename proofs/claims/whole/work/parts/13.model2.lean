def f_X8_firstDrop_L6 (a_kept : (Nat → Int32)) : Nat → Int32 → (Nat → Int32) → Option (Int32 × (Nat → Int32) × (Nat → Int32))
  | 0, _, _ => none
  | n + 1, x1, a_all => if (1000 : Int32) ≤ x1 then (if (a_all 38) ≤ (a_kept 38) then ((f_X8_giveBack a_all a_kept).bind (fun q4 => some ((-6 : Int32), q4, a_kept))) else ((f_X8_giveBack a_all a_kept).bind (fun q6 => some (x1 - (1 : Int32), q6, a_kept)))) else (if (a_all 38) = (a_kept 38) then ((f_X8_beats a_all).bind (fun q14 => f_X8_firstDrop_L6 a_kept n (x1 + (1 : Int32)) q14)) else (if (a_all 38) ≤ (a_kept 38) then ((f_X8_giveBack a_all a_kept).bind (fun q10 => some ((-6 : Int32), q10, a_kept))) else ((f_X8_giveBack a_all a_kept).bind (fun q12 => some (x1 - (1 : Int32), q12, a_kept)))))
set_option maxHeartbeats 4000000 in
set_option maxRecDepth 100000 in
theorem w_X8_firstDrop_L6 {p : Program} {l : Launch} {e : Env} {s : State} {m : MethodId} {args : Array Value} {below : List Frame} {meth : Method} {c : Code} {D : va_G} {cI cR : ClassId} {A : Nat → Prop} {a : (Nat → Nat)} {a_kept : (Nat → Int32)} {a_history : (Nat → Int32)} {a_historyLong : Int32} {a_slots : (Nat → Int32)} {a_isSaved : (Nat → Int32)} {a_pad : (Nat → Int32)} {a_padLong : Int32} {a_readHeight : (Nat → Int32)} {a_readPass : (Nat → Int32)} {a_readMany : Int32} {a_heights : (Nat → Int32)} {a_many : Int32} {a_takes : (Nat → Int32)} {R : Int32 × (Nat → Int32) × (Nat → Int32)} (X : zX p s m c cX8_firstDrop 3 args RX8 D cI cR A) (hr : meth.sig.returnType = (some .int)) (hlocks : meth.locks = false) : ∀ (n : Nat)  {x1 : Int32} {a_all : (Nat → Int32)} {H : Heap} {locs : List Loc} {ls : Array Slot}, f_X8_firstDrop_L6 a_kept n x1 a_all = some R → zW D A s [w_X8 cI cR a a_all a_kept a_history a_historyLong a_slots a_isSaved a_pad a_padLong a_readHeight a_readPass a_readMany a_heights a_many a_takes] H locs → lv_has ls 3 [(0, .ref (a 0)), (1, .int x1)] → W p l e ({ frames := 2, cells := 0, slots := 0, locals := 45 } : Room) s m args below meth c H locs 0 0 (zE D A below s args (some (.int R.1)) [w_X8 cI cR a R.2.1 R.2.2 a_history a_historyLong a_slots a_isSaved a_pad a_padLong a_readHeight a_readPass a_readMany a_heights a_many a_takes]) (F0 m 6 ls []) := by
  have hx := X.1.1
  have hb := X.1.2.1
  intro n
  induction n with
  | zero =>
    intro x1 a_all H locs ls hf
    have hf : none = some R := hf
    cases hf
  | succ n ih =>
    intro x1 a_all H locs ls hf Z hl
    refine lv_iload_n hx hb dX8_firstDrop_6 rfl (lv_at hl 1 rfl) ?_
    refine lv_sipush (v := 1000) hx hb dX8_firstDrop_7 (by decide) ?_
    refine lv_icmp_ge (tgt := 40) hx hb dX8_firstDrop_10 (by decide) (fun c2 => ?_) (fun c2 => ?_)
    · have hf := it_t c2 hf
      refine lv_aload_n hx hb dX8_firstDrop_40 rfl (lv_at hl 0 rfl) ?_
      refine zg_X8_7 X Z 0 rfl rfl dX8_firstDrop_41 ?_
      refine lv_bipush (v := 38) hx hb dX8_firstDrop_44 (by decide) ?_
      refine z_ld (j := 38) X Z 1 rfl (by decide) (by decide) dX8_firstDrop_46 ?_
      refine lv_aload_n hx hb dX8_firstDrop_47 rfl (lv_at hl 0 rfl) ?_
      refine zg_X8_13 X Z 0 rfl rfl dX8_firstDrop_48 ?_
      refine lv_bipush (v := 38) hx hb dX8_firstDrop_51 (by decide) ?_
      refine z_ld (j := 38) X Z 2 rfl (by decide) (by decide) dX8_firstDrop_53 ?_
      refine lv_icmp_le (tgt := 61) hx hb dX8_firstDrop_54 (by decide) (fun c3 => ?_) (fun c3 => ?_)
      · have hf := it_t c3 hf
        refine lv_iconst (v := 0) hx hb dX8_firstDrop_61 (by decide) ?_
        refine lv_istore_n (lv' := [(2, .int (0 : Int32)), (0, .ref (a 0)), (1, .int x1)]) hx hb dX8_firstDrop_62 rfl hl (by decide) rfl (fun ls hl => ?_)
        refine lv_aload_n hx hb dX8_firstDrop_63 rfl (lv_at hl 1 rfl) ?_
        obtain ⟨q4, hq4, hf⟩ := ob_s hf
        refine z_callV X Z (c_X8_giveBack l D cI cR a a_all a_kept a_history a_historyLong a_slots a_isSaved a_pad a_padLong a_readHeight a_readPass a_readMany a_heights a_many a_takes  hq4) (zw_X8_90 X.1.2.2.2.2 ⟨Nat.le_of_ble_eq_true rfl, Nat.le_of_ble_eq_true rfl⟩) 0 8 rfl rfl rfl [0] [] [w_X8 cI cR a q4 a_kept a_history a_historyLong a_slots a_isSaved a_pad a_padLong a_readHeight a_readPass a_readMany a_heights a_many a_takes] (by decide : ([0] ++ [] : List Nat).Perm (List.range 1)) rfl rfl rfl rfl rfl hl.1 rfl (Nat.le_of_ble_eq_true rfl) dX8_firstDrop_64 ⟨Nat.le_of_ble_eq_true rfl, Nat.le_of_ble_eq_true rfl⟩ (fun H locs Z => ?_)
        refine lv_iload_n hx hb dX8_firstDrop_67 rfl (lv_at hl 0 rfl) ?_
        refine lv_if_eq (tgt := 77) hx hb dX8_firstDrop_68 (by decide) (fun _ => ?_) (fun c5 => absurd (by decide) c5)
        refine lv_bipush (v := -6) hx hb dX8_firstDrop_77 (by decide) ?_
        have hR := so_s hf
        subst hR
        refine z_iret X hr hlocks ?_ dX8_firstDrop_79
        exact Z.eq rfl
      · have hf := it_f c3 hf
        refine lv_iconst (v := 1) hx hb dX8_firstDrop_57 (by decide) ?_
        refine lv_goto (tgt := 62) hx hb dX8_firstDrop_58 (by decide) ?_
        refine lv_istore_n (lv' := [(2, .int (1 : Int32)), (0, .ref (a 0)), (1, .int x1)]) hx hb dX8_firstDrop_62 rfl hl (by decide) rfl (fun ls hl => ?_)
        refine lv_aload_n hx hb dX8_firstDrop_63 rfl (lv_at hl 1 rfl) ?_
        obtain ⟨q6, hq6, hf⟩ := ob_s hf
        refine z_callV X Z (c_X8_giveBack l D cI cR a a_all a_kept a_history a_historyLong a_slots a_isSaved a_pad a_padLong a_readHeight a_readPass a_readMany a_heights a_many a_takes  hq6) (zw_X8_90 X.1.2.2.2.2 ⟨Nat.le_of_ble_eq_true rfl, Nat.le_of_ble_eq_true rfl⟩) 0 8 rfl rfl rfl [0] [] [w_X8 cI cR a q6 a_kept a_history a_historyLong a_slots a_isSaved a_pad a_padLong a_readHeight a_readPass a_readMany a_heights a_many a_takes] (by decide : ([0] ++ [] : List Nat).Perm (List.range 1)) rfl rfl rfl rfl rfl hl.1 rfl (Nat.le_of_ble_eq_true rfl) dX8_firstDrop_64 ⟨Nat.le_of_ble_eq_true rfl, Nat.le_of_ble_eq_true rfl⟩ (fun H locs Z => ?_)
        refine lv_iload_n hx hb dX8_firstDrop_67 rfl (lv_at hl 0 rfl) ?_
        refine lv_if_eq (tgt := 77) hx hb dX8_firstDrop_68 (by decide) (fun c7 => absurd c7 (by decide)) (fun _ => ?_)
        refine lv_iload_n hx hb dX8_firstDrop_71 rfl (lv_at hl 2 rfl) ?_
        refine lv_iconst (v := 1) hx hb dX8_firstDrop_72 (by decide) ?_
        refine lv_isub hx hb dX8_firstDrop_73 ?_
        refine lv_goto (tgt := 79) hx hb dX8_firstDrop_74 (by decide) ?_
        have hR := so_s hf
        subst hR
        refine z_iret X hr hlocks ?_ dX8_firstDrop_79
        exact Z.eq rfl
    · have hf := it_f c2 hf
      refine lv_aload_n hx hb dX8_firstDrop_13 rfl (lv_at hl 0 rfl) ?_
      refine zg_X8_7 X Z 0 rfl rfl dX8_firstDrop_14 ?_
      refine lv_bipush (v := 38) hx hb dX8_firstDrop_17 (by decide) ?_
      refine z_ld (j := 38) X Z 1 rfl (by decide) (by decide) dX8_firstDrop_19 ?_
      refine lv_aload_n hx hb dX8_firstDrop_20 rfl (lv_at hl 0 rfl) ?_
      refine zg_X8_13 X Z 0 rfl rfl dX8_firstDrop_21 ?_
      refine lv_bipush (v := 38) hx hb dX8_firstDrop_24 (by decide) ?_
      refine z_ld (j := 38) X Z 2 rfl (by decide) (by decide) dX8_firstDrop_26 ?_
      refine lv_icmp_ne (tgt := 40) hx hb dX8_firstDrop_27 (by decide) (fun c8 => ?_) (fun c8 => ?_)
      · have hf := it_f c8 hf
        refine lv_aload_n hx hb dX8_firstDrop_40 rfl (lv_at hl 0 rfl) ?_
        refine zg_X8_7 X Z 0 rfl rfl dX8_firstDrop_41 ?_
        refine lv_bipush (v := 38) hx hb dX8_firstDrop_44 (by decide) ?_
        refine z_ld (j := 38) X Z 1 rfl (by decide) (by decide) dX8_firstDrop_46 ?_
        refine lv_aload_n hx hb dX8_firstDrop_47 rfl (lv_at hl 0 rfl) ?_
        refine zg_X8_13 X Z 0 rfl rfl dX8_firstDrop_48 ?_
        refine lv_bipush (v := 38) hx hb dX8_firstDrop_51 (by decide) ?_
        refine z_ld (j := 38) X Z 2 rfl (by decide) (by decide) dX8_firstDrop_53 ?_
        refine lv_icmp_le (tgt := 61) hx hb dX8_firstDrop_54 (by decide) (fun c9 => ?_) (fun c9 => ?_)
        · have hf := it_t c9 hf
          refine lv_iconst (v := 0) hx hb dX8_firstDrop_61 (by decide) ?_
          refine lv_istore_n (lv' := [(2, .int (0 : Int32)), (0, .ref (a 0)), (1, .int x1)]) hx hb dX8_firstDrop_62 rfl hl (by decide) rfl (fun ls hl => ?_)
          refine lv_aload_n hx hb dX8_firstDrop_63 rfl (lv_at hl 1 rfl) ?_
          obtain ⟨q10, hq10, hf⟩ := ob_s hf
          refine z_callV X Z (c_X8_giveBack l D cI cR a a_all a_kept a_history a_historyLong a_slots a_isSaved a_pad a_padLong a_readHeight a_readPass a_readMany a_heights a_many a_takes  hq10) (zw_X8_90 X.1.2.2.2.2 ⟨Nat.le_of_ble_eq_true rfl, Nat.le_of_ble_eq_true rfl⟩) 0 8 rfl rfl rfl [0] [] [w_X8 cI cR a q10 a_kept a_history a_historyLong a_slots a_isSaved a_pad a_padLong a_readHeight a_readPass a_readMany a_heights a_many a_takes] (by decide : ([0] ++ [] : List Nat).Perm (List.range 1)) rfl rfl rfl rfl rfl hl.1 rfl (Nat.le_of_ble_eq_true rfl) dX8_firstDrop_64 ⟨Nat.le_of_ble_eq_true rfl, Nat.le_of_ble_eq_true rfl⟩ (fun H locs Z => ?_)
          refine lv_iload_n hx hb dX8_firstDrop_67 rfl (lv_at hl 0 rfl) ?_
          refine lv_if_eq (tgt := 77) hx hb dX8_firstDrop_68 (by decide) (fun _ => ?_) (fun c11 => absurd (by decide) c11)
          refine lv_bipush (v := -6) hx hb dX8_firstDrop_77 (by decide) ?_
          have hR := so_s hf
          subst hR
          refine z_iret X hr hlocks ?_ dX8_firstDrop_79
          exact Z.eq rfl
        · have hf := it_f c9 hf
          refine lv_iconst (v := 1) hx hb dX8_firstDrop_57 (by decide) ?_
          refine lv_goto (tgt := 62) hx hb dX8_firstDrop_58 (by decide) ?_
          refine lv_istore_n (lv' := [(2, .int (1 : Int32)), (0, .ref (a 0)), (1, .int x1)]) hx hb dX8_firstDrop_62 rfl hl (by decide) rfl (fun ls hl => ?_)
          refine lv_aload_n hx hb dX8_firstDrop_63 rfl (lv_at hl 1 rfl) ?_
          obtain ⟨q12, hq12, hf⟩ := ob_s hf
          refine z_callV X Z (c_X8_giveBack l D cI cR a a_all a_kept a_history a_historyLong a_slots a_isSaved a_pad a_padLong a_readHeight a_readPass a_readMany a_heights a_many a_takes  hq12) (zw_X8_90 X.1.2.2.2.2 ⟨Nat.le_of_ble_eq_true rfl, Nat.le_of_ble_eq_true rfl⟩) 0 8 rfl rfl rfl [0] [] [w_X8 cI cR a q12 a_kept a_history a_historyLong a_slots a_isSaved a_pad a_padLong a_readHeight a_readPass a_readMany a_heights a_many a_takes] (by decide : ([0] ++ [] : List Nat).Perm (List.range 1)) rfl rfl rfl rfl rfl hl.1 rfl (Nat.le_of_ble_eq_true rfl) dX8_firstDrop_64 ⟨Nat.le_of_ble_eq_true rfl, Nat.le_of_ble_eq_true rfl⟩ (fun H locs Z => ?_)
          refine lv_iload_n hx hb dX8_firstDrop_67 rfl (lv_at hl 0 rfl) ?_
          refine lv_if_eq (tgt := 77) hx hb dX8_firstDrop_68 (by decide) (fun c13 => absurd c13 (by decide)) (fun _ => ?_)
          refine lv_iload_n hx hb dX8_firstDrop_71 rfl (lv_at hl 2 rfl) ?_
          refine lv_iconst (v := 1) hx hb dX8_firstDrop_72 (by decide) ?_
          refine lv_isub hx hb dX8_firstDrop_73 ?_
          refine lv_goto (tgt := 79) hx hb dX8_firstDrop_74 (by decide) ?_
          have hR := so_s hf
          subst hR
          refine z_iret X hr hlocks ?_ dX8_firstDrop_79
          exact Z.eq rfl
      · have hf := it_t c8 hf
        refine lv_aload_n hx hb dX8_firstDrop_30 rfl (lv_at hl 0 rfl) ?_
        obtain ⟨q14, hq14, hf⟩ := ob_s hf
        refine z_callV X Z (c_X8_beats l D cI cR a a_all a_kept a_history a_historyLong a_slots a_isSaved a_pad a_padLong a_readHeight a_readPass a_readMany a_heights a_many a_takes  hq14) (zw_X8_73 X.1.2.2.2.2 ⟨Nat.le_of_ble_eq_true rfl, Nat.le_of_ble_eq_true rfl⟩) 0 8 rfl rfl rfl [0] [] [w_X8 cI cR a q14 a_kept a_history a_historyLong a_slots a_isSaved a_pad a_padLong a_readHeight a_readPass a_readMany a_heights a_many a_takes] (by decide : ([0] ++ [] : List Nat).Perm (List.range 1)) rfl rfl rfl rfl rfl hl.1 rfl (Nat.le_of_ble_eq_true rfl) dX8_firstDrop_31 ⟨Nat.le_of_ble_eq_true rfl, Nat.le_of_ble_eq_true rfl⟩ (fun H locs Z => ?_)
        refine lv_iinc (v := x1 + (1 : Int32)) (lv' := [(1, .int (x1 + (1 : Int32))), (0, .ref (a 0))]) hx hb dX8_firstDrop_34 hl (k := 1) rfl rfl (by decide) rfl (fun ls hl => ?_)
        refine lv_goto (tgt := 6) hx hb dX8_firstDrop_37 (by decide) ?_
        exact ih hf Z (lv_sub hl [1, 0] rfl)

def f_X8_firstDrop (a_all : (Nat → Int32)) (a_kept : (Nat → Int32)) : Option (Int32 × (Nat → Int32) × (Nat → Int32)) := (f_X8_keep a_all a_kept).bind (fun q1 => f_X8_firstDrop_L6 q1 zF (0 : Int32) a_all)
set_option maxHeartbeats 4000000 in
set_option maxRecDepth 100000 in
theorem c_X8_firstDrop (l : Launch) (D : va_G) (cI cR : ClassId) (a : (Nat → Nat)) (a_all : (Nat → Int32)) (a_kept : (Nat → Int32)) (a_history : (Nat → Int32)) (a_historyLong : Int32) (a_slots : (Nat → Int32)) (a_isSaved : (Nat → Int32)) (a_pad : (Nat → Int32)) (a_padLong : Int32) (a_readHeight : (Nat → Int32)) (a_readPass : (Nat → Int32)) (a_readMany : Int32) (a_heights : (Nat → Int32)) (a_many : Int32) (a_takes : (Nat → Int32)) {R : Int32 × (Nat → Int32) × (Nat → Int32)} (hf : f_X8_firstDrop a_all a_kept = some R) : zM l D cI cR yX8_firstDrop cX8_firstDrop 3 (some .int) 2 45 [.ref (a 0)] [w_X8 cI cR a a_all a_kept a_history a_historyLong a_slots a_isSaved a_pad a_padLong a_readHeight a_readPass a_readMany a_heights a_many a_takes] (some (.int R.1)) [w_X8 cI cR a R.2.1 R.2.2 a_history a_historyLong a_slots a_isSaved a_pad a_padLong a_readHeight a_readPass a_readMany a_heights a_many a_takes] := by
  refine z_of (own := RX8) rfl (by decide) (Nat.le_of_ble_eq_true rfl) ?_
  intro p e s m args below meth c A ls X hr hlocks Z hl
  have hx := X.1.1
  have hb := X.1.2.1
  have Z : zW D A s [w_X8 cI cR a a_all a_kept a_history a_historyLong a_slots a_isSaved a_pad a_padLong a_readHeight a_readPass a_readMany a_heights a_many a_takes] s.heap [] := Z
  have hl : lv_has ls 3 [(0, .ref (a 0))] := hl
  refine lv_aload_n hx hb dX8_firstDrop_0 rfl (lv_at hl 0 rfl) ?_
  obtain ⟨q1, hq1, hf⟩ := ob_s hf
  refine z_callV X Z (c_X8_keep l D cI cR a a_all a_kept a_history a_historyLong a_slots a_isSaved a_pad a_padLong a_readHeight a_readPass a_readMany a_heights a_many a_takes  hq1) (zw_X8_60 X.1.2.2.2.2 ⟨Nat.le_of_ble_eq_true rfl, Nat.le_of_ble_eq_true rfl⟩) 0 8 rfl rfl rfl [0] [] [w_X8 cI cR a a_all q1 a_history a_historyLong a_slots a_isSaved a_pad a_padLong a_readHeight a_readPass a_readMany a_heights a_many a_takes] (by decide : ([0] ++ [] : List Nat).Perm (List.range 1)) rfl rfl rfl rfl rfl hl.1 rfl (Nat.le_of_ble_eq_true rfl) dX8_firstDrop_1 ⟨Nat.le_of_ble_eq_true rfl, Nat.le_of_ble_eq_true rfl⟩ (fun H locs Z => ?_)
  refine lv_iconst (v := 0) hx hb dX8_firstDrop_4 (by decide) ?_
  refine lv_istore_n (lv' := [(1, .int (0 : Int32)), (0, .ref (a 0))]) hx hb dX8_firstDrop_5 rfl hl (by decide) rfl (fun ls hl => ?_)
  exact w_X8_firstDrop_L6 X hr hlocks _ hf Z (lv_sub hl [1, 0] rfl)
def f_X8_isAsKept_L4 (a_all : (Nat → Int32)) (a_kept : (Nat → Int32)) : Nat → Int32 → Int32 → Option (Int32)
  | 0, _, _ => none
  | n + 1, x1, x2 => if (4 : Int32) ≤ x2 then (if x1 = 0 ∨ x1 = 1 then some x1 else none) else (if x1 = 0 then (f_X8_isAsKept_L4 a_all a_kept n (0 : Int32) (x2 + (1 : Int32)) ) else (if x2 < 0 ∨ 46 ≤ x2.toNatClampNeg then none else (if x2 < 0 ∨ 46 ≤ x2.toNatClampNeg then none else (if (a_all x2.toNatClampNeg) = (a_kept x2.toNatClampNeg) then (f_X8_isAsKept_L4 a_all a_kept n (1 : Int32) (x2 + (1 : Int32)) ) else (f_X8_isAsKept_L4 a_all a_kept n (0 : Int32) (x2 + (1 : Int32)) )))))
set_option maxHeartbeats 4000000 in
set_option maxRecDepth 100000 in
theorem w_X8_isAsKept_L4 {p : Program} {l : Launch} {e : Env} {s : State} {m : MethodId} {args : Array Value} {below : List Frame} {meth : Method} {c : Code} {D : va_G} {cI cR : ClassId} {A : Nat → Prop} {a : (Nat → Nat)} {a_all : (Nat → Int32)} {a_kept : (Nat → Int32)} {a_history : (Nat → Int32)} {a_historyLong : Int32} {a_slots : (Nat → Int32)} {a_isSaved : (Nat → Int32)} {a_pad : (Nat → Int32)} {a_padLong : Int32} {a_readHeight : (Nat → Int32)} {a_readPass : (Nat → Int32)} {a_readMany : Int32} {a_heights : (Nat → Int32)} {a_many : Int32} {a_takes : (Nat → Int32)} {R : Int32} (X : zX p s m c cX8_isAsKept 3 args RX8 D cI cR A) (hr : meth.sig.returnType = (some .boolean)) (hlocks : meth.locks = false) : ∀ (n : Nat)  {x1 : Int32} {x2 : Int32} {H : Heap} {locs : List Loc} {ls : Array Slot}, f_X8_isAsKept_L4 a_all a_kept n x1 x2 = some R → zW D A s [w_X8 cI cR a a_all a_kept a_history a_historyLong a_slots a_isSaved a_pad a_padLong a_readHeight a_readPass a_readMany a_heights a_many a_takes] H locs → lv_has ls 3 [(0, .ref (a 0)), (1, .int x1), (2, .int x2)] → W p l e ({ frames := 0, cells := 0, slots := 0, locals := 0 } : Room) s m args below meth c H locs 0 0 (zE D A below s args (some (.int R)) [w_X8 cI cR a a_all a_kept a_history a_historyLong a_slots a_isSaved a_pad a_padLong a_readHeight a_readPass a_readMany a_heights a_many a_takes]) (F0 m 4 ls []) := by
  have hx := X.1.1
  have hb := X.1.2.1
  intro n
  induction n with
  | zero =>
    intro x1 x2 H locs ls hf
    have hf : none = some R := hf
    cases hf
  | succ n ih =>
    intro x1 x2 H locs ls hf Z hl
    refine lv_iload_n hx hb dX8_isAsKept_4 rfl (lv_at hl 2 rfl) ?_
    refine lv_iconst (v := 4) hx hb dX8_isAsKept_5 (by decide) ?_
    refine lv_icmp_ge (tgt := 40) hx hb dX8_isAsKept_6 (by decide) (fun c1 => ?_) (fun c1 => ?_)
    · have hf := it_t c1 hf
      refine lv_iload_n hx hb dX8_isAsKept_40 rfl (lv_at hl 1 rfl) ?_
      obtain ⟨hz, hf⟩ := oi_s hf
      have hR := so_s hf
      subst hR
      refine z_zret X hr hlocks hz ?_ dX8_isAsKept_41
      exact Z.eq rfl
    · have hf := it_f c1 hf
      refine lv_iload_n hx hb dX8_isAsKept_9 rfl (lv_at hl 1 rfl) ?_
      refine lv_if_eq (tgt := 32) hx hb dX8_isAsKept_10 (by decide) (fun c2 => ?_) (fun c2 => ?_)
      · have hf := it_t c2 hf
        refine lv_iconst (v := 0) hx hb dX8_isAsKept_32 (by decide) ?_
        refine lv_istore_n (lv' := [(1, .int (0 : Int32)), (0, .ref (a 0)), (2, .int x2)]) hx hb dX8_isAsKept_33 rfl hl (by decide) rfl (fun ls hl => ?_)
        refine lv_iinc (v := x2 + (1 : Int32)) (lv' := [(2, .int (x2 + (1 : Int32))), (1, .int (0 : Int32)), (0, .ref (a 0))]) hx hb dX8_isAsKept_34 hl (k := 2) rfl rfl (by decide) rfl (fun ls hl => ?_)
        refine lv_goto (tgt := 4) hx hb dX8_isAsKept_37 (by decide) ?_
        exact ih hf Z (lv_sub hl [2, 1, 0] rfl)
      · have hf := it_f c2 hf
        refine lv_aload_n hx hb dX8_isAsKept_13 rfl (lv_at hl 0 rfl) ?_
        refine zg_X8_7 X Z 0 rfl rfl dX8_isAsKept_14 ?_
        refine lv_iload_n hx hb dX8_isAsKept_17 rfl (lv_at hl 2 rfl) ?_
        obtain ⟨i3, hf⟩ := in_s hf
        refine z_ld (j := x2.toNatClampNeg) X Z 1 rfl i3 rfl dX8_isAsKept_18 ?_
        refine lv_aload_n hx hb dX8_isAsKept_19 rfl (lv_at hl 0 rfl) ?_
        refine zg_X8_13 X Z 0 rfl rfl dX8_isAsKept_20 ?_
        refine lv_iload_n hx hb dX8_isAsKept_23 rfl (lv_at hl 2 rfl) ?_
        obtain ⟨i4, hf⟩ := in_s hf
        refine z_ld (j := x2.toNatClampNeg) X Z 2 rfl i4 rfl dX8_isAsKept_24 ?_
        refine lv_icmp_ne (tgt := 32) hx hb dX8_isAsKept_25 (by decide) (fun c5 => ?_) (fun c5 => ?_)
        · have hf := it_f c5 hf
          refine lv_iconst (v := 0) hx hb dX8_isAsKept_32 (by decide) ?_
          refine lv_istore_n (lv' := [(1, .int (0 : Int32)), (0, .ref (a 0)), (2, .int x2)]) hx hb dX8_isAsKept_33 rfl hl (by decide) rfl (fun ls hl => ?_)
          refine lv_iinc (v := x2 + (1 : Int32)) (lv' := [(2, .int (x2 + (1 : Int32))), (1, .int (0 : Int32)), (0, .ref (a 0))]) hx hb dX8_isAsKept_34 hl (k := 2) rfl rfl (by decide) rfl (fun ls hl => ?_)
          refine lv_goto (tgt := 4) hx hb dX8_isAsKept_37 (by decide) ?_
          exact ih hf Z (lv_sub hl [2, 1, 0] rfl)
        · have hf := it_t c5 hf
          refine lv_iconst (v := 1) hx hb dX8_isAsKept_28 (by decide) ?_
          refine lv_goto (tgt := 33) hx hb dX8_isAsKept_29 (by decide) ?_
          refine lv_istore_n (lv' := [(1, .int (1 : Int32)), (0, .ref (a 0)), (2, .int x2)]) hx hb dX8_isAsKept_33 rfl hl (by decide) rfl (fun ls hl => ?_)
          refine lv_iinc (v := x2 + (1 : Int32)) (lv' := [(2, .int (x2 + (1 : Int32))), (1, .int (1 : Int32)), (0, .ref (a 0))]) hx hb dX8_isAsKept_34 hl (k := 2) rfl rfl (by decide) rfl (fun ls hl => ?_)
          refine lv_goto (tgt := 4) hx hb dX8_isAsKept_37 (by decide) ?_
          exact ih hf Z (lv_sub hl [2, 1, 0] rfl)

def f_X8_isAsKept (a_all : (Nat → Int32)) (a_kept : (Nat → Int32)) : Option (Int32) := f_X8_isAsKept_L4 a_all a_kept zF (1 : Int32) (0 : Int32)
set_option maxHeartbeats 4000000 in
set_option maxRecDepth 100000 in
theorem c_X8_isAsKept (l : Launch) (D : va_G) (cI cR : ClassId) (a : (Nat → Nat)) (a_all : (Nat → Int32)) (a_kept : (Nat → Int32)) (a_history : (Nat → Int32)) (a_historyLong : Int32) (a_slots : (Nat → Int32)) (a_isSaved : (Nat → Int32)) (a_pad : (Nat → Int32)) (a_padLong : Int32) (a_readHeight : (Nat → Int32)) (a_readPass : (Nat → Int32)) (a_readMany : Int32) (a_heights : (Nat → Int32)) (a_many : Int32) (a_takes : (Nat → Int32)) {R : Int32} (hf : f_X8_isAsKept a_all a_kept = some R) : zM l D cI cR yX8_isAsKept cX8_isAsKept 3 (some .boolean) 0 0 [.ref (a 0)] [w_X8 cI cR a a_all a_kept a_history a_historyLong a_slots a_isSaved a_pad a_padLong a_readHeight a_readPass a_readMany a_heights a_many a_takes] (some (.int R)) [w_X8 cI cR a a_all a_kept a_history a_historyLong a_slots a_isSaved a_pad a_padLong a_readHeight a_readPass a_readMany a_heights a_many a_takes] := by
  refine z_of (own := RX8) rfl (by decide) (Nat.le_of_ble_eq_true rfl) ?_
  intro p e s m args below meth c A ls X hr hlocks Z hl
  have hx := X.1.1
  have hb := X.1.2.1
  have Z : zW D A s [w_X8 cI cR a a_all a_kept a_history a_historyLong a_slots a_isSaved a_pad a_padLong a_readHeight a_readPass a_readMany a_heights a_many a_takes] s.heap [] := Z
  have hl : lv_has ls 3 [(0, .ref (a 0))] := hl
  refine lv_iconst (v := 1) hx hb dX8_isAsKept_0 (by decide) ?_
  refine lv_istore_n (lv' := [(1, .int (1 : Int32)), (0, .ref (a 0))]) hx hb dX8_isAsKept_1 rfl hl (by decide) rfl (fun ls hl => ?_)
  refine lv_iconst (v := 0) hx hb dX8_isAsKept_2 (by decide) ?_
  refine lv_istore_n (lv' := [(2, .int (0 : Int32)), (1, .int (1 : Int32)), (0, .ref (a 0))]) hx hb dX8_isAsKept_3 rfl hl (by decide) rfl (fun ls hl => ?_)
  exact w_X8_isAsKept_L4 X hr hlocks _ hf Z (lv_sub hl [2, 1, 0] rfl)
def f_X8_comesRound_L10 (a_kept : (Nat → Int32)) : Nat → Int32 → (Nat → Int32) → Option (Int32 × (Nat → Int32) × (Nat → Int32))
  | 0, _, _ => none
  | n + 1, x1, a_all => if (1000 : Int32) ≤ x1 then ((f_X8_isAsKept a_all a_kept).bind (fun q4 => (f_X8_giveBack a_all a_kept).bind (fun q5 => if q4 = 0 then (some ((-6 : Int32), q5, a_kept)) else (some (x1, q5, a_kept))))) else ((f_X8_isAsKept a_all a_kept).bind (fun q7 => if q7 = 0 then ((f_X8_beats a_all).bind (fun q12 => f_X8_comesRound_L10 a_kept n (x1 + (1 : Int32)) q12)) else ((f_X8_isAsKept a_all a_kept).bind (fun q9 => (f_X8_giveBack a_all a_kept).bind (fun q10 => if q9 = 0 then (some ((-6 : Int32), q10, a_kept)) else (some (x1, q10, a_kept)))))))
set_option maxHeartbeats 4000000 in
set_option maxRecDepth 100000 in
theorem w_X8_comesRound_L10 {p : Program} {l : Launch} {e : Env} {s : State} {m : MethodId} {args : Array Value} {below : List Frame} {meth : Method} {c : Code} {D : va_G} {cI cR : ClassId} {A : Nat → Prop} {a : (Nat → Nat)} {a_kept : (Nat → Int32)} {a_history : (Nat → Int32)} {a_historyLong : Int32} {a_slots : (Nat → Int32)} {a_isSaved : (Nat → Int32)} {a_pad : (Nat → Int32)} {a_padLong : Int32} {a_readHeight : (Nat → Int32)} {a_readPass : (Nat → Int32)} {a_readMany : Int32} {a_heights : (Nat → Int32)} {a_many : Int32} {a_takes : (Nat → Int32)} {R : Int32 × (Nat → Int32) × (Nat → Int32)} (X : zX p s m c cX8_comesRound 3 args RX8 D cI cR A) (hr : meth.sig.returnType = (some .int)) (hlocks : meth.locks = false) : ∀ (n : Nat)  {x1 : Int32} {a_all : (Nat → Int32)} {H : Heap} {locs : List Loc} {ls : Array Slot}, f_X8_comesRound_L10 a_kept n x1 a_all = some R → zW D A s [w_X8 cI cR a a_all a_kept a_history a_historyLong a_slots a_isSaved a_pad a_padLong a_readHeight a_readPass a_readMany a_heights a_many a_takes] H locs → lv_has ls 3 [(0, .ref (a 0)), (1, .int x1)] → W p l e ({ frames := 2, cells := 0, slots := 0, locals := 45 } : Room) s m args below meth c H locs 0 0 (zE D A below s args (some (.int R.1)) [w_X8 cI cR a R.2.1 R.2.2 a_history a_historyLong a_slots a_isSaved a_pad a_padLong a_readHeight a_readPass a_readMany a_heights a_many a_takes]) (F0 m 10 ls []) := by
  have hx := X.1.1
  have hb := X.1.2.1
  intro n
  induction n with
  | zero =>
    intro x1 a_all H locs ls hf
    have hf : none = some R := hf
    cases hf
  | succ n ih =>
    intro x1 a_all H locs ls hf Z hl
    refine lv_iload_n hx hb dX8_comesRound_10 rfl (lv_at hl 1 rfl) ?_
    refine lv_sipush (v := 1000) hx hb dX8_comesRound_11 (by decide) ?_
    refine lv_icmp_ge (tgt := 34) hx hb dX8_comesRound_14 (by decide) (fun c3 => ?_) (fun c3 => ?_)
    · have hf := it_t c3 hf
      refine lv_aload_n hx hb dX8_comesRound_34 rfl (lv_at hl 0 rfl) ?_
      obtain ⟨q4, hq4, hf⟩ := ob_s hf
      refine z_roV X Z (c_X8_isAsKept l D cI cR a a_all a_kept a_history a_historyLong a_slots a_isSaved a_pad a_padLong a_readHeight a_readPass a_readMany a_heights a_many a_takes  hq4) (zw_X8_93 X.1.2.2.2.2 ⟨Nat.le_of_ble_eq_true rfl, Nat.le_of_ble_eq_true rfl⟩) 0 8 rfl rfl rfl [0] [] (by decide : ([0] ++ [] : List Nat).Perm (List.range 1)) rfl rfl hl.1 rfl (Nat.le_of_ble_eq_true rfl) dX8_comesRound_35 ⟨Nat.le_of_ble_eq_true rfl, Nat.le_of_ble_eq_true rfl⟩ (fun H locs Z => ?_)
      refine lv_istore_n (lv' := [(2, .int q4), (0, .ref (a 0)), (1, .int x1)]) hx hb dX8_comesRound_38 rfl hl (by decide) rfl (fun ls hl => ?_)
      refine lv_aload_n hx hb dX8_comesRound_39 rfl (lv_at hl 1 rfl) ?_
      obtain ⟨q5, hq5, hf⟩ := ob_s hf
      refine z_callV X Z (c_X8_giveBack l D cI cR a a_all a_kept a_history a_historyLong a_slots a_isSaved a_pad a_padLong a_readHeight a_readPass a_readMany a_heights a_many a_takes  hq5) (zw_X8_90 X.1.2.2.2.2 ⟨Nat.le_of_ble_eq_true rfl, Nat.le_of_ble_eq_true rfl⟩) 0 8 rfl rfl rfl [0] [] [w_X8 cI cR a q5 a_kept a_history a_historyLong a_slots a_isSaved a_pad a_padLong a_readHeight a_readPass a_readMany a_heights a_many a_takes] (by decide : ([0] ++ [] : List Nat).Perm (List.range 1)) rfl rfl rfl rfl rfl hl.1 rfl (Nat.le_of_ble_eq_true rfl) dX8_comesRound_40 ⟨Nat.le_of_ble_eq_true rfl, Nat.le_of_ble_eq_true rfl⟩ (fun H locs Z => ?_)
      refine lv_iload_n hx hb dX8_comesRound_43 rfl (lv_at hl 0 rfl) ?_
      refine lv_if_eq (tgt := 51) hx hb dX8_comesRound_44 (by decide) (fun c6 => ?_) (fun c6 => ?_)
      · have hf := it_t c6 hf
        refine lv_bipush (v := -6) hx hb dX8_comesRound_51 (by decide) ?_
        have hR := so_s hf
        subst hR
        refine z_iret X hr hlocks ?_ dX8_comesRound_53
        exact Z.eq rfl
      · have hf := it_f c6 hf
        refine lv_iload_n hx hb dX8_comesRound_47 rfl (lv_at hl 2 rfl) ?_
        refine lv_goto (tgt := 53) hx hb dX8_comesRound_48 (by decide) ?_
        have hR := so_s hf
        subst hR
        refine z_iret X hr hlocks ?_ dX8_comesRound_53
        exact Z.eq rfl
    · have hf := it_f c3 hf
      refine lv_aload_n hx hb dX8_comesRound_17 rfl (lv_at hl 0 rfl) ?_
      obtain ⟨q7, hq7, hf⟩ := ob_s hf
      refine z_roV X Z (c_X8_isAsKept l D cI cR a a_all a_kept a_history a_historyLong a_slots a_isSaved a_pad a_padLong a_readHeight a_readPass a_readMany a_heights a_many a_takes  hq7) (zw_X8_93 X.1.2.2.2.2 ⟨Nat.le_of_ble_eq_true rfl, Nat.le_of_ble_eq_true rfl⟩) 0 8 rfl rfl rfl [0] [] (by decide : ([0] ++ [] : List Nat).Perm (List.range 1)) rfl rfl hl.1 rfl (Nat.le_of_ble_eq_true rfl) dX8_comesRound_18 ⟨Nat.le_of_ble_eq_true rfl, Nat.le_of_ble_eq_true rfl⟩ (fun H locs Z => ?_)
      refine lv_if_ne (tgt := 34) hx hb dX8_comesRound_21 (by decide) (fun c8 => ?_) (fun c8 => ?_)
      · have hf := it_f c8 hf
        refine lv_aload_n hx hb dX8_comesRound_34 rfl (lv_at hl 0 rfl) ?_
        obtain ⟨q9, hq9, hf⟩ := ob_s hf
        refine z_roV X Z (c_X8_isAsKept l D cI cR a a_all a_kept a_history a_historyLong a_slots a_isSaved a_pad a_padLong a_readHeight a_readPass a_readMany a_heights a_many a_takes  hq9) (zw_X8_93 X.1.2.2.2.2 ⟨Nat.le_of_ble_eq_true rfl, Nat.le_of_ble_eq_true rfl⟩) 0 8 rfl rfl rfl [0] [] (by decide : ([0] ++ [] : List Nat).Perm (List.range 1)) rfl rfl hl.1 rfl (Nat.le_of_ble_eq_true rfl) dX8_comesRound_35 ⟨Nat.le_of_ble_eq_true rfl, Nat.le_of_ble_eq_true rfl⟩ (fun H locs Z => ?_)
        refine lv_istore_n (lv' := [(2, .int q9), (0, .ref (a 0)), (1, .int x1)]) hx hb dX8_comesRound_38 rfl hl (by decide) rfl (fun ls hl => ?_)
        refine lv_aload_n hx hb dX8_comesRound_39 rfl (lv_at hl 1 rfl) ?_
        obtain ⟨q10, hq10, hf⟩ := ob_s hf
        refine z_callV X Z (c_X8_giveBack l D cI cR a a_all a_kept a_history a_historyLong a_slots a_isSaved a_pad a_padLong a_readHeight a_readPass a_readMany a_heights a_many a_takes  hq10) (zw_X8_90 X.1.2.2.2.2 ⟨Nat.le_of_ble_eq_true rfl, Nat.le_of_ble_eq_true rfl⟩) 0 8 rfl rfl rfl [0] [] [w_X8 cI cR a q10 a_kept a_history a_historyLong a_slots a_isSaved a_pad a_padLong a_readHeight a_readPass a_readMany a_heights a_many a_takes] (by decide : ([0] ++ [] : List Nat).Perm (List.range 1)) rfl rfl rfl rfl rfl hl.1 rfl (Nat.le_of_ble_eq_true rfl) dX8_comesRound_40 ⟨Nat.le_of_ble_eq_true rfl, Nat.le_of_ble_eq_true rfl⟩ (fun H locs Z => ?_)
        refine lv_iload_n hx hb dX8_comesRound_43 rfl (lv_at hl 0 rfl) ?_
        refine lv_if_eq (tgt := 51) hx hb dX8_comesRound_44 (by decide) (fun c11 => ?_) (fun c11 => ?_)
        · have hf := it_t c11 hf
          refine lv_bipush (v := -6) hx hb dX8_comesRound_51 (by decide) ?_
          have hR := so_s hf
          subst hR
          refine z_iret X hr hlocks ?_ dX8_comesRound_53
          exact Z.eq rfl
        · have hf := it_f c11 hf
          refine lv_iload_n hx hb dX8_comesRound_47 rfl (lv_at hl 2 rfl) ?_
          refine lv_goto (tgt := 53) hx hb dX8_comesRound_48 (by decide) ?_
          have hR := so_s hf
          subst hR
          refine z_iret X hr hlocks ?_ dX8_comesRound_53
          exact Z.eq rfl
      · have hf := it_t c8 hf
        refine lv_aload_n hx hb dX8_comesRound_24 rfl (lv_at hl 0 rfl) ?_
        obtain ⟨q12, hq12, hf⟩ := ob_s hf
        refine z_callV X Z (c_X8_beats l D cI cR a a_all a_kept a_history a_historyLong a_slots a_isSaved a_pad a_padLong a_readHeight a_readPass a_readMany a_heights a_many a_takes  hq12) (zw_X8_73 X.1.2.2.2.2 ⟨Nat.le_of_ble_eq_true rfl, Nat.le_of_ble_eq_true rfl⟩) 0 8 rfl rfl rfl [0] [] [w_X8 cI cR a q12 a_kept a_history a_historyLong a_slots a_isSaved a_pad a_padLong a_readHeight a_readPass a_readMany a_heights a_many a_takes] (by decide : ([0] ++ [] : List Nat).Perm (List.range 1)) rfl rfl rfl rfl rfl hl.1 rfl (Nat.le_of_ble_eq_true rfl) dX8_comesRound_25 ⟨Nat.le_of_ble_eq_true rfl, Nat.le_of_ble_eq_true rfl⟩ (fun H locs Z => ?_)
        refine lv_iinc (v := x1 + (1 : Int32)) (lv' := [(1, .int (x1 + (1 : Int32))), (0, .ref (a 0))]) hx hb dX8_comesRound_28 hl (k := 1) rfl rfl (by decide) rfl (fun ls hl => ?_)
        refine lv_goto (tgt := 10) hx hb dX8_comesRound_31 (by decide) ?_
        exact ih hf Z (lv_sub hl [1, 0] rfl)

def f_X8_comesRound (a_all : (Nat → Int32)) (a_kept : (Nat → Int32)) : Option (Int32 × (Nat → Int32) × (Nat → Int32)) := (f_X8_keep a_all a_kept).bind (fun q1 => (f_X8_beats a_all).bind (fun q2 => f_X8_comesRound_L10 q1 zF (1 : Int32) q2))
set_option maxHeartbeats 4000000 in
set_option maxRecDepth 100000 in
theorem c_X8_comesRound (l : Launch) (D : va_G) (cI cR : ClassId) (a : (Nat → Nat)) (a_all : (Nat → Int32)) (a_kept : (Nat → Int32)) (a_history : (Nat → Int32)) (a_historyLong : Int32) (a_slots : (Nat → Int32)) (a_isSaved : (Nat → Int32)) (a_pad : (Nat → Int32)) (a_padLong : Int32) (a_readHeight : (Nat → Int32)) (a_readPass : (Nat → Int32)) (a_readMany : Int32) (a_heights : (Nat → Int32)) (a_many : Int32) (a_takes : (Nat → Int32)) {R : Int32 × (Nat → Int32) × (Nat → Int32)} (hf : f_X8_comesRound a_all a_kept = some R) : zM l D cI cR yX8_comesRound cX8_comesRound 3 (some .int) 2 45 [.ref (a 0)] [w_X8 cI cR a a_all a_kept a_history a_historyLong a_slots a_isSaved a_pad a_padLong a_readHeight a_readPass a_readMany a_heights a_many a_takes] (some (.int R.1)) [w_X8 cI cR a R.2.1 R.2.2 a_history a_historyLong a_slots a_isSaved a_pad a_padLong a_readHeight a_readPass a_readMany a_heights a_many a_takes] := by
  refine z_of (own := RX8) rfl (by decide) (Nat.le_of_ble_eq_true rfl) ?_
  intro p e s m args below meth c A ls X hr hlocks Z hl
  have hx := X.1.1
  have hb := X.1.2.1
  have Z : zW D A s [w_X8 cI cR a a_all a_kept a_history a_historyLong a_slots a_isSaved a_pad a_padLong a_readHeight a_readPass a_readMany a_heights a_many a_takes] s.heap [] := Z
  have hl : lv_has ls 3 [(0, .ref (a 0))] := hl
  refine lv_aload_n hx hb dX8_comesRound_0 rfl (lv_at hl 0 rfl) ?_
  obtain ⟨q1, hq1, hf⟩ := ob_s hf
  refine z_callV X Z (c_X8_keep l D cI cR a a_all a_kept a_history a_historyLong a_slots a_isSaved a_pad a_padLong a_readHeight a_readPass a_readMany a_heights a_many a_takes  hq1) (zw_X8_60 X.1.2.2.2.2 ⟨Nat.le_of_ble_eq_true rfl, Nat.le_of_ble_eq_true rfl⟩) 0 8 rfl rfl rfl [0] [] [w_X8 cI cR a a_all q1 a_history a_historyLong a_slots a_isSaved a_pad a_padLong a_readHeight a_readPass a_readMany a_heights a_many a_takes] (by decide : ([0] ++ [] : List Nat).Perm (List.range 1)) rfl rfl rfl rfl rfl hl.1 rfl (Nat.le_of_ble_eq_true rfl) dX8_comesRound_1 ⟨Nat.le_of_ble_eq_true rfl, Nat.le_of_ble_eq_true rfl⟩ (fun H locs Z => ?_)
  refine lv_aload_n hx hb dX8_comesRound_4 rfl (lv_at hl 0 rfl) ?_
  obtain ⟨q2, hq2, hf⟩ := ob_s hf
  refine z_callV X Z (c_X8_beats l D cI cR a a_all q1 a_history a_historyLong a_slots a_isSaved a_pad a_padLong a_readHeight a_readPass a_readMany a_heights a_many a_takes  hq2) (zw_X8_73 X.1.2.2.2.2 ⟨Nat.le_of_ble_eq_true rfl, Nat.le_of_ble_eq_true rfl⟩) 0 8 rfl rfl rfl [0] [] [w_X8 cI cR a q2 q1 a_history a_historyLong a_slots a_isSaved a_pad a_padLong a_readHeight a_readPass a_readMany a_heights a_many a_takes] (by decide : ([0] ++ [] : List Nat).Perm (List.range 1)) rfl rfl rfl rfl rfl hl.1 rfl (Nat.le_of_ble_eq_true rfl) dX8_comesRound_5 ⟨Nat.le_of_ble_eq_true rfl, Nat.le_of_ble_eq_true rfl⟩ (fun H locs Z => ?_)
  refine lv_iconst (v := 1) hx hb dX8_comesRound_8 (by decide) ?_
  refine lv_istore_n (lv' := [(1, .int (1 : Int32)), (0, .ref (a 0))]) hx hb dX8_comesRound_9 rfl hl (by decide) rfl (fun ls hl => ?_)
  exact w_X8_comesRound_L10 X hr hlocks _ hf Z (lv_sub hl [1, 0] rfl)
def f_X8_stateBehind_L30 (a_kept : (Nat → Int32)) (x1 : Int32) (x2 : Int32) : Nat → Int32 → (Nat → Int32) → Option (Int32 × (Nat → Int32) × (Nat → Int32))
  | 0, _, _ => none
  | n + 1, x3, a_all => if x2 ≤ x3 then (if ((0 : Int32) + x1) < 0 ∨ 46 ≤ ((0 : Int32) + x1).toNatClampNeg then none else ((f_X8_giveBack a_all a_kept).bind (fun q8 => some (a_all ((0 : Int32) + x1).toNatClampNeg, q8, a_kept)))) else ((f_X8_beats a_all).bind (fun q9 => f_X8_stateBehind_L30 a_kept x1 x2 n (x3 + (1 : Int32)) q9))
set_option maxHeartbeats 4000000 in
set_option maxRecDepth 100000 in
theorem w_X8_stateBehind_L30 {p : Program} {l : Launch} {e : Env} {s : State} {m : MethodId} {args : Array Value} {below : List Frame} {meth : Method} {c : Code} {D : va_G} {cI cR : ClassId} {A : Nat → Prop} {a : (Nat → Nat)} {a_kept : (Nat → Int32)} {a_history : (Nat → Int32)} {a_historyLong : Int32} {a_slots : (Nat → Int32)} {a_isSaved : (Nat → Int32)} {a_pad : (Nat → Int32)} {a_padLong : Int32} {a_readHeight : (Nat → Int32)} {a_readPass : (Nat → Int32)} {a_readMany : Int32} {a_heights : (Nat → Int32)} {a_many : Int32} {a_takes : (Nat → Int32)} {x1 : Int32} {x2 : Int32} {R : Int32 × (Nat → Int32) × (Nat → Int32)} (X : zX p s m c cX8_stateBehind 4 args RX8 D cI cR A) (hr : meth.sig.returnType = (some .int)) (hlocks : meth.locks = false) : ∀ (n : Nat)  {x3 : Int32} {a_all : (Nat → Int32)} {H : Heap} {locs : List Loc} {ls : Array Slot}, f_X8_stateBehind_L30 a_kept x1 x2 n x3 a_all = some R → zW D A s [w_X8 cI cR a a_all a_kept a_history a_historyLong a_slots a_isSaved a_pad a_padLong a_readHeight a_readPass a_readMany a_heights a_many a_takes] H locs → lv_has ls 4 [(0, .ref (a 0)), (1, .int x1), (2, .int x2), (3, .int x3)] → W p l e ({ frames := 2, cells := 0, slots := 0, locals := 45 } : Room) s m args below meth c H locs 0 0 (zE D A below s args (some (.int R.1)) [w_X8 cI cR a R.2.1 R.2.2 a_history a_historyLong a_slots a_isSaved a_pad a_padLong a_readHeight a_readPass a_readMany a_heights a_many a_takes]) (F0 m 30 ls []) := by
  have hx := X.1.1
  have hb := X.1.2.1
  intro n
  induction n with
  | zero =>
    intro x3 a_all H locs ls hf
    have hf : none = some R := hf
    cases hf
  | succ n ih =>
    intro x3 a_all H locs ls hf Z hl
    refine lv_iload_n hx hb dX8_stateBehind_30 rfl (lv_at hl 3 rfl) ?_
    refine lv_iload_n hx hb dX8_stateBehind_31 rfl (lv_at hl 2 rfl) ?_
    refine lv_icmp_ge (tgt := 45) hx hb dX8_stateBehind_32 (by decide) (fun c6 => ?_) (fun c6 => ?_)
    · have hf := it_t c6 hf
      refine lv_aload_n hx hb dX8_stateBehind_45 rfl (lv_at hl 0 rfl) ?_
      refine zg_X8_7 X Z 0 rfl rfl dX8_stateBehind_46 ?_
      refine lv_iconst (v := 0) hx hb dX8_stateBehind_49 (by decide) ?_
      refine lv_iload_n hx hb dX8_stateBehind_50 rfl (lv_at hl 1 rfl) ?_
      refine lv_iadd hx hb dX8_stateBehind_51 ?_
      obtain ⟨i7, hf⟩ := in_s hf
      refine z_ld (j := ((0 : Int32) + x1).toNatClampNeg) X Z 1 rfl i7 rfl dX8_stateBehind_52 ?_
      refine lv_istore_n (lv' := [(3, .int (a_all ((0 : Int32) + x1).toNatClampNeg)), (0, .ref (a 0)), (1, .int x1), (2, .int x2)]) hx hb dX8_stateBehind_53 rfl hl (by decide) rfl (fun ls hl => ?_)
      refine lv_aload_n hx hb dX8_stateBehind_54 rfl (lv_at hl 1 rfl) ?_
      obtain ⟨q8, hq8, hf⟩ := ob_s hf
      refine z_callV X Z (c_X8_giveBack l D cI cR a a_all a_kept a_history a_historyLong a_slots a_isSaved a_pad a_padLong a_readHeight a_readPass a_readMany a_heights a_many a_takes  hq8) (zw_X8_90 X.1.2.2.2.2 ⟨Nat.le_of_ble_eq_true rfl, Nat.le_of_ble_eq_true rfl⟩) 0 8 rfl rfl rfl [0] [] [w_X8 cI cR a q8 a_kept a_history a_historyLong a_slots a_isSaved a_pad a_padLong a_readHeight a_readPass a_readMany a_heights a_many a_takes] (by decide : ([0] ++ [] : List Nat).Perm (List.range 1)) rfl rfl rfl rfl rfl hl.1 rfl (Nat.le_of_ble_eq_true rfl) dX8_stateBehind_55 ⟨Nat.le_of_ble_eq_true rfl, Nat.le_of_ble_eq_true rfl⟩ (fun H locs Z => ?_)
      refine lv_iload_n hx hb dX8_stateBehind_58 rfl (lv_at hl 0 rfl) ?_
      have hR := so_s hf
      subst hR
      refine z_iret X hr hlocks ?_ dX8_stateBehind_59
      exact Z.eq rfl
    · have hf := it_f c6 hf
      refine lv_aload_n hx hb dX8_stateBehind_35 rfl (lv_at hl 0 rfl) ?_
      obtain ⟨q9, hq9, hf⟩ := ob_s hf
      refine z_callV X Z (c_X8_beats l D cI cR a a_all a_kept a_history a_historyLong a_slots a_isSaved a_pad a_padLong a_readHeight a_readPass a_readMany a_heights a_many a_takes  hq9) (zw_X8_73 X.1.2.2.2.2 ⟨Nat.le_of_ble_eq_true rfl, Nat.le_of_ble_eq_true rfl⟩) 0 8 rfl rfl rfl [0] [] [w_X8 cI cR a q9 a_kept a_history a_historyLong a_slots a_isSaved a_pad a_padLong a_readHeight a_readPass a_readMany a_heights a_many a_takes] (by decide : ([0] ++ [] : List Nat).Perm (List.range 1)) rfl rfl rfl rfl rfl hl.1 rfl (Nat.le_of_ble_eq_true rfl) dX8_stateBehind_36 ⟨Nat.le_of_ble_eq_true rfl, Nat.le_of_ble_eq_true rfl⟩ (fun H locs Z => ?_)
      refine lv_iinc (v := x3 + (1 : Int32)) (lv' := [(3, .int (x3 + (1 : Int32))), (0, .ref (a 0)), (1, .int x1), (2, .int x2)]) hx hb dX8_stateBehind_39 hl (k := 3) rfl rfl (by decide) rfl (fun ls hl => ?_)
      refine lv_goto (tgt := 30) hx hb dX8_stateBehind_42 (by decide) ?_
      exact ih hf Z (lv_sub hl [1, 2, 3, 0] rfl)

def f_X8_stateBehind (a_all : (Nat → Int32)) (a_kept : (Nat → Int32)) (p1 : Int32) (p2 : Int32) : Option (Int32 × (Nat → Int32) × (Nat → Int32)) := (f_X8_isJuggler p1).bind (fun q1 => if q1 = 0 then (some ((-1 : Int32), a_all, a_kept)) else ((f_X8_in p2.toInt64 (1 : Int64) (200 : Int64)).bind (fun q3 => if q3 = 0 then (some ((-2 : Int32), a_all, a_kept)) else ((f_X8_keep a_all a_kept).bind (fun q5 => f_X8_stateBehind_L30 q5 p1 p2 zF (0 : Int32) a_all)))))
set_option maxHeartbeats 4000000 in
set_option maxRecDepth 100000 in
theorem c_X8_stateBehind (l : Launch) (D : va_G) (cI cR : ClassId) (a : (Nat → Nat)) (a_all : (Nat → Int32)) (a_kept : (Nat → Int32)) (a_history : (Nat → Int32)) (a_historyLong : Int32) (a_slots : (Nat → Int32)) (a_isSaved : (Nat → Int32)) (a_pad : (Nat → Int32)) (a_padLong : Int32) (a_readHeight : (Nat → Int32)) (a_readPass : (Nat → Int32)) (a_readMany : Int32) (a_heights : (Nat → Int32)) (a_many : Int32) (a_takes : (Nat → Int32)) (p1 : Int32) (p2 : Int32) {R : Int32 × (Nat → Int32) × (Nat → Int32)} (hf : f_X8_stateBehind a_all a_kept p1 p2 = some R) : zM l D cI cR yX8_stateBehind cX8_stateBehind 4 (some .int) 2 45 [.ref (a 0), .int p1, .int p2] [w_X8 cI cR a a_all a_kept a_history a_historyLong a_slots a_isSaved a_pad a_padLong a_readHeight a_readPass a_readMany a_heights a_many a_takes] (some (.int R.1)) [w_X8 cI cR a R.2.1 R.2.2 a_history a_historyLong a_slots a_isSaved a_pad a_padLong a_readHeight a_readPass a_readMany a_heights a_many a_takes] := by
  refine z_of (own := RX8) rfl (by decide) (Nat.le_of_ble_eq_true rfl) ?_
  intro p e s m args below meth c A ls X hr hlocks Z hl
  have hx := X.1.1
  have hb := X.1.2.1
  have Z : zW D A s [w_X8 cI cR a a_all a_kept a_history a_historyLong a_slots a_isSaved a_pad a_padLong a_readHeight a_readPass a_readMany a_heights a_many a_takes] s.heap [] := Z
  have hl : lv_has ls 4 [(0, .ref (a 0)), (1, .int p1), (2, .int p2)] := hl
  refine lv_iload_n hx hb dX8_stateBehind_0 rfl (lv_at hl 1 rfl) ?_
  obtain ⟨q1, hq1, hf⟩ := ob_s hf
  refine z_roS X Z (c_X8_isJuggler l D cI cR   p1 hq1) (zw_X8_76 X.1.2.2.2.2 ⟨Nat.le_of_ble_eq_true rfl, Nat.le_of_ble_eq_true rfl⟩) [] [0] (by decide : ([] ++ [0] : List Nat).Perm (List.range 1)) rfl rfl hl.1 rfl (Nat.le_of_ble_eq_true rfl) dX8_stateBehind_1 ⟨Nat.le_of_ble_eq_true rfl, Nat.le_of_ble_eq_true rfl⟩ (fun H locs Z => ?_)
  refine lv_if_ne (tgt := 9) hx hb dX8_stateBehind_4 (by decide) (fun c2 => ?_) (fun c2 => ?_)
  · have hf := it_f c2 hf
    refine lv_iload_n hx hb dX8_stateBehind_9 rfl (lv_at hl 2 rfl) ?_
    refine lv_i2l hx hb dX8_stateBehind_10 rfl ?_
    refine lv_lconst (v := 1) hx hb dX8_stateBehind_11 (by decide) ?_
    refine lv_ldc2 hx hb X.1.2.2.2.1 (X.1.2.2.2.2 _ mk_X8_70) dX8_stateBehind_12 ?_
    obtain ⟨q3, hq3, hf⟩ := ob_s hf
    refine z_roS X Z (c_X8_in l D cI cR   p2.toInt64 (1 : Int64) (200 : Int64) hq3) (zw_X8_44 X.1.2.2.2.2 ⟨Nat.le_of_ble_eq_true rfl, Nat.le_of_ble_eq_true rfl⟩) [] [0] (by decide : ([] ++ [0] : List Nat).Perm (List.range 1)) rfl rfl hl.1 rfl (Nat.le_of_ble_eq_true rfl) dX8_stateBehind_15 ⟨Nat.le_of_ble_eq_true rfl, Nat.le_of_ble_eq_true rfl⟩ (fun H locs Z => ?_)
    refine lv_if_ne (tgt := 24) hx hb dX8_stateBehind_18 (by decide) (fun c4 => ?_) (fun c4 => ?_)
    · have hf := it_f c4 hf
      refine lv_aload_n hx hb dX8_stateBehind_24 rfl (lv_at hl 0 rfl) ?_
      obtain ⟨q5, hq5, hf⟩ := ob_s hf
      refine z_callV X Z (c_X8_keep l D cI cR a a_all a_kept a_history a_historyLong a_slots a_isSaved a_pad a_padLong a_readHeight a_readPass a_readMany a_heights a_many a_takes  hq5) (zw_X8_60 X.1.2.2.2.2 ⟨Nat.le_of_ble_eq_true rfl, Nat.le_of_ble_eq_true rfl⟩) 0 8 rfl rfl rfl [0] [] [w_X8 cI cR a a_all q5 a_history a_historyLong a_slots a_isSaved a_pad a_padLong a_readHeight a_readPass a_readMany a_heights a_many a_takes] (by decide : ([0] ++ [] : List Nat).Perm (List.range 1)) rfl rfl rfl rfl rfl hl.1 rfl (Nat.le_of_ble_eq_true rfl) dX8_stateBehind_25 ⟨Nat.le_of_ble_eq_true rfl, Nat.le_of_ble_eq_true rfl⟩ (fun H locs Z => ?_)
      refine lv_iconst (v := 0) hx hb dX8_stateBehind_28 (by decide) ?_
      refine lv_istore_n (lv' := [(3, .int (0 : Int32)), (0, .ref (a 0)), (1, .int p1), (2, .int p2)]) hx hb dX8_stateBehind_29 rfl hl (by decide) rfl (fun ls hl => ?_)
      exact w_X8_stateBehind_L30 X hr hlocks _ hf Z (lv_sub hl [1, 2, 3, 0] rfl)
    · have hf := it_t c4 hf
      refine lv_bipush (v := -2) hx hb dX8_stateBehind_21 (by decide) ?_
      have hR := so_s hf
      subst hR
      refine z_iret X hr hlocks ?_ dX8_stateBehind_23
      exact Z.eq rfl
  · have hf := it_t c2 hf
    refine lv_iconst (v := -1) hx hb dX8_stateBehind_7 (by decide) ?_
    have hR := so_s hf
    subst hR
    refine z_iret X hr hlocks ?_ dX8_stateBehind_8
    exact Z.eq rfl
def f_X8_put_L106 (x1 : Int64) : Nat → Int32 → (Nat → Int32) → Int32 → Option (Int32 × (Nat → Int32) × Int32)
  | 0, _, _, _ => none
  | n + 1, x7, a_pad, a_padLong => if x7 < 0 then (some (a_padLong, a_pad, a_padLong)) else (if a_padLong < 0 ∨ 30 ≤ a_padLong.toNatClampNeg then none else (f_X8_put_L106 x1 n (x7 + (-1 : Int32)) (upd a_pad a_padLong.toNatClampNeg ((((x1.toUInt64 >>> (((8 : Int32) * x7).toInt64.toUInt64 &&& Int64.toUInt64 63)).toInt64) &&& (255 : Int64)).toInt32)) (a_padLong + (1 : Int32))))
set_option maxHeartbeats 4000000 in
set_option maxRecDepth 100000 in
theorem w_X8_put_L106 {p : Program} {l : Launch} {e : Env} {s : State} {m : MethodId} {args : Array Value} {below : List Frame} {meth : Method} {c : Code} {D : va_G} {cI cR : ClassId} {A : Nat → Prop} {a : (Nat → Nat)} {a_all : (Nat → Int32)} {a_kept : (Nat → Int32)} {a_history : (Nat → Int32)} {a_historyLong : Int32} {a_slots : (Nat → Int32)} {a_isSaved : (Nat → Int32)} {a_readHeight : (Nat → Int32)} {a_readPass : (Nat → Int32)} {a_readMany : Int32} {a_heights : (Nat → Int32)} {a_many : Int32} {a_takes : (Nat → Int32)} {x1 : Int64} {R : Int32 × (Nat → Int32) × Int32} (X : zX p s m c cX8_put 8 args RX8 D cI cR A) (hr : meth.sig.returnType = (some .int)) (hlocks : meth.locks = false) : ∀ (n : Nat)  {x7 : Int32} {a_pad : (Nat → Int32)} {a_padLong : Int32} {H : Heap} {locs : List Loc} {ls : Array Slot}, f_X8_put_L106 x1 n x7 a_pad a_padLong = some R → zW D A s [w_X8 cI cR a a_all a_kept a_history a_historyLong a_slots a_isSaved a_pad a_padLong a_readHeight a_readPass a_readMany a_heights a_many a_takes] H locs → lv_has ls 8 [(0, .ref (a 0)), (1, .long x1), (7, .int x7)] → W p l e ({ frames := 1, cells := 0, slots := 0, locals := 25 } : Room) s m args below meth c H locs 0 0 (zE D A below s args (some (.int R.1)) [w_X8 cI cR a a_all a_kept a_history a_historyLong a_slots a_isSaved R.2.1 R.2.2 a_readHeight a_readPass a_readMany a_heights a_many a_takes]) (F0 m 106 ls []) := by
  have hx := X.1.1
  have hb := X.1.2.1
  intro n
  induction n with
  | zero =>
    intro x7 a_pad a_padLong H locs ls hf
    have hf : none = some R := hf
    cases hf
  | succ n ih =>
    intro x7 a_pad a_padLong H locs ls hf Z hl
    refine lv_iload hx hb dX8_put_106 (lv_at hl 2 rfl) ?_
    refine lv_if_lt (tgt := 148) hx hb dX8_put_108 (by decide) (fun c6 => ?_) (fun c6 => ?_)
    · have hf := it_t c6 hf
      refine lv_aload_n hx hb dX8_put_148 rfl (lv_at hl 0 rfl) ?_
      refine zg_X8_87 X Z 0 rfl rfl dX8_put_149 ?_
      have hR := so_s hf
      subst hR
      refine z_iret X hr hlocks ?_ dX8_put_152
      exact Z.eq rfl
    · have hf := it_f c6 hf
      refine lv_aload_n hx hb dX8_put_111 rfl (lv_at hl 0 rfl) ?_
      refine zg_X8_25 X Z 0 rfl rfl dX8_put_112 ?_
      refine lv_aload_n hx hb dX8_put_115 rfl (lv_at hl 0 rfl) ?_
      refine zg_X8_87 X Z 0 rfl rfl dX8_put_116 ?_
      refine lv_lload_n hx hb dX8_put_119 rfl (lv_at hl 1 rfl) ?_
      refine lv_bipush (v := 8) hx hb dX8_put_120 (by decide) ?_
      refine lv_iload hx hb dX8_put_122 (lv_at hl 2 rfl) ?_
      refine lv_imul hx hb dX8_put_124 ?_
      refine lv_lushr hx hb dX8_put_125 rfl ?_
      refine lv_ldc2 hx hb X.1.2.2.2.1 (X.1.2.2.2.2 _ mk_X8_97) dX8_put_126 ?_
      refine lv_land hx hb dX8_put_129 ?_
      refine lv_l2i hx hb dX8_put_130 rfl ?_
      obtain ⟨i7, hf⟩ := in_s hf
      refine z_st (j := a_padLong.toNatClampNeg) X Z 6 rfl i7 rfl [w_X8 cI cR a a_all a_kept a_history a_historyLong a_slots a_isSaved (upd a_pad a_padLong.toNatClampNeg ((((x1.toUInt64 >>> (((8 : Int32) * x7).toInt64.toUInt64 &&& Int64.toUInt64 63)).toInt64) &&& (255 : Int64)).toInt32)) a_padLong a_readHeight a_readPass a_readMany a_heights a_many a_takes] rfl dX8_put_131 (fun H locs Z => ?_)
      refine lv_aload_n hx hb dX8_put_132 rfl (lv_at hl 0 rfl) ?_
      refine lv_dup hx hb dX8_put_133 rfl ?_
      refine zg_X8_87 X Z 0 rfl rfl dX8_put_134 ?_
      refine lv_iconst (v := 1) hx hb dX8_put_137 (by decide) ?_
      refine lv_iadd hx hb dX8_put_138 ?_
      refine zp_X8_87 X Z 0 rfl (Nat.le_of_ble_eq_true rfl) [w_X8 cI cR a a_all a_kept a_history a_historyLong a_slots a_isSaved (upd a_pad a_padLong.toNatClampNeg ((((x1.toUInt64 >>> (((8 : Int32) * x7).toInt64.toUInt64 &&& Int64.toUInt64 63)).toInt64) &&& (255 : Int64)).toInt32)) (a_padLong + (1 : Int32)) a_readHeight a_readPass a_readMany a_heights a_many a_takes] rfl dX8_put_139 (fun H locs Z => ?_)
      refine lv_iinc (v := x7 + (-1 : Int32)) (lv' := [(7, .int (x7 + (-1 : Int32))), (0, .ref (a 0)), (1, .long x1)]) hx hb dX8_put_142 hl (k := 2) rfl rfl (by decide) rfl (fun ls hl => ?_)
      refine lv_goto (tgt := 106) hx hb dX8_put_145 (by decide) ?_
      exact ih hf Z (lv_sub hl [1, 2, 0] rfl)

def f_X8_put_L8 (a_pad : (Nat → Int32)) (a_padLong : Int32) (x1 : Int64) : Nat → Int32 → Int32 → Int64 → Option (Int32 × (Nat → Int32) × Int32)
  | 0, _, _, _ => none
  | n + 1, x3, x4, x5 => if (8 : Int32) ≤ x3 then (if x3 = 0 then (some ((-2 : Int32), a_pad, a_padLong)) else (if (lg_cmp x5 (0 : Int64)) = 0 then (if x4 = 0 then (some ((-2 : Int32), a_pad, a_padLong)) else (if (a_padLong + x3) ≤ (30 : Int32) then (f_X8_put_L106 x1 zF (x3 - (1 : Int32)) a_pad a_padLong) else (some ((-4 : Int32), a_pad, a_padLong)))) else (some ((-2 : Int32), a_pad, a_padLong)))) else (if (lg_cmp (x5 &&& (255 : Int64)) (0 : Int64)) = 0 then (if x3 = 0 then (some ((-2 : Int32), a_pad, a_padLong)) else (if (lg_cmp x5 (0 : Int64)) = 0 then (if x4 = 0 then (some ((-2 : Int32), a_pad, a_padLong)) else (if (a_padLong + x3) ≤ (30 : Int32) then (f_X8_put_L106 x1 zF (x3 - (1 : Int32)) a_pad a_padLong) else (some ((-4 : Int32), a_pad, a_padLong)))) else (some ((-2 : Int32), a_pad, a_padLong)))) else (if x4 = 0 then (f_X8_put_L8 a_pad a_padLong x1 n (x3 + (1 : Int32)) (0 : Int32) ((x5.toUInt64 >>> ((8 : Int32).toInt64.toUInt64 &&& Int64.toUInt64 63)).toInt64) ) else ((f_X8_in (x5 &&& (255 : Int64)) (33 : Int64) (126 : Int64)).bind (fun q14 => if q14 = 0 then (f_X8_put_L8 a_pad a_padLong x1 n (x3 + (1 : Int32)) (0 : Int32) ((x5.toUInt64 >>> ((8 : Int32).toInt64.toUInt64 &&& Int64.toUInt64 63)).toInt64) ) else (f_X8_put_L8 a_pad a_padLong x1 n (x3 + (1 : Int32)) (1 : Int32) ((x5.toUInt64 >>> ((8 : Int32).toInt64.toUInt64 &&& Int64.toUInt64 63)).toInt64) )))))
set_option maxHeartbeats 4000000 in
set_option maxRecDepth 100000 in
theorem w_X8_put_L8 {p : Program} {l : Launch} {e : Env} {s : State} {m : MethodId} {args : Array Value} {below : List Frame} {meth : Method} {c : Code} {D : va_G} {cI cR : ClassId} {A : Nat → Prop} {a : (Nat → Nat)} {a_all : (Nat → Int32)} {a_kept : (Nat → Int32)} {a_history : (Nat → Int32)} {a_historyLong : Int32} {a_slots : (Nat → Int32)} {a_isSaved : (Nat → Int32)} {a_pad : (Nat → Int32)} {a_padLong : Int32} {a_readHeight : (Nat → Int32)} {a_readPass : (Nat → Int32)} {a_readMany : Int32} {a_heights : (Nat → Int32)} {a_many : Int32} {a_takes : (Nat → Int32)} {x1 : Int64} {R : Int32 × (Nat → Int32) × Int32} (X : zX p s m c cX8_put 8 args RX8 D cI cR A) (hr : meth.sig.returnType = (some .int)) (hlocks : meth.locks = false) : ∀ (n : Nat)  {x3 : Int32} {x4 : Int32} {x5 : Int64} {H : Heap} {locs : List Loc} {ls : Array Slot}, f_X8_put_L8 a_pad a_padLong x1 n x3 x4 x5 = some R → zW D A s [w_X8 cI cR a a_all a_kept a_history a_historyLong a_slots a_isSaved a_pad a_padLong a_readHeight a_readPass a_readMany a_heights a_many a_takes] H locs → lv_has ls 8 [(0, .ref (a 0)), (1, .long x1), (3, .int x3), (4, .int x4), (5, .long x5)] → W p l e ({ frames := 1, cells := 0, slots := 0, locals := 25 } : Room) s m args below meth c H locs 0 0 (zE D A below s args (some (.int R.1)) [w_X8 cI cR a a_all a_kept a_history a_historyLong a_slots a_isSaved R.2.1 R.2.2 a_readHeight a_readPass a_readMany a_heights a_many a_takes]) (F0 m 8 ls []) := by
  have hx := X.1.1
  have hb := X.1.2.1
  intro n
  induction n with
  | zero =>
    intro x3 x4 x5 H locs ls hf
    have hf : none = some R := hf
    cases hf
  | succ n ih =>
    intro x3 x4 x5 H locs ls hf Z hl
    refine lv_iload_n hx hb dX8_put_8 rfl (lv_at hl 2 rfl) ?_
    refine lv_bipush (v := 8) hx hb dX8_put_9 (by decide) ?_
    refine lv_icmp_ge (tgt := 68) hx hb dX8_put_11 (by decide) (fun c1 => ?_) (fun c1 => ?_)
    · have hf := it_t c1 hf
      refine lv_iload_n hx hb dX8_put_68 rfl (lv_at hl 2 rfl) ?_
      refine lv_if_eq (tgt := 84) hx hb dX8_put_69 (by decide) (fun c2 => ?_) (fun c2 => ?_)
      · have hf := it_t c2 hf
        refine lv_bipush (v := -2) hx hb dX8_put_84 (by decide) ?_
        have hR := so_s hf
        subst hR
        refine z_iret X hr hlocks ?_ dX8_put_86
        exact Z.eq rfl
      · have hf := it_f c2 hf
        refine lv_lload hx hb dX8_put_72 (lv_at hl 4 rfl) ?_
        refine lv_lconst (v := 0) hx hb dX8_put_74 (by decide) ?_
        refine W.lcmp hx hb dX8_put_75 ?_
        refine lv_if_ne (tgt := 84) hx hb dX8_put_76 (by decide) (fun c3 => ?_) (fun c3 => ?_)
        · have hf := it_f c3 hf
          refine lv_bipush (v := -2) hx hb dX8_put_84 (by decide) ?_
          have hR := so_s hf
          subst hR
          refine z_iret X hr hlocks ?_ dX8_put_86
          exact Z.eq rfl
        · have hf := it_t c3 hf
          refine lv_iload hx hb dX8_put_79 (lv_at hl 3 rfl) ?_
          refine lv_if_ne (tgt := 87) hx hb dX8_put_81 (by decide) (fun c4 => ?_) (fun c4 => ?_)
          · have hf := it_f c4 hf
            refine lv_aload_n hx hb dX8_put_87 rfl (lv_at hl 0 rfl) ?_
            refine zg_X8_87 X Z 0 rfl rfl dX8_put_88 ?_
            refine lv_iload_n hx hb dX8_put_91 rfl (lv_at hl 2 rfl) ?_
            refine lv_iadd hx hb dX8_put_92 ?_
            refine lv_bipush (v := 30) hx hb dX8_put_93 (by decide) ?_
            refine lv_icmp_le (tgt := 101) hx hb dX8_put_95 (by decide) (fun c5 => ?_) (fun c5 => ?_)
            · have hf := it_t c5 hf
              refine lv_iload_n hx hb dX8_put_101 rfl (lv_at hl 2 rfl) ?_
              refine lv_iconst (v := 1) hx hb dX8_put_102 (by decide) ?_
              refine lv_isub hx hb dX8_put_103 ?_
              refine lv_istore (lv' := [(7, .int (x3 - (1 : Int32))), (0, .ref (a 0)), (1, .long x1), (3, .int x3), (4, .int x4), (5, .long x5)]) hx hb dX8_put_104 hl (by decide) rfl (fun ls hl => ?_)
              exact w_X8_put_L106 X hr hlocks _ hf Z (lv_sub hl [1, 2, 0] rfl)
            · have hf := it_f c5 hf
              refine lv_bipush (v := -4) hx hb dX8_put_98 (by decide) ?_
              have hR := so_s hf
              subst hR
              refine z_iret X hr hlocks ?_ dX8_put_100
              exact Z.eq rfl
          · have hf := it_t c4 hf
            refine lv_bipush (v := -2) hx hb dX8_put_84 (by decide) ?_
            have hR := so_s hf
            subst hR
            refine z_iret X hr hlocks ?_ dX8_put_86
            exact Z.eq rfl
    · have hf := it_f c1 hf
      refine lv_lload hx hb dX8_put_14 (lv_at hl 4 rfl) ?_
      refine lv_ldc2 hx hb X.1.2.2.2.1 (X.1.2.2.2.2 _ mk_X8_97) dX8_put_16 ?_
      refine lv_land hx hb dX8_put_19 ?_
      refine lv_lconst (v := 0) hx hb dX8_put_20 (by decide) ?_
      refine W.lcmp hx hb dX8_put_21 ?_
      refine lv_if_eq (tgt := 68) hx hb dX8_put_22 (by decide) (fun c8 => ?_) (fun c8 => ?_)
      · have hf := it_t c8 hf
        refine lv_iload_n hx hb dX8_put_68 rfl (lv_at hl 2 rfl) ?_
        refine lv_if_eq (tgt := 84) hx hb dX8_put_69 (by decide) (fun c9 => ?_) (fun c9 => ?_)
        · have hf := it_t c9 hf
          refine lv_bipush (v := -2) hx hb dX8_put_84 (by decide) ?_
          have hR := so_s hf
          subst hR
          refine z_iret X hr hlocks ?_ dX8_put_86
          exact Z.eq rfl
        · have hf := it_f c9 hf
          refine lv_lload hx hb dX8_put_72 (lv_at hl 4 rfl) ?_
          refine lv_lconst (v := 0) hx hb dX8_put_74 (by decide) ?_
          refine W.lcmp hx hb dX8_put_75 ?_
          refine lv_if_ne (tgt := 84) hx hb dX8_put_76 (by decide) (fun c10 => ?_) (fun c10 => ?_)
          · have hf := it_f c10 hf
            refine lv_bipush (v := -2) hx hb dX8_put_84 (by decide) ?_
            have hR := so_s hf
            subst hR
            refine z_iret X hr hlocks ?_ dX8_put_86
            exact Z.eq rfl
          · have hf := it_t c10 hf
            refine lv_iload hx hb dX8_put_79 (lv_at hl 3 rfl) ?_
            refine lv_if_ne (tgt := 87) hx hb dX8_put_81 (by decide) (fun c11 => ?_) (fun c11 => ?_)
            · have hf := it_f c11 hf
              refine lv_aload_n hx hb dX8_put_87 rfl (lv_at hl 0 rfl) ?_
              refine zg_X8_87 X Z 0 rfl rfl dX8_put_88 ?_
              refine lv_iload_n hx hb dX8_put_91 rfl (lv_at hl 2 rfl) ?_
              refine lv_iadd hx hb dX8_put_92 ?_
              refine lv_bipush (v := 30) hx hb dX8_put_93 (by decide) ?_
              refine lv_icmp_le (tgt := 101) hx hb dX8_put_95 (by decide) (fun c12 => ?_) (fun c12 => ?_)
              · have hf := it_t c12 hf
                refine lv_iload_n hx hb dX8_put_101 rfl (lv_at hl 2 rfl) ?_
                refine lv_iconst (v := 1) hx hb dX8_put_102 (by decide) ?_
                refine lv_isub hx hb dX8_put_103 ?_
                refine lv_istore (lv' := [(7, .int (x3 - (1 : Int32))), (0, .ref (a 0)), (1, .long x1), (3, .int x3), (4, .int x4), (5, .long x5)]) hx hb dX8_put_104 hl (by decide) rfl (fun ls hl => ?_)
                exact w_X8_put_L106 X hr hlocks _ hf Z (lv_sub hl [1, 2, 0] rfl)
              · have hf := it_f c12 hf
                refine lv_bipush (v := -4) hx hb dX8_put_98 (by decide) ?_
                have hR := so_s hf
                subst hR
                refine z_iret X hr hlocks ?_ dX8_put_100
                exact Z.eq rfl
            · have hf := it_t c11 hf
              refine lv_bipush (v := -2) hx hb dX8_put_84 (by decide) ?_
              have hR := so_s hf
              subst hR
              refine z_iret X hr hlocks ?_ dX8_put_86
              exact Z.eq rfl
      · have hf := it_f c8 hf
        refine lv_iload hx hb dX8_put_25 (lv_at hl 3 rfl) ?_
        refine lv_if_eq (tgt := 52) hx hb dX8_put_27 (by decide) (fun c13 => ?_) (fun c13 => ?_)
        · have hf := it_t c13 hf
          refine lv_iconst (v := 0) hx hb dX8_put_52 (by decide) ?_
          refine lv_istore (lv' := [(4, .int (0 : Int32)), (0, .ref (a 0)), (1, .long x1), (3, .int x3), (5, .long x5)]) hx hb dX8_put_53 hl (by decide) rfl (fun ls hl => ?_)
          refine lv_lload hx hb dX8_put_55 (lv_at hl 4 rfl) ?_
          refine lv_bipush (v := 8) hx hb dX8_put_57 (by decide) ?_
          refine lv_lushr hx hb dX8_put_59 rfl ?_
          refine lv_lstore (lv' := [(5, .long ((x5.toUInt64 >>> ((8 : Int32).toInt64.toUInt64 &&& Int64.toUInt64 63)).toInt64)), (4, .int (0 : Int32)), (0, .ref (a 0)), (1, .long x1), (3, .int x3)]) hx hb dX8_put_60 hl (by decide) rfl (fun ls hl => ?_)
          refine lv_iinc (v := x3 + (1 : Int32)) (lv' := [(3, .int (x3 + (1 : Int32))), (5, .long ((x5.toUInt64 >>> ((8 : Int32).toInt64.toUInt64 &&& Int64.toUInt64 63)).toInt64)), (4, .int (0 : Int32)), (0, .ref (a 0)), (1, .long x1)]) hx hb dX8_put_62 hl (k := 4) rfl rfl (by decide) rfl (fun ls hl => ?_)
          refine lv_goto (tgt := 8) hx hb dX8_put_65 (by decide) ?_
          exact ih hf Z (lv_sub hl [3, 4, 0, 2, 1] rfl)
        · have hf := it_f c13 hf
          refine lv_lload hx hb dX8_put_30 (lv_at hl 4 rfl) ?_
          refine lv_ldc2 hx hb X.1.2.2.2.1 (X.1.2.2.2.2 _ mk_X8_97) dX8_put_32 ?_
          refine lv_land hx hb dX8_put_35 ?_
          refine lv_ldc2 hx hb X.1.2.2.2.1 (X.1.2.2.2.2 _ mk_X8_99) dX8_put_36 ?_
          refine lv_ldc2 hx hb X.1.2.2.2.1 (X.1.2.2.2.2 _ mk_X8_101) dX8_put_39 ?_
          obtain ⟨q14, hq14, hf⟩ := ob_s hf
          refine z_roS X Z (c_X8_in l D cI cR   (x5 &&& (255 : Int64)) (33 : Int64) (126 : Int64) hq14) (zw_X8_44 X.1.2.2.2.2 ⟨Nat.le_of_ble_eq_true rfl, Nat.le_of_ble_eq_true rfl⟩) [] [0] (by decide : ([] ++ [0] : List Nat).Perm (List.range 1)) rfl rfl hl.1 rfl (Nat.le_of_ble_eq_true rfl) dX8_put_42 ⟨Nat.le_of_ble_eq_true rfl, Nat.le_of_ble_eq_true rfl⟩ (fun H locs Z => ?_)
          refine lv_if_eq (tgt := 52) hx hb dX8_put_45 (by decide) (fun c15 => ?_) (fun c15 => ?_)
          · have hf := it_t c15 hf
            refine lv_iconst (v := 0) hx hb dX8_put_52 (by decide) ?_
            refine lv_istore (lv' := [(4, .int (0 : Int32)), (0, .ref (a 0)), (1, .long x1), (3, .int x3), (5, .long x5)]) hx hb dX8_put_53 hl (by decide) rfl (fun ls hl => ?_)
            refine lv_lload hx hb dX8_put_55 (lv_at hl 4 rfl) ?_
            refine lv_bipush (v := 8) hx hb dX8_put_57 (by decide) ?_
            refine lv_lushr hx hb dX8_put_59 rfl ?_
            refine lv_lstore (lv' := [(5, .long ((x5.toUInt64 >>> ((8 : Int32).toInt64.toUInt64 &&& Int64.toUInt64 63)).toInt64)), (4, .int (0 : Int32)), (0, .ref (a 0)), (1, .long x1), (3, .int x3)]) hx hb dX8_put_60 hl (by decide) rfl (fun ls hl => ?_)
            refine lv_iinc (v := x3 + (1 : Int32)) (lv' := [(3, .int (x3 + (1 : Int32))), (5, .long ((x5.toUInt64 >>> ((8 : Int32).toInt64.toUInt64 &&& Int64.toUInt64 63)).toInt64)), (4, .int (0 : Int32)), (0, .ref (a 0)), (1, .long x1)]) hx hb dX8_put_62 hl (k := 4) rfl rfl (by decide) rfl (fun ls hl => ?_)
            refine lv_goto (tgt := 8) hx hb dX8_put_65 (by decide) ?_
            exact ih hf Z (lv_sub hl [3, 4, 0, 2, 1] rfl)
          · have hf := it_f c15 hf
            refine lv_iconst (v := 1) hx hb dX8_put_48 (by decide) ?_
            refine lv_goto (tgt := 53) hx hb dX8_put_49 (by decide) ?_
            refine lv_istore (lv' := [(4, .int (1 : Int32)), (0, .ref (a 0)), (1, .long x1), (3, .int x3), (5, .long x5)]) hx hb dX8_put_53 hl (by decide) rfl (fun ls hl => ?_)
            refine lv_lload hx hb dX8_put_55 (lv_at hl 4 rfl) ?_
            refine lv_bipush (v := 8) hx hb dX8_put_57 (by decide) ?_
            refine lv_lushr hx hb dX8_put_59 rfl ?_
            refine lv_lstore (lv' := [(5, .long ((x5.toUInt64 >>> ((8 : Int32).toInt64.toUInt64 &&& Int64.toUInt64 63)).toInt64)), (4, .int (1 : Int32)), (0, .ref (a 0)), (1, .long x1), (3, .int x3)]) hx hb dX8_put_60 hl (by decide) rfl (fun ls hl => ?_)
            refine lv_iinc (v := x3 + (1 : Int32)) (lv' := [(3, .int (x3 + (1 : Int32))), (5, .long ((x5.toUInt64 >>> ((8 : Int32).toInt64.toUInt64 &&& Int64.toUInt64 63)).toInt64)), (4, .int (1 : Int32)), (0, .ref (a 0)), (1, .long x1)]) hx hb dX8_put_62 hl (k := 4) rfl rfl (by decide) rfl (fun ls hl => ?_)
            refine lv_goto (tgt := 8) hx hb dX8_put_65 (by decide) ?_
            exact ih hf Z (lv_sub hl [3, 4, 0, 2, 1] rfl)

def f_X8_put (a_pad : (Nat → Int32)) (a_padLong : Int32) (p1 : Int64) : Option (Int32 × (Nat → Int32) × Int32) := f_X8_put_L8 a_pad a_padLong p1 zF (0 : Int32) (1 : Int32) p1
set_option maxHeartbeats 4000000 in
set_option maxRecDepth 100000 in
theorem c_X8_put (l : Launch) (D : va_G) (cI cR : ClassId) (a : (Nat → Nat)) (a_all : (Nat → Int32)) (a_kept : (Nat → Int32)) (a_history : (Nat → Int32)) (a_historyLong : Int32) (a_slots : (Nat → Int32)) (a_isSaved : (Nat → Int32)) (a_pad : (Nat → Int32)) (a_padLong : Int32) (a_readHeight : (Nat → Int32)) (a_readPass : (Nat → Int32)) (a_readMany : Int32) (a_heights : (Nat → Int32)) (a_many : Int32) (a_takes : (Nat → Int32)) (p1 : Int64) {R : Int32 × (Nat → Int32) × Int32} (hf : f_X8_put a_pad a_padLong p1 = some R) : zM l D cI cR yX8_put cX8_put 8 (some .int) 1 25 [.ref (a 0), .long p1] [w_X8 cI cR a a_all a_kept a_history a_historyLong a_slots a_isSaved a_pad a_padLong a_readHeight a_readPass a_readMany a_heights a_many a_takes] (some (.int R.1)) [w_X8 cI cR a a_all a_kept a_history a_historyLong a_slots a_isSaved R.2.1 R.2.2 a_readHeight a_readPass a_readMany a_heights a_many a_takes] := by
  refine z_of (own := RX8) rfl (by decide) (Nat.le_of_ble_eq_true rfl) ?_
  intro p e s m args below meth c A ls X hr hlocks Z hl
  have hx := X.1.1
  have hb := X.1.2.1
  have Z : zW D A s [w_X8 cI cR a a_all a_kept a_history a_historyLong a_slots a_isSaved a_pad a_padLong a_readHeight a_readPass a_readMany a_heights a_many a_takes] s.heap [] := Z
  have hl : lv_has ls 8 [(0, .ref (a 0)), (1, .long p1)] := hl
  refine lv_iconst (v := 0) hx hb dX8_put_0 (by decide) ?_
  refine lv_istore_n (lv' := [(3, .int (0 : Int32)), (0, .ref (a 0)), (1, .long p1)]) hx hb dX8_put_1 rfl hl (by decide) rfl (fun ls hl => ?_)
  refine lv_iconst (v := 1) hx hb dX8_put_2 (by decide) ?_
  refine lv_istore (lv' := [(4, .int (1 : Int32)), (3, .int (0 : Int32)), (0, .ref (a 0)), (1, .long p1)]) hx hb dX8_put_3 hl (by decide) rfl (fun ls hl => ?_)
  refine lv_lload_n hx hb dX8_put_5 rfl (lv_at hl 3 rfl) ?_
  refine lv_lstore (lv' := [(5, .long p1), (4, .int (1 : Int32)), (3, .int (0 : Int32)), (0, .ref (a 0)), (1, .long p1)]) hx hb dX8_put_6 hl (by decide) rfl (fun ls hl => ?_)
  exact w_X8_put_L8 X hr hlocks _ hf Z (lv_sub hl [3, 4, 2, 1, 0] rfl)
def f_X8_wipe (a_padLong : Int32) : Option (Int32 × Int32) := some (a_padLong, (0 : Int32))
set_option maxHeartbeats 4000000 in
set_option maxRecDepth 100000 in
theorem c_X8_wipe (l : Launch) (D : va_G) (cI cR : ClassId) (a : (Nat → Nat)) (a_all : (Nat → Int32)) (a_kept : (Nat → Int32)) (a_history : (Nat → Int32)) (a_historyLong : Int32) (a_slots : (Nat → Int32)) (a_isSaved : (Nat → Int32)) (a_pad : (Nat → Int32)) (a_padLong : Int32) (a_readHeight : (Nat → Int32)) (a_readPass : (Nat → Int32)) (a_readMany : Int32) (a_heights : (Nat → Int32)) (a_many : Int32) (a_takes : (Nat → Int32)) {R : Int32 × Int32} (hf : f_X8_wipe a_padLong = some R) : zM l D cI cR yX8_wipe cX8_wipe 2 (some .int) 0 0 [.ref (a 0)] [w_X8 cI cR a a_all a_kept a_history a_historyLong a_slots a_isSaved a_pad a_padLong a_readHeight a_readPass a_readMany a_heights a_many a_takes] (some (.int R.1)) [w_X8 cI cR a a_all a_kept a_history a_historyLong a_slots a_isSaved a_pad R.2 a_readHeight a_readPass a_readMany a_heights a_many a_takes] := by
  refine z_of (own := RX8) rfl (by decide) (Nat.le_of_ble_eq_true rfl) ?_
  intro p e s m args below meth c A ls X hr hlocks Z hl
  have hx := X.1.1
  have hb := X.1.2.1
  have Z : zW D A s [w_X8 cI cR a a_all a_kept a_history a_historyLong a_slots a_isSaved a_pad a_padLong a_readHeight a_readPass a_readMany a_heights a_many a_takes] s.heap [] := Z
  have hl : lv_has ls 2 [(0, .ref (a 0))] := hl
  refine lv_aload_n hx hb dX8_wipe_0 rfl (lv_at hl 0 rfl) ?_
  refine zg_X8_87 X Z 0 rfl rfl dX8_wipe_1 ?_
  refine lv_istore_n (lv' := [(1, .int a_padLong), (0, .ref (a 0))]) hx hb dX8_wipe_4 rfl hl (by decide) rfl (fun ls hl => ?_)
  refine lv_aload_n hx hb dX8_wipe_5 rfl (lv_at hl 1 rfl) ?_
  refine lv_iconst (v := 0) hx hb dX8_wipe_6 (by decide) ?_
  refine zp_X8_87 X Z 0 rfl (Nat.le_of_ble_eq_true rfl) [w_X8 cI cR a a_all a_kept a_history a_historyLong a_slots a_isSaved a_pad (0 : Int32) a_readHeight a_readPass a_readMany a_heights a_many a_takes] rfl dX8_wipe_7 (fun H locs Z => ?_)
  refine lv_iload_n hx hb dX8_wipe_10 rfl (lv_at hl 0 rfl) ?_
  have hR := so_s hf
  subst hR
  refine z_iret X hr hlocks ?_ dX8_wipe_11
  exact Z.eq rfl
def f_X8_isAt (a_pad : (Nat → Int32)) (a_padLong : Int32) (p1 : Int32) (p2 : Int32) (p3 : Int32) : Option (Int32) := if a_padLong ≤ p1 then (some (0 : Int32)) else (if p1 < 0 ∨ 30 ≤ p1.toNatClampNeg then none else ((f_X8_in ((a_pad p1.toNatClampNeg).toInt64) p2.toInt64 p3.toInt64).bind (fun q3 => if q3 = 0 then (some (0 : Int32)) else (some (1 : Int32)))))
set_option maxHeartbeats 4000000 in
set_option maxRecDepth 100000 in
theorem c_X8_isAt (l : Launch) (D : va_G) (cI cR : ClassId) (a : (Nat → Nat)) (a_all : (Nat → Int32)) (a_kept : (Nat → Int32)) (a_history : (Nat → Int32)) (a_historyLong : Int32) (a_slots : (Nat → Int32)) (a_isSaved : (Nat → Int32)) (a_pad : (Nat → Int32)) (a_padLong : Int32) (a_readHeight : (Nat → Int32)) (a_readPass : (Nat → Int32)) (a_readMany : Int32) (a_heights : (Nat → Int32)) (a_many : Int32) (a_takes : (Nat → Int32)) (p1 : Int32) (p2 : Int32) (p3 : Int32) {R : Int32} (hf : f_X8_isAt a_pad a_padLong p1 p2 p3 = some R) : zM l D cI cR yX8_isAt cX8_isAt 4 (some .boolean) 1 25 [.ref (a 0), .int p1, .int p2, .int p3] [w_X8 cI cR a a_all a_kept a_history a_historyLong a_slots a_isSaved a_pad a_padLong a_readHeight a_readPass a_readMany a_heights a_many a_takes] (some (.int R)) [w_X8 cI cR a a_all a_kept a_history a_historyLong a_slots a_isSaved a_pad a_padLong a_readHeight a_readPass a_readMany a_heights a_many a_takes] := by
  refine z_of (own := RX8) rfl (by decide) (Nat.le_of_ble_eq_true rfl) ?_
  intro p e s m args below meth c A ls X hr hlocks Z hl
  have hx := X.1.1
  have hb := X.1.2.1
  have Z : zW D A s [w_X8 cI cR a a_all a_kept a_history a_historyLong a_slots a_isSaved a_pad a_padLong a_readHeight a_readPass a_readMany a_heights a_many a_takes] s.heap [] := Z
  have hl : lv_has ls 4 [(0, .ref (a 0)), (1, .int p1), (2, .int p2), (3, .int p3)] := hl
  refine lv_iload_n hx hb dX8_isAt_0 rfl (lv_at hl 1 rfl) ?_
  refine lv_aload_n hx hb dX8_isAt_1 rfl (lv_at hl 0 rfl) ?_
  refine zg_X8_87 X Z 0 rfl rfl dX8_isAt_2 ?_
  refine lv_icmp_ge (tgt := 29) hx hb dX8_isAt_5 (by decide) (fun c1 => ?_) (fun c1 => ?_)
  · have hf := it_t c1 hf
    refine lv_iconst (v := 0) hx hb dX8_isAt_29 (by decide) ?_
    have hR := so_s hf
    subst hR
    refine z_zret X hr hlocks (Or.inl rfl) ?_ dX8_isAt_30
    exact Z.eq rfl
  · have hf := it_f c1 hf
    refine lv_aload_n hx hb dX8_isAt_8 rfl (lv_at hl 0 rfl) ?_
    refine zg_X8_25 X Z 0 rfl rfl dX8_isAt_9 ?_
    refine lv_iload_n hx hb dX8_isAt_12 rfl (lv_at hl 1 rfl) ?_
    obtain ⟨i2, hf⟩ := in_s hf
    refine z_ld (j := p1.toNatClampNeg) X Z 6 rfl i2 rfl dX8_isAt_13 ?_
    refine lv_i2l hx hb dX8_isAt_14 rfl ?_
    refine lv_iload_n hx hb dX8_isAt_15 rfl (lv_at hl 2 rfl) ?_
    refine lv_i2l hx hb dX8_isAt_16 rfl ?_
    refine lv_iload_n hx hb dX8_isAt_17 rfl (lv_at hl 3 rfl) ?_
    refine lv_i2l hx hb dX8_isAt_18 rfl ?_
    obtain ⟨q3, hq3, hf⟩ := ob_s hf
    refine z_roS X Z (c_X8_in l D cI cR   ((a_pad p1.toNatClampNeg).toInt64) p2.toInt64 p3.toInt64 hq3) (zw_X8_44 X.1.2.2.2.2 ⟨Nat.le_of_ble_eq_true rfl, Nat.le_of_ble_eq_true rfl⟩) [] [0] (by decide : ([] ++ [0] : List Nat).Perm (List.range 1)) rfl rfl hl.1 rfl (Nat.le_of_ble_eq_true rfl) dX8_isAt_19 ⟨Nat.le_of_ble_eq_true rfl, Nat.le_of_ble_eq_true rfl⟩ (fun H locs Z => ?_)
    refine lv_if_eq (tgt := 29) hx hb dX8_isAt_22 (by decide) (fun c4 => ?_) (fun c4 => ?_)
    · have hf := it_t c4 hf
      refine lv_iconst (v := 0) hx hb dX8_isAt_29 (by decide) ?_
      have hR := so_s hf
      subst hR
      refine z_zret X hr hlocks (Or.inl rfl) ?_ dX8_isAt_30
      exact Z.eq rfl
    · have hf := it_f c4 hf
      refine lv_iconst (v := 1) hx hb dX8_isAt_25 (by decide) ?_
      refine lv_goto (tgt := 30) hx hb dX8_isAt_26 (by decide) ?_
      have hR := so_s hf
      subst hR
      refine z_zret X hr hlocks (Or.inr rfl) ?_ dX8_isAt_30
      exact Z.eq rfl
theorem b_X8_isAt {a_pad : (Nat → Int32)} {a_padLong : Int32} {p1 : Int32} {p2 : Int32} {p3 : Int32} {R : Int32} (hf : f_X8_isAt a_pad a_padLong p1 p2 p3 = some R) : R = 0 ∨ R = 1 := by
  rcases Decidable.em (a_padLong ≤ p1) with c1 | c1
  · have hf := it_t c1 hf
    have hR := so_s hf
    subst hR
    exact (Or.inl rfl)
  · have hf := it_f c1 hf
    obtain ⟨i2, hf⟩ := in_s hf
    obtain ⟨q3, hq3, hf⟩ := ob_s hf
    rcases Decidable.em (q3 = 0) with c4 | c4
    · have hf := it_t c4 hf
      have hR := so_s hf
      subst hR
      exact (Or.inl rfl)
    · have hf := it_f c4 hf
      have hR := so_s hf
      subst hR
      exact (Or.inr rfl)
def f_X8_fault_L35 (a_pad : (Nat → Int32)) (a_padLong : Int32) : Nat → Int32 → (Nat → Int32) → (Nat → Int32) → Int32 → Option (Int32 × (Nat → Int32) × (Nat → Int32) × Int32)
  | 0, _, _, _, _ => none
  | n + 1, x1, a_readHeight, a_readPass, a_readMany => if (8 : Int32) ≤ a_readMany then (if a_readMany ≤ 0 then (some (x1, a_readHeight, a_readPass, a_readMany)) else (if x1 = a_padLong then (some ((-6 : Int32), a_readHeight, a_readPass, a_readMany)) else (some (x1, a_readHeight, a_readPass, a_readMany)))) else ((f_X8_isAt a_pad a_padLong x1 (48 : Int32) (55 : Int32)).bind (fun q8 => if q8 = 0 then (if a_readMany ≤ 0 then (some (x1, a_readHeight, a_readPass, a_readMany)) else (if x1 = a_padLong then (some ((-6 : Int32), a_readHeight, a_readPass, a_readMany)) else (some (x1, a_readHeight, a_readPass, a_readMany)))) else (if x1 < 0 ∨ 30 ≤ x1.toNatClampNeg then none else (if a_readMany < 0 ∨ 8 ≤ a_readMany.toNatClampNeg then none else (if a_readMany < 0 ∨ 8 ≤ a_readMany.toNatClampNeg then none else (if ((upd a_readHeight a_readMany.toNatClampNeg ((a_pad x1.toNatClampNeg) - (48 : Int32))) a_readMany.toNatClampNeg) ≤ 0 then (if a_readMany < 0 ∨ 8 ≤ a_readMany.toNatClampNeg then none else (f_X8_fault_L35 a_pad a_padLong n ((x1 + (1 : Int32)) + (0 : Int32)) (upd a_readHeight a_readMany.toNatClampNeg ((a_pad x1.toNatClampNeg) - (48 : Int32))) (upd a_readPass a_readMany.toNatClampNeg (0 : Int32)) (a_readMany + (1 : Int32)))) else ((f_X8_isAt a_pad a_padLong (x1 + (1 : Int32)) (112 : Int32) (112 : Int32)).bind (fun q19 => if q19 = 0 then (if a_readMany < 0 ∨ 8 ≤ a_readMany.toNatClampNeg then none else (f_X8_fault_L35 a_pad a_padLong n ((x1 + (1 : Int32)) + (0 : Int32)) (upd a_readHeight a_readMany.toNatClampNeg ((a_pad x1.toNatClampNeg) - (48 : Int32))) (upd a_readPass a_readMany.toNatClampNeg (0 : Int32)) (a_readMany + (1 : Int32)))) else (if a_readMany < 0 ∨ 8 ≤ a_readMany.toNatClampNeg then none else (f_X8_fault_L35 a_pad a_padLong n ((x1 + (1 : Int32)) + (1 : Int32)) (upd a_readHeight a_readMany.toNatClampNeg ((a_pad x1.toNatClampNeg) - (48 : Int32))) (upd a_readPass a_readMany.toNatClampNeg (1 : Int32)) (a_readMany + (1 : Int32))))))))))))
set_option maxHeartbeats 4000000 in
set_option maxRecDepth 100000 in
theorem w_X8_fault_L35 {p : Program} {l : Launch} {e : Env} {s : State} {m : MethodId} {args : Array Value} {below : List Frame} {meth : Method} {c : Code} {D : va_G} {cI cR : ClassId} {A : Nat → Prop} {a : (Nat → Nat)} {a_all : (Nat → Int32)} {a_kept : (Nat → Int32)} {a_history : (Nat → Int32)} {a_historyLong : Int32} {a_slots : (Nat → Int32)} {a_isSaved : (Nat → Int32)} {a_pad : (Nat → Int32)} {a_padLong : Int32} {a_heights : (Nat → Int32)} {a_many : Int32} {a_takes : (Nat → Int32)} {R : Int32 × (Nat → Int32) × (Nat → Int32) × Int32} (X : zX p s m c cX8_fault 3 args RX8 D cI cR A) (hr : meth.sig.returnType = (some .int)) (hlocks : meth.locks = false) : ∀ (n : Nat)  {x1 : Int32} {a_readHeight : (Nat → Int32)} {a_readPass : (Nat → Int32)} {a_readMany : Int32} {H : Heap} {locs : List Loc} {ls : Array Slot}, f_X8_fault_L35 a_pad a_padLong n x1 a_readHeight a_readPass a_readMany = some R → zW D A s [w_X8 cI cR a a_all a_kept a_history a_historyLong a_slots a_isSaved a_pad a_padLong a_readHeight a_readPass a_readMany a_heights a_many a_takes] H locs → lv_has ls 3 [(0, .ref (a 0)), (1, .int x1)] → W p l e ({ frames := 2, cells := 0, slots := 0, locals := 48 } : Room) s m args below meth c H locs 0 0 (zE D A below s args (some (.int R.1)) [w_X8 cI cR a a_all a_kept a_history a_historyLong a_slots a_isSaved a_pad a_padLong R.2.1 R.2.2.1 R.2.2.2 a_heights a_many a_takes]) (F0 m 35 ls []) := by
  have hx := X.1.1
  have hb := X.1.2.1
  intro n
  induction n with
  | zero =>
    intro x1 a_readHeight a_readPass a_readMany H locs ls hf
    have hf : none = some R := hf
    cases hf
  | succ n ih =>
    intro x1 a_readHeight a_readPass a_readMany H locs ls hf Z hl
    refine lv_aload_n hx hb dX8_fault_35 rfl (lv_at hl 0 rfl) ?_
    refine zg_X8_107 X Z 0 rfl rfl dX8_fault_36 ?_
    refine lv_bipush (v := 8) hx hb dX8_fault_39 (by decide) ?_
    refine lv_icmp_ge (tgt := 150) hx hb dX8_fault_41 (by decide) (fun c5 => ?_) (fun c5 => ?_)
    · have hf := it_t c5 hf
      refine lv_aload_n hx hb dX8_fault_150 rfl (lv_at hl 0 rfl) ?_
      refine zg_X8_107 X Z 0 rfl rfl dX8_fault_151 ?_
      refine lv_if_le (tgt := 170) hx hb dX8_fault_154 (by decide) (fun c6 => ?_) (fun c6 => ?_)
      · have hf := it_t c6 hf
        refine lv_iload_n hx hb dX8_fault_170 rfl (lv_at hl 1 rfl) ?_
        have hR := so_s hf
        subst hR
        refine z_iret X hr hlocks ?_ dX8_fault_171
        exact Z.eq rfl
      · have hf := it_f c6 hf
        refine lv_iload_n hx hb dX8_fault_157 rfl (lv_at hl 1 rfl) ?_
        refine lv_aload_n hx hb dX8_fault_158 rfl (lv_at hl 0 rfl) ?_
        refine zg_X8_87 X Z 0 rfl rfl dX8_fault_159 ?_
        refine lv_icmp_ne (tgt := 170) hx hb dX8_fault_162 (by decide) (fun c7 => ?_) (fun c7 => ?_)
        · have hf := it_f c7 hf
          refine lv_iload_n hx hb dX8_fault_170 rfl (lv_at hl 1 rfl) ?_
          have hR := so_s hf
          subst hR
          refine z_iret X hr hlocks ?_ dX8_fault_171
          exact Z.eq rfl
        · have hf := it_t c7 hf
          refine lv_bipush (v := -6) hx hb dX8_fault_165 (by decide) ?_
          refine lv_goto (tgt := 171) hx hb dX8_fault_167 (by decide) ?_
          have hR := so_s hf
          subst hR
          refine z_iret X hr hlocks ?_ dX8_fault_171
          exact Z.eq rfl
    · have hf := it_f c5 hf
      refine lv_aload_n hx hb dX8_fault_44 rfl (lv_at hl 0 rfl) ?_
      refine lv_iload_n hx hb dX8_fault_45 rfl (lv_at hl 1 rfl) ?_
      refine lv_bipush (v := 48) hx hb dX8_fault_46 (by decide) ?_
      refine lv_bipush (v := 55) hx hb dX8_fault_48 (by decide) ?_
      obtain ⟨q8, hq8, hf⟩ := ob_s hf
      refine z_roV X Z (c_X8_isAt l D cI cR a a_all a_kept a_history a_historyLong a_slots a_isSaved a_pad a_padLong a_readHeight a_readPass a_readMany a_heights a_many a_takes x1 (48 : Int32) (55 : Int32) hq8) (zw_X8_103 X.1.2.2.2.2 ⟨Nat.le_of_ble_eq_true rfl, Nat.le_of_ble_eq_true rfl⟩) 0 8 rfl rfl rfl [0] [] (by decide : ([0] ++ [] : List Nat).Perm (List.range 1)) rfl rfl hl.1 rfl (Nat.le_of_ble_eq_true rfl) dX8_fault_50 ⟨Nat.le_of_ble_eq_true rfl, Nat.le_of_ble_eq_true rfl⟩ (fun H locs Z => ?_)
      refine lv_if_eq (tgt := 150) hx hb dX8_fault_53 (by decide) (fun c9 => ?_) (fun c9 => ?_)
      · have hf := it_t c9 hf
        refine lv_aload_n hx hb dX8_fault_150 rfl (lv_at hl 0 rfl) ?_
        refine zg_X8_107 X Z 0 rfl rfl dX8_fault_151 ?_
        refine lv_if_le (tgt := 170) hx hb dX8_fault_154 (by decide) (fun c10 => ?_) (fun c10 => ?_)
        · have hf := it_t c10 hf
          refine lv_iload_n hx hb dX8_fault_170 rfl (lv_at hl 1 rfl) ?_
          have hR := so_s hf
          subst hR
          refine z_iret X hr hlocks ?_ dX8_fault_171
          exact Z.eq rfl
        · have hf := it_f c10 hf
          refine lv_iload_n hx hb dX8_fault_157 rfl (lv_at hl 1 rfl) ?_
          refine lv_aload_n hx hb dX8_fault_158 rfl (lv_at hl 0 rfl) ?_
          refine zg_X8_87 X Z 0 rfl rfl dX8_fault_159 ?_
          refine lv_icmp_ne (tgt := 170) hx hb dX8_fault_162 (by decide) (fun c11 => ?_) (fun c11 => ?_)
          · have hf := it_f c11 hf
            refine lv_iload_n hx hb dX8_fault_170 rfl (lv_at hl 1 rfl) ?_
            have hR := so_s hf
            subst hR
            refine z_iret X hr hlocks ?_ dX8_fault_171
            exact Z.eq rfl
          · have hf := it_t c11 hf
            refine lv_bipush (v := -6) hx hb dX8_fault_165 (by decide) ?_
            refine lv_goto (tgt := 171) hx hb dX8_fault_167 (by decide) ?_
            have hR := so_s hf
            subst hR
            refine z_iret X hr hlocks ?_ dX8_fault_171
            exact Z.eq rfl
      · have hf := it_f c9 hf
        refine lv_aload_n hx hb dX8_fault_56 rfl (lv_at hl 0 rfl) ?_
        refine zg_X8_28 X Z 0 rfl rfl dX8_fault_57 ?_
        refine lv_aload_n hx hb dX8_fault_60 rfl (lv_at hl 0 rfl) ?_
        refine zg_X8_107 X Z 0 rfl rfl dX8_fault_61 ?_
        refine lv_aload_n hx hb dX8_fault_64 rfl (lv_at hl 0 rfl) ?_
        refine zg_X8_25 X Z 0 rfl rfl dX8_fault_65 ?_
        refine lv_iload_n hx hb dX8_fault_68 rfl (lv_at hl 1 rfl) ?_
        obtain ⟨i12, hf⟩ := in_s hf
        refine z_ld (j := x1.toNatClampNeg) X Z 6 rfl i12 rfl dX8_fault_69 ?_
        refine lv_bipush (v := 48) hx hb dX8_fault_70 (by decide) ?_
        refine lv_isub hx hb dX8_fault_72 ?_
        obtain ⟨i13, hf⟩ := in_s hf
        refine z_st (j := a_readMany.toNatClampNeg) X Z 7 rfl i13 rfl [w_X8 cI cR a a_all a_kept a_history a_historyLong a_slots a_isSaved a_pad a_padLong (upd a_readHeight a_readMany.toNatClampNeg ((a_pad x1.toNatClampNeg) - (48 : Int32))) a_readPass a_readMany a_heights a_many a_takes] rfl dX8_fault_73 (fun H locs Z => ?_)
        refine lv_iinc (v := x1 + (1 : Int32)) (lv' := [(1, .int (x1 + (1 : Int32))), (0, .ref (a 0))]) hx hb dX8_fault_74 hl (k := 1) rfl rfl (by decide) rfl (fun ls hl => ?_)
        refine lv_aload_n hx hb dX8_fault_77 rfl (lv_at hl 1 rfl) ?_
        refine zg_X8_28 X Z 0 rfl rfl dX8_fault_78 ?_
        refine lv_aload_n hx hb dX8_fault_81 rfl (lv_at hl 1 rfl) ?_
        refine zg_X8_107 X Z 0 rfl rfl dX8_fault_82 ?_
        obtain ⟨i14, hf⟩ := in_s hf
        refine z_ld (j := a_readMany.toNatClampNeg) X Z 7 rfl i14 rfl dX8_fault_85 ?_
        refine lv_if_le (tgt := 105) hx hb dX8_fault_86 (by decide) (fun c15 => ?_) (fun c15 => ?_)
        · have hf := it_t c15 hf
          refine lv_iconst (v := 0) hx hb dX8_fault_105 (by decide) ?_
          refine lv_istore_n (lv' := [(2, .int (0 : Int32)), (1, .int (x1 + (1 : Int32))), (0, .ref (a 0))]) hx hb dX8_fault_106 rfl hl (by decide) rfl (fun ls hl => ?_)
          refine lv_aload_n hx hb dX8_fault_107 rfl (lv_at hl 2 rfl) ?_
          refine zg_X8_31 X Z 0 rfl rfl dX8_fault_108 ?_
          refine lv_aload_n hx hb dX8_fault_111 rfl (lv_at hl 2 rfl) ?_
          refine zg_X8_107 X Z 0 rfl rfl dX8_fault_112 ?_
          refine lv_iload_n hx hb dX8_fault_115 rfl (lv_at hl 0 rfl) ?_
          refine lv_if_eq (tgt := 123) hx hb dX8_fault_116 (by decide) (fun _ => ?_) (fun c16 => absurd (by decide) c16)
          refine lv_iconst (v := 0) hx hb dX8_fault_123 (by decide) ?_
          obtain ⟨i17, hf⟩ := in_s hf
          refine z_st (j := a_readMany.toNatClampNeg) X Z 8 rfl i17 rfl [w_X8 cI cR a a_all a_kept a_history a_historyLong a_slots a_isSaved a_pad a_padLong (upd a_readHeight a_readMany.toNatClampNeg ((a_pad x1.toNatClampNeg) - (48 : Int32))) (upd a_readPass a_readMany.toNatClampNeg (0 : Int32)) a_readMany a_heights a_many a_takes] rfl dX8_fault_124 (fun H locs Z => ?_)
          refine lv_iload_n hx hb dX8_fault_125 rfl (lv_at hl 1 rfl) ?_
          refine lv_iload_n hx hb dX8_fault_126 rfl (lv_at hl 0 rfl) ?_
          refine lv_if_eq (tgt := 134) hx hb dX8_fault_127 (by decide) (fun _ => ?_) (fun c18 => absurd (by decide) c18)
          refine lv_iconst (v := 0) hx hb dX8_fault_134 (by decide) ?_
          refine lv_iadd hx hb dX8_fault_135 ?_
          refine lv_istore_n (lv' := [(1, .int ((x1 + (1 : Int32)) + (0 : Int32))), (2, .int (0 : Int32)), (0, .ref (a 0))]) hx hb dX8_fault_136 rfl hl (by decide) rfl (fun ls hl => ?_)
          refine lv_aload_n hx hb dX8_fault_137 rfl (lv_at hl 2 rfl) ?_
          refine lv_dup hx hb dX8_fault_138 rfl ?_
          refine zg_X8_107 X Z 0 rfl rfl dX8_fault_139 ?_
          refine lv_iconst (v := 1) hx hb dX8_fault_142 (by decide) ?_
          refine lv_iadd hx hb dX8_fault_143 ?_
          refine zp_X8_107 X Z 0 rfl (Nat.le_of_ble_eq_true rfl) [w_X8 cI cR a a_all a_kept a_history a_historyLong a_slots a_isSaved a_pad a_padLong (upd a_readHeight a_readMany.toNatClampNeg ((a_pad x1.toNatClampNeg) - (48 : Int32))) (upd a_readPass a_readMany.toNatClampNeg (0 : Int32)) (a_readMany + (1 : Int32)) a_heights a_many a_takes] rfl dX8_fault_144 (fun H locs Z => ?_)
          refine lv_goto (tgt := 35) hx hb dX8_fault_147 (by decide) ?_
          exact ih hf Z (lv_sub hl [2, 0] rfl)
        · have hf := it_f c15 hf
          refine lv_aload_n hx hb dX8_fault_89 rfl (lv_at hl 1 rfl) ?_
          refine lv_iload_n hx hb dX8_fault_90 rfl (lv_at hl 0 rfl) ?_
          refine lv_bipush (v := 112) hx hb dX8_fault_91 (by decide) ?_
          refine lv_bipush (v := 112) hx hb dX8_fault_93 (by decide) ?_
          obtain ⟨q19, hq19, hf⟩ := ob_s hf
          refine z_roV X Z (c_X8_isAt l D cI cR a a_all a_kept a_history a_historyLong a_slots a_isSaved a_pad a_padLong (upd a_readHeight a_readMany.toNatClampNeg ((a_pad x1.toNatClampNeg) - (48 : Int32))) a_readPass a_readMany a_heights a_many a_takes (x1 + (1 : Int32)) (112 : Int32) (112 : Int32) hq19) (zw_X8_103 X.1.2.2.2.2 ⟨Nat.le_of_ble_eq_true rfl, Nat.le_of_ble_eq_true rfl⟩) 0 8 rfl rfl rfl [0] [] (by decide : ([0] ++ [] : List Nat).Perm (List.range 1)) rfl rfl hl.1 rfl (Nat.le_of_ble_eq_true rfl) dX8_fault_95 ⟨Nat.le_of_ble_eq_true rfl, Nat.le_of_ble_eq_true rfl⟩ (fun H locs Z => ?_)
          refine lv_if_eq (tgt := 105) hx hb dX8_fault_98 (by decide) (fun c20 => ?_) (fun c20 => ?_)
          · have hf := it_t c20 hf
            refine lv_iconst (v := 0) hx hb dX8_fault_105 (by decide) ?_
            refine lv_istore_n (lv' := [(2, .int (0 : Int32)), (1, .int (x1 + (1 : Int32))), (0, .ref (a 0))]) hx hb dX8_fault_106 rfl hl (by decide) rfl (fun ls hl => ?_)
            refine lv_aload_n hx hb dX8_fault_107 rfl (lv_at hl 2 rfl) ?_
            refine zg_X8_31 X Z 0 rfl rfl dX8_fault_108 ?_
            refine lv_aload_n hx hb dX8_fault_111 rfl (lv_at hl 2 rfl) ?_
            refine zg_X8_107 X Z 0 rfl rfl dX8_fault_112 ?_
            refine lv_iload_n hx hb dX8_fault_115 rfl (lv_at hl 0 rfl) ?_
            refine lv_if_eq (tgt := 123) hx hb dX8_fault_116 (by decide) (fun _ => ?_) (fun c21 => absurd (by decide) c21)
            refine lv_iconst (v := 0) hx hb dX8_fault_123 (by decide) ?_
            obtain ⟨i22, hf⟩ := in_s hf
            refine z_st (j := a_readMany.toNatClampNeg) X Z 8 rfl i22 rfl [w_X8 cI cR a a_all a_kept a_history a_historyLong a_slots a_isSaved a_pad a_padLong (upd a_readHeight a_readMany.toNatClampNeg ((a_pad x1.toNatClampNeg) - (48 : Int32))) (upd a_readPass a_readMany.toNatClampNeg (0 : Int32)) a_readMany a_heights a_many a_takes] rfl dX8_fault_124 (fun H locs Z => ?_)
            refine lv_iload_n hx hb dX8_fault_125 rfl (lv_at hl 1 rfl) ?_
            refine lv_iload_n hx hb dX8_fault_126 rfl (lv_at hl 0 rfl) ?_
            refine lv_if_eq (tgt := 134) hx hb dX8_fault_127 (by decide) (fun _ => ?_) (fun c23 => absurd (by decide) c23)
            refine lv_iconst (v := 0) hx hb dX8_fault_134 (by decide) ?_
            refine lv_iadd hx hb dX8_fault_135 ?_
            refine lv_istore_n (lv' := [(1, .int ((x1 + (1 : Int32)) + (0 : Int32))), (2, .int (0 : Int32)), (0, .ref (a 0))]) hx hb dX8_fault_136 rfl hl (by decide) rfl (fun ls hl => ?_)
            refine lv_aload_n hx hb dX8_fault_137 rfl (lv_at hl 2 rfl) ?_
            refine lv_dup hx hb dX8_fault_138 rfl ?_
            refine zg_X8_107 X Z 0 rfl rfl dX8_fault_139 ?_
            refine lv_iconst (v := 1) hx hb dX8_fault_142 (by decide) ?_
            refine lv_iadd hx hb dX8_fault_143 ?_
            refine zp_X8_107 X Z 0 rfl (Nat.le_of_ble_eq_true rfl) [w_X8 cI cR a a_all a_kept a_history a_historyLong a_slots a_isSaved a_pad a_padLong (upd a_readHeight a_readMany.toNatClampNeg ((a_pad x1.toNatClampNeg) - (48 : Int32))) (upd a_readPass a_readMany.toNatClampNeg (0 : Int32)) (a_readMany + (1 : Int32)) a_heights a_many a_takes] rfl dX8_fault_144 (fun H locs Z => ?_)
            refine lv_goto (tgt := 35) hx hb dX8_fault_147 (by decide) ?_
            exact ih hf Z (lv_sub hl [2, 0] rfl)
          · have hf := it_f c20 hf
            refine lv_iconst (v := 1) hx hb dX8_fault_101 (by decide) ?_
            refine lv_goto (tgt := 106) hx hb dX8_fault_102 (by decide) ?_
            refine lv_istore_n (lv' := [(2, .int (1 : Int32)), (1, .int (x1 + (1 : Int32))), (0, .ref (a 0))]) hx hb dX8_fault_106 rfl hl (by decide) rfl (fun ls hl => ?_)
            refine lv_aload_n hx hb dX8_fault_107 rfl (lv_at hl 2 rfl) ?_
            refine zg_X8_31 X Z 0 rfl rfl dX8_fault_108 ?_
            refine lv_aload_n hx hb dX8_fault_111 rfl (lv_at hl 2 rfl) ?_
            refine zg_X8_107 X Z 0 rfl rfl dX8_fault_112 ?_
            refine lv_iload_n hx hb dX8_fault_115 rfl (lv_at hl 0 rfl) ?_
            refine lv_if_eq (tgt := 123) hx hb dX8_fault_116 (by decide) (fun c24 => absurd c24 (by decide)) (fun _ => ?_)
            refine lv_iconst (v := 1) hx hb dX8_fault_119 (by decide) ?_
            refine lv_goto (tgt := 124) hx hb dX8_fault_120 (by decide) ?_
            obtain ⟨i25, hf⟩ := in_s hf
            refine z_st (j := a_readMany.toNatClampNeg) X Z 8 rfl i25 rfl [w_X8 cI cR a a_all a_kept a_history a_historyLong a_slots a_isSaved a_pad a_padLong (upd a_readHeight a_readMany.toNatClampNeg ((a_pad x1.toNatClampNeg) - (48 : Int32))) (upd a_readPass a_readMany.toNatClampNeg (1 : Int32)) a_readMany a_heights a_many a_takes] rfl dX8_fault_124 (fun H locs Z => ?_)
            refine lv_iload_n hx hb dX8_fault_125 rfl (lv_at hl 1 rfl) ?_
            refine lv_iload_n hx hb dX8_fault_126 rfl (lv_at hl 0 rfl) ?_
            refine lv_if_eq (tgt := 134) hx hb dX8_fault_127 (by decide) (fun c26 => absurd c26 (by decide)) (fun _ => ?_)
            refine lv_iconst (v := 1) hx hb dX8_fault_130 (by decide) ?_
            refine lv_goto (tgt := 135) hx hb dX8_fault_131 (by decide) ?_
            refine lv_iadd hx hb dX8_fault_135 ?_
            refine lv_istore_n (lv' := [(1, .int ((x1 + (1 : Int32)) + (1 : Int32))), (2, .int (1 : Int32)), (0, .ref (a 0))]) hx hb dX8_fault_136 rfl hl (by decide) rfl (fun ls hl => ?_)
            refine lv_aload_n hx hb dX8_fault_137 rfl (lv_at hl 2 rfl) ?_
            refine lv_dup hx hb dX8_fault_138 rfl ?_
            refine zg_X8_107 X Z 0 rfl rfl dX8_fault_139 ?_
            refine lv_iconst (v := 1) hx hb dX8_fault_142 (by decide) ?_
            refine lv_iadd hx hb dX8_fault_143 ?_
            refine zp_X8_107 X Z 0 rfl (Nat.le_of_ble_eq_true rfl) [w_X8 cI cR a a_all a_kept a_history a_historyLong a_slots a_isSaved a_pad a_padLong (upd a_readHeight a_readMany.toNatClampNeg ((a_pad x1.toNatClampNeg) - (48 : Int32))) (upd a_readPass a_readMany.toNatClampNeg (1 : Int32)) (a_readMany + (1 : Int32)) a_heights a_many a_takes] rfl dX8_fault_144 (fun H locs Z => ?_)
            refine lv_goto (tgt := 35) hx hb dX8_fault_147 (by decide) ?_
            exact ih hf Z (lv_sub hl [2, 0] rfl)

def f_X8_fault (a_pad : (Nat → Int32)) (a_padLong : Int32) (a_readHeight : (Nat → Int32)) (a_readPass : (Nat → Int32)) (a_readMany : Int32) : Option (Int32 × (Nat → Int32) × (Nat → Int32) × Int32) := (f_X8_isAt a_pad a_padLong (0 : Int32) (48 : Int32) (49 : Int32)).bind (fun q1 => if q1 = 0 then (some ((0 : Int32), a_readHeight, a_readPass, a_readMany)) else ((f_X8_isAt a_pad a_padLong (1 : Int32) (58 : Int32) (58 : Int32)).bind (fun q3 => if q3 = 0 then (some ((1 : Int32), a_readHeight, a_readPass, a_readMany)) else (f_X8_fault_L35 a_pad a_padLong zF (2 : Int32) a_readHeight a_readPass (0 : Int32)))))
set_option maxHeartbeats 4000000 in
set_option maxRecDepth 100000 in
theorem c_X8_fault (l : Launch) (D : va_G) (cI cR : ClassId) (a : (Nat → Nat)) (a_all : (Nat → Int32)) (a_kept : (Nat → Int32)) (a_history : (Nat → Int32)) (a_historyLong : Int32) (a_slots : (Nat → Int32)) (a_isSaved : (Nat → Int32)) (a_pad : (Nat → Int32)) (a_padLong : Int32) (a_readHeight : (Nat → Int32)) (a_readPass : (Nat → Int32)) (a_readMany : Int32) (a_heights : (Nat → Int32)) (a_many : Int32) (a_takes : (Nat → Int32)) {R : Int32 × (Nat → Int32) × (Nat → Int32) × Int32} (hf : f_X8_fault a_pad a_padLong a_readHeight a_readPass a_readMany = some R) : zM l D cI cR yX8_fault cX8_fault 3 (some .int) 2 48 [.ref (a 0)] [w_X8 cI cR a a_all a_kept a_history a_historyLong a_slots a_isSaved a_pad a_padLong a_readHeight a_readPass a_readMany a_heights a_many a_takes] (some (.int R.1)) [w_X8 cI cR a a_all a_kept a_history a_historyLong a_slots a_isSaved a_pad a_padLong R.2.1 R.2.2.1 R.2.2.2 a_heights a_many a_takes] := by
  refine z_of (own := RX8) rfl (by decide) (Nat.le_of_ble_eq_true rfl) ?_
  intro p e s m args below meth c A ls X hr hlocks Z hl
  have hx := X.1.1
  have hb := X.1.2.1
  have Z : zW D A s [w_X8 cI cR a a_all a_kept a_history a_historyLong a_slots a_isSaved a_pad a_padLong a_readHeight a_readPass a_readMany a_heights a_many a_takes] s.heap [] := Z
  have hl : lv_has ls 3 [(0, .ref (a 0))] := hl
  refine lv_aload_n hx hb dX8_fault_0 rfl (lv_at hl 0 rfl) ?_
  refine lv_iconst (v := 0) hx hb dX8_fault_1 (by decide) ?_
  refine lv_bipush (v := 48) hx hb dX8_fault_2 (by decide) ?_
  refine lv_bipush (v := 49) hx hb dX8_fault_4 (by decide) ?_
  obtain ⟨q1, hq1, hf⟩ := ob_s hf
  refine z_roV X Z (c_X8_isAt l D cI cR a a_all a_kept a_history a_historyLong a_slots a_isSaved a_pad a_padLong a_readHeight a_readPass a_readMany a_heights a_many a_takes (0 : Int32) (48 : Int32) (49 : Int32) hq1) (zw_X8_103 X.1.2.2.2.2 ⟨Nat.le_of_ble_eq_true rfl, Nat.le_of_ble_eq_true rfl⟩) 0 8 rfl rfl rfl [0] [] (by decide : ([0] ++ [] : List Nat).Perm (List.range 1)) rfl rfl hl.1 rfl (Nat.le_of_ble_eq_true rfl) dX8_fault_6 ⟨Nat.le_of_ble_eq_true rfl, Nat.le_of_ble_eq_true rfl⟩ (fun H locs Z => ?_)
  refine lv_if_ne (tgt := 14) hx hb dX8_fault_9 (by decide) (fun c2 => ?_) (fun c2 => ?_)
  · have hf := it_f c2 hf
    refine lv_aload_n hx hb dX8_fault_14 rfl (lv_at hl 0 rfl) ?_
    refine lv_iconst (v := 1) hx hb dX8_fault_15 (by decide) ?_
    refine lv_bipush (v := 58) hx hb dX8_fault_16 (by decide) ?_
    refine lv_bipush (v := 58) hx hb dX8_fault_18 (by decide) ?_
    obtain ⟨q3, hq3, hf⟩ := ob_s hf
    refine z_roV X Z (c_X8_isAt l D cI cR a a_all a_kept a_history a_historyLong a_slots a_isSaved a_pad a_padLong a_readHeight a_readPass a_readMany a_heights a_many a_takes (1 : Int32) (58 : Int32) (58 : Int32) hq3) (zw_X8_103 X.1.2.2.2.2 ⟨Nat.le_of_ble_eq_true rfl, Nat.le_of_ble_eq_true rfl⟩) 0 8 rfl rfl rfl [0] [] (by decide : ([0] ++ [] : List Nat).Perm (List.range 1)) rfl rfl hl.1 rfl (Nat.le_of_ble_eq_true rfl) dX8_fault_20 ⟨Nat.le_of_ble_eq_true rfl, Nat.le_of_ble_eq_true rfl⟩ (fun H locs Z => ?_)
    refine lv_if_ne (tgt := 28) hx hb dX8_fault_23 (by decide) (fun c4 => ?_) (fun c4 => ?_)
    · have hf := it_f c4 hf
      refine lv_iconst (v := 2) hx hb dX8_fault_28 (by decide) ?_
      refine lv_istore_n (lv' := [(1, .int (2 : Int32)), (0, .ref (a 0))]) hx hb dX8_fault_29 rfl hl (by decide) rfl (fun ls hl => ?_)
      refine lv_aload_n hx hb dX8_fault_30 rfl (lv_at hl 1 rfl) ?_
      refine lv_iconst (v := 0) hx hb dX8_fault_31 (by decide) ?_
      refine zp_X8_107 X Z 0 rfl (Nat.le_of_ble_eq_true rfl) [w_X8 cI cR a a_all a_kept a_history a_historyLong a_slots a_isSaved a_pad a_padLong a_readHeight a_readPass (0 : Int32) a_heights a_many a_takes] rfl dX8_fault_32 (fun H locs Z => ?_)
      exact w_X8_fault_L35 X hr hlocks _ hf Z (lv_sub hl [1, 0] rfl)
    · have hf := it_t c4 hf
      refine lv_iconst (v := 1) hx hb dX8_fault_26 (by decide) ?_
      have hR := so_s hf
      subst hR
      refine z_iret X hr hlocks ?_ dX8_fault_27
      exact Z.eq rfl
  · have hf := it_t c2 hf
    refine lv_iconst (v := 0) hx hb dX8_fault_12 (by decide) ?_
    have hR := so_s hf
    subst hR
    refine z_iret X hr hlocks ?_ dX8_fault_13
    exact Z.eq rfl
def f_X8_read_L28 (a_kept : (Nat → Int32)) (a_history : (Nat → Int32)) (a_historyLong : Int32) (a_pad : (Nat → Int32)) (a_padLong : Int32) (a_readHeight : (Nat → Int32)) (a_readPass : (Nat → Int32)) (a_readMany : Int32) (x1 : Int32) : Nat → Int32 → (Nat → Int32) → Option (Int32 × (Nat → Int32) × (Nat → Int32) × (Nat → Int32) × Int32 × Int32 × (Nat → Int32) × (Nat → Int32) × Int32)
  | 0, _, _ => none
  | n + 1, x2, a_all => if a_readMany ≤ x2 then (if ((4 : Int32) + x1) < 0 ∨ 46 ≤ ((4 : Int32) + x1).toNatClampNeg then none else (if ((2 : Int32) + x1) < 0 ∨ 46 ≤ ((2 : Int32) + x1).toNatClampNeg then none else ((f_X8_changed a_kept a_history a_historyLong x1).bind (fun q7 => some (q7.1, upd (upd a_all (((4 : Int32) + x1).toNatClampNeg) a_readMany) (((2 : Int32) + x1).toNatClampNeg) (0 : Int32), a_kept, q7.2.1, q7.2.2, (0 : Int32), a_readHeight, a_readPass, a_readMany))))) else (if x2 < 0 ∨ 8 ≤ x2.toNatClampNeg then none else (if (((6 : Int32) + ((8 : Int32) * x1)) + x2) < 0 ∨ 46 ≤ (((6 : Int32) + ((8 : Int32) * x1)) + x2).toNatClampNeg then none else (if x2 < 0 ∨ 8 ≤ x2.toNatClampNeg then none else (if (((22 : Int32) + ((8 : Int32) * x1)) + x2) < 0 ∨ 46 ≤ (((22 : Int32) + ((8 : Int32) * x1)) + x2).toNatClampNeg then none else (f_X8_read_L28 a_kept a_history a_historyLong a_pad a_padLong a_readHeight a_readPass a_readMany x1 n (x2 + (1 : Int32)) (upd (upd a_all ((((6 : Int32) + ((8 : Int32) * x1)) + x2).toNatClampNeg) (a_readHeight x2.toNatClampNeg)) ((((22 : Int32) + ((8 : Int32) * x1)) + x2).toNatClampNeg) (a_readPass x2.toNatClampNeg)))))))
set_option maxHeartbeats 4000000 in
set_option maxRecDepth 100000 in
theorem w_X8_read_L28 {p : Program} {l : Launch} {e : Env} {s : State} {m : MethodId} {args : Array Value} {below : List Frame} {meth : Method} {c : Code} {D : va_G} {cI cR : ClassId} {A : Nat → Prop} {a : (Nat → Nat)} {a_kept : (Nat → Int32)} {a_history : (Nat → Int32)} {a_historyLong : Int32} {a_slots : (Nat → Int32)} {a_isSaved : (Nat → Int32)} {a_pad : (Nat → Int32)} {a_padLong : Int32} {a_readHeight : (Nat → Int32)} {a_readPass : (Nat → Int32)} {a_readMany : Int32} {a_heights : (Nat → Int32)} {a_many : Int32} {a_takes : (Nat → Int32)} {x1 : Int32} {R : Int32 × (Nat → Int32) × (Nat → Int32) × (Nat → Int32) × Int32 × Int32 × (Nat → Int32) × (Nat → Int32) × Int32} (X : zX p s m c cX8_read 3 args RX8 D cI cR A) (hr : meth.sig.returnType = (some .int)) (hlocks : meth.locks = false) : ∀ (n : Nat)  {x2 : Int32} {a_all : (Nat → Int32)} {H : Heap} {locs : List Loc} {ls : Array Slot}, f_X8_read_L28 a_kept a_history a_historyLong a_pad a_padLong a_readHeight a_readPass a_readMany x1 n x2 a_all = some R → zW D A s [w_X8 cI cR a a_all a_kept a_history a_historyLong a_slots a_isSaved a_pad a_padLong a_readHeight a_readPass a_readMany a_heights a_many a_takes] H locs → lv_has ls 3 [(0, .ref (a 0)), (1, .int x1), (2, .int x2)] → W p l e ({ frames := 3, cells := 0, slots := 0, locals := 70 } : Room) s m args below meth c H locs 0 0 (zE D A below s args (some (.int R.1)) [w_X8 cI cR a R.2.1 R.2.2.1 R.2.2.2.1 R.2.2.2.2.1 a_slots a_isSaved a_pad R.2.2.2.2.2.1 R.2.2.2.2.2.2.1 R.2.2.2.2.2.2.2.1 R.2.2.2.2.2.2.2.2 a_heights a_many a_takes]) (F0 m 28 ls []) := by
  have hx := X.1.1
  have hb := X.1.2.1
  intro n
  induction n with
  | zero =>
    intro x2 a_all H locs ls hf
    have hf : none = some R := hf
    cases hf
  | succ n ih =>
    intro x2 a_all H locs ls hf Z hl
    refine lv_iload_n hx hb dX8_read_28 rfl (lv_at hl 2 rfl) ?_
    refine lv_aload_n hx hb dX8_read_29 rfl (lv_at hl 0 rfl) ?_
    refine zg_X8_107 X Z 0 rfl rfl dX8_read_30 ?_
    refine lv_icmp_ge (tgt := 82) hx hb dX8_read_33 (by decide) (fun c4 => ?_) (fun c4 => ?_)
    · have hf := it_t c4 hf
      refine lv_aload_n hx hb dX8_read_82 rfl (lv_at hl 0 rfl) ?_
      refine zg_X8_7 X Z 0 rfl rfl dX8_read_83 ?_
      refine lv_iconst (v := 4) hx hb dX8_read_86 (by decide) ?_
      refine lv_iload_n hx hb dX8_read_87 rfl (lv_at hl 1 rfl) ?_
      refine lv_iadd hx hb dX8_read_88 ?_
      refine lv_aload_n hx hb dX8_read_89 rfl (lv_at hl 0 rfl) ?_
      refine zg_X8_107 X Z 0 rfl rfl dX8_read_90 ?_
      obtain ⟨i5, hf⟩ := in_s hf
      refine z_st (j := ((4 : Int32) + x1).toNatClampNeg) X Z 1 rfl i5 rfl [w_X8 cI cR a (upd a_all (((4 : Int32) + x1).toNatClampNeg) a_readMany) a_kept a_history a_historyLong a_slots a_isSaved a_pad a_padLong a_readHeight a_readPass a_readMany a_heights a_many a_takes] rfl dX8_read_93 (fun H locs Z => ?_)
      refine lv_aload_n hx hb dX8_read_94 rfl (lv_at hl 0 rfl) ?_
      refine zg_X8_7 X Z 0 rfl rfl dX8_read_95 ?_
      refine lv_iconst (v := 2) hx hb dX8_read_98 (by decide) ?_
      refine lv_iload_n hx hb dX8_read_99 rfl (lv_at hl 1 rfl) ?_
      refine lv_iadd hx hb dX8_read_100 ?_
      refine lv_iconst (v := 0) hx hb dX8_read_101 (by decide) ?_
      obtain ⟨i6, hf⟩ := in_s hf
      refine z_st (j := ((2 : Int32) + x1).toNatClampNeg) X Z 1 rfl i6 rfl [w_X8 cI cR a (upd (upd a_all (((4 : Int32) + x1).toNatClampNeg) a_readMany) (((2 : Int32) + x1).toNatClampNeg) (0 : Int32)) a_kept a_history a_historyLong a_slots a_isSaved a_pad a_padLong a_readHeight a_readPass a_readMany a_heights a_many a_takes] rfl dX8_read_102 (fun H locs Z => ?_)
      refine lv_aload_n hx hb dX8_read_103 rfl (lv_at hl 0 rfl) ?_
      refine lv_iconst (v := 0) hx hb dX8_read_104 (by decide) ?_
      refine zp_X8_87 X Z 0 rfl (Nat.le_of_ble_eq_true rfl) [w_X8 cI cR a (upd (upd a_all (((4 : Int32) + x1).toNatClampNeg) a_readMany) (((2 : Int32) + x1).toNatClampNeg) (0 : Int32)) a_kept a_history a_historyLong a_slots a_isSaved a_pad (0 : Int32) a_readHeight a_readPass a_readMany a_heights a_many a_takes] rfl dX8_read_105 (fun H locs Z => ?_)
      refine lv_aload_n hx hb dX8_read_108 rfl (lv_at hl 0 rfl) ?_
      refine lv_iload_n hx hb dX8_read_109 rfl (lv_at hl 1 rfl) ?_
      obtain ⟨q7, hq7, hf⟩ := ob_s hf
      refine z_callV X Z (c_X8_changed l D cI cR a (upd (upd a_all (((4 : Int32) + x1).toNatClampNeg) a_readMany) (((2 : Int32) + x1).toNatClampNeg) (0 : Int32)) a_kept a_history a_historyLong a_slots a_isSaved a_pad (0 : Int32) a_readHeight a_readPass a_readMany a_heights a_many a_takes x1 hq7) (zw_X8_67 X.1.2.2.2.2 ⟨Nat.le_of_ble_eq_true rfl, Nat.le_of_ble_eq_true rfl⟩) 0 8 rfl rfl rfl [0] [] [w_X8 cI cR a (upd (upd a_all (((4 : Int32) + x1).toNatClampNeg) a_readMany) (((2 : Int32) + x1).toNatClampNeg) (0 : Int32)) a_kept q7.2.1 q7.2.2 a_slots a_isSaved a_pad (0 : Int32) a_readHeight a_readPass a_readMany a_heights a_many a_takes] (by decide : ([0] ++ [] : List Nat).Perm (List.range 1)) rfl rfl rfl rfl rfl hl.1 rfl (Nat.le_of_ble_eq_true rfl) dX8_read_110 ⟨Nat.le_of_ble_eq_true rfl, Nat.le_of_ble_eq_true rfl⟩ (fun H locs Z => ?_)
      have hR := so_s hf
      subst hR
      refine z_iret X hr hlocks ?_ dX8_read_113
      exact Z.eq rfl
    · have hf := it_f c4 hf
      refine lv_aload_n hx hb dX8_read_36 rfl (lv_at hl 0 rfl) ?_
      refine zg_X8_7 X Z 0 rfl rfl dX8_read_37 ?_
      refine lv_bipush (v := 6) hx hb dX8_read_40 (by decide) ?_
      refine lv_bipush (v := 8) hx hb dX8_read_42 (by decide) ?_
      refine lv_iload_n hx hb dX8_read_44 rfl (lv_at hl 1 rfl) ?_
      refine lv_imul hx hb dX8_read_45 ?_
      refine lv_iadd hx hb dX8_read_46 ?_
      refine lv_iload_n hx hb dX8_read_47 rfl (lv_at hl 2 rfl) ?_
      refine lv_iadd hx hb dX8_read_48 ?_
      refine lv_aload_n hx hb dX8_read_49 rfl (lv_at hl 0 rfl) ?_
      refine zg_X8_28 X Z 0 rfl rfl dX8_read_50 ?_
      refine lv_iload_n hx hb dX8_read_53 rfl (lv_at hl 2 rfl) ?_
      obtain ⟨i8, hf⟩ := in_s hf
      refine z_ld (j := x2.toNatClampNeg) X Z 7 rfl i8 rfl dX8_read_54 ?_
      obtain ⟨i9, hf⟩ := in_s hf
      refine z_st (j := (((6 : Int32) + ((8 : Int32) * x1)) + x2).toNatClampNeg) X Z 1 rfl i9 rfl [w_X8 cI cR a (upd a_all ((((6 : Int32) + ((8 : Int32) * x1)) + x2).toNatClampNeg) (a_readHeight x2.toNatClampNeg)) a_kept a_history a_historyLong a_slots a_isSaved a_pad a_padLong a_readHeight a_readPass a_readMany a_heights a_many a_takes] rfl dX8_read_55 (fun H locs Z => ?_)
      refine lv_aload_n hx hb dX8_read_56 rfl (lv_at hl 0 rfl) ?_
      refine zg_X8_7 X Z 0 rfl rfl dX8_read_57 ?_
      refine lv_bipush (v := 22) hx hb dX8_read_60 (by decide) ?_
      refine lv_bipush (v := 8) hx hb dX8_read_62 (by decide) ?_
      refine lv_iload_n hx hb dX8_read_64 rfl (lv_at hl 1 rfl) ?_
      refine lv_imul hx hb dX8_read_65 ?_
      refine lv_iadd hx hb dX8_read_66 ?_
      refine lv_iload_n hx hb dX8_read_67 rfl (lv_at hl 2 rfl) ?_
      refine lv_iadd hx hb dX8_read_68 ?_
      refine lv_aload_n hx hb dX8_read_69 rfl (lv_at hl 0 rfl) ?_
      refine zg_X8_31 X Z 0 rfl rfl dX8_read_70 ?_
      refine lv_iload_n hx hb dX8_read_73 rfl (lv_at hl 2 rfl) ?_
      obtain ⟨i10, hf⟩ := in_s hf
      refine z_ld (j := x2.toNatClampNeg) X Z 8 rfl i10 rfl dX8_read_74 ?_
      obtain ⟨i11, hf⟩ := in_s hf
      refine z_st (j := (((22 : Int32) + ((8 : Int32) * x1)) + x2).toNatClampNeg) X Z 1 rfl i11 rfl [w_X8 cI cR a (upd (upd a_all ((((6 : Int32) + ((8 : Int32) * x1)) + x2).toNatClampNeg) (a_readHeight x2.toNatClampNeg)) ((((22 : Int32) + ((8 : Int32) * x1)) + x2).toNatClampNeg) (a_readPass x2.toNatClampNeg)) a_kept a_history a_historyLong a_slots a_isSaved a_pad a_padLong a_readHeight a_readPass a_readMany a_heights a_many a_takes] rfl dX8_read_75 (fun H locs Z => ?_)
      refine lv_iinc (v := x2 + (1 : Int32)) (lv' := [(2, .int (x2 + (1 : Int32))), (0, .ref (a 0)), (1, .int x1)]) hx hb dX8_read_76 hl (k := 2) rfl rfl (by decide) rfl (fun ls hl => ?_)
      refine lv_goto (tgt := 28) hx hb dX8_read_79 (by decide) ?_
      exact ih hf Z (lv_sub hl [1, 2, 0] rfl)

def f_X8_read (a_all : (Nat → Int32)) (a_kept : (Nat → Int32)) (a_history : (Nat → Int32)) (a_historyLong : Int32) (a_pad : (Nat → Int32)) (a_padLong : Int32) (a_readHeight : (Nat → Int32)) (a_readPass : (Nat → Int32)) (a_readMany : Int32) : Option (Int32 × (Nat → Int32) × (Nat → Int32) × (Nat → Int32) × Int32 × Int32 × (Nat → Int32) × (Nat → Int32) × Int32) := (f_X8_fault a_pad a_padLong a_readHeight a_readPass a_readMany).bind (fun q1 => if q1.1 = (-6 : Int32) then ((f_X8_keep a_all a_kept).bind (fun q3 => f_X8_read_L28 q3 a_history a_historyLong a_pad a_padLong q1.2.1 q1.2.2.1 q1.2.2.2 ((a_pad 0) - (48 : Int32)) zF (0 : Int32) a_all)) else (some ((-3 : Int32), a_all, a_kept, a_history, a_historyLong, a_padLong, q1.2.1, q1.2.2.1, q1.2.2.2)))
set_option maxHeartbeats 4000000 in
set_option maxRecDepth 100000 in
theorem c_X8_read (l : Launch) (D : va_G) (cI cR : ClassId) (a : (Nat → Nat)) (a_all : (Nat → Int32)) (a_kept : (Nat → Int32)) (a_history : (Nat → Int32)) (a_historyLong : Int32) (a_slots : (Nat → Int32)) (a_isSaved : (Nat → Int32)) (a_pad : (Nat → Int32)) (a_padLong : Int32) (a_readHeight : (Nat → Int32)) (a_readPass : (Nat → Int32)) (a_readMany : Int32) (a_heights : (Nat → Int32)) (a_many : Int32) (a_takes : (Nat → Int32)) {R : Int32 × (Nat → Int32) × (Nat → Int32) × (Nat → Int32) × Int32 × Int32 × (Nat → Int32) × (Nat → Int32) × Int32} (hf : f_X8_read a_all a_kept a_history a_historyLong a_pad a_padLong a_readHeight a_readPass a_readMany = some R) : zM l D cI cR yX8_read cX8_read 3 (some .int) 3 70 [.ref (a 0)] [w_X8 cI cR a a_all a_kept a_history a_historyLong a_slots a_isSaved a_pad a_padLong a_readHeight a_readPass a_readMany a_heights a_many a_takes] (some (.int R.1)) [w_X8 cI cR a R.2.1 R.2.2.1 R.2.2.2.1 R.2.2.2.2.1 a_slots a_isSaved a_pad R.2.2.2.2.2.1 R.2.2.2.2.2.2.1 R.2.2.2.2.2.2.2.1 R.2.2.2.2.2.2.2.2 a_heights a_many a_takes] := by
  refine z_of (own := RX8) rfl (by decide) (Nat.le_of_ble_eq_true rfl) ?_
  intro p e s m args below meth c A ls X hr hlocks Z hl
  have hx := X.1.1
  have hb := X.1.2.1
  have Z : zW D A s [w_X8 cI cR a a_all a_kept a_history a_historyLong a_slots a_isSaved a_pad a_padLong a_readHeight a_readPass a_readMany a_heights a_many a_takes] s.heap [] := Z
  have hl : lv_has ls 3 [(0, .ref (a 0))] := hl
  refine lv_aload_n hx hb dX8_read_0 rfl (lv_at hl 0 rfl) ?_
  obtain ⟨q1, hq1, hf⟩ := ob_s hf
  refine z_callV X Z (c_X8_fault l D cI cR a a_all a_kept a_history a_historyLong a_slots a_isSaved a_pad a_padLong a_readHeight a_readPass a_readMany a_heights a_many a_takes  hq1) (zw_X8_110 X.1.2.2.2.2 ⟨Nat.le_of_ble_eq_true rfl, Nat.le_of_ble_eq_true rfl⟩) 0 8 rfl rfl rfl [0] [] [w_X8 cI cR a a_all a_kept a_history a_historyLong a_slots a_isSaved a_pad a_padLong q1.2.1 q1.2.2.1 q1.2.2.2 a_heights a_many a_takes] (by decide : ([0] ++ [] : List Nat).Perm (List.range 1)) rfl rfl rfl rfl rfl hl.1 rfl (Nat.le_of_ble_eq_true rfl) dX8_read_1 ⟨Nat.le_of_ble_eq_true rfl, Nat.le_of_ble_eq_true rfl⟩ (fun H locs Z => ?_)
  refine lv_bipush (v := -6) hx hb dX8_read_4 (by decide) ?_
  refine lv_icmp_eq (tgt := 12) hx hb dX8_read_6 (by decide) (fun c2 => ?_) (fun c2 => ?_)
  · have hf := it_t c2 hf
    refine lv_aload_n hx hb dX8_read_12 rfl (lv_at hl 0 rfl) ?_
    obtain ⟨q3, hq3, hf⟩ := ob_s hf
    refine z_callV X Z (c_X8_keep l D cI cR a a_all a_kept a_history a_historyLong a_slots a_isSaved a_pad a_padLong q1.2.1 q1.2.2.1 q1.2.2.2 a_heights a_many a_takes  hq3) (zw_X8_60 X.1.2.2.2.2 ⟨Nat.le_of_ble_eq_true rfl, Nat.le_of_ble_eq_true rfl⟩) 0 8 rfl rfl rfl [0] [] [w_X8 cI cR a a_all q3 a_history a_historyLong a_slots a_isSaved a_pad a_padLong q1.2.1 q1.2.2.1 q1.2.2.2 a_heights a_many a_takes] (by decide : ([0] ++ [] : List Nat).Perm (List.range 1)) rfl rfl rfl rfl rfl hl.1 rfl (Nat.le_of_ble_eq_true rfl) dX8_read_13 ⟨Nat.le_of_ble_eq_true rfl, Nat.le_of_ble_eq_true rfl⟩ (fun H locs Z => ?_)
    refine lv_aload_n hx hb dX8_read_16 rfl (lv_at hl 0 rfl) ?_
    refine zg_X8_25 X Z 0 rfl rfl dX8_read_17 ?_
    refine lv_iconst (v := 0) hx hb dX8_read_20 (by decide) ?_
    refine z_ld (j := 0) X Z 6 rfl (by decide) (by decide) dX8_read_21 ?_
    refine lv_bipush (v := 48) hx hb dX8_read_22 (by decide) ?_
    refine lv_isub hx hb dX8_read_24 ?_
    refine lv_istore_n (lv' := [(1, .int ((a_pad 0) - (48 : Int32))), (0, .ref (a 0))]) hx hb dX8_read_25 rfl hl (by decide) rfl (fun ls hl => ?_)
    refine lv_iconst (v := 0) hx hb dX8_read_26 (by decide) ?_
    refine lv_istore_n (lv' := [(2, .int (0 : Int32)), (1, .int ((a_pad 0) - (48 : Int32))), (0, .ref (a 0))]) hx hb dX8_read_27 rfl hl (by decide) rfl (fun ls hl => ?_)
    exact w_X8_read_L28 X hr hlocks _ hf Z (lv_sub hl [2, 1, 0] rfl)
  · have hf := it_f c2 hf
    refine lv_bipush (v := -3) hx hb dX8_read_9 (by decide) ?_
    have hR := so_s hf
    subst hR
    refine z_iret X hr hlocks ?_ dX8_read_11
    exact Z.eq rfl
