def f_X8_behind (p0 : Int32) (p1 : Int32) : Option (Int32) := if (p0 &&& (1 : Int32)) = 0 then (if p1 = 0 then (some (p0 >>> ((1 : Int32) &&& 31))) else (some (-1 : Int32))) else (if p1 ≤ 0 then (some (-1 : Int32)) else (if ((p0 >>> (p1 &&& 31)) &&& (1 : Int32)) = 0 then (some ((p0 ||| ((1 : Int32) <<< (p1 &&& 31))) >>> ((1 : Int32) &&& 31))) else (some (-1 : Int32))))
set_option maxHeartbeats 4000000 in
set_option maxRecDepth 100000 in
theorem c_X8_behind (l : Launch) (D : va_G) (cI cR : ClassId) (p0 : Int32) (p1 : Int32) {R : Int32} (hf : f_X8_behind p0 p1 = some R) : zM l D cI cR yX8_behind cX8_behind 2 (some .int) 0 0 [.int p0, .int p1] [] (some (.int R)) [] := by
  refine z_of (own := RX8) rfl (by decide) (Nat.le_of_ble_eq_true rfl) ?_
  intro p e s m args below meth c A ls X hr hlocks Z hl
  have hx := X.1.1
  have hb := X.1.2.1
  have Z : zW D A s [] s.heap [] := Z
  have hl : lv_has ls 2 [(0, .int p0), (1, .int p1)] := hl
  refine lv_iload_n hx hb dX8_behind_0 rfl (lv_at hl 0 rfl) ?_
  refine lv_iconst (v := 1) hx hb dX8_behind_1 (by decide) ?_
  refine lv_iand hx hb dX8_behind_2 ?_
  refine lv_if_ne (tgt := 18) hx hb dX8_behind_3 (by decide) (fun c1 => ?_) (fun c1 => ?_)
  · have hf := it_f c1 hf
    refine lv_iload_n hx hb dX8_behind_18 rfl (lv_at hl 1 rfl) ?_
    refine lv_if_le (tgt := 40) hx hb dX8_behind_19 (by decide) (fun c2 => ?_) (fun c2 => ?_)
    · have hf := it_t c2 hf
      refine lv_iconst (v := -1) hx hb dX8_behind_40 (by decide) ?_
      have hR := so_s hf
      subst hR
      refine z_iret X hr hlocks ?_ dX8_behind_41
      exact Z.eq rfl
    · have hf := it_f c2 hf
      refine lv_iload_n hx hb dX8_behind_22 rfl (lv_at hl 0 rfl) ?_
      refine lv_iload_n hx hb dX8_behind_23 rfl (lv_at hl 1 rfl) ?_
      refine lv_ishr hx hb dX8_behind_24 ?_
      refine lv_iconst (v := 1) hx hb dX8_behind_25 (by decide) ?_
      refine lv_iand hx hb dX8_behind_26 ?_
      refine lv_if_ne (tgt := 40) hx hb dX8_behind_27 (by decide) (fun c3 => ?_) (fun c3 => ?_)
      · have hf := it_f c3 hf
        refine lv_iconst (v := -1) hx hb dX8_behind_40 (by decide) ?_
        have hR := so_s hf
        subst hR
        refine z_iret X hr hlocks ?_ dX8_behind_41
        exact Z.eq rfl
      · have hf := it_t c3 hf
        refine lv_iload_n hx hb dX8_behind_30 rfl (lv_at hl 0 rfl) ?_
        refine lv_iconst (v := 1) hx hb dX8_behind_31 (by decide) ?_
        refine lv_iload_n hx hb dX8_behind_32 rfl (lv_at hl 1 rfl) ?_
        refine lv_ishl hx hb dX8_behind_33 ?_
        refine lv_ior hx hb dX8_behind_34 ?_
        refine lv_iconst (v := 1) hx hb dX8_behind_35 (by decide) ?_
        refine lv_ishr hx hb dX8_behind_36 ?_
        refine lv_goto (tgt := 41) hx hb dX8_behind_37 (by decide) ?_
        have hR := so_s hf
        subst hR
        refine z_iret X hr hlocks ?_ dX8_behind_41
        exact Z.eq rfl
  · have hf := it_t c1 hf
    refine lv_iload_n hx hb dX8_behind_6 rfl (lv_at hl 1 rfl) ?_
    refine lv_if_ne (tgt := 16) hx hb dX8_behind_7 (by decide) (fun c4 => ?_) (fun c4 => ?_)
    · have hf := it_f c4 hf
      refine lv_iconst (v := -1) hx hb dX8_behind_16 (by decide) ?_
      have hR := so_s hf
      subst hR
      refine z_iret X hr hlocks ?_ dX8_behind_17
      exact Z.eq rfl
    · have hf := it_t c4 hf
      refine lv_iload_n hx hb dX8_behind_10 rfl (lv_at hl 0 rfl) ?_
      refine lv_iconst (v := 1) hx hb dX8_behind_11 (by decide) ?_
      refine lv_ishr hx hb dX8_behind_12 ?_
      refine lv_goto (tgt := 17) hx hb dX8_behind_13 (by decide) ?_
      have hR := so_s hf
      subst hR
      refine z_iret X hr hlocks ?_ dX8_behind_17
      exact Z.eq rfl
def f_X8_findWays_L55 (x3 : Int32) (x4 : Int32) (k : Int32 → Int32 → (Nat → Int32) → Option ((Nat → Int32))) : Nat → Int32 → Int32 → (Nat → Int32) → Option ((Nat → Int32))
  | 0, _, _, _ => none
  | n + 1, x2, x5, a_takes => if (8 : Int32) ≤ x5 then (k x2 (x4 + (1 : Int32)) a_takes) else (if x4 < 0 ∨ 256 ≤ x4.toNatClampNeg then none else (if 0 ≤ (a_takes x4.toNatClampNeg) then (k x2 (x4 + (1 : Int32)) a_takes) else ((f_X8_behind x4 x5).bind (fun q7 => if q7 < 0 then (if x4 < 0 ∨ 256 ≤ x4.toNatClampNeg then none else (if x4 < 0 ∨ 256 ≤ x4.toNatClampNeg then none else (if x2 = 0 then (f_X8_findWays_L55 x3 x4 k n (0 : Int32) (x5 + (1 : Int32)) (upd a_takes x4.toNatClampNeg (a_takes x4.toNatClampNeg))) else (f_X8_findWays_L55 x3 x4 k n (1 : Int32) (x5 + (1 : Int32)) (upd a_takes x4.toNatClampNeg (a_takes x4.toNatClampNeg)))))) else (if q7 < 0 ∨ 256 ≤ q7.toNatClampNeg then none else (if (a_takes q7.toNatClampNeg) = x3 then (if x4 < 0 ∨ 256 ≤ x4.toNatClampNeg then none else (if x2 = 0 then (f_X8_findWays_L55 x3 x4 k n (1 : Int32) (x5 + (1 : Int32)) (upd a_takes x4.toNatClampNeg (x3 + (1 : Int32)))) else (f_X8_findWays_L55 x3 x4 k n (1 : Int32) (x5 + (1 : Int32)) (upd a_takes x4.toNatClampNeg (x3 + (1 : Int32)))))) else (if x4 < 0 ∨ 256 ≤ x4.toNatClampNeg then none else (if x4 < 0 ∨ 256 ≤ x4.toNatClampNeg then none else (if x2 = 0 then (f_X8_findWays_L55 x3 x4 k n (0 : Int32) (x5 + (1 : Int32)) (upd a_takes x4.toNatClampNeg (a_takes x4.toNatClampNeg))) else (f_X8_findWays_L55 x3 x4 k n (1 : Int32) (x5 + (1 : Int32)) (upd a_takes x4.toNatClampNeg (a_takes x4.toNatClampNeg))))))))))))
set_option maxHeartbeats 4000000 in
set_option maxRecDepth 100000 in
theorem w_X8_findWays_L55 {p : Program} {l : Launch} {e : Env} {s : State} {m : MethodId} {args : Array Value} {below : List Frame} {meth : Method} {c : Code} {D : va_G} {cI cR : ClassId} {A : Nat → Prop} {a : (Nat → Nat)} {a_all : (Nat → Int32)} {a_kept : (Nat → Int32)} {a_history : (Nat → Int32)} {a_historyLong : Int32} {a_slots : (Nat → Int32)} {a_isSaved : (Nat → Int32)} {a_pad : (Nat → Int32)} {a_padLong : Int32} {a_readHeight : (Nat → Int32)} {a_readPass : (Nat → Int32)} {a_readMany : Int32} {a_heights : (Nat → Int32)} {a_many : Int32} {x3 : Int32} {x4 : Int32} {R : (Nat → Int32)} {k : Int32 → Int32 → (Nat → Int32) → Option ((Nat → Int32))} (hk : ∀ {x2 : Int32} {x4 : Int32} {a_takes : (Nat → Int32)} {H : Heap} {locs : List Loc} {ls : Array Slot}, k x2 x4 a_takes = some R → zW D A s [w_X8 cI cR a a_all a_kept a_history a_historyLong a_slots a_isSaved a_pad a_padLong a_readHeight a_readPass a_readMany a_heights a_many a_takes] H locs → lv_has ls 8 [(0, .ref (a 0)), (2, .int x2), (3, .int x3), (4, .int x4)] → W p l e ({ frames := 1, cells := 0, slots := 0, locals := 21 } : Room) s m args below meth c H locs 0 0 (zE D A below s args none [w_X8 cI cR a a_all a_kept a_history a_historyLong a_slots a_isSaved a_pad a_padLong a_readHeight a_readPass a_readMany a_heights a_many R]) (F0 m 44 ls [])) (X : zX p s m c cX8_findWays 8 args RX8 D cI cR A) (hr : meth.sig.returnType = none) (hlocks : meth.locks = false) : ∀ (n : Nat)  {x2 : Int32} {x5 : Int32} {a_takes : (Nat → Int32)} {H : Heap} {locs : List Loc} {ls : Array Slot}, f_X8_findWays_L55 x3 x4 k n x2 x5 a_takes = some R → zW D A s [w_X8 cI cR a a_all a_kept a_history a_historyLong a_slots a_isSaved a_pad a_padLong a_readHeight a_readPass a_readMany a_heights a_many a_takes] H locs → lv_has ls 8 [(0, .ref (a 0)), (2, .int x2), (3, .int x3), (4, .int x4), (5, .int x5)] → W p l e ({ frames := 1, cells := 0, slots := 0, locals := 21 } : Room) s m args below meth c H locs 0 0 (zE D A below s args none [w_X8 cI cR a a_all a_kept a_history a_historyLong a_slots a_isSaved a_pad a_padLong a_readHeight a_readPass a_readMany a_heights a_many R]) (F0 m 55 ls []) := by
  have hx := X.1.1
  have hb := X.1.2.1
  intro n
  induction n with
  | zero =>
    intro x2 x5 a_takes H locs ls hf
    have hf : none = some R := hf
    cases hf
  | succ n ih =>
    intro x2 x5 a_takes H locs ls hf Z hl
    refine lv_iload hx hb dX8_findWays_55 (lv_at hl 4 rfl) ?_
    refine lv_bipush (v := 8) hx hb dX8_findWays_57 (by decide) ?_
    refine lv_icmp_ge (tgt := 150) hx hb dX8_findWays_59 (by decide) (fun c4 => ?_) (fun c4 => ?_)
    · have hf := it_t c4 hf
      refine lv_iinc (v := x4 + (1 : Int32)) (lv' := [(4, .int (x4 + (1 : Int32))), (0, .ref (a 0)), (2, .int x2), (3, .int x3), (5, .int x5)]) hx hb dX8_findWays_150 hl (k := 3) rfl rfl (by decide) rfl (fun ls hl => ?_)
      refine lv_goto (tgt := 44) hx hb dX8_findWays_153 (by decide) ?_
      exact hk hf Z (lv_sub hl [1, 2, 3, 0] rfl)
    · have hf := it_f c4 hf
      refine lv_aload_n hx hb dX8_findWays_62 rfl (lv_at hl 0 rfl) ?_
      refine zg_X8_37 X Z 0 rfl rfl dX8_findWays_63 ?_
      refine lv_iload hx hb dX8_findWays_66 (lv_at hl 3 rfl) ?_
      obtain ⟨i5, hf⟩ := in_s hf
      refine z_ld (j := x4.toNatClampNeg) X Z 10 rfl i5 rfl dX8_findWays_68 ?_
      refine lv_if_ge (tgt := 150) hx hb dX8_findWays_69 (by decide) (fun c6 => ?_) (fun c6 => ?_)
      · have hf := it_t c6 hf
        refine lv_iinc (v := x4 + (1 : Int32)) (lv' := [(4, .int (x4 + (1 : Int32))), (0, .ref (a 0)), (2, .int x2), (3, .int x3), (5, .int x5)]) hx hb dX8_findWays_150 hl (k := 3) rfl rfl (by decide) rfl (fun ls hl => ?_)
        refine lv_goto (tgt := 44) hx hb dX8_findWays_153 (by decide) ?_
        exact hk hf Z (lv_sub hl [1, 2, 3, 0] rfl)
      · have hf := it_f c6 hf
        refine lv_iload hx hb dX8_findWays_72 (lv_at hl 3 rfl) ?_
        refine lv_iload hx hb dX8_findWays_74 (lv_at hl 4 rfl) ?_
        obtain ⟨q7, hq7, hf⟩ := ob_s hf
        refine z_roS X Z (c_X8_behind l D cI cR   x4 x5 hq7) (zw_X8_148 X.1.2.2.2.2 ⟨Nat.le_of_ble_eq_true rfl, Nat.le_of_ble_eq_true rfl⟩) [] [0] (by decide : ([] ++ [0] : List Nat).Perm (List.range 1)) rfl rfl hl.1 rfl (Nat.le_of_ble_eq_true rfl) dX8_findWays_76 ⟨Nat.le_of_ble_eq_true rfl, Nat.le_of_ble_eq_true rfl⟩ (fun H locs Z => ?_)
        refine lv_istore (lv' := [(6, .int q7), (0, .ref (a 0)), (2, .int x2), (3, .int x3), (4, .int x4), (5, .int x5)]) hx hb dX8_findWays_79 hl (by decide) rfl (fun ls hl => ?_)
        refine lv_iload hx hb dX8_findWays_81 (lv_at hl 0 rfl) ?_
        refine lv_if_lt (tgt := 101) hx hb dX8_findWays_83 (by decide) (fun c8 => ?_) (fun c8 => ?_)
        · have hf := it_t c8 hf
          refine lv_iconst (v := 0) hx hb dX8_findWays_101 (by decide) ?_
          refine lv_istore (lv' := [(7, .int (0 : Int32)), (6, .int q7), (0, .ref (a 0)), (2, .int x2), (3, .int x3), (4, .int x4), (5, .int x5)]) hx hb dX8_findWays_102 hl (by decide) rfl (fun ls hl => ?_)
          refine lv_aload_n hx hb dX8_findWays_104 rfl (lv_at hl 2 rfl) ?_
          refine zg_X8_37 X Z 0 rfl rfl dX8_findWays_105 ?_
          refine lv_iload hx hb dX8_findWays_108 (lv_at hl 5 rfl) ?_
          refine lv_iload hx hb dX8_findWays_110 (lv_at hl 0 rfl) ?_
          refine lv_if_eq (tgt := 121) hx hb dX8_findWays_112 (by decide) (fun _ => ?_) (fun c9 => absurd (by decide) c9)
          refine lv_aload_n hx hb dX8_findWays_121 rfl (lv_at hl 2 rfl) ?_
          refine zg_X8_37 X Z 0 rfl rfl dX8_findWays_122 ?_
          refine lv_iload hx hb dX8_findWays_125 (lv_at hl 5 rfl) ?_
          obtain ⟨i10, hf⟩ := in_s hf
          refine z_ld (j := x4.toNatClampNeg) X Z 10 rfl i10 rfl dX8_findWays_127 ?_
          obtain ⟨i11, hf⟩ := in_s hf
          refine z_st (j := x4.toNatClampNeg) X Z 10 rfl i11 rfl [w_X8 cI cR a a_all a_kept a_history a_historyLong a_slots a_isSaved a_pad a_padLong a_readHeight a_readPass a_readMany a_heights a_many (upd a_takes x4.toNatClampNeg (a_takes x4.toNatClampNeg))] rfl dX8_findWays_128 (fun H locs Z => ?_)
          refine lv_iload_n hx hb dX8_findWays_129 rfl (lv_at hl 3 rfl) ?_
          refine lv_if_ne (tgt := 138) hx hb dX8_findWays_130 (by decide) (fun c12 => ?_) (fun c12 => ?_)
          · have hf := it_f c12 hf
            refine lv_iconst (v := 1) hx hb dX8_findWays_138 (by decide) ?_
            refine lv_goto (tgt := 143) hx hb dX8_findWays_139 (by decide) ?_
            refine lv_istore_n (lv' := [(2, .int (1 : Int32)), (7, .int (0 : Int32)), (6, .int q7), (0, .ref (a 0)), (3, .int x3), (4, .int x4), (5, .int x5)]) hx hb dX8_findWays_143 rfl hl (by decide) rfl (fun ls hl => ?_)
            refine lv_iinc (v := x5 + (1 : Int32)) (lv' := [(5, .int (x5 + (1 : Int32))), (2, .int (1 : Int32)), (7, .int (0 : Int32)), (6, .int q7), (0, .ref (a 0)), (3, .int x3), (4, .int x4)]) hx hb dX8_findWays_144 hl (k := 6) rfl rfl (by decide) rfl (fun ls hl => ?_)
            refine lv_goto (tgt := 55) hx hb dX8_findWays_147 (by decide) ?_
            exact ih hf Z (lv_sub hl [4, 1, 5, 6, 0] rfl)
          · have hf := it_t c12 hf
            refine lv_iload hx hb dX8_findWays_133 (lv_at hl 0 rfl) ?_
            refine lv_if_eq (tgt := 142) hx hb dX8_findWays_135 (by decide) (fun _ => ?_) (fun c13 => absurd (by decide) c13)
            refine lv_iconst (v := 0) hx hb dX8_findWays_142 (by decide) ?_
            refine lv_istore_n (lv' := [(2, .int (0 : Int32)), (7, .int (0 : Int32)), (6, .int q7), (0, .ref (a 0)), (3, .int x3), (4, .int x4), (5, .int x5)]) hx hb dX8_findWays_143 rfl hl (by decide) rfl (fun ls hl => ?_)
            refine lv_iinc (v := x5 + (1 : Int32)) (lv' := [(5, .int (x5 + (1 : Int32))), (2, .int (0 : Int32)), (7, .int (0 : Int32)), (6, .int q7), (0, .ref (a 0)), (3, .int x3), (4, .int x4)]) hx hb dX8_findWays_144 hl (k := 6) rfl rfl (by decide) rfl (fun ls hl => ?_)
            refine lv_goto (tgt := 55) hx hb dX8_findWays_147 (by decide) ?_
            exact ih hf Z (lv_sub hl [4, 1, 5, 6, 0] rfl)
        · have hf := it_f c8 hf
          refine lv_aload_n hx hb dX8_findWays_86 rfl (lv_at hl 1 rfl) ?_
          refine zg_X8_37 X Z 0 rfl rfl dX8_findWays_87 ?_
          refine lv_iload hx hb dX8_findWays_90 (lv_at hl 0 rfl) ?_
          obtain ⟨i14, hf⟩ := in_s hf
          refine z_ld (j := q7.toNatClampNeg) X Z 10 rfl i14 rfl dX8_findWays_92 ?_
          refine lv_iload_n hx hb dX8_findWays_93 rfl (lv_at hl 3 rfl) ?_
          refine lv_icmp_ne (tgt := 101) hx hb dX8_findWays_94 (by decide) (fun c15 => ?_) (fun c15 => ?_)
          · have hf := it_f c15 hf
            refine lv_iconst (v := 0) hx hb dX8_findWays_101 (by decide) ?_
            refine lv_istore (lv' := [(7, .int (0 : Int32)), (6, .int q7), (0, .ref (a 0)), (2, .int x2), (3, .int x3), (4, .int x4), (5, .int x5)]) hx hb dX8_findWays_102 hl (by decide) rfl (fun ls hl => ?_)
            refine lv_aload_n hx hb dX8_findWays_104 rfl (lv_at hl 2 rfl) ?_
            refine zg_X8_37 X Z 0 rfl rfl dX8_findWays_105 ?_
            refine lv_iload hx hb dX8_findWays_108 (lv_at hl 5 rfl) ?_
            refine lv_iload hx hb dX8_findWays_110 (lv_at hl 0 rfl) ?_
            refine lv_if_eq (tgt := 121) hx hb dX8_findWays_112 (by decide) (fun _ => ?_) (fun c16 => absurd (by decide) c16)
            refine lv_aload_n hx hb dX8_findWays_121 rfl (lv_at hl 2 rfl) ?_
            refine zg_X8_37 X Z 0 rfl rfl dX8_findWays_122 ?_
            refine lv_iload hx hb dX8_findWays_125 (lv_at hl 5 rfl) ?_
            obtain ⟨i17, hf⟩ := in_s hf
            refine z_ld (j := x4.toNatClampNeg) X Z 10 rfl i17 rfl dX8_findWays_127 ?_
            obtain ⟨i18, hf⟩ := in_s hf
            refine z_st (j := x4.toNatClampNeg) X Z 10 rfl i18 rfl [w_X8 cI cR a a_all a_kept a_history a_historyLong a_slots a_isSaved a_pad a_padLong a_readHeight a_readPass a_readMany a_heights a_many (upd a_takes x4.toNatClampNeg (a_takes x4.toNatClampNeg))] rfl dX8_findWays_128 (fun H locs Z => ?_)
            refine lv_iload_n hx hb dX8_findWays_129 rfl (lv_at hl 3 rfl) ?_
            refine lv_if_ne (tgt := 138) hx hb dX8_findWays_130 (by decide) (fun c19 => ?_) (fun c19 => ?_)
            · have hf := it_f c19 hf
              refine lv_iconst (v := 1) hx hb dX8_findWays_138 (by decide) ?_
              refine lv_goto (tgt := 143) hx hb dX8_findWays_139 (by decide) ?_
              refine lv_istore_n (lv' := [(2, .int (1 : Int32)), (7, .int (0 : Int32)), (6, .int q7), (0, .ref (a 0)), (3, .int x3), (4, .int x4), (5, .int x5)]) hx hb dX8_findWays_143 rfl hl (by decide) rfl (fun ls hl => ?_)
              refine lv_iinc (v := x5 + (1 : Int32)) (lv' := [(5, .int (x5 + (1 : Int32))), (2, .int (1 : Int32)), (7, .int (0 : Int32)), (6, .int q7), (0, .ref (a 0)), (3, .int x3), (4, .int x4)]) hx hb dX8_findWays_144 hl (k := 6) rfl rfl (by decide) rfl (fun ls hl => ?_)
              refine lv_goto (tgt := 55) hx hb dX8_findWays_147 (by decide) ?_
              exact ih hf Z (lv_sub hl [4, 1, 5, 6, 0] rfl)
            · have hf := it_t c19 hf
              refine lv_iload hx hb dX8_findWays_133 (lv_at hl 0 rfl) ?_
              refine lv_if_eq (tgt := 142) hx hb dX8_findWays_135 (by decide) (fun _ => ?_) (fun c20 => absurd (by decide) c20)
              refine lv_iconst (v := 0) hx hb dX8_findWays_142 (by decide) ?_
              refine lv_istore_n (lv' := [(2, .int (0 : Int32)), (7, .int (0 : Int32)), (6, .int q7), (0, .ref (a 0)), (3, .int x3), (4, .int x4), (5, .int x5)]) hx hb dX8_findWays_143 rfl hl (by decide) rfl (fun ls hl => ?_)
              refine lv_iinc (v := x5 + (1 : Int32)) (lv' := [(5, .int (x5 + (1 : Int32))), (2, .int (0 : Int32)), (7, .int (0 : Int32)), (6, .int q7), (0, .ref (a 0)), (3, .int x3), (4, .int x4)]) hx hb dX8_findWays_144 hl (k := 6) rfl rfl (by decide) rfl (fun ls hl => ?_)
              refine lv_goto (tgt := 55) hx hb dX8_findWays_147 (by decide) ?_
              exact ih hf Z (lv_sub hl [4, 1, 5, 6, 0] rfl)
          · have hf := it_t c15 hf
            refine lv_iconst (v := 1) hx hb dX8_findWays_97 (by decide) ?_
            refine lv_goto (tgt := 102) hx hb dX8_findWays_98 (by decide) ?_
            refine lv_istore (lv' := [(7, .int (1 : Int32)), (6, .int q7), (0, .ref (a 0)), (2, .int x2), (3, .int x3), (4, .int x4), (5, .int x5)]) hx hb dX8_findWays_102 hl (by decide) rfl (fun ls hl => ?_)
            refine lv_aload_n hx hb dX8_findWays_104 rfl (lv_at hl 2 rfl) ?_
            refine zg_X8_37 X Z 0 rfl rfl dX8_findWays_105 ?_
            refine lv_iload hx hb dX8_findWays_108 (lv_at hl 5 rfl) ?_
            refine lv_iload hx hb dX8_findWays_110 (lv_at hl 0 rfl) ?_
            refine lv_if_eq (tgt := 121) hx hb dX8_findWays_112 (by decide) (fun c21 => absurd c21 (by decide)) (fun _ => ?_)
            refine lv_iload_n hx hb dX8_findWays_115 rfl (lv_at hl 4 rfl) ?_
            refine lv_iconst (v := 1) hx hb dX8_findWays_116 (by decide) ?_
            refine lv_iadd hx hb dX8_findWays_117 ?_
            refine lv_goto (tgt := 128) hx hb dX8_findWays_118 (by decide) ?_
            obtain ⟨i22, hf⟩ := in_s hf
            refine z_st (j := x4.toNatClampNeg) X Z 10 rfl i22 rfl [w_X8 cI cR a a_all a_kept a_history a_historyLong a_slots a_isSaved a_pad a_padLong a_readHeight a_readPass a_readMany a_heights a_many (upd a_takes x4.toNatClampNeg (x3 + (1 : Int32)))] rfl dX8_findWays_128 (fun H locs Z => ?_)
            refine lv_iload_n hx hb dX8_findWays_129 rfl (lv_at hl 3 rfl) ?_
            refine lv_if_ne (tgt := 138) hx hb dX8_findWays_130 (by decide) (fun c23 => ?_) (fun c23 => ?_)
            · have hf := it_f c23 hf
              refine lv_iconst (v := 1) hx hb dX8_findWays_138 (by decide) ?_
              refine lv_goto (tgt := 143) hx hb dX8_findWays_139 (by decide) ?_
              refine lv_istore_n (lv' := [(2, .int (1 : Int32)), (7, .int (1 : Int32)), (6, .int q7), (0, .ref (a 0)), (3, .int x3), (4, .int x4), (5, .int x5)]) hx hb dX8_findWays_143 rfl hl (by decide) rfl (fun ls hl => ?_)
              refine lv_iinc (v := x5 + (1 : Int32)) (lv' := [(5, .int (x5 + (1 : Int32))), (2, .int (1 : Int32)), (7, .int (1 : Int32)), (6, .int q7), (0, .ref (a 0)), (3, .int x3), (4, .int x4)]) hx hb dX8_findWays_144 hl (k := 6) rfl rfl (by decide) rfl (fun ls hl => ?_)
              refine lv_goto (tgt := 55) hx hb dX8_findWays_147 (by decide) ?_
              exact ih hf Z (lv_sub hl [4, 1, 5, 6, 0] rfl)
            · have hf := it_t c23 hf
              refine lv_iload hx hb dX8_findWays_133 (lv_at hl 0 rfl) ?_
              refine lv_if_eq (tgt := 142) hx hb dX8_findWays_135 (by decide) (fun c24 => absurd c24 (by decide)) (fun _ => ?_)
              refine lv_iconst (v := 1) hx hb dX8_findWays_138 (by decide) ?_
              refine lv_goto (tgt := 143) hx hb dX8_findWays_139 (by decide) ?_
              refine lv_istore_n (lv' := [(2, .int (1 : Int32)), (7, .int (1 : Int32)), (6, .int q7), (0, .ref (a 0)), (3, .int x3), (4, .int x4), (5, .int x5)]) hx hb dX8_findWays_143 rfl hl (by decide) rfl (fun ls hl => ?_)
              refine lv_iinc (v := x5 + (1 : Int32)) (lv' := [(5, .int (x5 + (1 : Int32))), (2, .int (1 : Int32)), (7, .int (1 : Int32)), (6, .int q7), (0, .ref (a 0)), (3, .int x3), (4, .int x4)]) hx hb dX8_findWays_144 hl (k := 6) rfl rfl (by decide) rfl (fun ls hl => ?_)
              refine lv_goto (tgt := 55) hx hb dX8_findWays_147 (by decide) ?_
              exact ih hf Z (lv_sub hl [4, 1, 5, 6, 0] rfl)

def f_X8_findWays_L44 (x3 : Int32) (k : Int32 → Int32 → (Nat → Int32) → Option ((Nat → Int32))) : Nat → Int32 → Int32 → (Nat → Int32) → Option ((Nat → Int32))
  | 0, _, _, _ => none
  | n + 1, x2, x4, a_takes => if (256 : Int32) ≤ x4 then (k x2 (x3 + (1 : Int32)) a_takes) else (f_X8_findWays_L55 x3 x4 (fun x2 x4 a_takes => f_X8_findWays_L44 x3 k n x2 x4 a_takes) zF x2 (0 : Int32) a_takes)
set_option maxHeartbeats 4000000 in
set_option maxRecDepth 100000 in
theorem w_X8_findWays_L44 {p : Program} {l : Launch} {e : Env} {s : State} {m : MethodId} {args : Array Value} {below : List Frame} {meth : Method} {c : Code} {D : va_G} {cI cR : ClassId} {A : Nat → Prop} {a : (Nat → Nat)} {a_all : (Nat → Int32)} {a_kept : (Nat → Int32)} {a_history : (Nat → Int32)} {a_historyLong : Int32} {a_slots : (Nat → Int32)} {a_isSaved : (Nat → Int32)} {a_pad : (Nat → Int32)} {a_padLong : Int32} {a_readHeight : (Nat → Int32)} {a_readPass : (Nat → Int32)} {a_readMany : Int32} {a_heights : (Nat → Int32)} {a_many : Int32} {x3 : Int32} {R : (Nat → Int32)} {k : Int32 → Int32 → (Nat → Int32) → Option ((Nat → Int32))} (hk : ∀ {x2 : Int32} {x3 : Int32} {a_takes : (Nat → Int32)} {H : Heap} {locs : List Loc} {ls : Array Slot}, k x2 x3 a_takes = some R → zW D A s [w_X8 cI cR a a_all a_kept a_history a_historyLong a_slots a_isSaved a_pad a_padLong a_readHeight a_readPass a_readMany a_heights a_many a_takes] H locs → lv_has ls 8 [(0, .ref (a 0)), (2, .int x2), (3, .int x3)] → W p l e ({ frames := 1, cells := 0, slots := 0, locals := 21 } : Room) s m args below meth c H locs 0 0 (zE D A below s args none [w_X8 cI cR a a_all a_kept a_history a_historyLong a_slots a_isSaved a_pad a_padLong a_readHeight a_readPass a_readMany a_heights a_many R]) (F0 m 35 ls [])) (X : zX p s m c cX8_findWays 8 args RX8 D cI cR A) (hr : meth.sig.returnType = none) (hlocks : meth.locks = false) : ∀ (n : Nat)  {x2 : Int32} {x4 : Int32} {a_takes : (Nat → Int32)} {H : Heap} {locs : List Loc} {ls : Array Slot}, f_X8_findWays_L44 x3 k n x2 x4 a_takes = some R → zW D A s [w_X8 cI cR a a_all a_kept a_history a_historyLong a_slots a_isSaved a_pad a_padLong a_readHeight a_readPass a_readMany a_heights a_many a_takes] H locs → lv_has ls 8 [(0, .ref (a 0)), (2, .int x2), (3, .int x3), (4, .int x4)] → W p l e ({ frames := 1, cells := 0, slots := 0, locals := 21 } : Room) s m args below meth c H locs 0 0 (zE D A below s args none [w_X8 cI cR a a_all a_kept a_history a_historyLong a_slots a_isSaved a_pad a_padLong a_readHeight a_readPass a_readMany a_heights a_many R]) (F0 m 44 ls []) := by
  have hx := X.1.1
  have hb := X.1.2.1
  intro n
  induction n with
  | zero =>
    intro x2 x4 a_takes H locs ls hf
    have hf : none = some R := hf
    cases hf
  | succ n ih =>
    intro x2 x4 a_takes H locs ls hf Z hl
    refine lv_iload hx hb dX8_findWays_44 (lv_at hl 3 rfl) ?_
    refine lv_sipush (v := 256) hx hb dX8_findWays_46 (by decide) ?_
    refine lv_icmp_ge (tgt := 156) hx hb dX8_findWays_49 (by decide) (fun c3 => ?_) (fun c3 => ?_)
    · have hf := it_t c3 hf
      refine lv_iinc (v := x3 + (1 : Int32)) (lv' := [(3, .int (x3 + (1 : Int32))), (0, .ref (a 0)), (2, .int x2), (4, .int x4)]) hx hb dX8_findWays_156 hl (k := 2) rfl rfl (by decide) rfl (fun ls hl => ?_)
      refine lv_goto (tgt := 35) hx hb dX8_findWays_159 (by decide) ?_
      exact hk hf Z (lv_sub hl [1, 2, 0] rfl)
    · have hf := it_f c3 hf
      refine lv_iconst (v := 0) hx hb dX8_findWays_52 (by decide) ?_
      refine lv_istore (lv' := [(5, .int (0 : Int32)), (0, .ref (a 0)), (2, .int x2), (3, .int x3), (4, .int x4)]) hx hb dX8_findWays_53 hl (by decide) rfl (fun ls hl => ?_)
      exact w_X8_findWays_L55 (hk := @ih) X hr hlocks _ hf Z (lv_sub hl [1, 2, 3, 4, 0] rfl)

def f_X8_findWays_L35 : Nat → Int32 → Int32 → (Nat → Int32) → Option ((Nat → Int32))
  | 0, _, _, _ => none
  | n + 1, x2, x3, a_takes => if x2 = 0 then (some a_takes) else (f_X8_findWays_L44 x3 (fun x2 x3 a_takes => f_X8_findWays_L35  n x2 x3 a_takes) zF (0 : Int32) (0 : Int32) a_takes)
set_option maxHeartbeats 4000000 in
set_option maxRecDepth 100000 in
theorem w_X8_findWays_L35 {p : Program} {l : Launch} {e : Env} {s : State} {m : MethodId} {args : Array Value} {below : List Frame} {meth : Method} {c : Code} {D : va_G} {cI cR : ClassId} {A : Nat → Prop} {a : (Nat → Nat)} {a_all : (Nat → Int32)} {a_kept : (Nat → Int32)} {a_history : (Nat → Int32)} {a_historyLong : Int32} {a_slots : (Nat → Int32)} {a_isSaved : (Nat → Int32)} {a_pad : (Nat → Int32)} {a_padLong : Int32} {a_readHeight : (Nat → Int32)} {a_readPass : (Nat → Int32)} {a_readMany : Int32} {a_heights : (Nat → Int32)} {a_many : Int32} {R : (Nat → Int32)} (X : zX p s m c cX8_findWays 8 args RX8 D cI cR A) (hr : meth.sig.returnType = none) (hlocks : meth.locks = false) : ∀ (n : Nat)  {x2 : Int32} {x3 : Int32} {a_takes : (Nat → Int32)} {H : Heap} {locs : List Loc} {ls : Array Slot}, f_X8_findWays_L35  n x2 x3 a_takes = some R → zW D A s [w_X8 cI cR a a_all a_kept a_history a_historyLong a_slots a_isSaved a_pad a_padLong a_readHeight a_readPass a_readMany a_heights a_many a_takes] H locs → lv_has ls 8 [(0, .ref (a 0)), (2, .int x2), (3, .int x3)] → W p l e ({ frames := 1, cells := 0, slots := 0, locals := 21 } : Room) s m args below meth c H locs 0 0 (zE D A below s args none [w_X8 cI cR a a_all a_kept a_history a_historyLong a_slots a_isSaved a_pad a_padLong a_readHeight a_readPass a_readMany a_heights a_many R]) (F0 m 35 ls []) := by
  have hx := X.1.1
  have hb := X.1.2.1
  intro n
  induction n with
  | zero =>
    intro x2 x3 a_takes H locs ls hf
    have hf : none = some R := hf
    cases hf
  | succ n ih =>
    intro x2 x3 a_takes H locs ls hf Z hl
    refine lv_iload_n hx hb dX8_findWays_35 rfl (lv_at hl 1 rfl) ?_
    refine lv_if_eq (tgt := 162) hx hb dX8_findWays_36 (by decide) (fun c2 => ?_) (fun c2 => ?_)
    · have hf := it_t c2 hf
      have hR := so_s hf
      subst hR
      refine z_vret X hr hlocks ?_ dX8_findWays_162
      exact Z.eq rfl
    · have hf := it_f c2 hf
      refine lv_iconst (v := 0) hx hb dX8_findWays_39 (by decide) ?_
      refine lv_istore_n (lv' := [(2, .int (0 : Int32)), (0, .ref (a 0)), (3, .int x3)]) hx hb dX8_findWays_40 rfl hl (by decide) rfl (fun ls hl => ?_)
      refine lv_iconst (v := 0) hx hb dX8_findWays_41 (by decide) ?_
      refine lv_istore (lv' := [(4, .int (0 : Int32)), (2, .int (0 : Int32)), (0, .ref (a 0)), (3, .int x3)]) hx hb dX8_findWays_42 hl (by decide) rfl (fun ls hl => ?_)
      exact w_X8_findWays_L44 (hk := @ih) X hr hlocks _ hf Z (lv_sub hl [2, 1, 3, 0] rfl)

def f_X8_findWays_L2 (x1 : Int32) : Nat → Int32 → (Nat → Int32) → Option ((Nat → Int32))
  | 0, _, _ => none
  | n + 1, x2, a_takes => if (256 : Int32) ≤ x2 then (f_X8_findWays_L35  zF (1 : Int32) (0 : Int32) a_takes) else (if x2 = x1 then (if x2 < 0 ∨ 256 ≤ x2.toNatClampNeg then none else (f_X8_findWays_L2 x1 n (x2 + (1 : Int32)) (upd a_takes x2.toNatClampNeg (0 : Int32)))) else (if x2 < 0 ∨ 256 ≤ x2.toNatClampNeg then none else (f_X8_findWays_L2 x1 n (x2 + (1 : Int32)) (upd a_takes x2.toNatClampNeg (-1 : Int32)))))
set_option maxHeartbeats 4000000 in
set_option maxRecDepth 100000 in
theorem w_X8_findWays_L2 {p : Program} {l : Launch} {e : Env} {s : State} {m : MethodId} {args : Array Value} {below : List Frame} {meth : Method} {c : Code} {D : va_G} {cI cR : ClassId} {A : Nat → Prop} {a : (Nat → Nat)} {a_all : (Nat → Int32)} {a_kept : (Nat → Int32)} {a_history : (Nat → Int32)} {a_historyLong : Int32} {a_slots : (Nat → Int32)} {a_isSaved : (Nat → Int32)} {a_pad : (Nat → Int32)} {a_padLong : Int32} {a_readHeight : (Nat → Int32)} {a_readPass : (Nat → Int32)} {a_readMany : Int32} {a_heights : (Nat → Int32)} {a_many : Int32} {x1 : Int32} {R : (Nat → Int32)} (X : zX p s m c cX8_findWays 8 args RX8 D cI cR A) (hr : meth.sig.returnType = none) (hlocks : meth.locks = false) : ∀ (n : Nat)  {x2 : Int32} {a_takes : (Nat → Int32)} {H : Heap} {locs : List Loc} {ls : Array Slot}, f_X8_findWays_L2 x1 n x2 a_takes = some R → zW D A s [w_X8 cI cR a a_all a_kept a_history a_historyLong a_slots a_isSaved a_pad a_padLong a_readHeight a_readPass a_readMany a_heights a_many a_takes] H locs → lv_has ls 8 [(0, .ref (a 0)), (1, .int x1), (2, .int x2)] → W p l e ({ frames := 1, cells := 0, slots := 0, locals := 21 } : Room) s m args below meth c H locs 0 0 (zE D A below s args none [w_X8 cI cR a a_all a_kept a_history a_historyLong a_slots a_isSaved a_pad a_padLong a_readHeight a_readPass a_readMany a_heights a_many R]) (F0 m 2 ls []) := by
  have hx := X.1.1
  have hb := X.1.2.1
  intro n
  induction n with
  | zero =>
    intro x2 a_takes H locs ls hf
    have hf : none = some R := hf
    cases hf
  | succ n ih =>
    intro x2 a_takes H locs ls hf Z hl
    refine lv_iload_n hx hb dX8_findWays_2 rfl (lv_at hl 2 rfl) ?_
    refine lv_sipush (v := 256) hx hb dX8_findWays_3 (by decide) ?_
    refine lv_icmp_ge (tgt := 31) hx hb dX8_findWays_6 (by decide) (fun c1 => ?_) (fun c1 => ?_)
    · have hf := it_t c1 hf
      refine lv_iconst (v := 1) hx hb dX8_findWays_31 (by decide) ?_
      refine lv_istore_n (lv' := [(2, .int (1 : Int32)), (0, .ref (a 0)), (1, .int x1)]) hx hb dX8_findWays_32 rfl hl (by decide) rfl (fun ls hl => ?_)
      refine lv_iconst (v := 0) hx hb dX8_findWays_33 (by decide) ?_
      refine lv_istore_n (lv' := [(3, .int (0 : Int32)), (2, .int (1 : Int32)), (0, .ref (a 0)), (1, .int x1)]) hx hb dX8_findWays_34 rfl hl (by decide) rfl (fun ls hl => ?_)
      exact w_X8_findWays_L35 X hr hlocks _ hf Z (lv_sub hl [2, 1, 0] rfl)
    · have hf := it_f c1 hf
      refine lv_aload_n hx hb dX8_findWays_9 rfl (lv_at hl 0 rfl) ?_
      refine zg_X8_37 X Z 0 rfl rfl dX8_findWays_10 ?_
      refine lv_iload_n hx hb dX8_findWays_13 rfl (lv_at hl 2 rfl) ?_
      refine lv_iload_n hx hb dX8_findWays_14 rfl (lv_at hl 2 rfl) ?_
      refine lv_iload_n hx hb dX8_findWays_15 rfl (lv_at hl 1 rfl) ?_
      refine lv_icmp_ne (tgt := 23) hx hb dX8_findWays_16 (by decide) (fun c25 => ?_) (fun c25 => ?_)
      · have hf := it_f c25 hf
        refine lv_iconst (v := -1) hx hb dX8_findWays_23 (by decide) ?_
        obtain ⟨i26, hf⟩ := in_s hf
        refine z_st (j := x2.toNatClampNeg) X Z 10 rfl i26 rfl [w_X8 cI cR a a_all a_kept a_history a_historyLong a_slots a_isSaved a_pad a_padLong a_readHeight a_readPass a_readMany a_heights a_many (upd a_takes x2.toNatClampNeg (-1 : Int32))] rfl dX8_findWays_24 (fun H locs Z => ?_)
        refine lv_iinc (v := x2 + (1 : Int32)) (lv' := [(2, .int (x2 + (1 : Int32))), (0, .ref (a 0)), (1, .int x1)]) hx hb dX8_findWays_25 hl (k := 2) rfl rfl (by decide) rfl (fun ls hl => ?_)
        refine lv_goto (tgt := 2) hx hb dX8_findWays_28 (by decide) ?_
        exact ih hf Z (lv_sub hl [1, 2, 0] rfl)
      · have hf := it_t c25 hf
        refine lv_iconst (v := 0) hx hb dX8_findWays_19 (by decide) ?_
        refine lv_goto (tgt := 24) hx hb dX8_findWays_20 (by decide) ?_
        obtain ⟨i27, hf⟩ := in_s hf
        refine z_st (j := x2.toNatClampNeg) X Z 10 rfl i27 rfl [w_X8 cI cR a a_all a_kept a_history a_historyLong a_slots a_isSaved a_pad a_padLong a_readHeight a_readPass a_readMany a_heights a_many (upd a_takes x2.toNatClampNeg (0 : Int32))] rfl dX8_findWays_24 (fun H locs Z => ?_)
        refine lv_iinc (v := x2 + (1 : Int32)) (lv' := [(2, .int (x2 + (1 : Int32))), (0, .ref (a 0)), (1, .int x1)]) hx hb dX8_findWays_25 hl (k := 2) rfl rfl (by decide) rfl (fun ls hl => ?_)
        refine lv_goto (tgt := 2) hx hb dX8_findWays_28 (by decide) ?_
        exact ih hf Z (lv_sub hl [1, 2, 0] rfl)

def f_X8_findWays (a_takes : (Nat → Int32)) (p1 : Int32) : Option ((Nat → Int32)) := f_X8_findWays_L2 p1 zF (0 : Int32) a_takes
set_option maxHeartbeats 4000000 in
set_option maxRecDepth 100000 in
theorem c_X8_findWays (l : Launch) (D : va_G) (cI cR : ClassId) (a : (Nat → Nat)) (a_all : (Nat → Int32)) (a_kept : (Nat → Int32)) (a_history : (Nat → Int32)) (a_historyLong : Int32) (a_slots : (Nat → Int32)) (a_isSaved : (Nat → Int32)) (a_pad : (Nat → Int32)) (a_padLong : Int32) (a_readHeight : (Nat → Int32)) (a_readPass : (Nat → Int32)) (a_readMany : Int32) (a_heights : (Nat → Int32)) (a_many : Int32) (a_takes : (Nat → Int32)) (p1 : Int32) {R : (Nat → Int32)} (hf : f_X8_findWays a_takes p1 = some R) : zM l D cI cR yX8_findWays cX8_findWays 8 none 1 21 [.ref (a 0), .int p1] [w_X8 cI cR a a_all a_kept a_history a_historyLong a_slots a_isSaved a_pad a_padLong a_readHeight a_readPass a_readMany a_heights a_many a_takes] none [w_X8 cI cR a a_all a_kept a_history a_historyLong a_slots a_isSaved a_pad a_padLong a_readHeight a_readPass a_readMany a_heights a_many R] := by
  refine z_of (own := RX8) rfl (by decide) (Nat.le_of_ble_eq_true rfl) ?_
  intro p e s m args below meth c A ls X hr hlocks Z hl
  have hx := X.1.1
  have hb := X.1.2.1
  have Z : zW D A s [w_X8 cI cR a a_all a_kept a_history a_historyLong a_slots a_isSaved a_pad a_padLong a_readHeight a_readPass a_readMany a_heights a_many a_takes] s.heap [] := Z
  have hl : lv_has ls 8 [(0, .ref (a 0)), (1, .int p1)] := hl
  refine lv_iconst (v := 0) hx hb dX8_findWays_0 (by decide) ?_
  refine lv_istore_n (lv' := [(2, .int (0 : Int32)), (0, .ref (a 0)), (1, .int p1)]) hx hb dX8_findWays_1 rfl hl (by decide) rfl (fun ls hl => ?_)
  exact w_X8_findWays_L2 X hr hlocks _ hf Z (lv_sub hl [1, 2, 0] rfl)
def f_X8_nextThrow_L2 (a_takes : (Nat → Int32)) (x1 : Int32) : Nat → Int32 → Option (Int32)
  | 0, _ => none
  | n + 1, x2 => (f_X8_behind x1 x2).bind (fun q1 => if q1 < 0 then (f_X8_nextThrow_L2 a_takes x1 n (x2 + (1 : Int32)) ) else ((f_X8_behind x1 x2).bind (fun q3 => if q3 < 0 ∨ 256 ≤ q3.toNatClampNeg then none else (if x1 < 0 ∨ 256 ≤ x1.toNatClampNeg then none else (if (a_takes q3.toNatClampNeg) = ((a_takes x1.toNatClampNeg) - (1 : Int32)) then (some x2) else (f_X8_nextThrow_L2 a_takes x1 n (x2 + (1 : Int32)) ))))))
set_option maxHeartbeats 4000000 in
set_option maxRecDepth 100000 in
theorem w_X8_nextThrow_L2 {p : Program} {l : Launch} {e : Env} {s : State} {m : MethodId} {args : Array Value} {below : List Frame} {meth : Method} {c : Code} {D : va_G} {cI cR : ClassId} {A : Nat → Prop} {a : (Nat → Nat)} {a_all : (Nat → Int32)} {a_kept : (Nat → Int32)} {a_history : (Nat → Int32)} {a_historyLong : Int32} {a_slots : (Nat → Int32)} {a_isSaved : (Nat → Int32)} {a_pad : (Nat → Int32)} {a_padLong : Int32} {a_readHeight : (Nat → Int32)} {a_readPass : (Nat → Int32)} {a_readMany : Int32} {a_heights : (Nat → Int32)} {a_many : Int32} {a_takes : (Nat → Int32)} {x1 : Int32} {R : Int32} (X : zX p s m c cX8_nextThrow 3 args RX8 D cI cR A) (hr : meth.sig.returnType = (some .int)) (hlocks : meth.locks = false) : ∀ (n : Nat)  {x2 : Int32} {H : Heap} {locs : List Loc} {ls : Array Slot}, f_X8_nextThrow_L2 a_takes x1 n x2 = some R → zW D A s [w_X8 cI cR a a_all a_kept a_history a_historyLong a_slots a_isSaved a_pad a_padLong a_readHeight a_readPass a_readMany a_heights a_many a_takes] H locs → lv_has ls 3 [(0, .ref (a 0)), (1, .int x1), (2, .int x2)] → W p l e ({ frames := 1, cells := 0, slots := 0, locals := 21 } : Room) s m args below meth c H locs 0 0 (zE D A below s args (some (.int R)) [w_X8 cI cR a a_all a_kept a_history a_historyLong a_slots a_isSaved a_pad a_padLong a_readHeight a_readPass a_readMany a_heights a_many a_takes]) (F0 m 2 ls []) := by
  have hx := X.1.1
  have hb := X.1.2.1
  intro n
  induction n with
  | zero =>
    intro x2 H locs ls hf
    have hf : none = some R := hf
    cases hf
  | succ n ih =>
    intro x2 H locs ls hf Z hl
    refine lv_iload_n hx hb dX8_nextThrow_2 rfl (lv_at hl 1 rfl) ?_
    refine lv_iload_n hx hb dX8_nextThrow_3 rfl (lv_at hl 2 rfl) ?_
    obtain ⟨q1, hq1, hf⟩ := ob_s hf
    refine z_roS X Z (c_X8_behind l D cI cR   x1 x2 hq1) (zw_X8_148 X.1.2.2.2.2 ⟨Nat.le_of_ble_eq_true rfl, Nat.le_of_ble_eq_true rfl⟩) [] [0] (by decide : ([] ++ [0] : List Nat).Perm (List.range 1)) rfl rfl hl.1 rfl (Nat.le_of_ble_eq_true rfl) dX8_nextThrow_4 ⟨Nat.le_of_ble_eq_true rfl, Nat.le_of_ble_eq_true rfl⟩ (fun H locs Z => ?_)
    refine lv_if_lt (tgt := 31) hx hb dX8_nextThrow_7 (by decide) (fun c2 => ?_) (fun c2 => ?_)
    · have hf := it_t c2 hf
      refine lv_iinc (v := x2 + (1 : Int32)) (lv' := [(2, .int (x2 + (1 : Int32))), (0, .ref (a 0)), (1, .int x1)]) hx hb dX8_nextThrow_31 hl (k := 2) rfl rfl (by decide) rfl (fun ls hl => ?_)
      refine lv_goto (tgt := 2) hx hb dX8_nextThrow_34 (by decide) ?_
      exact ih hf Z (lv_sub hl [1, 2, 0] rfl)
    · have hf := it_f c2 hf
      refine lv_aload_n hx hb dX8_nextThrow_10 rfl (lv_at hl 0 rfl) ?_
      refine zg_X8_37 X Z 0 rfl rfl dX8_nextThrow_11 ?_
      refine lv_iload_n hx hb dX8_nextThrow_14 rfl (lv_at hl 1 rfl) ?_
      refine lv_iload_n hx hb dX8_nextThrow_15 rfl (lv_at hl 2 rfl) ?_
      obtain ⟨q3, hq3, hf⟩ := ob_s hf
      refine z_roS X Z (c_X8_behind l D cI cR   x1 x2 hq3) (zw_X8_148 X.1.2.2.2.2 ⟨Nat.le_of_ble_eq_true rfl, Nat.le_of_ble_eq_true rfl⟩) [] [0] (by decide : ([] ++ [0] : List Nat).Perm (List.range 1)) rfl rfl hl.1 rfl (Nat.le_of_ble_eq_true rfl) dX8_nextThrow_16 ⟨Nat.le_of_ble_eq_true rfl, Nat.le_of_ble_eq_true rfl⟩ (fun H locs Z => ?_)
      obtain ⟨i4, hf⟩ := in_s hf
      refine z_ld (j := q3.toNatClampNeg) X Z 10 rfl i4 rfl dX8_nextThrow_19 ?_
      refine lv_aload_n hx hb dX8_nextThrow_20 rfl (lv_at hl 0 rfl) ?_
      refine zg_X8_37 X Z 0 rfl rfl dX8_nextThrow_21 ?_
      refine lv_iload_n hx hb dX8_nextThrow_24 rfl (lv_at hl 1 rfl) ?_
      obtain ⟨i5, hf⟩ := in_s hf
      refine z_ld (j := x1.toNatClampNeg) X Z 10 rfl i5 rfl dX8_nextThrow_25 ?_
      refine lv_iconst (v := 1) hx hb dX8_nextThrow_26 (by decide) ?_
      refine lv_isub hx hb dX8_nextThrow_27 ?_
      refine lv_icmp_eq (tgt := 37) hx hb dX8_nextThrow_28 (by decide) (fun c6 => ?_) (fun c6 => ?_)
      · have hf := it_t c6 hf
        refine lv_iload_n hx hb dX8_nextThrow_37 rfl (lv_at hl 2 rfl) ?_
        have hR := so_s hf
        subst hR
        refine z_iret X hr hlocks ?_ dX8_nextThrow_38
        exact Z.eq rfl
      · have hf := it_f c6 hf
        refine lv_iinc (v := x2 + (1 : Int32)) (lv' := [(2, .int (x2 + (1 : Int32))), (0, .ref (a 0)), (1, .int x1)]) hx hb dX8_nextThrow_31 hl (k := 2) rfl rfl (by decide) rfl (fun ls hl => ?_)
        refine lv_goto (tgt := 2) hx hb dX8_nextThrow_34 (by decide) ?_
        exact ih hf Z (lv_sub hl [1, 2, 0] rfl)

def f_X8_nextThrow (a_takes : (Nat → Int32)) (p1 : Int32) : Option (Int32) := f_X8_nextThrow_L2 a_takes p1 zF (0 : Int32)
set_option maxHeartbeats 4000000 in
set_option maxRecDepth 100000 in
theorem c_X8_nextThrow (l : Launch) (D : va_G) (cI cR : ClassId) (a : (Nat → Nat)) (a_all : (Nat → Int32)) (a_kept : (Nat → Int32)) (a_history : (Nat → Int32)) (a_historyLong : Int32) (a_slots : (Nat → Int32)) (a_isSaved : (Nat → Int32)) (a_pad : (Nat → Int32)) (a_padLong : Int32) (a_readHeight : (Nat → Int32)) (a_readPass : (Nat → Int32)) (a_readMany : Int32) (a_heights : (Nat → Int32)) (a_many : Int32) (a_takes : (Nat → Int32)) (p1 : Int32) {R : Int32} (hf : f_X8_nextThrow a_takes p1 = some R) : zM l D cI cR yX8_nextThrow cX8_nextThrow 3 (some .int) 1 21 [.ref (a 0), .int p1] [w_X8 cI cR a a_all a_kept a_history a_historyLong a_slots a_isSaved a_pad a_padLong a_readHeight a_readPass a_readMany a_heights a_many a_takes] (some (.int R)) [w_X8 cI cR a a_all a_kept a_history a_historyLong a_slots a_isSaved a_pad a_padLong a_readHeight a_readPass a_readMany a_heights a_many a_takes] := by
  refine z_of (own := RX8) rfl (by decide) (Nat.le_of_ble_eq_true rfl) ?_
  intro p e s m args below meth c A ls X hr hlocks Z hl
  have hx := X.1.1
  have hb := X.1.2.1
  have Z : zW D A s [w_X8 cI cR a a_all a_kept a_history a_historyLong a_slots a_isSaved a_pad a_padLong a_readHeight a_readPass a_readMany a_heights a_many a_takes] s.heap [] := Z
  have hl : lv_has ls 3 [(0, .ref (a 0)), (1, .int p1)] := hl
  refine lv_iconst (v := 0) hx hb dX8_nextThrow_0 (by decide) ?_
  refine lv_istore_n (lv' := [(2, .int (0 : Int32)), (0, .ref (a 0)), (1, .int p1)]) hx hb dX8_nextThrow_1 rfl hl (by decide) rfl (fun ls hl => ?_)
  exact w_X8_nextThrow_L2 X hr hlocks _ hf Z (lv_sub hl [1, 2, 0] rfl)
def f_X8_way_L97 (a_all : (Nat → Int32)) (a_takes : (Nat → Int32)) (x3 : Int32) : Nat → Int32 → Int32 → Option (Int32 × (Nat → Int32))
  | 0, _, _ => none
  | n + 1, x4, x5 => if x3 = (2 : Int32) then (if x4 < 0 ∨ 256 ≤ x4.toNatClampNeg then none else (if (a_takes x4.toNatClampNeg) ≤ (1 : Int32) then (some (x5, a_takes)) else ((f_X8_behind x4 x5).bind (fun q18 => (f_X8_nextThrow a_takes q18).bind (fun q19 => f_X8_way_L97 a_all a_takes x3 n q18 q19 ))))) else (some (x5, a_takes))
set_option maxHeartbeats 4000000 in
set_option maxRecDepth 100000 in
theorem w_X8_way_L97 {p : Program} {l : Launch} {e : Env} {s : State} {m : MethodId} {args : Array Value} {below : List Frame} {meth : Method} {c : Code} {D : va_G} {cI cR : ClassId} {A : Nat → Prop} {a : (Nat → Nat)} {a_all : (Nat → Int32)} {a_kept : (Nat → Int32)} {a_history : (Nat → Int32)} {a_historyLong : Int32} {a_slots : (Nat → Int32)} {a_isSaved : (Nat → Int32)} {a_pad : (Nat → Int32)} {a_padLong : Int32} {a_readHeight : (Nat → Int32)} {a_readPass : (Nat → Int32)} {a_readMany : Int32} {a_heights : (Nat → Int32)} {a_many : Int32} {a_takes : (Nat → Int32)} {x3 : Int32} {R : Int32 × (Nat → Int32)} (X : zX p s m c cX8_way 6 args RX8 D cI cR A) (hr : meth.sig.returnType = (some .int)) (hlocks : meth.locks = false) : ∀ (n : Nat)  {x4 : Int32} {x5 : Int32} {H : Heap} {locs : List Loc} {ls : Array Slot}, f_X8_way_L97 a_all a_takes x3 n x4 x5 = some R → zW D A s [w_X8 cI cR a a_all a_kept a_history a_historyLong a_slots a_isSaved a_pad a_padLong a_readHeight a_readPass a_readMany a_heights a_many a_takes] H locs → lv_has ls 6 [(0, .ref (a 0)), (3, .int x3), (4, .int x4), (5, .int x5)] → W p l e ({ frames := 2, cells := 0, slots := 0, locals := 48 } : Room) s m args below meth c H locs 0 0 (zE D A below s args (some (.int R.1)) [w_X8 cI cR a a_all a_kept a_history a_historyLong a_slots a_isSaved a_pad a_padLong a_readHeight a_readPass a_readMany a_heights a_many R.2]) (F0 m 97 ls []) := by
  have hx := X.1.1
  have hb := X.1.2.1
  intro n
  induction n with
  | zero =>
    intro x4 x5 H locs ls hf
    have hf : none = some R := hf
    cases hf
  | succ n ih =>
    intro x4 x5 H locs ls hf Z hl
    refine lv_iload_n hx hb dX8_way_97 rfl (lv_at hl 1 rfl) ?_
    refine lv_iconst (v := 2) hx hb dX8_way_98 (by decide) ?_
    refine lv_icmp_ne (tgt := 133) hx hb dX8_way_99 (by decide) (fun c15 => ?_) (fun c15 => ?_)
    · have hf := it_f c15 hf
      refine lv_iload hx hb dX8_way_133 (lv_at hl 3 rfl) ?_
      have hR := so_s hf
      subst hR
      refine z_iret X hr hlocks ?_ dX8_way_135
      exact Z.eq rfl
    · have hf := it_t c15 hf
      refine lv_aload_n hx hb dX8_way_102 rfl (lv_at hl 0 rfl) ?_
      refine zg_X8_37 X Z 0 rfl rfl dX8_way_103 ?_
      refine lv_iload hx hb dX8_way_106 (lv_at hl 2 rfl) ?_
      obtain ⟨i16, hf⟩ := in_s hf
      refine z_ld (j := x4.toNatClampNeg) X Z 10 rfl i16 rfl dX8_way_108 ?_
      refine lv_iconst (v := 1) hx hb dX8_way_109 (by decide) ?_
      refine lv_icmp_le (tgt := 133) hx hb dX8_way_110 (by decide) (fun c17 => ?_) (fun c17 => ?_)
      · have hf := it_t c17 hf
        refine lv_iload hx hb dX8_way_133 (lv_at hl 3 rfl) ?_
        have hR := so_s hf
        subst hR
        refine z_iret X hr hlocks ?_ dX8_way_135
        exact Z.eq rfl
      · have hf := it_f c17 hf
        refine lv_iload hx hb dX8_way_113 (lv_at hl 2 rfl) ?_
        refine lv_iload hx hb dX8_way_115 (lv_at hl 3 rfl) ?_
        obtain ⟨q18, hq18, hf⟩ := ob_s hf
        refine z_roS X Z (c_X8_behind l D cI cR   x4 x5 hq18) (zw_X8_148 X.1.2.2.2.2 ⟨Nat.le_of_ble_eq_true rfl, Nat.le_of_ble_eq_true rfl⟩) [] [0] (by decide : ([] ++ [0] : List Nat).Perm (List.range 1)) rfl rfl hl.1 rfl (Nat.le_of_ble_eq_true rfl) dX8_way_117 ⟨Nat.le_of_ble_eq_true rfl, Nat.le_of_ble_eq_true rfl⟩ (fun H locs Z => ?_)
        refine lv_istore (lv' := [(4, .int q18), (0, .ref (a 0)), (3, .int x3), (5, .int x5)]) hx hb dX8_way_120 hl (by decide) rfl (fun ls hl => ?_)
        refine lv_aload_n hx hb dX8_way_122 rfl (lv_at hl 1 rfl) ?_
        refine lv_iload hx hb dX8_way_123 (lv_at hl 0 rfl) ?_
        obtain ⟨q19, hq19, hf⟩ := ob_s hf
        refine z_roV X Z (c_X8_nextThrow l D cI cR a a_all a_kept a_history a_historyLong a_slots a_isSaved a_pad a_padLong a_readHeight a_readPass a_readMany a_heights a_many a_takes q18 hq19) (zw_X8_157 X.1.2.2.2.2 ⟨Nat.le_of_ble_eq_true rfl, Nat.le_of_ble_eq_true rfl⟩) 0 8 rfl rfl rfl [0] [] (by decide : ([0] ++ [] : List Nat).Perm (List.range 1)) rfl rfl hl.1 rfl (Nat.le_of_ble_eq_true rfl) dX8_way_125 ⟨Nat.le_of_ble_eq_true rfl, Nat.le_of_ble_eq_true rfl⟩ (fun H locs Z => ?_)
        refine lv_istore (lv' := [(5, .int q19), (4, .int q18), (0, .ref (a 0)), (3, .int x3)]) hx hb dX8_way_128 hl (by decide) rfl (fun ls hl => ?_)
        refine lv_goto (tgt := 97) hx hb dX8_way_130 (by decide) ?_
        exact ih hf Z (lv_sub hl [2, 3, 1, 0] rfl)

def f_X8_way (a_all : (Nat → Int32)) (a_takes : (Nat → Int32)) (p1 : Int32) (p2 : Int32) (p3 : Int32) : Option (Int32 × (Nat → Int32)) := (f_X8_isJuggler p1).bind (fun q1 => if q1 = 0 then (some ((-1 : Int32), a_takes)) else ((f_X8_in p2.toInt64 (0 : Int64) (255 : Int64)).bind (fun q3 => if q3 = 0 then (some ((-2 : Int32), a_takes)) else ((f_X8_in p3.toInt64 (0 : Int64) (2 : Int64)).bind (fun q5 => if q5 = 0 then (some ((-2 : Int32), a_takes)) else ((f_X8_findWays a_takes p2).bind (fun q7 => if ((0 : Int32) + p1) < 0 ∨ 46 ≤ ((0 : Int32) + p1).toNatClampNeg then none else (if (a_all ((0 : Int32) + p1).toNatClampNeg) < 0 ∨ 256 ≤ (a_all ((0 : Int32) + p1).toNatClampNeg).toNatClampNeg then none else (if 0 ≤ (q7 (a_all ((0 : Int32) + p1).toNatClampNeg).toNatClampNeg) then (if p3 = 0 then (if (a_all ((0 : Int32) + p1).toNatClampNeg) < 0 ∨ 256 ≤ (a_all ((0 : Int32) + p1).toNatClampNeg).toNatClampNeg then none else (some (q7 (a_all ((0 : Int32) + p1).toNatClampNeg).toNatClampNeg, q7))) else (if (a_all ((0 : Int32) + p1).toNatClampNeg) < 0 ∨ 256 ≤ (a_all ((0 : Int32) + p1).toNatClampNeg).toNatClampNeg then none else (if (q7 (a_all ((0 : Int32) + p1).toNatClampNeg).toNatClampNeg) = 0 then (some ((-6 : Int32), q7)) else ((f_X8_nextThrow q7 (a_all ((0 : Int32) + p1).toNatClampNeg)).bind (fun q14 => f_X8_way_L97 a_all q7 p3 zF (a_all ((0 : Int32) + p1).toNatClampNeg) q14))))) else (some ((-5 : Int32), q7)))))))))))
set_option maxHeartbeats 4000000 in
set_option maxRecDepth 100000 in
theorem c_X8_way (l : Launch) (D : va_G) (cI cR : ClassId) (a : (Nat → Nat)) (a_all : (Nat → Int32)) (a_kept : (Nat → Int32)) (a_history : (Nat → Int32)) (a_historyLong : Int32) (a_slots : (Nat → Int32)) (a_isSaved : (Nat → Int32)) (a_pad : (Nat → Int32)) (a_padLong : Int32) (a_readHeight : (Nat → Int32)) (a_readPass : (Nat → Int32)) (a_readMany : Int32) (a_heights : (Nat → Int32)) (a_many : Int32) (a_takes : (Nat → Int32)) (p1 : Int32) (p2 : Int32) (p3 : Int32) {R : Int32 × (Nat → Int32)} (hf : f_X8_way a_all a_takes p1 p2 p3 = some R) : zM l D cI cR yX8_way cX8_way 6 (some .int) 2 48 [.ref (a 0), .int p1, .int p2, .int p3] [w_X8 cI cR a a_all a_kept a_history a_historyLong a_slots a_isSaved a_pad a_padLong a_readHeight a_readPass a_readMany a_heights a_many a_takes] (some (.int R.1)) [w_X8 cI cR a a_all a_kept a_history a_historyLong a_slots a_isSaved a_pad a_padLong a_readHeight a_readPass a_readMany a_heights a_many R.2] := by
  refine z_of (own := RX8) rfl (by decide) (Nat.le_of_ble_eq_true rfl) ?_
  intro p e s m args below meth c A ls X hr hlocks Z hl
  have hx := X.1.1
  have hb := X.1.2.1
  have Z : zW D A s [w_X8 cI cR a a_all a_kept a_history a_historyLong a_slots a_isSaved a_pad a_padLong a_readHeight a_readPass a_readMany a_heights a_many a_takes] s.heap [] := Z
  have hl : lv_has ls 6 [(0, .ref (a 0)), (1, .int p1), (2, .int p2), (3, .int p3)] := hl
  refine lv_iload_n hx hb dX8_way_0 rfl (lv_at hl 1 rfl) ?_
  obtain ⟨q1, hq1, hf⟩ := ob_s hf
  refine z_roS X Z (c_X8_isJuggler l D cI cR   p1 hq1) (zw_X8_76 X.1.2.2.2.2 ⟨Nat.le_of_ble_eq_true rfl, Nat.le_of_ble_eq_true rfl⟩) [] [0] (by decide : ([] ++ [0] : List Nat).Perm (List.range 1)) rfl rfl hl.1 rfl (Nat.le_of_ble_eq_true rfl) dX8_way_1 ⟨Nat.le_of_ble_eq_true rfl, Nat.le_of_ble_eq_true rfl⟩ (fun H locs Z => ?_)
  refine lv_if_ne (tgt := 9) hx hb dX8_way_4 (by decide) (fun c2 => ?_) (fun c2 => ?_)
  · have hf := it_f c2 hf
    refine lv_iload_n hx hb dX8_way_9 rfl (lv_at hl 2 rfl) ?_
    refine lv_i2l hx hb dX8_way_10 rfl ?_
    refine lv_lconst (v := 0) hx hb dX8_way_11 (by decide) ?_
    refine lv_ldc2 hx hb X.1.2.2.2.1 (X.1.2.2.2.2 _ mk_X8_97) dX8_way_12 ?_
    obtain ⟨q3, hq3, hf⟩ := ob_s hf
    refine z_roS X Z (c_X8_in l D cI cR   p2.toInt64 (0 : Int64) (255 : Int64) hq3) (zw_X8_44 X.1.2.2.2.2 ⟨Nat.le_of_ble_eq_true rfl, Nat.le_of_ble_eq_true rfl⟩) [] [0] (by decide : ([] ++ [0] : List Nat).Perm (List.range 1)) rfl rfl hl.1 rfl (Nat.le_of_ble_eq_true rfl) dX8_way_15 ⟨Nat.le_of_ble_eq_true rfl, Nat.le_of_ble_eq_true rfl⟩ (fun H locs Z => ?_)
    refine lv_if_eq (tgt := 33) hx hb dX8_way_18 (by decide) (fun c4 => ?_) (fun c4 => ?_)
    · have hf := it_t c4 hf
      refine lv_bipush (v := -2) hx hb dX8_way_33 (by decide) ?_
      have hR := so_s hf
      subst hR
      refine z_iret X hr hlocks ?_ dX8_way_35
      exact Z.eq rfl
    · have hf := it_f c4 hf
      refine lv_iload_n hx hb dX8_way_21 rfl (lv_at hl 3 rfl) ?_
      refine lv_i2l hx hb dX8_way_22 rfl ?_
      refine lv_lconst (v := 0) hx hb dX8_way_23 (by decide) ?_
      refine lv_ldc2 hx hb X.1.2.2.2.1 (X.1.2.2.2.2 _ mk_X8_152) dX8_way_24 ?_
      obtain ⟨q5, hq5, hf⟩ := ob_s hf
      refine z_roS X Z (c_X8_in l D cI cR   p3.toInt64 (0 : Int64) (2 : Int64) hq5) (zw_X8_44 X.1.2.2.2.2 ⟨Nat.le_of_ble_eq_true rfl, Nat.le_of_ble_eq_true rfl⟩) [] [0] (by decide : ([] ++ [0] : List Nat).Perm (List.range 1)) rfl rfl hl.1 rfl (Nat.le_of_ble_eq_true rfl) dX8_way_27 ⟨Nat.le_of_ble_eq_true rfl, Nat.le_of_ble_eq_true rfl⟩ (fun H locs Z => ?_)
      refine lv_if_ne (tgt := 36) hx hb dX8_way_30 (by decide) (fun c6 => ?_) (fun c6 => ?_)
      · have hf := it_f c6 hf
        refine lv_aload_n hx hb dX8_way_36 rfl (lv_at hl 0 rfl) ?_
        refine lv_iload_n hx hb dX8_way_37 rfl (lv_at hl 2 rfl) ?_
        obtain ⟨q7, hq7, hf⟩ := ob_s hf
        refine z_callV X Z (c_X8_findWays l D cI cR a a_all a_kept a_history a_historyLong a_slots a_isSaved a_pad a_padLong a_readHeight a_readPass a_readMany a_heights a_many a_takes p2 hq7) (zw_X8_154 X.1.2.2.2.2 ⟨Nat.le_of_ble_eq_true rfl, Nat.le_of_ble_eq_true rfl⟩) 0 8 rfl rfl rfl [0] [] [w_X8 cI cR a a_all a_kept a_history a_historyLong a_slots a_isSaved a_pad a_padLong a_readHeight a_readPass a_readMany a_heights a_many q7] (by decide : ([0] ++ [] : List Nat).Perm (List.range 1)) rfl rfl rfl rfl rfl hl.1 rfl (Nat.le_of_ble_eq_true rfl) dX8_way_38 ⟨Nat.le_of_ble_eq_true rfl, Nat.le_of_ble_eq_true rfl⟩ (fun H locs Z => ?_)
        refine lv_aload_n hx hb dX8_way_41 rfl (lv_at hl 0 rfl) ?_
        refine zg_X8_7 X Z 0 rfl rfl dX8_way_42 ?_
        refine lv_iconst (v := 0) hx hb dX8_way_45 (by decide) ?_
        refine lv_iload_n hx hb dX8_way_46 rfl (lv_at hl 1 rfl) ?_
        refine lv_iadd hx hb dX8_way_47 ?_
        obtain ⟨i8, hf⟩ := in_s hf
        refine z_ld (j := ((0 : Int32) + p1).toNatClampNeg) X Z 1 rfl i8 rfl dX8_way_48 ?_
        refine lv_istore (lv' := [(4, .int (a_all ((0 : Int32) + p1).toNatClampNeg)), (0, .ref (a 0)), (1, .int p1), (2, .int p2), (3, .int p3)]) hx hb dX8_way_49 hl (by decide) rfl (fun ls hl => ?_)
        refine lv_aload_n hx hb dX8_way_51 rfl (lv_at hl 1 rfl) ?_
        refine zg_X8_37 X Z 0 rfl rfl dX8_way_52 ?_
        refine lv_iload hx hb dX8_way_55 (lv_at hl 0 rfl) ?_
        obtain ⟨i9, hf⟩ := in_s hf
        refine z_ld (j := (a_all ((0 : Int32) + p1).toNatClampNeg).toNatClampNeg) X Z 10 rfl i9 rfl dX8_way_57 ?_
        refine lv_if_ge (tgt := 64) hx hb dX8_way_58 (by decide) (fun c10 => ?_) (fun c10 => ?_)
        · have hf := it_t c10 hf
          refine lv_iload_n hx hb dX8_way_64 rfl (lv_at hl 4 rfl) ?_
          refine lv_if_ne (tgt := 76) hx hb dX8_way_65 (by decide) (fun c11 => ?_) (fun c11 => ?_)
          · have hf := it_f c11 hf
            refine lv_aload_n hx hb dX8_way_76 rfl (lv_at hl 1 rfl) ?_
            refine zg_X8_37 X Z 0 rfl rfl dX8_way_77 ?_
            refine lv_iload hx hb dX8_way_80 (lv_at hl 0 rfl) ?_
            obtain ⟨i12, hf⟩ := in_s hf
            refine z_ld (j := (a_all ((0 : Int32) + p1).toNatClampNeg).toNatClampNeg) X Z 10 rfl i12 rfl dX8_way_82 ?_
            refine lv_if_ne (tgt := 89) hx hb dX8_way_83 (by decide) (fun c13 => ?_) (fun c13 => ?_)
            · have hf := it_f c13 hf
              refine lv_aload_n hx hb dX8_way_89 rfl (lv_at hl 1 rfl) ?_
              refine lv_iload hx hb dX8_way_90 (lv_at hl 0 rfl) ?_
              obtain ⟨q14, hq14, hf⟩ := ob_s hf
              refine z_roV X Z (c_X8_nextThrow l D cI cR a a_all a_kept a_history a_historyLong a_slots a_isSaved a_pad a_padLong a_readHeight a_readPass a_readMany a_heights a_many q7 (a_all ((0 : Int32) + p1).toNatClampNeg) hq14) (zw_X8_157 X.1.2.2.2.2 ⟨Nat.le_of_ble_eq_true rfl, Nat.le_of_ble_eq_true rfl⟩) 0 8 rfl rfl rfl [0] [] (by decide : ([0] ++ [] : List Nat).Perm (List.range 1)) rfl rfl hl.1 rfl (Nat.le_of_ble_eq_true rfl) dX8_way_92 ⟨Nat.le_of_ble_eq_true rfl, Nat.le_of_ble_eq_true rfl⟩ (fun H locs Z => ?_)
              refine lv_istore (lv' := [(5, .int q14), (4, .int (a_all ((0 : Int32) + p1).toNatClampNeg)), (0, .ref (a 0)), (1, .int p1), (2, .int p2), (3, .int p3)]) hx hb dX8_way_95 hl (by decide) rfl (fun ls hl => ?_)
              exact w_X8_way_L97 X hr hlocks _ hf Z (lv_sub hl [2, 5, 1, 0] rfl)
            · have hf := it_t c13 hf
              refine lv_bipush (v := -6) hx hb dX8_way_86 (by decide) ?_
              have hR := so_s hf
              subst hR
              refine z_iret X hr hlocks ?_ dX8_way_88
              exact Z.eq rfl
          · have hf := it_t c11 hf
            refine lv_aload_n hx hb dX8_way_68 rfl (lv_at hl 1 rfl) ?_
            refine zg_X8_37 X Z 0 rfl rfl dX8_way_69 ?_
            refine lv_iload hx hb dX8_way_72 (lv_at hl 0 rfl) ?_
            obtain ⟨i20, hf⟩ := in_s hf
            refine z_ld (j := (a_all ((0 : Int32) + p1).toNatClampNeg).toNatClampNeg) X Z 10 rfl i20 rfl dX8_way_74 ?_
            have hR := so_s hf
            subst hR
            refine z_iret X hr hlocks ?_ dX8_way_75
            exact Z.eq rfl
        · have hf := it_f c10 hf
          refine lv_bipush (v := -5) hx hb dX8_way_61 (by decide) ?_
          have hR := so_s hf
          subst hR
          refine z_iret X hr hlocks ?_ dX8_way_63
          exact Z.eq rfl
      · have hf := it_t c6 hf
        refine lv_bipush (v := -2) hx hb dX8_way_33 (by decide) ?_
        have hR := so_s hf
        subst hR
        refine z_iret X hr hlocks ?_ dX8_way_35
        exact Z.eq rfl
  · have hf := it_t c2 hf
    refine lv_iconst (v := -1) hx hb dX8_way_7 (by decide) ?_
    have hR := so_s hf
    subst hR
    refine z_iret X hr hlocks ?_ dX8_way_8
    exact Z.eq rfl
def f_X8_howMany_L50 (a_many : Int32) (x1 : Int32) (x2 : Int32) (x3 : Int32) (x4 : Int32) (k : Int32 → Int32 → (Nat → Int32) → Option (Int32 × (Nat → Int32) × Int32)) : Nat → Int32 → (Nat → Int32) → Option (Int32 × (Nat → Int32) × Int32)
  | 0, _, _ => none
  | n + 1, x5, a_heights => if x1 ≤ x5 then ((f_X8_sumOfHeights a_heights a_many).bind (fun q7 => if q7 = (x2 * x1) then ((f_X8_isSound a_heights a_many).bind (fun q9 => if q9 = 0 then (k (x3 + (0 : Int32)) (x4 + (1 : Int32)) a_heights) else (k (x3 + (1 : Int32)) (x4 + (1 : Int32)) a_heights))) else (k (x3 + (0 : Int32)) (x4 + (1 : Int32)) a_heights))) else (if x5 < 0 ∨ 8 ≤ x5.toNatClampNeg then none else (f_X8_howMany_L50 a_many x1 x2 x3 x4 k n (x5 + (1 : Int32)) (upd a_heights x5.toNatClampNeg ((x4 >>> (((3 : Int32) * x5) &&& 31)) &&& (7 : Int32)))))
set_option maxHeartbeats 4000000 in
set_option maxRecDepth 100000 in
theorem w_X8_howMany_L50 {p : Program} {l : Launch} {e : Env} {s : State} {m : MethodId} {args : Array Value} {below : List Frame} {meth : Method} {c : Code} {D : va_G} {cI cR : ClassId} {A : Nat → Prop} {a : (Nat → Nat)} {a_all : (Nat → Int32)} {a_kept : (Nat → Int32)} {a_history : (Nat → Int32)} {a_historyLong : Int32} {a_slots : (Nat → Int32)} {a_isSaved : (Nat → Int32)} {a_pad : (Nat → Int32)} {a_padLong : Int32} {a_readHeight : (Nat → Int32)} {a_readPass : (Nat → Int32)} {a_readMany : Int32} {a_many : Int32} {a_takes : (Nat → Int32)} {x1 : Int32} {x2 : Int32} {x3 : Int32} {x4 : Int32} {R : Int32 × (Nat → Int32) × Int32} {k : Int32 → Int32 → (Nat → Int32) → Option (Int32 × (Nat → Int32) × Int32)} (hk : ∀ {x3 : Int32} {x4 : Int32} {a_heights : (Nat → Int32)} {H : Heap} {locs : List Loc} {ls : Array Slot}, k x3 x4 a_heights = some R → zW D A s [w_X8 cI cR a a_all a_kept a_history a_historyLong a_slots a_isSaved a_pad a_padLong a_readHeight a_readPass a_readMany a_heights a_many a_takes] H locs → lv_has ls 6 [(0, .ref (a 0)), (1, .int x1), (2, .int x2), (3, .int x3), (4, .int x4)] → W p l e ({ frames := 2, cells := 0, slots := 0, locals := 43 } : Room) s m args below meth c H locs 0 0 (zE D A below s args (some (.int R.1)) [w_X8 cI cR a a_all a_kept a_history a_historyLong a_slots a_isSaved a_pad a_padLong a_readHeight a_readPass a_readMany R.2.1 R.2.2 a_takes]) (F0 m 37 ls [])) (X : zX p s m c cX8_howMany 6 args RX8 D cI cR A) (hr : meth.sig.returnType = (some .int)) (hlocks : meth.locks = false) : ∀ (n : Nat)  {x5 : Int32} {a_heights : (Nat → Int32)} {H : Heap} {locs : List Loc} {ls : Array Slot}, f_X8_howMany_L50 a_many x1 x2 x3 x4 k n x5 a_heights = some R → zW D A s [w_X8 cI cR a a_all a_kept a_history a_historyLong a_slots a_isSaved a_pad a_padLong a_readHeight a_readPass a_readMany a_heights a_many a_takes] H locs → lv_has ls 6 [(0, .ref (a 0)), (1, .int x1), (2, .int x2), (3, .int x3), (4, .int x4), (5, .int x5)] → W p l e ({ frames := 2, cells := 0, slots := 0, locals := 43 } : Room) s m args below meth c H locs 0 0 (zE D A below s args (some (.int R.1)) [w_X8 cI cR a a_all a_kept a_history a_historyLong a_slots a_isSaved a_pad a_padLong a_readHeight a_readPass a_readMany R.2.1 R.2.2 a_takes]) (F0 m 50 ls []) := by
  have hx := X.1.1
  have hb := X.1.2.1
  intro n
  induction n with
  | zero =>
    intro x5 a_heights H locs ls hf
    have hf : none = some R := hf
    cases hf
  | succ n ih =>
    intro x5 a_heights H locs ls hf Z hl
    refine lv_iload hx hb dX8_howMany_50 (lv_at hl 5 rfl) ?_
    refine lv_iload_n hx hb dX8_howMany_52 rfl (lv_at hl 1 rfl) ?_
    refine lv_icmp_ge (tgt := 79) hx hb dX8_howMany_53 (by decide) (fun c6 => ?_) (fun c6 => ?_)
    · have hf := it_t c6 hf
      refine lv_iload_n hx hb dX8_howMany_79 rfl (lv_at hl 3 rfl) ?_
      refine lv_aload_n hx hb dX8_howMany_80 rfl (lv_at hl 0 rfl) ?_
      obtain ⟨q7, hq7, hf⟩ := ob_s hf
      refine z_roV X Z (c_X8_sumOfHeights l D cI cR a a_all a_kept a_history a_historyLong a_slots a_isSaved a_pad a_padLong a_readHeight a_readPass a_readMany a_heights a_many a_takes  hq7) (zw_X8_125 X.1.2.2.2.2 ⟨Nat.le_of_ble_eq_true rfl, Nat.le_of_ble_eq_true rfl⟩) 0 8 rfl rfl rfl [0] [] (by decide : ([0] ++ [] : List Nat).Perm (List.range 1)) rfl rfl hl.1 rfl (Nat.le_of_ble_eq_true rfl) dX8_howMany_81 ⟨Nat.le_of_ble_eq_true rfl, Nat.le_of_ble_eq_true rfl⟩ (fun H locs Z => ?_)
      refine lv_iload_n hx hb dX8_howMany_84 rfl (lv_at hl 2 rfl) ?_
      refine lv_iload_n hx hb dX8_howMany_85 rfl (lv_at hl 1 rfl) ?_
      refine lv_imul hx hb dX8_howMany_86 ?_
      refine lv_icmp_ne (tgt := 101) hx hb dX8_howMany_87 (by decide) (fun c8 => ?_) (fun c8 => ?_)
      · have hf := it_f c8 hf
        refine lv_iconst (v := 0) hx hb dX8_howMany_101 (by decide) ?_
        refine lv_iadd hx hb dX8_howMany_102 ?_
        refine lv_istore_n (lv' := [(3, .int (x3 + (0 : Int32))), (0, .ref (a 0)), (1, .int x1), (2, .int x2), (4, .int x4), (5, .int x5)]) hx hb dX8_howMany_103 rfl hl (by decide) rfl (fun ls hl => ?_)
        refine lv_iinc (v := x4 + (1 : Int32)) (lv' := [(4, .int (x4 + (1 : Int32))), (3, .int (x3 + (0 : Int32))), (0, .ref (a 0)), (1, .int x1), (2, .int x2), (5, .int x5)]) hx hb dX8_howMany_104 hl (k := 4) rfl rfl (by decide) rfl (fun ls hl => ?_)
        refine lv_goto (tgt := 37) hx hb dX8_howMany_107 (by decide) ?_
        exact hk hf Z (lv_sub hl [2, 3, 4, 1, 0] rfl)
      · have hf := it_t c8 hf
        refine lv_aload_n hx hb dX8_howMany_90 rfl (lv_at hl 0 rfl) ?_
        obtain ⟨q9, hq9, hf⟩ := ob_s hf
        refine z_roV X Z (c_X8_isSound l D cI cR a a_all a_kept a_history a_historyLong a_slots a_isSaved a_pad a_padLong a_readHeight a_readPass a_readMany a_heights a_many a_takes  hq9) (zw_X8_142 X.1.2.2.2.2 ⟨Nat.le_of_ble_eq_true rfl, Nat.le_of_ble_eq_true rfl⟩) 0 8 rfl rfl rfl [0] [] (by decide : ([0] ++ [] : List Nat).Perm (List.range 1)) rfl rfl hl.1 rfl (Nat.le_of_ble_eq_true rfl) dX8_howMany_91 ⟨Nat.le_of_ble_eq_true rfl, Nat.le_of_ble_eq_true rfl⟩ (fun H locs Z => ?_)
        refine lv_if_eq (tgt := 101) hx hb dX8_howMany_94 (by decide) (fun c10 => ?_) (fun c10 => ?_)
        · have hf := it_t c10 hf
          refine lv_iconst (v := 0) hx hb dX8_howMany_101 (by decide) ?_
          refine lv_iadd hx hb dX8_howMany_102 ?_
          refine lv_istore_n (lv' := [(3, .int (x3 + (0 : Int32))), (0, .ref (a 0)), (1, .int x1), (2, .int x2), (4, .int x4), (5, .int x5)]) hx hb dX8_howMany_103 rfl hl (by decide) rfl (fun ls hl => ?_)
          refine lv_iinc (v := x4 + (1 : Int32)) (lv' := [(4, .int (x4 + (1 : Int32))), (3, .int (x3 + (0 : Int32))), (0, .ref (a 0)), (1, .int x1), (2, .int x2), (5, .int x5)]) hx hb dX8_howMany_104 hl (k := 4) rfl rfl (by decide) rfl (fun ls hl => ?_)
          refine lv_goto (tgt := 37) hx hb dX8_howMany_107 (by decide) ?_
          exact hk hf Z (lv_sub hl [2, 3, 4, 1, 0] rfl)
        · have hf := it_f c10 hf
          refine lv_iconst (v := 1) hx hb dX8_howMany_97 (by decide) ?_
          refine lv_goto (tgt := 102) hx hb dX8_howMany_98 (by decide) ?_
          refine lv_iadd hx hb dX8_howMany_102 ?_
          refine lv_istore_n (lv' := [(3, .int (x3 + (1 : Int32))), (0, .ref (a 0)), (1, .int x1), (2, .int x2), (4, .int x4), (5, .int x5)]) hx hb dX8_howMany_103 rfl hl (by decide) rfl (fun ls hl => ?_)
          refine lv_iinc (v := x4 + (1 : Int32)) (lv' := [(4, .int (x4 + (1 : Int32))), (3, .int (x3 + (1 : Int32))), (0, .ref (a 0)), (1, .int x1), (2, .int x2), (5, .int x5)]) hx hb dX8_howMany_104 hl (k := 4) rfl rfl (by decide) rfl (fun ls hl => ?_)
          refine lv_goto (tgt := 37) hx hb dX8_howMany_107 (by decide) ?_
          exact hk hf Z (lv_sub hl [2, 3, 4, 1, 0] rfl)
    · have hf := it_f c6 hf
      refine lv_aload_n hx hb dX8_howMany_56 rfl (lv_at hl 0 rfl) ?_
      refine zg_X8_34 X Z 0 rfl rfl dX8_howMany_57 ?_
      refine lv_iload hx hb dX8_howMany_60 (lv_at hl 5 rfl) ?_
      refine lv_iload hx hb dX8_howMany_62 (lv_at hl 4 rfl) ?_
      refine lv_iconst (v := 3) hx hb dX8_howMany_64 (by decide) ?_
      refine lv_iload hx hb dX8_howMany_65 (lv_at hl 5 rfl) ?_
      refine lv_imul hx hb dX8_howMany_67 ?_
      refine lv_ishr hx hb dX8_howMany_68 ?_
      refine lv_bipush (v := 7) hx hb dX8_howMany_69 (by decide) ?_
      refine lv_iand hx hb dX8_howMany_71 ?_
      obtain ⟨i11, hf⟩ := in_s hf
      refine z_st (j := x5.toNatClampNeg) X Z 9 rfl i11 rfl [w_X8 cI cR a a_all a_kept a_history a_historyLong a_slots a_isSaved a_pad a_padLong a_readHeight a_readPass a_readMany (upd a_heights x5.toNatClampNeg ((x4 >>> (((3 : Int32) * x5) &&& 31)) &&& (7 : Int32))) a_many a_takes] rfl dX8_howMany_72 (fun H locs Z => ?_)
      refine lv_iinc (v := x5 + (1 : Int32)) (lv' := [(5, .int (x5 + (1 : Int32))), (0, .ref (a 0)), (1, .int x1), (2, .int x2), (3, .int x3), (4, .int x4)]) hx hb dX8_howMany_73 hl (k := 5) rfl rfl (by decide) rfl (fun ls hl => ?_)
      refine lv_goto (tgt := 50) hx hb dX8_howMany_76 (by decide) ?_
      exact ih hf Z (lv_sub hl [1, 2, 3, 4, 5, 0] rfl)

def f_X8_howMany_L37 (a_many : Int32) (x1 : Int32) (x2 : Int32) : Nat → Int32 → Int32 → (Nat → Int32) → Option (Int32 × (Nat → Int32) × Int32)
  | 0, _, _, _ => none
  | n + 1, x3, x4, a_heights => if ((1 : Int32) <<< (((3 : Int32) * x1) &&& 31)) ≤ x4 then (some (x3, a_heights, a_many)) else (f_X8_howMany_L50 a_many x1 x2 x3 x4 (fun x3 x4 a_heights => f_X8_howMany_L37 a_many x1 x2 n x3 x4 a_heights) zF (0 : Int32) a_heights)
set_option maxHeartbeats 4000000 in
set_option maxRecDepth 100000 in
theorem w_X8_howMany_L37 {p : Program} {l : Launch} {e : Env} {s : State} {m : MethodId} {args : Array Value} {below : List Frame} {meth : Method} {c : Code} {D : va_G} {cI cR : ClassId} {A : Nat → Prop} {a : (Nat → Nat)} {a_all : (Nat → Int32)} {a_kept : (Nat → Int32)} {a_history : (Nat → Int32)} {a_historyLong : Int32} {a_slots : (Nat → Int32)} {a_isSaved : (Nat → Int32)} {a_pad : (Nat → Int32)} {a_padLong : Int32} {a_readHeight : (Nat → Int32)} {a_readPass : (Nat → Int32)} {a_readMany : Int32} {a_many : Int32} {a_takes : (Nat → Int32)} {x1 : Int32} {x2 : Int32} {R : Int32 × (Nat → Int32) × Int32} (X : zX p s m c cX8_howMany 6 args RX8 D cI cR A) (hr : meth.sig.returnType = (some .int)) (hlocks : meth.locks = false) : ∀ (n : Nat)  {x3 : Int32} {x4 : Int32} {a_heights : (Nat → Int32)} {H : Heap} {locs : List Loc} {ls : Array Slot}, f_X8_howMany_L37 a_many x1 x2 n x3 x4 a_heights = some R → zW D A s [w_X8 cI cR a a_all a_kept a_history a_historyLong a_slots a_isSaved a_pad a_padLong a_readHeight a_readPass a_readMany a_heights a_many a_takes] H locs → lv_has ls 6 [(0, .ref (a 0)), (1, .int x1), (2, .int x2), (3, .int x3), (4, .int x4)] → W p l e ({ frames := 2, cells := 0, slots := 0, locals := 43 } : Room) s m args below meth c H locs 0 0 (zE D A below s args (some (.int R.1)) [w_X8 cI cR a a_all a_kept a_history a_historyLong a_slots a_isSaved a_pad a_padLong a_readHeight a_readPass a_readMany R.2.1 R.2.2 a_takes]) (F0 m 37 ls []) := by
  have hx := X.1.1
  have hb := X.1.2.1
  intro n
  induction n with
  | zero =>
    intro x3 x4 a_heights H locs ls hf
    have hf : none = some R := hf
    cases hf
  | succ n ih =>
    intro x3 x4 a_heights H locs ls hf Z hl
    refine lv_iload hx hb dX8_howMany_37 (lv_at hl 4 rfl) ?_
    refine lv_iconst (v := 1) hx hb dX8_howMany_39 (by decide) ?_
    refine lv_iconst (v := 3) hx hb dX8_howMany_40 (by decide) ?_
    refine lv_iload_n hx hb dX8_howMany_41 rfl (lv_at hl 1 rfl) ?_
    refine lv_imul hx hb dX8_howMany_42 ?_
    refine lv_ishl hx hb dX8_howMany_43 ?_
    refine lv_icmp_ge (tgt := 110) hx hb dX8_howMany_44 (by decide) (fun c5 => ?_) (fun c5 => ?_)
    · have hf := it_t c5 hf
      refine lv_iload_n hx hb dX8_howMany_110 rfl (lv_at hl 3 rfl) ?_
      have hR := so_s hf
      subst hR
      refine z_iret X hr hlocks ?_ dX8_howMany_111
      exact Z.eq rfl
    · have hf := it_f c5 hf
      refine lv_iconst (v := 0) hx hb dX8_howMany_47 (by decide) ?_
      refine lv_istore (lv' := [(5, .int (0 : Int32)), (0, .ref (a 0)), (1, .int x1), (2, .int x2), (3, .int x3), (4, .int x4)]) hx hb dX8_howMany_48 hl (by decide) rfl (fun ls hl => ?_)
      exact w_X8_howMany_L50 (hk := @ih) X hr hlocks _ hf Z (lv_sub hl [1, 2, 3, 4, 5, 0] rfl)

def f_X8_howMany (a_heights : (Nat → Int32)) (a_many : Int32) (p1 : Int32) (p2 : Int32) : Option (Int32 × (Nat → Int32) × Int32) := (f_X8_in p1.toInt64 (1 : Int64) (5 : Int64)).bind (fun q1 => if q1 = 0 then (some ((-2 : Int32), a_heights, a_many)) else ((f_X8_in p2.toInt64 (0 : Int64) (7 : Int64)).bind (fun q3 => if q3 = 0 then (some ((-2 : Int32), a_heights, a_many)) else (f_X8_howMany_L37 p1 p1 p2 zF (0 : Int32) (0 : Int32) a_heights))))
set_option maxHeartbeats 4000000 in
set_option maxRecDepth 100000 in
theorem c_X8_howMany (l : Launch) (D : va_G) (cI cR : ClassId) (a : (Nat → Nat)) (a_all : (Nat → Int32)) (a_kept : (Nat → Int32)) (a_history : (Nat → Int32)) (a_historyLong : Int32) (a_slots : (Nat → Int32)) (a_isSaved : (Nat → Int32)) (a_pad : (Nat → Int32)) (a_padLong : Int32) (a_readHeight : (Nat → Int32)) (a_readPass : (Nat → Int32)) (a_readMany : Int32) (a_heights : (Nat → Int32)) (a_many : Int32) (a_takes : (Nat → Int32)) (p1 : Int32) (p2 : Int32) {R : Int32 × (Nat → Int32) × Int32} (hf : f_X8_howMany a_heights a_many p1 p2 = some R) : zM l D cI cR yX8_howMany cX8_howMany 6 (some .int) 2 43 [.ref (a 0), .int p1, .int p2] [w_X8 cI cR a a_all a_kept a_history a_historyLong a_slots a_isSaved a_pad a_padLong a_readHeight a_readPass a_readMany a_heights a_many a_takes] (some (.int R.1)) [w_X8 cI cR a a_all a_kept a_history a_historyLong a_slots a_isSaved a_pad a_padLong a_readHeight a_readPass a_readMany R.2.1 R.2.2 a_takes] := by
  refine z_of (own := RX8) rfl (by decide) (Nat.le_of_ble_eq_true rfl) ?_
  intro p e s m args below meth c A ls X hr hlocks Z hl
  have hx := X.1.1
  have hb := X.1.2.1
  have Z : zW D A s [w_X8 cI cR a a_all a_kept a_history a_historyLong a_slots a_isSaved a_pad a_padLong a_readHeight a_readPass a_readMany a_heights a_many a_takes] s.heap [] := Z
  have hl : lv_has ls 6 [(0, .ref (a 0)), (1, .int p1), (2, .int p2)] := hl
  refine lv_iload_n hx hb dX8_howMany_0 rfl (lv_at hl 1 rfl) ?_
  refine lv_i2l hx hb dX8_howMany_1 rfl ?_
  refine lv_lconst (v := 1) hx hb dX8_howMany_2 (by decide) ?_
  refine lv_ldc2 hx hb X.1.2.2.2.1 (X.1.2.2.2.2 _ mk_X8_160) dX8_howMany_3 ?_
  obtain ⟨q1, hq1, hf⟩ := ob_s hf
  refine z_roS X Z (c_X8_in l D cI cR   p1.toInt64 (1 : Int64) (5 : Int64) hq1) (zw_X8_44 X.1.2.2.2.2 ⟨Nat.le_of_ble_eq_true rfl, Nat.le_of_ble_eq_true rfl⟩) [] [0] (by decide : ([] ++ [0] : List Nat).Perm (List.range 1)) rfl rfl hl.1 rfl (Nat.le_of_ble_eq_true rfl) dX8_howMany_6 ⟨Nat.le_of_ble_eq_true rfl, Nat.le_of_ble_eq_true rfl⟩ (fun H locs Z => ?_)
  refine lv_if_eq (tgt := 24) hx hb dX8_howMany_9 (by decide) (fun c2 => ?_) (fun c2 => ?_)
  · have hf := it_t c2 hf
    refine lv_bipush (v := -2) hx hb dX8_howMany_24 (by decide) ?_
    have hR := so_s hf
    subst hR
    refine z_iret X hr hlocks ?_ dX8_howMany_26
    exact Z.eq rfl
  · have hf := it_f c2 hf
    refine lv_iload_n hx hb dX8_howMany_12 rfl (lv_at hl 2 rfl) ?_
    refine lv_i2l hx hb dX8_howMany_13 rfl ?_
    refine lv_lconst (v := 0) hx hb dX8_howMany_14 (by decide) ?_
    refine lv_ldc2 hx hb X.1.2.2.2.1 (X.1.2.2.2.2 _ mk_X8_48) dX8_howMany_15 ?_
    obtain ⟨q3, hq3, hf⟩ := ob_s hf
    refine z_roS X Z (c_X8_in l D cI cR   p2.toInt64 (0 : Int64) (7 : Int64) hq3) (zw_X8_44 X.1.2.2.2.2 ⟨Nat.le_of_ble_eq_true rfl, Nat.le_of_ble_eq_true rfl⟩) [] [0] (by decide : ([] ++ [0] : List Nat).Perm (List.range 1)) rfl rfl hl.1 rfl (Nat.le_of_ble_eq_true rfl) dX8_howMany_18 ⟨Nat.le_of_ble_eq_true rfl, Nat.le_of_ble_eq_true rfl⟩ (fun H locs Z => ?_)
    refine lv_if_ne (tgt := 27) hx hb dX8_howMany_21 (by decide) (fun c4 => ?_) (fun c4 => ?_)
    · have hf := it_f c4 hf
      refine lv_aload_n hx hb dX8_howMany_27 rfl (lv_at hl 0 rfl) ?_
      refine lv_iload_n hx hb dX8_howMany_28 rfl (lv_at hl 1 rfl) ?_
      refine zp_X8_113 X Z 0 rfl (Nat.le_of_ble_eq_true rfl) [w_X8 cI cR a a_all a_kept a_history a_historyLong a_slots a_isSaved a_pad a_padLong a_readHeight a_readPass a_readMany a_heights p1 a_takes] rfl dX8_howMany_29 (fun H locs Z => ?_)
      refine lv_iconst (v := 0) hx hb dX8_howMany_32 (by decide) ?_
      refine lv_istore_n (lv' := [(3, .int (0 : Int32)), (0, .ref (a 0)), (1, .int p1), (2, .int p2)]) hx hb dX8_howMany_33 rfl hl (by decide) rfl (fun ls hl => ?_)
      refine lv_iconst (v := 0) hx hb dX8_howMany_34 (by decide) ?_
      refine lv_istore (lv' := [(4, .int (0 : Int32)), (3, .int (0 : Int32)), (0, .ref (a 0)), (1, .int p1), (2, .int p2)]) hx hb dX8_howMany_35 hl (by decide) rfl (fun ls hl => ?_)
      exact w_X8_howMany_L37 X hr hlocks _ hf Z (lv_sub hl [2, 3, 4, 1, 0] rfl)
    · have hf := it_t c4 hf
      refine lv_bipush (v := -2) hx hb dX8_howMany_24 (by decide) ?_
      have hR := so_s hf
      subst hR
      refine z_iret X hr hlocks ?_ dX8_howMany_26
      exact Z.eq rfl
def f_X8_undo_L22 (a_history : (Nat → Int32)) (a_historyLong : Int32) : Nat → Int32 → (Nat → Int32) → Option (Int32 × (Nat → Int32) × Int32)
  | 0, _, _ => none
  | n + 1, x1, a_all => if (46 : Int32) ≤ x1 then (some (a_historyLong, a_all, a_historyLong)) else (if (((46 : Int32) * a_historyLong) + x1) < 0 ∨ 276 ≤ (((46 : Int32) * a_historyLong) + x1).toNatClampNeg then none else (if x1 < 0 ∨ 46 ≤ x1.toNatClampNeg then none else (f_X8_undo_L22 a_history a_historyLong n (x1 + (1 : Int32)) (upd a_all x1.toNatClampNeg (a_history (((46 : Int32) * a_historyLong) + x1).toNatClampNeg)))))
set_option maxHeartbeats 4000000 in
set_option maxRecDepth 100000 in
theorem w_X8_undo_L22 {p : Program} {l : Launch} {e : Env} {s : State} {m : MethodId} {args : Array Value} {below : List Frame} {meth : Method} {c : Code} {D : va_G} {cI cR : ClassId} {A : Nat → Prop} {a : (Nat → Nat)} {a_kept : (Nat → Int32)} {a_history : (Nat → Int32)} {a_historyLong : Int32} {a_slots : (Nat → Int32)} {a_isSaved : (Nat → Int32)} {a_pad : (Nat → Int32)} {a_padLong : Int32} {a_readHeight : (Nat → Int32)} {a_readPass : (Nat → Int32)} {a_readMany : Int32} {a_heights : (Nat → Int32)} {a_many : Int32} {a_takes : (Nat → Int32)} {R : Int32 × (Nat → Int32) × Int32} (X : zX p s m c cX8_undo 2 args RX8 D cI cR A) (hr : meth.sig.returnType = (some .int)) (hlocks : meth.locks = false) : ∀ (n : Nat)  {x1 : Int32} {a_all : (Nat → Int32)} {H : Heap} {locs : List Loc} {ls : Array Slot}, f_X8_undo_L22 a_history a_historyLong n x1 a_all = some R → zW D A s [w_X8 cI cR a a_all a_kept a_history a_historyLong a_slots a_isSaved a_pad a_padLong a_readHeight a_readPass a_readMany a_heights a_many a_takes] H locs → lv_has ls 2 [(0, .ref (a 0)), (1, .int x1)] → W p l e ({ frames := 0, cells := 0, slots := 0, locals := 0 } : Room) s m args below meth c H locs 0 0 (zE D A below s args (some (.int R.1)) [w_X8 cI cR a R.2.1 a_kept a_history R.2.2 a_slots a_isSaved a_pad a_padLong a_readHeight a_readPass a_readMany a_heights a_many a_takes]) (F0 m 22 ls []) := by
  have hx := X.1.1
  have hb := X.1.2.1
  intro n
  induction n with
  | zero =>
    intro x1 a_all H locs ls hf
    have hf : none = some R := hf
    cases hf
  | succ n ih =>
    intro x1 a_all H locs ls hf Z hl
    refine lv_iload_n hx hb dX8_undo_22 rfl (lv_at hl 1 rfl) ?_
    refine lv_bipush (v := 46) hx hb dX8_undo_23 (by decide) ?_
    refine lv_icmp_ge (tgt := 54) hx hb dX8_undo_25 (by decide) (fun c2 => ?_) (fun c2 => ?_)
    · have hf := it_t c2 hf
      refine lv_aload_n hx hb dX8_undo_54 rfl (lv_at hl 0 rfl) ?_
      refine zg_X8_40 X Z 0 rfl rfl dX8_undo_55 ?_
      have hR := so_s hf
      subst hR
      refine z_iret X hr hlocks ?_ dX8_undo_58
      exact Z.eq rfl
    · have hf := it_f c2 hf
      refine lv_aload_n hx hb dX8_undo_28 rfl (lv_at hl 0 rfl) ?_
      refine zg_X8_7 X Z 0 rfl rfl dX8_undo_29 ?_
      refine lv_iload_n hx hb dX8_undo_32 rfl (lv_at hl 1 rfl) ?_
      refine lv_aload_n hx hb dX8_undo_33 rfl (lv_at hl 0 rfl) ?_
      refine zg_X8_16 X Z 0 rfl rfl dX8_undo_34 ?_
      refine lv_bipush (v := 46) hx hb dX8_undo_37 (by decide) ?_
      refine lv_aload_n hx hb dX8_undo_39 rfl (lv_at hl 0 rfl) ?_
      refine zg_X8_40 X Z 0 rfl rfl dX8_undo_40 ?_
      refine lv_imul hx hb dX8_undo_43 ?_
      refine lv_iload_n hx hb dX8_undo_44 rfl (lv_at hl 1 rfl) ?_
      refine lv_iadd hx hb dX8_undo_45 ?_
      obtain ⟨i3, hf⟩ := in_s hf
      refine z_ld (j := (((46 : Int32) * a_historyLong) + x1).toNatClampNeg) X Z 3 rfl i3 rfl dX8_undo_46 ?_
      obtain ⟨i4, hf⟩ := in_s hf
      refine z_st (j := x1.toNatClampNeg) X Z 1 rfl i4 rfl [w_X8 cI cR a (upd a_all x1.toNatClampNeg (a_history (((46 : Int32) * a_historyLong) + x1).toNatClampNeg)) a_kept a_history a_historyLong a_slots a_isSaved a_pad a_padLong a_readHeight a_readPass a_readMany a_heights a_many a_takes] rfl dX8_undo_47 (fun H locs Z => ?_)
      refine lv_iinc (v := x1 + (1 : Int32)) (lv' := [(1, .int (x1 + (1 : Int32))), (0, .ref (a 0))]) hx hb dX8_undo_48 hl (k := 1) rfl rfl (by decide) rfl (fun ls hl => ?_)
      refine lv_goto (tgt := 22) hx hb dX8_undo_51 (by decide) ?_
      exact ih hf Z (lv_sub hl [1, 0] rfl)

def f_X8_undo (a_all : (Nat → Int32)) (a_history : (Nat → Int32)) (a_historyLong : Int32) : Option (Int32 × (Nat → Int32) × Int32) := if a_historyLong = 0 then (some ((-5 : Int32), a_all, a_historyLong)) else (f_X8_undo_L22 a_history (a_historyLong - (1 : Int32)) zF (0 : Int32) a_all)
set_option maxHeartbeats 4000000 in
set_option maxRecDepth 100000 in
theorem c_X8_undo (l : Launch) (D : va_G) (cI cR : ClassId) (a : (Nat → Nat)) (a_all : (Nat → Int32)) (a_kept : (Nat → Int32)) (a_history : (Nat → Int32)) (a_historyLong : Int32) (a_slots : (Nat → Int32)) (a_isSaved : (Nat → Int32)) (a_pad : (Nat → Int32)) (a_padLong : Int32) (a_readHeight : (Nat → Int32)) (a_readPass : (Nat → Int32)) (a_readMany : Int32) (a_heights : (Nat → Int32)) (a_many : Int32) (a_takes : (Nat → Int32)) {R : Int32 × (Nat → Int32) × Int32} (hf : f_X8_undo a_all a_history a_historyLong = some R) : zM l D cI cR yX8_undo cX8_undo 2 (some .int) 0 0 [.ref (a 0)] [w_X8 cI cR a a_all a_kept a_history a_historyLong a_slots a_isSaved a_pad a_padLong a_readHeight a_readPass a_readMany a_heights a_many a_takes] (some (.int R.1)) [w_X8 cI cR a R.2.1 a_kept a_history R.2.2 a_slots a_isSaved a_pad a_padLong a_readHeight a_readPass a_readMany a_heights a_many a_takes] := by
  refine z_of (own := RX8) rfl (by decide) (Nat.le_of_ble_eq_true rfl) ?_
  intro p e s m args below meth c A ls X hr hlocks Z hl
  have hx := X.1.1
  have hb := X.1.2.1
  have Z : zW D A s [w_X8 cI cR a a_all a_kept a_history a_historyLong a_slots a_isSaved a_pad a_padLong a_readHeight a_readPass a_readMany a_heights a_many a_takes] s.heap [] := Z
  have hl : lv_has ls 2 [(0, .ref (a 0))] := hl
  refine lv_aload_n hx hb dX8_undo_0 rfl (lv_at hl 0 rfl) ?_
  refine zg_X8_40 X Z 0 rfl rfl dX8_undo_1 ?_
  refine lv_if_ne (tgt := 10) hx hb dX8_undo_4 (by decide) (fun c1 => ?_) (fun c1 => ?_)
  · have hf := it_f c1 hf
    refine lv_aload_n hx hb dX8_undo_10 rfl (lv_at hl 0 rfl) ?_
    refine lv_dup hx hb dX8_undo_11 rfl ?_
    refine zg_X8_40 X Z 0 rfl rfl dX8_undo_12 ?_
    refine lv_iconst (v := 1) hx hb dX8_undo_15 (by decide) ?_
    refine lv_isub hx hb dX8_undo_16 ?_
    refine zp_X8_40 X Z 0 rfl (Nat.le_of_ble_eq_true rfl) [w_X8 cI cR a a_all a_kept a_history (a_historyLong - (1 : Int32)) a_slots a_isSaved a_pad a_padLong a_readHeight a_readPass a_readMany a_heights a_many a_takes] rfl dX8_undo_17 (fun H locs Z => ?_)
    refine lv_iconst (v := 0) hx hb dX8_undo_20 (by decide) ?_
    refine lv_istore_n (lv' := [(1, .int (0 : Int32)), (0, .ref (a 0))]) hx hb dX8_undo_21 rfl hl (by decide) rfl (fun ls hl => ?_)
    exact w_X8_undo_L22 X hr hlocks _ hf Z (lv_sub hl [1, 0] rfl)
  · have hf := it_t c1 hf
    refine lv_bipush (v := -5) hx hb dX8_undo_7 (by decide) ?_
    have hR := so_s hf
    subst hR
    refine z_iret X hr hlocks ?_ dX8_undo_9
    exact Z.eq rfl
def f_X8_save_L15 (a_all : (Nat → Int32)) (a_isSaved : (Nat → Int32)) (x1 : Int32) : Nat → Int32 → (Nat → Int32) → Option (Int32 × (Nat → Int32) × (Nat → Int32))
  | 0, _, _ => none
  | n + 1, x2, a_slots => if (46 : Int32) ≤ x2 then (if x1 < 0 ∨ 2 ≤ x1.toNatClampNeg then none else ((f_X8_clubs a_all).bind (fun q5 => some (q5, a_slots, upd a_isSaved x1.toNatClampNeg (1 : Int32))))) else (if x2 < 0 ∨ 46 ≤ x2.toNatClampNeg then none else (if (((46 : Int32) * x1) + x2) < 0 ∨ 92 ≤ (((46 : Int32) * x1) + x2).toNatClampNeg then none else (f_X8_save_L15 a_all a_isSaved x1 n (x2 + (1 : Int32)) (upd a_slots ((((46 : Int32) * x1) + x2).toNatClampNeg) (a_all x2.toNatClampNeg)))))
set_option maxHeartbeats 4000000 in
set_option maxRecDepth 100000 in
theorem w_X8_save_L15 {p : Program} {l : Launch} {e : Env} {s : State} {m : MethodId} {args : Array Value} {below : List Frame} {meth : Method} {c : Code} {D : va_G} {cI cR : ClassId} {A : Nat → Prop} {a : (Nat → Nat)} {a_all : (Nat → Int32)} {a_kept : (Nat → Int32)} {a_history : (Nat → Int32)} {a_historyLong : Int32} {a_isSaved : (Nat → Int32)} {a_pad : (Nat → Int32)} {a_padLong : Int32} {a_readHeight : (Nat → Int32)} {a_readPass : (Nat → Int32)} {a_readMany : Int32} {a_heights : (Nat → Int32)} {a_many : Int32} {a_takes : (Nat → Int32)} {x1 : Int32} {R : Int32 × (Nat → Int32) × (Nat → Int32)} (X : zX p s m c cX8_save 3 args RX8 D cI cR A) (hr : meth.sig.returnType = (some .int)) (hlocks : meth.locks = false) : ∀ (n : Nat)  {x2 : Int32} {a_slots : (Nat → Int32)} {H : Heap} {locs : List Loc} {ls : Array Slot}, f_X8_save_L15 a_all a_isSaved x1 n x2 a_slots = some R → zW D A s [w_X8 cI cR a a_all a_kept a_history a_historyLong a_slots a_isSaved a_pad a_padLong a_readHeight a_readPass a_readMany a_heights a_many a_takes] H locs → lv_has ls 3 [(0, .ref (a 0)), (1, .int x1), (2, .int x2)] → W p l e ({ frames := 2, cells := 0, slots := 0, locals := 42 } : Room) s m args below meth c H locs 0 0 (zE D A below s args (some (.int R.1)) [w_X8 cI cR a a_all a_kept a_history a_historyLong R.2.1 R.2.2 a_pad a_padLong a_readHeight a_readPass a_readMany a_heights a_many a_takes]) (F0 m 15 ls []) := by
  have hx := X.1.1
  have hb := X.1.2.1
  intro n
  induction n with
  | zero =>
    intro x2 a_slots H locs ls hf
    have hf : none = some R := hf
    cases hf
  | succ n ih =>
    intro x2 a_slots H locs ls hf Z hl
    refine lv_iload_n hx hb dX8_save_15 rfl (lv_at hl 2 rfl) ?_
    refine lv_bipush (v := 46) hx hb dX8_save_16 (by decide) ?_
    refine lv_icmp_ge (tgt := 44) hx hb dX8_save_18 (by decide) (fun c3 => ?_) (fun c3 => ?_)
    · have hf := it_t c3 hf
      refine lv_aload_n hx hb dX8_save_44 rfl (lv_at hl 0 rfl) ?_
      refine zg_X8_22 X Z 0 rfl rfl dX8_save_45 ?_
      refine lv_iload_n hx hb dX8_save_48 rfl (lv_at hl 1 rfl) ?_
      refine lv_iconst (v := 1) hx hb dX8_save_49 (by decide) ?_
      obtain ⟨i4, hf⟩ := in_s hf
      refine z_st (j := x1.toNatClampNeg) X Z 5 rfl i4 rfl [w_X8 cI cR a a_all a_kept a_history a_historyLong a_slots (upd a_isSaved x1.toNatClampNeg (1 : Int32)) a_pad a_padLong a_readHeight a_readPass a_readMany a_heights a_many a_takes] rfl dX8_save_50 (fun H locs Z => ?_)
      refine lv_aload_n hx hb dX8_save_51 rfl (lv_at hl 0 rfl) ?_
      obtain ⟨q5, hq5, hf⟩ := ob_s hf
      refine z_roV X Z (c_X8_clubs l D cI cR a a_all a_kept a_history a_historyLong a_slots (upd a_isSaved x1.toNatClampNeg (1 : Int32)) a_pad a_padLong a_readHeight a_readPass a_readMany a_heights a_many a_takes  hq5) (zw_X8_63 X.1.2.2.2.2 ⟨Nat.le_of_ble_eq_true rfl, Nat.le_of_ble_eq_true rfl⟩) 0 8 rfl rfl rfl [0] [] (by decide : ([0] ++ [] : List Nat).Perm (List.range 1)) rfl rfl hl.1 rfl (Nat.le_of_ble_eq_true rfl) dX8_save_52 ⟨Nat.le_of_ble_eq_true rfl, Nat.le_of_ble_eq_true rfl⟩ (fun H locs Z => ?_)
      have hR := so_s hf
      subst hR
      refine z_iret X hr hlocks ?_ dX8_save_55
      exact Z.eq rfl
    · have hf := it_f c3 hf
      refine lv_aload_n hx hb dX8_save_21 rfl (lv_at hl 0 rfl) ?_
      refine zg_X8_19 X Z 0 rfl rfl dX8_save_22 ?_
      refine lv_bipush (v := 46) hx hb dX8_save_25 (by decide) ?_
      refine lv_iload_n hx hb dX8_save_27 rfl (lv_at hl 1 rfl) ?_
      refine lv_imul hx hb dX8_save_28 ?_
      refine lv_iload_n hx hb dX8_save_29 rfl (lv_at hl 2 rfl) ?_
      refine lv_iadd hx hb dX8_save_30 ?_
      refine lv_aload_n hx hb dX8_save_31 rfl (lv_at hl 0 rfl) ?_
      refine zg_X8_7 X Z 0 rfl rfl dX8_save_32 ?_
      refine lv_iload_n hx hb dX8_save_35 rfl (lv_at hl 2 rfl) ?_
      obtain ⟨i6, hf⟩ := in_s hf
      refine z_ld (j := x2.toNatClampNeg) X Z 1 rfl i6 rfl dX8_save_36 ?_
      obtain ⟨i7, hf⟩ := in_s hf
      refine z_st (j := (((46 : Int32) * x1) + x2).toNatClampNeg) X Z 4 rfl i7 rfl [w_X8 cI cR a a_all a_kept a_history a_historyLong (upd a_slots ((((46 : Int32) * x1) + x2).toNatClampNeg) (a_all x2.toNatClampNeg)) a_isSaved a_pad a_padLong a_readHeight a_readPass a_readMany a_heights a_many a_takes] rfl dX8_save_37 (fun H locs Z => ?_)
      refine lv_iinc (v := x2 + (1 : Int32)) (lv' := [(2, .int (x2 + (1 : Int32))), (0, .ref (a 0)), (1, .int x1)]) hx hb dX8_save_38 hl (k := 2) rfl rfl (by decide) rfl (fun ls hl => ?_)
      refine lv_goto (tgt := 15) hx hb dX8_save_41 (by decide) ?_
      exact ih hf Z (lv_sub hl [1, 2, 0] rfl)

def f_X8_save (a_all : (Nat → Int32)) (a_slots : (Nat → Int32)) (a_isSaved : (Nat → Int32)) (p1 : Int32) : Option (Int32 × (Nat → Int32) × (Nat → Int32)) := (f_X8_in p1.toInt64 (0 : Int64) (1 : Int64)).bind (fun q1 => if q1 = 0 then (some ((-2 : Int32), a_slots, a_isSaved)) else (f_X8_save_L15 a_all a_isSaved p1 zF (0 : Int32) a_slots))
set_option maxHeartbeats 4000000 in
set_option maxRecDepth 100000 in
theorem c_X8_save (l : Launch) (D : va_G) (cI cR : ClassId) (a : (Nat → Nat)) (a_all : (Nat → Int32)) (a_kept : (Nat → Int32)) (a_history : (Nat → Int32)) (a_historyLong : Int32) (a_slots : (Nat → Int32)) (a_isSaved : (Nat → Int32)) (a_pad : (Nat → Int32)) (a_padLong : Int32) (a_readHeight : (Nat → Int32)) (a_readPass : (Nat → Int32)) (a_readMany : Int32) (a_heights : (Nat → Int32)) (a_many : Int32) (a_takes : (Nat → Int32)) (p1 : Int32) {R : Int32 × (Nat → Int32) × (Nat → Int32)} (hf : f_X8_save a_all a_slots a_isSaved p1 = some R) : zM l D cI cR yX8_save cX8_save 3 (some .int) 2 42 [.ref (a 0), .int p1] [w_X8 cI cR a a_all a_kept a_history a_historyLong a_slots a_isSaved a_pad a_padLong a_readHeight a_readPass a_readMany a_heights a_many a_takes] (some (.int R.1)) [w_X8 cI cR a a_all a_kept a_history a_historyLong R.2.1 R.2.2 a_pad a_padLong a_readHeight a_readPass a_readMany a_heights a_many a_takes] := by
  refine z_of (own := RX8) rfl (by decide) (Nat.le_of_ble_eq_true rfl) ?_
  intro p e s m args below meth c A ls X hr hlocks Z hl
  have hx := X.1.1
  have hb := X.1.2.1
  have Z : zW D A s [w_X8 cI cR a a_all a_kept a_history a_historyLong a_slots a_isSaved a_pad a_padLong a_readHeight a_readPass a_readMany a_heights a_many a_takes] s.heap [] := Z
  have hl : lv_has ls 3 [(0, .ref (a 0)), (1, .int p1)] := hl
  refine lv_iload_n hx hb dX8_save_0 rfl (lv_at hl 1 rfl) ?_
  refine lv_i2l hx hb dX8_save_1 rfl ?_
  refine lv_lconst (v := 0) hx hb dX8_save_2 (by decide) ?_
  refine lv_lconst (v := 1) hx hb dX8_save_3 (by decide) ?_
  obtain ⟨q1, hq1, hf⟩ := ob_s hf
  refine z_roS X Z (c_X8_in l D cI cR   p1.toInt64 (0 : Int64) (1 : Int64) hq1) (zw_X8_44 X.1.2.2.2.2 ⟨Nat.le_of_ble_eq_true rfl, Nat.le_of_ble_eq_true rfl⟩) [] [0] (by decide : ([] ++ [0] : List Nat).Perm (List.range 1)) rfl rfl hl.1 rfl (Nat.le_of_ble_eq_true rfl) dX8_save_4 ⟨Nat.le_of_ble_eq_true rfl, Nat.le_of_ble_eq_true rfl⟩ (fun H locs Z => ?_)
  refine lv_if_ne (tgt := 13) hx hb dX8_save_7 (by decide) (fun c2 => ?_) (fun c2 => ?_)
  · have hf := it_f c2 hf
    refine lv_iconst (v := 0) hx hb dX8_save_13 (by decide) ?_
    refine lv_istore_n (lv' := [(2, .int (0 : Int32)), (0, .ref (a 0)), (1, .int p1)]) hx hb dX8_save_14 rfl hl (by decide) rfl (fun ls hl => ?_)
    exact w_X8_save_L15 X hr hlocks _ hf Z (lv_sub hl [1, 2, 0] rfl)
  · have hf := it_t c2 hf
    refine lv_bipush (v := -2) hx hb dX8_save_10 (by decide) ?_
    have hR := so_s hf
    subst hR
    refine z_iret X hr hlocks ?_ dX8_save_12
    exact Z.eq rfl
def f_X8_restore_L31 (a_kept : (Nat → Int32)) (a_history : (Nat → Int32)) (a_historyLong : Int32) (a_slots : (Nat → Int32)) (a_isSaved : (Nat → Int32)) (x1 : Int32) : Nat → Int32 → (Nat → Int32) → Option (Int32 × (Nat → Int32) × (Nat → Int32) × (Nat → Int32) × Int32)
  | 0, _, _ => none
  | n + 1, x2, a_all => if (46 : Int32) ≤ x2 then ((f_X8_clubs a_all).bind (fun q7 => (f_X8_changed a_kept a_history a_historyLong q7).bind (fun q8 => some (q8.1, a_all, a_kept, q8.2.1, q8.2.2)))) else (if (((46 : Int32) * x1) + x2) < 0 ∨ 92 ≤ (((46 : Int32) * x1) + x2).toNatClampNeg then none else (if x2 < 0 ∨ 46 ≤ x2.toNatClampNeg then none else (f_X8_restore_L31 a_kept a_history a_historyLong a_slots a_isSaved x1 n (x2 + (1 : Int32)) (upd a_all x2.toNatClampNeg (a_slots (((46 : Int32) * x1) + x2).toNatClampNeg)))))
set_option maxHeartbeats 4000000 in
set_option maxRecDepth 100000 in
theorem w_X8_restore_L31 {p : Program} {l : Launch} {e : Env} {s : State} {m : MethodId} {args : Array Value} {below : List Frame} {meth : Method} {c : Code} {D : va_G} {cI cR : ClassId} {A : Nat → Prop} {a : (Nat → Nat)} {a_kept : (Nat → Int32)} {a_history : (Nat → Int32)} {a_historyLong : Int32} {a_slots : (Nat → Int32)} {a_isSaved : (Nat → Int32)} {a_pad : (Nat → Int32)} {a_padLong : Int32} {a_readHeight : (Nat → Int32)} {a_readPass : (Nat → Int32)} {a_readMany : Int32} {a_heights : (Nat → Int32)} {a_many : Int32} {a_takes : (Nat → Int32)} {x1 : Int32} {R : Int32 × (Nat → Int32) × (Nat → Int32) × (Nat → Int32) × Int32} (X : zX p s m c cX8_restore 3 args RX8 D cI cR A) (hr : meth.sig.returnType = (some .int)) (hlocks : meth.locks = false) : ∀ (n : Nat)  {x2 : Int32} {a_all : (Nat → Int32)} {H : Heap} {locs : List Loc} {ls : Array Slot}, f_X8_restore_L31 a_kept a_history a_historyLong a_slots a_isSaved x1 n x2 a_all = some R → zW D A s [w_X8 cI cR a a_all a_kept a_history a_historyLong a_slots a_isSaved a_pad a_padLong a_readHeight a_readPass a_readMany a_heights a_many a_takes] H locs → lv_has ls 3 [(0, .ref (a 0)), (1, .int x1), (2, .int x2)] → W p l e ({ frames := 2, cells := 0, slots := 0, locals := 42 } : Room) s m args below meth c H locs 0 0 (zE D A below s args (some (.int R.1)) [w_X8 cI cR a R.2.1 R.2.2.1 R.2.2.2.1 R.2.2.2.2 a_slots a_isSaved a_pad a_padLong a_readHeight a_readPass a_readMany a_heights a_many a_takes]) (F0 m 31 ls []) := by
  have hx := X.1.1
  have hb := X.1.2.1
  intro n
  induction n with
  | zero =>
    intro x2 a_all H locs ls hf
    have hf : none = some R := hf
    cases hf
  | succ n ih =>
    intro x2 a_all H locs ls hf Z hl
    refine lv_iload_n hx hb dX8_restore_31 rfl (lv_at hl 2 rfl) ?_
    refine lv_bipush (v := 46) hx hb dX8_restore_32 (by decide) ?_
    refine lv_icmp_ge (tgt := 60) hx hb dX8_restore_34 (by decide) (fun c6 => ?_) (fun c6 => ?_)
    · have hf := it_t c6 hf
      refine lv_aload_n hx hb dX8_restore_60 rfl (lv_at hl 0 rfl) ?_
      refine lv_aload_n hx hb dX8_restore_61 rfl (lv_at hl 0 rfl) ?_
      obtain ⟨q7, hq7, hf⟩ := ob_s hf
      refine z_roV X Z (c_X8_clubs l D cI cR a a_all a_kept a_history a_historyLong a_slots a_isSaved a_pad a_padLong a_readHeight a_readPass a_readMany a_heights a_many a_takes  hq7) (zw_X8_63 X.1.2.2.2.2 ⟨Nat.le_of_ble_eq_true rfl, Nat.le_of_ble_eq_true rfl⟩) 0 8 rfl rfl rfl [0] [] (by decide : ([0] ++ [] : List Nat).Perm (List.range 1)) rfl rfl hl.1 rfl (Nat.le_of_ble_eq_true rfl) dX8_restore_62 ⟨Nat.le_of_ble_eq_true rfl, Nat.le_of_ble_eq_true rfl⟩ (fun H locs Z => ?_)
      obtain ⟨q8, hq8, hf⟩ := ob_s hf
      refine z_callV X Z (c_X8_changed l D cI cR a a_all a_kept a_history a_historyLong a_slots a_isSaved a_pad a_padLong a_readHeight a_readPass a_readMany a_heights a_many a_takes q7 hq8) (zw_X8_67 X.1.2.2.2.2 ⟨Nat.le_of_ble_eq_true rfl, Nat.le_of_ble_eq_true rfl⟩) 0 8 rfl rfl rfl [0] [] [w_X8 cI cR a a_all a_kept q8.2.1 q8.2.2 a_slots a_isSaved a_pad a_padLong a_readHeight a_readPass a_readMany a_heights a_many a_takes] (by decide : ([0] ++ [] : List Nat).Perm (List.range 1)) rfl rfl rfl rfl rfl hl.1 rfl (Nat.le_of_ble_eq_true rfl) dX8_restore_65 ⟨Nat.le_of_ble_eq_true rfl, Nat.le_of_ble_eq_true rfl⟩ (fun H locs Z => ?_)
      have hR := so_s hf
      subst hR
      refine z_iret X hr hlocks ?_ dX8_restore_68
      exact Z.eq rfl
    · have hf := it_f c6 hf
      refine lv_aload_n hx hb dX8_restore_37 rfl (lv_at hl 0 rfl) ?_
      refine zg_X8_7 X Z 0 rfl rfl dX8_restore_38 ?_
      refine lv_iload_n hx hb dX8_restore_41 rfl (lv_at hl 2 rfl) ?_
      refine lv_aload_n hx hb dX8_restore_42 rfl (lv_at hl 0 rfl) ?_
      refine zg_X8_19 X Z 0 rfl rfl dX8_restore_43 ?_
      refine lv_bipush (v := 46) hx hb dX8_restore_46 (by decide) ?_
      refine lv_iload_n hx hb dX8_restore_48 rfl (lv_at hl 1 rfl) ?_
      refine lv_imul hx hb dX8_restore_49 ?_
      refine lv_iload_n hx hb dX8_restore_50 rfl (lv_at hl 2 rfl) ?_
      refine lv_iadd hx hb dX8_restore_51 ?_
      obtain ⟨i9, hf⟩ := in_s hf
      refine z_ld (j := (((46 : Int32) * x1) + x2).toNatClampNeg) X Z 4 rfl i9 rfl dX8_restore_52 ?_
      obtain ⟨i10, hf⟩ := in_s hf
      refine z_st (j := x2.toNatClampNeg) X Z 1 rfl i10 rfl [w_X8 cI cR a (upd a_all x2.toNatClampNeg (a_slots (((46 : Int32) * x1) + x2).toNatClampNeg)) a_kept a_history a_historyLong a_slots a_isSaved a_pad a_padLong a_readHeight a_readPass a_readMany a_heights a_many a_takes] rfl dX8_restore_53 (fun H locs Z => ?_)
      refine lv_iinc (v := x2 + (1 : Int32)) (lv' := [(2, .int (x2 + (1 : Int32))), (0, .ref (a 0)), (1, .int x1)]) hx hb dX8_restore_54 hl (k := 2) rfl rfl (by decide) rfl (fun ls hl => ?_)
      refine lv_goto (tgt := 31) hx hb dX8_restore_57 (by decide) ?_
      exact ih hf Z (lv_sub hl [1, 2, 0] rfl)

def f_X8_restore (a_all : (Nat → Int32)) (a_kept : (Nat → Int32)) (a_history : (Nat → Int32)) (a_historyLong : Int32) (a_slots : (Nat → Int32)) (a_isSaved : (Nat → Int32)) (p1 : Int32) : Option (Int32 × (Nat → Int32) × (Nat → Int32) × (Nat → Int32) × Int32) := (f_X8_in p1.toInt64 (0 : Int64) (1 : Int64)).bind (fun q1 => if q1 = 0 then (some ((-2 : Int32), a_all, a_kept, a_history, a_historyLong)) else (if p1 < 0 ∨ 2 ≤ p1.toNatClampNeg then none else (if (a_isSaved p1.toNatClampNeg) = 0 then (some ((-5 : Int32), a_all, a_kept, a_history, a_historyLong)) else ((f_X8_keep a_all a_kept).bind (fun q5 => f_X8_restore_L31 q5 a_history a_historyLong a_slots a_isSaved p1 zF (0 : Int32) a_all)))))
set_option maxHeartbeats 4000000 in
set_option maxRecDepth 100000 in
theorem c_X8_restore (l : Launch) (D : va_G) (cI cR : ClassId) (a : (Nat → Nat)) (a_all : (Nat → Int32)) (a_kept : (Nat → Int32)) (a_history : (Nat → Int32)) (a_historyLong : Int32) (a_slots : (Nat → Int32)) (a_isSaved : (Nat → Int32)) (a_pad : (Nat → Int32)) (a_padLong : Int32) (a_readHeight : (Nat → Int32)) (a_readPass : (Nat → Int32)) (a_readMany : Int32) (a_heights : (Nat → Int32)) (a_many : Int32) (a_takes : (Nat → Int32)) (p1 : Int32) {R : Int32 × (Nat → Int32) × (Nat → Int32) × (Nat → Int32) × Int32} (hf : f_X8_restore a_all a_kept a_history a_historyLong a_slots a_isSaved p1 = some R) : zM l D cI cR yX8_restore cX8_restore 3 (some .int) 2 42 [.ref (a 0), .int p1] [w_X8 cI cR a a_all a_kept a_history a_historyLong a_slots a_isSaved a_pad a_padLong a_readHeight a_readPass a_readMany a_heights a_many a_takes] (some (.int R.1)) [w_X8 cI cR a R.2.1 R.2.2.1 R.2.2.2.1 R.2.2.2.2 a_slots a_isSaved a_pad a_padLong a_readHeight a_readPass a_readMany a_heights a_many a_takes] := by
  refine z_of (own := RX8) rfl (by decide) (Nat.le_of_ble_eq_true rfl) ?_
  intro p e s m args below meth c A ls X hr hlocks Z hl
  have hx := X.1.1
  have hb := X.1.2.1
  have Z : zW D A s [w_X8 cI cR a a_all a_kept a_history a_historyLong a_slots a_isSaved a_pad a_padLong a_readHeight a_readPass a_readMany a_heights a_many a_takes] s.heap [] := Z
  have hl : lv_has ls 3 [(0, .ref (a 0)), (1, .int p1)] := hl
  refine lv_iload_n hx hb dX8_restore_0 rfl (lv_at hl 1 rfl) ?_
  refine lv_i2l hx hb dX8_restore_1 rfl ?_
  refine lv_lconst (v := 0) hx hb dX8_restore_2 (by decide) ?_
  refine lv_lconst (v := 1) hx hb dX8_restore_3 (by decide) ?_
  obtain ⟨q1, hq1, hf⟩ := ob_s hf
  refine z_roS X Z (c_X8_in l D cI cR   p1.toInt64 (0 : Int64) (1 : Int64) hq1) (zw_X8_44 X.1.2.2.2.2 ⟨Nat.le_of_ble_eq_true rfl, Nat.le_of_ble_eq_true rfl⟩) [] [0] (by decide : ([] ++ [0] : List Nat).Perm (List.range 1)) rfl rfl hl.1 rfl (Nat.le_of_ble_eq_true rfl) dX8_restore_4 ⟨Nat.le_of_ble_eq_true rfl, Nat.le_of_ble_eq_true rfl⟩ (fun H locs Z => ?_)
  refine lv_if_ne (tgt := 13) hx hb dX8_restore_7 (by decide) (fun c2 => ?_) (fun c2 => ?_)
  · have hf := it_f c2 hf
    refine lv_aload_n hx hb dX8_restore_13 rfl (lv_at hl 0 rfl) ?_
    refine zg_X8_22 X Z 0 rfl rfl dX8_restore_14 ?_
    refine lv_iload_n hx hb dX8_restore_17 rfl (lv_at hl 1 rfl) ?_
    obtain ⟨i3, hf⟩ := in_s hf
    refine z_ld (j := p1.toNatClampNeg) X Z 5 rfl i3 rfl dX8_restore_18 ?_
    refine lv_if_ne (tgt := 25) hx hb dX8_restore_19 (by decide) (fun c4 => ?_) (fun c4 => ?_)
    · have hf := it_f c4 hf
      refine lv_aload_n hx hb dX8_restore_25 rfl (lv_at hl 0 rfl) ?_
      obtain ⟨q5, hq5, hf⟩ := ob_s hf
      refine z_callV X Z (c_X8_keep l D cI cR a a_all a_kept a_history a_historyLong a_slots a_isSaved a_pad a_padLong a_readHeight a_readPass a_readMany a_heights a_many a_takes  hq5) (zw_X8_60 X.1.2.2.2.2 ⟨Nat.le_of_ble_eq_true rfl, Nat.le_of_ble_eq_true rfl⟩) 0 8 rfl rfl rfl [0] [] [w_X8 cI cR a a_all q5 a_history a_historyLong a_slots a_isSaved a_pad a_padLong a_readHeight a_readPass a_readMany a_heights a_many a_takes] (by decide : ([0] ++ [] : List Nat).Perm (List.range 1)) rfl rfl rfl rfl rfl hl.1 rfl (Nat.le_of_ble_eq_true rfl) dX8_restore_26 ⟨Nat.le_of_ble_eq_true rfl, Nat.le_of_ble_eq_true rfl⟩ (fun H locs Z => ?_)
      refine lv_iconst (v := 0) hx hb dX8_restore_29 (by decide) ?_
      refine lv_istore_n (lv' := [(2, .int (0 : Int32)), (0, .ref (a 0)), (1, .int p1)]) hx hb dX8_restore_30 rfl hl (by decide) rfl (fun ls hl => ?_)
      exact w_X8_restore_L31 X hr hlocks _ hf Z (lv_sub hl [1, 2, 0] rfl)
    · have hf := it_t c4 hf
      refine lv_bipush (v := -5) hx hb dX8_restore_22 (by decide) ?_
      have hR := so_s hf
      subst hR
      refine z_iret X hr hlocks ?_ dX8_restore_24
      exact Z.eq rfl
  · have hf := it_t c2 hf
    refine lv_bipush (v := -2) hx hb dX8_restore_10 (by decide) ?_
    have hR := so_s hf
    subst hR
    refine z_iret X hr hlocks ?_ dX8_restore_12
    exact Z.eq rfl
