def f_X8_in (p0 : Int64) (p2 : Int64) (p4 : Int64) : Option (Int32) := if (lg_cmp p0 p2) < 0 then (some (0 : Int32)) else (if 0 < (lg_cmp p0 p4) then (some (0 : Int32)) else (some (1 : Int32)))
set_option maxHeartbeats 4000000 in
set_option maxRecDepth 100000 in
theorem c_X8_in (l : Launch) (D : va_G) (cI cR : ClassId) (p0 : Int64) (p2 : Int64) (p4 : Int64) {R : Int32} (hf : f_X8_in p0 p2 p4 = some R) : zM l D cI cR yX8_in cX8_in 6 (some .boolean) 0 0 [.long p0, .long p2, .long p4] [] (some (.int R)) [] := by
  refine z_of (own := RX8) rfl (by decide) (Nat.le_of_ble_eq_true rfl) ?_
  intro p e s m args below meth c A ls X hr hlocks Z hl
  have hx := X.1.1
  have hb := X.1.2.1
  have Z : zW D A s [] s.heap [] := Z
  have hl : lv_has ls 6 [(0, .long p0), (2, .long p2), (4, .long p4)] := hl
  refine lv_lload_n hx hb dX8_in_0 rfl (lv_at hl 0 rfl) ?_
  refine lv_lload_n hx hb dX8_in_1 rfl (lv_at hl 1 rfl) ?_
  refine W.lcmp hx hb dX8_in_2 ?_
  refine lv_if_lt (tgt := 17) hx hb dX8_in_3 (by decide) (fun c1 => ?_) (fun c1 => ?_)
  · have hf := it_t c1 hf
    refine lv_iconst (v := 0) hx hb dX8_in_17 (by decide) ?_
    have hR := so_s hf
    subst hR
    refine z_zret X hr hlocks (Or.inl rfl) ?_ dX8_in_18
    exact Z.eq rfl
  · have hf := it_f c1 hf
    refine lv_lload_n hx hb dX8_in_6 rfl (lv_at hl 0 rfl) ?_
    refine lv_lload hx hb dX8_in_7 (lv_at hl 2 rfl) ?_
    refine W.lcmp hx hb dX8_in_9 ?_
    refine lv_if_gt (tgt := 17) hx hb dX8_in_10 (by decide) (fun c2 => ?_) (fun c2 => ?_)
    · have hf := it_t c2 hf
      refine lv_iconst (v := 0) hx hb dX8_in_17 (by decide) ?_
      have hR := so_s hf
      subst hR
      refine z_zret X hr hlocks (Or.inl rfl) ?_ dX8_in_18
      exact Z.eq rfl
    · have hf := it_f c2 hf
      refine lv_iconst (v := 1) hx hb dX8_in_13 (by decide) ?_
      refine lv_goto (tgt := 18) hx hb dX8_in_14 (by decide) ?_
      have hR := so_s hf
      subst hR
      refine z_zret X hr hlocks (Or.inr rfl) ?_ dX8_in_18
      exact Z.eq rfl
theorem b_X8_in {p0 : Int64} {p2 : Int64} {p4 : Int64} {R : Int32} (hf : f_X8_in p0 p2 p4 = some R) : R = 0 ∨ R = 1 := by
  rcases Decidable.em ((lg_cmp p0 p2) < 0) with c1 | c1
  · have hf := it_t c1 hf
    have hR := so_s hf
    subst hR
    exact (Or.inl rfl)
  · have hf := it_f c1 hf
    rcases Decidable.em (0 < (lg_cmp p0 p4)) with c2 | c2
    · have hf := it_t c2 hf
      have hR := so_s hf
      subst hR
      exact (Or.inl rfl)
    · have hf := it_f c2 hf
      have hR := so_s hf
      subst hR
      exact (Or.inr rfl)
def f_X8_keep_L2 (a_all : (Nat → Int32)) : Nat → Int32 → (Nat → Int32) → Option ((Nat → Int32))
  | 0, _, _ => none
  | n + 1, x1, a_kept => if (46 : Int32) ≤ x1 then (some a_kept) else (if x1 < 0 ∨ 46 ≤ x1.toNatClampNeg then none else (if x1 < 0 ∨ 46 ≤ x1.toNatClampNeg then none else (f_X8_keep_L2 a_all n (x1 + (1 : Int32)) (upd a_kept x1.toNatClampNeg (a_all x1.toNatClampNeg)))))
set_option maxHeartbeats 4000000 in
set_option maxRecDepth 100000 in
theorem w_X8_keep_L2 {p : Program} {l : Launch} {e : Env} {s : State} {m : MethodId} {args : Array Value} {below : List Frame} {meth : Method} {c : Code} {D : va_G} {cI cR : ClassId} {A : Nat → Prop} {a : (Nat → Nat)} {a_all : (Nat → Int32)} {a_history : (Nat → Int32)} {a_historyLong : Int32} {a_slots : (Nat → Int32)} {a_isSaved : (Nat → Int32)} {a_pad : (Nat → Int32)} {a_padLong : Int32} {a_readHeight : (Nat → Int32)} {a_readPass : (Nat → Int32)} {a_readMany : Int32} {a_heights : (Nat → Int32)} {a_many : Int32} {a_takes : (Nat → Int32)} {R : (Nat → Int32)} (X : zX p s m c cX8_keep 2 args RX8 D cI cR A) (hr : meth.sig.returnType = none) (hlocks : meth.locks = false) : ∀ (n : Nat)  {x1 : Int32} {a_kept : (Nat → Int32)} {H : Heap} {locs : List Loc} {ls : Array Slot}, f_X8_keep_L2 a_all n x1 a_kept = some R → zW D A s [w_X8 cI cR a a_all a_kept a_history a_historyLong a_slots a_isSaved a_pad a_padLong a_readHeight a_readPass a_readMany a_heights a_many a_takes] H locs → lv_has ls 2 [(0, .ref (a 0)), (1, .int x1)] → W p l e ({ frames := 0, cells := 0, slots := 0, locals := 0 } : Room) s m args below meth c H locs 0 0 (zE D A below s args none [w_X8 cI cR a a_all R a_history a_historyLong a_slots a_isSaved a_pad a_padLong a_readHeight a_readPass a_readMany a_heights a_many a_takes]) (F0 m 2 ls []) := by
  have hx := X.1.1
  have hb := X.1.2.1
  intro n
  induction n with
  | zero =>
    intro x1 a_kept H locs ls hf
    have hf : none = some R := hf
    cases hf
  | succ n ih =>
    intro x1 a_kept H locs ls hf Z hl
    refine lv_iload_n hx hb dX8_keep_2 rfl (lv_at hl 1 rfl) ?_
    refine lv_bipush (v := 46) hx hb dX8_keep_3 (by decide) ?_
    refine lv_icmp_ge (tgt := 26) hx hb dX8_keep_5 (by decide) (fun c1 => ?_) (fun c1 => ?_)
    · have hf := it_t c1 hf
      have hR := so_s hf
      subst hR
      refine z_vret X hr hlocks ?_ dX8_keep_26
      exact Z.eq rfl
    · have hf := it_f c1 hf
      refine lv_aload_n hx hb dX8_keep_8 rfl (lv_at hl 0 rfl) ?_
      refine zg_X8_13 X Z 0 rfl rfl dX8_keep_9 ?_
      refine lv_iload_n hx hb dX8_keep_12 rfl (lv_at hl 1 rfl) ?_
      refine lv_aload_n hx hb dX8_keep_13 rfl (lv_at hl 0 rfl) ?_
      refine zg_X8_7 X Z 0 rfl rfl dX8_keep_14 ?_
      refine lv_iload_n hx hb dX8_keep_17 rfl (lv_at hl 1 rfl) ?_
      obtain ⟨i2, hf⟩ := in_s hf
      refine z_ld (j := x1.toNatClampNeg) X Z 1 rfl i2 rfl dX8_keep_18 ?_
      obtain ⟨i3, hf⟩ := in_s hf
      refine z_st (j := x1.toNatClampNeg) X Z 2 rfl i3 rfl [w_X8 cI cR a a_all (upd a_kept x1.toNatClampNeg (a_all x1.toNatClampNeg)) a_history a_historyLong a_slots a_isSaved a_pad a_padLong a_readHeight a_readPass a_readMany a_heights a_many a_takes] rfl dX8_keep_19 (fun H locs Z => ?_)
      refine lv_iinc (v := x1 + (1 : Int32)) (lv' := [(1, .int (x1 + (1 : Int32))), (0, .ref (a 0))]) hx hb dX8_keep_20 hl (k := 1) rfl rfl (by decide) rfl (fun ls hl => ?_)
      refine lv_goto (tgt := 2) hx hb dX8_keep_23 (by decide) ?_
      exact ih hf Z (lv_sub hl [1, 0] rfl)

def f_X8_keep (a_all : (Nat → Int32)) (a_kept : (Nat → Int32)) : Option ((Nat → Int32)) := f_X8_keep_L2 a_all zF (0 : Int32) a_kept
set_option maxHeartbeats 4000000 in
set_option maxRecDepth 100000 in
theorem c_X8_keep (l : Launch) (D : va_G) (cI cR : ClassId) (a : (Nat → Nat)) (a_all : (Nat → Int32)) (a_kept : (Nat → Int32)) (a_history : (Nat → Int32)) (a_historyLong : Int32) (a_slots : (Nat → Int32)) (a_isSaved : (Nat → Int32)) (a_pad : (Nat → Int32)) (a_padLong : Int32) (a_readHeight : (Nat → Int32)) (a_readPass : (Nat → Int32)) (a_readMany : Int32) (a_heights : (Nat → Int32)) (a_many : Int32) (a_takes : (Nat → Int32)) {R : (Nat → Int32)} (hf : f_X8_keep a_all a_kept = some R) : zM l D cI cR yX8_keep cX8_keep 2 none 0 0 [.ref (a 0)] [w_X8 cI cR a a_all a_kept a_history a_historyLong a_slots a_isSaved a_pad a_padLong a_readHeight a_readPass a_readMany a_heights a_many a_takes] none [w_X8 cI cR a a_all R a_history a_historyLong a_slots a_isSaved a_pad a_padLong a_readHeight a_readPass a_readMany a_heights a_many a_takes] := by
  refine z_of (own := RX8) rfl (by decide) (Nat.le_of_ble_eq_true rfl) ?_
  intro p e s m args below meth c A ls X hr hlocks Z hl
  have hx := X.1.1
  have hb := X.1.2.1
  have Z : zW D A s [w_X8 cI cR a a_all a_kept a_history a_historyLong a_slots a_isSaved a_pad a_padLong a_readHeight a_readPass a_readMany a_heights a_many a_takes] s.heap [] := Z
  have hl : lv_has ls 2 [(0, .ref (a 0))] := hl
  refine lv_iconst (v := 0) hx hb dX8_keep_0 (by decide) ?_
  refine lv_istore_n (lv' := [(1, .int (0 : Int32)), (0, .ref (a 0))]) hx hb dX8_keep_1 rfl hl (by decide) rfl (fun ls hl => ?_)
  exact w_X8_keep_L2 X hr hlocks _ hf Z (lv_sub hl [1, 0] rfl)
def f_X8_giveBack_L2 (a_kept : (Nat → Int32)) : Nat → Int32 → (Nat → Int32) → Option ((Nat → Int32))
  | 0, _, _ => none
  | n + 1, x1, a_all => if (46 : Int32) ≤ x1 then (some a_all) else (if x1 < 0 ∨ 46 ≤ x1.toNatClampNeg then none else (if x1 < 0 ∨ 46 ≤ x1.toNatClampNeg then none else (f_X8_giveBack_L2 a_kept n (x1 + (1 : Int32)) (upd a_all x1.toNatClampNeg (a_kept x1.toNatClampNeg)))))
set_option maxHeartbeats 4000000 in
set_option maxRecDepth 100000 in
theorem w_X8_giveBack_L2 {p : Program} {l : Launch} {e : Env} {s : State} {m : MethodId} {args : Array Value} {below : List Frame} {meth : Method} {c : Code} {D : va_G} {cI cR : ClassId} {A : Nat → Prop} {a : (Nat → Nat)} {a_kept : (Nat → Int32)} {a_history : (Nat → Int32)} {a_historyLong : Int32} {a_slots : (Nat → Int32)} {a_isSaved : (Nat → Int32)} {a_pad : (Nat → Int32)} {a_padLong : Int32} {a_readHeight : (Nat → Int32)} {a_readPass : (Nat → Int32)} {a_readMany : Int32} {a_heights : (Nat → Int32)} {a_many : Int32} {a_takes : (Nat → Int32)} {R : (Nat → Int32)} (X : zX p s m c cX8_giveBack 2 args RX8 D cI cR A) (hr : meth.sig.returnType = none) (hlocks : meth.locks = false) : ∀ (n : Nat)  {x1 : Int32} {a_all : (Nat → Int32)} {H : Heap} {locs : List Loc} {ls : Array Slot}, f_X8_giveBack_L2 a_kept n x1 a_all = some R → zW D A s [w_X8 cI cR a a_all a_kept a_history a_historyLong a_slots a_isSaved a_pad a_padLong a_readHeight a_readPass a_readMany a_heights a_many a_takes] H locs → lv_has ls 2 [(0, .ref (a 0)), (1, .int x1)] → W p l e ({ frames := 0, cells := 0, slots := 0, locals := 0 } : Room) s m args below meth c H locs 0 0 (zE D A below s args none [w_X8 cI cR a R a_kept a_history a_historyLong a_slots a_isSaved a_pad a_padLong a_readHeight a_readPass a_readMany a_heights a_many a_takes]) (F0 m 2 ls []) := by
  have hx := X.1.1
  have hb := X.1.2.1
  intro n
  induction n with
  | zero =>
    intro x1 a_all H locs ls hf
    have hf : none = some R := hf
    cases hf
  | succ n ih =>
    intro x1 a_all H locs ls hf Z hl
    refine lv_iload_n hx hb dX8_giveBack_2 rfl (lv_at hl 1 rfl) ?_
    refine lv_bipush (v := 46) hx hb dX8_giveBack_3 (by decide) ?_
    refine lv_icmp_ge (tgt := 26) hx hb dX8_giveBack_5 (by decide) (fun c1 => ?_) (fun c1 => ?_)
    · have hf := it_t c1 hf
      have hR := so_s hf
      subst hR
      refine z_vret X hr hlocks ?_ dX8_giveBack_26
      exact Z.eq rfl
    · have hf := it_f c1 hf
      refine lv_aload_n hx hb dX8_giveBack_8 rfl (lv_at hl 0 rfl) ?_
      refine zg_X8_7 X Z 0 rfl rfl dX8_giveBack_9 ?_
      refine lv_iload_n hx hb dX8_giveBack_12 rfl (lv_at hl 1 rfl) ?_
      refine lv_aload_n hx hb dX8_giveBack_13 rfl (lv_at hl 0 rfl) ?_
      refine zg_X8_13 X Z 0 rfl rfl dX8_giveBack_14 ?_
      refine lv_iload_n hx hb dX8_giveBack_17 rfl (lv_at hl 1 rfl) ?_
      obtain ⟨i2, hf⟩ := in_s hf
      refine z_ld (j := x1.toNatClampNeg) X Z 2 rfl i2 rfl dX8_giveBack_18 ?_
      obtain ⟨i3, hf⟩ := in_s hf
      refine z_st (j := x1.toNatClampNeg) X Z 1 rfl i3 rfl [w_X8 cI cR a (upd a_all x1.toNatClampNeg (a_kept x1.toNatClampNeg)) a_kept a_history a_historyLong a_slots a_isSaved a_pad a_padLong a_readHeight a_readPass a_readMany a_heights a_many a_takes] rfl dX8_giveBack_19 (fun H locs Z => ?_)
      refine lv_iinc (v := x1 + (1 : Int32)) (lv' := [(1, .int (x1 + (1 : Int32))), (0, .ref (a 0))]) hx hb dX8_giveBack_20 hl (k := 1) rfl rfl (by decide) rfl (fun ls hl => ?_)
      refine lv_goto (tgt := 2) hx hb dX8_giveBack_23 (by decide) ?_
      exact ih hf Z (lv_sub hl [1, 0] rfl)

def f_X8_giveBack (a_all : (Nat → Int32)) (a_kept : (Nat → Int32)) : Option ((Nat → Int32)) := f_X8_giveBack_L2 a_kept zF (0 : Int32) a_all
set_option maxHeartbeats 4000000 in
set_option maxRecDepth 100000 in
theorem c_X8_giveBack (l : Launch) (D : va_G) (cI cR : ClassId) (a : (Nat → Nat)) (a_all : (Nat → Int32)) (a_kept : (Nat → Int32)) (a_history : (Nat → Int32)) (a_historyLong : Int32) (a_slots : (Nat → Int32)) (a_isSaved : (Nat → Int32)) (a_pad : (Nat → Int32)) (a_padLong : Int32) (a_readHeight : (Nat → Int32)) (a_readPass : (Nat → Int32)) (a_readMany : Int32) (a_heights : (Nat → Int32)) (a_many : Int32) (a_takes : (Nat → Int32)) {R : (Nat → Int32)} (hf : f_X8_giveBack a_all a_kept = some R) : zM l D cI cR yX8_giveBack cX8_giveBack 2 none 0 0 [.ref (a 0)] [w_X8 cI cR a a_all a_kept a_history a_historyLong a_slots a_isSaved a_pad a_padLong a_readHeight a_readPass a_readMany a_heights a_many a_takes] none [w_X8 cI cR a R a_kept a_history a_historyLong a_slots a_isSaved a_pad a_padLong a_readHeight a_readPass a_readMany a_heights a_many a_takes] := by
  refine z_of (own := RX8) rfl (by decide) (Nat.le_of_ble_eq_true rfl) ?_
  intro p e s m args below meth c A ls X hr hlocks Z hl
  have hx := X.1.1
  have hb := X.1.2.1
  have Z : zW D A s [w_X8 cI cR a a_all a_kept a_history a_historyLong a_slots a_isSaved a_pad a_padLong a_readHeight a_readPass a_readMany a_heights a_many a_takes] s.heap [] := Z
  have hl : lv_has ls 2 [(0, .ref (a 0))] := hl
  refine lv_iconst (v := 0) hx hb dX8_giveBack_0 (by decide) ?_
  refine lv_istore_n (lv' := [(1, .int (0 : Int32)), (0, .ref (a 0))]) hx hb dX8_giveBack_1 rfl hl (by decide) rfl (fun ls hl => ?_)
  exact w_X8_giveBack_L2 X hr hlocks _ hf Z (lv_sub hl [1, 0] rfl)
def f_X8_changed_L51 (a_kept : (Nat → Int32)) (a_historyLong : Int32) (x1 : Int32) : Nat → Int32 → (Nat → Int32) → Option (Int32 × (Nat → Int32) × Int32)
  | 0, _, _ => none
  | n + 1, x2, a_history => if (46 : Int32) ≤ x2 then (some (x1, a_history, a_historyLong + (1 : Int32))) else (if x2 < 0 ∨ 46 ≤ x2.toNatClampNeg then none else (if (((46 : Int32) * a_historyLong) + x2) < 0 ∨ 276 ≤ (((46 : Int32) * a_historyLong) + x2).toNatClampNeg then none else (f_X8_changed_L51 a_kept a_historyLong x1 n (x2 + (1 : Int32)) (upd a_history ((((46 : Int32) * a_historyLong) + x2).toNatClampNeg) (a_kept x2.toNatClampNeg)))))
set_option maxHeartbeats 4000000 in
set_option maxRecDepth 100000 in
theorem w_X8_changed_L51 {p : Program} {l : Launch} {e : Env} {s : State} {m : MethodId} {args : Array Value} {below : List Frame} {meth : Method} {c : Code} {D : va_G} {cI cR : ClassId} {A : Nat → Prop} {a : (Nat → Nat)} {a_all : (Nat → Int32)} {a_kept : (Nat → Int32)} {a_historyLong : Int32} {a_slots : (Nat → Int32)} {a_isSaved : (Nat → Int32)} {a_pad : (Nat → Int32)} {a_padLong : Int32} {a_readHeight : (Nat → Int32)} {a_readPass : (Nat → Int32)} {a_readMany : Int32} {a_heights : (Nat → Int32)} {a_many : Int32} {a_takes : (Nat → Int32)} {x1 : Int32} {R : Int32 × (Nat → Int32) × Int32} (X : zX p s m c cX8_changed 3 args RX8 D cI cR A) (hr : meth.sig.returnType = (some .int)) (hlocks : meth.locks = false) : ∀ (n : Nat)  {x2 : Int32} {a_history : (Nat → Int32)} {H : Heap} {locs : List Loc} {ls : Array Slot}, f_X8_changed_L51 a_kept a_historyLong x1 n x2 a_history = some R → zW D A s [w_X8 cI cR a a_all a_kept a_history a_historyLong a_slots a_isSaved a_pad a_padLong a_readHeight a_readPass a_readMany a_heights a_many a_takes] H locs → lv_has ls 3 [(0, .ref (a 0)), (1, .int x1), (2, .int x2)] → W p l e ({ frames := 0, cells := 0, slots := 0, locals := 0 } : Room) s m args below meth c H locs 0 0 (zE D A below s args (some (.int R.1)) [w_X8 cI cR a a_all a_kept R.2.1 R.2.2 a_slots a_isSaved a_pad a_padLong a_readHeight a_readPass a_readMany a_heights a_many a_takes]) (F0 m 51 ls []) := by
  have hx := X.1.1
  have hb := X.1.2.1
  intro n
  induction n with
  | zero =>
    intro x2 a_history H locs ls hf
    have hf : none = some R := hf
    cases hf
  | succ n ih =>
    intro x2 a_history H locs ls hf Z hl
    refine lv_iload_n hx hb dX8_changed_51 rfl (lv_at hl 2 rfl) ?_
    refine lv_bipush (v := 46) hx hb dX8_changed_52 (by decide) ?_
    refine lv_icmp_ge (tgt := 83) hx hb dX8_changed_54 (by decide) (fun c2 => ?_) (fun c2 => ?_)
    · have hf := it_t c2 hf
      refine lv_aload_n hx hb dX8_changed_83 rfl (lv_at hl 0 rfl) ?_
      refine lv_dup hx hb dX8_changed_84 rfl ?_
      refine zg_X8_40 X Z 0 rfl rfl dX8_changed_85 ?_
      refine lv_iconst (v := 1) hx hb dX8_changed_88 (by decide) ?_
      refine lv_iadd hx hb dX8_changed_89 ?_
      refine zp_X8_40 X Z 0 rfl (Nat.le_of_ble_eq_true rfl) [w_X8 cI cR a a_all a_kept a_history (a_historyLong + (1 : Int32)) a_slots a_isSaved a_pad a_padLong a_readHeight a_readPass a_readMany a_heights a_many a_takes] rfl dX8_changed_90 (fun H locs Z => ?_)
      refine lv_iload_n hx hb dX8_changed_93 rfl (lv_at hl 1 rfl) ?_
      have hR := so_s hf
      subst hR
      refine z_iret X hr hlocks ?_ dX8_changed_94
      exact Z.eq rfl
    · have hf := it_f c2 hf
      refine lv_aload_n hx hb dX8_changed_57 rfl (lv_at hl 0 rfl) ?_
      refine zg_X8_16 X Z 0 rfl rfl dX8_changed_58 ?_
      refine lv_bipush (v := 46) hx hb dX8_changed_61 (by decide) ?_
      refine lv_aload_n hx hb dX8_changed_63 rfl (lv_at hl 0 rfl) ?_
      refine zg_X8_40 X Z 0 rfl rfl dX8_changed_64 ?_
      refine lv_imul hx hb dX8_changed_67 ?_
      refine lv_iload_n hx hb dX8_changed_68 rfl (lv_at hl 2 rfl) ?_
      refine lv_iadd hx hb dX8_changed_69 ?_
      refine lv_aload_n hx hb dX8_changed_70 rfl (lv_at hl 0 rfl) ?_
      refine zg_X8_13 X Z 0 rfl rfl dX8_changed_71 ?_
      refine lv_iload_n hx hb dX8_changed_74 rfl (lv_at hl 2 rfl) ?_
      obtain ⟨i3, hf⟩ := in_s hf
      refine z_ld (j := x2.toNatClampNeg) X Z 2 rfl i3 rfl dX8_changed_75 ?_
      obtain ⟨i4, hf⟩ := in_s hf
      refine z_st (j := (((46 : Int32) * a_historyLong) + x2).toNatClampNeg) X Z 3 rfl i4 rfl [w_X8 cI cR a a_all a_kept (upd a_history ((((46 : Int32) * a_historyLong) + x2).toNatClampNeg) (a_kept x2.toNatClampNeg)) a_historyLong a_slots a_isSaved a_pad a_padLong a_readHeight a_readPass a_readMany a_heights a_many a_takes] rfl dX8_changed_76 (fun H locs Z => ?_)
      refine lv_iinc (v := x2 + (1 : Int32)) (lv' := [(2, .int (x2 + (1 : Int32))), (0, .ref (a 0)), (1, .int x1)]) hx hb dX8_changed_77 hl (k := 2) rfl rfl (by decide) rfl (fun ls hl => ?_)
      refine lv_goto (tgt := 51) hx hb dX8_changed_80 (by decide) ?_
      exact ih hf Z (lv_sub hl [1, 2, 0] rfl)

def f_X8_changed_L11 (a_kept : (Nat → Int32)) (a_historyLong : Int32) (x1 : Int32) : Nat → Int32 → (Nat → Int32) → Option (Int32 × (Nat → Int32) × Int32)
  | 0, _, _ => none
  | n + 1, x2, a_history => if (230 : Int32) ≤ x2 then (f_X8_changed_L51 a_kept (a_historyLong - (1 : Int32)) x1 zF (0 : Int32) a_history) else (if (x2 + (46 : Int32)) < 0 ∨ 276 ≤ (x2 + (46 : Int32)).toNatClampNeg then none else (if x2 < 0 ∨ 276 ≤ x2.toNatClampNeg then none else (f_X8_changed_L11 a_kept a_historyLong x1 n (x2 + (1 : Int32)) (upd a_history x2.toNatClampNeg (a_history (x2 + (46 : Int32)).toNatClampNeg)))))
set_option maxHeartbeats 4000000 in
set_option maxRecDepth 100000 in
theorem w_X8_changed_L11 {p : Program} {l : Launch} {e : Env} {s : State} {m : MethodId} {args : Array Value} {below : List Frame} {meth : Method} {c : Code} {D : va_G} {cI cR : ClassId} {A : Nat → Prop} {a : (Nat → Nat)} {a_all : (Nat → Int32)} {a_kept : (Nat → Int32)} {a_historyLong : Int32} {a_slots : (Nat → Int32)} {a_isSaved : (Nat → Int32)} {a_pad : (Nat → Int32)} {a_padLong : Int32} {a_readHeight : (Nat → Int32)} {a_readPass : (Nat → Int32)} {a_readMany : Int32} {a_heights : (Nat → Int32)} {a_many : Int32} {a_takes : (Nat → Int32)} {x1 : Int32} {R : Int32 × (Nat → Int32) × Int32} (X : zX p s m c cX8_changed 3 args RX8 D cI cR A) (hr : meth.sig.returnType = (some .int)) (hlocks : meth.locks = false) : ∀ (n : Nat)  {x2 : Int32} {a_history : (Nat → Int32)} {H : Heap} {locs : List Loc} {ls : Array Slot}, f_X8_changed_L11 a_kept a_historyLong x1 n x2 a_history = some R → zW D A s [w_X8 cI cR a a_all a_kept a_history a_historyLong a_slots a_isSaved a_pad a_padLong a_readHeight a_readPass a_readMany a_heights a_many a_takes] H locs → lv_has ls 3 [(0, .ref (a 0)), (1, .int x1), (2, .int x2)] → W p l e ({ frames := 0, cells := 0, slots := 0, locals := 0 } : Room) s m args below meth c H locs 0 0 (zE D A below s args (some (.int R.1)) [w_X8 cI cR a a_all a_kept R.2.1 R.2.2 a_slots a_isSaved a_pad a_padLong a_readHeight a_readPass a_readMany a_heights a_many a_takes]) (F0 m 11 ls []) := by
  have hx := X.1.1
  have hb := X.1.2.1
  intro n
  induction n with
  | zero =>
    intro x2 a_history H locs ls hf
    have hf : none = some R := hf
    cases hf
  | succ n ih =>
    intro x2 a_history H locs ls hf Z hl
    refine lv_iload_n hx hb dX8_changed_11 rfl (lv_at hl 2 rfl) ?_
    refine lv_sipush (v := 230) hx hb dX8_changed_12 (by decide) ?_
    refine lv_icmp_ge (tgt := 39) hx hb dX8_changed_15 (by decide) (fun c5 => ?_) (fun c5 => ?_)
    · have hf := it_t c5 hf
      refine lv_aload_n hx hb dX8_changed_39 rfl (lv_at hl 0 rfl) ?_
      refine lv_dup hx hb dX8_changed_40 rfl ?_
      refine zg_X8_40 X Z 0 rfl rfl dX8_changed_41 ?_
      refine lv_iconst (v := 1) hx hb dX8_changed_44 (by decide) ?_
      refine lv_isub hx hb dX8_changed_45 ?_
      refine zp_X8_40 X Z 0 rfl (Nat.le_of_ble_eq_true rfl) [w_X8 cI cR a a_all a_kept a_history (a_historyLong - (1 : Int32)) a_slots a_isSaved a_pad a_padLong a_readHeight a_readPass a_readMany a_heights a_many a_takes] rfl dX8_changed_46 (fun H locs Z => ?_)
      refine lv_iconst (v := 0) hx hb dX8_changed_49 (by decide) ?_
      refine lv_istore_n (lv' := [(2, .int (0 : Int32)), (0, .ref (a 0)), (1, .int x1)]) hx hb dX8_changed_50 rfl hl (by decide) rfl (fun ls hl => ?_)
      exact w_X8_changed_L51 X hr hlocks _ hf Z (lv_sub hl [1, 2, 0] rfl)
    · have hf := it_f c5 hf
      refine lv_aload_n hx hb dX8_changed_18 rfl (lv_at hl 0 rfl) ?_
      refine zg_X8_16 X Z 0 rfl rfl dX8_changed_19 ?_
      refine lv_iload_n hx hb dX8_changed_22 rfl (lv_at hl 2 rfl) ?_
      refine lv_aload_n hx hb dX8_changed_23 rfl (lv_at hl 0 rfl) ?_
      refine zg_X8_16 X Z 0 rfl rfl dX8_changed_24 ?_
      refine lv_iload_n hx hb dX8_changed_27 rfl (lv_at hl 2 rfl) ?_
      refine lv_bipush (v := 46) hx hb dX8_changed_28 (by decide) ?_
      refine lv_iadd hx hb dX8_changed_30 ?_
      obtain ⟨i6, hf⟩ := in_s hf
      refine z_ld (j := (x2 + (46 : Int32)).toNatClampNeg) X Z 3 rfl i6 rfl dX8_changed_31 ?_
      obtain ⟨i7, hf⟩ := in_s hf
      refine z_st (j := x2.toNatClampNeg) X Z 3 rfl i7 rfl [w_X8 cI cR a a_all a_kept (upd a_history x2.toNatClampNeg (a_history (x2 + (46 : Int32)).toNatClampNeg)) a_historyLong a_slots a_isSaved a_pad a_padLong a_readHeight a_readPass a_readMany a_heights a_many a_takes] rfl dX8_changed_32 (fun H locs Z => ?_)
      refine lv_iinc (v := x2 + (1 : Int32)) (lv' := [(2, .int (x2 + (1 : Int32))), (0, .ref (a 0)), (1, .int x1)]) hx hb dX8_changed_33 hl (k := 2) rfl rfl (by decide) rfl (fun ls hl => ?_)
      refine lv_goto (tgt := 11) hx hb dX8_changed_36 (by decide) ?_
      exact ih hf Z (lv_sub hl [1, 2, 0] rfl)

def f_X8_changed (a_kept : (Nat → Int32)) (a_history : (Nat → Int32)) (a_historyLong : Int32) (p1 : Int32) : Option (Int32 × (Nat → Int32) × Int32) := if a_historyLong = (6 : Int32) then (f_X8_changed_L11 a_kept a_historyLong p1 zF (0 : Int32) a_history) else (f_X8_changed_L51 a_kept a_historyLong p1 zF (0 : Int32) a_history)
set_option maxHeartbeats 4000000 in
set_option maxRecDepth 100000 in
theorem c_X8_changed (l : Launch) (D : va_G) (cI cR : ClassId) (a : (Nat → Nat)) (a_all : (Nat → Int32)) (a_kept : (Nat → Int32)) (a_history : (Nat → Int32)) (a_historyLong : Int32) (a_slots : (Nat → Int32)) (a_isSaved : (Nat → Int32)) (a_pad : (Nat → Int32)) (a_padLong : Int32) (a_readHeight : (Nat → Int32)) (a_readPass : (Nat → Int32)) (a_readMany : Int32) (a_heights : (Nat → Int32)) (a_many : Int32) (a_takes : (Nat → Int32)) (p1 : Int32) {R : Int32 × (Nat → Int32) × Int32} (hf : f_X8_changed a_kept a_history a_historyLong p1 = some R) : zM l D cI cR yX8_changed cX8_changed 3 (some .int) 0 0 [.ref (a 0), .int p1] [w_X8 cI cR a a_all a_kept a_history a_historyLong a_slots a_isSaved a_pad a_padLong a_readHeight a_readPass a_readMany a_heights a_many a_takes] (some (.int R.1)) [w_X8 cI cR a a_all a_kept R.2.1 R.2.2 a_slots a_isSaved a_pad a_padLong a_readHeight a_readPass a_readMany a_heights a_many a_takes] := by
  refine z_of (own := RX8) rfl (by decide) (Nat.le_of_ble_eq_true rfl) ?_
  intro p e s m args below meth c A ls X hr hlocks Z hl
  have hx := X.1.1
  have hb := X.1.2.1
  have Z : zW D A s [w_X8 cI cR a a_all a_kept a_history a_historyLong a_slots a_isSaved a_pad a_padLong a_readHeight a_readPass a_readMany a_heights a_many a_takes] s.heap [] := Z
  have hl : lv_has ls 3 [(0, .ref (a 0)), (1, .int p1)] := hl
  refine lv_aload_n hx hb dX8_changed_0 rfl (lv_at hl 0 rfl) ?_
  refine zg_X8_40 X Z 0 rfl rfl dX8_changed_1 ?_
  refine lv_bipush (v := 6) hx hb dX8_changed_4 (by decide) ?_
  refine lv_icmp_ne (tgt := 49) hx hb dX8_changed_6 (by decide) (fun c1 => ?_) (fun c1 => ?_)
  · have hf := it_f c1 hf
    refine lv_iconst (v := 0) hx hb dX8_changed_49 (by decide) ?_
    refine lv_istore_n (lv' := [(2, .int (0 : Int32)), (0, .ref (a 0)), (1, .int p1)]) hx hb dX8_changed_50 rfl hl (by decide) rfl (fun ls hl => ?_)
    exact w_X8_changed_L51 X hr hlocks _ hf Z (lv_sub hl [1, 2, 0] rfl)
  · have hf := it_t c1 hf
    refine lv_iconst (v := 0) hx hb dX8_changed_9 (by decide) ?_
    refine lv_istore_n (lv' := [(2, .int (0 : Int32)), (0, .ref (a 0)), (1, .int p1)]) hx hb dX8_changed_10 rfl hl (by decide) rfl (fun ls hl => ?_)
    exact w_X8_changed_L11 X hr hlocks _ hf Z (lv_sub hl [1, 2, 0] rfl)
def f_X8_isJuggler (p0 : Int32) : Option (Int32) := (f_X8_in p0.toInt64 (0 : Int64) (1 : Int64)).bind (fun q1 => some q1)
set_option maxHeartbeats 4000000 in
set_option maxRecDepth 100000 in
theorem c_X8_isJuggler (l : Launch) (D : va_G) (cI cR : ClassId) (p0 : Int32) {R : Int32} (hf : f_X8_isJuggler p0 = some R) : zM l D cI cR yX8_isJuggler cX8_isJuggler 1 (some .boolean) 1 25 [.int p0] [] (some (.int R)) [] := by
  refine z_of (own := RX8) rfl (by decide) (Nat.le_of_ble_eq_true rfl) ?_
  intro p e s m args below meth c A ls X hr hlocks Z hl
  have hx := X.1.1
  have hb := X.1.2.1
  have Z : zW D A s [] s.heap [] := Z
  have hl : lv_has ls 1 [(0, .int p0)] := hl
  refine lv_iload_n hx hb dX8_isJuggler_0 rfl (lv_at hl 0 rfl) ?_
  refine lv_i2l hx hb dX8_isJuggler_1 rfl ?_
  refine lv_lconst (v := 0) hx hb dX8_isJuggler_2 (by decide) ?_
  refine lv_lconst (v := 1) hx hb dX8_isJuggler_3 (by decide) ?_
  obtain ⟨q1, hq1, hf⟩ := ob_s hf
  refine z_roS X Z (c_X8_in l D cI cR   p0.toInt64 (0 : Int64) (1 : Int64) hq1) (zw_X8_44 X.1.2.2.2.2 ⟨Nat.le_of_ble_eq_true rfl, Nat.le_of_ble_eq_true rfl⟩) [] [] (by decide : ([] ++ [] : List Nat).Perm (List.range 0)) rfl rfl hl.1 rfl (Nat.le_of_ble_eq_true rfl) dX8_isJuggler_4 ⟨Nat.le_of_ble_eq_true rfl, Nat.le_of_ble_eq_true rfl⟩ (fun H locs Z => ?_)
  have hR := so_s hf
  subst hR
  refine z_zret X hr hlocks (b_X8_in hq1) ?_ dX8_isJuggler_7
  exact Z.eq rfl
theorem b_X8_isJuggler {p0 : Int32} {R : Int32} (hf : f_X8_isJuggler p0 = some R) : R = 0 ∨ R = 1 := by
  obtain ⟨q1, hq1, hf⟩ := ob_s hf
  have hR := so_s hf
  subst hR
  exact (b_X8_in hq1)
def f_X8_isBeat (p0 : Int32) : Option (Int32) := (f_X8_in p0.toInt64 (0 : Int64) (7 : Int64)).bind (fun q1 => some q1)
set_option maxHeartbeats 4000000 in
set_option maxRecDepth 100000 in
theorem c_X8_isBeat (l : Launch) (D : va_G) (cI cR : ClassId) (p0 : Int32) {R : Int32} (hf : f_X8_isBeat p0 = some R) : zM l D cI cR yX8_isBeat cX8_isBeat 1 (some .boolean) 1 25 [.int p0] [] (some (.int R)) [] := by
  refine z_of (own := RX8) rfl (by decide) (Nat.le_of_ble_eq_true rfl) ?_
  intro p e s m args below meth c A ls X hr hlocks Z hl
  have hx := X.1.1
  have hb := X.1.2.1
  have Z : zW D A s [] s.heap [] := Z
  have hl : lv_has ls 1 [(0, .int p0)] := hl
  refine lv_iload_n hx hb dX8_isBeat_0 rfl (lv_at hl 0 rfl) ?_
  refine lv_i2l hx hb dX8_isBeat_1 rfl ?_
  refine lv_lconst (v := 0) hx hb dX8_isBeat_2 (by decide) ?_
  refine lv_ldc2 hx hb X.1.2.2.2.1 (X.1.2.2.2.2 _ mk_X8_48) dX8_isBeat_3 ?_
  obtain ⟨q1, hq1, hf⟩ := ob_s hf
  refine z_roS X Z (c_X8_in l D cI cR   p0.toInt64 (0 : Int64) (7 : Int64) hq1) (zw_X8_44 X.1.2.2.2.2 ⟨Nat.le_of_ble_eq_true rfl, Nat.le_of_ble_eq_true rfl⟩) [] [] (by decide : ([] ++ [] : List Nat).Perm (List.range 0)) rfl rfl hl.1 rfl (Nat.le_of_ble_eq_true rfl) dX8_isBeat_6 ⟨Nat.le_of_ble_eq_true rfl, Nat.le_of_ble_eq_true rfl⟩ (fun H locs Z => ?_)
  have hR := so_s hf
  subst hR
  refine z_zret X hr hlocks (b_X8_in hq1) ?_ dX8_isBeat_9
  exact Z.eq rfl
theorem b_X8_isBeat {p0 : Int32} {R : Int32} (hf : f_X8_isBeat p0 = some R) : R = 0 ∨ R = 1 := by
  obtain ⟨q1, hq1, hf⟩ := ob_s hf
  have hR := so_s hf
  subst hR
  exact (b_X8_in hq1)
def f_X8_bits_L4 : Nat → Int32 → Int32 → Option (Int32)
  | 0, _, _ => none
  | n + 1, x1, x2 => if x2 = 0 then (some x1) else (f_X8_bits_L4  n (x1 + (1 : Int32)) (x2 &&& (x2 - (1 : Int32))) )
set_option maxHeartbeats 4000000 in
set_option maxRecDepth 100000 in
theorem w_X8_bits_L4 {p : Program} {l : Launch} {e : Env} {s : State} {m : MethodId} {args : Array Value} {below : List Frame} {meth : Method} {c : Code} {D : va_G} {cI cR : ClassId} {A : Nat → Prop} {R : Int32} (X : zX p s m c cX8_bits 3 args RX8 D cI cR A) (hr : meth.sig.returnType = (some .int)) (hlocks : meth.locks = false) : ∀ (n : Nat)  {x1 : Int32} {x2 : Int32} {H : Heap} {locs : List Loc} {ls : Array Slot}, f_X8_bits_L4  n x1 x2 = some R → zW D A s [] H locs → lv_has ls 3 [(1, .int x1), (2, .int x2)] → W p l e ({ frames := 0, cells := 0, slots := 0, locals := 0 } : Room) s m args below meth c H locs 0 0 (zE D A below s args (some (.int R)) []) (F0 m 4 ls []) := by
  have hx := X.1.1
  have hb := X.1.2.1
  intro n
  induction n with
  | zero =>
    intro x1 x2 H locs ls hf
    have hf : none = some R := hf
    cases hf
  | succ n ih =>
    intro x1 x2 H locs ls hf Z hl
    refine lv_iload_n hx hb dX8_bits_4 rfl (lv_at hl 1 rfl) ?_
    refine lv_if_eq (tgt := 20) hx hb dX8_bits_5 (by decide) (fun c1 => ?_) (fun c1 => ?_)
    · have hf := it_t c1 hf
      refine lv_iload_n hx hb dX8_bits_20 rfl (lv_at hl 0 rfl) ?_
      have hR := so_s hf
      subst hR
      refine z_iret X hr hlocks ?_ dX8_bits_21
      exact Z.eq rfl
    · have hf := it_f c1 hf
      refine lv_iinc (v := x1 + (1 : Int32)) (lv' := [(1, .int (x1 + (1 : Int32))), (2, .int x2)]) hx hb dX8_bits_8 hl (k := 0) rfl rfl (by decide) rfl (fun ls hl => ?_)
      refine lv_iload_n hx hb dX8_bits_11 rfl (lv_at hl 1 rfl) ?_
      refine lv_iload_n hx hb dX8_bits_12 rfl (lv_at hl 1 rfl) ?_
      refine lv_iconst (v := 1) hx hb dX8_bits_13 (by decide) ?_
      refine lv_isub hx hb dX8_bits_14 ?_
      refine lv_iand hx hb dX8_bits_15 ?_
      refine lv_istore_n (lv' := [(2, .int (x2 &&& (x2 - (1 : Int32)))), (1, .int (x1 + (1 : Int32)))]) hx hb dX8_bits_16 rfl hl (by decide) rfl (fun ls hl => ?_)
      refine lv_goto (tgt := 4) hx hb dX8_bits_17 (by decide) ?_
      exact ih hf Z (lv_sub hl [1, 0] rfl)

def f_X8_bits (p0 : Int32) : Option (Int32) := f_X8_bits_L4  zF (0 : Int32) p0
set_option maxHeartbeats 4000000 in
set_option maxRecDepth 100000 in
theorem c_X8_bits (l : Launch) (D : va_G) (cI cR : ClassId) (p0 : Int32) {R : Int32} (hf : f_X8_bits p0 = some R) : zM l D cI cR yX8_bits cX8_bits 3 (some .int) 0 0 [.int p0] [] (some (.int R)) [] := by
  refine z_of (own := RX8) rfl (by decide) (Nat.le_of_ble_eq_true rfl) ?_
  intro p e s m args below meth c A ls X hr hlocks Z hl
  have hx := X.1.1
  have hb := X.1.2.1
  have Z : zW D A s [] s.heap [] := Z
  have hl : lv_has ls 3 [(0, .int p0)] := hl
  refine lv_iconst (v := 0) hx hb dX8_bits_0 (by decide) ?_
  refine lv_istore_n (lv' := [(1, .int (0 : Int32)), (0, .int p0)]) hx hb dX8_bits_1 rfl hl (by decide) rfl (fun ls hl => ?_)
  refine lv_iload_n hx hb dX8_bits_2 rfl (lv_at hl 1 rfl) ?_
  refine lv_istore_n (lv' := [(2, .int p0), (1, .int (0 : Int32)), (0, .int p0)]) hx hb dX8_bits_3 rfl hl (by decide) rfl (fun ls hl => ?_)
  exact w_X8_bits_L4 X hr hlocks _ hf Z (lv_sub hl [1, 0] rfl)
def f_X8_clubs (a_all : (Nat → Int32)) : Option (Int32) := (f_X8_bits (a_all 0)).bind (fun q1 => (f_X8_bits (a_all 1)).bind (fun q2 => some ((q1 + q2) + (a_all 38))))
set_option maxHeartbeats 4000000 in
set_option maxRecDepth 100000 in
theorem c_X8_clubs (l : Launch) (D : va_G) (cI cR : ClassId) (a : (Nat → Nat)) (a_all : (Nat → Int32)) (a_kept : (Nat → Int32)) (a_history : (Nat → Int32)) (a_historyLong : Int32) (a_slots : (Nat → Int32)) (a_isSaved : (Nat → Int32)) (a_pad : (Nat → Int32)) (a_padLong : Int32) (a_readHeight : (Nat → Int32)) (a_readPass : (Nat → Int32)) (a_readMany : Int32) (a_heights : (Nat → Int32)) (a_many : Int32) (a_takes : (Nat → Int32)) {R : Int32} (hf : f_X8_clubs a_all = some R) : zM l D cI cR yX8_clubs cX8_clubs 1 (some .int) 1 22 [.ref (a 0)] [w_X8 cI cR a a_all a_kept a_history a_historyLong a_slots a_isSaved a_pad a_padLong a_readHeight a_readPass a_readMany a_heights a_many a_takes] (some (.int R)) [w_X8 cI cR a a_all a_kept a_history a_historyLong a_slots a_isSaved a_pad a_padLong a_readHeight a_readPass a_readMany a_heights a_many a_takes] := by
  refine z_of (own := RX8) rfl (by decide) (Nat.le_of_ble_eq_true rfl) ?_
  intro p e s m args below meth c A ls X hr hlocks Z hl
  have hx := X.1.1
  have hb := X.1.2.1
  have Z : zW D A s [w_X8 cI cR a a_all a_kept a_history a_historyLong a_slots a_isSaved a_pad a_padLong a_readHeight a_readPass a_readMany a_heights a_many a_takes] s.heap [] := Z
  have hl : lv_has ls 1 [(0, .ref (a 0))] := hl
  refine lv_aload_n hx hb dX8_clubs_0 rfl (lv_at hl 0 rfl) ?_
  refine zg_X8_7 X Z 0 rfl rfl dX8_clubs_1 ?_
  refine lv_iconst (v := 0) hx hb dX8_clubs_4 (by decide) ?_
  refine z_ld (j := 0) X Z 1 rfl (by decide) (by decide) dX8_clubs_5 ?_
  obtain ⟨q1, hq1, hf⟩ := ob_s hf
  refine z_roS X Z (c_X8_bits l D cI cR   (a_all 0) hq1) (zw_X8_50 X.1.2.2.2.2 ⟨Nat.le_of_ble_eq_true rfl, Nat.le_of_ble_eq_true rfl⟩) [] [0] (by decide : ([] ++ [0] : List Nat).Perm (List.range 1)) rfl rfl hl.1 rfl (Nat.le_of_ble_eq_true rfl) dX8_clubs_6 ⟨Nat.le_of_ble_eq_true rfl, Nat.le_of_ble_eq_true rfl⟩ (fun H locs Z => ?_)
  refine lv_aload_n hx hb dX8_clubs_9 rfl (lv_at hl 0 rfl) ?_
  refine zg_X8_7 X Z 0 rfl rfl dX8_clubs_10 ?_
  refine lv_iconst (v := 1) hx hb dX8_clubs_13 (by decide) ?_
  refine z_ld (j := 1) X Z 1 rfl (by decide) (by decide) dX8_clubs_14 ?_
  obtain ⟨q2, hq2, hf⟩ := ob_s hf
  refine z_roS X Z (c_X8_bits l D cI cR   (a_all 1) hq2) (zw_X8_50 X.1.2.2.2.2 ⟨Nat.le_of_ble_eq_true rfl, Nat.le_of_ble_eq_true rfl⟩) [] [0] (by decide : ([] ++ [0] : List Nat).Perm (List.range 1)) rfl rfl hl.1 rfl (Nat.le_of_ble_eq_true rfl) dX8_clubs_15 ⟨Nat.le_of_ble_eq_true rfl, Nat.le_of_ble_eq_true rfl⟩ (fun H locs Z => ?_)
  refine lv_iadd hx hb dX8_clubs_18 ?_
  refine lv_aload_n hx hb dX8_clubs_19 rfl (lv_at hl 0 rfl) ?_
  refine zg_X8_7 X Z 0 rfl rfl dX8_clubs_20 ?_
  refine lv_bipush (v := 38) hx hb dX8_clubs_23 (by decide) ?_
  refine z_ld (j := 38) X Z 1 rfl (by decide) (by decide) dX8_clubs_25 ?_
  refine lv_iadd hx hb dX8_clubs_26 ?_
  have hR := so_s hf
  subst hR
  refine z_iret X hr hlocks ?_ dX8_clubs_27
  exact Z.eq rfl
def f_X8_throwsOne (a_all : (Nat → Int32)) (p1 : Int32) : Option ((Nat → Int32)) := if ((2 : Int32) + p1) < 0 ∨ 46 ≤ ((2 : Int32) + p1).toNatClampNeg then none else (if ((6 : Int32) + (((8 : Int32) * p1) + (a_all ((2 : Int32) + p1).toNatClampNeg))) < 0 ∨ 46 ≤ ((6 : Int32) + (((8 : Int32) * p1) + (a_all ((2 : Int32) + p1).toNatClampNeg))).toNatClampNeg then none else (if ((22 : Int32) + (((8 : Int32) * p1) + (a_all ((2 : Int32) + p1).toNatClampNeg))) < 0 ∨ 46 ≤ ((22 : Int32) + (((8 : Int32) * p1) + (a_all ((2 : Int32) + p1).toNatClampNeg))).toNatClampNeg then none else (if (a_all ((22 : Int32) + (((8 : Int32) * p1) + (a_all ((2 : Int32) + p1).toNatClampNeg))).toNatClampNeg) = (1 : Int32) then (if (a_all ((6 : Int32) + (((8 : Int32) * p1) + (a_all ((2 : Int32) + p1).toNatClampNeg))).toNatClampNeg) = 0 then (if ((40 : Int32) + p1) < 0 ∨ 46 ≤ ((40 : Int32) + p1).toNatClampNeg then none else (if ((40 : Int32) + p1) < 0 ∨ 46 ≤ ((40 : Int32) + p1).toNatClampNeg then none else (some (upd (upd (upd a_all 44 ((a_all 44) + (1 : Int32))) (((40 : Int32) + p1).toNatClampNeg) (((upd a_all 44 ((a_all 44) + (1 : Int32))) ((40 : Int32) + p1).toNatClampNeg) + (1 : Int32))) 38 (((upd (upd a_all 44 ((a_all 44) + (1 : Int32))) (((40 : Int32) + p1).toNatClampNeg) (((upd a_all 44 ((a_all 44) + (1 : Int32))) ((40 : Int32) + p1).toNatClampNeg) + (1 : Int32))) 38) + (1 : Int32)))))) else (if ((0 : Int32) + ((1 : Int32) - p1)) < 0 ∨ 46 ≤ ((0 : Int32) + ((1 : Int32) - p1)).toNatClampNeg then none else (if ((((upd a_all 44 ((a_all 44) + (1 : Int32))) ((0 : Int32) + ((1 : Int32) - p1)).toNatClampNeg) >>> ((a_all ((6 : Int32) + (((8 : Int32) * p1) + (a_all ((2 : Int32) + p1).toNatClampNeg))).toNatClampNeg) &&& 31)) &&& (1 : Int32)) = (1 : Int32) then (if ((42 : Int32) + p1) < 0 ∨ 46 ≤ ((42 : Int32) + p1).toNatClampNeg then none else (if ((42 : Int32) + p1) < 0 ∨ 46 ≤ ((42 : Int32) + p1).toNatClampNeg then none else (some (upd (upd (upd a_all 44 ((a_all 44) + (1 : Int32))) (((42 : Int32) + p1).toNatClampNeg) (((upd a_all 44 ((a_all 44) + (1 : Int32))) ((42 : Int32) + p1).toNatClampNeg) + (1 : Int32))) 38 (((upd (upd a_all 44 ((a_all 44) + (1 : Int32))) (((42 : Int32) + p1).toNatClampNeg) (((upd a_all 44 ((a_all 44) + (1 : Int32))) ((42 : Int32) + p1).toNatClampNeg) + (1 : Int32))) 38) + (1 : Int32)))))) else (if ((0 : Int32) + ((1 : Int32) - p1)) < 0 ∨ 46 ≤ ((0 : Int32) + ((1 : Int32) - p1)).toNatClampNeg then none else (if ((0 : Int32) + ((1 : Int32) - p1)) < 0 ∨ 46 ≤ ((0 : Int32) + ((1 : Int32) - p1)).toNatClampNeg then none else (if ((22 : Int32) + (((8 : Int32) * p1) + (a_all ((2 : Int32) + p1).toNatClampNeg))) < 0 ∨ 46 ≤ ((22 : Int32) + (((8 : Int32) * p1) + (a_all ((2 : Int32) + p1).toNatClampNeg))).toNatClampNeg then none else (some (upd (upd (upd a_all 44 ((a_all 44) + (1 : Int32))) (((0 : Int32) + ((1 : Int32) - p1)).toNatClampNeg) (((upd a_all 44 ((a_all 44) + (1 : Int32))) ((0 : Int32) + ((1 : Int32) - p1)).toNatClampNeg) ||| ((1 : Int32) <<< ((a_all ((6 : Int32) + (((8 : Int32) * p1) + (a_all ((2 : Int32) + p1).toNatClampNeg))).toNatClampNeg) &&& 31)))) 45 (((upd (upd a_all 44 ((a_all 44) + (1 : Int32))) (((0 : Int32) + ((1 : Int32) - p1)).toNatClampNeg) (((upd a_all 44 ((a_all 44) + (1 : Int32))) ((0 : Int32) + ((1 : Int32) - p1)).toNatClampNeg) ||| ((1 : Int32) <<< ((a_all ((6 : Int32) + (((8 : Int32) * p1) + (a_all ((2 : Int32) + p1).toNatClampNeg))).toNatClampNeg) &&& 31)))) 45) + ((upd (upd a_all 44 ((a_all 44) + (1 : Int32))) (((0 : Int32) + ((1 : Int32) - p1)).toNatClampNeg) (((upd a_all 44 ((a_all 44) + (1 : Int32))) ((0 : Int32) + ((1 : Int32) - p1)).toNatClampNeg) ||| ((1 : Int32) <<< ((a_all ((6 : Int32) + (((8 : Int32) * p1) + (a_all ((2 : Int32) + p1).toNatClampNeg))).toNatClampNeg) &&& 31)))) ((22 : Int32) + (((8 : Int32) * p1) + (a_all ((2 : Int32) + p1).toNatClampNeg))).toNatClampNeg)))))))))) else (if (a_all ((6 : Int32) + (((8 : Int32) * p1) + (a_all ((2 : Int32) + p1).toNatClampNeg))).toNatClampNeg) = 0 then (if ((40 : Int32) + p1) < 0 ∨ 46 ≤ ((40 : Int32) + p1).toNatClampNeg then none else (if ((40 : Int32) + p1) < 0 ∨ 46 ≤ ((40 : Int32) + p1).toNatClampNeg then none else (some (upd (upd (upd a_all 44 ((a_all 44) + (1 : Int32))) (((40 : Int32) + p1).toNatClampNeg) (((upd a_all 44 ((a_all 44) + (1 : Int32))) ((40 : Int32) + p1).toNatClampNeg) + (1 : Int32))) 38 (((upd (upd a_all 44 ((a_all 44) + (1 : Int32))) (((40 : Int32) + p1).toNatClampNeg) (((upd a_all 44 ((a_all 44) + (1 : Int32))) ((40 : Int32) + p1).toNatClampNeg) + (1 : Int32))) 38) + (1 : Int32)))))) else (if ((0 : Int32) + p1) < 0 ∨ 46 ≤ ((0 : Int32) + p1).toNatClampNeg then none else (if ((((upd a_all 44 ((a_all 44) + (1 : Int32))) ((0 : Int32) + p1).toNatClampNeg) >>> ((a_all ((6 : Int32) + (((8 : Int32) * p1) + (a_all ((2 : Int32) + p1).toNatClampNeg))).toNatClampNeg) &&& 31)) &&& (1 : Int32)) = (1 : Int32) then (if ((42 : Int32) + p1) < 0 ∨ 46 ≤ ((42 : Int32) + p1).toNatClampNeg then none else (if ((42 : Int32) + p1) < 0 ∨ 46 ≤ ((42 : Int32) + p1).toNatClampNeg then none else (some (upd (upd (upd a_all 44 ((a_all 44) + (1 : Int32))) (((42 : Int32) + p1).toNatClampNeg) (((upd a_all 44 ((a_all 44) + (1 : Int32))) ((42 : Int32) + p1).toNatClampNeg) + (1 : Int32))) 38 (((upd (upd a_all 44 ((a_all 44) + (1 : Int32))) (((42 : Int32) + p1).toNatClampNeg) (((upd a_all 44 ((a_all 44) + (1 : Int32))) ((42 : Int32) + p1).toNatClampNeg) + (1 : Int32))) 38) + (1 : Int32)))))) else (if ((0 : Int32) + p1) < 0 ∨ 46 ≤ ((0 : Int32) + p1).toNatClampNeg then none else (if ((0 : Int32) + p1) < 0 ∨ 46 ≤ ((0 : Int32) + p1).toNatClampNeg then none else (if ((22 : Int32) + (((8 : Int32) * p1) + (a_all ((2 : Int32) + p1).toNatClampNeg))) < 0 ∨ 46 ≤ ((22 : Int32) + (((8 : Int32) * p1) + (a_all ((2 : Int32) + p1).toNatClampNeg))).toNatClampNeg then none else (some (upd (upd (upd a_all 44 ((a_all 44) + (1 : Int32))) (((0 : Int32) + p1).toNatClampNeg) (((upd a_all 44 ((a_all 44) + (1 : Int32))) ((0 : Int32) + p1).toNatClampNeg) ||| ((1 : Int32) <<< ((a_all ((6 : Int32) + (((8 : Int32) * p1) + (a_all ((2 : Int32) + p1).toNatClampNeg))).toNatClampNeg) &&& 31)))) 45 (((upd (upd a_all 44 ((a_all 44) + (1 : Int32))) (((0 : Int32) + p1).toNatClampNeg) (((upd a_all 44 ((a_all 44) + (1 : Int32))) ((0 : Int32) + p1).toNatClampNeg) ||| ((1 : Int32) <<< ((a_all ((6 : Int32) + (((8 : Int32) * p1) + (a_all ((2 : Int32) + p1).toNatClampNeg))).toNatClampNeg) &&& 31)))) 45) + ((upd (upd a_all 44 ((a_all 44) + (1 : Int32))) (((0 : Int32) + p1).toNatClampNeg) (((upd a_all 44 ((a_all 44) + (1 : Int32))) ((0 : Int32) + p1).toNatClampNeg) ||| ((1 : Int32) <<< ((a_all ((6 : Int32) + (((8 : Int32) * p1) + (a_all ((2 : Int32) + p1).toNatClampNeg))).toNatClampNeg) &&& 31)))) ((22 : Int32) + (((8 : Int32) * p1) + (a_all ((2 : Int32) + p1).toNatClampNeg))).toNatClampNeg)))))))))))))
set_option maxHeartbeats 4000000 in
set_option maxRecDepth 100000 in
theorem c_X8_throwsOne (l : Launch) (D : va_G) (cI cR : ClassId) (a : (Nat → Nat)) (a_all : (Nat → Int32)) (a_kept : (Nat → Int32)) (a_history : (Nat → Int32)) (a_historyLong : Int32) (a_slots : (Nat → Int32)) (a_isSaved : (Nat → Int32)) (a_pad : (Nat → Int32)) (a_padLong : Int32) (a_readHeight : (Nat → Int32)) (a_readPass : (Nat → Int32)) (a_readMany : Int32) (a_heights : (Nat → Int32)) (a_many : Int32) (a_takes : (Nat → Int32)) (p1 : Int32) {R : (Nat → Int32)} (hf : f_X8_throwsOne a_all p1 = some R) : zM l D cI cR yX8_throwsOne cX8_throwsOne 5 none 0 0 [.ref (a 0), .int p1] [w_X8 cI cR a a_all a_kept a_history a_historyLong a_slots a_isSaved a_pad a_padLong a_readHeight a_readPass a_readMany a_heights a_many a_takes] none [w_X8 cI cR a R a_kept a_history a_historyLong a_slots a_isSaved a_pad a_padLong a_readHeight a_readPass a_readMany a_heights a_many a_takes] := by
  refine z_of (own := RX8) rfl (by decide) (Nat.le_of_ble_eq_true rfl) ?_
  intro p e s m args below meth c A ls X hr hlocks Z hl
  have hx := X.1.1
  have hb := X.1.2.1
  have Z : zW D A s [w_X8 cI cR a a_all a_kept a_history a_historyLong a_slots a_isSaved a_pad a_padLong a_readHeight a_readPass a_readMany a_heights a_many a_takes] s.heap [] := Z
  have hl : lv_has ls 5 [(0, .ref (a 0)), (1, .int p1)] := hl
  refine lv_bipush (v := 8) hx hb dX8_throwsOne_0 (by decide) ?_
  refine lv_iload_n hx hb dX8_throwsOne_2 rfl (lv_at hl 1 rfl) ?_
  refine lv_imul hx hb dX8_throwsOne_3 ?_
  refine lv_aload_n hx hb dX8_throwsOne_4 rfl (lv_at hl 0 rfl) ?_
  refine zg_X8_7 X Z 0 rfl rfl dX8_throwsOne_5 ?_
  refine lv_iconst (v := 2) hx hb dX8_throwsOne_8 (by decide) ?_
  refine lv_iload_n hx hb dX8_throwsOne_9 rfl (lv_at hl 1 rfl) ?_
  refine lv_iadd hx hb dX8_throwsOne_10 ?_
  obtain ⟨i1, hf⟩ := in_s hf
  refine z_ld (j := ((2 : Int32) + p1).toNatClampNeg) X Z 1 rfl i1 rfl dX8_throwsOne_11 ?_
  refine lv_iadd hx hb dX8_throwsOne_12 ?_
  refine lv_istore_n (lv' := [(2, .int (((8 : Int32) * p1) + (a_all ((2 : Int32) + p1).toNatClampNeg))), (0, .ref (a 0)), (1, .int p1)]) hx hb dX8_throwsOne_13 rfl hl (by decide) rfl (fun ls hl => ?_)
  refine lv_aload_n hx hb dX8_throwsOne_14 rfl (lv_at hl 1 rfl) ?_
  refine zg_X8_7 X Z 0 rfl rfl dX8_throwsOne_15 ?_
  refine lv_bipush (v := 6) hx hb dX8_throwsOne_18 (by decide) ?_
  refine lv_iload_n hx hb dX8_throwsOne_20 rfl (lv_at hl 0 rfl) ?_
  refine lv_iadd hx hb dX8_throwsOne_21 ?_
  obtain ⟨i2, hf⟩ := in_s hf
  refine z_ld (j := ((6 : Int32) + (((8 : Int32) * p1) + (a_all ((2 : Int32) + p1).toNatClampNeg))).toNatClampNeg) X Z 1 rfl i2 rfl dX8_throwsOne_22 ?_
  refine lv_istore_n (lv' := [(3, .int (a_all ((6 : Int32) + (((8 : Int32) * p1) + (a_all ((2 : Int32) + p1).toNatClampNeg))).toNatClampNeg)), (2, .int (((8 : Int32) * p1) + (a_all ((2 : Int32) + p1).toNatClampNeg))), (0, .ref (a 0)), (1, .int p1)]) hx hb dX8_throwsOne_23 rfl hl (by decide) rfl (fun ls hl => ?_)
  refine lv_aload_n hx hb dX8_throwsOne_24 rfl (lv_at hl 2 rfl) ?_
  refine zg_X8_7 X Z 0 rfl rfl dX8_throwsOne_25 ?_
  refine lv_bipush (v := 22) hx hb dX8_throwsOne_28 (by decide) ?_
  refine lv_iload_n hx hb dX8_throwsOne_30 rfl (lv_at hl 1 rfl) ?_
  refine lv_iadd hx hb dX8_throwsOne_31 ?_
  obtain ⟨i3, hf⟩ := in_s hf
  refine z_ld (j := ((22 : Int32) + (((8 : Int32) * p1) + (a_all ((2 : Int32) + p1).toNatClampNeg))).toNatClampNeg) X Z 1 rfl i3 rfl dX8_throwsOne_32 ?_
  refine lv_iconst (v := 1) hx hb dX8_throwsOne_33 (by decide) ?_
  refine lv_icmp_ne (tgt := 43) hx hb dX8_throwsOne_34 (by decide) (fun c4 => ?_) (fun c4 => ?_)
  · have hf := it_f c4 hf
    refine lv_iload_n hx hb dX8_throwsOne_43 rfl (lv_at hl 3 rfl) ?_
    refine lv_istore (lv' := [(4, .int p1), (3, .int (a_all ((6 : Int32) + (((8 : Int32) * p1) + (a_all ((2 : Int32) + p1).toNatClampNeg))).toNatClampNeg)), (2, .int (((8 : Int32) * p1) + (a_all ((2 : Int32) + p1).toNatClampNeg))), (0, .ref (a 0)), (1, .int p1)]) hx hb dX8_throwsOne_44 hl (by decide) rfl (fun ls hl => ?_)
    refine lv_aload_n hx hb dX8_throwsOne_46 rfl (lv_at hl 3 rfl) ?_
    refine zg_X8_7 X Z 0 rfl rfl dX8_throwsOne_47 ?_
    refine lv_bipush (v := 44) hx hb dX8_throwsOne_50 (by decide) ?_
    refine lv_dup2_11 hx hb dX8_throwsOne_52 rfl rfl ?_
    refine z_ld (j := 44) X Z 1 rfl (by decide) (by decide) dX8_throwsOne_53 ?_
    refine lv_iconst (v := 1) hx hb dX8_throwsOne_54 (by decide) ?_
    refine lv_iadd hx hb dX8_throwsOne_55 ?_
    refine z_st (j := 44) X Z 1 rfl (by decide) (by decide) [w_X8 cI cR a (upd a_all 44 ((a_all 44) + (1 : Int32))) a_kept a_history a_historyLong a_slots a_isSaved a_pad a_padLong a_readHeight a_readPass a_readMany a_heights a_many a_takes] rfl dX8_throwsOne_56 (fun H locs Z => ?_)
    refine lv_iload_n hx hb dX8_throwsOne_57 rfl (lv_at hl 1 rfl) ?_
    refine lv_if_ne (tgt := 88) hx hb dX8_throwsOne_58 (by decide) (fun c5 => ?_) (fun c5 => ?_)
    · have hf := it_f c5 hf
      refine lv_aload_n hx hb dX8_throwsOne_88 rfl (lv_at hl 3 rfl) ?_
      refine zg_X8_7 X Z 0 rfl rfl dX8_throwsOne_89 ?_
      refine lv_iconst (v := 0) hx hb dX8_throwsOne_92 (by decide) ?_
      refine lv_iload hx hb dX8_throwsOne_93 (lv_at hl 0 rfl) ?_
      refine lv_iadd hx hb dX8_throwsOne_95 ?_
      obtain ⟨i6, hf⟩ := in_s hf
      refine z_ld (j := ((0 : Int32) + p1).toNatClampNeg) X Z 1 rfl i6 rfl dX8_throwsOne_96 ?_
      refine lv_iload_n hx hb dX8_throwsOne_97 rfl (lv_at hl 1 rfl) ?_
      refine lv_ishr hx hb dX8_throwsOne_98 ?_
      refine lv_iconst (v := 1) hx hb dX8_throwsOne_99 (by decide) ?_
      refine lv_iand hx hb dX8_throwsOne_100 ?_
      refine lv_iconst (v := 1) hx hb dX8_throwsOne_101 (by decide) ?_
      refine lv_icmp_ne (tgt := 132) hx hb dX8_throwsOne_102 (by decide) (fun c7 => ?_) (fun c7 => ?_)
      · have hf := it_f c7 hf
        refine lv_aload_n hx hb dX8_throwsOne_132 rfl (lv_at hl 3 rfl) ?_
        refine zg_X8_7 X Z 0 rfl rfl dX8_throwsOne_133 ?_
        refine lv_iconst (v := 0) hx hb dX8_throwsOne_136 (by decide) ?_
        refine lv_iload hx hb dX8_throwsOne_137 (lv_at hl 0 rfl) ?_
        refine lv_iadd hx hb dX8_throwsOne_139 ?_
        refine lv_dup2_11 hx hb dX8_throwsOne_140 rfl rfl ?_
        obtain ⟨i8, hf⟩ := in_s hf
        refine z_ld (j := ((0 : Int32) + p1).toNatClampNeg) X Z 1 rfl i8 rfl dX8_throwsOne_141 ?_
        refine lv_iconst (v := 1) hx hb dX8_throwsOne_142 (by decide) ?_
        refine lv_iload_n hx hb dX8_throwsOne_143 rfl (lv_at hl 1 rfl) ?_
        refine lv_ishl hx hb dX8_throwsOne_144 ?_
        refine lv_ior hx hb dX8_throwsOne_145 ?_
        obtain ⟨i9, hf⟩ := in_s hf
        refine z_st (j := ((0 : Int32) + p1).toNatClampNeg) X Z 1 rfl i9 rfl [w_X8 cI cR a (upd (upd a_all 44 ((a_all 44) + (1 : Int32))) (((0 : Int32) + p1).toNatClampNeg) (((upd a_all 44 ((a_all 44) + (1 : Int32))) ((0 : Int32) + p1).toNatClampNeg) ||| ((1 : Int32) <<< ((a_all ((6 : Int32) + (((8 : Int32) * p1) + (a_all ((2 : Int32) + p1).toNatClampNeg))).toNatClampNeg) &&& 31)))) a_kept a_history a_historyLong a_slots a_isSaved a_pad a_padLong a_readHeight a_readPass a_readMany a_heights a_many a_takes] rfl dX8_throwsOne_146 (fun H locs Z => ?_)
        refine lv_aload_n hx hb dX8_throwsOne_147 rfl (lv_at hl 3 rfl) ?_
        refine zg_X8_7 X Z 0 rfl rfl dX8_throwsOne_148 ?_
        refine lv_bipush (v := 45) hx hb dX8_throwsOne_151 (by decide) ?_
        refine lv_dup2_11 hx hb dX8_throwsOne_153 rfl rfl ?_
        refine z_ld (j := 45) X Z 1 rfl (by decide) (by decide) dX8_throwsOne_154 ?_
        refine lv_aload_n hx hb dX8_throwsOne_155 rfl (lv_at hl 3 rfl) ?_
        refine zg_X8_7 X Z 0 rfl rfl dX8_throwsOne_156 ?_
        refine lv_bipush (v := 22) hx hb dX8_throwsOne_159 (by decide) ?_
        refine lv_iload_n hx hb dX8_throwsOne_161 rfl (lv_at hl 2 rfl) ?_
        refine lv_iadd hx hb dX8_throwsOne_162 ?_
        obtain ⟨i10, hf⟩ := in_s hf
        refine z_ld (j := ((22 : Int32) + (((8 : Int32) * p1) + (a_all ((2 : Int32) + p1).toNatClampNeg))).toNatClampNeg) X Z 1 rfl i10 rfl dX8_throwsOne_163 ?_
        refine lv_iadd hx hb dX8_throwsOne_164 ?_
        refine z_st (j := 45) X Z 1 rfl (by decide) (by decide) [w_X8 cI cR a (upd (upd (upd a_all 44 ((a_all 44) + (1 : Int32))) (((0 : Int32) + p1).toNatClampNeg) (((upd a_all 44 ((a_all 44) + (1 : Int32))) ((0 : Int32) + p1).toNatClampNeg) ||| ((1 : Int32) <<< ((a_all ((6 : Int32) + (((8 : Int32) * p1) + (a_all ((2 : Int32) + p1).toNatClampNeg))).toNatClampNeg) &&& 31)))) 45 (((upd (upd a_all 44 ((a_all 44) + (1 : Int32))) (((0 : Int32) + p1).toNatClampNeg) (((upd a_all 44 ((a_all 44) + (1 : Int32))) ((0 : Int32) + p1).toNatClampNeg) ||| ((1 : Int32) <<< ((a_all ((6 : Int32) + (((8 : Int32) * p1) + (a_all ((2 : Int32) + p1).toNatClampNeg))).toNatClampNeg) &&& 31)))) 45) + ((upd (upd a_all 44 ((a_all 44) + (1 : Int32))) (((0 : Int32) + p1).toNatClampNeg) (((upd a_all 44 ((a_all 44) + (1 : Int32))) ((0 : Int32) + p1).toNatClampNeg) ||| ((1 : Int32) <<< ((a_all ((6 : Int32) + (((8 : Int32) * p1) + (a_all ((2 : Int32) + p1).toNatClampNeg))).toNatClampNeg) &&& 31)))) ((22 : Int32) + (((8 : Int32) * p1) + (a_all ((2 : Int32) + p1).toNatClampNeg))).toNatClampNeg))) a_kept a_history a_historyLong a_slots a_isSaved a_pad a_padLong a_readHeight a_readPass a_readMany a_heights a_many a_takes] rfl dX8_throwsOne_165 (fun H locs Z => ?_)
        have hR := so_s hf
        subst hR
        refine z_vret X hr hlocks ?_ dX8_throwsOne_166
        exact Z.eq rfl
      · have hf := it_t c7 hf
        refine lv_aload_n hx hb dX8_throwsOne_105 rfl (lv_at hl 3 rfl) ?_
        refine zg_X8_7 X Z 0 rfl rfl dX8_throwsOne_106 ?_
        refine lv_bipush (v := 42) hx hb dX8_throwsOne_109 (by decide) ?_
        refine lv_iload_n hx hb dX8_throwsOne_111 rfl (lv_at hl 4 rfl) ?_
        refine lv_iadd hx hb dX8_throwsOne_112 ?_
        refine lv_dup2_11 hx hb dX8_throwsOne_113 rfl rfl ?_
        obtain ⟨i11, hf⟩ := in_s hf
        refine z_ld (j := ((42 : Int32) + p1).toNatClampNeg) X Z 1 rfl i11 rfl dX8_throwsOne_114 ?_
        refine lv_iconst (v := 1) hx hb dX8_throwsOne_115 (by decide) ?_
        refine lv_iadd hx hb dX8_throwsOne_116 ?_
        obtain ⟨i12, hf⟩ := in_s hf
        refine z_st (j := ((42 : Int32) + p1).toNatClampNeg) X Z 1 rfl i12 rfl [w_X8 cI cR a (upd (upd a_all 44 ((a_all 44) + (1 : Int32))) (((42 : Int32) + p1).toNatClampNeg) (((upd a_all 44 ((a_all 44) + (1 : Int32))) ((42 : Int32) + p1).toNatClampNeg) + (1 : Int32))) a_kept a_history a_historyLong a_slots a_isSaved a_pad a_padLong a_readHeight a_readPass a_readMany a_heights a_many a_takes] rfl dX8_throwsOne_117 (fun H locs Z => ?_)
        refine lv_aload_n hx hb dX8_throwsOne_118 rfl (lv_at hl 3 rfl) ?_
        refine zg_X8_7 X Z 0 rfl rfl dX8_throwsOne_119 ?_
        refine lv_bipush (v := 38) hx hb dX8_throwsOne_122 (by decide) ?_
        refine lv_dup2_11 hx hb dX8_throwsOne_124 rfl rfl ?_
        refine z_ld (j := 38) X Z 1 rfl (by decide) (by decide) dX8_throwsOne_125 ?_
        refine lv_iconst (v := 1) hx hb dX8_throwsOne_126 (by decide) ?_
        refine lv_iadd hx hb dX8_throwsOne_127 ?_
        refine z_st (j := 38) X Z 1 rfl (by decide) (by decide) [w_X8 cI cR a (upd (upd (upd a_all 44 ((a_all 44) + (1 : Int32))) (((42 : Int32) + p1).toNatClampNeg) (((upd a_all 44 ((a_all 44) + (1 : Int32))) ((42 : Int32) + p1).toNatClampNeg) + (1 : Int32))) 38 (((upd (upd a_all 44 ((a_all 44) + (1 : Int32))) (((42 : Int32) + p1).toNatClampNeg) (((upd a_all 44 ((a_all 44) + (1 : Int32))) ((42 : Int32) + p1).toNatClampNeg) + (1 : Int32))) 38) + (1 : Int32))) a_kept a_history a_historyLong a_slots a_isSaved a_pad a_padLong a_readHeight a_readPass a_readMany a_heights a_many a_takes] rfl dX8_throwsOne_128 (fun H locs Z => ?_)
        refine lv_goto (tgt := 166) hx hb dX8_throwsOne_129 (by decide) ?_
        have hR := so_s hf
        subst hR
        refine z_vret X hr hlocks ?_ dX8_throwsOne_166
        exact Z.eq rfl
    · have hf := it_t c5 hf
      refine lv_aload_n hx hb dX8_throwsOne_61 rfl (lv_at hl 3 rfl) ?_
      refine zg_X8_7 X Z 0 rfl rfl dX8_throwsOne_62 ?_
      refine lv_bipush (v := 40) hx hb dX8_throwsOne_65 (by decide) ?_
      refine lv_iload_n hx hb dX8_throwsOne_67 rfl (lv_at hl 4 rfl) ?_
      refine lv_iadd hx hb dX8_throwsOne_68 ?_
      refine lv_dup2_11 hx hb dX8_throwsOne_69 rfl rfl ?_
      obtain ⟨i13, hf⟩ := in_s hf
      refine z_ld (j := ((40 : Int32) + p1).toNatClampNeg) X Z 1 rfl i13 rfl dX8_throwsOne_70 ?_
      refine lv_iconst (v := 1) hx hb dX8_throwsOne_71 (by decide) ?_
      refine lv_iadd hx hb dX8_throwsOne_72 ?_
      obtain ⟨i14, hf⟩ := in_s hf
      refine z_st (j := ((40 : Int32) + p1).toNatClampNeg) X Z 1 rfl i14 rfl [w_X8 cI cR a (upd (upd a_all 44 ((a_all 44) + (1 : Int32))) (((40 : Int32) + p1).toNatClampNeg) (((upd a_all 44 ((a_all 44) + (1 : Int32))) ((40 : Int32) + p1).toNatClampNeg) + (1 : Int32))) a_kept a_history a_historyLong a_slots a_isSaved a_pad a_padLong a_readHeight a_readPass a_readMany a_heights a_many a_takes] rfl dX8_throwsOne_73 (fun H locs Z => ?_)
      refine lv_aload_n hx hb dX8_throwsOne_74 rfl (lv_at hl 3 rfl) ?_
      refine zg_X8_7 X Z 0 rfl rfl dX8_throwsOne_75 ?_
      refine lv_bipush (v := 38) hx hb dX8_throwsOne_78 (by decide) ?_
      refine lv_dup2_11 hx hb dX8_throwsOne_80 rfl rfl ?_
      refine z_ld (j := 38) X Z 1 rfl (by decide) (by decide) dX8_throwsOne_81 ?_
      refine lv_iconst (v := 1) hx hb dX8_throwsOne_82 (by decide) ?_
      refine lv_iadd hx hb dX8_throwsOne_83 ?_
      refine z_st (j := 38) X Z 1 rfl (by decide) (by decide) [w_X8 cI cR a (upd (upd (upd a_all 44 ((a_all 44) + (1 : Int32))) (((40 : Int32) + p1).toNatClampNeg) (((upd a_all 44 ((a_all 44) + (1 : Int32))) ((40 : Int32) + p1).toNatClampNeg) + (1 : Int32))) 38 (((upd (upd a_all 44 ((a_all 44) + (1 : Int32))) (((40 : Int32) + p1).toNatClampNeg) (((upd a_all 44 ((a_all 44) + (1 : Int32))) ((40 : Int32) + p1).toNatClampNeg) + (1 : Int32))) 38) + (1 : Int32))) a_kept a_history a_historyLong a_slots a_isSaved a_pad a_padLong a_readHeight a_readPass a_readMany a_heights a_many a_takes] rfl dX8_throwsOne_84 (fun H locs Z => ?_)
      refine lv_goto (tgt := 166) hx hb dX8_throwsOne_85 (by decide) ?_
      have hR := so_s hf
      subst hR
      refine z_vret X hr hlocks ?_ dX8_throwsOne_166
      exact Z.eq rfl
  · have hf := it_t c4 hf
    refine lv_iconst (v := 1) hx hb dX8_throwsOne_37 (by decide) ?_
    refine lv_iload_n hx hb dX8_throwsOne_38 rfl (lv_at hl 3 rfl) ?_
    refine lv_isub hx hb dX8_throwsOne_39 ?_
    refine lv_goto (tgt := 44) hx hb dX8_throwsOne_40 (by decide) ?_
    refine lv_istore (lv' := [(4, .int ((1 : Int32) - p1)), (3, .int (a_all ((6 : Int32) + (((8 : Int32) * p1) + (a_all ((2 : Int32) + p1).toNatClampNeg))).toNatClampNeg)), (2, .int (((8 : Int32) * p1) + (a_all ((2 : Int32) + p1).toNatClampNeg))), (0, .ref (a 0)), (1, .int p1)]) hx hb dX8_throwsOne_44 hl (by decide) rfl (fun ls hl => ?_)
    refine lv_aload_n hx hb dX8_throwsOne_46 rfl (lv_at hl 3 rfl) ?_
    refine zg_X8_7 X Z 0 rfl rfl dX8_throwsOne_47 ?_
    refine lv_bipush (v := 44) hx hb dX8_throwsOne_50 (by decide) ?_
    refine lv_dup2_11 hx hb dX8_throwsOne_52 rfl rfl ?_
    refine z_ld (j := 44) X Z 1 rfl (by decide) (by decide) dX8_throwsOne_53 ?_
    refine lv_iconst (v := 1) hx hb dX8_throwsOne_54 (by decide) ?_
    refine lv_iadd hx hb dX8_throwsOne_55 ?_
    refine z_st (j := 44) X Z 1 rfl (by decide) (by decide) [w_X8 cI cR a (upd a_all 44 ((a_all 44) + (1 : Int32))) a_kept a_history a_historyLong a_slots a_isSaved a_pad a_padLong a_readHeight a_readPass a_readMany a_heights a_many a_takes] rfl dX8_throwsOne_56 (fun H locs Z => ?_)
    refine lv_iload_n hx hb dX8_throwsOne_57 rfl (lv_at hl 1 rfl) ?_
    refine lv_if_ne (tgt := 88) hx hb dX8_throwsOne_58 (by decide) (fun c15 => ?_) (fun c15 => ?_)
    · have hf := it_f c15 hf
      refine lv_aload_n hx hb dX8_throwsOne_88 rfl (lv_at hl 3 rfl) ?_
      refine zg_X8_7 X Z 0 rfl rfl dX8_throwsOne_89 ?_
      refine lv_iconst (v := 0) hx hb dX8_throwsOne_92 (by decide) ?_
      refine lv_iload hx hb dX8_throwsOne_93 (lv_at hl 0 rfl) ?_
      refine lv_iadd hx hb dX8_throwsOne_95 ?_
      obtain ⟨i16, hf⟩ := in_s hf
      refine z_ld (j := ((0 : Int32) + ((1 : Int32) - p1)).toNatClampNeg) X Z 1 rfl i16 rfl dX8_throwsOne_96 ?_
      refine lv_iload_n hx hb dX8_throwsOne_97 rfl (lv_at hl 1 rfl) ?_
      refine lv_ishr hx hb dX8_throwsOne_98 ?_
      refine lv_iconst (v := 1) hx hb dX8_throwsOne_99 (by decide) ?_
      refine lv_iand hx hb dX8_throwsOne_100 ?_
      refine lv_iconst (v := 1) hx hb dX8_throwsOne_101 (by decide) ?_
      refine lv_icmp_ne (tgt := 132) hx hb dX8_throwsOne_102 (by decide) (fun c17 => ?_) (fun c17 => ?_)
      · have hf := it_f c17 hf
        refine lv_aload_n hx hb dX8_throwsOne_132 rfl (lv_at hl 3 rfl) ?_
        refine zg_X8_7 X Z 0 rfl rfl dX8_throwsOne_133 ?_
        refine lv_iconst (v := 0) hx hb dX8_throwsOne_136 (by decide) ?_
        refine lv_iload hx hb dX8_throwsOne_137 (lv_at hl 0 rfl) ?_
        refine lv_iadd hx hb dX8_throwsOne_139 ?_
        refine lv_dup2_11 hx hb dX8_throwsOne_140 rfl rfl ?_
        obtain ⟨i18, hf⟩ := in_s hf
        refine z_ld (j := ((0 : Int32) + ((1 : Int32) - p1)).toNatClampNeg) X Z 1 rfl i18 rfl dX8_throwsOne_141 ?_
        refine lv_iconst (v := 1) hx hb dX8_throwsOne_142 (by decide) ?_
        refine lv_iload_n hx hb dX8_throwsOne_143 rfl (lv_at hl 1 rfl) ?_
        refine lv_ishl hx hb dX8_throwsOne_144 ?_
        refine lv_ior hx hb dX8_throwsOne_145 ?_
        obtain ⟨i19, hf⟩ := in_s hf
        refine z_st (j := ((0 : Int32) + ((1 : Int32) - p1)).toNatClampNeg) X Z 1 rfl i19 rfl [w_X8 cI cR a (upd (upd a_all 44 ((a_all 44) + (1 : Int32))) (((0 : Int32) + ((1 : Int32) - p1)).toNatClampNeg) (((upd a_all 44 ((a_all 44) + (1 : Int32))) ((0 : Int32) + ((1 : Int32) - p1)).toNatClampNeg) ||| ((1 : Int32) <<< ((a_all ((6 : Int32) + (((8 : Int32) * p1) + (a_all ((2 : Int32) + p1).toNatClampNeg))).toNatClampNeg) &&& 31)))) a_kept a_history a_historyLong a_slots a_isSaved a_pad a_padLong a_readHeight a_readPass a_readMany a_heights a_many a_takes] rfl dX8_throwsOne_146 (fun H locs Z => ?_)
        refine lv_aload_n hx hb dX8_throwsOne_147 rfl (lv_at hl 3 rfl) ?_
        refine zg_X8_7 X Z 0 rfl rfl dX8_throwsOne_148 ?_
        refine lv_bipush (v := 45) hx hb dX8_throwsOne_151 (by decide) ?_
        refine lv_dup2_11 hx hb dX8_throwsOne_153 rfl rfl ?_
        refine z_ld (j := 45) X Z 1 rfl (by decide) (by decide) dX8_throwsOne_154 ?_
        refine lv_aload_n hx hb dX8_throwsOne_155 rfl (lv_at hl 3 rfl) ?_
        refine zg_X8_7 X Z 0 rfl rfl dX8_throwsOne_156 ?_
        refine lv_bipush (v := 22) hx hb dX8_throwsOne_159 (by decide) ?_
        refine lv_iload_n hx hb dX8_throwsOne_161 rfl (lv_at hl 2 rfl) ?_
        refine lv_iadd hx hb dX8_throwsOne_162 ?_
        obtain ⟨i20, hf⟩ := in_s hf
        refine z_ld (j := ((22 : Int32) + (((8 : Int32) * p1) + (a_all ((2 : Int32) + p1).toNatClampNeg))).toNatClampNeg) X Z 1 rfl i20 rfl dX8_throwsOne_163 ?_
        refine lv_iadd hx hb dX8_throwsOne_164 ?_
        refine z_st (j := 45) X Z 1 rfl (by decide) (by decide) [w_X8 cI cR a (upd (upd (upd a_all 44 ((a_all 44) + (1 : Int32))) (((0 : Int32) + ((1 : Int32) - p1)).toNatClampNeg) (((upd a_all 44 ((a_all 44) + (1 : Int32))) ((0 : Int32) + ((1 : Int32) - p1)).toNatClampNeg) ||| ((1 : Int32) <<< ((a_all ((6 : Int32) + (((8 : Int32) * p1) + (a_all ((2 : Int32) + p1).toNatClampNeg))).toNatClampNeg) &&& 31)))) 45 (((upd (upd a_all 44 ((a_all 44) + (1 : Int32))) (((0 : Int32) + ((1 : Int32) - p1)).toNatClampNeg) (((upd a_all 44 ((a_all 44) + (1 : Int32))) ((0 : Int32) + ((1 : Int32) - p1)).toNatClampNeg) ||| ((1 : Int32) <<< ((a_all ((6 : Int32) + (((8 : Int32) * p1) + (a_all ((2 : Int32) + p1).toNatClampNeg))).toNatClampNeg) &&& 31)))) 45) + ((upd (upd a_all 44 ((a_all 44) + (1 : Int32))) (((0 : Int32) + ((1 : Int32) - p1)).toNatClampNeg) (((upd a_all 44 ((a_all 44) + (1 : Int32))) ((0 : Int32) + ((1 : Int32) - p1)).toNatClampNeg) ||| ((1 : Int32) <<< ((a_all ((6 : Int32) + (((8 : Int32) * p1) + (a_all ((2 : Int32) + p1).toNatClampNeg))).toNatClampNeg) &&& 31)))) ((22 : Int32) + (((8 : Int32) * p1) + (a_all ((2 : Int32) + p1).toNatClampNeg))).toNatClampNeg))) a_kept a_history a_historyLong a_slots a_isSaved a_pad a_padLong a_readHeight a_readPass a_readMany a_heights a_many a_takes] rfl dX8_throwsOne_165 (fun H locs Z => ?_)
        have hR := so_s hf
        subst hR
        refine z_vret X hr hlocks ?_ dX8_throwsOne_166
        exact Z.eq rfl
      · have hf := it_t c17 hf
        refine lv_aload_n hx hb dX8_throwsOne_105 rfl (lv_at hl 3 rfl) ?_
        refine zg_X8_7 X Z 0 rfl rfl dX8_throwsOne_106 ?_
        refine lv_bipush (v := 42) hx hb dX8_throwsOne_109 (by decide) ?_
        refine lv_iload_n hx hb dX8_throwsOne_111 rfl (lv_at hl 4 rfl) ?_
        refine lv_iadd hx hb dX8_throwsOne_112 ?_
        refine lv_dup2_11 hx hb dX8_throwsOne_113 rfl rfl ?_
        obtain ⟨i21, hf⟩ := in_s hf
        refine z_ld (j := ((42 : Int32) + p1).toNatClampNeg) X Z 1 rfl i21 rfl dX8_throwsOne_114 ?_
        refine lv_iconst (v := 1) hx hb dX8_throwsOne_115 (by decide) ?_
        refine lv_iadd hx hb dX8_throwsOne_116 ?_
        obtain ⟨i22, hf⟩ := in_s hf
        refine z_st (j := ((42 : Int32) + p1).toNatClampNeg) X Z 1 rfl i22 rfl [w_X8 cI cR a (upd (upd a_all 44 ((a_all 44) + (1 : Int32))) (((42 : Int32) + p1).toNatClampNeg) (((upd a_all 44 ((a_all 44) + (1 : Int32))) ((42 : Int32) + p1).toNatClampNeg) + (1 : Int32))) a_kept a_history a_historyLong a_slots a_isSaved a_pad a_padLong a_readHeight a_readPass a_readMany a_heights a_many a_takes] rfl dX8_throwsOne_117 (fun H locs Z => ?_)
        refine lv_aload_n hx hb dX8_throwsOne_118 rfl (lv_at hl 3 rfl) ?_
        refine zg_X8_7 X Z 0 rfl rfl dX8_throwsOne_119 ?_
        refine lv_bipush (v := 38) hx hb dX8_throwsOne_122 (by decide) ?_
        refine lv_dup2_11 hx hb dX8_throwsOne_124 rfl rfl ?_
        refine z_ld (j := 38) X Z 1 rfl (by decide) (by decide) dX8_throwsOne_125 ?_
        refine lv_iconst (v := 1) hx hb dX8_throwsOne_126 (by decide) ?_
        refine lv_iadd hx hb dX8_throwsOne_127 ?_
        refine z_st (j := 38) X Z 1 rfl (by decide) (by decide) [w_X8 cI cR a (upd (upd (upd a_all 44 ((a_all 44) + (1 : Int32))) (((42 : Int32) + p1).toNatClampNeg) (((upd a_all 44 ((a_all 44) + (1 : Int32))) ((42 : Int32) + p1).toNatClampNeg) + (1 : Int32))) 38 (((upd (upd a_all 44 ((a_all 44) + (1 : Int32))) (((42 : Int32) + p1).toNatClampNeg) (((upd a_all 44 ((a_all 44) + (1 : Int32))) ((42 : Int32) + p1).toNatClampNeg) + (1 : Int32))) 38) + (1 : Int32))) a_kept a_history a_historyLong a_slots a_isSaved a_pad a_padLong a_readHeight a_readPass a_readMany a_heights a_many a_takes] rfl dX8_throwsOne_128 (fun H locs Z => ?_)
        refine lv_goto (tgt := 166) hx hb dX8_throwsOne_129 (by decide) ?_
        have hR := so_s hf
        subst hR
        refine z_vret X hr hlocks ?_ dX8_throwsOne_166
        exact Z.eq rfl
    · have hf := it_t c15 hf
      refine lv_aload_n hx hb dX8_throwsOne_61 rfl (lv_at hl 3 rfl) ?_
      refine zg_X8_7 X Z 0 rfl rfl dX8_throwsOne_62 ?_
      refine lv_bipush (v := 40) hx hb dX8_throwsOne_65 (by decide) ?_
      refine lv_iload_n hx hb dX8_throwsOne_67 rfl (lv_at hl 4 rfl) ?_
      refine lv_iadd hx hb dX8_throwsOne_68 ?_
      refine lv_dup2_11 hx hb dX8_throwsOne_69 rfl rfl ?_
      obtain ⟨i23, hf⟩ := in_s hf
      refine z_ld (j := ((40 : Int32) + p1).toNatClampNeg) X Z 1 rfl i23 rfl dX8_throwsOne_70 ?_
      refine lv_iconst (v := 1) hx hb dX8_throwsOne_71 (by decide) ?_
      refine lv_iadd hx hb dX8_throwsOne_72 ?_
      obtain ⟨i24, hf⟩ := in_s hf
      refine z_st (j := ((40 : Int32) + p1).toNatClampNeg) X Z 1 rfl i24 rfl [w_X8 cI cR a (upd (upd a_all 44 ((a_all 44) + (1 : Int32))) (((40 : Int32) + p1).toNatClampNeg) (((upd a_all 44 ((a_all 44) + (1 : Int32))) ((40 : Int32) + p1).toNatClampNeg) + (1 : Int32))) a_kept a_history a_historyLong a_slots a_isSaved a_pad a_padLong a_readHeight a_readPass a_readMany a_heights a_many a_takes] rfl dX8_throwsOne_73 (fun H locs Z => ?_)
      refine lv_aload_n hx hb dX8_throwsOne_74 rfl (lv_at hl 3 rfl) ?_
      refine zg_X8_7 X Z 0 rfl rfl dX8_throwsOne_75 ?_
      refine lv_bipush (v := 38) hx hb dX8_throwsOne_78 (by decide) ?_
      refine lv_dup2_11 hx hb dX8_throwsOne_80 rfl rfl ?_
      refine z_ld (j := 38) X Z 1 rfl (by decide) (by decide) dX8_throwsOne_81 ?_
      refine lv_iconst (v := 1) hx hb dX8_throwsOne_82 (by decide) ?_
      refine lv_iadd hx hb dX8_throwsOne_83 ?_
      refine z_st (j := 38) X Z 1 rfl (by decide) (by decide) [w_X8 cI cR a (upd (upd (upd a_all 44 ((a_all 44) + (1 : Int32))) (((40 : Int32) + p1).toNatClampNeg) (((upd a_all 44 ((a_all 44) + (1 : Int32))) ((40 : Int32) + p1).toNatClampNeg) + (1 : Int32))) 38 (((upd (upd a_all 44 ((a_all 44) + (1 : Int32))) (((40 : Int32) + p1).toNatClampNeg) (((upd a_all 44 ((a_all 44) + (1 : Int32))) ((40 : Int32) + p1).toNatClampNeg) + (1 : Int32))) 38) + (1 : Int32))) a_kept a_history a_historyLong a_slots a_isSaved a_pad a_padLong a_readHeight a_readPass a_readMany a_heights a_many a_takes] rfl dX8_throwsOne_84 (fun H locs Z => ?_)
      refine lv_goto (tgt := 166) hx hb dX8_throwsOne_85 (by decide) ?_
      have hR := so_s hf
      subst hR
      refine z_vret X hr hlocks ?_ dX8_throwsOne_166
      exact Z.eq rfl
def f_X8_beats_L34 : Nat → Int32 → (Nat → Int32) → Option ((Nat → Int32))
  | 0, _, _ => none
  | n + 1, x1, a_all => if (2 : Int32) ≤ x1 then (some (upd a_all 39 ((a_all 39) + (1 : Int32)))) else (if ((0 : Int32) + x1) < 0 ∨ 46 ≤ ((0 : Int32) + x1).toNatClampNeg then none else (if ((0 : Int32) + x1) < 0 ∨ 46 ≤ ((0 : Int32) + x1).toNatClampNeg then none else (if ((2 : Int32) + x1) < 0 ∨ 46 ≤ ((2 : Int32) + x1).toNatClampNeg then none else (if ((4 : Int32) + x1) < 0 ∨ 46 ≤ ((4 : Int32) + x1).toNatClampNeg then none else (if ((upd a_all (((0 : Int32) + x1).toNatClampNeg) ((a_all ((0 : Int32) + x1).toNatClampNeg) >>> ((1 : Int32) &&& 31))) ((4 : Int32) + x1).toNatClampNeg) = 0 then none else (if ((2 : Int32) + x1) < 0 ∨ 46 ≤ ((2 : Int32) + x1).toNatClampNeg then none else (f_X8_beats_L34  n (x1 + (1 : Int32)) (upd (upd a_all (((0 : Int32) + x1).toNatClampNeg) ((a_all ((0 : Int32) + x1).toNatClampNeg) >>> ((1 : Int32) &&& 31))) (((2 : Int32) + x1).toNatClampNeg) ((((upd a_all (((0 : Int32) + x1).toNatClampNeg) ((a_all ((0 : Int32) + x1).toNatClampNeg) >>> ((1 : Int32) &&& 31))) ((2 : Int32) + x1).toNatClampNeg) + (1 : Int32)) - (((upd a_all (((0 : Int32) + x1).toNatClampNeg) ((a_all ((0 : Int32) + x1).toNatClampNeg) >>> ((1 : Int32) &&& 31))) ((2 : Int32) + x1).toNatClampNeg) + (1 : Int32)) / ((upd a_all (((0 : Int32) + x1).toNatClampNeg) ((a_all ((0 : Int32) + x1).toNatClampNeg) >>> ((1 : Int32) &&& 31))) ((4 : Int32) + x1).toNatClampNeg) * ((upd a_all (((0 : Int32) + x1).toNatClampNeg) ((a_all ((0 : Int32) + x1).toNatClampNeg) >>> ((1 : Int32) &&& 31))) ((4 : Int32) + x1).toNatClampNeg))))))))))
set_option maxHeartbeats 4000000 in
set_option maxRecDepth 100000 in
theorem w_X8_beats_L34 {p : Program} {l : Launch} {e : Env} {s : State} {m : MethodId} {args : Array Value} {below : List Frame} {meth : Method} {c : Code} {D : va_G} {cI cR : ClassId} {A : Nat → Prop} {a : (Nat → Nat)} {a_kept : (Nat → Int32)} {a_history : (Nat → Int32)} {a_historyLong : Int32} {a_slots : (Nat → Int32)} {a_isSaved : (Nat → Int32)} {a_pad : (Nat → Int32)} {a_padLong : Int32} {a_readHeight : (Nat → Int32)} {a_readPass : (Nat → Int32)} {a_readMany : Int32} {a_heights : (Nat → Int32)} {a_many : Int32} {a_takes : (Nat → Int32)} {R : (Nat → Int32)} (X : zX p s m c cX8_beats 2 args RX8 D cI cR A) (hr : meth.sig.returnType = none) (hlocks : meth.locks = false) : ∀ (n : Nat)  {x1 : Int32} {a_all : (Nat → Int32)} {H : Heap} {locs : List Loc} {ls : Array Slot}, f_X8_beats_L34  n x1 a_all = some R → zW D A s [w_X8 cI cR a a_all a_kept a_history a_historyLong a_slots a_isSaved a_pad a_padLong a_readHeight a_readPass a_readMany a_heights a_many a_takes] H locs → lv_has ls 2 [(0, .ref (a 0)), (1, .int x1)] → W p l e ({ frames := 1, cells := 0, slots := 0, locals := 24 } : Room) s m args below meth c H locs 0 0 (zE D A below s args none [w_X8 cI cR a R a_kept a_history a_historyLong a_slots a_isSaved a_pad a_padLong a_readHeight a_readPass a_readMany a_heights a_many a_takes]) (F0 m 34 ls []) := by
  have hx := X.1.1
  have hb := X.1.2.1
  intro n
  induction n with
  | zero =>
    intro x1 a_all H locs ls hf
    have hf : none = some R := hf
    cases hf
  | succ n ih =>
    intro x1 a_all H locs ls hf Z hl
    refine lv_iload_n hx hb dX8_beats_34 rfl (lv_at hl 1 rfl) ?_
    refine lv_iconst (v := 2) hx hb dX8_beats_35 (by decide) ?_
    refine lv_icmp_ge (tgt := 84) hx hb dX8_beats_36 (by decide) (fun c2 => ?_) (fun c2 => ?_)
    · have hf := it_t c2 hf
      refine lv_aload_n hx hb dX8_beats_84 rfl (lv_at hl 0 rfl) ?_
      refine zg_X8_7 X Z 0 rfl rfl dX8_beats_85 ?_
      refine lv_bipush (v := 39) hx hb dX8_beats_88 (by decide) ?_
      refine lv_dup2_11 hx hb dX8_beats_90 rfl rfl ?_
      refine z_ld (j := 39) X Z 1 rfl (by decide) (by decide) dX8_beats_91 ?_
      refine lv_iconst (v := 1) hx hb dX8_beats_92 (by decide) ?_
      refine lv_iadd hx hb dX8_beats_93 ?_
      refine z_st (j := 39) X Z 1 rfl (by decide) (by decide) [w_X8 cI cR a (upd a_all 39 ((a_all 39) + (1 : Int32))) a_kept a_history a_historyLong a_slots a_isSaved a_pad a_padLong a_readHeight a_readPass a_readMany a_heights a_many a_takes] rfl dX8_beats_94 (fun H locs Z => ?_)
      have hR := so_s hf
      subst hR
      refine z_vret X hr hlocks ?_ dX8_beats_95
      exact Z.eq rfl
    · have hf := it_f c2 hf
      refine lv_aload_n hx hb dX8_beats_39 rfl (lv_at hl 0 rfl) ?_
      refine zg_X8_7 X Z 0 rfl rfl dX8_beats_40 ?_
      refine lv_iconst (v := 0) hx hb dX8_beats_43 (by decide) ?_
      refine lv_iload_n hx hb dX8_beats_44 rfl (lv_at hl 1 rfl) ?_
      refine lv_iadd hx hb dX8_beats_45 ?_
      refine lv_dup2_11 hx hb dX8_beats_46 rfl rfl ?_
      obtain ⟨i3, hf⟩ := in_s hf
      refine z_ld (j := ((0 : Int32) + x1).toNatClampNeg) X Z 1 rfl i3 rfl dX8_beats_47 ?_
      refine lv_iconst (v := 1) hx hb dX8_beats_48 (by decide) ?_
      refine lv_ishr hx hb dX8_beats_49 ?_
      obtain ⟨i4, hf⟩ := in_s hf
      refine z_st (j := ((0 : Int32) + x1).toNatClampNeg) X Z 1 rfl i4 rfl [w_X8 cI cR a (upd a_all (((0 : Int32) + x1).toNatClampNeg) ((a_all ((0 : Int32) + x1).toNatClampNeg) >>> ((1 : Int32) &&& 31))) a_kept a_history a_historyLong a_slots a_isSaved a_pad a_padLong a_readHeight a_readPass a_readMany a_heights a_many a_takes] rfl dX8_beats_50 (fun H locs Z => ?_)
      refine lv_aload_n hx hb dX8_beats_51 rfl (lv_at hl 0 rfl) ?_
      refine zg_X8_7 X Z 0 rfl rfl dX8_beats_52 ?_
      refine lv_iconst (v := 2) hx hb dX8_beats_55 (by decide) ?_
      refine lv_iload_n hx hb dX8_beats_56 rfl (lv_at hl 1 rfl) ?_
      refine lv_iadd hx hb dX8_beats_57 ?_
      refine lv_aload_n hx hb dX8_beats_58 rfl (lv_at hl 0 rfl) ?_
      refine zg_X8_7 X Z 0 rfl rfl dX8_beats_59 ?_
      refine lv_iconst (v := 2) hx hb dX8_beats_62 (by decide) ?_
      refine lv_iload_n hx hb dX8_beats_63 rfl (lv_at hl 1 rfl) ?_
      refine lv_iadd hx hb dX8_beats_64 ?_
      obtain ⟨i5, hf⟩ := in_s hf
      refine z_ld (j := ((2 : Int32) + x1).toNatClampNeg) X Z 1 rfl i5 rfl dX8_beats_65 ?_
      refine lv_iconst (v := 1) hx hb dX8_beats_66 (by decide) ?_
      refine lv_iadd hx hb dX8_beats_67 ?_
      refine lv_aload_n hx hb dX8_beats_68 rfl (lv_at hl 0 rfl) ?_
      refine zg_X8_7 X Z 0 rfl rfl dX8_beats_69 ?_
      refine lv_iconst (v := 4) hx hb dX8_beats_72 (by decide) ?_
      refine lv_iload_n hx hb dX8_beats_73 rfl (lv_at hl 1 rfl) ?_
      refine lv_iadd hx hb dX8_beats_74 ?_
      obtain ⟨i6, hf⟩ := in_s hf
      refine z_ld (j := ((4 : Int32) + x1).toNatClampNeg) X Z 1 rfl i6 rfl dX8_beats_75 ?_
      obtain ⟨i7, hf⟩ := in_s hf
      refine lv_irem hx hb dX8_beats_76 i7 ?_
      obtain ⟨i8, hf⟩ := in_s hf
      refine z_st (j := ((2 : Int32) + x1).toNatClampNeg) X Z 1 rfl i8 rfl [w_X8 cI cR a (upd (upd a_all (((0 : Int32) + x1).toNatClampNeg) ((a_all ((0 : Int32) + x1).toNatClampNeg) >>> ((1 : Int32) &&& 31))) (((2 : Int32) + x1).toNatClampNeg) ((((upd a_all (((0 : Int32) + x1).toNatClampNeg) ((a_all ((0 : Int32) + x1).toNatClampNeg) >>> ((1 : Int32) &&& 31))) ((2 : Int32) + x1).toNatClampNeg) + (1 : Int32)) - (((upd a_all (((0 : Int32) + x1).toNatClampNeg) ((a_all ((0 : Int32) + x1).toNatClampNeg) >>> ((1 : Int32) &&& 31))) ((2 : Int32) + x1).toNatClampNeg) + (1 : Int32)) / ((upd a_all (((0 : Int32) + x1).toNatClampNeg) ((a_all ((0 : Int32) + x1).toNatClampNeg) >>> ((1 : Int32) &&& 31))) ((4 : Int32) + x1).toNatClampNeg) * ((upd a_all (((0 : Int32) + x1).toNatClampNeg) ((a_all ((0 : Int32) + x1).toNatClampNeg) >>> ((1 : Int32) &&& 31))) ((4 : Int32) + x1).toNatClampNeg))) a_kept a_history a_historyLong a_slots a_isSaved a_pad a_padLong a_readHeight a_readPass a_readMany a_heights a_many a_takes] rfl dX8_beats_77 (fun H locs Z => ?_)
      refine lv_iinc (v := x1 + (1 : Int32)) (lv' := [(1, .int (x1 + (1 : Int32))), (0, .ref (a 0))]) hx hb dX8_beats_78 hl (k := 1) rfl rfl (by decide) rfl (fun ls hl => ?_)
      refine lv_goto (tgt := 34) hx hb dX8_beats_81 (by decide) ?_
      exact ih hf Z (lv_sub hl [1, 0] rfl)

def f_X8_beats_L2 : Nat → Int32 → (Nat → Int32) → Option ((Nat → Int32))
  | 0, _, _ => none
  | n + 1, x1, a_all => if (2 : Int32) ≤ x1 then (f_X8_beats_L34  zF (0 : Int32) a_all) else (if ((0 : Int32) + x1) < 0 ∨ 46 ≤ ((0 : Int32) + x1).toNatClampNeg then none else (if ((a_all ((0 : Int32) + x1).toNatClampNeg) &&& (1 : Int32)) = (1 : Int32) then ((f_X8_throwsOne a_all x1).bind (fun q11 => f_X8_beats_L2  n (x1 + (1 : Int32)) q11)) else (f_X8_beats_L2  n (x1 + (1 : Int32)) a_all)))
set_option maxHeartbeats 4000000 in
set_option maxRecDepth 100000 in
theorem w_X8_beats_L2 {p : Program} {l : Launch} {e : Env} {s : State} {m : MethodId} {args : Array Value} {below : List Frame} {meth : Method} {c : Code} {D : va_G} {cI cR : ClassId} {A : Nat → Prop} {a : (Nat → Nat)} {a_kept : (Nat → Int32)} {a_history : (Nat → Int32)} {a_historyLong : Int32} {a_slots : (Nat → Int32)} {a_isSaved : (Nat → Int32)} {a_pad : (Nat → Int32)} {a_padLong : Int32} {a_readHeight : (Nat → Int32)} {a_readPass : (Nat → Int32)} {a_readMany : Int32} {a_heights : (Nat → Int32)} {a_many : Int32} {a_takes : (Nat → Int32)} {R : (Nat → Int32)} (X : zX p s m c cX8_beats 2 args RX8 D cI cR A) (hr : meth.sig.returnType = none) (hlocks : meth.locks = false) : ∀ (n : Nat)  {x1 : Int32} {a_all : (Nat → Int32)} {H : Heap} {locs : List Loc} {ls : Array Slot}, f_X8_beats_L2  n x1 a_all = some R → zW D A s [w_X8 cI cR a a_all a_kept a_history a_historyLong a_slots a_isSaved a_pad a_padLong a_readHeight a_readPass a_readMany a_heights a_many a_takes] H locs → lv_has ls 2 [(0, .ref (a 0)), (1, .int x1)] → W p l e ({ frames := 1, cells := 0, slots := 0, locals := 24 } : Room) s m args below meth c H locs 0 0 (zE D A below s args none [w_X8 cI cR a R a_kept a_history a_historyLong a_slots a_isSaved a_pad a_padLong a_readHeight a_readPass a_readMany a_heights a_many a_takes]) (F0 m 2 ls []) := by
  have hx := X.1.1
  have hb := X.1.2.1
  intro n
  induction n with
  | zero =>
    intro x1 a_all H locs ls hf
    have hf : none = some R := hf
    cases hf
  | succ n ih =>
    intro x1 a_all H locs ls hf Z hl
    refine lv_iload_n hx hb dX8_beats_2 rfl (lv_at hl 1 rfl) ?_
    refine lv_iconst (v := 2) hx hb dX8_beats_3 (by decide) ?_
    refine lv_icmp_ge (tgt := 32) hx hb dX8_beats_4 (by decide) (fun c1 => ?_) (fun c1 => ?_)
    · have hf := it_t c1 hf
      refine lv_iconst (v := 0) hx hb dX8_beats_32 (by decide) ?_
      refine lv_istore_n (lv' := [(1, .int (0 : Int32)), (0, .ref (a 0))]) hx hb dX8_beats_33 rfl hl (by decide) rfl (fun ls hl => ?_)
      exact w_X8_beats_L34 X hr hlocks _ hf Z (lv_sub hl [1, 0] rfl)
    · have hf := it_f c1 hf
      refine lv_aload_n hx hb dX8_beats_7 rfl (lv_at hl 0 rfl) ?_
      refine zg_X8_7 X Z 0 rfl rfl dX8_beats_8 ?_
      refine lv_iconst (v := 0) hx hb dX8_beats_11 (by decide) ?_
      refine lv_iload_n hx hb dX8_beats_12 rfl (lv_at hl 1 rfl) ?_
      refine lv_iadd hx hb dX8_beats_13 ?_
      obtain ⟨i9, hf⟩ := in_s hf
      refine z_ld (j := ((0 : Int32) + x1).toNatClampNeg) X Z 1 rfl i9 rfl dX8_beats_14 ?_
      refine lv_iconst (v := 1) hx hb dX8_beats_15 (by decide) ?_
      refine lv_iand hx hb dX8_beats_16 ?_
      refine lv_iconst (v := 1) hx hb dX8_beats_17 (by decide) ?_
      refine lv_icmp_ne (tgt := 26) hx hb dX8_beats_18 (by decide) (fun c10 => ?_) (fun c10 => ?_)
      · have hf := it_f c10 hf
        refine lv_iinc (v := x1 + (1 : Int32)) (lv' := [(1, .int (x1 + (1 : Int32))), (0, .ref (a 0))]) hx hb dX8_beats_26 hl (k := 1) rfl rfl (by decide) rfl (fun ls hl => ?_)
        refine lv_goto (tgt := 2) hx hb dX8_beats_29 (by decide) ?_
        exact ih hf Z (lv_sub hl [1, 0] rfl)
      · have hf := it_t c10 hf
        refine lv_aload_n hx hb dX8_beats_21 rfl (lv_at hl 0 rfl) ?_
        refine lv_iload_n hx hb dX8_beats_22 rfl (lv_at hl 1 rfl) ?_
        obtain ⟨q11, hq11, hf⟩ := ob_s hf
        refine z_callV X Z (c_X8_throwsOne l D cI cR a a_all a_kept a_history a_historyLong a_slots a_isSaved a_pad a_padLong a_readHeight a_readPass a_readMany a_heights a_many a_takes x1 hq11) (zw_X8_54 X.1.2.2.2.2 ⟨Nat.le_of_ble_eq_true rfl, Nat.le_of_ble_eq_true rfl⟩) 0 8 rfl rfl rfl [0] [] [w_X8 cI cR a q11 a_kept a_history a_historyLong a_slots a_isSaved a_pad a_padLong a_readHeight a_readPass a_readMany a_heights a_many a_takes] (by decide : ([0] ++ [] : List Nat).Perm (List.range 1)) rfl rfl rfl rfl rfl hl.1 rfl (Nat.le_of_ble_eq_true rfl) dX8_beats_23 ⟨Nat.le_of_ble_eq_true rfl, Nat.le_of_ble_eq_true rfl⟩ (fun H locs Z => ?_)
        refine lv_iinc (v := x1 + (1 : Int32)) (lv' := [(1, .int (x1 + (1 : Int32))), (0, .ref (a 0))]) hx hb dX8_beats_26 hl (k := 1) rfl rfl (by decide) rfl (fun ls hl => ?_)
        refine lv_goto (tgt := 2) hx hb dX8_beats_29 (by decide) ?_
        exact ih hf Z (lv_sub hl [1, 0] rfl)

def f_X8_beats (a_all : (Nat → Int32)) : Option ((Nat → Int32)) := f_X8_beats_L2  zF (0 : Int32) a_all
set_option maxHeartbeats 4000000 in
set_option maxRecDepth 100000 in
theorem c_X8_beats (l : Launch) (D : va_G) (cI cR : ClassId) (a : (Nat → Nat)) (a_all : (Nat → Int32)) (a_kept : (Nat → Int32)) (a_history : (Nat → Int32)) (a_historyLong : Int32) (a_slots : (Nat → Int32)) (a_isSaved : (Nat → Int32)) (a_pad : (Nat → Int32)) (a_padLong : Int32) (a_readHeight : (Nat → Int32)) (a_readPass : (Nat → Int32)) (a_readMany : Int32) (a_heights : (Nat → Int32)) (a_many : Int32) (a_takes : (Nat → Int32)) {R : (Nat → Int32)} (hf : f_X8_beats a_all = some R) : zM l D cI cR yX8_beats cX8_beats 2 none 1 24 [.ref (a 0)] [w_X8 cI cR a a_all a_kept a_history a_historyLong a_slots a_isSaved a_pad a_padLong a_readHeight a_readPass a_readMany a_heights a_many a_takes] none [w_X8 cI cR a R a_kept a_history a_historyLong a_slots a_isSaved a_pad a_padLong a_readHeight a_readPass a_readMany a_heights a_many a_takes] := by
  refine z_of (own := RX8) rfl (by decide) (Nat.le_of_ble_eq_true rfl) ?_
  intro p e s m args below meth c A ls X hr hlocks Z hl
  have hx := X.1.1
  have hb := X.1.2.1
  have Z : zW D A s [w_X8 cI cR a a_all a_kept a_history a_historyLong a_slots a_isSaved a_pad a_padLong a_readHeight a_readPass a_readMany a_heights a_many a_takes] s.heap [] := Z
  have hl : lv_has ls 2 [(0, .ref (a 0))] := hl
  refine lv_iconst (v := 0) hx hb dX8_beats_0 (by decide) ?_
  refine lv_istore_n (lv' := [(1, .int (0 : Int32)), (0, .ref (a 0))]) hx hb dX8_beats_1 rfl hl (by decide) rfl (fun ls hl => ?_)
  exact w_X8_beats_L2 X hr hlocks _ hf Z (lv_sub hl [1, 0] rfl)
def f_X8_start_L76 (a_kept : (Nat → Int32)) (a_history : (Nat → Int32)) (a_historyLong : Int32) (x3 : Int32) : Nat → Int32 → (Nat → Int32) → Option (Int32 × (Nat → Int32) × (Nat → Int32) × (Nat → Int32) × Int32)
  | 0, _, _ => none
  | n + 1, x4, a_all => if (46 : Int32) ≤ x4 then ((f_X8_changed a_kept a_history a_historyLong x3).bind (fun q8 => some (q8.1, a_all, a_kept, q8.2.1, q8.2.2))) else (if x4 < 0 ∨ 46 ≤ x4.toNatClampNeg then none else (f_X8_start_L76 a_kept a_history a_historyLong x3 n (x4 + (1 : Int32)) (upd a_all x4.toNatClampNeg (0 : Int32))))
set_option maxHeartbeats 4000000 in
set_option maxRecDepth 100000 in
theorem w_X8_start_L76 {p : Program} {l : Launch} {e : Env} {s : State} {m : MethodId} {args : Array Value} {below : List Frame} {meth : Method} {c : Code} {D : va_G} {cI cR : ClassId} {A : Nat → Prop} {a : (Nat → Nat)} {a_kept : (Nat → Int32)} {a_history : (Nat → Int32)} {a_historyLong : Int32} {a_slots : (Nat → Int32)} {a_isSaved : (Nat → Int32)} {a_pad : (Nat → Int32)} {a_padLong : Int32} {a_readHeight : (Nat → Int32)} {a_readPass : (Nat → Int32)} {a_readMany : Int32} {a_heights : (Nat → Int32)} {a_many : Int32} {a_takes : (Nat → Int32)} {x3 : Int32} {R : Int32 × (Nat → Int32) × (Nat → Int32) × (Nat → Int32) × Int32} (X : zX p s m c cX8_start 5 args RX8 D cI cR A) (hr : meth.sig.returnType = (some .int)) (hlocks : meth.locks = false) : ∀ (n : Nat)  {x4 : Int32} {a_all : (Nat → Int32)} {H : Heap} {locs : List Loc} {ls : Array Slot}, f_X8_start_L76 a_kept a_history a_historyLong x3 n x4 a_all = some R → zW D A s [w_X8 cI cR a a_all a_kept a_history a_historyLong a_slots a_isSaved a_pad a_padLong a_readHeight a_readPass a_readMany a_heights a_many a_takes] H locs → lv_has ls 5 [(0, .ref (a 0)), (3, .int x3), (4, .int x4)] → W p l e ({ frames := 2, cells := 0, slots := 0, locals := 42 } : Room) s m args below meth c H locs 0 0 (zE D A below s args (some (.int R.1)) [w_X8 cI cR a R.2.1 R.2.2.1 R.2.2.2.1 R.2.2.2.2 a_slots a_isSaved a_pad a_padLong a_readHeight a_readPass a_readMany a_heights a_many a_takes]) (F0 m 76 ls []) := by
  have hx := X.1.1
  have hb := X.1.2.1
  intro n
  induction n with
  | zero =>
    intro x4 a_all H locs ls hf
    have hf : none = some R := hf
    cases hf
  | succ n ih =>
    intro x4 a_all H locs ls hf Z hl
    refine lv_iload hx hb dX8_start_76 (lv_at hl 2 rfl) ?_
    refine lv_bipush (v := 46) hx hb dX8_start_78 (by decide) ?_
    refine lv_icmp_ge (tgt := 97) hx hb dX8_start_80 (by decide) (fun c7 => ?_) (fun c7 => ?_)
    · have hf := it_t c7 hf
      refine lv_aload_n hx hb dX8_start_97 rfl (lv_at hl 0 rfl) ?_
      refine lv_iload_n hx hb dX8_start_98 rfl (lv_at hl 1 rfl) ?_
      obtain ⟨q8, hq8, hf⟩ := ob_s hf
      refine z_callV X Z (c_X8_changed l D cI cR a a_all a_kept a_history a_historyLong a_slots a_isSaved a_pad a_padLong a_readHeight a_readPass a_readMany a_heights a_many a_takes x3 hq8) (zw_X8_67 X.1.2.2.2.2 ⟨Nat.le_of_ble_eq_true rfl, Nat.le_of_ble_eq_true rfl⟩) 0 8 rfl rfl rfl [0] [] [w_X8 cI cR a a_all a_kept q8.2.1 q8.2.2 a_slots a_isSaved a_pad a_padLong a_readHeight a_readPass a_readMany a_heights a_many a_takes] (by decide : ([0] ++ [] : List Nat).Perm (List.range 1)) rfl rfl rfl rfl rfl hl.1 rfl (Nat.le_of_ble_eq_true rfl) dX8_start_99 ⟨Nat.le_of_ble_eq_true rfl, Nat.le_of_ble_eq_true rfl⟩ (fun H locs Z => ?_)
      have hR := so_s hf
      subst hR
      refine z_iret X hr hlocks ?_ dX8_start_102
      exact Z.eq rfl
    · have hf := it_f c7 hf
      refine lv_aload_n hx hb dX8_start_83 rfl (lv_at hl 0 rfl) ?_
      refine zg_X8_7 X Z 0 rfl rfl dX8_start_84 ?_
      refine lv_iload hx hb dX8_start_87 (lv_at hl 2 rfl) ?_
      refine lv_iconst (v := 0) hx hb dX8_start_89 (by decide) ?_
      obtain ⟨i9, hf⟩ := in_s hf
      refine z_st (j := x4.toNatClampNeg) X Z 1 rfl i9 rfl [w_X8 cI cR a (upd a_all x4.toNatClampNeg (0 : Int32)) a_kept a_history a_historyLong a_slots a_isSaved a_pad a_padLong a_readHeight a_readPass a_readMany a_heights a_many a_takes] rfl dX8_start_90 (fun H locs Z => ?_)
      refine lv_iinc (v := x4 + (1 : Int32)) (lv' := [(4, .int (x4 + (1 : Int32))), (0, .ref (a 0)), (3, .int x3)]) hx hb dX8_start_91 hl (k := 2) rfl rfl (by decide) rfl (fun ls hl => ?_)
      refine lv_goto (tgt := 76) hx hb dX8_start_94 (by decide) ?_
      exact ih hf Z (lv_sub hl [1, 2, 0] rfl)

def f_X8_start (a_all : (Nat → Int32)) (a_kept : (Nat → Int32)) (a_history : (Nat → Int32)) (a_historyLong : Int32) (p1 : Int32) (p2 : Int32) : Option (Int32 × (Nat → Int32) × (Nat → Int32) × (Nat → Int32) × Int32) := (f_X8_in p1.toInt64 (0 : Int64) (8 : Int64)).bind (fun q1 => if q1 = 0 then (some ((-2 : Int32), a_all, a_kept, a_history, a_historyLong)) else ((f_X8_in p2.toInt64 (0 : Int64) (8 : Int64)).bind (fun q3 => if q3 = 0 then (some ((-2 : Int32), a_all, a_kept, a_history, a_historyLong)) else ((f_X8_keep a_all a_kept).bind (fun q5 => (f_X8_clubs a_all).bind (fun q6 => f_X8_start_L76 q5 a_history a_historyLong q6 zF (38 : Int32) (upd (upd (upd (upd a_all 0 (((1 : Int32) <<< (p1 &&& 31)) - (1 : Int32))) 1 (((1 : Int32) <<< (p2 &&& 31)) - (1 : Int32))) 2 (0 : Int32)) 3 (0 : Int32))))))))
set_option maxHeartbeats 4000000 in
set_option maxRecDepth 100000 in
theorem c_X8_start (l : Launch) (D : va_G) (cI cR : ClassId) (a : (Nat → Nat)) (a_all : (Nat → Int32)) (a_kept : (Nat → Int32)) (a_history : (Nat → Int32)) (a_historyLong : Int32) (a_slots : (Nat → Int32)) (a_isSaved : (Nat → Int32)) (a_pad : (Nat → Int32)) (a_padLong : Int32) (a_readHeight : (Nat → Int32)) (a_readPass : (Nat → Int32)) (a_readMany : Int32) (a_heights : (Nat → Int32)) (a_many : Int32) (a_takes : (Nat → Int32)) (p1 : Int32) (p2 : Int32) {R : Int32 × (Nat → Int32) × (Nat → Int32) × (Nat → Int32) × Int32} (hf : f_X8_start a_all a_kept a_history a_historyLong p1 p2 = some R) : zM l D cI cR yX8_start cX8_start 5 (some .int) 2 42 [.ref (a 0), .int p1, .int p2] [w_X8 cI cR a a_all a_kept a_history a_historyLong a_slots a_isSaved a_pad a_padLong a_readHeight a_readPass a_readMany a_heights a_many a_takes] (some (.int R.1)) [w_X8 cI cR a R.2.1 R.2.2.1 R.2.2.2.1 R.2.2.2.2 a_slots a_isSaved a_pad a_padLong a_readHeight a_readPass a_readMany a_heights a_many a_takes] := by
  refine z_of (own := RX8) rfl (by decide) (Nat.le_of_ble_eq_true rfl) ?_
  intro p e s m args below meth c A ls X hr hlocks Z hl
  have hx := X.1.1
  have hb := X.1.2.1
  have Z : zW D A s [w_X8 cI cR a a_all a_kept a_history a_historyLong a_slots a_isSaved a_pad a_padLong a_readHeight a_readPass a_readMany a_heights a_many a_takes] s.heap [] := Z
  have hl : lv_has ls 5 [(0, .ref (a 0)), (1, .int p1), (2, .int p2)] := hl
  refine lv_iload_n hx hb dX8_start_0 rfl (lv_at hl 1 rfl) ?_
  refine lv_i2l hx hb dX8_start_1 rfl ?_
  refine lv_lconst (v := 0) hx hb dX8_start_2 (by decide) ?_
  refine lv_ldc2 hx hb X.1.2.2.2.1 (X.1.2.2.2.2 _ mk_X8_58) dX8_start_3 ?_
  obtain ⟨q1, hq1, hf⟩ := ob_s hf
  refine z_roS X Z (c_X8_in l D cI cR   p1.toInt64 (0 : Int64) (8 : Int64) hq1) (zw_X8_44 X.1.2.2.2.2 ⟨Nat.le_of_ble_eq_true rfl, Nat.le_of_ble_eq_true rfl⟩) [] [0] (by decide : ([] ++ [0] : List Nat).Perm (List.range 1)) rfl rfl hl.1 rfl (Nat.le_of_ble_eq_true rfl) dX8_start_6 ⟨Nat.le_of_ble_eq_true rfl, Nat.le_of_ble_eq_true rfl⟩ (fun H locs Z => ?_)
  refine lv_if_eq (tgt := 24) hx hb dX8_start_9 (by decide) (fun c2 => ?_) (fun c2 => ?_)
  · have hf := it_t c2 hf
    refine lv_bipush (v := -2) hx hb dX8_start_24 (by decide) ?_
    have hR := so_s hf
    subst hR
    refine z_iret X hr hlocks ?_ dX8_start_26
    exact Z.eq rfl
  · have hf := it_f c2 hf
    refine lv_iload_n hx hb dX8_start_12 rfl (lv_at hl 2 rfl) ?_
    refine lv_i2l hx hb dX8_start_13 rfl ?_
    refine lv_lconst (v := 0) hx hb dX8_start_14 (by decide) ?_
    refine lv_ldc2 hx hb X.1.2.2.2.1 (X.1.2.2.2.2 _ mk_X8_58) dX8_start_15 ?_
    obtain ⟨q3, hq3, hf⟩ := ob_s hf
    refine z_roS X Z (c_X8_in l D cI cR   p2.toInt64 (0 : Int64) (8 : Int64) hq3) (zw_X8_44 X.1.2.2.2.2 ⟨Nat.le_of_ble_eq_true rfl, Nat.le_of_ble_eq_true rfl⟩) [] [0] (by decide : ([] ++ [0] : List Nat).Perm (List.range 1)) rfl rfl hl.1 rfl (Nat.le_of_ble_eq_true rfl) dX8_start_18 ⟨Nat.le_of_ble_eq_true rfl, Nat.le_of_ble_eq_true rfl⟩ (fun H locs Z => ?_)
    refine lv_if_ne (tgt := 27) hx hb dX8_start_21 (by decide) (fun c4 => ?_) (fun c4 => ?_)
    · have hf := it_f c4 hf
      refine lv_aload_n hx hb dX8_start_27 rfl (lv_at hl 0 rfl) ?_
      obtain ⟨q5, hq5, hf⟩ := ob_s hf
      refine z_callV X Z (c_X8_keep l D cI cR a a_all a_kept a_history a_historyLong a_slots a_isSaved a_pad a_padLong a_readHeight a_readPass a_readMany a_heights a_many a_takes  hq5) (zw_X8_60 X.1.2.2.2.2 ⟨Nat.le_of_ble_eq_true rfl, Nat.le_of_ble_eq_true rfl⟩) 0 8 rfl rfl rfl [0] [] [w_X8 cI cR a a_all q5 a_history a_historyLong a_slots a_isSaved a_pad a_padLong a_readHeight a_readPass a_readMany a_heights a_many a_takes] (by decide : ([0] ++ [] : List Nat).Perm (List.range 1)) rfl rfl rfl rfl rfl hl.1 rfl (Nat.le_of_ble_eq_true rfl) dX8_start_28 ⟨Nat.le_of_ble_eq_true rfl, Nat.le_of_ble_eq_true rfl⟩ (fun H locs Z => ?_)
      refine lv_aload_n hx hb dX8_start_31 rfl (lv_at hl 0 rfl) ?_
      obtain ⟨q6, hq6, hf⟩ := ob_s hf
      refine z_roV X Z (c_X8_clubs l D cI cR a a_all q5 a_history a_historyLong a_slots a_isSaved a_pad a_padLong a_readHeight a_readPass a_readMany a_heights a_many a_takes  hq6) (zw_X8_63 X.1.2.2.2.2 ⟨Nat.le_of_ble_eq_true rfl, Nat.le_of_ble_eq_true rfl⟩) 0 8 rfl rfl rfl [0] [] (by decide : ([0] ++ [] : List Nat).Perm (List.range 1)) rfl rfl hl.1 rfl (Nat.le_of_ble_eq_true rfl) dX8_start_32 ⟨Nat.le_of_ble_eq_true rfl, Nat.le_of_ble_eq_true rfl⟩ (fun H locs Z => ?_)
      refine lv_istore_n (lv' := [(3, .int q6), (0, .ref (a 0)), (1, .int p1), (2, .int p2)]) hx hb dX8_start_35 rfl hl (by decide) rfl (fun ls hl => ?_)
      refine lv_aload_n hx hb dX8_start_36 rfl (lv_at hl 1 rfl) ?_
      refine zg_X8_7 X Z 0 rfl rfl dX8_start_37 ?_
      refine lv_iconst (v := 0) hx hb dX8_start_40 (by decide) ?_
      refine lv_iconst (v := 1) hx hb dX8_start_41 (by decide) ?_
      refine lv_iload_n hx hb dX8_start_42 rfl (lv_at hl 2 rfl) ?_
      refine lv_ishl hx hb dX8_start_43 ?_
      refine lv_iconst (v := 1) hx hb dX8_start_44 (by decide) ?_
      refine lv_isub hx hb dX8_start_45 ?_
      refine z_st (j := 0) X Z 1 rfl (by decide) (by decide) [w_X8 cI cR a (upd a_all 0 (((1 : Int32) <<< (p1 &&& 31)) - (1 : Int32))) q5 a_history a_historyLong a_slots a_isSaved a_pad a_padLong a_readHeight a_readPass a_readMany a_heights a_many a_takes] rfl dX8_start_46 (fun H locs Z => ?_)
      refine lv_aload_n hx hb dX8_start_47 rfl (lv_at hl 1 rfl) ?_
      refine zg_X8_7 X Z 0 rfl rfl dX8_start_48 ?_
      refine lv_iconst (v := 1) hx hb dX8_start_51 (by decide) ?_
      refine lv_iconst (v := 1) hx hb dX8_start_52 (by decide) ?_
      refine lv_iload_n hx hb dX8_start_53 rfl (lv_at hl 3 rfl) ?_
      refine lv_ishl hx hb dX8_start_54 ?_
      refine lv_iconst (v := 1) hx hb dX8_start_55 (by decide) ?_
      refine lv_isub hx hb dX8_start_56 ?_
      refine z_st (j := 1) X Z 1 rfl (by decide) (by decide) [w_X8 cI cR a (upd (upd a_all 0 (((1 : Int32) <<< (p1 &&& 31)) - (1 : Int32))) 1 (((1 : Int32) <<< (p2 &&& 31)) - (1 : Int32))) q5 a_history a_historyLong a_slots a_isSaved a_pad a_padLong a_readHeight a_readPass a_readMany a_heights a_many a_takes] rfl dX8_start_57 (fun H locs Z => ?_)
      refine lv_aload_n hx hb dX8_start_58 rfl (lv_at hl 1 rfl) ?_
      refine zg_X8_7 X Z 0 rfl rfl dX8_start_59 ?_
      refine lv_iconst (v := 2) hx hb dX8_start_62 (by decide) ?_
      refine lv_iconst (v := 0) hx hb dX8_start_63 (by decide) ?_
      refine z_st (j := 2) X Z 1 rfl (by decide) (by decide) [w_X8 cI cR a (upd (upd (upd a_all 0 (((1 : Int32) <<< (p1 &&& 31)) - (1 : Int32))) 1 (((1 : Int32) <<< (p2 &&& 31)) - (1 : Int32))) 2 (0 : Int32)) q5 a_history a_historyLong a_slots a_isSaved a_pad a_padLong a_readHeight a_readPass a_readMany a_heights a_many a_takes] rfl dX8_start_64 (fun H locs Z => ?_)
      refine lv_aload_n hx hb dX8_start_65 rfl (lv_at hl 1 rfl) ?_
      refine zg_X8_7 X Z 0 rfl rfl dX8_start_66 ?_
      refine lv_iconst (v := 3) hx hb dX8_start_69 (by decide) ?_
      refine lv_iconst (v := 0) hx hb dX8_start_70 (by decide) ?_
      refine z_st (j := 3) X Z 1 rfl (by decide) (by decide) [w_X8 cI cR a (upd (upd (upd (upd a_all 0 (((1 : Int32) <<< (p1 &&& 31)) - (1 : Int32))) 1 (((1 : Int32) <<< (p2 &&& 31)) - (1 : Int32))) 2 (0 : Int32)) 3 (0 : Int32)) q5 a_history a_historyLong a_slots a_isSaved a_pad a_padLong a_readHeight a_readPass a_readMany a_heights a_many a_takes] rfl dX8_start_71 (fun H locs Z => ?_)
      refine lv_bipush (v := 38) hx hb dX8_start_72 (by decide) ?_
      refine lv_istore (lv' := [(4, .int (38 : Int32)), (3, .int q6), (0, .ref (a 0)), (1, .int p1), (2, .int p2)]) hx hb dX8_start_74 hl (by decide) rfl (fun ls hl => ?_)
      exact w_X8_start_L76 X hr hlocks _ hf Z (lv_sub hl [2, 1, 0] rfl)
    · have hf := it_t c4 hf
      refine lv_bipush (v := -2) hx hb dX8_start_24 (by decide) ?_
      have hR := so_s hf
      subst hR
      refine z_iret X hr hlocks ?_ dX8_start_26
      exact Z.eq rfl
def f_X8_pass_L46 (a_kept : (Nat → Int32)) (a_history : (Nat → Int32)) (a_historyLong : Int32) (x1 : Int32) (x2 : Int32) : Nat → Int32 → (Nat → Int32) → Option (Int32 × (Nat → Int32) × (Nat → Int32) × (Nat → Int32) × Int32)
  | 0, _, _ => none
  | n + 1, x3, a_all => if x1 ≤ x3 then ((f_X8_changed a_kept a_history a_historyLong ((a_all 38) - x2)).bind (fun q6 => some (q6.1, a_all, a_kept, q6.2.1, q6.2.2))) else ((f_X8_beats a_all).bind (fun q7 => f_X8_pass_L46 a_kept a_history a_historyLong x1 x2 n (x3 + (1 : Int32)) q7))
set_option maxHeartbeats 4000000 in
set_option maxRecDepth 100000 in
theorem w_X8_pass_L46 {p : Program} {l : Launch} {e : Env} {s : State} {m : MethodId} {args : Array Value} {below : List Frame} {meth : Method} {c : Code} {D : va_G} {cI cR : ClassId} {A : Nat → Prop} {a : (Nat → Nat)} {a_kept : (Nat → Int32)} {a_history : (Nat → Int32)} {a_historyLong : Int32} {a_slots : (Nat → Int32)} {a_isSaved : (Nat → Int32)} {a_pad : (Nat → Int32)} {a_padLong : Int32} {a_readHeight : (Nat → Int32)} {a_readPass : (Nat → Int32)} {a_readMany : Int32} {a_heights : (Nat → Int32)} {a_many : Int32} {a_takes : (Nat → Int32)} {x1 : Int32} {x2 : Int32} {R : Int32 × (Nat → Int32) × (Nat → Int32) × (Nat → Int32) × Int32} (X : zX p s m c cX8_pass 4 args RX8 D cI cR A) (hr : meth.sig.returnType = (some .int)) (hlocks : meth.locks = false) : ∀ (n : Nat)  {x3 : Int32} {a_all : (Nat → Int32)} {H : Heap} {locs : List Loc} {ls : Array Slot}, f_X8_pass_L46 a_kept a_history a_historyLong x1 x2 n x3 a_all = some R → zW D A s [w_X8 cI cR a a_all a_kept a_history a_historyLong a_slots a_isSaved a_pad a_padLong a_readHeight a_readPass a_readMany a_heights a_many a_takes] H locs → lv_has ls 4 [(0, .ref (a 0)), (1, .int x1), (2, .int x2), (3, .int x3)] → W p l e ({ frames := 2, cells := 0, slots := 0, locals := 45 } : Room) s m args below meth c H locs 0 0 (zE D A below s args (some (.int R.1)) [w_X8 cI cR a R.2.1 R.2.2.1 R.2.2.2.1 R.2.2.2.2 a_slots a_isSaved a_pad a_padLong a_readHeight a_readPass a_readMany a_heights a_many a_takes]) (F0 m 46 ls []) := by
  have hx := X.1.1
  have hb := X.1.2.1
  intro n
  induction n with
  | zero =>
    intro x3 a_all H locs ls hf
    have hf : none = some R := hf
    cases hf
  | succ n ih =>
    intro x3 a_all H locs ls hf Z hl
    refine lv_iload_n hx hb dX8_pass_46 rfl (lv_at hl 3 rfl) ?_
    refine lv_iload_n hx hb dX8_pass_47 rfl (lv_at hl 1 rfl) ?_
    refine lv_icmp_ge (tgt := 61) hx hb dX8_pass_48 (by decide) (fun c5 => ?_) (fun c5 => ?_)
    · have hf := it_t c5 hf
      refine lv_aload_n hx hb dX8_pass_61 rfl (lv_at hl 0 rfl) ?_
      refine lv_aload_n hx hb dX8_pass_62 rfl (lv_at hl 0 rfl) ?_
      refine zg_X8_7 X Z 0 rfl rfl dX8_pass_63 ?_
      refine lv_bipush (v := 38) hx hb dX8_pass_66 (by decide) ?_
      refine z_ld (j := 38) X Z 1 rfl (by decide) (by decide) dX8_pass_68 ?_
      refine lv_iload_n hx hb dX8_pass_69 rfl (lv_at hl 2 rfl) ?_
      refine lv_isub hx hb dX8_pass_70 ?_
      obtain ⟨q6, hq6, hf⟩ := ob_s hf
      refine z_callV X Z (c_X8_changed l D cI cR a a_all a_kept a_history a_historyLong a_slots a_isSaved a_pad a_padLong a_readHeight a_readPass a_readMany a_heights a_many a_takes ((a_all 38) - x2) hq6) (zw_X8_67 X.1.2.2.2.2 ⟨Nat.le_of_ble_eq_true rfl, Nat.le_of_ble_eq_true rfl⟩) 0 8 rfl rfl rfl [0] [] [w_X8 cI cR a a_all a_kept q6.2.1 q6.2.2 a_slots a_isSaved a_pad a_padLong a_readHeight a_readPass a_readMany a_heights a_many a_takes] (by decide : ([0] ++ [] : List Nat).Perm (List.range 1)) rfl rfl rfl rfl rfl hl.1 rfl (Nat.le_of_ble_eq_true rfl) dX8_pass_71 ⟨Nat.le_of_ble_eq_true rfl, Nat.le_of_ble_eq_true rfl⟩ (fun H locs Z => ?_)
      have hR := so_s hf
      subst hR
      refine z_iret X hr hlocks ?_ dX8_pass_74
      exact Z.eq rfl
    · have hf := it_f c5 hf
      refine lv_aload_n hx hb dX8_pass_51 rfl (lv_at hl 0 rfl) ?_
      obtain ⟨q7, hq7, hf⟩ := ob_s hf
      refine z_callV X Z (c_X8_beats l D cI cR a a_all a_kept a_history a_historyLong a_slots a_isSaved a_pad a_padLong a_readHeight a_readPass a_readMany a_heights a_many a_takes  hq7) (zw_X8_73 X.1.2.2.2.2 ⟨Nat.le_of_ble_eq_true rfl, Nat.le_of_ble_eq_true rfl⟩) 0 8 rfl rfl rfl [0] [] [w_X8 cI cR a q7 a_kept a_history a_historyLong a_slots a_isSaved a_pad a_padLong a_readHeight a_readPass a_readMany a_heights a_many a_takes] (by decide : ([0] ++ [] : List Nat).Perm (List.range 1)) rfl rfl rfl rfl rfl hl.1 rfl (Nat.le_of_ble_eq_true rfl) dX8_pass_52 ⟨Nat.le_of_ble_eq_true rfl, Nat.le_of_ble_eq_true rfl⟩ (fun H locs Z => ?_)
      refine lv_iinc (v := x3 + (1 : Int32)) (lv' := [(3, .int (x3 + (1 : Int32))), (0, .ref (a 0)), (1, .int x1), (2, .int x2)]) hx hb dX8_pass_55 hl (k := 3) rfl rfl (by decide) rfl (fun ls hl => ?_)
      refine lv_goto (tgt := 46) hx hb dX8_pass_58 (by decide) ?_
      exact ih hf Z (lv_sub hl [1, 2, 3, 0] rfl)

def f_X8_pass (a_all : (Nat → Int32)) (a_kept : (Nat → Int32)) (a_history : (Nat → Int32)) (a_historyLong : Int32) (p1 : Int32) : Option (Int32 × (Nat → Int32) × (Nat → Int32) × (Nat → Int32) × Int32) := (f_X8_in p1.toInt64 (1 : Int64) (200 : Int64)).bind (fun q1 => if q1 = 0 then (some ((-2 : Int32), a_all, a_kept, a_history, a_historyLong)) else (if ((a_all 39) + p1) ≤ (100000 : Int32) then ((f_X8_keep a_all a_kept).bind (fun q4 => f_X8_pass_L46 q4 a_history a_historyLong p1 (a_all 38) zF (0 : Int32) a_all)) else (some ((-4 : Int32), a_all, a_kept, a_history, a_historyLong))))
set_option maxHeartbeats 4000000 in
set_option maxRecDepth 100000 in
theorem c_X8_pass (l : Launch) (D : va_G) (cI cR : ClassId) (a : (Nat → Nat)) (a_all : (Nat → Int32)) (a_kept : (Nat → Int32)) (a_history : (Nat → Int32)) (a_historyLong : Int32) (a_slots : (Nat → Int32)) (a_isSaved : (Nat → Int32)) (a_pad : (Nat → Int32)) (a_padLong : Int32) (a_readHeight : (Nat → Int32)) (a_readPass : (Nat → Int32)) (a_readMany : Int32) (a_heights : (Nat → Int32)) (a_many : Int32) (a_takes : (Nat → Int32)) (p1 : Int32) {R : Int32 × (Nat → Int32) × (Nat → Int32) × (Nat → Int32) × Int32} (hf : f_X8_pass a_all a_kept a_history a_historyLong p1 = some R) : zM l D cI cR yX8_pass cX8_pass 4 (some .int) 2 45 [.ref (a 0), .int p1] [w_X8 cI cR a a_all a_kept a_history a_historyLong a_slots a_isSaved a_pad a_padLong a_readHeight a_readPass a_readMany a_heights a_many a_takes] (some (.int R.1)) [w_X8 cI cR a R.2.1 R.2.2.1 R.2.2.2.1 R.2.2.2.2 a_slots a_isSaved a_pad a_padLong a_readHeight a_readPass a_readMany a_heights a_many a_takes] := by
  refine z_of (own := RX8) rfl (by decide) (Nat.le_of_ble_eq_true rfl) ?_
  intro p e s m args below meth c A ls X hr hlocks Z hl
  have hx := X.1.1
  have hb := X.1.2.1
  have Z : zW D A s [w_X8 cI cR a a_all a_kept a_history a_historyLong a_slots a_isSaved a_pad a_padLong a_readHeight a_readPass a_readMany a_heights a_many a_takes] s.heap [] := Z
  have hl : lv_has ls 4 [(0, .ref (a 0)), (1, .int p1)] := hl
  refine lv_iload_n hx hb dX8_pass_0 rfl (lv_at hl 1 rfl) ?_
  refine lv_i2l hx hb dX8_pass_1 rfl ?_
  refine lv_lconst (v := 1) hx hb dX8_pass_2 (by decide) ?_
  refine lv_ldc2 hx hb X.1.2.2.2.1 (X.1.2.2.2.2 _ mk_X8_70) dX8_pass_3 ?_
  obtain ⟨q1, hq1, hf⟩ := ob_s hf
  refine z_roS X Z (c_X8_in l D cI cR   p1.toInt64 (1 : Int64) (200 : Int64) hq1) (zw_X8_44 X.1.2.2.2.2 ⟨Nat.le_of_ble_eq_true rfl, Nat.le_of_ble_eq_true rfl⟩) [] [0] (by decide : ([] ++ [0] : List Nat).Perm (List.range 1)) rfl rfl hl.1 rfl (Nat.le_of_ble_eq_true rfl) dX8_pass_6 ⟨Nat.le_of_ble_eq_true rfl, Nat.le_of_ble_eq_true rfl⟩ (fun H locs Z => ?_)
  refine lv_if_ne (tgt := 15) hx hb dX8_pass_9 (by decide) (fun c2 => ?_) (fun c2 => ?_)
  · have hf := it_f c2 hf
    refine lv_aload_n hx hb dX8_pass_15 rfl (lv_at hl 0 rfl) ?_
    refine zg_X8_7 X Z 0 rfl rfl dX8_pass_16 ?_
    refine lv_bipush (v := 39) hx hb dX8_pass_19 (by decide) ?_
    refine z_ld (j := 39) X Z 1 rfl (by decide) (by decide) dX8_pass_21 ?_
    refine lv_iload_n hx hb dX8_pass_22 rfl (lv_at hl 1 rfl) ?_
    refine lv_iadd hx hb dX8_pass_23 ?_
    refine lv_ldc hx hb X.1.2.2.2.1 (X.1.2.2.2.2 _ mk_X8_72) dX8_pass_24 ?_
    refine lv_icmp_le (tgt := 32) hx hb dX8_pass_26 (by decide) (fun c3 => ?_) (fun c3 => ?_)
    · have hf := it_t c3 hf
      refine lv_aload_n hx hb dX8_pass_32 rfl (lv_at hl 0 rfl) ?_
      obtain ⟨q4, hq4, hf⟩ := ob_s hf
      refine z_callV X Z (c_X8_keep l D cI cR a a_all a_kept a_history a_historyLong a_slots a_isSaved a_pad a_padLong a_readHeight a_readPass a_readMany a_heights a_many a_takes  hq4) (zw_X8_60 X.1.2.2.2.2 ⟨Nat.le_of_ble_eq_true rfl, Nat.le_of_ble_eq_true rfl⟩) 0 8 rfl rfl rfl [0] [] [w_X8 cI cR a a_all q4 a_history a_historyLong a_slots a_isSaved a_pad a_padLong a_readHeight a_readPass a_readMany a_heights a_many a_takes] (by decide : ([0] ++ [] : List Nat).Perm (List.range 1)) rfl rfl rfl rfl rfl hl.1 rfl (Nat.le_of_ble_eq_true rfl) dX8_pass_33 ⟨Nat.le_of_ble_eq_true rfl, Nat.le_of_ble_eq_true rfl⟩ (fun H locs Z => ?_)
      refine lv_aload_n hx hb dX8_pass_36 rfl (lv_at hl 0 rfl) ?_
      refine zg_X8_7 X Z 0 rfl rfl dX8_pass_37 ?_
      refine lv_bipush (v := 38) hx hb dX8_pass_40 (by decide) ?_
      refine z_ld (j := 38) X Z 1 rfl (by decide) (by decide) dX8_pass_42 ?_
      refine lv_istore_n (lv' := [(2, .int (a_all 38)), (0, .ref (a 0)), (1, .int p1)]) hx hb dX8_pass_43 rfl hl (by decide) rfl (fun ls hl => ?_)
      refine lv_iconst (v := 0) hx hb dX8_pass_44 (by decide) ?_
      refine lv_istore_n (lv' := [(3, .int (0 : Int32)), (2, .int (a_all 38)), (0, .ref (a 0)), (1, .int p1)]) hx hb dX8_pass_45 rfl hl (by decide) rfl (fun ls hl => ?_)
      exact w_X8_pass_L46 X hr hlocks _ hf Z (lv_sub hl [2, 3, 1, 0] rfl)
    · have hf := it_f c3 hf
      refine lv_bipush (v := -4) hx hb dX8_pass_29 (by decide) ?_
      have hR := so_s hf
      subst hR
      refine z_iret X hr hlocks ?_ dX8_pass_31
      exact Z.eq rfl
  · have hf := it_t c2 hf
    refine lv_bipush (v := -2) hx hb dX8_pass_12 (by decide) ?_
    have hR := so_s hf
    subst hR
    refine z_iret X hr hlocks ?_ dX8_pass_14
    exact Z.eq rfl
def f_X8_comes (a_all : (Nat → Int32)) (p1 : Int32) (p2 : Int32) : Option (Int32) := if ((0 : Int32) + p1) < 0 ∨ 46 ≤ ((0 : Int32) + p1).toNatClampNeg then none else (if (((a_all ((0 : Int32) + p1).toNatClampNeg) >>> (p2 &&& 31)) &&& (1 : Int32)) = (1 : Int32) then (some (1 : Int32)) else (some (0 : Int32)))
set_option maxHeartbeats 4000000 in
set_option maxRecDepth 100000 in
theorem c_X8_comes (l : Launch) (D : va_G) (cI cR : ClassId) (a : (Nat → Nat)) (a_all : (Nat → Int32)) (a_kept : (Nat → Int32)) (a_history : (Nat → Int32)) (a_historyLong : Int32) (a_slots : (Nat → Int32)) (a_isSaved : (Nat → Int32)) (a_pad : (Nat → Int32)) (a_padLong : Int32) (a_readHeight : (Nat → Int32)) (a_readPass : (Nat → Int32)) (a_readMany : Int32) (a_heights : (Nat → Int32)) (a_many : Int32) (a_takes : (Nat → Int32)) (p1 : Int32) (p2 : Int32) {R : Int32} (hf : f_X8_comes a_all p1 p2 = some R) : zM l D cI cR yX8_comes cX8_comes 3 (some .boolean) 0 0 [.ref (a 0), .int p1, .int p2] [w_X8 cI cR a a_all a_kept a_history a_historyLong a_slots a_isSaved a_pad a_padLong a_readHeight a_readPass a_readMany a_heights a_many a_takes] (some (.int R)) [w_X8 cI cR a a_all a_kept a_history a_historyLong a_slots a_isSaved a_pad a_padLong a_readHeight a_readPass a_readMany a_heights a_many a_takes] := by
  refine z_of (own := RX8) rfl (by decide) (Nat.le_of_ble_eq_true rfl) ?_
  intro p e s m args below meth c A ls X hr hlocks Z hl
  have hx := X.1.1
  have hb := X.1.2.1
  have Z : zW D A s [w_X8 cI cR a a_all a_kept a_history a_historyLong a_slots a_isSaved a_pad a_padLong a_readHeight a_readPass a_readMany a_heights a_many a_takes] s.heap [] := Z
  have hl : lv_has ls 3 [(0, .ref (a 0)), (1, .int p1), (2, .int p2)] := hl
  refine lv_aload_n hx hb dX8_comes_0 rfl (lv_at hl 0 rfl) ?_
  refine zg_X8_7 X Z 0 rfl rfl dX8_comes_1 ?_
  refine lv_iconst (v := 0) hx hb dX8_comes_4 (by decide) ?_
  refine lv_iload_n hx hb dX8_comes_5 rfl (lv_at hl 1 rfl) ?_
  refine lv_iadd hx hb dX8_comes_6 ?_
  obtain ⟨i1, hf⟩ := in_s hf
  refine z_ld (j := ((0 : Int32) + p1).toNatClampNeg) X Z 1 rfl i1 rfl dX8_comes_7 ?_
  refine lv_iload_n hx hb dX8_comes_8 rfl (lv_at hl 2 rfl) ?_
  refine lv_ishr hx hb dX8_comes_9 ?_
  refine lv_iconst (v := 1) hx hb dX8_comes_10 (by decide) ?_
  refine lv_iand hx hb dX8_comes_11 ?_
  refine lv_iconst (v := 1) hx hb dX8_comes_12 (by decide) ?_
  refine lv_icmp_ne (tgt := 20) hx hb dX8_comes_13 (by decide) (fun c2 => ?_) (fun c2 => ?_)
  · have hf := it_f c2 hf
    refine lv_iconst (v := 0) hx hb dX8_comes_20 (by decide) ?_
    have hR := so_s hf
    subst hR
    refine z_zret X hr hlocks (Or.inl rfl) ?_ dX8_comes_21
    exact Z.eq rfl
  · have hf := it_t c2 hf
    refine lv_iconst (v := 1) hx hb dX8_comes_16 (by decide) ?_
    refine lv_goto (tgt := 21) hx hb dX8_comes_17 (by decide) ?_
    have hR := so_s hf
    subst hR
    refine z_zret X hr hlocks (Or.inr rfl) ?_ dX8_comes_21
    exact Z.eq rfl
theorem b_X8_comes {a_all : (Nat → Int32)} {p1 : Int32} {p2 : Int32} {R : Int32} (hf : f_X8_comes a_all p1 p2 = some R) : R = 0 ∨ R = 1 := by
  obtain ⟨i1, hf⟩ := in_s hf
  rcases Decidable.em ((((a_all ((0 : Int32) + p1).toNatClampNeg) >>> (p2 &&& 31)) &&& (1 : Int32)) = (1 : Int32)) with c2 | c2
  · have hf := it_t c2 hf
    have hR := so_s hf
    subst hR
    exact (Or.inr rfl)
  · have hf := it_f c2 hf
    have hR := so_s hf
    subst hR
    exact (Or.inl rfl)
def f_X8_drop (a_all : (Nat → Int32)) (a_kept : (Nat → Int32)) (a_history : (Nat → Int32)) (a_historyLong : Int32) (p1 : Int32) (p2 : Int32) : Option (Int32 × (Nat → Int32) × (Nat → Int32) × (Nat → Int32) × Int32) := (f_X8_isJuggler p1).bind (fun q1 => if q1 = 0 then (some ((-1 : Int32), a_all, a_kept, a_history, a_historyLong)) else ((f_X8_isBeat p2).bind (fun q3 => if q3 = 0 then (some ((-2 : Int32), a_all, a_kept, a_history, a_historyLong)) else ((f_X8_comes a_all p1 p2).bind (fun q5 => if q5 = 0 then (some ((-5 : Int32), a_all, a_kept, a_history, a_historyLong)) else ((f_X8_keep a_all a_kept).bind (fun q7 => if ((0 : Int32) + p1) < 0 ∨ 46 ≤ ((0 : Int32) + p1).toNatClampNeg then none else (if ((0 : Int32) + p1) < 0 ∨ 46 ≤ ((0 : Int32) + p1).toNatClampNeg then none else ((f_X8_changed q7 a_history a_historyLong ((upd (upd a_all (((0 : Int32) + p1).toNatClampNeg) ((a_all ((0 : Int32) + p1).toNatClampNeg) - ((1 : Int32) <<< (p2 &&& 31)))) 38 (((upd a_all (((0 : Int32) + p1).toNatClampNeg) ((a_all ((0 : Int32) + p1).toNatClampNeg) - ((1 : Int32) <<< (p2 &&& 31)))) 38) + (1 : Int32))) 38)).bind (fun q10 => some (q10.1, upd (upd a_all (((0 : Int32) + p1).toNatClampNeg) ((a_all ((0 : Int32) + p1).toNatClampNeg) - ((1 : Int32) <<< (p2 &&& 31)))) 38 (((upd a_all (((0 : Int32) + p1).toNatClampNeg) ((a_all ((0 : Int32) + p1).toNatClampNeg) - ((1 : Int32) <<< (p2 &&& 31)))) 38) + (1 : Int32)), q7, q10.2.1, q10.2.2)))))))))))
set_option maxHeartbeats 4000000 in
set_option maxRecDepth 100000 in
theorem c_X8_drop (l : Launch) (D : va_G) (cI cR : ClassId) (a : (Nat → Nat)) (a_all : (Nat → Int32)) (a_kept : (Nat → Int32)) (a_history : (Nat → Int32)) (a_historyLong : Int32) (a_slots : (Nat → Int32)) (a_isSaved : (Nat → Int32)) (a_pad : (Nat → Int32)) (a_padLong : Int32) (a_readHeight : (Nat → Int32)) (a_readPass : (Nat → Int32)) (a_readMany : Int32) (a_heights : (Nat → Int32)) (a_many : Int32) (a_takes : (Nat → Int32)) (p1 : Int32) (p2 : Int32) {R : Int32 × (Nat → Int32) × (Nat → Int32) × (Nat → Int32) × Int32} (hf : f_X8_drop a_all a_kept a_history a_historyLong p1 p2 = some R) : zM l D cI cR yX8_drop cX8_drop 3 (some .int) 2 45 [.ref (a 0), .int p1, .int p2] [w_X8 cI cR a a_all a_kept a_history a_historyLong a_slots a_isSaved a_pad a_padLong a_readHeight a_readPass a_readMany a_heights a_many a_takes] (some (.int R.1)) [w_X8 cI cR a R.2.1 R.2.2.1 R.2.2.2.1 R.2.2.2.2 a_slots a_isSaved a_pad a_padLong a_readHeight a_readPass a_readMany a_heights a_many a_takes] := by
  refine z_of (own := RX8) rfl (by decide) (Nat.le_of_ble_eq_true rfl) ?_
  intro p e s m args below meth c A ls X hr hlocks Z hl
  have hx := X.1.1
  have hb := X.1.2.1
  have Z : zW D A s [w_X8 cI cR a a_all a_kept a_history a_historyLong a_slots a_isSaved a_pad a_padLong a_readHeight a_readPass a_readMany a_heights a_many a_takes] s.heap [] := Z
  have hl : lv_has ls 3 [(0, .ref (a 0)), (1, .int p1), (2, .int p2)] := hl
  refine lv_iload_n hx hb dX8_drop_0 rfl (lv_at hl 1 rfl) ?_
  obtain ⟨q1, hq1, hf⟩ := ob_s hf
  refine z_roS X Z (c_X8_isJuggler l D cI cR   p1 hq1) (zw_X8_76 X.1.2.2.2.2 ⟨Nat.le_of_ble_eq_true rfl, Nat.le_of_ble_eq_true rfl⟩) [] [0] (by decide : ([] ++ [0] : List Nat).Perm (List.range 1)) rfl rfl hl.1 rfl (Nat.le_of_ble_eq_true rfl) dX8_drop_1 ⟨Nat.le_of_ble_eq_true rfl, Nat.le_of_ble_eq_true rfl⟩ (fun H locs Z => ?_)
  refine lv_if_ne (tgt := 9) hx hb dX8_drop_4 (by decide) (fun c2 => ?_) (fun c2 => ?_)
  · have hf := it_f c2 hf
    refine lv_iload_n hx hb dX8_drop_9 rfl (lv_at hl 2 rfl) ?_
    obtain ⟨q3, hq3, hf⟩ := ob_s hf
    refine z_roS X Z (c_X8_isBeat l D cI cR   p2 hq3) (zw_X8_80 X.1.2.2.2.2 ⟨Nat.le_of_ble_eq_true rfl, Nat.le_of_ble_eq_true rfl⟩) [] [0] (by decide : ([] ++ [0] : List Nat).Perm (List.range 1)) rfl rfl hl.1 rfl (Nat.le_of_ble_eq_true rfl) dX8_drop_10 ⟨Nat.le_of_ble_eq_true rfl, Nat.le_of_ble_eq_true rfl⟩ (fun H locs Z => ?_)
    refine lv_if_ne (tgt := 19) hx hb dX8_drop_13 (by decide) (fun c4 => ?_) (fun c4 => ?_)
    · have hf := it_f c4 hf
      refine lv_aload_n hx hb dX8_drop_19 rfl (lv_at hl 0 rfl) ?_
      refine lv_iload_n hx hb dX8_drop_20 rfl (lv_at hl 1 rfl) ?_
      refine lv_iload_n hx hb dX8_drop_21 rfl (lv_at hl 2 rfl) ?_
      obtain ⟨q5, hq5, hf⟩ := ob_s hf
      refine z_roV X Z (c_X8_comes l D cI cR a a_all a_kept a_history a_historyLong a_slots a_isSaved a_pad a_padLong a_readHeight a_readPass a_readMany a_heights a_many a_takes p1 p2 hq5) (zw_X8_83 X.1.2.2.2.2 ⟨Nat.le_of_ble_eq_true rfl, Nat.le_of_ble_eq_true rfl⟩) 0 8 rfl rfl rfl [0] [] (by decide : ([0] ++ [] : List Nat).Perm (List.range 1)) rfl rfl hl.1 rfl (Nat.le_of_ble_eq_true rfl) dX8_drop_22 ⟨Nat.le_of_ble_eq_true rfl, Nat.le_of_ble_eq_true rfl⟩ (fun H locs Z => ?_)
      refine lv_if_ne (tgt := 31) hx hb dX8_drop_25 (by decide) (fun c6 => ?_) (fun c6 => ?_)
      · have hf := it_f c6 hf
        refine lv_aload_n hx hb dX8_drop_31 rfl (lv_at hl 0 rfl) ?_
        obtain ⟨q7, hq7, hf⟩ := ob_s hf
        refine z_callV X Z (c_X8_keep l D cI cR a a_all a_kept a_history a_historyLong a_slots a_isSaved a_pad a_padLong a_readHeight a_readPass a_readMany a_heights a_many a_takes  hq7) (zw_X8_60 X.1.2.2.2.2 ⟨Nat.le_of_ble_eq_true rfl, Nat.le_of_ble_eq_true rfl⟩) 0 8 rfl rfl rfl [0] [] [w_X8 cI cR a a_all q7 a_history a_historyLong a_slots a_isSaved a_pad a_padLong a_readHeight a_readPass a_readMany a_heights a_many a_takes] (by decide : ([0] ++ [] : List Nat).Perm (List.range 1)) rfl rfl rfl rfl rfl hl.1 rfl (Nat.le_of_ble_eq_true rfl) dX8_drop_32 ⟨Nat.le_of_ble_eq_true rfl, Nat.le_of_ble_eq_true rfl⟩ (fun H locs Z => ?_)
        refine lv_aload_n hx hb dX8_drop_35 rfl (lv_at hl 0 rfl) ?_
        refine zg_X8_7 X Z 0 rfl rfl dX8_drop_36 ?_
        refine lv_iconst (v := 0) hx hb dX8_drop_39 (by decide) ?_
        refine lv_iload_n hx hb dX8_drop_40 rfl (lv_at hl 1 rfl) ?_
        refine lv_iadd hx hb dX8_drop_41 ?_
        refine lv_dup2_11 hx hb dX8_drop_42 rfl rfl ?_
        obtain ⟨i8, hf⟩ := in_s hf
        refine z_ld (j := ((0 : Int32) + p1).toNatClampNeg) X Z 1 rfl i8 rfl dX8_drop_43 ?_
        refine lv_iconst (v := 1) hx hb dX8_drop_44 (by decide) ?_
        refine lv_iload_n hx hb dX8_drop_45 rfl (lv_at hl 2 rfl) ?_
        refine lv_ishl hx hb dX8_drop_46 ?_
        refine lv_isub hx hb dX8_drop_47 ?_
        obtain ⟨i9, hf⟩ := in_s hf
        refine z_st (j := ((0 : Int32) + p1).toNatClampNeg) X Z 1 rfl i9 rfl [w_X8 cI cR a (upd a_all (((0 : Int32) + p1).toNatClampNeg) ((a_all ((0 : Int32) + p1).toNatClampNeg) - ((1 : Int32) <<< (p2 &&& 31)))) q7 a_history a_historyLong a_slots a_isSaved a_pad a_padLong a_readHeight a_readPass a_readMany a_heights a_many a_takes] rfl dX8_drop_48 (fun H locs Z => ?_)
        refine lv_aload_n hx hb dX8_drop_49 rfl (lv_at hl 0 rfl) ?_
        refine zg_X8_7 X Z 0 rfl rfl dX8_drop_50 ?_
        refine lv_bipush (v := 38) hx hb dX8_drop_53 (by decide) ?_
        refine lv_dup2_11 hx hb dX8_drop_55 rfl rfl ?_
        refine z_ld (j := 38) X Z 1 rfl (by decide) (by decide) dX8_drop_56 ?_
        refine lv_iconst (v := 1) hx hb dX8_drop_57 (by decide) ?_
        refine lv_iadd hx hb dX8_drop_58 ?_
        refine z_st (j := 38) X Z 1 rfl (by decide) (by decide) [w_X8 cI cR a (upd (upd a_all (((0 : Int32) + p1).toNatClampNeg) ((a_all ((0 : Int32) + p1).toNatClampNeg) - ((1 : Int32) <<< (p2 &&& 31)))) 38 (((upd a_all (((0 : Int32) + p1).toNatClampNeg) ((a_all ((0 : Int32) + p1).toNatClampNeg) - ((1 : Int32) <<< (p2 &&& 31)))) 38) + (1 : Int32))) q7 a_history a_historyLong a_slots a_isSaved a_pad a_padLong a_readHeight a_readPass a_readMany a_heights a_many a_takes] rfl dX8_drop_59 (fun H locs Z => ?_)
        refine lv_aload_n hx hb dX8_drop_60 rfl (lv_at hl 0 rfl) ?_
        refine lv_aload_n hx hb dX8_drop_61 rfl (lv_at hl 0 rfl) ?_
        refine zg_X8_7 X Z 0 rfl rfl dX8_drop_62 ?_
        refine lv_bipush (v := 38) hx hb dX8_drop_65 (by decide) ?_
        refine z_ld (j := 38) X Z 1 rfl (by decide) (by decide) dX8_drop_67 ?_
        obtain ⟨q10, hq10, hf⟩ := ob_s hf
        refine z_callV X Z (c_X8_changed l D cI cR a (upd (upd a_all (((0 : Int32) + p1).toNatClampNeg) ((a_all ((0 : Int32) + p1).toNatClampNeg) - ((1 : Int32) <<< (p2 &&& 31)))) 38 (((upd a_all (((0 : Int32) + p1).toNatClampNeg) ((a_all ((0 : Int32) + p1).toNatClampNeg) - ((1 : Int32) <<< (p2 &&& 31)))) 38) + (1 : Int32))) q7 a_history a_historyLong a_slots a_isSaved a_pad a_padLong a_readHeight a_readPass a_readMany a_heights a_many a_takes ((upd (upd a_all (((0 : Int32) + p1).toNatClampNeg) ((a_all ((0 : Int32) + p1).toNatClampNeg) - ((1 : Int32) <<< (p2 &&& 31)))) 38 (((upd a_all (((0 : Int32) + p1).toNatClampNeg) ((a_all ((0 : Int32) + p1).toNatClampNeg) - ((1 : Int32) <<< (p2 &&& 31)))) 38) + (1 : Int32))) 38) hq10) (zw_X8_67 X.1.2.2.2.2 ⟨Nat.le_of_ble_eq_true rfl, Nat.le_of_ble_eq_true rfl⟩) 0 8 rfl rfl rfl [0] [] [w_X8 cI cR a (upd (upd a_all (((0 : Int32) + p1).toNatClampNeg) ((a_all ((0 : Int32) + p1).toNatClampNeg) - ((1 : Int32) <<< (p2 &&& 31)))) 38 (((upd a_all (((0 : Int32) + p1).toNatClampNeg) ((a_all ((0 : Int32) + p1).toNatClampNeg) - ((1 : Int32) <<< (p2 &&& 31)))) 38) + (1 : Int32))) q7 q10.2.1 q10.2.2 a_slots a_isSaved a_pad a_padLong a_readHeight a_readPass a_readMany a_heights a_many a_takes] (by decide : ([0] ++ [] : List Nat).Perm (List.range 1)) rfl rfl rfl rfl rfl hl.1 rfl (Nat.le_of_ble_eq_true rfl) dX8_drop_68 ⟨Nat.le_of_ble_eq_true rfl, Nat.le_of_ble_eq_true rfl⟩ (fun H locs Z => ?_)
        have hR := so_s hf
        subst hR
        refine z_iret X hr hlocks ?_ dX8_drop_71
        exact Z.eq rfl
      · have hf := it_t c6 hf
        refine lv_bipush (v := -5) hx hb dX8_drop_28 (by decide) ?_
        have hR := so_s hf
        subst hR
        refine z_iret X hr hlocks ?_ dX8_drop_30
        exact Z.eq rfl
    · have hf := it_t c4 hf
      refine lv_bipush (v := -2) hx hb dX8_drop_16 (by decide) ?_
      have hR := so_s hf
      subst hR
      refine z_iret X hr hlocks ?_ dX8_drop_18
      exact Z.eq rfl
  · have hf := it_t c2 hf
    refine lv_iconst (v := -1) hx hb dX8_drop_7 (by decide) ?_
    have hR := so_s hf
    subst hR
    refine z_iret X hr hlocks ?_ dX8_drop_8
    exact Z.eq rfl
def f_X8_pick (a_all : (Nat → Int32)) (a_kept : (Nat → Int32)) (a_history : (Nat → Int32)) (a_historyLong : Int32) (p1 : Int32) (p2 : Int32) : Option (Int32 × (Nat → Int32) × (Nat → Int32) × (Nat → Int32) × Int32) := (f_X8_isJuggler p1).bind (fun q1 => if q1 = 0 then (some ((-1 : Int32), a_all, a_kept, a_history, a_historyLong)) else ((f_X8_isBeat p2).bind (fun q3 => if q3 = 0 then (some ((-2 : Int32), a_all, a_kept, a_history, a_historyLong)) else (if (a_all 38) = 0 then (some ((-5 : Int32), a_all, a_kept, a_history, a_historyLong)) else ((f_X8_comes a_all p1 p2).bind (fun q6 => if q6 = 0 then ((f_X8_keep a_all a_kept).bind (fun q8 => if ((0 : Int32) + p1) < 0 ∨ 46 ≤ ((0 : Int32) + p1).toNatClampNeg then none else (if ((0 : Int32) + p1) < 0 ∨ 46 ≤ ((0 : Int32) + p1).toNatClampNeg then none else ((f_X8_changed q8 a_history a_historyLong ((upd (upd a_all (((0 : Int32) + p1).toNatClampNeg) ((a_all ((0 : Int32) + p1).toNatClampNeg) + ((1 : Int32) <<< (p2 &&& 31)))) 38 (((upd a_all (((0 : Int32) + p1).toNatClampNeg) ((a_all ((0 : Int32) + p1).toNatClampNeg) + ((1 : Int32) <<< (p2 &&& 31)))) 38) - (1 : Int32))) 38)).bind (fun q11 => some (q11.1, upd (upd a_all (((0 : Int32) + p1).toNatClampNeg) ((a_all ((0 : Int32) + p1).toNatClampNeg) + ((1 : Int32) <<< (p2 &&& 31)))) 38 (((upd a_all (((0 : Int32) + p1).toNatClampNeg) ((a_all ((0 : Int32) + p1).toNatClampNeg) + ((1 : Int32) <<< (p2 &&& 31)))) 38) - (1 : Int32)), q8, q11.2.1, q11.2.2)))))) else (some ((-5 : Int32), a_all, a_kept, a_history, a_historyLong))))))))
set_option maxHeartbeats 4000000 in
set_option maxRecDepth 100000 in
theorem c_X8_pick (l : Launch) (D : va_G) (cI cR : ClassId) (a : (Nat → Nat)) (a_all : (Nat → Int32)) (a_kept : (Nat → Int32)) (a_history : (Nat → Int32)) (a_historyLong : Int32) (a_slots : (Nat → Int32)) (a_isSaved : (Nat → Int32)) (a_pad : (Nat → Int32)) (a_padLong : Int32) (a_readHeight : (Nat → Int32)) (a_readPass : (Nat → Int32)) (a_readMany : Int32) (a_heights : (Nat → Int32)) (a_many : Int32) (a_takes : (Nat → Int32)) (p1 : Int32) (p2 : Int32) {R : Int32 × (Nat → Int32) × (Nat → Int32) × (Nat → Int32) × Int32} (hf : f_X8_pick a_all a_kept a_history a_historyLong p1 p2 = some R) : zM l D cI cR yX8_pick cX8_pick 3 (some .int) 2 45 [.ref (a 0), .int p1, .int p2] [w_X8 cI cR a a_all a_kept a_history a_historyLong a_slots a_isSaved a_pad a_padLong a_readHeight a_readPass a_readMany a_heights a_many a_takes] (some (.int R.1)) [w_X8 cI cR a R.2.1 R.2.2.1 R.2.2.2.1 R.2.2.2.2 a_slots a_isSaved a_pad a_padLong a_readHeight a_readPass a_readMany a_heights a_many a_takes] := by
  refine z_of (own := RX8) rfl (by decide) (Nat.le_of_ble_eq_true rfl) ?_
  intro p e s m args below meth c A ls X hr hlocks Z hl
  have hx := X.1.1
  have hb := X.1.2.1
  have Z : zW D A s [w_X8 cI cR a a_all a_kept a_history a_historyLong a_slots a_isSaved a_pad a_padLong a_readHeight a_readPass a_readMany a_heights a_many a_takes] s.heap [] := Z
  have hl : lv_has ls 3 [(0, .ref (a 0)), (1, .int p1), (2, .int p2)] := hl
  refine lv_iload_n hx hb dX8_pick_0 rfl (lv_at hl 1 rfl) ?_
  obtain ⟨q1, hq1, hf⟩ := ob_s hf
  refine z_roS X Z (c_X8_isJuggler l D cI cR   p1 hq1) (zw_X8_76 X.1.2.2.2.2 ⟨Nat.le_of_ble_eq_true rfl, Nat.le_of_ble_eq_true rfl⟩) [] [0] (by decide : ([] ++ [0] : List Nat).Perm (List.range 1)) rfl rfl hl.1 rfl (Nat.le_of_ble_eq_true rfl) dX8_pick_1 ⟨Nat.le_of_ble_eq_true rfl, Nat.le_of_ble_eq_true rfl⟩ (fun H locs Z => ?_)
  refine lv_if_ne (tgt := 9) hx hb dX8_pick_4 (by decide) (fun c2 => ?_) (fun c2 => ?_)
  · have hf := it_f c2 hf
    refine lv_iload_n hx hb dX8_pick_9 rfl (lv_at hl 2 rfl) ?_
    obtain ⟨q3, hq3, hf⟩ := ob_s hf
    refine z_roS X Z (c_X8_isBeat l D cI cR   p2 hq3) (zw_X8_80 X.1.2.2.2.2 ⟨Nat.le_of_ble_eq_true rfl, Nat.le_of_ble_eq_true rfl⟩) [] [0] (by decide : ([] ++ [0] : List Nat).Perm (List.range 1)) rfl rfl hl.1 rfl (Nat.le_of_ble_eq_true rfl) dX8_pick_10 ⟨Nat.le_of_ble_eq_true rfl, Nat.le_of_ble_eq_true rfl⟩ (fun H locs Z => ?_)
    refine lv_if_ne (tgt := 19) hx hb dX8_pick_13 (by decide) (fun c4 => ?_) (fun c4 => ?_)
    · have hf := it_f c4 hf
      refine lv_aload_n hx hb dX8_pick_19 rfl (lv_at hl 0 rfl) ?_
      refine zg_X8_7 X Z 0 rfl rfl dX8_pick_20 ?_
      refine lv_bipush (v := 38) hx hb dX8_pick_23 (by decide) ?_
      refine z_ld (j := 38) X Z 1 rfl (by decide) (by decide) dX8_pick_25 ?_
      refine lv_if_eq (tgt := 38) hx hb dX8_pick_26 (by decide) (fun c5 => ?_) (fun c5 => ?_)
      · have hf := it_t c5 hf
        refine lv_bipush (v := -5) hx hb dX8_pick_38 (by decide) ?_
        have hR := so_s hf
        subst hR
        refine z_iret X hr hlocks ?_ dX8_pick_40
        exact Z.eq rfl
      · have hf := it_f c5 hf
        refine lv_aload_n hx hb dX8_pick_29 rfl (lv_at hl 0 rfl) ?_
        refine lv_iload_n hx hb dX8_pick_30 rfl (lv_at hl 1 rfl) ?_
        refine lv_iload_n hx hb dX8_pick_31 rfl (lv_at hl 2 rfl) ?_
        obtain ⟨q6, hq6, hf⟩ := ob_s hf
        refine z_roV X Z (c_X8_comes l D cI cR a a_all a_kept a_history a_historyLong a_slots a_isSaved a_pad a_padLong a_readHeight a_readPass a_readMany a_heights a_many a_takes p1 p2 hq6) (zw_X8_83 X.1.2.2.2.2 ⟨Nat.le_of_ble_eq_true rfl, Nat.le_of_ble_eq_true rfl⟩) 0 8 rfl rfl rfl [0] [] (by decide : ([0] ++ [] : List Nat).Perm (List.range 1)) rfl rfl hl.1 rfl (Nat.le_of_ble_eq_true rfl) dX8_pick_32 ⟨Nat.le_of_ble_eq_true rfl, Nat.le_of_ble_eq_true rfl⟩ (fun H locs Z => ?_)
        refine lv_if_eq (tgt := 41) hx hb dX8_pick_35 (by decide) (fun c7 => ?_) (fun c7 => ?_)
        · have hf := it_t c7 hf
          refine lv_aload_n hx hb dX8_pick_41 rfl (lv_at hl 0 rfl) ?_
          obtain ⟨q8, hq8, hf⟩ := ob_s hf
          refine z_callV X Z (c_X8_keep l D cI cR a a_all a_kept a_history a_historyLong a_slots a_isSaved a_pad a_padLong a_readHeight a_readPass a_readMany a_heights a_many a_takes  hq8) (zw_X8_60 X.1.2.2.2.2 ⟨Nat.le_of_ble_eq_true rfl, Nat.le_of_ble_eq_true rfl⟩) 0 8 rfl rfl rfl [0] [] [w_X8 cI cR a a_all q8 a_history a_historyLong a_slots a_isSaved a_pad a_padLong a_readHeight a_readPass a_readMany a_heights a_many a_takes] (by decide : ([0] ++ [] : List Nat).Perm (List.range 1)) rfl rfl rfl rfl rfl hl.1 rfl (Nat.le_of_ble_eq_true rfl) dX8_pick_42 ⟨Nat.le_of_ble_eq_true rfl, Nat.le_of_ble_eq_true rfl⟩ (fun H locs Z => ?_)
          refine lv_aload_n hx hb dX8_pick_45 rfl (lv_at hl 0 rfl) ?_
          refine zg_X8_7 X Z 0 rfl rfl dX8_pick_46 ?_
          refine lv_iconst (v := 0) hx hb dX8_pick_49 (by decide) ?_
          refine lv_iload_n hx hb dX8_pick_50 rfl (lv_at hl 1 rfl) ?_
          refine lv_iadd hx hb dX8_pick_51 ?_
          refine lv_dup2_11 hx hb dX8_pick_52 rfl rfl ?_
          obtain ⟨i9, hf⟩ := in_s hf
          refine z_ld (j := ((0 : Int32) + p1).toNatClampNeg) X Z 1 rfl i9 rfl dX8_pick_53 ?_
          refine lv_iconst (v := 1) hx hb dX8_pick_54 (by decide) ?_
          refine lv_iload_n hx hb dX8_pick_55 rfl (lv_at hl 2 rfl) ?_
          refine lv_ishl hx hb dX8_pick_56 ?_
          refine lv_iadd hx hb dX8_pick_57 ?_
          obtain ⟨i10, hf⟩ := in_s hf
          refine z_st (j := ((0 : Int32) + p1).toNatClampNeg) X Z 1 rfl i10 rfl [w_X8 cI cR a (upd a_all (((0 : Int32) + p1).toNatClampNeg) ((a_all ((0 : Int32) + p1).toNatClampNeg) + ((1 : Int32) <<< (p2 &&& 31)))) q8 a_history a_historyLong a_slots a_isSaved a_pad a_padLong a_readHeight a_readPass a_readMany a_heights a_many a_takes] rfl dX8_pick_58 (fun H locs Z => ?_)
          refine lv_aload_n hx hb dX8_pick_59 rfl (lv_at hl 0 rfl) ?_
          refine zg_X8_7 X Z 0 rfl rfl dX8_pick_60 ?_
          refine lv_bipush (v := 38) hx hb dX8_pick_63 (by decide) ?_
          refine lv_dup2_11 hx hb dX8_pick_65 rfl rfl ?_
          refine z_ld (j := 38) X Z 1 rfl (by decide) (by decide) dX8_pick_66 ?_
          refine lv_iconst (v := 1) hx hb dX8_pick_67 (by decide) ?_
          refine lv_isub hx hb dX8_pick_68 ?_
          refine z_st (j := 38) X Z 1 rfl (by decide) (by decide) [w_X8 cI cR a (upd (upd a_all (((0 : Int32) + p1).toNatClampNeg) ((a_all ((0 : Int32) + p1).toNatClampNeg) + ((1 : Int32) <<< (p2 &&& 31)))) 38 (((upd a_all (((0 : Int32) + p1).toNatClampNeg) ((a_all ((0 : Int32) + p1).toNatClampNeg) + ((1 : Int32) <<< (p2 &&& 31)))) 38) - (1 : Int32))) q8 a_history a_historyLong a_slots a_isSaved a_pad a_padLong a_readHeight a_readPass a_readMany a_heights a_many a_takes] rfl dX8_pick_69 (fun H locs Z => ?_)
          refine lv_aload_n hx hb dX8_pick_70 rfl (lv_at hl 0 rfl) ?_
          refine lv_aload_n hx hb dX8_pick_71 rfl (lv_at hl 0 rfl) ?_
          refine zg_X8_7 X Z 0 rfl rfl dX8_pick_72 ?_
          refine lv_bipush (v := 38) hx hb dX8_pick_75 (by decide) ?_
          refine z_ld (j := 38) X Z 1 rfl (by decide) (by decide) dX8_pick_77 ?_
          obtain ⟨q11, hq11, hf⟩ := ob_s hf
          refine z_callV X Z (c_X8_changed l D cI cR a (upd (upd a_all (((0 : Int32) + p1).toNatClampNeg) ((a_all ((0 : Int32) + p1).toNatClampNeg) + ((1 : Int32) <<< (p2 &&& 31)))) 38 (((upd a_all (((0 : Int32) + p1).toNatClampNeg) ((a_all ((0 : Int32) + p1).toNatClampNeg) + ((1 : Int32) <<< (p2 &&& 31)))) 38) - (1 : Int32))) q8 a_history a_historyLong a_slots a_isSaved a_pad a_padLong a_readHeight a_readPass a_readMany a_heights a_many a_takes ((upd (upd a_all (((0 : Int32) + p1).toNatClampNeg) ((a_all ((0 : Int32) + p1).toNatClampNeg) + ((1 : Int32) <<< (p2 &&& 31)))) 38 (((upd a_all (((0 : Int32) + p1).toNatClampNeg) ((a_all ((0 : Int32) + p1).toNatClampNeg) + ((1 : Int32) <<< (p2 &&& 31)))) 38) - (1 : Int32))) 38) hq11) (zw_X8_67 X.1.2.2.2.2 ⟨Nat.le_of_ble_eq_true rfl, Nat.le_of_ble_eq_true rfl⟩) 0 8 rfl rfl rfl [0] [] [w_X8 cI cR a (upd (upd a_all (((0 : Int32) + p1).toNatClampNeg) ((a_all ((0 : Int32) + p1).toNatClampNeg) + ((1 : Int32) <<< (p2 &&& 31)))) 38 (((upd a_all (((0 : Int32) + p1).toNatClampNeg) ((a_all ((0 : Int32) + p1).toNatClampNeg) + ((1 : Int32) <<< (p2 &&& 31)))) 38) - (1 : Int32))) q8 q11.2.1 q11.2.2 a_slots a_isSaved a_pad a_padLong a_readHeight a_readPass a_readMany a_heights a_many a_takes] (by decide : ([0] ++ [] : List Nat).Perm (List.range 1)) rfl rfl rfl rfl rfl hl.1 rfl (Nat.le_of_ble_eq_true rfl) dX8_pick_78 ⟨Nat.le_of_ble_eq_true rfl, Nat.le_of_ble_eq_true rfl⟩ (fun H locs Z => ?_)
          have hR := so_s hf
          subst hR
          refine z_iret X hr hlocks ?_ dX8_pick_81
          exact Z.eq rfl
        · have hf := it_f c7 hf
          refine lv_bipush (v := -5) hx hb dX8_pick_38 (by decide) ?_
          have hR := so_s hf
          subst hR
          refine z_iret X hr hlocks ?_ dX8_pick_40
          exact Z.eq rfl
    · have hf := it_t c4 hf
      refine lv_bipush (v := -2) hx hb dX8_pick_16 (by decide) ?_
      have hR := so_s hf
      subst hR
      refine z_iret X hr hlocks ?_ dX8_pick_18
      exact Z.eq rfl
  · have hf := it_t c2 hf
    refine lv_iconst (v := -1) hx hb dX8_pick_7 (by decide) ?_
    have hR := so_s hf
    subst hR
    refine z_iret X hr hlocks ?_ dX8_pick_8
    exact Z.eq rfl
def f_X8_of (a_all : (Nat → Int32)) (p1 : Int32) (p2 : Int32) : Option (Int32) := (f_X8_isJuggler p1).bind (fun q1 => if q1 = 0 then (some (-1 : Int32)) else (if p2 = (0 : Int32) then (if ((0 : Int32) + p1) < 0 ∨ 46 ≤ ((0 : Int32) + p1).toNatClampNeg then none else (some (a_all ((0 : Int32) + p1).toNatClampNeg))) else (if p2 = (1 : Int32) then (if ((0 : Int32) + p1) < 0 ∨ 46 ≤ ((0 : Int32) + p1).toNatClampNeg then none else ((f_X8_bits (a_all ((0 : Int32) + p1).toNatClampNeg)).bind (fun q7 => some q7))) else (if p2 = (2 : Int32) then (if ((4 : Int32) + p1) < 0 ∨ 46 ≤ ((4 : Int32) + p1).toNatClampNeg then none else (some (a_all ((4 : Int32) + p1).toNatClampNeg))) else (if p2 = (3 : Int32) then (if ((2 : Int32) + p1) < 0 ∨ 46 ≤ ((2 : Int32) + p1).toNatClampNeg then none else (some (a_all ((2 : Int32) + p1).toNatClampNeg))) else (if p2 = (4 : Int32) then (if ((40 : Int32) + p1) < 0 ∨ 46 ≤ ((40 : Int32) + p1).toNatClampNeg then none else (some (a_all ((40 : Int32) + p1).toNatClampNeg))) else (if p2 = (5 : Int32) then (if ((42 : Int32) + p1) < 0 ∨ 46 ≤ ((42 : Int32) + p1).toNatClampNeg then none else (some (a_all ((42 : Int32) + p1).toNatClampNeg))) else (some (-2 : Int32)))))))))
set_option maxHeartbeats 4000000 in
set_option maxRecDepth 100000 in
theorem c_X8_of (l : Launch) (D : va_G) (cI cR : ClassId) (a : (Nat → Nat)) (a_all : (Nat → Int32)) (a_kept : (Nat → Int32)) (a_history : (Nat → Int32)) (a_historyLong : Int32) (a_slots : (Nat → Int32)) (a_isSaved : (Nat → Int32)) (a_pad : (Nat → Int32)) (a_padLong : Int32) (a_readHeight : (Nat → Int32)) (a_readPass : (Nat → Int32)) (a_readMany : Int32) (a_heights : (Nat → Int32)) (a_many : Int32) (a_takes : (Nat → Int32)) (p1 : Int32) (p2 : Int32) {R : Int32} (hf : f_X8_of a_all p1 p2 = some R) : zM l D cI cR yX8_of cX8_of 3 (some .int) 2 45 [.ref (a 0), .int p1, .int p2] [w_X8 cI cR a a_all a_kept a_history a_historyLong a_slots a_isSaved a_pad a_padLong a_readHeight a_readPass a_readMany a_heights a_many a_takes] (some (.int R)) [w_X8 cI cR a a_all a_kept a_history a_historyLong a_slots a_isSaved a_pad a_padLong a_readHeight a_readPass a_readMany a_heights a_many a_takes] := by
  refine z_of (own := RX8) rfl (by decide) (Nat.le_of_ble_eq_true rfl) ?_
  intro p e s m args below meth c A ls X hr hlocks Z hl
  have hx := X.1.1
  have hb := X.1.2.1
  have Z : zW D A s [w_X8 cI cR a a_all a_kept a_history a_historyLong a_slots a_isSaved a_pad a_padLong a_readHeight a_readPass a_readMany a_heights a_many a_takes] s.heap [] := Z
  have hl : lv_has ls 3 [(0, .ref (a 0)), (1, .int p1), (2, .int p2)] := hl
  refine lv_iload_n hx hb dX8_of_0 rfl (lv_at hl 1 rfl) ?_
  obtain ⟨q1, hq1, hf⟩ := ob_s hf
  refine z_roS X Z (c_X8_isJuggler l D cI cR   p1 hq1) (zw_X8_76 X.1.2.2.2.2 ⟨Nat.le_of_ble_eq_true rfl, Nat.le_of_ble_eq_true rfl⟩) [] [0] (by decide : ([] ++ [0] : List Nat).Perm (List.range 1)) rfl rfl hl.1 rfl (Nat.le_of_ble_eq_true rfl) dX8_of_1 ⟨Nat.le_of_ble_eq_true rfl, Nat.le_of_ble_eq_true rfl⟩ (fun H locs Z => ?_)
  refine lv_if_ne (tgt := 9) hx hb dX8_of_4 (by decide) (fun c2 => ?_) (fun c2 => ?_)
  · have hf := it_f c2 hf
    refine lv_iload_n hx hb dX8_of_9 rfl (lv_at hl 2 rfl) ?_
    rcases Decidable.em (p2 = (0 : Int32)) with c3 | c3
    · have hf := it_t c3 hf
      refine z_tabIn hx hb 0 c3 (off := 38) (tgt := 48) dX8_of_10 (by decide) (by decide) (by decide) (by decide) ?_
      refine lv_aload_n hx hb dX8_of_48 rfl (lv_at hl 0 rfl) ?_
      refine zg_X8_7 X Z 0 rfl rfl dX8_of_49 ?_
      refine lv_iconst (v := 0) hx hb dX8_of_52 (by decide) ?_
      refine lv_iload_n hx hb dX8_of_53 rfl (lv_at hl 1 rfl) ?_
      refine lv_iadd hx hb dX8_of_54 ?_
      obtain ⟨i4, hf⟩ := in_s hf
      refine z_ld (j := ((0 : Int32) + p1).toNatClampNeg) X Z 1 rfl i4 rfl dX8_of_55 ?_
      have hR := so_s hf
      subst hR
      refine z_iret X hr hlocks ?_ dX8_of_56
      exact Z.eq rfl
    · have hf := it_f c3 hf
      rcases Decidable.em (p2 = (1 : Int32)) with c5 | c5
      · have hf := it_t c5 hf
        refine z_tabIn hx hb 1 c5 (off := 47) (tgt := 57) dX8_of_10 (by decide) (by decide) (by decide) (by decide) ?_
        refine lv_aload_n hx hb dX8_of_57 rfl (lv_at hl 0 rfl) ?_
        refine zg_X8_7 X Z 0 rfl rfl dX8_of_58 ?_
        refine lv_iconst (v := 0) hx hb dX8_of_61 (by decide) ?_
        refine lv_iload_n hx hb dX8_of_62 rfl (lv_at hl 1 rfl) ?_
        refine lv_iadd hx hb dX8_of_63 ?_
        obtain ⟨i6, hf⟩ := in_s hf
        refine z_ld (j := ((0 : Int32) + p1).toNatClampNeg) X Z 1 rfl i6 rfl dX8_of_64 ?_
        obtain ⟨q7, hq7, hf⟩ := ob_s hf
        refine z_roS X Z (c_X8_bits l D cI cR   (a_all ((0 : Int32) + p1).toNatClampNeg) hq7) (zw_X8_50 X.1.2.2.2.2 ⟨Nat.le_of_ble_eq_true rfl, Nat.le_of_ble_eq_true rfl⟩) [] [0] (by decide : ([] ++ [0] : List Nat).Perm (List.range 1)) rfl rfl hl.1 rfl (Nat.le_of_ble_eq_true rfl) dX8_of_65 ⟨Nat.le_of_ble_eq_true rfl, Nat.le_of_ble_eq_true rfl⟩ (fun H locs Z => ?_)
        have hR := so_s hf
        subst hR
        refine z_iret X hr hlocks ?_ dX8_of_68
        exact Z.eq rfl
      · have hf := it_f c5 hf
        rcases Decidable.em (p2 = (2 : Int32)) with c8 | c8
        · have hf := it_t c8 hf
          refine z_tabIn hx hb 2 c8 (off := 59) (tgt := 69) dX8_of_10 (by decide) (by decide) (by decide) (by decide) ?_
          refine lv_aload_n hx hb dX8_of_69 rfl (lv_at hl 0 rfl) ?_
          refine zg_X8_7 X Z 0 rfl rfl dX8_of_70 ?_
          refine lv_iconst (v := 4) hx hb dX8_of_73 (by decide) ?_
          refine lv_iload_n hx hb dX8_of_74 rfl (lv_at hl 1 rfl) ?_
          refine lv_iadd hx hb dX8_of_75 ?_
          obtain ⟨i9, hf⟩ := in_s hf
          refine z_ld (j := ((4 : Int32) + p1).toNatClampNeg) X Z 1 rfl i9 rfl dX8_of_76 ?_
          have hR := so_s hf
          subst hR
          refine z_iret X hr hlocks ?_ dX8_of_77
          exact Z.eq rfl
        · have hf := it_f c8 hf
          rcases Decidable.em (p2 = (3 : Int32)) with c10 | c10
          · have hf := it_t c10 hf
            refine z_tabIn hx hb 3 c10 (off := 68) (tgt := 78) dX8_of_10 (by decide) (by decide) (by decide) (by decide) ?_
            refine lv_aload_n hx hb dX8_of_78 rfl (lv_at hl 0 rfl) ?_
            refine zg_X8_7 X Z 0 rfl rfl dX8_of_79 ?_
            refine lv_iconst (v := 2) hx hb dX8_of_82 (by decide) ?_
            refine lv_iload_n hx hb dX8_of_83 rfl (lv_at hl 1 rfl) ?_
            refine lv_iadd hx hb dX8_of_84 ?_
            obtain ⟨i11, hf⟩ := in_s hf
            refine z_ld (j := ((2 : Int32) + p1).toNatClampNeg) X Z 1 rfl i11 rfl dX8_of_85 ?_
            have hR := so_s hf
            subst hR
            refine z_iret X hr hlocks ?_ dX8_of_86
            exact Z.eq rfl
          · have hf := it_f c10 hf
            rcases Decidable.em (p2 = (4 : Int32)) with c12 | c12
            · have hf := it_t c12 hf
              refine z_tabIn hx hb 4 c12 (off := 77) (tgt := 87) dX8_of_10 (by decide) (by decide) (by decide) (by decide) ?_
              refine lv_aload_n hx hb dX8_of_87 rfl (lv_at hl 0 rfl) ?_
              refine zg_X8_7 X Z 0 rfl rfl dX8_of_88 ?_
              refine lv_bipush (v := 40) hx hb dX8_of_91 (by decide) ?_
              refine lv_iload_n hx hb dX8_of_93 rfl (lv_at hl 1 rfl) ?_
              refine lv_iadd hx hb dX8_of_94 ?_
              obtain ⟨i13, hf⟩ := in_s hf
              refine z_ld (j := ((40 : Int32) + p1).toNatClampNeg) X Z 1 rfl i13 rfl dX8_of_95 ?_
              have hR := so_s hf
              subst hR
              refine z_iret X hr hlocks ?_ dX8_of_96
              exact Z.eq rfl
            · have hf := it_f c12 hf
              rcases Decidable.em (p2 = (5 : Int32)) with c14 | c14
              · have hf := it_t c14 hf
                refine z_tabIn hx hb 5 c14 (off := 87) (tgt := 97) dX8_of_10 (by decide) (by decide) (by decide) (by decide) ?_
                refine lv_aload_n hx hb dX8_of_97 rfl (lv_at hl 0 rfl) ?_
                refine zg_X8_7 X Z 0 rfl rfl dX8_of_98 ?_
                refine lv_bipush (v := 42) hx hb dX8_of_101 (by decide) ?_
                refine lv_iload_n hx hb dX8_of_103 rfl (lv_at hl 1 rfl) ?_
                refine lv_iadd hx hb dX8_of_104 ?_
                obtain ⟨i15, hf⟩ := in_s hf
                refine z_ld (j := ((42 : Int32) + p1).toNatClampNeg) X Z 1 rfl i15 rfl dX8_of_105 ?_
                have hR := so_s hf
                subst hR
                refine z_iret X hr hlocks ?_ dX8_of_106
                exact Z.eq rfl
              · have hf := it_f c14 hf
                refine lv_tableOut (tgt := 107) hx hb dX8_of_10 ?_ (by decide) ?_
                · have e0 := z_ne c3
                  have e1 := z_ne c5
                  have e2 := z_ne c8
                  have e3 := z_ne c10
                  have e4 := z_ne c12
                  have e5 := z_ne c14
                  try simp only [show (0 : Int32).toInt = 0 from by decide] at e0
                  try simp only [show (1 : Int32).toInt = 1 from by decide] at e1
                  try simp only [show (2 : Int32).toInt = 2 from by decide] at e2
                  try simp only [show (3 : Int32).toInt = 3 from by decide] at e3
                  try simp only [show (4 : Int32).toInt = 4 from by decide] at e4
                  try simp only [show (5 : Int32).toInt = 5 from by decide] at e5
                  omega
                · refine lv_bipush (v := -2) hx hb dX8_of_107 (by decide) ?_
                  have hR := so_s hf
                  subst hR
                  refine z_iret X hr hlocks ?_ dX8_of_109
                  exact Z.eq rfl
  · have hf := it_t c2 hf
    refine lv_iconst (v := -1) hx hb dX8_of_7 (by decide) ?_
    have hR := so_s hf
    subst hR
    refine z_iret X hr hlocks ?_ dX8_of_8
    exact Z.eq rfl
def f_X8_thrown (a_all : (Nat → Int32)) (p1 : Int32) (p2 : Int32) (p3 : Int32) : Option (Int32) := (f_X8_isJuggler p1).bind (fun q1 => if q1 = 0 then (some (-1 : Int32)) else (if ((4 : Int32) + p1) < 0 ∨ 46 ≤ ((4 : Int32) + p1).toNatClampNeg then none else ((f_X8_in p2.toInt64 (0 : Int64) (((a_all ((4 : Int32) + p1).toNatClampNeg).toInt64) - (1 : Int64))).bind (fun q4 => if q4 = 0 then (some (-1 : Int32)) else (if p3 = 0 then (if ((6 : Int32) + (((8 : Int32) * p1) + p2)) < 0 ∨ 46 ≤ ((6 : Int32) + (((8 : Int32) * p1) + p2)).toNatClampNeg then none else (some (a_all ((6 : Int32) + (((8 : Int32) * p1) + p2)).toNatClampNeg))) else (if p3 = (1 : Int32) then (if ((22 : Int32) + (((8 : Int32) * p1) + p2)) < 0 ∨ 46 ≤ ((22 : Int32) + (((8 : Int32) * p1) + p2)).toNatClampNeg then none else (some (a_all ((22 : Int32) + (((8 : Int32) * p1) + p2)).toNatClampNeg))) else (some (-2 : Int32))))))))
set_option maxHeartbeats 4000000 in
set_option maxRecDepth 100000 in
theorem c_X8_thrown (l : Launch) (D : va_G) (cI cR : ClassId) (a : (Nat → Nat)) (a_all : (Nat → Int32)) (a_kept : (Nat → Int32)) (a_history : (Nat → Int32)) (a_historyLong : Int32) (a_slots : (Nat → Int32)) (a_isSaved : (Nat → Int32)) (a_pad : (Nat → Int32)) (a_padLong : Int32) (a_readHeight : (Nat → Int32)) (a_readPass : (Nat → Int32)) (a_readMany : Int32) (a_heights : (Nat → Int32)) (a_many : Int32) (a_takes : (Nat → Int32)) (p1 : Int32) (p2 : Int32) (p3 : Int32) {R : Int32} (hf : f_X8_thrown a_all p1 p2 p3 = some R) : zM l D cI cR yX8_thrown cX8_thrown 5 (some .int) 2 45 [.ref (a 0), .int p1, .int p2, .int p3] [w_X8 cI cR a a_all a_kept a_history a_historyLong a_slots a_isSaved a_pad a_padLong a_readHeight a_readPass a_readMany a_heights a_many a_takes] (some (.int R)) [w_X8 cI cR a a_all a_kept a_history a_historyLong a_slots a_isSaved a_pad a_padLong a_readHeight a_readPass a_readMany a_heights a_many a_takes] := by
  refine z_of (own := RX8) rfl (by decide) (Nat.le_of_ble_eq_true rfl) ?_
  intro p e s m args below meth c A ls X hr hlocks Z hl
  have hx := X.1.1
  have hb := X.1.2.1
  have Z : zW D A s [w_X8 cI cR a a_all a_kept a_history a_historyLong a_slots a_isSaved a_pad a_padLong a_readHeight a_readPass a_readMany a_heights a_many a_takes] s.heap [] := Z
  have hl : lv_has ls 5 [(0, .ref (a 0)), (1, .int p1), (2, .int p2), (3, .int p3)] := hl
  refine lv_iload_n hx hb dX8_thrown_0 rfl (lv_at hl 1 rfl) ?_
  obtain ⟨q1, hq1, hf⟩ := ob_s hf
  refine z_roS X Z (c_X8_isJuggler l D cI cR   p1 hq1) (zw_X8_76 X.1.2.2.2.2 ⟨Nat.le_of_ble_eq_true rfl, Nat.le_of_ble_eq_true rfl⟩) [] [0] (by decide : ([] ++ [0] : List Nat).Perm (List.range 1)) rfl rfl hl.1 rfl (Nat.le_of_ble_eq_true rfl) dX8_thrown_1 ⟨Nat.le_of_ble_eq_true rfl, Nat.le_of_ble_eq_true rfl⟩ (fun H locs Z => ?_)
  refine lv_if_eq (tgt := 27) hx hb dX8_thrown_4 (by decide) (fun c2 => ?_) (fun c2 => ?_)
  · have hf := it_t c2 hf
    refine lv_iconst (v := -1) hx hb dX8_thrown_27 (by decide) ?_
    have hR := so_s hf
    subst hR
    refine z_iret X hr hlocks ?_ dX8_thrown_28
    exact Z.eq rfl
  · have hf := it_f c2 hf
    refine lv_iload_n hx hb dX8_thrown_7 rfl (lv_at hl 2 rfl) ?_
    refine lv_i2l hx hb dX8_thrown_8 rfl ?_
    refine lv_lconst (v := 0) hx hb dX8_thrown_9 (by decide) ?_
    refine lv_aload_n hx hb dX8_thrown_10 rfl (lv_at hl 0 rfl) ?_
    refine zg_X8_7 X Z 0 rfl rfl dX8_thrown_11 ?_
    refine lv_iconst (v := 4) hx hb dX8_thrown_14 (by decide) ?_
    refine lv_iload_n hx hb dX8_thrown_15 rfl (lv_at hl 1 rfl) ?_
    refine lv_iadd hx hb dX8_thrown_16 ?_
    obtain ⟨i3, hf⟩ := in_s hf
    refine z_ld (j := ((4 : Int32) + p1).toNatClampNeg) X Z 1 rfl i3 rfl dX8_thrown_17 ?_
    refine lv_i2l hx hb dX8_thrown_18 rfl ?_
    refine lv_lconst (v := 1) hx hb dX8_thrown_19 (by decide) ?_
    refine lv_lsub hx hb dX8_thrown_20 ?_
    obtain ⟨q4, hq4, hf⟩ := ob_s hf
    refine z_roS X Z (c_X8_in l D cI cR   p2.toInt64 (0 : Int64) (((a_all ((4 : Int32) + p1).toNatClampNeg).toInt64) - (1 : Int64)) hq4) (zw_X8_44 X.1.2.2.2.2 ⟨Nat.le_of_ble_eq_true rfl, Nat.le_of_ble_eq_true rfl⟩) [] [0] (by decide : ([] ++ [0] : List Nat).Perm (List.range 1)) rfl rfl hl.1 rfl (Nat.le_of_ble_eq_true rfl) dX8_thrown_21 ⟨Nat.le_of_ble_eq_true rfl, Nat.le_of_ble_eq_true rfl⟩ (fun H locs Z => ?_)
    refine lv_if_ne (tgt := 29) hx hb dX8_thrown_24 (by decide) (fun c5 => ?_) (fun c5 => ?_)
    · have hf := it_f c5 hf
      refine lv_bipush (v := 8) hx hb dX8_thrown_29 (by decide) ?_
      refine lv_iload_n hx hb dX8_thrown_31 rfl (lv_at hl 1 rfl) ?_
      refine lv_imul hx hb dX8_thrown_32 ?_
      refine lv_iload_n hx hb dX8_thrown_33 rfl (lv_at hl 2 rfl) ?_
      refine lv_iadd hx hb dX8_thrown_34 ?_
      refine lv_istore (lv' := [(4, .int (((8 : Int32) * p1) + p2)), (0, .ref (a 0)), (1, .int p1), (2, .int p2), (3, .int p3)]) hx hb dX8_thrown_35 hl (by decide) rfl (fun ls hl => ?_)
      refine lv_iload_n hx hb dX8_thrown_37 rfl (lv_at hl 4 rfl) ?_
      refine lv_if_ne (tgt := 54) hx hb dX8_thrown_38 (by decide) (fun c6 => ?_) (fun c6 => ?_)
      · have hf := it_f c6 hf
        refine lv_iload_n hx hb dX8_thrown_54 rfl (lv_at hl 4 rfl) ?_
        refine lv_iconst (v := 1) hx hb dX8_thrown_55 (by decide) ?_
        refine lv_icmp_ne (tgt := 72) hx hb dX8_thrown_56 (by decide) (fun c7 => ?_) (fun c7 => ?_)
        · have hf := it_f c7 hf
          refine lv_bipush (v := -2) hx hb dX8_thrown_72 (by decide) ?_
          have hR := so_s hf
          subst hR
          refine z_iret X hr hlocks ?_ dX8_thrown_74
          exact Z.eq rfl
        · have hf := it_t c7 hf
          refine lv_aload_n hx hb dX8_thrown_59 rfl (lv_at hl 1 rfl) ?_
          refine zg_X8_7 X Z 0 rfl rfl dX8_thrown_60 ?_
          refine lv_bipush (v := 22) hx hb dX8_thrown_63 (by decide) ?_
          refine lv_iload hx hb dX8_thrown_65 (lv_at hl 0 rfl) ?_
          refine lv_iadd hx hb dX8_thrown_67 ?_
          obtain ⟨i8, hf⟩ := in_s hf
          refine z_ld (j := ((22 : Int32) + (((8 : Int32) * p1) + p2)).toNatClampNeg) X Z 1 rfl i8 rfl dX8_thrown_68 ?_
          refine lv_goto (tgt := 74) hx hb dX8_thrown_69 (by decide) ?_
          have hR := so_s hf
          subst hR
          refine z_iret X hr hlocks ?_ dX8_thrown_74
          exact Z.eq rfl
      · have hf := it_t c6 hf
        refine lv_aload_n hx hb dX8_thrown_41 rfl (lv_at hl 1 rfl) ?_
        refine zg_X8_7 X Z 0 rfl rfl dX8_thrown_42 ?_
        refine lv_bipush (v := 6) hx hb dX8_thrown_45 (by decide) ?_
        refine lv_iload hx hb dX8_thrown_47 (lv_at hl 0 rfl) ?_
        refine lv_iadd hx hb dX8_thrown_49 ?_
        obtain ⟨i9, hf⟩ := in_s hf
        refine z_ld (j := ((6 : Int32) + (((8 : Int32) * p1) + p2)).toNatClampNeg) X Z 1 rfl i9 rfl dX8_thrown_50 ?_
        refine lv_goto (tgt := 74) hx hb dX8_thrown_51 (by decide) ?_
        have hR := so_s hf
        subst hR
        refine z_iret X hr hlocks ?_ dX8_thrown_74
        exact Z.eq rfl
    · have hf := it_t c5 hf
      refine lv_iconst (v := -1) hx hb dX8_thrown_27 (by decide) ?_
      have hR := so_s hf
      subst hR
      refine z_iret X hr hlocks ?_ dX8_thrown_28
      exact Z.eq rfl
def f_X8_count (a_all : (Nat → Int32)) (a_historyLong : Int32) (a_padLong : Int32) (p1 : Int32) : Option (Int32) := if p1 = (0 : Int32) then (some (a_all 39)) else (if p1 = (1 : Int32) then (some (a_all 38)) else (if p1 = (2 : Int32) then ((f_X8_clubs a_all).bind (fun q4 => some q4)) else (if p1 = (3 : Int32) then (some (a_all 44)) else (if p1 = (4 : Int32) then (some (a_all 45)) else (if p1 = (5 : Int32) then (some a_padLong) else (if p1 = (6 : Int32) then (some a_historyLong) else (some (-2 : Int32))))))))
set_option maxHeartbeats 4000000 in
set_option maxRecDepth 100000 in
theorem c_X8_count (l : Launch) (D : va_G) (cI cR : ClassId) (a : (Nat → Nat)) (a_all : (Nat → Int32)) (a_kept : (Nat → Int32)) (a_history : (Nat → Int32)) (a_historyLong : Int32) (a_slots : (Nat → Int32)) (a_isSaved : (Nat → Int32)) (a_pad : (Nat → Int32)) (a_padLong : Int32) (a_readHeight : (Nat → Int32)) (a_readPass : (Nat → Int32)) (a_readMany : Int32) (a_heights : (Nat → Int32)) (a_many : Int32) (a_takes : (Nat → Int32)) (p1 : Int32) {R : Int32} (hf : f_X8_count a_all a_historyLong a_padLong p1 = some R) : zM l D cI cR yX8_count cX8_count 2 (some .int) 2 42 [.ref (a 0), .int p1] [w_X8 cI cR a a_all a_kept a_history a_historyLong a_slots a_isSaved a_pad a_padLong a_readHeight a_readPass a_readMany a_heights a_many a_takes] (some (.int R)) [w_X8 cI cR a a_all a_kept a_history a_historyLong a_slots a_isSaved a_pad a_padLong a_readHeight a_readPass a_readMany a_heights a_many a_takes] := by
  refine z_of (own := RX8) rfl (by decide) (Nat.le_of_ble_eq_true rfl) ?_
  intro p e s m args below meth c A ls X hr hlocks Z hl
  have hx := X.1.1
  have hb := X.1.2.1
  have Z : zW D A s [w_X8 cI cR a a_all a_kept a_history a_historyLong a_slots a_isSaved a_pad a_padLong a_readHeight a_readPass a_readMany a_heights a_many a_takes] s.heap [] := Z
  have hl : lv_has ls 2 [(0, .ref (a 0)), (1, .int p1)] := hl
  refine lv_iload_n hx hb dX8_count_0 rfl (lv_at hl 1 rfl) ?_
  rcases Decidable.em (p1 = (0 : Int32)) with c1 | c1
  · have hf := it_t c1 hf
    refine z_tabIn hx hb 0 c1 (off := 43) (tgt := 44) dX8_count_1 (by decide) (by decide) (by decide) (by decide) ?_
    refine lv_aload_n hx hb dX8_count_44 rfl (lv_at hl 0 rfl) ?_
    refine zg_X8_7 X Z 0 rfl rfl dX8_count_45 ?_
    refine lv_bipush (v := 39) hx hb dX8_count_48 (by decide) ?_
    refine z_ld (j := 39) X Z 1 rfl (by decide) (by decide) dX8_count_50 ?_
    have hR := so_s hf
    subst hR
    refine z_iret X hr hlocks ?_ dX8_count_51
    exact Z.eq rfl
  · have hf := it_f c1 hf
    rcases Decidable.em (p1 = (1 : Int32)) with c2 | c2
    · have hf := it_t c2 hf
      refine z_tabIn hx hb 1 c2 (off := 51) (tgt := 52) dX8_count_1 (by decide) (by decide) (by decide) (by decide) ?_
      refine lv_aload_n hx hb dX8_count_52 rfl (lv_at hl 0 rfl) ?_
      refine zg_X8_7 X Z 0 rfl rfl dX8_count_53 ?_
      refine lv_bipush (v := 38) hx hb dX8_count_56 (by decide) ?_
      refine z_ld (j := 38) X Z 1 rfl (by decide) (by decide) dX8_count_58 ?_
      have hR := so_s hf
      subst hR
      refine z_iret X hr hlocks ?_ dX8_count_59
      exact Z.eq rfl
    · have hf := it_f c2 hf
      rcases Decidable.em (p1 = (2 : Int32)) with c3 | c3
      · have hf := it_t c3 hf
        refine z_tabIn hx hb 2 c3 (off := 59) (tgt := 60) dX8_count_1 (by decide) (by decide) (by decide) (by decide) ?_
        refine lv_aload_n hx hb dX8_count_60 rfl (lv_at hl 0 rfl) ?_
        obtain ⟨q4, hq4, hf⟩ := ob_s hf
        refine z_roV X Z (c_X8_clubs l D cI cR a a_all a_kept a_history a_historyLong a_slots a_isSaved a_pad a_padLong a_readHeight a_readPass a_readMany a_heights a_many a_takes  hq4) (zw_X8_63 X.1.2.2.2.2 ⟨Nat.le_of_ble_eq_true rfl, Nat.le_of_ble_eq_true rfl⟩) 0 8 rfl rfl rfl [0] [] (by decide : ([0] ++ [] : List Nat).Perm (List.range 1)) rfl rfl hl.1 rfl (Nat.le_of_ble_eq_true rfl) dX8_count_61 ⟨Nat.le_of_ble_eq_true rfl, Nat.le_of_ble_eq_true rfl⟩ (fun H locs Z => ?_)
        have hR := so_s hf
        subst hR
        refine z_iret X hr hlocks ?_ dX8_count_64
        exact Z.eq rfl
      · have hf := it_f c3 hf
        rcases Decidable.em (p1 = (3 : Int32)) with c5 | c5
        · have hf := it_t c5 hf
          refine z_tabIn hx hb 3 c5 (off := 64) (tgt := 65) dX8_count_1 (by decide) (by decide) (by decide) (by decide) ?_
          refine lv_aload_n hx hb dX8_count_65 rfl (lv_at hl 0 rfl) ?_
          refine zg_X8_7 X Z 0 rfl rfl dX8_count_66 ?_
          refine lv_bipush (v := 44) hx hb dX8_count_69 (by decide) ?_
          refine z_ld (j := 44) X Z 1 rfl (by decide) (by decide) dX8_count_71 ?_
          have hR := so_s hf
          subst hR
          refine z_iret X hr hlocks ?_ dX8_count_72
          exact Z.eq rfl
        · have hf := it_f c5 hf
          rcases Decidable.em (p1 = (4 : Int32)) with c6 | c6
          · have hf := it_t c6 hf
            refine z_tabIn hx hb 4 c6 (off := 72) (tgt := 73) dX8_count_1 (by decide) (by decide) (by decide) (by decide) ?_
            refine lv_aload_n hx hb dX8_count_73 rfl (lv_at hl 0 rfl) ?_
            refine zg_X8_7 X Z 0 rfl rfl dX8_count_74 ?_
            refine lv_bipush (v := 45) hx hb dX8_count_77 (by decide) ?_
            refine z_ld (j := 45) X Z 1 rfl (by decide) (by decide) dX8_count_79 ?_
            have hR := so_s hf
            subst hR
            refine z_iret X hr hlocks ?_ dX8_count_80
            exact Z.eq rfl
          · have hf := it_f c6 hf
            rcases Decidable.em (p1 = (5 : Int32)) with c7 | c7
            · have hf := it_t c7 hf
              refine z_tabIn hx hb 5 c7 (off := 80) (tgt := 81) dX8_count_1 (by decide) (by decide) (by decide) (by decide) ?_
              refine lv_aload_n hx hb dX8_count_81 rfl (lv_at hl 0 rfl) ?_
              refine zg_X8_87 X Z 0 rfl rfl dX8_count_82 ?_
              have hR := so_s hf
              subst hR
              refine z_iret X hr hlocks ?_ dX8_count_85
              exact Z.eq rfl
            · have hf := it_f c7 hf
              rcases Decidable.em (p1 = (6 : Int32)) with c8 | c8
              · have hf := it_t c8 hf
                refine z_tabIn hx hb 6 c8 (off := 85) (tgt := 86) dX8_count_1 (by decide) (by decide) (by decide) (by decide) ?_
                refine lv_aload_n hx hb dX8_count_86 rfl (lv_at hl 0 rfl) ?_
                refine zg_X8_40 X Z 0 rfl rfl dX8_count_87 ?_
                have hR := so_s hf
                subst hR
                refine z_iret X hr hlocks ?_ dX8_count_90
                exact Z.eq rfl
              · have hf := it_f c8 hf
                refine lv_tableOut (tgt := 91) hx hb dX8_count_1 ?_ (by decide) ?_
                · have e0 := z_ne c1
                  have e1 := z_ne c2
                  have e2 := z_ne c3
                  have e3 := z_ne c5
                  have e4 := z_ne c6
                  have e5 := z_ne c7
                  have e6 := z_ne c8
                  try simp only [show (0 : Int32).toInt = 0 from by decide] at e0
                  try simp only [show (1 : Int32).toInt = 1 from by decide] at e1
                  try simp only [show (2 : Int32).toInt = 2 from by decide] at e2
                  try simp only [show (3 : Int32).toInt = 3 from by decide] at e3
                  try simp only [show (4 : Int32).toInt = 4 from by decide] at e4
                  try simp only [show (5 : Int32).toInt = 5 from by decide] at e5
                  try simp only [show (6 : Int32).toInt = 6 from by decide] at e6
                  omega
                · refine lv_bipush (v := -2) hx hb dX8_count_91 (by decide) ?_
                  have hR := so_s hf
                  subst hR
                  refine z_iret X hr hlocks ?_ dX8_count_93
                  exact Z.eq rfl
