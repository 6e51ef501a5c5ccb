theorem cell_in {L j : Nat} (hL : L ≤ 260) (hj : j < 100) : ¬ Int32.ofNat L ≤ nI j → vp_in (nI j) L := fun h => in_nI (by
    apply Classical.byContradiction
    intro hc
    exact h (nI_le (a := L) (by omega) (by omega))) (by omega)
theorem st_round {Bd : Nat} {S : ST} {len od sz : Int32} (hI : IV Bd S len od sz) (hB : Bd ≤ 99000) (ah : ST) (rs : Nat → ST) : ∃ R : Int32 × ST × ST × (Nat → ST) × Int32 × Int32, f_L_isRound S ah len rs od sz = some R ∧ R.1 = 1 ∧ IV Bd R.2.1 len R.2.2.2.2.1 R.2.2.2.2.2 := by
  obtain ⟨⟨P, k, f, h⟩, ⟨b, hb1, hb⟩, hl, hH⟩ := hI
  obtain ⟨R, e, r1, r2, r3, r4⟩ := st_isRound h hb (by omega) hH ah len rs
  exact ⟨R, e, r1, ⟨P, k, f, r2⟩, ⟨b, hb1, r3⟩, hl, r4⟩
theorem i32_ne {x : Int32} (h : x = 1) : ¬ x = 0 := by rw [h]; decide
set_option maxHeartbeats 8000000 in
set_option maxRecDepth 100000 in
theorem law_tail {p : Program} {l : Launch} {e : Env} {s : State} {m : MethodId} {below : List Frame} {meth : Method} {c : Code} {D : va_G} {cI cR : ClassId} {sb L : Nat} {xs : Nat → Int32} {a : Nat → Nat} (hL : L ≤ 260) {A : Nat → Prop} (hA0 : A = fun q => s.heap.size ≤ q) (X : zX p s m c code 4 #[Value.ref sb] RL D cI cR A) (hO : va_AO "JugglerStates$Scene" s) (hr : meth.sig.returnType = ret) (hlocks : meth.locks = false) (hX : va_X sb L xs s s.heap) (hbl : sb < s.heap.size) {a_now : ST} {a_ahead : ST} {a_pad_codes : (Nat → Int32)} {a_pad_length : Int32} {a_padPattern_heights : (Nat → Int32)} {a_padPattern_length : Int32} {a_ways_steps : (Nat → Int32)} {a_ways_firstThrows : (Nat → Int32)} {a_ways_lastThrows : (Nat → Int32)} {a_ways_reached : (Nat → Int32)} {a_ways_reachedCount : Int32} {a_history_rs : (Nat → ST)} {a_history_oldest : Int32} {a_history_size : Int32} {a_slotZero_kept : ST} {a_slotZero_filled : Int32} {a_slotOne_kept : ST} {a_slotOne_filled : Int32} {H : Heap} {locs : List Loc} {ls : Array Slot} {i : Nat} (hI : IV 900 a_now a_pad_length a_history_oldest a_history_size) (Z : zW D A s [w_X7 cI cR a a_now a_ahead a_pad_codes a_pad_length a_padPattern_heights a_padPattern_length a_ways_steps a_ways_firstThrows a_ways_lastThrows a_ways_reached a_ways_reachedCount a_history_rs a_history_oldest a_history_size a_slotZero_kept a_slotZero_filled a_slotOne_kept a_slotOne_filled] H locs) (hl : lv_has ls 4 [(1, .ref (a 0)), (2, .int 1), (3, .int (nI i)), (0, .ref sb)]) : W p l e room_1 s m #[Value.ref sb] below meth c H locs (832) (18876) (lw_Z below #[Value.ref sb] s) (F0 m 105 ls []) := by
  subst hA0
  have hx := X.1.1
  have hb := X.1.2.1
  have hbA : ¬ (fun q : Nat => s.heap.size ≤ q) sb := Nat.not_le.mpr hbl
  refine lv_iload_n hx hb dL_law_105 rfl (lv_at hl 1 rfl) ?_
  refine lv_if_eq (tgt := 139) hx hb dL_law_106 (by decide) (fun h => absurd h (by decide)) (fun _ => ?_)
  obtain ⟨Q, hQ, q1, hI⟩ := st_round hI (by omega) a_ahead a_history_rs
  refine lv_aload_n hx hb dL_law_109 rfl (lv_at hl 0 rfl) ?_
  refine z_callS X Z (c_L_isRound l D cI cR a a_now a_ahead a_pad_codes a_pad_length a_padPattern_heights a_padPattern_length a_ways_steps a_ways_firstThrows a_ways_lastThrows a_ways_reached a_ways_reachedCount a_history_rs a_history_oldest a_history_size a_slotZero_kept a_slotZero_filled a_slotOne_kept a_slotOne_filled hQ) (zw_L_93 X.1.2.2.2.2 ⟨Nat.le_of_ble_eq_true rfl, Nat.le_of_ble_eq_true rfl⟩) [0] [] [w_X7 cI cR a Q.2.1 Q.2.2.1 a_pad_codes a_pad_length a_padPattern_heights a_padPattern_length a_ways_steps a_ways_firstThrows a_ways_lastThrows a_ways_reached a_ways_reachedCount Q.2.2.2.1 Q.2.2.2.2.1 Q.2.2.2.2.2 a_slotZero_kept a_slotZero_filled a_slotOne_kept a_slotOne_filled] (by decide : ([0] ++ [] : List Nat).Perm (List.range 1)) rfl rfl rfl rfl rfl hl.1 rfl (Nat.le_of_ble_eq_true rfl) dL_law_110 ⟨Nat.le_of_ble_eq_true rfl, Nat.le_of_ble_eq_true rfl⟩ (fun H locs Z => ?_)
  refine lv_if_eq (tgt := 139) hx hb dL_law_113 (by decide) (fun h => absurd h (i32_ne q1)) (fun _ => ?_)
  refine lv_aload_n hx hb dL_law_116 rfl (lv_at hl 0 rfl) ?_
  refine lv_iconst (v := 1) hx hb dL_law_117 (by decide) ?_
  refine lv_aload_n hx hb dL_law_118 rfl (lv_at hl 3 rfl) ?_
  refine lv_bipush (v := 50) hx hb dL_law_119 (by decide) ?_
  refine z_callSS X hX hbl hbA Z (c_L_cell l D cI cR sb L xs 50 (cell_in (j := 50) hL (by omega))) (zw_L_85 X.1.2.2.2.2 ⟨Nat.le_of_ble_eq_true rfl, Nat.le_of_ble_eq_true rfl⟩) rfl hl.1 rfl (Nat.le_of_ble_eq_true rfl) dL_law_121 ⟨Nat.le_of_ble_eq_true rfl, Nat.le_of_ble_eq_true rfl⟩ (fun H locs Z => ?_)
  refine lv_iconst (v := 4) hx hb dL_law_124 (by decide) ?_
  obtain ⟨r, hr4, hup⟩ := up_ok (f_L_cell L xs 50) (m := 4) (by omega) (by omega)
  refine z_roS X Z (c_L_up l D cI cR (f_L_cell L xs 50) 4 hup) (zw_L_9 X.1.2.2.2.2 ⟨Nat.le_of_ble_eq_true rfl, Nat.le_of_ble_eq_true rfl⟩) [] [0] (by decide : ([] ++ [0] : List Nat).Perm (List.range 1)) rfl rfl hl.1 rfl (Nat.le_of_ble_eq_true rfl) dL_law_125 ⟨Nat.le_of_ble_eq_true rfl, Nat.le_of_ble_eq_true rfl⟩ (fun H locs Z => ?_)
  refine lv_iadd hx hb dL_law_128 ?_
  have hcn : f_L_isCounted ((1 : Int32) + nI r) = some 1 := by
    rw [show (1 : Int32) + nI r = nI (1 + r) from nI_add 1 r]
    exact st_isCounted r hr4
  refine z_roS X Z (c_L_isCounted l D cI cR a Q.2.1 Q.2.2.1 a_pad_codes a_pad_length a_padPattern_heights a_padPattern_length a_ways_steps a_ways_firstThrows a_ways_lastThrows a_ways_reached a_ways_reachedCount Q.2.2.2.1 Q.2.2.2.2.1 Q.2.2.2.2.2 a_slotZero_kept a_slotZero_filled a_slotOne_kept a_slotOne_filled ((1 : Int32) + nI r) hcn) (zw_L_101 X.1.2.2.2.2 ⟨Nat.le_of_ble_eq_true rfl, Nat.le_of_ble_eq_true rfl⟩) [0] [] (by decide : ([0] ++ [] : List Nat).Perm (List.range 1)) rfl rfl hl.1 rfl (Nat.le_of_ble_eq_true rfl) dL_law_129 ⟨Nat.le_of_ble_eq_true rfl, Nat.le_of_ble_eq_true rfl⟩ (fun H locs Z => ?_)
  refine lv_if_eq (tgt := 139) hx hb dL_law_132 (by decide) (fun h => absurd h (by decide)) (fun _ => ?_)
  refine lv_iconst (v := 1) hx hb dL_law_135 (by decide) ?_
  refine lv_goto (tgt := 140) hx hb dL_law_136 (by decide) ?_
  refine va_forget (fun q hq => Z.2.2.2.2 q hq) ?_
  refine W.widen (k := 600000) (n := 7302250) (Nat.le_of_ble_eq_true rfl) (Nat.le_of_ble_eq_true rfl) ?_
  exact lw_ret hx hb hr hlocks dL_law_140
set_option maxHeartbeats 8000000 in
set_option maxRecDepth 100000 in
theorem law_loop2 {p : Program} {l : Launch} {e : Env} {s : State} {m : MethodId} {below : List Frame} {meth : Method} {c : Code} {D : va_G} {cI cR : ClassId} {sb L : Nat} {xs : Nat → Int32} {a : Nat → Nat} (hL : L ≤ 260) {A : Nat → Prop} (hA0 : A = fun q => s.heap.size ≤ q) (X : zX p s m c code 4 #[Value.ref sb] RL D cI cR A) (hO : va_AO "JugglerStates$Scene" s) (hr : meth.sig.returnType = ret) (hlocks : meth.locks = false) (hX : va_X sb L xs s s.heap) (hbl : sb < s.heap.size) {a_now : ST} {a_ahead : ST} {a_pad_codes : (Nat → Int32)} {a_pad_length : Int32} {a_padPattern_heights : (Nat → Int32)} {a_padPattern_length : Int32} {a_ways_steps : (Nat → Int32)} {a_ways_firstThrows : (Nat → Int32)} {a_ways_lastThrows : (Nat → Int32)} {a_ways_reached : (Nat → Int32)} {a_ways_reachedCount : Int32} {a_history_rs : (Nat → ST)} {a_history_oldest : Int32} {a_history_size : Int32} {a_slotZero_kept : ST} {a_slotZero_filled : Int32} {a_slotOne_kept : ST} {a_slotOne_filled : Int32} (hI : IV 900 a_now a_pad_length a_history_oldest a_history_size) :
    ∀ (r j i : Nat) {H : Heap} {locs : List Loc} {ls : Array Slot}, j + r = 4 → i = 44 + j → zW D A s [w_X7 cI cR a a_now a_ahead a_pad_codes a_pad_length a_padPattern_heights a_padPattern_length a_ways_steps a_ways_firstThrows a_ways_lastThrows a_ways_reached a_ways_reachedCount a_history_rs a_history_oldest a_history_size a_slotZero_kept a_slotZero_filled a_slotOne_kept a_slotOne_filled] H locs → lv_has ls 4 [(1, .ref (a 0)), (2, .int 1), (3, .int (nI i)), (0, .ref sb)] → W p l e room_1 s m #[Value.ref sb] below meth c H locs (64 + 192 * j) (1452 + 4356 * j) (lw_Z below #[Value.ref sb] s) (F0 m 71 ls []) := by
  subst hA0
  have hx := X.1.1
  have hb := X.1.2.1
  have hbA : ¬ (fun q : Nat => s.heap.size ≤ q) sb := Nat.not_le.mpr hbl
  intro r
  induction r with
  | zero =>
    intro j i H locs ls h1 h2 Z hl
    obtain rfl : j = 4 := by omega
    subst h2
    refine lv_iload_n hx hb dL_law_71 rfl (lv_at hl 2 rfl) ?_
    refine lv_bipush (v := 48) hx hb dL_law_72 (by decide) ?_
    refine lv_icmp_ge (tgt := 105) hx hb dL_law_74 (by decide) (fun _ => ?_) (fun h => absurd (show (48 : Int32) ≤ nI (44 + 4) by decide) h)
    exact law_tail hL rfl X hO hr hlocks hX hbl hI Z hl
  | succ r ih =>
    intro j i H locs ls h1 h2 Z hl
    have h44 : i < 48 := by omega
    have hf : 64 + 192 * j ≤ room_1.cells ∧ 1452 + 4356 * j ≤ room_1.slots := ⟨by show 64 + 192 * j ≤ 600000; omega, by show 1452 + 4356 * j ≤ 7302250; omega⟩
    have hg : 64 + 192 * j + 192 ≤ room_1.cells ∧ 1452 + 4356 * j + 4356 ≤ room_1.slots := ⟨by show 64 + 192 * j + 192 ≤ 600000; omega, by show 1452 + 4356 * j + 4356 ≤ 7302250; omega⟩
    refine lv_iload_n hx hb dL_law_71 rfl (lv_at hl 2 rfl) ?_
    refine lv_bipush (v := 48) hx hb dL_law_72 (by decide) ?_
    refine lv_icmp_ge (tgt := 105) hx hb dL_law_74 (by decide) (fun h => absurd h (show ¬ (48 : Int32) ≤ nI i from ge_lit (m := 48) h44 (by decide))) (fun _ => ?_)
    refine lv_iload_n hx hb dL_law_77 rfl (lv_at hl 1 rfl) ?_
    refine lv_if_eq (tgt := 105) hx hb dL_law_78 (by decide) (fun h => absurd h (by decide)) (fun _ => ?_)
    refine lv_aload_n hx hb dL_law_81 rfl (lv_at hl 3 rfl) ?_
    refine lv_iload_n hx hb dL_law_82 rfl (lv_at hl 2 rfl) ?_
    refine z_callSS X hX hbl hbA Z (c_L_cell l D cI cR sb L xs (nI i) (cell_in hL (by omega))) (zw_L_85 X.1.2.2.2.2 ⟨Nat.le_of_ble_eq_true rfl, Nat.le_of_ble_eq_true rfl⟩) rfl hl.1 rfl (Nat.le_of_ble_eq_true rfl) dL_law_83 hf (fun H locs Z => ?_)
    refine lv_aload_n hx hb dL_law_86 rfl (lv_at hl 3 rfl) ?_
    refine lv_iload_n hx hb dL_law_87 rfl (lv_at hl 2 rfl) ?_
    refine lv_iconst (v := 1) hx hb dL_law_88 (by decide) ?_
    refine lv_iadd hx hb dL_law_89 ?_
    refine z_callSS X hX hbl hbA Z (c_L_cell l D cI cR sb L xs (nI i + 1) (by rw [nI_1]; exact cell_in hL (by omega))) (zw_L_85 X.1.2.2.2.2 ⟨Nat.le_of_ble_eq_true rfl, Nat.le_of_ble_eq_true rfl⟩) rfl hl.1 rfl (Nat.le_of_ble_eq_true rfl) dL_law_90 hf (fun H locs Z => ?_)
    refine lv_iconst (v := 2) hx hb dL_law_93 (by decide) ?_
    refine lv_ishr hx hb dL_law_94 ?_
    refine z_callST X hO Z (c_L_isThrown l D cI cR (f_L_cell L xs (nI i)) (f_L_cell L xs (nI i + 1) >>> ((2 : Int32) &&& 31)) (st_isThrown _ _)) (zwT_L_97 X.1.2.2.2.2 ⟨Nat.le_of_ble_eq_true rfl, Nat.le_of_ble_eq_true rfl⟩) [] [0] [w_X7 cI cR a a_now a_ahead a_pad_codes a_pad_length a_padPattern_heights a_padPattern_length a_ways_steps a_ways_firstThrows a_ways_lastThrows a_ways_reached a_ways_reachedCount a_history_rs a_history_oldest a_history_size a_slotZero_kept a_slotZero_filled a_slotOne_kept a_slotOne_filled] (by decide : ([] ++ [0] : List Nat).Perm (List.range 1)) rfl rfl rfl rfl rfl hl.1 rfl (Nat.le_of_ble_eq_true rfl) dL_law_95 hg (fun H locs Z => ?_)
    refine lv_istore_n (lv' := [(2, .int 1), (1, .ref (a 0)), (3, .int (nI i)), (0, .ref sb)]) hx hb dL_law_98 rfl hl (by decide) rfl (fun ls hl => ?_)
    refine lv_iinc (v := nI i + (1 : Int32)) (lv' := [(3, .int (nI i + (1 : Int32))), (2, .int 1), (1, .ref (a 0)), (0, .ref sb)]) hx hb dL_law_99 hl (k := 2) rfl rfl (by decide) rfl (fun ls hl => ?_)
    refine lv_goto (tgt := 71) hx hb dL_law_102 (by decide) ?_
    rw [nI_1] at hl
    refine W.widen (k := 64 + 192 * (j + 1)) (n := 1452 + 4356 * (j + 1)) (by omega) (by omega) ?_
    exact ih (j + 1) (i + 1) (by omega) (by omega) Z (lv_sub hl [2, 1, 0, 3] rfl)
set_option maxHeartbeats 8000000 in
set_option maxRecDepth 100000 in
theorem law_loop1 {p : Program} {l : Launch} {e : Env} {s : State} {m : MethodId} {below : List Frame} {meth : Method} {c : Code} {D : va_G} {cI cR : ClassId} {sb L : Nat} {xs : Nat → Int32} {a : Nat → Nat} (hL : L ≤ 260) {A : Nat → Prop} (hA0 : A = fun q => s.heap.size ≤ q) (X : zX p s m c code 4 #[Value.ref sb] RL D cI cR A) (hO : va_AO "JugglerStates$Scene" s) (hr : meth.sig.returnType = ret) (hlocks : meth.locks = false) (hX : va_X sb L xs s s.heap) (hbl : sb < s.heap.size) :
    ∀ (r i : Nat) {a_now : ST} {a_ahead : ST} {a_pad_codes : (Nat → Int32)} {a_pad_length : Int32} {a_padPattern_heights : (Nat → Int32)} {a_padPattern_length : Int32} {a_ways_steps : (Nat → Int32)} {a_ways_firstThrows : (Nat → Int32)} {a_ways_lastThrows : (Nat → Int32)} {a_ways_reached : (Nat → Int32)} {a_ways_reachedCount : Int32} {a_history_rs : (Nat → ST)} {a_history_oldest : Int32} {a_history_size : Int32} {a_slotZero_kept : ST} {a_slotZero_filled : Int32} {a_slotOne_kept : ST} {a_slotOne_filled : Int32} {H : Heap} {locs : List Loc} {ls : Array Slot}, i + r = 44 → IV (20 * i) a_now a_pad_length a_history_oldest a_history_size → zW D A s [w_X7 cI cR a a_now a_ahead a_pad_codes a_pad_length a_padPattern_heights a_padPattern_length a_ways_steps a_ways_firstThrows a_ways_lastThrows a_ways_reached a_ways_reachedCount a_history_rs a_history_oldest a_history_size a_slotZero_kept a_slotZero_filled a_slotOne_kept a_slotOne_filled] H locs → lv_has ls 4 [(1, .ref (a 0)), (2, .int 1), (3, .int (nI i)), (0, .ref sb)] → W p l e room_1 s m #[Value.ref sb] below meth c H locs (64) (1452) (lw_Z below #[Value.ref sb] s) (F0 m 12 ls []) := by
  subst hA0
  have hx := X.1.1
  have hb := X.1.2.1
  have hbA : ¬ (fun q : Nat => s.heap.size ≤ q) sb := Nat.not_le.mpr hbl
  intro r
  induction r with
  | zero =>
    intro i a_now a_ahead a_pad_codes a_pad_length a_padPattern_heights a_padPattern_length a_ways_steps a_ways_firstThrows a_ways_lastThrows a_ways_reached a_ways_reachedCount a_history_rs a_history_oldest a_history_size a_slotZero_kept a_slotZero_filled a_slotOne_kept a_slotOne_filled H locs ls h1 hI Z hl
    obtain rfl : i = 44 := by omega
    refine lv_iload_n hx hb dL_law_12 rfl (lv_at hl 2 rfl) ?_
    refine lv_bipush (v := 44) hx hb dL_law_13 (by decide) ?_
    refine lv_icmp_ge (tgt := 68) hx hb dL_law_15 (by decide) (fun _ => ?_) (fun h => absurd (show (44 : Int32) ≤ nI 44 by decide) h)
    refine lv_bipush (v := 44) hx hb dL_law_68 (by decide) ?_
    refine lv_istore_n (lv' := [(3, .int (nI 44)), (1, .ref (a 0)), (2, .int 1), (0, .ref sb)]) hx hb dL_law_70 rfl hl (by decide) rfl (fun ls hl => ?_)
    exact law_loop2 hL rfl X hO hr hlocks hX hbl (hI.mono (by omega)) 4 0 44 (by omega) (by omega) Z (lv_sub hl [1, 2, 0, 3] rfl)
  | succ r ih =>
    intro i a_now a_ahead a_pad_codes a_pad_length a_padPattern_heights a_padPattern_length a_ways_steps a_ways_firstThrows a_ways_lastThrows a_ways_reached a_ways_reachedCount a_history_rs a_history_oldest a_history_size a_slotZero_kept a_slotZero_filled a_slotOne_kept a_slotOne_filled H locs ls h1 hI Z hl
    have h44 : i < 44 := by omega
    refine lv_iload_n hx hb dL_law_12 rfl (lv_at hl 2 rfl) ?_
    refine lv_bipush (v := 44) hx hb dL_law_13 (by decide) ?_
    refine lv_icmp_ge (tgt := 68) hx hb dL_law_15 (by decide) (fun h => absurd h (show ¬ (44 : Int32) ≤ nI i from ge_lit (m := 44) h44 (by decide))) (fun _ => ?_)
    refine lv_iload_n hx hb dL_law_18 rfl (lv_at hl 1 rfl) ?_
    refine lv_if_eq (tgt := 68) hx hb dL_law_19 (by decide) (fun h => absurd h (by decide)) (fun _ => ?_)
    refine lv_aload_n hx hb dL_law_22 rfl (lv_at hl 0 rfl) ?_
    refine lv_aload_n hx hb dL_law_23 rfl (lv_at hl 3 rfl) ?_
    refine lv_iload_n hx hb dL_law_24 rfl (lv_at hl 2 rfl) ?_
    refine z_callSS X hX hbl hbA Z (c_L_cell l D cI cR sb L xs (nI i) (cell_in hL (by omega))) (zw_L_85 X.1.2.2.2.2 ⟨Nat.le_of_ble_eq_true rfl, Nat.le_of_ble_eq_true rfl⟩) rfl hl.1 rfl (Nat.le_of_ble_eq_true rfl) dL_law_25 ⟨Nat.le_of_ble_eq_true rfl, Nat.le_of_ble_eq_true rfl⟩ (fun H locs Z => ?_)
    refine lv_aload_n hx hb dL_law_28 rfl (lv_at hl 3 rfl) ?_
    refine lv_iload_n hx hb dL_law_29 rfl (lv_at hl 2 rfl) ?_
    refine lv_iconst (v := 1) hx hb dL_law_30 (by decide) ?_
    refine lv_iadd hx hb dL_law_31 ?_
    refine z_callSS X hX hbl hbA Z (c_L_cell l D cI cR sb L xs (nI i + 1) (by rw [nI_1]; exact cell_in hL (by omega))) (zw_L_85 X.1.2.2.2.2 ⟨Nat.le_of_ble_eq_true rfl, Nat.le_of_ble_eq_true rfl⟩) rfl hl.1 rfl (Nat.le_of_ble_eq_true rfl) dL_law_32 ⟨Nat.le_of_ble_eq_true rfl, Nat.le_of_ble_eq_true rfl⟩ (fun H locs Z => ?_)
    refine lv_iconst (v := 3) hx hb dL_law_35 (by decide) ?_
    refine lv_ishr hx hb dL_law_36 ?_
    obtain ⟨R, hR, r1, hI1⟩ := st_isStep hI (by omega) a_ahead a_pad_codes a_history_rs (f_L_cell L xs (nI i)) (f_L_cell L xs (nI i + 1) >>> ((3 : Int32) &&& 31))
    refine z_callS X Z (c_L_isStep l D cI cR a a_now a_ahead a_pad_codes a_pad_length a_padPattern_heights a_padPattern_length a_ways_steps a_ways_firstThrows a_ways_lastThrows a_ways_reached a_ways_reachedCount a_history_rs a_history_oldest a_history_size a_slotZero_kept a_slotZero_filled a_slotOne_kept a_slotOne_filled (f_L_cell L xs (nI i)) (f_L_cell L xs (nI i + 1) >>> ((3 : Int32) &&& 31)) hR) (zw_L_89 X.1.2.2.2.2 ⟨Nat.le_of_ble_eq_true rfl, Nat.le_of_ble_eq_true rfl⟩) [0] [] [w_X7 cI cR a R.2.1 R.2.2.1 R.2.2.2.1 R.2.2.2.2.1 a_padPattern_heights a_padPattern_length a_ways_steps a_ways_firstThrows a_ways_lastThrows a_ways_reached a_ways_reachedCount R.2.2.2.2.2.1 R.2.2.2.2.2.2.1 R.2.2.2.2.2.2.2 a_slotZero_kept a_slotZero_filled a_slotOne_kept a_slotOne_filled] (by decide : ([0] ++ [] : List Nat).Perm (List.range 1)) rfl rfl rfl rfl rfl hl.1 rfl (Nat.le_of_ble_eq_true rfl) dL_law_37 ⟨Nat.le_of_ble_eq_true rfl, Nat.le_of_ble_eq_true rfl⟩ (fun H locs Z => ?_)
    refine lv_if_eq (tgt := 60) hx hb dL_law_40 (by decide) (fun h => absurd h (i32_ne r1)) (fun _ => ?_)
    refine lv_iload_n hx hb dL_law_43 rfl (lv_at hl 2 rfl) ?_
    refine lv_iconst (v := 4) hx hb dL_law_44 (by decide) ?_
    refine lv_irem hx hb dL_law_45 (by decide) ?_
    refine lv_if_gt (tgt := 56) hx hb dL_law_46 (by decide) (fun _ => ?_) (fun _ => ?_)
    · refine lv_iconst (v := 1) hx hb dL_law_56 (by decide) ?_
      refine lv_goto (tgt := 61) hx hb dL_law_57 (by decide) ?_
      refine lv_istore_n (lv' := [(2, .int 1), (1, .ref (a 0)), (3, .int (nI i)), (0, .ref sb)]) hx hb dL_law_61 rfl hl (by decide) rfl (fun ls hl => ?_)
      refine lv_iinc (v := nI i + (1 : Int32)) (lv' := [(3, .int (nI i + (1 : Int32))), (2, .int 1), (1, .ref (a 0)), (0, .ref sb)]) hx hb dL_law_62 hl (k := 2) rfl rfl (by decide) rfl (fun ls hl => ?_)
      refine lv_goto (tgt := 12) hx hb dL_law_65 (by decide) ?_
      rw [nI_1] at hl
      exact ih (i + 1) (by omega) (hI1.mono (by omega)) Z (lv_sub hl [2, 1, 0, 3] rfl)
    · obtain ⟨Q, hQ, q1, hI2⟩ := st_round hI1 (by omega) R.2.2.1 R.2.2.2.2.2.1
      refine lv_aload_n hx hb dL_law_49 rfl (lv_at hl 0 rfl) ?_
      refine z_callS X Z (c_L_isRound l D cI cR a R.2.1 R.2.2.1 R.2.2.2.1 R.2.2.2.2.1 a_padPattern_heights a_padPattern_length a_ways_steps a_ways_firstThrows a_ways_lastThrows a_ways_reached a_ways_reachedCount R.2.2.2.2.2.1 R.2.2.2.2.2.2.1 R.2.2.2.2.2.2.2 a_slotZero_kept a_slotZero_filled a_slotOne_kept a_slotOne_filled hQ) (zw_L_93 X.1.2.2.2.2 ⟨Nat.le_of_ble_eq_true rfl, Nat.le_of_ble_eq_true rfl⟩) [0] [] [w_X7 cI cR a Q.2.1 Q.2.2.1 R.2.2.2.1 R.2.2.2.2.1 a_padPattern_heights a_padPattern_length a_ways_steps a_ways_firstThrows a_ways_lastThrows a_ways_reached a_ways_reachedCount Q.2.2.2.1 Q.2.2.2.2.1 Q.2.2.2.2.2 a_slotZero_kept a_slotZero_filled a_slotOne_kept a_slotOne_filled] (by decide : ([0] ++ [] : List Nat).Perm (List.range 1)) rfl rfl rfl rfl rfl hl.1 rfl (Nat.le_of_ble_eq_true rfl) dL_law_50 ⟨Nat.le_of_ble_eq_true rfl, Nat.le_of_ble_eq_true rfl⟩ (fun H locs Z => ?_)
      refine lv_if_eq (tgt := 60) hx hb dL_law_53 (by decide) (fun h => absurd h (i32_ne q1)) (fun _ => ?_)
      refine lv_iconst (v := 1) hx hb dL_law_56 (by decide) ?_
      refine lv_goto (tgt := 61) hx hb dL_law_57 (by decide) ?_
      refine lv_istore_n (lv' := [(2, .int 1), (1, .ref (a 0)), (3, .int (nI i)), (0, .ref sb)]) hx hb dL_law_61 rfl hl (by decide) rfl (fun ls hl => ?_)
      refine lv_iinc (v := nI i + (1 : Int32)) (lv' := [(3, .int (nI i + (1 : Int32))), (2, .int 1), (1, .ref (a 0)), (0, .ref sb)]) hx hb dL_law_62 hl (k := 2) rfl rfl (by decide) rfl (fun ls hl => ?_)
      refine lv_goto (tgt := 12) hx hb dL_law_65 (by decide) ?_
      rw [nI_1] at hl
      exact ih (i + 1) (by omega) (hI2.mono (by omega)) Z (lv_sub hl [2, 1, 0, 3] rfl)
