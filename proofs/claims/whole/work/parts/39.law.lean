theorem law_in {L i : Nat} {x3 : Int32} (hL : L ≤ 2048) (hi : i ≤ L) (ex3 : x3 = nI i) (c0 : ¬ Int32.ofNat L - (4 : Int32) < x3) : vp_in x3 L ∧ vp_in (x3 + (1 : Int32)) L ∧ vp_in (x3 + (2 : Int32)) L ∧ vp_in (x3 + (3 : Int32)) L ∧ x3 + (4 : Int32) = nI (i + 4) ∧ i + 4 ≤ L := by
  subst ex3
  have hle : i + 4 ≤ L := by
    apply Classical.byContradiction
    intro hc
    apply c0
    show nI L - nI 4 < nI i
    rw [fa_lt, pk_sub_toInt (by omega) (by omega), nI_toInt (by omega)]
    omega
  have h1 : nI i + (1 : Int32) = nI (i + 1) := nI_1 i
  have h2 : nI i + (2 : Int32) = nI (i + 2) := nI_add i 2
  have h3 : nI i + (3 : Int32) = nI (i + 3) := nI_add i 3
  have h4 : nI i + (4 : Int32) = nI (i + 4) := nI_add i 4
  rw [h1, h2, h3]
  exact ⟨in_nI (by omega) (by omega), in_nI (by omega) (by omega), in_nI (by omega) (by omega), in_nI (by omega) (by omega), h4, hle⟩
set_option maxHeartbeats 8000000 in
set_option maxRecDepth 100000 in
theorem law_loop {p : Program} {l : Launch} {e : Env} {s : State} {m : MethodId} {below : List Frame} {meth : Method} {c : Code} {D : va_G} {cI cR : ClassId} {sb L : Nat} {xs : Nat → Int32} {a b : Nat → Nat} (hL : L ≤ 2048) {A : Nat → Prop} (hA0 : A = fun q => s.heap.size ≤ q) (X : zX p s m c code 4 #[Value.ref sb] RL D cI cR A) (hr : meth.sig.returnType = ret) (hlocks : meth.locks = false) (hX : va_X sb L xs s s.heap) (hbl : sb < s.heap.size) :
    ∀ (n i : Nat) (x3 : Int32) {a_now : ST} {a_ahead : ST} {a_pad_codes : (Nat → Int32)} {a_pad_length : Int32} {a_padPattern_heights : (Nat → Int32)} {a_padPattern_length : Int32} {a_ways_steps : (Nat → Int32)} {a_ways_firstThrows : (Nat → Int32)} {a_ways_lastThrows : (Nat → Int32)} {a_ways_reached : (Nat → Int32)} {a_ways_reachedCount : Int32} {a_history_rs : (Nat → ST)} {a_history_oldest : Int32} {a_history_size : Int32} {a_slotZero_kept : ST} {a_slotZero_filled : Int32} {a_slotOne_kept : ST} {a_slotOne_filled : Int32} {b_all : (Nat → Int32)} {b_kept : (Nat → Int32)} {b_history : (Nat → Int32)} {b_historyLong : Int32} {b_slots : (Nat → Int32)} {b_isSaved : (Nat → Int32)} {b_pad : (Nat → Int32)} {b_padLong : Int32} {b_readHeight : (Nat → Int32)} {b_readPass : (Nat → Int32)} {b_readMany : Int32} {b_heights : (Nat → Int32)} {b_many : Int32} {b_takes : (Nat → Int32)} {H : Heap} {locs : List Loc} {ls : Array Slot}, i ≤ L → L + 1 ≤ i + n → x3 = nI i → Rs a_now b_all → RH a_history_rs a_history_oldest a_history_size b_history b_historyLong → RS a_slotZero_kept a_slotZero_filled a_slotOne_kept a_slotOne_filled b_slots b_isSaved → RP a_pad_codes a_pad_length b_pad b_padLong → zW D A s [w_X7 cI cR a a_now a_ahead a_pad_codes a_pad_length a_padPattern_heights a_padPattern_length a_ways_steps a_ways_firstThrows a_ways_lastThrows a_ways_reached a_ways_reachedCount a_history_rs a_history_oldest a_history_size a_slotZero_kept a_slotZero_filled a_slotOne_kept a_slotOne_filled, w_X8 cI cR b b_all b_kept b_history b_historyLong b_slots b_isSaved b_pad b_padLong b_readHeight b_readPass b_readMany b_heights b_many b_takes] H locs → lv_has ls 4 [(0, .ref sb), (1, .ref (a 0)), (2, .ref (b 0)), (3, .int x3)] → W p l e room_1 s m #[Value.ref sb] below meth c H locs 75 2238 (lw_Z below #[Value.ref sb] s) (F0 m 18 ls []) := by
  subst hA0
  have hx := X.1.1
  have hb := X.1.2.1
  have hbA : ¬ (fun q : Nat => s.heap.size ≤ q) sb := Nat.not_le.mpr hbl
  intro n
  induction n with
  | zero =>
    intro i x3 a_now a_ahead a_pad_codes a_pad_length a_padPattern_heights a_padPattern_length a_ways_steps a_ways_firstThrows a_ways_lastThrows a_ways_reached a_ways_reachedCount a_history_rs a_history_oldest a_history_size a_slotZero_kept a_slotZero_filled a_slotOne_kept a_slotOne_filled b_all b_kept b_history b_historyLong b_slots b_isSaved b_pad b_padLong b_readHeight b_readPass b_readMany b_heights b_many b_takes H locs ls h1 h2
    exact absurd h2 (by omega)
  | succ n ih =>
    intro i x3 a_now a_ahead a_pad_codes a_pad_length a_padPattern_heights a_padPattern_length a_ways_steps a_ways_firstThrows a_ways_lastThrows a_ways_reached a_ways_reachedCount a_history_rs a_history_oldest a_history_size a_slotZero_kept a_slotZero_filled a_slotOne_kept a_slotOne_filled b_all b_kept b_history b_historyLong b_slots b_isSaved b_pad b_padLong b_readHeight b_readPass b_readMany b_heights b_many b_takes H locs ls hi hin ex3 hA hH hS0 hPd Z hl
    refine lv_iload_n hx hb dL_law_18 rfl (lv_at hl 3 rfl) ?_
    refine lv_aload_n hx hb dL_law_19 rfl (lv_at hl 0 rfl) ?_
    refine va_slen hx hb hX hbl hbA Z.2.2 dL_law_20 ?_
    refine lv_iconst (v := 4) hx hb dL_law_21 (by decide) ?_
    refine lv_isub hx hb dL_law_22 ?_
    refine lv_icmp_gt (tgt := 691) hx hb dL_law_23 (by decide) (fun c0 => ?_) (fun c0 => ?_)
    · refine lv_iconst (v := 1) hx hb dL_law_691 (by decide) ?_
      refine va_forget (fun q hq => Z.2.2.2.2 q hq) ?_
      refine W.widen (k := 600000) (n := 7302249) (Nat.le_of_ble_eq_true rfl) (Nat.le_of_ble_eq_true rfl) ?_
      exact lw_ret hx hb hr hlocks dL_law_692
    · obtain ⟨hin0, hin1, hin2, hin3, hi4, hle⟩ := law_in hL hi ex3 c0
      refine lv_aload_n hx hb dL_law_26 rfl (lv_at hl 0 rfl) ?_
      refine lv_iload_n hx hb dL_law_27 rfl (lv_at hl 3 rfl) ?_
      refine va_sld hx hb hX hbl hbA Z.2.2 hin0 dL_law_28 ?_
      refine lv_bipush (v := 31) hx hb dL_law_29 (by decide) ?_
      refine lv_iand hx hb dL_law_31 ?_
      rcases Decidable.em (((xs x3.toNatClampNeg) &&& (31 : Int32)) = (0 : Int32)) with k0 | k0
      · refine z_tabIn hx hb 0 k0 (off := 100) (tgt := 132) dL_law_32 (by decide) (by decide) (by decide) (by decide) ?_
        obtain ⟨R1, R2, hR1, hR2, heq, nA, nH⟩ := st_start (a_now := a_now) (a_history_rs := a_history_rs) (a_history_oldest := a_history_oldest) (a_history_size := a_history_size) (b_all := b_all) (b_kept := b_kept) (b_history := b_history) (b_historyLong := b_historyLong) hA hH (xs (x3 + (1 : Int32)).toNatClampNeg) (xs (x3 + (2 : Int32)).toNatClampNeg)
        refine lv_aload_n hx hb dL_law_132 rfl (lv_at hl 1 rfl) ?_
        refine lv_aload_n hx hb dL_law_133 rfl (lv_at hl 0 rfl) ?_
        refine lv_iload_n hx hb dL_law_134 rfl (lv_at hl 3 rfl) ?_
        refine lv_iconst (v := 1) hx hb dL_law_135 (by decide) ?_
        refine lv_iadd hx hb dL_law_136 ?_
        refine va_sld hx hb hX hbl hbA Z.2.2 hin1 dL_law_137 ?_
        refine lv_aload_n hx hb dL_law_138 rfl (lv_at hl 0 rfl) ?_
        refine lv_iload_n hx hb dL_law_139 rfl (lv_at hl 3 rfl) ?_
        refine lv_iconst (v := 2) hx hb dL_law_140 (by decide) ?_
        refine lv_iadd hx hb dL_law_141 ?_
        refine va_sld hx hb hX hbl hbA Z.2.2 hin2 dL_law_142 ?_
        refine z_callV X Z (c_X7_start l D cI cR a a_now a_ahead a_pad_codes a_pad_length a_padPattern_heights a_padPattern_length a_ways_steps a_ways_firstThrows a_ways_lastThrows a_ways_reached a_ways_reachedCount a_history_rs a_history_oldest a_history_size a_slotZero_kept a_slotZero_filled a_slotOne_kept a_slotOne_filled (xs (x3 + (1 : Int32)).toNatClampNeg) (xs (x3 + (2 : Int32)).toNatClampNeg) hR1) (zw_L_13 X.1.2.2.2.2 ⟨Nat.le_of_ble_eq_true rfl, Nat.le_of_ble_eq_true rfl⟩) 0 7 rfl rfl rfl [0] [1] [w_X7 cI cR a R1.2.1 a_ahead a_pad_codes a_pad_length a_padPattern_heights a_padPattern_length a_ways_steps a_ways_firstThrows a_ways_lastThrows a_ways_reached a_ways_reachedCount R1.2.2.1 R1.2.2.2.1 R1.2.2.2.2 a_slotZero_kept a_slotZero_filled a_slotOne_kept a_slotOne_filled, w_X8 cI cR b b_all b_kept b_history b_historyLong b_slots b_isSaved b_pad b_padLong b_readHeight b_readPass b_readMany b_heights b_many b_takes] (by decide : ([0] ++ [1] : List Nat).Perm (List.range 2)) rfl rfl rfl rfl rfl hl.1 rfl (Nat.le_of_ble_eq_true rfl) dL_law_143 ⟨Nat.le_of_ble_eq_true rfl, Nat.le_of_ble_eq_true rfl⟩ (fun H locs Z => ?_)
        refine lv_aload_n hx hb dL_law_146 rfl (lv_at hl 2 rfl) ?_
        refine lv_aload_n hx hb dL_law_147 rfl (lv_at hl 0 rfl) ?_
        refine lv_iload_n hx hb dL_law_148 rfl (lv_at hl 3 rfl) ?_
        refine lv_iconst (v := 1) hx hb dL_law_149 (by decide) ?_
        refine lv_iadd hx hb dL_law_150 ?_
        refine va_sld hx hb hX hbl hbA Z.2.2 hin1 dL_law_151 ?_
        refine lv_aload_n hx hb dL_law_152 rfl (lv_at hl 0 rfl) ?_
        refine lv_iload_n hx hb dL_law_153 rfl (lv_at hl 3 rfl) ?_
        refine lv_iconst (v := 2) hx hb dL_law_154 (by decide) ?_
        refine lv_iadd hx hb dL_law_155 ?_
        refine va_sld hx hb hX hbl hbA Z.2.2 hin2 dL_law_156 ?_
        refine z_callV X Z (c_X8_start l D cI cR b b_all b_kept b_history b_historyLong b_slots b_isSaved b_pad b_padLong b_readHeight b_readPass b_readMany b_heights b_many b_takes (xs (x3 + (1 : Int32)).toNatClampNeg) (xs (x3 + (2 : Int32)).toNatClampNeg) hR2) (zw_L_17 X.1.2.2.2.2 ⟨Nat.le_of_ble_eq_true rfl, Nat.le_of_ble_eq_true rfl⟩) 64 8 rfl rfl rfl [1] [0] [w_X7 cI cR a R1.2.1 a_ahead a_pad_codes a_pad_length a_padPattern_heights a_padPattern_length a_ways_steps a_ways_firstThrows a_ways_lastThrows a_ways_reached a_ways_reachedCount R1.2.2.1 R1.2.2.2.1 R1.2.2.2.2 a_slotZero_kept a_slotZero_filled a_slotOne_kept a_slotOne_filled, w_X8 cI cR b R2.2.1 R2.2.2.1 R2.2.2.2.1 R2.2.2.2.2 b_slots b_isSaved b_pad b_padLong b_readHeight b_readPass b_readMany b_heights b_many b_takes] (by decide : ([1] ++ [0] : List Nat).Perm (List.range 2)) rfl rfl rfl rfl rfl hl.1 rfl (Nat.le_of_ble_eq_true rfl) dL_law_157 ⟨Nat.le_of_ble_eq_true rfl, Nat.le_of_ble_eq_true rfl⟩ (fun H locs Z => ?_)
        have hA := nA
        have hH := nH
        refine lv_icmp_eq (tgt := 685) hx hb dL_law_160 (by decide) (fun _ => ?_) (fun c0 => absurd heq c0)
        refine lv_iinc (v := x3 + (4 : Int32)) (lv' := [(3, .int (x3 + (4 : Int32))), (0, .ref sb), (1, .ref (a 0)), (2, .ref (b 0))]) hx hb dL_law_685 hl (k := 3) rfl rfl (by decide) rfl (fun ls hl => ?_)
        refine lv_goto (tgt := 18) hx hb dL_law_688 (by decide) ?_
        exact ih (i + 4) _ (by omega) (by omega) (hi4) hA hH hS0 hPd Z (lv_sub hl [1, 2, 3, 0] rfl)
      · rcases Decidable.em (((xs x3.toNatClampNeg) &&& (31 : Int32)) = (1 : Int32)) with k1 | k1
        · refine z_tabIn hx hb 1 k1 (off := 133) (tgt := 165) dL_law_32 (by decide) (by decide) (by decide) (by decide) ?_
          obtain ⟨R1, R2, hR1, hR2, heq, nA, nH, nP⟩ := st_read (a_now := a_now) (a_pad_codes := a_pad_codes) (a_pad_length := a_pad_length) (a_history_rs := a_history_rs) (a_history_oldest := a_history_oldest) (a_history_size := a_history_size) (b_all := b_all) (b_kept := b_kept) (b_history := b_history) (b_historyLong := b_historyLong) (b_pad := b_pad) (b_padLong := b_padLong) (b_readHeight := b_readHeight) (b_readPass := b_readPass) (b_readMany := b_readMany) hA hH hPd
          refine lv_aload_n hx hb dL_law_165 rfl (lv_at hl 1 rfl) ?_
          refine z_callV X Z (c_X7_read l D cI cR a a_now a_ahead a_pad_codes a_pad_length a_padPattern_heights a_padPattern_length a_ways_steps a_ways_firstThrows a_ways_lastThrows a_ways_reached a_ways_reachedCount a_history_rs a_history_oldest a_history_size a_slotZero_kept a_slotZero_filled a_slotOne_kept a_slotOne_filled  hR1) (zw_L_18 X.1.2.2.2.2 ⟨Nat.le_of_ble_eq_true rfl, Nat.le_of_ble_eq_true rfl⟩) 0 7 rfl rfl rfl [0] [1] [w_X7 cI cR a R1.2.1 a_ahead a_pad_codes R1.2.2.1 a_padPattern_heights a_padPattern_length a_ways_steps a_ways_firstThrows a_ways_lastThrows a_ways_reached a_ways_reachedCount R1.2.2.2.1 R1.2.2.2.2.1 R1.2.2.2.2.2 a_slotZero_kept a_slotZero_filled a_slotOne_kept a_slotOne_filled, w_X8 cI cR b b_all b_kept b_history b_historyLong b_slots b_isSaved b_pad b_padLong b_readHeight b_readPass b_readMany b_heights b_many b_takes] (by decide : ([0] ++ [1] : List Nat).Perm (List.range 2)) rfl rfl rfl rfl rfl hl.1 rfl (Nat.le_of_ble_eq_true rfl) dL_law_166 ⟨Nat.le_of_ble_eq_true rfl, Nat.le_of_ble_eq_true rfl⟩ (fun H locs Z => ?_)
          refine lv_aload_n hx hb dL_law_169 rfl (lv_at hl 2 rfl) ?_
          refine z_callV X Z (c_X8_read l D cI cR b b_all b_kept b_history b_historyLong b_slots b_isSaved b_pad b_padLong b_readHeight b_readPass b_readMany b_heights b_many b_takes  hR2) (zw_L_22 X.1.2.2.2.2 ⟨Nat.le_of_ble_eq_true rfl, Nat.le_of_ble_eq_true rfl⟩) 64 8 rfl rfl rfl [1] [0] [w_X7 cI cR a R1.2.1 a_ahead a_pad_codes R1.2.2.1 a_padPattern_heights a_padPattern_length a_ways_steps a_ways_firstThrows a_ways_lastThrows a_ways_reached a_ways_reachedCount R1.2.2.2.1 R1.2.2.2.2.1 R1.2.2.2.2.2 a_slotZero_kept a_slotZero_filled a_slotOne_kept a_slotOne_filled, w_X8 cI cR b R2.2.1 R2.2.2.1 R2.2.2.2.1 R2.2.2.2.2.1 b_slots b_isSaved b_pad R2.2.2.2.2.2.1 R2.2.2.2.2.2.2.1 R2.2.2.2.2.2.2.2.1 R2.2.2.2.2.2.2.2.2 b_heights b_many b_takes] (by decide : ([1] ++ [0] : List Nat).Perm (List.range 2)) rfl rfl rfl rfl rfl hl.1 rfl (Nat.le_of_ble_eq_true rfl) dL_law_170 ⟨Nat.le_of_ble_eq_true rfl, Nat.le_of_ble_eq_true rfl⟩ (fun H locs Z => ?_)
          have hA := nA
          have hH := nH
          have hPd := nP
          refine lv_icmp_eq (tgt := 685) hx hb dL_law_173 (by decide) (fun _ => ?_) (fun c0 => absurd heq c0)
          refine lv_iinc (v := x3 + (4 : Int32)) (lv' := [(3, .int (x3 + (4 : Int32))), (0, .ref sb), (1, .ref (a 0)), (2, .ref (b 0))]) hx hb dL_law_685 hl (k := 3) rfl rfl (by decide) rfl (fun ls hl => ?_)
          refine lv_goto (tgt := 18) hx hb dL_law_688 (by decide) ?_
          exact ih (i + 4) _ (by omega) (by omega) (hi4) hA hH hS0 hPd Z (lv_sub hl [1, 2, 3, 0] rfl)
        · rcases Decidable.em (((xs x3.toNatClampNeg) &&& (31 : Int32)) = (2 : Int32)) with k2 | k2
          · refine z_tabIn hx hb 2 k2 (off := 146) (tgt := 178) dL_law_32 (by decide) (by decide) (by decide) (by decide) ?_
            obtain ⟨R1, R2, hR1, hR2, heq, nA, nH⟩ := st_pass (a_now := a_now) (a_history_rs := a_history_rs) (a_history_oldest := a_history_oldest) (a_history_size := a_history_size) (b_all := b_all) (b_kept := b_kept) (b_history := b_history) (b_historyLong := b_historyLong) hA hH (xs (x3 + (1 : Int32)).toNatClampNeg)
            refine lv_aload_n hx hb dL_law_178 rfl (lv_at hl 1 rfl) ?_
            refine lv_aload_n hx hb dL_law_179 rfl (lv_at hl 0 rfl) ?_
            refine lv_iload_n hx hb dL_law_180 rfl (lv_at hl 3 rfl) ?_
            refine lv_iconst (v := 1) hx hb dL_law_181 (by decide) ?_
            refine lv_iadd hx hb dL_law_182 ?_
            refine va_sld hx hb hX hbl hbA Z.2.2 hin1 dL_law_183 ?_
            refine z_callV X Z (c_X7_pass l D cI cR a a_now a_ahead a_pad_codes a_pad_length a_padPattern_heights a_padPattern_length a_ways_steps a_ways_firstThrows a_ways_lastThrows a_ways_reached a_ways_reachedCount a_history_rs a_history_oldest a_history_size a_slotZero_kept a_slotZero_filled a_slotOne_kept a_slotOne_filled (xs (x3 + (1 : Int32)).toNatClampNeg) hR1) (zw_L_23 X.1.2.2.2.2 ⟨Nat.le_of_ble_eq_true rfl, Nat.le_of_ble_eq_true rfl⟩) 0 7 rfl rfl rfl [0] [1] [w_X7 cI cR a R1.2.1 a_ahead a_pad_codes a_pad_length a_padPattern_heights a_padPattern_length a_ways_steps a_ways_firstThrows a_ways_lastThrows a_ways_reached a_ways_reachedCount R1.2.2.1 R1.2.2.2.1 R1.2.2.2.2 a_slotZero_kept a_slotZero_filled a_slotOne_kept a_slotOne_filled, w_X8 cI cR b b_all b_kept b_history b_historyLong b_slots b_isSaved b_pad b_padLong b_readHeight b_readPass b_readMany b_heights b_many b_takes] (by decide : ([0] ++ [1] : List Nat).Perm (List.range 2)) rfl rfl rfl rfl rfl hl.1 rfl (Nat.le_of_ble_eq_true rfl) dL_law_184 ⟨Nat.le_of_ble_eq_true rfl, Nat.le_of_ble_eq_true rfl⟩ (fun H locs Z => ?_)
            refine lv_aload_n hx hb dL_law_187 rfl (lv_at hl 2 rfl) ?_
            refine lv_aload_n hx hb dL_law_188 rfl (lv_at hl 0 rfl) ?_
            refine lv_iload_n hx hb dL_law_189 rfl (lv_at hl 3 rfl) ?_
            refine lv_iconst (v := 1) hx hb dL_law_190 (by decide) ?_
            refine lv_iadd hx hb dL_law_191 ?_
            refine va_sld hx hb hX hbl hbA Z.2.2 hin1 dL_law_192 ?_
            refine z_callV X Z (c_X8_pass l D cI cR b b_all b_kept b_history b_historyLong b_slots b_isSaved b_pad b_padLong b_readHeight b_readPass b_readMany b_heights b_many b_takes (xs (x3 + (1 : Int32)).toNatClampNeg) hR2) (zw_L_27 X.1.2.2.2.2 ⟨Nat.le_of_ble_eq_true rfl, Nat.le_of_ble_eq_true rfl⟩) 64 8 rfl rfl rfl [1] [0] [w_X7 cI cR a R1.2.1 a_ahead a_pad_codes a_pad_length a_padPattern_heights a_padPattern_length a_ways_steps a_ways_firstThrows a_ways_lastThrows a_ways_reached a_ways_reachedCount R1.2.2.1 R1.2.2.2.1 R1.2.2.2.2 a_slotZero_kept a_slotZero_filled a_slotOne_kept a_slotOne_filled, w_X8 cI cR b R2.2.1 R2.2.2.1 R2.2.2.2.1 R2.2.2.2.2 b_slots b_isSaved b_pad b_padLong b_readHeight b_readPass b_readMany b_heights b_many b_takes] (by decide : ([1] ++ [0] : List Nat).Perm (List.range 2)) rfl rfl rfl rfl rfl hl.1 rfl (Nat.le_of_ble_eq_true rfl) dL_law_193 ⟨Nat.le_of_ble_eq_true rfl, Nat.le_of_ble_eq_true rfl⟩ (fun H locs Z => ?_)
            have hA := nA
            have hH := nH
            refine lv_icmp_eq (tgt := 685) hx hb dL_law_196 (by decide) (fun _ => ?_) (fun c0 => absurd heq c0)
            refine lv_iinc (v := x3 + (4 : Int32)) (lv' := [(3, .int (x3 + (4 : Int32))), (0, .ref sb), (1, .ref (a 0)), (2, .ref (b 0))]) hx hb dL_law_685 hl (k := 3) rfl rfl (by decide) rfl (fun ls hl => ?_)
            refine lv_goto (tgt := 18) hx hb dL_law_688 (by decide) ?_
            exact ih (i + 4) _ (by omega) (by omega) (hi4) hA hH hS0 hPd Z (lv_sub hl [1, 2, 3, 0] rfl)
          · rcases Decidable.em (((xs x3.toNatClampNeg) &&& (31 : Int32)) = (3 : Int32)) with k3 | k3
            · refine z_tabIn hx hb 3 k3 (off := 169) (tgt := 201) dL_law_32 (by decide) (by decide) (by decide) (by decide) ?_
              obtain ⟨R1, R2, hR1, hR2, heq, nA, nH⟩ := st_drop (a_now := a_now) (a_history_rs := a_history_rs) (a_history_oldest := a_history_oldest) (a_history_size := a_history_size) (b_all := b_all) (b_kept := b_kept) (b_history := b_history) (b_historyLong := b_historyLong) hA hH (xs (x3 + (1 : Int32)).toNatClampNeg) (xs (x3 + (2 : Int32)).toNatClampNeg)
              refine lv_aload_n hx hb dL_law_201 rfl (lv_at hl 1 rfl) ?_
              refine lv_aload_n hx hb dL_law_202 rfl (lv_at hl 0 rfl) ?_
              refine lv_iload_n hx hb dL_law_203 rfl (lv_at hl 3 rfl) ?_
              refine lv_iconst (v := 1) hx hb dL_law_204 (by decide) ?_
              refine lv_iadd hx hb dL_law_205 ?_
              refine va_sld hx hb hX hbl hbA Z.2.2 hin1 dL_law_206 ?_
              refine lv_aload_n hx hb dL_law_207 rfl (lv_at hl 0 rfl) ?_
              refine lv_iload_n hx hb dL_law_208 rfl (lv_at hl 3 rfl) ?_
              refine lv_iconst (v := 2) hx hb dL_law_209 (by decide) ?_
              refine lv_iadd hx hb dL_law_210 ?_
              refine va_sld hx hb hX hbl hbA Z.2.2 hin2 dL_law_211 ?_
              refine z_callV X Z (c_X7_drop l D cI cR a a_now a_ahead a_pad_codes a_pad_length a_padPattern_heights a_padPattern_length a_ways_steps a_ways_firstThrows a_ways_lastThrows a_ways_reached a_ways_reachedCount a_history_rs a_history_oldest a_history_size a_slotZero_kept a_slotZero_filled a_slotOne_kept a_slotOne_filled (xs (x3 + (1 : Int32)).toNatClampNeg) (xs (x3 + (2 : Int32)).toNatClampNeg) hR1) (zw_L_28 X.1.2.2.2.2 ⟨Nat.le_of_ble_eq_true rfl, Nat.le_of_ble_eq_true rfl⟩) 0 7 rfl rfl rfl [0] [1] [w_X7 cI cR a R1.2.1 a_ahead a_pad_codes a_pad_length a_padPattern_heights a_padPattern_length a_ways_steps a_ways_firstThrows a_ways_lastThrows a_ways_reached a_ways_reachedCount R1.2.2.1 R1.2.2.2.1 R1.2.2.2.2 a_slotZero_kept a_slotZero_filled a_slotOne_kept a_slotOne_filled, w_X8 cI cR b b_all b_kept b_history b_historyLong b_slots b_isSaved b_pad b_padLong b_readHeight b_readPass b_readMany b_heights b_many b_takes] (by decide : ([0] ++ [1] : List Nat).Perm (List.range 2)) rfl rfl rfl rfl rfl hl.1 rfl (Nat.le_of_ble_eq_true rfl) dL_law_212 ⟨Nat.le_of_ble_eq_true rfl, Nat.le_of_ble_eq_true rfl⟩ (fun H locs Z => ?_)
              refine lv_aload_n hx hb dL_law_215 rfl (lv_at hl 2 rfl) ?_
              refine lv_aload_n hx hb dL_law_216 rfl (lv_at hl 0 rfl) ?_
              refine lv_iload_n hx hb dL_law_217 rfl (lv_at hl 3 rfl) ?_
              refine lv_iconst (v := 1) hx hb dL_law_218 (by decide) ?_
              refine lv_iadd hx hb dL_law_219 ?_
              refine va_sld hx hb hX hbl hbA Z.2.2 hin1 dL_law_220 ?_
              refine lv_aload_n hx hb dL_law_221 rfl (lv_at hl 0 rfl) ?_
              refine lv_iload_n hx hb dL_law_222 rfl (lv_at hl 3 rfl) ?_
              refine lv_iconst (v := 2) hx hb dL_law_223 (by decide) ?_
              refine lv_iadd hx hb dL_law_224 ?_
              refine va_sld hx hb hX hbl hbA Z.2.2 hin2 dL_law_225 ?_
              refine z_callV X Z (c_X8_drop l D cI cR b b_all b_kept b_history b_historyLong b_slots b_isSaved b_pad b_padLong b_readHeight b_readPass b_readMany b_heights b_many b_takes (xs (x3 + (1 : Int32)).toNatClampNeg) (xs (x3 + (2 : Int32)).toNatClampNeg) hR2) (zw_L_31 X.1.2.2.2.2 ⟨Nat.le_of_ble_eq_true rfl, Nat.le_of_ble_eq_true rfl⟩) 64 8 rfl rfl rfl [1] [0] [w_X7 cI cR a R1.2.1 a_ahead a_pad_codes a_pad_length a_padPattern_heights a_padPattern_length a_ways_steps a_ways_firstThrows a_ways_lastThrows a_ways_reached a_ways_reachedCount R1.2.2.1 R1.2.2.2.1 R1.2.2.2.2 a_slotZero_kept a_slotZero_filled a_slotOne_kept a_slotOne_filled, w_X8 cI cR b R2.2.1 R2.2.2.1 R2.2.2.2.1 R2.2.2.2.2 b_slots b_isSaved b_pad b_padLong b_readHeight b_readPass b_readMany b_heights b_many b_takes] (by decide : ([1] ++ [0] : List Nat).Perm (List.range 2)) rfl rfl rfl rfl rfl hl.1 rfl (Nat.le_of_ble_eq_true rfl) dL_law_226 ⟨Nat.le_of_ble_eq_true rfl, Nat.le_of_ble_eq_true rfl⟩ (fun H locs Z => ?_)
              have hA := nA
              have hH := nH
              refine lv_icmp_eq (tgt := 685) hx hb dL_law_229 (by decide) (fun _ => ?_) (fun c0 => absurd heq c0)
              refine lv_iinc (v := x3 + (4 : Int32)) (lv' := [(3, .int (x3 + (4 : Int32))), (0, .ref sb), (1, .ref (a 0)), (2, .ref (b 0))]) hx hb dL_law_685 hl (k := 3) rfl rfl (by decide) rfl (fun ls hl => ?_)
              refine lv_goto (tgt := 18) hx hb dL_law_688 (by decide) ?_
              exact ih (i + 4) _ (by omega) (by omega) (hi4) hA hH hS0 hPd Z (lv_sub hl [1, 2, 3, 0] rfl)
            · rcases Decidable.em (((xs x3.toNatClampNeg) &&& (31 : Int32)) = (4 : Int32)) with k4 | k4
              · refine z_tabIn hx hb 4 k4 (off := 202) (tgt := 234) dL_law_32 (by decide) (by decide) (by decide) (by decide) ?_
                obtain ⟨R1, R2, hR1, hR2, heq, nA, nH⟩ := st_pick (a_now := a_now) (a_history_rs := a_history_rs) (a_history_oldest := a_history_oldest) (a_history_size := a_history_size) (b_all := b_all) (b_kept := b_kept) (b_history := b_history) (b_historyLong := b_historyLong) hA hH (xs (x3 + (1 : Int32)).toNatClampNeg) (xs (x3 + (2 : Int32)).toNatClampNeg)
                refine lv_aload_n hx hb dL_law_234 rfl (lv_at hl 1 rfl) ?_
                refine lv_aload_n hx hb dL_law_235 rfl (lv_at hl 0 rfl) ?_
                refine lv_iload_n hx hb dL_law_236 rfl (lv_at hl 3 rfl) ?_
                refine lv_iconst (v := 1) hx hb dL_law_237 (by decide) ?_
                refine lv_iadd hx hb dL_law_238 ?_
                refine va_sld hx hb hX hbl hbA Z.2.2 hin1 dL_law_239 ?_
                refine lv_aload_n hx hb dL_law_240 rfl (lv_at hl 0 rfl) ?_
                refine lv_iload_n hx hb dL_law_241 rfl (lv_at hl 3 rfl) ?_
                refine lv_iconst (v := 2) hx hb dL_law_242 (by decide) ?_
                refine lv_iadd hx hb dL_law_243 ?_
                refine va_sld hx hb hX hbl hbA Z.2.2 hin2 dL_law_244 ?_
                refine z_callV X Z (c_X7_pick l D cI cR a a_now a_ahead a_pad_codes a_pad_length a_padPattern_heights a_padPattern_length a_ways_steps a_ways_firstThrows a_ways_lastThrows a_ways_reached a_ways_reachedCount a_history_rs a_history_oldest a_history_size a_slotZero_kept a_slotZero_filled a_slotOne_kept a_slotOne_filled (xs (x3 + (1 : Int32)).toNatClampNeg) (xs (x3 + (2 : Int32)).toNatClampNeg) hR1) (zw_L_32 X.1.2.2.2.2 ⟨Nat.le_of_ble_eq_true rfl, Nat.le_of_ble_eq_true rfl⟩) 0 7 rfl rfl rfl [0] [1] [w_X7 cI cR a R1.2.1 a_ahead a_pad_codes a_pad_length a_padPattern_heights a_padPattern_length a_ways_steps a_ways_firstThrows a_ways_lastThrows a_ways_reached a_ways_reachedCount R1.2.2.1 R1.2.2.2.1 R1.2.2.2.2 a_slotZero_kept a_slotZero_filled a_slotOne_kept a_slotOne_filled, w_X8 cI cR b b_all b_kept b_history b_historyLong b_slots b_isSaved b_pad b_padLong b_readHeight b_readPass b_readMany b_heights b_many b_takes] (by decide : ([0] ++ [1] : List Nat).Perm (List.range 2)) rfl rfl rfl rfl rfl hl.1 rfl (Nat.le_of_ble_eq_true rfl) dL_law_245 ⟨Nat.le_of_ble_eq_true rfl, Nat.le_of_ble_eq_true rfl⟩ (fun H locs Z => ?_)
                refine lv_aload_n hx hb dL_law_248 rfl (lv_at hl 2 rfl) ?_
                refine lv_aload_n hx hb dL_law_249 rfl (lv_at hl 0 rfl) ?_
                refine lv_iload_n hx hb dL_law_250 rfl (lv_at hl 3 rfl) ?_
                refine lv_iconst (v := 1) hx hb dL_law_251 (by decide) ?_
                refine lv_iadd hx hb dL_law_252 ?_
                refine va_sld hx hb hX hbl hbA Z.2.2 hin1 dL_law_253 ?_
                refine lv_aload_n hx hb dL_law_254 rfl (lv_at hl 0 rfl) ?_
                refine lv_iload_n hx hb dL_law_255 rfl (lv_at hl 3 rfl) ?_
                refine lv_iconst (v := 2) hx hb dL_law_256 (by decide) ?_
                refine lv_iadd hx hb dL_law_257 ?_
                refine va_sld hx hb hX hbl hbA Z.2.2 hin2 dL_law_258 ?_
                refine z_callV X Z (c_X8_pick l D cI cR b b_all b_kept b_history b_historyLong b_slots b_isSaved b_pad b_padLong b_readHeight b_readPass b_readMany b_heights b_many b_takes (xs (x3 + (1 : Int32)).toNatClampNeg) (xs (x3 + (2 : Int32)).toNatClampNeg) hR2) (zw_L_35 X.1.2.2.2.2 ⟨Nat.le_of_ble_eq_true rfl, Nat.le_of_ble_eq_true rfl⟩) 64 8 rfl rfl rfl [1] [0] [w_X7 cI cR a R1.2.1 a_ahead a_pad_codes a_pad_length a_padPattern_heights a_padPattern_length a_ways_steps a_ways_firstThrows a_ways_lastThrows a_ways_reached a_ways_reachedCount R1.2.2.1 R1.2.2.2.1 R1.2.2.2.2 a_slotZero_kept a_slotZero_filled a_slotOne_kept a_slotOne_filled, w_X8 cI cR b R2.2.1 R2.2.2.1 R2.2.2.2.1 R2.2.2.2.2 b_slots b_isSaved b_pad b_padLong b_readHeight b_readPass b_readMany b_heights b_many b_takes] (by decide : ([1] ++ [0] : List Nat).Perm (List.range 2)) rfl rfl rfl rfl rfl hl.1 rfl (Nat.le_of_ble_eq_true rfl) dL_law_259 ⟨Nat.le_of_ble_eq_true rfl, Nat.le_of_ble_eq_true rfl⟩ (fun H locs Z => ?_)
                have hA := nA
                have hH := nH
                refine lv_icmp_eq (tgt := 685) hx hb dL_law_262 (by decide) (fun _ => ?_) (fun c0 => absurd heq c0)
                refine lv_iinc (v := x3 + (4 : Int32)) (lv' := [(3, .int (x3 + (4 : Int32))), (0, .ref sb), (1, .ref (a 0)), (2, .ref (b 0))]) hx hb dL_law_685 hl (k := 3) rfl rfl (by decide) rfl (fun ls hl => ?_)
                refine lv_goto (tgt := 18) hx hb dL_law_688 (by decide) ?_
                exact ih (i + 4) _ (by omega) (by omega) (hi4) hA hH hS0 hPd Z (lv_sub hl [1, 2, 3, 0] rfl)
              · rcases Decidable.em (((xs x3.toNatClampNeg) &&& (31 : Int32)) = (5 : Int32)) with k5 | k5
                · refine z_tabIn hx hb 5 k5 (off := 235) (tgt := 267) dL_law_32 (by decide) (by decide) (by decide) (by decide) ?_
                  obtain ⟨R1, R2, hR1, hR2, heq⟩ := st_of (a_now := a_now) (b_all := b_all) hA (xs (x3 + (1 : Int32)).toNatClampNeg) (xs (x3 + (2 : Int32)).toNatClampNeg)
                  refine lv_aload_n hx hb dL_law_267 rfl (lv_at hl 1 rfl) ?_
                  refine lv_aload_n hx hb dL_law_268 rfl (lv_at hl 0 rfl) ?_
                  refine lv_iload_n hx hb dL_law_269 rfl (lv_at hl 3 rfl) ?_
                  refine lv_iconst (v := 1) hx hb dL_law_270 (by decide) ?_
                  refine lv_iadd hx hb dL_law_271 ?_
                  refine va_sld hx hb hX hbl hbA Z.2.2 hin1 dL_law_272 ?_
                  refine lv_aload_n hx hb dL_law_273 rfl (lv_at hl 0 rfl) ?_
                  refine lv_iload_n hx hb dL_law_274 rfl (lv_at hl 3 rfl) ?_
                  refine lv_iconst (v := 2) hx hb dL_law_275 (by decide) ?_
                  refine lv_iadd hx hb dL_law_276 ?_
                  refine va_sld hx hb hX hbl hbA Z.2.2 hin2 dL_law_277 ?_
                  refine z_roV X Z (c_X7_of l D cI cR a a_now a_ahead a_pad_codes a_pad_length a_padPattern_heights a_padPattern_length a_ways_steps a_ways_firstThrows a_ways_lastThrows a_ways_reached a_ways_reachedCount a_history_rs a_history_oldest a_history_size a_slotZero_kept a_slotZero_filled a_slotOne_kept a_slotOne_filled (xs (x3 + (1 : Int32)).toNatClampNeg) (xs (x3 + (2 : Int32)).toNatClampNeg) hR1) (zw_L_36 X.1.2.2.2.2 ⟨Nat.le_of_ble_eq_true rfl, Nat.le_of_ble_eq_true rfl⟩) 0 7 rfl rfl rfl [0] [1] (by decide : ([0] ++ [1] : List Nat).Perm (List.range 2)) rfl rfl hl.1 rfl (Nat.le_of_ble_eq_true rfl) dL_law_278 ⟨Nat.le_of_ble_eq_true rfl, Nat.le_of_ble_eq_true rfl⟩ (fun H locs Z => ?_)
                  refine lv_aload_n hx hb dL_law_281 rfl (lv_at hl 2 rfl) ?_
                  refine lv_aload_n hx hb dL_law_282 rfl (lv_at hl 0 rfl) ?_
                  refine lv_iload_n hx hb dL_law_283 rfl (lv_at hl 3 rfl) ?_
                  refine lv_iconst (v := 1) hx hb dL_law_284 (by decide) ?_
                  refine lv_iadd hx hb dL_law_285 ?_
                  refine va_sld hx hb hX hbl hbA Z.2.2 hin1 dL_law_286 ?_
                  refine lv_aload_n hx hb dL_law_287 rfl (lv_at hl 0 rfl) ?_
                  refine lv_iload_n hx hb dL_law_288 rfl (lv_at hl 3 rfl) ?_
                  refine lv_iconst (v := 2) hx hb dL_law_289 (by decide) ?_
                  refine lv_iadd hx hb dL_law_290 ?_
                  refine va_sld hx hb hX hbl hbA Z.2.2 hin2 dL_law_291 ?_
                  refine z_roV X Z (c_X8_of l D cI cR b b_all b_kept b_history b_historyLong b_slots b_isSaved b_pad b_padLong b_readHeight b_readPass b_readMany b_heights b_many b_takes (xs (x3 + (1 : Int32)).toNatClampNeg) (xs (x3 + (2 : Int32)).toNatClampNeg) hR2) (zw_L_39 X.1.2.2.2.2 ⟨Nat.le_of_ble_eq_true rfl, Nat.le_of_ble_eq_true rfl⟩) 64 8 rfl rfl rfl [1] [0] (by decide : ([1] ++ [0] : List Nat).Perm (List.range 2)) rfl rfl hl.1 rfl (Nat.le_of_ble_eq_true rfl) dL_law_292 ⟨Nat.le_of_ble_eq_true rfl, Nat.le_of_ble_eq_true rfl⟩ (fun H locs Z => ?_)
                  refine lv_icmp_eq (tgt := 685) hx hb dL_law_295 (by decide) (fun _ => ?_) (fun c0 => absurd heq c0)
                  refine lv_iinc (v := x3 + (4 : Int32)) (lv' := [(3, .int (x3 + (4 : Int32))), (0, .ref sb), (1, .ref (a 0)), (2, .ref (b 0))]) hx hb dL_law_685 hl (k := 3) rfl rfl (by decide) rfl (fun ls hl => ?_)
                  refine lv_goto (tgt := 18) hx hb dL_law_688 (by decide) ?_
                  exact ih (i + 4) _ (by omega) (by omega) (hi4) hA hH hS0 hPd Z (lv_sub hl [1, 2, 3, 0] rfl)
                · rcases Decidable.em (((xs x3.toNatClampNeg) &&& (31 : Int32)) = (6 : Int32)) with k6 | k6
                  · refine z_tabIn hx hb 6 k6 (off := 268) (tgt := 300) dL_law_32 (by decide) (by decide) (by decide) (by decide) ?_
                    obtain ⟨R1, R2, hR1, hR2, heq⟩ := st_thrown (a_now := a_now) (b_all := b_all) hA (xs (x3 + (1 : Int32)).toNatClampNeg) (xs (x3 + (2 : Int32)).toNatClampNeg) (xs (x3 + (3 : Int32)).toNatClampNeg)
                    refine lv_aload_n hx hb dL_law_300 rfl (lv_at hl 1 rfl) ?_
                    refine lv_aload_n hx hb dL_law_301 rfl (lv_at hl 0 rfl) ?_
                    refine lv_iload_n hx hb dL_law_302 rfl (lv_at hl 3 rfl) ?_
                    refine lv_iconst (v := 1) hx hb dL_law_303 (by decide) ?_
                    refine lv_iadd hx hb dL_law_304 ?_
                    refine va_sld hx hb hX hbl hbA Z.2.2 hin1 dL_law_305 ?_
                    refine lv_aload_n hx hb dL_law_306 rfl (lv_at hl 0 rfl) ?_
                    refine lv_iload_n hx hb dL_law_307 rfl (lv_at hl 3 rfl) ?_
                    refine lv_iconst (v := 2) hx hb dL_law_308 (by decide) ?_
                    refine lv_iadd hx hb dL_law_309 ?_
                    refine va_sld hx hb hX hbl hbA Z.2.2 hin2 dL_law_310 ?_
                    refine lv_aload_n hx hb dL_law_311 rfl (lv_at hl 0 rfl) ?_
                    refine lv_iload_n hx hb dL_law_312 rfl (lv_at hl 3 rfl) ?_
                    refine lv_iconst (v := 3) hx hb dL_law_313 (by decide) ?_
                    refine lv_iadd hx hb dL_law_314 ?_
                    refine va_sld hx hb hX hbl hbA Z.2.2 hin3 dL_law_315 ?_
                    refine z_roV X Z (c_X7_thrown l D cI cR a a_now a_ahead a_pad_codes a_pad_length a_padPattern_heights a_padPattern_length a_ways_steps a_ways_firstThrows a_ways_lastThrows a_ways_reached a_ways_reachedCount a_history_rs a_history_oldest a_history_size a_slotZero_kept a_slotZero_filled a_slotOne_kept a_slotOne_filled (xs (x3 + (1 : Int32)).toNatClampNeg) (xs (x3 + (2 : Int32)).toNatClampNeg) (xs (x3 + (3 : Int32)).toNatClampNeg) hR1) (zw_L_40 X.1.2.2.2.2 ⟨Nat.le_of_ble_eq_true rfl, Nat.le_of_ble_eq_true rfl⟩) 0 7 rfl rfl rfl [0] [1] (by decide : ([0] ++ [1] : List Nat).Perm (List.range 2)) rfl rfl hl.1 rfl (Nat.le_of_ble_eq_true rfl) dL_law_316 ⟨Nat.le_of_ble_eq_true rfl, Nat.le_of_ble_eq_true rfl⟩ (fun H locs Z => ?_)
                    refine lv_aload_n hx hb dL_law_319 rfl (lv_at hl 2 rfl) ?_
                    refine lv_aload_n hx hb dL_law_320 rfl (lv_at hl 0 rfl) ?_
                    refine lv_iload_n hx hb dL_law_321 rfl (lv_at hl 3 rfl) ?_
                    refine lv_iconst (v := 1) hx hb dL_law_322 (by decide) ?_
                    refine lv_iadd hx hb dL_law_323 ?_
                    refine va_sld hx hb hX hbl hbA Z.2.2 hin1 dL_law_324 ?_
                    refine lv_aload_n hx hb dL_law_325 rfl (lv_at hl 0 rfl) ?_
                    refine lv_iload_n hx hb dL_law_326 rfl (lv_at hl 3 rfl) ?_
                    refine lv_iconst (v := 2) hx hb dL_law_327 (by decide) ?_
                    refine lv_iadd hx hb dL_law_328 ?_
                    refine va_sld hx hb hX hbl hbA Z.2.2 hin2 dL_law_329 ?_
                    refine lv_aload_n hx hb dL_law_330 rfl (lv_at hl 0 rfl) ?_
                    refine lv_iload_n hx hb dL_law_331 rfl (lv_at hl 3 rfl) ?_
                    refine lv_iconst (v := 3) hx hb dL_law_332 (by decide) ?_
                    refine lv_iadd hx hb dL_law_333 ?_
                    refine va_sld hx hb hX hbl hbA Z.2.2 hin3 dL_law_334 ?_
                    refine z_roV X Z (c_X8_thrown l D cI cR b b_all b_kept b_history b_historyLong b_slots b_isSaved b_pad b_padLong b_readHeight b_readPass b_readMany b_heights b_many b_takes (xs (x3 + (1 : Int32)).toNatClampNeg) (xs (x3 + (2 : Int32)).toNatClampNeg) (xs (x3 + (3 : Int32)).toNatClampNeg) hR2) (zw_L_44 X.1.2.2.2.2 ⟨Nat.le_of_ble_eq_true rfl, Nat.le_of_ble_eq_true rfl⟩) 64 8 rfl rfl rfl [1] [0] (by decide : ([1] ++ [0] : List Nat).Perm (List.range 2)) rfl rfl hl.1 rfl (Nat.le_of_ble_eq_true rfl) dL_law_335 ⟨Nat.le_of_ble_eq_true rfl, Nat.le_of_ble_eq_true rfl⟩ (fun H locs Z => ?_)
                    refine lv_icmp_eq (tgt := 685) hx hb dL_law_338 (by decide) (fun _ => ?_) (fun c0 => absurd heq c0)
                    refine lv_iinc (v := x3 + (4 : Int32)) (lv' := [(3, .int (x3 + (4 : Int32))), (0, .ref sb), (1, .ref (a 0)), (2, .ref (b 0))]) hx hb dL_law_685 hl (k := 3) rfl rfl (by decide) rfl (fun ls hl => ?_)
                    refine lv_goto (tgt := 18) hx hb dL_law_688 (by decide) ?_
                    exact ih (i + 4) _ (by omega) (by omega) (hi4) hA hH hS0 hPd Z (lv_sub hl [1, 2, 3, 0] rfl)
                  · rcases Decidable.em (((xs x3.toNatClampNeg) &&& (31 : Int32)) = (7 : Int32)) with k7 | k7
                    · refine z_tabIn hx hb 7 k7 (off := 311) (tgt := 343) dL_law_32 (by decide) (by decide) (by decide) (by decide) ?_
                      obtain ⟨R1, R2, hR1, hR2, heq⟩ := st_count (a_now := a_now) (a_pad_length := a_pad_length) (a_history_size := a_history_size) (b_all := b_all) (b_historyLong := b_historyLong) (b_padLong := b_padLong) hA hH hPd (xs (x3 + (1 : Int32)).toNatClampNeg)
                      refine lv_aload_n hx hb dL_law_343 rfl (lv_at hl 1 rfl) ?_
                      refine lv_aload_n hx hb dL_law_344 rfl (lv_at hl 0 rfl) ?_
                      refine lv_iload_n hx hb dL_law_345 rfl (lv_at hl 3 rfl) ?_
                      refine lv_iconst (v := 1) hx hb dL_law_346 (by decide) ?_
                      refine lv_iadd hx hb dL_law_347 ?_
                      refine va_sld hx hb hX hbl hbA Z.2.2 hin1 dL_law_348 ?_
                      refine z_roV X Z (c_X7_count l D cI cR a a_now a_ahead a_pad_codes a_pad_length a_padPattern_heights a_padPattern_length a_ways_steps a_ways_firstThrows a_ways_lastThrows a_ways_reached a_ways_reachedCount a_history_rs a_history_oldest a_history_size a_slotZero_kept a_slotZero_filled a_slotOne_kept a_slotOne_filled (xs (x3 + (1 : Int32)).toNatClampNeg) hR1) (zw_L_45 X.1.2.2.2.2 ⟨Nat.le_of_ble_eq_true rfl, Nat.le_of_ble_eq_true rfl⟩) 0 7 rfl rfl rfl [0] [1] (by decide : ([0] ++ [1] : List Nat).Perm (List.range 2)) rfl rfl hl.1 rfl (Nat.le_of_ble_eq_true rfl) dL_law_349 ⟨Nat.le_of_ble_eq_true rfl, Nat.le_of_ble_eq_true rfl⟩ (fun H locs Z => ?_)
                      refine lv_aload_n hx hb dL_law_352 rfl (lv_at hl 2 rfl) ?_
                      refine lv_aload_n hx hb dL_law_353 rfl (lv_at hl 0 rfl) ?_
                      refine lv_iload_n hx hb dL_law_354 rfl (lv_at hl 3 rfl) ?_
                      refine lv_iconst (v := 1) hx hb dL_law_355 (by decide) ?_
                      refine lv_iadd hx hb dL_law_356 ?_
                      refine va_sld hx hb hX hbl hbA Z.2.2 hin1 dL_law_357 ?_
                      refine z_roV X Z (c_X8_count l D cI cR b b_all b_kept b_history b_historyLong b_slots b_isSaved b_pad b_padLong b_readHeight b_readPass b_readMany b_heights b_many b_takes (xs (x3 + (1 : Int32)).toNatClampNeg) hR2) (zw_L_48 X.1.2.2.2.2 ⟨Nat.le_of_ble_eq_true rfl, Nat.le_of_ble_eq_true rfl⟩) 64 8 rfl rfl rfl [1] [0] (by decide : ([1] ++ [0] : List Nat).Perm (List.range 2)) rfl rfl hl.1 rfl (Nat.le_of_ble_eq_true rfl) dL_law_358 ⟨Nat.le_of_ble_eq_true rfl, Nat.le_of_ble_eq_true rfl⟩ (fun H locs Z => ?_)
                      refine lv_icmp_eq (tgt := 685) hx hb dL_law_361 (by decide) (fun _ => ?_) (fun c0 => absurd heq c0)
                      refine lv_iinc (v := x3 + (4 : Int32)) (lv' := [(3, .int (x3 + (4 : Int32))), (0, .ref sb), (1, .ref (a 0)), (2, .ref (b 0))]) hx hb dL_law_685 hl (k := 3) rfl rfl (by decide) rfl (fun ls hl => ?_)
                      refine lv_goto (tgt := 18) hx hb dL_law_688 (by decide) ?_
                      exact ih (i + 4) _ (by omega) (by omega) (hi4) hA hH hS0 hPd Z (lv_sub hl [1, 2, 3, 0] rfl)
                    · rcases Decidable.em (((xs x3.toNatClampNeg) &&& (31 : Int32)) = (8 : Int32)) with k8 | k8
                      · refine z_tabIn hx hb 8 k8 (off := 334) (tgt := 366) dL_law_32 (by decide) (by decide) (by decide) (by decide) ?_
                        obtain ⟨R1, R2, hR1, hR2, heq, nA⟩ := st_firstDrop (a_now := a_now) (a_ahead := a_ahead) (b_all := b_all) (b_kept := b_kept) hA
                        refine lv_aload_n hx hb dL_law_366 rfl (lv_at hl 1 rfl) ?_
                        refine z_callV X Z (c_X7_firstDrop l D cI cR a a_now a_ahead a_pad_codes a_pad_length a_padPattern_heights a_padPattern_length a_ways_steps a_ways_firstThrows a_ways_lastThrows a_ways_reached a_ways_reachedCount a_history_rs a_history_oldest a_history_size a_slotZero_kept a_slotZero_filled a_slotOne_kept a_slotOne_filled  hR1) (zw_L_49 X.1.2.2.2.2 ⟨Nat.le_of_ble_eq_true rfl, Nat.le_of_ble_eq_true rfl⟩) 0 7 rfl rfl rfl [0] [1] [w_X7 cI cR a a_now R1.2 a_pad_codes a_pad_length a_padPattern_heights a_padPattern_length a_ways_steps a_ways_firstThrows a_ways_lastThrows a_ways_reached a_ways_reachedCount a_history_rs a_history_oldest a_history_size a_slotZero_kept a_slotZero_filled a_slotOne_kept a_slotOne_filled, w_X8 cI cR b b_all b_kept b_history b_historyLong b_slots b_isSaved b_pad b_padLong b_readHeight b_readPass b_readMany b_heights b_many b_takes] (by decide : ([0] ++ [1] : List Nat).Perm (List.range 2)) rfl rfl rfl rfl rfl hl.1 rfl (Nat.le_of_ble_eq_true rfl) dL_law_367 ⟨Nat.le_of_ble_eq_true rfl, Nat.le_of_ble_eq_true rfl⟩ (fun H locs Z => ?_)
                        refine lv_aload_n hx hb dL_law_370 rfl (lv_at hl 2 rfl) ?_
                        refine z_callV X Z (c_X8_firstDrop l D cI cR b b_all b_kept b_history b_historyLong b_slots b_isSaved b_pad b_padLong b_readHeight b_readPass b_readMany b_heights b_many b_takes  hR2) (zw_L_52 X.1.2.2.2.2 ⟨Nat.le_of_ble_eq_true rfl, Nat.le_of_ble_eq_true rfl⟩) 64 8 rfl rfl rfl [1] [0] [w_X7 cI cR a a_now R1.2 a_pad_codes a_pad_length a_padPattern_heights a_padPattern_length a_ways_steps a_ways_firstThrows a_ways_lastThrows a_ways_reached a_ways_reachedCount a_history_rs a_history_oldest a_history_size a_slotZero_kept a_slotZero_filled a_slotOne_kept a_slotOne_filled, w_X8 cI cR b R2.2.1 R2.2.2 b_history b_historyLong b_slots b_isSaved b_pad b_padLong b_readHeight b_readPass b_readMany b_heights b_many b_takes] (by decide : ([1] ++ [0] : List Nat).Perm (List.range 2)) rfl rfl rfl rfl rfl hl.1 rfl (Nat.le_of_ble_eq_true rfl) dL_law_371 ⟨Nat.le_of_ble_eq_true rfl, Nat.le_of_ble_eq_true rfl⟩ (fun H locs Z => ?_)
                        have hA := nA
                        refine lv_icmp_eq (tgt := 685) hx hb dL_law_374 (by decide) (fun _ => ?_) (fun c0 => absurd heq c0)
                        refine lv_iinc (v := x3 + (4 : Int32)) (lv' := [(3, .int (x3 + (4 : Int32))), (0, .ref sb), (1, .ref (a 0)), (2, .ref (b 0))]) hx hb dL_law_685 hl (k := 3) rfl rfl (by decide) rfl (fun ls hl => ?_)
                        refine lv_goto (tgt := 18) hx hb dL_law_688 (by decide) ?_
                        exact ih (i + 4) _ (by omega) (by omega) (hi4) hA hH hS0 hPd Z (lv_sub hl [1, 2, 3, 0] rfl)
                      · rcases Decidable.em (((xs x3.toNatClampNeg) &&& (31 : Int32)) = (9 : Int32)) with k9 | k9
                        · refine z_tabIn hx hb 9 k9 (off := 347) (tgt := 379) dL_law_32 (by decide) (by decide) (by decide) (by decide) ?_
                          obtain ⟨R1, R2, hR1, hR2, heq, nA⟩ := st_comesRound (a_now := a_now) (a_ahead := a_ahead) (b_all := b_all) (b_kept := b_kept) hA
                          refine lv_aload_n hx hb dL_law_379 rfl (lv_at hl 1 rfl) ?_
                          refine z_callV X Z (c_X7_comesRound l D cI cR a a_now a_ahead a_pad_codes a_pad_length a_padPattern_heights a_padPattern_length a_ways_steps a_ways_firstThrows a_ways_lastThrows a_ways_reached a_ways_reachedCount a_history_rs a_history_oldest a_history_size a_slotZero_kept a_slotZero_filled a_slotOne_kept a_slotOne_filled  hR1) (zw_L_53 X.1.2.2.2.2 ⟨Nat.le_of_ble_eq_true rfl, Nat.le_of_ble_eq_true rfl⟩) 0 7 rfl rfl rfl [0] [1] [w_X7 cI cR a a_now R1.2 a_pad_codes a_pad_length a_padPattern_heights a_padPattern_length a_ways_steps a_ways_firstThrows a_ways_lastThrows a_ways_reached a_ways_reachedCount a_history_rs a_history_oldest a_history_size a_slotZero_kept a_slotZero_filled a_slotOne_kept a_slotOne_filled, w_X8 cI cR b b_all b_kept b_history b_historyLong b_slots b_isSaved b_pad b_padLong b_readHeight b_readPass b_readMany b_heights b_many b_takes] (by decide : ([0] ++ [1] : List Nat).Perm (List.range 2)) rfl rfl rfl rfl rfl hl.1 rfl (Nat.le_of_ble_eq_true rfl) dL_law_380 ⟨Nat.le_of_ble_eq_true rfl, Nat.le_of_ble_eq_true rfl⟩ (fun H locs Z => ?_)
                          refine lv_aload_n hx hb dL_law_383 rfl (lv_at hl 2 rfl) ?_
                          refine z_callV X Z (c_X8_comesRound l D cI cR b b_all b_kept b_history b_historyLong b_slots b_isSaved b_pad b_padLong b_readHeight b_readPass b_readMany b_heights b_many b_takes  hR2) (zw_L_56 X.1.2.2.2.2 ⟨Nat.le_of_ble_eq_true rfl, Nat.le_of_ble_eq_true rfl⟩) 64 8 rfl rfl rfl [1] [0] [w_X7 cI cR a a_now R1.2 a_pad_codes a_pad_length a_padPattern_heights a_padPattern_length a_ways_steps a_ways_firstThrows a_ways_lastThrows a_ways_reached a_ways_reachedCount a_history_rs a_history_oldest a_history_size a_slotZero_kept a_slotZero_filled a_slotOne_kept a_slotOne_filled, w_X8 cI cR b R2.2.1 R2.2.2 b_history b_historyLong b_slots b_isSaved b_pad b_padLong b_readHeight b_readPass b_readMany b_heights b_many b_takes] (by decide : ([1] ++ [0] : List Nat).Perm (List.range 2)) rfl rfl rfl rfl rfl hl.1 rfl (Nat.le_of_ble_eq_true rfl) dL_law_384 ⟨Nat.le_of_ble_eq_true rfl, Nat.le_of_ble_eq_true rfl⟩ (fun H locs Z => ?_)
                          have hA := nA
                          refine lv_icmp_eq (tgt := 685) hx hb dL_law_387 (by decide) (fun _ => ?_) (fun c0 => absurd heq c0)
                          refine lv_iinc (v := x3 + (4 : Int32)) (lv' := [(3, .int (x3 + (4 : Int32))), (0, .ref sb), (1, .ref (a 0)), (2, .ref (b 0))]) hx hb dL_law_685 hl (k := 3) rfl rfl (by decide) rfl (fun ls hl => ?_)
                          refine lv_goto (tgt := 18) hx hb dL_law_688 (by decide) ?_
                          exact ih (i + 4) _ (by omega) (by omega) (hi4) hA hH hS0 hPd Z (lv_sub hl [1, 2, 3, 0] rfl)
                        · rcases Decidable.em (((xs x3.toNatClampNeg) &&& (31 : Int32)) = (10 : Int32)) with k10 | k10
                          · refine z_tabIn hx hb 10 k10 (off := 360) (tgt := 392) dL_law_32 (by decide) (by decide) (by decide) (by decide) ?_
                            obtain ⟨R1, R2, hR1, hR2, heq, nA⟩ := st_stateBehind (a_now := a_now) (a_ahead := a_ahead) (b_all := b_all) (b_kept := b_kept) hA (xs (x3 + (1 : Int32)).toNatClampNeg) (xs (x3 + (2 : Int32)).toNatClampNeg)
                            refine lv_aload_n hx hb dL_law_392 rfl (lv_at hl 1 rfl) ?_
                            refine lv_aload_n hx hb dL_law_393 rfl (lv_at hl 0 rfl) ?_
                            refine lv_iload_n hx hb dL_law_394 rfl (lv_at hl 3 rfl) ?_
                            refine lv_iconst (v := 1) hx hb dL_law_395 (by decide) ?_
                            refine lv_iadd hx hb dL_law_396 ?_
                            refine va_sld hx hb hX hbl hbA Z.2.2 hin1 dL_law_397 ?_
                            refine lv_aload_n hx hb dL_law_398 rfl (lv_at hl 0 rfl) ?_
                            refine lv_iload_n hx hb dL_law_399 rfl (lv_at hl 3 rfl) ?_
                            refine lv_iconst (v := 2) hx hb dL_law_400 (by decide) ?_
                            refine lv_iadd hx hb dL_law_401 ?_
                            refine va_sld hx hb hX hbl hbA Z.2.2 hin2 dL_law_402 ?_
                            refine z_callV X Z (c_X7_stateBehind l D cI cR a a_now a_ahead a_pad_codes a_pad_length a_padPattern_heights a_padPattern_length a_ways_steps a_ways_firstThrows a_ways_lastThrows a_ways_reached a_ways_reachedCount a_history_rs a_history_oldest a_history_size a_slotZero_kept a_slotZero_filled a_slotOne_kept a_slotOne_filled (xs (x3 + (1 : Int32)).toNatClampNeg) (xs (x3 + (2 : Int32)).toNatClampNeg) hR1) (zw_L_57 X.1.2.2.2.2 ⟨Nat.le_of_ble_eq_true rfl, Nat.le_of_ble_eq_true rfl⟩) 0 7 rfl rfl rfl [0] [1] [w_X7 cI cR a a_now R1.2 a_pad_codes a_pad_length a_padPattern_heights a_padPattern_length a_ways_steps a_ways_firstThrows a_ways_lastThrows a_ways_reached a_ways_reachedCount a_history_rs a_history_oldest a_history_size a_slotZero_kept a_slotZero_filled a_slotOne_kept a_slotOne_filled, w_X8 cI cR b b_all b_kept b_history b_historyLong b_slots b_isSaved b_pad b_padLong b_readHeight b_readPass b_readMany b_heights b_many b_takes] (by decide : ([0] ++ [1] : List Nat).Perm (List.range 2)) rfl rfl rfl rfl rfl hl.1 rfl (Nat.le_of_ble_eq_true rfl) dL_law_403 ⟨Nat.le_of_ble_eq_true rfl, Nat.le_of_ble_eq_true rfl⟩ (fun H locs Z => ?_)
                            refine lv_aload_n hx hb dL_law_406 rfl (lv_at hl 2 rfl) ?_
                            refine lv_aload_n hx hb dL_law_407 rfl (lv_at hl 0 rfl) ?_
                            refine lv_iload_n hx hb dL_law_408 rfl (lv_at hl 3 rfl) ?_
                            refine lv_iconst (v := 1) hx hb dL_law_409 (by decide) ?_
                            refine lv_iadd hx hb dL_law_410 ?_
                            refine va_sld hx hb hX hbl hbA Z.2.2 hin1 dL_law_411 ?_
                            refine lv_aload_n hx hb dL_law_412 rfl (lv_at hl 0 rfl) ?_
                            refine lv_iload_n hx hb dL_law_413 rfl (lv_at hl 3 rfl) ?_
                            refine lv_iconst (v := 2) hx hb dL_law_414 (by decide) ?_
                            refine lv_iadd hx hb dL_law_415 ?_
                            refine va_sld hx hb hX hbl hbA Z.2.2 hin2 dL_law_416 ?_
                            refine z_callV X Z (c_X8_stateBehind l D cI cR b b_all b_kept b_history b_historyLong b_slots b_isSaved b_pad b_padLong b_readHeight b_readPass b_readMany b_heights b_many b_takes (xs (x3 + (1 : Int32)).toNatClampNeg) (xs (x3 + (2 : Int32)).toNatClampNeg) hR2) (zw_L_60 X.1.2.2.2.2 ⟨Nat.le_of_ble_eq_true rfl, Nat.le_of_ble_eq_true rfl⟩) 64 8 rfl rfl rfl [1] [0] [w_X7 cI cR a a_now R1.2 a_pad_codes a_pad_length a_padPattern_heights a_padPattern_length a_ways_steps a_ways_firstThrows a_ways_lastThrows a_ways_reached a_ways_reachedCount a_history_rs a_history_oldest a_history_size a_slotZero_kept a_slotZero_filled a_slotOne_kept a_slotOne_filled, w_X8 cI cR b R2.2.1 R2.2.2 b_history b_historyLong b_slots b_isSaved b_pad b_padLong b_readHeight b_readPass b_readMany b_heights b_many b_takes] (by decide : ([1] ++ [0] : List Nat).Perm (List.range 2)) rfl rfl rfl rfl rfl hl.1 rfl (Nat.le_of_ble_eq_true rfl) dL_law_417 ⟨Nat.le_of_ble_eq_true rfl, Nat.le_of_ble_eq_true rfl⟩ (fun H locs Z => ?_)
                            have hA := nA
                            refine lv_icmp_eq (tgt := 685) hx hb dL_law_420 (by decide) (fun _ => ?_) (fun c0 => absurd heq c0)
                            refine lv_iinc (v := x3 + (4 : Int32)) (lv' := [(3, .int (x3 + (4 : Int32))), (0, .ref sb), (1, .ref (a 0)), (2, .ref (b 0))]) hx hb dL_law_685 hl (k := 3) rfl rfl (by decide) rfl (fun ls hl => ?_)
                            refine lv_goto (tgt := 18) hx hb dL_law_688 (by decide) ?_
                            exact ih (i + 4) _ (by omega) (by omega) (hi4) hA hH hS0 hPd Z (lv_sub hl [1, 2, 3, 0] rfl)
                          · rcases Decidable.em (((xs x3.toNatClampNeg) &&& (31 : Int32)) = (11 : Int32)) with k11 | k11
                            · refine z_tabIn hx hb 11 k11 (off := 393) (tgt := 425) dL_law_32 (by decide) (by decide) (by decide) (by decide) ?_
                              obtain ⟨R1, R2, hR1, hR2, heq⟩ := st_pattern (a_pad_codes := a_pad_codes) (a_pad_length := a_pad_length) (a_padPattern_heights := a_padPattern_heights) (a_padPattern_length := a_padPattern_length) (b_pad := b_pad) (b_padLong := b_padLong) (b_heights := b_heights) (b_many := b_many) hPd (xs (x3 + (1 : Int32)).toNatClampNeg)
                              refine lv_aload_n hx hb dL_law_425 rfl (lv_at hl 1 rfl) ?_
                              refine lv_aload_n hx hb dL_law_426 rfl (lv_at hl 0 rfl) ?_
                              refine lv_iload_n hx hb dL_law_427 rfl (lv_at hl 3 rfl) ?_
                              refine lv_iconst (v := 1) hx hb dL_law_428 (by decide) ?_
                              refine lv_iadd hx hb dL_law_429 ?_
                              refine va_sld hx hb hX hbl hbA Z.2.2 hin1 dL_law_430 ?_
                              refine z_callV X Z (c_X7_pattern l D cI cR a a_now a_ahead a_pad_codes a_pad_length a_padPattern_heights a_padPattern_length a_ways_steps a_ways_firstThrows a_ways_lastThrows a_ways_reached a_ways_reachedCount a_history_rs a_history_oldest a_history_size a_slotZero_kept a_slotZero_filled a_slotOne_kept a_slotOne_filled (xs (x3 + (1 : Int32)).toNatClampNeg) hR1) (zw_L_61 X.1.2.2.2.2 ⟨Nat.le_of_ble_eq_true rfl, Nat.le_of_ble_eq_true rfl⟩) 0 7 rfl rfl rfl [0] [1] [w_X7 cI cR a a_now a_ahead a_pad_codes a_pad_length R1.2.1 R1.2.2 a_ways_steps a_ways_firstThrows a_ways_lastThrows a_ways_reached a_ways_reachedCount a_history_rs a_history_oldest a_history_size a_slotZero_kept a_slotZero_filled a_slotOne_kept a_slotOne_filled, w_X8 cI cR b b_all b_kept b_history b_historyLong b_slots b_isSaved b_pad b_padLong b_readHeight b_readPass b_readMany b_heights b_many b_takes] (by decide : ([0] ++ [1] : List Nat).Perm (List.range 2)) rfl rfl rfl rfl rfl hl.1 rfl (Nat.le_of_ble_eq_true rfl) dL_law_431 ⟨Nat.le_of_ble_eq_true rfl, Nat.le_of_ble_eq_true rfl⟩ (fun H locs Z => ?_)
                              refine lv_aload_n hx hb dL_law_434 rfl (lv_at hl 2 rfl) ?_
                              refine lv_aload_n hx hb dL_law_435 rfl (lv_at hl 0 rfl) ?_
                              refine lv_iload_n hx hb dL_law_436 rfl (lv_at hl 3 rfl) ?_
                              refine lv_iconst (v := 1) hx hb dL_law_437 (by decide) ?_
                              refine lv_iadd hx hb dL_law_438 ?_
                              refine va_sld hx hb hX hbl hbA Z.2.2 hin1 dL_law_439 ?_
                              refine z_callV X Z (c_X8_pattern l D cI cR b b_all b_kept b_history b_historyLong b_slots b_isSaved b_pad b_padLong b_readHeight b_readPass b_readMany b_heights b_many b_takes (xs (x3 + (1 : Int32)).toNatClampNeg) hR2) (zw_L_64 X.1.2.2.2.2 ⟨Nat.le_of_ble_eq_true rfl, Nat.le_of_ble_eq_true rfl⟩) 64 8 rfl rfl rfl [1] [0] [w_X7 cI cR a a_now a_ahead a_pad_codes a_pad_length R1.2.1 R1.2.2 a_ways_steps a_ways_firstThrows a_ways_lastThrows a_ways_reached a_ways_reachedCount a_history_rs a_history_oldest a_history_size a_slotZero_kept a_slotZero_filled a_slotOne_kept a_slotOne_filled, w_X8 cI cR b b_all b_kept b_history b_historyLong b_slots b_isSaved b_pad b_padLong b_readHeight b_readPass b_readMany R2.2.1 R2.2.2 b_takes] (by decide : ([1] ++ [0] : List Nat).Perm (List.range 2)) rfl rfl rfl rfl rfl hl.1 rfl (Nat.le_of_ble_eq_true rfl) dL_law_440 ⟨Nat.le_of_ble_eq_true rfl, Nat.le_of_ble_eq_true rfl⟩ (fun H locs Z => ?_)
                              refine lv_icmp_eq (tgt := 685) hx hb dL_law_443 (by decide) (fun _ => ?_) (fun c0 => absurd heq c0)
                              refine lv_iinc (v := x3 + (4 : Int32)) (lv' := [(3, .int (x3 + (4 : Int32))), (0, .ref sb), (1, .ref (a 0)), (2, .ref (b 0))]) hx hb dL_law_685 hl (k := 3) rfl rfl (by decide) rfl (fun ls hl => ?_)
                              refine lv_goto (tgt := 18) hx hb dL_law_688 (by decide) ?_
                              exact ih (i + 4) _ (by omega) (by omega) (hi4) hA hH hS0 hPd Z (lv_sub hl [1, 2, 3, 0] rfl)
                            · rcases Decidable.em (((xs x3.toNatClampNeg) &&& (31 : Int32)) = (12 : Int32)) with k12 | k12
                              · refine z_tabIn hx hb 12 k12 (off := 416) (tgt := 448) dL_law_32 (by decide) (by decide) (by decide) (by decide) ?_
                                obtain ⟨R1, R2, hR1, hR2, heq⟩ := st_back (a_pad_codes := a_pad_codes) (a_pad_length := a_pad_length) (a_padPattern_heights := a_padPattern_heights) (a_padPattern_length := a_padPattern_length) (b_pad := b_pad) (b_padLong := b_padLong) (b_heights := b_heights) (b_many := b_many) hPd (xs (x3 + (1 : Int32)).toNatClampNeg)
                                refine lv_aload_n hx hb dL_law_448 rfl (lv_at hl 1 rfl) ?_
                                refine lv_aload_n hx hb dL_law_449 rfl (lv_at hl 0 rfl) ?_
                                refine lv_iload_n hx hb dL_law_450 rfl (lv_at hl 3 rfl) ?_
                                refine lv_iconst (v := 1) hx hb dL_law_451 (by decide) ?_
                                refine lv_iadd hx hb dL_law_452 ?_
                                refine va_sld hx hb hX hbl hbA Z.2.2 hin1 dL_law_453 ?_
                                refine z_callV X Z (c_X7_back l D cI cR a a_now a_ahead a_pad_codes a_pad_length a_padPattern_heights a_padPattern_length a_ways_steps a_ways_firstThrows a_ways_lastThrows a_ways_reached a_ways_reachedCount a_history_rs a_history_oldest a_history_size a_slotZero_kept a_slotZero_filled a_slotOne_kept a_slotOne_filled (xs (x3 + (1 : Int32)).toNatClampNeg) hR1) (zw_L_65 X.1.2.2.2.2 ⟨Nat.le_of_ble_eq_true rfl, Nat.le_of_ble_eq_true rfl⟩) 0 7 rfl rfl rfl [0] [1] [w_X7 cI cR a a_now a_ahead a_pad_codes a_pad_length R1.2.1 R1.2.2 a_ways_steps a_ways_firstThrows a_ways_lastThrows a_ways_reached a_ways_reachedCount a_history_rs a_history_oldest a_history_size a_slotZero_kept a_slotZero_filled a_slotOne_kept a_slotOne_filled, w_X8 cI cR b b_all b_kept b_history b_historyLong b_slots b_isSaved b_pad b_padLong b_readHeight b_readPass b_readMany b_heights b_many b_takes] (by decide : ([0] ++ [1] : List Nat).Perm (List.range 2)) rfl rfl rfl rfl rfl hl.1 rfl (Nat.le_of_ble_eq_true rfl) dL_law_454 ⟨Nat.le_of_ble_eq_true rfl, Nat.le_of_ble_eq_true rfl⟩ (fun H locs Z => ?_)
                                refine lv_aload_n hx hb dL_law_457 rfl (lv_at hl 2 rfl) ?_
                                refine lv_aload_n hx hb dL_law_458 rfl (lv_at hl 0 rfl) ?_
                                refine lv_iload_n hx hb dL_law_459 rfl (lv_at hl 3 rfl) ?_
                                refine lv_iconst (v := 1) hx hb dL_law_460 (by decide) ?_
                                refine lv_iadd hx hb dL_law_461 ?_
                                refine va_sld hx hb hX hbl hbA Z.2.2 hin1 dL_law_462 ?_
                                refine z_callV X Z (c_X8_back l D cI cR b b_all b_kept b_history b_historyLong b_slots b_isSaved b_pad b_padLong b_readHeight b_readPass b_readMany b_heights b_many b_takes (xs (x3 + (1 : Int32)).toNatClampNeg) hR2) (zw_L_68 X.1.2.2.2.2 ⟨Nat.le_of_ble_eq_true rfl, Nat.le_of_ble_eq_true rfl⟩) 64 8 rfl rfl rfl [1] [0] [w_X7 cI cR a a_now a_ahead a_pad_codes a_pad_length R1.2.1 R1.2.2 a_ways_steps a_ways_firstThrows a_ways_lastThrows a_ways_reached a_ways_reachedCount a_history_rs a_history_oldest a_history_size a_slotZero_kept a_slotZero_filled a_slotOne_kept a_slotOne_filled, w_X8 cI cR b b_all b_kept b_history b_historyLong b_slots b_isSaved b_pad b_padLong b_readHeight b_readPass b_readMany R2.2.1 R2.2.2 b_takes] (by decide : ([1] ++ [0] : List Nat).Perm (List.range 2)) rfl rfl rfl rfl rfl hl.1 rfl (Nat.le_of_ble_eq_true rfl) dL_law_463 ⟨Nat.le_of_ble_eq_true rfl, Nat.le_of_ble_eq_true rfl⟩ (fun H locs Z => ?_)
                                refine lv_icmp_eq (tgt := 685) hx hb dL_law_466 (by decide) (fun _ => ?_) (fun c0 => absurd heq c0)
                                refine lv_iinc (v := x3 + (4 : Int32)) (lv' := [(3, .int (x3 + (4 : Int32))), (0, .ref sb), (1, .ref (a 0)), (2, .ref (b 0))]) hx hb dL_law_685 hl (k := 3) rfl rfl (by decide) rfl (fun ls hl => ?_)
                                refine lv_goto (tgt := 18) hx hb dL_law_688 (by decide) ?_
                                exact ih (i + 4) _ (by omega) (by omega) (hi4) hA hH hS0 hPd Z (lv_sub hl [1, 2, 3, 0] rfl)
                              · rcases Decidable.em (((xs x3.toNatClampNeg) &&& (31 : Int32)) = (13 : Int32)) with k13 | k13
                                · refine z_tabIn hx hb 13 k13 (off := 439) (tgt := 471) dL_law_32 (by decide) (by decide) (by decide) (by decide) ?_
                                  obtain ⟨R1, R2, hR1, hR2, heq⟩ := st_way (a_now := a_now) (a_ways_steps := a_ways_steps) (a_ways_firstThrows := a_ways_firstThrows) (a_ways_lastThrows := a_ways_lastThrows) (a_ways_reached := a_ways_reached) (a_ways_reachedCount := a_ways_reachedCount) (b_all := b_all) (b_takes := b_takes) hA (xs (x3 + (1 : Int32)).toNatClampNeg) (xs (x3 + (2 : Int32)).toNatClampNeg) (xs (x3 + (3 : Int32)).toNatClampNeg)
                                  refine lv_aload_n hx hb dL_law_471 rfl (lv_at hl 1 rfl) ?_
                                  refine lv_aload_n hx hb dL_law_472 rfl (lv_at hl 0 rfl) ?_
                                  refine lv_iload_n hx hb dL_law_473 rfl (lv_at hl 3 rfl) ?_
                                  refine lv_iconst (v := 1) hx hb dL_law_474 (by decide) ?_
                                  refine lv_iadd hx hb dL_law_475 ?_
                                  refine va_sld hx hb hX hbl hbA Z.2.2 hin1 dL_law_476 ?_
                                  refine lv_aload_n hx hb dL_law_477 rfl (lv_at hl 0 rfl) ?_
                                  refine lv_iload_n hx hb dL_law_478 rfl (lv_at hl 3 rfl) ?_
                                  refine lv_iconst (v := 2) hx hb dL_law_479 (by decide) ?_
                                  refine lv_iadd hx hb dL_law_480 ?_
                                  refine va_sld hx hb hX hbl hbA Z.2.2 hin2 dL_law_481 ?_
                                  refine lv_aload_n hx hb dL_law_482 rfl (lv_at hl 0 rfl) ?_
                                  refine lv_iload_n hx hb dL_law_483 rfl (lv_at hl 3 rfl) ?_
                                  refine lv_iconst (v := 3) hx hb dL_law_484 (by decide) ?_
                                  refine lv_iadd hx hb dL_law_485 ?_
                                  refine va_sld hx hb hX hbl hbA Z.2.2 hin3 dL_law_486 ?_
                                  refine z_callV X Z (c_X7_way l D cI cR a a_now a_ahead a_pad_codes a_pad_length a_padPattern_heights a_padPattern_length a_ways_steps a_ways_firstThrows a_ways_lastThrows a_ways_reached a_ways_reachedCount a_history_rs a_history_oldest a_history_size a_slotZero_kept a_slotZero_filled a_slotOne_kept a_slotOne_filled (xs (x3 + (1 : Int32)).toNatClampNeg) (xs (x3 + (2 : Int32)).toNatClampNeg) (xs (x3 + (3 : Int32)).toNatClampNeg) hR1) (zw_L_69 X.1.2.2.2.2 ⟨Nat.le_of_ble_eq_true rfl, Nat.le_of_ble_eq_true rfl⟩) 0 7 rfl rfl rfl [0] [1] [w_X7 cI cR a a_now a_ahead a_pad_codes a_pad_length a_padPattern_heights a_padPattern_length R1.2.1 R1.2.2.1 R1.2.2.2.1 R1.2.2.2.2.1 R1.2.2.2.2.2 a_history_rs a_history_oldest a_history_size a_slotZero_kept a_slotZero_filled a_slotOne_kept a_slotOne_filled, w_X8 cI cR b b_all b_kept b_history b_historyLong b_slots b_isSaved b_pad b_padLong b_readHeight b_readPass b_readMany b_heights b_many b_takes] (by decide : ([0] ++ [1] : List Nat).Perm (List.range 2)) rfl rfl rfl rfl rfl hl.1 rfl (Nat.le_of_ble_eq_true rfl) dL_law_487 ⟨Nat.le_of_ble_eq_true rfl, Nat.le_of_ble_eq_true rfl⟩ (fun H locs Z => ?_)
                                  refine lv_aload_n hx hb dL_law_490 rfl (lv_at hl 2 rfl) ?_
                                  refine lv_aload_n hx hb dL_law_491 rfl (lv_at hl 0 rfl) ?_
                                  refine lv_iload_n hx hb dL_law_492 rfl (lv_at hl 3 rfl) ?_
                                  refine lv_iconst (v := 1) hx hb dL_law_493 (by decide) ?_
                                  refine lv_iadd hx hb dL_law_494 ?_
                                  refine va_sld hx hb hX hbl hbA Z.2.2 hin1 dL_law_495 ?_
                                  refine lv_aload_n hx hb dL_law_496 rfl (lv_at hl 0 rfl) ?_
                                  refine lv_iload_n hx hb dL_law_497 rfl (lv_at hl 3 rfl) ?_
                                  refine lv_iconst (v := 2) hx hb dL_law_498 (by decide) ?_
                                  refine lv_iadd hx hb dL_law_499 ?_
                                  refine va_sld hx hb hX hbl hbA Z.2.2 hin2 dL_law_500 ?_
                                  refine lv_aload_n hx hb dL_law_501 rfl (lv_at hl 0 rfl) ?_
                                  refine lv_iload_n hx hb dL_law_502 rfl (lv_at hl 3 rfl) ?_
                                  refine lv_iconst (v := 3) hx hb dL_law_503 (by decide) ?_
                                  refine lv_iadd hx hb dL_law_504 ?_
                                  refine va_sld hx hb hX hbl hbA Z.2.2 hin3 dL_law_505 ?_
                                  refine z_callV X Z (c_X8_way l D cI cR b b_all b_kept b_history b_historyLong b_slots b_isSaved b_pad b_padLong b_readHeight b_readPass b_readMany b_heights b_many b_takes (xs (x3 + (1 : Int32)).toNatClampNeg) (xs (x3 + (2 : Int32)).toNatClampNeg) (xs (x3 + (3 : Int32)).toNatClampNeg) hR2) (zw_L_72 X.1.2.2.2.2 ⟨Nat.le_of_ble_eq_true rfl, Nat.le_of_ble_eq_true rfl⟩) 64 8 rfl rfl rfl [1] [0] [w_X7 cI cR a a_now a_ahead a_pad_codes a_pad_length a_padPattern_heights a_padPattern_length R1.2.1 R1.2.2.1 R1.2.2.2.1 R1.2.2.2.2.1 R1.2.2.2.2.2 a_history_rs a_history_oldest a_history_size a_slotZero_kept a_slotZero_filled a_slotOne_kept a_slotOne_filled, w_X8 cI cR b b_all b_kept b_history b_historyLong b_slots b_isSaved b_pad b_padLong b_readHeight b_readPass b_readMany b_heights b_many R2.2] (by decide : ([1] ++ [0] : List Nat).Perm (List.range 2)) rfl rfl rfl rfl rfl hl.1 rfl (Nat.le_of_ble_eq_true rfl) dL_law_506 ⟨Nat.le_of_ble_eq_true rfl, Nat.le_of_ble_eq_true rfl⟩ (fun H locs Z => ?_)
                                  refine lv_icmp_eq (tgt := 685) hx hb dL_law_509 (by decide) (fun _ => ?_) (fun c0 => absurd heq c0)
                                  refine lv_iinc (v := x3 + (4 : Int32)) (lv' := [(3, .int (x3 + (4 : Int32))), (0, .ref sb), (1, .ref (a 0)), (2, .ref (b 0))]) hx hb dL_law_685 hl (k := 3) rfl rfl (by decide) rfl (fun ls hl => ?_)
                                  refine lv_goto (tgt := 18) hx hb dL_law_688 (by decide) ?_
                                  exact ih (i + 4) _ (by omega) (by omega) (hi4) hA hH hS0 hPd Z (lv_sub hl [1, 2, 3, 0] rfl)
                                · rcases Decidable.em (((xs x3.toNatClampNeg) &&& (31 : Int32)) = (14 : Int32)) with k14 | k14
                                  · refine z_tabIn hx hb 14 k14 (off := 482) (tgt := 514) dL_law_32 (by decide) (by decide) (by decide) (by decide) ?_
                                    obtain ⟨R1, R2, hR1, hR2, heq⟩ := st_howMany (b_heights := b_heights) (b_many := b_many) (xs (x3 + (1 : Int32)).toNatClampNeg) (xs (x3 + (2 : Int32)).toNatClampNeg)
                                    refine lv_aload_n hx hb dL_law_514 rfl (lv_at hl 1 rfl) ?_
                                    refine lv_aload_n hx hb dL_law_515 rfl (lv_at hl 0 rfl) ?_
                                    refine lv_iload_n hx hb dL_law_516 rfl (lv_at hl 3 rfl) ?_
                                    refine lv_iconst (v := 1) hx hb dL_law_517 (by decide) ?_
                                    refine lv_iadd hx hb dL_law_518 ?_
                                    refine va_sld hx hb hX hbl hbA Z.2.2 hin1 dL_law_519 ?_
                                    refine lv_aload_n hx hb dL_law_520 rfl (lv_at hl 0 rfl) ?_
                                    refine lv_iload_n hx hb dL_law_521 rfl (lv_at hl 3 rfl) ?_
                                    refine lv_iconst (v := 2) hx hb dL_law_522 (by decide) ?_
                                    refine lv_iadd hx hb dL_law_523 ?_
                                    refine va_sld hx hb hX hbl hbA Z.2.2 hin2 dL_law_524 ?_
                                    refine z_roV X Z (c_X7_howMany l D cI cR a a_now a_ahead a_pad_codes a_pad_length a_padPattern_heights a_padPattern_length a_ways_steps a_ways_firstThrows a_ways_lastThrows a_ways_reached a_ways_reachedCount a_history_rs a_history_oldest a_history_size a_slotZero_kept a_slotZero_filled a_slotOne_kept a_slotOne_filled (xs (x3 + (1 : Int32)).toNatClampNeg) (xs (x3 + (2 : Int32)).toNatClampNeg) hR1) (zw_L_73 X.1.2.2.2.2 ⟨Nat.le_of_ble_eq_true rfl, Nat.le_of_ble_eq_true rfl⟩) 0 7 rfl rfl rfl [0] [1] (by decide : ([0] ++ [1] : List Nat).Perm (List.range 2)) rfl rfl hl.1 rfl (Nat.le_of_ble_eq_true rfl) dL_law_525 ⟨Nat.le_of_ble_eq_true rfl, Nat.le_of_ble_eq_true rfl⟩ (fun H locs Z => ?_)
                                    refine lv_aload_n hx hb dL_law_528 rfl (lv_at hl 2 rfl) ?_
                                    refine lv_aload_n hx hb dL_law_529 rfl (lv_at hl 0 rfl) ?_
                                    refine lv_iload_n hx hb dL_law_530 rfl (lv_at hl 3 rfl) ?_
                                    refine lv_iconst (v := 1) hx hb dL_law_531 (by decide) ?_
                                    refine lv_iadd hx hb dL_law_532 ?_
                                    refine va_sld hx hb hX hbl hbA Z.2.2 hin1 dL_law_533 ?_
                                    refine lv_aload_n hx hb dL_law_534 rfl (lv_at hl 0 rfl) ?_
                                    refine lv_iload_n hx hb dL_law_535 rfl (lv_at hl 3 rfl) ?_
                                    refine lv_iconst (v := 2) hx hb dL_law_536 (by decide) ?_
                                    refine lv_iadd hx hb dL_law_537 ?_
                                    refine va_sld hx hb hX hbl hbA Z.2.2 hin2 dL_law_538 ?_
                                    refine z_callV X Z (c_X8_howMany l D cI cR b b_all b_kept b_history b_historyLong b_slots b_isSaved b_pad b_padLong b_readHeight b_readPass b_readMany b_heights b_many b_takes (xs (x3 + (1 : Int32)).toNatClampNeg) (xs (x3 + (2 : Int32)).toNatClampNeg) hR2) (zw_L_76 X.1.2.2.2.2 ⟨Nat.le_of_ble_eq_true rfl, Nat.le_of_ble_eq_true rfl⟩) 64 8 rfl rfl rfl [1] [0] [w_X7 cI cR a a_now a_ahead a_pad_codes a_pad_length a_padPattern_heights a_padPattern_length a_ways_steps a_ways_firstThrows a_ways_lastThrows a_ways_reached a_ways_reachedCount a_history_rs a_history_oldest a_history_size a_slotZero_kept a_slotZero_filled a_slotOne_kept a_slotOne_filled, w_X8 cI cR b b_all b_kept b_history b_historyLong b_slots b_isSaved b_pad b_padLong b_readHeight b_readPass b_readMany R2.2.1 R2.2.2 b_takes] (by decide : ([1] ++ [0] : List Nat).Perm (List.range 2)) rfl rfl rfl rfl rfl hl.1 rfl (Nat.le_of_ble_eq_true rfl) dL_law_539 ⟨Nat.le_of_ble_eq_true rfl, Nat.le_of_ble_eq_true rfl⟩ (fun H locs Z => ?_)
                                    refine lv_icmp_eq (tgt := 685) hx hb dL_law_542 (by decide) (fun _ => ?_) (fun c0 => absurd heq c0)
                                    refine lv_iinc (v := x3 + (4 : Int32)) (lv' := [(3, .int (x3 + (4 : Int32))), (0, .ref sb), (1, .ref (a 0)), (2, .ref (b 0))]) hx hb dL_law_685 hl (k := 3) rfl rfl (by decide) rfl (fun ls hl => ?_)
                                    refine lv_goto (tgt := 18) hx hb dL_law_688 (by decide) ?_
                                    exact ih (i + 4) _ (by omega) (by omega) (hi4) hA hH hS0 hPd Z (lv_sub hl [1, 2, 3, 0] rfl)
                                  · rcases Decidable.em (((xs x3.toNatClampNeg) &&& (31 : Int32)) = (15 : Int32)) with k15 | k15
                                    · refine z_tabIn hx hb 15 k15 (off := 515) (tgt := 547) dL_law_32 (by decide) (by decide) (by decide) (by decide) ?_
                                      obtain ⟨R1, R2, hR1, hR2, heq, nP⟩ := st_put (a_pad_codes := a_pad_codes) (a_pad_length := a_pad_length) (b_pad := b_pad) (b_padLong := b_padLong) hPd (((xs (x3 + (1 : Int32)).toNatClampNeg).toInt64 <<< ((32 : Int32).toInt64 &&& 63)) ||| ((xs (x3 + (2 : Int32)).toNatClampNeg).toInt64 &&& (4294967295 : Int64)))
                                      refine lv_aload_n hx hb dL_law_547 rfl (lv_at hl 1 rfl) ?_
                                      refine lv_aload_n hx hb dL_law_548 rfl (lv_at hl 0 rfl) ?_
                                      refine lv_iload_n hx hb dL_law_549 rfl (lv_at hl 3 rfl) ?_
                                      refine lv_iconst (v := 1) hx hb dL_law_550 (by decide) ?_
                                      refine lv_iadd hx hb dL_law_551 ?_
                                      refine va_sld hx hb hX hbl hbA Z.2.2 hin1 dL_law_552 ?_
                                      refine lv_i2l hx hb dL_law_553 rfl ?_
                                      refine lv_bipush (v := 32) hx hb dL_law_554 (by decide) ?_
                                      refine lv_lshl hx hb dL_law_556 rfl ?_
                                      refine lv_aload_n hx hb dL_law_557 rfl (lv_at hl 0 rfl) ?_
                                      refine lv_iload_n hx hb dL_law_558 rfl (lv_at hl 3 rfl) ?_
                                      refine lv_iconst (v := 2) hx hb dL_law_559 (by decide) ?_
                                      refine lv_iadd hx hb dL_law_560 ?_
                                      refine va_sld hx hb hX hbl hbA Z.2.2 hin2 dL_law_561 ?_
                                      refine lv_i2l hx hb dL_law_562 rfl ?_
                                      refine lv_ldc2 hx hb X.1.2.2.2.1 (X.1.2.2.2.2 _ mk_L_77) dL_law_563 ?_
                                      refine lv_land hx hb dL_law_566 ?_
                                      refine lv_lor hx hb dL_law_567 ?_
                                      refine z_callV X Z (c_X7_put l D cI cR a a_now a_ahead a_pad_codes a_pad_length a_padPattern_heights a_padPattern_length a_ways_steps a_ways_firstThrows a_ways_lastThrows a_ways_reached a_ways_reachedCount a_history_rs a_history_oldest a_history_size a_slotZero_kept a_slotZero_filled a_slotOne_kept a_slotOne_filled ((((xs (x3 + (1 : Int32)).toNatClampNeg).toInt64) <<< ((32 : Int32).toInt64 &&& 63)) ||| (((xs (x3 + (2 : Int32)).toNatClampNeg).toInt64) &&& (4294967295 : Int64))) hR1) (zw_L_79 X.1.2.2.2.2 ⟨Nat.le_of_ble_eq_true rfl, Nat.le_of_ble_eq_true rfl⟩) 0 7 rfl rfl rfl [0] [1] [w_X7 cI cR a a_now a_ahead R1.2.1 R1.2.2 a_padPattern_heights a_padPattern_length a_ways_steps a_ways_firstThrows a_ways_lastThrows a_ways_reached a_ways_reachedCount a_history_rs a_history_oldest a_history_size a_slotZero_kept a_slotZero_filled a_slotOne_kept a_slotOne_filled, w_X8 cI cR b b_all b_kept b_history b_historyLong b_slots b_isSaved b_pad b_padLong b_readHeight b_readPass b_readMany b_heights b_many b_takes] (by decide : ([0] ++ [1] : List Nat).Perm (List.range 2)) rfl rfl rfl rfl rfl hl.1 rfl (Nat.le_of_ble_eq_true rfl) dL_law_568 ⟨Nat.le_of_ble_eq_true rfl, Nat.le_of_ble_eq_true rfl⟩ (fun H locs Z => ?_)
                                      refine lv_aload_n hx hb dL_law_571 rfl (lv_at hl 2 rfl) ?_
                                      refine lv_aload_n hx hb dL_law_572 rfl (lv_at hl 0 rfl) ?_
                                      refine lv_iload_n hx hb dL_law_573 rfl (lv_at hl 3 rfl) ?_
                                      refine lv_iconst (v := 1) hx hb dL_law_574 (by decide) ?_
                                      refine lv_iadd hx hb dL_law_575 ?_
                                      refine va_sld hx hb hX hbl hbA Z.2.2 hin1 dL_law_576 ?_
                                      refine lv_i2l hx hb dL_law_577 rfl ?_
                                      refine lv_bipush (v := 32) hx hb dL_law_578 (by decide) ?_
                                      refine lv_lshl hx hb dL_law_580 rfl ?_
                                      refine lv_aload_n hx hb dL_law_581 rfl (lv_at hl 0 rfl) ?_
                                      refine lv_iload_n hx hb dL_law_582 rfl (lv_at hl 3 rfl) ?_
                                      refine lv_iconst (v := 2) hx hb dL_law_583 (by decide) ?_
                                      refine lv_iadd hx hb dL_law_584 ?_
                                      refine va_sld hx hb hX hbl hbA Z.2.2 hin2 dL_law_585 ?_
                                      refine lv_i2l hx hb dL_law_586 rfl ?_
                                      refine lv_ldc2 hx hb X.1.2.2.2.1 (X.1.2.2.2.2 _ mk_L_77) dL_law_587 ?_
                                      refine lv_land hx hb dL_law_590 ?_
                                      refine lv_lor hx hb dL_law_591 ?_
                                      refine z_callV X Z (c_X8_put l D cI cR b b_all b_kept b_history b_historyLong b_slots b_isSaved b_pad b_padLong b_readHeight b_readPass b_readMany b_heights b_many b_takes ((((xs (x3 + (1 : Int32)).toNatClampNeg).toInt64) <<< ((32 : Int32).toInt64 &&& 63)) ||| (((xs (x3 + (2 : Int32)).toNatClampNeg).toInt64) &&& (4294967295 : Int64))) hR2) (zw_L_83 X.1.2.2.2.2 ⟨Nat.le_of_ble_eq_true rfl, Nat.le_of_ble_eq_true rfl⟩) 64 8 rfl rfl rfl [1] [0] [w_X7 cI cR a a_now a_ahead R1.2.1 R1.2.2 a_padPattern_heights a_padPattern_length a_ways_steps a_ways_firstThrows a_ways_lastThrows a_ways_reached a_ways_reachedCount a_history_rs a_history_oldest a_history_size a_slotZero_kept a_slotZero_filled a_slotOne_kept a_slotOne_filled, w_X8 cI cR b b_all b_kept b_history b_historyLong b_slots b_isSaved R2.2.1 R2.2.2 b_readHeight b_readPass b_readMany b_heights b_many b_takes] (by decide : ([1] ++ [0] : List Nat).Perm (List.range 2)) rfl rfl rfl rfl rfl hl.1 rfl (Nat.le_of_ble_eq_true rfl) dL_law_592 ⟨Nat.le_of_ble_eq_true rfl, Nat.le_of_ble_eq_true rfl⟩ (fun H locs Z => ?_)
                                      have hPd := nP
                                      refine lv_icmp_eq (tgt := 685) hx hb dL_law_595 (by decide) (fun _ => ?_) (fun c0 => absurd heq c0)
                                      refine lv_iinc (v := x3 + (4 : Int32)) (lv' := [(3, .int (x3 + (4 : Int32))), (0, .ref sb), (1, .ref (a 0)), (2, .ref (b 0))]) hx hb dL_law_685 hl (k := 3) rfl rfl (by decide) rfl (fun ls hl => ?_)
                                      refine lv_goto (tgt := 18) hx hb dL_law_688 (by decide) ?_
                                      exact ih (i + 4) _ (by omega) (by omega) (hi4) hA hH hS0 hPd Z (lv_sub hl [1, 2, 3, 0] rfl)
                                    · rcases Decidable.em (((xs x3.toNatClampNeg) &&& (31 : Int32)) = (16 : Int32)) with k16 | k16
                                      · refine z_tabIn hx hb 16 k16 (off := 568) (tgt := 600) dL_law_32 (by decide) (by decide) (by decide) (by decide) ?_
                                        obtain ⟨R1, R2, hR1, hR2, heq, nP⟩ := st_wipe (a_pad_length := a_pad_length) (b_padLong := b_padLong) hPd
                                        refine lv_aload_n hx hb dL_law_600 rfl (lv_at hl 1 rfl) ?_
                                        refine z_callV X Z (c_X7_wipe l D cI cR a a_now a_ahead a_pad_codes a_pad_length a_padPattern_heights a_padPattern_length a_ways_steps a_ways_firstThrows a_ways_lastThrows a_ways_reached a_ways_reachedCount a_history_rs a_history_oldest a_history_size a_slotZero_kept a_slotZero_filled a_slotOne_kept a_slotOne_filled  hR1) (zw_L_84 X.1.2.2.2.2 ⟨Nat.le_of_ble_eq_true rfl, Nat.le_of_ble_eq_true rfl⟩) 0 7 rfl rfl rfl [0] [1] [w_X7 cI cR a a_now a_ahead a_pad_codes R1.2 a_padPattern_heights a_padPattern_length a_ways_steps a_ways_firstThrows a_ways_lastThrows a_ways_reached a_ways_reachedCount a_history_rs a_history_oldest a_history_size a_slotZero_kept a_slotZero_filled a_slotOne_kept a_slotOne_filled, w_X8 cI cR b b_all b_kept b_history b_historyLong b_slots b_isSaved b_pad b_padLong b_readHeight b_readPass b_readMany b_heights b_many b_takes] (by decide : ([0] ++ [1] : List Nat).Perm (List.range 2)) rfl rfl rfl rfl rfl hl.1 rfl (Nat.le_of_ble_eq_true rfl) dL_law_601 ⟨Nat.le_of_ble_eq_true rfl, Nat.le_of_ble_eq_true rfl⟩ (fun H locs Z => ?_)
                                        refine lv_aload_n hx hb dL_law_604 rfl (lv_at hl 2 rfl) ?_
                                        refine z_callV X Z (c_X8_wipe l D cI cR b b_all b_kept b_history b_historyLong b_slots b_isSaved b_pad b_padLong b_readHeight b_readPass b_readMany b_heights b_many b_takes  hR2) (zw_L_87 X.1.2.2.2.2 ⟨Nat.le_of_ble_eq_true rfl, Nat.le_of_ble_eq_true rfl⟩) 64 8 rfl rfl rfl [1] [0] [w_X7 cI cR a a_now a_ahead a_pad_codes R1.2 a_padPattern_heights a_padPattern_length a_ways_steps a_ways_firstThrows a_ways_lastThrows a_ways_reached a_ways_reachedCount a_history_rs a_history_oldest a_history_size a_slotZero_kept a_slotZero_filled a_slotOne_kept a_slotOne_filled, w_X8 cI cR b b_all b_kept b_history b_historyLong b_slots b_isSaved b_pad R2.2 b_readHeight b_readPass b_readMany b_heights b_many b_takes] (by decide : ([1] ++ [0] : List Nat).Perm (List.range 2)) rfl rfl rfl rfl rfl hl.1 rfl (Nat.le_of_ble_eq_true rfl) dL_law_605 ⟨Nat.le_of_ble_eq_true rfl, Nat.le_of_ble_eq_true rfl⟩ (fun H locs Z => ?_)
                                        have hPd := nP
                                        refine lv_icmp_eq (tgt := 685) hx hb dL_law_608 (by decide) (fun _ => ?_) (fun c0 => absurd heq c0)
                                        refine lv_iinc (v := x3 + (4 : Int32)) (lv' := [(3, .int (x3 + (4 : Int32))), (0, .ref sb), (1, .ref (a 0)), (2, .ref (b 0))]) hx hb dL_law_685 hl (k := 3) rfl rfl (by decide) rfl (fun ls hl => ?_)
                                        refine lv_goto (tgt := 18) hx hb dL_law_688 (by decide) ?_
                                        exact ih (i + 4) _ (by omega) (by omega) (hi4) hA hH hS0 hPd Z (lv_sub hl [1, 2, 3, 0] rfl)
                                      · rcases Decidable.em (((xs x3.toNatClampNeg) &&& (31 : Int32)) = (17 : Int32)) with k17 | k17
                                        · refine z_tabIn hx hb 17 k17 (off := 581) (tgt := 613) dL_law_32 (by decide) (by decide) (by decide) (by decide) ?_
                                          obtain ⟨R1, R2, hR1, hR2, heq⟩ := st_fault (a_pad_codes := a_pad_codes) (a_pad_length := a_pad_length) (b_pad := b_pad) (b_padLong := b_padLong) (b_readHeight := b_readHeight) (b_readPass := b_readPass) (b_readMany := b_readMany) hPd
                                          refine lv_aload_n hx hb dL_law_613 rfl (lv_at hl 1 rfl) ?_
                                          refine z_roV X Z (c_X7_fault l D cI cR a a_now a_ahead a_pad_codes a_pad_length a_padPattern_heights a_padPattern_length a_ways_steps a_ways_firstThrows a_ways_lastThrows a_ways_reached a_ways_reachedCount a_history_rs a_history_oldest a_history_size a_slotZero_kept a_slotZero_filled a_slotOne_kept a_slotOne_filled  hR1) (zw_L_88 X.1.2.2.2.2 ⟨Nat.le_of_ble_eq_true rfl, Nat.le_of_ble_eq_true rfl⟩) 0 7 rfl rfl rfl [0] [1] (by decide : ([0] ++ [1] : List Nat).Perm (List.range 2)) rfl rfl hl.1 rfl (Nat.le_of_ble_eq_true rfl) dL_law_614 ⟨Nat.le_of_ble_eq_true rfl, Nat.le_of_ble_eq_true rfl⟩ (fun H locs Z => ?_)
                                          refine lv_aload_n hx hb dL_law_617 rfl (lv_at hl 2 rfl) ?_
                                          refine z_callV X Z (c_X8_fault l D cI cR b b_all b_kept b_history b_historyLong b_slots b_isSaved b_pad b_padLong b_readHeight b_readPass b_readMany b_heights b_many b_takes  hR2) (zw_L_91 X.1.2.2.2.2 ⟨Nat.le_of_ble_eq_true rfl, Nat.le_of_ble_eq_true rfl⟩) 64 8 rfl rfl rfl [1] [0] [w_X7 cI cR a a_now a_ahead a_pad_codes a_pad_length a_padPattern_heights a_padPattern_length a_ways_steps a_ways_firstThrows a_ways_lastThrows a_ways_reached a_ways_reachedCount a_history_rs a_history_oldest a_history_size a_slotZero_kept a_slotZero_filled a_slotOne_kept a_slotOne_filled, w_X8 cI cR b b_all b_kept b_history b_historyLong b_slots b_isSaved b_pad b_padLong R2.2.1 R2.2.2.1 R2.2.2.2 b_heights b_many b_takes] (by decide : ([1] ++ [0] : List Nat).Perm (List.range 2)) rfl rfl rfl rfl rfl hl.1 rfl (Nat.le_of_ble_eq_true rfl) dL_law_618 ⟨Nat.le_of_ble_eq_true rfl, Nat.le_of_ble_eq_true rfl⟩ (fun H locs Z => ?_)
                                          refine lv_icmp_eq (tgt := 685) hx hb dL_law_621 (by decide) (fun _ => ?_) (fun c0 => absurd heq c0)
                                          refine lv_iinc (v := x3 + (4 : Int32)) (lv' := [(3, .int (x3 + (4 : Int32))), (0, .ref sb), (1, .ref (a 0)), (2, .ref (b 0))]) hx hb dL_law_685 hl (k := 3) rfl rfl (by decide) rfl (fun ls hl => ?_)
                                          refine lv_goto (tgt := 18) hx hb dL_law_688 (by decide) ?_
                                          exact ih (i + 4) _ (by omega) (by omega) (hi4) hA hH hS0 hPd Z (lv_sub hl [1, 2, 3, 0] rfl)
                                        · rcases Decidable.em (((xs x3.toNatClampNeg) &&& (31 : Int32)) = (18 : Int32)) with k18 | k18
                                          · refine z_tabIn hx hb 18 k18 (off := 594) (tgt := 626) dL_law_32 (by decide) (by decide) (by decide) (by decide) ?_
                                            obtain ⟨R1, R2, hR1, hR2, heq, nA, nH⟩ := st_undo (a_now := a_now) (a_history_rs := a_history_rs) (a_history_oldest := a_history_oldest) (a_history_size := a_history_size) (b_all := b_all) (b_history := b_history) (b_historyLong := b_historyLong) hA hH
                                            refine lv_aload_n hx hb dL_law_626 rfl (lv_at hl 1 rfl) ?_
                                            refine z_callV X Z (c_X7_undo l D cI cR a a_now a_ahead a_pad_codes a_pad_length a_padPattern_heights a_padPattern_length a_ways_steps a_ways_firstThrows a_ways_lastThrows a_ways_reached a_ways_reachedCount a_history_rs a_history_oldest a_history_size a_slotZero_kept a_slotZero_filled a_slotOne_kept a_slotOne_filled  hR1) (zw_L_92 X.1.2.2.2.2 ⟨Nat.le_of_ble_eq_true rfl, Nat.le_of_ble_eq_true rfl⟩) 0 7 rfl rfl rfl [0] [1] [w_X7 cI cR a R1.2.1 a_ahead a_pad_codes a_pad_length a_padPattern_heights a_padPattern_length a_ways_steps a_ways_firstThrows a_ways_lastThrows a_ways_reached a_ways_reachedCount a_history_rs a_history_oldest R1.2.2 a_slotZero_kept a_slotZero_filled a_slotOne_kept a_slotOne_filled, w_X8 cI cR b b_all b_kept b_history b_historyLong b_slots b_isSaved b_pad b_padLong b_readHeight b_readPass b_readMany b_heights b_many b_takes] (by decide : ([0] ++ [1] : List Nat).Perm (List.range 2)) rfl rfl rfl rfl rfl hl.1 rfl (Nat.le_of_ble_eq_true rfl) dL_law_627 ⟨Nat.le_of_ble_eq_true rfl, Nat.le_of_ble_eq_true rfl⟩ (fun H locs Z => ?_)
                                            refine lv_aload_n hx hb dL_law_630 rfl (lv_at hl 2 rfl) ?_
                                            refine z_callV X Z (c_X8_undo l D cI cR b b_all b_kept b_history b_historyLong b_slots b_isSaved b_pad b_padLong b_readHeight b_readPass b_readMany b_heights b_many b_takes  hR2) (zw_L_95 X.1.2.2.2.2 ⟨Nat.le_of_ble_eq_true rfl, Nat.le_of_ble_eq_true rfl⟩) 64 8 rfl rfl rfl [1] [0] [w_X7 cI cR a R1.2.1 a_ahead a_pad_codes a_pad_length a_padPattern_heights a_padPattern_length a_ways_steps a_ways_firstThrows a_ways_lastThrows a_ways_reached a_ways_reachedCount a_history_rs a_history_oldest R1.2.2 a_slotZero_kept a_slotZero_filled a_slotOne_kept a_slotOne_filled, w_X8 cI cR b R2.2.1 b_kept b_history R2.2.2 b_slots b_isSaved b_pad b_padLong b_readHeight b_readPass b_readMany b_heights b_many b_takes] (by decide : ([1] ++ [0] : List Nat).Perm (List.range 2)) rfl rfl rfl rfl rfl hl.1 rfl (Nat.le_of_ble_eq_true rfl) dL_law_631 ⟨Nat.le_of_ble_eq_true rfl, Nat.le_of_ble_eq_true rfl⟩ (fun H locs Z => ?_)
                                            have hA := nA
                                            have hH := nH
                                            refine lv_icmp_eq (tgt := 685) hx hb dL_law_634 (by decide) (fun _ => ?_) (fun c0 => absurd heq c0)
                                            refine lv_iinc (v := x3 + (4 : Int32)) (lv' := [(3, .int (x3 + (4 : Int32))), (0, .ref sb), (1, .ref (a 0)), (2, .ref (b 0))]) hx hb dL_law_685 hl (k := 3) rfl rfl (by decide) rfl (fun ls hl => ?_)
                                            refine lv_goto (tgt := 18) hx hb dL_law_688 (by decide) ?_
                                            exact ih (i + 4) _ (by omega) (by omega) (hi4) hA hH hS0 hPd Z (lv_sub hl [1, 2, 3, 0] rfl)
                                          · rcases Decidable.em (((xs x3.toNatClampNeg) &&& (31 : Int32)) = (19 : Int32)) with k19 | k19
                                            · refine z_tabIn hx hb 19 k19 (off := 607) (tgt := 639) dL_law_32 (by decide) (by decide) (by decide) (by decide) ?_
                                              obtain ⟨R1, R2, hR1, hR2, heq, nS⟩ := st_save (a_now := a_now) (a_slotZero_kept := a_slotZero_kept) (a_slotZero_filled := a_slotZero_filled) (a_slotOne_kept := a_slotOne_kept) (a_slotOne_filled := a_slotOne_filled) (b_all := b_all) (b_slots := b_slots) (b_isSaved := b_isSaved) hA hS0 (xs (x3 + (1 : Int32)).toNatClampNeg)
                                              refine lv_aload_n hx hb dL_law_639 rfl (lv_at hl 1 rfl) ?_
                                              refine lv_aload_n hx hb dL_law_640 rfl (lv_at hl 0 rfl) ?_
                                              refine lv_iload_n hx hb dL_law_641 rfl (lv_at hl 3 rfl) ?_
                                              refine lv_iconst (v := 1) hx hb dL_law_642 (by decide) ?_
                                              refine lv_iadd hx hb dL_law_643 ?_
                                              refine va_sld hx hb hX hbl hbA Z.2.2 hin1 dL_law_644 ?_
                                              refine z_callV X Z (c_X7_save l D cI cR a a_now a_ahead a_pad_codes a_pad_length a_padPattern_heights a_padPattern_length a_ways_steps a_ways_firstThrows a_ways_lastThrows a_ways_reached a_ways_reachedCount a_history_rs a_history_oldest a_history_size a_slotZero_kept a_slotZero_filled a_slotOne_kept a_slotOne_filled (xs (x3 + (1 : Int32)).toNatClampNeg) hR1) (zw_L_96 X.1.2.2.2.2 ⟨Nat.le_of_ble_eq_true rfl, Nat.le_of_ble_eq_true rfl⟩) 0 7 rfl rfl rfl [0] [1] [w_X7 cI cR a a_now a_ahead a_pad_codes a_pad_length a_padPattern_heights a_padPattern_length a_ways_steps a_ways_firstThrows a_ways_lastThrows a_ways_reached a_ways_reachedCount a_history_rs a_history_oldest a_history_size R1.2.1 R1.2.2.1 R1.2.2.2.1 R1.2.2.2.2, w_X8 cI cR b b_all b_kept b_history b_historyLong b_slots b_isSaved b_pad b_padLong b_readHeight b_readPass b_readMany b_heights b_many b_takes] (by decide : ([0] ++ [1] : List Nat).Perm (List.range 2)) rfl rfl rfl rfl rfl hl.1 rfl (Nat.le_of_ble_eq_true rfl) dL_law_645 ⟨Nat.le_of_ble_eq_true rfl, Nat.le_of_ble_eq_true rfl⟩ (fun H locs Z => ?_)
                                              refine lv_aload_n hx hb dL_law_648 rfl (lv_at hl 2 rfl) ?_
                                              refine lv_aload_n hx hb dL_law_649 rfl (lv_at hl 0 rfl) ?_
                                              refine lv_iload_n hx hb dL_law_650 rfl (lv_at hl 3 rfl) ?_
                                              refine lv_iconst (v := 1) hx hb dL_law_651 (by decide) ?_
                                              refine lv_iadd hx hb dL_law_652 ?_
                                              refine va_sld hx hb hX hbl hbA Z.2.2 hin1 dL_law_653 ?_
                                              refine z_callV X Z (c_X8_save l D cI cR b b_all b_kept b_history b_historyLong b_slots b_isSaved b_pad b_padLong b_readHeight b_readPass b_readMany b_heights b_many b_takes (xs (x3 + (1 : Int32)).toNatClampNeg) hR2) (zw_L_99 X.1.2.2.2.2 ⟨Nat.le_of_ble_eq_true rfl, Nat.le_of_ble_eq_true rfl⟩) 64 8 rfl rfl rfl [1] [0] [w_X7 cI cR a a_now a_ahead a_pad_codes a_pad_length a_padPattern_heights a_padPattern_length a_ways_steps a_ways_firstThrows a_ways_lastThrows a_ways_reached a_ways_reachedCount a_history_rs a_history_oldest a_history_size R1.2.1 R1.2.2.1 R1.2.2.2.1 R1.2.2.2.2, w_X8 cI cR b b_all b_kept b_history b_historyLong R2.2.1 R2.2.2 b_pad b_padLong b_readHeight b_readPass b_readMany b_heights b_many b_takes] (by decide : ([1] ++ [0] : List Nat).Perm (List.range 2)) rfl rfl rfl rfl rfl hl.1 rfl (Nat.le_of_ble_eq_true rfl) dL_law_654 ⟨Nat.le_of_ble_eq_true rfl, Nat.le_of_ble_eq_true rfl⟩ (fun H locs Z => ?_)
                                              have hS0 := nS
                                              refine lv_icmp_eq (tgt := 685) hx hb dL_law_657 (by decide) (fun _ => ?_) (fun c0 => absurd heq c0)
                                              refine lv_iinc (v := x3 + (4 : Int32)) (lv' := [(3, .int (x3 + (4 : Int32))), (0, .ref sb), (1, .ref (a 0)), (2, .ref (b 0))]) hx hb dL_law_685 hl (k := 3) rfl rfl (by decide) rfl (fun ls hl => ?_)
                                              refine lv_goto (tgt := 18) hx hb dL_law_688 (by decide) ?_
                                              exact ih (i + 4) _ (by omega) (by omega) (hi4) hA hH hS0 hPd Z (lv_sub hl [1, 2, 3, 0] rfl)
                                            · rcases Decidable.em (((xs x3.toNatClampNeg) &&& (31 : Int32)) = (20 : Int32)) with k20 | k20
                                              · refine z_tabIn hx hb 20 k20 (off := 630) (tgt := 662) dL_law_32 (by decide) (by decide) (by decide) (by decide) ?_
                                                obtain ⟨R1, R2, hR1, hR2, heq, nA, nH⟩ := st_restore (a_now := a_now) (a_history_rs := a_history_rs) (a_history_oldest := a_history_oldest) (a_history_size := a_history_size) (a_slotZero_kept := a_slotZero_kept) (a_slotZero_filled := a_slotZero_filled) (a_slotOne_kept := a_slotOne_kept) (a_slotOne_filled := a_slotOne_filled) (b_all := b_all) (b_kept := b_kept) (b_history := b_history) (b_historyLong := b_historyLong) (b_slots := b_slots) (b_isSaved := b_isSaved) hA hH hS0 (xs (x3 + (1 : Int32)).toNatClampNeg)
                                                refine lv_aload_n hx hb dL_law_662 rfl (lv_at hl 1 rfl) ?_
                                                refine lv_aload_n hx hb dL_law_663 rfl (lv_at hl 0 rfl) ?_
                                                refine lv_iload_n hx hb dL_law_664 rfl (lv_at hl 3 rfl) ?_
                                                refine lv_iconst (v := 1) hx hb dL_law_665 (by decide) ?_
                                                refine lv_iadd hx hb dL_law_666 ?_
                                                refine va_sld hx hb hX hbl hbA Z.2.2 hin1 dL_law_667 ?_
                                                refine z_callV X Z (c_X7_restore l D cI cR a a_now a_ahead a_pad_codes a_pad_length a_padPattern_heights a_padPattern_length a_ways_steps a_ways_firstThrows a_ways_lastThrows a_ways_reached a_ways_reachedCount a_history_rs a_history_oldest a_history_size a_slotZero_kept a_slotZero_filled a_slotOne_kept a_slotOne_filled (xs (x3 + (1 : Int32)).toNatClampNeg) hR1) (zw_L_100 X.1.2.2.2.2 ⟨Nat.le_of_ble_eq_true rfl, Nat.le_of_ble_eq_true rfl⟩) 0 7 rfl rfl rfl [0] [1] [w_X7 cI cR a R1.2.1 a_ahead a_pad_codes a_pad_length a_padPattern_heights a_padPattern_length a_ways_steps a_ways_firstThrows a_ways_lastThrows a_ways_reached a_ways_reachedCount R1.2.2.1 R1.2.2.2.1 R1.2.2.2.2 a_slotZero_kept a_slotZero_filled a_slotOne_kept a_slotOne_filled, w_X8 cI cR b b_all b_kept b_history b_historyLong b_slots b_isSaved b_pad b_padLong b_readHeight b_readPass b_readMany b_heights b_many b_takes] (by decide : ([0] ++ [1] : List Nat).Perm (List.range 2)) rfl rfl rfl rfl rfl hl.1 rfl (Nat.le_of_ble_eq_true rfl) dL_law_668 ⟨Nat.le_of_ble_eq_true rfl, Nat.le_of_ble_eq_true rfl⟩ (fun H locs Z => ?_)
                                                refine lv_aload_n hx hb dL_law_671 rfl (lv_at hl 2 rfl) ?_
                                                refine lv_aload_n hx hb dL_law_672 rfl (lv_at hl 0 rfl) ?_
                                                refine lv_iload_n hx hb dL_law_673 rfl (lv_at hl 3 rfl) ?_
                                                refine lv_iconst (v := 1) hx hb dL_law_674 (by decide) ?_
                                                refine lv_iadd hx hb dL_law_675 ?_
                                                refine va_sld hx hb hX hbl hbA Z.2.2 hin1 dL_law_676 ?_
                                                refine z_callV X Z (c_X8_restore l D cI cR b b_all b_kept b_history b_historyLong b_slots b_isSaved b_pad b_padLong b_readHeight b_readPass b_readMany b_heights b_many b_takes (xs (x3 + (1 : Int32)).toNatClampNeg) hR2) (zw_L_103 X.1.2.2.2.2 ⟨Nat.le_of_ble_eq_true rfl, Nat.le_of_ble_eq_true rfl⟩) 64 8 rfl rfl rfl [1] [0] [w_X7 cI cR a R1.2.1 a_ahead a_pad_codes a_pad_length a_padPattern_heights a_padPattern_length a_ways_steps a_ways_firstThrows a_ways_lastThrows a_ways_reached a_ways_reachedCount R1.2.2.1 R1.2.2.2.1 R1.2.2.2.2 a_slotZero_kept a_slotZero_filled a_slotOne_kept a_slotOne_filled, w_X8 cI cR b R2.2.1 R2.2.2.1 R2.2.2.2.1 R2.2.2.2.2 b_slots b_isSaved b_pad b_padLong b_readHeight b_readPass b_readMany b_heights b_many b_takes] (by decide : ([1] ++ [0] : List Nat).Perm (List.range 2)) rfl rfl rfl rfl rfl hl.1 rfl (Nat.le_of_ble_eq_true rfl) dL_law_677 ⟨Nat.le_of_ble_eq_true rfl, Nat.le_of_ble_eq_true rfl⟩ (fun H locs Z => ?_)
                                                have hA := nA
                                                have hH := nH
                                                refine lv_icmp_eq (tgt := 685) hx hb dL_law_680 (by decide) (fun _ => ?_) (fun c0 => absurd heq c0)
                                                refine lv_iinc (v := x3 + (4 : Int32)) (lv' := [(3, .int (x3 + (4 : Int32))), (0, .ref sb), (1, .ref (a 0)), (2, .ref (b 0))]) hx hb dL_law_685 hl (k := 3) rfl rfl (by decide) rfl (fun ls hl => ?_)
                                                refine lv_goto (tgt := 18) hx hb dL_law_688 (by decide) ?_
                                                exact ih (i + 4) _ (by omega) (by omega) (hi4) hA hH hS0 hPd Z (lv_sub hl [1, 2, 3, 0] rfl)
                                              · refine lv_tableOut (tgt := 685) hx hb dL_law_32 ?_ (by decide) ?_
                                                · have e0 := z_ne k0
                                                  have e1 := z_ne k1
                                                  have e2 := z_ne k2
                                                  have e3 := z_ne k3
                                                  have e4 := z_ne k4
                                                  have e5 := z_ne k5
                                                  have e6 := z_ne k6
                                                  have e7 := z_ne k7
                                                  have e8 := z_ne k8
                                                  have e9 := z_ne k9
                                                  have e10 := z_ne k10
                                                  have e11 := z_ne k11
                                                  have e12 := z_ne k12
                                                  have e13 := z_ne k13
                                                  have e14 := z_ne k14
                                                  have e15 := z_ne k15
                                                  have e16 := z_ne k16
                                                  have e17 := z_ne k17
                                                  have e18 := z_ne k18
                                                  have e19 := z_ne k19
                                                  have e20 := z_ne k20
                                                  simp only [show (0 : Int32).toInt = 0 from by decide] at e0
                                                  simp only [show (1 : Int32).toInt = 1 from by decide] at e1
                                                  simp only [show (2 : Int32).toInt = 2 from by decide] at e2
                                                  simp only [show (3 : Int32).toInt = 3 from by decide] at e3
                                                  simp only [show (4 : Int32).toInt = 4 from by decide] at e4
                                                  simp only [show (5 : Int32).toInt = 5 from by decide] at e5
                                                  simp only [show (6 : Int32).toInt = 6 from by decide] at e6
                                                  simp only [show (7 : Int32).toInt = 7 from by decide] at e7
                                                  simp only [show (8 : Int32).toInt = 8 from by decide] at e8
                                                  simp only [show (9 : Int32).toInt = 9 from by decide] at e9
                                                  simp only [show (10 : Int32).toInt = 10 from by decide] at e10
                                                  simp only [show (11 : Int32).toInt = 11 from by decide] at e11
                                                  simp only [show (12 : Int32).toInt = 12 from by decide] at e12
                                                  simp only [show (13 : Int32).toInt = 13 from by decide] at e13
                                                  simp only [show (14 : Int32).toInt = 14 from by decide] at e14
                                                  simp only [show (15 : Int32).toInt = 15 from by decide] at e15
                                                  simp only [show (16 : Int32).toInt = 16 from by decide] at e16
                                                  simp only [show (17 : Int32).toInt = 17 from by decide] at e17
                                                  simp only [show (18 : Int32).toInt = 18 from by decide] at e18
                                                  simp only [show (19 : Int32).toInt = 19 from by decide] at e19
                                                  simp only [show (20 : Int32).toInt = 20 from by decide] at e20
                                                  omega
                                                · refine lv_iinc (v := x3 + (4 : Int32)) (lv' := [(3, .int (x3 + (4 : Int32))), (0, .ref sb), (1, .ref (a 0)), (2, .ref (b 0))]) hx hb dL_law_685 hl (k := 3) rfl rfl (by decide) rfl (fun ls hl => ?_)
                                                  refine lv_goto (tgt := 18) hx hb dL_law_688 (by decide) ?_
                                                  exact ih (i + 4) _ (by omega) (by omega) (hi4) hA hH hS0 hPd Z (lv_sub hl [1, 2, 3, 0] rfl)
