def f_L_isStep_L212 (a_now : ST) (a_ahead : ST) (a_history_rs : (Nat → ST)) (a_history_oldest : Int32) (a_history_size : Int32) (x2 : Int32) (x3 : Int32) (x4 : Int32) (x5 : Int32) (x7 : Int32) (x8 : Int32) : Nat → Int32 → Int32 → (Nat → Int32) → Int32 → Option (Int32 × ST × ST × (Nat → Int32) × Int32 × (Nat → ST) × Int32 × Int32)
  | 0, _, _, _, _ => none
  | n + 1, x6, x9, a_pad_codes, a_pad_length => if x7 ≤ x9 then (if x6 = 0 then (some ((0 : Int32), a_now, a_ahead, a_pad_codes, a_pad_length, a_history_rs, a_history_oldest, a_history_size)) else ((f_X7_fault a_pad_codes a_pad_length).bind (fun q24 => if q24 = (-6 : Int32) then ((f_X7_read a_now a_pad_codes a_pad_length a_history_rs a_history_oldest a_history_size).bind (fun q26 => if q26.1 = x4 then ((f_X7_of q26.2.1 x4 (2 : Int32)).bind (fun q28 => if q28 = x7 then ((f_X7_of q26.2.1 x4 (3 : Int32)).bind (fun q30 => if q30 = 0 then ((f_X7_count q26.2.1 q26.2.2.1 q26.2.2.2.2.2 (2 : Int32)).bind (fun q32 => if q32 = x5 then (some ((1 : Int32), q26.2.1, a_ahead, a_pad_codes, q26.2.2.1, q26.2.2.2.1, q26.2.2.2.2.1, q26.2.2.2.2.2)) else (some ((0 : Int32), q26.2.1, a_ahead, a_pad_codes, q26.2.2.1, q26.2.2.2.1, q26.2.2.2.2.1, q26.2.2.2.2.2)))) else (some ((0 : Int32), q26.2.1, a_ahead, a_pad_codes, q26.2.2.1, q26.2.2.2.1, q26.2.2.2.2.1, q26.2.2.2.2.2)))) else (some ((0 : Int32), q26.2.1, a_ahead, a_pad_codes, q26.2.2.1, q26.2.2.2.1, q26.2.2.2.2.1, q26.2.2.2.2.2)))) else (some ((0 : Int32), q26.2.1, a_ahead, a_pad_codes, q26.2.2.1, q26.2.2.2.1, q26.2.2.2.2.1, q26.2.2.2.2.2)))) else (some ((0 : Int32), a_now, a_ahead, a_pad_codes, a_pad_length, a_history_rs, a_history_oldest, a_history_size))))) else ((f_L_up (x3 >>> ((7 : Int32) &&& 31)) (3 : Int32)).bind (fun q34 => if q34 ≤ 0 then ((f_L_up (x2 >>> (((3 : Int32) * x9) &&& 31)) (8 : Int32)).bind (fun q36 => if x6 = 0 then (f_L_isStep_L212 a_now a_ahead a_history_rs a_history_oldest a_history_size x2 x3 x4 x5 x7 x8 n (0 : Int32) (x9 + (1 : Int32)) a_pad_codes a_pad_length) else ((f_X7_put a_pad_codes a_pad_length (((48 : Int32) + q36).toInt64)).bind (fun q38 => if q38.1 ≤ 0 then (f_L_isStep_L212 a_now a_ahead a_history_rs a_history_oldest a_history_size x2 x3 x4 x5 x7 x8 n (0 : Int32) (x9 + (1 : Int32)) q38.2.1 q38.2.2) else (if q36 = 0 then (f_L_isStep_L212 a_now a_ahead a_history_rs a_history_oldest a_history_size x2 x3 x4 x5 x7 x8 n (1 : Int32) (x9 + (1 : Int32)) q38.2.1 q38.2.2) else ((f_L_up (x2 >>> (x9 &&& 31)) (5 : Int32)).bind (fun q41 => if 0 < q41 then (f_L_isStep_L212 a_now a_ahead a_history_rs a_history_oldest a_history_size x2 x3 x4 x5 x7 x8 n (1 : Int32) (x9 + (1 : Int32)) q38.2.1 q38.2.2) else ((f_X7_put q38.2.1 q38.2.2 (112 : Int64)).bind (fun q43 => if q43.1 ≤ 0 then (f_L_isStep_L212 a_now a_ahead a_history_rs a_history_oldest a_history_size x2 x3 x4 x5 x7 x8 n (0 : Int32) (x9 + (1 : Int32)) q43.2.1 q43.2.2) else (f_L_isStep_L212 a_now a_ahead a_history_rs a_history_oldest a_history_size x2 x3 x4 x5 x7 x8 n (1 : Int32) (x9 + (1 : Int32)) q43.2.1 q43.2.2)))))))))) else (if x6 = 0 then (f_L_isStep_L212 a_now a_ahead a_history_rs a_history_oldest a_history_size x2 x3 x4 x5 x7 x8 n (0 : Int32) (x9 + (1 : Int32)) a_pad_codes a_pad_length) else ((f_X7_put a_pad_codes a_pad_length (((48 : Int32) + x8).toInt64)).bind (fun q46 => if q46.1 ≤ 0 then (f_L_isStep_L212 a_now a_ahead a_history_rs a_history_oldest a_history_size x2 x3 x4 x5 x7 x8 n (0 : Int32) (x9 + (1 : Int32)) q46.2.1 q46.2.2) else (if x8 = 0 then (f_L_isStep_L212 a_now a_ahead a_history_rs a_history_oldest a_history_size x2 x3 x4 x5 x7 x8 n (1 : Int32) (x9 + (1 : Int32)) q46.2.1 q46.2.2) else ((f_L_up (x2 >>> (x9 &&& 31)) (5 : Int32)).bind (fun q49 => if 0 < q49 then (f_L_isStep_L212 a_now a_ahead a_history_rs a_history_oldest a_history_size x2 x3 x4 x5 x7 x8 n (1 : Int32) (x9 + (1 : Int32)) q46.2.1 q46.2.2) else ((f_X7_put q46.2.1 q46.2.2 (112 : Int64)).bind (fun q51 => if q51.1 ≤ 0 then (f_L_isStep_L212 a_now a_ahead a_history_rs a_history_oldest a_history_size x2 x3 x4 x5 x7 x8 n (0 : Int32) (x9 + (1 : Int32)) q51.2.1 q51.2.2) else (f_L_isStep_L212 a_now a_ahead a_history_rs a_history_oldest a_history_size x2 x3 x4 x5 x7 x8 n (1 : Int32) (x9 + (1 : Int32)) q51.2.1 q51.2.2)))))))))))
set_option maxHeartbeats 4000000 in
set_option maxRecDepth 100000 in
theorem w_L_isStep_L212 {p : Program} {l : Launch} {e : Env} {s : State} {m : MethodId} {args : Array Value} {below : List Frame} {meth : Method} {c : Code} {D : va_G} {cI cR : ClassId} {A : Nat → Prop} {a : (Nat → Nat)} {a_now : ST} {a_ahead : ST} {a_padPattern_heights : (Nat → Int32)} {a_padPattern_length : Int32} {a_ways_steps : (Nat → Int32)} {a_ways_firstThrows : (Nat → Int32)} {a_ways_lastThrows : (Nat → Int32)} {a_ways_reached : (Nat → Int32)} {a_ways_reachedCount : Int32} {a_history_rs : (Nat → ST)} {a_history_oldest : Int32} {a_history_size : Int32} {a_slotZero_kept : ST} {a_slotZero_filled : Int32} {a_slotOne_kept : ST} {a_slotOne_filled : Int32} {x2 : Int32} {x3 : Int32} {x4 : Int32} {x5 : Int32} {x7 : Int32} {x8 : Int32} {R : Int32 × ST × ST × (Nat → Int32) × Int32 × (Nat → ST) × Int32 × Int32} (X : zX p s m c cL_isStep 14 args RL D cI cR A) (hr : meth.sig.returnType = (some .boolean)) (hlocks : meth.locks = false) : ∀ (n : Nat)  {x6 : Int32} {x9 : Int32} {a_pad_codes : (Nat → Int32)} {a_pad_length : Int32} {H : Heap} {locs : List Loc} {ls : Array Slot}, f_L_isStep_L212 a_now a_ahead a_history_rs a_history_oldest a_history_size x2 x3 x4 x5 x7 x8 n x6 x9 a_pad_codes a_pad_length = some R → zW D A s [w_X7 cI cR a a_now a_ahead a_pad_codes a_pad_length a_padPattern_heights a_padPattern_length a_ways_steps a_ways_firstThrows a_ways_lastThrows a_ways_reached a_ways_reachedCount a_history_rs a_history_oldest a_history_size a_slotZero_kept a_slotZero_filled a_slotOne_kept a_slotOne_filled] H locs → lv_has ls 14 [(0, .ref (a 0)), (2, .int x2), (3, .int x3), (4, .int x4), (5, .int x5), (6, .int x6), (7, .int x7), (8, .int x8), (9, .int x9)] → W p l e ({ frames := 6, cells := 0, slots := 0, locals := 130 } : Room) s m args below meth c H locs 0 0 (zE D A below s args (some (.int R.1)) [w_X7 cI cR a R.2.1 R.2.2.1 R.2.2.2.1 R.2.2.2.2.1 a_padPattern_heights a_padPattern_length a_ways_steps a_ways_firstThrows a_ways_lastThrows a_ways_reached a_ways_reachedCount R.2.2.2.2.2.1 R.2.2.2.2.2.2.1 R.2.2.2.2.2.2.2 a_slotZero_kept a_slotZero_filled a_slotOne_kept a_slotOne_filled]) (F0 m 212 ls []) := by
  have hx := X.1.1
  have hb := X.1.2.1
  intro n
  induction n with
  | zero =>
    intro x6 x9 a_pad_codes a_pad_length H locs ls hf
    have hf : none = some R := hf
    cases hf
  | succ n ih =>
    intro x6 x9 a_pad_codes a_pad_length H locs ls hf Z hl
    refine lv_iload hx hb dL_isStep_212 (lv_at hl 8 rfl) ?_
    refine lv_iload hx hb dL_isStep_214 (lv_at hl 6 rfl) ?_
    refine lv_icmp_ge (tgt := 305) hx hb dL_isStep_216 (by decide) (fun c22 => ?_) (fun c22 => ?_)
    · have hf := it_t c22 hf
      refine lv_iload hx hb dL_isStep_305 (lv_at hl 5 rfl) ?_
      refine lv_if_eq (tgt := 364) hx hb dL_isStep_307 (by decide) (fun c23 => ?_) (fun c23 => ?_)
      · have hf := it_t c23 hf
        refine lv_iconst (v := 0) hx hb dL_isStep_364 (by decide) ?_
        have hR := so_s hf
        subst hR
        refine z_zret X hr hlocks (Or.inl rfl) ?_ dL_isStep_365
        exact Z.eq rfl
      · have hf := it_f c23 hf
        refine lv_aload_n hx hb dL_isStep_310 rfl (lv_at hl 0 rfl) ?_
        obtain ⟨q24, hq24, hf⟩ := ob_s hf
        refine z_roV X Z (c_X7_fault l D cI cR a a_now a_ahead a_pad_codes a_pad_length a_padPattern_heights a_padPattern_length a_ways_steps a_ways_firstThrows a_ways_lastThrows a_ways_reached a_ways_reachedCount a_history_rs a_history_oldest a_history_size a_slotZero_kept a_slotZero_filled a_slotOne_kept a_slotOne_filled  hq24) (zw_L_39 X.1.2.2.2.2 ⟨Nat.le_of_ble_eq_true rfl, Nat.le_of_ble_eq_true rfl⟩) 0 7 rfl rfl rfl [0] [] (by decide : ([0] ++ [] : List Nat).Perm (List.range 1)) rfl rfl hl.1 rfl (Nat.le_of_ble_eq_true rfl) dL_isStep_311 ⟨Nat.le_of_ble_eq_true rfl, Nat.le_of_ble_eq_true rfl⟩ (fun H locs Z => ?_)
        refine lv_bipush (v := -6) hx hb dL_isStep_314 (by decide) ?_
        refine lv_icmp_ne (tgt := 364) hx hb dL_isStep_316 (by decide) (fun c25 => ?_) (fun c25 => ?_)
        · have hf := it_f c25 hf
          refine lv_iconst (v := 0) hx hb dL_isStep_364 (by decide) ?_
          have hR := so_s hf
          subst hR
          refine z_zret X hr hlocks (Or.inl rfl) ?_ dL_isStep_365
          exact Z.eq rfl
        · have hf := it_t c25 hf
          refine lv_aload_n hx hb dL_isStep_319 rfl (lv_at hl 0 rfl) ?_
          obtain ⟨q26, hq26, hf⟩ := ob_s hf
          refine z_callV X Z (c_X7_read l D cI cR a a_now a_ahead a_pad_codes a_pad_length a_padPattern_heights a_padPattern_length a_ways_steps a_ways_firstThrows a_ways_lastThrows a_ways_reached a_ways_reachedCount a_history_rs a_history_oldest a_history_size a_slotZero_kept a_slotZero_filled a_slotOne_kept a_slotOne_filled  hq26) (zw_L_42 X.1.2.2.2.2 ⟨Nat.le_of_ble_eq_true rfl, Nat.le_of_ble_eq_true rfl⟩) 0 7 rfl rfl rfl [0] [] [w_X7 cI cR a q26.2.1 a_ahead a_pad_codes q26.2.2.1 a_padPattern_heights a_padPattern_length a_ways_steps a_ways_firstThrows a_ways_lastThrows a_ways_reached a_ways_reachedCount q26.2.2.2.1 q26.2.2.2.2.1 q26.2.2.2.2.2 a_slotZero_kept a_slotZero_filled a_slotOne_kept a_slotOne_filled] (by decide : ([0] ++ [] : List Nat).Perm (List.range 1)) rfl rfl rfl rfl rfl hl.1 rfl (Nat.le_of_ble_eq_true rfl) dL_isStep_320 ⟨Nat.le_of_ble_eq_true rfl, Nat.le_of_ble_eq_true rfl⟩ (fun H locs Z => ?_)
          refine lv_iload hx hb dL_isStep_323 (lv_at hl 3 rfl) ?_
          refine lv_icmp_ne (tgt := 364) hx hb dL_isStep_325 (by decide) (fun c27 => ?_) (fun c27 => ?_)
          · have hf := it_f c27 hf
            refine lv_iconst (v := 0) hx hb dL_isStep_364 (by decide) ?_
            have hR := so_s hf
            subst hR
            refine z_zret X hr hlocks (Or.inl rfl) ?_ dL_isStep_365
            exact Z.eq rfl
          · have hf := it_t c27 hf
            refine lv_aload_n hx hb dL_isStep_328 rfl (lv_at hl 0 rfl) ?_
            refine lv_iload hx hb dL_isStep_329 (lv_at hl 3 rfl) ?_
            refine lv_iconst (v := 2) hx hb dL_isStep_331 (by decide) ?_
            obtain ⟨q28, hq28, hf⟩ := ob_s hf
            refine z_roV X Z (c_X7_of l D cI cR a q26.2.1 a_ahead a_pad_codes q26.2.2.1 a_padPattern_heights a_padPattern_length a_ways_steps a_ways_firstThrows a_ways_lastThrows a_ways_reached a_ways_reachedCount q26.2.2.2.1 q26.2.2.2.2.1 q26.2.2.2.2.2 a_slotZero_kept a_slotZero_filled a_slotOne_kept a_slotOne_filled x4 (2 : Int32) hq28) (zw_L_24 X.1.2.2.2.2 ⟨Nat.le_of_ble_eq_true rfl, Nat.le_of_ble_eq_true rfl⟩) 0 7 rfl rfl rfl [0] [] (by decide : ([0] ++ [] : List Nat).Perm (List.range 1)) rfl rfl hl.1 rfl (Nat.le_of_ble_eq_true rfl) dL_isStep_332 ⟨Nat.le_of_ble_eq_true rfl, Nat.le_of_ble_eq_true rfl⟩ (fun H locs Z => ?_)
            refine lv_iload hx hb dL_isStep_335 (lv_at hl 6 rfl) ?_
            refine lv_icmp_ne (tgt := 364) hx hb dL_isStep_337 (by decide) (fun c29 => ?_) (fun c29 => ?_)
            · have hf := it_f c29 hf
              refine lv_iconst (v := 0) hx hb dL_isStep_364 (by decide) ?_
              have hR := so_s hf
              subst hR
              refine z_zret X hr hlocks (Or.inl rfl) ?_ dL_isStep_365
              exact Z.eq rfl
            · have hf := it_t c29 hf
              refine lv_aload_n hx hb dL_isStep_340 rfl (lv_at hl 0 rfl) ?_
              refine lv_iload hx hb dL_isStep_341 (lv_at hl 3 rfl) ?_
              refine lv_iconst (v := 3) hx hb dL_isStep_343 (by decide) ?_
              obtain ⟨q30, hq30, hf⟩ := ob_s hf
              refine z_roV X Z (c_X7_of l D cI cR a q26.2.1 a_ahead a_pad_codes q26.2.2.1 a_padPattern_heights a_padPattern_length a_ways_steps a_ways_firstThrows a_ways_lastThrows a_ways_reached a_ways_reachedCount q26.2.2.2.1 q26.2.2.2.2.1 q26.2.2.2.2.2 a_slotZero_kept a_slotZero_filled a_slotOne_kept a_slotOne_filled x4 (3 : Int32) hq30) (zw_L_24 X.1.2.2.2.2 ⟨Nat.le_of_ble_eq_true rfl, Nat.le_of_ble_eq_true rfl⟩) 0 7 rfl rfl rfl [0] [] (by decide : ([0] ++ [] : List Nat).Perm (List.range 1)) rfl rfl hl.1 rfl (Nat.le_of_ble_eq_true rfl) dL_isStep_344 ⟨Nat.le_of_ble_eq_true rfl, Nat.le_of_ble_eq_true rfl⟩ (fun H locs Z => ?_)
              refine lv_if_ne (tgt := 364) hx hb dL_isStep_347 (by decide) (fun c31 => ?_) (fun c31 => ?_)
              · have hf := it_f c31 hf
                refine lv_iconst (v := 0) hx hb dL_isStep_364 (by decide) ?_
                have hR := so_s hf
                subst hR
                refine z_zret X hr hlocks (Or.inl rfl) ?_ dL_isStep_365
                exact Z.eq rfl
              · have hf := it_t c31 hf
                refine lv_aload_n hx hb dL_isStep_350 rfl (lv_at hl 0 rfl) ?_
                refine lv_iconst (v := 2) hx hb dL_isStep_351 (by decide) ?_
                obtain ⟨q32, hq32, hf⟩ := ob_s hf
                refine z_roV X Z (c_X7_count l D cI cR a q26.2.1 a_ahead a_pad_codes q26.2.2.1 a_padPattern_heights a_padPattern_length a_ways_steps a_ways_firstThrows a_ways_lastThrows a_ways_reached a_ways_reachedCount q26.2.2.2.1 q26.2.2.2.2.1 q26.2.2.2.2.2 a_slotZero_kept a_slotZero_filled a_slotOne_kept a_slotOne_filled (2 : Int32) hq32) (zw_L_15 X.1.2.2.2.2 ⟨Nat.le_of_ble_eq_true rfl, Nat.le_of_ble_eq_true rfl⟩) 0 7 rfl rfl rfl [0] [] (by decide : ([0] ++ [] : List Nat).Perm (List.range 1)) rfl rfl hl.1 rfl (Nat.le_of_ble_eq_true rfl) dL_isStep_352 ⟨Nat.le_of_ble_eq_true rfl, Nat.le_of_ble_eq_true rfl⟩ (fun H locs Z => ?_)
                refine lv_iload hx hb dL_isStep_355 (lv_at hl 4 rfl) ?_
                refine lv_icmp_ne (tgt := 364) hx hb dL_isStep_357 (by decide) (fun c33 => ?_) (fun c33 => ?_)
                · have hf := it_f c33 hf
                  refine lv_iconst (v := 0) hx hb dL_isStep_364 (by decide) ?_
                  have hR := so_s hf
                  subst hR
                  refine z_zret X hr hlocks (Or.inl rfl) ?_ dL_isStep_365
                  exact Z.eq rfl
                · have hf := it_t c33 hf
                  refine lv_iconst (v := 1) hx hb dL_isStep_360 (by decide) ?_
                  refine lv_goto (tgt := 365) hx hb dL_isStep_361 (by decide) ?_
                  have hR := so_s hf
                  subst hR
                  refine z_zret X hr hlocks (Or.inr rfl) ?_ dL_isStep_365
                  exact Z.eq rfl
    · have hf := it_f c22 hf
      refine lv_iload_n hx hb dL_isStep_219 rfl (lv_at hl 2 rfl) ?_
      refine lv_bipush (v := 7) hx hb dL_isStep_220 (by decide) ?_
      refine lv_ishr hx hb dL_isStep_222 ?_
      refine lv_iconst (v := 3) hx hb dL_isStep_223 (by decide) ?_
      obtain ⟨q34, hq34, hf⟩ := ob_s hf
      refine z_roS X Z (c_L_up l D cI cR   (x3 >>> ((7 : Int32) &&& 31)) (3 : Int32) hq34) (zw_L_9 X.1.2.2.2.2 ⟨Nat.le_of_ble_eq_true rfl, Nat.le_of_ble_eq_true rfl⟩) [] [0] (by decide : ([] ++ [0] : List Nat).Perm (List.range 1)) rfl rfl hl.1 rfl (Nat.le_of_ble_eq_true rfl) dL_isStep_224 ⟨Nat.le_of_ble_eq_true rfl, Nat.le_of_ble_eq_true rfl⟩ (fun H locs Z => ?_)
      refine lv_if_le (tgt := 235) hx hb dL_isStep_227 (by decide) (fun c35 => ?_) (fun c35 => ?_)
      · have hf := it_t c35 hf
        refine lv_iload_n hx hb dL_isStep_235 rfl (lv_at hl 1 rfl) ?_
        refine lv_iconst (v := 3) hx hb dL_isStep_236 (by decide) ?_
        refine lv_iload hx hb dL_isStep_237 (lv_at hl 8 rfl) ?_
        refine lv_imul hx hb dL_isStep_239 ?_
        refine lv_ishr hx hb dL_isStep_240 ?_
        refine lv_bipush (v := 8) hx hb dL_isStep_241 (by decide) ?_
        obtain ⟨q36, hq36, hf⟩ := ob_s hf
        refine z_roS X Z (c_L_up l D cI cR   (x2 >>> (((3 : Int32) * x9) &&& 31)) (8 : Int32) hq36) (zw_L_9 X.1.2.2.2.2 ⟨Nat.le_of_ble_eq_true rfl, Nat.le_of_ble_eq_true rfl⟩) [] [0] (by decide : ([] ++ [0] : List Nat).Perm (List.range 1)) rfl rfl hl.1 rfl (Nat.le_of_ble_eq_true rfl) dL_isStep_243 ⟨Nat.le_of_ble_eq_true rfl, Nat.le_of_ble_eq_true rfl⟩ (fun H locs Z => ?_)
        refine lv_istore (lv' := [(10, .int q36), (0, .ref (a 0)), (2, .int x2), (3, .int x3), (4, .int x4), (5, .int x5), (6, .int x6), (7, .int x7), (8, .int x8), (9, .int x9)]) hx hb dL_isStep_246 hl (by decide) rfl (fun ls hl => ?_)
        refine lv_iload hx hb dL_isStep_248 (lv_at hl 6 rfl) ?_
        refine lv_if_eq (tgt := 296) hx hb dL_isStep_250 (by decide) (fun c37 => ?_) (fun c37 => ?_)
        · have hf := it_t c37 hf
          refine lv_iconst (v := 0) hx hb dL_isStep_296 (by decide) ?_
          refine lv_istore (lv' := [(6, .int (0 : Int32)), (10, .int q36), (0, .ref (a 0)), (2, .int x2), (3, .int x3), (4, .int x4), (5, .int x5), (7, .int x7), (8, .int x8), (9, .int x9)]) hx hb dL_isStep_297 hl (by decide) rfl (fun ls hl => ?_)
          refine lv_iinc (v := x9 + (1 : Int32)) (lv' := [(9, .int (x9 + (1 : Int32))), (6, .int (0 : Int32)), (10, .int q36), (0, .ref (a 0)), (2, .int x2), (3, .int x3), (4, .int x4), (5, .int x5), (7, .int x7), (8, .int x8)]) hx hb dL_isStep_299 hl (k := 9) rfl rfl (by decide) rfl (fun ls hl => ?_)
          refine lv_goto (tgt := 212) hx hb dL_isStep_302 (by decide) ?_
          exact ih hf Z (lv_sub hl [3, 4, 5, 6, 7, 1, 8, 9, 0] rfl)
        · have hf := it_f c37 hf
          refine lv_aload_n hx hb dL_isStep_253 rfl (lv_at hl 1 rfl) ?_
          refine lv_bipush (v := 48) hx hb dL_isStep_254 (by decide) ?_
          refine lv_iload hx hb dL_isStep_256 (lv_at hl 0 rfl) ?_
          refine lv_iadd hx hb dL_isStep_258 ?_
          refine lv_i2l hx hb dL_isStep_259 rfl ?_
          obtain ⟨q38, hq38, hf⟩ := ob_s hf
          refine z_callV X Z (c_X7_put l D cI cR a a_now a_ahead a_pad_codes a_pad_length a_padPattern_heights a_padPattern_length a_ways_steps a_ways_firstThrows a_ways_lastThrows a_ways_reached a_ways_reachedCount a_history_rs a_history_oldest a_history_size a_slotZero_kept a_slotZero_filled a_slotOne_kept a_slotOne_filled (((48 : Int32) + q36).toInt64) hq38) (zw_L_31 X.1.2.2.2.2 ⟨Nat.le_of_ble_eq_true rfl, Nat.le_of_ble_eq_true rfl⟩) 0 7 rfl rfl rfl [0] [] [w_X7 cI cR a a_now a_ahead q38.2.1 q38.2.2 a_padPattern_heights a_padPattern_length a_ways_steps a_ways_firstThrows a_ways_lastThrows a_ways_reached a_ways_reachedCount a_history_rs a_history_oldest a_history_size a_slotZero_kept a_slotZero_filled a_slotOne_kept a_slotOne_filled] (by decide : ([0] ++ [] : List Nat).Perm (List.range 1)) rfl rfl rfl rfl rfl hl.1 rfl (Nat.le_of_ble_eq_true rfl) dL_isStep_260 ⟨Nat.le_of_ble_eq_true rfl, Nat.le_of_ble_eq_true rfl⟩ (fun H locs Z => ?_)
          refine lv_if_le (tgt := 296) hx hb dL_isStep_263 (by decide) (fun c39 => ?_) (fun c39 => ?_)
          · have hf := it_t c39 hf
            refine lv_iconst (v := 0) hx hb dL_isStep_296 (by decide) ?_
            refine lv_istore (lv' := [(6, .int (0 : Int32)), (10, .int q36), (0, .ref (a 0)), (2, .int x2), (3, .int x3), (4, .int x4), (5, .int x5), (7, .int x7), (8, .int x8), (9, .int x9)]) hx hb dL_isStep_297 hl (by decide) rfl (fun ls hl => ?_)
            refine lv_iinc (v := x9 + (1 : Int32)) (lv' := [(9, .int (x9 + (1 : Int32))), (6, .int (0 : Int32)), (10, .int q36), (0, .ref (a 0)), (2, .int x2), (3, .int x3), (4, .int x4), (5, .int x5), (7, .int x7), (8, .int x8)]) hx hb dL_isStep_299 hl (k := 9) rfl rfl (by decide) rfl (fun ls hl => ?_)
            refine lv_goto (tgt := 212) hx hb dL_isStep_302 (by decide) ?_
            exact ih hf Z (lv_sub hl [3, 4, 5, 6, 7, 1, 8, 9, 0] rfl)
          · have hf := it_f c39 hf
            refine lv_iload hx hb dL_isStep_266 (lv_at hl 0 rfl) ?_
            refine lv_if_eq (tgt := 292) hx hb dL_isStep_268 (by decide) (fun c40 => ?_) (fun c40 => ?_)
            · have hf := it_t c40 hf
              refine lv_iconst (v := 1) hx hb dL_isStep_292 (by decide) ?_
              refine lv_goto (tgt := 297) hx hb dL_isStep_293 (by decide) ?_
              refine lv_istore (lv' := [(6, .int (1 : Int32)), (10, .int q36), (0, .ref (a 0)), (2, .int x2), (3, .int x3), (4, .int x4), (5, .int x5), (7, .int x7), (8, .int x8), (9, .int x9)]) hx hb dL_isStep_297 hl (by decide) rfl (fun ls hl => ?_)
              refine lv_iinc (v := x9 + (1 : Int32)) (lv' := [(9, .int (x9 + (1 : Int32))), (6, .int (1 : Int32)), (10, .int q36), (0, .ref (a 0)), (2, .int x2), (3, .int x3), (4, .int x4), (5, .int x5), (7, .int x7), (8, .int x8)]) hx hb dL_isStep_299 hl (k := 9) rfl rfl (by decide) rfl (fun ls hl => ?_)
              refine lv_goto (tgt := 212) hx hb dL_isStep_302 (by decide) ?_
              exact ih hf Z (lv_sub hl [3, 4, 5, 6, 7, 1, 8, 9, 0] rfl)
            · have hf := it_f c40 hf
              refine lv_iload_n hx hb dL_isStep_271 rfl (lv_at hl 2 rfl) ?_
              refine lv_iload hx hb dL_isStep_272 (lv_at hl 9 rfl) ?_
              refine lv_ishr hx hb dL_isStep_274 ?_
              refine lv_iconst (v := 5) hx hb dL_isStep_275 (by decide) ?_
              obtain ⟨q41, hq41, hf⟩ := ob_s hf
              refine z_roS X Z (c_L_up l D cI cR   (x2 >>> (x9 &&& 31)) (5 : Int32) hq41) (zw_L_9 X.1.2.2.2.2 ⟨Nat.le_of_ble_eq_true rfl, Nat.le_of_ble_eq_true rfl⟩) [] [0] (by decide : ([] ++ [0] : List Nat).Perm (List.range 1)) rfl rfl hl.1 rfl (Nat.le_of_ble_eq_true rfl) dL_isStep_276 ⟨Nat.le_of_ble_eq_true rfl, Nat.le_of_ble_eq_true rfl⟩ (fun H locs Z => ?_)
              refine lv_if_gt (tgt := 292) hx hb dL_isStep_279 (by decide) (fun c42 => ?_) (fun c42 => ?_)
              · have hf := it_t c42 hf
                refine lv_iconst (v := 1) hx hb dL_isStep_292 (by decide) ?_
                refine lv_goto (tgt := 297) hx hb dL_isStep_293 (by decide) ?_
                refine lv_istore (lv' := [(6, .int (1 : Int32)), (10, .int q36), (0, .ref (a 0)), (2, .int x2), (3, .int x3), (4, .int x4), (5, .int x5), (7, .int x7), (8, .int x8), (9, .int x9)]) hx hb dL_isStep_297 hl (by decide) rfl (fun ls hl => ?_)
                refine lv_iinc (v := x9 + (1 : Int32)) (lv' := [(9, .int (x9 + (1 : Int32))), (6, .int (1 : Int32)), (10, .int q36), (0, .ref (a 0)), (2, .int x2), (3, .int x3), (4, .int x4), (5, .int x5), (7, .int x7), (8, .int x8)]) hx hb dL_isStep_299 hl (k := 9) rfl rfl (by decide) rfl (fun ls hl => ?_)
                refine lv_goto (tgt := 212) hx hb dL_isStep_302 (by decide) ?_
                exact ih hf Z (lv_sub hl [3, 4, 5, 6, 7, 1, 8, 9, 0] rfl)
              · have hf := it_f c42 hf
                refine lv_aload_n hx hb dL_isStep_282 rfl (lv_at hl 1 rfl) ?_
                refine lv_ldc2 hx hb X.1.2.2.2.1 (X.1.2.2.2.2 _ mk_L_37) dL_isStep_283 ?_
                obtain ⟨q43, hq43, hf⟩ := ob_s hf
                refine z_callV X Z (c_X7_put l D cI cR a a_now a_ahead q38.2.1 q38.2.2 a_padPattern_heights a_padPattern_length a_ways_steps a_ways_firstThrows a_ways_lastThrows a_ways_reached a_ways_reachedCount a_history_rs a_history_oldest a_history_size a_slotZero_kept a_slotZero_filled a_slotOne_kept a_slotOne_filled (112 : Int64) hq43) (zw_L_31 X.1.2.2.2.2 ⟨Nat.le_of_ble_eq_true rfl, Nat.le_of_ble_eq_true rfl⟩) 0 7 rfl rfl rfl [0] [] [w_X7 cI cR a a_now a_ahead q43.2.1 q43.2.2 a_padPattern_heights a_padPattern_length a_ways_steps a_ways_firstThrows a_ways_lastThrows a_ways_reached a_ways_reachedCount a_history_rs a_history_oldest a_history_size a_slotZero_kept a_slotZero_filled a_slotOne_kept a_slotOne_filled] (by decide : ([0] ++ [] : List Nat).Perm (List.range 1)) rfl rfl rfl rfl rfl hl.1 rfl (Nat.le_of_ble_eq_true rfl) dL_isStep_286 ⟨Nat.le_of_ble_eq_true rfl, Nat.le_of_ble_eq_true rfl⟩ (fun H locs Z => ?_)
                refine lv_if_le (tgt := 296) hx hb dL_isStep_289 (by decide) (fun c44 => ?_) (fun c44 => ?_)
                · have hf := it_t c44 hf
                  refine lv_iconst (v := 0) hx hb dL_isStep_296 (by decide) ?_
                  refine lv_istore (lv' := [(6, .int (0 : Int32)), (10, .int q36), (0, .ref (a 0)), (2, .int x2), (3, .int x3), (4, .int x4), (5, .int x5), (7, .int x7), (8, .int x8), (9, .int x9)]) hx hb dL_isStep_297 hl (by decide) rfl (fun ls hl => ?_)
                  refine lv_iinc (v := x9 + (1 : Int32)) (lv' := [(9, .int (x9 + (1 : Int32))), (6, .int (0 : Int32)), (10, .int q36), (0, .ref (a 0)), (2, .int x2), (3, .int x3), (4, .int x4), (5, .int x5), (7, .int x7), (8, .int x8)]) hx hb dL_isStep_299 hl (k := 9) rfl rfl (by decide) rfl (fun ls hl => ?_)
                  refine lv_goto (tgt := 212) hx hb dL_isStep_302 (by decide) ?_
                  exact ih hf Z (lv_sub hl [3, 4, 5, 6, 7, 1, 8, 9, 0] rfl)
                · have hf := it_f c44 hf
                  refine lv_iconst (v := 1) hx hb dL_isStep_292 (by decide) ?_
                  refine lv_goto (tgt := 297) hx hb dL_isStep_293 (by decide) ?_
                  refine lv_istore (lv' := [(6, .int (1 : Int32)), (10, .int q36), (0, .ref (a 0)), (2, .int x2), (3, .int x3), (4, .int x4), (5, .int x5), (7, .int x7), (8, .int x8), (9, .int x9)]) hx hb dL_isStep_297 hl (by decide) rfl (fun ls hl => ?_)
                  refine lv_iinc (v := x9 + (1 : Int32)) (lv' := [(9, .int (x9 + (1 : Int32))), (6, .int (1 : Int32)), (10, .int q36), (0, .ref (a 0)), (2, .int x2), (3, .int x3), (4, .int x4), (5, .int x5), (7, .int x7), (8, .int x8)]) hx hb dL_isStep_299 hl (k := 9) rfl rfl (by decide) rfl (fun ls hl => ?_)
                  refine lv_goto (tgt := 212) hx hb dL_isStep_302 (by decide) ?_
                  exact ih hf Z (lv_sub hl [3, 4, 5, 6, 7, 1, 8, 9, 0] rfl)
      · have hf := it_f c35 hf
        refine lv_iload hx hb dL_isStep_230 (lv_at hl 7 rfl) ?_
        refine lv_goto (tgt := 246) hx hb dL_isStep_232 (by decide) ?_
        refine lv_istore (lv' := [(10, .int x8), (0, .ref (a 0)), (2, .int x2), (3, .int x3), (4, .int x4), (5, .int x5), (6, .int x6), (7, .int x7), (8, .int x8), (9, .int x9)]) hx hb dL_isStep_246 hl (by decide) rfl (fun ls hl => ?_)
        refine lv_iload hx hb dL_isStep_248 (lv_at hl 6 rfl) ?_
        refine lv_if_eq (tgt := 296) hx hb dL_isStep_250 (by decide) (fun c45 => ?_) (fun c45 => ?_)
        · have hf := it_t c45 hf
          refine lv_iconst (v := 0) hx hb dL_isStep_296 (by decide) ?_
          refine lv_istore (lv' := [(6, .int (0 : Int32)), (10, .int x8), (0, .ref (a 0)), (2, .int x2), (3, .int x3), (4, .int x4), (5, .int x5), (7, .int x7), (8, .int x8), (9, .int x9)]) hx hb dL_isStep_297 hl (by decide) rfl (fun ls hl => ?_)
          refine lv_iinc (v := x9 + (1 : Int32)) (lv' := [(9, .int (x9 + (1 : Int32))), (6, .int (0 : Int32)), (10, .int x8), (0, .ref (a 0)), (2, .int x2), (3, .int x3), (4, .int x4), (5, .int x5), (7, .int x7), (8, .int x8)]) hx hb dL_isStep_299 hl (k := 9) rfl rfl (by decide) rfl (fun ls hl => ?_)
          refine lv_goto (tgt := 212) hx hb dL_isStep_302 (by decide) ?_
          exact ih hf Z (lv_sub hl [3, 4, 5, 6, 7, 1, 8, 9, 0] rfl)
        · have hf := it_f c45 hf
          refine lv_aload_n hx hb dL_isStep_253 rfl (lv_at hl 1 rfl) ?_
          refine lv_bipush (v := 48) hx hb dL_isStep_254 (by decide) ?_
          refine lv_iload hx hb dL_isStep_256 (lv_at hl 0 rfl) ?_
          refine lv_iadd hx hb dL_isStep_258 ?_
          refine lv_i2l hx hb dL_isStep_259 rfl ?_
          obtain ⟨q46, hq46, hf⟩ := ob_s hf
          refine z_callV X Z (c_X7_put l D cI cR a a_now a_ahead a_pad_codes a_pad_length a_padPattern_heights a_padPattern_length a_ways_steps a_ways_firstThrows a_ways_lastThrows a_ways_reached a_ways_reachedCount a_history_rs a_history_oldest a_history_size a_slotZero_kept a_slotZero_filled a_slotOne_kept a_slotOne_filled (((48 : Int32) + x8).toInt64) hq46) (zw_L_31 X.1.2.2.2.2 ⟨Nat.le_of_ble_eq_true rfl, Nat.le_of_ble_eq_true rfl⟩) 0 7 rfl rfl rfl [0] [] [w_X7 cI cR a a_now a_ahead q46.2.1 q46.2.2 a_padPattern_heights a_padPattern_length a_ways_steps a_ways_firstThrows a_ways_lastThrows a_ways_reached a_ways_reachedCount a_history_rs a_history_oldest a_history_size a_slotZero_kept a_slotZero_filled a_slotOne_kept a_slotOne_filled] (by decide : ([0] ++ [] : List Nat).Perm (List.range 1)) rfl rfl rfl rfl rfl hl.1 rfl (Nat.le_of_ble_eq_true rfl) dL_isStep_260 ⟨Nat.le_of_ble_eq_true rfl, Nat.le_of_ble_eq_true rfl⟩ (fun H locs Z => ?_)
          refine lv_if_le (tgt := 296) hx hb dL_isStep_263 (by decide) (fun c47 => ?_) (fun c47 => ?_)
          · have hf := it_t c47 hf
            refine lv_iconst (v := 0) hx hb dL_isStep_296 (by decide) ?_
            refine lv_istore (lv' := [(6, .int (0 : Int32)), (10, .int x8), (0, .ref (a 0)), (2, .int x2), (3, .int x3), (4, .int x4), (5, .int x5), (7, .int x7), (8, .int x8), (9, .int x9)]) hx hb dL_isStep_297 hl (by decide) rfl (fun ls hl => ?_)
            refine lv_iinc (v := x9 + (1 : Int32)) (lv' := [(9, .int (x9 + (1 : Int32))), (6, .int (0 : Int32)), (10, .int x8), (0, .ref (a 0)), (2, .int x2), (3, .int x3), (4, .int x4), (5, .int x5), (7, .int x7), (8, .int x8)]) hx hb dL_isStep_299 hl (k := 9) rfl rfl (by decide) rfl (fun ls hl => ?_)
            refine lv_goto (tgt := 212) hx hb dL_isStep_302 (by decide) ?_
            exact ih hf Z (lv_sub hl [3, 4, 5, 6, 7, 1, 8, 9, 0] rfl)
          · have hf := it_f c47 hf
            refine lv_iload hx hb dL_isStep_266 (lv_at hl 0 rfl) ?_
            refine lv_if_eq (tgt := 292) hx hb dL_isStep_268 (by decide) (fun c48 => ?_) (fun c48 => ?_)
            · have hf := it_t c48 hf
              refine lv_iconst (v := 1) hx hb dL_isStep_292 (by decide) ?_
              refine lv_goto (tgt := 297) hx hb dL_isStep_293 (by decide) ?_
              refine lv_istore (lv' := [(6, .int (1 : Int32)), (10, .int x8), (0, .ref (a 0)), (2, .int x2), (3, .int x3), (4, .int x4), (5, .int x5), (7, .int x7), (8, .int x8), (9, .int x9)]) hx hb dL_isStep_297 hl (by decide) rfl (fun ls hl => ?_)
              refine lv_iinc (v := x9 + (1 : Int32)) (lv' := [(9, .int (x9 + (1 : Int32))), (6, .int (1 : Int32)), (10, .int x8), (0, .ref (a 0)), (2, .int x2), (3, .int x3), (4, .int x4), (5, .int x5), (7, .int x7), (8, .int x8)]) hx hb dL_isStep_299 hl (k := 9) rfl rfl (by decide) rfl (fun ls hl => ?_)
              refine lv_goto (tgt := 212) hx hb dL_isStep_302 (by decide) ?_
              exact ih hf Z (lv_sub hl [3, 4, 5, 6, 7, 1, 8, 9, 0] rfl)
            · have hf := it_f c48 hf
              refine lv_iload_n hx hb dL_isStep_271 rfl (lv_at hl 2 rfl) ?_
              refine lv_iload hx hb dL_isStep_272 (lv_at hl 9 rfl) ?_
              refine lv_ishr hx hb dL_isStep_274 ?_
              refine lv_iconst (v := 5) hx hb dL_isStep_275 (by decide) ?_
              obtain ⟨q49, hq49, hf⟩ := ob_s hf
              refine z_roS X Z (c_L_up l D cI cR   (x2 >>> (x9 &&& 31)) (5 : Int32) hq49) (zw_L_9 X.1.2.2.2.2 ⟨Nat.le_of_ble_eq_true rfl, Nat.le_of_ble_eq_true rfl⟩) [] [0] (by decide : ([] ++ [0] : List Nat).Perm (List.range 1)) rfl rfl hl.1 rfl (Nat.le_of_ble_eq_true rfl) dL_isStep_276 ⟨Nat.le_of_ble_eq_true rfl, Nat.le_of_ble_eq_true rfl⟩ (fun H locs Z => ?_)
              refine lv_if_gt (tgt := 292) hx hb dL_isStep_279 (by decide) (fun c50 => ?_) (fun c50 => ?_)
              · have hf := it_t c50 hf
                refine lv_iconst (v := 1) hx hb dL_isStep_292 (by decide) ?_
                refine lv_goto (tgt := 297) hx hb dL_isStep_293 (by decide) ?_
                refine lv_istore (lv' := [(6, .int (1 : Int32)), (10, .int x8), (0, .ref (a 0)), (2, .int x2), (3, .int x3), (4, .int x4), (5, .int x5), (7, .int x7), (8, .int x8), (9, .int x9)]) hx hb dL_isStep_297 hl (by decide) rfl (fun ls hl => ?_)
                refine lv_iinc (v := x9 + (1 : Int32)) (lv' := [(9, .int (x9 + (1 : Int32))), (6, .int (1 : Int32)), (10, .int x8), (0, .ref (a 0)), (2, .int x2), (3, .int x3), (4, .int x4), (5, .int x5), (7, .int x7), (8, .int x8)]) hx hb dL_isStep_299 hl (k := 9) rfl rfl (by decide) rfl (fun ls hl => ?_)
                refine lv_goto (tgt := 212) hx hb dL_isStep_302 (by decide) ?_
                exact ih hf Z (lv_sub hl [3, 4, 5, 6, 7, 1, 8, 9, 0] rfl)
              · have hf := it_f c50 hf
                refine lv_aload_n hx hb dL_isStep_282 rfl (lv_at hl 1 rfl) ?_
                refine lv_ldc2 hx hb X.1.2.2.2.1 (X.1.2.2.2.2 _ mk_L_37) dL_isStep_283 ?_
                obtain ⟨q51, hq51, hf⟩ := ob_s hf
                refine z_callV X Z (c_X7_put l D cI cR a a_now a_ahead q46.2.1 q46.2.2 a_padPattern_heights a_padPattern_length a_ways_steps a_ways_firstThrows a_ways_lastThrows a_ways_reached a_ways_reachedCount a_history_rs a_history_oldest a_history_size a_slotZero_kept a_slotZero_filled a_slotOne_kept a_slotOne_filled (112 : Int64) hq51) (zw_L_31 X.1.2.2.2.2 ⟨Nat.le_of_ble_eq_true rfl, Nat.le_of_ble_eq_true rfl⟩) 0 7 rfl rfl rfl [0] [] [w_X7 cI cR a a_now a_ahead q51.2.1 q51.2.2 a_padPattern_heights a_padPattern_length a_ways_steps a_ways_firstThrows a_ways_lastThrows a_ways_reached a_ways_reachedCount a_history_rs a_history_oldest a_history_size a_slotZero_kept a_slotZero_filled a_slotOne_kept a_slotOne_filled] (by decide : ([0] ++ [] : List Nat).Perm (List.range 1)) rfl rfl rfl rfl rfl hl.1 rfl (Nat.le_of_ble_eq_true rfl) dL_isStep_286 ⟨Nat.le_of_ble_eq_true rfl, Nat.le_of_ble_eq_true rfl⟩ (fun H locs Z => ?_)
                refine lv_if_le (tgt := 296) hx hb dL_isStep_289 (by decide) (fun c52 => ?_) (fun c52 => ?_)
                · have hf := it_t c52 hf
                  refine lv_iconst (v := 0) hx hb dL_isStep_296 (by decide) ?_
                  refine lv_istore (lv' := [(6, .int (0 : Int32)), (10, .int x8), (0, .ref (a 0)), (2, .int x2), (3, .int x3), (4, .int x4), (5, .int x5), (7, .int x7), (8, .int x8), (9, .int x9)]) hx hb dL_isStep_297 hl (by decide) rfl (fun ls hl => ?_)
                  refine lv_iinc (v := x9 + (1 : Int32)) (lv' := [(9, .int (x9 + (1 : Int32))), (6, .int (0 : Int32)), (10, .int x8), (0, .ref (a 0)), (2, .int x2), (3, .int x3), (4, .int x4), (5, .int x5), (7, .int x7), (8, .int x8)]) hx hb dL_isStep_299 hl (k := 9) rfl rfl (by decide) rfl (fun ls hl => ?_)
                  refine lv_goto (tgt := 212) hx hb dL_isStep_302 (by decide) ?_
                  exact ih hf Z (lv_sub hl [3, 4, 5, 6, 7, 1, 8, 9, 0] rfl)
                · have hf := it_f c52 hf
                  refine lv_iconst (v := 1) hx hb dL_isStep_292 (by decide) ?_
                  refine lv_goto (tgt := 297) hx hb dL_isStep_293 (by decide) ?_
                  refine lv_istore (lv' := [(6, .int (1 : Int32)), (10, .int x8), (0, .ref (a 0)), (2, .int x2), (3, .int x3), (4, .int x4), (5, .int x5), (7, .int x7), (8, .int x8), (9, .int x9)]) hx hb dL_isStep_297 hl (by decide) rfl (fun ls hl => ?_)
                  refine lv_iinc (v := x9 + (1 : Int32)) (lv' := [(9, .int (x9 + (1 : Int32))), (6, .int (1 : Int32)), (10, .int x8), (0, .ref (a 0)), (2, .int x2), (3, .int x3), (4, .int x4), (5, .int x5), (7, .int x7), (8, .int x8)]) hx hb dL_isStep_299 hl (k := 9) rfl rfl (by decide) rfl (fun ls hl => ?_)
                  refine lv_goto (tgt := 212) hx hb dL_isStep_302 (by decide) ?_
                  exact ih hf Z (lv_sub hl [3, 4, 5, 6, 7, 1, 8, 9, 0] rfl)

def f_L_isStep (a_now : ST) (a_ahead : ST) (a_pad_codes : (Nat → Int32)) (a_pad_length : Int32) (a_history_rs : (Nat → ST)) (a_history_oldest : Int32) (a_history_size : Int32) (p1 : Int32) (p2 : Int32) : Option (Int32 × ST × ST × (Nat → Int32) × Int32 × (Nat → ST) × Int32 × Int32) := (f_L_up (p1 >>> ((4 : Int32) &&& 31)) (2 : Int32)).bind (fun q1 => (f_X7_count a_now a_pad_length a_history_size (2 : Int32)).bind (fun q2 => (f_L_up p1 (9 : Int32)).bind (fun q3 => if q3 = (0 : Int32) then ((f_L_up (p1 >>> ((4 : Int32) &&& 31)) (9 : Int32)).bind (fun q5 => (f_L_up ((p1 >>> ((4 : Int32) &&& 31)) >>> ((4 : Int32) &&& 31)) (9 : Int32)).bind (fun q6 => (f_X7_start a_now a_history_rs a_history_oldest a_history_size q5 q6).bind (fun q7 => if q7.1 = q2 then ((f_X7_count q7.2.1 a_pad_length q7.2.2.2.2 (2 : Int32)).bind (fun q9 => if q9 = (q5 + q6) then ((f_X7_of q7.2.1 (0 : Int32) (0 : Int32)).bind (fun q11 => if q11 = (((1 : Int32) <<< (q5 &&& 31)) - (1 : Int32)) then ((f_X7_of q7.2.1 (1 : Int32) (1 : Int32)).bind (fun q13 => if q13 = q6 then ((f_X7_count q7.2.1 a_pad_length q7.2.2.2.2 (0 : Int32)).bind (fun q15 => if q15 = 0 then (some ((1 : Int32), q7.2.1, a_ahead, a_pad_codes, a_pad_length, q7.2.2.1, q7.2.2.2.1, q7.2.2.2.2)) else (some ((0 : Int32), q7.2.1, a_ahead, a_pad_codes, a_pad_length, q7.2.2.1, q7.2.2.2.1, q7.2.2.2.2)))) else (some ((0 : Int32), q7.2.1, a_ahead, a_pad_codes, a_pad_length, q7.2.2.1, q7.2.2.2.1, q7.2.2.2.2)))) else (some ((0 : Int32), q7.2.1, a_ahead, a_pad_codes, a_pad_length, q7.2.2.1, q7.2.2.2.1, q7.2.2.2.2)))) else (some ((0 : Int32), q7.2.1, a_ahead, a_pad_codes, a_pad_length, q7.2.2.1, q7.2.2.2.1, q7.2.2.2.2)))) else (some ((0 : Int32), q7.2.1, a_ahead, a_pad_codes, a_pad_length, q7.2.2.1, q7.2.2.2.1, q7.2.2.2.2)))))) else (if q3 = (1 : Int32) then ((f_X7_wipe a_pad_length).bind (fun q18 => if q18.1 < 0 then ((f_L_up ((p1 >>> ((4 : Int32) &&& 31)) >>> ((1 : Int32) &&& 31)) (8 : Int32)).bind (fun q20 => (f_L_up ((p1 >>> ((4 : Int32) &&& 31)) >>> ((4 : Int32) &&& 31)) (7 : Int32)).bind (fun q21 => f_L_isStep_L212 a_now a_ahead a_history_rs a_history_oldest a_history_size p2 (p1 >>> ((4 : Int32) &&& 31)) q1 q2 ((1 : Int32) + q20) ((1 : Int32) + q21) zF (0 : Int32) (0 : Int32) a_pad_codes q18.2))) else ((f_X7_put a_pad_codes q18.2 (((48 : Int32) + q1).toInt64)).bind (fun q53 => if q53.1 ≤ 0 then ((f_L_up ((p1 >>> ((4 : Int32) &&& 31)) >>> ((1 : Int32) &&& 31)) (8 : Int32)).bind (fun q55 => (f_L_up ((p1 >>> ((4 : Int32) &&& 31)) >>> ((4 : Int32) &&& 31)) (7 : Int32)).bind (fun q56 => f_L_isStep_L212 a_now a_ahead a_history_rs a_history_oldest a_history_size p2 (p1 >>> ((4 : Int32) &&& 31)) q1 q2 ((1 : Int32) + q55) ((1 : Int32) + q56) zF (0 : Int32) (0 : Int32) q53.2.1 q53.2.2))) else ((f_X7_put q53.2.1 q53.2.2 (58 : Int64)).bind (fun q57 => if q57.1 ≤ 0 then ((f_L_up ((p1 >>> ((4 : Int32) &&& 31)) >>> ((1 : Int32) &&& 31)) (8 : Int32)).bind (fun q59 => (f_L_up ((p1 >>> ((4 : Int32) &&& 31)) >>> ((4 : Int32) &&& 31)) (7 : Int32)).bind (fun q60 => f_L_isStep_L212 a_now a_ahead a_history_rs a_history_oldest a_history_size p2 (p1 >>> ((4 : Int32) &&& 31)) q1 q2 ((1 : Int32) + q59) ((1 : Int32) + q60) zF (0 : Int32) (0 : Int32) q57.2.1 q57.2.2))) else ((f_L_up ((p1 >>> ((4 : Int32) &&& 31)) >>> ((1 : Int32) &&& 31)) (8 : Int32)).bind (fun q61 => (f_L_up ((p1 >>> ((4 : Int32) &&& 31)) >>> ((4 : Int32) &&& 31)) (7 : Int32)).bind (fun q62 => f_L_isStep_L212 a_now a_ahead a_history_rs a_history_oldest a_history_size p2 (p1 >>> ((4 : Int32) &&& 31)) q1 q2 ((1 : Int32) + q61) ((1 : Int32) + q62) zF (1 : Int32) (0 : Int32) q57.2.1 q57.2.2))))))))) else (if q3 = (2 : Int32) then ((f_X7_wipe a_pad_length).bind (fun q64 => if q64.1 < 0 then ((f_L_up ((p1 >>> ((4 : Int32) &&& 31)) >>> ((1 : Int32) &&& 31)) (8 : Int32)).bind (fun q66 => (f_L_up ((p1 >>> ((4 : Int32) &&& 31)) >>> ((4 : Int32) &&& 31)) (7 : Int32)).bind (fun q67 => f_L_isStep_L212 a_now a_ahead a_history_rs a_history_oldest a_history_size p2 (p1 >>> ((4 : Int32) &&& 31)) q1 q2 ((1 : Int32) + q66) ((1 : Int32) + q67) zF (0 : Int32) (0 : Int32) a_pad_codes q64.2))) else ((f_X7_put a_pad_codes q64.2 (((48 : Int32) + q1).toInt64)).bind (fun q68 => if q68.1 ≤ 0 then ((f_L_up ((p1 >>> ((4 : Int32) &&& 31)) >>> ((1 : Int32) &&& 31)) (8 : Int32)).bind (fun q70 => (f_L_up ((p1 >>> ((4 : Int32) &&& 31)) >>> ((4 : Int32) &&& 31)) (7 : Int32)).bind (fun q71 => f_L_isStep_L212 a_now a_ahead a_history_rs a_history_oldest a_history_size p2 (p1 >>> ((4 : Int32) &&& 31)) q1 q2 ((1 : Int32) + q70) ((1 : Int32) + q71) zF (0 : Int32) (0 : Int32) q68.2.1 q68.2.2))) else ((f_X7_put q68.2.1 q68.2.2 (58 : Int64)).bind (fun q72 => if q72.1 ≤ 0 then ((f_L_up ((p1 >>> ((4 : Int32) &&& 31)) >>> ((1 : Int32) &&& 31)) (8 : Int32)).bind (fun q74 => (f_L_up ((p1 >>> ((4 : Int32) &&& 31)) >>> ((4 : Int32) &&& 31)) (7 : Int32)).bind (fun q75 => f_L_isStep_L212 a_now a_ahead a_history_rs a_history_oldest a_history_size p2 (p1 >>> ((4 : Int32) &&& 31)) q1 q2 ((1 : Int32) + q74) ((1 : Int32) + q75) zF (0 : Int32) (0 : Int32) q72.2.1 q72.2.2))) else ((f_L_up ((p1 >>> ((4 : Int32) &&& 31)) >>> ((1 : Int32) &&& 31)) (8 : Int32)).bind (fun q76 => (f_L_up ((p1 >>> ((4 : Int32) &&& 31)) >>> ((4 : Int32) &&& 31)) (7 : Int32)).bind (fun q77 => f_L_isStep_L212 a_now a_ahead a_history_rs a_history_oldest a_history_size p2 (p1 >>> ((4 : Int32) &&& 31)) q1 q2 ((1 : Int32) + q76) ((1 : Int32) + q77) zF (1 : Int32) (0 : Int32) q72.2.1 q72.2.2))))))))) else (if q3 = (3 : Int32) then ((f_X7_wipe a_pad_length).bind (fun q79 => if q79.1 < 0 then ((f_L_up ((p1 >>> ((4 : Int32) &&& 31)) >>> ((1 : Int32) &&& 31)) (8 : Int32)).bind (fun q81 => (f_L_up ((p1 >>> ((4 : Int32) &&& 31)) >>> ((4 : Int32) &&& 31)) (7 : Int32)).bind (fun q82 => f_L_isStep_L212 a_now a_ahead a_history_rs a_history_oldest a_history_size p2 (p1 >>> ((4 : Int32) &&& 31)) q1 q2 ((1 : Int32) + q81) ((1 : Int32) + q82) zF (0 : Int32) (0 : Int32) a_pad_codes q79.2))) else ((f_X7_put a_pad_codes q79.2 (((48 : Int32) + q1).toInt64)).bind (fun q83 => if q83.1 ≤ 0 then ((f_L_up ((p1 >>> ((4 : Int32) &&& 31)) >>> ((1 : Int32) &&& 31)) (8 : Int32)).bind (fun q85 => (f_L_up ((p1 >>> ((4 : Int32) &&& 31)) >>> ((4 : Int32) &&& 31)) (7 : Int32)).bind (fun q86 => f_L_isStep_L212 a_now a_ahead a_history_rs a_history_oldest a_history_size p2 (p1 >>> ((4 : Int32) &&& 31)) q1 q2 ((1 : Int32) + q85) ((1 : Int32) + q86) zF (0 : Int32) (0 : Int32) q83.2.1 q83.2.2))) else ((f_X7_put q83.2.1 q83.2.2 (58 : Int64)).bind (fun q87 => if q87.1 ≤ 0 then ((f_L_up ((p1 >>> ((4 : Int32) &&& 31)) >>> ((1 : Int32) &&& 31)) (8 : Int32)).bind (fun q89 => (f_L_up ((p1 >>> ((4 : Int32) &&& 31)) >>> ((4 : Int32) &&& 31)) (7 : Int32)).bind (fun q90 => f_L_isStep_L212 a_now a_ahead a_history_rs a_history_oldest a_history_size p2 (p1 >>> ((4 : Int32) &&& 31)) q1 q2 ((1 : Int32) + q89) ((1 : Int32) + q90) zF (0 : Int32) (0 : Int32) q87.2.1 q87.2.2))) else ((f_L_up ((p1 >>> ((4 : Int32) &&& 31)) >>> ((1 : Int32) &&& 31)) (8 : Int32)).bind (fun q91 => (f_L_up ((p1 >>> ((4 : Int32) &&& 31)) >>> ((4 : Int32) &&& 31)) (7 : Int32)).bind (fun q92 => f_L_isStep_L212 a_now a_ahead a_history_rs a_history_oldest a_history_size p2 (p1 >>> ((4 : Int32) &&& 31)) q1 q2 ((1 : Int32) + q91) ((1 : Int32) + q92) zF (1 : Int32) (0 : Int32) q87.2.1 q87.2.2))))))))) else (if q3 = (4 : Int32) then ((f_L_up ((p1 >>> ((4 : Int32) &&& 31)) >>> ((1 : Int32) &&& 31)) (8 : Int32)).bind (fun q94 => (f_X7_drop a_now a_history_rs a_history_oldest a_history_size q1 q94).bind (fun q95 => if q95.1 = 0 then (some ((0 : Int32), q95.2.1, a_ahead, a_pad_codes, a_pad_length, q95.2.2.1, q95.2.2.2.1, q95.2.2.2.2)) else ((f_X7_count q95.2.1 a_pad_length q95.2.2.2.2 (2 : Int32)).bind (fun q97 => if q97 = q2 then (some ((1 : Int32), q95.2.1, a_ahead, a_pad_codes, a_pad_length, q95.2.2.1, q95.2.2.2.1, q95.2.2.2.2)) else (some ((0 : Int32), q95.2.1, a_ahead, a_pad_codes, a_pad_length, q95.2.2.1, q95.2.2.2.1, q95.2.2.2.2))))))) else (if q3 = (5 : Int32) then ((f_L_up ((p1 >>> ((4 : Int32) &&& 31)) >>> ((1 : Int32) &&& 31)) (8 : Int32)).bind (fun q100 => (f_X7_pick a_now a_history_rs a_history_oldest a_history_size q1 q100).bind (fun q101 => (f_X7_count q101.2.1 a_pad_length q101.2.2.2.2 (2 : Int32)).bind (fun q102 => if q102 < q101.1 then (some ((0 : Int32), q101.2.1, a_ahead, a_pad_codes, a_pad_length, q101.2.2.1, q101.2.2.2.1, q101.2.2.2.2)) else ((f_X7_count q101.2.1 a_pad_length q101.2.2.2.2 (2 : Int32)).bind (fun q104 => if q104 = q2 then (some ((1 : Int32), q101.2.1, a_ahead, a_pad_codes, a_pad_length, q101.2.2.1, q101.2.2.2.1, q101.2.2.2.2)) else (some ((0 : Int32), q101.2.1, a_ahead, a_pad_codes, a_pad_length, q101.2.2.1, q101.2.2.2.1, q101.2.2.2.2)))))))) else ((f_L_up (p1 >>> ((4 : Int32) &&& 31)) (20 : Int32)).bind (fun q106 => (f_X7_count a_now a_pad_length a_history_size (1 : Int32)).bind (fun q107 => (f_X7_of a_now (0 : Int32) (4 : Int32)).bind (fun q108 => (f_X7_of a_now (0 : Int32) (5 : Int32)).bind (fun q109 => (f_X7_of a_now (1 : Int32) (4 : Int32)).bind (fun q110 => (f_X7_of a_now (1 : Int32) (5 : Int32)).bind (fun q111 => (f_X7_firstDrop a_now a_ahead).bind (fun q112 => (f_X7_stateBehind a_now q112.2 (0 : Int32) ((1 : Int32) + q106)).bind (fun q113 => (f_X7_stateBehind a_now q113.2 (1 : Int32) ((1 : Int32) + q106)).bind (fun q114 => (f_X7_pass a_now a_history_rs a_history_oldest a_history_size ((1 : Int32) + q106)).bind (fun q115 => (f_X7_count q115.2.1 a_pad_length q115.2.2.2.2 (1 : Int32)).bind (fun q116 => if q116 = (q107 + q115.1) then ((f_X7_of q115.2.1 (0 : Int32) (4 : Int32)).bind (fun q119 => (f_X7_of q115.2.1 (0 : Int32) (5 : Int32)).bind (fun q120 => (f_X7_of q115.2.1 (1 : Int32) (4 : Int32)).bind (fun q121 => (f_X7_of q115.2.1 (1 : Int32) (5 : Int32)).bind (fun q122 => if (((q119 + q120) + q121) + q122) = ((((q108 + q109) + q110) + q111) + q115.1) then ((f_X7_of q115.2.1 (0 : Int32) (0 : Int32)).bind (fun q125 => if q125 = q113.1 then ((f_X7_of q115.2.1 (1 : Int32) (0 : Int32)).bind (fun q128 => if q128 = q114.1 then ((f_X7_count q115.2.1 a_pad_length q115.2.2.2.2 (2 : Int32)).bind (fun q131 => if q131 = q2 then (if q115.1 ≤ 0 then (if q112.1 < 0 then (some ((1 : Int32), q115.2.1, q114.2, a_pad_codes, a_pad_length, q115.2.2.1, q115.2.2.2.1, q115.2.2.2.2)) else (if ((1 : Int32) + q106) ≤ q112.1 then (some ((1 : Int32), q115.2.1, q114.2, a_pad_codes, a_pad_length, q115.2.2.1, q115.2.2.2.1, q115.2.2.2.2)) else (some ((0 : Int32), q115.2.1, q114.2, a_pad_codes, a_pad_length, q115.2.2.1, q115.2.2.2.1, q115.2.2.2.2)))) else (if q112.1 < 0 then (some ((0 : Int32), q115.2.1, q114.2, a_pad_codes, a_pad_length, q115.2.2.1, q115.2.2.2.1, q115.2.2.2.2)) else (if ((1 : Int32) + q106) ≤ q112.1 then (some ((0 : Int32), q115.2.1, q114.2, a_pad_codes, a_pad_length, q115.2.2.1, q115.2.2.2.1, q115.2.2.2.2)) else (some ((1 : Int32), q115.2.1, q114.2, a_pad_codes, a_pad_length, q115.2.2.1, q115.2.2.2.1, q115.2.2.2.2))))) else (some ((0 : Int32), q115.2.1, q114.2, a_pad_codes, a_pad_length, q115.2.2.1, q115.2.2.2.1, q115.2.2.2.2)))) else (some ((0 : Int32), q115.2.1, q114.2, a_pad_codes, a_pad_length, q115.2.2.1, q115.2.2.2.1, q115.2.2.2.2)))) else (some ((0 : Int32), q115.2.1, q114.2, a_pad_codes, a_pad_length, q115.2.2.1, q115.2.2.2.1, q115.2.2.2.2)))) else (some ((0 : Int32), q115.2.1, q114.2, a_pad_codes, a_pad_length, q115.2.2.1, q115.2.2.2.1, q115.2.2.2.2))))))) else (some ((0 : Int32), q115.2.1, q114.2, a_pad_codes, a_pad_length, q115.2.2.1, q115.2.2.2.1, q115.2.2.2.2))))))))))))))))))))))
set_option maxHeartbeats 4000000 in
set_option maxRecDepth 100000 in
theorem c_L_isStep (l : Launch) (D : va_G) (cI cR : ClassId) (a : (Nat → Nat)) (a_now : ST) (a_ahead : ST) (a_pad_codes : (Nat → Int32)) (a_pad_length : Int32) (a_padPattern_heights : (Nat → Int32)) (a_padPattern_length : Int32) (a_ways_steps : (Nat → Int32)) (a_ways_firstThrows : (Nat → Int32)) (a_ways_lastThrows : (Nat → Int32)) (a_ways_reached : (Nat → Int32)) (a_ways_reachedCount : Int32) (a_history_rs : (Nat → ST)) (a_history_oldest : Int32) (a_history_size : Int32) (a_slotZero_kept : ST) (a_slotZero_filled : Int32) (a_slotOne_kept : ST) (a_slotOne_filled : Int32) (p1 : Int32) (p2 : Int32) {R : Int32 × ST × ST × (Nat → Int32) × Int32 × (Nat → ST) × Int32 × Int32} (hf : f_L_isStep a_now a_ahead a_pad_codes a_pad_length a_history_rs a_history_oldest a_history_size p1 p2 = some R) : zM l D cI cR yL_isStep cL_isStep 14 (some .boolean) 6 130 [.ref (a 0), .int p1, .int p2] [w_X7 cI cR a a_now a_ahead a_pad_codes a_pad_length a_padPattern_heights a_padPattern_length a_ways_steps a_ways_firstThrows a_ways_lastThrows a_ways_reached a_ways_reachedCount a_history_rs a_history_oldest a_history_size a_slotZero_kept a_slotZero_filled a_slotOne_kept a_slotOne_filled] (some (.int R.1)) [w_X7 cI cR a R.2.1 R.2.2.1 R.2.2.2.1 R.2.2.2.2.1 a_padPattern_heights a_padPattern_length a_ways_steps a_ways_firstThrows a_ways_lastThrows a_ways_reached a_ways_reachedCount R.2.2.2.2.2.1 R.2.2.2.2.2.2.1 R.2.2.2.2.2.2.2 a_slotZero_kept a_slotZero_filled a_slotOne_kept a_slotOne_filled] := by
  refine z_of (own := RL) rfl (by decide) (Nat.le_of_ble_eq_true rfl) ?_
  intro p e s m args below meth c A ls X hr hlocks Z hl
  have hx := X.1.1
  have hb := X.1.2.1
  have Z : zW D A s [w_X7 cI cR a a_now a_ahead a_pad_codes a_pad_length a_padPattern_heights a_padPattern_length a_ways_steps a_ways_firstThrows a_ways_lastThrows a_ways_reached a_ways_reachedCount a_history_rs a_history_oldest a_history_size a_slotZero_kept a_slotZero_filled a_slotOne_kept a_slotOne_filled] s.heap [] := Z
  have hl : lv_has ls 14 [(0, .ref (a 0)), (1, .int p1), (2, .int p2)] := hl
  refine lv_iload_n hx hb dL_isStep_0 rfl (lv_at hl 1 rfl) ?_
  refine lv_iconst (v := 4) hx hb dL_isStep_1 (by decide) ?_
  refine lv_ishr hx hb dL_isStep_2 ?_
  refine lv_istore_n (lv' := [(3, .int (p1 >>> ((4 : Int32) &&& 31))), (0, .ref (a 0)), (1, .int p1), (2, .int p2)]) hx hb dL_isStep_3 rfl hl (by decide) rfl (fun ls hl => ?_)
  refine lv_iload_n hx hb dL_isStep_4 rfl (lv_at hl 0 rfl) ?_
  refine lv_iconst (v := 2) hx hb dL_isStep_5 (by decide) ?_
  obtain ⟨q1, hq1, hf⟩ := ob_s hf
  refine z_roS X Z (c_L_up l D cI cR   (p1 >>> ((4 : Int32) &&& 31)) (2 : Int32) hq1) (zw_L_9 X.1.2.2.2.2 ⟨Nat.le_of_ble_eq_true rfl, Nat.le_of_ble_eq_true rfl⟩) [] [0] (by decide : ([] ++ [0] : List Nat).Perm (List.range 1)) rfl rfl hl.1 rfl (Nat.le_of_ble_eq_true rfl) dL_isStep_6 ⟨Nat.le_of_ble_eq_true rfl, Nat.le_of_ble_eq_true rfl⟩ (fun H locs Z => ?_)
  refine lv_istore (lv' := [(4, .int q1), (3, .int (p1 >>> ((4 : Int32) &&& 31))), (0, .ref (a 0)), (1, .int p1), (2, .int p2)]) hx hb dL_isStep_9 hl (by decide) rfl (fun ls hl => ?_)
  refine lv_aload_n hx hb dL_isStep_11 rfl (lv_at hl 2 rfl) ?_
  refine lv_iconst (v := 2) hx hb dL_isStep_12 (by decide) ?_
  obtain ⟨q2, hq2, hf⟩ := ob_s hf
  refine z_roV X Z (c_X7_count l D cI cR a a_now a_ahead a_pad_codes a_pad_length a_padPattern_heights a_padPattern_length a_ways_steps a_ways_firstThrows a_ways_lastThrows a_ways_reached a_ways_reachedCount a_history_rs a_history_oldest a_history_size a_slotZero_kept a_slotZero_filled a_slotOne_kept a_slotOne_filled (2 : Int32) hq2) (zw_L_15 X.1.2.2.2.2 ⟨Nat.le_of_ble_eq_true rfl, Nat.le_of_ble_eq_true rfl⟩) 0 7 rfl rfl rfl [0] [] (by decide : ([0] ++ [] : List Nat).Perm (List.range 1)) rfl rfl hl.1 rfl (Nat.le_of_ble_eq_true rfl) dL_isStep_13 ⟨Nat.le_of_ble_eq_true rfl, Nat.le_of_ble_eq_true rfl⟩ (fun H locs Z => ?_)
  refine lv_istore (lv' := [(5, .int q2), (4, .int q1), (3, .int (p1 >>> ((4 : Int32) &&& 31))), (0, .ref (a 0)), (1, .int p1), (2, .int p2)]) hx hb dL_isStep_16 hl (by decide) rfl (fun ls hl => ?_)
  refine lv_iload_n hx hb dL_isStep_18 rfl (lv_at hl 4 rfl) ?_
  refine lv_bipush (v := 9) hx hb dL_isStep_19 (by decide) ?_
  obtain ⟨q3, hq3, hf⟩ := ob_s hf
  refine z_roS X Z (c_L_up l D cI cR   p1 (9 : Int32) hq3) (zw_L_9 X.1.2.2.2.2 ⟨Nat.le_of_ble_eq_true rfl, Nat.le_of_ble_eq_true rfl⟩) [] [0] (by decide : ([] ++ [0] : List Nat).Perm (List.range 1)) rfl rfl hl.1 rfl (Nat.le_of_ble_eq_true rfl) dL_isStep_21 ⟨Nat.le_of_ble_eq_true rfl, Nat.le_of_ble_eq_true rfl⟩ (fun H locs Z => ?_)
  rcases Decidable.em (q3 = (0 : Int32)) with c4 | c4
  · have hf := it_t c4 hf
    refine z_tabIn hx hb 0 c4 (off := 40) (tgt := 64) dL_isStep_24 (by decide) (by decide) (by decide) (by decide) ?_
    refine lv_iload_n hx hb dL_isStep_64 rfl (lv_at hl 2 rfl) ?_
    refine lv_bipush (v := 9) hx hb dL_isStep_65 (by decide) ?_
    obtain ⟨q5, hq5, hf⟩ := ob_s hf
    refine z_roS X Z (c_L_up l D cI cR   (p1 >>> ((4 : Int32) &&& 31)) (9 : Int32) hq5) (zw_L_9 X.1.2.2.2.2 ⟨Nat.le_of_ble_eq_true rfl, Nat.le_of_ble_eq_true rfl⟩) [] [0] (by decide : ([] ++ [0] : List Nat).Perm (List.range 1)) rfl rfl hl.1 rfl (Nat.le_of_ble_eq_true rfl) dL_isStep_67 ⟨Nat.le_of_ble_eq_true rfl, Nat.le_of_ble_eq_true rfl⟩ (fun H locs Z => ?_)
    refine lv_istore (lv' := [(6, .int q5), (5, .int q2), (4, .int q1), (3, .int (p1 >>> ((4 : Int32) &&& 31))), (0, .ref (a 0)), (1, .int p1), (2, .int p2)]) hx hb dL_isStep_70 hl (by decide) rfl (fun ls hl => ?_)
    refine lv_iload_n hx hb dL_isStep_72 rfl (lv_at hl 3 rfl) ?_
    refine lv_iconst (v := 4) hx hb dL_isStep_73 (by decide) ?_
    refine lv_ishr hx hb dL_isStep_74 ?_
    refine lv_bipush (v := 9) hx hb dL_isStep_75 (by decide) ?_
    obtain ⟨q6, hq6, hf⟩ := ob_s hf
    refine z_roS X Z (c_L_up l D cI cR   ((p1 >>> ((4 : Int32) &&& 31)) >>> ((4 : Int32) &&& 31)) (9 : Int32) hq6) (zw_L_9 X.1.2.2.2.2 ⟨Nat.le_of_ble_eq_true rfl, Nat.le_of_ble_eq_true rfl⟩) [] [0] (by decide : ([] ++ [0] : List Nat).Perm (List.range 1)) rfl rfl hl.1 rfl (Nat.le_of_ble_eq_true rfl) dL_isStep_77 ⟨Nat.le_of_ble_eq_true rfl, Nat.le_of_ble_eq_true rfl⟩ (fun H locs Z => ?_)
    refine lv_istore (lv' := [(7, .int q6), (6, .int q5), (5, .int q2), (4, .int q1), (3, .int (p1 >>> ((4 : Int32) &&& 31))), (0, .ref (a 0)), (1, .int p1), (2, .int p2)]) hx hb dL_isStep_80 hl (by decide) rfl (fun ls hl => ?_)
    refine lv_aload_n hx hb dL_isStep_82 rfl (lv_at hl 5 rfl) ?_
    refine lv_iload hx hb dL_isStep_83 (lv_at hl 1 rfl) ?_
    refine lv_iload hx hb dL_isStep_85 (lv_at hl 0 rfl) ?_
    obtain ⟨q7, hq7, hf⟩ := ob_s hf
    refine z_callV X Z (c_X7_start l D cI cR a a_now a_ahead a_pad_codes a_pad_length a_padPattern_heights a_padPattern_length a_ways_steps a_ways_firstThrows a_ways_lastThrows a_ways_reached a_ways_reachedCount a_history_rs a_history_oldest a_history_size a_slotZero_kept a_slotZero_filled a_slotOne_kept a_slotOne_filled q5 q6 hq7) (zw_L_21 X.1.2.2.2.2 ⟨Nat.le_of_ble_eq_true rfl, Nat.le_of_ble_eq_true rfl⟩) 0 7 rfl rfl rfl [0] [] [w_X7 cI cR a q7.2.1 a_ahead a_pad_codes a_pad_length a_padPattern_heights a_padPattern_length a_ways_steps a_ways_firstThrows a_ways_lastThrows a_ways_reached a_ways_reachedCount q7.2.2.1 q7.2.2.2.1 q7.2.2.2.2 a_slotZero_kept a_slotZero_filled a_slotOne_kept a_slotOne_filled] (by decide : ([0] ++ [] : List Nat).Perm (List.range 1)) rfl rfl rfl rfl rfl hl.1 rfl (Nat.le_of_ble_eq_true rfl) dL_isStep_87 ⟨Nat.le_of_ble_eq_true rfl, Nat.le_of_ble_eq_true rfl⟩ (fun H locs Z => ?_)
    refine lv_iload hx hb dL_isStep_90 (lv_at hl 2 rfl) ?_
    refine lv_icmp_ne (tgt := 146) hx hb dL_isStep_92 (by decide) (fun c8 => ?_) (fun c8 => ?_)
    · have hf := it_f c8 hf
      refine lv_iconst (v := 0) hx hb dL_isStep_146 (by decide) ?_
      have hR := so_s hf
      subst hR
      refine z_zret X hr hlocks (Or.inl rfl) ?_ dL_isStep_147
      exact Z.eq rfl
    · have hf := it_t c8 hf
      refine lv_aload_n hx hb dL_isStep_95 rfl (lv_at hl 5 rfl) ?_
      refine lv_iconst (v := 2) hx hb dL_isStep_96 (by decide) ?_
      obtain ⟨q9, hq9, hf⟩ := ob_s hf
      refine z_roV X Z (c_X7_count l D cI cR a q7.2.1 a_ahead a_pad_codes a_pad_length a_padPattern_heights a_padPattern_length a_ways_steps a_ways_firstThrows a_ways_lastThrows a_ways_reached a_ways_reachedCount q7.2.2.1 q7.2.2.2.1 q7.2.2.2.2 a_slotZero_kept a_slotZero_filled a_slotOne_kept a_slotOne_filled (2 : Int32) hq9) (zw_L_15 X.1.2.2.2.2 ⟨Nat.le_of_ble_eq_true rfl, Nat.le_of_ble_eq_true rfl⟩) 0 7 rfl rfl rfl [0] [] (by decide : ([0] ++ [] : List Nat).Perm (List.range 1)) rfl rfl hl.1 rfl (Nat.le_of_ble_eq_true rfl) dL_isStep_97 ⟨Nat.le_of_ble_eq_true rfl, Nat.le_of_ble_eq_true rfl⟩ (fun H locs Z => ?_)
      refine lv_iload hx hb dL_isStep_100 (lv_at hl 1 rfl) ?_
      refine lv_iload hx hb dL_isStep_102 (lv_at hl 0 rfl) ?_
      refine lv_iadd hx hb dL_isStep_104 ?_
      refine lv_icmp_ne (tgt := 146) hx hb dL_isStep_105 (by decide) (fun c10 => ?_) (fun c10 => ?_)
      · have hf := it_f c10 hf
        refine lv_iconst (v := 0) hx hb dL_isStep_146 (by decide) ?_
        have hR := so_s hf
        subst hR
        refine z_zret X hr hlocks (Or.inl rfl) ?_ dL_isStep_147
        exact Z.eq rfl
      · have hf := it_t c10 hf
        refine lv_aload_n hx hb dL_isStep_108 rfl (lv_at hl 5 rfl) ?_
        refine lv_iconst (v := 0) hx hb dL_isStep_109 (by decide) ?_
        refine lv_iconst (v := 0) hx hb dL_isStep_110 (by decide) ?_
        obtain ⟨q11, hq11, hf⟩ := ob_s hf
        refine z_roV X Z (c_X7_of l D cI cR a q7.2.1 a_ahead a_pad_codes a_pad_length a_padPattern_heights a_padPattern_length a_ways_steps a_ways_firstThrows a_ways_lastThrows a_ways_reached a_ways_reachedCount q7.2.2.1 q7.2.2.2.1 q7.2.2.2.2 a_slotZero_kept a_slotZero_filled a_slotOne_kept a_slotOne_filled (0 : Int32) (0 : Int32) hq11) (zw_L_24 X.1.2.2.2.2 ⟨Nat.le_of_ble_eq_true rfl, Nat.le_of_ble_eq_true rfl⟩) 0 7 rfl rfl rfl [0] [] (by decide : ([0] ++ [] : List Nat).Perm (List.range 1)) rfl rfl hl.1 rfl (Nat.le_of_ble_eq_true rfl) dL_isStep_111 ⟨Nat.le_of_ble_eq_true rfl, Nat.le_of_ble_eq_true rfl⟩ (fun H locs Z => ?_)
        refine lv_iconst (v := 1) hx hb dL_isStep_114 (by decide) ?_
        refine lv_iload hx hb dL_isStep_115 (lv_at hl 1 rfl) ?_
        refine lv_ishl hx hb dL_isStep_117 ?_
        refine lv_iconst (v := 1) hx hb dL_isStep_118 (by decide) ?_
        refine lv_isub hx hb dL_isStep_119 ?_
        refine lv_icmp_ne (tgt := 146) hx hb dL_isStep_120 (by decide) (fun c12 => ?_) (fun c12 => ?_)
        · have hf := it_f c12 hf
          refine lv_iconst (v := 0) hx hb dL_isStep_146 (by decide) ?_
          have hR := so_s hf
          subst hR
          refine z_zret X hr hlocks (Or.inl rfl) ?_ dL_isStep_147
          exact Z.eq rfl
        · have hf := it_t c12 hf
          refine lv_aload_n hx hb dL_isStep_123 rfl (lv_at hl 5 rfl) ?_
          refine lv_iconst (v := 1) hx hb dL_isStep_124 (by decide) ?_
          refine lv_iconst (v := 1) hx hb dL_isStep_125 (by decide) ?_
          obtain ⟨q13, hq13, hf⟩ := ob_s hf
          refine z_roV X Z (c_X7_of l D cI cR a q7.2.1 a_ahead a_pad_codes a_pad_length a_padPattern_heights a_padPattern_length a_ways_steps a_ways_firstThrows a_ways_lastThrows a_ways_reached a_ways_reachedCount q7.2.2.1 q7.2.2.2.1 q7.2.2.2.2 a_slotZero_kept a_slotZero_filled a_slotOne_kept a_slotOne_filled (1 : Int32) (1 : Int32) hq13) (zw_L_24 X.1.2.2.2.2 ⟨Nat.le_of_ble_eq_true rfl, Nat.le_of_ble_eq_true rfl⟩) 0 7 rfl rfl rfl [0] [] (by decide : ([0] ++ [] : List Nat).Perm (List.range 1)) rfl rfl hl.1 rfl (Nat.le_of_ble_eq_true rfl) dL_isStep_126 ⟨Nat.le_of_ble_eq_true rfl, Nat.le_of_ble_eq_true rfl⟩ (fun H locs Z => ?_)
          refine lv_iload hx hb dL_isStep_129 (lv_at hl 0 rfl) ?_
          refine lv_icmp_ne (tgt := 146) hx hb dL_isStep_131 (by decide) (fun c14 => ?_) (fun c14 => ?_)
          · have hf := it_f c14 hf
            refine lv_iconst (v := 0) hx hb dL_isStep_146 (by decide) ?_
            have hR := so_s hf
            subst hR
            refine z_zret X hr hlocks (Or.inl rfl) ?_ dL_isStep_147
            exact Z.eq rfl
          · have hf := it_t c14 hf
            refine lv_aload_n hx hb dL_isStep_134 rfl (lv_at hl 5 rfl) ?_
            refine lv_iconst (v := 0) hx hb dL_isStep_135 (by decide) ?_
            obtain ⟨q15, hq15, hf⟩ := ob_s hf
            refine z_roV X Z (c_X7_count l D cI cR a q7.2.1 a_ahead a_pad_codes a_pad_length a_padPattern_heights a_padPattern_length a_ways_steps a_ways_firstThrows a_ways_lastThrows a_ways_reached a_ways_reachedCount q7.2.2.1 q7.2.2.2.1 q7.2.2.2.2 a_slotZero_kept a_slotZero_filled a_slotOne_kept a_slotOne_filled (0 : Int32) hq15) (zw_L_15 X.1.2.2.2.2 ⟨Nat.le_of_ble_eq_true rfl, Nat.le_of_ble_eq_true rfl⟩) 0 7 rfl rfl rfl [0] [] (by decide : ([0] ++ [] : List Nat).Perm (List.range 1)) rfl rfl hl.1 rfl (Nat.le_of_ble_eq_true rfl) dL_isStep_136 ⟨Nat.le_of_ble_eq_true rfl, Nat.le_of_ble_eq_true rfl⟩ (fun H locs Z => ?_)
            refine lv_if_ne (tgt := 146) hx hb dL_isStep_139 (by decide) (fun c16 => ?_) (fun c16 => ?_)
            · have hf := it_f c16 hf
              refine lv_iconst (v := 0) hx hb dL_isStep_146 (by decide) ?_
              have hR := so_s hf
              subst hR
              refine z_zret X hr hlocks (Or.inl rfl) ?_ dL_isStep_147
              exact Z.eq rfl
            · have hf := it_t c16 hf
              refine lv_iconst (v := 1) hx hb dL_isStep_142 (by decide) ?_
              refine lv_goto (tgt := 147) hx hb dL_isStep_143 (by decide) ?_
              have hR := so_s hf
              subst hR
              refine z_zret X hr hlocks (Or.inr rfl) ?_ dL_isStep_147
              exact Z.eq rfl
  · have hf := it_f c4 hf
    rcases Decidable.em (q3 = (1 : Int32)) with c17 | c17
    · have hf := it_t c17 hf
      refine z_tabIn hx hb 1 c17 (off := 124) (tgt := 148) dL_isStep_24 (by decide) (by decide) (by decide) (by decide) ?_
      refine lv_aload_n hx hb dL_isStep_148 rfl (lv_at hl 3 rfl) ?_
      obtain ⟨q18, hq18, hf⟩ := ob_s hf
      refine z_callV X Z (c_X7_wipe l D cI cR a a_now a_ahead a_pad_codes a_pad_length a_padPattern_heights a_padPattern_length a_ways_steps a_ways_firstThrows a_ways_lastThrows a_ways_reached a_ways_reachedCount a_history_rs a_history_oldest a_history_size a_slotZero_kept a_slotZero_filled a_slotOne_kept a_slotOne_filled  hq18) (zw_L_27 X.1.2.2.2.2 ⟨Nat.le_of_ble_eq_true rfl, Nat.le_of_ble_eq_true rfl⟩) 0 7 rfl rfl rfl [0] [] [w_X7 cI cR a a_now a_ahead a_pad_codes q18.2 a_padPattern_heights a_padPattern_length a_ways_steps a_ways_firstThrows a_ways_lastThrows a_ways_reached a_ways_reachedCount a_history_rs a_history_oldest a_history_size a_slotZero_kept a_slotZero_filled a_slotOne_kept a_slotOne_filled] (by decide : ([0] ++ [] : List Nat).Perm (List.range 1)) rfl rfl rfl rfl rfl hl.1 rfl (Nat.le_of_ble_eq_true rfl) dL_isStep_149 ⟨Nat.le_of_ble_eq_true rfl, Nat.le_of_ble_eq_true rfl⟩ (fun H locs Z => ?_)
      refine lv_if_lt (tgt := 182) hx hb dL_isStep_152 (by decide) (fun c19 => ?_) (fun c19 => ?_)
      · have hf := it_t c19 hf
        refine lv_iconst (v := 0) hx hb dL_isStep_182 (by decide) ?_
        refine lv_istore (lv' := [(6, .int (0 : Int32)), (5, .int q2), (4, .int q1), (3, .int (p1 >>> ((4 : Int32) &&& 31))), (0, .ref (a 0)), (1, .int p1), (2, .int p2)]) hx hb dL_isStep_183 hl (by decide) rfl (fun ls hl => ?_)
        refine lv_iconst (v := 1) hx hb dL_isStep_185 (by decide) ?_
        refine lv_iload_n hx hb dL_isStep_186 rfl (lv_at hl 3 rfl) ?_
        refine lv_iconst (v := 1) hx hb dL_isStep_187 (by decide) ?_
        refine lv_ishr hx hb dL_isStep_188 ?_
        refine lv_bipush (v := 8) hx hb dL_isStep_189 (by decide) ?_
        obtain ⟨q20, hq20, hf⟩ := ob_s hf
        refine z_roS X Z (c_L_up l D cI cR   ((p1 >>> ((4 : Int32) &&& 31)) >>> ((1 : Int32) &&& 31)) (8 : Int32) hq20) (zw_L_9 X.1.2.2.2.2 ⟨Nat.le_of_ble_eq_true rfl, Nat.le_of_ble_eq_true rfl⟩) [] [0] (by decide : ([] ++ [0] : List Nat).Perm (List.range 1)) rfl rfl hl.1 rfl (Nat.le_of_ble_eq_true rfl) dL_isStep_191 ⟨Nat.le_of_ble_eq_true rfl, Nat.le_of_ble_eq_true rfl⟩ (fun H locs Z => ?_)
        refine lv_iadd hx hb dL_isStep_194 ?_
        refine lv_istore (lv' := [(7, .int ((1 : Int32) + q20)), (6, .int (0 : Int32)), (5, .int q2), (4, .int q1), (3, .int (p1 >>> ((4 : Int32) &&& 31))), (0, .ref (a 0)), (1, .int p1), (2, .int p2)]) hx hb dL_isStep_195 hl (by decide) rfl (fun ls hl => ?_)
        refine lv_iconst (v := 1) hx hb dL_isStep_197 (by decide) ?_
        refine lv_iload_n hx hb dL_isStep_198 rfl (lv_at hl 4 rfl) ?_
        refine lv_iconst (v := 4) hx hb dL_isStep_199 (by decide) ?_
        refine lv_ishr hx hb dL_isStep_200 ?_
        refine lv_bipush (v := 7) hx hb dL_isStep_201 (by decide) ?_
        obtain ⟨q21, hq21, hf⟩ := ob_s hf
        refine z_roS X Z (c_L_up l D cI cR   ((p1 >>> ((4 : Int32) &&& 31)) >>> ((4 : Int32) &&& 31)) (7 : Int32) hq21) (zw_L_9 X.1.2.2.2.2 ⟨Nat.le_of_ble_eq_true rfl, Nat.le_of_ble_eq_true rfl⟩) [] [0] (by decide : ([] ++ [0] : List Nat).Perm (List.range 1)) rfl rfl hl.1 rfl (Nat.le_of_ble_eq_true rfl) dL_isStep_203 ⟨Nat.le_of_ble_eq_true rfl, Nat.le_of_ble_eq_true rfl⟩ (fun H locs Z => ?_)
        refine lv_iadd hx hb dL_isStep_206 ?_
        refine lv_istore (lv' := [(8, .int ((1 : Int32) + q21)), (7, .int ((1 : Int32) + q20)), (6, .int (0 : Int32)), (5, .int q2), (4, .int q1), (3, .int (p1 >>> ((4 : Int32) &&& 31))), (0, .ref (a 0)), (1, .int p1), (2, .int p2)]) hx hb dL_isStep_207 hl (by decide) rfl (fun ls hl => ?_)
        refine lv_iconst (v := 0) hx hb dL_isStep_209 (by decide) ?_
        refine lv_istore (lv' := [(9, .int (0 : Int32)), (8, .int ((1 : Int32) + q21)), (7, .int ((1 : Int32) + q20)), (6, .int (0 : Int32)), (5, .int q2), (4, .int q1), (3, .int (p1 >>> ((4 : Int32) &&& 31))), (0, .ref (a 0)), (1, .int p1), (2, .int p2)]) hx hb dL_isStep_210 hl (by decide) rfl (fun ls hl => ?_)
        exact w_L_isStep_L212 X hr hlocks _ hf Z (lv_sub hl [7, 9, 6, 5, 4, 3, 2, 1, 0] rfl)
      · have hf := it_f c19 hf
        refine lv_aload_n hx hb dL_isStep_155 rfl (lv_at hl 3 rfl) ?_
        refine lv_bipush (v := 48) hx hb dL_isStep_156 (by decide) ?_
        refine lv_iload hx hb dL_isStep_158 (lv_at hl 1 rfl) ?_
        refine lv_iadd hx hb dL_isStep_160 ?_
        refine lv_i2l hx hb dL_isStep_161 rfl ?_
        obtain ⟨q53, hq53, hf⟩ := ob_s hf
        refine z_callV X Z (c_X7_put l D cI cR a a_now a_ahead a_pad_codes q18.2 a_padPattern_heights a_padPattern_length a_ways_steps a_ways_firstThrows a_ways_lastThrows a_ways_reached a_ways_reachedCount a_history_rs a_history_oldest a_history_size a_slotZero_kept a_slotZero_filled a_slotOne_kept a_slotOne_filled (((48 : Int32) + q1).toInt64) hq53) (zw_L_31 X.1.2.2.2.2 ⟨Nat.le_of_ble_eq_true rfl, Nat.le_of_ble_eq_true rfl⟩) 0 7 rfl rfl rfl [0] [] [w_X7 cI cR a a_now a_ahead q53.2.1 q53.2.2 a_padPattern_heights a_padPattern_length a_ways_steps a_ways_firstThrows a_ways_lastThrows a_ways_reached a_ways_reachedCount a_history_rs a_history_oldest a_history_size a_slotZero_kept a_slotZero_filled a_slotOne_kept a_slotOne_filled] (by decide : ([0] ++ [] : List Nat).Perm (List.range 1)) rfl rfl rfl rfl rfl hl.1 rfl (Nat.le_of_ble_eq_true rfl) dL_isStep_162 ⟨Nat.le_of_ble_eq_true rfl, Nat.le_of_ble_eq_true rfl⟩ (fun H locs Z => ?_)
        refine lv_if_le (tgt := 182) hx hb dL_isStep_165 (by decide) (fun c54 => ?_) (fun c54 => ?_)
        · have hf := it_t c54 hf
          refine lv_iconst (v := 0) hx hb dL_isStep_182 (by decide) ?_
          refine lv_istore (lv' := [(6, .int (0 : Int32)), (5, .int q2), (4, .int q1), (3, .int (p1 >>> ((4 : Int32) &&& 31))), (0, .ref (a 0)), (1, .int p1), (2, .int p2)]) hx hb dL_isStep_183 hl (by decide) rfl (fun ls hl => ?_)
          refine lv_iconst (v := 1) hx hb dL_isStep_185 (by decide) ?_
          refine lv_iload_n hx hb dL_isStep_186 rfl (lv_at hl 3 rfl) ?_
          refine lv_iconst (v := 1) hx hb dL_isStep_187 (by decide) ?_
          refine lv_ishr hx hb dL_isStep_188 ?_
          refine lv_bipush (v := 8) hx hb dL_isStep_189 (by decide) ?_
          obtain ⟨q55, hq55, hf⟩ := ob_s hf
          refine z_roS X Z (c_L_up l D cI cR   ((p1 >>> ((4 : Int32) &&& 31)) >>> ((1 : Int32) &&& 31)) (8 : Int32) hq55) (zw_L_9 X.1.2.2.2.2 ⟨Nat.le_of_ble_eq_true rfl, Nat.le_of_ble_eq_true rfl⟩) [] [0] (by decide : ([] ++ [0] : List Nat).Perm (List.range 1)) rfl rfl hl.1 rfl (Nat.le_of_ble_eq_true rfl) dL_isStep_191 ⟨Nat.le_of_ble_eq_true rfl, Nat.le_of_ble_eq_true rfl⟩ (fun H locs Z => ?_)
          refine lv_iadd hx hb dL_isStep_194 ?_
          refine lv_istore (lv' := [(7, .int ((1 : Int32) + q55)), (6, .int (0 : Int32)), (5, .int q2), (4, .int q1), (3, .int (p1 >>> ((4 : Int32) &&& 31))), (0, .ref (a 0)), (1, .int p1), (2, .int p2)]) hx hb dL_isStep_195 hl (by decide) rfl (fun ls hl => ?_)
          refine lv_iconst (v := 1) hx hb dL_isStep_197 (by decide) ?_
          refine lv_iload_n hx hb dL_isStep_198 rfl (lv_at hl 4 rfl) ?_
          refine lv_iconst (v := 4) hx hb dL_isStep_199 (by decide) ?_
          refine lv_ishr hx hb dL_isStep_200 ?_
          refine lv_bipush (v := 7) hx hb dL_isStep_201 (by decide) ?_
          obtain ⟨q56, hq56, hf⟩ := ob_s hf
          refine z_roS X Z (c_L_up l D cI cR   ((p1 >>> ((4 : Int32) &&& 31)) >>> ((4 : Int32) &&& 31)) (7 : Int32) hq56) (zw_L_9 X.1.2.2.2.2 ⟨Nat.le_of_ble_eq_true rfl, Nat.le_of_ble_eq_true rfl⟩) [] [0] (by decide : ([] ++ [0] : List Nat).Perm (List.range 1)) rfl rfl hl.1 rfl (Nat.le_of_ble_eq_true rfl) dL_isStep_203 ⟨Nat.le_of_ble_eq_true rfl, Nat.le_of_ble_eq_true rfl⟩ (fun H locs Z => ?_)
          refine lv_iadd hx hb dL_isStep_206 ?_
          refine lv_istore (lv' := [(8, .int ((1 : Int32) + q56)), (7, .int ((1 : Int32) + q55)), (6, .int (0 : Int32)), (5, .int q2), (4, .int q1), (3, .int (p1 >>> ((4 : Int32) &&& 31))), (0, .ref (a 0)), (1, .int p1), (2, .int p2)]) hx hb dL_isStep_207 hl (by decide) rfl (fun ls hl => ?_)
          refine lv_iconst (v := 0) hx hb dL_isStep_209 (by decide) ?_
          refine lv_istore (lv' := [(9, .int (0 : Int32)), (8, .int ((1 : Int32) + q56)), (7, .int ((1 : Int32) + q55)), (6, .int (0 : Int32)), (5, .int q2), (4, .int q1), (3, .int (p1 >>> ((4 : Int32) &&& 31))), (0, .ref (a 0)), (1, .int p1), (2, .int p2)]) hx hb dL_isStep_210 hl (by decide) rfl (fun ls hl => ?_)
          exact w_L_isStep_L212 X hr hlocks _ hf Z (lv_sub hl [7, 9, 6, 5, 4, 3, 2, 1, 0] rfl)
        · have hf := it_f c54 hf
          refine lv_aload_n hx hb dL_isStep_168 rfl (lv_at hl 3 rfl) ?_
          refine lv_ldc2 hx hb X.1.2.2.2.1 (X.1.2.2.2.2 _ mk_L_35) dL_isStep_169 ?_
          obtain ⟨q57, hq57, hf⟩ := ob_s hf
          refine z_callV X Z (c_X7_put l D cI cR a a_now a_ahead q53.2.1 q53.2.2 a_padPattern_heights a_padPattern_length a_ways_steps a_ways_firstThrows a_ways_lastThrows a_ways_reached a_ways_reachedCount a_history_rs a_history_oldest a_history_size a_slotZero_kept a_slotZero_filled a_slotOne_kept a_slotOne_filled (58 : Int64) hq57) (zw_L_31 X.1.2.2.2.2 ⟨Nat.le_of_ble_eq_true rfl, Nat.le_of_ble_eq_true rfl⟩) 0 7 rfl rfl rfl [0] [] [w_X7 cI cR a a_now a_ahead q57.2.1 q57.2.2 a_padPattern_heights a_padPattern_length a_ways_steps a_ways_firstThrows a_ways_lastThrows a_ways_reached a_ways_reachedCount a_history_rs a_history_oldest a_history_size a_slotZero_kept a_slotZero_filled a_slotOne_kept a_slotOne_filled] (by decide : ([0] ++ [] : List Nat).Perm (List.range 1)) rfl rfl rfl rfl rfl hl.1 rfl (Nat.le_of_ble_eq_true rfl) dL_isStep_172 ⟨Nat.le_of_ble_eq_true rfl, Nat.le_of_ble_eq_true rfl⟩ (fun H locs Z => ?_)
          refine lv_if_le (tgt := 182) hx hb dL_isStep_175 (by decide) (fun c58 => ?_) (fun c58 => ?_)
          · have hf := it_t c58 hf
            refine lv_iconst (v := 0) hx hb dL_isStep_182 (by decide) ?_
            refine lv_istore (lv' := [(6, .int (0 : Int32)), (5, .int q2), (4, .int q1), (3, .int (p1 >>> ((4 : Int32) &&& 31))), (0, .ref (a 0)), (1, .int p1), (2, .int p2)]) hx hb dL_isStep_183 hl (by decide) rfl (fun ls hl => ?_)
            refine lv_iconst (v := 1) hx hb dL_isStep_185 (by decide) ?_
            refine lv_iload_n hx hb dL_isStep_186 rfl (lv_at hl 3 rfl) ?_
            refine lv_iconst (v := 1) hx hb dL_isStep_187 (by decide) ?_
            refine lv_ishr hx hb dL_isStep_188 ?_
            refine lv_bipush (v := 8) hx hb dL_isStep_189 (by decide) ?_
            obtain ⟨q59, hq59, hf⟩ := ob_s hf
            refine z_roS X Z (c_L_up l D cI cR   ((p1 >>> ((4 : Int32) &&& 31)) >>> ((1 : Int32) &&& 31)) (8 : Int32) hq59) (zw_L_9 X.1.2.2.2.2 ⟨Nat.le_of_ble_eq_true rfl, Nat.le_of_ble_eq_true rfl⟩) [] [0] (by decide : ([] ++ [0] : List Nat).Perm (List.range 1)) rfl rfl hl.1 rfl (Nat.le_of_ble_eq_true rfl) dL_isStep_191 ⟨Nat.le_of_ble_eq_true rfl, Nat.le_of_ble_eq_true rfl⟩ (fun H locs Z => ?_)
            refine lv_iadd hx hb dL_isStep_194 ?_
            refine lv_istore (lv' := [(7, .int ((1 : Int32) + q59)), (6, .int (0 : Int32)), (5, .int q2), (4, .int q1), (3, .int (p1 >>> ((4 : Int32) &&& 31))), (0, .ref (a 0)), (1, .int p1), (2, .int p2)]) hx hb dL_isStep_195 hl (by decide) rfl (fun ls hl => ?_)
            refine lv_iconst (v := 1) hx hb dL_isStep_197 (by decide) ?_
            refine lv_iload_n hx hb dL_isStep_198 rfl (lv_at hl 4 rfl) ?_
            refine lv_iconst (v := 4) hx hb dL_isStep_199 (by decide) ?_
            refine lv_ishr hx hb dL_isStep_200 ?_
            refine lv_bipush (v := 7) hx hb dL_isStep_201 (by decide) ?_
            obtain ⟨q60, hq60, hf⟩ := ob_s hf
            refine z_roS X Z (c_L_up l D cI cR   ((p1 >>> ((4 : Int32) &&& 31)) >>> ((4 : Int32) &&& 31)) (7 : Int32) hq60) (zw_L_9 X.1.2.2.2.2 ⟨Nat.le_of_ble_eq_true rfl, Nat.le_of_ble_eq_true rfl⟩) [] [0] (by decide : ([] ++ [0] : List Nat).Perm (List.range 1)) rfl rfl hl.1 rfl (Nat.le_of_ble_eq_true rfl) dL_isStep_203 ⟨Nat.le_of_ble_eq_true rfl, Nat.le_of_ble_eq_true rfl⟩ (fun H locs Z => ?_)
            refine lv_iadd hx hb dL_isStep_206 ?_
            refine lv_istore (lv' := [(8, .int ((1 : Int32) + q60)), (7, .int ((1 : Int32) + q59)), (6, .int (0 : Int32)), (5, .int q2), (4, .int q1), (3, .int (p1 >>> ((4 : Int32) &&& 31))), (0, .ref (a 0)), (1, .int p1), (2, .int p2)]) hx hb dL_isStep_207 hl (by decide) rfl (fun ls hl => ?_)
            refine lv_iconst (v := 0) hx hb dL_isStep_209 (by decide) ?_
            refine lv_istore (lv' := [(9, .int (0 : Int32)), (8, .int ((1 : Int32) + q60)), (7, .int ((1 : Int32) + q59)), (6, .int (0 : Int32)), (5, .int q2), (4, .int q1), (3, .int (p1 >>> ((4 : Int32) &&& 31))), (0, .ref (a 0)), (1, .int p1), (2, .int p2)]) hx hb dL_isStep_210 hl (by decide) rfl (fun ls hl => ?_)
            exact w_L_isStep_L212 X hr hlocks _ hf Z (lv_sub hl [7, 9, 6, 5, 4, 3, 2, 1, 0] rfl)
          · have hf := it_f c58 hf
            refine lv_iconst (v := 1) hx hb dL_isStep_178 (by decide) ?_
            refine lv_goto (tgt := 183) hx hb dL_isStep_179 (by decide) ?_
            refine lv_istore (lv' := [(6, .int (1 : Int32)), (5, .int q2), (4, .int q1), (3, .int (p1 >>> ((4 : Int32) &&& 31))), (0, .ref (a 0)), (1, .int p1), (2, .int p2)]) hx hb dL_isStep_183 hl (by decide) rfl (fun ls hl => ?_)
            refine lv_iconst (v := 1) hx hb dL_isStep_185 (by decide) ?_
            refine lv_iload_n hx hb dL_isStep_186 rfl (lv_at hl 3 rfl) ?_
            refine lv_iconst (v := 1) hx hb dL_isStep_187 (by decide) ?_
            refine lv_ishr hx hb dL_isStep_188 ?_
            refine lv_bipush (v := 8) hx hb dL_isStep_189 (by decide) ?_
            obtain ⟨q61, hq61, hf⟩ := ob_s hf
            refine z_roS X Z (c_L_up l D cI cR   ((p1 >>> ((4 : Int32) &&& 31)) >>> ((1 : Int32) &&& 31)) (8 : Int32) hq61) (zw_L_9 X.1.2.2.2.2 ⟨Nat.le_of_ble_eq_true rfl, Nat.le_of_ble_eq_true rfl⟩) [] [0] (by decide : ([] ++ [0] : List Nat).Perm (List.range 1)) rfl rfl hl.1 rfl (Nat.le_of_ble_eq_true rfl) dL_isStep_191 ⟨Nat.le_of_ble_eq_true rfl, Nat.le_of_ble_eq_true rfl⟩ (fun H locs Z => ?_)
            refine lv_iadd hx hb dL_isStep_194 ?_
            refine lv_istore (lv' := [(7, .int ((1 : Int32) + q61)), (6, .int (1 : Int32)), (5, .int q2), (4, .int q1), (3, .int (p1 >>> ((4 : Int32) &&& 31))), (0, .ref (a 0)), (1, .int p1), (2, .int p2)]) hx hb dL_isStep_195 hl (by decide) rfl (fun ls hl => ?_)
            refine lv_iconst (v := 1) hx hb dL_isStep_197 (by decide) ?_
            refine lv_iload_n hx hb dL_isStep_198 rfl (lv_at hl 4 rfl) ?_
            refine lv_iconst (v := 4) hx hb dL_isStep_199 (by decide) ?_
            refine lv_ishr hx hb dL_isStep_200 ?_
            refine lv_bipush (v := 7) hx hb dL_isStep_201 (by decide) ?_
            obtain ⟨q62, hq62, hf⟩ := ob_s hf
            refine z_roS X Z (c_L_up l D cI cR   ((p1 >>> ((4 : Int32) &&& 31)) >>> ((4 : Int32) &&& 31)) (7 : Int32) hq62) (zw_L_9 X.1.2.2.2.2 ⟨Nat.le_of_ble_eq_true rfl, Nat.le_of_ble_eq_true rfl⟩) [] [0] (by decide : ([] ++ [0] : List Nat).Perm (List.range 1)) rfl rfl hl.1 rfl (Nat.le_of_ble_eq_true rfl) dL_isStep_203 ⟨Nat.le_of_ble_eq_true rfl, Nat.le_of_ble_eq_true rfl⟩ (fun H locs Z => ?_)
            refine lv_iadd hx hb dL_isStep_206 ?_
            refine lv_istore (lv' := [(8, .int ((1 : Int32) + q62)), (7, .int ((1 : Int32) + q61)), (6, .int (1 : Int32)), (5, .int q2), (4, .int q1), (3, .int (p1 >>> ((4 : Int32) &&& 31))), (0, .ref (a 0)), (1, .int p1), (2, .int p2)]) hx hb dL_isStep_207 hl (by decide) rfl (fun ls hl => ?_)
            refine lv_iconst (v := 0) hx hb dL_isStep_209 (by decide) ?_
            refine lv_istore (lv' := [(9, .int (0 : Int32)), (8, .int ((1 : Int32) + q62)), (7, .int ((1 : Int32) + q61)), (6, .int (1 : Int32)), (5, .int q2), (4, .int q1), (3, .int (p1 >>> ((4 : Int32) &&& 31))), (0, .ref (a 0)), (1, .int p1), (2, .int p2)]) hx hb dL_isStep_210 hl (by decide) rfl (fun ls hl => ?_)
            exact w_L_isStep_L212 X hr hlocks _ hf Z (lv_sub hl [7, 9, 6, 5, 4, 3, 2, 1, 0] rfl)
    · have hf := it_f c17 hf
      rcases Decidable.em (q3 = (2 : Int32)) with c63 | c63
      · have hf := it_t c63 hf
        refine z_tabIn hx hb 2 c63 (off := 124) (tgt := 148) dL_isStep_24 (by decide) (by decide) (by decide) (by decide) ?_
        refine lv_aload_n hx hb dL_isStep_148 rfl (lv_at hl 3 rfl) ?_
        obtain ⟨q64, hq64, hf⟩ := ob_s hf
        refine z_callV X Z (c_X7_wipe l D cI cR a a_now a_ahead a_pad_codes a_pad_length a_padPattern_heights a_padPattern_length a_ways_steps a_ways_firstThrows a_ways_lastThrows a_ways_reached a_ways_reachedCount a_history_rs a_history_oldest a_history_size a_slotZero_kept a_slotZero_filled a_slotOne_kept a_slotOne_filled  hq64) (zw_L_27 X.1.2.2.2.2 ⟨Nat.le_of_ble_eq_true rfl, Nat.le_of_ble_eq_true rfl⟩) 0 7 rfl rfl rfl [0] [] [w_X7 cI cR a a_now a_ahead a_pad_codes q64.2 a_padPattern_heights a_padPattern_length a_ways_steps a_ways_firstThrows a_ways_lastThrows a_ways_reached a_ways_reachedCount a_history_rs a_history_oldest a_history_size a_slotZero_kept a_slotZero_filled a_slotOne_kept a_slotOne_filled] (by decide : ([0] ++ [] : List Nat).Perm (List.range 1)) rfl rfl rfl rfl rfl hl.1 rfl (Nat.le_of_ble_eq_true rfl) dL_isStep_149 ⟨Nat.le_of_ble_eq_true rfl, Nat.le_of_ble_eq_true rfl⟩ (fun H locs Z => ?_)
        refine lv_if_lt (tgt := 182) hx hb dL_isStep_152 (by decide) (fun c65 => ?_) (fun c65 => ?_)
        · have hf := it_t c65 hf
          refine lv_iconst (v := 0) hx hb dL_isStep_182 (by decide) ?_
          refine lv_istore (lv' := [(6, .int (0 : Int32)), (5, .int q2), (4, .int q1), (3, .int (p1 >>> ((4 : Int32) &&& 31))), (0, .ref (a 0)), (1, .int p1), (2, .int p2)]) hx hb dL_isStep_183 hl (by decide) rfl (fun ls hl => ?_)
          refine lv_iconst (v := 1) hx hb dL_isStep_185 (by decide) ?_
          refine lv_iload_n hx hb dL_isStep_186 rfl (lv_at hl 3 rfl) ?_
          refine lv_iconst (v := 1) hx hb dL_isStep_187 (by decide) ?_
          refine lv_ishr hx hb dL_isStep_188 ?_
          refine lv_bipush (v := 8) hx hb dL_isStep_189 (by decide) ?_
          obtain ⟨q66, hq66, hf⟩ := ob_s hf
          refine z_roS X Z (c_L_up l D cI cR   ((p1 >>> ((4 : Int32) &&& 31)) >>> ((1 : Int32) &&& 31)) (8 : Int32) hq66) (zw_L_9 X.1.2.2.2.2 ⟨Nat.le_of_ble_eq_true rfl, Nat.le_of_ble_eq_true rfl⟩) [] [0] (by decide : ([] ++ [0] : List Nat).Perm (List.range 1)) rfl rfl hl.1 rfl (Nat.le_of_ble_eq_true rfl) dL_isStep_191 ⟨Nat.le_of_ble_eq_true rfl, Nat.le_of_ble_eq_true rfl⟩ (fun H locs Z => ?_)
          refine lv_iadd hx hb dL_isStep_194 ?_
          refine lv_istore (lv' := [(7, .int ((1 : Int32) + q66)), (6, .int (0 : Int32)), (5, .int q2), (4, .int q1), (3, .int (p1 >>> ((4 : Int32) &&& 31))), (0, .ref (a 0)), (1, .int p1), (2, .int p2)]) hx hb dL_isStep_195 hl (by decide) rfl (fun ls hl => ?_)
          refine lv_iconst (v := 1) hx hb dL_isStep_197 (by decide) ?_
          refine lv_iload_n hx hb dL_isStep_198 rfl (lv_at hl 4 rfl) ?_
          refine lv_iconst (v := 4) hx hb dL_isStep_199 (by decide) ?_
          refine lv_ishr hx hb dL_isStep_200 ?_
          refine lv_bipush (v := 7) hx hb dL_isStep_201 (by decide) ?_
          obtain ⟨q67, hq67, hf⟩ := ob_s hf
          refine z_roS X Z (c_L_up l D cI cR   ((p1 >>> ((4 : Int32) &&& 31)) >>> ((4 : Int32) &&& 31)) (7 : Int32) hq67) (zw_L_9 X.1.2.2.2.2 ⟨Nat.le_of_ble_eq_true rfl, Nat.le_of_ble_eq_true rfl⟩) [] [0] (by decide : ([] ++ [0] : List Nat).Perm (List.range 1)) rfl rfl hl.1 rfl (Nat.le_of_ble_eq_true rfl) dL_isStep_203 ⟨Nat.le_of_ble_eq_true rfl, Nat.le_of_ble_eq_true rfl⟩ (fun H locs Z => ?_)
          refine lv_iadd hx hb dL_isStep_206 ?_
          refine lv_istore (lv' := [(8, .int ((1 : Int32) + q67)), (7, .int ((1 : Int32) + q66)), (6, .int (0 : Int32)), (5, .int q2), (4, .int q1), (3, .int (p1 >>> ((4 : Int32) &&& 31))), (0, .ref (a 0)), (1, .int p1), (2, .int p2)]) hx hb dL_isStep_207 hl (by decide) rfl (fun ls hl => ?_)
          refine lv_iconst (v := 0) hx hb dL_isStep_209 (by decide) ?_
          refine lv_istore (lv' := [(9, .int (0 : Int32)), (8, .int ((1 : Int32) + q67)), (7, .int ((1 : Int32) + q66)), (6, .int (0 : Int32)), (5, .int q2), (4, .int q1), (3, .int (p1 >>> ((4 : Int32) &&& 31))), (0, .ref (a 0)), (1, .int p1), (2, .int p2)]) hx hb dL_isStep_210 hl (by decide) rfl (fun ls hl => ?_)
          exact w_L_isStep_L212 X hr hlocks _ hf Z (lv_sub hl [7, 9, 6, 5, 4, 3, 2, 1, 0] rfl)
        · have hf := it_f c65 hf
          refine lv_aload_n hx hb dL_isStep_155 rfl (lv_at hl 3 rfl) ?_
          refine lv_bipush (v := 48) hx hb dL_isStep_156 (by decide) ?_
          refine lv_iload hx hb dL_isStep_158 (lv_at hl 1 rfl) ?_
          refine lv_iadd hx hb dL_isStep_160 ?_
          refine lv_i2l hx hb dL_isStep_161 rfl ?_
          obtain ⟨q68, hq68, hf⟩ := ob_s hf
          refine z_callV X Z (c_X7_put l D cI cR a a_now a_ahead a_pad_codes q64.2 a_padPattern_heights a_padPattern_length a_ways_steps a_ways_firstThrows a_ways_lastThrows a_ways_reached a_ways_reachedCount a_history_rs a_history_oldest a_history_size a_slotZero_kept a_slotZero_filled a_slotOne_kept a_slotOne_filled (((48 : Int32) + q1).toInt64) hq68) (zw_L_31 X.1.2.2.2.2 ⟨Nat.le_of_ble_eq_true rfl, Nat.le_of_ble_eq_true rfl⟩) 0 7 rfl rfl rfl [0] [] [w_X7 cI cR a a_now a_ahead q68.2.1 q68.2.2 a_padPattern_heights a_padPattern_length a_ways_steps a_ways_firstThrows a_ways_lastThrows a_ways_reached a_ways_reachedCount a_history_rs a_history_oldest a_history_size a_slotZero_kept a_slotZero_filled a_slotOne_kept a_slotOne_filled] (by decide : ([0] ++ [] : List Nat).Perm (List.range 1)) rfl rfl rfl rfl rfl hl.1 rfl (Nat.le_of_ble_eq_true rfl) dL_isStep_162 ⟨Nat.le_of_ble_eq_true rfl, Nat.le_of_ble_eq_true rfl⟩ (fun H locs Z => ?_)
          refine lv_if_le (tgt := 182) hx hb dL_isStep_165 (by decide) (fun c69 => ?_) (fun c69 => ?_)
          · have hf := it_t c69 hf
            refine lv_iconst (v := 0) hx hb dL_isStep_182 (by decide) ?_
            refine lv_istore (lv' := [(6, .int (0 : Int32)), (5, .int q2), (4, .int q1), (3, .int (p1 >>> ((4 : Int32) &&& 31))), (0, .ref (a 0)), (1, .int p1), (2, .int p2)]) hx hb dL_isStep_183 hl (by decide) rfl (fun ls hl => ?_)
            refine lv_iconst (v := 1) hx hb dL_isStep_185 (by decide) ?_
            refine lv_iload_n hx hb dL_isStep_186 rfl (lv_at hl 3 rfl) ?_
            refine lv_iconst (v := 1) hx hb dL_isStep_187 (by decide) ?_
            refine lv_ishr hx hb dL_isStep_188 ?_
            refine lv_bipush (v := 8) hx hb dL_isStep_189 (by decide) ?_
            obtain ⟨q70, hq70, hf⟩ := ob_s hf
            refine z_roS X Z (c_L_up l D cI cR   ((p1 >>> ((4 : Int32) &&& 31)) >>> ((1 : Int32) &&& 31)) (8 : Int32) hq70) (zw_L_9 X.1.2.2.2.2 ⟨Nat.le_of_ble_eq_true rfl, Nat.le_of_ble_eq_true rfl⟩) [] [0] (by decide : ([] ++ [0] : List Nat).Perm (List.range 1)) rfl rfl hl.1 rfl (Nat.le_of_ble_eq_true rfl) dL_isStep_191 ⟨Nat.le_of_ble_eq_true rfl, Nat.le_of_ble_eq_true rfl⟩ (fun H locs Z => ?_)
            refine lv_iadd hx hb dL_isStep_194 ?_
            refine lv_istore (lv' := [(7, .int ((1 : Int32) + q70)), (6, .int (0 : Int32)), (5, .int q2), (4, .int q1), (3, .int (p1 >>> ((4 : Int32) &&& 31))), (0, .ref (a 0)), (1, .int p1), (2, .int p2)]) hx hb dL_isStep_195 hl (by decide) rfl (fun ls hl => ?_)
            refine lv_iconst (v := 1) hx hb dL_isStep_197 (by decide) ?_
            refine lv_iload_n hx hb dL_isStep_198 rfl (lv_at hl 4 rfl) ?_
            refine lv_iconst (v := 4) hx hb dL_isStep_199 (by decide) ?_
            refine lv_ishr hx hb dL_isStep_200 ?_
            refine lv_bipush (v := 7) hx hb dL_isStep_201 (by decide) ?_
            obtain ⟨q71, hq71, hf⟩ := ob_s hf
            refine z_roS X Z (c_L_up l D cI cR   ((p1 >>> ((4 : Int32) &&& 31)) >>> ((4 : Int32) &&& 31)) (7 : Int32) hq71) (zw_L_9 X.1.2.2.2.2 ⟨Nat.le_of_ble_eq_true rfl, Nat.le_of_ble_eq_true rfl⟩) [] [0] (by decide : ([] ++ [0] : List Nat).Perm (List.range 1)) rfl rfl hl.1 rfl (Nat.le_of_ble_eq_true rfl) dL_isStep_203 ⟨Nat.le_of_ble_eq_true rfl, Nat.le_of_ble_eq_true rfl⟩ (fun H locs Z => ?_)
            refine lv_iadd hx hb dL_isStep_206 ?_
            refine lv_istore (lv' := [(8, .int ((1 : Int32) + q71)), (7, .int ((1 : Int32) + q70)), (6, .int (0 : Int32)), (5, .int q2), (4, .int q1), (3, .int (p1 >>> ((4 : Int32) &&& 31))), (0, .ref (a 0)), (1, .int p1), (2, .int p2)]) hx hb dL_isStep_207 hl (by decide) rfl (fun ls hl => ?_)
            refine lv_iconst (v := 0) hx hb dL_isStep_209 (by decide) ?_
            refine lv_istore (lv' := [(9, .int (0 : Int32)), (8, .int ((1 : Int32) + q71)), (7, .int ((1 : Int32) + q70)), (6, .int (0 : Int32)), (5, .int q2), (4, .int q1), (3, .int (p1 >>> ((4 : Int32) &&& 31))), (0, .ref (a 0)), (1, .int p1), (2, .int p2)]) hx hb dL_isStep_210 hl (by decide) rfl (fun ls hl => ?_)
            exact w_L_isStep_L212 X hr hlocks _ hf Z (lv_sub hl [7, 9, 6, 5, 4, 3, 2, 1, 0] rfl)
          · have hf := it_f c69 hf
            refine lv_aload_n hx hb dL_isStep_168 rfl (lv_at hl 3 rfl) ?_
            refine lv_ldc2 hx hb X.1.2.2.2.1 (X.1.2.2.2.2 _ mk_L_35) dL_isStep_169 ?_
            obtain ⟨q72, hq72, hf⟩ := ob_s hf
            refine z_callV X Z (c_X7_put l D cI cR a a_now a_ahead q68.2.1 q68.2.2 a_padPattern_heights a_padPattern_length a_ways_steps a_ways_firstThrows a_ways_lastThrows a_ways_reached a_ways_reachedCount a_history_rs a_history_oldest a_history_size a_slotZero_kept a_slotZero_filled a_slotOne_kept a_slotOne_filled (58 : Int64) hq72) (zw_L_31 X.1.2.2.2.2 ⟨Nat.le_of_ble_eq_true rfl, Nat.le_of_ble_eq_true rfl⟩) 0 7 rfl rfl rfl [0] [] [w_X7 cI cR a a_now a_ahead q72.2.1 q72.2.2 a_padPattern_heights a_padPattern_length a_ways_steps a_ways_firstThrows a_ways_lastThrows a_ways_reached a_ways_reachedCount a_history_rs a_history_oldest a_history_size a_slotZero_kept a_slotZero_filled a_slotOne_kept a_slotOne_filled] (by decide : ([0] ++ [] : List Nat).Perm (List.range 1)) rfl rfl rfl rfl rfl hl.1 rfl (Nat.le_of_ble_eq_true rfl) dL_isStep_172 ⟨Nat.le_of_ble_eq_true rfl, Nat.le_of_ble_eq_true rfl⟩ (fun H locs Z => ?_)
            refine lv_if_le (tgt := 182) hx hb dL_isStep_175 (by decide) (fun c73 => ?_) (fun c73 => ?_)
            · have hf := it_t c73 hf
              refine lv_iconst (v := 0) hx hb dL_isStep_182 (by decide) ?_
              refine lv_istore (lv' := [(6, .int (0 : Int32)), (5, .int q2), (4, .int q1), (3, .int (p1 >>> ((4 : Int32) &&& 31))), (0, .ref (a 0)), (1, .int p1), (2, .int p2)]) hx hb dL_isStep_183 hl (by decide) rfl (fun ls hl => ?_)
              refine lv_iconst (v := 1) hx hb dL_isStep_185 (by decide) ?_
              refine lv_iload_n hx hb dL_isStep_186 rfl (lv_at hl 3 rfl) ?_
              refine lv_iconst (v := 1) hx hb dL_isStep_187 (by decide) ?_
              refine lv_ishr hx hb dL_isStep_188 ?_
              refine lv_bipush (v := 8) hx hb dL_isStep_189 (by decide) ?_
              obtain ⟨q74, hq74, hf⟩ := ob_s hf
              refine z_roS X Z (c_L_up l D cI cR   ((p1 >>> ((4 : Int32) &&& 31)) >>> ((1 : Int32) &&& 31)) (8 : Int32) hq74) (zw_L_9 X.1.2.2.2.2 ⟨Nat.le_of_ble_eq_true rfl, Nat.le_of_ble_eq_true rfl⟩) [] [0] (by decide : ([] ++ [0] : List Nat).Perm (List.range 1)) rfl rfl hl.1 rfl (Nat.le_of_ble_eq_true rfl) dL_isStep_191 ⟨Nat.le_of_ble_eq_true rfl, Nat.le_of_ble_eq_true rfl⟩ (fun H locs Z => ?_)
              refine lv_iadd hx hb dL_isStep_194 ?_
              refine lv_istore (lv' := [(7, .int ((1 : Int32) + q74)), (6, .int (0 : Int32)), (5, .int q2), (4, .int q1), (3, .int (p1 >>> ((4 : Int32) &&& 31))), (0, .ref (a 0)), (1, .int p1), (2, .int p2)]) hx hb dL_isStep_195 hl (by decide) rfl (fun ls hl => ?_)
              refine lv_iconst (v := 1) hx hb dL_isStep_197 (by decide) ?_
              refine lv_iload_n hx hb dL_isStep_198 rfl (lv_at hl 4 rfl) ?_
              refine lv_iconst (v := 4) hx hb dL_isStep_199 (by decide) ?_
              refine lv_ishr hx hb dL_isStep_200 ?_
              refine lv_bipush (v := 7) hx hb dL_isStep_201 (by decide) ?_
              obtain ⟨q75, hq75, hf⟩ := ob_s hf
              refine z_roS X Z (c_L_up l D cI cR   ((p1 >>> ((4 : Int32) &&& 31)) >>> ((4 : Int32) &&& 31)) (7 : Int32) hq75) (zw_L_9 X.1.2.2.2.2 ⟨Nat.le_of_ble_eq_true rfl, Nat.le_of_ble_eq_true rfl⟩) [] [0] (by decide : ([] ++ [0] : List Nat).Perm (List.range 1)) rfl rfl hl.1 rfl (Nat.le_of_ble_eq_true rfl) dL_isStep_203 ⟨Nat.le_of_ble_eq_true rfl, Nat.le_of_ble_eq_true rfl⟩ (fun H locs Z => ?_)
              refine lv_iadd hx hb dL_isStep_206 ?_
              refine lv_istore (lv' := [(8, .int ((1 : Int32) + q75)), (7, .int ((1 : Int32) + q74)), (6, .int (0 : Int32)), (5, .int q2), (4, .int q1), (3, .int (p1 >>> ((4 : Int32) &&& 31))), (0, .ref (a 0)), (1, .int p1), (2, .int p2)]) hx hb dL_isStep_207 hl (by decide) rfl (fun ls hl => ?_)
              refine lv_iconst (v := 0) hx hb dL_isStep_209 (by decide) ?_
              refine lv_istore (lv' := [(9, .int (0 : Int32)), (8, .int ((1 : Int32) + q75)), (7, .int ((1 : Int32) + q74)), (6, .int (0 : Int32)), (5, .int q2), (4, .int q1), (3, .int (p1 >>> ((4 : Int32) &&& 31))), (0, .ref (a 0)), (1, .int p1), (2, .int p2)]) hx hb dL_isStep_210 hl (by decide) rfl (fun ls hl => ?_)
              exact w_L_isStep_L212 X hr hlocks _ hf Z (lv_sub hl [7, 9, 6, 5, 4, 3, 2, 1, 0] rfl)
            · have hf := it_f c73 hf
              refine lv_iconst (v := 1) hx hb dL_isStep_178 (by decide) ?_
              refine lv_goto (tgt := 183) hx hb dL_isStep_179 (by decide) ?_
              refine lv_istore (lv' := [(6, .int (1 : Int32)), (5, .int q2), (4, .int q1), (3, .int (p1 >>> ((4 : Int32) &&& 31))), (0, .ref (a 0)), (1, .int p1), (2, .int p2)]) hx hb dL_isStep_183 hl (by decide) rfl (fun ls hl => ?_)
              refine lv_iconst (v := 1) hx hb dL_isStep_185 (by decide) ?_
              refine lv_iload_n hx hb dL_isStep_186 rfl (lv_at hl 3 rfl) ?_
              refine lv_iconst (v := 1) hx hb dL_isStep_187 (by decide) ?_
              refine lv_ishr hx hb dL_isStep_188 ?_
              refine lv_bipush (v := 8) hx hb dL_isStep_189 (by decide) ?_
              obtain ⟨q76, hq76, hf⟩ := ob_s hf
              refine z_roS X Z (c_L_up l D cI cR   ((p1 >>> ((4 : Int32) &&& 31)) >>> ((1 : Int32) &&& 31)) (8 : Int32) hq76) (zw_L_9 X.1.2.2.2.2 ⟨Nat.le_of_ble_eq_true rfl, Nat.le_of_ble_eq_true rfl⟩) [] [0] (by decide : ([] ++ [0] : List Nat).Perm (List.range 1)) rfl rfl hl.1 rfl (Nat.le_of_ble_eq_true rfl) dL_isStep_191 ⟨Nat.le_of_ble_eq_true rfl, Nat.le_of_ble_eq_true rfl⟩ (fun H locs Z => ?_)
              refine lv_iadd hx hb dL_isStep_194 ?_
              refine lv_istore (lv' := [(7, .int ((1 : Int32) + q76)), (6, .int (1 : Int32)), (5, .int q2), (4, .int q1), (3, .int (p1 >>> ((4 : Int32) &&& 31))), (0, .ref (a 0)), (1, .int p1), (2, .int p2)]) hx hb dL_isStep_195 hl (by decide) rfl (fun ls hl => ?_)
              refine lv_iconst (v := 1) hx hb dL_isStep_197 (by decide) ?_
              refine lv_iload_n hx hb dL_isStep_198 rfl (lv_at hl 4 rfl) ?_
              refine lv_iconst (v := 4) hx hb dL_isStep_199 (by decide) ?_
              refine lv_ishr hx hb dL_isStep_200 ?_
              refine lv_bipush (v := 7) hx hb dL_isStep_201 (by decide) ?_
              obtain ⟨q77, hq77, hf⟩ := ob_s hf
              refine z_roS X Z (c_L_up l D cI cR   ((p1 >>> ((4 : Int32) &&& 31)) >>> ((4 : Int32) &&& 31)) (7 : Int32) hq77) (zw_L_9 X.1.2.2.2.2 ⟨Nat.le_of_ble_eq_true rfl, Nat.le_of_ble_eq_true rfl⟩) [] [0] (by decide : ([] ++ [0] : List Nat).Perm (List.range 1)) rfl rfl hl.1 rfl (Nat.le_of_ble_eq_true rfl) dL_isStep_203 ⟨Nat.le_of_ble_eq_true rfl, Nat.le_of_ble_eq_true rfl⟩ (fun H locs Z => ?_)
              refine lv_iadd hx hb dL_isStep_206 ?_
              refine lv_istore (lv' := [(8, .int ((1 : Int32) + q77)), (7, .int ((1 : Int32) + q76)), (6, .int (1 : Int32)), (5, .int q2), (4, .int q1), (3, .int (p1 >>> ((4 : Int32) &&& 31))), (0, .ref (a 0)), (1, .int p1), (2, .int p2)]) hx hb dL_isStep_207 hl (by decide) rfl (fun ls hl => ?_)
              refine lv_iconst (v := 0) hx hb dL_isStep_209 (by decide) ?_
              refine lv_istore (lv' := [(9, .int (0 : Int32)), (8, .int ((1 : Int32) + q77)), (7, .int ((1 : Int32) + q76)), (6, .int (1 : Int32)), (5, .int q2), (4, .int q1), (3, .int (p1 >>> ((4 : Int32) &&& 31))), (0, .ref (a 0)), (1, .int p1), (2, .int p2)]) hx hb dL_isStep_210 hl (by decide) rfl (fun ls hl => ?_)
              exact w_L_isStep_L212 X hr hlocks _ hf Z (lv_sub hl [7, 9, 6, 5, 4, 3, 2, 1, 0] rfl)
      · have hf := it_f c63 hf
        rcases Decidable.em (q3 = (3 : Int32)) with c78 | c78
        · have hf := it_t c78 hf
          refine z_tabIn hx hb 3 c78 (off := 124) (tgt := 148) dL_isStep_24 (by decide) (by decide) (by decide) (by decide) ?_
          refine lv_aload_n hx hb dL_isStep_148 rfl (lv_at hl 3 rfl) ?_
          obtain ⟨q79, hq79, hf⟩ := ob_s hf
          refine z_callV X Z (c_X7_wipe l D cI cR a a_now a_ahead a_pad_codes a_pad_length a_padPattern_heights a_padPattern_length a_ways_steps a_ways_firstThrows a_ways_lastThrows a_ways_reached a_ways_reachedCount a_history_rs a_history_oldest a_history_size a_slotZero_kept a_slotZero_filled a_slotOne_kept a_slotOne_filled  hq79) (zw_L_27 X.1.2.2.2.2 ⟨Nat.le_of_ble_eq_true rfl, Nat.le_of_ble_eq_true rfl⟩) 0 7 rfl rfl rfl [0] [] [w_X7 cI cR a a_now a_ahead a_pad_codes q79.2 a_padPattern_heights a_padPattern_length a_ways_steps a_ways_firstThrows a_ways_lastThrows a_ways_reached a_ways_reachedCount a_history_rs a_history_oldest a_history_size a_slotZero_kept a_slotZero_filled a_slotOne_kept a_slotOne_filled] (by decide : ([0] ++ [] : List Nat).Perm (List.range 1)) rfl rfl rfl rfl rfl hl.1 rfl (Nat.le_of_ble_eq_true rfl) dL_isStep_149 ⟨Nat.le_of_ble_eq_true rfl, Nat.le_of_ble_eq_true rfl⟩ (fun H locs Z => ?_)
          refine lv_if_lt (tgt := 182) hx hb dL_isStep_152 (by decide) (fun c80 => ?_) (fun c80 => ?_)
          · have hf := it_t c80 hf
            refine lv_iconst (v := 0) hx hb dL_isStep_182 (by decide) ?_
            refine lv_istore (lv' := [(6, .int (0 : Int32)), (5, .int q2), (4, .int q1), (3, .int (p1 >>> ((4 : Int32) &&& 31))), (0, .ref (a 0)), (1, .int p1), (2, .int p2)]) hx hb dL_isStep_183 hl (by decide) rfl (fun ls hl => ?_)
            refine lv_iconst (v := 1) hx hb dL_isStep_185 (by decide) ?_
            refine lv_iload_n hx hb dL_isStep_186 rfl (lv_at hl 3 rfl) ?_
            refine lv_iconst (v := 1) hx hb dL_isStep_187 (by decide) ?_
            refine lv_ishr hx hb dL_isStep_188 ?_
            refine lv_bipush (v := 8) hx hb dL_isStep_189 (by decide) ?_
            obtain ⟨q81, hq81, hf⟩ := ob_s hf
            refine z_roS X Z (c_L_up l D cI cR   ((p1 >>> ((4 : Int32) &&& 31)) >>> ((1 : Int32) &&& 31)) (8 : Int32) hq81) (zw_L_9 X.1.2.2.2.2 ⟨Nat.le_of_ble_eq_true rfl, Nat.le_of_ble_eq_true rfl⟩) [] [0] (by decide : ([] ++ [0] : List Nat).Perm (List.range 1)) rfl rfl hl.1 rfl (Nat.le_of_ble_eq_true rfl) dL_isStep_191 ⟨Nat.le_of_ble_eq_true rfl, Nat.le_of_ble_eq_true rfl⟩ (fun H locs Z => ?_)
            refine lv_iadd hx hb dL_isStep_194 ?_
            refine lv_istore (lv' := [(7, .int ((1 : Int32) + q81)), (6, .int (0 : Int32)), (5, .int q2), (4, .int q1), (3, .int (p1 >>> ((4 : Int32) &&& 31))), (0, .ref (a 0)), (1, .int p1), (2, .int p2)]) hx hb dL_isStep_195 hl (by decide) rfl (fun ls hl => ?_)
            refine lv_iconst (v := 1) hx hb dL_isStep_197 (by decide) ?_
            refine lv_iload_n hx hb dL_isStep_198 rfl (lv_at hl 4 rfl) ?_
            refine lv_iconst (v := 4) hx hb dL_isStep_199 (by decide) ?_
            refine lv_ishr hx hb dL_isStep_200 ?_
            refine lv_bipush (v := 7) hx hb dL_isStep_201 (by decide) ?_
            obtain ⟨q82, hq82, hf⟩ := ob_s hf
            refine z_roS X Z (c_L_up l D cI cR   ((p1 >>> ((4 : Int32) &&& 31)) >>> ((4 : Int32) &&& 31)) (7 : Int32) hq82) (zw_L_9 X.1.2.2.2.2 ⟨Nat.le_of_ble_eq_true rfl, Nat.le_of_ble_eq_true rfl⟩) [] [0] (by decide : ([] ++ [0] : List Nat).Perm (List.range 1)) rfl rfl hl.1 rfl (Nat.le_of_ble_eq_true rfl) dL_isStep_203 ⟨Nat.le_of_ble_eq_true rfl, Nat.le_of_ble_eq_true rfl⟩ (fun H locs Z => ?_)
            refine lv_iadd hx hb dL_isStep_206 ?_
            refine lv_istore (lv' := [(8, .int ((1 : Int32) + q82)), (7, .int ((1 : Int32) + q81)), (6, .int (0 : Int32)), (5, .int q2), (4, .int q1), (3, .int (p1 >>> ((4 : Int32) &&& 31))), (0, .ref (a 0)), (1, .int p1), (2, .int p2)]) hx hb dL_isStep_207 hl (by decide) rfl (fun ls hl => ?_)
            refine lv_iconst (v := 0) hx hb dL_isStep_209 (by decide) ?_
            refine lv_istore (lv' := [(9, .int (0 : Int32)), (8, .int ((1 : Int32) + q82)), (7, .int ((1 : Int32) + q81)), (6, .int (0 : Int32)), (5, .int q2), (4, .int q1), (3, .int (p1 >>> ((4 : Int32) &&& 31))), (0, .ref (a 0)), (1, .int p1), (2, .int p2)]) hx hb dL_isStep_210 hl (by decide) rfl (fun ls hl => ?_)
            exact w_L_isStep_L212 X hr hlocks _ hf Z (lv_sub hl [7, 9, 6, 5, 4, 3, 2, 1, 0] rfl)
          · have hf := it_f c80 hf
            refine lv_aload_n hx hb dL_isStep_155 rfl (lv_at hl 3 rfl) ?_
            refine lv_bipush (v := 48) hx hb dL_isStep_156 (by decide) ?_
            refine lv_iload hx hb dL_isStep_158 (lv_at hl 1 rfl) ?_
            refine lv_iadd hx hb dL_isStep_160 ?_
            refine lv_i2l hx hb dL_isStep_161 rfl ?_
            obtain ⟨q83, hq83, hf⟩ := ob_s hf
            refine z_callV X Z (c_X7_put l D cI cR a a_now a_ahead a_pad_codes q79.2 a_padPattern_heights a_padPattern_length a_ways_steps a_ways_firstThrows a_ways_lastThrows a_ways_reached a_ways_reachedCount a_history_rs a_history_oldest a_history_size a_slotZero_kept a_slotZero_filled a_slotOne_kept a_slotOne_filled (((48 : Int32) + q1).toInt64) hq83) (zw_L_31 X.1.2.2.2.2 ⟨Nat.le_of_ble_eq_true rfl, Nat.le_of_ble_eq_true rfl⟩) 0 7 rfl rfl rfl [0] [] [w_X7 cI cR a a_now a_ahead q83.2.1 q83.2.2 a_padPattern_heights a_padPattern_length a_ways_steps a_ways_firstThrows a_ways_lastThrows a_ways_reached a_ways_reachedCount a_history_rs a_history_oldest a_history_size a_slotZero_kept a_slotZero_filled a_slotOne_kept a_slotOne_filled] (by decide : ([0] ++ [] : List Nat).Perm (List.range 1)) rfl rfl rfl rfl rfl hl.1 rfl (Nat.le_of_ble_eq_true rfl) dL_isStep_162 ⟨Nat.le_of_ble_eq_true rfl, Nat.le_of_ble_eq_true rfl⟩ (fun H locs Z => ?_)
            refine lv_if_le (tgt := 182) hx hb dL_isStep_165 (by decide) (fun c84 => ?_) (fun c84 => ?_)
            · have hf := it_t c84 hf
              refine lv_iconst (v := 0) hx hb dL_isStep_182 (by decide) ?_
              refine lv_istore (lv' := [(6, .int (0 : Int32)), (5, .int q2), (4, .int q1), (3, .int (p1 >>> ((4 : Int32) &&& 31))), (0, .ref (a 0)), (1, .int p1), (2, .int p2)]) hx hb dL_isStep_183 hl (by decide) rfl (fun ls hl => ?_)
              refine lv_iconst (v := 1) hx hb dL_isStep_185 (by decide) ?_
              refine lv_iload_n hx hb dL_isStep_186 rfl (lv_at hl 3 rfl) ?_
              refine lv_iconst (v := 1) hx hb dL_isStep_187 (by decide) ?_
              refine lv_ishr hx hb dL_isStep_188 ?_
              refine lv_bipush (v := 8) hx hb dL_isStep_189 (by decide) ?_
              obtain ⟨q85, hq85, hf⟩ := ob_s hf
              refine z_roS X Z (c_L_up l D cI cR   ((p1 >>> ((4 : Int32) &&& 31)) >>> ((1 : Int32) &&& 31)) (8 : Int32) hq85) (zw_L_9 X.1.2.2.2.2 ⟨Nat.le_of_ble_eq_true rfl, Nat.le_of_ble_eq_true rfl⟩) [] [0] (by decide : ([] ++ [0] : List Nat).Perm (List.range 1)) rfl rfl hl.1 rfl (Nat.le_of_ble_eq_true rfl) dL_isStep_191 ⟨Nat.le_of_ble_eq_true rfl, Nat.le_of_ble_eq_true rfl⟩ (fun H locs Z => ?_)
              refine lv_iadd hx hb dL_isStep_194 ?_
              refine lv_istore (lv' := [(7, .int ((1 : Int32) + q85)), (6, .int (0 : Int32)), (5, .int q2), (4, .int q1), (3, .int (p1 >>> ((4 : Int32) &&& 31))), (0, .ref (a 0)), (1, .int p1), (2, .int p2)]) hx hb dL_isStep_195 hl (by decide) rfl (fun ls hl => ?_)
              refine lv_iconst (v := 1) hx hb dL_isStep_197 (by decide) ?_
              refine lv_iload_n hx hb dL_isStep_198 rfl (lv_at hl 4 rfl) ?_
              refine lv_iconst (v := 4) hx hb dL_isStep_199 (by decide) ?_
              refine lv_ishr hx hb dL_isStep_200 ?_
              refine lv_bipush (v := 7) hx hb dL_isStep_201 (by decide) ?_
              obtain ⟨q86, hq86, hf⟩ := ob_s hf
              refine z_roS X Z (c_L_up l D cI cR   ((p1 >>> ((4 : Int32) &&& 31)) >>> ((4 : Int32) &&& 31)) (7 : Int32) hq86) (zw_L_9 X.1.2.2.2.2 ⟨Nat.le_of_ble_eq_true rfl, Nat.le_of_ble_eq_true rfl⟩) [] [0] (by decide : ([] ++ [0] : List Nat).Perm (List.range 1)) rfl rfl hl.1 rfl (Nat.le_of_ble_eq_true rfl) dL_isStep_203 ⟨Nat.le_of_ble_eq_true rfl, Nat.le_of_ble_eq_true rfl⟩ (fun H locs Z => ?_)
              refine lv_iadd hx hb dL_isStep_206 ?_
              refine lv_istore (lv' := [(8, .int ((1 : Int32) + q86)), (7, .int ((1 : Int32) + q85)), (6, .int (0 : Int32)), (5, .int q2), (4, .int q1), (3, .int (p1 >>> ((4 : Int32) &&& 31))), (0, .ref (a 0)), (1, .int p1), (2, .int p2)]) hx hb dL_isStep_207 hl (by decide) rfl (fun ls hl => ?_)
              refine lv_iconst (v := 0) hx hb dL_isStep_209 (by decide) ?_
              refine lv_istore (lv' := [(9, .int (0 : Int32)), (8, .int ((1 : Int32) + q86)), (7, .int ((1 : Int32) + q85)), (6, .int (0 : Int32)), (5, .int q2), (4, .int q1), (3, .int (p1 >>> ((4 : Int32) &&& 31))), (0, .ref (a 0)), (1, .int p1), (2, .int p2)]) hx hb dL_isStep_210 hl (by decide) rfl (fun ls hl => ?_)
              exact w_L_isStep_L212 X hr hlocks _ hf Z (lv_sub hl [7, 9, 6, 5, 4, 3, 2, 1, 0] rfl)
            · have hf := it_f c84 hf
              refine lv_aload_n hx hb dL_isStep_168 rfl (lv_at hl 3 rfl) ?_
              refine lv_ldc2 hx hb X.1.2.2.2.1 (X.1.2.2.2.2 _ mk_L_35) dL_isStep_169 ?_
              obtain ⟨q87, hq87, hf⟩ := ob_s hf
              refine z_callV X Z (c_X7_put l D cI cR a a_now a_ahead q83.2.1 q83.2.2 a_padPattern_heights a_padPattern_length a_ways_steps a_ways_firstThrows a_ways_lastThrows a_ways_reached a_ways_reachedCount a_history_rs a_history_oldest a_history_size a_slotZero_kept a_slotZero_filled a_slotOne_kept a_slotOne_filled (58 : Int64) hq87) (zw_L_31 X.1.2.2.2.2 ⟨Nat.le_of_ble_eq_true rfl, Nat.le_of_ble_eq_true rfl⟩) 0 7 rfl rfl rfl [0] [] [w_X7 cI cR a a_now a_ahead q87.2.1 q87.2.2 a_padPattern_heights a_padPattern_length a_ways_steps a_ways_firstThrows a_ways_lastThrows a_ways_reached a_ways_reachedCount a_history_rs a_history_oldest a_history_size a_slotZero_kept a_slotZero_filled a_slotOne_kept a_slotOne_filled] (by decide : ([0] ++ [] : List Nat).Perm (List.range 1)) rfl rfl rfl rfl rfl hl.1 rfl (Nat.le_of_ble_eq_true rfl) dL_isStep_172 ⟨Nat.le_of_ble_eq_true rfl, Nat.le_of_ble_eq_true rfl⟩ (fun H locs Z => ?_)
              refine lv_if_le (tgt := 182) hx hb dL_isStep_175 (by decide) (fun c88 => ?_) (fun c88 => ?_)
              · have hf := it_t c88 hf
                refine lv_iconst (v := 0) hx hb dL_isStep_182 (by decide) ?_
                refine lv_istore (lv' := [(6, .int (0 : Int32)), (5, .int q2), (4, .int q1), (3, .int (p1 >>> ((4 : Int32) &&& 31))), (0, .ref (a 0)), (1, .int p1), (2, .int p2)]) hx hb dL_isStep_183 hl (by decide) rfl (fun ls hl => ?_)
                refine lv_iconst (v := 1) hx hb dL_isStep_185 (by decide) ?_
                refine lv_iload_n hx hb dL_isStep_186 rfl (lv_at hl 3 rfl) ?_
                refine lv_iconst (v := 1) hx hb dL_isStep_187 (by decide) ?_
                refine lv_ishr hx hb dL_isStep_188 ?_
                refine lv_bipush (v := 8) hx hb dL_isStep_189 (by decide) ?_
                obtain ⟨q89, hq89, hf⟩ := ob_s hf
                refine z_roS X Z (c_L_up l D cI cR   ((p1 >>> ((4 : Int32) &&& 31)) >>> ((1 : Int32) &&& 31)) (8 : Int32) hq89) (zw_L_9 X.1.2.2.2.2 ⟨Nat.le_of_ble_eq_true rfl, Nat.le_of_ble_eq_true rfl⟩) [] [0] (by decide : ([] ++ [0] : List Nat).Perm (List.range 1)) rfl rfl hl.1 rfl (Nat.le_of_ble_eq_true rfl) dL_isStep_191 ⟨Nat.le_of_ble_eq_true rfl, Nat.le_of_ble_eq_true rfl⟩ (fun H locs Z => ?_)
                refine lv_iadd hx hb dL_isStep_194 ?_
                refine lv_istore (lv' := [(7, .int ((1 : Int32) + q89)), (6, .int (0 : Int32)), (5, .int q2), (4, .int q1), (3, .int (p1 >>> ((4 : Int32) &&& 31))), (0, .ref (a 0)), (1, .int p1), (2, .int p2)]) hx hb dL_isStep_195 hl (by decide) rfl (fun ls hl => ?_)
                refine lv_iconst (v := 1) hx hb dL_isStep_197 (by decide) ?_
                refine lv_iload_n hx hb dL_isStep_198 rfl (lv_at hl 4 rfl) ?_
                refine lv_iconst (v := 4) hx hb dL_isStep_199 (by decide) ?_
                refine lv_ishr hx hb dL_isStep_200 ?_
                refine lv_bipush (v := 7) hx hb dL_isStep_201 (by decide) ?_
                obtain ⟨q90, hq90, hf⟩ := ob_s hf
                refine z_roS X Z (c_L_up l D cI cR   ((p1 >>> ((4 : Int32) &&& 31)) >>> ((4 : Int32) &&& 31)) (7 : Int32) hq90) (zw_L_9 X.1.2.2.2.2 ⟨Nat.le_of_ble_eq_true rfl, Nat.le_of_ble_eq_true rfl⟩) [] [0] (by decide : ([] ++ [0] : List Nat).Perm (List.range 1)) rfl rfl hl.1 rfl (Nat.le_of_ble_eq_true rfl) dL_isStep_203 ⟨Nat.le_of_ble_eq_true rfl, Nat.le_of_ble_eq_true rfl⟩ (fun H locs Z => ?_)
                refine lv_iadd hx hb dL_isStep_206 ?_
                refine lv_istore (lv' := [(8, .int ((1 : Int32) + q90)), (7, .int ((1 : Int32) + q89)), (6, .int (0 : Int32)), (5, .int q2), (4, .int q1), (3, .int (p1 >>> ((4 : Int32) &&& 31))), (0, .ref (a 0)), (1, .int p1), (2, .int p2)]) hx hb dL_isStep_207 hl (by decide) rfl (fun ls hl => ?_)
                refine lv_iconst (v := 0) hx hb dL_isStep_209 (by decide) ?_
                refine lv_istore (lv' := [(9, .int (0 : Int32)), (8, .int ((1 : Int32) + q90)), (7, .int ((1 : Int32) + q89)), (6, .int (0 : Int32)), (5, .int q2), (4, .int q1), (3, .int (p1 >>> ((4 : Int32) &&& 31))), (0, .ref (a 0)), (1, .int p1), (2, .int p2)]) hx hb dL_isStep_210 hl (by decide) rfl (fun ls hl => ?_)
                exact w_L_isStep_L212 X hr hlocks _ hf Z (lv_sub hl [7, 9, 6, 5, 4, 3, 2, 1, 0] rfl)
              · have hf := it_f c88 hf
                refine lv_iconst (v := 1) hx hb dL_isStep_178 (by decide) ?_
                refine lv_goto (tgt := 183) hx hb dL_isStep_179 (by decide) ?_
                refine lv_istore (lv' := [(6, .int (1 : Int32)), (5, .int q2), (4, .int q1), (3, .int (p1 >>> ((4 : Int32) &&& 31))), (0, .ref (a 0)), (1, .int p1), (2, .int p2)]) hx hb dL_isStep_183 hl (by decide) rfl (fun ls hl => ?_)
                refine lv_iconst (v := 1) hx hb dL_isStep_185 (by decide) ?_
                refine lv_iload_n hx hb dL_isStep_186 rfl (lv_at hl 3 rfl) ?_
                refine lv_iconst (v := 1) hx hb dL_isStep_187 (by decide) ?_
                refine lv_ishr hx hb dL_isStep_188 ?_
                refine lv_bipush (v := 8) hx hb dL_isStep_189 (by decide) ?_
                obtain ⟨q91, hq91, hf⟩ := ob_s hf
                refine z_roS X Z (c_L_up l D cI cR   ((p1 >>> ((4 : Int32) &&& 31)) >>> ((1 : Int32) &&& 31)) (8 : Int32) hq91) (zw_L_9 X.1.2.2.2.2 ⟨Nat.le_of_ble_eq_true rfl, Nat.le_of_ble_eq_true rfl⟩) [] [0] (by decide : ([] ++ [0] : List Nat).Perm (List.range 1)) rfl rfl hl.1 rfl (Nat.le_of_ble_eq_true rfl) dL_isStep_191 ⟨Nat.le_of_ble_eq_true rfl, Nat.le_of_ble_eq_true rfl⟩ (fun H locs Z => ?_)
                refine lv_iadd hx hb dL_isStep_194 ?_
                refine lv_istore (lv' := [(7, .int ((1 : Int32) + q91)), (6, .int (1 : Int32)), (5, .int q2), (4, .int q1), (3, .int (p1 >>> ((4 : Int32) &&& 31))), (0, .ref (a 0)), (1, .int p1), (2, .int p2)]) hx hb dL_isStep_195 hl (by decide) rfl (fun ls hl => ?_)
                refine lv_iconst (v := 1) hx hb dL_isStep_197 (by decide) ?_
                refine lv_iload_n hx hb dL_isStep_198 rfl (lv_at hl 4 rfl) ?_
                refine lv_iconst (v := 4) hx hb dL_isStep_199 (by decide) ?_
                refine lv_ishr hx hb dL_isStep_200 ?_
                refine lv_bipush (v := 7) hx hb dL_isStep_201 (by decide) ?_
                obtain ⟨q92, hq92, hf⟩ := ob_s hf
                refine z_roS X Z (c_L_up l D cI cR   ((p1 >>> ((4 : Int32) &&& 31)) >>> ((4 : Int32) &&& 31)) (7 : Int32) hq92) (zw_L_9 X.1.2.2.2.2 ⟨Nat.le_of_ble_eq_true rfl, Nat.le_of_ble_eq_true rfl⟩) [] [0] (by decide : ([] ++ [0] : List Nat).Perm (List.range 1)) rfl rfl hl.1 rfl (Nat.le_of_ble_eq_true rfl) dL_isStep_203 ⟨Nat.le_of_ble_eq_true rfl, Nat.le_of_ble_eq_true rfl⟩ (fun H locs Z => ?_)
                refine lv_iadd hx hb dL_isStep_206 ?_
                refine lv_istore (lv' := [(8, .int ((1 : Int32) + q92)), (7, .int ((1 : Int32) + q91)), (6, .int (1 : Int32)), (5, .int q2), (4, .int q1), (3, .int (p1 >>> ((4 : Int32) &&& 31))), (0, .ref (a 0)), (1, .int p1), (2, .int p2)]) hx hb dL_isStep_207 hl (by decide) rfl (fun ls hl => ?_)
                refine lv_iconst (v := 0) hx hb dL_isStep_209 (by decide) ?_
                refine lv_istore (lv' := [(9, .int (0 : Int32)), (8, .int ((1 : Int32) + q92)), (7, .int ((1 : Int32) + q91)), (6, .int (1 : Int32)), (5, .int q2), (4, .int q1), (3, .int (p1 >>> ((4 : Int32) &&& 31))), (0, .ref (a 0)), (1, .int p1), (2, .int p2)]) hx hb dL_isStep_210 hl (by decide) rfl (fun ls hl => ?_)
                exact w_L_isStep_L212 X hr hlocks _ hf Z (lv_sub hl [7, 9, 6, 5, 4, 3, 2, 1, 0] rfl)
        · have hf := it_f c78 hf
          rcases Decidable.em (q3 = (4 : Int32)) with c93 | c93
          · have hf := it_t c93 hf
            refine z_tabIn hx hb 4 c93 (off := 342) (tgt := 366) dL_isStep_24 (by decide) (by decide) (by decide) (by decide) ?_
            refine lv_aload_n hx hb dL_isStep_366 rfl (lv_at hl 3 rfl) ?_
            refine lv_iload hx hb dL_isStep_367 (lv_at hl 1 rfl) ?_
            refine lv_iload_n hx hb dL_isStep_369 rfl (lv_at hl 2 rfl) ?_
            refine lv_iconst (v := 1) hx hb dL_isStep_370 (by decide) ?_
            refine lv_ishr hx hb dL_isStep_371 ?_
            refine lv_bipush (v := 8) hx hb dL_isStep_372 (by decide) ?_
            obtain ⟨q94, hq94, hf⟩ := ob_s hf
            refine z_roS X Z (c_L_up l D cI cR   ((p1 >>> ((4 : Int32) &&& 31)) >>> ((1 : Int32) &&& 31)) (8 : Int32) hq94) (zw_L_9 X.1.2.2.2.2 ⟨Nat.le_of_ble_eq_true rfl, Nat.le_of_ble_eq_true rfl⟩) [] [0] (by decide : ([] ++ [0] : List Nat).Perm (List.range 1)) rfl rfl hl.1 rfl (Nat.le_of_ble_eq_true rfl) dL_isStep_374 ⟨Nat.le_of_ble_eq_true rfl, Nat.le_of_ble_eq_true rfl⟩ (fun H locs Z => ?_)
            obtain ⟨q95, hq95, hf⟩ := ob_s hf
            refine z_callV X Z (c_X7_drop l D cI cR a a_now a_ahead a_pad_codes a_pad_length a_padPattern_heights a_padPattern_length a_ways_steps a_ways_firstThrows a_ways_lastThrows a_ways_reached a_ways_reachedCount a_history_rs a_history_oldest a_history_size a_slotZero_kept a_slotZero_filled a_slotOne_kept a_slotOne_filled q1 q94 hq95) (zw_L_45 X.1.2.2.2.2 ⟨Nat.le_of_ble_eq_true rfl, Nat.le_of_ble_eq_true rfl⟩) 0 7 rfl rfl rfl [0] [] [w_X7 cI cR a q95.2.1 a_ahead a_pad_codes a_pad_length a_padPattern_heights a_padPattern_length a_ways_steps a_ways_firstThrows a_ways_lastThrows a_ways_reached a_ways_reachedCount q95.2.2.1 q95.2.2.2.1 q95.2.2.2.2 a_slotZero_kept a_slotZero_filled a_slotOne_kept a_slotOne_filled] (by decide : ([0] ++ [] : List Nat).Perm (List.range 1)) rfl rfl rfl rfl rfl hl.1 rfl (Nat.le_of_ble_eq_true rfl) dL_isStep_377 ⟨Nat.le_of_ble_eq_true rfl, Nat.le_of_ble_eq_true rfl⟩ (fun H locs Z => ?_)
            refine lv_if_eq (tgt := 397) hx hb dL_isStep_380 (by decide) (fun c96 => ?_) (fun c96 => ?_)
            · have hf := it_t c96 hf
              refine lv_iconst (v := 0) hx hb dL_isStep_397 (by decide) ?_
              have hR := so_s hf
              subst hR
              refine z_zret X hr hlocks (Or.inl rfl) ?_ dL_isStep_398
              exact Z.eq rfl
            · have hf := it_f c96 hf
              refine lv_aload_n hx hb dL_isStep_383 rfl (lv_at hl 3 rfl) ?_
              refine lv_iconst (v := 2) hx hb dL_isStep_384 (by decide) ?_
              obtain ⟨q97, hq97, hf⟩ := ob_s hf
              refine z_roV X Z (c_X7_count l D cI cR a q95.2.1 a_ahead a_pad_codes a_pad_length a_padPattern_heights a_padPattern_length a_ways_steps a_ways_firstThrows a_ways_lastThrows a_ways_reached a_ways_reachedCount q95.2.2.1 q95.2.2.2.1 q95.2.2.2.2 a_slotZero_kept a_slotZero_filled a_slotOne_kept a_slotOne_filled (2 : Int32) hq97) (zw_L_15 X.1.2.2.2.2 ⟨Nat.le_of_ble_eq_true rfl, Nat.le_of_ble_eq_true rfl⟩) 0 7 rfl rfl rfl [0] [] (by decide : ([0] ++ [] : List Nat).Perm (List.range 1)) rfl rfl hl.1 rfl (Nat.le_of_ble_eq_true rfl) dL_isStep_385 ⟨Nat.le_of_ble_eq_true rfl, Nat.le_of_ble_eq_true rfl⟩ (fun H locs Z => ?_)
              refine lv_iload hx hb dL_isStep_388 (lv_at hl 0 rfl) ?_
              refine lv_icmp_ne (tgt := 397) hx hb dL_isStep_390 (by decide) (fun c98 => ?_) (fun c98 => ?_)
              · have hf := it_f c98 hf
                refine lv_iconst (v := 0) hx hb dL_isStep_397 (by decide) ?_
                have hR := so_s hf
                subst hR
                refine z_zret X hr hlocks (Or.inl rfl) ?_ dL_isStep_398
                exact Z.eq rfl
              · have hf := it_t c98 hf
                refine lv_iconst (v := 1) hx hb dL_isStep_393 (by decide) ?_
                refine lv_goto (tgt := 398) hx hb dL_isStep_394 (by decide) ?_
                have hR := so_s hf
                subst hR
                refine z_zret X hr hlocks (Or.inr rfl) ?_ dL_isStep_398
                exact Z.eq rfl
          · have hf := it_f c93 hf
            rcases Decidable.em (q3 = (5 : Int32)) with c99 | c99
            · have hf := it_t c99 hf
              refine z_tabIn hx hb 5 c99 (off := 375) (tgt := 399) dL_isStep_24 (by decide) (by decide) (by decide) (by decide) ?_
              refine lv_aload_n hx hb dL_isStep_399 rfl (lv_at hl 3 rfl) ?_
              refine lv_iload hx hb dL_isStep_400 (lv_at hl 1 rfl) ?_
              refine lv_iload_n hx hb dL_isStep_402 rfl (lv_at hl 2 rfl) ?_
              refine lv_iconst (v := 1) hx hb dL_isStep_403 (by decide) ?_
              refine lv_ishr hx hb dL_isStep_404 ?_
              refine lv_bipush (v := 8) hx hb dL_isStep_405 (by decide) ?_
              obtain ⟨q100, hq100, hf⟩ := ob_s hf
              refine z_roS X Z (c_L_up l D cI cR   ((p1 >>> ((4 : Int32) &&& 31)) >>> ((1 : Int32) &&& 31)) (8 : Int32) hq100) (zw_L_9 X.1.2.2.2.2 ⟨Nat.le_of_ble_eq_true rfl, Nat.le_of_ble_eq_true rfl⟩) [] [0] (by decide : ([] ++ [0] : List Nat).Perm (List.range 1)) rfl rfl hl.1 rfl (Nat.le_of_ble_eq_true rfl) dL_isStep_407 ⟨Nat.le_of_ble_eq_true rfl, Nat.le_of_ble_eq_true rfl⟩ (fun H locs Z => ?_)
              obtain ⟨q101, hq101, hf⟩ := ob_s hf
              refine z_callV X Z (c_X7_pick l D cI cR a a_now a_ahead a_pad_codes a_pad_length a_padPattern_heights a_padPattern_length a_ways_steps a_ways_firstThrows a_ways_lastThrows a_ways_reached a_ways_reachedCount a_history_rs a_history_oldest a_history_size a_slotZero_kept a_slotZero_filled a_slotOne_kept a_slotOne_filled q1 q100 hq101) (zw_L_48 X.1.2.2.2.2 ⟨Nat.le_of_ble_eq_true rfl, Nat.le_of_ble_eq_true rfl⟩) 0 7 rfl rfl rfl [0] [] [w_X7 cI cR a q101.2.1 a_ahead a_pad_codes a_pad_length a_padPattern_heights a_padPattern_length a_ways_steps a_ways_firstThrows a_ways_lastThrows a_ways_reached a_ways_reachedCount q101.2.2.1 q101.2.2.2.1 q101.2.2.2.2 a_slotZero_kept a_slotZero_filled a_slotOne_kept a_slotOne_filled] (by decide : ([0] ++ [] : List Nat).Perm (List.range 1)) rfl rfl rfl rfl rfl hl.1 rfl (Nat.le_of_ble_eq_true rfl) dL_isStep_410 ⟨Nat.le_of_ble_eq_true rfl, Nat.le_of_ble_eq_true rfl⟩ (fun H locs Z => ?_)
              refine lv_aload_n hx hb dL_isStep_413 rfl (lv_at hl 3 rfl) ?_
              refine lv_iconst (v := 2) hx hb dL_isStep_414 (by decide) ?_
              obtain ⟨q102, hq102, hf⟩ := ob_s hf
              refine z_roV X Z (c_X7_count l D cI cR a q101.2.1 a_ahead a_pad_codes a_pad_length a_padPattern_heights a_padPattern_length a_ways_steps a_ways_firstThrows a_ways_lastThrows a_ways_reached a_ways_reachedCount q101.2.2.1 q101.2.2.2.1 q101.2.2.2.2 a_slotZero_kept a_slotZero_filled a_slotOne_kept a_slotOne_filled (2 : Int32) hq102) (zw_L_15 X.1.2.2.2.2 ⟨Nat.le_of_ble_eq_true rfl, Nat.le_of_ble_eq_true rfl⟩) 0 7 rfl rfl rfl [0] [] (by decide : ([0] ++ [] : List Nat).Perm (List.range 1)) rfl rfl hl.1 rfl (Nat.le_of_ble_eq_true rfl) dL_isStep_415 ⟨Nat.le_of_ble_eq_true rfl, Nat.le_of_ble_eq_true rfl⟩ (fun H locs Z => ?_)
              refine lv_icmp_gt (tgt := 435) hx hb dL_isStep_418 (by decide) (fun c103 => ?_) (fun c103 => ?_)
              · have hf := it_t c103 hf
                refine lv_iconst (v := 0) hx hb dL_isStep_435 (by decide) ?_
                have hR := so_s hf
                subst hR
                refine z_zret X hr hlocks (Or.inl rfl) ?_ dL_isStep_436
                exact Z.eq rfl
              · have hf := it_f c103 hf
                refine lv_aload_n hx hb dL_isStep_421 rfl (lv_at hl 3 rfl) ?_
                refine lv_iconst (v := 2) hx hb dL_isStep_422 (by decide) ?_
                obtain ⟨q104, hq104, hf⟩ := ob_s hf
                refine z_roV X Z (c_X7_count l D cI cR a q101.2.1 a_ahead a_pad_codes a_pad_length a_padPattern_heights a_padPattern_length a_ways_steps a_ways_firstThrows a_ways_lastThrows a_ways_reached a_ways_reachedCount q101.2.2.1 q101.2.2.2.1 q101.2.2.2.2 a_slotZero_kept a_slotZero_filled a_slotOne_kept a_slotOne_filled (2 : Int32) hq104) (zw_L_15 X.1.2.2.2.2 ⟨Nat.le_of_ble_eq_true rfl, Nat.le_of_ble_eq_true rfl⟩) 0 7 rfl rfl rfl [0] [] (by decide : ([0] ++ [] : List Nat).Perm (List.range 1)) rfl rfl hl.1 rfl (Nat.le_of_ble_eq_true rfl) dL_isStep_423 ⟨Nat.le_of_ble_eq_true rfl, Nat.le_of_ble_eq_true rfl⟩ (fun H locs Z => ?_)
                refine lv_iload hx hb dL_isStep_426 (lv_at hl 0 rfl) ?_
                refine lv_icmp_ne (tgt := 435) hx hb dL_isStep_428 (by decide) (fun c105 => ?_) (fun c105 => ?_)
                · have hf := it_f c105 hf
                  refine lv_iconst (v := 0) hx hb dL_isStep_435 (by decide) ?_
                  have hR := so_s hf
                  subst hR
                  refine z_zret X hr hlocks (Or.inl rfl) ?_ dL_isStep_436
                  exact Z.eq rfl
                · have hf := it_t c105 hf
                  refine lv_iconst (v := 1) hx hb dL_isStep_431 (by decide) ?_
                  refine lv_goto (tgt := 436) hx hb dL_isStep_432 (by decide) ?_
                  have hR := so_s hf
                  subst hR
                  refine z_zret X hr hlocks (Or.inr rfl) ?_ dL_isStep_436
                  exact Z.eq rfl
            · have hf := it_f c99 hf
              refine lv_tableOut (tgt := 437) hx hb dL_isStep_24 ?_ (by decide) ?_
              · have e0 := z_ne c4
                have e1 := z_ne c17
                have e2 := z_ne c63
                have e3 := z_ne c78
                have e4 := z_ne c93
                have e5 := z_ne c99
                try simp only [show (0 : Int32).toInt = 0 from by decide] at e0
                try simp only [show (1 : Int32).toInt = 1 from by decide] at e1
                try simp only [show (2 : Int32).toInt = 2 from by decide] at e2
                try simp only [show (3 : Int32).toInt = 3 from by decide] at e3
                try simp only [show (4 : Int32).toInt = 4 from by decide] at e4
                try simp only [show (5 : Int32).toInt = 5 from by decide] at e5
                omega
              · refine lv_iconst (v := 1) hx hb dL_isStep_437 (by decide) ?_
                refine lv_iload_n hx hb dL_isStep_438 rfl (lv_at hl 2 rfl) ?_
                refine lv_bipush (v := 20) hx hb dL_isStep_439 (by decide) ?_
                obtain ⟨q106, hq106, hf⟩ := ob_s hf
                refine z_roS X Z (c_L_up l D cI cR   (p1 >>> ((4 : Int32) &&& 31)) (20 : Int32) hq106) (zw_L_9 X.1.2.2.2.2 ⟨Nat.le_of_ble_eq_true rfl, Nat.le_of_ble_eq_true rfl⟩) [] [0] (by decide : ([] ++ [0] : List Nat).Perm (List.range 1)) rfl rfl hl.1 rfl (Nat.le_of_ble_eq_true rfl) dL_isStep_441 ⟨Nat.le_of_ble_eq_true rfl, Nat.le_of_ble_eq_true rfl⟩ (fun H locs Z => ?_)
                refine lv_iadd hx hb dL_isStep_444 ?_
                refine lv_istore (lv' := [(6, .int ((1 : Int32) + q106)), (5, .int q2), (4, .int q1), (3, .int (p1 >>> ((4 : Int32) &&& 31))), (0, .ref (a 0)), (1, .int p1), (2, .int p2)]) hx hb dL_isStep_445 hl (by decide) rfl (fun ls hl => ?_)
                refine lv_aload_n hx hb dL_isStep_447 rfl (lv_at hl 4 rfl) ?_
                refine lv_iconst (v := 1) hx hb dL_isStep_448 (by decide) ?_
                obtain ⟨q107, hq107, hf⟩ := ob_s hf
                refine z_roV X Z (c_X7_count l D cI cR a a_now a_ahead a_pad_codes a_pad_length a_padPattern_heights a_padPattern_length a_ways_steps a_ways_firstThrows a_ways_lastThrows a_ways_reached a_ways_reachedCount a_history_rs a_history_oldest a_history_size a_slotZero_kept a_slotZero_filled a_slotOne_kept a_slotOne_filled (1 : Int32) hq107) (zw_L_15 X.1.2.2.2.2 ⟨Nat.le_of_ble_eq_true rfl, Nat.le_of_ble_eq_true rfl⟩) 0 7 rfl rfl rfl [0] [] (by decide : ([0] ++ [] : List Nat).Perm (List.range 1)) rfl rfl hl.1 rfl (Nat.le_of_ble_eq_true rfl) dL_isStep_449 ⟨Nat.le_of_ble_eq_true rfl, Nat.le_of_ble_eq_true rfl⟩ (fun H locs Z => ?_)
                refine lv_istore (lv' := [(7, .int q107), (6, .int ((1 : Int32) + q106)), (5, .int q2), (4, .int q1), (3, .int (p1 >>> ((4 : Int32) &&& 31))), (0, .ref (a 0)), (1, .int p1), (2, .int p2)]) hx hb dL_isStep_452 hl (by decide) rfl (fun ls hl => ?_)
                refine lv_aload_n hx hb dL_isStep_454 rfl (lv_at hl 5 rfl) ?_
                refine lv_iconst (v := 0) hx hb dL_isStep_455 (by decide) ?_
                refine lv_iconst (v := 4) hx hb dL_isStep_456 (by decide) ?_
                obtain ⟨q108, hq108, hf⟩ := ob_s hf
                refine z_roV X Z (c_X7_of l D cI cR a a_now a_ahead a_pad_codes a_pad_length a_padPattern_heights a_padPattern_length a_ways_steps a_ways_firstThrows a_ways_lastThrows a_ways_reached a_ways_reachedCount a_history_rs a_history_oldest a_history_size a_slotZero_kept a_slotZero_filled a_slotOne_kept a_slotOne_filled (0 : Int32) (4 : Int32) hq108) (zw_L_24 X.1.2.2.2.2 ⟨Nat.le_of_ble_eq_true rfl, Nat.le_of_ble_eq_true rfl⟩) 0 7 rfl rfl rfl [0] [] (by decide : ([0] ++ [] : List Nat).Perm (List.range 1)) rfl rfl hl.1 rfl (Nat.le_of_ble_eq_true rfl) dL_isStep_457 ⟨Nat.le_of_ble_eq_true rfl, Nat.le_of_ble_eq_true rfl⟩ (fun H locs Z => ?_)
                refine lv_aload_n hx hb dL_isStep_460 rfl (lv_at hl 5 rfl) ?_
                refine lv_iconst (v := 0) hx hb dL_isStep_461 (by decide) ?_
                refine lv_iconst (v := 5) hx hb dL_isStep_462 (by decide) ?_
                obtain ⟨q109, hq109, hf⟩ := ob_s hf
                refine z_roV X Z (c_X7_of l D cI cR a a_now a_ahead a_pad_codes a_pad_length a_padPattern_heights a_padPattern_length a_ways_steps a_ways_firstThrows a_ways_lastThrows a_ways_reached a_ways_reachedCount a_history_rs a_history_oldest a_history_size a_slotZero_kept a_slotZero_filled a_slotOne_kept a_slotOne_filled (0 : Int32) (5 : Int32) hq109) (zw_L_24 X.1.2.2.2.2 ⟨Nat.le_of_ble_eq_true rfl, Nat.le_of_ble_eq_true rfl⟩) 0 7 rfl rfl rfl [0] [] (by decide : ([0] ++ [] : List Nat).Perm (List.range 1)) rfl rfl hl.1 rfl (Nat.le_of_ble_eq_true rfl) dL_isStep_463 ⟨Nat.le_of_ble_eq_true rfl, Nat.le_of_ble_eq_true rfl⟩ (fun H locs Z => ?_)
                refine lv_iadd hx hb dL_isStep_466 ?_
                refine lv_aload_n hx hb dL_isStep_467 rfl (lv_at hl 5 rfl) ?_
                refine lv_iconst (v := 1) hx hb dL_isStep_468 (by decide) ?_
                refine lv_iconst (v := 4) hx hb dL_isStep_469 (by decide) ?_
                obtain ⟨q110, hq110, hf⟩ := ob_s hf
                refine z_roV X Z (c_X7_of l D cI cR a a_now a_ahead a_pad_codes a_pad_length a_padPattern_heights a_padPattern_length a_ways_steps a_ways_firstThrows a_ways_lastThrows a_ways_reached a_ways_reachedCount a_history_rs a_history_oldest a_history_size a_slotZero_kept a_slotZero_filled a_slotOne_kept a_slotOne_filled (1 : Int32) (4 : Int32) hq110) (zw_L_24 X.1.2.2.2.2 ⟨Nat.le_of_ble_eq_true rfl, Nat.le_of_ble_eq_true rfl⟩) 0 7 rfl rfl rfl [0] [] (by decide : ([0] ++ [] : List Nat).Perm (List.range 1)) rfl rfl hl.1 rfl (Nat.le_of_ble_eq_true rfl) dL_isStep_470 ⟨Nat.le_of_ble_eq_true rfl, Nat.le_of_ble_eq_true rfl⟩ (fun H locs Z => ?_)
                refine lv_iadd hx hb dL_isStep_473 ?_
                refine lv_aload_n hx hb dL_isStep_474 rfl (lv_at hl 5 rfl) ?_
                refine lv_iconst (v := 1) hx hb dL_isStep_475 (by decide) ?_
                refine lv_iconst (v := 5) hx hb dL_isStep_476 (by decide) ?_
                obtain ⟨q111, hq111, hf⟩ := ob_s hf
                refine z_roV X Z (c_X7_of l D cI cR a a_now a_ahead a_pad_codes a_pad_length a_padPattern_heights a_padPattern_length a_ways_steps a_ways_firstThrows a_ways_lastThrows a_ways_reached a_ways_reachedCount a_history_rs a_history_oldest a_history_size a_slotZero_kept a_slotZero_filled a_slotOne_kept a_slotOne_filled (1 : Int32) (5 : Int32) hq111) (zw_L_24 X.1.2.2.2.2 ⟨Nat.le_of_ble_eq_true rfl, Nat.le_of_ble_eq_true rfl⟩) 0 7 rfl rfl rfl [0] [] (by decide : ([0] ++ [] : List Nat).Perm (List.range 1)) rfl rfl hl.1 rfl (Nat.le_of_ble_eq_true rfl) dL_isStep_477 ⟨Nat.le_of_ble_eq_true rfl, Nat.le_of_ble_eq_true rfl⟩ (fun H locs Z => ?_)
                refine lv_iadd hx hb dL_isStep_480 ?_
                refine lv_istore (lv' := [(8, .int (((q108 + q109) + q110) + q111)), (7, .int q107), (6, .int ((1 : Int32) + q106)), (5, .int q2), (4, .int q1), (3, .int (p1 >>> ((4 : Int32) &&& 31))), (0, .ref (a 0)), (1, .int p1), (2, .int p2)]) hx hb dL_isStep_481 hl (by decide) rfl (fun ls hl => ?_)
                refine lv_aload_n hx hb dL_isStep_483 rfl (lv_at hl 6 rfl) ?_
                obtain ⟨q112, hq112, hf⟩ := ob_s hf
                refine z_callV X Z (c_X7_firstDrop l D cI cR a a_now a_ahead a_pad_codes a_pad_length a_padPattern_heights a_padPattern_length a_ways_steps a_ways_firstThrows a_ways_lastThrows a_ways_reached a_ways_reachedCount a_history_rs a_history_oldest a_history_size a_slotZero_kept a_slotZero_filled a_slotOne_kept a_slotOne_filled  hq112) (zw_L_51 X.1.2.2.2.2 ⟨Nat.le_of_ble_eq_true rfl, Nat.le_of_ble_eq_true rfl⟩) 0 7 rfl rfl rfl [0] [] [w_X7 cI cR a a_now q112.2 a_pad_codes a_pad_length a_padPattern_heights a_padPattern_length a_ways_steps a_ways_firstThrows a_ways_lastThrows a_ways_reached a_ways_reachedCount a_history_rs a_history_oldest a_history_size a_slotZero_kept a_slotZero_filled a_slotOne_kept a_slotOne_filled] (by decide : ([0] ++ [] : List Nat).Perm (List.range 1)) rfl rfl rfl rfl rfl hl.1 rfl (Nat.le_of_ble_eq_true rfl) dL_isStep_484 ⟨Nat.le_of_ble_eq_true rfl, Nat.le_of_ble_eq_true rfl⟩ (fun H locs Z => ?_)
                refine lv_istore (lv' := [(9, .int q112.1), (8, .int (((q108 + q109) + q110) + q111)), (7, .int q107), (6, .int ((1 : Int32) + q106)), (5, .int q2), (4, .int q1), (3, .int (p1 >>> ((4 : Int32) &&& 31))), (0, .ref (a 0)), (1, .int p1), (2, .int p2)]) hx hb dL_isStep_487 hl (by decide) rfl (fun ls hl => ?_)
                refine lv_aload_n hx hb dL_isStep_489 rfl (lv_at hl 7 rfl) ?_
                refine lv_iconst (v := 0) hx hb dL_isStep_490 (by decide) ?_
                refine lv_iload hx hb dL_isStep_491 (lv_at hl 3 rfl) ?_
                obtain ⟨q113, hq113, hf⟩ := ob_s hf
                refine z_callV X Z (c_X7_stateBehind l D cI cR a a_now q112.2 a_pad_codes a_pad_length a_padPattern_heights a_padPattern_length a_ways_steps a_ways_firstThrows a_ways_lastThrows a_ways_reached a_ways_reachedCount a_history_rs a_history_oldest a_history_size a_slotZero_kept a_slotZero_filled a_slotOne_kept a_slotOne_filled (0 : Int32) ((1 : Int32) + q106) hq113) (zw_L_54 X.1.2.2.2.2 ⟨Nat.le_of_ble_eq_true rfl, Nat.le_of_ble_eq_true rfl⟩) 0 7 rfl rfl rfl [0] [] [w_X7 cI cR a a_now q113.2 a_pad_codes a_pad_length a_padPattern_heights a_padPattern_length a_ways_steps a_ways_firstThrows a_ways_lastThrows a_ways_reached a_ways_reachedCount a_history_rs a_history_oldest a_history_size a_slotZero_kept a_slotZero_filled a_slotOne_kept a_slotOne_filled] (by decide : ([0] ++ [] : List Nat).Perm (List.range 1)) rfl rfl rfl rfl rfl hl.1 rfl (Nat.le_of_ble_eq_true rfl) dL_isStep_493 ⟨Nat.le_of_ble_eq_true rfl, Nat.le_of_ble_eq_true rfl⟩ (fun H locs Z => ?_)
                refine lv_istore (lv' := [(10, .int q113.1), (9, .int q112.1), (8, .int (((q108 + q109) + q110) + q111)), (7, .int q107), (6, .int ((1 : Int32) + q106)), (5, .int q2), (4, .int q1), (3, .int (p1 >>> ((4 : Int32) &&& 31))), (0, .ref (a 0)), (1, .int p1), (2, .int p2)]) hx hb dL_isStep_496 hl (by decide) rfl (fun ls hl => ?_)
                refine lv_aload_n hx hb dL_isStep_498 rfl (lv_at hl 8 rfl) ?_
                refine lv_iconst (v := 1) hx hb dL_isStep_499 (by decide) ?_
                refine lv_iload hx hb dL_isStep_500 (lv_at hl 4 rfl) ?_
                obtain ⟨q114, hq114, hf⟩ := ob_s hf
                refine z_callV X Z (c_X7_stateBehind l D cI cR a a_now q113.2 a_pad_codes a_pad_length a_padPattern_heights a_padPattern_length a_ways_steps a_ways_firstThrows a_ways_lastThrows a_ways_reached a_ways_reachedCount a_history_rs a_history_oldest a_history_size a_slotZero_kept a_slotZero_filled a_slotOne_kept a_slotOne_filled (1 : Int32) ((1 : Int32) + q106) hq114) (zw_L_54 X.1.2.2.2.2 ⟨Nat.le_of_ble_eq_true rfl, Nat.le_of_ble_eq_true rfl⟩) 0 7 rfl rfl rfl [0] [] [w_X7 cI cR a a_now q114.2 a_pad_codes a_pad_length a_padPattern_heights a_padPattern_length a_ways_steps a_ways_firstThrows a_ways_lastThrows a_ways_reached a_ways_reachedCount a_history_rs a_history_oldest a_history_size a_slotZero_kept a_slotZero_filled a_slotOne_kept a_slotOne_filled] (by decide : ([0] ++ [] : List Nat).Perm (List.range 1)) rfl rfl rfl rfl rfl hl.1 rfl (Nat.le_of_ble_eq_true rfl) dL_isStep_502 ⟨Nat.le_of_ble_eq_true rfl, Nat.le_of_ble_eq_true rfl⟩ (fun H locs Z => ?_)
                refine lv_istore (lv' := [(11, .int q114.1), (10, .int q113.1), (9, .int q112.1), (8, .int (((q108 + q109) + q110) + q111)), (7, .int q107), (6, .int ((1 : Int32) + q106)), (5, .int q2), (4, .int q1), (3, .int (p1 >>> ((4 : Int32) &&& 31))), (0, .ref (a 0)), (1, .int p1), (2, .int p2)]) hx hb dL_isStep_505 hl (by decide) rfl (fun ls hl => ?_)
                refine lv_aload_n hx hb dL_isStep_507 rfl (lv_at hl 9 rfl) ?_
                refine lv_iload hx hb dL_isStep_508 (lv_at hl 5 rfl) ?_
                obtain ⟨q115, hq115, hf⟩ := ob_s hf
                refine z_callV X Z (c_X7_pass l D cI cR a a_now q114.2 a_pad_codes a_pad_length a_padPattern_heights a_padPattern_length a_ways_steps a_ways_firstThrows a_ways_lastThrows a_ways_reached a_ways_reachedCount a_history_rs a_history_oldest a_history_size a_slotZero_kept a_slotZero_filled a_slotOne_kept a_slotOne_filled ((1 : Int32) + q106) hq115) (zw_L_57 X.1.2.2.2.2 ⟨Nat.le_of_ble_eq_true rfl, Nat.le_of_ble_eq_true rfl⟩) 0 7 rfl rfl rfl [0] [] [w_X7 cI cR a q115.2.1 q114.2 a_pad_codes a_pad_length a_padPattern_heights a_padPattern_length a_ways_steps a_ways_firstThrows a_ways_lastThrows a_ways_reached a_ways_reachedCount q115.2.2.1 q115.2.2.2.1 q115.2.2.2.2 a_slotZero_kept a_slotZero_filled a_slotOne_kept a_slotOne_filled] (by decide : ([0] ++ [] : List Nat).Perm (List.range 1)) rfl rfl rfl rfl rfl hl.1 rfl (Nat.le_of_ble_eq_true rfl) dL_isStep_510 ⟨Nat.le_of_ble_eq_true rfl, Nat.le_of_ble_eq_true rfl⟩ (fun H locs Z => ?_)
                refine lv_istore (lv' := [(12, .int q115.1), (11, .int q114.1), (10, .int q113.1), (9, .int q112.1), (8, .int (((q108 + q109) + q110) + q111)), (7, .int q107), (6, .int ((1 : Int32) + q106)), (5, .int q2), (4, .int q1), (3, .int (p1 >>> ((4 : Int32) &&& 31))), (0, .ref (a 0)), (1, .int p1), (2, .int p2)]) hx hb dL_isStep_513 hl (by decide) rfl (fun ls hl => ?_)
                refine lv_aload_n hx hb dL_isStep_515 rfl (lv_at hl 10 rfl) ?_
                refine lv_iconst (v := 1) hx hb dL_isStep_516 (by decide) ?_
                obtain ⟨q116, hq116, hf⟩ := ob_s hf
                refine z_roV X Z (c_X7_count l D cI cR a q115.2.1 q114.2 a_pad_codes a_pad_length a_padPattern_heights a_padPattern_length a_ways_steps a_ways_firstThrows a_ways_lastThrows a_ways_reached a_ways_reachedCount q115.2.2.1 q115.2.2.2.1 q115.2.2.2.2 a_slotZero_kept a_slotZero_filled a_slotOne_kept a_slotOne_filled (1 : Int32) hq116) (zw_L_15 X.1.2.2.2.2 ⟨Nat.le_of_ble_eq_true rfl, Nat.le_of_ble_eq_true rfl⟩) 0 7 rfl rfl rfl [0] [] (by decide : ([0] ++ [] : List Nat).Perm (List.range 1)) rfl rfl hl.1 rfl (Nat.le_of_ble_eq_true rfl) dL_isStep_517 ⟨Nat.le_of_ble_eq_true rfl, Nat.le_of_ble_eq_true rfl⟩ (fun H locs Z => ?_)
                refine lv_iload hx hb dL_isStep_520 (lv_at hl 5 rfl) ?_
                refine lv_iload hx hb dL_isStep_522 (lv_at hl 0 rfl) ?_
                refine lv_iadd hx hb dL_isStep_524 ?_
                refine lv_icmp_ne (tgt := 599) hx hb dL_isStep_525 (by decide) (fun c117 => ?_) (fun c117 => ?_)
                · have hf := it_f c117 hf
                  refine lv_iconst (v := 0) hx hb dL_isStep_599 (by decide) ?_
                  refine lv_istore (lv' := [(13, .int (0 : Int32)), (12, .int q115.1), (11, .int q114.1), (10, .int q113.1), (9, .int q112.1), (8, .int (((q108 + q109) + q110) + q111)), (7, .int q107), (6, .int ((1 : Int32) + q106)), (5, .int q2), (4, .int q1), (3, .int (p1 >>> ((4 : Int32) &&& 31))), (0, .ref (a 0)), (1, .int p1), (2, .int p2)]) hx hb dL_isStep_600 hl (by decide) rfl (fun ls hl => ?_)
                  refine lv_iload hx hb dL_isStep_602 (lv_at hl 0 rfl) ?_
                  refine lv_if_eq (tgt := 641) hx hb dL_isStep_604 (by decide) (fun _ => ?_) (fun c118 => absurd (by decide) c118)
                  refine lv_iconst (v := 0) hx hb dL_isStep_641 (by decide) ?_
                  have hR := so_s hf
                  subst hR
                  refine z_zret X hr hlocks (Or.inl rfl) ?_ dL_isStep_642
                  exact Z.eq rfl
                · have hf := it_t c117 hf
                  refine lv_aload_n hx hb dL_isStep_528 rfl (lv_at hl 10 rfl) ?_
                  refine lv_iconst (v := 0) hx hb dL_isStep_529 (by decide) ?_
                  refine lv_iconst (v := 4) hx hb dL_isStep_530 (by decide) ?_
                  obtain ⟨q119, hq119, hf⟩ := ob_s hf
                  refine z_roV X Z (c_X7_of l D cI cR a q115.2.1 q114.2 a_pad_codes a_pad_length a_padPattern_heights a_padPattern_length a_ways_steps a_ways_firstThrows a_ways_lastThrows a_ways_reached a_ways_reachedCount q115.2.2.1 q115.2.2.2.1 q115.2.2.2.2 a_slotZero_kept a_slotZero_filled a_slotOne_kept a_slotOne_filled (0 : Int32) (4 : Int32) hq119) (zw_L_24 X.1.2.2.2.2 ⟨Nat.le_of_ble_eq_true rfl, Nat.le_of_ble_eq_true rfl⟩) 0 7 rfl rfl rfl [0] [] (by decide : ([0] ++ [] : List Nat).Perm (List.range 1)) rfl rfl hl.1 rfl (Nat.le_of_ble_eq_true rfl) dL_isStep_531 ⟨Nat.le_of_ble_eq_true rfl, Nat.le_of_ble_eq_true rfl⟩ (fun H locs Z => ?_)
                  refine lv_aload_n hx hb dL_isStep_534 rfl (lv_at hl 10 rfl) ?_
                  refine lv_iconst (v := 0) hx hb dL_isStep_535 (by decide) ?_
                  refine lv_iconst (v := 5) hx hb dL_isStep_536 (by decide) ?_
                  obtain ⟨q120, hq120, hf⟩ := ob_s hf
                  refine z_roV X Z (c_X7_of l D cI cR a q115.2.1 q114.2 a_pad_codes a_pad_length a_padPattern_heights a_padPattern_length a_ways_steps a_ways_firstThrows a_ways_lastThrows a_ways_reached a_ways_reachedCount q115.2.2.1 q115.2.2.2.1 q115.2.2.2.2 a_slotZero_kept a_slotZero_filled a_slotOne_kept a_slotOne_filled (0 : Int32) (5 : Int32) hq120) (zw_L_24 X.1.2.2.2.2 ⟨Nat.le_of_ble_eq_true rfl, Nat.le_of_ble_eq_true rfl⟩) 0 7 rfl rfl rfl [0] [] (by decide : ([0] ++ [] : List Nat).Perm (List.range 1)) rfl rfl hl.1 rfl (Nat.le_of_ble_eq_true rfl) dL_isStep_537 ⟨Nat.le_of_ble_eq_true rfl, Nat.le_of_ble_eq_true rfl⟩ (fun H locs Z => ?_)
                  refine lv_iadd hx hb dL_isStep_540 ?_
                  refine lv_aload_n hx hb dL_isStep_541 rfl (lv_at hl 10 rfl) ?_
                  refine lv_iconst (v := 1) hx hb dL_isStep_542 (by decide) ?_
                  refine lv_iconst (v := 4) hx hb dL_isStep_543 (by decide) ?_
                  obtain ⟨q121, hq121, hf⟩ := ob_s hf
                  refine z_roV X Z (c_X7_of l D cI cR a q115.2.1 q114.2 a_pad_codes a_pad_length a_padPattern_heights a_padPattern_length a_ways_steps a_ways_firstThrows a_ways_lastThrows a_ways_reached a_ways_reachedCount q115.2.2.1 q115.2.2.2.1 q115.2.2.2.2 a_slotZero_kept a_slotZero_filled a_slotOne_kept a_slotOne_filled (1 : Int32) (4 : Int32) hq121) (zw_L_24 X.1.2.2.2.2 ⟨Nat.le_of_ble_eq_true rfl, Nat.le_of_ble_eq_true rfl⟩) 0 7 rfl rfl rfl [0] [] (by decide : ([0] ++ [] : List Nat).Perm (List.range 1)) rfl rfl hl.1 rfl (Nat.le_of_ble_eq_true rfl) dL_isStep_544 ⟨Nat.le_of_ble_eq_true rfl, Nat.le_of_ble_eq_true rfl⟩ (fun H locs Z => ?_)
                  refine lv_iadd hx hb dL_isStep_547 ?_
                  refine lv_aload_n hx hb dL_isStep_548 rfl (lv_at hl 10 rfl) ?_
                  refine lv_iconst (v := 1) hx hb dL_isStep_549 (by decide) ?_
                  refine lv_iconst (v := 5) hx hb dL_isStep_550 (by decide) ?_
                  obtain ⟨q122, hq122, hf⟩ := ob_s hf
                  refine z_roV X Z (c_X7_of l D cI cR a q115.2.1 q114.2 a_pad_codes a_pad_length a_padPattern_heights a_padPattern_length a_ways_steps a_ways_firstThrows a_ways_lastThrows a_ways_reached a_ways_reachedCount q115.2.2.1 q115.2.2.2.1 q115.2.2.2.2 a_slotZero_kept a_slotZero_filled a_slotOne_kept a_slotOne_filled (1 : Int32) (5 : Int32) hq122) (zw_L_24 X.1.2.2.2.2 ⟨Nat.le_of_ble_eq_true rfl, Nat.le_of_ble_eq_true rfl⟩) 0 7 rfl rfl rfl [0] [] (by decide : ([0] ++ [] : List Nat).Perm (List.range 1)) rfl rfl hl.1 rfl (Nat.le_of_ble_eq_true rfl) dL_isStep_551 ⟨Nat.le_of_ble_eq_true rfl, Nat.le_of_ble_eq_true rfl⟩ (fun H locs Z => ?_)
                  refine lv_iadd hx hb dL_isStep_554 ?_
                  refine lv_iload hx hb dL_isStep_555 (lv_at hl 4 rfl) ?_
                  refine lv_iload hx hb dL_isStep_557 (lv_at hl 0 rfl) ?_
                  refine lv_iadd hx hb dL_isStep_559 ?_
                  refine lv_icmp_ne (tgt := 599) hx hb dL_isStep_560 (by decide) (fun c123 => ?_) (fun c123 => ?_)
                  · have hf := it_f c123 hf
                    refine lv_iconst (v := 0) hx hb dL_isStep_599 (by decide) ?_
                    refine lv_istore (lv' := [(13, .int (0 : Int32)), (12, .int q115.1), (11, .int q114.1), (10, .int q113.1), (9, .int q112.1), (8, .int (((q108 + q109) + q110) + q111)), (7, .int q107), (6, .int ((1 : Int32) + q106)), (5, .int q2), (4, .int q1), (3, .int (p1 >>> ((4 : Int32) &&& 31))), (0, .ref (a 0)), (1, .int p1), (2, .int p2)]) hx hb dL_isStep_600 hl (by decide) rfl (fun ls hl => ?_)
                    refine lv_iload hx hb dL_isStep_602 (lv_at hl 0 rfl) ?_
                    refine lv_if_eq (tgt := 641) hx hb dL_isStep_604 (by decide) (fun _ => ?_) (fun c124 => absurd (by decide) c124)
                    refine lv_iconst (v := 0) hx hb dL_isStep_641 (by decide) ?_
                    have hR := so_s hf
                    subst hR
                    refine z_zret X hr hlocks (Or.inl rfl) ?_ dL_isStep_642
                    exact Z.eq rfl
                  · have hf := it_t c123 hf
                    refine lv_aload_n hx hb dL_isStep_563 rfl (lv_at hl 10 rfl) ?_
                    refine lv_iconst (v := 0) hx hb dL_isStep_564 (by decide) ?_
                    refine lv_iconst (v := 0) hx hb dL_isStep_565 (by decide) ?_
                    obtain ⟨q125, hq125, hf⟩ := ob_s hf
                    refine z_roV X Z (c_X7_of l D cI cR a q115.2.1 q114.2 a_pad_codes a_pad_length a_padPattern_heights a_padPattern_length a_ways_steps a_ways_firstThrows a_ways_lastThrows a_ways_reached a_ways_reachedCount q115.2.2.1 q115.2.2.2.1 q115.2.2.2.2 a_slotZero_kept a_slotZero_filled a_slotOne_kept a_slotOne_filled (0 : Int32) (0 : Int32) hq125) (zw_L_24 X.1.2.2.2.2 ⟨Nat.le_of_ble_eq_true rfl, Nat.le_of_ble_eq_true rfl⟩) 0 7 rfl rfl rfl [0] [] (by decide : ([0] ++ [] : List Nat).Perm (List.range 1)) rfl rfl hl.1 rfl (Nat.le_of_ble_eq_true rfl) dL_isStep_566 ⟨Nat.le_of_ble_eq_true rfl, Nat.le_of_ble_eq_true rfl⟩ (fun H locs Z => ?_)
                    refine lv_iload hx hb dL_isStep_569 (lv_at hl 2 rfl) ?_
                    refine lv_icmp_ne (tgt := 599) hx hb dL_isStep_571 (by decide) (fun c126 => ?_) (fun c126 => ?_)
                    · have hf := it_f c126 hf
                      refine lv_iconst (v := 0) hx hb dL_isStep_599 (by decide) ?_
                      refine lv_istore (lv' := [(13, .int (0 : Int32)), (12, .int q115.1), (11, .int q114.1), (10, .int q113.1), (9, .int q112.1), (8, .int (((q108 + q109) + q110) + q111)), (7, .int q107), (6, .int ((1 : Int32) + q106)), (5, .int q2), (4, .int q1), (3, .int (p1 >>> ((4 : Int32) &&& 31))), (0, .ref (a 0)), (1, .int p1), (2, .int p2)]) hx hb dL_isStep_600 hl (by decide) rfl (fun ls hl => ?_)
                      refine lv_iload hx hb dL_isStep_602 (lv_at hl 0 rfl) ?_
                      refine lv_if_eq (tgt := 641) hx hb dL_isStep_604 (by decide) (fun _ => ?_) (fun c127 => absurd (by decide) c127)
                      refine lv_iconst (v := 0) hx hb dL_isStep_641 (by decide) ?_
                      have hR := so_s hf
                      subst hR
                      refine z_zret X hr hlocks (Or.inl rfl) ?_ dL_isStep_642
                      exact Z.eq rfl
                    · have hf := it_t c126 hf
                      refine lv_aload_n hx hb dL_isStep_574 rfl (lv_at hl 10 rfl) ?_
                      refine lv_iconst (v := 1) hx hb dL_isStep_575 (by decide) ?_
                      refine lv_iconst (v := 0) hx hb dL_isStep_576 (by decide) ?_
                      obtain ⟨q128, hq128, hf⟩ := ob_s hf
                      refine z_roV X Z (c_X7_of l D cI cR a q115.2.1 q114.2 a_pad_codes a_pad_length a_padPattern_heights a_padPattern_length a_ways_steps a_ways_firstThrows a_ways_lastThrows a_ways_reached a_ways_reachedCount q115.2.2.1 q115.2.2.2.1 q115.2.2.2.2 a_slotZero_kept a_slotZero_filled a_slotOne_kept a_slotOne_filled (1 : Int32) (0 : Int32) hq128) (zw_L_24 X.1.2.2.2.2 ⟨Nat.le_of_ble_eq_true rfl, Nat.le_of_ble_eq_true rfl⟩) 0 7 rfl rfl rfl [0] [] (by decide : ([0] ++ [] : List Nat).Perm (List.range 1)) rfl rfl hl.1 rfl (Nat.le_of_ble_eq_true rfl) dL_isStep_577 ⟨Nat.le_of_ble_eq_true rfl, Nat.le_of_ble_eq_true rfl⟩ (fun H locs Z => ?_)
                      refine lv_iload hx hb dL_isStep_580 (lv_at hl 1 rfl) ?_
                      refine lv_icmp_ne (tgt := 599) hx hb dL_isStep_582 (by decide) (fun c129 => ?_) (fun c129 => ?_)
                      · have hf := it_f c129 hf
                        refine lv_iconst (v := 0) hx hb dL_isStep_599 (by decide) ?_
                        refine lv_istore (lv' := [(13, .int (0 : Int32)), (12, .int q115.1), (11, .int q114.1), (10, .int q113.1), (9, .int q112.1), (8, .int (((q108 + q109) + q110) + q111)), (7, .int q107), (6, .int ((1 : Int32) + q106)), (5, .int q2), (4, .int q1), (3, .int (p1 >>> ((4 : Int32) &&& 31))), (0, .ref (a 0)), (1, .int p1), (2, .int p2)]) hx hb dL_isStep_600 hl (by decide) rfl (fun ls hl => ?_)
                        refine lv_iload hx hb dL_isStep_602 (lv_at hl 0 rfl) ?_
                        refine lv_if_eq (tgt := 641) hx hb dL_isStep_604 (by decide) (fun _ => ?_) (fun c130 => absurd (by decide) c130)
                        refine lv_iconst (v := 0) hx hb dL_isStep_641 (by decide) ?_
                        have hR := so_s hf
                        subst hR
                        refine z_zret X hr hlocks (Or.inl rfl) ?_ dL_isStep_642
                        exact Z.eq rfl
                      · have hf := it_t c129 hf
                        refine lv_aload_n hx hb dL_isStep_585 rfl (lv_at hl 10 rfl) ?_
                        refine lv_iconst (v := 2) hx hb dL_isStep_586 (by decide) ?_
                        obtain ⟨q131, hq131, hf⟩ := ob_s hf
                        refine z_roV X Z (c_X7_count l D cI cR a q115.2.1 q114.2 a_pad_codes a_pad_length a_padPattern_heights a_padPattern_length a_ways_steps a_ways_firstThrows a_ways_lastThrows a_ways_reached a_ways_reachedCount q115.2.2.1 q115.2.2.2.1 q115.2.2.2.2 a_slotZero_kept a_slotZero_filled a_slotOne_kept a_slotOne_filled (2 : Int32) hq131) (zw_L_15 X.1.2.2.2.2 ⟨Nat.le_of_ble_eq_true rfl, Nat.le_of_ble_eq_true rfl⟩) 0 7 rfl rfl rfl [0] [] (by decide : ([0] ++ [] : List Nat).Perm (List.range 1)) rfl rfl hl.1 rfl (Nat.le_of_ble_eq_true rfl) dL_isStep_587 ⟨Nat.le_of_ble_eq_true rfl, Nat.le_of_ble_eq_true rfl⟩ (fun H locs Z => ?_)
                        refine lv_iload hx hb dL_isStep_590 (lv_at hl 7 rfl) ?_
                        refine lv_icmp_ne (tgt := 599) hx hb dL_isStep_592 (by decide) (fun c132 => ?_) (fun c132 => ?_)
                        · have hf := it_f c132 hf
                          refine lv_iconst (v := 0) hx hb dL_isStep_599 (by decide) ?_
                          refine lv_istore (lv' := [(13, .int (0 : Int32)), (12, .int q115.1), (11, .int q114.1), (10, .int q113.1), (9, .int q112.1), (8, .int (((q108 + q109) + q110) + q111)), (7, .int q107), (6, .int ((1 : Int32) + q106)), (5, .int q2), (4, .int q1), (3, .int (p1 >>> ((4 : Int32) &&& 31))), (0, .ref (a 0)), (1, .int p1), (2, .int p2)]) hx hb dL_isStep_600 hl (by decide) rfl (fun ls hl => ?_)
                          refine lv_iload hx hb dL_isStep_602 (lv_at hl 0 rfl) ?_
                          refine lv_if_eq (tgt := 641) hx hb dL_isStep_604 (by decide) (fun _ => ?_) (fun c133 => absurd (by decide) c133)
                          refine lv_iconst (v := 0) hx hb dL_isStep_641 (by decide) ?_
                          have hR := so_s hf
                          subst hR
                          refine z_zret X hr hlocks (Or.inl rfl) ?_ dL_isStep_642
                          exact Z.eq rfl
                        · have hf := it_t c132 hf
                          refine lv_iconst (v := 1) hx hb dL_isStep_595 (by decide) ?_
                          refine lv_goto (tgt := 600) hx hb dL_isStep_596 (by decide) ?_
                          refine lv_istore (lv' := [(13, .int (1 : Int32)), (12, .int q115.1), (11, .int q114.1), (10, .int q113.1), (9, .int q112.1), (8, .int (((q108 + q109) + q110) + q111)), (7, .int q107), (6, .int ((1 : Int32) + q106)), (5, .int q2), (4, .int q1), (3, .int (p1 >>> ((4 : Int32) &&& 31))), (0, .ref (a 0)), (1, .int p1), (2, .int p2)]) hx hb dL_isStep_600 hl (by decide) rfl (fun ls hl => ?_)
                          refine lv_iload hx hb dL_isStep_602 (lv_at hl 0 rfl) ?_
                          refine lv_if_eq (tgt := 641) hx hb dL_isStep_604 (by decide) (fun c134 => absurd c134 (by decide)) (fun _ => ?_)
                          refine lv_iload hx hb dL_isStep_607 (lv_at hl 1 rfl) ?_
                          refine lv_if_le (tgt := 616) hx hb dL_isStep_609 (by decide) (fun c135 => ?_) (fun c135 => ?_)
                          · have hf := it_t c135 hf
                            refine lv_iconst (v := 0) hx hb dL_isStep_616 (by decide) ?_
                            refine lv_iload hx hb dL_isStep_617 (lv_at hl 4 rfl) ?_
                            refine lv_if_lt (tgt := 633) hx hb dL_isStep_619 (by decide) (fun c136 => ?_) (fun c136 => ?_)
                            · have hf := it_t c136 hf
                              refine lv_iconst (v := 0) hx hb dL_isStep_633 (by decide) ?_
                              refine lv_icmp_ne (tgt := 641) hx hb dL_isStep_634 (by decide) (fun c137 => absurd c137 (by decide)) (fun _ => ?_)
                              refine lv_iconst (v := 1) hx hb dL_isStep_637 (by decide) ?_
                              refine lv_goto (tgt := 642) hx hb dL_isStep_638 (by decide) ?_
                              have hR := so_s hf
                              subst hR
                              refine z_zret X hr hlocks (Or.inr rfl) ?_ dL_isStep_642
                              exact Z.eq rfl
                            · have hf := it_f c136 hf
                              refine lv_iload hx hb dL_isStep_622 (lv_at hl 4 rfl) ?_
                              refine lv_iload hx hb dL_isStep_624 (lv_at hl 7 rfl) ?_
                              refine lv_icmp_ge (tgt := 633) hx hb dL_isStep_626 (by decide) (fun c138 => ?_) (fun c138 => ?_)
                              · have hf := it_t c138 hf
                                refine lv_iconst (v := 0) hx hb dL_isStep_633 (by decide) ?_
                                refine lv_icmp_ne (tgt := 641) hx hb dL_isStep_634 (by decide) (fun c139 => absurd c139 (by decide)) (fun _ => ?_)
                                refine lv_iconst (v := 1) hx hb dL_isStep_637 (by decide) ?_
                                refine lv_goto (tgt := 642) hx hb dL_isStep_638 (by decide) ?_
                                have hR := so_s hf
                                subst hR
                                refine z_zret X hr hlocks (Or.inr rfl) ?_ dL_isStep_642
                                exact Z.eq rfl
                              · have hf := it_f c138 hf
                                refine lv_iconst (v := 1) hx hb dL_isStep_629 (by decide) ?_
                                refine lv_goto (tgt := 634) hx hb dL_isStep_630 (by decide) ?_
                                refine lv_icmp_ne (tgt := 641) hx hb dL_isStep_634 (by decide) (fun _ => ?_) (fun c140 => absurd c140 (by decide))
                                refine lv_iconst (v := 0) hx hb dL_isStep_641 (by decide) ?_
                                have hR := so_s hf
                                subst hR
                                refine z_zret X hr hlocks (Or.inl rfl) ?_ dL_isStep_642
                                exact Z.eq rfl
                          · have hf := it_f c135 hf
                            refine lv_iconst (v := 1) hx hb dL_isStep_612 (by decide) ?_
                            refine lv_goto (tgt := 617) hx hb dL_isStep_613 (by decide) ?_
                            refine lv_iload hx hb dL_isStep_617 (lv_at hl 4 rfl) ?_
                            refine lv_if_lt (tgt := 633) hx hb dL_isStep_619 (by decide) (fun c141 => ?_) (fun c141 => ?_)
                            · have hf := it_t c141 hf
                              refine lv_iconst (v := 0) hx hb dL_isStep_633 (by decide) ?_
                              refine lv_icmp_ne (tgt := 641) hx hb dL_isStep_634 (by decide) (fun _ => ?_) (fun c142 => absurd c142 (by decide))
                              refine lv_iconst (v := 0) hx hb dL_isStep_641 (by decide) ?_
                              have hR := so_s hf
                              subst hR
                              refine z_zret X hr hlocks (Or.inl rfl) ?_ dL_isStep_642
                              exact Z.eq rfl
                            · have hf := it_f c141 hf
                              refine lv_iload hx hb dL_isStep_622 (lv_at hl 4 rfl) ?_
                              refine lv_iload hx hb dL_isStep_624 (lv_at hl 7 rfl) ?_
                              refine lv_icmp_ge (tgt := 633) hx hb dL_isStep_626 (by decide) (fun c143 => ?_) (fun c143 => ?_)
                              · have hf := it_t c143 hf
                                refine lv_iconst (v := 0) hx hb dL_isStep_633 (by decide) ?_
                                refine lv_icmp_ne (tgt := 641) hx hb dL_isStep_634 (by decide) (fun _ => ?_) (fun c144 => absurd c144 (by decide))
                                refine lv_iconst (v := 0) hx hb dL_isStep_641 (by decide) ?_
                                have hR := so_s hf
                                subst hR
                                refine z_zret X hr hlocks (Or.inl rfl) ?_ dL_isStep_642
                                exact Z.eq rfl
                              · have hf := it_f c143 hf
                                refine lv_iconst (v := 1) hx hb dL_isStep_629 (by decide) ?_
                                refine lv_goto (tgt := 634) hx hb dL_isStep_630 (by decide) ?_
                                refine lv_icmp_ne (tgt := 641) hx hb dL_isStep_634 (by decide) (fun c145 => absurd c145 (by decide)) (fun _ => ?_)
                                refine lv_iconst (v := 1) hx hb dL_isStep_637 (by decide) ?_
                                refine lv_goto (tgt := 642) hx hb dL_isStep_638 (by decide) ?_
                                have hR := so_s hf
                                subst hR
                                refine z_zret X hr hlocks (Or.inr rfl) ?_ dL_isStep_642
                                exact Z.eq rfl
