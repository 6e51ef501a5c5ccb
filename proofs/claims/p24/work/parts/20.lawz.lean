/-- a method that makes at most mc cells of ms slots and keeps none of them -/
def zMT (l : Launch) (D : va_G) (cI cR : ClassId) (y : MethodName) (cc : ByteArray) (maxL : Nat) (ret : Option FieldType) (fr lo mc ms : Nat) (As : List Value) (wc : zB) (rv : Option Value) (wc' : zB) : Prop :=
  ∀ sz : Nat, Met l y (zWs y cc maxL ret) ({ frames := fr, cells := mc, slots := ms, locals := lo }) (zPcC D cI cR As wc sz) (zQ D rv wc wc' sz) mc ms (va_A (bl wc) sz)
def zET (D : va_G) (A : Nat → Prop) (below : List Frame) (s : State) (args : Array Value) (rv : Option Value) (wc' : zB) (mc ms : Nat) : State → Prop := MQ below (fun _ st oc t => (oc = .returned rv ∧ va_P D vwCl (bl wc') t.heap ∧ va_D A (bl wc')) ∧ va_F A st t) args s mc ms A
set_option maxHeartbeats 4000000 in
theorem z_ofT {l : Launch} {D : va_G} {cI cR : ClassId} {y : MethodName} {cc : ByteArray} {maxL : Nat} {ret : Option FieldType} {fr lo mc ms : Nat} {As : List Value} {wc wc' : zB} {rv : Option Value} {own : String} (ho : y.cls = own) (hy : plainName y.cls = true) (hn : (lg_sl As).length ≤ maxL)
    (body : ∀ (p : Program) (e : Env) (s : State) (m : MethodId) (args : Array Value) (below : List Frame) (meth : Method) (c : Code) (A : Nat → Prop) (ls : Array Slot), zX p s m c cc maxL args own D cI cR A → va_AO "JugglerStates$Scene" s → meth.sig.returnType = ret → meth.locks = false → zW D A s wc s.heap [] → lv_has ls maxL (lv_args 0 As) →
      W p l e ({ frames := fr, cells := mc, slots := ms, locals := lo } : Room) s m args below meth c s.heap [] 0 0 (zET D A below s args rv wc' mc ms) (F0 m 0 ls [])) : zMT l D cI cR y cc maxL ret fr lo mc ms As wc rv wc' := by
  intro sz
  refine Met.ofW (cc := cc) (maxL := maxL) (ret := ret) hy rfl ?_
  intro p e s m args below meth c s₁ B hml hv
  obtain ⟨rfl, hsz, hP, hK, hD0⟩ := hv
  subst hsz
  have hts := atoms_spec (ws := zWs y cc maxL ret) B.pre
  have hx := B.exec
  have hb := B.bytes
  have hr := B.returns
  have hown : s.vm.findClass y.cls = some m.cls := findClass_of_methodNamed B.named
  rw [ho] at hown
  have hlocks := B.notSynchronized
  have hD := hD0.self (sz := s.heap.size)
  have hl := lv_entry As (n := maxL) hn
  rw [lg_entry_eq]
  generalize (lg_sl As ++ List.replicate (maxL - (lg_sl As).length) Slot.unset).toArray = ls at hl ⊢
  exact body p e s m _ below meth c (va_A (bl wc) s.heap.size) ls ⟨⟨hx, hb, hml, hown, fun w hw => hts w (List.mem_cons_of_mem _ hw)⟩, hK.1, fun q h => Or.inr h⟩ hK.2 hr hlocks ⟨hP, hD, va_S.rf⟩ hl
/-- a method that reads the script -/
def zPcS (sb L : Nat) (xs : Nat → Int32) (D : va_G) (cI cR : ClassId) (As : List Value) (sz : Nat) : Array Value → State → Prop := va_Pc As (fun U => U.heap.size = sz ∧ (sb < sz ∧ va_X sb L xs U U.heap) ∧ zK D cI cR U)
def zMS (l : Launch) (D : va_G) (cI cR : ClassId) (y : MethodName) (cc : ByteArray) (maxL : Nat) (ret : Option FieldType) (fr lo sb L : Nat) (xs : Nat → Int32) (As : List Value) (rv : Option Value) : Prop :=
  ∀ sz : Nat, Met l y (zWs y cc maxL ret) ({ frames := fr, cells := 0, slots := 0, locals := lo }) (zPcS sb L xs D cI cR As sz) (zQ D rv [] [] sz) 0 0 (va_A (bl []) sz)
theorem zPcS.blind {sb L : Nat} {xs : Nat → Int32} {D : va_G} {cI cR : ClassId} {As : List Value} {sz : Nat} : FrameBlind (zPcS sb L xs D cI cR As sz) := fun a U g mk h => ⟨h.1, h.2.1, ⟨h.2.2.1.1, va_X.moved (u := U) (U := U.calling g mk a) (Vm.Alike.refl U.vm) h.2.2.1.2⟩, h.2.2.2.calling⟩
theorem zA_nil {sz q : Nat} (h : q < sz) : ¬ va_A (bl []) sz q := by
  intro hc
  rcases zA_iff.mp hc with ⟨e, he⟩ | he
  · simp [bl] at he
  · omega
set_option maxHeartbeats 4000000 in
theorem z_ofS {l : Launch} {D : va_G} {cI cR : ClassId} {y : MethodName} {cc : ByteArray} {maxL : Nat} {ret : Option FieldType} {fr lo sb L : Nat} {xs : Nat → Int32} {As : List Value} {rv : Option Value} {own : String} (ho : y.cls = own) (hy : plainName y.cls = true) (hn : (lg_sl As).length ≤ maxL)
    (body : ∀ (p : Program) (e : Env) (s : State) (m : MethodId) (args : Array Value) (below : List Frame) (meth : Method) (c : Code) (A : Nat → Prop) (ls : Array Slot), zX p s m c cc maxL args own D cI cR A → va_X sb L xs s s.heap → sb < s.heap.size → ¬ A sb → meth.sig.returnType = ret → meth.locks = false → zW D A s [] s.heap [] → lv_has ls maxL (lv_args 0 As) →
      W p l e ({ frames := fr, cells := 0, slots := 0, locals := lo } : Room) s m args below meth c s.heap [] 0 0 (zE D A below s args rv []) (F0 m 0 ls [])) : zMS l D cI cR y cc maxL ret fr lo sb L xs As rv := by
  intro sz
  refine Met.ofW (cc := cc) (maxL := maxL) (ret := ret) hy rfl ?_
  intro p e s m args below meth c s₁ B hml hv
  obtain ⟨rfl, hsz, ⟨hlt, hX⟩, hK⟩ := hv
  subst hsz
  have hts := atoms_spec (ws := zWs y cc maxL ret) B.pre
  have hx := B.exec
  have hb := B.bytes
  have hr := B.returns
  have hown : s.vm.findClass y.cls = some m.cls := findClass_of_methodNamed B.named
  rw [ho] at hown
  have hlocks := B.notSynchronized
  have hl := lv_entry As (n := maxL) hn
  rw [lg_entry_eq]
  generalize (lg_sl As ++ List.replicate (maxL - (lg_sl As).length) Slot.unset).toArray = ls at hl ⊢
  exact body p e s m _ below meth c (va_A (bl []) s.heap.size) ls ⟨⟨hx, hb, hml, hown, fun w hw => hts w (List.mem_cons_of_mem _ hw)⟩, hK, fun q h => Or.inr h⟩ hX hlt (zA_nil hlt) hr hlocks ⟨fun k q h => by simp [bl] at h, ⟨fun i j p q h => by simp [bl] at h, fun k q h => by simp [bl] at h⟩, va_S.rf⟩ hl
section ZT
variable {p : Program} {l : Launch} {e : Env} {R : Room} {s : State} {m : MethodId} {args : Array Value} {below : List Frame} {meth : Method} {c : Code} {H : Heap} {locs : List Loc} {cells slots : Nat} {Q : State → Prop}
variable {cc : ByteArray} {nL : Nat} {own : String} {D : va_G} {cI cR : ClassId} {A : Nat → Prop} {bs bs' wc wc' : zB} {pc : Nat} {ls : Array Slot} {rest st0 : List Value} {rv : Option Value}
theorem zW.nil (Z : zW D A s bs H locs) : zW D A s [] H locs := ⟨fun k q h => by simp [bl] at h, ⟨fun i j p q h => by simp [bl] at h, fun k q h => by simp [bl] at h⟩, Z.2.2⟩
theorem z_zretT {v : Int32} (X : zX p s m c cc nL args own D cI cR A) (hr : meth.sig.returnType = some .boolean) (hlocks : meth.locks = false) (hv : v = 0 ∨ v = 1) (Z : zW D A s wc' H locs) (hdg : decode cc pc = .ok (.ireturn, 1)) : W p l e R s m args below meth c H locs cells slots (zET D A below s args (some (.int v)) wc' cells slots) (F0 m pc ls [.int v]) :=
  W.zret X.1.1 X.1.2.1 hr (by rcases hv with rfl | rfl <;> rfl) (fun t ht hW => ⟨⟨rfl, by rw [ht]; exact Z.1, Z.2.1⟩, Z.2.2.F ht⟩) Z.2.2.2.2 hdg hlocks
theorem z_runT {a : Array Value} {isC isR : List Nat} {rr : zB} {mc ms : Nat} (X : zX p s m c cc nL args own D cI cR A) (Z : zW D A s bs H locs) (hr : va_Run p l e R s m args below meth c H locs cells slots mc ms (F0 m pc ls st0) rest (zQ D rv wc wc' H.size a) (va_A (bl wc) H.size))
    (p1 : bs.Perm (wc ++ rr)) (hrr : isR.map (fun i => bs[i]?) = rr.map some) (hp : (isC ++ isR).Perm (List.range bs.length)) (hC' : isC.map (fun i => bs'[i]?) = wc'.map some) (hR : isR.map (fun i => bs'[i]?) = isR.map (fun i => bs[i]?)) (hl : bs'.length = bs.length)
    (kk : ∀ (H1 : Heap) (locs1 : List Loc), zW D A s bs' H1 locs1 → W p l e R s m args below meth c H1 locs1 (cells + mc) (slots + ms) Q (F0 m (pc + 3) ls (rv.toList ++ rest))) : W p l e R s m args below meth c H locs cells slots Q (F0 m pc ls st0) := by
  intro T hT Xs
  obtain ⟨v, st₀, t, T', L, h0, X', hL, e1, e2, ⟨⟨hv, hP1, hD1⟩, hz, hk⟩, st⟩ := hr T hT Xs
  cases hv
  rw [h0] at hz hk
  have hA : ∀ q : Nat, H.size ≤ q → A q := fun q h => X.2.2 q (Nat.le_trans Z.2.2.1 h)
  have p2 : bs'.Perm (wc' ++ rr) := z_perm (isC ++ isR) (by rw [hl]; exact hp) (by rw [List.map_append, List.map_append, hC', hR, hrr])
  have hF : ∀ q : Nat, va_A (bl wc) H.size q → A q := by
    intro q hq
    rcases zA_iff.mp hq with ⟨e, he⟩ | he
    · exact (zD_iff.mp Z.2.1).2 (q, e) ((z_flat p1).mem_iff.mpr (List.mem_append_left _ he))
    · exact hA q he
  obtain ⟨j1, j2⟩ := z_join Z.1 Z.2.1 p1 p2 hk hA hP1 hD1
  obtain ⟨t2, a1, b1⟩ := kk T'.heap (locs ++ L) ⟨by rw [e1]; exact j1, j2, Nat.le_trans Z.2.2.1 (by rw [e1]; exact hz), fun q h1 h2 => by rw [e1, hk q (Nat.lt_of_lt_of_le h1 Z.2.2.1) (fun z => h2 (hF q z))]; exact Z.2.2.2.1 q h1 h2, fun q hq => by
      rcases List.mem_append.mp hq with h | h
      · exact Z.2.2.2.2 q h
      · exact hF _ (hL q h)⟩ T' rfl X'
  exact ⟨t2, st t2 a1, b1⟩
variable {y : MethodName} {bytes : ByteArray} {maxL fr lo mc ms n index : Nat} {ret : Option FieldType} {As : List Value}
theorem z_callST (X : zX p s m c cc nL args own D cI cR A) (hO : va_AO "JugglerStates$Scene" s) (Z : zW D A s bs H locs) (hM : zMT l D cI cR y bytes maxL ret fr lo mc ms As wc rv wc') (cw : CallB R s args own index y bytes maxL ret (zWs y bytes maxL ret) { frames := fr, cells := mc, slots := ms, locals := lo } mc ms n ∧ (Cond.static y).before args s = true)
    (isC isR : List Nat) (bs' : zB) (hp : (isC ++ isR).Perm (List.range bs.length)) (hC : isC.map (fun i => bs[i]?) = wc.map some) (hC' : isC.map (fun i => bs'[i]?) = wc'.map some) (hR : isR.map (fun i => bs'[i]?) = isR.map (fun i => bs[i]?)) (hl : bs'.length = bs.length)
    (hn : As.length = n) (hsz : ls.size = nL) (hst : st0 = As.reverse ++ rest) (hW8 : (rest.map fun v => v.category).sum ≤ 8) (hdg : decode cc pc = .ok (.invokestatic index, 3)) (hf : cells + mc ≤ R.cells ∧ slots + ms ≤ R.slots)
    (kk : ∀ (H1 : Heap) (locs1 : List Loc), zW D A s bs' H1 locs1 → W p l e R s m args below meth c H1 locs1 (cells + mc) (slots + ms) Q (F0 m (pc + 3) ls (rv.toList ++ rest))) : W p l e R s m args below meth c H locs cells slots Q (F0 m pc ls st0) := by
  obtain ⟨rr, p1, hrr⟩ := z_cut (wc := wc) hp hC
  exact z_runT (isC := isC) (isR := isR) X Z (va_runS (g := F0 m pc ls st0) X.1 (hM H.size) cw ⟨zPcC.blind, Z.preC X hO p1⟩ rfl hn hsz hst (lv_room hW8) hdg hf) p1 hrr hp hC' hR hl kk
theorem z_callSS {sb L : Nat} {xs : Nat → Int32} (X : zX p s m c cc nL args own D cI cR A) (hX : va_X sb L xs s s.heap) (hbl : sb < s.heap.size) (hbA : ¬ A sb) (Z : zW D A s bs H locs) (hM : zMS l D cI cR y bytes maxL ret fr lo sb L xs As rv) (cw : CallB R s args own index y bytes maxL ret (zWs y bytes maxL ret) { frames := fr, cells := 0, slots := 0, locals := lo } 0 0 n ∧ (Cond.static y).before args s = true)
    (hn : As.length = n) (hsz : ls.size = nL) (hst : st0 = As.reverse ++ rest) (hW8 : (rest.map fun v => v.category).sum ≤ 8) (hdg : decode cc pc = .ok (.invokestatic index, 3)) (hf : cells ≤ R.cells ∧ slots ≤ R.slots)
    (kk : ∀ (H1 : Heap) (locs1 : List Loc), zW D A s bs H1 locs1 → W p l e R s m args below meth c H1 locs1 cells slots Q (F0 m (pc + 3) ls (rv.toList ++ rest))) : W p l e R s m args below meth c H locs cells slots Q (F0 m pc ls st0) := by
  refine z_run (isC := []) (isR := List.range bs.length) (rr := bs) (wc := []) (wc' := []) (bs' := bs) X Z (va_runS (g := F0 m pc ls st0) X.1 (hM H.size) cw ⟨zPcS.blind, fun U hU hW => ⟨rfl, by rw [hU], ⟨Nat.lt_of_lt_of_le hbl Z.2.2.1, ?_⟩, X.2.1.warm hW⟩⟩ rfl hn hsz hst (lv_room hW8) hdg hf) (List.Perm.refl _) (z_range bs) (List.Perm.refl _) rfl rfl rfl kk
  rw [hU]
  exact va_X.moved hW.alike (hX.kept (Z.2.2.2.1 sb hbl hbA))
end ZT
theorem zwT_L_97 {R : Room} {s : State} {args : Array Value} {fr lo mc ms : Nat} (ht : ∀ w ∈ zAll, w.before args s = true) (hR : fr + 1 ≤ R.frames ∧ 8 + (12 + 11) + lo ≤ R.locals) : CallB R s args RL 97 yL_isThrown cL_isThrown 12 (some .boolean) (zWs yL_isThrown cL_isThrown 12 (some .boolean)) { frames := fr, cells := mc, slots := ms, locals := lo } mc ms 2 ∧ (Cond.static yL_isThrown).before args s = true :=
  ⟨callB_of 2 ht (zGood mc_L_isThrown) rfl rfl rfl (ht _ mi_L) (ht _ (zAll_of (zTb 435 (by decide +kernel)) (by decide +kernel))) (by decide +kernel) hR, ht _ ms_L_isThrown⟩
def f_L_cell (L : Nat) (xs : Nat → Int32) (p1 : Int32) : Int32 := if Int32.ofNat L ≤ p1 then (461845907 : Int32) * (p1 + (907 : Int32)) else xs p1.toNatClampNeg
set_option maxHeartbeats 4000000 in
theorem c_L_cell (l : Launch) (D : va_G) (cI cR : ClassId) (sb L : Nat) (xs : Nat → Int32) (p1 : Int32) (hin : ¬ Int32.ofNat L ≤ p1 → vp_in p1 L) : zMS l D cI cR yL_cell cL_cell 2 (some .int) 0 0 sb L xs [.ref sb, .int p1] (some (.int (f_L_cell L xs p1))) := by
  refine z_ofS (own := RL) rfl (by decide) (Nat.le_of_ble_eq_true rfl) ?_
  intro p e s m args below meth c A ls X hX hbl hbA hr hlocks Z hl
  have hx := X.1.1
  have hb := X.1.2.1
  have hl : lv_has ls 2 [(0, .ref sb), (1, .int p1)] := hl
  unfold f_L_cell
  refine lv_iload_n hx hb dL_cell_0 rfl (lv_at hl 1 rfl) ?_
  refine lv_aload_n hx hb dL_cell_1 rfl (lv_at hl 0 rfl) ?_
  refine va_slen hx hb hX hbl hbA Z.2.2 dL_cell_2 ?_
  refine lv_icmp_ge (tgt := 12) hx hb dL_cell_3 (by decide) (fun c1 => ?_) (fun c1 => ?_)
  · rw [if_pos c1]
    refine lv_ldc hx hb X.1.2.2.2.1 (X.1.2.2.2.2 _ mk_L_7) dL_cell_12 ?_
    refine lv_iload_n hx hb dL_cell_14 rfl (lv_at hl 1 rfl) ?_
    refine lv_sipush (v := 907) hx hb dL_cell_15 (by decide) ?_
    refine lv_iadd hx hb dL_cell_18 ?_
    refine lv_imul hx hb dL_cell_19 ?_
    exact z_iret X hr hlocks Z dL_cell_20
  · rw [if_neg c1]
    refine lv_aload_n hx hb dL_cell_6 rfl (lv_at hl 0 rfl) ?_
    refine lv_iload_n hx hb dL_cell_7 rfl (lv_at hl 1 rfl) ?_
    refine va_sld hx hb hX hbl hbA Z.2.2 (hin c1) dL_cell_8 ?_
    refine lv_goto (tgt := 20) hx hb dL_cell_9 (by decide) ?_
    exact z_iret X hr hlocks Z dL_cell_20
