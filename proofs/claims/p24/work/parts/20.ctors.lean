def zS0 : ST := ((0, fun _ => 0, 0, 1, 0, 0, 0), (0, fun _ => 0, 0, 1, 0, 0, 0), 0, 0, 0, 0)
theorem m_oi : Cond.instanceMethod objectInit ∈ zAll := zAll_of (zTb 18 (by decide +kernel)) (by decide +kernel)
theorem m_oc : Cond.code objectInit ⟨#[0xb1]⟩ 1 none ∈ zAll := zAll_of (zTb 19 (by decide +kernel)) (by decide +kernel)
def zPcC (D : va_G) (cI cR : ClassId) (As : List Value) (wc : zB) (sz : Nat) : Array Value → State → Prop := va_Pc As (fun U => U.heap.size = sz ∧ va_P D vwCl (bl wc) U.heap ∧ (zK D cI cR U ∧ va_AO "JugglerStates$Scene" U) ∧ va_D (fun _ => True) (bl wc))
def zQC (D : va_G) (P : (Nat → Nat) → Prop) (F : (Nat → Nat) → zB) (wc : zB) (sz : Nat) : Array Value → State → Outcome → State → Prop := fun _ st oc t => (∃ a : Nat → Nat, P a ∧ oc = .returned none ∧ va_P D vwCl (bl (F a)) t.heap ∧ va_D (va_A (bl wc) sz) (bl (F a))) ∧ va_F (va_A (bl wc) sz) st t
/-- a constructor: at most mc cells of ms slots are new; behind it the blocks are F of some addresses -/
def zMC (l : Launch) (D : va_G) (cI cR : ClassId) (y : MethodName) (cc : ByteArray) (maxL : Nat) (fr lo mc ms : Nat) (As : List Value) (wc : zB) (P : (Nat → Nat) → Prop) (F : (Nat → Nat) → zB) : Prop :=
  ∀ sz : Nat, Met l y (zWs y cc maxL none) ({ frames := fr, cells := mc, slots := ms, locals := lo }) (zPcC D cI cR As wc sz) (zQC D P F wc sz) mc ms (va_A (bl wc) sz)
theorem zPcC.blind {D : va_G} {cI cR : ClassId} {As : List Value} {wc : zB} {sz : Nat} : FrameBlind (zPcC D cI cR As wc sz) := fun a U g mk h => ⟨h.1, h.2.1, h.2.2.1, ⟨h.2.2.2.1.1.calling, va_AO.moved (u := U) (U := U.calling g mk a) (Vm.Alike.refl U.vm) h.2.2.2.1.2⟩, h.2.2.2.2⟩
def zEC (D : va_G) (A : Nat → Prop) (below : List Frame) (s : State) (args : Array Value) (P : (Nat → Nat) → Prop) (F : (Nat → Nat) → zB) (mc ms : Nat) : State → Prop := MQ below (fun _ st oc t => (∃ a : Nat → Nat, P a ∧ oc = .returned none ∧ va_P D vwCl (bl (F a)) t.heap ∧ va_D A (bl (F a))) ∧ va_F A st t) args s mc ms A
set_option maxHeartbeats 4000000 in
theorem z_ofC {l : Launch} {D : va_G} {cI cR : ClassId} {y : MethodName} {cc : ByteArray} {maxL : Nat} {fr lo mc ms : Nat} {As : List Value} {wc : zB} {P : (Nat → Nat) → Prop} {F : (Nat → Nat) → zB} {own : String} (ho : y.cls = own) (hni : y.name = "<init>") (hy : plainName y.cls = true) (hn : (lg_sl As).length ≤ maxL)
    (body : ∀ (p : Program) (e : Env) (s : State) (m : MethodId) (args : Array Value) (below : List Frame) (meth : Method) (c : Code) (A : Nat → Prop) (ls : Array Slot), zX p s m c cc maxL args own D cI cR A → va_AO "JugglerStates$Scene" s → meth.name = "<init>" → meth.sig.returnType = none → meth.locks = false → zW D A s wc s.heap [] → lv_has ls maxL (lv_args 0 As) →
      W p l e ({ frames := fr, cells := mc, slots := ms, locals := lo } : Room) s m args below meth c s.heap [] 0 0 (zEC D A below s args P F mc ms) (F0 m 0 ls [])) : zMC l D cI cR y cc maxL fr lo mc ms As wc P F := by
  intro sz
  refine Met.ofW (cc := cc) (maxL := maxL) (ret := none) hy rfl ?_
  intro p e s m args below meth c s₁ B hml hv
  obtain ⟨rfl, hsz, hP, hK, hD0⟩ := hv
  subst hsz
  have hts := atoms_spec (ws := zWs y cc maxL none) B.pre
  have hx := B.exec
  have hb := B.bytes
  have hr := B.returns
  have hin : meth.name = y.name := (name_of_methodNamed B.named B.method).1
  have hown : s.vm.findClass y.cls = some m.cls := findClass_of_methodNamed B.named
  rw [ho] at hown
  have hlocks := B.notSynchronized
  have hD := hD0.self (sz := s.heap.size)
  have hl := lv_entry As (n := maxL) hn
  rw [lg_entry_eq]
  generalize (lg_sl As ++ List.replicate (maxL - (lg_sl As).length) Slot.unset).toArray = ls at hl ⊢
  exact body p e s m _ below meth c (va_A (bl wc) s.heap.size) ls ⟨⟨hx, hb, hml, hown, fun w hw => hts w (List.mem_cons_of_mem _ hw)⟩, hK.1, fun q h => Or.inr h⟩ hK.2 (hin.trans hni) hr hlocks ⟨hP, hD, va_S.rf⟩ hl
section ZN
variable {p : Program} {l : Launch} {e : Env} {R : Room} {s : State} {m : MethodId} {args : Array Value} {below : List Frame} {meth : Method} {c : Code} {H : Heap} {locs : List Loc} {cells slots : Nat} {Q : State → Prop}
variable {cc : ByteArray} {nL : Nat} {own : String} {D : va_G} {cI cR : ClassId} {A : Nat → Prop} {bs wc : zB} {pc : Nat} {ls : Array Slot} {rest st0 : List Value} {a : Nat}
theorem z_vretC {P : (Nat → Nat) → Prop} {F : (Nat → Nat) → zB} (ad : Nat → Nat) (X : zX p s m c cc nL args own D cI cR A) (hr : meth.sig.returnType = none) (hlocks : meth.locks = false) (hP : P ad) (Z : zW D A s (F ad) H locs) (hdg : decode cc pc = .ok (.return_, 1)) : W p l e R s m args below meth c H locs cells slots (zEC D A below s args P F cells slots) (F0 m pc ls []) :=
  W.vret X.1.1 X.1.2.1 hr (fun t ht hW => ⟨⟨ad, hP, rfl, by rw [ht]; exact Z.1, Z.2.1⟩, Z.2.2.F ht⟩) Z.2.2.2.2 hdg hlocks
theorem z_objInit {idx : Nat} (X : zX p s m c cc nL args own D cI cR A) (hlink : Cond.methodLink own idx objectInit ∈ zAll) (hsz : ls.size = nL) (hdg : decode cc pc = .ok (.invokespecial idx, 3)) (hf : 1 ≤ R.frames) (hlo : (rest.map fun v => v.category).sum + 12 ≤ R.locals)
    (kk : W p l e R s m args below meth c H locs cells slots Q (F0 m (pc + 3) ls rest)) : W p l e R s m args below meth c H locs cells slots Q (F0 m pc ls (.ref a :: rest)) :=
  W.objInit X.1.1 X.1.2.1 X.1.2.2.2.1 (X.1.2.2.2.2 _ hlink) (X.1.2.2.2.2 _ m_oi) (X.1.2.2.2.2 _ m_oc) rfl (hsz.trans X.1.2.2.1.symm) rfl hdg hf (by show 2 * 0 + _ + 12 ≤ _; omega) kk
theorem z_bl_add {b : va_W} : bl bs ++ b = bl (bs ++ [b]) := by
  unfold bl
  rw [List.flatten_append]
  simp
theorem z_newi {n : Int32} {N : Nat} (X : zX p s m c cc nL args own D cI cR A) (Z : zW D A s bs H locs) (hn : ¬ n < 0) (hN : n.toNatClampNeg = N) (hb : N * 4 ≤ 536870912) (hc : cells + 1 ≤ R.cells) (hs : slots + N ≤ R.slots) (hdg : decode cc pc = .ok (.newarray .int, 2))
    (kk : ∀ (q : Nat) (H1 : Heap), zW D A s (bs ++ [[(q, .inl (cI, N, .inl (fun _ => 0)))]]) H1 locs → W p l e R s m args below meth c H1 locs (cells + 1) (slots + N) Q (F0 m (pc + 2) ls (.ref q :: rest))) : W p l e R s m args below meth c H locs cells slots Q (F0 m pc ls (.int n :: rest)) := by
  refine va_newa (atype := .int) (ty := .int) (a0 := (N, .inl (fun _ => 0))) X.1.1 X.1.2.1 (X.1.2.2.2.2 _ ma_int) rfl X.2.1.1 Z.1 Z.2.1 Z.2.2 X.2.2 (fun cA => rfl) hn hN hb hc hs hdg (fun q cA H1 hK hP hD hS => ?_)
  have h1 := (hK.2 2 (cA, .int) rfl).2
  have h2 := (hK.2 0 (cI, .int) rfl).2
  have e : cA = cI := Option.some.inj (h1.symm.trans h2)
  subst e
  rw [z_bl_add] at hP hD
  exact kk q H1 ⟨hP, hD, hS⟩
theorem z_newq {n : Int32} {N index : Nat} (X : zX p s m c cc nL args own D cI cR A) (Z : zW D A s bs H locs) (hO : va_AO "JugglerStates$Scene" s) (hlink : Cond.classLink own index "JugglerStates$Scene" ∈ zAll) (hn : ¬ n < 0) (hN : n.toNatClampNeg = N) (hb : N * 4 ≤ 536870912) (hc : cells + 1 ≤ R.cells) (hs : slots + N ≤ R.slots) (hdg : decode cc pc = .ok (.anewarray index, 3))
    (kk : ∀ (q : Nat) (H1 : Heap), zW D A s (bs ++ [[(q, .inl (cR, N, .inr (.inr (.inr (.inr (fun _ => none))))))]]) H1 locs → W p l e R s m args below meth c H1 locs (cells + 1) (slots + N) Q (F0 m (pc + 3) ls (.ref q :: rest))) : W p l e R s m args below meth c H locs cells slots Q (F0 m pc ls (.int n :: rest)) := by
  refine va_newq X.1.1 X.1.2.1 X.1.2.2.2.1 (X.1.2.2.2.2 _ hlink) hO X.2.1.1 Z.1 Z.2.1 Z.2.2 X.2.2 hn hN hb hc hs hdg (fun q cA H1 hK hP hD hS => ?_)
  obtain ⟨-, -, -, -, -, h1⟩ := (hK.2 2 (cA, .object "JugglerStates$Scene") rfl).2
  obtain ⟨-, -, -, -, -, h2⟩ := (hK.2 1 (cR, .object "JugglerStates$Scene") rfl).2
  have e : cA = cR := Option.some.inj (h1.symm.trans h2)
  subst e
  rw [z_bl_add] at hP hD
  exact kk q H1 ⟨hP, hD, hS⟩
theorem z_stq {n v : Nat} {vs : List Value} {r : vw_C} {f : Nat → Option Nat} {i : Int32} {j : Nat} (X : zX p s m c cc nL args own D cI cR A) (Z : zW D A s bs H locs) (q0 qk ci : Nat) (ha : (bl bs)[q0]? = some (a, .inl (cR, n, .inr (.inr (.inr (.inr f)))))) (hv : (bl bs)[qk]? = some (v, .inr (ci, vs))) (hc : vwCl[ci]? = some r) (hr1 : r.1 = "JugglerStates$Scene") (hin : ¬ (i < 0 ∨ n ≤ i.toNatClampNeg)) (hj : i.toNatClampNeg = j) (bs' : zB) (hb : (bl bs).set q0 (a, .inl (cR, n, .inr (.inr (.inr (.inr (va_up f j (some v))))))) = bl bs') (hdg : decode cc pc = .ok (.aastore, 1))
    (kk : ∀ (H1 : Heap) (locs1 : List Loc), zW D A s bs' H1 locs1 → W p l e R s m args below meth c H1 locs1 cells slots Q (F0 m (pc + 1) ls rest)) : W p l e R s m args below meth c H locs cells slots Q (F0 m pc ls (.ref v :: .int i :: .ref a :: rest)) := by
  subst hj
  exact va_astq X.1.1 X.1.2.1 X.2.1.1 Z.1 Z.2.1 Z.2.2 q0 1 qk ci ha (by rw [hr1]; rfl) hv hc hin hdg (fun H1 locs1 hP hD hS => kk H1 locs1 ⟨by rw [← hb]; exact hP, by rw [← hb]; exact hD, hS⟩)
theorem z_new {C : String} {T : u_T} {N ci index : Nat} {fs : List Value} (ty : Nat → FieldType) (X : zX p s m c cc nL args own D cI cR A) (Z : zW D A s bs H locs) (hin : ∀ w ∈ u_ws C T N, w ∈ zAll) (hty : ∀ k, k < N → parseFieldDescriptor (T k).2.2.1 = some (ty k)) (hc : vwCl[ci]? = some (C, T, N)) (hl : Cond.classLink own index C ∈ zAll) (hi : Cond.instantiable C N ∈ zAll) (hini : Cond.initialized C ∈ zAll) (hfs : ∀ j, j < N → defaultValue (ty j) = vp_V fs j) (hcs : cells + 1 ≤ R.cells) (hss : slots + N ≤ R.slots) (hdg : decode cc pc = .ok (.new index, 3))
    (kk : ∀ (q : Nat) (H1 : Heap), zW D A s (bs ++ [[(q, .inr (ci, fs))]]) H1 locs → W p l e R s m args below meth c H1 locs (cells + 1) (slots + N) Q (F0 m (pc + 3) ls (.ref q :: rest))) : W p l e R s m args below meth c H locs cells slots Q (F0 m pc ls rest) := by
  refine va_new X.1.1 X.1.2.1 X.1.2.2.2.2 hin ty hty X.1.2.2.2.1 (X.1.2.2.2.2 _ hl) (X.1.2.2.2.2 _ hi) (X.1.2.2.2.2 _ hini) X.2.1.1 Z.1 Z.2.1 Z.2.2 X.2.2 hc hfs hcs hss hdg (fun q H1 hP hD hS => ?_)
  rw [z_bl_add] at hP hD
  exact kk q H1 ⟨hP, hD, hS⟩
theorem z_putF {C : String} {T : u_T} {N ci k index : Nat} {fs : List Value} {v : Value} {ty : FieldType} (ty0 : Nat → FieldType) (X : zX p s m c cc nL args own D cI cR A) (Z : zW D A s bs H locs) (hin : ∀ w ∈ u_ws C T N, w ∈ zAll) (hty : ∀ k, k < N → parseFieldDescriptor (T k).2.2.1 = some (ty0 k)) (hnm : ∀ a, a < N → ∀ b, b < N → a ≠ b → (T a).2.1 ≠ (T b).2.1) (hc : vwCl[ci]? = some (C, T, N)) (hk : k < N) (hT : (T k).1 = C) (hoC : own = C) (hfin : (T k).2.2.2 = true) (hd : parseFieldDescriptor (T k).2.2.1 = some ty) (hlink : Cond.fieldLink own index C (T k).2.1 (T k).2.2.1 ∈ zAll) (hni : meth.name = "<init>")
    (hn : narrow ty v = v) (hfit : fits ty v = true) (q0 : Nat) (he : (bl bs)[q0]? = some (a, .inr (ci, fs))) (hl : k < fs.length) (bs' : zB) (hb : (bl bs).set q0 (a, .inr (ci, fs.set k v)) = bl bs') (hdg : decode cc pc = .ok (.putfield index, 3))
    (kk : ∀ (H1 : Heap) (locs1 : List Loc), zW D A s bs' H1 locs1 → W p l e R s m args below meth c H1 locs1 cells slots Q (F0 m (pc + 3) ls rest)) : W p l e R s m args below meth c H locs cells slots Q (F0 m pc ls (v :: .ref a :: rest)) :=
  va_putF (own := own) (ref := C) X.1.1 X.1.2.1 X.1.2.2.2.2 hin ty0 hty hnm X.1.2.2.2.1 X.2.1.1 Z.1 Z.2.1 Z.2.2 q0 he hc k hk (X.1.2.2.2.2 _ hlink) (fun x h => by rw [hT] at h; exact h) hfin hni (hT.trans hoC.symm) hd hn hfit hl hdg (fun H1 locs1 hP hD hS => kk H1 locs1 ⟨by rw [← hb]; exact hP, by rw [← hb]; exact hD, hS⟩)
theorem zW.preC {rr : zB} (X : zX p s m c cc nL args own D cI cR A) (hO : va_AO "JugglerStates$Scene" s) {As : List Value} (Z : zW D A s bs H locs) (hp : bs.Perm (wc ++ rr)) : ∀ U : State, U.heap = H → s.WarmedH U.vm → zPcC D cI cR As wc H.size As.toArray U := fun U hU hW => by
  obtain ⟨h1, h2, h3, h4, h5⟩ := Z.pre (As := As) X hp U hU hW
  exact ⟨h1, h2, h3, ⟨h4, hO.moved hW.alike⟩, h5⟩
theorem z_runC {aa : Array Value} {isC isR : List Nat} {rr : zB} {mc ms : Nat} {P : (Nat → Nat) → Prop} {F : (Nat → Nat) → zB} {bs' : (Nat → Nat) → zB} (X : zX p s m c cc nL args own D cI cR A) (Z : zW D A s bs H locs) (hr : va_Run p l e R s m args below meth c H locs cells slots mc ms (F0 m pc ls st0) rest (zQC D P F wc H.size aa) (va_A (bl wc) H.size))
    (p1 : bs.Perm (wc ++ rr)) (hrr : isR.map (fun i => bs[i]?) = rr.map some) (hp : (isC ++ isR).Perm (List.range bs.length)) (hC' : ∀ ad, isC.map (fun i => (bs' ad)[i]?) = (F ad).map some) (hR : ∀ ad, isR.map (fun i => (bs' ad)[i]?) = isR.map (fun i => bs[i]?)) (hl : ∀ ad, (bs' ad).length = bs.length)
    (kk : ∀ (ad : Nat → Nat), P ad → ∀ (H1 : Heap) (locs1 : List Loc), zW D A s (bs' ad) H1 locs1 → W p l e R s m args below meth c H1 locs1 (cells + mc) (slots + ms) Q (F0 m (pc + 3) ls rest)) : W p l e R s m args below meth c H locs cells slots Q (F0 m pc ls st0) := by
  intro T hT Xs
  obtain ⟨v, st₀, t, T', L, h0, X', hL, e1, e2, ⟨⟨ad, hPa, hv, hP1, hD1⟩, hz, hk⟩, st⟩ := hr T hT Xs
  cases hv
  rw [h0] at hz hk
  have hA : ∀ q : Nat, H.size ≤ q → A q := fun q h => X.2.2 q (Nat.le_trans Z.2.2.1 h)
  have p2 : (bs' ad).Perm (F ad ++ rr) := z_perm (isC ++ isR) (by rw [hl]; exact hp) (by rw [List.map_append, List.map_append, hC', hR, hrr])
  have hF : ∀ q : Nat, va_A (bl wc) H.size q → A q := by
    intro q hq
    rcases zA_iff.mp hq with ⟨e, he⟩ | he
    · exact (zD_iff.mp Z.2.1).2 (q, e) ((z_flat p1).mem_iff.mpr (List.mem_append_left _ he))
    · exact hA q he
  obtain ⟨j1, j2⟩ := z_join Z.1 Z.2.1 p1 p2 hk hA hP1 hD1
  obtain ⟨t2, a1, b1⟩ := kk ad hPa T'.heap (locs ++ L) ⟨by rw [e1]; exact j1, j2, Nat.le_trans Z.2.2.1 (by rw [e1]; exact hz), fun q h1 h2 => by rw [e1, hk q (Nat.lt_of_lt_of_le h1 Z.2.2.1) (fun z => h2 (hF q z))]; exact Z.2.2.2.1 q h1 h2, fun q hq => by
      rcases List.mem_append.mp hq with h | h
      · exact Z.2.2.2.2 q h
      · exact hF _ (hL q h)⟩ T' rfl X'
  exact ⟨t2, st t2 a1, b1⟩
variable {y : MethodName} {bytes : ByteArray} {maxL fr lo n index mc ms : Nat} {host : String} {b : Nat} {As : List Value} {P : (Nat → Nat) → Prop} {F : (Nat → Nat) → zB}
theorem z_callIN (X : zX p s m c cc nL args own D cI cR A) (hO : va_AO "JugglerStates$Scene" s) (Z : zW D A s bs H locs) (hM : zMC l D cI cR y bytes maxL fr lo mc ms (.ref b :: As) wc P F) (cw : va_CN R s args own index y host bytes maxL none (zWs y bytes maxL none) { frames := fr, cells := mc, slots := ms, locals := lo } mc ms n ∧ y.name = "<init>" ∧ (Cond.instanceMethod y).before args s = true)
    (isC isR : List Nat) (bs' : (Nat → Nat) → zB) (hp : (isC ++ isR).Perm (List.range bs.length)) (hC : isC.map (fun i => bs[i]?) = wc.map some) (hC' : ∀ ad, isC.map (fun i => (bs' ad)[i]?) = (F ad).map some) (hR : ∀ ad, isR.map (fun i => (bs' ad)[i]?) = isR.map (fun i => bs[i]?)) (hl : ∀ ad, (bs' ad).length = bs.length)
    (hn : As.length = n) (hsz : ls.size = nL) (hst : st0 = As.reverse ++ .ref b :: rest) (hW8 : (rest.map fun v => v.category).sum ≤ 8) (hdg : decode cc pc = .ok (.invokespecial index, 3)) (hf : cells + mc ≤ R.cells ∧ slots + ms ≤ R.slots)
    (kk : ∀ (ad : Nat → Nat), P ad → ∀ (H1 : Heap) (locs1 : List Loc), zW D A s (bs' ad) H1 locs1 → W p l e R s m args below meth c H1 locs1 (cells + mc) (slots + ms) Q (F0 m (pc + 3) ls rest)) : W p l e R s m args below meth c H locs cells slots Q (F0 m pc ls st0) := by
  obtain ⟨rr, p1, hrr⟩ := z_cut (wc := wc) hp hC
  exact z_runC (isC := isC) (isR := isR) X Z (va_runIN (g := F0 m pc ls st0) X.1 (hM H.size) cw ⟨zPcC.blind, Z.preC X hO p1⟩ rfl hn hsz hst (lv_room hW8) hdg hf) p1 hrr hp hC' hR hl kk
theorem z_callI (X : zX p s m c cc nL args own D cI cR A) (hO : va_AO "JugglerStates$Scene" s) (Z : zW D A s bs H locs) (hM : zMC l D cI cR y bytes maxL fr lo mc ms (.ref b :: As) wc P F) (cw : CallB R s args own index y bytes maxL none (zWs y bytes maxL none) { frames := fr, cells := mc, slots := ms, locals := lo } mc ms n ∧ y.name = "<init>" ∧ (Cond.instanceMethod y).before args s = true)
    (isC isR : List Nat) (bs' : (Nat → Nat) → zB) (hp : (isC ++ isR).Perm (List.range bs.length)) (hC : isC.map (fun i => bs[i]?) = wc.map some) (hC' : ∀ ad, isC.map (fun i => (bs' ad)[i]?) = (F ad).map some) (hR : ∀ ad, isR.map (fun i => (bs' ad)[i]?) = isR.map (fun i => bs[i]?)) (hl : ∀ ad, (bs' ad).length = bs.length)
    (hn : As.length = n) (hsz : ls.size = nL) (hst : st0 = As.reverse ++ .ref b :: rest) (hW8 : (rest.map fun v => v.category).sum ≤ 8) (hdg : decode cc pc = .ok (.invokespecial index, 3)) (hf : cells + mc ≤ R.cells ∧ slots + ms ≤ R.slots)
    (kk : ∀ (ad : Nat → Nat), P ad → ∀ (H1 : Heap) (locs1 : List Loc), zW D A s (bs' ad) H1 locs1 → W p l e R s m args below meth c H1 locs1 (cells + mc) (slots + ms) Q (F0 m (pc + 3) ls rest)) : W p l e R s m args below meth c H locs cells slots Q (F0 m pc ls st0) := by
  obtain ⟨rr, p1, hrr⟩ := z_cut (wc := wc) hp hC
  exact z_runC (isC := isC) (isR := isR) X Z (va_runI (g := F0 m pc ls st0) X.1 (hM H.size) cw ⟨zPcC.blind, Z.preC X hO p1⟩ rfl hn hsz hst (lv_room hW8) hdg hf) p1 hrr hp hC' hR hl kk
end ZN

theorem w_X0_congr {cI cR : ClassId} {f g : Nat → Nat} {rs : Nat → ST} {od sz : Int32} (h : ∀ i, i < 32 → f i = g i) : w_X0 cI cR f rs od sz = w_X0 cI cR g rs od sz := by
  have hr : (fun k => if k < 6 then some (f (2 + 5 * k)) else none) = (fun k => if k < 6 then some (g (2 + 5 * k)) else none) := by
    funext k
    by_cases hk : k < 6
    · rw [if_pos hk, if_pos hk, h _ (by omega)]
    · rw [if_neg hk, if_neg hk]
  unfold w_X0
  rw [hr]
  rw [h 0 (by decide), h 1 (by decide), h 2 (by decide), h 3 (by decide), h 4 (by decide), h 5 (by decide), h 6 (by decide), h 7 (by decide), h 8 (by decide), h 9 (by decide), h 10 (by decide), h 11 (by decide), h 12 (by decide), h 13 (by decide), h 14 (by decide), h 15 (by decide), h 16 (by decide), h 17 (by decide), h 18 (by decide), h 19 (by decide), h 20 (by decide), h 21 (by decide), h 22 (by decide), h 23 (by decide), h 24 (by decide), h 25 (by decide), h 26 (by decide), h 27 (by decide), h 28 (by decide), h 29 (by decide), h 30 (by decide), h 31 (by decide)]
theorem zw_L_66 {R : Room} {s : State} {args : Array Value} {fr lo mc ms : Nat} (ht : ∀ w ∈ zAll, w.before args s = true) (hR : fr + 1 ≤ R.frames ∧ 8 + (1 + 11) + lo ≤ R.locals) : CallB R s args RL 66 yX7_init cX7_init 1 none (zWs yX7_init cX7_init 1 none) { frames := fr, cells := mc, slots := ms, locals := lo } mc ms 0 ∧ yX7_init.name = "<init>" ∧ (Cond.instanceMethod yX7_init).before args s = true := ⟨callB_of 0 ht (zGood mc_X7_init) rfl rfl rfl (ht _ mi_X7) (ht _ (zAll_of (zTb 14 (by decide +kernel)) (by decide +kernel))) (by decide +kernel) hR, rfl, ht _ mm_X7_init⟩
theorem zw_X7_11 {R : Room} {s : State} {args : Array Value} {fr lo mc ms : Nat} {D : va_G} {cI cR : ClassId} (hK : zK D cI cR s) (ht : ∀ w ∈ zAll, w.before args s = true) (hR : fr + 1 ≤ R.frames ∧ 8 + (1 + 11) + lo ≤ R.locals) : va_CN R s args RX7 11 yX4_init "JugglerStates" cX4_init 1 none (zWs yX4_init cX4_init 1 none) { frames := fr, cells := mc, slots := ms, locals := lo } mc ms 0 ∧ yX4_init.name = "<init>" ∧ (Cond.instanceMethod yX4_init).before args s = true := ⟨va_cnB 0 ht (zGood mc_X4_init) rfl rfl rfl (hK.2.2 (RX7, 11, yX4_init, "JugglerStates") (by decide +kernel)) (ht _ mi_X4) (by decide +kernel) hR, rfl, ht _ mm_X4_init⟩
theorem zw_X4_9 {R : Room} {s : State} {args : Array Value} {fr lo mc ms : Nat} {D : va_G} {cI cR : ClassId} (hK : zK D cI cR s) (ht : ∀ w ∈ zAll, w.before args s = true) (hR : fr + 1 ≤ R.frames ∧ 8 + (1 + 11) + lo ≤ R.locals) : va_CN R s args RX4 9 yX1_init "JugglerStates" cX1_init 1 none (zWs yX1_init cX1_init 1 none) { frames := fr, cells := mc, slots := ms, locals := lo } mc ms 0 ∧ yX1_init.name = "<init>" ∧ (Cond.instanceMethod yX1_init).before args s = true := ⟨va_cnB 0 ht (zGood mc_X1_init) rfl rfl rfl (hK.2.2 (RX4, 9, yX1_init, "JugglerStates") (by decide +kernel)) (ht _ mi_X1) (by decide +kernel) hR, rfl, ht _ mm_X1_init⟩
theorem zw_X7_21 {R : Room} {s : State} {args : Array Value} {fr lo mc ms : Nat} {D : va_G} {cI cR : ClassId} (hK : zK D cI cR s) (ht : ∀ w ∈ zAll, w.before args s = true) (hR : fr + 1 ≤ R.frames ∧ 8 + (1 + 11) + lo ≤ R.locals) : va_CN R s args RX7 21 yX2_init "JugglerStates" cX2_init 1 none (zWs yX2_init cX2_init 1 none) { frames := fr, cells := mc, slots := ms, locals := lo } mc ms 0 ∧ yX2_init.name = "<init>" ∧ (Cond.instanceMethod yX2_init).before args s = true := ⟨va_cnB 0 ht (zGood mc_X2_init) rfl rfl rfl (hK.2.2 (RX7, 21, yX2_init, "JugglerStates") (by decide +kernel)) (ht _ mi_X2) (by decide +kernel) hR, rfl, ht _ mm_X2_init⟩
theorem zw_X7_28 {R : Room} {s : State} {args : Array Value} {fr lo mc ms : Nat} {D : va_G} {cI cR : ClassId} (hK : zK D cI cR s) (ht : ∀ w ∈ zAll, w.before args s = true) (hR : fr + 1 ≤ R.frames ∧ 8 + (1 + 11) + lo ≤ R.locals) : va_CN R s args RX7 28 yX3_init "JugglerStates" cX3_init 1 none (zWs yX3_init cX3_init 1 none) { frames := fr, cells := mc, slots := ms, locals := lo } mc ms 0 ∧ yX3_init.name = "<init>" ∧ (Cond.instanceMethod yX3_init).before args s = true := ⟨va_cnB 0 ht (zGood mc_X3_init) rfl rfl rfl (hK.2.2 (RX7, 28, yX3_init, "JugglerStates") (by decide +kernel)) (ht _ mi_X3) (by decide +kernel) hR, rfl, ht _ mm_X3_init⟩
theorem zw_X7_35 {R : Room} {s : State} {args : Array Value} {fr lo mc ms : Nat} {D : va_G} {cI cR : ClassId} (hK : zK D cI cR s) (ht : ∀ w ∈ zAll, w.before args s = true) (hR : fr + 1 ≤ R.frames ∧ 8 + (1 + 11) + lo ≤ R.locals) : va_CN R s args RX7 35 yX6_init "JugglerStates" cX6_init 1 none (zWs yX6_init cX6_init 1 none) { frames := fr, cells := mc, slots := ms, locals := lo } mc ms 0 ∧ yX6_init.name = "<init>" ∧ (Cond.instanceMethod yX6_init).before args s = true := ⟨va_cnB 0 ht (zGood mc_X6_init) rfl rfl rfl (hK.2.2 (RX7, 35, yX6_init, "JugglerStates") (by decide +kernel)) (ht _ mi_X6) (by decide +kernel) hR, rfl, ht _ mm_X6_init⟩
theorem zw_X7_42 {R : Room} {s : State} {args : Array Value} {fr lo mc ms : Nat} {D : va_G} {cI cR : ClassId} (hK : zK D cI cR s) (ht : ∀ w ∈ zAll, w.before args s = true) (hR : fr + 1 ≤ R.frames ∧ 8 + (2 + 11) + lo ≤ R.locals) : va_CN R s args RX7 42 yX0_init "JugglerStates" cX0_init 2 none (zWs yX0_init cX0_init 2 none) { frames := fr, cells := mc, slots := ms, locals := lo } mc ms 0 ∧ yX0_init.name = "<init>" ∧ (Cond.instanceMethod yX0_init).before args s = true := ⟨va_cnB 0 ht (zGood mc_X0_init) rfl rfl rfl (hK.2.2 (RX7, 42, yX0_init, "JugglerStates") (by decide +kernel)) (ht _ mi_X0) (by decide +kernel) hR, rfl, ht _ mm_X0_init⟩
theorem zw_X0_17 {R : Room} {s : State} {args : Array Value} {fr lo mc ms : Nat} {D : va_G} {cI cR : ClassId} (hK : zK D cI cR s) (ht : ∀ w ∈ zAll, w.before args s = true) (hR : fr + 1 ≤ R.frames ∧ 8 + (1 + 11) + lo ≤ R.locals) : va_CN R s args RX0 17 yX4_init "JugglerStates" cX4_init 1 none (zWs yX4_init cX4_init 1 none) { frames := fr, cells := mc, slots := ms, locals := lo } mc ms 0 ∧ yX4_init.name = "<init>" ∧ (Cond.instanceMethod yX4_init).before args s = true := ⟨va_cnB 0 ht (zGood mc_X4_init) rfl rfl rfl (hK.2.2 (RX0, 17, yX4_init, "JugglerStates") (by decide +kernel)) (ht _ mi_X4) (by decide +kernel) hR, rfl, ht _ mm_X4_init⟩
theorem zw_X7_49 {R : Room} {s : State} {args : Array Value} {fr lo mc ms : Nat} {D : va_G} {cI cR : ClassId} (hK : zK D cI cR s) (ht : ∀ w ∈ zAll, w.before args s = true) (hR : fr + 1 ≤ R.frames ∧ 8 + (1 + 11) + lo ≤ R.locals) : va_CN R s args RX7 49 yX5_init "JugglerStates" cX5_init 1 none (zWs yX5_init cX5_init 1 none) { frames := fr, cells := mc, slots := ms, locals := lo } mc ms 0 ∧ yX5_init.name = "<init>" ∧ (Cond.instanceMethod yX5_init).before args s = true := ⟨va_cnB 0 ht (zGood mc_X5_init) rfl rfl rfl (hK.2.2 (RX7, 49, yX5_init, "JugglerStates") (by decide +kernel)) (ht _ mi_X5) (by decide +kernel) hR, rfl, ht _ mm_X5_init⟩
theorem zw_X5_9 {R : Room} {s : State} {args : Array Value} {fr lo mc ms : Nat} {D : va_G} {cI cR : ClassId} (hK : zK D cI cR s) (ht : ∀ w ∈ zAll, w.before args s = true) (hR : fr + 1 ≤ R.frames ∧ 8 + (1 + 11) + lo ≤ R.locals) : va_CN R s args RX5 9 yX4_init "JugglerStates" cX4_init 1 none (zWs yX4_init cX4_init 1 none) { frames := fr, cells := mc, slots := ms, locals := lo } mc ms 0 ∧ yX4_init.name = "<init>" ∧ (Cond.instanceMethod yX4_init).before args s = true := ⟨va_cnB 0 ht (zGood mc_X4_init) rfl rfl rfl (hK.2.2 (RX5, 9, yX4_init, "JugglerStates") (by decide +kernel)) (ht _ mi_X4) (by decide +kernel) hR, rfl, ht _ mm_X4_init⟩
set_option maxHeartbeats 4000000 in
set_option maxRecDepth 100000 in
theorem c_X1_init (l : Launch) (D : va_G) (cI cR : ClassId) (q : Nat) : zMC l D cI cR yX1_init cX1_init 1 1 12 1 8 [.ref q] [[(q, .inr (1, [.int 0, .null, .int 0, .int 0, .int 0, .int 0, .int 0]))]] (fun _ => True) (fun a => [w_X1 cI cR q (a 0) 0 (fun _ => 0) 0 1 0 0 0]) := by
  refine z_ofC (own := RX1) rfl rfl (by decide) (Nat.le_of_ble_eq_true rfl) ?_
  intro p e s m args below meth c A ls X hO hni hr hlocks Z hl
  have hx := X.1.1
  have hb := X.1.2.1
  have hl : lv_has ls 1 [(0, .ref q)] := hl
  refine lv_aload_n hx hb dX1_init_0 rfl (lv_at hl 0 rfl) ?_
  refine z_objInit X mj_X1_3 hl.1 dX1_init_1 (Nat.le_of_ble_eq_true rfl) (Nat.le_of_ble_eq_true rfl) ?_
  refine lv_aload_n hx hb dX1_init_4 rfl (lv_at hl 0 rfl) ?_
  refine lv_bipush (v := 8) hx hb dX1_init_5 (by decide) ?_
  refine z_newi (N := 8) X Z (by decide) (by decide) (Nat.le_of_ble_eq_true rfl) (Nat.le_of_ble_eq_true rfl) (Nat.le_of_ble_eq_true rfl) dX1_init_7 (fun q1 H Z => ?_)
  have Z : zW D A s [[(q, .inr (1, [.int 0, .null, .int 0, .int 0, .int 0, .int 0, .int 0]))], [(q1, .inl (cI, 8, .inl (fun _ => 0)))]] _ _ := Z
  refine z_putF (C := RX1) (T := TX1) (N := 7) (k := 1) (ty := (.array .int)) tyX1 X Z in_X1 tyX1_ok nmX1 rfl (Nat.le_of_ble_eq_true rfl) (by decide +kernel) rfl (by decide +kernel) (by decide +kernel) (zAll_of (zTb 34 (by decide +kernel)) (by decide +kernel)) hni rfl rfl 0 rfl (Nat.le_of_ble_eq_true rfl) [[(q, .inr (1, [.int 0, .ref q1, .int 0, .int 0, .int 0, .int 0, .int 0]))], [(q1, .inl (cI, 8, .inl (fun _ => 0)))]] rfl dX1_init_9 (fun H locs Z => ?_)
  refine lv_aload_n hx hb dX1_init_12 rfl (lv_at hl 0 rfl) ?_
  refine lv_iconst (v := 1) hx hb dX1_init_13 (by decide) ?_
  refine zp_X1_15 X Z 0 rfl (Nat.le_of_ble_eq_true rfl) [[(q, .inr (1, [.int 0, .ref q1, .int 0, .int 1, .int 0, .int 0, .int 0]))], [(q1, .inl (cI, 8, .inl (fun _ => 0)))]] rfl dX1_init_14 (fun H locs Z => ?_)
  refine z_vretC (fun i => ([q1] : List Nat).getD i 0) X hr hlocks trivial ?_ dX1_init_17
  exact Z.eq rfl
set_option maxHeartbeats 4000000 in
set_option maxRecDepth 100000 in
theorem c_X2_init (l : Launch) (D : va_G) (cI cR : ClassId) (q : Nat) : zMC l D cI cR yX2_init cX2_init 1 1 12 1 30 [.ref q] [[(q, .inr (2, [.null, .int 0]))]] (fun _ => True) (fun a => [w_X2 cI cR q (a 0) (fun _ => 0) 0]) := by
  refine z_ofC (own := RX2) rfl rfl (by decide) (Nat.le_of_ble_eq_true rfl) ?_
  intro p e s m args below meth c A ls X hO hni hr hlocks Z hl
  have hx := X.1.1
  have hb := X.1.2.1
  have hl : lv_has ls 1 [(0, .ref q)] := hl
  refine lv_aload_n hx hb dX2_init_0 rfl (lv_at hl 0 rfl) ?_
  refine z_objInit X mj_X2_3 hl.1 dX2_init_1 (Nat.le_of_ble_eq_true rfl) (Nat.le_of_ble_eq_true rfl) ?_
  refine lv_aload_n hx hb dX2_init_4 rfl (lv_at hl 0 rfl) ?_
  refine lv_bipush (v := 30) hx hb dX2_init_5 (by decide) ?_
  refine z_newi (N := 30) X Z (by decide) (by decide) (Nat.le_of_ble_eq_true rfl) (Nat.le_of_ble_eq_true rfl) (Nat.le_of_ble_eq_true rfl) dX2_init_7 (fun q1 H Z => ?_)
  have Z : zW D A s [[(q, .inr (2, [.null, .int 0]))], [(q1, .inl (cI, 30, .inl (fun _ => 0)))]] _ _ := Z
  refine z_putF (C := RX2) (T := TX2) (N := 2) (k := 0) (ty := (.array .int)) tyX2 X Z in_X2 tyX2_ok nmX2 rfl (Nat.le_of_ble_eq_true rfl) (by decide +kernel) rfl (by decide +kernel) (by decide +kernel) (zAll_of (zTb 92 (by decide +kernel)) (by decide +kernel)) hni rfl rfl 0 rfl (Nat.le_of_ble_eq_true rfl) [[(q, .inr (2, [.ref q1, .int 0]))], [(q1, .inl (cI, 30, .inl (fun _ => 0)))]] rfl dX2_init_9 (fun H locs Z => ?_)
  refine z_vretC (fun i => ([q1] : List Nat).getD i 0) X hr hlocks trivial ?_ dX2_init_12
  exact Z.eq rfl
set_option maxHeartbeats 4000000 in
set_option maxRecDepth 100000 in
theorem c_X3_init (l : Launch) (D : va_G) (cI cR : ClassId) (q : Nat) : zMC l D cI cR yX3_init cX3_init 1 1 12 1 8 [.ref q] [[(q, .inr (3, [.null, .int 0]))]] (fun _ => True) (fun a => [w_X3 cI cR q (a 0) (fun _ => 0) 0]) := by
  refine z_ofC (own := RX3) rfl rfl (by decide) (Nat.le_of_ble_eq_true rfl) ?_
  intro p e s m args below meth c A ls X hO hni hr hlocks Z hl
  have hx := X.1.1
  have hb := X.1.2.1
  have hl : lv_has ls 1 [(0, .ref q)] := hl
  refine lv_aload_n hx hb dX3_init_0 rfl (lv_at hl 0 rfl) ?_
  refine z_objInit X mj_X3_3 hl.1 dX3_init_1 (Nat.le_of_ble_eq_true rfl) (Nat.le_of_ble_eq_true rfl) ?_
  refine lv_aload_n hx hb dX3_init_4 rfl (lv_at hl 0 rfl) ?_
  refine lv_bipush (v := 8) hx hb dX3_init_5 (by decide) ?_
  refine z_newi (N := 8) X Z (by decide) (by decide) (Nat.le_of_ble_eq_true rfl) (Nat.le_of_ble_eq_true rfl) (Nat.le_of_ble_eq_true rfl) dX3_init_7 (fun q1 H Z => ?_)
  have Z : zW D A s [[(q, .inr (3, [.null, .int 0]))], [(q1, .inl (cI, 8, .inl (fun _ => 0)))]] _ _ := Z
  refine z_putF (C := RX3) (T := TX3) (N := 2) (k := 0) (ty := (.array .int)) tyX3 X Z in_X3 tyX3_ok nmX3 rfl (Nat.le_of_ble_eq_true rfl) (by decide +kernel) rfl (by decide +kernel) (by decide +kernel) (zAll_of (zTb 108 (by decide +kernel)) (by decide +kernel)) hni rfl rfl 0 rfl (Nat.le_of_ble_eq_true rfl) [[(q, .inr (3, [.ref q1, .int 0]))], [(q1, .inl (cI, 8, .inl (fun _ => 0)))]] rfl dX3_init_9 (fun H locs Z => ?_)
  refine z_vretC (fun i => ([q1] : List Nat).getD i 0) X hr hlocks trivial ?_ dX3_init_12
  exact Z.eq rfl
set_option maxHeartbeats 4000000 in
set_option maxRecDepth 100000 in
theorem c_X6_init (l : Launch) (D : va_G) (cI cR : ClassId) (q : Nat) : zMC l D cI cR yX6_init cX6_init 1 1 12 4 1024 [.ref q] [[(q, .inr (6, [.null, .null, .null, .null, .int 0]))]] (fun _ => True) (fun a => [w_X6 cI cR q (a 0) (a 1) (a 2) (a 3) (fun _ => 0) (fun _ => 0) (fun _ => 0) (fun _ => 0) 0]) := by
  refine z_ofC (own := RX6) rfl rfl (by decide) (Nat.le_of_ble_eq_true rfl) ?_
  intro p e s m args below meth c A ls X hO hni hr hlocks Z hl
  have hx := X.1.1
  have hb := X.1.2.1
  have hl : lv_has ls 1 [(0, .ref q)] := hl
  refine lv_aload_n hx hb dX6_init_0 rfl (lv_at hl 0 rfl) ?_
  refine z_objInit X mj_X6_3 hl.1 dX6_init_1 (Nat.le_of_ble_eq_true rfl) (Nat.le_of_ble_eq_true rfl) ?_
  refine lv_aload_n hx hb dX6_init_4 rfl (lv_at hl 0 rfl) ?_
  refine lv_sipush (v := 256) hx hb dX6_init_5 (by decide) ?_
  refine z_newi (N := 256) X Z (by decide) (by decide) (Nat.le_of_ble_eq_true rfl) (Nat.le_of_ble_eq_true rfl) (Nat.le_of_ble_eq_true rfl) dX6_init_8 (fun q1 H Z => ?_)
  have Z : zW D A s [[(q, .inr (6, [.null, .null, .null, .null, .int 0]))], [(q1, .inl (cI, 256, .inl (fun _ => 0)))]] _ _ := Z
  refine z_putF (C := RX6) (T := TX6) (N := 5) (k := 0) (ty := (.array .int)) tyX6 X Z in_X6 tyX6_ok nmX6 rfl (Nat.le_of_ble_eq_true rfl) (by decide +kernel) rfl (by decide +kernel) (by decide +kernel) (zAll_of (zTb 122 (by decide +kernel)) (by decide +kernel)) hni rfl rfl 0 rfl (Nat.le_of_ble_eq_true rfl) [[(q, .inr (6, [.ref q1, .null, .null, .null, .int 0]))], [(q1, .inl (cI, 256, .inl (fun _ => 0)))]] rfl dX6_init_10 (fun H locs Z => ?_)
  refine lv_aload_n hx hb dX6_init_13 rfl (lv_at hl 0 rfl) ?_
  refine lv_sipush (v := 256) hx hb dX6_init_14 (by decide) ?_
  refine z_newi (N := 256) X Z (by decide) (by decide) (Nat.le_of_ble_eq_true rfl) (Nat.le_of_ble_eq_true rfl) (Nat.le_of_ble_eq_true rfl) dX6_init_17 (fun q2 H Z => ?_)
  have Z : zW D A s [[(q, .inr (6, [.ref q1, .null, .null, .null, .int 0]))], [(q1, .inl (cI, 256, .inl (fun _ => 0)))], [(q2, .inl (cI, 256, .inl (fun _ => 0)))]] _ _ := Z
  refine z_putF (C := RX6) (T := TX6) (N := 5) (k := 1) (ty := (.array .int)) tyX6 X Z in_X6 tyX6_ok nmX6 rfl (Nat.le_of_ble_eq_true rfl) (by decide +kernel) rfl (by decide +kernel) (by decide +kernel) (zAll_of (zTb 123 (by decide +kernel)) (by decide +kernel)) hni rfl rfl 0 rfl (Nat.le_of_ble_eq_true rfl) [[(q, .inr (6, [.ref q1, .ref q2, .null, .null, .int 0]))], [(q1, .inl (cI, 256, .inl (fun _ => 0)))], [(q2, .inl (cI, 256, .inl (fun _ => 0)))]] rfl dX6_init_19 (fun H locs Z => ?_)
  refine lv_aload_n hx hb dX6_init_22 rfl (lv_at hl 0 rfl) ?_
  refine lv_sipush (v := 256) hx hb dX6_init_23 (by decide) ?_
  refine z_newi (N := 256) X Z (by decide) (by decide) (Nat.le_of_ble_eq_true rfl) (Nat.le_of_ble_eq_true rfl) (Nat.le_of_ble_eq_true rfl) dX6_init_26 (fun q3 H Z => ?_)
  have Z : zW D A s [[(q, .inr (6, [.ref q1, .ref q2, .null, .null, .int 0]))], [(q1, .inl (cI, 256, .inl (fun _ => 0)))], [(q2, .inl (cI, 256, .inl (fun _ => 0)))], [(q3, .inl (cI, 256, .inl (fun _ => 0)))]] _ _ := Z
  refine z_putF (C := RX6) (T := TX6) (N := 5) (k := 2) (ty := (.array .int)) tyX6 X Z in_X6 tyX6_ok nmX6 rfl (Nat.le_of_ble_eq_true rfl) (by decide +kernel) rfl (by decide +kernel) (by decide +kernel) (zAll_of (zTb 124 (by decide +kernel)) (by decide +kernel)) hni rfl rfl 0 rfl (Nat.le_of_ble_eq_true rfl) [[(q, .inr (6, [.ref q1, .ref q2, .ref q3, .null, .int 0]))], [(q1, .inl (cI, 256, .inl (fun _ => 0)))], [(q2, .inl (cI, 256, .inl (fun _ => 0)))], [(q3, .inl (cI, 256, .inl (fun _ => 0)))]] rfl dX6_init_28 (fun H locs Z => ?_)
  refine lv_aload_n hx hb dX6_init_31 rfl (lv_at hl 0 rfl) ?_
  refine lv_sipush (v := 256) hx hb dX6_init_32 (by decide) ?_
  refine z_newi (N := 256) X Z (by decide) (by decide) (Nat.le_of_ble_eq_true rfl) (Nat.le_of_ble_eq_true rfl) (Nat.le_of_ble_eq_true rfl) dX6_init_35 (fun q4 H Z => ?_)
  have Z : zW D A s [[(q, .inr (6, [.ref q1, .ref q2, .ref q3, .null, .int 0]))], [(q1, .inl (cI, 256, .inl (fun _ => 0)))], [(q2, .inl (cI, 256, .inl (fun _ => 0)))], [(q3, .inl (cI, 256, .inl (fun _ => 0)))], [(q4, .inl (cI, 256, .inl (fun _ => 0)))]] _ _ := Z
  refine z_putF (C := RX6) (T := TX6) (N := 5) (k := 3) (ty := (.array .int)) tyX6 X Z in_X6 tyX6_ok nmX6 rfl (Nat.le_of_ble_eq_true rfl) (by decide +kernel) rfl (by decide +kernel) (by decide +kernel) (zAll_of (zTb 125 (by decide +kernel)) (by decide +kernel)) hni rfl rfl 0 rfl (Nat.le_of_ble_eq_true rfl) [[(q, .inr (6, [.ref q1, .ref q2, .ref q3, .ref q4, .int 0]))], [(q1, .inl (cI, 256, .inl (fun _ => 0)))], [(q2, .inl (cI, 256, .inl (fun _ => 0)))], [(q3, .inl (cI, 256, .inl (fun _ => 0)))], [(q4, .inl (cI, 256, .inl (fun _ => 0)))]] rfl dX6_init_37 (fun H locs Z => ?_)
  refine z_vretC (fun i => ([q1, q2, q3, q4] : List Nat).getD i 0) X hr hlocks trivial ?_ dX6_init_40
  exact Z.eq rfl
set_option maxHeartbeats 4000000 in
set_option maxRecDepth 100000 in
theorem c_X4_init (l : Launch) (D : va_G) (cI cR : ClassId) (q : Nat) : zMC l D cI cR yX4_init cX4_init 1 2 32 4 30 [.ref q] [[(q, .inr (4, [.null, .null, .int 0, .int 0, .int 0, .int 0]))]] (fun _ => True) (fun a => [w_X4 cI cR q (a 0) (a 1) (a 2) (a 3) zS0]) := by
  refine z_ofC (own := RX4) rfl rfl (by decide) (Nat.le_of_ble_eq_true rfl) ?_
  intro p e s m args below meth c A ls X hO hni hr hlocks Z hl
  have hx := X.1.1
  have hb := X.1.2.1
  have hl : lv_has ls 1 [(0, .ref q)] := hl
  refine lv_aload_n hx hb dX4_init_0 rfl (lv_at hl 0 rfl) ?_
  refine z_objInit X mj_X4_1 hl.1 dX4_init_1 (Nat.le_of_ble_eq_true rfl) (Nat.le_of_ble_eq_true rfl) ?_
  refine lv_aload_n hx hb dX4_init_4 rfl (lv_at hl 0 rfl) ?_
  refine z_new (C := RX1) (T := TX1) (N := 7) (ci := 1) (fs := [.int 0, .null, .int 0, .int 0, .int 0, .int 0, .int 0]) tyX1 X Z in_X1 tyX1_ok rfl ml_X4_7 mn_X1 mi_X1 (fun j hj => by rcases (show j = 0 ∨ j = 1 ∨ j = 2 ∨ j = 3 ∨ j = 4 ∨ j = 5 ∨ j = 6 by omega) with rfl | rfl | rfl | rfl | rfl | rfl | rfl <;> rfl) (Nat.le_of_ble_eq_true rfl) (Nat.le_of_ble_eq_true rfl) dX4_init_5 (fun q1 H Z => ?_)
  have Z : zW D A s [[(q, .inr (4, [.null, .null, .int 0, .int 0, .int 0, .int 0]))], [(q1, .inr (1, [.int 0, .null, .int 0, .int 0, .int 0, .int 0, .int 0]))]] _ _ := Z
  refine lv_dup hx hb dX4_init_8 rfl ?_
  refine z_callIN X hO Z (c_X1_init l D cI cR q1) (zw_X4_9 X.2.1 X.1.2.2.2.2 ⟨Nat.le_of_ble_eq_true rfl, Nat.le_of_ble_eq_true rfl⟩) [1] [0] (fun a2 => [[(q, .inr (4, [.null, .null, .int 0, .int 0, .int 0, .int 0]))], w_X1 cI cR q1 (a2 0) 0 (fun _ => 0) 0 1 0 0 0]) (by decide : ([1] ++ [0] : List Nat).Perm (List.range 2)) rfl (fun _ => rfl) (fun _ => rfl) (fun _ => rfl) rfl hl.1 rfl (Nat.le_of_ble_eq_true rfl) dX4_init_9 ⟨Nat.le_of_ble_eq_true rfl, Nat.le_of_ble_eq_true rfl⟩ (fun a2 ha2 H locs Z => ?_)
  refine z_putF (C := RX4) (T := TX4) (N := 6) (k := 0) (ty := (.object "JugglerStates$Juggler")) tyX4 X Z in_X4 tyX4_ok nmX4 rfl (Nat.le_of_ble_eq_true rfl) (by decide +kernel) rfl (by decide +kernel) (by decide +kernel) (zAll_of (zTb 63 (by decide +kernel)) (by decide +kernel)) hni rfl rfl 0 rfl (Nat.le_of_ble_eq_true rfl) [[(q, .inr (4, [.ref q1, .null, .int 0, .int 0, .int 0, .int 0]))], w_X1 cI cR q1 (a2 0) 0 (fun _ => 0) 0 1 0 0 0] rfl dX4_init_12 (fun H locs Z => ?_)
  refine lv_aload_n hx hb dX4_init_15 rfl (lv_at hl 0 rfl) ?_
  refine z_new (C := RX1) (T := TX1) (N := 7) (ci := 1) (fs := [.int 0, .null, .int 0, .int 0, .int 0, .int 0, .int 0]) tyX1 X Z in_X1 tyX1_ok rfl ml_X4_7 mn_X1 mi_X1 (fun j hj => by rcases (show j = 0 ∨ j = 1 ∨ j = 2 ∨ j = 3 ∨ j = 4 ∨ j = 5 ∨ j = 6 by omega) with rfl | rfl | rfl | rfl | rfl | rfl | rfl <;> rfl) (Nat.le_of_ble_eq_true rfl) (Nat.le_of_ble_eq_true rfl) dX4_init_16 (fun q3 H Z => ?_)
  have Z : zW D A s [[(q, .inr (4, [.ref q1, .null, .int 0, .int 0, .int 0, .int 0]))], w_X1 cI cR q1 (a2 0) 0 (fun _ => 0) 0 1 0 0 0, [(q3, .inr (1, [.int 0, .null, .int 0, .int 0, .int 0, .int 0, .int 0]))]] _ _ := Z
  refine lv_dup hx hb dX4_init_19 rfl ?_
  refine z_callIN X hO Z (c_X1_init l D cI cR q3) (zw_X4_9 X.2.1 X.1.2.2.2.2 ⟨Nat.le_of_ble_eq_true rfl, Nat.le_of_ble_eq_true rfl⟩) [2] [0, 1] (fun a4 => [[(q, .inr (4, [.ref q1, .null, .int 0, .int 0, .int 0, .int 0]))], w_X1 cI cR q1 (a2 0) 0 (fun _ => 0) 0 1 0 0 0, w_X1 cI cR q3 (a4 0) 0 (fun _ => 0) 0 1 0 0 0]) (by decide : ([2] ++ [0, 1] : List Nat).Perm (List.range 3)) rfl (fun _ => rfl) (fun _ => rfl) (fun _ => rfl) rfl hl.1 rfl (Nat.le_of_ble_eq_true rfl) dX4_init_20 ⟨Nat.le_of_ble_eq_true rfl, Nat.le_of_ble_eq_true rfl⟩ (fun a4 ha4 H locs Z => ?_)
  refine z_putF (C := RX4) (T := TX4) (N := 6) (k := 1) (ty := (.object "JugglerStates$Juggler")) tyX4 X Z in_X4 tyX4_ok nmX4 rfl (Nat.le_of_ble_eq_true rfl) (by decide +kernel) rfl (by decide +kernel) (by decide +kernel) (zAll_of (zTb 64 (by decide +kernel)) (by decide +kernel)) hni rfl rfl 0 rfl (Nat.le_of_ble_eq_true rfl) [[(q, .inr (4, [.ref q1, .ref q3, .int 0, .int 0, .int 0, .int 0]))], w_X1 cI cR q1 (a2 0) 0 (fun _ => 0) 0 1 0 0 0, w_X1 cI cR q3 (a4 0) 0 (fun _ => 0) 0 1 0 0 0] rfl dX4_init_23 (fun H locs Z => ?_)
  refine z_vretC (fun i => ([q1, (a2 0), q3, (a4 0)] : List Nat).getD i 0) X hr hlocks trivial ?_ dX4_init_26
  exact Z.eq rfl
set_option maxHeartbeats 4000000 in
set_option maxRecDepth 100000 in
theorem c_X5_init (l : Launch) (D : va_G) (cI cR : ClassId) (q : Nat) : zMC l D cI cR yX5_init cX5_init 1 3 52 5 36 [.ref q] [[(q, .inr (5, [.null, .int 0]))]] (fun _ => True) (fun a => [w_X5 cI cR q (a 0) (a 1) (a 2) (a 3) (a 4) zS0 0]) := by
  refine z_ofC (own := RX5) rfl rfl (by decide) (Nat.le_of_ble_eq_true rfl) ?_
  intro p e s m args below meth c A ls X hO hni hr hlocks Z hl
  have hx := X.1.1
  have hb := X.1.2.1
  have hl : lv_has ls 1 [(0, .ref q)] := hl
  refine lv_aload_n hx hb dX5_init_0 rfl (lv_at hl 0 rfl) ?_
  refine z_objInit X mj_X5_1 hl.1 dX5_init_1 (Nat.le_of_ble_eq_true rfl) (Nat.le_of_ble_eq_true rfl) ?_
  refine lv_aload_n hx hb dX5_init_4 rfl (lv_at hl 0 rfl) ?_
  refine z_new (C := RX4) (T := TX4) (N := 6) (ci := 4) (fs := [.null, .null, .int 0, .int 0, .int 0, .int 0]) tyX4 X Z in_X4 tyX4_ok rfl ml_X5_7 mn_X4 mi_X4 (fun j hj => by rcases (show j = 0 ∨ j = 1 ∨ j = 2 ∨ j = 3 ∨ j = 4 ∨ j = 5 by omega) with rfl | rfl | rfl | rfl | rfl | rfl <;> rfl) (Nat.le_of_ble_eq_true rfl) (Nat.le_of_ble_eq_true rfl) dX5_init_5 (fun q1 H Z => ?_)
  have Z : zW D A s [[(q, .inr (5, [.null, .int 0]))], [(q1, .inr (4, [.null, .null, .int 0, .int 0, .int 0, .int 0]))]] _ _ := Z
  refine lv_dup hx hb dX5_init_8 rfl ?_
  refine z_callIN X hO Z (c_X4_init l D cI cR q1) (zw_X5_9 X.2.1 X.1.2.2.2.2 ⟨Nat.le_of_ble_eq_true rfl, Nat.le_of_ble_eq_true rfl⟩) [1] [0] (fun a2 => [[(q, .inr (5, [.null, .int 0]))], w_X4 cI cR q1 (a2 0) (a2 1) (a2 2) (a2 3) zS0]) (by decide : ([1] ++ [0] : List Nat).Perm (List.range 2)) rfl (fun _ => rfl) (fun _ => rfl) (fun _ => rfl) rfl hl.1 rfl (Nat.le_of_ble_eq_true rfl) dX5_init_9 ⟨Nat.le_of_ble_eq_true rfl, Nat.le_of_ble_eq_true rfl⟩ (fun a2 ha2 H locs Z => ?_)
  refine z_putF (C := RX5) (T := TX5) (N := 2) (k := 0) (ty := (.object "JugglerStates$Scene")) tyX5 X Z in_X5 tyX5_ok nmX5 rfl (Nat.le_of_ble_eq_true rfl) (by decide +kernel) rfl (by decide +kernel) (by decide +kernel) (zAll_of (zTb 166 (by decide +kernel)) (by decide +kernel)) hni rfl rfl 0 rfl (Nat.le_of_ble_eq_true rfl) [[(q, .inr (5, [.ref q1, .int 0]))], w_X4 cI cR q1 (a2 0) (a2 1) (a2 2) (a2 3) zS0] rfl dX5_init_12 (fun H locs Z => ?_)
  refine z_vretC (fun i => ([q1, (a2 0), (a2 1), (a2 2), (a2 3)] : List Nat).getD i 0) X hr hlocks trivial ?_ dX5_init_15
  exact Z.eq rfl
set_option maxHeartbeats 4000000 in
set_option maxRecDepth 100000 in
theorem c_X0_init (l : Launch) (D : va_G) (cI cR : ClassId) (q : Nat) : zMC l D cI cR yX0_init cX0_init 2 3 52 31 222 [.ref q] [[(q, .inr (0, [.null, .int 0, .int 0]))]] (fun a => a 0 = q) (fun a => [w_X0 cI cR a (fun _ => zS0) 0 0]) := by
  refine z_ofC (own := RX0) rfl rfl (by decide) (Nat.le_of_ble_eq_true rfl) ?_
  intro p e s m args below meth c A ls X hO hni hr hlocks Z hl
  have hx := X.1.1
  have hb := X.1.2.1
  have hl : lv_has ls 2 [(0, .ref q)] := hl
  refine lv_aload_n hx hb dX0_init_0 rfl (lv_at hl 0 rfl) ?_
  refine z_objInit X mj_X0_3 hl.1 dX0_init_1 (Nat.le_of_ble_eq_true rfl) (Nat.le_of_ble_eq_true rfl) ?_
  refine lv_aload_n hx hb dX0_init_4 rfl (lv_at hl 0 rfl) ?_
  refine lv_bipush (v := 6) hx hb dX0_init_5 (by decide) ?_
  refine z_newq (N := 6) X Z hO ml_X0_9 (by decide) (by decide) (Nat.le_of_ble_eq_true rfl) (Nat.le_of_ble_eq_true rfl) (Nat.le_of_ble_eq_true rfl) dX0_init_7 (fun q1 H Z => ?_)
  have Z : zW D A s [[(q, .inr (0, [.null, .int 0, .int 0]))], [(q1, .inl (cR, 6, .inr (.inr (.inr (.inr (fun _ => none))))))]] _ _ := Z
  refine z_putF (C := RX0) (T := TX0) (N := 3) (k := 0) (ty := (.array (.object "JugglerStates$Scene"))) tyX0 X Z in_X0 tyX0_ok nmX0 rfl (Nat.le_of_ble_eq_true rfl) (by decide +kernel) rfl (by decide +kernel) (by decide +kernel) (zAll_of (zTb 147 (by decide +kernel)) (by decide +kernel)) hni rfl rfl 0 rfl (Nat.le_of_ble_eq_true rfl) [[(q, .inr (0, [.ref q1, .int 0, .int 0]))], [(q1, .inl (cR, 6, .inr (.inr (.inr (.inr (fun _ => none))))))]] rfl dX0_init_10 (fun H locs Z => ?_)
  refine lv_iconst (v := 0) hx hb dX0_init_13 (by decide) ?_
  refine lv_istore_n (lv' := [(1, .int 0), (0, .ref q)]) hx hb dX0_init_14 rfl hl (by decide) rfl (fun ls hl => ?_)
  refine lv_iload_n hx hb dX0_init_15 rfl (lv_at hl 0 rfl) ?_
  refine lv_aload_n hx hb dX0_init_16 rfl (lv_at hl 1 rfl) ?_
  refine zg_X0_11 X Z 0 rfl rfl dX0_init_17 ?_
  refine z_alenR (v := 6) X Z 1 rfl rfl dX0_init_20 ?_
  refine lv_icmp_ge (tgt := 43) hx hb dX0_init_21 (by decide) (fun h => absurd h (by decide)) (fun _ => ?_)
  refine lv_aload_n hx hb dX0_init_24 rfl (lv_at hl 1 rfl) ?_
  refine zg_X0_11 X Z 0 rfl rfl dX0_init_25 ?_
  refine lv_iload_n hx hb dX0_init_28 rfl (lv_at hl 0 rfl) ?_
  refine z_new (C := RX4) (T := TX4) (N := 6) (ci := 4) (fs := [.null, .null, .int 0, .int 0, .int 0, .int 0]) tyX4 X Z in_X4 tyX4_ok rfl ml_X0_9 mn_X4 mi_X4 (fun j hj => by rcases (show j = 0 ∨ j = 1 ∨ j = 2 ∨ j = 3 ∨ j = 4 ∨ j = 5 by omega) with rfl | rfl | rfl | rfl | rfl | rfl <;> rfl) (Nat.le_of_ble_eq_true rfl) (Nat.le_of_ble_eq_true rfl) dX0_init_29 (fun q2 H Z => ?_)
  have Z : zW D A s [[(q, .inr (0, [.ref q1, .int 0, .int 0]))], [(q1, .inl (cR, 6, .inr (.inr (.inr (.inr (fun _ => none))))))], [(q2, .inr (4, [.null, .null, .int 0, .int 0, .int 0, .int 0]))]] _ _ := Z
  refine lv_dup hx hb dX0_init_32 rfl ?_
  refine z_callIN X hO Z (c_X4_init l D cI cR q2) (zw_X0_17 X.2.1 X.1.2.2.2.2 ⟨Nat.le_of_ble_eq_true rfl, Nat.le_of_ble_eq_true rfl⟩) [2] [0, 1] (fun a3 => [[(q, .inr (0, [.ref q1, .int 0, .int 0]))], [(q1, .inl (cR, 6, .inr (.inr (.inr (.inr (fun _ => none))))))], w_X4 cI cR q2 (a3 0) (a3 1) (a3 2) (a3 3) zS0]) (by decide : ([2] ++ [0, 1] : List Nat).Perm (List.range 3)) rfl (fun _ => rfl) (fun _ => rfl) (fun _ => rfl) rfl hl.1 rfl (Nat.le_of_ble_eq_true rfl) dX0_init_33 ⟨Nat.le_of_ble_eq_true rfl, Nat.le_of_ble_eq_true rfl⟩ (fun a3 ha3 H locs Z => ?_)
  refine z_stq (j := 0) X Z 1 2 4 rfl rfl rfl rfl (by decide) (by decide) [[(q, .inr (0, [.ref q1, .int 0, .int 0]))], [(q1, .inl (cR, 6, .inr (.inr (.inr (.inr (va_up (fun _ => none) 0 (some q2)))))))], w_X4 cI cR q2 (a3 0) (a3 1) (a3 2) (a3 3) zS0] rfl dX0_init_36 (fun H locs Z => ?_)
  refine lv_iinc (v := 1) (lv' := [(1, .int 1), (0, .ref q)]) hx hb dX0_init_37 hl (k := 0) rfl (by decide) (by decide) rfl (fun ls hl => ?_)
  refine lv_goto (tgt := 15) hx hb dX0_init_40 (by decide) ?_
  refine lv_iload_n hx hb dX0_init_15 rfl (lv_at hl 0 rfl) ?_
  refine lv_aload_n hx hb dX0_init_16 rfl (lv_at hl 1 rfl) ?_
  refine zg_X0_11 X Z 0 rfl rfl dX0_init_17 ?_
  refine z_alenR (v := 6) X Z 1 rfl rfl dX0_init_20 ?_
  refine lv_icmp_ge (tgt := 43) hx hb dX0_init_21 (by decide) (fun h => absurd h (by decide)) (fun _ => ?_)
  refine lv_aload_n hx hb dX0_init_24 rfl (lv_at hl 1 rfl) ?_
  refine zg_X0_11 X Z 0 rfl rfl dX0_init_25 ?_
  refine lv_iload_n hx hb dX0_init_28 rfl (lv_at hl 0 rfl) ?_
  refine z_new (C := RX4) (T := TX4) (N := 6) (ci := 4) (fs := [.null, .null, .int 0, .int 0, .int 0, .int 0]) tyX4 X Z in_X4 tyX4_ok rfl ml_X0_9 mn_X4 mi_X4 (fun j hj => by rcases (show j = 0 ∨ j = 1 ∨ j = 2 ∨ j = 3 ∨ j = 4 ∨ j = 5 by omega) with rfl | rfl | rfl | rfl | rfl | rfl <;> rfl) (Nat.le_of_ble_eq_true rfl) (Nat.le_of_ble_eq_true rfl) dX0_init_29 (fun q4 H Z => ?_)
  have Z : zW D A s [[(q, .inr (0, [.ref q1, .int 0, .int 0]))], [(q1, .inl (cR, 6, .inr (.inr (.inr (.inr (va_up (fun _ => none) 0 (some q2)))))))], w_X4 cI cR q2 (a3 0) (a3 1) (a3 2) (a3 3) zS0, [(q4, .inr (4, [.null, .null, .int 0, .int 0, .int 0, .int 0]))]] _ _ := Z
  refine lv_dup hx hb dX0_init_32 rfl ?_
  refine z_callIN X hO Z (c_X4_init l D cI cR q4) (zw_X0_17 X.2.1 X.1.2.2.2.2 ⟨Nat.le_of_ble_eq_true rfl, Nat.le_of_ble_eq_true rfl⟩) [3] [0, 1, 2] (fun a5 => [[(q, .inr (0, [.ref q1, .int 0, .int 0]))], [(q1, .inl (cR, 6, .inr (.inr (.inr (.inr (va_up (fun _ => none) 0 (some q2)))))))], w_X4 cI cR q2 (a3 0) (a3 1) (a3 2) (a3 3) zS0, w_X4 cI cR q4 (a5 0) (a5 1) (a5 2) (a5 3) zS0]) (by decide : ([3] ++ [0, 1, 2] : List Nat).Perm (List.range 4)) rfl (fun _ => rfl) (fun _ => rfl) (fun _ => rfl) rfl hl.1 rfl (Nat.le_of_ble_eq_true rfl) dX0_init_33 ⟨Nat.le_of_ble_eq_true rfl, Nat.le_of_ble_eq_true rfl⟩ (fun a5 ha5 H locs Z => ?_)
  refine z_stq (j := 1) X Z 1 7 4 rfl rfl rfl rfl (by decide) (by decide) [[(q, .inr (0, [.ref q1, .int 0, .int 0]))], [(q1, .inl (cR, 6, .inr (.inr (.inr (.inr (va_up (va_up (fun _ => none) 0 (some q2)) 1 (some q4)))))))], w_X4 cI cR q2 (a3 0) (a3 1) (a3 2) (a3 3) zS0, w_X4 cI cR q4 (a5 0) (a5 1) (a5 2) (a5 3) zS0] rfl dX0_init_36 (fun H locs Z => ?_)
  refine lv_iinc (v := 2) (lv' := [(1, .int 2), (0, .ref q)]) hx hb dX0_init_37 hl (k := 0) rfl (by decide) (by decide) rfl (fun ls hl => ?_)
  refine lv_goto (tgt := 15) hx hb dX0_init_40 (by decide) ?_
  refine lv_iload_n hx hb dX0_init_15 rfl (lv_at hl 0 rfl) ?_
  refine lv_aload_n hx hb dX0_init_16 rfl (lv_at hl 1 rfl) ?_
  refine zg_X0_11 X Z 0 rfl rfl dX0_init_17 ?_
  refine z_alenR (v := 6) X Z 1 rfl rfl dX0_init_20 ?_
  refine lv_icmp_ge (tgt := 43) hx hb dX0_init_21 (by decide) (fun h => absurd h (by decide)) (fun _ => ?_)
  refine lv_aload_n hx hb dX0_init_24 rfl (lv_at hl 1 rfl) ?_
  refine zg_X0_11 X Z 0 rfl rfl dX0_init_25 ?_
  refine lv_iload_n hx hb dX0_init_28 rfl (lv_at hl 0 rfl) ?_
  refine z_new (C := RX4) (T := TX4) (N := 6) (ci := 4) (fs := [.null, .null, .int 0, .int 0, .int 0, .int 0]) tyX4 X Z in_X4 tyX4_ok rfl ml_X0_9 mn_X4 mi_X4 (fun j hj => by rcases (show j = 0 ∨ j = 1 ∨ j = 2 ∨ j = 3 ∨ j = 4 ∨ j = 5 by omega) with rfl | rfl | rfl | rfl | rfl | rfl <;> rfl) (Nat.le_of_ble_eq_true rfl) (Nat.le_of_ble_eq_true rfl) dX0_init_29 (fun q6 H Z => ?_)
  have Z : zW D A s [[(q, .inr (0, [.ref q1, .int 0, .int 0]))], [(q1, .inl (cR, 6, .inr (.inr (.inr (.inr (va_up (va_up (fun _ => none) 0 (some q2)) 1 (some q4)))))))], w_X4 cI cR q2 (a3 0) (a3 1) (a3 2) (a3 3) zS0, w_X4 cI cR q4 (a5 0) (a5 1) (a5 2) (a5 3) zS0, [(q6, .inr (4, [.null, .null, .int 0, .int 0, .int 0, .int 0]))]] _ _ := Z
  refine lv_dup hx hb dX0_init_32 rfl ?_
  refine z_callIN X hO Z (c_X4_init l D cI cR q6) (zw_X0_17 X.2.1 X.1.2.2.2.2 ⟨Nat.le_of_ble_eq_true rfl, Nat.le_of_ble_eq_true rfl⟩) [4] [0, 1, 2, 3] (fun a7 => [[(q, .inr (0, [.ref q1, .int 0, .int 0]))], [(q1, .inl (cR, 6, .inr (.inr (.inr (.inr (va_up (va_up (fun _ => none) 0 (some q2)) 1 (some q4)))))))], w_X4 cI cR q2 (a3 0) (a3 1) (a3 2) (a3 3) zS0, w_X4 cI cR q4 (a5 0) (a5 1) (a5 2) (a5 3) zS0, w_X4 cI cR q6 (a7 0) (a7 1) (a7 2) (a7 3) zS0]) (by decide : ([4] ++ [0, 1, 2, 3] : List Nat).Perm (List.range 5)) rfl (fun _ => rfl) (fun _ => rfl) (fun _ => rfl) rfl hl.1 rfl (Nat.le_of_ble_eq_true rfl) dX0_init_33 ⟨Nat.le_of_ble_eq_true rfl, Nat.le_of_ble_eq_true rfl⟩ (fun a7 ha7 H locs Z => ?_)
  refine z_stq (j := 2) X Z 1 12 4 rfl rfl rfl rfl (by decide) (by decide) [[(q, .inr (0, [.ref q1, .int 0, .int 0]))], [(q1, .inl (cR, 6, .inr (.inr (.inr (.inr (va_up (va_up (va_up (fun _ => none) 0 (some q2)) 1 (some q4)) 2 (some q6)))))))], w_X4 cI cR q2 (a3 0) (a3 1) (a3 2) (a3 3) zS0, w_X4 cI cR q4 (a5 0) (a5 1) (a5 2) (a5 3) zS0, w_X4 cI cR q6 (a7 0) (a7 1) (a7 2) (a7 3) zS0] rfl dX0_init_36 (fun H locs Z => ?_)
  refine lv_iinc (v := 3) (lv' := [(1, .int 3), (0, .ref q)]) hx hb dX0_init_37 hl (k := 0) rfl (by decide) (by decide) rfl (fun ls hl => ?_)
  refine lv_goto (tgt := 15) hx hb dX0_init_40 (by decide) ?_
  refine lv_iload_n hx hb dX0_init_15 rfl (lv_at hl 0 rfl) ?_
  refine lv_aload_n hx hb dX0_init_16 rfl (lv_at hl 1 rfl) ?_
  refine zg_X0_11 X Z 0 rfl rfl dX0_init_17 ?_
  refine z_alenR (v := 6) X Z 1 rfl rfl dX0_init_20 ?_
  refine lv_icmp_ge (tgt := 43) hx hb dX0_init_21 (by decide) (fun h => absurd h (by decide)) (fun _ => ?_)
  refine lv_aload_n hx hb dX0_init_24 rfl (lv_at hl 1 rfl) ?_
  refine zg_X0_11 X Z 0 rfl rfl dX0_init_25 ?_
  refine lv_iload_n hx hb dX0_init_28 rfl (lv_at hl 0 rfl) ?_
  refine z_new (C := RX4) (T := TX4) (N := 6) (ci := 4) (fs := [.null, .null, .int 0, .int 0, .int 0, .int 0]) tyX4 X Z in_X4 tyX4_ok rfl ml_X0_9 mn_X4 mi_X4 (fun j hj => by rcases (show j = 0 ∨ j = 1 ∨ j = 2 ∨ j = 3 ∨ j = 4 ∨ j = 5 by omega) with rfl | rfl | rfl | rfl | rfl | rfl <;> rfl) (Nat.le_of_ble_eq_true rfl) (Nat.le_of_ble_eq_true rfl) dX0_init_29 (fun q8 H Z => ?_)
  have Z : zW D A s [[(q, .inr (0, [.ref q1, .int 0, .int 0]))], [(q1, .inl (cR, 6, .inr (.inr (.inr (.inr (va_up (va_up (va_up (fun _ => none) 0 (some q2)) 1 (some q4)) 2 (some q6)))))))], w_X4 cI cR q2 (a3 0) (a3 1) (a3 2) (a3 3) zS0, w_X4 cI cR q4 (a5 0) (a5 1) (a5 2) (a5 3) zS0, w_X4 cI cR q6 (a7 0) (a7 1) (a7 2) (a7 3) zS0, [(q8, .inr (4, [.null, .null, .int 0, .int 0, .int 0, .int 0]))]] _ _ := Z
  refine lv_dup hx hb dX0_init_32 rfl ?_
  refine z_callIN X hO Z (c_X4_init l D cI cR q8) (zw_X0_17 X.2.1 X.1.2.2.2.2 ⟨Nat.le_of_ble_eq_true rfl, Nat.le_of_ble_eq_true rfl⟩) [5] [0, 1, 2, 3, 4] (fun a9 => [[(q, .inr (0, [.ref q1, .int 0, .int 0]))], [(q1, .inl (cR, 6, .inr (.inr (.inr (.inr (va_up (va_up (va_up (fun _ => none) 0 (some q2)) 1 (some q4)) 2 (some q6)))))))], w_X4 cI cR q2 (a3 0) (a3 1) (a3 2) (a3 3) zS0, w_X4 cI cR q4 (a5 0) (a5 1) (a5 2) (a5 3) zS0, w_X4 cI cR q6 (a7 0) (a7 1) (a7 2) (a7 3) zS0, w_X4 cI cR q8 (a9 0) (a9 1) (a9 2) (a9 3) zS0]) (by decide : ([5] ++ [0, 1, 2, 3, 4] : List Nat).Perm (List.range 6)) rfl (fun _ => rfl) (fun _ => rfl) (fun _ => rfl) rfl hl.1 rfl (Nat.le_of_ble_eq_true rfl) dX0_init_33 ⟨Nat.le_of_ble_eq_true rfl, Nat.le_of_ble_eq_true rfl⟩ (fun a9 ha9 H locs Z => ?_)
  refine z_stq (j := 3) X Z 1 17 4 rfl rfl rfl rfl (by decide) (by decide) [[(q, .inr (0, [.ref q1, .int 0, .int 0]))], [(q1, .inl (cR, 6, .inr (.inr (.inr (.inr (va_up (va_up (va_up (va_up (fun _ => none) 0 (some q2)) 1 (some q4)) 2 (some q6)) 3 (some q8)))))))], w_X4 cI cR q2 (a3 0) (a3 1) (a3 2) (a3 3) zS0, w_X4 cI cR q4 (a5 0) (a5 1) (a5 2) (a5 3) zS0, w_X4 cI cR q6 (a7 0) (a7 1) (a7 2) (a7 3) zS0, w_X4 cI cR q8 (a9 0) (a9 1) (a9 2) (a9 3) zS0] rfl dX0_init_36 (fun H locs Z => ?_)
  refine lv_iinc (v := 4) (lv' := [(1, .int 4), (0, .ref q)]) hx hb dX0_init_37 hl (k := 0) rfl (by decide) (by decide) rfl (fun ls hl => ?_)
  refine lv_goto (tgt := 15) hx hb dX0_init_40 (by decide) ?_
  refine lv_iload_n hx hb dX0_init_15 rfl (lv_at hl 0 rfl) ?_
  refine lv_aload_n hx hb dX0_init_16 rfl (lv_at hl 1 rfl) ?_
  refine zg_X0_11 X Z 0 rfl rfl dX0_init_17 ?_
  refine z_alenR (v := 6) X Z 1 rfl rfl dX0_init_20 ?_
  refine lv_icmp_ge (tgt := 43) hx hb dX0_init_21 (by decide) (fun h => absurd h (by decide)) (fun _ => ?_)
  refine lv_aload_n hx hb dX0_init_24 rfl (lv_at hl 1 rfl) ?_
  refine zg_X0_11 X Z 0 rfl rfl dX0_init_25 ?_
  refine lv_iload_n hx hb dX0_init_28 rfl (lv_at hl 0 rfl) ?_
  refine z_new (C := RX4) (T := TX4) (N := 6) (ci := 4) (fs := [.null, .null, .int 0, .int 0, .int 0, .int 0]) tyX4 X Z in_X4 tyX4_ok rfl ml_X0_9 mn_X4 mi_X4 (fun j hj => by rcases (show j = 0 ∨ j = 1 ∨ j = 2 ∨ j = 3 ∨ j = 4 ∨ j = 5 by omega) with rfl | rfl | rfl | rfl | rfl | rfl <;> rfl) (Nat.le_of_ble_eq_true rfl) (Nat.le_of_ble_eq_true rfl) dX0_init_29 (fun q10 H Z => ?_)
  have Z : zW D A s [[(q, .inr (0, [.ref q1, .int 0, .int 0]))], [(q1, .inl (cR, 6, .inr (.inr (.inr (.inr (va_up (va_up (va_up (va_up (fun _ => none) 0 (some q2)) 1 (some q4)) 2 (some q6)) 3 (some q8)))))))], w_X4 cI cR q2 (a3 0) (a3 1) (a3 2) (a3 3) zS0, w_X4 cI cR q4 (a5 0) (a5 1) (a5 2) (a5 3) zS0, w_X4 cI cR q6 (a7 0) (a7 1) (a7 2) (a7 3) zS0, w_X4 cI cR q8 (a9 0) (a9 1) (a9 2) (a9 3) zS0, [(q10, .inr (4, [.null, .null, .int 0, .int 0, .int 0, .int 0]))]] _ _ := Z
  refine lv_dup hx hb dX0_init_32 rfl ?_
  refine z_callIN X hO Z (c_X4_init l D cI cR q10) (zw_X0_17 X.2.1 X.1.2.2.2.2 ⟨Nat.le_of_ble_eq_true rfl, Nat.le_of_ble_eq_true rfl⟩) [6] [0, 1, 2, 3, 4, 5] (fun a11 => [[(q, .inr (0, [.ref q1, .int 0, .int 0]))], [(q1, .inl (cR, 6, .inr (.inr (.inr (.inr (va_up (va_up (va_up (va_up (fun _ => none) 0 (some q2)) 1 (some q4)) 2 (some q6)) 3 (some q8)))))))], w_X4 cI cR q2 (a3 0) (a3 1) (a3 2) (a3 3) zS0, w_X4 cI cR q4 (a5 0) (a5 1) (a5 2) (a5 3) zS0, w_X4 cI cR q6 (a7 0) (a7 1) (a7 2) (a7 3) zS0, w_X4 cI cR q8 (a9 0) (a9 1) (a9 2) (a9 3) zS0, w_X4 cI cR q10 (a11 0) (a11 1) (a11 2) (a11 3) zS0]) (by decide : ([6] ++ [0, 1, 2, 3, 4, 5] : List Nat).Perm (List.range 7)) rfl (fun _ => rfl) (fun _ => rfl) (fun _ => rfl) rfl hl.1 rfl (Nat.le_of_ble_eq_true rfl) dX0_init_33 ⟨Nat.le_of_ble_eq_true rfl, Nat.le_of_ble_eq_true rfl⟩ (fun a11 ha11 H locs Z => ?_)
  refine z_stq (j := 4) X Z 1 22 4 rfl rfl rfl rfl (by decide) (by decide) [[(q, .inr (0, [.ref q1, .int 0, .int 0]))], [(q1, .inl (cR, 6, .inr (.inr (.inr (.inr (va_up (va_up (va_up (va_up (va_up (fun _ => none) 0 (some q2)) 1 (some q4)) 2 (some q6)) 3 (some q8)) 4 (some q10)))))))], w_X4 cI cR q2 (a3 0) (a3 1) (a3 2) (a3 3) zS0, w_X4 cI cR q4 (a5 0) (a5 1) (a5 2) (a5 3) zS0, w_X4 cI cR q6 (a7 0) (a7 1) (a7 2) (a7 3) zS0, w_X4 cI cR q8 (a9 0) (a9 1) (a9 2) (a9 3) zS0, w_X4 cI cR q10 (a11 0) (a11 1) (a11 2) (a11 3) zS0] rfl dX0_init_36 (fun H locs Z => ?_)
  refine lv_iinc (v := 5) (lv' := [(1, .int 5), (0, .ref q)]) hx hb dX0_init_37 hl (k := 0) rfl (by decide) (by decide) rfl (fun ls hl => ?_)
  refine lv_goto (tgt := 15) hx hb dX0_init_40 (by decide) ?_
  refine lv_iload_n hx hb dX0_init_15 rfl (lv_at hl 0 rfl) ?_
  refine lv_aload_n hx hb dX0_init_16 rfl (lv_at hl 1 rfl) ?_
  refine zg_X0_11 X Z 0 rfl rfl dX0_init_17 ?_
  refine z_alenR (v := 6) X Z 1 rfl rfl dX0_init_20 ?_
  refine lv_icmp_ge (tgt := 43) hx hb dX0_init_21 (by decide) (fun h => absurd h (by decide)) (fun _ => ?_)
  refine lv_aload_n hx hb dX0_init_24 rfl (lv_at hl 1 rfl) ?_
  refine zg_X0_11 X Z 0 rfl rfl dX0_init_25 ?_
  refine lv_iload_n hx hb dX0_init_28 rfl (lv_at hl 0 rfl) ?_
  refine z_new (C := RX4) (T := TX4) (N := 6) (ci := 4) (fs := [.null, .null, .int 0, .int 0, .int 0, .int 0]) tyX4 X Z in_X4 tyX4_ok rfl ml_X0_9 mn_X4 mi_X4 (fun j hj => by rcases (show j = 0 ∨ j = 1 ∨ j = 2 ∨ j = 3 ∨ j = 4 ∨ j = 5 by omega) with rfl | rfl | rfl | rfl | rfl | rfl <;> rfl) (Nat.le_of_ble_eq_true rfl) (Nat.le_of_ble_eq_true rfl) dX0_init_29 (fun q12 H Z => ?_)
  have Z : zW D A s [[(q, .inr (0, [.ref q1, .int 0, .int 0]))], [(q1, .inl (cR, 6, .inr (.inr (.inr (.inr (va_up (va_up (va_up (va_up (va_up (fun _ => none) 0 (some q2)) 1 (some q4)) 2 (some q6)) 3 (some q8)) 4 (some q10)))))))], w_X4 cI cR q2 (a3 0) (a3 1) (a3 2) (a3 3) zS0, w_X4 cI cR q4 (a5 0) (a5 1) (a5 2) (a5 3) zS0, w_X4 cI cR q6 (a7 0) (a7 1) (a7 2) (a7 3) zS0, w_X4 cI cR q8 (a9 0) (a9 1) (a9 2) (a9 3) zS0, w_X4 cI cR q10 (a11 0) (a11 1) (a11 2) (a11 3) zS0, [(q12, .inr (4, [.null, .null, .int 0, .int 0, .int 0, .int 0]))]] _ _ := Z
  refine lv_dup hx hb dX0_init_32 rfl ?_
  refine z_callIN X hO Z (c_X4_init l D cI cR q12) (zw_X0_17 X.2.1 X.1.2.2.2.2 ⟨Nat.le_of_ble_eq_true rfl, Nat.le_of_ble_eq_true rfl⟩) [7] [0, 1, 2, 3, 4, 5, 6] (fun a13 => [[(q, .inr (0, [.ref q1, .int 0, .int 0]))], [(q1, .inl (cR, 6, .inr (.inr (.inr (.inr (va_up (va_up (va_up (va_up (va_up (fun _ => none) 0 (some q2)) 1 (some q4)) 2 (some q6)) 3 (some q8)) 4 (some q10)))))))], w_X4 cI cR q2 (a3 0) (a3 1) (a3 2) (a3 3) zS0, w_X4 cI cR q4 (a5 0) (a5 1) (a5 2) (a5 3) zS0, w_X4 cI cR q6 (a7 0) (a7 1) (a7 2) (a7 3) zS0, w_X4 cI cR q8 (a9 0) (a9 1) (a9 2) (a9 3) zS0, w_X4 cI cR q10 (a11 0) (a11 1) (a11 2) (a11 3) zS0, w_X4 cI cR q12 (a13 0) (a13 1) (a13 2) (a13 3) zS0]) (by decide : ([7] ++ [0, 1, 2, 3, 4, 5, 6] : List Nat).Perm (List.range 8)) rfl (fun _ => rfl) (fun _ => rfl) (fun _ => rfl) rfl hl.1 rfl (Nat.le_of_ble_eq_true rfl) dX0_init_33 ⟨Nat.le_of_ble_eq_true rfl, Nat.le_of_ble_eq_true rfl⟩ (fun a13 ha13 H locs Z => ?_)
  refine z_stq (j := 5) X Z 1 27 4 rfl rfl rfl rfl (by decide) (by decide) [[(q, .inr (0, [.ref q1, .int 0, .int 0]))], [(q1, .inl (cR, 6, .inr (.inr (.inr (.inr (va_up (va_up (va_up (va_up (va_up (va_up (fun _ => none) 0 (some q2)) 1 (some q4)) 2 (some q6)) 3 (some q8)) 4 (some q10)) 5 (some q12)))))))], w_X4 cI cR q2 (a3 0) (a3 1) (a3 2) (a3 3) zS0, w_X4 cI cR q4 (a5 0) (a5 1) (a5 2) (a5 3) zS0, w_X4 cI cR q6 (a7 0) (a7 1) (a7 2) (a7 3) zS0, w_X4 cI cR q8 (a9 0) (a9 1) (a9 2) (a9 3) zS0, w_X4 cI cR q10 (a11 0) (a11 1) (a11 2) (a11 3) zS0, w_X4 cI cR q12 (a13 0) (a13 1) (a13 2) (a13 3) zS0] rfl dX0_init_36 (fun H locs Z => ?_)
  refine lv_iinc (v := 6) (lv' := [(1, .int 6), (0, .ref q)]) hx hb dX0_init_37 hl (k := 0) rfl (by decide) (by decide) rfl (fun ls hl => ?_)
  refine lv_goto (tgt := 15) hx hb dX0_init_40 (by decide) ?_
  refine lv_iload_n hx hb dX0_init_15 rfl (lv_at hl 0 rfl) ?_
  refine lv_aload_n hx hb dX0_init_16 rfl (lv_at hl 1 rfl) ?_
  refine zg_X0_11 X Z 0 rfl rfl dX0_init_17 ?_
  refine z_alenR (v := 6) X Z 1 rfl rfl dX0_init_20 ?_
  refine lv_icmp_ge (tgt := 43) hx hb dX0_init_21 (by decide) (fun _ => ?_) (fun h => absurd (by decide) h)
  have hring : (va_up (va_up (va_up (va_up (va_up (va_up (fun _ => none) 0 (some q2)) 1 (some q4)) 2 (some q6)) 3 (some q8)) 4 (some q10)) 5 (some q12)) = (fun k => if k < 6 then some ((fun i => ([q, q1, q2, (a3 0), (a3 1), (a3 2), (a3 3), q4, (a5 0), (a5 1), (a5 2), (a5 3), q6, (a7 0), (a7 1), (a7 2), (a7 3), q8, (a9 0), (a9 1), (a9 2), (a9 3), q10, (a11 0), (a11 1), (a11 2), (a11 3), q12, (a13 0), (a13 1), (a13 2), (a13 3)] : List Nat).getD i 0) (2 + 5 * k)) else none) := by
    funext k
    match k with
    | 0 => rfl
    | 1 => rfl
    | 2 => rfl
    | 3 => rfl
    | 4 => rfl
    | 5 => rfl
    | k + 6 =>
      rw [if_neg (by omega)]
      simp [va_up]
  rw [hring] at Z
  refine z_vretC (fun i => ([q, q1, q2, (a3 0), (a3 1), (a3 2), (a3 3), q4, (a5 0), (a5 1), (a5 2), (a5 3), q6, (a7 0), (a7 1), (a7 2), (a7 3), q8, (a9 0), (a9 1), (a9 2), (a9 3), q10, (a11 0), (a11 1), (a11 2), (a11 3), q12, (a13 0), (a13 1), (a13 2), (a13 3)] : List Nat).getD i 0) X hr hlocks rfl ?_ dX0_init_43
  exact Z.eq rfl
set_option maxHeartbeats 4000000 in
set_option maxRecDepth 100000 in
theorem c_X7_init (l : Launch) (D : va_G) (cI cR : ClassId) (q : Nat) : zMC l D cI cR yX7_init cX7_init 1 4 73 63 1444 [.ref q] [[(q, .inr (7, [.null, .null, .null, .null, .null, .null, .null, .null]))]] (fun a => a 0 = q) (fun a => [w_X7 cI cR a zS0 zS0 (fun _ => 0) 0 (fun _ => 0) 0 (fun _ => 0) (fun _ => 0) (fun _ => 0) (fun _ => 0) 0 (fun _ => zS0) 0 0 zS0 0 zS0 0]) := by
  refine z_ofC (own := RX7) rfl rfl (by decide) (Nat.le_of_ble_eq_true rfl) ?_
  intro p e s m args below meth c A ls X hO hni hr hlocks Z hl
  have hx := X.1.1
  have hb := X.1.2.1
  have hl : lv_has ls 1 [(0, .ref q)] := hl
  refine lv_aload_n hx hb dX7_init_0 rfl (lv_at hl 0 rfl) ?_
  refine z_objInit X mj_X7_3 hl.1 dX7_init_1 (Nat.le_of_ble_eq_true rfl) (Nat.le_of_ble_eq_true rfl) ?_
  refine lv_aload_n hx hb dX7_init_4 rfl (lv_at hl 0 rfl) ?_
  refine z_new (C := RX4) (T := TX4) (N := 6) (ci := 4) (fs := [.null, .null, .int 0, .int 0, .int 0, .int 0]) tyX4 X Z in_X4 tyX4_ok rfl ml_X7_9 mn_X4 mi_X4 (fun j hj => by rcases (show j = 0 ∨ j = 1 ∨ j = 2 ∨ j = 3 ∨ j = 4 ∨ j = 5 by omega) with rfl | rfl | rfl | rfl | rfl | rfl <;> rfl) (Nat.le_of_ble_eq_true rfl) (Nat.le_of_ble_eq_true rfl) dX7_init_5 (fun q1 H Z => ?_)
  have Z : zW D A s [[(q, .inr (7, [.null, .null, .null, .null, .null, .null, .null, .null]))], [(q1, .inr (4, [.null, .null, .int 0, .int 0, .int 0, .int 0]))]] _ _ := Z
  refine lv_dup hx hb dX7_init_8 rfl ?_
  refine z_callIN X hO Z (c_X4_init l D cI cR q1) (zw_X7_11 X.2.1 X.1.2.2.2.2 ⟨Nat.le_of_ble_eq_true rfl, Nat.le_of_ble_eq_true rfl⟩) [1] [0] (fun a2 => [[(q, .inr (7, [.null, .null, .null, .null, .null, .null, .null, .null]))], w_X4 cI cR q1 (a2 0) (a2 1) (a2 2) (a2 3) zS0]) (by decide : ([1] ++ [0] : List Nat).Perm (List.range 2)) rfl (fun _ => rfl) (fun _ => rfl) (fun _ => rfl) rfl hl.1 rfl (Nat.le_of_ble_eq_true rfl) dX7_init_9 ⟨Nat.le_of_ble_eq_true rfl, Nat.le_of_ble_eq_true rfl⟩ (fun a2 ha2 H locs Z => ?_)
  refine z_putF (C := RX7) (T := TX7) (N := 8) (k := 0) (ty := (.object "JugglerStates$Scene")) tyX7 X Z in_X7 tyX7_ok nmX7 rfl (Nat.le_of_ble_eq_true rfl) (by decide +kernel) rfl (by decide +kernel) (by decide +kernel) (zAll_of (zTb 172 (by decide +kernel)) (by decide +kernel)) hni rfl rfl 0 rfl (Nat.le_of_ble_eq_true rfl) [[(q, .inr (7, [.ref q1, .null, .null, .null, .null, .null, .null, .null]))], w_X4 cI cR q1 (a2 0) (a2 1) (a2 2) (a2 3) zS0] rfl dX7_init_12 (fun H locs Z => ?_)
  refine lv_aload_n hx hb dX7_init_15 rfl (lv_at hl 0 rfl) ?_
  refine z_new (C := RX4) (T := TX4) (N := 6) (ci := 4) (fs := [.null, .null, .int 0, .int 0, .int 0, .int 0]) tyX4 X Z in_X4 tyX4_ok rfl ml_X7_9 mn_X4 mi_X4 (fun j hj => by rcases (show j = 0 ∨ j = 1 ∨ j = 2 ∨ j = 3 ∨ j = 4 ∨ j = 5 by omega) with rfl | rfl | rfl | rfl | rfl | rfl <;> rfl) (Nat.le_of_ble_eq_true rfl) (Nat.le_of_ble_eq_true rfl) dX7_init_16 (fun q3 H Z => ?_)
  have Z : zW D A s [[(q, .inr (7, [.ref q1, .null, .null, .null, .null, .null, .null, .null]))], w_X4 cI cR q1 (a2 0) (a2 1) (a2 2) (a2 3) zS0, [(q3, .inr (4, [.null, .null, .int 0, .int 0, .int 0, .int 0]))]] _ _ := Z
  refine lv_dup hx hb dX7_init_19 rfl ?_
  refine z_callIN X hO Z (c_X4_init l D cI cR q3) (zw_X7_11 X.2.1 X.1.2.2.2.2 ⟨Nat.le_of_ble_eq_true rfl, Nat.le_of_ble_eq_true rfl⟩) [2] [0, 1] (fun a4 => [[(q, .inr (7, [.ref q1, .null, .null, .null, .null, .null, .null, .null]))], w_X4 cI cR q1 (a2 0) (a2 1) (a2 2) (a2 3) zS0, w_X4 cI cR q3 (a4 0) (a4 1) (a4 2) (a4 3) zS0]) (by decide : ([2] ++ [0, 1] : List Nat).Perm (List.range 3)) rfl (fun _ => rfl) (fun _ => rfl) (fun _ => rfl) rfl hl.1 rfl (Nat.le_of_ble_eq_true rfl) dX7_init_20 ⟨Nat.le_of_ble_eq_true rfl, Nat.le_of_ble_eq_true rfl⟩ (fun a4 ha4 H locs Z => ?_)
  refine z_putF (C := RX7) (T := TX7) (N := 8) (k := 1) (ty := (.object "JugglerStates$Scene")) tyX7 X Z in_X7 tyX7_ok nmX7 rfl (Nat.le_of_ble_eq_true rfl) (by decide +kernel) rfl (by decide +kernel) (by decide +kernel) (zAll_of (zTb 173 (by decide +kernel)) (by decide +kernel)) hni rfl rfl 0 rfl (Nat.le_of_ble_eq_true rfl) [[(q, .inr (7, [.ref q1, .ref q3, .null, .null, .null, .null, .null, .null]))], w_X4 cI cR q1 (a2 0) (a2 1) (a2 2) (a2 3) zS0, w_X4 cI cR q3 (a4 0) (a4 1) (a4 2) (a4 3) zS0] rfl dX7_init_23 (fun H locs Z => ?_)
  refine lv_aload_n hx hb dX7_init_26 rfl (lv_at hl 0 rfl) ?_
  refine z_new (C := RX2) (T := TX2) (N := 2) (ci := 2) (fs := [.null, .int 0]) tyX2 X Z in_X2 tyX2_ok rfl ml_X7_19 mn_X2 mi_X2 (fun j hj => by rcases (show j = 0 ∨ j = 1 by omega) with rfl | rfl <;> rfl) (Nat.le_of_ble_eq_true rfl) (Nat.le_of_ble_eq_true rfl) dX7_init_27 (fun q5 H Z => ?_)
  have Z : zW D A s [[(q, .inr (7, [.ref q1, .ref q3, .null, .null, .null, .null, .null, .null]))], w_X4 cI cR q1 (a2 0) (a2 1) (a2 2) (a2 3) zS0, w_X4 cI cR q3 (a4 0) (a4 1) (a4 2) (a4 3) zS0, [(q5, .inr (2, [.null, .int 0]))]] _ _ := Z
  refine lv_dup hx hb dX7_init_30 rfl ?_
  refine z_callIN X hO Z (c_X2_init l D cI cR q5) (zw_X7_21 X.2.1 X.1.2.2.2.2 ⟨Nat.le_of_ble_eq_true rfl, Nat.le_of_ble_eq_true rfl⟩) [3] [0, 1, 2] (fun a6 => [[(q, .inr (7, [.ref q1, .ref q3, .null, .null, .null, .null, .null, .null]))], w_X4 cI cR q1 (a2 0) (a2 1) (a2 2) (a2 3) zS0, w_X4 cI cR q3 (a4 0) (a4 1) (a4 2) (a4 3) zS0, w_X2 cI cR q5 (a6 0) (fun _ => 0) 0]) (by decide : ([3] ++ [0, 1, 2] : List Nat).Perm (List.range 4)) rfl (fun _ => rfl) (fun _ => rfl) (fun _ => rfl) rfl hl.1 rfl (Nat.le_of_ble_eq_true rfl) dX7_init_31 ⟨Nat.le_of_ble_eq_true rfl, Nat.le_of_ble_eq_true rfl⟩ (fun a6 ha6 H locs Z => ?_)
  refine z_putF (C := RX7) (T := TX7) (N := 8) (k := 2) (ty := (.object "JugglerStates$Pad")) tyX7 X Z in_X7 tyX7_ok nmX7 rfl (Nat.le_of_ble_eq_true rfl) (by decide +kernel) rfl (by decide +kernel) (by decide +kernel) (zAll_of (zTb 174 (by decide +kernel)) (by decide +kernel)) hni rfl rfl 0 rfl (Nat.le_of_ble_eq_true rfl) [[(q, .inr (7, [.ref q1, .ref q3, .ref q5, .null, .null, .null, .null, .null]))], w_X4 cI cR q1 (a2 0) (a2 1) (a2 2) (a2 3) zS0, w_X4 cI cR q3 (a4 0) (a4 1) (a4 2) (a4 3) zS0, w_X2 cI cR q5 (a6 0) (fun _ => 0) 0] rfl dX7_init_34 (fun H locs Z => ?_)
  refine lv_aload_n hx hb dX7_init_37 rfl (lv_at hl 0 rfl) ?_
  refine z_new (C := RX3) (T := TX3) (N := 2) (ci := 3) (fs := [.null, .int 0]) tyX3 X Z in_X3 tyX3_ok rfl ml_X7_26 mn_X3 mi_X3 (fun j hj => by rcases (show j = 0 ∨ j = 1 by omega) with rfl | rfl <;> rfl) (Nat.le_of_ble_eq_true rfl) (Nat.le_of_ble_eq_true rfl) dX7_init_38 (fun q7 H Z => ?_)
  have Z : zW D A s [[(q, .inr (7, [.ref q1, .ref q3, .ref q5, .null, .null, .null, .null, .null]))], w_X4 cI cR q1 (a2 0) (a2 1) (a2 2) (a2 3) zS0, w_X4 cI cR q3 (a4 0) (a4 1) (a4 2) (a4 3) zS0, w_X2 cI cR q5 (a6 0) (fun _ => 0) 0, [(q7, .inr (3, [.null, .int 0]))]] _ _ := Z
  refine lv_dup hx hb dX7_init_41 rfl ?_
  refine z_callIN X hO Z (c_X3_init l D cI cR q7) (zw_X7_28 X.2.1 X.1.2.2.2.2 ⟨Nat.le_of_ble_eq_true rfl, Nat.le_of_ble_eq_true rfl⟩) [4] [0, 1, 2, 3] (fun a8 => [[(q, .inr (7, [.ref q1, .ref q3, .ref q5, .null, .null, .null, .null, .null]))], w_X4 cI cR q1 (a2 0) (a2 1) (a2 2) (a2 3) zS0, w_X4 cI cR q3 (a4 0) (a4 1) (a4 2) (a4 3) zS0, w_X2 cI cR q5 (a6 0) (fun _ => 0) 0, w_X3 cI cR q7 (a8 0) (fun _ => 0) 0]) (by decide : ([4] ++ [0, 1, 2, 3] : List Nat).Perm (List.range 5)) rfl (fun _ => rfl) (fun _ => rfl) (fun _ => rfl) rfl hl.1 rfl (Nat.le_of_ble_eq_true rfl) dX7_init_42 ⟨Nat.le_of_ble_eq_true rfl, Nat.le_of_ble_eq_true rfl⟩ (fun a8 ha8 H locs Z => ?_)
  refine z_putF (C := RX7) (T := TX7) (N := 8) (k := 3) (ty := (.object "JugglerStates$Pattern")) tyX7 X Z in_X7 tyX7_ok nmX7 rfl (Nat.le_of_ble_eq_true rfl) (by decide +kernel) rfl (by decide +kernel) (by decide +kernel) (zAll_of (zTb 175 (by decide +kernel)) (by decide +kernel)) hni rfl rfl 0 rfl (Nat.le_of_ble_eq_true rfl) [[(q, .inr (7, [.ref q1, .ref q3, .ref q5, .ref q7, .null, .null, .null, .null]))], w_X4 cI cR q1 (a2 0) (a2 1) (a2 2) (a2 3) zS0, w_X4 cI cR q3 (a4 0) (a4 1) (a4 2) (a4 3) zS0, w_X2 cI cR q5 (a6 0) (fun _ => 0) 0, w_X3 cI cR q7 (a8 0) (fun _ => 0) 0] rfl dX7_init_45 (fun H locs Z => ?_)
  refine lv_aload_n hx hb dX7_init_48 rfl (lv_at hl 0 rfl) ?_
  refine z_new (C := RX6) (T := TX6) (N := 5) (ci := 6) (fs := [.null, .null, .null, .null, .int 0]) tyX6 X Z in_X6 tyX6_ok rfl ml_X7_33 mn_X6 mi_X6 (fun j hj => by rcases (show j = 0 ∨ j = 1 ∨ j = 2 ∨ j = 3 ∨ j = 4 by omega) with rfl | rfl | rfl | rfl | rfl <;> rfl) (Nat.le_of_ble_eq_true rfl) (Nat.le_of_ble_eq_true rfl) dX7_init_49 (fun q9 H Z => ?_)
  have Z : zW D A s [[(q, .inr (7, [.ref q1, .ref q3, .ref q5, .ref q7, .null, .null, .null, .null]))], w_X4 cI cR q1 (a2 0) (a2 1) (a2 2) (a2 3) zS0, w_X4 cI cR q3 (a4 0) (a4 1) (a4 2) (a4 3) zS0, w_X2 cI cR q5 (a6 0) (fun _ => 0) 0, w_X3 cI cR q7 (a8 0) (fun _ => 0) 0, [(q9, .inr (6, [.null, .null, .null, .null, .int 0]))]] _ _ := Z
  refine lv_dup hx hb dX7_init_52 rfl ?_
  refine z_callIN X hO Z (c_X6_init l D cI cR q9) (zw_X7_35 X.2.1 X.1.2.2.2.2 ⟨Nat.le_of_ble_eq_true rfl, Nat.le_of_ble_eq_true rfl⟩) [5] [0, 1, 2, 3, 4] (fun a10 => [[(q, .inr (7, [.ref q1, .ref q3, .ref q5, .ref q7, .null, .null, .null, .null]))], w_X4 cI cR q1 (a2 0) (a2 1) (a2 2) (a2 3) zS0, w_X4 cI cR q3 (a4 0) (a4 1) (a4 2) (a4 3) zS0, w_X2 cI cR q5 (a6 0) (fun _ => 0) 0, w_X3 cI cR q7 (a8 0) (fun _ => 0) 0, w_X6 cI cR q9 (a10 0) (a10 1) (a10 2) (a10 3) (fun _ => 0) (fun _ => 0) (fun _ => 0) (fun _ => 0) 0]) (by decide : ([5] ++ [0, 1, 2, 3, 4] : List Nat).Perm (List.range 6)) rfl (fun _ => rfl) (fun _ => rfl) (fun _ => rfl) rfl hl.1 rfl (Nat.le_of_ble_eq_true rfl) dX7_init_53 ⟨Nat.le_of_ble_eq_true rfl, Nat.le_of_ble_eq_true rfl⟩ (fun a10 ha10 H locs Z => ?_)
  refine z_putF (C := RX7) (T := TX7) (N := 8) (k := 4) (ty := (.object "JugglerStates$Ways")) tyX7 X Z in_X7 tyX7_ok nmX7 rfl (Nat.le_of_ble_eq_true rfl) (by decide +kernel) rfl (by decide +kernel) (by decide +kernel) (zAll_of (zTb 176 (by decide +kernel)) (by decide +kernel)) hni rfl rfl 0 rfl (Nat.le_of_ble_eq_true rfl) [[(q, .inr (7, [.ref q1, .ref q3, .ref q5, .ref q7, .ref q9, .null, .null, .null]))], w_X4 cI cR q1 (a2 0) (a2 1) (a2 2) (a2 3) zS0, w_X4 cI cR q3 (a4 0) (a4 1) (a4 2) (a4 3) zS0, w_X2 cI cR q5 (a6 0) (fun _ => 0) 0, w_X3 cI cR q7 (a8 0) (fun _ => 0) 0, w_X6 cI cR q9 (a10 0) (a10 1) (a10 2) (a10 3) (fun _ => 0) (fun _ => 0) (fun _ => 0) (fun _ => 0) 0] rfl dX7_init_56 (fun H locs Z => ?_)
  refine lv_aload_n hx hb dX7_init_59 rfl (lv_at hl 0 rfl) ?_
  refine z_new (C := RX0) (T := TX0) (N := 3) (ci := 0) (fs := [.null, .int 0, .int 0]) tyX0 X Z in_X0 tyX0_ok rfl ml_X7_40 mn_X0 mi_X0 (fun j hj => by rcases (show j = 0 ∨ j = 1 ∨ j = 2 by omega) with rfl | rfl | rfl <;> rfl) (Nat.le_of_ble_eq_true rfl) (Nat.le_of_ble_eq_true rfl) dX7_init_60 (fun q11 H Z => ?_)
  have Z : zW D A s [[(q, .inr (7, [.ref q1, .ref q3, .ref q5, .ref q7, .ref q9, .null, .null, .null]))], w_X4 cI cR q1 (a2 0) (a2 1) (a2 2) (a2 3) zS0, w_X4 cI cR q3 (a4 0) (a4 1) (a4 2) (a4 3) zS0, w_X2 cI cR q5 (a6 0) (fun _ => 0) 0, w_X3 cI cR q7 (a8 0) (fun _ => 0) 0, w_X6 cI cR q9 (a10 0) (a10 1) (a10 2) (a10 3) (fun _ => 0) (fun _ => 0) (fun _ => 0) (fun _ => 0) 0, [(q11, .inr (0, [.null, .int 0, .int 0]))]] _ _ := Z
  refine lv_dup hx hb dX7_init_63 rfl ?_
  refine z_callIN X hO Z (c_X0_init l D cI cR q11) (zw_X7_42 X.2.1 X.1.2.2.2.2 ⟨Nat.le_of_ble_eq_true rfl, Nat.le_of_ble_eq_true rfl⟩) [6] [0, 1, 2, 3, 4, 5] (fun a12 => [[(q, .inr (7, [.ref q1, .ref q3, .ref q5, .ref q7, .ref q9, .null, .null, .null]))], w_X4 cI cR q1 (a2 0) (a2 1) (a2 2) (a2 3) zS0, w_X4 cI cR q3 (a4 0) (a4 1) (a4 2) (a4 3) zS0, w_X2 cI cR q5 (a6 0) (fun _ => 0) 0, w_X3 cI cR q7 (a8 0) (fun _ => 0) 0, w_X6 cI cR q9 (a10 0) (a10 1) (a10 2) (a10 3) (fun _ => 0) (fun _ => 0) (fun _ => 0) (fun _ => 0) 0, w_X0 cI cR a12 (fun _ => zS0) 0 0]) (by decide : ([6] ++ [0, 1, 2, 3, 4, 5] : List Nat).Perm (List.range 7)) rfl (fun _ => rfl) (fun _ => rfl) (fun _ => rfl) rfl hl.1 rfl (Nat.le_of_ble_eq_true rfl) dX7_init_64 ⟨Nat.le_of_ble_eq_true rfl, Nat.le_of_ble_eq_true rfl⟩ (fun a12 ha12 H locs Z2 => ?_)
  subst ha12
  have Z : zW D A s [[(q, .inr (7, [.ref q1, .ref q3, .ref q5, .ref q7, .ref q9, .null, .null, .null]))], w_X4 cI cR q1 (a2 0) (a2 1) (a2 2) (a2 3) zS0, w_X4 cI cR q3 (a4 0) (a4 1) (a4 2) (a4 3) zS0, w_X2 cI cR q5 (a6 0) (fun _ => 0) 0, w_X3 cI cR q7 (a8 0) (fun _ => 0) 0, w_X6 cI cR q9 (a10 0) (a10 1) (a10 2) (a10 3) (fun _ => 0) (fun _ => 0) (fun _ => 0) (fun _ => 0) 0, w_X0 cI cR a12 (fun _ => zS0) 0 0] _ _ := Z2
  refine z_putF (C := RX7) (T := TX7) (N := 8) (k := 5) (ty := (.object "JugglerStates$History")) tyX7 X Z in_X7 tyX7_ok nmX7 rfl (Nat.le_of_ble_eq_true rfl) (by decide +kernel) rfl (by decide +kernel) (by decide +kernel) (zAll_of (zTb 177 (by decide +kernel)) (by decide +kernel)) hni rfl rfl 0 rfl (Nat.le_of_ble_eq_true rfl) [[(q, .inr (7, [.ref q1, .ref q3, .ref q5, .ref q7, .ref q9, .ref (a12 0), .null, .null]))], w_X4 cI cR q1 (a2 0) (a2 1) (a2 2) (a2 3) zS0, w_X4 cI cR q3 (a4 0) (a4 1) (a4 2) (a4 3) zS0, w_X2 cI cR q5 (a6 0) (fun _ => 0) 0, w_X3 cI cR q7 (a8 0) (fun _ => 0) 0, w_X6 cI cR q9 (a10 0) (a10 1) (a10 2) (a10 3) (fun _ => 0) (fun _ => 0) (fun _ => 0) (fun _ => 0) 0, w_X0 cI cR a12 (fun _ => zS0) 0 0] rfl dX7_init_67 (fun H locs Z => ?_)
  refine lv_aload_n hx hb dX7_init_70 rfl (lv_at hl 0 rfl) ?_
  refine z_new (C := RX5) (T := TX5) (N := 2) (ci := 5) (fs := [.null, .int 0]) tyX5 X Z in_X5 tyX5_ok rfl ml_X7_47 mn_X5 mi_X5 (fun j hj => by rcases (show j = 0 ∨ j = 1 by omega) with rfl | rfl <;> rfl) (Nat.le_of_ble_eq_true rfl) (Nat.le_of_ble_eq_true rfl) dX7_init_71 (fun q13 H Z => ?_)
  have Z : zW D A s [[(q, .inr (7, [.ref q1, .ref q3, .ref q5, .ref q7, .ref q9, .ref (a12 0), .null, .null]))], w_X4 cI cR q1 (a2 0) (a2 1) (a2 2) (a2 3) zS0, w_X4 cI cR q3 (a4 0) (a4 1) (a4 2) (a4 3) zS0, w_X2 cI cR q5 (a6 0) (fun _ => 0) 0, w_X3 cI cR q7 (a8 0) (fun _ => 0) 0, w_X6 cI cR q9 (a10 0) (a10 1) (a10 2) (a10 3) (fun _ => 0) (fun _ => 0) (fun _ => 0) (fun _ => 0) 0, w_X0 cI cR a12 (fun _ => zS0) 0 0, [(q13, .inr (5, [.null, .int 0]))]] _ _ := Z
  refine lv_dup hx hb dX7_init_74 rfl ?_
  refine z_callIN X hO Z (c_X5_init l D cI cR q13) (zw_X7_49 X.2.1 X.1.2.2.2.2 ⟨Nat.le_of_ble_eq_true rfl, Nat.le_of_ble_eq_true rfl⟩) [7] [0, 1, 2, 3, 4, 5, 6] (fun a14 => [[(q, .inr (7, [.ref q1, .ref q3, .ref q5, .ref q7, .ref q9, .ref (a12 0), .null, .null]))], w_X4 cI cR q1 (a2 0) (a2 1) (a2 2) (a2 3) zS0, w_X4 cI cR q3 (a4 0) (a4 1) (a4 2) (a4 3) zS0, w_X2 cI cR q5 (a6 0) (fun _ => 0) 0, w_X3 cI cR q7 (a8 0) (fun _ => 0) 0, w_X6 cI cR q9 (a10 0) (a10 1) (a10 2) (a10 3) (fun _ => 0) (fun _ => 0) (fun _ => 0) (fun _ => 0) 0, w_X0 cI cR a12 (fun _ => zS0) 0 0, w_X5 cI cR q13 (a14 0) (a14 1) (a14 2) (a14 3) (a14 4) zS0 0]) (by decide : ([7] ++ [0, 1, 2, 3, 4, 5, 6] : List Nat).Perm (List.range 8)) rfl (fun _ => rfl) (fun _ => rfl) (fun _ => rfl) rfl hl.1 rfl (Nat.le_of_ble_eq_true rfl) dX7_init_75 ⟨Nat.le_of_ble_eq_true rfl, Nat.le_of_ble_eq_true rfl⟩ (fun a14 ha14 H locs Z => ?_)
  refine z_putF (C := RX7) (T := TX7) (N := 8) (k := 6) (ty := (.object "JugglerStates$Slot")) tyX7 X Z in_X7 tyX7_ok nmX7 rfl (Nat.le_of_ble_eq_true rfl) (by decide +kernel) rfl (by decide +kernel) (by decide +kernel) (zAll_of (zTb 178 (by decide +kernel)) (by decide +kernel)) hni rfl rfl 0 rfl (Nat.le_of_ble_eq_true rfl) [[(q, .inr (7, [.ref q1, .ref q3, .ref q5, .ref q7, .ref q9, .ref (a12 0), .ref q13, .null]))], w_X4 cI cR q1 (a2 0) (a2 1) (a2 2) (a2 3) zS0, w_X4 cI cR q3 (a4 0) (a4 1) (a4 2) (a4 3) zS0, w_X2 cI cR q5 (a6 0) (fun _ => 0) 0, w_X3 cI cR q7 (a8 0) (fun _ => 0) 0, w_X6 cI cR q9 (a10 0) (a10 1) (a10 2) (a10 3) (fun _ => 0) (fun _ => 0) (fun _ => 0) (fun _ => 0) 0, w_X0 cI cR a12 (fun _ => zS0) 0 0, w_X5 cI cR q13 (a14 0) (a14 1) (a14 2) (a14 3) (a14 4) zS0 0] rfl dX7_init_78 (fun H locs Z => ?_)
  refine lv_aload_n hx hb dX7_init_81 rfl (lv_at hl 0 rfl) ?_
  refine z_new (C := RX5) (T := TX5) (N := 2) (ci := 5) (fs := [.null, .int 0]) tyX5 X Z in_X5 tyX5_ok rfl ml_X7_47 mn_X5 mi_X5 (fun j hj => by rcases (show j = 0 ∨ j = 1 by omega) with rfl | rfl <;> rfl) (Nat.le_of_ble_eq_true rfl) (Nat.le_of_ble_eq_true rfl) dX7_init_82 (fun q15 H Z => ?_)
  have Z : zW D A s [[(q, .inr (7, [.ref q1, .ref q3, .ref q5, .ref q7, .ref q9, .ref (a12 0), .ref q13, .null]))], w_X4 cI cR q1 (a2 0) (a2 1) (a2 2) (a2 3) zS0, w_X4 cI cR q3 (a4 0) (a4 1) (a4 2) (a4 3) zS0, w_X2 cI cR q5 (a6 0) (fun _ => 0) 0, w_X3 cI cR q7 (a8 0) (fun _ => 0) 0, w_X6 cI cR q9 (a10 0) (a10 1) (a10 2) (a10 3) (fun _ => 0) (fun _ => 0) (fun _ => 0) (fun _ => 0) 0, w_X0 cI cR a12 (fun _ => zS0) 0 0, w_X5 cI cR q13 (a14 0) (a14 1) (a14 2) (a14 3) (a14 4) zS0 0, [(q15, .inr (5, [.null, .int 0]))]] _ _ := Z
  refine lv_dup hx hb dX7_init_85 rfl ?_
  refine z_callIN X hO Z (c_X5_init l D cI cR q15) (zw_X7_49 X.2.1 X.1.2.2.2.2 ⟨Nat.le_of_ble_eq_true rfl, Nat.le_of_ble_eq_true rfl⟩) [8] [0, 1, 2, 3, 4, 5, 6, 7] (fun a16 => [[(q, .inr (7, [.ref q1, .ref q3, .ref q5, .ref q7, .ref q9, .ref (a12 0), .ref q13, .null]))], w_X4 cI cR q1 (a2 0) (a2 1) (a2 2) (a2 3) zS0, w_X4 cI cR q3 (a4 0) (a4 1) (a4 2) (a4 3) zS0, w_X2 cI cR q5 (a6 0) (fun _ => 0) 0, w_X3 cI cR q7 (a8 0) (fun _ => 0) 0, w_X6 cI cR q9 (a10 0) (a10 1) (a10 2) (a10 3) (fun _ => 0) (fun _ => 0) (fun _ => 0) (fun _ => 0) 0, w_X0 cI cR a12 (fun _ => zS0) 0 0, w_X5 cI cR q13 (a14 0) (a14 1) (a14 2) (a14 3) (a14 4) zS0 0, w_X5 cI cR q15 (a16 0) (a16 1) (a16 2) (a16 3) (a16 4) zS0 0]) (by decide : ([8] ++ [0, 1, 2, 3, 4, 5, 6, 7] : List Nat).Perm (List.range 9)) rfl (fun _ => rfl) (fun _ => rfl) (fun _ => rfl) rfl hl.1 rfl (Nat.le_of_ble_eq_true rfl) dX7_init_86 ⟨Nat.le_of_ble_eq_true rfl, Nat.le_of_ble_eq_true rfl⟩ (fun a16 ha16 H locs Z => ?_)
  refine z_putF (C := RX7) (T := TX7) (N := 8) (k := 7) (ty := (.object "JugglerStates$Slot")) tyX7 X Z in_X7 tyX7_ok nmX7 rfl (Nat.le_of_ble_eq_true rfl) (by decide +kernel) rfl (by decide +kernel) (by decide +kernel) (zAll_of (zTb 179 (by decide +kernel)) (by decide +kernel)) hni rfl rfl 0 rfl (Nat.le_of_ble_eq_true rfl) [[(q, .inr (7, [.ref q1, .ref q3, .ref q5, .ref q7, .ref q9, .ref (a12 0), .ref q13, .ref q15]))], w_X4 cI cR q1 (a2 0) (a2 1) (a2 2) (a2 3) zS0, w_X4 cI cR q3 (a4 0) (a4 1) (a4 2) (a4 3) zS0, w_X2 cI cR q5 (a6 0) (fun _ => 0) 0, w_X3 cI cR q7 (a8 0) (fun _ => 0) 0, w_X6 cI cR q9 (a10 0) (a10 1) (a10 2) (a10 3) (fun _ => 0) (fun _ => 0) (fun _ => 0) (fun _ => 0) 0, w_X0 cI cR a12 (fun _ => zS0) 0 0, w_X5 cI cR q13 (a14 0) (a14 1) (a14 2) (a14 3) (a14 4) zS0 0, w_X5 cI cR q15 (a16 0) (a16 1) (a16 2) (a16 3) (a16 4) zS0 0] rfl dX7_init_89 (fun H locs Z => ?_)
  have hcg : w_X0 cI cR a12 (fun _ => zS0) 0 0 = w_X0 cI cR (fun i => (fun i => ([q, q1, (a2 0), (a2 1), (a2 2), (a2 3), q3, (a4 0), (a4 1), (a4 2), (a4 3), q5, (a6 0), q7, (a8 0), q9, (a10 0), (a10 1), (a10 2), (a10 3), (a12 0), (a12 1), (a12 2), (a12 3), (a12 4), (a12 5), (a12 6), (a12 7), (a12 8), (a12 9), (a12 10), (a12 11), (a12 12), (a12 13), (a12 14), (a12 15), (a12 16), (a12 17), (a12 18), (a12 19), (a12 20), (a12 21), (a12 22), (a12 23), (a12 24), (a12 25), (a12 26), (a12 27), (a12 28), (a12 29), (a12 30), (a12 31), q13, (a14 0), (a14 1), (a14 2), (a14 3), (a14 4), q15, (a16 0), (a16 1), (a16 2), (a16 3), (a16 4)] : List Nat).getD i 0) (i + 20)) (fun _ => zS0) 0 0 := w_X0_congr (fun i hi => by
    match i, hi with
    | 0, _ => rfl
    | 1, _ => rfl
    | 2, _ => rfl
    | 3, _ => rfl
    | 4, _ => rfl
    | 5, _ => rfl
    | 6, _ => rfl
    | 7, _ => rfl
    | 8, _ => rfl
    | 9, _ => rfl
    | 10, _ => rfl
    | 11, _ => rfl
    | 12, _ => rfl
    | 13, _ => rfl
    | 14, _ => rfl
    | 15, _ => rfl
    | 16, _ => rfl
    | 17, _ => rfl
    | 18, _ => rfl
    | 19, _ => rfl
    | 20, _ => rfl
    | 21, _ => rfl
    | 22, _ => rfl
    | 23, _ => rfl
    | 24, _ => rfl
    | 25, _ => rfl
    | 26, _ => rfl
    | 27, _ => rfl
    | 28, _ => rfl
    | 29, _ => rfl
    | 30, _ => rfl
    | 31, _ => rfl
    | i + 32, hi => exact absurd hi (by omega))
  rw [hcg] at Z
  refine z_vretC (fun i => ([q, q1, (a2 0), (a2 1), (a2 2), (a2 3), q3, (a4 0), (a4 1), (a4 2), (a4 3), q5, (a6 0), q7, (a8 0), q9, (a10 0), (a10 1), (a10 2), (a10 3), (a12 0), (a12 1), (a12 2), (a12 3), (a12 4), (a12 5), (a12 6), (a12 7), (a12 8), (a12 9), (a12 10), (a12 11), (a12 12), (a12 13), (a12 14), (a12 15), (a12 16), (a12 17), (a12 18), (a12 19), (a12 20), (a12 21), (a12 22), (a12 23), (a12 24), (a12 25), (a12 26), (a12 27), (a12 28), (a12 29), (a12 30), (a12 31), q13, (a14 0), (a14 1), (a14 2), (a14 3), (a14 4), q15, (a16 0), (a16 1), (a16 2), (a16 3), (a16 4)] : List Nat).getD i 0) X hr hlocks rfl ?_ dX7_init_92
  exact Z.eq rfl
