abbrev JT : Type := Int32 × (Nat → Int32) × Int32 × Int32 × Int32 × Int32 × Int32
abbrev ST : Type := JT × JT × Int32 × Int32 × Int32 × Int32
def zF : Nat := 100000
def w_X1 (cI cR : ClassId) (a0 a1 : Nat) (state : Int32) (heights : (Nat → Int32)) (passPlaces : Int32) (programLength : Int32) (place : Int32) (slips : Int32) (clashes : Int32) : va_W := [(a0, .inr (1, [.int state, .ref a1, .int passPlaces, .int programLength, .int place, .int slips, .int clashes]))] ++ ([(a1, .inl (cI, 8, .inl heights))])
def w_X4 (cI cR : ClassId) (a0 a1 a2 a3 a4 : Nat) (s : ST) : va_W := [(a0, .inr (4, [.ref a1, .ref a3, .int s.2.2.1, .int s.2.2.2.1, .int s.2.2.2.2.1, .int s.2.2.2.2.2]))] ++ (w_X1 cI cR a1 a2 s.1.1 s.1.2.1 s.1.2.2.1 s.1.2.2.2.1 s.1.2.2.2.2.1 s.1.2.2.2.2.2.1 s.1.2.2.2.2.2.2 ++ (w_X1 cI cR a3 a4 s.2.1.1 s.2.1.2.1 s.2.1.2.2.1 s.2.1.2.2.2.1 s.2.1.2.2.2.2.1 s.2.1.2.2.2.2.2.1 s.2.1.2.2.2.2.2.2))
def w_X2 (cI cR : ClassId) (a0 a1 : Nat) (codes : (Nat → Int32)) (length : Int32) : va_W := [(a0, .inr (2, [.ref a1, .int length]))] ++ ([(a1, .inl (cI, 30, .inl codes))])
def w_X3 (cI cR : ClassId) (a0 a1 : Nat) (heights : (Nat → Int32)) (length : Int32) : va_W := [(a0, .inr (3, [.ref a1, .int length]))] ++ ([(a1, .inl (cI, 8, .inl heights))])
def w_X5 (cI cR : ClassId) (a0 a1 a2 a3 a4 a5 : Nat) (kept : ST) (filled : Int32) : va_W := [(a0, .inr (5, [.ref a1, .int filled]))] ++ (w_X4 cI cR a1 a2 a3 a4 a5 kept)
def w_X6 (cI cR : ClassId) (a0 a1 a2 a3 a4 : Nat) (steps : (Nat → Int32)) (firstThrows : (Nat → Int32)) (lastThrows : (Nat → Int32)) (reached : (Nat → Int32)) (reachedCount : Int32) : va_W := [(a0, .inr (6, [.ref a1, .ref a2, .ref a3, .ref a4, .int reachedCount]))] ++ ([(a1, .inl (cI, 256, .inl steps))] ++ ([(a2, .inl (cI, 256, .inl firstThrows))] ++ ([(a3, .inl (cI, 256, .inl lastThrows))] ++ ([(a4, .inl (cI, 256, .inl reached))]))))
def w_X0 (cI cR : ClassId) (a : Nat → Nat) (rs : (Nat → ST)) (oldest : Int32) (size : Int32) : va_W := [(a 0, .inr (0, [.ref (a 1), .int oldest, .int size])), (a 1, .inl (cR, 6, .inr (.inr (.inr (.inr (fun k => if k < 6 then some (a (2 + 5 * k)) else none))))))] ++ (w_X4 cI cR (a 2) (a 3) (a 4) (a 5) (a 6) (rs 0) ++ (w_X4 cI cR (a 7) (a 8) (a 9) (a 10) (a 11) (rs 1) ++ (w_X4 cI cR (a 12) (a 13) (a 14) (a 15) (a 16) (rs 2) ++ (w_X4 cI cR (a 17) (a 18) (a 19) (a 20) (a 21) (rs 3) ++ (w_X4 cI cR (a 22) (a 23) (a 24) (a 25) (a 26) (rs 4) ++ (w_X4 cI cR (a 27) (a 28) (a 29) (a 30) (a 31) (rs 5)))))))
def w_X7 (cI cR : ClassId) (a : Nat → Nat) (now : ST) (ahead : ST) (pad_codes : (Nat → Int32)) (pad_length : Int32) (padPattern_heights : (Nat → Int32)) (padPattern_length : Int32) (ways_steps : (Nat → Int32)) (ways_firstThrows : (Nat → Int32)) (ways_lastThrows : (Nat → Int32)) (ways_reached : (Nat → Int32)) (ways_reachedCount : Int32) (history_rs : (Nat → ST)) (history_oldest : Int32) (history_size : Int32) (slotZero_kept : ST) (slotZero_filled : Int32) (slotOne_kept : ST) (slotOne_filled : Int32) : va_W := [((a 0), .inr (7, [.ref (a 1), .ref (a 6), .ref (a 11), .ref (a 13), .ref (a 15), .ref (a 20), .ref (a 52), .ref (a 58)]))] ++ (w_X4 cI cR (a 1) (a 2) (a 3) (a 4) (a 5) now ++ (w_X4 cI cR (a 6) (a 7) (a 8) (a 9) (a 10) ahead ++ (w_X2 cI cR (a 11) (a 12) pad_codes pad_length ++ (w_X3 cI cR (a 13) (a 14) padPattern_heights padPattern_length ++ (w_X6 cI cR (a 15) (a 16) (a 17) (a 18) (a 19) ways_steps ways_firstThrows ways_lastThrows ways_reached ways_reachedCount ++ (w_X0 cI cR (fun i => a (i + 20)) history_rs history_oldest history_size ++ (w_X5 cI cR (a 52) (a 53) (a 54) (a 55) (a 56) (a 57) slotZero_kept slotZero_filled ++ (w_X5 cI cR (a 58) (a 59) (a 60) (a 61) (a 62) (a 63) slotOne_kept slotOne_filled))))))))
def w_X8 (cI cR : ClassId) (a : Nat → Nat) : va_W := [((a 0), .inr (8, []))]
theorem oi_s {α : Type} {c : Prop} {i : Decidable c} {a : Option α} {r : α} (hf : @ite (Option α) c i a none = some r) : c ∧ a = some r := by
  by_cases h : c
  · rw [if_pos h] at hf; exact ⟨h, hf⟩
  · rw [if_neg h] at hf; cases hf
theorem z_ne {x k : Int32} (h : ¬ x = k) : x.toInt ≠ k.toInt := fun e => h (Int32.toInt_inj.mp e)
section ZL
variable {p : Program} {l : Launch} {e : Env} {R : Room} {s : State} {m : MethodId} {args : Array Value} {below : List Frame} {meth : Method} {c : Code} {H : Heap} {locs : List Loc} {cells slots : Nat} {Q : State → Prop}
variable {cc : ByteArray} {nL : Nat} {own : String} {D : va_G} {cI cR : ClassId} {A : Nat → Prop} {bs bs' wc : zB} {pc : Nat} {ls : Array Slot} {rest st0 : List Value} {a : Nat} {rv : Option Value}
theorem z_tabIn (hexec : p.tables.exec = Jvm.exec) (hb : c.code = cc) {dflt lo hi : Int} {offs : Array Int} {len : Nat} {x : Int32} {off : Int} {tgt : Nat} (k : Int32) (hk : x = k) (hdg : decode cc pc = .ok (.tableswitch dflt lo hi offs, len)) (h1 : ¬ k.toInt < lo) (h2 : ¬ hi < k.toInt) (ho : offs[(k.toInt - lo).toNat]? = some off) (ht : (pc : Int) + off = (tgt : Int))
    (kk : W p l e R s m args below meth c H locs cells slots Q (F0 m tgt ls rest)) : W p l e R s m args below meth c H locs cells slots Q (F0 m pc ls (.int x :: rest)) := by
  subst hk; exact lv_tableIn hexec hb hdg h1 h2 ho ht kk
theorem z_lookIn (hexec : p.tables.exec = Jvm.exec) (hb : c.code = cc) {dflt : Int} {ps : Array (Int × Int)} {len : Nat} {x : Int32} {off : Int} {tgt : Nat} (k : Int32) (hk : x = k) (hdg : decode cc pc = .ok (.lookupswitch dflt ps, len)) (hp : (ps.toList.zip (ps.toList.drop 1)).all (fun (a, next) => a.1 < next.1) = true) (ho : Op.lookupswitch.offset ps.toList dflt k.toInt = off) (ht : (pc : Int) + off = (tgt : Int))
    (kk : W p l e R s m args below meth c H locs cells slots Q (F0 m tgt ls rest)) : W p l e R s m args below meth c H locs cells slots Q (F0 m pc ls (.int x :: rest)) := by
  subst hk; exact lv_lookup hexec hb hdg hp ho ht kk
theorem z_ld {n : Nat} {f : Nat → Int32} {i : Int32} {j : Nat} (X : zX p s m c cc nL args own D cI cR A) (Z : zW D A s bs H locs) (q0 : Nat) (ha : (bl bs)[q0]? = some (a, .inl (cI, n, .inl f))) (hin : ¬ (i < 0 ∨ n ≤ i.toNatClampNeg)) (hj : i.toNatClampNeg = j) (hdg : decode cc pc = .ok (.iaload, 1))
    (kk : W p l e R s m args below meth c H locs cells slots Q (F0 m (pc + 1) ls (.int (f j) :: rest))) : W p l e R s m args below meth c H locs cells slots Q (F0 m pc ls (.int i :: .ref a :: rest)) := by
  subst hj; exact z_iald X Z q0 ha hin rfl hdg kk
theorem z_st {n : Nat} {f : Nat → Int32} {i x : Int32} {j : Nat} (X : zX p s m c cc nL args own D cI cR A) (Z : zW D A s bs H locs) (q0 : Nat) (ha : (bl bs)[q0]? = some (a, .inl (cI, n, .inl f))) (hin : ¬ (i < 0 ∨ n ≤ i.toNatClampNeg)) (hj : i.toNatClampNeg = j) (bs' : zB) (hb : (bl bs).set q0 (a, .inl (cI, n, .inl (upd f j x))) = bl bs') (hdg : decode cc pc = .ok (.iastore, 1))
    (kk : ∀ (H1 : Heap) (locs1 : List Loc), zW D A s bs' H1 locs1 → W p l e R s m args below meth c H1 locs1 cells slots Q (F0 m (pc + 1) ls rest)) : W p l e R s m args below meth c H locs cells slots Q (F0 m pc ls (.int x :: .int i :: .ref a :: rest)) := by
  subst hj; exact z_iast X Z q0 ha hin bs' hb hdg kk
variable {y : MethodName} {bytes : ByteArray} {maxL fr lo n index : Nat} {ret : Option FieldType} {C host : String} {b : Nat} {As : List Value}
theorem z_roV (X : zX p s m c cc nL args own D cI cR A) (Z : zW D A s bs H locs) (hM : zM l D cI cR y bytes maxL ret fr lo (.ref b :: As) wc rv wc) (cw : CallW R s args own C index y bytes maxL ret (zWs y bytes maxL ret) { frames := fr, cells := 0, slots := 0, locals := lo } 0 0 n) (q0 ci : Nat) {fs : List Value} {r : vw_C} (hrec : (bl bs)[q0]? = some (b, .inr (ci, fs))) (hcl : vwCl[ci]? = some r) (hC0 : r.1 = C) (isC isR : List Nat) (hp : (isC ++ isR).Perm (List.range bs.length)) (hC : isC.map (fun i => bs[i]?) = wc.map some)
    (hn : As.length = n) (hsz : ls.size = nL) (hst : st0 = As.reverse ++ .ref b :: rest) (hW8 : (rest.map fun v => v.category).sum ≤ 8) (hdg : decode cc pc = .ok (.invokevirtual index, 3)) (hf : cells ≤ R.cells ∧ slots ≤ R.slots)
    (kk : ∀ (H1 : Heap) (locs1 : List Loc), zW D A s bs H1 locs1 → W p l e R s m args below meth c H1 locs1 cells slots Q (F0 m (pc + 3) ls (rv.toList ++ rest))) : W p l e R s m args below meth c H locs cells slots Q (F0 m pc ls st0) :=
  z_callV X Z hM cw q0 ci hrec hcl hC0 isC isR bs hp hC hC rfl rfl hn hsz hst hW8 hdg hf kk
theorem z_roVN (X : zX p s m c cc nL args own D cI cR A) (Z : zW D A s bs H locs) (hM : zM l D cI cR y bytes maxL ret fr lo (.ref b :: As) wc rv wc) (cw : va_CN R s args own index y host bytes maxL ret (zWs y bytes maxL ret) { frames := fr, cells := 0, slots := 0, locals := lo } 0 0 n ∧ (Cond.instanceMethod y).before args s = true ∧ (Cond.selects C y y).before args s = true) (q0 ci : Nat) {fs : List Value} {r : vw_C} (hrec : (bl bs)[q0]? = some (b, .inr (ci, fs))) (hcl : vwCl[ci]? = some r) (hC0 : r.1 = C) (isC isR : List Nat) (hp : (isC ++ isR).Perm (List.range bs.length)) (hC : isC.map (fun i => bs[i]?) = wc.map some)
    (hn : As.length = n) (hsz : ls.size = nL) (hst : st0 = As.reverse ++ .ref b :: rest) (hW8 : (rest.map fun v => v.category).sum ≤ 8) (hdg : decode cc pc = .ok (.invokevirtual index, 3)) (hf : cells ≤ R.cells ∧ slots ≤ R.slots)
    (kk : ∀ (H1 : Heap) (locs1 : List Loc), zW D A s bs H1 locs1 → W p l e R s m args below meth c H1 locs1 cells slots Q (F0 m (pc + 3) ls (rv.toList ++ rest))) : W p l e R s m args below meth c H locs cells slots Q (F0 m pc ls st0) :=
  z_callVN X Z hM cw q0 ci hrec hcl hC0 isC isR bs hp hC hC rfl rfl hn hsz hst hW8 hdg hf kk
theorem z_roS (X : zX p s m c cc nL args own D cI cR A) (Z : zW D A s bs H locs) (hM : zM l D cI cR y bytes maxL ret fr lo As wc rv wc) (cw : CallB R s args own index y bytes maxL ret (zWs y bytes maxL ret) { frames := fr, cells := 0, slots := 0, locals := lo } 0 0 n ∧ (Cond.static y).before args s = true) (isC isR : List Nat) (hp : (isC ++ isR).Perm (List.range bs.length)) (hC : isC.map (fun i => bs[i]?) = wc.map some)
    (hn : As.length = n) (hsz : ls.size = nL) (hst : st0 = As.reverse ++ rest) (hW8 : (rest.map fun v => v.category).sum ≤ 8) (hdg : decode cc pc = .ok (.invokestatic index, 3)) (hf : cells ≤ R.cells ∧ slots ≤ R.slots)
    (kk : ∀ (H1 : Heap) (locs1 : List Loc), zW D A s bs H1 locs1 → W p l e R s m args below meth c H1 locs1 cells slots Q (F0 m (pc + 3) ls (rv.toList ++ rest))) : W p l e R s m args below meth c H locs cells slots Q (F0 m pc ls st0) :=
  z_callS X Z hM cw isC isR bs hp hC hC rfl rfl hn hsz hst hW8 hdg hf kk
theorem z_roSN (X : zX p s m c cc nL args own D cI cR A) (Z : zW D A s bs H locs) (hM : zM l D cI cR y bytes maxL ret fr lo As wc rv wc) (cw : va_CN R s args own index y host bytes maxL ret (zWs y bytes maxL ret) { frames := fr, cells := 0, slots := 0, locals := lo } 0 0 n ∧ (Cond.static y).before args s = true ∧ True) (isC isR : List Nat) (hp : (isC ++ isR).Perm (List.range bs.length)) (hC : isC.map (fun i => bs[i]?) = wc.map some)
    (hn : As.length = n) (hsz : ls.size = nL) (hst : st0 = As.reverse ++ rest) (hW8 : (rest.map fun v => v.category).sum ≤ 8) (hdg : decode cc pc = .ok (.invokestatic index, 3)) (hf : cells ≤ R.cells ∧ slots ≤ R.slots)
    (kk : ∀ (H1 : Heap) (locs1 : List Loc), zW D A s bs H1 locs1 → W p l e R s m args below meth c H1 locs1 cells slots Q (F0 m (pc + 3) ls (rv.toList ++ rest))) : W p l e R s m args below meth c H locs cells slots Q (F0 m pc ls st0) :=
  z_callSN X Z hM cw isC isR bs hp hC hC rfl rfl hn hsz hst hW8 hdg hf kk
end ZL
set_option maxHeartbeats 4000000 in
theorem z_ofF {l : Launch} {D : va_G} {cI cR : ClassId} {y : MethodName} {cc : ByteArray} {maxL : Nat} {ret : Option FieldType} {fr lo : Nat} {As : List Value} {wc wc' : zB} {rv : Option Value} {own : String} (ho : y.cls = own) (hy : plainFor y = true) (hn : (lg_sl As).length ≤ maxL)
    (body : ∀ (p : Program) (e : Env) (s : State) (m : MethodId) (args : Array Value) (below : List Frame) (meth : Method) (c : Code) (A : Nat → Prop) (ls : Array Slot), zX p s m c cc maxL args own D cI cR A → meth.sig.returnType = ret → meth.locks = false → zW D A s wc s.heap [] → lv_has ls maxL (lv_args 0 As) →
      W p l e ({ frames := fr, cells := 0, slots := 0, locals := lo } : Room) s m args below meth c s.heap [] 0 0 (zE D A below s args rv wc') (F0 m 0 ls [])) : zM l D cI cR y cc maxL ret fr lo As wc rv wc' := by
  intro sz
  refine MetFree.of_bodySF (code := cc) (maxLocals := maxL) (ret := ret) hy ?_ ?_
  · intro args s m h hn
    obtain ⟨meth, c, h1, h2, h3, h4, h5, h6, -, -⟩ := Cond.code_spec hn (atoms_spec (ws := zWs y cc maxL ret) h _ List.mem_cons_self)
    exact ⟨meth, c, h1, h2, h3, h4, h5, h6⟩
  intro p e s m args below meth c s₁ B hml hv _
  have hh0 : s₁.heap = s.heap := by rw [B.state]; rfl
  suffices hW : W p l e (headSpec (zWs y cc maxL ret) { frames := fr, cells := 0, slots := 0, locals := lo }).room s m args below meth c s.heap [] 0 0 (MQ below (zQ D rv wc wc' sz) args s 0 0 (va_A (bl wc) sz)) (entryFrame m args maxL) by
    obtain ⟨t, a1, o, b1, b2, b3⟩ := hW s₁ hh0 (Stand.of_body B)
    exact ⟨t, o, a1, b1, b2, ⟨b3.1, b3.2⟩⟩
  obtain ⟨rfl, hsz, hP, hK, hD0⟩ := hv
  subst hsz
  have hts := atoms_spec (ws := zWs y cc maxL ret) B.pre
  have hx := B.exec
  have hb := B.bytes
  have hr := B.returns
  have hown : s.vm.findClass y.cls = some m.cls := findClass_of_methodNamed B.named
  rw [ho] at hown
  have hlocks := B.notSynchronized
  have hD := hD0.self (sz := s.heap.size)
  have hl := lv_entry As (n := maxL) hn
  rw [lg_entry_eq]
  generalize (lg_sl As ++ List.replicate (maxL - (lg_sl As).length) Slot.unset).toArray = ls at hl ⊢
  exact body p e s m _ below meth c (va_A (bl wc) s.heap.size) ls ⟨⟨hx, hb, hml, hown, fun w hw => hts w (List.mem_cons_of_mem _ hw)⟩, hK, fun q h => Or.inr h⟩ hr hlocks ⟨hP, hD, va_S.rf⟩ hl
