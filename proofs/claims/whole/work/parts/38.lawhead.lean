-- ===== end of PART A; then your names; then what follows =====
/-! THE CLAIM OUT OF ONE WALK OF THE LAW'S BODY. Your part is whole_start (and what it stands on); all else here is the same for every law, but numbers. -/
def R_law : String := "JugglerStatesLaw"
def lw_P (b : Addr) (xs : List Int32) (args : Array Value) (s : State) : Prop := args = #[.ref b] ∧ s.IntsAt b xs ∧ xs.length ≤ 2048 ∧ (Jvm.Cond.and given_1 narrow_1).before args s = true
def lw_Q (_ : Array Value) (s : State) (o : Outcome) (t : State) : Prop := o = .returned (some (.int 1)) ∧ Framed s o t [] 600000 7302249
def lw_Z (below : List Frame) (a : Array Value) (s : State) : State → Prop := fun t => ∃ o, t.status = .running ∧ Ended t below o ∧ lw_Q a s o t
/-- the law's own end, with 1 on the stack, nothing written that was there before, its room as the claim has it -/
theorem lw_ret {p : Program} {l : Launch} {e : Env} {s : State} {m : MethodId} {below : List Frame} {meth : Method} {c : Code} {b : Nat} (hx : p.tables.exec = Jvm.exec) (hb : c.code = code) (hr : meth.sig.returnType = ret) (hlocks : meth.locks = false) {pc : Nat} {H : Heap} {ls : Array Slot} (hdg : decode code pc = .ok (.ireturn, 1)) : W p l e room_1 s m #[Value.ref b] below meth c H [] 600000 7302249 (lw_Z below #[Value.ref b] s) (F0 m pc ls [.int 1]) := by
  intro T hT X
  obtain ⟨fs, hret, hrun, hended, hW, hframe⟩ := X.leave (v := some (.int 1)) (hlocks := hlocks) (fun h => by rw [hr] at h; cases h)
  have hmeth' : T.vm.method? m = some meth := X.method'
  refine ⟨T.setFrames fs, ?_, .returned (some (.int 1)), hrun, hended, rfl, ⟨_, rfl⟩, hW, hframe⟩
  jvm_step X.here [X.here.top, hx, hb, hdg, hmeth', hr, ret, narrow_b1]
  (try refine ⟨rfl, ?_⟩); (try refine ⟨rfl, ?_⟩)
  first | (intro acts; rw [hret _ acts rfl rfl rfl]) | rw [hret _ _ rfl rfl rfl]
  exact Steps.refl _
/-- what holds at the law's entry: the machine, the code, the tables' words (any of lw_tbl by 'hts w (by decide +kernel)'), the script of L ints xs at the cell b, what the Statement gives of the start (any of its parts by flat_of_before) -/
def lw_At (p : Program) (s : State) (m : MethodId) (meth : Method) (c : Code) (b L : Nat) (xs : Nat → Int32) : Prop :=
  p.tables.exec = Jvm.exec ∧ c.code = code ∧ meth.sig.returnType = ret ∧ c.maxLocals = 4 ∧ s.vm.findClass R_law = some m.cls ∧ (∀ w ∈ lw_tbl, w.before #[Value.ref b] s = true) ∧ va_X b L xs s s.heap ∧ b < s.heap.size ∧ meth.locks = false ∧ (Jvm.Cond.and given_1 narrow_1).before #[Value.ref b] s = true

def z0a : Nat → Int32 := upd (upd (fun _ => 0) 4 1) 5 1
theorem z0a_n {j : Nat} (h4 : j ≠ 4) (h5 : j ≠ 5) : z0a j = 0 := by unfold z0a; rw [upd_n h5, upd_n h4]
theorem st0_J {q : Nat} (hq : q < 2) : Rj (0, fun _ => 0, 0, 1, 0, 0, 0) z0a q := by
  refine ⟨(z0a_n (by omega) (by omega)).symm, ?_, (z0a_n (by omega) (by omega)).symm, (z0a_n (by omega) (by omega)).symm, (z0a_n (by omega) (by omega)).symm, fun k hk => (z0a_n (by omega) (by omega)).symm, fun k hk _ => ?_⟩
  · rcases (show q = 0 ∨ q = 1 by omega) with rfl | rfl
    · rfl
    · rfl
  · rw [z0a_n (by omega) (by omega)]
    show f_X7_has (nI 0) (nI k) = some 0
    rw [b_has k hk 0 (by omega), Nat.zero_div]
    rfl
theorem st0_A : Rs zS0 (upd (upd (fun _ => 0) 4 1) 5 1) := by
  show Rs zS0 z0a
  refine ⟨⟨st0_J (by omega), st0_J (by omega), rfl, rfl, rfl, ⟨0, 0, 0, by omega, by omega, rfl, rfl, rfl, by decide⟩, fun q hq => ⟨⟨1, 0, by omega, by omega, by omega, ?_, z0a_n (by omega) (by omega)⟩, fun k hk => ⟨0, by omega, z0a_n (by omega) (by omega)⟩, fun k hk => Or.inl (z0a_n (by omega) (by omega))⟩⟩, rfl⟩
  rcases (show q = 0 ∨ q = 1 by omega) with rfl | rfl
  · rfl
  · rfl
theorem st0_H : RH (fun _ => zS0) 0 0 (fun _ => 0) 0 := ⟨0, 0, by omega, by omega, rfl, rfl, rfl, fun k hk => by omega⟩
theorem st0_S : RS zS0 0 zS0 0 (fun _ => 0) (fun _ => 0) := ⟨Or.inl rfl, Or.inl rfl, rfl, rfl, fun h => absurd h (by decide), fun h => absurd h (by decide)⟩
theorem st0_P : RP (fun _ => 0) 0 (fun _ => 0) 0 := ⟨0, by omega, rfl, rfl, fun k hk => by omega, fun k hk => by omega⟩
