/-! the z layer: worlds as lists of blocks; a contract that names its answer and its world exactly; one row an instruction, one row a call -/
abbrev zB : Type := List va_W
def bl (bs : zB) : va_W := bs.flatten
theorem it_t {α : Type} {c : Prop} {i : Decidable c} {a b r : α} (h : c) (hf : @ite α c i a b = r) : a = r := by
  rw [if_pos h] at hf; exact hf
theorem it_f {α : Type} {c : Prop} {i : Decidable c} {a b r : α} (h : ¬ c) (hf : @ite α c i a b = r) : b = r := by
  rw [if_neg h] at hf; exact hf
theorem in_s {α : Type} {c : Prop} {i : Decidable c} {a : Option α} {r : α} (hf : @ite (Option α) c i none a = some r) : ¬ c ∧ a = some r := by
  by_cases h : c
  · rw [if_pos h] at hf; cases hf
  · rw [if_neg h] at hf; exact ⟨h, hf⟩
theorem ob_s {α β : Type} {x : Option α} {k : α → Option β} {r : β} (hf : x.bind k = some r) : ∃ q, x = some q ∧ k q = some r := by
  cases x with
  | none => cases hf
  | some q => exact ⟨q, rfl, hf⟩
theorem so_s {α : Type} {x r : α} (hf : some x = some r) : x = r := Option.some.inj hf
theorem zP_mem {D : va_G} {cl : List vw_C} {ws : va_W} {H : Heap} : va_P D cl ws H ↔ ∀ q ∈ ws, va_at D cl q H := by
  constructor
  · intro h q hq
    obtain ⟨k, hk⟩ := List.getElem?_of_mem hq
    exact h k q hk
  · intro h k q hk
    exact h q (List.mem_of_getElem? hk)
theorem zD_iff {A : Nat → Prop} {ws : va_W} : va_D A ws ↔ (ws.map Prod.fst).Nodup ∧ ∀ q ∈ ws, A q.1 := by
  constructor
  · intro h
    obtain ⟨h1, h2⟩ := h
    refine ⟨?_, fun q hq => ?_⟩
    · rw [List.Nodup, List.pairwise_iff_getElem]
      intro i j hi hj hij heq
      rw [List.getElem_map, List.getElem_map] at heq
      have hi' : i < ws.length := by rw [List.length_map] at hi; exact hi
      have hj' : j < ws.length := by rw [List.length_map] at hj; exact hj
      have := h1 i j ws[i] ws[j] (List.getElem?_eq_getElem hi') (List.getElem?_eq_getElem hj') heq
      omega
    · obtain ⟨k, hk⟩ := List.getElem?_of_mem hq
      exact h2 k q hk
  · intro h
    obtain ⟨h1, h2⟩ := h
    refine ⟨?_, fun k q hk => h2 q (List.mem_of_getElem? hk)⟩
    intro i j p q hp hq hpq
    rw [List.Nodup, List.pairwise_iff_getElem] at h1
    obtain ⟨hi, hi'⟩ := List.getElem?_eq_some_iff.mp hp
    obtain ⟨hj, hj'⟩ := List.getElem?_eq_some_iff.mp hq
    rcases Nat.lt_trichotomy i j with h | h | h
    · refine absurd ?_ (h1 i j (by rw [List.length_map]; exact hi) (by rw [List.length_map]; exact hj) h)
      rw [List.getElem_map, List.getElem_map, hi', hj', hpq]
    · exact h
    · refine absurd ?_ (h1 j i (by rw [List.length_map]; exact hj) (by rw [List.length_map]; exact hi) h)
      rw [List.getElem_map, List.getElem_map, hi', hj', hpq]
theorem zA_iff {ws : va_W} {sz q : Nat} : va_A ws sz q ↔ (∃ e, (q, e) ∈ ws) ∨ sz ≤ q := by
  constructor
  · rintro (⟨k, e, h⟩ | h)
    · exact Or.inl ⟨e, List.mem_of_getElem? h⟩
    · exact Or.inr h
  · rintro (⟨e, h⟩ | h)
    · obtain ⟨k, hk⟩ := List.getElem?_of_mem h
      exact Or.inl ⟨k, e, hk⟩
    · exact Or.inr h
theorem z_range {α : Type} (bs : List α) : (List.range bs.length).map (fun i => bs[i]?) = bs.map some := by
  apply List.ext_getElem?
  intro i
  rw [List.getElem?_map, List.getElem?_map]
  by_cases h : i < bs.length
  · rw [List.getElem?_range h, List.getElem?_eq_getElem h]
    simp [List.getElem?_eq_getElem h]
  · rw [List.getElem?_eq_none (by rw [List.length_range]; omega), List.getElem?_eq_none (by omega)]
    rfl
theorem z_unsome {α : Type} (l : List α) : (l.map some).filterMap id = l := by
  induction l with
  | nil => rfl
  | cons a l ih => simp
theorem z_perm {α : Type} {bs bs2 : List α} (is : List Nat) (hp : is.Perm (List.range bs.length)) (h : is.map (fun i => bs[i]?) = bs2.map some) : bs.Perm bs2 := by
  have h1 := hp.map (fun i => bs[i]?)
  rw [h, z_range] at h1
  have h3 := h1.filterMap id
  rw [z_unsome, z_unsome] at h3
  exact h3.symm
theorem z_join {D : va_G} {A0 : Nat → Prop} {bs bs' wc wc' rest : zB} {H H1 : Heap} (hP : va_P D vwCl (bl bs) H) (hD : va_D A0 (bl bs)) (hp : bs.Perm (wc ++ rest)) (hp' : bs'.Perm (wc' ++ rest)) (hk : ∀ q : Nat, q < H.size → ¬ va_A (bl wc) H.size q → H1[q]? = H[q]?) (hA : ∀ q : Nat, H.size ≤ q → A0 q)
    (hP1 : va_P D vwCl (bl wc') H1) (hD1 : va_D (va_A (bl wc) H.size) (bl wc')) : va_P D vwCl (bl bs') H1 ∧ va_D A0 (bl bs') := by
  have f1 : (bl bs).Perm (bl wc ++ bl rest) := by
    have := hp.flatten
    rw [List.flatten_append] at this
    exact this
  have f2 : (bl bs').Perm (bl wc' ++ bl rest) := by
    have := hp'.flatten
    rw [List.flatten_append] at this
    exact this
  have m1 : ∀ q, q ∈ bl bs ↔ q ∈ bl wc ∨ q ∈ bl rest := fun q => by rw [f1.mem_iff, List.mem_append]
  have m2 : ∀ q, q ∈ bl bs' ↔ q ∈ bl wc' ∨ q ∈ bl rest := fun q => by rw [f2.mem_iff, List.mem_append]
  rw [zP_mem] at hP hP1 ⊢
  rw [zD_iff] at hD hD1 ⊢
  have n1 : ((bl wc ++ bl rest).map Prod.fst).Nodup := (f1.map Prod.fst).nodup_iff.mp hD.1
  rw [List.map_append, List.nodup_append] at n1
  have hlt : ∀ q ∈ bl rest, q.1 < H.size := fun q hq => (hP q ((m1 q).mpr (Or.inr hq))).lt
  have hno : ∀ q ∈ bl rest, ¬ va_A (bl wc) H.size q.1 := by
    intro q hq hc
    rcases zA_iff.mp hc with ⟨e, he⟩ | he
    · exact n1.2.2 q.1 (List.mem_map.mpr ⟨(q.1, e), he, rfl⟩) q.1 (List.mem_map.mpr ⟨q, hq, rfl⟩) rfl
    · exact absurd (hlt q hq) (by omega)
  refine ⟨?_, ?_, ?_⟩
  · intro q hq
    rcases (m2 q).mp hq with h | h
    · exact hP1 q h
    · exact (hP q ((m1 q).mpr (Or.inr h))).kept (hk q.1 (hlt q h) (hno q h))
  · refine (f2.map Prod.fst).nodup_iff.mpr ?_
    rw [List.map_append, List.nodup_append]
    refine ⟨hD1.1, n1.2.1, ?_⟩
    intro a ha b hb hab
    obtain ⟨q, hq, rfl⟩ := List.mem_map.mp ha
    obtain ⟨r, hr, rfl⟩ := List.mem_map.mp hb
    have h1 := hD1.2 q hq
    rw [hab] at h1
    exact hno r hr h1
  · intro q hq
    rcases (m2 q).mp hq with h | h
    · rcases zA_iff.mp (hD1.2 q h) with ⟨e, he⟩ | he
      · exact hD.2 (q.1, e) ((m1 _).mpr (Or.inl he))
      · exact hA _ he
    · exact hD.2 q ((m1 q).mpr (Or.inr h))
/-- the words of the tables that any method may lean on -/
def zAll : List Cond := lw_tbl.filter goodWord
theorem zAll_good {w : Cond} (h : w ∈ zAll) : (w.onTables && w.keeps) = true ∨ ∃ ty, w = .arrayClass ty := good_of_word (List.mem_filter.mp h).2
theorem zAll_of {w : Cond} (h : w ∈ lw_tbl) (hg : goodWord w = true) : w ∈ zAll := List.mem_filter.mpr ⟨h, hg⟩
theorem zTb {w : Cond} (i : Nat) (h : tables_1[i]? = some w) : w ∈ lw_tbl := List.mem_append_right _ (List.mem_of_getElem? h)
def zWs (y : MethodName) (cc : ByteArray) (maxL : Nat) (ret : Option FieldType) : List Cond := .code y cc maxL ret :: zAll
theorem zGood {y : MethodName} {cc : ByteArray} {maxL : Nat} {ret : Option FieldType} (h : Cond.code y cc maxL ret ∈ zAll) : GoodIn zAll (zWs y cc maxL ret) := by
  intro w hw
  rcases List.mem_cons.mp hw with e | e
  · rw [e]; exact ⟨h, zAll_good h⟩
  · exact ⟨e, zAll_good e⟩
def zNf : List (String × Nat × String × String × String × String) := [("JugglerStates", 121, "JugglerStates$Juggler", "state", "I", "JugglerStates"), ("JugglerStates", 125, "JugglerStates$Juggler", "programLength", "I", "JugglerStates"), ("JugglerStates$Scene", 55, "JugglerStates$Juggler", "place", "I", "JugglerStates"), ("JugglerStates", 128, "JugglerStates$Juggler", "place", "I", "JugglerStates"), ("JugglerStates$Scene", 65, "JugglerStates$Juggler", "slips", "I", "JugglerStates"), ("JugglerStates", 131, "JugglerStates$Juggler", "slips", "I", "JugglerStates"), ("JugglerStates", 134, "JugglerStates$Juggler", "clashes", "I", "JugglerStates"), ("JugglerStates$Scene", 68, "JugglerStates$Juggler", "clashes", "I", "JugglerStates"), ("JugglerStates", 115, "JugglerStates$Scene", "floor", "I", "JugglerStates"), ("JugglerStates", 93, "JugglerStates$Scene", "beatsPassed", "I", "JugglerStates"), ("JugglerStates", 147, "JugglerStates$Scene", "throwsMade", "I", "JugglerStates"), ("JugglerStates", 150, "JugglerStates$Scene", "passesCome", "I", "JugglerStates"), ("JugglerStates$Pattern", 15, "JugglerStates$Pad", "length", "I", "JugglerStates"), ("JugglerStates$Juggler", 47, "JugglerStates$Pad", "length", "I", "JugglerStates"), ("JugglerStates", 153, "JugglerStates$Pad", "length", "I", "JugglerStates"), ("JugglerStates", 189, "JugglerStates$Pattern", "length", "I", "JugglerStates"), ("JugglerStates", 156, "JugglerStates$History", "size", "I", "JugglerStates")]
def zNm : List (String × Nat × MethodName × String) := [("JugglerStates", 11, ⟨"JugglerStates$Scene", "<init>", "()V"⟩, "JugglerStates"), ("JugglerStates$Scene", 9, ⟨"JugglerStates$Juggler", "<init>", "()V"⟩, "JugglerStates"), ("JugglerStates", 21, ⟨"JugglerStates$Pad", "<init>", "()V"⟩, "JugglerStates"), ("JugglerStates", 28, ⟨"JugglerStates$Pattern", "<init>", "()V"⟩, "JugglerStates"), ("JugglerStates", 35, ⟨"JugglerStates$Ways", "<init>", "()V"⟩, "JugglerStates"), ("JugglerStates", 42, ⟨"JugglerStates$History", "<init>", "()V"⟩, "JugglerStates"), ("JugglerStates$History", 17, ⟨"JugglerStates$Scene", "<init>", "()V"⟩, "JugglerStates"), ("JugglerStates", 49, ⟨"JugglerStates$Slot", "<init>", "()V"⟩, "JugglerStates"), ("JugglerStates$Slot", 9, ⟨"JugglerStates$Scene", "<init>", "()V"⟩, "JugglerStates"), ("JugglerStates", 61, ⟨"JugglerStates$Scene", "clubs", "()I"⟩, "JugglerStates"), ("JugglerStates$Scene", 40, ⟨"JugglerStates$Juggler", "clubs", "()I"⟩, "JugglerStates"), ("JugglerStates", 65, ⟨"JugglerStates$History", "record", "(LJugglerStates$Scene;)V"⟩, "JugglerStates"), ("JugglerStates$History", 25, ⟨"JugglerStates", "leftOver", "(II)I"⟩, "JugglerStates"), ("JugglerStates$History", 33, ⟨"JugglerStates$Scene", "become", "(LJugglerStates$Scene;)V"⟩, "JugglerStates"), ("JugglerStates$Scene", 19, ⟨"JugglerStates$Juggler", "become", "(LJugglerStates$Juggler;)V"⟩, "JugglerStates"), ("JugglerStates$Juggler", 62, ⟨"JugglerStates", "valueAt", "([II)I"⟩, "JugglerStates"), ("JugglerStates$Juggler", 26, ⟨"JugglerStates", "setAt", "([III)V"⟩, "JugglerStates"), ("JugglerStates", 69, ⟨"JugglerStates$Scene", "begin", "(II)V"⟩, "JugglerStates"), ("JugglerStates$Scene", 36, ⟨"JugglerStates$Juggler", "begin", "(I)V"⟩, "JugglerStates"), ("JugglerStates$Juggler", 42, ⟨"JugglerStates", "firstBeats", "(I)I"⟩, "JugglerStates"), ("JugglerStates", 80, ⟨"JugglerStates$Scene", "juggler", "(I)LJugglerStates$Juggler;"⟩, "JugglerStates"), ("JugglerStates", 124, ⟨"JugglerStates$Juggler", "clubs", "()I"⟩, "JugglerStates"), ("JugglerStates", 90, ⟨"JugglerStates$Pad", "clear", "()V"⟩, "JugglerStates"), ("JugglerStates", 213, ⟨"JugglerStates$Pad", "append", "(I)V"⟩, "JugglerStates"), ("JugglerStates$Pad", 19, ⟨"JugglerStates", "setAt", "([III)V"⟩, "JugglerStates"), ("JugglerStates", 73, ⟨"JugglerStates$Pad", "programFault", "()I"⟩, "JugglerStates"), ("JugglerStates$Pad", 23, ⟨"JugglerStates", "valueAt", "([II)I"⟩, "JugglerStates"), ("JugglerStates$Pad", 31, ⟨"JugglerStates", "isHeight", "(I)Z"⟩, "JugglerStates"), ("JugglerStates", 76, ⟨"JugglerStates$Pad", "digit", "(I)I"⟩, "JugglerStates"), ("JugglerStates", 84, ⟨"JugglerStates$Juggler", "learn", "(LJugglerStates$Pad;)V"⟩, "JugglerStates"), ("JugglerStates$Juggler", 50, ⟨"JugglerStates$Pad", "isHeightAt", "(I)Z"⟩, "JugglerStates"), ("JugglerStates$Juggler", 54, ⟨"JugglerStates$Pad", "digit", "(I)I"⟩, "JugglerStates"), ("JugglerStates", 108, ⟨"JugglerStates$Juggler", "expects", "(I)Z"⟩, "JugglerStates"), ("JugglerStates$Juggler", 66, ⟨"JugglerStates", "has", "(II)Z"⟩, "JugglerStates"), ("JugglerStates", 111, ⟨"JugglerStates$Juggler", "lose", "(I)V"⟩, "JugglerStates"), ("JugglerStates", 118, ⟨"JugglerStates$Juggler", "expect", "(I)V"⟩, "JugglerStates"), ("JugglerStates", 159, ⟨"JugglerStates$Scene", "become", "(LJugglerStates$Scene;)V"⟩, "JugglerStates"), ("JugglerStates", 98, ⟨"JugglerStates$Scene", "play", "(I)I"⟩, "JugglerStates"), ("JugglerStates$Scene", 51, ⟨"JugglerStates$Juggler", "expects", "(I)Z"⟩, "JugglerStates"), ("JugglerStates$Scene", 58, ⟨"JugglerStates$Juggler", "heightAt", "(I)I"⟩, "JugglerStates"), ("JugglerStates$Scene", 62, ⟨"JugglerStates$Juggler", "isPassAt", "(I)Z"⟩, "JugglerStates"), ("JugglerStates$Scene", 71, ⟨"JugglerStates$Juggler", "expect", "(I)V"⟩, "JugglerStates"), ("JugglerStates$Scene", 74, ⟨"JugglerStates", "oneIf", "(Z)I"⟩, "JugglerStates"), ("JugglerStates$Scene", 48, ⟨"JugglerStates$Juggler", "endBeat", "()V"⟩, "JugglerStates"), ("JugglerStates", 162, ⟨"JugglerStates$Scene", "standsLike", "(LJugglerStates$Scene;)Z"⟩, "JugglerStates"), ("JugglerStates$Scene", 80, ⟨"JugglerStates$Juggler", "standsLike", "(LJugglerStates$Juggler;)Z"⟩, "JugglerStates"), ("JugglerStates", 216, ⟨"JugglerStates$History", "takeBack", "(LJugglerStates$Scene;)V"⟩, "JugglerStates"), ("JugglerStates", 166, ⟨"JugglerStates$Pattern", "learn", "(LJugglerStates$Pad;)Z"⟩, "JugglerStates"), ("JugglerStates$Pattern", 21, ⟨"JugglerStates", "isWithin", "(III)Z"⟩, "JugglerStates"), ("JugglerStates$Pattern", 25, ⟨"JugglerStates$Pad", "isHeightAt", "(I)Z"⟩, "JugglerStates"), ("JugglerStates$Pattern", 29, ⟨"JugglerStates$Pad", "digit", "(I)I"⟩, "JugglerStates"), ("JugglerStates$Pattern", 33, ⟨"JugglerStates", "setAt", "([III)V"⟩, "JugglerStates"), ("JugglerStates", 169, ⟨"JugglerStates$Pattern", "isSound", "()Z"⟩, "JugglerStates"), ("JugglerStates$Pattern", 38, ⟨"JugglerStates", "leftOver", "(II)I"⟩, "JugglerStates"), ("JugglerStates$Pattern", 42, ⟨"JugglerStates", "valueAt", "([II)I"⟩, "JugglerStates"), ("JugglerStates", 173, ⟨"JugglerStates$Pattern", "clubs", "()I"⟩, "JugglerStates"), ("JugglerStates", 174, ⟨"JugglerStates$Pattern", "startState", "()I"⟩, "JugglerStates"), ("JugglerStates", 177, ⟨"JugglerStates$Pattern", "orbits", "()I"⟩, "JugglerStates"), ("JugglerStates$Pattern", 55, ⟨"JugglerStates", "has", "(II)Z"⟩, "JugglerStates"), ("JugglerStates", 180, ⟨"JugglerStates$Pattern", "orbitThrough", "(I)I"⟩, "JugglerStates"), ("JugglerStates", 183, ⟨"JugglerStates$Pattern", "period", "()I"⟩, "JugglerStates"), ("JugglerStates", 193, ⟨"JugglerStates$Ways", "searchFrom", "(I)V"⟩, "JugglerStates"), ("JugglerStates$Ways", 38, ⟨"JugglerStates", "valueAt", "([II)I"⟩, "JugglerStates"), ("JugglerStates$Ways", 61, ⟨"JugglerStates", "setAt", "([III)V"⟩, "JugglerStates"), ("JugglerStates$Ways", 46, ⟨"JugglerStates", "has", "(II)Z"⟩, "JugglerStates"), ("JugglerStates", 196, ⟨"JugglerStates$Ways", "stepsTo", "(I)I"⟩, "JugglerStates"), ("JugglerStates", 199, ⟨"JugglerStates$Ways", "firstThrowTo", "(I)I"⟩, "JugglerStates"), ("JugglerStates", 202, ⟨"JugglerStates$Ways", "lastThrowTo", "(I)I"⟩, "JugglerStates"), ("JugglerStates", 190, ⟨"JugglerStates$Pattern", "heightTurnedBack", "(I)I"⟩, "JugglerStates"), ("JugglerStates", 137, ⟨"JugglerStates$Juggler", "heightAt", "(I)I"⟩, "JugglerStates"), ("JugglerStates", 140, ⟨"JugglerStates$Juggler", "isPassAt", "(I)Z"⟩, "JugglerStates")]
def zN (U : State) : Prop := (∀ q ∈ zNf, va_Nw (.fieldLinkNest q.1 q.2.1 q.2.2.1 q.2.2.2.1 q.2.2.2.2.1 q.2.2.2.2.2) U) ∧ ∀ q ∈ zNm, va_Nw (.methodLinkNest q.1 q.2.1 q.2.2.1 q.2.2.2) U
abbrev zT (cI cR : ClassId) : List (ClassId × FieldType) := [(cI, .int), (cR, .object "JugglerStates$Scene")]
def zK (D : va_G) (cI cR : ClassId) (U : State) : Prop := va_K D vwCl (zT cI cR) U ∧ zN U
theorem zK.warm {D : va_G} {cI cR : ClassId} {s U : State} (hW : s.WarmedH U.vm) (h : zK D cI cR s) : zK D cI cR U := ⟨va_K.moved hW.alike h.1, fun q hq => va_Nw.warmF hW (h.2.1 q hq), fun q hq => va_Nw.warmM hW (h.2.2 q hq)⟩
theorem zK.calling {D : va_G} {cI cR : ClassId} {U : State} {g : JFrame} {mk : MethodId} {a : Array Value} (h : zK D cI cR U) : zK D cI cR (U.calling g mk a) := ⟨va_K.moved (u := U) (U := U.calling g mk a) (Vm.Alike.refl U.vm) h.1, fun q hq => va_Nw.same rfl rfl (h.2.1 q hq), fun q hq => va_Nw.same rfl rfl (h.2.2 q hq)⟩
/-- the end of a method: its answer, its world, and nothing else changed -/
def zQ (D : va_G) (rv : Option Value) (wc wc' : zB) (sz : Nat) : Array Value → State → Outcome → State → Prop := fun _ st oc t => (oc = .returned rv ∧ va_P D vwCl (bl wc') t.heap ∧ va_D (va_A (bl wc) sz) (bl wc')) ∧ va_F (va_A (bl wc) sz) st t
def zPc (D : va_G) (cI cR : ClassId) (As : List Value) (wc : zB) (sz : Nat) : Array Value → State → Prop := va_Pc As (fun U => U.heap.size = sz ∧ va_P D vwCl (bl wc) U.heap ∧ zK D cI cR U ∧ va_D (fun _ => True) (bl wc))
/-- a method that makes no cell: from As and the blocks wc it answers rv and leaves the blocks wc' -/
def zM (l : Launch) (D : va_G) (cI cR : ClassId) (y : MethodName) (cc : ByteArray) (maxL : Nat) (ret : Option FieldType) (fr lo : Nat) (As : List Value) (wc : zB) (rv : Option Value) (wc' : zB) : Prop :=
  ∀ sz : Nat, Met l y (zWs y cc maxL ret) ({ frames := fr, cells := 0, slots := 0, locals := lo }) (zPc D cI cR As wc sz) (zQ D rv wc wc' sz) 0 0 (va_A (bl wc) sz)
theorem zPc.blind {D : va_G} {cI cR : ClassId} {As : List Value} {wc : zB} {sz : Nat} : FrameBlind (zPc D cI cR As wc sz) := fun a U g mk h => ⟨h.1, h.2.1, h.2.2.1, h.2.2.2.1.calling, h.2.2.2.2⟩
abbrev zX (p : Program) (s : State) (m : MethodId) (c : Code) (cc : ByteArray) (nL : Nat) (args : Array Value) (own : String) (D : va_G) (cI cR : ClassId) (A : Nat → Prop) : Prop := CallFix p m c cc nL s args zAll own ∧ zK D cI cR s ∧ (∀ q : Nat, s.heap.size ≤ q → A q)
def zW (D : va_G) (A : Nat → Prop) (s : State) (bs : zB) (H : Heap) (locs : List Loc) : Prop := va_P D vwCl (bl bs) H ∧ va_D A (bl bs) ∧ va_S A s.heap H locs
def zE (D : va_G) (A : Nat → Prop) (below : List Frame) (s : State) (args : Array Value) (rv : Option Value) (wc' : zB) : State → Prop := MQ below (fun _ st oc t => (oc = .returned rv ∧ va_P D vwCl (bl wc') t.heap ∧ va_D A (bl wc')) ∧ va_F A st t) args s 0 0 A
set_option maxHeartbeats 4000000 in
theorem z_of {l : Launch} {D : va_G} {cI cR : ClassId} {y : MethodName} {cc : ByteArray} {maxL : Nat} {ret : Option FieldType} {fr lo : Nat} {As : List Value} {wc wc' : zB} {rv : Option Value} {own : String} (ho : y.cls = own) (hy : plainName y.cls = true) (hn : (lg_sl As).length ≤ maxL)
    (body : ∀ (p : Program) (e : Env) (s : State) (m : MethodId) (args : Array Value) (below : List Frame) (meth : Method) (c : Code) (A : Nat → Prop) (ls : Array Slot), zX p s m c cc maxL args own D cI cR A → meth.sig.returnType = ret → meth.locks = false → zW D A s wc s.heap [] → lv_has ls maxL (lv_args 0 As) →
      W p l e ({ frames := fr, cells := 0, slots := 0, locals := lo } : Room) s m args below meth c s.heap [] 0 0 (zE D A below s args rv wc') (F0 m 0 ls [])) : zM l D cI cR y cc maxL ret fr lo As wc rv wc' := by
  intro sz
  refine Met.ofW (cc := cc) (maxL := maxL) (ret := ret) hy rfl ?_
  intro p e s m args below meth c s₁ B hml hv
  obtain ⟨rfl, hsz, hP, hK, hD0⟩ := hv
  subst hsz
  have hts := atoms_spec (ws := zWs y cc maxL ret) B.pre
  have hx := B.exec
  have hb := B.bytes
  have hr := B.returns
  have hown : s.vm.findClass y.cls = some m.cls := findClass_of_methodNamed B.named
  rw [ho] at hown
  have hlocks := B.notSynchronized
  have hD := hD0.self (sz := s.heap.size)
  have hl := lv_entry As (n := maxL) hn
  rw [lg_entry_eq]
  generalize (lg_sl As ++ List.replicate (maxL - (lg_sl As).length) Slot.unset).toArray = ls at hl ⊢
  exact body p e s m _ below meth c (va_A (bl wc) s.heap.size) ls ⟨⟨hx, hb, hml, hown, fun w hw => hts w (List.mem_cons_of_mem _ hw)⟩, hK, fun q h => Or.inr h⟩ hr hlocks ⟨hP, hD, va_S.rf⟩ hl
section ZR
variable {p : Program} {l : Launch} {e : Env} {R : Room} {s : State} {m : MethodId} {args : Array Value} {below : List Frame} {meth : Method} {c : Code} {H : Heap} {locs : List Loc} {cells slots : Nat} {Q : State → Prop}
variable {cc : ByteArray} {nL : Nat} {own : String} {D : va_G} {cI cR : ClassId} {A : Nat → Prop} {bs wc' : zB} {pc : Nat} {ls : Array Slot} {rest : List Value}
theorem z_iret {v : Int32} (X : zX p s m c cc nL args own D cI cR A) (hr : meth.sig.returnType = some .int) (hlocks : meth.locks = false) (Z : zW D A s wc' H locs) (hdg : decode cc pc = .ok (.ireturn, 1)) : W p l e R s m args below meth c H locs 0 0 (zE D A below s args (some (.int v)) wc') (F0 m pc ls [.int v]) :=
  W.iret X.1.1 X.1.2.1 hr (fun t ht hW => ⟨⟨rfl, by rw [ht]; exact Z.1, Z.2.1⟩, Z.2.2.F ht⟩) Z.2.2.2.2 hdg hlocks
theorem z_zret {v : Int32} (X : zX p s m c cc nL args own D cI cR A) (hr : meth.sig.returnType = some .boolean) (hlocks : meth.locks = false) (hv : v = 0 ∨ v = 1) (Z : zW D A s wc' H locs) (hdg : decode cc pc = .ok (.ireturn, 1)) : W p l e R s m args below meth c H locs 0 0 (zE D A below s args (some (.int v)) wc') (F0 m pc ls [.int v]) :=
  W.zret X.1.1 X.1.2.1 hr (by rcases hv with rfl | rfl <;> rfl) (fun t ht hW => ⟨⟨rfl, by rw [ht]; exact Z.1, Z.2.1⟩, Z.2.2.F ht⟩) Z.2.2.2.2 hdg hlocks
theorem z_vret (X : zX p s m c cc nL args own D cI cR A) (hr : meth.sig.returnType = none) (hlocks : meth.locks = false) (Z : zW D A s wc' H locs) (hdg : decode cc pc = .ok (.return_, 1)) : W p l e R s m args below meth c H locs 0 0 (zE D A below s args none wc') (F0 m pc ls []) :=
  W.vret X.1.1 X.1.2.1 hr (fun t ht hW => ⟨⟨rfl, by rw [ht]; exact Z.1, Z.2.1⟩, Z.2.2.F ht⟩) Z.2.2.2.2 hdg hlocks
theorem z_aret {v : Value} {C : String} (X : zX p s m c cc nL args own D cI cR A) (hr : meth.sig.returnType = some (.object C)) (hlocks : meth.locks = false) (hv : v = .null ∨ ∃ a, v = .ref a) (Z : zW D A s wc' H locs) (hdg : decode cc pc = .ok (.areturn, 1)) : W p l e R s m args below meth c H locs 0 0 (zE D A below s args (some v) wc') (F0 m pc ls [v]) :=
  W.aret X.1.1 X.1.2.1 hr (Or.inl ⟨C, rfl⟩) hv (fun t ht hW => ⟨⟨rfl, by rw [ht]; exact Z.1, Z.2.1⟩, Z.2.2.F ht⟩) Z.2.2.2.2 hdg hlocks
end ZR
section ZC
variable {p : Program} {l : Launch} {e : Env} {R : Room} {s : State} {m : MethodId} {args : Array Value} {below : List Frame} {meth : Method} {c : Code} {H : Heap} {locs : List Loc} {cells slots : Nat} {Q : State → Prop}
variable {cc : ByteArray} {nL : Nat} {own : String} {D : va_G} {cI cR : ClassId} {A : Nat → Prop} {bs bs' wc wc' : zB} {pc : Nat} {ls : Array Slot} {rest st0 : List Value} {rv : Option Value}
theorem z_cut {isC isR : List Nat} (hp : (isC ++ isR).Perm (List.range bs.length)) (hC : isC.map (fun i => bs[i]?) = wc.map some) : ∃ rr : zB, bs.Perm (wc ++ rr) ∧ isR.map (fun i => bs[i]?) = rr.map some := by
  have hb : ∀ i ∈ isR, i < bs.length := fun i hi => List.mem_range.mp (hp.subset (List.mem_append_right _ hi))
  have hRs : isR.map (fun i => bs[i]?) = (isR.filterMap (fun i => bs[i]?)).map some := by
    clear hp
    induction isR with
    | nil => rfl
    | cons i is ih =>
      have h1 := hb i List.mem_cons_self
      rw [List.map_cons, List.filterMap_cons, List.getElem?_eq_getElem h1]
      simp only [List.map_cons]
      rw [ih (fun j hj => hb j (List.mem_cons_of_mem _ hj))]
  exact ⟨_, z_perm (isC ++ isR) hp (by rw [List.map_append, List.map_append, hC, hRs]), hRs⟩
theorem z_flat {b1 b2 b3 : zB} (h : b1.Perm (b2 ++ b3)) : (bl b1).Perm (bl b2 ++ bl b3) := by
  have := h.flatten
  rw [List.flatten_append] at this
  exact this
theorem zW.pre {rr : zB} (X : zX p s m c cc nL args own D cI cR A) {As : List Value} (Z : zW D A s bs H locs) (hp : bs.Perm (wc ++ rr)) : ∀ U : State, U.heap = H → s.WarmedH U.vm → zPc D cI cR As wc H.size As.toArray U := by
  intro U hU hW
  have f1 := z_flat hp
  refine ⟨rfl, by rw [hU], ?_, X.2.1.warm hW, ?_⟩
  · rw [hU, zP_mem]
    exact fun q hq => zP_mem.mp Z.1 q (f1.mem_iff.mpr (List.mem_append_left _ hq))
  · have h1 := (zD_iff.mp Z.2.1).1
    have n1 : ((bl wc ++ bl rr).map Prod.fst).Nodup := (f1.map Prod.fst).nodup_iff.mp h1
    rw [List.map_append, List.nodup_append] at n1
    exact zD_iff.mpr ⟨n1.1, fun _ _ => trivial⟩
/-- behind a call: the callee's blocks as it leaves them, the others as they were -/
theorem z_run {a : Array Value} {isC isR : List Nat} {rr : zB} (X : zX p s m c cc nL args own D cI cR A) (Z : zW D A s bs H locs) (hr : va_Run p l e R s m args below meth c H locs cells slots 0 0 (F0 m pc ls st0) rest (zQ D rv wc wc' H.size a) (va_A (bl wc) H.size))
    (p1 : bs.Perm (wc ++ rr)) (hrr : isR.map (fun i => bs[i]?) = rr.map some) (hp : (isC ++ isR).Perm (List.range bs.length)) (hC' : isC.map (fun i => bs'[i]?) = wc'.map some) (hR : isR.map (fun i => bs'[i]?) = isR.map (fun i => bs[i]?)) (hl : bs'.length = bs.length)
    (kk : ∀ (H1 : Heap) (locs1 : List Loc), zW D A s bs' H1 locs1 → W p l e R s m args below meth c H1 locs1 cells slots Q (F0 m (pc + 3) ls (rv.toList ++ rest))) : W p l e R s m args below meth c H locs cells slots Q (F0 m pc ls st0) := by
  intro T hT Xs
  obtain ⟨v, st₀, t, T', L, h0, X', hL, e1, e2, ⟨⟨hv, hP1, hD1⟩, hz, hk⟩, st⟩ := hr T hT Xs
  cases hv
  rw [h0] at hz hk
  have hA : ∀ q : Nat, H.size ≤ q → A q := fun q h => X.2.2 q (Nat.le_trans Z.2.2.1 h)
  have p2 : bs'.Perm (wc' ++ rr) := z_perm (isC ++ isR) (by rw [hl]; exact hp) (by rw [List.map_append, List.map_append, hC', hR, hrr])
  have hF : ∀ q : Nat, va_A (bl wc) H.size q → A q := by
    intro q hq
    rcases zA_iff.mp hq with ⟨e, he⟩ | he
    · exact (zD_iff.mp Z.2.1).2 (q, e) ((z_flat p1).mem_iff.mpr (List.mem_append_left _ he))
    · exact hA q he
  obtain ⟨j1, j2⟩ := z_join Z.1 Z.2.1 p1 p2 hk hA hP1 hD1
  obtain ⟨t2, a1, b1⟩ := kk T'.heap (locs ++ L) ⟨by rw [e1]; exact j1, j2, Nat.le_trans Z.2.2.1 (by rw [e1]; exact hz), fun q h1 h2 => by rw [e1, hk q (Nat.lt_of_lt_of_le h1 Z.2.2.1) (fun z => h2 (hF q z))]; exact Z.2.2.2.1 q h1 h2, fun q hq => by
      rcases List.mem_append.mp hq with h | h
      · exact Z.2.2.2.2 q h
      · exact hF _ (hL q h)⟩ T' rfl X'
  exact ⟨t2, st t2 a1, b1⟩
variable {y : MethodName} {bytes : ByteArray} {maxL fr lo n index : Nat} {ret : Option FieldType} {C host : String} {b : Nat} {As : List Value}
theorem z_callV (X : zX p s m c cc nL args own D cI cR A) (Z : zW D A s bs H locs) (hM : zM l D cI cR y bytes maxL ret fr lo (.ref b :: As) wc rv wc') (cw : CallW R s args own C index y bytes maxL ret (zWs y bytes maxL ret) { frames := fr, cells := 0, slots := 0, locals := lo } 0 0 n)
    (q0 ci : Nat) {fs : List Value} {r : vw_C} (hrec : (bl bs)[q0]? = some (b, .inr (ci, fs))) (hcl : vwCl[ci]? = some r) (hC0 : r.1 = C) (isC isR : List Nat) (bs' : zB) (hp : (isC ++ isR).Perm (List.range bs.length)) (hC : isC.map (fun i => bs[i]?) = wc.map some) (hC' : isC.map (fun i => bs'[i]?) = wc'.map some) (hR : isR.map (fun i => bs'[i]?) = isR.map (fun i => bs[i]?)) (hl : bs'.length = bs.length)
    (hn : As.length = n) (hsz : ls.size = nL) (hst : st0 = As.reverse ++ .ref b :: rest) (hW8 : (rest.map fun v => v.category).sum ≤ 8) (hdg : decode cc pc = .ok (.invokevirtual index, 3)) (hf : cells ≤ R.cells ∧ slots ≤ R.slots)
    (kk : ∀ (H1 : Heap) (locs1 : List Loc), zW D A s bs' H1 locs1 → W p l e R s m args below meth c H1 locs1 cells slots Q (F0 m (pc + 3) ls (rv.toList ++ rest))) : W p l e R s m args below meth c H locs cells slots Q (F0 m pc ls st0) := by
  subst hC0
  obtain ⟨rr, p1, hrr⟩ := z_cut (wc := wc) hp hC
  exact z_run (isC := isC) (isR := isR) X Z (va_runV (g := F0 m pc ls st0) X.1 (hM H.size) cw ⟨zPc.blind, va_recv X.2.1.1 Z.1 hcl hrec, Z.pre X p1⟩ rfl hn hsz hst (lv_room hW8) hdg hf) p1 hrr hp hC' hR hl kk
theorem z_callVN (X : zX p s m c cc nL args own D cI cR A) (Z : zW D A s bs H locs) (hM : zM l D cI cR y bytes maxL ret fr lo (.ref b :: As) wc rv wc') (cw : va_CN R s args own index y host bytes maxL ret (zWs y bytes maxL ret) { frames := fr, cells := 0, slots := 0, locals := lo } 0 0 n ∧ (Cond.instanceMethod y).before args s = true ∧ (Cond.selects C y y).before args s = true)
    (q0 ci : Nat) {fs : List Value} {r : vw_C} (hrec : (bl bs)[q0]? = some (b, .inr (ci, fs))) (hcl : vwCl[ci]? = some r) (hC0 : r.1 = C) (isC isR : List Nat) (bs' : zB) (hp : (isC ++ isR).Perm (List.range bs.length)) (hC : isC.map (fun i => bs[i]?) = wc.map some) (hC' : isC.map (fun i => bs'[i]?) = wc'.map some) (hR : isR.map (fun i => bs'[i]?) = isR.map (fun i => bs[i]?)) (hl : bs'.length = bs.length)
    (hn : As.length = n) (hsz : ls.size = nL) (hst : st0 = As.reverse ++ .ref b :: rest) (hW8 : (rest.map fun v => v.category).sum ≤ 8) (hdg : decode cc pc = .ok (.invokevirtual index, 3)) (hf : cells ≤ R.cells ∧ slots ≤ R.slots)
    (kk : ∀ (H1 : Heap) (locs1 : List Loc), zW D A s bs' H1 locs1 → W p l e R s m args below meth c H1 locs1 cells slots Q (F0 m (pc + 3) ls (rv.toList ++ rest))) : W p l e R s m args below meth c H locs cells slots Q (F0 m pc ls st0) := by
  subst hC0
  obtain ⟨rr, p1, hrr⟩ := z_cut (wc := wc) hp hC
  exact z_run (isC := isC) (isR := isR) X Z (va_runVN (g := F0 m pc ls st0) X.1 (hM H.size) cw ⟨zPc.blind, va_recv X.2.1.1 Z.1 hcl hrec, Z.pre X p1⟩ rfl hn hsz hst (lv_room hW8) hdg hf) p1 hrr hp hC' hR hl kk
theorem z_callS (X : zX p s m c cc nL args own D cI cR A) (Z : zW D A s bs H locs) (hM : zM l D cI cR y bytes maxL ret fr lo As wc rv wc') (cw : CallB R s args own index y bytes maxL ret (zWs y bytes maxL ret) { frames := fr, cells := 0, slots := 0, locals := lo } 0 0 n ∧ (Cond.static y).before args s = true)
    (isC isR : List Nat) (bs' : zB) (hp : (isC ++ isR).Perm (List.range bs.length)) (hC : isC.map (fun i => bs[i]?) = wc.map some) (hC' : isC.map (fun i => bs'[i]?) = wc'.map some) (hR : isR.map (fun i => bs'[i]?) = isR.map (fun i => bs[i]?)) (hl : bs'.length = bs.length)
    (hn : As.length = n) (hsz : ls.size = nL) (hst : st0 = As.reverse ++ rest) (hW8 : (rest.map fun v => v.category).sum ≤ 8) (hdg : decode cc pc = .ok (.invokestatic index, 3)) (hf : cells ≤ R.cells ∧ slots ≤ R.slots)
    (kk : ∀ (H1 : Heap) (locs1 : List Loc), zW D A s bs' H1 locs1 → W p l e R s m args below meth c H1 locs1 cells slots Q (F0 m (pc + 3) ls (rv.toList ++ rest))) : W p l e R s m args below meth c H locs cells slots Q (F0 m pc ls st0) := by
  obtain ⟨rr, p1, hrr⟩ := z_cut (wc := wc) hp hC
  exact z_run (isC := isC) (isR := isR) X Z (va_runS (g := F0 m pc ls st0) X.1 (hM H.size) cw ⟨zPc.blind, Z.pre X p1⟩ rfl hn hsz hst (lv_room hW8) hdg hf) p1 hrr hp hC' hR hl kk
theorem z_callSN (X : zX p s m c cc nL args own D cI cR A) (Z : zW D A s bs H locs) (hM : zM l D cI cR y bytes maxL ret fr lo As wc rv wc') (cw : va_CN R s args own index y host bytes maxL ret (zWs y bytes maxL ret) { frames := fr, cells := 0, slots := 0, locals := lo } 0 0 n ∧ (Cond.static y).before args s = true ∧ True)
    (isC isR : List Nat) (bs' : zB) (hp : (isC ++ isR).Perm (List.range bs.length)) (hC : isC.map (fun i => bs[i]?) = wc.map some) (hC' : isC.map (fun i => bs'[i]?) = wc'.map some) (hR : isR.map (fun i => bs'[i]?) = isR.map (fun i => bs[i]?)) (hl : bs'.length = bs.length)
    (hn : As.length = n) (hsz : ls.size = nL) (hst : st0 = As.reverse ++ rest) (hW8 : (rest.map fun v => v.category).sum ≤ 8) (hdg : decode cc pc = .ok (.invokestatic index, 3)) (hf : cells ≤ R.cells ∧ slots ≤ R.slots)
    (kk : ∀ (H1 : Heap) (locs1 : List Loc), zW D A s bs' H1 locs1 → W p l e R s m args below meth c H1 locs1 cells slots Q (F0 m (pc + 3) ls (rv.toList ++ rest))) : W p l e R s m args below meth c H locs cells slots Q (F0 m pc ls st0) := by
  obtain ⟨rr, p1, hrr⟩ := z_cut (wc := wc) hp hC
  exact z_run (isC := isC) (isR := isR) X Z (va_runSN (g := F0 m pc ls st0) X.1 (hM H.size) cw ⟨zPc.blind, Z.pre X p1⟩ rfl hn hsz hst (lv_room hW8) hdg hf) p1 hrr hp hC' hR hl kk
-- words of a call
theorem zwB {fr lo : Nat} (ht : ∀ w ∈ zAll, w.before args s = true) (n : Nat) (hc : Cond.code y bytes maxL ret ∈ zAll) (hini : Cond.initialized y.cls ∈ zAll) (hl : Cond.methodLink own index y ∈ zAll) (hd : y.cls ≠ "java/lang/invoke/MethodHandle" ∧ y.cls ≠ "java/lang/invoke/VarHandle" ∧ (parseMethodDescriptor y.desc).map (fun d => d.parameters.length) = some n) (hR : fr + 1 ≤ R.frames ∧ 8 + (maxL + 11) + lo ≤ R.locals) :
    CallB R s args own index y bytes maxL ret (zWs y bytes maxL ret) { frames := fr, cells := 0, slots := 0, locals := lo } 0 0 n :=
  callB_of n ht (zGood hc) rfl rfl rfl (ht _ hini) (ht _ hl) hd hR
theorem zwN {fr lo : Nat} (hK : zK D cI cR s) (ht : ∀ w ∈ zAll, w.before args s = true) (n : Nat) (hc : Cond.code y bytes maxL ret ∈ zAll) (hini : Cond.initialized y.cls ∈ zAll) (hl : (own, index, y, host) ∈ zNm) (hd : y.cls ≠ "java/lang/invoke/MethodHandle" ∧ y.cls ≠ "java/lang/invoke/VarHandle" ∧ (parseMethodDescriptor y.desc).map (fun d => d.parameters.length) = some n) (hR : fr + 1 ≤ R.frames ∧ 8 + (maxL + 11) + lo ≤ R.locals) :
    va_CN R s args own index y host bytes maxL ret (zWs y bytes maxL ret) { frames := fr, cells := 0, slots := 0, locals := lo } 0 0 n :=
  va_cnB n ht (zGood hc) rfl rfl rfl (hK.2.2 _ hl) (ht _ hini) hd hR
end ZC
section ZF
variable {p : Program} {l : Launch} {e : Env} {R : Room} {s : State} {m : MethodId} {args : Array Value} {below : List Frame} {meth : Method} {c : Code} {H : Heap} {locs : List Loc} {cells slots : Nat} {Q : State → Prop}
variable {cc : ByteArray} {nL : Nat} {own : String} {D : va_G} {cI cR : ClassId} {A : Nat → Prop} {bs bs' : zB} {pc : Nat} {ls : Array Slot} {rest : List Value} {a : Nat}
theorem zW.eq (Z : zW D A s bs H locs) (h : bl bs = bl bs') : zW D A s bs' H locs := by
  unfold zW at Z ⊢
  rw [← h]
  exact Z
theorem z_iald {n : Nat} {f : Nat → Int32} {i v : Int32} (X : zX p s m c cc nL args own D cI cR A) (Z : zW D A s bs H locs) (q0 : Nat) (ha : (bl bs)[q0]? = some (a, .inl (cI, n, .inl f))) (hin : ¬ (i < 0 ∨ n ≤ i.toNatClampNeg)) (hv : f i.toNatClampNeg = v) (hdg : decode cc pc = .ok (.iaload, 1))
    (kk : W p l e R s m args below meth c H locs cells slots Q (F0 m (pc + 1) ls (.int v :: rest))) : W p l e R s m args below meth c H locs cells slots Q (F0 m pc ls (.int i :: .ref a :: rest)) := by
  subst hv
  exact va_iald X.1.1 X.1.2.1 X.2.1.1 Z.1 q0 0 ha rfl hin hdg kk
theorem z_iast {n : Nat} {f : Nat → Int32} {i x : Int32} (X : zX p s m c cc nL args own D cI cR A) (Z : zW D A s bs H locs) (q0 : Nat) (ha : (bl bs)[q0]? = some (a, .inl (cI, n, .inl f))) (hin : ¬ (i < 0 ∨ n ≤ i.toNatClampNeg)) (bs' : zB) (hb : (bl bs).set q0 (a, .inl (cI, n, .inl (upd f i.toNatClampNeg x))) = bl bs') (hdg : decode cc pc = .ok (.iastore, 1))
    (kk : ∀ (H1 : Heap) (locs1 : List Loc), zW D A s bs' H1 locs1 → W p l e R s m args below meth c H1 locs1 cells slots Q (F0 m (pc + 1) ls rest)) : W p l e R s m args below meth c H locs cells slots Q (F0 m pc ls (.int x :: .int i :: .ref a :: rest)) :=
  va_iast X.1.1 X.1.2.1 X.2.1.1 Z.1 Z.2.1 Z.2.2 q0 0 ha rfl hin hdg (fun H1 locs1 hP hD hS => kk H1 locs1 ⟨by rw [← hb]; exact hP, by rw [← hb]; exact hD, hS⟩)
theorem z_alen {x : vp_A} {v : Int32} (X : zX p s m c cc nL args own D cI cR A) (Z : zW D A s bs H locs) (q0 : Nat) (ha : (bl bs)[q0]? = some (a, .inl (cI, x))) (hv : Int32.ofNat x.1 = v) (hdg : decode cc pc = .ok (.arraylength, 1))
    (kk : W p l e R s m args below meth c H locs cells slots Q (F0 m (pc + 1) ls (.int v :: rest))) : W p l e R s m args below meth c H locs cells slots Q (F0 m pc ls (.ref a :: rest)) :=
  va_alen X.1.1 X.1.2.1 X.2.1.1 Z.1 q0 0 ha rfl hv hdg kk
theorem z_alenR {x : vp_A} {v : Int32} (X : zX p s m c cc nL args own D cI cR A) (Z : zW D A s bs H locs) (q0 : Nat) (ha : (bl bs)[q0]? = some (a, .inl (cR, x))) (hv : Int32.ofNat x.1 = v) (hdg : decode cc pc = .ok (.arraylength, 1))
    (kk : W p l e R s m args below meth c H locs cells slots Q (F0 m (pc + 1) ls (.int v :: rest))) : W p l e R s m args below meth c H locs cells slots Q (F0 m pc ls (.ref a :: rest)) :=
  va_alen X.1.1 X.1.2.1 X.2.1.1 Z.1 q0 1 ha rfl hv hdg kk
theorem z_get {C : String} {T : u_T} {N ci k index : Nat} {fs : List Value} {v : Value} (X : zX p s m c cc nL args own D cI cR A) (Z : zW D A s bs H locs) (hin : ∀ w ∈ u_ws C T N, w ∈ zAll) (hc : vwCl[ci]? = some (C, T, N)) (hk : k < N) (hT : (T k).1 = C) (hlink : Cond.fieldLink own index C (T k).2.1 (T k).2.2.1 ∈ zAll) (q0 : Nat) (he : (bl bs)[q0]? = some (a, .inr (ci, fs))) (hv : fs[k]? = some v) (hdg : decode cc pc = .ok (.getfield index, 3))
    (kk : W p l e R s m args below meth c H locs cells slots Q (F0 m (pc + 3) ls (v :: rest))) : W p l e R s m args below meth c H locs cells slots Q (F0 m pc ls (.ref a :: rest)) :=
  va_get (own := own) (ref := C) X.1.1 X.1.2.1 X.1.2.2.2.2 hin X.1.2.2.2.1 X.2.1.1 Z.1 q0 he hc k hk (X.1.2.2.2.2 _ hlink) (fun x h => by rw [hT] at h; exact h) hv hdg kk
theorem z_getN {C host : String} {T : u_T} {N ci k index : Nat} {fs : List Value} {v : Value} (X : zX p s m c cc nL args own D cI cR A) (Z : zW D A s bs H locs) (hin : ∀ w ∈ u_ws C T N, w ∈ zAll) (hc : vwCl[ci]? = some (C, T, N)) (hk : k < N) (hT : (T k).1 = C) (hlink : (own, index, C, (T k).2.1, (T k).2.2.1, host) ∈ zNf) (q0 : Nat) (he : (bl bs)[q0]? = some (a, .inr (ci, fs))) (hv : fs[k]? = some v) (hdg : decode cc pc = .ok (.getfield index, 3))
    (kk : W p l e R s m args below meth c H locs cells slots Q (F0 m (pc + 3) ls (v :: rest))) : W p l e R s m args below meth c H locs cells slots Q (F0 m pc ls (.ref a :: rest)) :=
  va_getN (own := own) (ref := C) (host := host) X.1.1 X.1.2.1 X.1.2.2.2.2 hin X.1.2.2.2.1 X.2.1.1 Z.1 q0 he hc k hk (va_Nw.use rfl (X.2.1.2.1 _ hlink)) (fun x h => by rw [hT] at h; exact h) hv hdg kk
theorem z_put {C : String} {T : u_T} {N ci k index : Nat} {fs : List Value} {v : Value} {ty : FieldType} (ty0 : Nat → FieldType) (X : zX p s m c cc nL args own D cI cR A) (Z : zW D A s bs H locs) (hin : ∀ w ∈ u_ws C T N, w ∈ zAll) (hty : ∀ k, k < N → parseFieldDescriptor (T k).2.2.1 = some (ty0 k)) (hnm : ∀ a, a < N → ∀ b, b < N → a ≠ b → (T a).2.1 ≠ (T b).2.1) (hc : vwCl[ci]? = some (C, T, N)) (hk : k < N) (hT : (T k).1 = C) (hfin : (T k).2.2.2 = false) (hd : parseFieldDescriptor (T k).2.2.1 = some ty) (hlink : Cond.fieldLink own index C (T k).2.1 (T k).2.2.1 ∈ zAll)
    (hn : narrow ty v = v) (hfit : fits ty v = true) (q0 : Nat) (he : (bl bs)[q0]? = some (a, .inr (ci, fs))) (hl : k < fs.length) (bs' : zB) (hb : (bl bs).set q0 (a, .inr (ci, fs.set k v)) = bl bs') (hdg : decode cc pc = .ok (.putfield index, 3))
    (kk : ∀ (H1 : Heap) (locs1 : List Loc), zW D A s bs' H1 locs1 → W p l e R s m args below meth c H1 locs1 cells slots Q (F0 m (pc + 3) ls rest)) : W p l e R s m args below meth c H locs cells slots Q (F0 m pc ls (v :: .ref a :: rest)) :=
  va_put (own := own) (ref := C) X.1.1 X.1.2.1 X.1.2.2.2.2 hin ty0 hty hnm X.1.2.2.2.1 X.2.1.1 Z.1 Z.2.1 Z.2.2 q0 he hc k hk (X.1.2.2.2.2 _ hlink) (fun x h => by rw [hT] at h; exact h) hfin hd hn hfit hl hdg (fun H1 locs1 hP hD hS => kk H1 locs1 ⟨by rw [← hb]; exact hP, by rw [← hb]; exact hD, hS⟩)
theorem z_putN {C host : String} {T : u_T} {N ci k index : Nat} {fs : List Value} {v : Value} {ty : FieldType} (ty0 : Nat → FieldType) (X : zX p s m c cc nL args own D cI cR A) (Z : zW D A s bs H locs) (hin : ∀ w ∈ u_ws C T N, w ∈ zAll) (hty : ∀ k, k < N → parseFieldDescriptor (T k).2.2.1 = some (ty0 k)) (hnm : ∀ a, a < N → ∀ b, b < N → a ≠ b → (T a).2.1 ≠ (T b).2.1) (hc : vwCl[ci]? = some (C, T, N)) (hk : k < N) (hT : (T k).1 = C) (hfin : (T k).2.2.2 = false) (hd : parseFieldDescriptor (T k).2.2.1 = some ty) (hlink : (own, index, C, (T k).2.1, (T k).2.2.1, host) ∈ zNf)
    (hn : narrow ty v = v) (hfit : fits ty v = true) (q0 : Nat) (he : (bl bs)[q0]? = some (a, .inr (ci, fs))) (hl : k < fs.length) (bs' : zB) (hb : (bl bs).set q0 (a, .inr (ci, fs.set k v)) = bl bs') (hdg : decode cc pc = .ok (.putfield index, 3))
    (kk : ∀ (H1 : Heap) (locs1 : List Loc), zW D A s bs' H1 locs1 → W p l e R s m args below meth c H1 locs1 cells slots Q (F0 m (pc + 3) ls rest)) : W p l e R s m args below meth c H locs cells slots Q (F0 m pc ls (v :: .ref a :: rest)) :=
  va_putN (own := own) (ref := C) (host := host) X.1.1 X.1.2.1 X.1.2.2.2.2 hin ty0 hty hnm X.1.2.2.2.1 X.2.1.1 Z.1 Z.2.1 Z.2.2 q0 he hc k hk (va_Nw.use rfl (X.2.1.2.1 _ hlink)) (fun x h => by rw [hT] at h; exact h) hfin hd hn hfit hl hdg (fun H1 locs1 hP hD hS => kk H1 locs1 ⟨by rw [← hb]; exact hP, by rw [← hb]; exact hD, hS⟩)
end ZF
