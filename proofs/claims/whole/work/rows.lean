section
-- ===== PART A: goes FIRST, ahead of the names: the tables' words, and 'selects' of the private methods out of them =====
/-- a private method of a class that the tables say can be made, by its rows of tables_1 -/
def lw_okq (q : MethodName × Nat) : Prop := (q.1.cls ≠ "java/lang/invoke/MethodHandle" ∧ q.1.cls ≠ "java/lang/invoke/VarHandle") ∧ Cond.instantiable q.1.cls q.2 ∈ tables_1 ∧ Cond.privateMethod q.1 ∈ tables_1 ∧ Cond.instanceMethod q.1 ∈ tables_1
theorem lw_p0 : lw_okq (⟨"JugglerStates$Scene", "clubs", "()I"⟩, 6) := ⟨⟨by decide +kernel, by decide +kernel⟩, List.mem_of_getElem? (i := 22) (by decide +kernel), List.mem_of_getElem? (i := 209) (by decide +kernel), List.mem_of_getElem? (i := 210) (by decide +kernel)⟩
theorem lw_p1 : lw_okq (⟨"JugglerStates$Juggler", "clubs", "()I"⟩, 7) := ⟨⟨by decide +kernel, by decide +kernel⟩, List.mem_of_getElem? (i := 28) (by decide +kernel), List.mem_of_getElem? (i := 213) (by decide +kernel), List.mem_of_getElem? (i := 214) (by decide +kernel)⟩
theorem lw_p2 : lw_okq (⟨"JugglerStates$History", "record", "(LJugglerStates$Scene;)V"⟩, 3) := ⟨⟨by decide +kernel, by decide +kernel⟩, List.mem_of_getElem? (i := 140) (by decide +kernel), List.mem_of_getElem? (i := 223) (by decide +kernel), List.mem_of_getElem? (i := 224) (by decide +kernel)⟩
theorem lw_p3 : lw_okq (⟨"JugglerStates$History", "latest", "()LJugglerStates$Scene;"⟩, 3) := ⟨⟨by decide +kernel, by decide +kernel⟩, List.mem_of_getElem? (i := 140) (by decide +kernel), List.mem_of_getElem? (i := 233) (by decide +kernel), List.mem_of_getElem? (i := 234) (by decide +kernel)⟩
theorem lw_p4 : lw_okq (⟨"JugglerStates$Scene", "become", "(LJugglerStates$Scene;)V"⟩, 6) := ⟨⟨by decide +kernel, by decide +kernel⟩, List.mem_of_getElem? (i := 22) (by decide +kernel), List.mem_of_getElem? (i := 237) (by decide +kernel), List.mem_of_getElem? (i := 238) (by decide +kernel)⟩
theorem lw_p5 : lw_okq (⟨"JugglerStates$Juggler", "become", "(LJugglerStates$Juggler;)V"⟩, 7) := ⟨⟨by decide +kernel, by decide +kernel⟩, List.mem_of_getElem? (i := 28) (by decide +kernel), List.mem_of_getElem? (i := 241) (by decide +kernel), List.mem_of_getElem? (i := 242) (by decide +kernel)⟩
theorem lw_p6 : lw_okq (⟨"JugglerStates$Juggler", "heightAt", "(I)I"⟩, 7) := ⟨⟨by decide +kernel, by decide +kernel⟩, List.mem_of_getElem? (i := 28) (by decide +kernel), List.mem_of_getElem? (i := 245) (by decide +kernel), List.mem_of_getElem? (i := 246) (by decide +kernel)⟩
theorem lw_p7 : lw_okq (⟨"JugglerStates$Scene", "begin", "(II)V"⟩, 6) := ⟨⟨by decide +kernel, by decide +kernel⟩, List.mem_of_getElem? (i := 22) (by decide +kernel), List.mem_of_getElem? (i := 255) (by decide +kernel), List.mem_of_getElem? (i := 256) (by decide +kernel)⟩
theorem lw_p8 : lw_okq (⟨"JugglerStates$Juggler", "begin", "(I)V"⟩, 7) := ⟨⟨by decide +kernel, by decide +kernel⟩, List.mem_of_getElem? (i := 28) (by decide +kernel), List.mem_of_getElem? (i := 259) (by decide +kernel), List.mem_of_getElem? (i := 260) (by decide +kernel)⟩
theorem lw_p9 : lw_okq (⟨"JugglerStates$Pad", "programFault", "()I"⟩, 2) := ⟨⟨by decide +kernel, by decide +kernel⟩, List.mem_of_getElem? (i := 88) (by decide +kernel), List.mem_of_getElem? (i := 270) (by decide +kernel), List.mem_of_getElem? (i := 271) (by decide +kernel)⟩
theorem lw_p10 : lw_okq (⟨"JugglerStates$Pad", "canStand", "(II)Z"⟩, 2) := ⟨⟨by decide +kernel, by decide +kernel⟩, List.mem_of_getElem? (i := 88) (by decide +kernel), List.mem_of_getElem? (i := 274) (by decide +kernel), List.mem_of_getElem? (i := 275) (by decide +kernel)⟩
theorem lw_p11 : lw_okq (⟨"JugglerStates$Pad", "codeAt", "(I)I"⟩, 2) := ⟨⟨by decide +kernel, by decide +kernel⟩, List.mem_of_getElem? (i := 88) (by decide +kernel), List.mem_of_getElem? (i := 278) (by decide +kernel), List.mem_of_getElem? (i := 279) (by decide +kernel)⟩
theorem lw_p12 : lw_okq (⟨"JugglerStates$Pad", "isHeightAt", "(I)Z"⟩, 2) := ⟨⟨by decide +kernel, by decide +kernel⟩, List.mem_of_getElem? (i := 88) (by decide +kernel), List.mem_of_getElem? (i := 283) (by decide +kernel), List.mem_of_getElem? (i := 284) (by decide +kernel)⟩
theorem lw_p13 : lw_okq (⟨"JugglerStates$Pad", "digit", "(I)I"⟩, 2) := ⟨⟨by decide +kernel, by decide +kernel⟩, List.mem_of_getElem? (i := 88) (by decide +kernel), List.mem_of_getElem? (i := 290) (by decide +kernel), List.mem_of_getElem? (i := 291) (by decide +kernel)⟩
theorem lw_p14 : lw_okq (⟨"JugglerStates$Scene", "juggler", "(I)LJugglerStates$Juggler;"⟩, 6) := ⟨⟨by decide +kernel, by decide +kernel⟩, List.mem_of_getElem? (i := 22) (by decide +kernel), List.mem_of_getElem? (i := 295) (by decide +kernel), List.mem_of_getElem? (i := 296) (by decide +kernel)⟩
theorem lw_p15 : lw_okq (⟨"JugglerStates$Juggler", "learn", "(LJugglerStates$Pad;)V"⟩, 7) := ⟨⟨by decide +kernel, by decide +kernel⟩, List.mem_of_getElem? (i := 28) (by decide +kernel), List.mem_of_getElem? (i := 299) (by decide +kernel), List.mem_of_getElem? (i := 300) (by decide +kernel)⟩
def lw_privs_1 : List (MethodName × Nat) := [(⟨"JugglerStates$Scene", "clubs", "()I"⟩, 6), (⟨"JugglerStates$Juggler", "clubs", "()I"⟩, 7), (⟨"JugglerStates$History", "record", "(LJugglerStates$Scene;)V"⟩, 3), (⟨"JugglerStates$History", "latest", "()LJugglerStates$Scene;"⟩, 3), (⟨"JugglerStates$Scene", "become", "(LJugglerStates$Scene;)V"⟩, 6), (⟨"JugglerStates$Juggler", "become", "(LJugglerStates$Juggler;)V"⟩, 7), (⟨"JugglerStates$Juggler", "heightAt", "(I)I"⟩, 7), (⟨"JugglerStates$Scene", "begin", "(II)V"⟩, 6), (⟨"JugglerStates$Juggler", "begin", "(I)V"⟩, 7), (⟨"JugglerStates$Pad", "programFault", "()I"⟩, 2), (⟨"JugglerStates$Pad", "canStand", "(II)Z"⟩, 2), (⟨"JugglerStates$Pad", "codeAt", "(I)I"⟩, 2), (⟨"JugglerStates$Pad", "isHeightAt", "(I)Z"⟩, 2), (⟨"JugglerStates$Pad", "digit", "(I)I"⟩, 2), (⟨"JugglerStates$Scene", "juggler", "(I)LJugglerStates$Juggler;"⟩, 6), (⟨"JugglerStates$Juggler", "learn", "(LJugglerStates$Pad;)V"⟩, 7)]
theorem lw_r1 : ∀ q ∈ lw_privs_1, lw_okq q := List.forall_mem_cons.mpr ⟨lw_p0, List.forall_mem_cons.mpr ⟨lw_p1, List.forall_mem_cons.mpr ⟨lw_p2, List.forall_mem_cons.mpr ⟨lw_p3, List.forall_mem_cons.mpr ⟨lw_p4, List.forall_mem_cons.mpr ⟨lw_p5, List.forall_mem_cons.mpr ⟨lw_p6, List.forall_mem_cons.mpr ⟨lw_p7, List.forall_mem_cons.mpr ⟨lw_p8, List.forall_mem_cons.mpr ⟨lw_p9, List.forall_mem_cons.mpr ⟨lw_p10, List.forall_mem_cons.mpr ⟨lw_p11, List.forall_mem_cons.mpr ⟨lw_p12, List.forall_mem_cons.mpr ⟨lw_p13, List.forall_mem_cons.mpr ⟨lw_p14, List.forall_mem_cons.mpr ⟨lw_p15, fun _ h => absurd h List.not_mem_nil⟩⟩⟩⟩⟩⟩⟩⟩⟩⟩⟩⟩⟩⟩⟩⟩
theorem lw_p16 : lw_okq (⟨"JugglerStates$Pad", "clear", "()V"⟩, 2) := ⟨⟨by decide +kernel, by decide +kernel⟩, List.mem_of_getElem? (i := 88) (by decide +kernel), List.mem_of_getElem? (i := 305) (by decide +kernel), List.mem_of_getElem? (i := 306) (by decide +kernel)⟩
theorem lw_p17 : lw_okq (⟨"JugglerStates$Scene", "play", "(I)I"⟩, 6) := ⟨⟨by decide +kernel, by decide +kernel⟩, List.mem_of_getElem? (i := 22) (by decide +kernel), List.mem_of_getElem? (i := 314) (by decide +kernel), List.mem_of_getElem? (i := 315) (by decide +kernel)⟩
theorem lw_p18 : lw_okq (⟨"JugglerStates$Scene", "letThrow", "(LJugglerStates$Juggler;LJugglerStates$Juggler;)V"⟩, 6) := ⟨⟨by decide +kernel, by decide +kernel⟩, List.mem_of_getElem? (i := 22) (by decide +kernel), List.mem_of_getElem? (i := 318) (by decide +kernel), List.mem_of_getElem? (i := 319) (by decide +kernel)⟩
theorem lw_p19 : lw_okq (⟨"JugglerStates$Juggler", "expects", "(I)Z"⟩, 7) := ⟨⟨by decide +kernel, by decide +kernel⟩, List.mem_of_getElem? (i := 28) (by decide +kernel), List.mem_of_getElem? (i := 322) (by decide +kernel), List.mem_of_getElem? (i := 323) (by decide +kernel)⟩
theorem lw_p20 : lw_okq (⟨"JugglerStates$Juggler", "isPassAt", "(I)Z"⟩, 7) := ⟨⟨by decide +kernel, by decide +kernel⟩, List.mem_of_getElem? (i := 28) (by decide +kernel), List.mem_of_getElem? (i := 330) (by decide +kernel), List.mem_of_getElem? (i := 331) (by decide +kernel)⟩
theorem lw_p21 : lw_okq (⟨"JugglerStates$Juggler", "expect", "(I)V"⟩, 7) := ⟨⟨by decide +kernel, by decide +kernel⟩, List.mem_of_getElem? (i := 28) (by decide +kernel), List.mem_of_getElem? (i := 334) (by decide +kernel), List.mem_of_getElem? (i := 335) (by decide +kernel)⟩
theorem lw_p22 : lw_okq (⟨"JugglerStates$Juggler", "endBeat", "()V"⟩, 7) := ⟨⟨by decide +kernel, by decide +kernel⟩, List.mem_of_getElem? (i := 28) (by decide +kernel), List.mem_of_getElem? (i := 341) (by decide +kernel), List.mem_of_getElem? (i := 342) (by decide +kernel)⟩
theorem lw_p23 : lw_okq (⟨"JugglerStates$Juggler", "lose", "(I)V"⟩, 7) := ⟨⟨by decide +kernel, by decide +kernel⟩, List.mem_of_getElem? (i := 28) (by decide +kernel), List.mem_of_getElem? (i := 356) (by decide +kernel), List.mem_of_getElem? (i := 357) (by decide +kernel)⟩
theorem lw_p24 : lw_okq (⟨"JugglerStates$Scene", "standsLike", "(LJugglerStates$Scene;)Z"⟩, 6) := ⟨⟨by decide +kernel, by decide +kernel⟩, List.mem_of_getElem? (i := 22) (by decide +kernel), List.mem_of_getElem? (i := 390) (by decide +kernel), List.mem_of_getElem? (i := 391) (by decide +kernel)⟩
theorem lw_p25 : lw_okq (⟨"JugglerStates$Juggler", "standsLike", "(LJugglerStates$Juggler;)Z"⟩, 7) := ⟨⟨by decide +kernel, by decide +kernel⟩, List.mem_of_getElem? (i := 28) (by decide +kernel), List.mem_of_getElem? (i := 394) (by decide +kernel), List.mem_of_getElem? (i := 395) (by decide +kernel)⟩
theorem lw_p26 : lw_okq (⟨"JugglerStates$Pattern", "learn", "(LJugglerStates$Pad;)Z"⟩, 2) := ⟨⟨by decide +kernel, by decide +kernel⟩, List.mem_of_getElem? (i := 104) (by decide +kernel), List.mem_of_getElem? (i := 406) (by decide +kernel), List.mem_of_getElem? (i := 407) (by decide +kernel)⟩
theorem lw_p27 : lw_okq (⟨"JugglerStates$Pattern", "isSound", "()Z"⟩, 2) := ⟨⟨by decide +kernel, by decide +kernel⟩, List.mem_of_getElem? (i := 104) (by decide +kernel), List.mem_of_getElem? (i := 414) (by decide +kernel), List.mem_of_getElem? (i := 415) (by decide +kernel)⟩
theorem lw_p28 : lw_okq (⟨"JugglerStates$Pattern", "landing", "(I)I"⟩, 2) := ⟨⟨by decide +kernel, by decide +kernel⟩, List.mem_of_getElem? (i := 104) (by decide +kernel), List.mem_of_getElem? (i := 418) (by decide +kernel), List.mem_of_getElem? (i := 419) (by decide +kernel)⟩
theorem lw_p29 : lw_okq (⟨"JugglerStates$Pattern", "heightAt", "(I)I"⟩, 2) := ⟨⟨by decide +kernel, by decide +kernel⟩, List.mem_of_getElem? (i := 104) (by decide +kernel), List.mem_of_getElem? (i := 422) (by decide +kernel), List.mem_of_getElem? (i := 423) (by decide +kernel)⟩
theorem lw_p30 : lw_okq (⟨"JugglerStates$Pattern", "clubs", "()I"⟩, 2) := ⟨⟨by decide +kernel, by decide +kernel⟩, List.mem_of_getElem? (i := 104) (by decide +kernel), List.mem_of_getElem? (i := 428) (by decide +kernel), List.mem_of_getElem? (i := 429) (by decide +kernel)⟩
theorem lw_p31 : lw_okq (⟨"JugglerStates$Pattern", "startState", "()I"⟩, 2) := ⟨⟨by decide +kernel, by decide +kernel⟩, List.mem_of_getElem? (i := 104) (by decide +kernel), List.mem_of_getElem? (i := 432) (by decide +kernel), List.mem_of_getElem? (i := 433) (by decide +kernel)⟩
def lw_privs_2 : List (MethodName × Nat) := [(⟨"JugglerStates$Pad", "clear", "()V"⟩, 2), (⟨"JugglerStates$Scene", "play", "(I)I"⟩, 6), (⟨"JugglerStates$Scene", "letThrow", "(LJugglerStates$Juggler;LJugglerStates$Juggler;)V"⟩, 6), (⟨"JugglerStates$Juggler", "expects", "(I)Z"⟩, 7), (⟨"JugglerStates$Juggler", "isPassAt", "(I)Z"⟩, 7), (⟨"JugglerStates$Juggler", "expect", "(I)V"⟩, 7), (⟨"JugglerStates$Juggler", "endBeat", "()V"⟩, 7), (⟨"JugglerStates$Juggler", "lose", "(I)V"⟩, 7), (⟨"JugglerStates$Scene", "standsLike", "(LJugglerStates$Scene;)Z"⟩, 6), (⟨"JugglerStates$Juggler", "standsLike", "(LJugglerStates$Juggler;)Z"⟩, 7), (⟨"JugglerStates$Pattern", "learn", "(LJugglerStates$Pad;)Z"⟩, 2), (⟨"JugglerStates$Pattern", "isSound", "()Z"⟩, 2), (⟨"JugglerStates$Pattern", "landing", "(I)I"⟩, 2), (⟨"JugglerStates$Pattern", "heightAt", "(I)I"⟩, 2), (⟨"JugglerStates$Pattern", "clubs", "()I"⟩, 2), (⟨"JugglerStates$Pattern", "startState", "()I"⟩, 2)]
theorem lw_r2 : ∀ q ∈ lw_privs_2, lw_okq q := List.forall_mem_cons.mpr ⟨lw_p16, List.forall_mem_cons.mpr ⟨lw_p17, List.forall_mem_cons.mpr ⟨lw_p18, List.forall_mem_cons.mpr ⟨lw_p19, List.forall_mem_cons.mpr ⟨lw_p20, List.forall_mem_cons.mpr ⟨lw_p21, List.forall_mem_cons.mpr ⟨lw_p22, List.forall_mem_cons.mpr ⟨lw_p23, List.forall_mem_cons.mpr ⟨lw_p24, List.forall_mem_cons.mpr ⟨lw_p25, List.forall_mem_cons.mpr ⟨lw_p26, List.forall_mem_cons.mpr ⟨lw_p27, List.forall_mem_cons.mpr ⟨lw_p28, List.forall_mem_cons.mpr ⟨lw_p29, List.forall_mem_cons.mpr ⟨lw_p30, List.forall_mem_cons.mpr ⟨lw_p31, fun _ h => absurd h List.not_mem_nil⟩⟩⟩⟩⟩⟩⟩⟩⟩⟩⟩⟩⟩⟩⟩⟩
theorem lw_p32 : lw_okq (⟨"JugglerStates$Pattern", "orbits", "()I"⟩, 2) := ⟨⟨by decide +kernel, by decide +kernel⟩, List.mem_of_getElem? (i := 104) (by decide +kernel), List.mem_of_getElem? (i := 436) (by decide +kernel), List.mem_of_getElem? (i := 437) (by decide +kernel)⟩
theorem lw_p33 : lw_okq (⟨"JugglerStates$Pattern", "orbitThrough", "(I)I"⟩, 2) := ⟨⟨by decide +kernel, by decide +kernel⟩, List.mem_of_getElem? (i := 104) (by decide +kernel), List.mem_of_getElem? (i := 440) (by decide +kernel), List.mem_of_getElem? (i := 441) (by decide +kernel)⟩
theorem lw_p34 : lw_okq (⟨"JugglerStates$Pattern", "period", "()I"⟩, 2) := ⟨⟨by decide +kernel, by decide +kernel⟩, List.mem_of_getElem? (i := 104) (by decide +kernel), List.mem_of_getElem? (i := 446) (by decide +kernel), List.mem_of_getElem? (i := 447) (by decide +kernel)⟩
theorem lw_p35 : lw_okq (⟨"JugglerStates$Pattern", "comesAgainBehind", "(I)Z"⟩, 2) := ⟨⟨by decide +kernel, by decide +kernel⟩, List.mem_of_getElem? (i := 104) (by decide +kernel), List.mem_of_getElem? (i := 450) (by decide +kernel), List.mem_of_getElem? (i := 451) (by decide +kernel)⟩
theorem lw_p36 : lw_okq (⟨"JugglerStates$Pattern", "heightTurnedBack", "(I)I"⟩, 2) := ⟨⟨by decide +kernel, by decide +kernel⟩, List.mem_of_getElem? (i := 104) (by decide +kernel), List.mem_of_getElem? (i := 459) (by decide +kernel), List.mem_of_getElem? (i := 460) (by decide +kernel)⟩
theorem lw_p37 : lw_okq (⟨"JugglerStates$Ways", "searchFrom", "(I)V"⟩, 5) := ⟨⟨by decide +kernel, by decide +kernel⟩, List.mem_of_getElem? (i := 118) (by decide +kernel), List.mem_of_getElem? (i := 467) (by decide +kernel), List.mem_of_getElem? (i := 468) (by decide +kernel)⟩
theorem lw_p38 : lw_okq (⟨"JugglerStates$Ways", "reach", "(IIII)V"⟩, 5) := ⟨⟨by decide +kernel, by decide +kernel⟩, List.mem_of_getElem? (i := 118) (by decide +kernel), List.mem_of_getElem? (i := 474) (by decide +kernel), List.mem_of_getElem? (i := 475) (by decide +kernel)⟩
theorem lw_p39 : lw_okq (⟨"JugglerStates$Ways", "stepsTo", "(I)I"⟩, 5) := ⟨⟨by decide +kernel, by decide +kernel⟩, List.mem_of_getElem? (i := 118) (by decide +kernel), List.mem_of_getElem? (i := 478) (by decide +kernel), List.mem_of_getElem? (i := 479) (by decide +kernel)⟩
theorem lw_p40 : lw_okq (⟨"JugglerStates$Ways", "goOnFrom", "(I)V"⟩, 5) := ⟨⟨by decide +kernel, by decide +kernel⟩, List.mem_of_getElem? (i := 118) (by decide +kernel), List.mem_of_getElem? (i := 484) (by decide +kernel), List.mem_of_getElem? (i := 485) (by decide +kernel)⟩
theorem lw_p41 : lw_okq (⟨"JugglerStates$Ways", "makeThrow", "(II)V"⟩, 5) := ⟨⟨by decide +kernel, by decide +kernel⟩, List.mem_of_getElem? (i := 118) (by decide +kernel), List.mem_of_getElem? (i := 489) (by decide +kernel), List.mem_of_getElem? (i := 490) (by decide +kernel)⟩
theorem lw_p42 : lw_okq (⟨"JugglerStates$Ways", "firstThrowTo", "(I)I"⟩, 5) := ⟨⟨by decide +kernel, by decide +kernel⟩, List.mem_of_getElem? (i := 118) (by decide +kernel), List.mem_of_getElem? (i := 493) (by decide +kernel), List.mem_of_getElem? (i := 494) (by decide +kernel)⟩
theorem lw_p43 : lw_okq (⟨"JugglerStates$Ways", "lastThrowTo", "(I)I"⟩, 5) := ⟨⟨by decide +kernel, by decide +kernel⟩, List.mem_of_getElem? (i := 118) (by decide +kernel), List.mem_of_getElem? (i := 499) (by decide +kernel), List.mem_of_getElem? (i := 500) (by decide +kernel)⟩
theorem lw_p44 : lw_okq (⟨"JugglerStates$Pad", "append", "(I)V"⟩, 2) := ⟨⟨by decide +kernel, by decide +kernel⟩, List.mem_of_getElem? (i := 88) (by decide +kernel), List.mem_of_getElem? (i := 520) (by decide +kernel), List.mem_of_getElem? (i := 521) (by decide +kernel)⟩
theorem lw_p45 : lw_okq (⟨"JugglerStates$History", "takeBack", "(LJugglerStates$Scene;)V"⟩, 3) := ⟨⟨by decide +kernel, by decide +kernel⟩, List.mem_of_getElem? (i := 140) (by decide +kernel), List.mem_of_getElem? (i := 537) (by decide +kernel), List.mem_of_getElem? (i := 538) (by decide +kernel)⟩
theorem lw_p46 : lw_okq (⟨"JugglerStates", "slotOf", "(I)LJugglerStates$Slot;"⟩, 8) := ⟨⟨by decide +kernel, by decide +kernel⟩, List.mem_of_getElem? (i := 14) (by decide +kernel), List.mem_of_getElem? (i := 548) (by decide +kernel), List.mem_of_getElem? (i := 549) (by decide +kernel)⟩
theorem lw_p47 : lw_okq (⟨"JugglerStates$Slot", "keep", "(LJugglerStates$Scene;)V"⟩, 2) := ⟨⟨by decide +kernel, by decide +kernel⟩, List.mem_of_getElem? (i := 160) (by decide +kernel), List.mem_of_getElem? (i := 552) (by decide +kernel), List.mem_of_getElem? (i := 553) (by decide +kernel)⟩
def lw_privs_3 : List (MethodName × Nat) := [(⟨"JugglerStates$Pattern", "orbits", "()I"⟩, 2), (⟨"JugglerStates$Pattern", "orbitThrough", "(I)I"⟩, 2), (⟨"JugglerStates$Pattern", "period", "()I"⟩, 2), (⟨"JugglerStates$Pattern", "comesAgainBehind", "(I)Z"⟩, 2), (⟨"JugglerStates$Pattern", "heightTurnedBack", "(I)I"⟩, 2), (⟨"JugglerStates$Ways", "searchFrom", "(I)V"⟩, 5), (⟨"JugglerStates$Ways", "reach", "(IIII)V"⟩, 5), (⟨"JugglerStates$Ways", "stepsTo", "(I)I"⟩, 5), (⟨"JugglerStates$Ways", "goOnFrom", "(I)V"⟩, 5), (⟨"JugglerStates$Ways", "makeThrow", "(II)V"⟩, 5), (⟨"JugglerStates$Ways", "firstThrowTo", "(I)I"⟩, 5), (⟨"JugglerStates$Ways", "lastThrowTo", "(I)I"⟩, 5), (⟨"JugglerStates$Pad", "append", "(I)V"⟩, 2), (⟨"JugglerStates$History", "takeBack", "(LJugglerStates$Scene;)V"⟩, 3), (⟨"JugglerStates", "slotOf", "(I)LJugglerStates$Slot;"⟩, 8), (⟨"JugglerStates$Slot", "keep", "(LJugglerStates$Scene;)V"⟩, 2)]
theorem lw_r3 : ∀ q ∈ lw_privs_3, lw_okq q := List.forall_mem_cons.mpr ⟨lw_p32, List.forall_mem_cons.mpr ⟨lw_p33, List.forall_mem_cons.mpr ⟨lw_p34, List.forall_mem_cons.mpr ⟨lw_p35, List.forall_mem_cons.mpr ⟨lw_p36, List.forall_mem_cons.mpr ⟨lw_p37, List.forall_mem_cons.mpr ⟨lw_p38, List.forall_mem_cons.mpr ⟨lw_p39, List.forall_mem_cons.mpr ⟨lw_p40, List.forall_mem_cons.mpr ⟨lw_p41, List.forall_mem_cons.mpr ⟨lw_p42, List.forall_mem_cons.mpr ⟨lw_p43, List.forall_mem_cons.mpr ⟨lw_p44, List.forall_mem_cons.mpr ⟨lw_p45, List.forall_mem_cons.mpr ⟨lw_p46, List.forall_mem_cons.mpr ⟨lw_p47, fun _ h => absurd h List.not_mem_nil⟩⟩⟩⟩⟩⟩⟩⟩⟩⟩⟩⟩⟩⟩⟩⟩
theorem lw_p48 : lw_okq (⟨"JugglerStatesModel", "keep", "()V"⟩, 14) := ⟨⟨by decide +kernel, by decide +kernel⟩, List.mem_of_getElem? (i := 561) (by decide +kernel), List.mem_of_getElem? (i := 618) (by decide +kernel), List.mem_of_getElem? (i := 619) (by decide +kernel)⟩
theorem lw_p49 : lw_okq (⟨"JugglerStatesModel", "clubs", "()I"⟩, 14) := ⟨⟨by decide +kernel, by decide +kernel⟩, List.mem_of_getElem? (i := 561) (by decide +kernel), List.mem_of_getElem? (i := 622) (by decide +kernel), List.mem_of_getElem? (i := 623) (by decide +kernel)⟩
theorem lw_p50 : lw_okq (⟨"JugglerStatesModel", "changed", "(I)I"⟩, 14) := ⟨⟨by decide +kernel, by decide +kernel⟩, List.mem_of_getElem? (i := 561) (by decide +kernel), List.mem_of_getElem? (i := 629) (by decide +kernel), List.mem_of_getElem? (i := 630) (by decide +kernel)⟩
theorem lw_p51 : lw_okq (⟨"JugglerStatesModel", "beats", "()V"⟩, 14) := ⟨⟨by decide +kernel, by decide +kernel⟩, List.mem_of_getElem? (i := 561) (by decide +kernel), List.mem_of_getElem? (i := 639) (by decide +kernel), List.mem_of_getElem? (i := 640) (by decide +kernel)⟩
theorem lw_p52 : lw_okq (⟨"JugglerStatesModel", "throwsOne", "(I)V"⟩, 14) := ⟨⟨by decide +kernel, by decide +kernel⟩, List.mem_of_getElem? (i := 561) (by decide +kernel), List.mem_of_getElem? (i := 643) (by decide +kernel), List.mem_of_getElem? (i := 644) (by decide +kernel)⟩
theorem lw_p53 : lw_okq (⟨"JugglerStatesModel", "comes", "(II)Z"⟩, 14) := ⟨⟨by decide +kernel, by decide +kernel⟩, List.mem_of_getElem? (i := 561) (by decide +kernel), List.mem_of_getElem? (i := 658) (by decide +kernel), List.mem_of_getElem? (i := 659) (by decide +kernel)⟩
theorem lw_p54 : lw_okq (⟨"JugglerStatesModel", "giveBack", "()V"⟩, 14) := ⟨⟨by decide +kernel, by decide +kernel⟩, List.mem_of_getElem? (i := 561) (by decide +kernel), List.mem_of_getElem? (i := 682) (by decide +kernel), List.mem_of_getElem? (i := 683) (by decide +kernel)⟩
theorem lw_p55 : lw_okq (⟨"JugglerStatesModel", "isAsKept", "()Z"⟩, 14) := ⟨⟨by decide +kernel, by decide +kernel⟩, List.mem_of_getElem? (i := 561) (by decide +kernel), List.mem_of_getElem? (i := 690) (by decide +kernel), List.mem_of_getElem? (i := 691) (by decide +kernel)⟩
theorem lw_p56 : lw_okq (⟨"JugglerStatesModel", "isAt", "(III)Z"⟩, 14) := ⟨⟨by decide +kernel, by decide +kernel⟩, List.mem_of_getElem? (i := 561) (by decide +kernel), List.mem_of_getElem? (i := 713) (by decide +kernel), List.mem_of_getElem? (i := 714) (by decide +kernel)⟩
theorem lw_p57 : lw_okq (⟨"JugglerStatesModel", "readsPattern", "()Z"⟩, 14) := ⟨⟨by decide +kernel, by decide +kernel⟩, List.mem_of_getElem? (i := 561) (by decide +kernel), List.mem_of_getElem? (i := 726) (by decide +kernel), List.mem_of_getElem? (i := 727) (by decide +kernel)⟩
theorem lw_p58 : lw_okq (⟨"JugglerStatesModel", "isSound", "()Z"⟩, 14) := ⟨⟨by decide +kernel, by decide +kernel⟩, List.mem_of_getElem? (i := 561) (by decide +kernel), List.mem_of_getElem? (i := 731) (by decide +kernel), List.mem_of_getElem? (i := 732) (by decide +kernel)⟩
theorem lw_p59 : lw_okq (⟨"JugglerStatesModel", "lands", "(I)I"⟩, 14) := ⟨⟨by decide +kernel, by decide +kernel⟩, List.mem_of_getElem? (i := 561) (by decide +kernel), List.mem_of_getElem? (i := 735) (by decide +kernel), List.mem_of_getElem? (i := 736) (by decide +kernel)⟩
theorem lw_p60 : lw_okq (⟨"JugglerStatesModel", "told", "(I)I"⟩, 14) := ⟨⟨by decide +kernel, by decide +kernel⟩, List.mem_of_getElem? (i := 561) (by decide +kernel), List.mem_of_getElem? (i := 739) (by decide +kernel), List.mem_of_getElem? (i := 740) (by decide +kernel)⟩
theorem lw_p61 : lw_okq (⟨"JugglerStatesModel", "sumOfHeights", "()I"⟩, 14) := ⟨⟨by decide +kernel, by decide +kernel⟩, List.mem_of_getElem? (i := 561) (by decide +kernel), List.mem_of_getElem? (i := 743) (by decide +kernel), List.mem_of_getElem? (i := 744) (by decide +kernel)⟩
theorem lw_p62 : lw_okq (⟨"JugglerStatesModel", "startOf", "()I"⟩, 14) := ⟨⟨by decide +kernel, by decide +kernel⟩, List.mem_of_getElem? (i := 561) (by decide +kernel), List.mem_of_getElem? (i := 747) (by decide +kernel), List.mem_of_getElem? (i := 748) (by decide +kernel)⟩
theorem lw_p63 : lw_okq (⟨"JugglerStatesModel", "orbits", "()I"⟩, 14) := ⟨⟨by decide +kernel, by decide +kernel⟩, List.mem_of_getElem? (i := 561) (by decide +kernel), List.mem_of_getElem? (i := 751) (by decide +kernel), List.mem_of_getElem? (i := 752) (by decide +kernel)⟩
def lw_privs_4 : List (MethodName × Nat) := [(⟨"JugglerStatesModel", "keep", "()V"⟩, 14), (⟨"JugglerStatesModel", "clubs", "()I"⟩, 14), (⟨"JugglerStatesModel", "changed", "(I)I"⟩, 14), (⟨"JugglerStatesModel", "beats", "()V"⟩, 14), (⟨"JugglerStatesModel", "throwsOne", "(I)V"⟩, 14), (⟨"JugglerStatesModel", "comes", "(II)Z"⟩, 14), (⟨"JugglerStatesModel", "giveBack", "()V"⟩, 14), (⟨"JugglerStatesModel", "isAsKept", "()Z"⟩, 14), (⟨"JugglerStatesModel", "isAt", "(III)Z"⟩, 14), (⟨"JugglerStatesModel", "readsPattern", "()Z"⟩, 14), (⟨"JugglerStatesModel", "isSound", "()Z"⟩, 14), (⟨"JugglerStatesModel", "lands", "(I)I"⟩, 14), (⟨"JugglerStatesModel", "told", "(I)I"⟩, 14), (⟨"JugglerStatesModel", "sumOfHeights", "()I"⟩, 14), (⟨"JugglerStatesModel", "startOf", "()I"⟩, 14), (⟨"JugglerStatesModel", "orbits", "()I"⟩, 14)]
theorem lw_r4 : ∀ q ∈ lw_privs_4, lw_okq q := List.forall_mem_cons.mpr ⟨lw_p48, List.forall_mem_cons.mpr ⟨lw_p49, List.forall_mem_cons.mpr ⟨lw_p50, List.forall_mem_cons.mpr ⟨lw_p51, List.forall_mem_cons.mpr ⟨lw_p52, List.forall_mem_cons.mpr ⟨lw_p53, List.forall_mem_cons.mpr ⟨lw_p54, List.forall_mem_cons.mpr ⟨lw_p55, List.forall_mem_cons.mpr ⟨lw_p56, List.forall_mem_cons.mpr ⟨lw_p57, List.forall_mem_cons.mpr ⟨lw_p58, List.forall_mem_cons.mpr ⟨lw_p59, List.forall_mem_cons.mpr ⟨lw_p60, List.forall_mem_cons.mpr ⟨lw_p61, List.forall_mem_cons.mpr ⟨lw_p62, List.forall_mem_cons.mpr ⟨lw_p63, fun _ h => absurd h List.not_mem_nil⟩⟩⟩⟩⟩⟩⟩⟩⟩⟩⟩⟩⟩⟩⟩⟩
theorem lw_p64 : lw_okq (⟨"JugglerStatesModel", "orbitOf", "(I)I"⟩, 14) := ⟨⟨by decide +kernel, by decide +kernel⟩, List.mem_of_getElem? (i := 561) (by decide +kernel), List.mem_of_getElem? (i := 755) (by decide +kernel), List.mem_of_getElem? (i := 756) (by decide +kernel)⟩
theorem lw_p65 : lw_okq (⟨"JugglerStatesModel", "period", "()I"⟩, 14) := ⟨⟨by decide +kernel, by decide +kernel⟩, List.mem_of_getElem? (i := 561) (by decide +kernel), List.mem_of_getElem? (i := 759) (by decide +kernel), List.mem_of_getElem? (i := 760) (by decide +kernel)⟩
theorem lw_p66 : lw_okq (⟨"JugglerStatesModel", "comesAgain", "(I)Z"⟩, 14) := ⟨⟨by decide +kernel, by decide +kernel⟩, List.mem_of_getElem? (i := 561) (by decide +kernel), List.mem_of_getElem? (i := 763) (by decide +kernel), List.mem_of_getElem? (i := 764) (by decide +kernel)⟩
theorem lw_p67 : lw_okq (⟨"JugglerStatesModel", "findWays", "(I)V"⟩, 14) := ⟨⟨by decide +kernel, by decide +kernel⟩, List.mem_of_getElem? (i := 561) (by decide +kernel), List.mem_of_getElem? (i := 776) (by decide +kernel), List.mem_of_getElem? (i := 777) (by decide +kernel)⟩
theorem lw_p68 : lw_okq (⟨"JugglerStatesModel", "nextThrow", "(I)I"⟩, 14) := ⟨⟨by decide +kernel, by decide +kernel⟩, List.mem_of_getElem? (i := 561) (by decide +kernel), List.mem_of_getElem? (i := 783) (by decide +kernel), List.mem_of_getElem? (i := 784) (by decide +kernel)⟩
def lw_privs_5 : List (MethodName × Nat) := [(⟨"JugglerStatesModel", "orbitOf", "(I)I"⟩, 14), (⟨"JugglerStatesModel", "period", "()I"⟩, 14), (⟨"JugglerStatesModel", "comesAgain", "(I)Z"⟩, 14), (⟨"JugglerStatesModel", "findWays", "(I)V"⟩, 14), (⟨"JugglerStatesModel", "nextThrow", "(I)I"⟩, 14)]
theorem lw_r5 : ∀ q ∈ lw_privs_5, lw_okq q := List.forall_mem_cons.mpr ⟨lw_p64, List.forall_mem_cons.mpr ⟨lw_p65, List.forall_mem_cons.mpr ⟨lw_p66, List.forall_mem_cons.mpr ⟨lw_p67, List.forall_mem_cons.mpr ⟨lw_p68, fun _ h => absurd h List.not_mem_nil⟩⟩⟩⟩⟩
def lw_privs : List (MethodName × Nat) := lw_privs_1 ++ (lw_privs_2 ++ (lw_privs_3 ++ (lw_privs_4 ++ (lw_privs_5))))
def lw_tbl : List Cond := k2_sels lw_privs ++ tables_1
theorem lw_privs_ok : ∀ q ∈ lw_privs, lw_okq q := by
  show ∀ q ∈ lw_privs_1 ++ (lw_privs_2 ++ (lw_privs_3 ++ (lw_privs_4 ++ (lw_privs_5)))), lw_okq q
  exact List.forall_mem_append.mpr ⟨lw_r1, List.forall_mem_append.mpr ⟨lw_r2, List.forall_mem_append.mpr ⟨lw_r3, List.forall_mem_append.mpr ⟨lw_r4, lw_r5⟩⟩⟩⟩
end
section
def RX0 : String := "JugglerStates$History"
def TX0 : u_T := fun k => match k with
  | 0 => ("JugglerStates$History", "ring", "[LJugglerStates$Scene;", true)
  | 1 => ("JugglerStates$History", "oldest", "I", false)
  | _ => ("JugglerStates$History", "size", "I", false)
def tyX0 : Nat → FieldType := fun k => match k with
  | 0 => .array (.object "JugglerStates$Scene")
  | 1 => .int
  | _ => .int
theorem nmX0 : ∀ a, a < 3 → ∀ b, b < 3 → a ≠ b → (TX0 a).2.1 ≠ (TX0 b).2.1 := by decide +kernel
theorem tyX0_ok : ∀ k, k < 3 → parseFieldDescriptor (TX0 k).2.2.1 = some (tyX0 k) := by decide +kernel
abbrev cX0_init : ByteArray := prog_2_method_1_code
def yX0_init : MethodName := ⟨RX0, "<init>", "()V"⟩
abbrev cX0_record : ByteArray := prog_2_method_2_code
def yX0_record : MethodName := ⟨RX0, "record", "(LJugglerStates$Scene;)V"⟩
abbrev cX0_takeBack : ByteArray := prog_2_method_3_code
def yX0_takeBack : MethodName := ⟨RX0, "takeBack", "(LJugglerStates$Scene;)V"⟩
abbrev cX0_latest : ByteArray := prog_2_method_4_code
def yX0_latest : MethodName := ⟨RX0, "latest", "()LJugglerStates$Scene;"⟩
def RX1 : String := "JugglerStates$Juggler"
def TX1 : u_T := fun k => match k with
  | 0 => ("JugglerStates$Juggler", "state", "I", false)
  | 1 => ("JugglerStates$Juggler", "heights", "[I", true)
  | 2 => ("JugglerStates$Juggler", "passPlaces", "I", false)
  | 3 => ("JugglerStates$Juggler", "programLength", "I", false)
  | 4 => ("JugglerStates$Juggler", "place", "I", false)
  | 5 => ("JugglerStates$Juggler", "slips", "I", false)
  | _ => ("JugglerStates$Juggler", "clashes", "I", false)
def tyX1 : Nat → FieldType := fun k => match k with
  | 0 => .int
  | 1 => .array .int
  | 2 => .int
  | 3 => .int
  | 4 => .int
  | 5 => .int
  | _ => .int
theorem nmX1 : ∀ a, a < 7 → ∀ b, b < 7 → a ≠ b → (TX1 a).2.1 ≠ (TX1 b).2.1 := by decide +kernel
theorem tyX1_ok : ∀ k, k < 7 → parseFieldDescriptor (TX1 k).2.2.1 = some (tyX1 k) := by decide +kernel
abbrev cX1_init : ByteArray := prog_3_method_1_code
def yX1_init : MethodName := ⟨RX1, "<init>", "()V"⟩
abbrev cX1_become : ByteArray := prog_3_method_2_code
def yX1_become : MethodName := ⟨RX1, "become", "(LJugglerStates$Juggler;)V"⟩
abbrev cX1_begin : ByteArray := prog_3_method_3_code
def yX1_begin : MethodName := ⟨RX1, "begin", "(I)V"⟩
abbrev cX1_learn : ByteArray := prog_3_method_4_code
def yX1_learn : MethodName := ⟨RX1, "learn", "(LJugglerStates$Pad;)V"⟩
abbrev cX1_clubs : ByteArray := prog_3_method_5_code
def yX1_clubs : MethodName := ⟨RX1, "clubs", "()I"⟩
abbrev cX1_heightAt : ByteArray := prog_3_method_6_code
def yX1_heightAt : MethodName := ⟨RX1, "heightAt", "(I)I"⟩
abbrev cX1_isPassAt : ByteArray := prog_3_method_7_code
def yX1_isPassAt : MethodName := ⟨RX1, "isPassAt", "(I)Z"⟩
abbrev cX1_expects : ByteArray := prog_3_method_8_code
def yX1_expects : MethodName := ⟨RX1, "expects", "(I)Z"⟩
abbrev cX1_expect : ByteArray := prog_3_method_9_code
def yX1_expect : MethodName := ⟨RX1, "expect", "(I)V"⟩
abbrev cX1_lose : ByteArray := prog_3_method_10_code
def yX1_lose : MethodName := ⟨RX1, "lose", "(I)V"⟩
abbrev cX1_endBeat : ByteArray := prog_3_method_11_code
def yX1_endBeat : MethodName := ⟨RX1, "endBeat", "()V"⟩
abbrev cX1_standsLike : ByteArray := prog_3_method_12_code
def yX1_standsLike : MethodName := ⟨RX1, "standsLike", "(LJugglerStates$Juggler;)Z"⟩
def RX2 : String := "JugglerStates$Pad"
def TX2 : u_T := fun k => match k with
  | 0 => ("JugglerStates$Pad", "codes", "[I", true)
  | _ => ("JugglerStates$Pad", "length", "I", false)
def tyX2 : Nat → FieldType := fun k => match k with
  | 0 => .array .int
  | _ => .int
theorem nmX2 : ∀ a, a < 2 → ∀ b, b < 2 → a ≠ b → (TX2 a).2.1 ≠ (TX2 b).2.1 := by decide +kernel
theorem tyX2_ok : ∀ k, k < 2 → parseFieldDescriptor (TX2 k).2.2.1 = some (tyX2 k) := by decide +kernel
abbrev cX2_init : ByteArray := prog_4_method_1_code
def yX2_init : MethodName := ⟨RX2, "<init>", "()V"⟩
abbrev cX2_append : ByteArray := prog_4_method_2_code
def yX2_append : MethodName := ⟨RX2, "append", "(I)V"⟩
abbrev cX2_clear : ByteArray := prog_4_method_3_code
def yX2_clear : MethodName := ⟨RX2, "clear", "()V"⟩
abbrev cX2_codeAt : ByteArray := prog_4_method_4_code
def yX2_codeAt : MethodName := ⟨RX2, "codeAt", "(I)I"⟩
abbrev cX2_digit : ByteArray := prog_4_method_5_code
def yX2_digit : MethodName := ⟨RX2, "digit", "(I)I"⟩
abbrev cX2_isHeightAt : ByteArray := prog_4_method_6_code
def yX2_isHeightAt : MethodName := ⟨RX2, "isHeightAt", "(I)Z"⟩
abbrev cX2_programFault : ByteArray := prog_4_method_7_code
def yX2_programFault : MethodName := ⟨RX2, "programFault", "()I"⟩
abbrev cX2_canStand : ByteArray := prog_4_method_8_code
def yX2_canStand : MethodName := ⟨RX2, "canStand", "(II)Z"⟩
def RX3 : String := "JugglerStates$Pattern"
def TX3 : u_T := fun k => match k with
  | 0 => ("JugglerStates$Pattern", "heights", "[I", true)
  | _ => ("JugglerStates$Pattern", "length", "I", false)
def tyX3 : Nat → FieldType := fun k => match k with
  | 0 => .array .int
  | _ => .int
theorem nmX3 : ∀ a, a < 2 → ∀ b, b < 2 → a ≠ b → (TX3 a).2.1 ≠ (TX3 b).2.1 := by decide +kernel
theorem tyX3_ok : ∀ k, k < 2 → parseFieldDescriptor (TX3 k).2.2.1 = some (tyX3 k) := by decide +kernel
abbrev cX3_init : ByteArray := prog_5_method_1_code
def yX3_init : MethodName := ⟨RX3, "<init>", "()V"⟩
abbrev cX3_learn : ByteArray := prog_5_method_2_code
def yX3_learn : MethodName := ⟨RX3, "learn", "(LJugglerStates$Pad;)Z"⟩
abbrev cX3_heightAt : ByteArray := prog_5_method_3_code
def yX3_heightAt : MethodName := ⟨RX3, "heightAt", "(I)I"⟩
abbrev cX3_landing : ByteArray := prog_5_method_4_code
def yX3_landing : MethodName := ⟨RX3, "landing", "(I)I"⟩
abbrev cX3_isSound : ByteArray := prog_5_method_5_code
def yX3_isSound : MethodName := ⟨RX3, "isSound", "()Z"⟩
abbrev cX3_clubs : ByteArray := prog_5_method_6_code
def yX3_clubs : MethodName := ⟨RX3, "clubs", "()I"⟩
abbrev cX3_startState : ByteArray := prog_5_method_7_code
def yX3_startState : MethodName := ⟨RX3, "startState", "()I"⟩
abbrev cX3_orbits : ByteArray := prog_5_method_8_code
def yX3_orbits : MethodName := ⟨RX3, "orbits", "()I"⟩
abbrev cX3_orbitThrough : ByteArray := prog_5_method_9_code
def yX3_orbitThrough : MethodName := ⟨RX3, "orbitThrough", "(I)I"⟩
abbrev cX3_period : ByteArray := prog_5_method_10_code
def yX3_period : MethodName := ⟨RX3, "period", "()I"⟩
abbrev cX3_comesAgainBehind : ByteArray := prog_5_method_11_code
def yX3_comesAgainBehind : MethodName := ⟨RX3, "comesAgainBehind", "(I)Z"⟩
abbrev cX3_heightTurnedBack : ByteArray := prog_5_method_12_code
def yX3_heightTurnedBack : MethodName := ⟨RX3, "heightTurnedBack", "(I)I"⟩
def RX4 : String := "JugglerStates$Scene"
def TX4 : u_T := fun k => match k with
  | 0 => ("JugglerStates$Scene", "zero", "LJugglerStates$Juggler;", true)
  | 1 => ("JugglerStates$Scene", "one", "LJugglerStates$Juggler;", true)
  | 2 => ("JugglerStates$Scene", "floor", "I", false)
  | 3 => ("JugglerStates$Scene", "beatsPassed", "I", false)
  | 4 => ("JugglerStates$Scene", "throwsMade", "I", false)
  | _ => ("JugglerStates$Scene", "passesCome", "I", false)
def tyX4 : Nat → FieldType := fun k => match k with
  | 0 => .object "JugglerStates$Juggler"
  | 1 => .object "JugglerStates$Juggler"
  | 2 => .int
  | 3 => .int
  | 4 => .int
  | _ => .int
theorem nmX4 : ∀ a, a < 6 → ∀ b, b < 6 → a ≠ b → (TX4 a).2.1 ≠ (TX4 b).2.1 := by decide +kernel
theorem tyX4_ok : ∀ k, k < 6 → parseFieldDescriptor (TX4 k).2.2.1 = some (tyX4 k) := by decide +kernel
abbrev cX4_init : ByteArray := prog_6_method_1_code
def yX4_init : MethodName := ⟨RX4, "<init>", "()V"⟩
abbrev cX4_become : ByteArray := prog_6_method_2_code
def yX4_become : MethodName := ⟨RX4, "become", "(LJugglerStates$Scene;)V"⟩
abbrev cX4_begin : ByteArray := prog_6_method_3_code
def yX4_begin : MethodName := ⟨RX4, "begin", "(II)V"⟩
abbrev cX4_juggler : ByteArray := prog_6_method_4_code
def yX4_juggler : MethodName := ⟨RX4, "juggler", "(I)LJugglerStates$Juggler;"⟩
abbrev cX4_clubs : ByteArray := prog_6_method_5_code
def yX4_clubs : MethodName := ⟨RX4, "clubs", "()I"⟩
abbrev cX4_play : ByteArray := prog_6_method_6_code
def yX4_play : MethodName := ⟨RX4, "play", "(I)I"⟩
abbrev cX4_letThrow : ByteArray := prog_6_method_7_code
def yX4_letThrow : MethodName := ⟨RX4, "letThrow", "(LJugglerStates$Juggler;LJugglerStates$Juggler;)V"⟩
abbrev cX4_standsLike : ByteArray := prog_6_method_8_code
def yX4_standsLike : MethodName := ⟨RX4, "standsLike", "(LJugglerStates$Scene;)Z"⟩
def RX5 : String := "JugglerStates$Slot"
def TX5 : u_T := fun k => match k with
  | 0 => ("JugglerStates$Slot", "kept", "LJugglerStates$Scene;", true)
  | _ => ("JugglerStates$Slot", "filled", "Z", false)
def tyX5 : Nat → FieldType := fun k => match k with
  | 0 => .object "JugglerStates$Scene"
  | _ => .boolean
theorem nmX5 : ∀ a, a < 2 → ∀ b, b < 2 → a ≠ b → (TX5 a).2.1 ≠ (TX5 b).2.1 := by decide +kernel
theorem tyX5_ok : ∀ k, k < 2 → parseFieldDescriptor (TX5 k).2.2.1 = some (tyX5 k) := by decide +kernel
abbrev cX5_init : ByteArray := prog_7_method_1_code
def yX5_init : MethodName := ⟨RX5, "<init>", "()V"⟩
abbrev cX5_keep : ByteArray := prog_7_method_2_code
def yX5_keep : MethodName := ⟨RX5, "keep", "(LJugglerStates$Scene;)V"⟩
def RX6 : String := "JugglerStates$Ways"
def TX6 : u_T := fun k => match k with
  | 0 => ("JugglerStates$Ways", "steps", "[I", true)
  | 1 => ("JugglerStates$Ways", "firstThrows", "[I", true)
  | 2 => ("JugglerStates$Ways", "lastThrows", "[I", true)
  | 3 => ("JugglerStates$Ways", "reached", "[I", true)
  | _ => ("JugglerStates$Ways", "reachedCount", "I", false)
def tyX6 : Nat → FieldType := fun k => match k with
  | 0 => .array .int
  | 1 => .array .int
  | 2 => .array .int
  | 3 => .array .int
  | _ => .int
theorem nmX6 : ∀ a, a < 5 → ∀ b, b < 5 → a ≠ b → (TX6 a).2.1 ≠ (TX6 b).2.1 := by decide +kernel
theorem tyX6_ok : ∀ k, k < 5 → parseFieldDescriptor (TX6 k).2.2.1 = some (tyX6 k) := by decide +kernel
abbrev cX6_init : ByteArray := prog_8_method_1_code
def yX6_init : MethodName := ⟨RX6, "<init>", "()V"⟩
abbrev cX6_searchFrom : ByteArray := prog_8_method_2_code
def yX6_searchFrom : MethodName := ⟨RX6, "searchFrom", "(I)V"⟩
abbrev cX6_goOnFrom : ByteArray := prog_8_method_3_code
def yX6_goOnFrom : MethodName := ⟨RX6, "goOnFrom", "(I)V"⟩
abbrev cX6_makeThrow : ByteArray := prog_8_method_4_code
def yX6_makeThrow : MethodName := ⟨RX6, "makeThrow", "(II)V"⟩
abbrev cX6_reach : ByteArray := prog_8_method_5_code
def yX6_reach : MethodName := ⟨RX6, "reach", "(IIII)V"⟩
abbrev cX6_stepsTo : ByteArray := prog_8_method_6_code
def yX6_stepsTo : MethodName := ⟨RX6, "stepsTo", "(I)I"⟩
abbrev cX6_firstThrowTo : ByteArray := prog_8_method_7_code
def yX6_firstThrowTo : MethodName := ⟨RX6, "firstThrowTo", "(I)I"⟩
abbrev cX6_lastThrowTo : ByteArray := prog_8_method_8_code
def yX6_lastThrowTo : MethodName := ⟨RX6, "lastThrowTo", "(I)I"⟩
def RX7 : String := "JugglerStates"
def TX7 : u_T := fun k => match k with
  | 0 => ("JugglerStates", "now", "LJugglerStates$Scene;", true)
  | 1 => ("JugglerStates", "ahead", "LJugglerStates$Scene;", true)
  | 2 => ("JugglerStates", "pad", "LJugglerStates$Pad;", true)
  | 3 => ("JugglerStates", "padPattern", "LJugglerStates$Pattern;", true)
  | 4 => ("JugglerStates", "ways", "LJugglerStates$Ways;", true)
  | 5 => ("JugglerStates", "history", "LJugglerStates$History;", true)
  | 6 => ("JugglerStates", "slotZero", "LJugglerStates$Slot;", true)
  | _ => ("JugglerStates", "slotOne", "LJugglerStates$Slot;", true)
def tyX7 : Nat → FieldType := fun k => match k with
  | 0 => .object "JugglerStates$Scene"
  | 1 => .object "JugglerStates$Scene"
  | 2 => .object "JugglerStates$Pad"
  | 3 => .object "JugglerStates$Pattern"
  | 4 => .object "JugglerStates$Ways"
  | 5 => .object "JugglerStates$History"
  | 6 => .object "JugglerStates$Slot"
  | _ => .object "JugglerStates$Slot"
theorem nmX7 : ∀ a, a < 8 → ∀ b, b < 8 → a ≠ b → (TX7 a).2.1 ≠ (TX7 b).2.1 := by decide +kernel
theorem tyX7_ok : ∀ k, k < 8 → parseFieldDescriptor (TX7 k).2.2.1 = some (tyX7 k) := by decide +kernel
abbrev cX7_init : ByteArray := prog_1_method_1_code
def yX7_init : MethodName := ⟨RX7, "<init>", "()V"⟩
abbrev cX7_start : ByteArray := prog_1_method_2_code
def yX7_start : MethodName := ⟨RX7, "start", "(II)I"⟩
abbrev cX7_read : ByteArray := prog_1_method_3_code
def yX7_read : MethodName := ⟨RX7, "read", "()I"⟩
abbrev cX7_pass : ByteArray := prog_1_method_4_code
def yX7_pass : MethodName := ⟨RX7, "pass", "(I)I"⟩
abbrev cX7_drop : ByteArray := prog_1_method_5_code
def yX7_drop : MethodName := ⟨RX7, "drop", "(II)I"⟩
abbrev cX7_pick : ByteArray := prog_1_method_6_code
def yX7_pick : MethodName := ⟨RX7, "pick", "(II)I"⟩
abbrev cX7_of : ByteArray := prog_1_method_7_code
def yX7_of : MethodName := ⟨RX7, "of", "(II)I"⟩
abbrev cX7_thrown : ByteArray := prog_1_method_8_code
def yX7_thrown : MethodName := ⟨RX7, "thrown", "(III)I"⟩
abbrev cX7_count : ByteArray := prog_1_method_9_code
def yX7_count : MethodName := ⟨RX7, "count", "(I)I"⟩
abbrev cX7_firstDrop : ByteArray := prog_1_method_10_code
def yX7_firstDrop : MethodName := ⟨RX7, "firstDrop", "()I"⟩
abbrev cX7_comesRound : ByteArray := prog_1_method_11_code
def yX7_comesRound : MethodName := ⟨RX7, "comesRound", "()I"⟩
abbrev cX7_stateBehind : ByteArray := prog_1_method_12_code
def yX7_stateBehind : MethodName := ⟨RX7, "stateBehind", "(II)I"⟩
abbrev cX7_pattern : ByteArray := prog_1_method_13_code
def yX7_pattern : MethodName := ⟨RX7, "pattern", "(I)I"⟩
abbrev cX7_back : ByteArray := prog_1_method_14_code
def yX7_back : MethodName := ⟨RX7, "back", "(I)I"⟩
abbrev cX7_way : ByteArray := prog_1_method_15_code
def yX7_way : MethodName := ⟨RX7, "way", "(III)I"⟩
abbrev cX7_howMany : ByteArray := prog_1_method_16_code
def yX7_howMany : MethodName := ⟨RX7, "howMany", "(II)I"⟩
abbrev cX7_put : ByteArray := prog_1_method_17_code
def yX7_put : MethodName := ⟨RX7, "put", "(J)I"⟩
abbrev cX7_wipe : ByteArray := prog_1_method_18_code
def yX7_wipe : MethodName := ⟨RX7, "wipe", "()I"⟩
abbrev cX7_fault : ByteArray := prog_1_method_19_code
def yX7_fault : MethodName := ⟨RX7, "fault", "()I"⟩
abbrev cX7_undo : ByteArray := prog_1_method_20_code
def yX7_undo : MethodName := ⟨RX7, "undo", "()I"⟩
abbrev cX7_save : ByteArray := prog_1_method_21_code
def yX7_save : MethodName := ⟨RX7, "save", "(I)I"⟩
abbrev cX7_restore : ByteArray := prog_1_method_22_code
def yX7_restore : MethodName := ⟨RX7, "restore", "(I)I"⟩
abbrev cX7_isWithin : ByteArray := prog_1_method_23_code
def yX7_isWithin : MethodName := ⟨RX7, "isWithin", "(III)Z"⟩
abbrev cX7_isJuggler : ByteArray := prog_1_method_24_code
def yX7_isJuggler : MethodName := ⟨RX7, "isJuggler", "(I)Z"⟩
abbrev cX7_isBeat : ByteArray := prog_1_method_25_code
def yX7_isBeat : MethodName := ⟨RX7, "isBeat", "(I)Z"⟩
abbrev cX7_isSlot : ByteArray := prog_1_method_26_code
def yX7_isSlot : MethodName := ⟨RX7, "isSlot", "(I)Z"⟩
abbrev cX7_slotOf : ByteArray := prog_1_method_27_code
def yX7_slotOf : MethodName := ⟨RX7, "slotOf", "(I)LJugglerStates$Slot;"⟩
abbrev cX7_oneIf : ByteArray := prog_1_method_28_code
def yX7_oneIf : MethodName := ⟨RX7, "oneIf", "(Z)I"⟩
abbrev cX7_firstBeats : ByteArray := prog_1_method_29_code
def yX7_firstBeats : MethodName := ⟨RX7, "firstBeats", "(I)I"⟩
abbrev cX7_has : ByteArray := prog_1_method_30_code
def yX7_has : MethodName := ⟨RX7, "has", "(II)Z"⟩
abbrev cX7_valueAt : ByteArray := prog_1_method_31_code
def yX7_valueAt : MethodName := ⟨RX7, "valueAt", "([II)I"⟩
abbrev cX7_setAt : ByteArray := prog_1_method_32_code
def yX7_setAt : MethodName := ⟨RX7, "setAt", "([III)V"⟩
abbrev cX7_leftOver : ByteArray := prog_1_method_33_code
def yX7_leftOver : MethodName := ⟨RX7, "leftOver", "(II)I"⟩
abbrev cX7_isHeight : ByteArray := prog_1_method_34_code
def yX7_isHeight : MethodName := ⟨RX7, "isHeight", "(I)Z"⟩
abbrev cX7_packedCharacters : ByteArray := prog_1_method_35_code
def yX7_packedCharacters : MethodName := ⟨RX7, "packedCharacters", "(J)I"⟩
abbrev cX7_soundEndings : ByteArray := prog_1_method_36_code
def yX7_soundEndings : MethodName := ⟨RX7, "soundEndings", "(IIII)I"⟩
def RX8 : String := "JugglerStatesModel"
def TX8 : u_T := fun k => match k with
  | 0 => ("JugglerStatesModel", "all", "[I", true)
  | 1 => ("JugglerStatesModel", "kept", "[I", true)
  | 2 => ("JugglerStatesModel", "history", "[I", true)
  | 3 => ("JugglerStatesModel", "historyLong", "I", false)
  | 4 => ("JugglerStatesModel", "slots", "[I", true)
  | 5 => ("JugglerStatesModel", "isSaved", "[I", true)
  | 6 => ("JugglerStatesModel", "pad", "[I", true)
  | 7 => ("JugglerStatesModel", "padLong", "I", false)
  | 8 => ("JugglerStatesModel", "readHeight", "[I", true)
  | 9 => ("JugglerStatesModel", "readPass", "[I", true)
  | 10 => ("JugglerStatesModel", "readMany", "I", false)
  | 11 => ("JugglerStatesModel", "heights", "[I", true)
  | 12 => ("JugglerStatesModel", "many", "I", false)
  | _ => ("JugglerStatesModel", "takes", "[I", true)
def tyX8 : Nat → FieldType := fun k => match k with
  | 0 => .array .int
  | 1 => .array .int
  | 2 => .array .int
  | 3 => .int
  | 4 => .array .int
  | 5 => .array .int
  | 6 => .array .int
  | 7 => .int
  | 8 => .array .int
  | 9 => .array .int
  | 10 => .int
  | 11 => .array .int
  | 12 => .int
  | _ => .array .int
theorem nmX8 : ∀ a, a < 14 → ∀ b, b < 14 → a ≠ b → (TX8 a).2.1 ≠ (TX8 b).2.1 := by decide +kernel
theorem tyX8_ok : ∀ k, k < 14 → parseFieldDescriptor (TX8 k).2.2.1 = some (tyX8 k) := by decide +kernel
abbrev cX8_init : ByteArray := prog_10_method_1_code
def yX8_init : MethodName := ⟨RX8, "<init>", "()V"⟩
abbrev cX8_in : ByteArray := prog_10_method_2_code
def yX8_in : MethodName := ⟨RX8, "in", "(JJJ)Z"⟩
abbrev cX8_keep : ByteArray := prog_10_method_3_code
def yX8_keep : MethodName := ⟨RX8, "keep", "()V"⟩
abbrev cX8_giveBack : ByteArray := prog_10_method_4_code
def yX8_giveBack : MethodName := ⟨RX8, "giveBack", "()V"⟩
abbrev cX8_changed : ByteArray := prog_10_method_5_code
def yX8_changed : MethodName := ⟨RX8, "changed", "(I)I"⟩
abbrev cX8_isJuggler : ByteArray := prog_10_method_6_code
def yX8_isJuggler : MethodName := ⟨RX8, "isJuggler", "(I)Z"⟩
abbrev cX8_isBeat : ByteArray := prog_10_method_7_code
def yX8_isBeat : MethodName := ⟨RX8, "isBeat", "(I)Z"⟩
abbrev cX8_bits : ByteArray := prog_10_method_8_code
def yX8_bits : MethodName := ⟨RX8, "bits", "(I)I"⟩
abbrev cX8_clubs : ByteArray := prog_10_method_9_code
def yX8_clubs : MethodName := ⟨RX8, "clubs", "()I"⟩
abbrev cX8_throwsOne : ByteArray := prog_10_method_10_code
def yX8_throwsOne : MethodName := ⟨RX8, "throwsOne", "(I)V"⟩
abbrev cX8_beats : ByteArray := prog_10_method_11_code
def yX8_beats : MethodName := ⟨RX8, "beats", "()V"⟩
abbrev cX8_start : ByteArray := prog_10_method_12_code
def yX8_start : MethodName := ⟨RX8, "start", "(II)I"⟩
abbrev cX8_pass : ByteArray := prog_10_method_13_code
def yX8_pass : MethodName := ⟨RX8, "pass", "(I)I"⟩
abbrev cX8_comes : ByteArray := prog_10_method_14_code
def yX8_comes : MethodName := ⟨RX8, "comes", "(II)Z"⟩
abbrev cX8_drop : ByteArray := prog_10_method_15_code
def yX8_drop : MethodName := ⟨RX8, "drop", "(II)I"⟩
abbrev cX8_pick : ByteArray := prog_10_method_16_code
def yX8_pick : MethodName := ⟨RX8, "pick", "(II)I"⟩
abbrev cX8_of : ByteArray := prog_10_method_17_code
def yX8_of : MethodName := ⟨RX8, "of", "(II)I"⟩
abbrev cX8_thrown : ByteArray := prog_10_method_18_code
def yX8_thrown : MethodName := ⟨RX8, "thrown", "(III)I"⟩
abbrev cX8_count : ByteArray := prog_10_method_19_code
def yX8_count : MethodName := ⟨RX8, "count", "(I)I"⟩
abbrev cX8_firstDrop : ByteArray := prog_10_method_20_code
def yX8_firstDrop : MethodName := ⟨RX8, "firstDrop", "()I"⟩
abbrev cX8_isAsKept : ByteArray := prog_10_method_21_code
def yX8_isAsKept : MethodName := ⟨RX8, "isAsKept", "()Z"⟩
abbrev cX8_comesRound : ByteArray := prog_10_method_22_code
def yX8_comesRound : MethodName := ⟨RX8, "comesRound", "()I"⟩
abbrev cX8_stateBehind : ByteArray := prog_10_method_23_code
def yX8_stateBehind : MethodName := ⟨RX8, "stateBehind", "(II)I"⟩
abbrev cX8_put : ByteArray := prog_10_method_24_code
def yX8_put : MethodName := ⟨RX8, "put", "(J)I"⟩
abbrev cX8_wipe : ByteArray := prog_10_method_25_code
def yX8_wipe : MethodName := ⟨RX8, "wipe", "()I"⟩
abbrev cX8_isAt : ByteArray := prog_10_method_26_code
def yX8_isAt : MethodName := ⟨RX8, "isAt", "(III)Z"⟩
abbrev cX8_fault : ByteArray := prog_10_method_27_code
def yX8_fault : MethodName := ⟨RX8, "fault", "()I"⟩
abbrev cX8_read : ByteArray := prog_10_method_28_code
def yX8_read : MethodName := ⟨RX8, "read", "()I"⟩
abbrev cX8_readsPattern : ByteArray := prog_10_method_29_code
def yX8_readsPattern : MethodName := ⟨RX8, "readsPattern", "()Z"⟩
abbrev cX8_lands : ByteArray := prog_10_method_30_code
def yX8_lands : MethodName := ⟨RX8, "lands", "(I)I"⟩
abbrev cX8_isSound : ByteArray := prog_10_method_31_code
def yX8_isSound : MethodName := ⟨RX8, "isSound", "()Z"⟩
abbrev cX8_sumOfHeights : ByteArray := prog_10_method_32_code
def yX8_sumOfHeights : MethodName := ⟨RX8, "sumOfHeights", "()I"⟩
abbrev cX8_startOf : ByteArray := prog_10_method_33_code
def yX8_startOf : MethodName := ⟨RX8, "startOf", "()I"⟩
abbrev cX8_orbitOf : ByteArray := prog_10_method_34_code
def yX8_orbitOf : MethodName := ⟨RX8, "orbitOf", "(I)I"⟩
abbrev cX8_orbits : ByteArray := prog_10_method_35_code
def yX8_orbits : MethodName := ⟨RX8, "orbits", "()I"⟩
abbrev cX8_comesAgain : ByteArray := prog_10_method_36_code
def yX8_comesAgain : MethodName := ⟨RX8, "comesAgain", "(I)Z"⟩
abbrev cX8_period : ByteArray := prog_10_method_37_code
def yX8_period : MethodName := ⟨RX8, "period", "()I"⟩
abbrev cX8_told : ByteArray := prog_10_method_38_code
def yX8_told : MethodName := ⟨RX8, "told", "(I)I"⟩
abbrev cX8_pattern : ByteArray := prog_10_method_39_code
def yX8_pattern : MethodName := ⟨RX8, "pattern", "(I)I"⟩
abbrev cX8_back : ByteArray := prog_10_method_40_code
def yX8_back : MethodName := ⟨RX8, "back", "(I)I"⟩
abbrev cX8_behind : ByteArray := prog_10_method_41_code
def yX8_behind : MethodName := ⟨RX8, "behind", "(II)I"⟩
abbrev cX8_findWays : ByteArray := prog_10_method_42_code
def yX8_findWays : MethodName := ⟨RX8, "findWays", "(I)V"⟩
abbrev cX8_nextThrow : ByteArray := prog_10_method_43_code
def yX8_nextThrow : MethodName := ⟨RX8, "nextThrow", "(I)I"⟩
abbrev cX8_way : ByteArray := prog_10_method_44_code
def yX8_way : MethodName := ⟨RX8, "way", "(III)I"⟩
abbrev cX8_howMany : ByteArray := prog_10_method_45_code
def yX8_howMany : MethodName := ⟨RX8, "howMany", "(II)I"⟩
abbrev cX8_undo : ByteArray := prog_10_method_46_code
def yX8_undo : MethodName := ⟨RX8, "undo", "()I"⟩
abbrev cX8_save : ByteArray := prog_10_method_47_code
def yX8_save : MethodName := ⟨RX8, "save", "(I)I"⟩
abbrev cX8_restore : ByteArray := prog_10_method_48_code
def yX8_restore : MethodName := ⟨RX8, "restore", "(I)I"⟩
def RJ6 : String := "java/lang/Integer"
def TJ6 : u_T := fun k => match k with
  | _ => ("", "", "", false)
def tyJ6 : Nat → FieldType := fun k => match k with
  | _ => .int
theorem nmJ6 : ∀ a, a < 0 → ∀ b, b < 0 → a ≠ b → (TJ6 a).2.1 ≠ (TJ6 b).2.1 := by decide +kernel
theorem tyJ6_ok : ∀ k, k < 0 → parseFieldDescriptor (TJ6 k).2.2.1 = some (tyJ6 k) := by decide +kernel
abbrev cJ6_bitCount_0f7a4 : ByteArray := prog_11_method_49_code
def yJ6_bitCount_0f7a4 : MethodName := ⟨RJ6, "bitCount", "(I)I"⟩
def RJ9 : String := "java/lang/Math"
def TJ9 : u_T := fun k => match k with
  | _ => ("", "", "", false)
def tyJ9 : Nat → FieldType := fun k => match k with
  | _ => .int
theorem nmJ9 : ∀ a, a < 0 → ∀ b, b < 0 → a ≠ b → (TJ9 a).2.1 ≠ (TJ9 b).2.1 := by decide +kernel
theorem tyJ9_ok : ∀ k, k < 0 → parseFieldDescriptor (TJ9 k).2.2.1 = some (tyJ9 k) := by decide +kernel
abbrev cJ9_floorMod_7cf53 : ByteArray := prog_12_method_50_code
def yJ9_floorMod_7cf53 : MethodName := ⟨RJ9, "floorMod", "(II)I"⟩
def RJ7 : String := "java/util/Arrays"
def TJ7 : u_T := fun k => match k with
  | _ => ("", "", "", false)
def tyJ7 : Nat → FieldType := fun k => match k with
  | _ => .int
theorem nmJ7 : ∀ a, a < 0 → ∀ b, b < 0 → a ≠ b → (TJ7 a).2.1 ≠ (TJ7 b).2.1 := by decide +kernel
theorem tyJ7_ok : ∀ k, k < 0 → parseFieldDescriptor (TJ7 k).2.2.1 = some (tyJ7 k) := by decide +kernel
abbrev cJ7_fill_53178 : ByteArray := prog_13_method_103_code
def yJ7_fill_53178 : MethodName := ⟨RJ7, "fill", "([II)V"⟩
def RL : String := "JugglerStatesLaw"
abbrev cL_law : ByteArray := code
def yL_law : MethodName := ⟨RL, "law", "([I)Z"⟩
abbrev vwCl : List vw_C := [(RX0, TX0, 3), (RX1, TX1, 7), (RX2, TX2, 2), (RX3, TX3, 2), (RX4, TX4, 6), (RX5, TX5, 2), (RX6, TX6, 5), (RX7, TX7, 8), (RX8, TX8, 14)]
theorem dX0_init_0 : decode cX0_init 0 = .ok (.aload_n 0, 1) := by decide +kernel
theorem dX0_init_1 : decode cX0_init 1 = .ok (.invokespecial 3, 3) := by decide +kernel
theorem dX0_init_4 : decode cX0_init 4 = .ok (.aload_n 0, 1) := by decide +kernel
theorem dX0_init_5 : decode cX0_init 5 = .ok (.bipush 6, 2) := by decide +kernel
theorem dX0_init_7 : decode cX0_init 7 = .ok (.anewarray 9, 3) := by decide +kernel
theorem dX0_init_10 : decode cX0_init 10 = .ok (.putfield 11, 3) := by decide +kernel
theorem dX0_init_13 : decode cX0_init 13 = .ok (.iconst 0, 1) := by decide +kernel
theorem dX0_init_14 : decode cX0_init 14 = .ok (.istore_n 1, 1) := by decide +kernel
theorem dX0_init_15 : decode cX0_init 15 = .ok (.iload_n 1, 1) := by decide +kernel
theorem dX0_init_16 : decode cX0_init 16 = .ok (.aload_n 0, 1) := by decide +kernel
theorem dX0_init_17 : decode cX0_init 17 = .ok (.getfield 11, 3) := by decide +kernel
theorem dX0_init_20 : decode cX0_init 20 = .ok (.arraylength, 1) := by decide +kernel
theorem dX0_init_21 : decode cX0_init 21 = .ok (.if_icmp .ge 22, 3) := by decide +kernel
theorem dX0_init_24 : decode cX0_init 24 = .ok (.aload_n 0, 1) := by decide +kernel
theorem dX0_init_25 : decode cX0_init 25 = .ok (.getfield 11, 3) := by decide +kernel
theorem dX0_init_28 : decode cX0_init 28 = .ok (.iload_n 1, 1) := by decide +kernel
theorem dX0_init_29 : decode cX0_init 29 = .ok (.new 9, 3) := by decide +kernel
theorem dX0_init_32 : decode cX0_init 32 = .ok (.dup, 1) := by decide +kernel
theorem dX0_init_33 : decode cX0_init 33 = .ok (.invokespecial 17, 3) := by decide +kernel
theorem dX0_init_36 : decode cX0_init 36 = .ok (.aastore, 1) := by decide +kernel
theorem dX0_init_37 : decode cX0_init 37 = .ok (.iinc 1 1, 3) := by decide +kernel
theorem dX0_init_40 : decode cX0_init 40 = .ok (.goto (-25), 3) := by decide +kernel
theorem dX0_init_43 : decode cX0_init 43 = .ok (.return_, 1) := by decide +kernel
theorem dX0_record_0 : decode cX0_record 0 = .ok (.aload_n 0, 1) := by decide +kernel
theorem dX0_record_1 : decode cX0_record 1 = .ok (.getfield 18, 3) := by decide +kernel
theorem dX0_record_4 : decode cX0_record 4 = .ok (.bipush 6, 2) := by decide +kernel
theorem dX0_record_6 : decode cX0_record 6 = .ok (.if_icmp .ge 16, 3) := by decide +kernel
theorem dX0_record_9 : decode cX0_record 9 = .ok (.aload_n 0, 1) := by decide +kernel
theorem dX0_record_10 : decode cX0_record 10 = .ok (.dup, 1) := by decide +kernel
theorem dX0_record_11 : decode cX0_record 11 = .ok (.getfield 18, 3) := by decide +kernel
theorem dX0_record_14 : decode cX0_record 14 = .ok (.iconst 1, 1) := by decide +kernel
theorem dX0_record_15 : decode cX0_record 15 = .ok (.iadd, 1) := by decide +kernel
theorem dX0_record_16 : decode cX0_record 16 = .ok (.putfield 18, 3) := by decide +kernel
theorem dX0_record_19 : decode cX0_record 19 = .ok (.goto 18, 3) := by decide +kernel
theorem dX0_record_22 : decode cX0_record 22 = .ok (.aload_n 0, 1) := by decide +kernel
theorem dX0_record_23 : decode cX0_record 23 = .ok (.aload_n 0, 1) := by decide +kernel
theorem dX0_record_24 : decode cX0_record 24 = .ok (.getfield 22, 3) := by decide +kernel
theorem dX0_record_27 : decode cX0_record 27 = .ok (.iconst 1, 1) := by decide +kernel
theorem dX0_record_28 : decode cX0_record 28 = .ok (.iadd, 1) := by decide +kernel
theorem dX0_record_29 : decode cX0_record 29 = .ok (.bipush 6, 2) := by decide +kernel
theorem dX0_record_31 : decode cX0_record 31 = .ok (.invokestatic 25, 3) := by decide +kernel
theorem dX0_record_34 : decode cX0_record 34 = .ok (.putfield 22, 3) := by decide +kernel
theorem dX0_record_37 : decode cX0_record 37 = .ok (.aload_n 0, 1) := by decide +kernel
theorem dX0_record_38 : decode cX0_record 38 = .ok (.invokevirtual 29, 3) := by decide +kernel
theorem dX0_record_41 : decode cX0_record 41 = .ok (.astore_n 2, 1) := by decide +kernel
theorem dX0_record_42 : decode cX0_record 42 = .ok (.aload_n 2, 1) := by decide +kernel
theorem dX0_record_43 : decode cX0_record 43 = .ok (.ifnull 8, 3) := by decide +kernel
theorem dX0_record_46 : decode cX0_record 46 = .ok (.aload_n 2, 1) := by decide +kernel
theorem dX0_record_47 : decode cX0_record 47 = .ok (.aload_n 1, 1) := by decide +kernel
theorem dX0_record_48 : decode cX0_record 48 = .ok (.invokevirtual 33, 3) := by decide +kernel
theorem dX0_record_51 : decode cX0_record 51 = .ok (.return_, 1) := by decide +kernel
theorem dX0_takeBack_0 : decode cX0_takeBack 0 = .ok (.aload_n 0, 1) := by decide +kernel
theorem dX0_takeBack_1 : decode cX0_takeBack 1 = .ok (.invokevirtual 29, 3) := by decide +kernel
theorem dX0_takeBack_4 : decode cX0_takeBack 4 = .ok (.astore_n 2, 1) := by decide +kernel
theorem dX0_takeBack_5 : decode cX0_takeBack 5 = .ok (.aload_n 0, 1) := by decide +kernel
theorem dX0_takeBack_6 : decode cX0_takeBack 6 = .ok (.getfield 18, 3) := by decide +kernel
theorem dX0_takeBack_9 : decode cX0_takeBack 9 = .ok (.ifCond .le 22, 3) := by decide +kernel
theorem dX0_takeBack_12 : decode cX0_takeBack 12 = .ok (.aload_n 2, 1) := by decide +kernel
theorem dX0_takeBack_13 : decode cX0_takeBack 13 = .ok (.ifnull 18, 3) := by decide +kernel
theorem dX0_takeBack_16 : decode cX0_takeBack 16 = .ok (.aload_n 1, 1) := by decide +kernel
theorem dX0_takeBack_17 : decode cX0_takeBack 17 = .ok (.aload_n 2, 1) := by decide +kernel
theorem dX0_takeBack_18 : decode cX0_takeBack 18 = .ok (.invokevirtual 33, 3) := by decide +kernel
theorem dX0_takeBack_21 : decode cX0_takeBack 21 = .ok (.aload_n 0, 1) := by decide +kernel
theorem dX0_takeBack_22 : decode cX0_takeBack 22 = .ok (.dup, 1) := by decide +kernel
theorem dX0_takeBack_23 : decode cX0_takeBack 23 = .ok (.getfield 18, 3) := by decide +kernel
theorem dX0_takeBack_26 : decode cX0_takeBack 26 = .ok (.iconst 1, 1) := by decide +kernel
theorem dX0_takeBack_27 : decode cX0_takeBack 27 = .ok (.isub, 1) := by decide +kernel
theorem dX0_takeBack_28 : decode cX0_takeBack 28 = .ok (.putfield 18, 3) := by decide +kernel
theorem dX0_takeBack_31 : decode cX0_takeBack 31 = .ok (.return_, 1) := by decide +kernel
theorem dX0_latest_0 : decode cX0_latest 0 = .ok (.aload_n 0, 1) := by decide +kernel
theorem dX0_latest_1 : decode cX0_latest 1 = .ok (.getfield 22, 3) := by decide +kernel
theorem dX0_latest_4 : decode cX0_latest 4 = .ok (.aload_n 0, 1) := by decide +kernel
theorem dX0_latest_5 : decode cX0_latest 5 = .ok (.getfield 18, 3) := by decide +kernel
theorem dX0_latest_8 : decode cX0_latest 8 = .ok (.iadd, 1) := by decide +kernel
theorem dX0_latest_9 : decode cX0_latest 9 = .ok (.iconst 1, 1) := by decide +kernel
theorem dX0_latest_10 : decode cX0_latest 10 = .ok (.isub, 1) := by decide +kernel
theorem dX0_latest_11 : decode cX0_latest 11 = .ok (.bipush 6, 2) := by decide +kernel
theorem dX0_latest_13 : decode cX0_latest 13 = .ok (.invokestatic 25, 3) := by decide +kernel
theorem dX0_latest_16 : decode cX0_latest 16 = .ok (.istore_n 1, 1) := by decide +kernel
theorem dX0_latest_17 : decode cX0_latest 17 = .ok (.iload_n 1, 1) := by decide +kernel
theorem dX0_latest_18 : decode cX0_latest 18 = .ok (.ifCond .lt 21, 3) := by decide +kernel
theorem dX0_latest_21 : decode cX0_latest 21 = .ok (.iload_n 1, 1) := by decide +kernel
theorem dX0_latest_22 : decode cX0_latest 22 = .ok (.aload_n 0, 1) := by decide +kernel
theorem dX0_latest_23 : decode cX0_latest 23 = .ok (.getfield 11, 3) := by decide +kernel
theorem dX0_latest_26 : decode cX0_latest 26 = .ok (.arraylength, 1) := by decide +kernel
theorem dX0_latest_27 : decode cX0_latest 27 = .ok (.if_icmp .ge 12, 3) := by decide +kernel
theorem dX0_latest_30 : decode cX0_latest 30 = .ok (.aload_n 0, 1) := by decide +kernel
theorem dX0_latest_31 : decode cX0_latest 31 = .ok (.getfield 11, 3) := by decide +kernel
theorem dX0_latest_34 : decode cX0_latest 34 = .ok (.iload_n 1, 1) := by decide +kernel
theorem dX0_latest_35 : decode cX0_latest 35 = .ok (.aaload, 1) := by decide +kernel
theorem dX0_latest_36 : decode cX0_latest 36 = .ok (.goto 4, 3) := by decide +kernel
theorem dX0_latest_39 : decode cX0_latest 39 = .ok (.aconst_null, 1) := by decide +kernel
theorem dX0_latest_40 : decode cX0_latest 40 = .ok (.areturn, 1) := by decide +kernel
theorem dX1_init_0 : decode cX1_init 0 = .ok (.aload_n 0, 1) := by decide +kernel
theorem dX1_init_1 : decode cX1_init 1 = .ok (.invokespecial 3, 3) := by decide +kernel
theorem dX1_init_4 : decode cX1_init 4 = .ok (.aload_n 0, 1) := by decide +kernel
theorem dX1_init_5 : decode cX1_init 5 = .ok (.bipush 8, 2) := by decide +kernel
theorem dX1_init_7 : decode cX1_init 7 = .ok (.newarray .int, 2) := by decide +kernel
theorem dX1_init_9 : decode cX1_init 9 = .ok (.putfield 9, 3) := by decide +kernel
theorem dX1_init_12 : decode cX1_init 12 = .ok (.aload_n 0, 1) := by decide +kernel
theorem dX1_init_13 : decode cX1_init 13 = .ok (.iconst 1, 1) := by decide +kernel
theorem dX1_init_14 : decode cX1_init 14 = .ok (.putfield 15, 3) := by decide +kernel
theorem dX1_init_17 : decode cX1_init 17 = .ok (.return_, 1) := by decide +kernel
theorem dX1_become_0 : decode cX1_become 0 = .ok (.aload_n 0, 1) := by decide +kernel
theorem dX1_become_1 : decode cX1_become 1 = .ok (.aload_n 1, 1) := by decide +kernel
theorem dX1_become_2 : decode cX1_become 2 = .ok (.getfield 19, 3) := by decide +kernel
theorem dX1_become_5 : decode cX1_become 5 = .ok (.putfield 19, 3) := by decide +kernel
theorem dX1_become_8 : decode cX1_become 8 = .ok (.iconst 0, 1) := by decide +kernel
theorem dX1_become_9 : decode cX1_become 9 = .ok (.istore_n 2, 1) := by decide +kernel
theorem dX1_become_10 : decode cX1_become 10 = .ok (.iload_n 2, 1) := by decide +kernel
theorem dX1_become_11 : decode cX1_become 11 = .ok (.bipush 8, 2) := by decide +kernel
theorem dX1_become_13 : decode cX1_become 13 = .ok (.if_icmp .ge 22, 3) := by decide +kernel
theorem dX1_become_16 : decode cX1_become 16 = .ok (.aload_n 0, 1) := by decide +kernel
theorem dX1_become_17 : decode cX1_become 17 = .ok (.getfield 9, 3) := by decide +kernel
theorem dX1_become_20 : decode cX1_become 20 = .ok (.iload_n 2, 1) := by decide +kernel
theorem dX1_become_21 : decode cX1_become 21 = .ok (.aload_n 1, 1) := by decide +kernel
theorem dX1_become_22 : decode cX1_become 22 = .ok (.iload_n 2, 1) := by decide +kernel
theorem dX1_become_23 : decode cX1_become 23 = .ok (.invokevirtual 22, 3) := by decide +kernel
theorem dX1_become_26 : decode cX1_become 26 = .ok (.invokestatic 26, 3) := by decide +kernel
theorem dX1_become_29 : decode cX1_become 29 = .ok (.iinc 2 1, 3) := by decide +kernel
theorem dX1_become_32 : decode cX1_become 32 = .ok (.goto (-22), 3) := by decide +kernel
theorem dX1_become_35 : decode cX1_become 35 = .ok (.aload_n 0, 1) := by decide +kernel
theorem dX1_become_36 : decode cX1_become 36 = .ok (.aload_n 1, 1) := by decide +kernel
theorem dX1_become_37 : decode cX1_become 37 = .ok (.getfield 30, 3) := by decide +kernel
theorem dX1_become_40 : decode cX1_become 40 = .ok (.putfield 30, 3) := by decide +kernel
theorem dX1_become_43 : decode cX1_become 43 = .ok (.aload_n 0, 1) := by decide +kernel
theorem dX1_become_44 : decode cX1_become 44 = .ok (.aload_n 1, 1) := by decide +kernel
theorem dX1_become_45 : decode cX1_become 45 = .ok (.getfield 15, 3) := by decide +kernel
theorem dX1_become_48 : decode cX1_become 48 = .ok (.putfield 15, 3) := by decide +kernel
theorem dX1_become_51 : decode cX1_become 51 = .ok (.aload_n 0, 1) := by decide +kernel
theorem dX1_become_52 : decode cX1_become 52 = .ok (.aload_n 1, 1) := by decide +kernel
theorem dX1_become_53 : decode cX1_become 53 = .ok (.getfield 33, 3) := by decide +kernel
theorem dX1_become_56 : decode cX1_become 56 = .ok (.putfield 33, 3) := by decide +kernel
theorem dX1_become_59 : decode cX1_become 59 = .ok (.aload_n 0, 1) := by decide +kernel
theorem dX1_become_60 : decode cX1_become 60 = .ok (.aload_n 1, 1) := by decide +kernel
theorem dX1_become_61 : decode cX1_become 61 = .ok (.getfield 36, 3) := by decide +kernel
theorem dX1_become_64 : decode cX1_become 64 = .ok (.putfield 36, 3) := by decide +kernel
theorem dX1_become_67 : decode cX1_become 67 = .ok (.aload_n 0, 1) := by decide +kernel
theorem dX1_become_68 : decode cX1_become 68 = .ok (.aload_n 1, 1) := by decide +kernel
theorem dX1_become_69 : decode cX1_become 69 = .ok (.getfield 39, 3) := by decide +kernel
theorem dX1_become_72 : decode cX1_become 72 = .ok (.putfield 39, 3) := by decide +kernel
theorem dX1_become_75 : decode cX1_become 75 = .ok (.return_, 1) := by decide +kernel
theorem dX1_begin_0 : decode cX1_begin 0 = .ok (.aload_n 0, 1) := by decide +kernel
theorem dX1_begin_1 : decode cX1_begin 1 = .ok (.iload_n 1, 1) := by decide +kernel
theorem dX1_begin_2 : decode cX1_begin 2 = .ok (.invokestatic 42, 3) := by decide +kernel
theorem dX1_begin_5 : decode cX1_begin 5 = .ok (.putfield 19, 3) := by decide +kernel
theorem dX1_begin_8 : decode cX1_begin 8 = .ok (.aload_n 0, 1) := by decide +kernel
theorem dX1_begin_9 : decode cX1_begin 9 = .ok (.iconst 0, 1) := by decide +kernel
theorem dX1_begin_10 : decode cX1_begin 10 = .ok (.putfield 33, 3) := by decide +kernel
theorem dX1_begin_13 : decode cX1_begin 13 = .ok (.aload_n 0, 1) := by decide +kernel
theorem dX1_begin_14 : decode cX1_begin 14 = .ok (.iconst 0, 1) := by decide +kernel
theorem dX1_begin_15 : decode cX1_begin 15 = .ok (.putfield 36, 3) := by decide +kernel
theorem dX1_begin_18 : decode cX1_begin 18 = .ok (.aload_n 0, 1) := by decide +kernel
theorem dX1_begin_19 : decode cX1_begin 19 = .ok (.iconst 0, 1) := by decide +kernel
theorem dX1_begin_20 : decode cX1_begin 20 = .ok (.putfield 39, 3) := by decide +kernel
theorem dX1_begin_23 : decode cX1_begin 23 = .ok (.return_, 1) := by decide +kernel
theorem dX1_learn_0 : decode cX1_learn 0 = .ok (.aload_n 0, 1) := by decide +kernel
theorem dX1_learn_1 : decode cX1_learn 1 = .ok (.iconst 0, 1) := by decide +kernel
theorem dX1_learn_2 : decode cX1_learn 2 = .ok (.putfield 15, 3) := by decide +kernel
theorem dX1_learn_5 : decode cX1_learn 5 = .ok (.aload_n 0, 1) := by decide +kernel
theorem dX1_learn_6 : decode cX1_learn 6 = .ok (.iconst 0, 1) := by decide +kernel
theorem dX1_learn_7 : decode cX1_learn 7 = .ok (.putfield 30, 3) := by decide +kernel
theorem dX1_learn_10 : decode cX1_learn 10 = .ok (.aload_n 0, 1) := by decide +kernel
theorem dX1_learn_11 : decode cX1_learn 11 = .ok (.iconst 0, 1) := by decide +kernel
theorem dX1_learn_12 : decode cX1_learn 12 = .ok (.putfield 33, 3) := by decide +kernel
theorem dX1_learn_15 : decode cX1_learn 15 = .ok (.iconst 2, 1) := by decide +kernel
theorem dX1_learn_16 : decode cX1_learn 16 = .ok (.istore_n 2, 1) := by decide +kernel
theorem dX1_learn_17 : decode cX1_learn 17 = .ok (.iload_n 2, 1) := by decide +kernel
theorem dX1_learn_18 : decode cX1_learn 18 = .ok (.aload_n 1, 1) := by decide +kernel
theorem dX1_learn_19 : decode cX1_learn 19 = .ok (.getfield 47, 3) := by decide +kernel
theorem dX1_learn_22 : decode cX1_learn 22 = .ok (.if_icmp .ge 63, 3) := by decide +kernel
theorem dX1_learn_25 : decode cX1_learn 25 = .ok (.aload_n 1, 1) := by decide +kernel
theorem dX1_learn_26 : decode cX1_learn 26 = .ok (.iload_n 2, 1) := by decide +kernel
theorem dX1_learn_27 : decode cX1_learn 27 = .ok (.invokevirtual 50, 3) := by decide +kernel
theorem dX1_learn_30 : decode cX1_learn 30 = .ok (.ifCond .eq 32, 3) := by decide +kernel
theorem dX1_learn_33 : decode cX1_learn 33 = .ok (.aload_n 0, 1) := by decide +kernel
theorem dX1_learn_34 : decode cX1_learn 34 = .ok (.getfield 9, 3) := by decide +kernel
theorem dX1_learn_37 : decode cX1_learn 37 = .ok (.aload_n 0, 1) := by decide +kernel
theorem dX1_learn_38 : decode cX1_learn 38 = .ok (.getfield 15, 3) := by decide +kernel
theorem dX1_learn_41 : decode cX1_learn 41 = .ok (.aload_n 1, 1) := by decide +kernel
theorem dX1_learn_42 : decode cX1_learn 42 = .ok (.iload_n 2, 1) := by decide +kernel
theorem dX1_learn_43 : decode cX1_learn 43 = .ok (.invokevirtual 54, 3) := by decide +kernel
theorem dX1_learn_46 : decode cX1_learn 46 = .ok (.invokestatic 26, 3) := by decide +kernel
theorem dX1_learn_49 : decode cX1_learn 49 = .ok (.aload_n 0, 1) := by decide +kernel
theorem dX1_learn_50 : decode cX1_learn 50 = .ok (.dup, 1) := by decide +kernel
theorem dX1_learn_51 : decode cX1_learn 51 = .ok (.getfield 15, 3) := by decide +kernel
theorem dX1_learn_54 : decode cX1_learn 54 = .ok (.iconst 1, 1) := by decide +kernel
theorem dX1_learn_55 : decode cX1_learn 55 = .ok (.iadd, 1) := by decide +kernel
theorem dX1_learn_56 : decode cX1_learn 56 = .ok (.putfield 15, 3) := by decide +kernel
theorem dX1_learn_59 : decode cX1_learn 59 = .ok (.goto 20, 3) := by decide +kernel
theorem dX1_learn_62 : decode cX1_learn 62 = .ok (.aload_n 0, 1) := by decide +kernel
theorem dX1_learn_63 : decode cX1_learn 63 = .ok (.dup, 1) := by decide +kernel
theorem dX1_learn_64 : decode cX1_learn 64 = .ok (.getfield 30, 3) := by decide +kernel
theorem dX1_learn_67 : decode cX1_learn 67 = .ok (.iconst 1, 1) := by decide +kernel
theorem dX1_learn_68 : decode cX1_learn 68 = .ok (.aload_n 0, 1) := by decide +kernel
theorem dX1_learn_69 : decode cX1_learn 69 = .ok (.getfield 15, 3) := by decide +kernel
theorem dX1_learn_72 : decode cX1_learn 72 = .ok (.iconst 1, 1) := by decide +kernel
theorem dX1_learn_73 : decode cX1_learn 73 = .ok (.isub, 1) := by decide +kernel
theorem dX1_learn_74 : decode cX1_learn 74 = .ok (.ishl, 1) := by decide +kernel
theorem dX1_learn_75 : decode cX1_learn 75 = .ok (.ior, 1) := by decide +kernel
theorem dX1_learn_76 : decode cX1_learn 76 = .ok (.putfield 30, 3) := by decide +kernel
theorem dX1_learn_79 : decode cX1_learn 79 = .ok (.iinc 2 1, 3) := by decide +kernel
theorem dX1_learn_82 : decode cX1_learn 82 = .ok (.goto (-65), 3) := by decide +kernel
theorem dX1_learn_85 : decode cX1_learn 85 = .ok (.return_, 1) := by decide +kernel
theorem dX1_clubs_0 : decode cX1_clubs 0 = .ok (.aload_n 0, 1) := by decide +kernel
theorem dX1_clubs_1 : decode cX1_clubs 1 = .ok (.getfield 19, 3) := by decide +kernel
theorem dX1_clubs_4 : decode cX1_clubs 4 = .ok (.invokestatic 57, 3) := by decide +kernel
theorem dX1_clubs_7 : decode cX1_clubs 7 = .ok (.ireturn, 1) := by decide +kernel
theorem dX1_heightAt_0 : decode cX1_heightAt 0 = .ok (.aload_n 0, 1) := by decide +kernel
theorem dX1_heightAt_1 : decode cX1_heightAt 1 = .ok (.getfield 9, 3) := by decide +kernel
theorem dX1_heightAt_4 : decode cX1_heightAt 4 = .ok (.iload_n 1, 1) := by decide +kernel
theorem dX1_heightAt_5 : decode cX1_heightAt 5 = .ok (.invokestatic 62, 3) := by decide +kernel
theorem dX1_heightAt_8 : decode cX1_heightAt 8 = .ok (.ireturn, 1) := by decide +kernel
theorem dX1_isPassAt_0 : decode cX1_isPassAt 0 = .ok (.aload_n 0, 1) := by decide +kernel
theorem dX1_isPassAt_1 : decode cX1_isPassAt 1 = .ok (.getfield 30, 3) := by decide +kernel
theorem dX1_isPassAt_4 : decode cX1_isPassAt 4 = .ok (.iload_n 1, 1) := by decide +kernel
theorem dX1_isPassAt_5 : decode cX1_isPassAt 5 = .ok (.invokestatic 66, 3) := by decide +kernel
theorem dX1_isPassAt_8 : decode cX1_isPassAt 8 = .ok (.ireturn, 1) := by decide +kernel
theorem dX1_expects_0 : decode cX1_expects 0 = .ok (.aload_n 0, 1) := by decide +kernel
theorem dX1_expects_1 : decode cX1_expects 1 = .ok (.getfield 19, 3) := by decide +kernel
theorem dX1_expects_4 : decode cX1_expects 4 = .ok (.iload_n 1, 1) := by decide +kernel
theorem dX1_expects_5 : decode cX1_expects 5 = .ok (.invokestatic 66, 3) := by decide +kernel
theorem dX1_expects_8 : decode cX1_expects 8 = .ok (.ireturn, 1) := by decide +kernel
theorem dX1_expect_0 : decode cX1_expect 0 = .ok (.aload_n 0, 1) := by decide +kernel
theorem dX1_expect_1 : decode cX1_expect 1 = .ok (.dup, 1) := by decide +kernel
theorem dX1_expect_2 : decode cX1_expect 2 = .ok (.getfield 19, 3) := by decide +kernel
theorem dX1_expect_5 : decode cX1_expect 5 = .ok (.iconst 1, 1) := by decide +kernel
theorem dX1_expect_6 : decode cX1_expect 6 = .ok (.iload_n 1, 1) := by decide +kernel
theorem dX1_expect_7 : decode cX1_expect 7 = .ok (.ishl, 1) := by decide +kernel
theorem dX1_expect_8 : decode cX1_expect 8 = .ok (.ior, 1) := by decide +kernel
theorem dX1_expect_9 : decode cX1_expect 9 = .ok (.putfield 19, 3) := by decide +kernel
theorem dX1_expect_12 : decode cX1_expect 12 = .ok (.return_, 1) := by decide +kernel
theorem dX1_lose_0 : decode cX1_lose 0 = .ok (.aload_n 0, 1) := by decide +kernel
theorem dX1_lose_1 : decode cX1_lose 1 = .ok (.dup, 1) := by decide +kernel
theorem dX1_lose_2 : decode cX1_lose 2 = .ok (.getfield 19, 3) := by decide +kernel
theorem dX1_lose_5 : decode cX1_lose 5 = .ok (.iconst 1, 1) := by decide +kernel
theorem dX1_lose_6 : decode cX1_lose 6 = .ok (.iload_n 1, 1) := by decide +kernel
theorem dX1_lose_7 : decode cX1_lose 7 = .ok (.ishl, 1) := by decide +kernel
theorem dX1_lose_8 : decode cX1_lose 8 = .ok (.iconst (-1), 1) := by decide +kernel
theorem dX1_lose_9 : decode cX1_lose 9 = .ok (.ixor, 1) := by decide +kernel
theorem dX1_lose_10 : decode cX1_lose 10 = .ok (.iand, 1) := by decide +kernel
theorem dX1_lose_11 : decode cX1_lose 11 = .ok (.putfield 19, 3) := by decide +kernel
theorem dX1_lose_14 : decode cX1_lose 14 = .ok (.return_, 1) := by decide +kernel
theorem dX1_endBeat_0 : decode cX1_endBeat 0 = .ok (.aload_n 0, 1) := by decide +kernel
theorem dX1_endBeat_1 : decode cX1_endBeat 1 = .ok (.dup, 1) := by decide +kernel
theorem dX1_endBeat_2 : decode cX1_endBeat 2 = .ok (.getfield 19, 3) := by decide +kernel
theorem dX1_endBeat_5 : decode cX1_endBeat 5 = .ok (.iconst 1, 1) := by decide +kernel
theorem dX1_endBeat_6 : decode cX1_endBeat 6 = .ok (.ishr, 1) := by decide +kernel
theorem dX1_endBeat_7 : decode cX1_endBeat 7 = .ok (.putfield 19, 3) := by decide +kernel
theorem dX1_endBeat_10 : decode cX1_endBeat 10 = .ok (.aload_n 0, 1) := by decide +kernel
theorem dX1_endBeat_11 : decode cX1_endBeat 11 = .ok (.dup, 1) := by decide +kernel
theorem dX1_endBeat_12 : decode cX1_endBeat 12 = .ok (.getfield 33, 3) := by decide +kernel
theorem dX1_endBeat_15 : decode cX1_endBeat 15 = .ok (.iconst 1, 1) := by decide +kernel
theorem dX1_endBeat_16 : decode cX1_endBeat 16 = .ok (.iadd, 1) := by decide +kernel
theorem dX1_endBeat_17 : decode cX1_endBeat 17 = .ok (.putfield 33, 3) := by decide +kernel
theorem dX1_endBeat_20 : decode cX1_endBeat 20 = .ok (.aload_n 0, 1) := by decide +kernel
theorem dX1_endBeat_21 : decode cX1_endBeat 21 = .ok (.getfield 33, 3) := by decide +kernel
theorem dX1_endBeat_24 : decode cX1_endBeat 24 = .ok (.aload_n 0, 1) := by decide +kernel
theorem dX1_endBeat_25 : decode cX1_endBeat 25 = .ok (.getfield 15, 3) := by decide +kernel
theorem dX1_endBeat_28 : decode cX1_endBeat 28 = .ok (.if_icmp .lt 8, 3) := by decide +kernel
theorem dX1_endBeat_31 : decode cX1_endBeat 31 = .ok (.aload_n 0, 1) := by decide +kernel
theorem dX1_endBeat_32 : decode cX1_endBeat 32 = .ok (.iconst 0, 1) := by decide +kernel
theorem dX1_endBeat_33 : decode cX1_endBeat 33 = .ok (.putfield 33, 3) := by decide +kernel
theorem dX1_endBeat_36 : decode cX1_endBeat 36 = .ok (.return_, 1) := by decide +kernel
theorem dX1_standsLike_0 : decode cX1_standsLike 0 = .ok (.aload_n 0, 1) := by decide +kernel
theorem dX1_standsLike_1 : decode cX1_standsLike 1 = .ok (.getfield 19, 3) := by decide +kernel
theorem dX1_standsLike_4 : decode cX1_standsLike 4 = .ok (.aload_n 1, 1) := by decide +kernel
theorem dX1_standsLike_5 : decode cX1_standsLike 5 = .ok (.getfield 19, 3) := by decide +kernel
theorem dX1_standsLike_8 : decode cX1_standsLike 8 = .ok (.if_icmp .ne 18, 3) := by decide +kernel
theorem dX1_standsLike_11 : decode cX1_standsLike 11 = .ok (.aload_n 0, 1) := by decide +kernel
theorem dX1_standsLike_12 : decode cX1_standsLike 12 = .ok (.getfield 33, 3) := by decide +kernel
theorem dX1_standsLike_15 : decode cX1_standsLike 15 = .ok (.aload_n 1, 1) := by decide +kernel
theorem dX1_standsLike_16 : decode cX1_standsLike 16 = .ok (.getfield 33, 3) := by decide +kernel
theorem dX1_standsLike_19 : decode cX1_standsLike 19 = .ok (.if_icmp .ne 7, 3) := by decide +kernel
theorem dX1_standsLike_22 : decode cX1_standsLike 22 = .ok (.iconst 1, 1) := by decide +kernel
theorem dX1_standsLike_23 : decode cX1_standsLike 23 = .ok (.goto 4, 3) := by decide +kernel
theorem dX1_standsLike_26 : decode cX1_standsLike 26 = .ok (.iconst 0, 1) := by decide +kernel
theorem dX1_standsLike_27 : decode cX1_standsLike 27 = .ok (.ireturn, 1) := by decide +kernel
theorem dX2_init_0 : decode cX2_init 0 = .ok (.aload_n 0, 1) := by decide +kernel
theorem dX2_init_1 : decode cX2_init 1 = .ok (.invokespecial 3, 3) := by decide +kernel
theorem dX2_init_4 : decode cX2_init 4 = .ok (.aload_n 0, 1) := by decide +kernel
theorem dX2_init_5 : decode cX2_init 5 = .ok (.bipush 30, 2) := by decide +kernel
theorem dX2_init_7 : decode cX2_init 7 = .ok (.newarray .int, 2) := by decide +kernel
theorem dX2_init_9 : decode cX2_init 9 = .ok (.putfield 9, 3) := by decide +kernel
theorem dX2_init_12 : decode cX2_init 12 = .ok (.return_, 1) := by decide +kernel
theorem dX2_append_0 : decode cX2_append 0 = .ok (.aload_n 0, 1) := by decide +kernel
theorem dX2_append_1 : decode cX2_append 1 = .ok (.getfield 9, 3) := by decide +kernel
theorem dX2_append_4 : decode cX2_append 4 = .ok (.aload_n 0, 1) := by decide +kernel
theorem dX2_append_5 : decode cX2_append 5 = .ok (.getfield 15, 3) := by decide +kernel
theorem dX2_append_8 : decode cX2_append 8 = .ok (.iload_n 1, 1) := by decide +kernel
theorem dX2_append_9 : decode cX2_append 9 = .ok (.invokestatic 19, 3) := by decide +kernel
theorem dX2_append_12 : decode cX2_append 12 = .ok (.aload_n 0, 1) := by decide +kernel
theorem dX2_append_13 : decode cX2_append 13 = .ok (.dup, 1) := by decide +kernel
theorem dX2_append_14 : decode cX2_append 14 = .ok (.getfield 15, 3) := by decide +kernel
theorem dX2_append_17 : decode cX2_append 17 = .ok (.iconst 1, 1) := by decide +kernel
theorem dX2_append_18 : decode cX2_append 18 = .ok (.iadd, 1) := by decide +kernel
theorem dX2_append_19 : decode cX2_append 19 = .ok (.putfield 15, 3) := by decide +kernel
theorem dX2_append_22 : decode cX2_append 22 = .ok (.return_, 1) := by decide +kernel
theorem dX2_clear_0 : decode cX2_clear 0 = .ok (.aload_n 0, 1) := by decide +kernel
theorem dX2_clear_1 : decode cX2_clear 1 = .ok (.iconst 0, 1) := by decide +kernel
theorem dX2_clear_2 : decode cX2_clear 2 = .ok (.putfield 15, 3) := by decide +kernel
theorem dX2_clear_5 : decode cX2_clear 5 = .ok (.return_, 1) := by decide +kernel
theorem dX2_codeAt_0 : decode cX2_codeAt 0 = .ok (.aload_n 0, 1) := by decide +kernel
theorem dX2_codeAt_1 : decode cX2_codeAt 1 = .ok (.getfield 9, 3) := by decide +kernel
theorem dX2_codeAt_4 : decode cX2_codeAt 4 = .ok (.iload_n 1, 1) := by decide +kernel
theorem dX2_codeAt_5 : decode cX2_codeAt 5 = .ok (.invokestatic 23, 3) := by decide +kernel
theorem dX2_codeAt_8 : decode cX2_codeAt 8 = .ok (.ireturn, 1) := by decide +kernel
theorem dX2_digit_0 : decode cX2_digit 0 = .ok (.aload_n 0, 1) := by decide +kernel
theorem dX2_digit_1 : decode cX2_digit 1 = .ok (.iload_n 1, 1) := by decide +kernel
theorem dX2_digit_2 : decode cX2_digit 2 = .ok (.invokevirtual 27, 3) := by decide +kernel
theorem dX2_digit_5 : decode cX2_digit 5 = .ok (.bipush 48, 2) := by decide +kernel
theorem dX2_digit_7 : decode cX2_digit 7 = .ok (.isub, 1) := by decide +kernel
theorem dX2_digit_8 : decode cX2_digit 8 = .ok (.ireturn, 1) := by decide +kernel
theorem dX2_isHeightAt_0 : decode cX2_isHeightAt 0 = .ok (.aload_n 0, 1) := by decide +kernel
theorem dX2_isHeightAt_1 : decode cX2_isHeightAt 1 = .ok (.iload_n 1, 1) := by decide +kernel
theorem dX2_isHeightAt_2 : decode cX2_isHeightAt 2 = .ok (.invokevirtual 27, 3) := by decide +kernel
theorem dX2_isHeightAt_5 : decode cX2_isHeightAt 5 = .ok (.invokestatic 31, 3) := by decide +kernel
theorem dX2_isHeightAt_8 : decode cX2_isHeightAt 8 = .ok (.ireturn, 1) := by decide +kernel
theorem dX2_programFault_0 : decode cX2_programFault 0 = .ok (.iconst 0, 1) := by decide +kernel
theorem dX2_programFault_1 : decode cX2_programFault 1 = .ok (.istore_n 1, 1) := by decide +kernel
theorem dX2_programFault_2 : decode cX2_programFault 2 = .ok (.iconst 0, 1) := by decide +kernel
theorem dX2_programFault_3 : decode cX2_programFault 3 = .ok (.istore_n 2, 1) := by decide +kernel
theorem dX2_programFault_4 : decode cX2_programFault 4 = .ok (.iload_n 2, 1) := by decide +kernel
theorem dX2_programFault_5 : decode cX2_programFault 5 = .ok (.aload_n 0, 1) := by decide +kernel
theorem dX2_programFault_6 : decode cX2_programFault 6 = .ok (.getfield 15, 3) := by decide +kernel
theorem dX2_programFault_9 : decode cX2_programFault 9 = .ok (.if_icmp .ge 36, 3) := by decide +kernel
theorem dX2_programFault_12 : decode cX2_programFault 12 = .ok (.aload_n 0, 1) := by decide +kernel
theorem dX2_programFault_13 : decode cX2_programFault 13 = .ok (.iload_n 2, 1) := by decide +kernel
theorem dX2_programFault_14 : decode cX2_programFault 14 = .ok (.iload_n 1, 1) := by decide +kernel
theorem dX2_programFault_15 : decode cX2_programFault 15 = .ok (.invokevirtual 35, 3) := by decide +kernel
theorem dX2_programFault_18 : decode cX2_programFault 18 = .ok (.ifCond .ne 5, 3) := by decide +kernel
theorem dX2_programFault_21 : decode cX2_programFault 21 = .ok (.iload_n 2, 1) := by decide +kernel
theorem dX2_programFault_22 : decode cX2_programFault 22 = .ok (.ireturn, 1) := by decide +kernel
theorem dX2_programFault_23 : decode cX2_programFault 23 = .ok (.iload_n 2, 1) := by decide +kernel
theorem dX2_programFault_24 : decode cX2_programFault 24 = .ok (.iconst 2, 1) := by decide +kernel
theorem dX2_programFault_25 : decode cX2_programFault 25 = .ok (.if_icmp .lt 14, 3) := by decide +kernel
theorem dX2_programFault_28 : decode cX2_programFault 28 = .ok (.aload_n 0, 1) := by decide +kernel
theorem dX2_programFault_29 : decode cX2_programFault 29 = .ok (.iload_n 2, 1) := by decide +kernel
theorem dX2_programFault_30 : decode cX2_programFault 30 = .ok (.invokevirtual 39, 3) := by decide +kernel
theorem dX2_programFault_33 : decode cX2_programFault 33 = .ok (.ifCond .eq 6, 3) := by decide +kernel
theorem dX2_programFault_36 : decode cX2_programFault 36 = .ok (.iinc 1 1, 3) := by decide +kernel
theorem dX2_programFault_39 : decode cX2_programFault 39 = .ok (.iinc 2 1, 3) := by decide +kernel
theorem dX2_programFault_42 : decode cX2_programFault 42 = .ok (.goto (-38), 3) := by decide +kernel
theorem dX2_programFault_45 : decode cX2_programFault 45 = .ok (.iload_n 1, 1) := by decide +kernel
theorem dX2_programFault_46 : decode cX2_programFault 46 = .ok (.ifCond .ne 10, 3) := by decide +kernel
theorem dX2_programFault_49 : decode cX2_programFault 49 = .ok (.aload_n 0, 1) := by decide +kernel
theorem dX2_programFault_50 : decode cX2_programFault 50 = .ok (.getfield 15, 3) := by decide +kernel
theorem dX2_programFault_53 : decode cX2_programFault 53 = .ok (.goto 5, 3) := by decide +kernel
theorem dX2_programFault_56 : decode cX2_programFault 56 = .ok (.bipush (-6), 2) := by decide +kernel
theorem dX2_programFault_58 : decode cX2_programFault 58 = .ok (.ireturn, 1) := by decide +kernel
theorem dX2_canStand_0 : decode cX2_canStand 0 = .ok (.aload_n 0, 1) := by decide +kernel
theorem dX2_canStand_1 : decode cX2_canStand 1 = .ok (.iload_n 1, 1) := by decide +kernel
theorem dX2_canStand_2 : decode cX2_canStand 2 = .ok (.invokevirtual 27, 3) := by decide +kernel
theorem dX2_canStand_5 : decode cX2_canStand 5 = .ok (.istore_n 3, 1) := by decide +kernel
theorem dX2_canStand_6 : decode cX2_canStand 6 = .ok (.iload_n 1, 1) := by decide +kernel
theorem dX2_canStand_7 : decode cX2_canStand 7 = .ok (.ifCond .ne 21, 3) := by decide +kernel
theorem dX2_canStand_10 : decode cX2_canStand 10 = .ok (.iload_n 3, 1) := by decide +kernel
theorem dX2_canStand_11 : decode cX2_canStand 11 = .ok (.bipush 48, 2) := by decide +kernel
theorem dX2_canStand_13 : decode cX2_canStand 13 = .ok (.if_icmp .eq 9, 3) := by decide +kernel
theorem dX2_canStand_16 : decode cX2_canStand 16 = .ok (.iload_n 3, 1) := by decide +kernel
theorem dX2_canStand_17 : decode cX2_canStand 17 = .ok (.bipush 49, 2) := by decide +kernel
theorem dX2_canStand_19 : decode cX2_canStand 19 = .ok (.if_icmp .ne 7, 3) := by decide +kernel
theorem dX2_canStand_22 : decode cX2_canStand 22 = .ok (.iconst 1, 1) := by decide +kernel
theorem dX2_canStand_23 : decode cX2_canStand 23 = .ok (.goto 4, 3) := by decide +kernel
theorem dX2_canStand_26 : decode cX2_canStand 26 = .ok (.iconst 0, 1) := by decide +kernel
theorem dX2_canStand_27 : decode cX2_canStand 27 = .ok (.ireturn, 1) := by decide +kernel
theorem dX2_canStand_28 : decode cX2_canStand 28 = .ok (.iload_n 1, 1) := by decide +kernel
theorem dX2_canStand_29 : decode cX2_canStand 29 = .ok (.iconst 1, 1) := by decide +kernel
theorem dX2_canStand_30 : decode cX2_canStand 30 = .ok (.if_icmp .ne 15, 3) := by decide +kernel
theorem dX2_canStand_33 : decode cX2_canStand 33 = .ok (.iload_n 3, 1) := by decide +kernel
theorem dX2_canStand_34 : decode cX2_canStand 34 = .ok (.bipush 58, 2) := by decide +kernel
theorem dX2_canStand_36 : decode cX2_canStand 36 = .ok (.if_icmp .ne 7, 3) := by decide +kernel
theorem dX2_canStand_39 : decode cX2_canStand 39 = .ok (.iconst 1, 1) := by decide +kernel
theorem dX2_canStand_40 : decode cX2_canStand 40 = .ok (.goto 4, 3) := by decide +kernel
theorem dX2_canStand_43 : decode cX2_canStand 43 = .ok (.iconst 0, 1) := by decide +kernel
theorem dX2_canStand_44 : decode cX2_canStand 44 = .ok (.ireturn, 1) := by decide +kernel
theorem dX2_canStand_45 : decode cX2_canStand 45 = .ok (.iload_n 3, 1) := by decide +kernel
theorem dX2_canStand_46 : decode cX2_canStand 46 = .ok (.bipush 112, 2) := by decide +kernel
theorem dX2_canStand_48 : decode cX2_canStand 48 = .ok (.if_icmp .ne 29, 3) := by decide +kernel
theorem dX2_canStand_51 : decode cX2_canStand 51 = .ok (.aload_n 0, 1) := by decide +kernel
theorem dX2_canStand_52 : decode cX2_canStand 52 = .ok (.iload_n 1, 1) := by decide +kernel
theorem dX2_canStand_53 : decode cX2_canStand 53 = .ok (.iconst 1, 1) := by decide +kernel
theorem dX2_canStand_54 : decode cX2_canStand 54 = .ok (.isub, 1) := by decide +kernel
theorem dX2_canStand_55 : decode cX2_canStand 55 = .ok (.invokevirtual 39, 3) := by decide +kernel
theorem dX2_canStand_58 : decode cX2_canStand 58 = .ok (.ifCond .eq 17, 3) := by decide +kernel
theorem dX2_canStand_61 : decode cX2_canStand 61 = .ok (.aload_n 0, 1) := by decide +kernel
theorem dX2_canStand_62 : decode cX2_canStand 62 = .ok (.iload_n 1, 1) := by decide +kernel
theorem dX2_canStand_63 : decode cX2_canStand 63 = .ok (.iconst 1, 1) := by decide +kernel
theorem dX2_canStand_64 : decode cX2_canStand 64 = .ok (.isub, 1) := by decide +kernel
theorem dX2_canStand_65 : decode cX2_canStand 65 = .ok (.invokevirtual 42, 3) := by decide +kernel
theorem dX2_canStand_68 : decode cX2_canStand 68 = .ok (.ifCond .eq 7, 3) := by decide +kernel
theorem dX2_canStand_71 : decode cX2_canStand 71 = .ok (.iconst 1, 1) := by decide +kernel
theorem dX2_canStand_72 : decode cX2_canStand 72 = .ok (.goto 4, 3) := by decide +kernel
theorem dX2_canStand_75 : decode cX2_canStand 75 = .ok (.iconst 0, 1) := by decide +kernel
theorem dX2_canStand_76 : decode cX2_canStand 76 = .ok (.ireturn, 1) := by decide +kernel
theorem dX2_canStand_77 : decode cX2_canStand 77 = .ok (.iload_n 3, 1) := by decide +kernel
theorem dX2_canStand_78 : decode cX2_canStand 78 = .ok (.invokestatic 31, 3) := by decide +kernel
theorem dX2_canStand_81 : decode cX2_canStand 81 = .ok (.ifCond .eq 13, 3) := by decide +kernel
theorem dX2_canStand_84 : decode cX2_canStand 84 = .ok (.iload_n 2, 1) := by decide +kernel
theorem dX2_canStand_85 : decode cX2_canStand 85 = .ok (.bipush 8, 2) := by decide +kernel
theorem dX2_canStand_87 : decode cX2_canStand 87 = .ok (.if_icmp .ge 7, 3) := by decide +kernel
theorem dX2_canStand_90 : decode cX2_canStand 90 = .ok (.iconst 1, 1) := by decide +kernel
theorem dX2_canStand_91 : decode cX2_canStand 91 = .ok (.goto 4, 3) := by decide +kernel
theorem dX2_canStand_94 : decode cX2_canStand 94 = .ok (.iconst 0, 1) := by decide +kernel
theorem dX2_canStand_95 : decode cX2_canStand 95 = .ok (.ireturn, 1) := by decide +kernel
theorem dX3_init_0 : decode cX3_init 0 = .ok (.aload_n 0, 1) := by decide +kernel
theorem dX3_init_1 : decode cX3_init 1 = .ok (.invokespecial 3, 3) := by decide +kernel
theorem dX3_init_4 : decode cX3_init 4 = .ok (.aload_n 0, 1) := by decide +kernel
theorem dX3_init_5 : decode cX3_init 5 = .ok (.bipush 8, 2) := by decide +kernel
theorem dX3_init_7 : decode cX3_init 7 = .ok (.newarray .int, 2) := by decide +kernel
theorem dX3_init_9 : decode cX3_init 9 = .ok (.putfield 9, 3) := by decide +kernel
theorem dX3_init_12 : decode cX3_init 12 = .ok (.return_, 1) := by decide +kernel
theorem dX3_learn_0 : decode cX3_learn 0 = .ok (.aload_n 1, 1) := by decide +kernel
theorem dX3_learn_1 : decode cX3_learn 1 = .ok (.getfield 15, 3) := by decide +kernel
theorem dX3_learn_4 : decode cX3_learn 4 = .ok (.iconst 1, 1) := by decide +kernel
theorem dX3_learn_5 : decode cX3_learn 5 = .ok (.bipush 8, 2) := by decide +kernel
theorem dX3_learn_7 : decode cX3_learn 7 = .ok (.invokestatic 21, 3) := by decide +kernel
theorem dX3_learn_10 : decode cX3_learn 10 = .ok (.ifCond .ne 5, 3) := by decide +kernel
theorem dX3_learn_13 : decode cX3_learn 13 = .ok (.iconst 0, 1) := by decide +kernel
theorem dX3_learn_14 : decode cX3_learn 14 = .ok (.ireturn, 1) := by decide +kernel
theorem dX3_learn_15 : decode cX3_learn 15 = .ok (.iconst 0, 1) := by decide +kernel
theorem dX3_learn_16 : decode cX3_learn 16 = .ok (.istore_n 2, 1) := by decide +kernel
theorem dX3_learn_17 : decode cX3_learn 17 = .ok (.iload_n 2, 1) := by decide +kernel
theorem dX3_learn_18 : decode cX3_learn 18 = .ok (.aload_n 1, 1) := by decide +kernel
theorem dX3_learn_19 : decode cX3_learn 19 = .ok (.getfield 15, 3) := by decide +kernel
theorem dX3_learn_22 : decode cX3_learn 22 = .ok (.if_icmp .ge 32, 3) := by decide +kernel
theorem dX3_learn_25 : decode cX3_learn 25 = .ok (.aload_n 1, 1) := by decide +kernel
theorem dX3_learn_26 : decode cX3_learn 26 = .ok (.iload_n 2, 1) := by decide +kernel
theorem dX3_learn_27 : decode cX3_learn 27 = .ok (.invokevirtual 25, 3) := by decide +kernel
theorem dX3_learn_30 : decode cX3_learn 30 = .ok (.ifCond .ne 5, 3) := by decide +kernel
theorem dX3_learn_33 : decode cX3_learn 33 = .ok (.iconst 0, 1) := by decide +kernel
theorem dX3_learn_34 : decode cX3_learn 34 = .ok (.ireturn, 1) := by decide +kernel
theorem dX3_learn_35 : decode cX3_learn 35 = .ok (.aload_n 0, 1) := by decide +kernel
theorem dX3_learn_36 : decode cX3_learn 36 = .ok (.getfield 9, 3) := by decide +kernel
theorem dX3_learn_39 : decode cX3_learn 39 = .ok (.iload_n 2, 1) := by decide +kernel
theorem dX3_learn_40 : decode cX3_learn 40 = .ok (.aload_n 1, 1) := by decide +kernel
theorem dX3_learn_41 : decode cX3_learn 41 = .ok (.iload_n 2, 1) := by decide +kernel
theorem dX3_learn_42 : decode cX3_learn 42 = .ok (.invokevirtual 29, 3) := by decide +kernel
theorem dX3_learn_45 : decode cX3_learn 45 = .ok (.invokestatic 33, 3) := by decide +kernel
theorem dX3_learn_48 : decode cX3_learn 48 = .ok (.iinc 2 1, 3) := by decide +kernel
theorem dX3_learn_51 : decode cX3_learn 51 = .ok (.goto (-34), 3) := by decide +kernel
theorem dX3_learn_54 : decode cX3_learn 54 = .ok (.aload_n 0, 1) := by decide +kernel
theorem dX3_learn_55 : decode cX3_learn 55 = .ok (.aload_n 1, 1) := by decide +kernel
theorem dX3_learn_56 : decode cX3_learn 56 = .ok (.getfield 15, 3) := by decide +kernel
theorem dX3_learn_59 : decode cX3_learn 59 = .ok (.putfield 37, 3) := by decide +kernel
theorem dX3_learn_62 : decode cX3_learn 62 = .ok (.iconst 1, 1) := by decide +kernel
theorem dX3_learn_63 : decode cX3_learn 63 = .ok (.ireturn, 1) := by decide +kernel
theorem dX3_heightAt_0 : decode cX3_heightAt 0 = .ok (.aload_n 0, 1) := by decide +kernel
theorem dX3_heightAt_1 : decode cX3_heightAt 1 = .ok (.getfield 9, 3) := by decide +kernel
theorem dX3_heightAt_4 : decode cX3_heightAt 4 = .ok (.iload_n 1, 1) := by decide +kernel
theorem dX3_heightAt_5 : decode cX3_heightAt 5 = .ok (.aload_n 0, 1) := by decide +kernel
theorem dX3_heightAt_6 : decode cX3_heightAt 6 = .ok (.getfield 37, 3) := by decide +kernel
theorem dX3_heightAt_9 : decode cX3_heightAt 9 = .ok (.invokestatic 38, 3) := by decide +kernel
theorem dX3_heightAt_12 : decode cX3_heightAt 12 = .ok (.invokestatic 42, 3) := by decide +kernel
theorem dX3_heightAt_15 : decode cX3_heightAt 15 = .ok (.ireturn, 1) := by decide +kernel
theorem dX3_landing_0 : decode cX3_landing 0 = .ok (.iload_n 1, 1) := by decide +kernel
theorem dX3_landing_1 : decode cX3_landing 1 = .ok (.aload_n 0, 1) := by decide +kernel
theorem dX3_landing_2 : decode cX3_landing 2 = .ok (.iload_n 1, 1) := by decide +kernel
theorem dX3_landing_3 : decode cX3_landing 3 = .ok (.invokevirtual 46, 3) := by decide +kernel
theorem dX3_landing_6 : decode cX3_landing 6 = .ok (.iadd, 1) := by decide +kernel
theorem dX3_landing_7 : decode cX3_landing 7 = .ok (.aload_n 0, 1) := by decide +kernel
theorem dX3_landing_8 : decode cX3_landing 8 = .ok (.getfield 37, 3) := by decide +kernel
theorem dX3_landing_11 : decode cX3_landing 11 = .ok (.invokestatic 38, 3) := by decide +kernel
theorem dX3_landing_14 : decode cX3_landing 14 = .ok (.ireturn, 1) := by decide +kernel
theorem dX3_isSound_0 : decode cX3_isSound 0 = .ok (.iconst 0, 1) := by decide +kernel
theorem dX3_isSound_1 : decode cX3_isSound 1 = .ok (.istore_n 1, 1) := by decide +kernel
theorem dX3_isSound_2 : decode cX3_isSound 2 = .ok (.iconst 0, 1) := by decide +kernel
theorem dX3_isSound_3 : decode cX3_isSound 3 = .ok (.istore_n 2, 1) := by decide +kernel
theorem dX3_isSound_4 : decode cX3_isSound 4 = .ok (.iload_n 2, 1) := by decide +kernel
theorem dX3_isSound_5 : decode cX3_isSound 5 = .ok (.aload_n 0, 1) := by decide +kernel
theorem dX3_isSound_6 : decode cX3_isSound 6 = .ok (.getfield 37, 3) := by decide +kernel
theorem dX3_isSound_9 : decode cX3_isSound 9 = .ok (.if_icmp .ge 19, 3) := by decide +kernel
theorem dX3_isSound_12 : decode cX3_isSound 12 = .ok (.iload_n 1, 1) := by decide +kernel
theorem dX3_isSound_13 : decode cX3_isSound 13 = .ok (.iconst 1, 1) := by decide +kernel
theorem dX3_isSound_14 : decode cX3_isSound 14 = .ok (.aload_n 0, 1) := by decide +kernel
theorem dX3_isSound_15 : decode cX3_isSound 15 = .ok (.iload_n 2, 1) := by decide +kernel
theorem dX3_isSound_16 : decode cX3_isSound 16 = .ok (.invokevirtual 49, 3) := by decide +kernel
theorem dX3_isSound_19 : decode cX3_isSound 19 = .ok (.ishl, 1) := by decide +kernel
theorem dX3_isSound_20 : decode cX3_isSound 20 = .ok (.ior, 1) := by decide +kernel
theorem dX3_isSound_21 : decode cX3_isSound 21 = .ok (.istore_n 1, 1) := by decide +kernel
theorem dX3_isSound_22 : decode cX3_isSound 22 = .ok (.iinc 2 1, 3) := by decide +kernel
theorem dX3_isSound_25 : decode cX3_isSound 25 = .ok (.goto (-21), 3) := by decide +kernel
theorem dX3_isSound_28 : decode cX3_isSound 28 = .ok (.iload_n 1, 1) := by decide +kernel
theorem dX3_isSound_29 : decode cX3_isSound 29 = .ok (.iconst 1, 1) := by decide +kernel
theorem dX3_isSound_30 : decode cX3_isSound 30 = .ok (.aload_n 0, 1) := by decide +kernel
theorem dX3_isSound_31 : decode cX3_isSound 31 = .ok (.getfield 37, 3) := by decide +kernel
theorem dX3_isSound_34 : decode cX3_isSound 34 = .ok (.ishl, 1) := by decide +kernel
theorem dX3_isSound_35 : decode cX3_isSound 35 = .ok (.iconst 1, 1) := by decide +kernel
theorem dX3_isSound_36 : decode cX3_isSound 36 = .ok (.isub, 1) := by decide +kernel
theorem dX3_isSound_37 : decode cX3_isSound 37 = .ok (.if_icmp .ne 7, 3) := by decide +kernel
theorem dX3_isSound_40 : decode cX3_isSound 40 = .ok (.iconst 1, 1) := by decide +kernel
theorem dX3_isSound_41 : decode cX3_isSound 41 = .ok (.goto 4, 3) := by decide +kernel
theorem dX3_isSound_44 : decode cX3_isSound 44 = .ok (.iconst 0, 1) := by decide +kernel
theorem dX3_isSound_45 : decode cX3_isSound 45 = .ok (.ireturn, 1) := by decide +kernel
theorem dX3_clubs_0 : decode cX3_clubs 0 = .ok (.iconst 0, 1) := by decide +kernel
theorem dX3_clubs_1 : decode cX3_clubs 1 = .ok (.istore_n 1, 1) := by decide +kernel
theorem dX3_clubs_2 : decode cX3_clubs 2 = .ok (.iconst 0, 1) := by decide +kernel
theorem dX3_clubs_3 : decode cX3_clubs 3 = .ok (.istore_n 2, 1) := by decide +kernel
theorem dX3_clubs_4 : decode cX3_clubs 4 = .ok (.iload_n 2, 1) := by decide +kernel
theorem dX3_clubs_5 : decode cX3_clubs 5 = .ok (.aload_n 0, 1) := by decide +kernel
theorem dX3_clubs_6 : decode cX3_clubs 6 = .ok (.getfield 37, 3) := by decide +kernel
theorem dX3_clubs_9 : decode cX3_clubs 9 = .ok (.if_icmp .ge 17, 3) := by decide +kernel
theorem dX3_clubs_12 : decode cX3_clubs 12 = .ok (.iload_n 1, 1) := by decide +kernel
theorem dX3_clubs_13 : decode cX3_clubs 13 = .ok (.aload_n 0, 1) := by decide +kernel
theorem dX3_clubs_14 : decode cX3_clubs 14 = .ok (.iload_n 2, 1) := by decide +kernel
theorem dX3_clubs_15 : decode cX3_clubs 15 = .ok (.invokevirtual 46, 3) := by decide +kernel
theorem dX3_clubs_18 : decode cX3_clubs 18 = .ok (.iadd, 1) := by decide +kernel
theorem dX3_clubs_19 : decode cX3_clubs 19 = .ok (.istore_n 1, 1) := by decide +kernel
theorem dX3_clubs_20 : decode cX3_clubs 20 = .ok (.iinc 2 1, 3) := by decide +kernel
theorem dX3_clubs_23 : decode cX3_clubs 23 = .ok (.goto (-19), 3) := by decide +kernel
theorem dX3_clubs_26 : decode cX3_clubs 26 = .ok (.aload_n 0, 1) := by decide +kernel
theorem dX3_clubs_27 : decode cX3_clubs 27 = .ok (.getfield 37, 3) := by decide +kernel
theorem dX3_clubs_30 : decode cX3_clubs 30 = .ok (.ifCond .le 12, 3) := by decide +kernel
theorem dX3_clubs_33 : decode cX3_clubs 33 = .ok (.iload_n 1, 1) := by decide +kernel
theorem dX3_clubs_34 : decode cX3_clubs 34 = .ok (.aload_n 0, 1) := by decide +kernel
theorem dX3_clubs_35 : decode cX3_clubs 35 = .ok (.getfield 37, 3) := by decide +kernel
theorem dX3_clubs_38 : decode cX3_clubs 38 = .ok (.idiv, 1) := by decide +kernel
theorem dX3_clubs_39 : decode cX3_clubs 39 = .ok (.goto 4, 3) := by decide +kernel
theorem dX3_clubs_42 : decode cX3_clubs 42 = .ok (.iconst 0, 1) := by decide +kernel
theorem dX3_clubs_43 : decode cX3_clubs 43 = .ok (.ireturn, 1) := by decide +kernel
theorem dX3_startState_0 : decode cX3_startState 0 = .ok (.iconst 0, 1) := by decide +kernel
theorem dX3_startState_1 : decode cX3_startState 1 = .ok (.istore_n 1, 1) := by decide +kernel
theorem dX3_startState_2 : decode cX3_startState 2 = .ok (.bipush (-7), 2) := by decide +kernel
theorem dX3_startState_4 : decode cX3_startState 4 = .ok (.istore_n 2, 1) := by decide +kernel
theorem dX3_startState_5 : decode cX3_startState 5 = .ok (.iload_n 2, 1) := by decide +kernel
theorem dX3_startState_6 : decode cX3_startState 6 = .ok (.ifCond .ge 27, 3) := by decide +kernel
theorem dX3_startState_9 : decode cX3_startState 9 = .ok (.iload_n 2, 1) := by decide +kernel
theorem dX3_startState_10 : decode cX3_startState 10 = .ok (.aload_n 0, 1) := by decide +kernel
theorem dX3_startState_11 : decode cX3_startState 11 = .ok (.iload_n 2, 1) := by decide +kernel
theorem dX3_startState_12 : decode cX3_startState 12 = .ok (.invokevirtual 46, 3) := by decide +kernel
theorem dX3_startState_15 : decode cX3_startState 15 = .ok (.iadd, 1) := by decide +kernel
theorem dX3_startState_16 : decode cX3_startState 16 = .ok (.istore_n 3, 1) := by decide +kernel
theorem dX3_startState_17 : decode cX3_startState 17 = .ok (.iload_n 3, 1) := by decide +kernel
theorem dX3_startState_18 : decode cX3_startState 18 = .ok (.ifCond .lt 9, 3) := by decide +kernel
theorem dX3_startState_21 : decode cX3_startState 21 = .ok (.iload_n 1, 1) := by decide +kernel
theorem dX3_startState_22 : decode cX3_startState 22 = .ok (.iconst 1, 1) := by decide +kernel
theorem dX3_startState_23 : decode cX3_startState 23 = .ok (.iload_n 3, 1) := by decide +kernel
theorem dX3_startState_24 : decode cX3_startState 24 = .ok (.ishl, 1) := by decide +kernel
theorem dX3_startState_25 : decode cX3_startState 25 = .ok (.ior, 1) := by decide +kernel
theorem dX3_startState_26 : decode cX3_startState 26 = .ok (.istore_n 1, 1) := by decide +kernel
theorem dX3_startState_27 : decode cX3_startState 27 = .ok (.iinc 2 1, 3) := by decide +kernel
theorem dX3_startState_30 : decode cX3_startState 30 = .ok (.goto (-25), 3) := by decide +kernel
theorem dX3_startState_33 : decode cX3_startState 33 = .ok (.iload_n 1, 1) := by decide +kernel
theorem dX3_startState_34 : decode cX3_startState 34 = .ok (.ireturn, 1) := by decide +kernel
theorem dX3_orbits_0 : decode cX3_orbits 0 = .ok (.iconst 0, 1) := by decide +kernel
theorem dX3_orbits_1 : decode cX3_orbits 1 = .ok (.istore_n 1, 1) := by decide +kernel
theorem dX3_orbits_2 : decode cX3_orbits 2 = .ok (.iconst 0, 1) := by decide +kernel
theorem dX3_orbits_3 : decode cX3_orbits 3 = .ok (.istore_n 2, 1) := by decide +kernel
theorem dX3_orbits_4 : decode cX3_orbits 4 = .ok (.iconst 0, 1) := by decide +kernel
theorem dX3_orbits_5 : decode cX3_orbits 5 = .ok (.istore_n 3, 1) := by decide +kernel
theorem dX3_orbits_6 : decode cX3_orbits 6 = .ok (.iload_n 3, 1) := by decide +kernel
theorem dX3_orbits_7 : decode cX3_orbits 7 = .ok (.aload_n 0, 1) := by decide +kernel
theorem dX3_orbits_8 : decode cX3_orbits 8 = .ok (.getfield 37, 3) := by decide +kernel
theorem dX3_orbits_11 : decode cX3_orbits 11 = .ok (.if_icmp .ge 37, 3) := by decide +kernel
theorem dX3_orbits_14 : decode cX3_orbits 14 = .ok (.aload_n 0, 1) := by decide +kernel
theorem dX3_orbits_15 : decode cX3_orbits 15 = .ok (.iload_n 3, 1) := by decide +kernel
theorem dX3_orbits_16 : decode cX3_orbits 16 = .ok (.invokevirtual 52, 3) := by decide +kernel
theorem dX3_orbits_19 : decode cX3_orbits 19 = .ok (.istore 4, 2) := by decide +kernel
theorem dX3_orbits_21 : decode cX3_orbits 21 = .ok (.iload 4, 2) := by decide +kernel
theorem dX3_orbits_23 : decode cX3_orbits 23 = .ok (.ifCond .eq 14, 3) := by decide +kernel
theorem dX3_orbits_26 : decode cX3_orbits 26 = .ok (.iload_n 2, 1) := by decide +kernel
theorem dX3_orbits_27 : decode cX3_orbits 27 = .ok (.iload_n 3, 1) := by decide +kernel
theorem dX3_orbits_28 : decode cX3_orbits 28 = .ok (.invokestatic 55, 3) := by decide +kernel
theorem dX3_orbits_31 : decode cX3_orbits 31 = .ok (.ifCond .ne 6, 3) := by decide +kernel
theorem dX3_orbits_34 : decode cX3_orbits 34 = .ok (.iinc 1 1, 3) := by decide +kernel
theorem dX3_orbits_37 : decode cX3_orbits 37 = .ok (.iload_n 2, 1) := by decide +kernel
theorem dX3_orbits_38 : decode cX3_orbits 38 = .ok (.iload 4, 2) := by decide +kernel
theorem dX3_orbits_40 : decode cX3_orbits 40 = .ok (.ior, 1) := by decide +kernel
theorem dX3_orbits_41 : decode cX3_orbits 41 = .ok (.istore_n 2, 1) := by decide +kernel
theorem dX3_orbits_42 : decode cX3_orbits 42 = .ok (.iinc 3 1, 3) := by decide +kernel
theorem dX3_orbits_45 : decode cX3_orbits 45 = .ok (.goto (-39), 3) := by decide +kernel
theorem dX3_orbits_48 : decode cX3_orbits 48 = .ok (.iload_n 1, 1) := by decide +kernel
theorem dX3_orbits_49 : decode cX3_orbits 49 = .ok (.ireturn, 1) := by decide +kernel
theorem dX3_orbitThrough_0 : decode cX3_orbitThrough 0 = .ok (.aload_n 0, 1) := by decide +kernel
theorem dX3_orbitThrough_1 : decode cX3_orbitThrough 1 = .ok (.iload_n 1, 1) := by decide +kernel
theorem dX3_orbitThrough_2 : decode cX3_orbitThrough 2 = .ok (.invokevirtual 46, 3) := by decide +kernel
theorem dX3_orbitThrough_5 : decode cX3_orbitThrough 5 = .ok (.ifCond .ne 5, 3) := by decide +kernel
theorem dX3_orbitThrough_8 : decode cX3_orbitThrough 8 = .ok (.iconst 0, 1) := by decide +kernel
theorem dX3_orbitThrough_9 : decode cX3_orbitThrough 9 = .ok (.ireturn, 1) := by decide +kernel
theorem dX3_orbitThrough_10 : decode cX3_orbitThrough 10 = .ok (.iconst 0, 1) := by decide +kernel
theorem dX3_orbitThrough_11 : decode cX3_orbitThrough 11 = .ok (.istore_n 2, 1) := by decide +kernel
theorem dX3_orbitThrough_12 : decode cX3_orbitThrough 12 = .ok (.iload_n 1, 1) := by decide +kernel
theorem dX3_orbitThrough_13 : decode cX3_orbitThrough 13 = .ok (.istore_n 3, 1) := by decide +kernel
theorem dX3_orbitThrough_14 : decode cX3_orbitThrough 14 = .ok (.iconst 0, 1) := by decide +kernel
theorem dX3_orbitThrough_15 : decode cX3_orbitThrough 15 = .ok (.istore 4, 2) := by decide +kernel
theorem dX3_orbitThrough_17 : decode cX3_orbitThrough 17 = .ok (.iload 4, 2) := by decide +kernel
theorem dX3_orbitThrough_19 : decode cX3_orbitThrough 19 = .ok (.aload_n 0, 1) := by decide +kernel
theorem dX3_orbitThrough_20 : decode cX3_orbitThrough 20 = .ok (.getfield 37, 3) := by decide +kernel
theorem dX3_orbitThrough_23 : decode cX3_orbitThrough 23 = .ok (.if_icmp .ge 21, 3) := by decide +kernel
theorem dX3_orbitThrough_26 : decode cX3_orbitThrough 26 = .ok (.iload_n 2, 1) := by decide +kernel
theorem dX3_orbitThrough_27 : decode cX3_orbitThrough 27 = .ok (.iconst 1, 1) := by decide +kernel
theorem dX3_orbitThrough_28 : decode cX3_orbitThrough 28 = .ok (.iload_n 3, 1) := by decide +kernel
theorem dX3_orbitThrough_29 : decode cX3_orbitThrough 29 = .ok (.ishl, 1) := by decide +kernel
theorem dX3_orbitThrough_30 : decode cX3_orbitThrough 30 = .ok (.ior, 1) := by decide +kernel
theorem dX3_orbitThrough_31 : decode cX3_orbitThrough 31 = .ok (.istore_n 2, 1) := by decide +kernel
theorem dX3_orbitThrough_32 : decode cX3_orbitThrough 32 = .ok (.aload_n 0, 1) := by decide +kernel
theorem dX3_orbitThrough_33 : decode cX3_orbitThrough 33 = .ok (.iload_n 3, 1) := by decide +kernel
theorem dX3_orbitThrough_34 : decode cX3_orbitThrough 34 = .ok (.invokevirtual 49, 3) := by decide +kernel
theorem dX3_orbitThrough_37 : decode cX3_orbitThrough 37 = .ok (.istore_n 3, 1) := by decide +kernel
theorem dX3_orbitThrough_38 : decode cX3_orbitThrough 38 = .ok (.iinc 4 1, 3) := by decide +kernel
theorem dX3_orbitThrough_41 : decode cX3_orbitThrough 41 = .ok (.goto (-24), 3) := by decide +kernel
theorem dX3_orbitThrough_44 : decode cX3_orbitThrough 44 = .ok (.iload_n 2, 1) := by decide +kernel
theorem dX3_orbitThrough_45 : decode cX3_orbitThrough 45 = .ok (.ireturn, 1) := by decide +kernel
theorem dX3_period_0 : decode cX3_period 0 = .ok (.iconst 1, 1) := by decide +kernel
theorem dX3_period_1 : decode cX3_period 1 = .ok (.istore_n 1, 1) := by decide +kernel
theorem dX3_period_2 : decode cX3_period 2 = .ok (.iload_n 1, 1) := by decide +kernel
theorem dX3_period_3 : decode cX3_period 3 = .ok (.aload_n 0, 1) := by decide +kernel
theorem dX3_period_4 : decode cX3_period 4 = .ok (.getfield 37, 3) := by decide +kernel
theorem dX3_period_7 : decode cX3_period 7 = .ok (.if_icmp .ge 19, 3) := by decide +kernel
theorem dX3_period_10 : decode cX3_period 10 = .ok (.aload_n 0, 1) := by decide +kernel
theorem dX3_period_11 : decode cX3_period 11 = .ok (.iload_n 1, 1) := by decide +kernel
theorem dX3_period_12 : decode cX3_period 12 = .ok (.invokevirtual 59, 3) := by decide +kernel
theorem dX3_period_15 : decode cX3_period 15 = .ok (.ifCond .eq 5, 3) := by decide +kernel
theorem dX3_period_18 : decode cX3_period 18 = .ok (.iload_n 1, 1) := by decide +kernel
theorem dX3_period_19 : decode cX3_period 19 = .ok (.ireturn, 1) := by decide +kernel
theorem dX3_period_20 : decode cX3_period 20 = .ok (.iinc 1 1, 3) := by decide +kernel
theorem dX3_period_23 : decode cX3_period 23 = .ok (.goto (-21), 3) := by decide +kernel
theorem dX3_period_26 : decode cX3_period 26 = .ok (.aload_n 0, 1) := by decide +kernel
theorem dX3_period_27 : decode cX3_period 27 = .ok (.getfield 37, 3) := by decide +kernel
theorem dX3_period_30 : decode cX3_period 30 = .ok (.ireturn, 1) := by decide +kernel
theorem dX3_comesAgainBehind_0 : decode cX3_comesAgainBehind 0 = .ok (.iconst 0, 1) := by decide +kernel
theorem dX3_comesAgainBehind_1 : decode cX3_comesAgainBehind 1 = .ok (.istore_n 2, 1) := by decide +kernel
theorem dX3_comesAgainBehind_2 : decode cX3_comesAgainBehind 2 = .ok (.iload_n 2, 1) := by decide +kernel
theorem dX3_comesAgainBehind_3 : decode cX3_comesAgainBehind 3 = .ok (.aload_n 0, 1) := by decide +kernel
theorem dX3_comesAgainBehind_4 : decode cX3_comesAgainBehind 4 = .ok (.getfield 37, 3) := by decide +kernel
theorem dX3_comesAgainBehind_7 : decode cX3_comesAgainBehind 7 = .ok (.if_icmp .ge 26, 3) := by decide +kernel
theorem dX3_comesAgainBehind_10 : decode cX3_comesAgainBehind 10 = .ok (.aload_n 0, 1) := by decide +kernel
theorem dX3_comesAgainBehind_11 : decode cX3_comesAgainBehind 11 = .ok (.iload_n 2, 1) := by decide +kernel
theorem dX3_comesAgainBehind_12 : decode cX3_comesAgainBehind 12 = .ok (.invokevirtual 46, 3) := by decide +kernel
theorem dX3_comesAgainBehind_15 : decode cX3_comesAgainBehind 15 = .ok (.aload_n 0, 1) := by decide +kernel
theorem dX3_comesAgainBehind_16 : decode cX3_comesAgainBehind 16 = .ok (.iload_n 2, 1) := by decide +kernel
theorem dX3_comesAgainBehind_17 : decode cX3_comesAgainBehind 17 = .ok (.iload_n 1, 1) := by decide +kernel
theorem dX3_comesAgainBehind_18 : decode cX3_comesAgainBehind 18 = .ok (.iadd, 1) := by decide +kernel
theorem dX3_comesAgainBehind_19 : decode cX3_comesAgainBehind 19 = .ok (.invokevirtual 46, 3) := by decide +kernel
theorem dX3_comesAgainBehind_22 : decode cX3_comesAgainBehind 22 = .ok (.if_icmp .eq 5, 3) := by decide +kernel
theorem dX3_comesAgainBehind_25 : decode cX3_comesAgainBehind 25 = .ok (.iconst 0, 1) := by decide +kernel
theorem dX3_comesAgainBehind_26 : decode cX3_comesAgainBehind 26 = .ok (.ireturn, 1) := by decide +kernel
theorem dX3_comesAgainBehind_27 : decode cX3_comesAgainBehind 27 = .ok (.iinc 2 1, 3) := by decide +kernel
theorem dX3_comesAgainBehind_30 : decode cX3_comesAgainBehind 30 = .ok (.goto (-28), 3) := by decide +kernel
theorem dX3_comesAgainBehind_33 : decode cX3_comesAgainBehind 33 = .ok (.iconst 1, 1) := by decide +kernel
theorem dX3_comesAgainBehind_34 : decode cX3_comesAgainBehind 34 = .ok (.ireturn, 1) := by decide +kernel
theorem dX3_heightTurnedBack_0 : decode cX3_heightTurnedBack 0 = .ok (.iconst 0, 1) := by decide +kernel
theorem dX3_heightTurnedBack_1 : decode cX3_heightTurnedBack 1 = .ok (.istore_n 2, 1) := by decide +kernel
theorem dX3_heightTurnedBack_2 : decode cX3_heightTurnedBack 2 = .ok (.iload_n 2, 1) := by decide +kernel
theorem dX3_heightTurnedBack_3 : decode cX3_heightTurnedBack 3 = .ok (.aload_n 0, 1) := by decide +kernel
theorem dX3_heightTurnedBack_4 : decode cX3_heightTurnedBack 4 = .ok (.getfield 37, 3) := by decide +kernel
theorem dX3_heightTurnedBack_7 : decode cX3_heightTurnedBack 7 = .ok (.if_icmp .ge 31, 3) := by decide +kernel
theorem dX3_heightTurnedBack_10 : decode cX3_heightTurnedBack 10 = .ok (.aload_n 0, 1) := by decide +kernel
theorem dX3_heightTurnedBack_11 : decode cX3_heightTurnedBack 11 = .ok (.getfield 37, 3) := by decide +kernel
theorem dX3_heightTurnedBack_14 : decode cX3_heightTurnedBack 14 = .ok (.iconst 1, 1) := by decide +kernel
theorem dX3_heightTurnedBack_15 : decode cX3_heightTurnedBack 15 = .ok (.isub, 1) := by decide +kernel
theorem dX3_heightTurnedBack_16 : decode cX3_heightTurnedBack 16 = .ok (.aload_n 0, 1) := by decide +kernel
theorem dX3_heightTurnedBack_17 : decode cX3_heightTurnedBack 17 = .ok (.iload_n 2, 1) := by decide +kernel
theorem dX3_heightTurnedBack_18 : decode cX3_heightTurnedBack 18 = .ok (.invokevirtual 49, 3) := by decide +kernel
theorem dX3_heightTurnedBack_21 : decode cX3_heightTurnedBack 21 = .ok (.isub, 1) := by decide +kernel
theorem dX3_heightTurnedBack_22 : decode cX3_heightTurnedBack 22 = .ok (.iload_n 1, 1) := by decide +kernel
theorem dX3_heightTurnedBack_23 : decode cX3_heightTurnedBack 23 = .ok (.if_icmp .ne 9, 3) := by decide +kernel
theorem dX3_heightTurnedBack_26 : decode cX3_heightTurnedBack 26 = .ok (.aload_n 0, 1) := by decide +kernel
theorem dX3_heightTurnedBack_27 : decode cX3_heightTurnedBack 27 = .ok (.iload_n 2, 1) := by decide +kernel
theorem dX3_heightTurnedBack_28 : decode cX3_heightTurnedBack 28 = .ok (.invokevirtual 46, 3) := by decide +kernel
theorem dX3_heightTurnedBack_31 : decode cX3_heightTurnedBack 31 = .ok (.ireturn, 1) := by decide +kernel
theorem dX3_heightTurnedBack_32 : decode cX3_heightTurnedBack 32 = .ok (.iinc 2 1, 3) := by decide +kernel
theorem dX3_heightTurnedBack_35 : decode cX3_heightTurnedBack 35 = .ok (.goto (-33), 3) := by decide +kernel
theorem dX3_heightTurnedBack_38 : decode cX3_heightTurnedBack 38 = .ok (.iconst 0, 1) := by decide +kernel
theorem dX3_heightTurnedBack_39 : decode cX3_heightTurnedBack 39 = .ok (.ireturn, 1) := by decide +kernel
theorem dX4_init_0 : decode cX4_init 0 = .ok (.aload_n 0, 1) := by decide +kernel
theorem dX4_init_1 : decode cX4_init 1 = .ok (.invokespecial 1, 3) := by decide +kernel
theorem dX4_init_4 : decode cX4_init 4 = .ok (.aload_n 0, 1) := by decide +kernel
theorem dX4_init_5 : decode cX4_init 5 = .ok (.new 7, 3) := by decide +kernel
theorem dX4_init_8 : decode cX4_init 8 = .ok (.dup, 1) := by decide +kernel
theorem dX4_init_9 : decode cX4_init 9 = .ok (.invokespecial 9, 3) := by decide +kernel
theorem dX4_init_12 : decode cX4_init 12 = .ok (.putfield 10, 3) := by decide +kernel
theorem dX4_init_15 : decode cX4_init 15 = .ok (.aload_n 0, 1) := by decide +kernel
theorem dX4_init_16 : decode cX4_init 16 = .ok (.new 7, 3) := by decide +kernel
theorem dX4_init_19 : decode cX4_init 19 = .ok (.dup, 1) := by decide +kernel
theorem dX4_init_20 : decode cX4_init 20 = .ok (.invokespecial 9, 3) := by decide +kernel
theorem dX4_init_23 : decode cX4_init 23 = .ok (.putfield 16, 3) := by decide +kernel
theorem dX4_init_26 : decode cX4_init 26 = .ok (.return_, 1) := by decide +kernel
theorem dX4_become_0 : decode cX4_become 0 = .ok (.aload_n 0, 1) := by decide +kernel
theorem dX4_become_1 : decode cX4_become 1 = .ok (.getfield 10, 3) := by decide +kernel
theorem dX4_become_4 : decode cX4_become 4 = .ok (.aload_n 1, 1) := by decide +kernel
theorem dX4_become_5 : decode cX4_become 5 = .ok (.getfield 10, 3) := by decide +kernel
theorem dX4_become_8 : decode cX4_become 8 = .ok (.invokevirtual 19, 3) := by decide +kernel
theorem dX4_become_11 : decode cX4_become 11 = .ok (.aload_n 0, 1) := by decide +kernel
theorem dX4_become_12 : decode cX4_become 12 = .ok (.getfield 16, 3) := by decide +kernel
theorem dX4_become_15 : decode cX4_become 15 = .ok (.aload_n 1, 1) := by decide +kernel
theorem dX4_become_16 : decode cX4_become 16 = .ok (.getfield 16, 3) := by decide +kernel
theorem dX4_become_19 : decode cX4_become 19 = .ok (.invokevirtual 19, 3) := by decide +kernel
theorem dX4_become_22 : decode cX4_become 22 = .ok (.aload_n 0, 1) := by decide +kernel
theorem dX4_become_23 : decode cX4_become 23 = .ok (.aload_n 1, 1) := by decide +kernel
theorem dX4_become_24 : decode cX4_become 24 = .ok (.getfield 23, 3) := by decide +kernel
theorem dX4_become_27 : decode cX4_become 27 = .ok (.putfield 23, 3) := by decide +kernel
theorem dX4_become_30 : decode cX4_become 30 = .ok (.aload_n 0, 1) := by decide +kernel
theorem dX4_become_31 : decode cX4_become 31 = .ok (.aload_n 1, 1) := by decide +kernel
theorem dX4_become_32 : decode cX4_become 32 = .ok (.getfield 27, 3) := by decide +kernel
theorem dX4_become_35 : decode cX4_become 35 = .ok (.putfield 27, 3) := by decide +kernel
theorem dX4_become_38 : decode cX4_become 38 = .ok (.aload_n 0, 1) := by decide +kernel
theorem dX4_become_39 : decode cX4_become 39 = .ok (.aload_n 1, 1) := by decide +kernel
theorem dX4_become_40 : decode cX4_become 40 = .ok (.getfield 30, 3) := by decide +kernel
theorem dX4_become_43 : decode cX4_become 43 = .ok (.putfield 30, 3) := by decide +kernel
theorem dX4_become_46 : decode cX4_become 46 = .ok (.aload_n 0, 1) := by decide +kernel
theorem dX4_become_47 : decode cX4_become 47 = .ok (.aload_n 1, 1) := by decide +kernel
theorem dX4_become_48 : decode cX4_become 48 = .ok (.getfield 33, 3) := by decide +kernel
theorem dX4_become_51 : decode cX4_become 51 = .ok (.putfield 33, 3) := by decide +kernel
theorem dX4_become_54 : decode cX4_become 54 = .ok (.return_, 1) := by decide +kernel
theorem dX4_begin_0 : decode cX4_begin 0 = .ok (.aload_n 0, 1) := by decide +kernel
theorem dX4_begin_1 : decode cX4_begin 1 = .ok (.getfield 10, 3) := by decide +kernel
theorem dX4_begin_4 : decode cX4_begin 4 = .ok (.iload_n 1, 1) := by decide +kernel
theorem dX4_begin_5 : decode cX4_begin 5 = .ok (.invokevirtual 36, 3) := by decide +kernel
theorem dX4_begin_8 : decode cX4_begin 8 = .ok (.aload_n 0, 1) := by decide +kernel
theorem dX4_begin_9 : decode cX4_begin 9 = .ok (.getfield 16, 3) := by decide +kernel
theorem dX4_begin_12 : decode cX4_begin 12 = .ok (.iload_n 2, 1) := by decide +kernel
theorem dX4_begin_13 : decode cX4_begin 13 = .ok (.invokevirtual 36, 3) := by decide +kernel
theorem dX4_begin_16 : decode cX4_begin 16 = .ok (.aload_n 0, 1) := by decide +kernel
theorem dX4_begin_17 : decode cX4_begin 17 = .ok (.iconst 0, 1) := by decide +kernel
theorem dX4_begin_18 : decode cX4_begin 18 = .ok (.putfield 23, 3) := by decide +kernel
theorem dX4_begin_21 : decode cX4_begin 21 = .ok (.aload_n 0, 1) := by decide +kernel
theorem dX4_begin_22 : decode cX4_begin 22 = .ok (.iconst 0, 1) := by decide +kernel
theorem dX4_begin_23 : decode cX4_begin 23 = .ok (.putfield 27, 3) := by decide +kernel
theorem dX4_begin_26 : decode cX4_begin 26 = .ok (.aload_n 0, 1) := by decide +kernel
theorem dX4_begin_27 : decode cX4_begin 27 = .ok (.iconst 0, 1) := by decide +kernel
theorem dX4_begin_28 : decode cX4_begin 28 = .ok (.putfield 30, 3) := by decide +kernel
theorem dX4_begin_31 : decode cX4_begin 31 = .ok (.aload_n 0, 1) := by decide +kernel
theorem dX4_begin_32 : decode cX4_begin 32 = .ok (.iconst 0, 1) := by decide +kernel
theorem dX4_begin_33 : decode cX4_begin 33 = .ok (.putfield 33, 3) := by decide +kernel
theorem dX4_begin_36 : decode cX4_begin 36 = .ok (.return_, 1) := by decide +kernel
theorem dX4_juggler_0 : decode cX4_juggler 0 = .ok (.iload_n 1, 1) := by decide +kernel
theorem dX4_juggler_1 : decode cX4_juggler 1 = .ok (.ifCond .ne 10, 3) := by decide +kernel
theorem dX4_juggler_4 : decode cX4_juggler 4 = .ok (.aload_n 0, 1) := by decide +kernel
theorem dX4_juggler_5 : decode cX4_juggler 5 = .ok (.getfield 10, 3) := by decide +kernel
theorem dX4_juggler_8 : decode cX4_juggler 8 = .ok (.goto 7, 3) := by decide +kernel
theorem dX4_juggler_11 : decode cX4_juggler 11 = .ok (.aload_n 0, 1) := by decide +kernel
theorem dX4_juggler_12 : decode cX4_juggler 12 = .ok (.getfield 16, 3) := by decide +kernel
theorem dX4_juggler_15 : decode cX4_juggler 15 = .ok (.areturn, 1) := by decide +kernel
theorem dX4_clubs_0 : decode cX4_clubs 0 = .ok (.aload_n 0, 1) := by decide +kernel
theorem dX4_clubs_1 : decode cX4_clubs 1 = .ok (.getfield 10, 3) := by decide +kernel
theorem dX4_clubs_4 : decode cX4_clubs 4 = .ok (.invokevirtual 40, 3) := by decide +kernel
theorem dX4_clubs_7 : decode cX4_clubs 7 = .ok (.aload_n 0, 1) := by decide +kernel
theorem dX4_clubs_8 : decode cX4_clubs 8 = .ok (.getfield 16, 3) := by decide +kernel
theorem dX4_clubs_11 : decode cX4_clubs 11 = .ok (.invokevirtual 40, 3) := by decide +kernel
theorem dX4_clubs_14 : decode cX4_clubs 14 = .ok (.iadd, 1) := by decide +kernel
theorem dX4_clubs_15 : decode cX4_clubs 15 = .ok (.aload_n 0, 1) := by decide +kernel
theorem dX4_clubs_16 : decode cX4_clubs 16 = .ok (.getfield 23, 3) := by decide +kernel
theorem dX4_clubs_19 : decode cX4_clubs 19 = .ok (.iadd, 1) := by decide +kernel
theorem dX4_clubs_20 : decode cX4_clubs 20 = .ok (.ireturn, 1) := by decide +kernel
theorem dX4_play_0 : decode cX4_play 0 = .ok (.aload_n 0, 1) := by decide +kernel
theorem dX4_play_1 : decode cX4_play 1 = .ok (.getfield 23, 3) := by decide +kernel
theorem dX4_play_4 : decode cX4_play 4 = .ok (.istore_n 2, 1) := by decide +kernel
theorem dX4_play_5 : decode cX4_play 5 = .ok (.iconst 0, 1) := by decide +kernel
theorem dX4_play_6 : decode cX4_play 6 = .ok (.istore_n 3, 1) := by decide +kernel
theorem dX4_play_7 : decode cX4_play 7 = .ok (.iload_n 3, 1) := by decide +kernel
theorem dX4_play_8 : decode cX4_play 8 = .ok (.iload_n 1, 1) := by decide +kernel
theorem dX4_play_9 : decode cX4_play 9 = .ok (.if_icmp .ge 47, 3) := by decide +kernel
theorem dX4_play_12 : decode cX4_play 12 = .ok (.aload_n 0, 1) := by decide +kernel
theorem dX4_play_13 : decode cX4_play 13 = .ok (.aload_n 0, 1) := by decide +kernel
theorem dX4_play_14 : decode cX4_play 14 = .ok (.getfield 10, 3) := by decide +kernel
theorem dX4_play_17 : decode cX4_play 17 = .ok (.aload_n 0, 1) := by decide +kernel
theorem dX4_play_18 : decode cX4_play 18 = .ok (.getfield 16, 3) := by decide +kernel
theorem dX4_play_21 : decode cX4_play 21 = .ok (.invokevirtual 44, 3) := by decide +kernel
theorem dX4_play_24 : decode cX4_play 24 = .ok (.aload_n 0, 1) := by decide +kernel
theorem dX4_play_25 : decode cX4_play 25 = .ok (.aload_n 0, 1) := by decide +kernel
theorem dX4_play_26 : decode cX4_play 26 = .ok (.getfield 16, 3) := by decide +kernel
theorem dX4_play_29 : decode cX4_play 29 = .ok (.aload_n 0, 1) := by decide +kernel
theorem dX4_play_30 : decode cX4_play 30 = .ok (.getfield 10, 3) := by decide +kernel
theorem dX4_play_33 : decode cX4_play 33 = .ok (.invokevirtual 44, 3) := by decide +kernel
theorem dX4_play_36 : decode cX4_play 36 = .ok (.aload_n 0, 1) := by decide +kernel
theorem dX4_play_37 : decode cX4_play 37 = .ok (.getfield 10, 3) := by decide +kernel
theorem dX4_play_40 : decode cX4_play 40 = .ok (.invokevirtual 48, 3) := by decide +kernel
theorem dX4_play_43 : decode cX4_play 43 = .ok (.aload_n 0, 1) := by decide +kernel
theorem dX4_play_44 : decode cX4_play 44 = .ok (.getfield 16, 3) := by decide +kernel
theorem dX4_play_47 : decode cX4_play 47 = .ok (.invokevirtual 48, 3) := by decide +kernel
theorem dX4_play_50 : decode cX4_play 50 = .ok (.iinc 3 1, 3) := by decide +kernel
theorem dX4_play_53 : decode cX4_play 53 = .ok (.goto (-46), 3) := by decide +kernel
theorem dX4_play_56 : decode cX4_play 56 = .ok (.aload_n 0, 1) := by decide +kernel
theorem dX4_play_57 : decode cX4_play 57 = .ok (.dup, 1) := by decide +kernel
theorem dX4_play_58 : decode cX4_play 58 = .ok (.getfield 27, 3) := by decide +kernel
theorem dX4_play_61 : decode cX4_play 61 = .ok (.iload_n 1, 1) := by decide +kernel
theorem dX4_play_62 : decode cX4_play 62 = .ok (.iadd, 1) := by decide +kernel
theorem dX4_play_63 : decode cX4_play 63 = .ok (.putfield 27, 3) := by decide +kernel
theorem dX4_play_66 : decode cX4_play 66 = .ok (.aload_n 0, 1) := by decide +kernel
theorem dX4_play_67 : decode cX4_play 67 = .ok (.getfield 23, 3) := by decide +kernel
theorem dX4_play_70 : decode cX4_play 70 = .ok (.iload_n 2, 1) := by decide +kernel
theorem dX4_play_71 : decode cX4_play 71 = .ok (.isub, 1) := by decide +kernel
theorem dX4_play_72 : decode cX4_play 72 = .ok (.ireturn, 1) := by decide +kernel
theorem dX4_letThrow_0 : decode cX4_letThrow 0 = .ok (.aload_n 1, 1) := by decide +kernel
theorem dX4_letThrow_1 : decode cX4_letThrow 1 = .ok (.iconst 0, 1) := by decide +kernel
theorem dX4_letThrow_2 : decode cX4_letThrow 2 = .ok (.invokevirtual 51, 3) := by decide +kernel
theorem dX4_letThrow_5 : decode cX4_letThrow 5 = .ok (.ifCond .ne 4, 3) := by decide +kernel
theorem dX4_letThrow_8 : decode cX4_letThrow 8 = .ok (.return_, 1) := by decide +kernel
theorem dX4_letThrow_9 : decode cX4_letThrow 9 = .ok (.aload_n 0, 1) := by decide +kernel
theorem dX4_letThrow_10 : decode cX4_letThrow 10 = .ok (.dup, 1) := by decide +kernel
theorem dX4_letThrow_11 : decode cX4_letThrow 11 = .ok (.getfield 30, 3) := by decide +kernel
theorem dX4_letThrow_14 : decode cX4_letThrow 14 = .ok (.iconst 1, 1) := by decide +kernel
theorem dX4_letThrow_15 : decode cX4_letThrow 15 = .ok (.iadd, 1) := by decide +kernel
theorem dX4_letThrow_16 : decode cX4_letThrow 16 = .ok (.putfield 30, 3) := by decide +kernel
theorem dX4_letThrow_19 : decode cX4_letThrow 19 = .ok (.aload_n 1, 1) := by decide +kernel
theorem dX4_letThrow_20 : decode cX4_letThrow 20 = .ok (.aload_n 1, 1) := by decide +kernel
theorem dX4_letThrow_21 : decode cX4_letThrow 21 = .ok (.getfield 55, 3) := by decide +kernel
theorem dX4_letThrow_24 : decode cX4_letThrow 24 = .ok (.invokevirtual 58, 3) := by decide +kernel
theorem dX4_letThrow_27 : decode cX4_letThrow 27 = .ok (.istore_n 3, 1) := by decide +kernel
theorem dX4_letThrow_28 : decode cX4_letThrow 28 = .ok (.aload_n 1, 1) := by decide +kernel
theorem dX4_letThrow_29 : decode cX4_letThrow 29 = .ok (.aload_n 1, 1) := by decide +kernel
theorem dX4_letThrow_30 : decode cX4_letThrow 30 = .ok (.getfield 55, 3) := by decide +kernel
theorem dX4_letThrow_33 : decode cX4_letThrow 33 = .ok (.invokevirtual 62, 3) := by decide +kernel
theorem dX4_letThrow_36 : decode cX4_letThrow 36 = .ok (.istore 4, 2) := by decide +kernel
theorem dX4_letThrow_38 : decode cX4_letThrow 38 = .ok (.iload 4, 2) := by decide +kernel
theorem dX4_letThrow_40 : decode cX4_letThrow 40 = .ok (.ifCond .eq 7, 3) := by decide +kernel
theorem dX4_letThrow_43 : decode cX4_letThrow 43 = .ok (.aload_n 2, 1) := by decide +kernel
theorem dX4_letThrow_44 : decode cX4_letThrow 44 = .ok (.goto 4, 3) := by decide +kernel
theorem dX4_letThrow_47 : decode cX4_letThrow 47 = .ok (.aload_n 1, 1) := by decide +kernel
theorem dX4_letThrow_48 : decode cX4_letThrow 48 = .ok (.astore 5, 2) := by decide +kernel
theorem dX4_letThrow_50 : decode cX4_letThrow 50 = .ok (.iload_n 3, 1) := by decide +kernel
theorem dX4_letThrow_51 : decode cX4_letThrow 51 = .ok (.ifCond .ne 26, 3) := by decide +kernel
theorem dX4_letThrow_54 : decode cX4_letThrow 54 = .ok (.aload_n 1, 1) := by decide +kernel
theorem dX4_letThrow_55 : decode cX4_letThrow 55 = .ok (.dup, 1) := by decide +kernel
theorem dX4_letThrow_56 : decode cX4_letThrow 56 = .ok (.getfield 65, 3) := by decide +kernel
theorem dX4_letThrow_59 : decode cX4_letThrow 59 = .ok (.iconst 1, 1) := by decide +kernel
theorem dX4_letThrow_60 : decode cX4_letThrow 60 = .ok (.iadd, 1) := by decide +kernel
theorem dX4_letThrow_61 : decode cX4_letThrow 61 = .ok (.putfield 65, 3) := by decide +kernel
theorem dX4_letThrow_64 : decode cX4_letThrow 64 = .ok (.aload_n 0, 1) := by decide +kernel
theorem dX4_letThrow_65 : decode cX4_letThrow 65 = .ok (.dup, 1) := by decide +kernel
theorem dX4_letThrow_66 : decode cX4_letThrow 66 = .ok (.getfield 23, 3) := by decide +kernel
theorem dX4_letThrow_69 : decode cX4_letThrow 69 = .ok (.iconst 1, 1) := by decide +kernel
theorem dX4_letThrow_70 : decode cX4_letThrow 70 = .ok (.iadd, 1) := by decide +kernel
theorem dX4_letThrow_71 : decode cX4_letThrow 71 = .ok (.putfield 23, 3) := by decide +kernel
theorem dX4_letThrow_74 : decode cX4_letThrow 74 = .ok (.goto 55, 3) := by decide +kernel
theorem dX4_letThrow_77 : decode cX4_letThrow 77 = .ok (.aload 5, 2) := by decide +kernel
theorem dX4_letThrow_79 : decode cX4_letThrow 79 = .ok (.iload_n 3, 1) := by decide +kernel
theorem dX4_letThrow_80 : decode cX4_letThrow 80 = .ok (.invokevirtual 51, 3) := by decide +kernel
theorem dX4_letThrow_83 : decode cX4_letThrow 83 = .ok (.ifCond .eq 26, 3) := by decide +kernel
theorem dX4_letThrow_86 : decode cX4_letThrow 86 = .ok (.aload_n 1, 1) := by decide +kernel
theorem dX4_letThrow_87 : decode cX4_letThrow 87 = .ok (.dup, 1) := by decide +kernel
theorem dX4_letThrow_88 : decode cX4_letThrow 88 = .ok (.getfield 68, 3) := by decide +kernel
theorem dX4_letThrow_91 : decode cX4_letThrow 91 = .ok (.iconst 1, 1) := by decide +kernel
theorem dX4_letThrow_92 : decode cX4_letThrow 92 = .ok (.iadd, 1) := by decide +kernel
theorem dX4_letThrow_93 : decode cX4_letThrow 93 = .ok (.putfield 68, 3) := by decide +kernel
theorem dX4_letThrow_96 : decode cX4_letThrow 96 = .ok (.aload_n 0, 1) := by decide +kernel
theorem dX4_letThrow_97 : decode cX4_letThrow 97 = .ok (.dup, 1) := by decide +kernel
theorem dX4_letThrow_98 : decode cX4_letThrow 98 = .ok (.getfield 23, 3) := by decide +kernel
theorem dX4_letThrow_101 : decode cX4_letThrow 101 = .ok (.iconst 1, 1) := by decide +kernel
theorem dX4_letThrow_102 : decode cX4_letThrow 102 = .ok (.iadd, 1) := by decide +kernel
theorem dX4_letThrow_103 : decode cX4_letThrow 103 = .ok (.putfield 23, 3) := by decide +kernel
theorem dX4_letThrow_106 : decode cX4_letThrow 106 = .ok (.goto 23, 3) := by decide +kernel
theorem dX4_letThrow_109 : decode cX4_letThrow 109 = .ok (.aload 5, 2) := by decide +kernel
theorem dX4_letThrow_111 : decode cX4_letThrow 111 = .ok (.iload_n 3, 1) := by decide +kernel
theorem dX4_letThrow_112 : decode cX4_letThrow 112 = .ok (.invokevirtual 71, 3) := by decide +kernel
theorem dX4_letThrow_115 : decode cX4_letThrow 115 = .ok (.aload_n 0, 1) := by decide +kernel
theorem dX4_letThrow_116 : decode cX4_letThrow 116 = .ok (.dup, 1) := by decide +kernel
theorem dX4_letThrow_117 : decode cX4_letThrow 117 = .ok (.getfield 33, 3) := by decide +kernel
theorem dX4_letThrow_120 : decode cX4_letThrow 120 = .ok (.iload 4, 2) := by decide +kernel
theorem dX4_letThrow_122 : decode cX4_letThrow 122 = .ok (.invokestatic 74, 3) := by decide +kernel
theorem dX4_letThrow_125 : decode cX4_letThrow 125 = .ok (.iadd, 1) := by decide +kernel
theorem dX4_letThrow_126 : decode cX4_letThrow 126 = .ok (.putfield 33, 3) := by decide +kernel
theorem dX4_letThrow_129 : decode cX4_letThrow 129 = .ok (.return_, 1) := by decide +kernel
theorem dX4_standsLike_0 : decode cX4_standsLike 0 = .ok (.aload_n 0, 1) := by decide +kernel
theorem dX4_standsLike_1 : decode cX4_standsLike 1 = .ok (.getfield 10, 3) := by decide +kernel
theorem dX4_standsLike_4 : decode cX4_standsLike 4 = .ok (.aload_n 1, 1) := by decide +kernel
theorem dX4_standsLike_5 : decode cX4_standsLike 5 = .ok (.getfield 10, 3) := by decide +kernel
theorem dX4_standsLike_8 : decode cX4_standsLike 8 = .ok (.invokevirtual 80, 3) := by decide +kernel
theorem dX4_standsLike_11 : decode cX4_standsLike 11 = .ok (.ifCond .eq 21, 3) := by decide +kernel
theorem dX4_standsLike_14 : decode cX4_standsLike 14 = .ok (.aload_n 0, 1) := by decide +kernel
theorem dX4_standsLike_15 : decode cX4_standsLike 15 = .ok (.getfield 16, 3) := by decide +kernel
theorem dX4_standsLike_18 : decode cX4_standsLike 18 = .ok (.aload_n 1, 1) := by decide +kernel
theorem dX4_standsLike_19 : decode cX4_standsLike 19 = .ok (.getfield 16, 3) := by decide +kernel
theorem dX4_standsLike_22 : decode cX4_standsLike 22 = .ok (.invokevirtual 80, 3) := by decide +kernel
theorem dX4_standsLike_25 : decode cX4_standsLike 25 = .ok (.ifCond .eq 7, 3) := by decide +kernel
theorem dX4_standsLike_28 : decode cX4_standsLike 28 = .ok (.iconst 1, 1) := by decide +kernel
theorem dX4_standsLike_29 : decode cX4_standsLike 29 = .ok (.goto 4, 3) := by decide +kernel
theorem dX4_standsLike_32 : decode cX4_standsLike 32 = .ok (.iconst 0, 1) := by decide +kernel
theorem dX4_standsLike_33 : decode cX4_standsLike 33 = .ok (.ireturn, 1) := by decide +kernel
theorem dX5_init_0 : decode cX5_init 0 = .ok (.aload_n 0, 1) := by decide +kernel
theorem dX5_init_1 : decode cX5_init 1 = .ok (.invokespecial 1, 3) := by decide +kernel
theorem dX5_init_4 : decode cX5_init 4 = .ok (.aload_n 0, 1) := by decide +kernel
theorem dX5_init_5 : decode cX5_init 5 = .ok (.new 7, 3) := by decide +kernel
theorem dX5_init_8 : decode cX5_init 8 = .ok (.dup, 1) := by decide +kernel
theorem dX5_init_9 : decode cX5_init 9 = .ok (.invokespecial 9, 3) := by decide +kernel
theorem dX5_init_12 : decode cX5_init 12 = .ok (.putfield 10, 3) := by decide +kernel
theorem dX5_init_15 : decode cX5_init 15 = .ok (.return_, 1) := by decide +kernel
theorem dX5_keep_0 : decode cX5_keep 0 = .ok (.aload_n 0, 1) := by decide +kernel
theorem dX5_keep_1 : decode cX5_keep 1 = .ok (.getfield 10, 3) := by decide +kernel
theorem dX5_keep_4 : decode cX5_keep 4 = .ok (.aload_n 1, 1) := by decide +kernel
theorem dX5_keep_5 : decode cX5_keep 5 = .ok (.invokevirtual 16, 3) := by decide +kernel
theorem dX5_keep_8 : decode cX5_keep 8 = .ok (.aload_n 0, 1) := by decide +kernel
theorem dX5_keep_9 : decode cX5_keep 9 = .ok (.iconst 1, 1) := by decide +kernel
theorem dX5_keep_10 : decode cX5_keep 10 = .ok (.putfield 20, 3) := by decide +kernel
theorem dX5_keep_13 : decode cX5_keep 13 = .ok (.return_, 1) := by decide +kernel
end
section
theorem dX6_init_0 : decode cX6_init 0 = .ok (.aload_n 0, 1) := by decide +kernel
theorem dX6_init_1 : decode cX6_init 1 = .ok (.invokespecial 3, 3) := by decide +kernel
theorem dX6_init_4 : decode cX6_init 4 = .ok (.aload_n 0, 1) := by decide +kernel
theorem dX6_init_5 : decode cX6_init 5 = .ok (.sipush 256, 3) := by decide +kernel
theorem dX6_init_8 : decode cX6_init 8 = .ok (.newarray .int, 2) := by decide +kernel
theorem dX6_init_10 : decode cX6_init 10 = .ok (.putfield 9, 3) := by decide +kernel
theorem dX6_init_13 : decode cX6_init 13 = .ok (.aload_n 0, 1) := by decide +kernel
theorem dX6_init_14 : decode cX6_init 14 = .ok (.sipush 256, 3) := by decide +kernel
theorem dX6_init_17 : decode cX6_init 17 = .ok (.newarray .int, 2) := by decide +kernel
theorem dX6_init_19 : decode cX6_init 19 = .ok (.putfield 15, 3) := by decide +kernel
theorem dX6_init_22 : decode cX6_init 22 = .ok (.aload_n 0, 1) := by decide +kernel
theorem dX6_init_23 : decode cX6_init 23 = .ok (.sipush 256, 3) := by decide +kernel
theorem dX6_init_26 : decode cX6_init 26 = .ok (.newarray .int, 2) := by decide +kernel
theorem dX6_init_28 : decode cX6_init 28 = .ok (.putfield 18, 3) := by decide +kernel
theorem dX6_init_31 : decode cX6_init 31 = .ok (.aload_n 0, 1) := by decide +kernel
theorem dX6_init_32 : decode cX6_init 32 = .ok (.sipush 256, 3) := by decide +kernel
theorem dX6_init_35 : decode cX6_init 35 = .ok (.newarray .int, 2) := by decide +kernel
theorem dX6_init_37 : decode cX6_init 37 = .ok (.putfield 21, 3) := by decide +kernel
theorem dX6_init_40 : decode cX6_init 40 = .ok (.return_, 1) := by decide +kernel
theorem dX6_searchFrom_0 : decode cX6_searchFrom 0 = .ok (.aload_n 0, 1) := by decide +kernel
theorem dX6_searchFrom_1 : decode cX6_searchFrom 1 = .ok (.getfield 9, 3) := by decide +kernel
theorem dX6_searchFrom_4 : decode cX6_searchFrom 4 = .ok (.iconst (-1), 1) := by decide +kernel
theorem dX6_searchFrom_5 : decode cX6_searchFrom 5 = .ok (.invokestatic 24, 3) := by decide +kernel
theorem dX6_searchFrom_8 : decode cX6_searchFrom 8 = .ok (.aload_n 0, 1) := by decide +kernel
theorem dX6_searchFrom_9 : decode cX6_searchFrom 9 = .ok (.iconst 0, 1) := by decide +kernel
theorem dX6_searchFrom_10 : decode cX6_searchFrom 10 = .ok (.putfield 30, 3) := by decide +kernel
theorem dX6_searchFrom_13 : decode cX6_searchFrom 13 = .ok (.aload_n 0, 1) := by decide +kernel
theorem dX6_searchFrom_14 : decode cX6_searchFrom 14 = .ok (.iload_n 1, 1) := by decide +kernel
theorem dX6_searchFrom_15 : decode cX6_searchFrom 15 = .ok (.iconst 0, 1) := by decide +kernel
theorem dX6_searchFrom_16 : decode cX6_searchFrom 16 = .ok (.iconst 0, 1) := by decide +kernel
theorem dX6_searchFrom_17 : decode cX6_searchFrom 17 = .ok (.iconst 0, 1) := by decide +kernel
theorem dX6_searchFrom_18 : decode cX6_searchFrom 18 = .ok (.invokevirtual 34, 3) := by decide +kernel
theorem dX6_searchFrom_21 : decode cX6_searchFrom 21 = .ok (.iconst 0, 1) := by decide +kernel
theorem dX6_searchFrom_22 : decode cX6_searchFrom 22 = .ok (.istore_n 2, 1) := by decide +kernel
theorem dX6_searchFrom_23 : decode cX6_searchFrom 23 = .ok (.iload_n 2, 1) := by decide +kernel
theorem dX6_searchFrom_24 : decode cX6_searchFrom 24 = .ok (.aload_n 0, 1) := by decide +kernel
theorem dX6_searchFrom_25 : decode cX6_searchFrom 25 = .ok (.getfield 30, 3) := by decide +kernel
theorem dX6_searchFrom_28 : decode cX6_searchFrom 28 = .ok (.if_icmp .ge 28, 3) := by decide +kernel
theorem dX6_searchFrom_31 : decode cX6_searchFrom 31 = .ok (.iload_n 2, 1) := by decide +kernel
theorem dX6_searchFrom_32 : decode cX6_searchFrom 32 = .ok (.sipush 256, 3) := by decide +kernel
theorem dX6_searchFrom_35 : decode cX6_searchFrom 35 = .ok (.if_icmp .ge 21, 3) := by decide +kernel
theorem dX6_searchFrom_38 : decode cX6_searchFrom 38 = .ok (.aload_n 0, 1) := by decide +kernel
theorem dX6_searchFrom_39 : decode cX6_searchFrom 39 = .ok (.aload_n 0, 1) := by decide +kernel
theorem dX6_searchFrom_40 : decode cX6_searchFrom 40 = .ok (.getfield 21, 3) := by decide +kernel
theorem dX6_searchFrom_43 : decode cX6_searchFrom 43 = .ok (.iload_n 2, 1) := by decide +kernel
theorem dX6_searchFrom_44 : decode cX6_searchFrom 44 = .ok (.invokestatic 38, 3) := by decide +kernel
theorem dX6_searchFrom_47 : decode cX6_searchFrom 47 = .ok (.invokevirtual 42, 3) := by decide +kernel
theorem dX6_searchFrom_50 : decode cX6_searchFrom 50 = .ok (.iinc 2 1, 3) := by decide +kernel
theorem dX6_searchFrom_53 : decode cX6_searchFrom 53 = .ok (.goto (-30), 3) := by decide +kernel
theorem dX6_searchFrom_56 : decode cX6_searchFrom 56 = .ok (.return_, 1) := by decide +kernel
theorem dX6_goOnFrom_0 : decode cX6_goOnFrom 0 = .ok (.iload_n 1, 1) := by decide +kernel
theorem dX6_goOnFrom_1 : decode cX6_goOnFrom 1 = .ok (.iconst 0, 1) := by decide +kernel
theorem dX6_goOnFrom_2 : decode cX6_goOnFrom 2 = .ok (.invokestatic 46, 3) := by decide +kernel
theorem dX6_goOnFrom_5 : decode cX6_goOnFrom 5 = .ok (.ifCond .ne 10, 3) := by decide +kernel
theorem dX6_goOnFrom_8 : decode cX6_goOnFrom 8 = .ok (.aload_n 0, 1) := by decide +kernel
theorem dX6_goOnFrom_9 : decode cX6_goOnFrom 9 = .ok (.iload_n 1, 1) := by decide +kernel
theorem dX6_goOnFrom_10 : decode cX6_goOnFrom 10 = .ok (.iconst 0, 1) := by decide +kernel
theorem dX6_goOnFrom_11 : decode cX6_goOnFrom 11 = .ok (.invokevirtual 50, 3) := by decide +kernel
theorem dX6_goOnFrom_14 : decode cX6_goOnFrom 14 = .ok (.return_, 1) := by decide +kernel
theorem dX6_goOnFrom_15 : decode cX6_goOnFrom 15 = .ok (.iconst 1, 1) := by decide +kernel
theorem dX6_goOnFrom_16 : decode cX6_goOnFrom 16 = .ok (.istore_n 2, 1) := by decide +kernel
theorem dX6_goOnFrom_17 : decode cX6_goOnFrom 17 = .ok (.iload_n 2, 1) := by decide +kernel
theorem dX6_goOnFrom_18 : decode cX6_goOnFrom 18 = .ok (.bipush 8, 2) := by decide +kernel
theorem dX6_goOnFrom_20 : decode cX6_goOnFrom 20 = .ok (.if_icmp .ge 23, 3) := by decide +kernel
theorem dX6_goOnFrom_23 : decode cX6_goOnFrom 23 = .ok (.iload_n 1, 1) := by decide +kernel
theorem dX6_goOnFrom_24 : decode cX6_goOnFrom 24 = .ok (.iload_n 2, 1) := by decide +kernel
theorem dX6_goOnFrom_25 : decode cX6_goOnFrom 25 = .ok (.invokestatic 46, 3) := by decide +kernel
theorem dX6_goOnFrom_28 : decode cX6_goOnFrom 28 = .ok (.ifCond .ne 9, 3) := by decide +kernel
theorem dX6_goOnFrom_31 : decode cX6_goOnFrom 31 = .ok (.aload_n 0, 1) := by decide +kernel
theorem dX6_goOnFrom_32 : decode cX6_goOnFrom 32 = .ok (.iload_n 1, 1) := by decide +kernel
theorem dX6_goOnFrom_33 : decode cX6_goOnFrom 33 = .ok (.iload_n 2, 1) := by decide +kernel
theorem dX6_goOnFrom_34 : decode cX6_goOnFrom 34 = .ok (.invokevirtual 50, 3) := by decide +kernel
theorem dX6_goOnFrom_37 : decode cX6_goOnFrom 37 = .ok (.iinc 2 1, 3) := by decide +kernel
theorem dX6_goOnFrom_40 : decode cX6_goOnFrom 40 = .ok (.goto (-23), 3) := by decide +kernel
theorem dX6_goOnFrom_43 : decode cX6_goOnFrom 43 = .ok (.return_, 1) := by decide +kernel
theorem dX6_makeThrow_0 : decode cX6_makeThrow 0 = .ok (.iload_n 1, 1) := by decide +kernel
theorem dX6_makeThrow_1 : decode cX6_makeThrow 1 = .ok (.iconst 1, 1) := by decide +kernel
theorem dX6_makeThrow_2 : decode cX6_makeThrow 2 = .ok (.iload_n 2, 1) := by decide +kernel
theorem dX6_makeThrow_3 : decode cX6_makeThrow 3 = .ok (.ishl, 1) := by decide +kernel
theorem dX6_makeThrow_4 : decode cX6_makeThrow 4 = .ok (.ior, 1) := by decide +kernel
theorem dX6_makeThrow_5 : decode cX6_makeThrow 5 = .ok (.iconst 1, 1) := by decide +kernel
theorem dX6_makeThrow_6 : decode cX6_makeThrow 6 = .ok (.ishr, 1) := by decide +kernel
theorem dX6_makeThrow_7 : decode cX6_makeThrow 7 = .ok (.istore_n 3, 1) := by decide +kernel
theorem dX6_makeThrow_8 : decode cX6_makeThrow 8 = .ok (.aload_n 0, 1) := by decide +kernel
theorem dX6_makeThrow_9 : decode cX6_makeThrow 9 = .ok (.iload_n 1, 1) := by decide +kernel
theorem dX6_makeThrow_10 : decode cX6_makeThrow 10 = .ok (.invokevirtual 54, 3) := by decide +kernel
theorem dX6_makeThrow_13 : decode cX6_makeThrow 13 = .ok (.istore 4, 2) := by decide +kernel
theorem dX6_makeThrow_15 : decode cX6_makeThrow 15 = .ok (.aload_n 0, 1) := by decide +kernel
theorem dX6_makeThrow_16 : decode cX6_makeThrow 16 = .ok (.iload_n 3, 1) := by decide +kernel
theorem dX6_makeThrow_17 : decode cX6_makeThrow 17 = .ok (.iload 4, 2) := by decide +kernel
theorem dX6_makeThrow_19 : decode cX6_makeThrow 19 = .ok (.iconst 1, 1) := by decide +kernel
theorem dX6_makeThrow_20 : decode cX6_makeThrow 20 = .ok (.iadd, 1) := by decide +kernel
theorem dX6_makeThrow_21 : decode cX6_makeThrow 21 = .ok (.iload 4, 2) := by decide +kernel
theorem dX6_makeThrow_23 : decode cX6_makeThrow 23 = .ok (.ifCond .ne 7, 3) := by decide +kernel
theorem dX6_makeThrow_26 : decode cX6_makeThrow 26 = .ok (.iload_n 2, 1) := by decide +kernel
theorem dX6_makeThrow_27 : decode cX6_makeThrow 27 = .ok (.goto 8, 3) := by decide +kernel
theorem dX6_makeThrow_30 : decode cX6_makeThrow 30 = .ok (.aload_n 0, 1) := by decide +kernel
theorem dX6_makeThrow_31 : decode cX6_makeThrow 31 = .ok (.iload_n 1, 1) := by decide +kernel
theorem dX6_makeThrow_32 : decode cX6_makeThrow 32 = .ok (.invokevirtual 58, 3) := by decide +kernel
theorem dX6_makeThrow_35 : decode cX6_makeThrow 35 = .ok (.iload_n 2, 1) := by decide +kernel
theorem dX6_makeThrow_36 : decode cX6_makeThrow 36 = .ok (.invokevirtual 34, 3) := by decide +kernel
theorem dX6_makeThrow_39 : decode cX6_makeThrow 39 = .ok (.return_, 1) := by decide +kernel
theorem dX6_reach_0 : decode cX6_reach 0 = .ok (.aload_n 0, 1) := by decide +kernel
theorem dX6_reach_1 : decode cX6_reach 1 = .ok (.iload_n 1, 1) := by decide +kernel
theorem dX6_reach_2 : decode cX6_reach 2 = .ok (.invokevirtual 54, 3) := by decide +kernel
theorem dX6_reach_5 : decode cX6_reach 5 = .ok (.iconst (-1), 1) := by decide +kernel
theorem dX6_reach_6 : decode cX6_reach 6 = .ok (.if_icmp .eq 4, 3) := by decide +kernel
theorem dX6_reach_9 : decode cX6_reach 9 = .ok (.return_, 1) := by decide +kernel
theorem dX6_reach_10 : decode cX6_reach 10 = .ok (.aload_n 0, 1) := by decide +kernel
theorem dX6_reach_11 : decode cX6_reach 11 = .ok (.getfield 9, 3) := by decide +kernel
theorem dX6_reach_14 : decode cX6_reach 14 = .ok (.iload_n 1, 1) := by decide +kernel
theorem dX6_reach_15 : decode cX6_reach 15 = .ok (.iload_n 2, 1) := by decide +kernel
theorem dX6_reach_16 : decode cX6_reach 16 = .ok (.invokestatic 61, 3) := by decide +kernel
theorem dX6_reach_19 : decode cX6_reach 19 = .ok (.aload_n 0, 1) := by decide +kernel
theorem dX6_reach_20 : decode cX6_reach 20 = .ok (.getfield 15, 3) := by decide +kernel
theorem dX6_reach_23 : decode cX6_reach 23 = .ok (.iload_n 1, 1) := by decide +kernel
theorem dX6_reach_24 : decode cX6_reach 24 = .ok (.iload_n 3, 1) := by decide +kernel
theorem dX6_reach_25 : decode cX6_reach 25 = .ok (.invokestatic 61, 3) := by decide +kernel
theorem dX6_reach_28 : decode cX6_reach 28 = .ok (.aload_n 0, 1) := by decide +kernel
theorem dX6_reach_29 : decode cX6_reach 29 = .ok (.getfield 18, 3) := by decide +kernel
theorem dX6_reach_32 : decode cX6_reach 32 = .ok (.iload_n 1, 1) := by decide +kernel
theorem dX6_reach_33 : decode cX6_reach 33 = .ok (.iload 4, 2) := by decide +kernel
theorem dX6_reach_35 : decode cX6_reach 35 = .ok (.invokestatic 61, 3) := by decide +kernel
theorem dX6_reach_38 : decode cX6_reach 38 = .ok (.aload_n 0, 1) := by decide +kernel
theorem dX6_reach_39 : decode cX6_reach 39 = .ok (.getfield 21, 3) := by decide +kernel
theorem dX6_reach_42 : decode cX6_reach 42 = .ok (.aload_n 0, 1) := by decide +kernel
theorem dX6_reach_43 : decode cX6_reach 43 = .ok (.getfield 30, 3) := by decide +kernel
theorem dX6_reach_46 : decode cX6_reach 46 = .ok (.iload_n 1, 1) := by decide +kernel
theorem dX6_reach_47 : decode cX6_reach 47 = .ok (.invokestatic 61, 3) := by decide +kernel
theorem dX6_reach_50 : decode cX6_reach 50 = .ok (.aload_n 0, 1) := by decide +kernel
theorem dX6_reach_51 : decode cX6_reach 51 = .ok (.dup, 1) := by decide +kernel
theorem dX6_reach_52 : decode cX6_reach 52 = .ok (.getfield 30, 3) := by decide +kernel
theorem dX6_reach_55 : decode cX6_reach 55 = .ok (.iconst 1, 1) := by decide +kernel
theorem dX6_reach_56 : decode cX6_reach 56 = .ok (.iadd, 1) := by decide +kernel
theorem dX6_reach_57 : decode cX6_reach 57 = .ok (.putfield 30, 3) := by decide +kernel
theorem dX6_reach_60 : decode cX6_reach 60 = .ok (.return_, 1) := by decide +kernel
theorem dX6_stepsTo_0 : decode cX6_stepsTo 0 = .ok (.aload_n 0, 1) := by decide +kernel
theorem dX6_stepsTo_1 : decode cX6_stepsTo 1 = .ok (.getfield 9, 3) := by decide +kernel
theorem dX6_stepsTo_4 : decode cX6_stepsTo 4 = .ok (.iload_n 1, 1) := by decide +kernel
theorem dX6_stepsTo_5 : decode cX6_stepsTo 5 = .ok (.invokestatic 38, 3) := by decide +kernel
theorem dX6_stepsTo_8 : decode cX6_stepsTo 8 = .ok (.ireturn, 1) := by decide +kernel
theorem dX6_firstThrowTo_0 : decode cX6_firstThrowTo 0 = .ok (.aload_n 0, 1) := by decide +kernel
theorem dX6_firstThrowTo_1 : decode cX6_firstThrowTo 1 = .ok (.getfield 15, 3) := by decide +kernel
theorem dX6_firstThrowTo_4 : decode cX6_firstThrowTo 4 = .ok (.iload_n 1, 1) := by decide +kernel
theorem dX6_firstThrowTo_5 : decode cX6_firstThrowTo 5 = .ok (.invokestatic 38, 3) := by decide +kernel
theorem dX6_firstThrowTo_8 : decode cX6_firstThrowTo 8 = .ok (.ireturn, 1) := by decide +kernel
theorem dX6_lastThrowTo_0 : decode cX6_lastThrowTo 0 = .ok (.aload_n 0, 1) := by decide +kernel
theorem dX6_lastThrowTo_1 : decode cX6_lastThrowTo 1 = .ok (.getfield 18, 3) := by decide +kernel
theorem dX6_lastThrowTo_4 : decode cX6_lastThrowTo 4 = .ok (.iload_n 1, 1) := by decide +kernel
theorem dX6_lastThrowTo_5 : decode cX6_lastThrowTo 5 = .ok (.invokestatic 38, 3) := by decide +kernel
theorem dX6_lastThrowTo_8 : decode cX6_lastThrowTo 8 = .ok (.ireturn, 1) := by decide +kernel
theorem dX7_init_0 : decode cX7_init 0 = .ok (.aload_n 0, 1) := by decide +kernel
theorem dX7_init_1 : decode cX7_init 1 = .ok (.invokespecial 3, 3) := by decide +kernel
theorem dX7_init_4 : decode cX7_init 4 = .ok (.aload_n 0, 1) := by decide +kernel
theorem dX7_init_5 : decode cX7_init 5 = .ok (.new 9, 3) := by decide +kernel
theorem dX7_init_8 : decode cX7_init 8 = .ok (.dup, 1) := by decide +kernel
theorem dX7_init_9 : decode cX7_init 9 = .ok (.invokespecial 11, 3) := by decide +kernel
theorem dX7_init_12 : decode cX7_init 12 = .ok (.putfield 12, 3) := by decide +kernel
theorem dX7_init_15 : decode cX7_init 15 = .ok (.aload_n 0, 1) := by decide +kernel
theorem dX7_init_16 : decode cX7_init 16 = .ok (.new 9, 3) := by decide +kernel
theorem dX7_init_19 : decode cX7_init 19 = .ok (.dup, 1) := by decide +kernel
theorem dX7_init_20 : decode cX7_init 20 = .ok (.invokespecial 11, 3) := by decide +kernel
theorem dX7_init_23 : decode cX7_init 23 = .ok (.putfield 16, 3) := by decide +kernel
theorem dX7_init_26 : decode cX7_init 26 = .ok (.aload_n 0, 1) := by decide +kernel
theorem dX7_init_27 : decode cX7_init 27 = .ok (.new 19, 3) := by decide +kernel
theorem dX7_init_30 : decode cX7_init 30 = .ok (.dup, 1) := by decide +kernel
theorem dX7_init_31 : decode cX7_init 31 = .ok (.invokespecial 21, 3) := by decide +kernel
theorem dX7_init_34 : decode cX7_init 34 = .ok (.putfield 22, 3) := by decide +kernel
theorem dX7_init_37 : decode cX7_init 37 = .ok (.aload_n 0, 1) := by decide +kernel
theorem dX7_init_38 : decode cX7_init 38 = .ok (.new 26, 3) := by decide +kernel
theorem dX7_init_41 : decode cX7_init 41 = .ok (.dup, 1) := by decide +kernel
theorem dX7_init_42 : decode cX7_init 42 = .ok (.invokespecial 28, 3) := by decide +kernel
theorem dX7_init_45 : decode cX7_init 45 = .ok (.putfield 29, 3) := by decide +kernel
theorem dX7_init_48 : decode cX7_init 48 = .ok (.aload_n 0, 1) := by decide +kernel
theorem dX7_init_49 : decode cX7_init 49 = .ok (.new 33, 3) := by decide +kernel
theorem dX7_init_52 : decode cX7_init 52 = .ok (.dup, 1) := by decide +kernel
theorem dX7_init_53 : decode cX7_init 53 = .ok (.invokespecial 35, 3) := by decide +kernel
theorem dX7_init_56 : decode cX7_init 56 = .ok (.putfield 36, 3) := by decide +kernel
theorem dX7_init_59 : decode cX7_init 59 = .ok (.aload_n 0, 1) := by decide +kernel
theorem dX7_init_60 : decode cX7_init 60 = .ok (.new 40, 3) := by decide +kernel
theorem dX7_init_63 : decode cX7_init 63 = .ok (.dup, 1) := by decide +kernel
theorem dX7_init_64 : decode cX7_init 64 = .ok (.invokespecial 42, 3) := by decide +kernel
theorem dX7_init_67 : decode cX7_init 67 = .ok (.putfield 43, 3) := by decide +kernel
theorem dX7_init_70 : decode cX7_init 70 = .ok (.aload_n 0, 1) := by decide +kernel
theorem dX7_init_71 : decode cX7_init 71 = .ok (.new 47, 3) := by decide +kernel
theorem dX7_init_74 : decode cX7_init 74 = .ok (.dup, 1) := by decide +kernel
theorem dX7_init_75 : decode cX7_init 75 = .ok (.invokespecial 49, 3) := by decide +kernel
theorem dX7_init_78 : decode cX7_init 78 = .ok (.putfield 50, 3) := by decide +kernel
theorem dX7_init_81 : decode cX7_init 81 = .ok (.aload_n 0, 1) := by decide +kernel
theorem dX7_init_82 : decode cX7_init 82 = .ok (.new 47, 3) := by decide +kernel
theorem dX7_init_85 : decode cX7_init 85 = .ok (.dup, 1) := by decide +kernel
theorem dX7_init_86 : decode cX7_init 86 = .ok (.invokespecial 49, 3) := by decide +kernel
theorem dX7_init_89 : decode cX7_init 89 = .ok (.putfield 54, 3) := by decide +kernel
theorem dX7_init_92 : decode cX7_init 92 = .ok (.return_, 1) := by decide +kernel
theorem dX7_start_0 : decode cX7_start 0 = .ok (.iload_n 1, 1) := by decide +kernel
theorem dX7_start_1 : decode cX7_start 1 = .ok (.iconst 0, 1) := by decide +kernel
theorem dX7_start_2 : decode cX7_start 2 = .ok (.bipush 8, 2) := by decide +kernel
theorem dX7_start_4 : decode cX7_start 4 = .ok (.invokestatic 57, 3) := by decide +kernel
theorem dX7_start_7 : decode cX7_start 7 = .ok (.ifCond .eq 13, 3) := by decide +kernel
theorem dX7_start_10 : decode cX7_start 10 = .ok (.iload_n 2, 1) := by decide +kernel
theorem dX7_start_11 : decode cX7_start 11 = .ok (.iconst 0, 1) := by decide +kernel
theorem dX7_start_12 : decode cX7_start 12 = .ok (.bipush 8, 2) := by decide +kernel
theorem dX7_start_14 : decode cX7_start 14 = .ok (.invokestatic 57, 3) := by decide +kernel
theorem dX7_start_17 : decode cX7_start 17 = .ok (.ifCond .ne 6, 3) := by decide +kernel
theorem dX7_start_20 : decode cX7_start 20 = .ok (.bipush (-2), 2) := by decide +kernel
theorem dX7_start_22 : decode cX7_start 22 = .ok (.ireturn, 1) := by decide +kernel
theorem dX7_start_23 : decode cX7_start 23 = .ok (.aload_n 0, 1) := by decide +kernel
theorem dX7_start_24 : decode cX7_start 24 = .ok (.getfield 12, 3) := by decide +kernel
theorem dX7_start_27 : decode cX7_start 27 = .ok (.invokevirtual 61, 3) := by decide +kernel
theorem dX7_start_30 : decode cX7_start 30 = .ok (.istore_n 3, 1) := by decide +kernel
theorem dX7_start_31 : decode cX7_start 31 = .ok (.aload_n 0, 1) := by decide +kernel
theorem dX7_start_32 : decode cX7_start 32 = .ok (.getfield 43, 3) := by decide +kernel
theorem dX7_start_35 : decode cX7_start 35 = .ok (.aload_n 0, 1) := by decide +kernel
theorem dX7_start_36 : decode cX7_start 36 = .ok (.getfield 12, 3) := by decide +kernel
theorem dX7_start_39 : decode cX7_start 39 = .ok (.invokevirtual 65, 3) := by decide +kernel
theorem dX7_start_42 : decode cX7_start 42 = .ok (.aload_n 0, 1) := by decide +kernel
theorem dX7_start_43 : decode cX7_start 43 = .ok (.getfield 12, 3) := by decide +kernel
theorem dX7_start_46 : decode cX7_start 46 = .ok (.iload_n 1, 1) := by decide +kernel
theorem dX7_start_47 : decode cX7_start 47 = .ok (.iload_n 2, 1) := by decide +kernel
theorem dX7_start_48 : decode cX7_start 48 = .ok (.invokevirtual 69, 3) := by decide +kernel
theorem dX7_start_51 : decode cX7_start 51 = .ok (.iload_n 3, 1) := by decide +kernel
theorem dX7_start_52 : decode cX7_start 52 = .ok (.ireturn, 1) := by decide +kernel
theorem dX7_read_0 : decode cX7_read 0 = .ok (.aload_n 0, 1) := by decide +kernel
theorem dX7_read_1 : decode cX7_read 1 = .ok (.getfield 22, 3) := by decide +kernel
theorem dX7_read_4 : decode cX7_read 4 = .ok (.invokevirtual 73, 3) := by decide +kernel
theorem dX7_read_7 : decode cX7_read 7 = .ok (.bipush (-6), 2) := by decide +kernel
theorem dX7_read_9 : decode cX7_read 9 = .ok (.if_icmp .eq 6, 3) := by decide +kernel
theorem dX7_read_12 : decode cX7_read 12 = .ok (.bipush (-3), 2) := by decide +kernel
theorem dX7_read_14 : decode cX7_read 14 = .ok (.ireturn, 1) := by decide +kernel
theorem dX7_read_15 : decode cX7_read 15 = .ok (.aload_n 0, 1) := by decide +kernel
theorem dX7_read_16 : decode cX7_read 16 = .ok (.getfield 43, 3) := by decide +kernel
theorem dX7_read_19 : decode cX7_read 19 = .ok (.aload_n 0, 1) := by decide +kernel
theorem dX7_read_20 : decode cX7_read 20 = .ok (.getfield 12, 3) := by decide +kernel
theorem dX7_read_23 : decode cX7_read 23 = .ok (.invokevirtual 65, 3) := by decide +kernel
theorem dX7_read_26 : decode cX7_read 26 = .ok (.aload_n 0, 1) := by decide +kernel
theorem dX7_read_27 : decode cX7_read 27 = .ok (.getfield 22, 3) := by decide +kernel
theorem dX7_read_30 : decode cX7_read 30 = .ok (.iconst 0, 1) := by decide +kernel
theorem dX7_read_31 : decode cX7_read 31 = .ok (.invokevirtual 76, 3) := by decide +kernel
theorem dX7_read_34 : decode cX7_read 34 = .ok (.istore_n 1, 1) := by decide +kernel
theorem dX7_read_35 : decode cX7_read 35 = .ok (.aload_n 0, 1) := by decide +kernel
theorem dX7_read_36 : decode cX7_read 36 = .ok (.getfield 12, 3) := by decide +kernel
theorem dX7_read_39 : decode cX7_read 39 = .ok (.iload_n 1, 1) := by decide +kernel
theorem dX7_read_40 : decode cX7_read 40 = .ok (.invokevirtual 80, 3) := by decide +kernel
theorem dX7_read_43 : decode cX7_read 43 = .ok (.aload_n 0, 1) := by decide +kernel
theorem dX7_read_44 : decode cX7_read 44 = .ok (.getfield 22, 3) := by decide +kernel
theorem dX7_read_47 : decode cX7_read 47 = .ok (.invokevirtual 84, 3) := by decide +kernel
theorem dX7_read_50 : decode cX7_read 50 = .ok (.aload_n 0, 1) := by decide +kernel
theorem dX7_read_51 : decode cX7_read 51 = .ok (.getfield 22, 3) := by decide +kernel
theorem dX7_read_54 : decode cX7_read 54 = .ok (.invokevirtual 90, 3) := by decide +kernel
theorem dX7_read_57 : decode cX7_read 57 = .ok (.iload_n 1, 1) := by decide +kernel
theorem dX7_read_58 : decode cX7_read 58 = .ok (.ireturn, 1) := by decide +kernel
theorem dX7_pass_0 : decode cX7_pass 0 = .ok (.iload_n 1, 1) := by decide +kernel
theorem dX7_pass_1 : decode cX7_pass 1 = .ok (.iconst 1, 1) := by decide +kernel
theorem dX7_pass_2 : decode cX7_pass 2 = .ok (.sipush 200, 3) := by decide +kernel
theorem dX7_pass_5 : decode cX7_pass 5 = .ok (.invokestatic 57, 3) := by decide +kernel
theorem dX7_pass_8 : decode cX7_pass 8 = .ok (.ifCond .ne 6, 3) := by decide +kernel
theorem dX7_pass_11 : decode cX7_pass 11 = .ok (.bipush (-2), 2) := by decide +kernel
theorem dX7_pass_13 : decode cX7_pass 13 = .ok (.ireturn, 1) := by decide +kernel
theorem dX7_pass_14 : decode cX7_pass 14 = .ok (.aload_n 0, 1) := by decide +kernel
theorem dX7_pass_15 : decode cX7_pass 15 = .ok (.getfield 12, 3) := by decide +kernel
theorem dX7_pass_18 : decode cX7_pass 18 = .ok (.getfield 93, 3) := by decide +kernel
theorem dX7_pass_21 : decode cX7_pass 21 = .ok (.iload_n 1, 1) := by decide +kernel
theorem dX7_pass_22 : decode cX7_pass 22 = .ok (.iadd, 1) := by decide +kernel
theorem dX7_pass_23 : decode cX7_pass 23 = .ok (.ldc 97, 2) := by decide +kernel
theorem dX7_pass_25 : decode cX7_pass 25 = .ok (.if_icmp .le 6, 3) := by decide +kernel
theorem dX7_pass_28 : decode cX7_pass 28 = .ok (.bipush (-4), 2) := by decide +kernel
theorem dX7_pass_30 : decode cX7_pass 30 = .ok (.ireturn, 1) := by decide +kernel
theorem dX7_pass_31 : decode cX7_pass 31 = .ok (.aload_n 0, 1) := by decide +kernel
theorem dX7_pass_32 : decode cX7_pass 32 = .ok (.getfield 43, 3) := by decide +kernel
theorem dX7_pass_35 : decode cX7_pass 35 = .ok (.aload_n 0, 1) := by decide +kernel
theorem dX7_pass_36 : decode cX7_pass 36 = .ok (.getfield 12, 3) := by decide +kernel
theorem dX7_pass_39 : decode cX7_pass 39 = .ok (.invokevirtual 65, 3) := by decide +kernel
theorem dX7_pass_42 : decode cX7_pass 42 = .ok (.aload_n 0, 1) := by decide +kernel
theorem dX7_pass_43 : decode cX7_pass 43 = .ok (.getfield 12, 3) := by decide +kernel
theorem dX7_pass_46 : decode cX7_pass 46 = .ok (.iload_n 1, 1) := by decide +kernel
theorem dX7_pass_47 : decode cX7_pass 47 = .ok (.invokevirtual 98, 3) := by decide +kernel
theorem dX7_pass_50 : decode cX7_pass 50 = .ok (.ireturn, 1) := by decide +kernel
theorem dX7_drop_0 : decode cX7_drop 0 = .ok (.iload_n 1, 1) := by decide +kernel
theorem dX7_drop_1 : decode cX7_drop 1 = .ok (.invokestatic 101, 3) := by decide +kernel
theorem dX7_drop_4 : decode cX7_drop 4 = .ok (.ifCond .ne 5, 3) := by decide +kernel
theorem dX7_drop_7 : decode cX7_drop 7 = .ok (.iconst (-1), 1) := by decide +kernel
theorem dX7_drop_8 : decode cX7_drop 8 = .ok (.ireturn, 1) := by decide +kernel
theorem dX7_drop_9 : decode cX7_drop 9 = .ok (.iload_n 2, 1) := by decide +kernel
theorem dX7_drop_10 : decode cX7_drop 10 = .ok (.invokestatic 105, 3) := by decide +kernel
theorem dX7_drop_13 : decode cX7_drop 13 = .ok (.ifCond .ne 6, 3) := by decide +kernel
theorem dX7_drop_16 : decode cX7_drop 16 = .ok (.bipush (-2), 2) := by decide +kernel
theorem dX7_drop_18 : decode cX7_drop 18 = .ok (.ireturn, 1) := by decide +kernel
theorem dX7_drop_19 : decode cX7_drop 19 = .ok (.aload_n 0, 1) := by decide +kernel
theorem dX7_drop_20 : decode cX7_drop 20 = .ok (.getfield 12, 3) := by decide +kernel
theorem dX7_drop_23 : decode cX7_drop 23 = .ok (.iload_n 1, 1) := by decide +kernel
theorem dX7_drop_24 : decode cX7_drop 24 = .ok (.invokevirtual 80, 3) := by decide +kernel
theorem dX7_drop_27 : decode cX7_drop 27 = .ok (.iload_n 2, 1) := by decide +kernel
theorem dX7_drop_28 : decode cX7_drop 28 = .ok (.invokevirtual 108, 3) := by decide +kernel
theorem dX7_drop_31 : decode cX7_drop 31 = .ok (.ifCond .ne 6, 3) := by decide +kernel
theorem dX7_drop_34 : decode cX7_drop 34 = .ok (.bipush (-5), 2) := by decide +kernel
theorem dX7_drop_36 : decode cX7_drop 36 = .ok (.ireturn, 1) := by decide +kernel
theorem dX7_drop_37 : decode cX7_drop 37 = .ok (.aload_n 0, 1) := by decide +kernel
theorem dX7_drop_38 : decode cX7_drop 38 = .ok (.getfield 43, 3) := by decide +kernel
theorem dX7_drop_41 : decode cX7_drop 41 = .ok (.aload_n 0, 1) := by decide +kernel
theorem dX7_drop_42 : decode cX7_drop 42 = .ok (.getfield 12, 3) := by decide +kernel
theorem dX7_drop_45 : decode cX7_drop 45 = .ok (.invokevirtual 65, 3) := by decide +kernel
theorem dX7_drop_48 : decode cX7_drop 48 = .ok (.aload_n 0, 1) := by decide +kernel
theorem dX7_drop_49 : decode cX7_drop 49 = .ok (.getfield 12, 3) := by decide +kernel
theorem dX7_drop_52 : decode cX7_drop 52 = .ok (.iload_n 1, 1) := by decide +kernel
theorem dX7_drop_53 : decode cX7_drop 53 = .ok (.invokevirtual 80, 3) := by decide +kernel
theorem dX7_drop_56 : decode cX7_drop 56 = .ok (.iload_n 2, 1) := by decide +kernel
theorem dX7_drop_57 : decode cX7_drop 57 = .ok (.invokevirtual 111, 3) := by decide +kernel
theorem dX7_drop_60 : decode cX7_drop 60 = .ok (.aload_n 0, 1) := by decide +kernel
theorem dX7_drop_61 : decode cX7_drop 61 = .ok (.getfield 12, 3) := by decide +kernel
theorem dX7_drop_64 : decode cX7_drop 64 = .ok (.dup, 1) := by decide +kernel
theorem dX7_drop_65 : decode cX7_drop 65 = .ok (.getfield 115, 3) := by decide +kernel
theorem dX7_drop_68 : decode cX7_drop 68 = .ok (.iconst 1, 1) := by decide +kernel
theorem dX7_drop_69 : decode cX7_drop 69 = .ok (.iadd, 1) := by decide +kernel
theorem dX7_drop_70 : decode cX7_drop 70 = .ok (.putfield 115, 3) := by decide +kernel
theorem dX7_drop_73 : decode cX7_drop 73 = .ok (.aload_n 0, 1) := by decide +kernel
theorem dX7_drop_74 : decode cX7_drop 74 = .ok (.getfield 12, 3) := by decide +kernel
theorem dX7_drop_77 : decode cX7_drop 77 = .ok (.getfield 115, 3) := by decide +kernel
theorem dX7_drop_80 : decode cX7_drop 80 = .ok (.ireturn, 1) := by decide +kernel
theorem dX7_pick_0 : decode cX7_pick 0 = .ok (.iload_n 1, 1) := by decide +kernel
theorem dX7_pick_1 : decode cX7_pick 1 = .ok (.invokestatic 101, 3) := by decide +kernel
theorem dX7_pick_4 : decode cX7_pick 4 = .ok (.ifCond .ne 5, 3) := by decide +kernel
theorem dX7_pick_7 : decode cX7_pick 7 = .ok (.iconst (-1), 1) := by decide +kernel
theorem dX7_pick_8 : decode cX7_pick 8 = .ok (.ireturn, 1) := by decide +kernel
theorem dX7_pick_9 : decode cX7_pick 9 = .ok (.iload_n 2, 1) := by decide +kernel
theorem dX7_pick_10 : decode cX7_pick 10 = .ok (.invokestatic 105, 3) := by decide +kernel
theorem dX7_pick_13 : decode cX7_pick 13 = .ok (.ifCond .ne 6, 3) := by decide +kernel
theorem dX7_pick_16 : decode cX7_pick 16 = .ok (.bipush (-2), 2) := by decide +kernel
theorem dX7_pick_18 : decode cX7_pick 18 = .ok (.ireturn, 1) := by decide +kernel
theorem dX7_pick_19 : decode cX7_pick 19 = .ok (.aload_n 0, 1) := by decide +kernel
theorem dX7_pick_20 : decode cX7_pick 20 = .ok (.getfield 12, 3) := by decide +kernel
theorem dX7_pick_23 : decode cX7_pick 23 = .ok (.getfield 115, 3) := by decide +kernel
theorem dX7_pick_26 : decode cX7_pick 26 = .ok (.ifCond .eq 18, 3) := by decide +kernel
theorem dX7_pick_29 : decode cX7_pick 29 = .ok (.aload_n 0, 1) := by decide +kernel
theorem dX7_pick_30 : decode cX7_pick 30 = .ok (.getfield 12, 3) := by decide +kernel
theorem dX7_pick_33 : decode cX7_pick 33 = .ok (.iload_n 1, 1) := by decide +kernel
theorem dX7_pick_34 : decode cX7_pick 34 = .ok (.invokevirtual 80, 3) := by decide +kernel
theorem dX7_pick_37 : decode cX7_pick 37 = .ok (.iload_n 2, 1) := by decide +kernel
theorem dX7_pick_38 : decode cX7_pick 38 = .ok (.invokevirtual 108, 3) := by decide +kernel
theorem dX7_pick_41 : decode cX7_pick 41 = .ok (.ifCond .eq 6, 3) := by decide +kernel
theorem dX7_pick_44 : decode cX7_pick 44 = .ok (.bipush (-5), 2) := by decide +kernel
theorem dX7_pick_46 : decode cX7_pick 46 = .ok (.ireturn, 1) := by decide +kernel
theorem dX7_pick_47 : decode cX7_pick 47 = .ok (.aload_n 0, 1) := by decide +kernel
theorem dX7_pick_48 : decode cX7_pick 48 = .ok (.getfield 43, 3) := by decide +kernel
theorem dX7_pick_51 : decode cX7_pick 51 = .ok (.aload_n 0, 1) := by decide +kernel
theorem dX7_pick_52 : decode cX7_pick 52 = .ok (.getfield 12, 3) := by decide +kernel
theorem dX7_pick_55 : decode cX7_pick 55 = .ok (.invokevirtual 65, 3) := by decide +kernel
theorem dX7_pick_58 : decode cX7_pick 58 = .ok (.aload_n 0, 1) := by decide +kernel
theorem dX7_pick_59 : decode cX7_pick 59 = .ok (.getfield 12, 3) := by decide +kernel
theorem dX7_pick_62 : decode cX7_pick 62 = .ok (.iload_n 1, 1) := by decide +kernel
theorem dX7_pick_63 : decode cX7_pick 63 = .ok (.invokevirtual 80, 3) := by decide +kernel
theorem dX7_pick_66 : decode cX7_pick 66 = .ok (.iload_n 2, 1) := by decide +kernel
theorem dX7_pick_67 : decode cX7_pick 67 = .ok (.invokevirtual 118, 3) := by decide +kernel
theorem dX7_pick_70 : decode cX7_pick 70 = .ok (.aload_n 0, 1) := by decide +kernel
theorem dX7_pick_71 : decode cX7_pick 71 = .ok (.getfield 12, 3) := by decide +kernel
theorem dX7_pick_74 : decode cX7_pick 74 = .ok (.dup, 1) := by decide +kernel
theorem dX7_pick_75 : decode cX7_pick 75 = .ok (.getfield 115, 3) := by decide +kernel
theorem dX7_pick_78 : decode cX7_pick 78 = .ok (.iconst 1, 1) := by decide +kernel
theorem dX7_pick_79 : decode cX7_pick 79 = .ok (.isub, 1) := by decide +kernel
theorem dX7_pick_80 : decode cX7_pick 80 = .ok (.putfield 115, 3) := by decide +kernel
theorem dX7_pick_83 : decode cX7_pick 83 = .ok (.aload_n 0, 1) := by decide +kernel
theorem dX7_pick_84 : decode cX7_pick 84 = .ok (.getfield 12, 3) := by decide +kernel
theorem dX7_pick_87 : decode cX7_pick 87 = .ok (.getfield 115, 3) := by decide +kernel
theorem dX7_pick_90 : decode cX7_pick 90 = .ok (.ireturn, 1) := by decide +kernel
theorem dX7_of_0 : decode cX7_of 0 = .ok (.iload_n 1, 1) := by decide +kernel
theorem dX7_of_1 : decode cX7_of 1 = .ok (.invokestatic 101, 3) := by decide +kernel
theorem dX7_of_4 : decode cX7_of 4 = .ok (.ifCond .ne 5, 3) := by decide +kernel
theorem dX7_of_7 : decode cX7_of 7 = .ok (.iconst (-1), 1) := by decide +kernel
theorem dX7_of_8 : decode cX7_of 8 = .ok (.ireturn, 1) := by decide +kernel
theorem dX7_of_9 : decode cX7_of 9 = .ok (.aload_n 0, 1) := by decide +kernel
theorem dX7_of_10 : decode cX7_of 10 = .ok (.getfield 12, 3) := by decide +kernel
theorem dX7_of_13 : decode cX7_of 13 = .ok (.iload_n 1, 1) := by decide +kernel
theorem dX7_of_14 : decode cX7_of 14 = .ok (.invokevirtual 80, 3) := by decide +kernel
theorem dX7_of_17 : decode cX7_of 17 = .ok (.astore_n 3, 1) := by decide +kernel
theorem dX7_of_18 : decode cX7_of 18 = .ok (.iload_n 2, 1) := by decide +kernel
theorem dX7_of_19 : decode cX7_of 19 = .ok (.tableswitch 67 0 5 #[37, 42, 47, 52, 57, 62], 37) := by decide +kernel
theorem dX7_of_56 : decode cX7_of 56 = .ok (.aload_n 3, 1) := by decide +kernel
theorem dX7_of_57 : decode cX7_of 57 = .ok (.getfield 121, 3) := by decide +kernel
theorem dX7_of_60 : decode cX7_of 60 = .ok (.ireturn, 1) := by decide +kernel
theorem dX7_of_61 : decode cX7_of 61 = .ok (.aload_n 3, 1) := by decide +kernel
theorem dX7_of_62 : decode cX7_of 62 = .ok (.invokevirtual 124, 3) := by decide +kernel
theorem dX7_of_65 : decode cX7_of 65 = .ok (.ireturn, 1) := by decide +kernel
theorem dX7_of_66 : decode cX7_of 66 = .ok (.aload_n 3, 1) := by decide +kernel
theorem dX7_of_67 : decode cX7_of 67 = .ok (.getfield 125, 3) := by decide +kernel
theorem dX7_of_70 : decode cX7_of 70 = .ok (.ireturn, 1) := by decide +kernel
theorem dX7_of_71 : decode cX7_of 71 = .ok (.aload_n 3, 1) := by decide +kernel
theorem dX7_of_72 : decode cX7_of 72 = .ok (.getfield 128, 3) := by decide +kernel
theorem dX7_of_75 : decode cX7_of 75 = .ok (.ireturn, 1) := by decide +kernel
theorem dX7_of_76 : decode cX7_of 76 = .ok (.aload_n 3, 1) := by decide +kernel
theorem dX7_of_77 : decode cX7_of 77 = .ok (.getfield 131, 3) := by decide +kernel
theorem dX7_of_80 : decode cX7_of 80 = .ok (.ireturn, 1) := by decide +kernel
theorem dX7_of_81 : decode cX7_of 81 = .ok (.aload_n 3, 1) := by decide +kernel
theorem dX7_of_82 : decode cX7_of 82 = .ok (.getfield 134, 3) := by decide +kernel
theorem dX7_of_85 : decode cX7_of 85 = .ok (.ireturn, 1) := by decide +kernel
theorem dX7_of_86 : decode cX7_of 86 = .ok (.bipush (-2), 2) := by decide +kernel
theorem dX7_of_88 : decode cX7_of 88 = .ok (.ireturn, 1) := by decide +kernel
theorem dX7_thrown_0 : decode cX7_thrown 0 = .ok (.iload_n 1, 1) := by decide +kernel
theorem dX7_thrown_1 : decode cX7_thrown 1 = .ok (.invokestatic 101, 3) := by decide +kernel
theorem dX7_thrown_4 : decode cX7_thrown 4 = .ok (.ifCond .ne 5, 3) := by decide +kernel
theorem dX7_thrown_7 : decode cX7_thrown 7 = .ok (.iconst (-1), 1) := by decide +kernel
theorem dX7_thrown_8 : decode cX7_thrown 8 = .ok (.ireturn, 1) := by decide +kernel
theorem dX7_thrown_9 : decode cX7_thrown 9 = .ok (.aload_n 0, 1) := by decide +kernel
theorem dX7_thrown_10 : decode cX7_thrown 10 = .ok (.getfield 12, 3) := by decide +kernel
theorem dX7_thrown_13 : decode cX7_thrown 13 = .ok (.iload_n 1, 1) := by decide +kernel
theorem dX7_thrown_14 : decode cX7_thrown 14 = .ok (.invokevirtual 80, 3) := by decide +kernel
theorem dX7_thrown_17 : decode cX7_thrown 17 = .ok (.astore 4, 2) := by decide +kernel
theorem dX7_thrown_19 : decode cX7_thrown 19 = .ok (.iload_n 2, 1) := by decide +kernel
theorem dX7_thrown_20 : decode cX7_thrown 20 = .ok (.iconst 0, 1) := by decide +kernel
theorem dX7_thrown_21 : decode cX7_thrown 21 = .ok (.aload 4, 2) := by decide +kernel
theorem dX7_thrown_23 : decode cX7_thrown 23 = .ok (.getfield 125, 3) := by decide +kernel
theorem dX7_thrown_26 : decode cX7_thrown 26 = .ok (.iconst 1, 1) := by decide +kernel
theorem dX7_thrown_27 : decode cX7_thrown 27 = .ok (.isub, 1) := by decide +kernel
theorem dX7_thrown_28 : decode cX7_thrown 28 = .ok (.invokestatic 57, 3) := by decide +kernel
theorem dX7_thrown_31 : decode cX7_thrown 31 = .ok (.ifCond .ne 5, 3) := by decide +kernel
theorem dX7_thrown_34 : decode cX7_thrown 34 = .ok (.iconst (-1), 1) := by decide +kernel
theorem dX7_thrown_35 : decode cX7_thrown 35 = .ok (.ireturn, 1) := by decide +kernel
theorem dX7_thrown_36 : decode cX7_thrown 36 = .ok (.iload_n 3, 1) := by decide +kernel
theorem dX7_thrown_37 : decode cX7_thrown 37 = .ok (.lookupswitch 44 #[(0, 27), (1, 34)], 27) := by decide +kernel
theorem dX7_thrown_64 : decode cX7_thrown 64 = .ok (.aload 4, 2) := by decide +kernel
theorem dX7_thrown_66 : decode cX7_thrown 66 = .ok (.iload_n 2, 1) := by decide +kernel
theorem dX7_thrown_67 : decode cX7_thrown 67 = .ok (.invokevirtual 137, 3) := by decide +kernel
theorem dX7_thrown_70 : decode cX7_thrown 70 = .ok (.ireturn, 1) := by decide +kernel
theorem dX7_thrown_71 : decode cX7_thrown 71 = .ok (.aload 4, 2) := by decide +kernel
theorem dX7_thrown_73 : decode cX7_thrown 73 = .ok (.iload_n 2, 1) := by decide +kernel
theorem dX7_thrown_74 : decode cX7_thrown 74 = .ok (.invokevirtual 140, 3) := by decide +kernel
theorem dX7_thrown_77 : decode cX7_thrown 77 = .ok (.invokestatic 143, 3) := by decide +kernel
theorem dX7_thrown_80 : decode cX7_thrown 80 = .ok (.ireturn, 1) := by decide +kernel
theorem dX7_thrown_81 : decode cX7_thrown 81 = .ok (.bipush (-2), 2) := by decide +kernel
theorem dX7_thrown_83 : decode cX7_thrown 83 = .ok (.ireturn, 1) := by decide +kernel
theorem dX7_count_0 : decode cX7_count 0 = .ok (.iload_n 1, 1) := by decide +kernel
theorem dX7_count_1 : decode cX7_count 1 = .ok (.tableswitch 99 0 6 #[43, 51, 59, 67, 75, 83, 91], 43) := by decide +kernel
theorem dX7_count_44 : decode cX7_count 44 = .ok (.aload_n 0, 1) := by decide +kernel
theorem dX7_count_45 : decode cX7_count 45 = .ok (.getfield 12, 3) := by decide +kernel
theorem dX7_count_48 : decode cX7_count 48 = .ok (.getfield 93, 3) := by decide +kernel
theorem dX7_count_51 : decode cX7_count 51 = .ok (.ireturn, 1) := by decide +kernel
theorem dX7_count_52 : decode cX7_count 52 = .ok (.aload_n 0, 1) := by decide +kernel
theorem dX7_count_53 : decode cX7_count 53 = .ok (.getfield 12, 3) := by decide +kernel
theorem dX7_count_56 : decode cX7_count 56 = .ok (.getfield 115, 3) := by decide +kernel
theorem dX7_count_59 : decode cX7_count 59 = .ok (.ireturn, 1) := by decide +kernel
theorem dX7_count_60 : decode cX7_count 60 = .ok (.aload_n 0, 1) := by decide +kernel
theorem dX7_count_61 : decode cX7_count 61 = .ok (.getfield 12, 3) := by decide +kernel
theorem dX7_count_64 : decode cX7_count 64 = .ok (.invokevirtual 61, 3) := by decide +kernel
theorem dX7_count_67 : decode cX7_count 67 = .ok (.ireturn, 1) := by decide +kernel
theorem dX7_count_68 : decode cX7_count 68 = .ok (.aload_n 0, 1) := by decide +kernel
theorem dX7_count_69 : decode cX7_count 69 = .ok (.getfield 12, 3) := by decide +kernel
theorem dX7_count_72 : decode cX7_count 72 = .ok (.getfield 147, 3) := by decide +kernel
theorem dX7_count_75 : decode cX7_count 75 = .ok (.ireturn, 1) := by decide +kernel
theorem dX7_count_76 : decode cX7_count 76 = .ok (.aload_n 0, 1) := by decide +kernel
theorem dX7_count_77 : decode cX7_count 77 = .ok (.getfield 12, 3) := by decide +kernel
theorem dX7_count_80 : decode cX7_count 80 = .ok (.getfield 150, 3) := by decide +kernel
theorem dX7_count_83 : decode cX7_count 83 = .ok (.ireturn, 1) := by decide +kernel
theorem dX7_count_84 : decode cX7_count 84 = .ok (.aload_n 0, 1) := by decide +kernel
theorem dX7_count_85 : decode cX7_count 85 = .ok (.getfield 22, 3) := by decide +kernel
theorem dX7_count_88 : decode cX7_count 88 = .ok (.getfield 153, 3) := by decide +kernel
theorem dX7_count_91 : decode cX7_count 91 = .ok (.ireturn, 1) := by decide +kernel
theorem dX7_count_92 : decode cX7_count 92 = .ok (.aload_n 0, 1) := by decide +kernel
theorem dX7_count_93 : decode cX7_count 93 = .ok (.getfield 43, 3) := by decide +kernel
theorem dX7_count_96 : decode cX7_count 96 = .ok (.getfield 156, 3) := by decide +kernel
theorem dX7_count_99 : decode cX7_count 99 = .ok (.ireturn, 1) := by decide +kernel
theorem dX7_count_100 : decode cX7_count 100 = .ok (.bipush (-2), 2) := by decide +kernel
theorem dX7_count_102 : decode cX7_count 102 = .ok (.ireturn, 1) := by decide +kernel
theorem dX7_firstDrop_0 : decode cX7_firstDrop 0 = .ok (.aload_n 0, 1) := by decide +kernel
theorem dX7_firstDrop_1 : decode cX7_firstDrop 1 = .ok (.getfield 16, 3) := by decide +kernel
theorem dX7_firstDrop_4 : decode cX7_firstDrop 4 = .ok (.aload_n 0, 1) := by decide +kernel
theorem dX7_firstDrop_5 : decode cX7_firstDrop 5 = .ok (.getfield 12, 3) := by decide +kernel
theorem dX7_firstDrop_8 : decode cX7_firstDrop 8 = .ok (.invokevirtual 159, 3) := by decide +kernel
theorem dX7_firstDrop_11 : decode cX7_firstDrop 11 = .ok (.iconst 0, 1) := by decide +kernel
theorem dX7_firstDrop_12 : decode cX7_firstDrop 12 = .ok (.istore_n 1, 1) := by decide +kernel
theorem dX7_firstDrop_13 : decode cX7_firstDrop 13 = .ok (.iload_n 1, 1) := by decide +kernel
theorem dX7_firstDrop_14 : decode cX7_firstDrop 14 = .ok (.sipush 1000, 3) := by decide +kernel
theorem dX7_firstDrop_17 : decode cX7_firstDrop 17 = .ok (.if_icmp .ge 22, 3) := by decide +kernel
theorem dX7_firstDrop_20 : decode cX7_firstDrop 20 = .ok (.aload_n 0, 1) := by decide +kernel
theorem dX7_firstDrop_21 : decode cX7_firstDrop 21 = .ok (.getfield 16, 3) := by decide +kernel
theorem dX7_firstDrop_24 : decode cX7_firstDrop 24 = .ok (.iconst 1, 1) := by decide +kernel
theorem dX7_firstDrop_25 : decode cX7_firstDrop 25 = .ok (.invokevirtual 98, 3) := by decide +kernel
theorem dX7_firstDrop_28 : decode cX7_firstDrop 28 = .ok (.ifCond .le 5, 3) := by decide +kernel
theorem dX7_firstDrop_31 : decode cX7_firstDrop 31 = .ok (.iload_n 1, 1) := by decide +kernel
theorem dX7_firstDrop_32 : decode cX7_firstDrop 32 = .ok (.ireturn, 1) := by decide +kernel
theorem dX7_firstDrop_33 : decode cX7_firstDrop 33 = .ok (.iinc 1 1, 3) := by decide +kernel
theorem dX7_firstDrop_36 : decode cX7_firstDrop 36 = .ok (.goto (-23), 3) := by decide +kernel
theorem dX7_firstDrop_39 : decode cX7_firstDrop 39 = .ok (.bipush (-6), 2) := by decide +kernel
theorem dX7_firstDrop_41 : decode cX7_firstDrop 41 = .ok (.ireturn, 1) := by decide +kernel
theorem dX7_comesRound_0 : decode cX7_comesRound 0 = .ok (.aload_n 0, 1) := by decide +kernel
theorem dX7_comesRound_1 : decode cX7_comesRound 1 = .ok (.getfield 16, 3) := by decide +kernel
theorem dX7_comesRound_4 : decode cX7_comesRound 4 = .ok (.aload_n 0, 1) := by decide +kernel
theorem dX7_comesRound_5 : decode cX7_comesRound 5 = .ok (.getfield 12, 3) := by decide +kernel
theorem dX7_comesRound_8 : decode cX7_comesRound 8 = .ok (.invokevirtual 159, 3) := by decide +kernel
theorem dX7_comesRound_11 : decode cX7_comesRound 11 = .ok (.iconst 1, 1) := by decide +kernel
theorem dX7_comesRound_12 : decode cX7_comesRound 12 = .ok (.istore_n 1, 1) := by decide +kernel
theorem dX7_comesRound_13 : decode cX7_comesRound 13 = .ok (.iload_n 1, 1) := by decide +kernel
theorem dX7_comesRound_14 : decode cX7_comesRound 14 = .ok (.sipush 1000, 3) := by decide +kernel
theorem dX7_comesRound_17 : decode cX7_comesRound 17 = .ok (.if_icmp .gt 34, 3) := by decide +kernel
theorem dX7_comesRound_20 : decode cX7_comesRound 20 = .ok (.aload_n 0, 1) := by decide +kernel
theorem dX7_comesRound_21 : decode cX7_comesRound 21 = .ok (.getfield 16, 3) := by decide +kernel
theorem dX7_comesRound_24 : decode cX7_comesRound 24 = .ok (.iconst 1, 1) := by decide +kernel
theorem dX7_comesRound_25 : decode cX7_comesRound 25 = .ok (.invokevirtual 98, 3) := by decide +kernel
theorem dX7_comesRound_28 : decode cX7_comesRound 28 = .ok (.pop, 1) := by decide +kernel
theorem dX7_comesRound_29 : decode cX7_comesRound 29 = .ok (.aload_n 0, 1) := by decide +kernel
theorem dX7_comesRound_30 : decode cX7_comesRound 30 = .ok (.getfield 16, 3) := by decide +kernel
theorem dX7_comesRound_33 : decode cX7_comesRound 33 = .ok (.aload_n 0, 1) := by decide +kernel
theorem dX7_comesRound_34 : decode cX7_comesRound 34 = .ok (.getfield 12, 3) := by decide +kernel
theorem dX7_comesRound_37 : decode cX7_comesRound 37 = .ok (.invokevirtual 162, 3) := by decide +kernel
theorem dX7_comesRound_40 : decode cX7_comesRound 40 = .ok (.ifCond .eq 5, 3) := by decide +kernel
theorem dX7_comesRound_43 : decode cX7_comesRound 43 = .ok (.iload_n 1, 1) := by decide +kernel
theorem dX7_comesRound_44 : decode cX7_comesRound 44 = .ok (.ireturn, 1) := by decide +kernel
theorem dX7_comesRound_45 : decode cX7_comesRound 45 = .ok (.iinc 1 1, 3) := by decide +kernel
theorem dX7_comesRound_48 : decode cX7_comesRound 48 = .ok (.goto (-35), 3) := by decide +kernel
theorem dX7_comesRound_51 : decode cX7_comesRound 51 = .ok (.bipush (-6), 2) := by decide +kernel
theorem dX7_comesRound_53 : decode cX7_comesRound 53 = .ok (.ireturn, 1) := by decide +kernel
theorem dX7_stateBehind_0 : decode cX7_stateBehind 0 = .ok (.iload_n 1, 1) := by decide +kernel
theorem dX7_stateBehind_1 : decode cX7_stateBehind 1 = .ok (.invokestatic 101, 3) := by decide +kernel
theorem dX7_stateBehind_4 : decode cX7_stateBehind 4 = .ok (.ifCond .ne 5, 3) := by decide +kernel
theorem dX7_stateBehind_7 : decode cX7_stateBehind 7 = .ok (.iconst (-1), 1) := by decide +kernel
theorem dX7_stateBehind_8 : decode cX7_stateBehind 8 = .ok (.ireturn, 1) := by decide +kernel
theorem dX7_stateBehind_9 : decode cX7_stateBehind 9 = .ok (.iload_n 2, 1) := by decide +kernel
theorem dX7_stateBehind_10 : decode cX7_stateBehind 10 = .ok (.iconst 1, 1) := by decide +kernel
theorem dX7_stateBehind_11 : decode cX7_stateBehind 11 = .ok (.sipush 200, 3) := by decide +kernel
theorem dX7_stateBehind_14 : decode cX7_stateBehind 14 = .ok (.invokestatic 57, 3) := by decide +kernel
theorem dX7_stateBehind_17 : decode cX7_stateBehind 17 = .ok (.ifCond .ne 6, 3) := by decide +kernel
theorem dX7_stateBehind_20 : decode cX7_stateBehind 20 = .ok (.bipush (-2), 2) := by decide +kernel
theorem dX7_stateBehind_22 : decode cX7_stateBehind 22 = .ok (.ireturn, 1) := by decide +kernel
theorem dX7_stateBehind_23 : decode cX7_stateBehind 23 = .ok (.aload_n 0, 1) := by decide +kernel
theorem dX7_stateBehind_24 : decode cX7_stateBehind 24 = .ok (.getfield 16, 3) := by decide +kernel
theorem dX7_stateBehind_27 : decode cX7_stateBehind 27 = .ok (.aload_n 0, 1) := by decide +kernel
theorem dX7_stateBehind_28 : decode cX7_stateBehind 28 = .ok (.getfield 12, 3) := by decide +kernel
theorem dX7_stateBehind_31 : decode cX7_stateBehind 31 = .ok (.invokevirtual 159, 3) := by decide +kernel
theorem dX7_stateBehind_34 : decode cX7_stateBehind 34 = .ok (.aload_n 0, 1) := by decide +kernel
theorem dX7_stateBehind_35 : decode cX7_stateBehind 35 = .ok (.getfield 16, 3) := by decide +kernel
theorem dX7_stateBehind_38 : decode cX7_stateBehind 38 = .ok (.iload_n 2, 1) := by decide +kernel
theorem dX7_stateBehind_39 : decode cX7_stateBehind 39 = .ok (.invokevirtual 98, 3) := by decide +kernel
theorem dX7_stateBehind_42 : decode cX7_stateBehind 42 = .ok (.pop, 1) := by decide +kernel
theorem dX7_stateBehind_43 : decode cX7_stateBehind 43 = .ok (.aload_n 0, 1) := by decide +kernel
theorem dX7_stateBehind_44 : decode cX7_stateBehind 44 = .ok (.getfield 16, 3) := by decide +kernel
theorem dX7_stateBehind_47 : decode cX7_stateBehind 47 = .ok (.iload_n 1, 1) := by decide +kernel
theorem dX7_stateBehind_48 : decode cX7_stateBehind 48 = .ok (.invokevirtual 80, 3) := by decide +kernel
theorem dX7_stateBehind_51 : decode cX7_stateBehind 51 = .ok (.getfield 121, 3) := by decide +kernel
theorem dX7_stateBehind_54 : decode cX7_stateBehind 54 = .ok (.ireturn, 1) := by decide +kernel
theorem dX7_pattern_0 : decode cX7_pattern 0 = .ok (.aload_n 0, 1) := by decide +kernel
theorem dX7_pattern_1 : decode cX7_pattern 1 = .ok (.getfield 29, 3) := by decide +kernel
theorem dX7_pattern_4 : decode cX7_pattern 4 = .ok (.aload_n 0, 1) := by decide +kernel
theorem dX7_pattern_5 : decode cX7_pattern 5 = .ok (.getfield 22, 3) := by decide +kernel
theorem dX7_pattern_8 : decode cX7_pattern 8 = .ok (.invokevirtual 166, 3) := by decide +kernel
theorem dX7_pattern_11 : decode cX7_pattern 11 = .ok (.ifCond .ne 6, 3) := by decide +kernel
theorem dX7_pattern_14 : decode cX7_pattern 14 = .ok (.bipush (-3), 2) := by decide +kernel
theorem dX7_pattern_16 : decode cX7_pattern 16 = .ok (.ireturn, 1) := by decide +kernel
theorem dX7_pattern_17 : decode cX7_pattern 17 = .ok (.iload_n 1, 1) := by decide +kernel
theorem dX7_pattern_18 : decode cX7_pattern 18 = .ok (.iconst 0, 1) := by decide +kernel
theorem dX7_pattern_19 : decode cX7_pattern 19 = .ok (.bipush 6, 2) := by decide +kernel
theorem dX7_pattern_21 : decode cX7_pattern 21 = .ok (.invokestatic 57, 3) := by decide +kernel
theorem dX7_pattern_24 : decode cX7_pattern 24 = .ok (.ifCond .ne 6, 3) := by decide +kernel
theorem dX7_pattern_27 : decode cX7_pattern 27 = .ok (.bipush (-2), 2) := by decide +kernel
theorem dX7_pattern_29 : decode cX7_pattern 29 = .ok (.ireturn, 1) := by decide +kernel
theorem dX7_pattern_30 : decode cX7_pattern 30 = .ok (.aload_n 0, 1) := by decide +kernel
theorem dX7_pattern_31 : decode cX7_pattern 31 = .ok (.getfield 29, 3) := by decide +kernel
theorem dX7_pattern_34 : decode cX7_pattern 34 = .ok (.invokevirtual 169, 3) := by decide +kernel
theorem dX7_pattern_37 : decode cX7_pattern 37 = .ok (.istore_n 2, 1) := by decide +kernel
theorem dX7_pattern_38 : decode cX7_pattern 38 = .ok (.iload_n 2, 1) := by decide +kernel
theorem dX7_pattern_39 : decode cX7_pattern 39 = .ok (.ifCond .ne 10, 3) := by decide +kernel
theorem dX7_pattern_42 : decode cX7_pattern 42 = .ok (.iload_n 1, 1) := by decide +kernel
theorem dX7_pattern_43 : decode cX7_pattern 43 = .ok (.ifCond .eq 6, 3) := by decide +kernel
theorem dX7_pattern_46 : decode cX7_pattern 46 = .ok (.bipush (-5), 2) := by decide +kernel
theorem dX7_pattern_48 : decode cX7_pattern 48 = .ok (.ireturn, 1) := by decide +kernel
theorem dX7_pattern_49 : decode cX7_pattern 49 = .ok (.iload_n 1, 1) := by decide +kernel
theorem dX7_pattern_50 : decode cX7_pattern 50 = .ok (.tableswitch 108 1 6 #[38, 46, 54, 62, 71, 79], 38) := by decide +kernel
theorem dX7_pattern_88 : decode cX7_pattern 88 = .ok (.aload_n 0, 1) := by decide +kernel
theorem dX7_pattern_89 : decode cX7_pattern 89 = .ok (.getfield 29, 3) := by decide +kernel
theorem dX7_pattern_92 : decode cX7_pattern 92 = .ok (.invokevirtual 173, 3) := by decide +kernel
theorem dX7_pattern_95 : decode cX7_pattern 95 = .ok (.ireturn, 1) := by decide +kernel
theorem dX7_pattern_96 : decode cX7_pattern 96 = .ok (.aload_n 0, 1) := by decide +kernel
theorem dX7_pattern_97 : decode cX7_pattern 97 = .ok (.getfield 29, 3) := by decide +kernel
theorem dX7_pattern_100 : decode cX7_pattern 100 = .ok (.invokevirtual 174, 3) := by decide +kernel
theorem dX7_pattern_103 : decode cX7_pattern 103 = .ok (.ireturn, 1) := by decide +kernel
theorem dX7_pattern_104 : decode cX7_pattern 104 = .ok (.aload_n 0, 1) := by decide +kernel
theorem dX7_pattern_105 : decode cX7_pattern 105 = .ok (.getfield 29, 3) := by decide +kernel
theorem dX7_pattern_108 : decode cX7_pattern 108 = .ok (.invokevirtual 177, 3) := by decide +kernel
theorem dX7_pattern_111 : decode cX7_pattern 111 = .ok (.ireturn, 1) := by decide +kernel
theorem dX7_pattern_112 : decode cX7_pattern 112 = .ok (.aload_n 0, 1) := by decide +kernel
theorem dX7_pattern_113 : decode cX7_pattern 113 = .ok (.getfield 29, 3) := by decide +kernel
theorem dX7_pattern_116 : decode cX7_pattern 116 = .ok (.iconst 0, 1) := by decide +kernel
theorem dX7_pattern_117 : decode cX7_pattern 117 = .ok (.invokevirtual 180, 3) := by decide +kernel
theorem dX7_pattern_120 : decode cX7_pattern 120 = .ok (.ireturn, 1) := by decide +kernel
theorem dX7_pattern_121 : decode cX7_pattern 121 = .ok (.aload_n 0, 1) := by decide +kernel
theorem dX7_pattern_122 : decode cX7_pattern 122 = .ok (.getfield 29, 3) := by decide +kernel
theorem dX7_pattern_125 : decode cX7_pattern 125 = .ok (.invokevirtual 183, 3) := by decide +kernel
theorem dX7_pattern_128 : decode cX7_pattern 128 = .ok (.ireturn, 1) := by decide +kernel
theorem dX7_pattern_129 : decode cX7_pattern 129 = .ok (.aload_n 0, 1) := by decide +kernel
theorem dX7_pattern_130 : decode cX7_pattern 130 = .ok (.getfield 29, 3) := by decide +kernel
theorem dX7_pattern_133 : decode cX7_pattern 133 = .ok (.invokevirtual 174, 3) := by decide +kernel
theorem dX7_pattern_136 : decode cX7_pattern 136 = .ok (.aload_n 0, 1) := by decide +kernel
theorem dX7_pattern_137 : decode cX7_pattern 137 = .ok (.getfield 29, 3) := by decide +kernel
theorem dX7_pattern_140 : decode cX7_pattern 140 = .ok (.invokevirtual 173, 3) := by decide +kernel
theorem dX7_pattern_143 : decode cX7_pattern 143 = .ok (.invokestatic 186, 3) := by decide +kernel
theorem dX7_pattern_146 : decode cX7_pattern 146 = .ok (.if_icmp .ne 7, 3) := by decide +kernel
theorem dX7_pattern_149 : decode cX7_pattern 149 = .ok (.iconst 1, 1) := by decide +kernel
theorem dX7_pattern_150 : decode cX7_pattern 150 = .ok (.goto 4, 3) := by decide +kernel
theorem dX7_pattern_153 : decode cX7_pattern 153 = .ok (.iconst 0, 1) := by decide +kernel
theorem dX7_pattern_154 : decode cX7_pattern 154 = .ok (.invokestatic 143, 3) := by decide +kernel
theorem dX7_pattern_157 : decode cX7_pattern 157 = .ok (.ireturn, 1) := by decide +kernel
theorem dX7_pattern_158 : decode cX7_pattern 158 = .ok (.iload_n 2, 1) := by decide +kernel
theorem dX7_pattern_159 : decode cX7_pattern 159 = .ok (.invokestatic 143, 3) := by decide +kernel
theorem dX7_pattern_162 : decode cX7_pattern 162 = .ok (.ireturn, 1) := by decide +kernel
theorem dX7_back_0 : decode cX7_back 0 = .ok (.aload_n 0, 1) := by decide +kernel
theorem dX7_back_1 : decode cX7_back 1 = .ok (.getfield 29, 3) := by decide +kernel
theorem dX7_back_4 : decode cX7_back 4 = .ok (.aload_n 0, 1) := by decide +kernel
theorem dX7_back_5 : decode cX7_back 5 = .ok (.getfield 22, 3) := by decide +kernel
theorem dX7_back_8 : decode cX7_back 8 = .ok (.invokevirtual 166, 3) := by decide +kernel
theorem dX7_back_11 : decode cX7_back 11 = .ok (.ifCond .ne 6, 3) := by decide +kernel
theorem dX7_back_14 : decode cX7_back 14 = .ok (.bipush (-3), 2) := by decide +kernel
theorem dX7_back_16 : decode cX7_back 16 = .ok (.ireturn, 1) := by decide +kernel
theorem dX7_back_17 : decode cX7_back 17 = .ok (.iload_n 1, 1) := by decide +kernel
theorem dX7_back_18 : decode cX7_back 18 = .ok (.iconst 0, 1) := by decide +kernel
theorem dX7_back_19 : decode cX7_back 19 = .ok (.aload_n 0, 1) := by decide +kernel
theorem dX7_back_20 : decode cX7_back 20 = .ok (.getfield 29, 3) := by decide +kernel
theorem dX7_back_23 : decode cX7_back 23 = .ok (.getfield 189, 3) := by decide +kernel
theorem dX7_back_26 : decode cX7_back 26 = .ok (.iconst 1, 1) := by decide +kernel
theorem dX7_back_27 : decode cX7_back 27 = .ok (.isub, 1) := by decide +kernel
theorem dX7_back_28 : decode cX7_back 28 = .ok (.invokestatic 57, 3) := by decide +kernel
theorem dX7_back_31 : decode cX7_back 31 = .ok (.ifCond .ne 5, 3) := by decide +kernel
theorem dX7_back_34 : decode cX7_back 34 = .ok (.iconst (-1), 1) := by decide +kernel
theorem dX7_back_35 : decode cX7_back 35 = .ok (.ireturn, 1) := by decide +kernel
theorem dX7_back_36 : decode cX7_back 36 = .ok (.aload_n 0, 1) := by decide +kernel
theorem dX7_back_37 : decode cX7_back 37 = .ok (.getfield 29, 3) := by decide +kernel
theorem dX7_back_40 : decode cX7_back 40 = .ok (.invokevirtual 169, 3) := by decide +kernel
theorem dX7_back_43 : decode cX7_back 43 = .ok (.ifCond .ne 6, 3) := by decide +kernel
theorem dX7_back_46 : decode cX7_back 46 = .ok (.bipush (-5), 2) := by decide +kernel
theorem dX7_back_48 : decode cX7_back 48 = .ok (.ireturn, 1) := by decide +kernel
theorem dX7_back_49 : decode cX7_back 49 = .ok (.aload_n 0, 1) := by decide +kernel
theorem dX7_back_50 : decode cX7_back 50 = .ok (.getfield 29, 3) := by decide +kernel
theorem dX7_back_53 : decode cX7_back 53 = .ok (.iload_n 1, 1) := by decide +kernel
theorem dX7_back_54 : decode cX7_back 54 = .ok (.invokevirtual 190, 3) := by decide +kernel
theorem dX7_back_57 : decode cX7_back 57 = .ok (.ireturn, 1) := by decide +kernel
theorem dX7_way_0 : decode cX7_way 0 = .ok (.iload_n 1, 1) := by decide +kernel
theorem dX7_way_1 : decode cX7_way 1 = .ok (.invokestatic 101, 3) := by decide +kernel
theorem dX7_way_4 : decode cX7_way 4 = .ok (.ifCond .ne 5, 3) := by decide +kernel
theorem dX7_way_7 : decode cX7_way 7 = .ok (.iconst (-1), 1) := by decide +kernel
theorem dX7_way_8 : decode cX7_way 8 = .ok (.ireturn, 1) := by decide +kernel
theorem dX7_way_9 : decode cX7_way 9 = .ok (.iload_n 2, 1) := by decide +kernel
theorem dX7_way_10 : decode cX7_way 10 = .ok (.iconst 0, 1) := by decide +kernel
theorem dX7_way_11 : decode cX7_way 11 = .ok (.sipush 255, 3) := by decide +kernel
theorem dX7_way_14 : decode cX7_way 14 = .ok (.invokestatic 57, 3) := by decide +kernel
theorem dX7_way_17 : decode cX7_way 17 = .ok (.ifCond .eq 12, 3) := by decide +kernel
theorem dX7_way_20 : decode cX7_way 20 = .ok (.iload_n 3, 1) := by decide +kernel
theorem dX7_way_21 : decode cX7_way 21 = .ok (.iconst 0, 1) := by decide +kernel
theorem dX7_way_22 : decode cX7_way 22 = .ok (.iconst 2, 1) := by decide +kernel
theorem dX7_way_23 : decode cX7_way 23 = .ok (.invokestatic 57, 3) := by decide +kernel
theorem dX7_way_26 : decode cX7_way 26 = .ok (.ifCond .ne 6, 3) := by decide +kernel
theorem dX7_way_29 : decode cX7_way 29 = .ok (.bipush (-2), 2) := by decide +kernel
theorem dX7_way_31 : decode cX7_way 31 = .ok (.ireturn, 1) := by decide +kernel
theorem dX7_way_32 : decode cX7_way 32 = .ok (.aload_n 0, 1) := by decide +kernel
theorem dX7_way_33 : decode cX7_way 33 = .ok (.getfield 36, 3) := by decide +kernel
theorem dX7_way_36 : decode cX7_way 36 = .ok (.aload_n 0, 1) := by decide +kernel
theorem dX7_way_37 : decode cX7_way 37 = .ok (.getfield 12, 3) := by decide +kernel
theorem dX7_way_40 : decode cX7_way 40 = .ok (.iload_n 1, 1) := by decide +kernel
theorem dX7_way_41 : decode cX7_way 41 = .ok (.invokevirtual 80, 3) := by decide +kernel
theorem dX7_way_44 : decode cX7_way 44 = .ok (.getfield 121, 3) := by decide +kernel
theorem dX7_way_47 : decode cX7_way 47 = .ok (.invokevirtual 193, 3) := by decide +kernel
theorem dX7_way_50 : decode cX7_way 50 = .ok (.aload_n 0, 1) := by decide +kernel
theorem dX7_way_51 : decode cX7_way 51 = .ok (.getfield 36, 3) := by decide +kernel
theorem dX7_way_54 : decode cX7_way 54 = .ok (.iload_n 2, 1) := by decide +kernel
theorem dX7_way_55 : decode cX7_way 55 = .ok (.invokevirtual 196, 3) := by decide +kernel
theorem dX7_way_58 : decode cX7_way 58 = .ok (.istore 4, 2) := by decide +kernel
theorem dX7_way_60 : decode cX7_way 60 = .ok (.iload 4, 2) := by decide +kernel
theorem dX7_way_62 : decode cX7_way 62 = .ok (.iconst (-1), 1) := by decide +kernel
theorem dX7_way_63 : decode cX7_way 63 = .ok (.if_icmp .ne 6, 3) := by decide +kernel
theorem dX7_way_66 : decode cX7_way 66 = .ok (.bipush (-5), 2) := by decide +kernel
theorem dX7_way_68 : decode cX7_way 68 = .ok (.ireturn, 1) := by decide +kernel
theorem dX7_way_69 : decode cX7_way 69 = .ok (.iload_n 3, 1) := by decide +kernel
theorem dX7_way_70 : decode cX7_way 70 = .ok (.ifCond .ne 6, 3) := by decide +kernel
theorem dX7_way_73 : decode cX7_way 73 = .ok (.iload 4, 2) := by decide +kernel
theorem dX7_way_75 : decode cX7_way 75 = .ok (.ireturn, 1) := by decide +kernel
theorem dX7_way_76 : decode cX7_way 76 = .ok (.iload 4, 2) := by decide +kernel
theorem dX7_way_78 : decode cX7_way 78 = .ok (.ifCond .ne 6, 3) := by decide +kernel
theorem dX7_way_81 : decode cX7_way 81 = .ok (.bipush (-6), 2) := by decide +kernel
theorem dX7_way_83 : decode cX7_way 83 = .ok (.ireturn, 1) := by decide +kernel
theorem dX7_way_84 : decode cX7_way 84 = .ok (.iload_n 3, 1) := by decide +kernel
theorem dX7_way_85 : decode cX7_way 85 = .ok (.iconst 1, 1) := by decide +kernel
theorem dX7_way_86 : decode cX7_way 86 = .ok (.if_icmp .ne 14, 3) := by decide +kernel
theorem dX7_way_89 : decode cX7_way 89 = .ok (.aload_n 0, 1) := by decide +kernel
theorem dX7_way_90 : decode cX7_way 90 = .ok (.getfield 36, 3) := by decide +kernel
theorem dX7_way_93 : decode cX7_way 93 = .ok (.iload_n 2, 1) := by decide +kernel
theorem dX7_way_94 : decode cX7_way 94 = .ok (.invokevirtual 199, 3) := by decide +kernel
theorem dX7_way_97 : decode cX7_way 97 = .ok (.goto 11, 3) := by decide +kernel
theorem dX7_way_100 : decode cX7_way 100 = .ok (.aload_n 0, 1) := by decide +kernel
theorem dX7_way_101 : decode cX7_way 101 = .ok (.getfield 36, 3) := by decide +kernel
theorem dX7_way_104 : decode cX7_way 104 = .ok (.iload_n 2, 1) := by decide +kernel
theorem dX7_way_105 : decode cX7_way 105 = .ok (.invokevirtual 202, 3) := by decide +kernel
theorem dX7_way_108 : decode cX7_way 108 = .ok (.ireturn, 1) := by decide +kernel
theorem dX7_howMany_0 : decode cX7_howMany 0 = .ok (.iload_n 1, 1) := by decide +kernel
theorem dX7_howMany_1 : decode cX7_howMany 1 = .ok (.iconst 1, 1) := by decide +kernel
theorem dX7_howMany_2 : decode cX7_howMany 2 = .ok (.iconst 5, 1) := by decide +kernel
theorem dX7_howMany_3 : decode cX7_howMany 3 = .ok (.invokestatic 57, 3) := by decide +kernel
theorem dX7_howMany_6 : decode cX7_howMany 6 = .ok (.ifCond .eq 13, 3) := by decide +kernel
theorem dX7_howMany_9 : decode cX7_howMany 9 = .ok (.iload_n 2, 1) := by decide +kernel
theorem dX7_howMany_10 : decode cX7_howMany 10 = .ok (.iconst 0, 1) := by decide +kernel
theorem dX7_howMany_11 : decode cX7_howMany 11 = .ok (.bipush 7, 2) := by decide +kernel
theorem dX7_howMany_13 : decode cX7_howMany 13 = .ok (.invokestatic 57, 3) := by decide +kernel
theorem dX7_howMany_16 : decode cX7_howMany 16 = .ok (.ifCond .ne 6, 3) := by decide +kernel
theorem dX7_howMany_19 : decode cX7_howMany 19 = .ok (.bipush (-2), 2) := by decide +kernel
theorem dX7_howMany_21 : decode cX7_howMany 21 = .ok (.ireturn, 1) := by decide +kernel
theorem dX7_howMany_22 : decode cX7_howMany 22 = .ok (.iload_n 1, 1) := by decide +kernel
theorem dX7_howMany_23 : decode cX7_howMany 23 = .ok (.iconst 0, 1) := by decide +kernel
theorem dX7_howMany_24 : decode cX7_howMany 24 = .ok (.iconst 0, 1) := by decide +kernel
theorem dX7_howMany_25 : decode cX7_howMany 25 = .ok (.iload_n 1, 1) := by decide +kernel
theorem dX7_howMany_26 : decode cX7_howMany 26 = .ok (.iload_n 2, 1) := by decide +kernel
theorem dX7_howMany_27 : decode cX7_howMany 27 = .ok (.imul, 1) := by decide +kernel
theorem dX7_howMany_28 : decode cX7_howMany 28 = .ok (.invokestatic 205, 3) := by decide +kernel
theorem dX7_howMany_31 : decode cX7_howMany 31 = .ok (.ireturn, 1) := by decide +kernel
theorem dX7_put_0 : decode cX7_put 0 = .ok (.lload_n 1, 1) := by decide +kernel
theorem dX7_put_1 : decode cX7_put 1 = .ok (.invokestatic 209, 3) := by decide +kernel
theorem dX7_put_4 : decode cX7_put 4 = .ok (.istore_n 3, 1) := by decide +kernel
theorem dX7_put_5 : decode cX7_put 5 = .ok (.iload_n 3, 1) := by decide +kernel
theorem dX7_put_6 : decode cX7_put 6 = .ok (.ifCond .ne 6, 3) := by decide +kernel
theorem dX7_put_9 : decode cX7_put 9 = .ok (.bipush (-2), 2) := by decide +kernel
theorem dX7_put_11 : decode cX7_put 11 = .ok (.ireturn, 1) := by decide +kernel
theorem dX7_put_12 : decode cX7_put 12 = .ok (.aload_n 0, 1) := by decide +kernel
theorem dX7_put_13 : decode cX7_put 13 = .ok (.getfield 22, 3) := by decide +kernel
theorem dX7_put_16 : decode cX7_put 16 = .ok (.getfield 153, 3) := by decide +kernel
theorem dX7_put_19 : decode cX7_put 19 = .ok (.iload_n 3, 1) := by decide +kernel
theorem dX7_put_20 : decode cX7_put 20 = .ok (.iadd, 1) := by decide +kernel
theorem dX7_put_21 : decode cX7_put 21 = .ok (.bipush 30, 2) := by decide +kernel
theorem dX7_put_23 : decode cX7_put 23 = .ok (.if_icmp .le 6, 3) := by decide +kernel
theorem dX7_put_26 : decode cX7_put 26 = .ok (.bipush (-4), 2) := by decide +kernel
theorem dX7_put_28 : decode cX7_put 28 = .ok (.ireturn, 1) := by decide +kernel
theorem dX7_put_29 : decode cX7_put 29 = .ok (.iload_n 3, 1) := by decide +kernel
theorem dX7_put_30 : decode cX7_put 30 = .ok (.iconst 1, 1) := by decide +kernel
theorem dX7_put_31 : decode cX7_put 31 = .ok (.isub, 1) := by decide +kernel
theorem dX7_put_32 : decode cX7_put 32 = .ok (.istore 4, 2) := by decide +kernel
theorem dX7_put_34 : decode cX7_put 34 = .ok (.iload 4, 2) := by decide +kernel
theorem dX7_put_36 : decode cX7_put 36 = .ok (.ifCond .lt 28, 3) := by decide +kernel
theorem dX7_put_39 : decode cX7_put 39 = .ok (.aload_n 0, 1) := by decide +kernel
theorem dX7_put_40 : decode cX7_put 40 = .ok (.getfield 22, 3) := by decide +kernel
theorem dX7_put_43 : decode cX7_put 43 = .ok (.lload_n 1, 1) := by decide +kernel
theorem dX7_put_44 : decode cX7_put 44 = .ok (.bipush 8, 2) := by decide +kernel
theorem dX7_put_46 : decode cX7_put 46 = .ok (.iload 4, 2) := by decide +kernel
theorem dX7_put_48 : decode cX7_put 48 = .ok (.imul, 1) := by decide +kernel
theorem dX7_put_49 : decode cX7_put 49 = .ok (.lushr, 1) := by decide +kernel
theorem dX7_put_50 : decode cX7_put 50 = .ok (.l2i, 1) := by decide +kernel
theorem dX7_put_51 : decode cX7_put 51 = .ok (.sipush 255, 3) := by decide +kernel
theorem dX7_put_54 : decode cX7_put 54 = .ok (.iand, 1) := by decide +kernel
theorem dX7_put_55 : decode cX7_put 55 = .ok (.invokevirtual 213, 3) := by decide +kernel
theorem dX7_put_58 : decode cX7_put 58 = .ok (.iinc 4 (-1), 3) := by decide +kernel
theorem dX7_put_61 : decode cX7_put 61 = .ok (.goto (-27), 3) := by decide +kernel
theorem dX7_put_64 : decode cX7_put 64 = .ok (.aload_n 0, 1) := by decide +kernel
theorem dX7_put_65 : decode cX7_put 65 = .ok (.getfield 22, 3) := by decide +kernel
theorem dX7_put_68 : decode cX7_put 68 = .ok (.getfield 153, 3) := by decide +kernel
theorem dX7_put_71 : decode cX7_put 71 = .ok (.ireturn, 1) := by decide +kernel
theorem dX7_wipe_0 : decode cX7_wipe 0 = .ok (.aload_n 0, 1) := by decide +kernel
theorem dX7_wipe_1 : decode cX7_wipe 1 = .ok (.getfield 22, 3) := by decide +kernel
theorem dX7_wipe_4 : decode cX7_wipe 4 = .ok (.getfield 153, 3) := by decide +kernel
theorem dX7_wipe_7 : decode cX7_wipe 7 = .ok (.istore_n 1, 1) := by decide +kernel
theorem dX7_wipe_8 : decode cX7_wipe 8 = .ok (.aload_n 0, 1) := by decide +kernel
theorem dX7_wipe_9 : decode cX7_wipe 9 = .ok (.getfield 22, 3) := by decide +kernel
theorem dX7_wipe_12 : decode cX7_wipe 12 = .ok (.invokevirtual 90, 3) := by decide +kernel
theorem dX7_wipe_15 : decode cX7_wipe 15 = .ok (.iload_n 1, 1) := by decide +kernel
theorem dX7_wipe_16 : decode cX7_wipe 16 = .ok (.ireturn, 1) := by decide +kernel
theorem dX7_fault_0 : decode cX7_fault 0 = .ok (.aload_n 0, 1) := by decide +kernel
theorem dX7_fault_1 : decode cX7_fault 1 = .ok (.getfield 22, 3) := by decide +kernel
theorem dX7_fault_4 : decode cX7_fault 4 = .ok (.invokevirtual 73, 3) := by decide +kernel
theorem dX7_fault_7 : decode cX7_fault 7 = .ok (.ireturn, 1) := by decide +kernel
theorem dX7_undo_0 : decode cX7_undo 0 = .ok (.aload_n 0, 1) := by decide +kernel
theorem dX7_undo_1 : decode cX7_undo 1 = .ok (.getfield 43, 3) := by decide +kernel
theorem dX7_undo_4 : decode cX7_undo 4 = .ok (.getfield 156, 3) := by decide +kernel
theorem dX7_undo_7 : decode cX7_undo 7 = .ok (.ifCond .ne 6, 3) := by decide +kernel
theorem dX7_undo_10 : decode cX7_undo 10 = .ok (.bipush (-5), 2) := by decide +kernel
theorem dX7_undo_12 : decode cX7_undo 12 = .ok (.ireturn, 1) := by decide +kernel
theorem dX7_undo_13 : decode cX7_undo 13 = .ok (.aload_n 0, 1) := by decide +kernel
theorem dX7_undo_14 : decode cX7_undo 14 = .ok (.getfield 43, 3) := by decide +kernel
theorem dX7_undo_17 : decode cX7_undo 17 = .ok (.aload_n 0, 1) := by decide +kernel
theorem dX7_undo_18 : decode cX7_undo 18 = .ok (.getfield 12, 3) := by decide +kernel
theorem dX7_undo_21 : decode cX7_undo 21 = .ok (.invokevirtual 216, 3) := by decide +kernel
theorem dX7_undo_24 : decode cX7_undo 24 = .ok (.aload_n 0, 1) := by decide +kernel
theorem dX7_undo_25 : decode cX7_undo 25 = .ok (.getfield 43, 3) := by decide +kernel
theorem dX7_undo_28 : decode cX7_undo 28 = .ok (.getfield 156, 3) := by decide +kernel
theorem dX7_undo_31 : decode cX7_undo 31 = .ok (.ireturn, 1) := by decide +kernel
theorem dX7_save_0 : decode cX7_save 0 = .ok (.iload_n 1, 1) := by decide +kernel
theorem dX7_save_1 : decode cX7_save 1 = .ok (.invokestatic 219, 3) := by decide +kernel
theorem dX7_save_4 : decode cX7_save 4 = .ok (.ifCond .ne 6, 3) := by decide +kernel
theorem dX7_save_7 : decode cX7_save 7 = .ok (.bipush (-2), 2) := by decide +kernel
theorem dX7_save_9 : decode cX7_save 9 = .ok (.ireturn, 1) := by decide +kernel
theorem dX7_save_10 : decode cX7_save 10 = .ok (.aload_n 0, 1) := by decide +kernel
theorem dX7_save_11 : decode cX7_save 11 = .ok (.iload_n 1, 1) := by decide +kernel
theorem dX7_save_12 : decode cX7_save 12 = .ok (.invokevirtual 222, 3) := by decide +kernel
theorem dX7_save_15 : decode cX7_save 15 = .ok (.aload_n 0, 1) := by decide +kernel
theorem dX7_save_16 : decode cX7_save 16 = .ok (.getfield 12, 3) := by decide +kernel
theorem dX7_save_19 : decode cX7_save 19 = .ok (.invokevirtual 226, 3) := by decide +kernel
theorem dX7_save_22 : decode cX7_save 22 = .ok (.aload_n 0, 1) := by decide +kernel
theorem dX7_save_23 : decode cX7_save 23 = .ok (.getfield 12, 3) := by decide +kernel
theorem dX7_save_26 : decode cX7_save 26 = .ok (.invokevirtual 61, 3) := by decide +kernel
theorem dX7_save_29 : decode cX7_save 29 = .ok (.ireturn, 1) := by decide +kernel
theorem dX7_restore_0 : decode cX7_restore 0 = .ok (.iload_n 1, 1) := by decide +kernel
theorem dX7_restore_1 : decode cX7_restore 1 = .ok (.invokestatic 219, 3) := by decide +kernel
theorem dX7_restore_4 : decode cX7_restore 4 = .ok (.ifCond .ne 6, 3) := by decide +kernel
theorem dX7_restore_7 : decode cX7_restore 7 = .ok (.bipush (-2), 2) := by decide +kernel
theorem dX7_restore_9 : decode cX7_restore 9 = .ok (.ireturn, 1) := by decide +kernel
theorem dX7_restore_10 : decode cX7_restore 10 = .ok (.aload_n 0, 1) := by decide +kernel
theorem dX7_restore_11 : decode cX7_restore 11 = .ok (.iload_n 1, 1) := by decide +kernel
theorem dX7_restore_12 : decode cX7_restore 12 = .ok (.invokevirtual 222, 3) := by decide +kernel
theorem dX7_restore_15 : decode cX7_restore 15 = .ok (.getfield 229, 3) := by decide +kernel
theorem dX7_restore_18 : decode cX7_restore 18 = .ok (.ifCond .ne 6, 3) := by decide +kernel
theorem dX7_restore_21 : decode cX7_restore 21 = .ok (.bipush (-5), 2) := by decide +kernel
theorem dX7_restore_23 : decode cX7_restore 23 = .ok (.ireturn, 1) := by decide +kernel
theorem dX7_restore_24 : decode cX7_restore 24 = .ok (.aload_n 0, 1) := by decide +kernel
theorem dX7_restore_25 : decode cX7_restore 25 = .ok (.getfield 43, 3) := by decide +kernel
theorem dX7_restore_28 : decode cX7_restore 28 = .ok (.aload_n 0, 1) := by decide +kernel
theorem dX7_restore_29 : decode cX7_restore 29 = .ok (.getfield 12, 3) := by decide +kernel
theorem dX7_restore_32 : decode cX7_restore 32 = .ok (.invokevirtual 65, 3) := by decide +kernel
theorem dX7_restore_35 : decode cX7_restore 35 = .ok (.aload_n 0, 1) := by decide +kernel
theorem dX7_restore_36 : decode cX7_restore 36 = .ok (.getfield 12, 3) := by decide +kernel
theorem dX7_restore_39 : decode cX7_restore 39 = .ok (.aload_n 0, 1) := by decide +kernel
theorem dX7_restore_40 : decode cX7_restore 40 = .ok (.iload_n 1, 1) := by decide +kernel
theorem dX7_restore_41 : decode cX7_restore 41 = .ok (.invokevirtual 222, 3) := by decide +kernel
theorem dX7_restore_44 : decode cX7_restore 44 = .ok (.getfield 233, 3) := by decide +kernel
theorem dX7_restore_47 : decode cX7_restore 47 = .ok (.invokevirtual 159, 3) := by decide +kernel
theorem dX7_restore_50 : decode cX7_restore 50 = .ok (.aload_n 0, 1) := by decide +kernel
theorem dX7_restore_51 : decode cX7_restore 51 = .ok (.getfield 12, 3) := by decide +kernel
theorem dX7_restore_54 : decode cX7_restore 54 = .ok (.invokevirtual 61, 3) := by decide +kernel
theorem dX7_restore_57 : decode cX7_restore 57 = .ok (.ireturn, 1) := by decide +kernel
theorem dX7_isWithin_0 : decode cX7_isWithin 0 = .ok (.iload_n 0, 1) := by decide +kernel
theorem dX7_isWithin_1 : decode cX7_isWithin 1 = .ok (.iload_n 1, 1) := by decide +kernel
theorem dX7_isWithin_2 : decode cX7_isWithin 2 = .ok (.if_icmp .lt 12, 3) := by decide +kernel
theorem dX7_isWithin_5 : decode cX7_isWithin 5 = .ok (.iload_n 0, 1) := by decide +kernel
theorem dX7_isWithin_6 : decode cX7_isWithin 6 = .ok (.iload_n 2, 1) := by decide +kernel
theorem dX7_isWithin_7 : decode cX7_isWithin 7 = .ok (.if_icmp .gt 7, 3) := by decide +kernel
theorem dX7_isWithin_10 : decode cX7_isWithin 10 = .ok (.iconst 1, 1) := by decide +kernel
theorem dX7_isWithin_11 : decode cX7_isWithin 11 = .ok (.goto 4, 3) := by decide +kernel
theorem dX7_isWithin_14 : decode cX7_isWithin 14 = .ok (.iconst 0, 1) := by decide +kernel
theorem dX7_isWithin_15 : decode cX7_isWithin 15 = .ok (.ireturn, 1) := by decide +kernel
theorem dX7_isJuggler_0 : decode cX7_isJuggler 0 = .ok (.iload_n 0, 1) := by decide +kernel
theorem dX7_isJuggler_1 : decode cX7_isJuggler 1 = .ok (.iconst 0, 1) := by decide +kernel
theorem dX7_isJuggler_2 : decode cX7_isJuggler 2 = .ok (.iconst 1, 1) := by decide +kernel
theorem dX7_isJuggler_3 : decode cX7_isJuggler 3 = .ok (.invokestatic 57, 3) := by decide +kernel
theorem dX7_isJuggler_6 : decode cX7_isJuggler 6 = .ok (.ireturn, 1) := by decide +kernel
theorem dX7_isBeat_0 : decode cX7_isBeat 0 = .ok (.iload_n 0, 1) := by decide +kernel
theorem dX7_isBeat_1 : decode cX7_isBeat 1 = .ok (.iconst 0, 1) := by decide +kernel
theorem dX7_isBeat_2 : decode cX7_isBeat 2 = .ok (.bipush 7, 2) := by decide +kernel
theorem dX7_isBeat_4 : decode cX7_isBeat 4 = .ok (.invokestatic 57, 3) := by decide +kernel
theorem dX7_isBeat_7 : decode cX7_isBeat 7 = .ok (.ireturn, 1) := by decide +kernel
theorem dX7_isSlot_0 : decode cX7_isSlot 0 = .ok (.iload_n 0, 1) := by decide +kernel
theorem dX7_isSlot_1 : decode cX7_isSlot 1 = .ok (.iconst 0, 1) := by decide +kernel
theorem dX7_isSlot_2 : decode cX7_isSlot 2 = .ok (.iconst 1, 1) := by decide +kernel
theorem dX7_isSlot_3 : decode cX7_isSlot 3 = .ok (.invokestatic 57, 3) := by decide +kernel
theorem dX7_isSlot_6 : decode cX7_isSlot 6 = .ok (.ireturn, 1) := by decide +kernel
theorem dX7_slotOf_0 : decode cX7_slotOf 0 = .ok (.iload_n 1, 1) := by decide +kernel
theorem dX7_slotOf_1 : decode cX7_slotOf 1 = .ok (.ifCond .ne 10, 3) := by decide +kernel
theorem dX7_slotOf_4 : decode cX7_slotOf 4 = .ok (.aload_n 0, 1) := by decide +kernel
theorem dX7_slotOf_5 : decode cX7_slotOf 5 = .ok (.getfield 50, 3) := by decide +kernel
theorem dX7_slotOf_8 : decode cX7_slotOf 8 = .ok (.goto 7, 3) := by decide +kernel
theorem dX7_slotOf_11 : decode cX7_slotOf 11 = .ok (.aload_n 0, 1) := by decide +kernel
theorem dX7_slotOf_12 : decode cX7_slotOf 12 = .ok (.getfield 54, 3) := by decide +kernel
theorem dX7_slotOf_15 : decode cX7_slotOf 15 = .ok (.areturn, 1) := by decide +kernel
theorem dX7_oneIf_0 : decode cX7_oneIf 0 = .ok (.iload_n 0, 1) := by decide +kernel
theorem dX7_oneIf_1 : decode cX7_oneIf 1 = .ok (.ifCond .eq 7, 3) := by decide +kernel
theorem dX7_oneIf_4 : decode cX7_oneIf 4 = .ok (.iconst 1, 1) := by decide +kernel
theorem dX7_oneIf_5 : decode cX7_oneIf 5 = .ok (.goto 4, 3) := by decide +kernel
theorem dX7_oneIf_8 : decode cX7_oneIf 8 = .ok (.iconst 0, 1) := by decide +kernel
theorem dX7_oneIf_9 : decode cX7_oneIf 9 = .ok (.ireturn, 1) := by decide +kernel
theorem dX7_firstBeats_0 : decode cX7_firstBeats 0 = .ok (.iconst 1, 1) := by decide +kernel
theorem dX7_firstBeats_1 : decode cX7_firstBeats 1 = .ok (.iload_n 0, 1) := by decide +kernel
theorem dX7_firstBeats_2 : decode cX7_firstBeats 2 = .ok (.ishl, 1) := by decide +kernel
theorem dX7_firstBeats_3 : decode cX7_firstBeats 3 = .ok (.iconst 1, 1) := by decide +kernel
theorem dX7_firstBeats_4 : decode cX7_firstBeats 4 = .ok (.isub, 1) := by decide +kernel
theorem dX7_firstBeats_5 : decode cX7_firstBeats 5 = .ok (.ireturn, 1) := by decide +kernel
theorem dX7_has_0 : decode cX7_has 0 = .ok (.iload_n 0, 1) := by decide +kernel
theorem dX7_has_1 : decode cX7_has 1 = .ok (.iload_n 1, 1) := by decide +kernel
theorem dX7_has_2 : decode cX7_has 2 = .ok (.ishr, 1) := by decide +kernel
theorem dX7_has_3 : decode cX7_has 3 = .ok (.iconst 1, 1) := by decide +kernel
theorem dX7_has_4 : decode cX7_has 4 = .ok (.iand, 1) := by decide +kernel
theorem dX7_has_5 : decode cX7_has 5 = .ok (.ifCond .eq 7, 3) := by decide +kernel
theorem dX7_has_8 : decode cX7_has 8 = .ok (.iconst 1, 1) := by decide +kernel
theorem dX7_has_9 : decode cX7_has 9 = .ok (.goto 4, 3) := by decide +kernel
theorem dX7_has_12 : decode cX7_has 12 = .ok (.iconst 0, 1) := by decide +kernel
theorem dX7_has_13 : decode cX7_has 13 = .ok (.ireturn, 1) := by decide +kernel
theorem dX7_valueAt_0 : decode cX7_valueAt 0 = .ok (.iload_n 1, 1) := by decide +kernel
theorem dX7_valueAt_1 : decode cX7_valueAt 1 = .ok (.ifCond .lt 15, 3) := by decide +kernel
theorem dX7_valueAt_4 : decode cX7_valueAt 4 = .ok (.iload_n 1, 1) := by decide +kernel
theorem dX7_valueAt_5 : decode cX7_valueAt 5 = .ok (.aload_n 0, 1) := by decide +kernel
theorem dX7_valueAt_6 : decode cX7_valueAt 6 = .ok (.arraylength, 1) := by decide +kernel
theorem dX7_valueAt_7 : decode cX7_valueAt 7 = .ok (.if_icmp .ge 9, 3) := by decide +kernel
theorem dX7_valueAt_10 : decode cX7_valueAt 10 = .ok (.aload_n 0, 1) := by decide +kernel
theorem dX7_valueAt_11 : decode cX7_valueAt 11 = .ok (.iload_n 1, 1) := by decide +kernel
theorem dX7_valueAt_12 : decode cX7_valueAt 12 = .ok (.iaload, 1) := by decide +kernel
theorem dX7_valueAt_13 : decode cX7_valueAt 13 = .ok (.goto 4, 3) := by decide +kernel
theorem dX7_valueAt_16 : decode cX7_valueAt 16 = .ok (.iconst 0, 1) := by decide +kernel
theorem dX7_valueAt_17 : decode cX7_valueAt 17 = .ok (.ireturn, 1) := by decide +kernel
theorem dX7_setAt_0 : decode cX7_setAt 0 = .ok (.iload_n 1, 1) := by decide +kernel
theorem dX7_setAt_1 : decode cX7_setAt 1 = .ok (.ifCond .lt 13, 3) := by decide +kernel
theorem dX7_setAt_4 : decode cX7_setAt 4 = .ok (.iload_n 1, 1) := by decide +kernel
theorem dX7_setAt_5 : decode cX7_setAt 5 = .ok (.aload_n 0, 1) := by decide +kernel
theorem dX7_setAt_6 : decode cX7_setAt 6 = .ok (.arraylength, 1) := by decide +kernel
theorem dX7_setAt_7 : decode cX7_setAt 7 = .ok (.if_icmp .ge 7, 3) := by decide +kernel
theorem dX7_setAt_10 : decode cX7_setAt 10 = .ok (.aload_n 0, 1) := by decide +kernel
theorem dX7_setAt_11 : decode cX7_setAt 11 = .ok (.iload_n 1, 1) := by decide +kernel
theorem dX7_setAt_12 : decode cX7_setAt 12 = .ok (.iload_n 2, 1) := by decide +kernel
theorem dX7_setAt_13 : decode cX7_setAt 13 = .ok (.iastore, 1) := by decide +kernel
theorem dX7_setAt_14 : decode cX7_setAt 14 = .ok (.return_, 1) := by decide +kernel
end
section
theorem dX7_leftOver_0 : decode cX7_leftOver 0 = .ok (.iload_n 1, 1) := by decide +kernel
theorem dX7_leftOver_1 : decode cX7_leftOver 1 = .ok (.ifCond .le 11, 3) := by decide +kernel
theorem dX7_leftOver_4 : decode cX7_leftOver 4 = .ok (.iload_n 0, 1) := by decide +kernel
theorem dX7_leftOver_5 : decode cX7_leftOver 5 = .ok (.iload_n 1, 1) := by decide +kernel
theorem dX7_leftOver_6 : decode cX7_leftOver 6 = .ok (.invokestatic 236, 3) := by decide +kernel
theorem dX7_leftOver_9 : decode cX7_leftOver 9 = .ok (.goto 4, 3) := by decide +kernel
theorem dX7_leftOver_12 : decode cX7_leftOver 12 = .ok (.iconst 0, 1) := by decide +kernel
theorem dX7_leftOver_13 : decode cX7_leftOver 13 = .ok (.ireturn, 1) := by decide +kernel
theorem dX7_isHeight_0 : decode cX7_isHeight 0 = .ok (.iload_n 0, 1) := by decide +kernel
theorem dX7_isHeight_1 : decode cX7_isHeight 1 = .ok (.bipush 48, 2) := by decide +kernel
theorem dX7_isHeight_3 : decode cX7_isHeight 3 = .ok (.bipush 55, 2) := by decide +kernel
theorem dX7_isHeight_5 : decode cX7_isHeight 5 = .ok (.invokestatic 57, 3) := by decide +kernel
theorem dX7_isHeight_8 : decode cX7_isHeight 8 = .ok (.ireturn, 1) := by decide +kernel
theorem dX7_packedCharacters_0 : decode cX7_packedCharacters 0 = .ok (.iconst 0, 1) := by decide +kernel
theorem dX7_packedCharacters_1 : decode cX7_packedCharacters 1 = .ok (.istore_n 2, 1) := by decide +kernel
theorem dX7_packedCharacters_2 : decode cX7_packedCharacters 2 = .ok (.lload_n 0, 1) := by decide +kernel
theorem dX7_packedCharacters_3 : decode cX7_packedCharacters 3 = .ok (.lstore_n 3, 1) := by decide +kernel
theorem dX7_packedCharacters_4 : decode cX7_packedCharacters 4 = .ok (.iload_n 2, 1) := by decide +kernel
theorem dX7_packedCharacters_5 : decode cX7_packedCharacters 5 = .ok (.bipush 8, 2) := by decide +kernel
theorem dX7_packedCharacters_7 : decode cX7_packedCharacters 7 = .ok (.if_icmp .ge 38, 3) := by decide +kernel
theorem dX7_packedCharacters_10 : decode cX7_packedCharacters 10 = .ok (.lload_n 3, 1) := by decide +kernel
theorem dX7_packedCharacters_11 : decode cX7_packedCharacters 11 = .ok (.lconst 0, 1) := by decide +kernel
theorem dX7_packedCharacters_12 : decode cX7_packedCharacters 12 = .ok (.lcmp, 1) := by decide +kernel
theorem dX7_packedCharacters_13 : decode cX7_packedCharacters 13 = .ok (.ifCond .eq 32, 3) := by decide +kernel
theorem dX7_packedCharacters_16 : decode cX7_packedCharacters 16 = .ok (.lload_n 3, 1) := by decide +kernel
theorem dX7_packedCharacters_17 : decode cX7_packedCharacters 17 = .ok (.ldc2_w 242, 3) := by decide +kernel
theorem dX7_packedCharacters_20 : decode cX7_packedCharacters 20 = .ok (.land, 1) := by decide +kernel
theorem dX7_packedCharacters_21 : decode cX7_packedCharacters 21 = .ok (.l2i, 1) := by decide +kernel
theorem dX7_packedCharacters_22 : decode cX7_packedCharacters 22 = .ok (.bipush 33, 2) := by decide +kernel
theorem dX7_packedCharacters_24 : decode cX7_packedCharacters 24 = .ok (.bipush 126, 2) := by decide +kernel
theorem dX7_packedCharacters_26 : decode cX7_packedCharacters 26 = .ok (.invokestatic 57, 3) := by decide +kernel
theorem dX7_packedCharacters_29 : decode cX7_packedCharacters 29 = .ok (.ifCond .ne 5, 3) := by decide +kernel
theorem dX7_packedCharacters_32 : decode cX7_packedCharacters 32 = .ok (.iconst 0, 1) := by decide +kernel
theorem dX7_packedCharacters_33 : decode cX7_packedCharacters 33 = .ok (.ireturn, 1) := by decide +kernel
theorem dX7_packedCharacters_34 : decode cX7_packedCharacters 34 = .ok (.lload_n 3, 1) := by decide +kernel
theorem dX7_packedCharacters_35 : decode cX7_packedCharacters 35 = .ok (.bipush 8, 2) := by decide +kernel
theorem dX7_packedCharacters_37 : decode cX7_packedCharacters 37 = .ok (.lushr, 1) := by decide +kernel
theorem dX7_packedCharacters_38 : decode cX7_packedCharacters 38 = .ok (.lstore_n 3, 1) := by decide +kernel
theorem dX7_packedCharacters_39 : decode cX7_packedCharacters 39 = .ok (.iinc 2 1, 3) := by decide +kernel
theorem dX7_packedCharacters_42 : decode cX7_packedCharacters 42 = .ok (.goto (-38), 3) := by decide +kernel
theorem dX7_packedCharacters_45 : decode cX7_packedCharacters 45 = .ok (.iload_n 2, 1) := by decide +kernel
theorem dX7_packedCharacters_46 : decode cX7_packedCharacters 46 = .ok (.ireturn, 1) := by decide +kernel
theorem dX7_soundEndings_0 : decode cX7_soundEndings 0 = .ok (.iload_n 1, 1) := by decide +kernel
theorem dX7_soundEndings_1 : decode cX7_soundEndings 1 = .ok (.iload_n 0, 1) := by decide +kernel
theorem dX7_soundEndings_2 : decode cX7_soundEndings 2 = .ok (.if_icmp .lt 13, 3) := by decide +kernel
theorem dX7_soundEndings_5 : decode cX7_soundEndings 5 = .ok (.iload_n 3, 1) := by decide +kernel
theorem dX7_soundEndings_6 : decode cX7_soundEndings 6 = .ok (.ifCond .ne 7, 3) := by decide +kernel
theorem dX7_soundEndings_9 : decode cX7_soundEndings 9 = .ok (.iconst 1, 1) := by decide +kernel
theorem dX7_soundEndings_10 : decode cX7_soundEndings 10 = .ok (.goto 4, 3) := by decide +kernel
theorem dX7_soundEndings_13 : decode cX7_soundEndings 13 = .ok (.iconst 0, 1) := by decide +kernel
theorem dX7_soundEndings_14 : decode cX7_soundEndings 14 = .ok (.ireturn, 1) := by decide +kernel
theorem dX7_soundEndings_15 : decode cX7_soundEndings 15 = .ok (.iconst 0, 1) := by decide +kernel
theorem dX7_soundEndings_16 : decode cX7_soundEndings 16 = .ok (.istore 4, 2) := by decide +kernel
theorem dX7_soundEndings_18 : decode cX7_soundEndings 18 = .ok (.iconst 0, 1) := by decide +kernel
theorem dX7_soundEndings_19 : decode cX7_soundEndings 19 = .ok (.istore 5, 2) := by decide +kernel
theorem dX7_soundEndings_21 : decode cX7_soundEndings 21 = .ok (.iload 5, 2) := by decide +kernel
theorem dX7_soundEndings_23 : decode cX7_soundEndings 23 = .ok (.bipush 8, 2) := by decide +kernel
theorem dX7_soundEndings_25 : decode cX7_soundEndings 25 = .ok (.if_icmp .ge 56, 3) := by decide +kernel
theorem dX7_soundEndings_28 : decode cX7_soundEndings 28 = .ok (.iload 5, 2) := by decide +kernel
theorem dX7_soundEndings_30 : decode cX7_soundEndings 30 = .ok (.iload_n 3, 1) := by decide +kernel
theorem dX7_soundEndings_31 : decode cX7_soundEndings 31 = .ok (.if_icmp .gt 50, 3) := by decide +kernel
theorem dX7_soundEndings_34 : decode cX7_soundEndings 34 = .ok (.iload_n 1, 1) := by decide +kernel
theorem dX7_soundEndings_35 : decode cX7_soundEndings 35 = .ok (.iload 5, 2) := by decide +kernel
theorem dX7_soundEndings_37 : decode cX7_soundEndings 37 = .ok (.iadd, 1) := by decide +kernel
theorem dX7_soundEndings_38 : decode cX7_soundEndings 38 = .ok (.iload_n 0, 1) := by decide +kernel
theorem dX7_soundEndings_39 : decode cX7_soundEndings 39 = .ok (.invokestatic 244, 3) := by decide +kernel
theorem dX7_soundEndings_42 : decode cX7_soundEndings 42 = .ok (.istore 6, 2) := by decide +kernel
theorem dX7_soundEndings_44 : decode cX7_soundEndings 44 = .ok (.iload_n 2, 1) := by decide +kernel
theorem dX7_soundEndings_45 : decode cX7_soundEndings 45 = .ok (.iload 6, 2) := by decide +kernel
theorem dX7_soundEndings_47 : decode cX7_soundEndings 47 = .ok (.invokestatic 247, 3) := by decide +kernel
theorem dX7_soundEndings_50 : decode cX7_soundEndings 50 = .ok (.ifCond .ne 25, 3) := by decide +kernel
theorem dX7_soundEndings_53 : decode cX7_soundEndings 53 = .ok (.iload 4, 2) := by decide +kernel
theorem dX7_soundEndings_55 : decode cX7_soundEndings 55 = .ok (.iload_n 0, 1) := by decide +kernel
theorem dX7_soundEndings_56 : decode cX7_soundEndings 56 = .ok (.iload_n 1, 1) := by decide +kernel
theorem dX7_soundEndings_57 : decode cX7_soundEndings 57 = .ok (.iconst 1, 1) := by decide +kernel
theorem dX7_soundEndings_58 : decode cX7_soundEndings 58 = .ok (.iadd, 1) := by decide +kernel
theorem dX7_soundEndings_59 : decode cX7_soundEndings 59 = .ok (.iload_n 2, 1) := by decide +kernel
theorem dX7_soundEndings_60 : decode cX7_soundEndings 60 = .ok (.iconst 1, 1) := by decide +kernel
theorem dX7_soundEndings_61 : decode cX7_soundEndings 61 = .ok (.iload 6, 2) := by decide +kernel
theorem dX7_soundEndings_63 : decode cX7_soundEndings 63 = .ok (.ishl, 1) := by decide +kernel
theorem dX7_soundEndings_64 : decode cX7_soundEndings 64 = .ok (.ior, 1) := by decide +kernel
theorem dX7_soundEndings_65 : decode cX7_soundEndings 65 = .ok (.iload_n 3, 1) := by decide +kernel
theorem dX7_soundEndings_66 : decode cX7_soundEndings 66 = .ok (.iload 5, 2) := by decide +kernel
theorem dX7_soundEndings_68 : decode cX7_soundEndings 68 = .ok (.isub, 1) := by decide +kernel
theorem dX7_soundEndings_69 : decode cX7_soundEndings 69 = .ok (.invokestatic 205, 3) := by decide +kernel
theorem dX7_soundEndings_72 : decode cX7_soundEndings 72 = .ok (.iadd, 1) := by decide +kernel
theorem dX7_soundEndings_73 : decode cX7_soundEndings 73 = .ok (.istore 4, 2) := by decide +kernel
theorem dX7_soundEndings_75 : decode cX7_soundEndings 75 = .ok (.iinc 5 1, 3) := by decide +kernel
theorem dX7_soundEndings_78 : decode cX7_soundEndings 78 = .ok (.goto (-57), 3) := by decide +kernel
theorem dX7_soundEndings_81 : decode cX7_soundEndings 81 = .ok (.iload 4, 2) := by decide +kernel
theorem dX7_soundEndings_83 : decode cX7_soundEndings 83 = .ok (.ireturn, 1) := by decide +kernel
theorem dX8_init_0 : decode cX8_init 0 = .ok (.aload_n 0, 1) := by decide +kernel
theorem dX8_init_1 : decode cX8_init 1 = .ok (.invokespecial 1, 3) := by decide +kernel
theorem dX8_init_4 : decode cX8_init 4 = .ok (.aload_n 0, 1) := by decide +kernel
theorem dX8_init_5 : decode cX8_init 5 = .ok (.bipush 46, 2) := by decide +kernel
theorem dX8_init_7 : decode cX8_init 7 = .ok (.newarray .int, 2) := by decide +kernel
theorem dX8_init_9 : decode cX8_init 9 = .ok (.putfield 7, 3) := by decide +kernel
theorem dX8_init_12 : decode cX8_init 12 = .ok (.aload_n 0, 1) := by decide +kernel
theorem dX8_init_13 : decode cX8_init 13 = .ok (.bipush 46, 2) := by decide +kernel
theorem dX8_init_15 : decode cX8_init 15 = .ok (.newarray .int, 2) := by decide +kernel
theorem dX8_init_17 : decode cX8_init 17 = .ok (.putfield 13, 3) := by decide +kernel
theorem dX8_init_20 : decode cX8_init 20 = .ok (.aload_n 0, 1) := by decide +kernel
theorem dX8_init_21 : decode cX8_init 21 = .ok (.sipush 276, 3) := by decide +kernel
theorem dX8_init_24 : decode cX8_init 24 = .ok (.newarray .int, 2) := by decide +kernel
theorem dX8_init_26 : decode cX8_init 26 = .ok (.putfield 16, 3) := by decide +kernel
theorem dX8_init_29 : decode cX8_init 29 = .ok (.aload_n 0, 1) := by decide +kernel
theorem dX8_init_30 : decode cX8_init 30 = .ok (.bipush 92, 2) := by decide +kernel
theorem dX8_init_32 : decode cX8_init 32 = .ok (.newarray .int, 2) := by decide +kernel
theorem dX8_init_34 : decode cX8_init 34 = .ok (.putfield 19, 3) := by decide +kernel
theorem dX8_init_37 : decode cX8_init 37 = .ok (.aload_n 0, 1) := by decide +kernel
theorem dX8_init_38 : decode cX8_init 38 = .ok (.iconst 2, 1) := by decide +kernel
theorem dX8_init_39 : decode cX8_init 39 = .ok (.newarray .int, 2) := by decide +kernel
theorem dX8_init_41 : decode cX8_init 41 = .ok (.putfield 22, 3) := by decide +kernel
theorem dX8_init_44 : decode cX8_init 44 = .ok (.aload_n 0, 1) := by decide +kernel
theorem dX8_init_45 : decode cX8_init 45 = .ok (.bipush 30, 2) := by decide +kernel
theorem dX8_init_47 : decode cX8_init 47 = .ok (.newarray .int, 2) := by decide +kernel
theorem dX8_init_49 : decode cX8_init 49 = .ok (.putfield 25, 3) := by decide +kernel
theorem dX8_init_52 : decode cX8_init 52 = .ok (.aload_n 0, 1) := by decide +kernel
theorem dX8_init_53 : decode cX8_init 53 = .ok (.bipush 8, 2) := by decide +kernel
theorem dX8_init_55 : decode cX8_init 55 = .ok (.newarray .int, 2) := by decide +kernel
theorem dX8_init_57 : decode cX8_init 57 = .ok (.putfield 28, 3) := by decide +kernel
theorem dX8_init_60 : decode cX8_init 60 = .ok (.aload_n 0, 1) := by decide +kernel
theorem dX8_init_61 : decode cX8_init 61 = .ok (.bipush 8, 2) := by decide +kernel
theorem dX8_init_63 : decode cX8_init 63 = .ok (.newarray .int, 2) := by decide +kernel
theorem dX8_init_65 : decode cX8_init 65 = .ok (.putfield 31, 3) := by decide +kernel
theorem dX8_init_68 : decode cX8_init 68 = .ok (.aload_n 0, 1) := by decide +kernel
theorem dX8_init_69 : decode cX8_init 69 = .ok (.bipush 8, 2) := by decide +kernel
theorem dX8_init_71 : decode cX8_init 71 = .ok (.newarray .int, 2) := by decide +kernel
theorem dX8_init_73 : decode cX8_init 73 = .ok (.putfield 34, 3) := by decide +kernel
theorem dX8_init_76 : decode cX8_init 76 = .ok (.aload_n 0, 1) := by decide +kernel
theorem dX8_init_77 : decode cX8_init 77 = .ok (.sipush 256, 3) := by decide +kernel
theorem dX8_init_80 : decode cX8_init 80 = .ok (.newarray .int, 2) := by decide +kernel
theorem dX8_init_82 : decode cX8_init 82 = .ok (.putfield 37, 3) := by decide +kernel
theorem dX8_init_85 : decode cX8_init 85 = .ok (.aload_n 0, 1) := by decide +kernel
theorem dX8_init_86 : decode cX8_init 86 = .ok (.getfield 7, 3) := by decide +kernel
theorem dX8_init_89 : decode cX8_init 89 = .ok (.iconst 4, 1) := by decide +kernel
theorem dX8_init_90 : decode cX8_init 90 = .ok (.iconst 1, 1) := by decide +kernel
theorem dX8_init_91 : decode cX8_init 91 = .ok (.iastore, 1) := by decide +kernel
theorem dX8_init_92 : decode cX8_init 92 = .ok (.aload_n 0, 1) := by decide +kernel
theorem dX8_init_93 : decode cX8_init 93 = .ok (.getfield 7, 3) := by decide +kernel
theorem dX8_init_96 : decode cX8_init 96 = .ok (.iconst 5, 1) := by decide +kernel
theorem dX8_init_97 : decode cX8_init 97 = .ok (.iconst 1, 1) := by decide +kernel
theorem dX8_init_98 : decode cX8_init 98 = .ok (.iastore, 1) := by decide +kernel
theorem dX8_init_99 : decode cX8_init 99 = .ok (.return_, 1) := by decide +kernel
theorem dX8_in_0 : decode cX8_in 0 = .ok (.lload_n 0, 1) := by decide +kernel
theorem dX8_in_1 : decode cX8_in 1 = .ok (.lload_n 2, 1) := by decide +kernel
theorem dX8_in_2 : decode cX8_in 2 = .ok (.lcmp, 1) := by decide +kernel
theorem dX8_in_3 : decode cX8_in 3 = .ok (.ifCond .lt 14, 3) := by decide +kernel
theorem dX8_in_6 : decode cX8_in 6 = .ok (.lload_n 0, 1) := by decide +kernel
theorem dX8_in_7 : decode cX8_in 7 = .ok (.lload 4, 2) := by decide +kernel
theorem dX8_in_9 : decode cX8_in 9 = .ok (.lcmp, 1) := by decide +kernel
theorem dX8_in_10 : decode cX8_in 10 = .ok (.ifCond .gt 7, 3) := by decide +kernel
theorem dX8_in_13 : decode cX8_in 13 = .ok (.iconst 1, 1) := by decide +kernel
theorem dX8_in_14 : decode cX8_in 14 = .ok (.goto 4, 3) := by decide +kernel
theorem dX8_in_17 : decode cX8_in 17 = .ok (.iconst 0, 1) := by decide +kernel
theorem dX8_in_18 : decode cX8_in 18 = .ok (.ireturn, 1) := by decide +kernel
theorem dX8_keep_0 : decode cX8_keep 0 = .ok (.iconst 0, 1) := by decide +kernel
theorem dX8_keep_1 : decode cX8_keep 1 = .ok (.istore_n 1, 1) := by decide +kernel
theorem dX8_keep_2 : decode cX8_keep 2 = .ok (.iload_n 1, 1) := by decide +kernel
theorem dX8_keep_3 : decode cX8_keep 3 = .ok (.bipush 46, 2) := by decide +kernel
theorem dX8_keep_5 : decode cX8_keep 5 = .ok (.if_icmp .ge 21, 3) := by decide +kernel
theorem dX8_keep_8 : decode cX8_keep 8 = .ok (.aload_n 0, 1) := by decide +kernel
theorem dX8_keep_9 : decode cX8_keep 9 = .ok (.getfield 13, 3) := by decide +kernel
theorem dX8_keep_12 : decode cX8_keep 12 = .ok (.iload_n 1, 1) := by decide +kernel
theorem dX8_keep_13 : decode cX8_keep 13 = .ok (.aload_n 0, 1) := by decide +kernel
theorem dX8_keep_14 : decode cX8_keep 14 = .ok (.getfield 7, 3) := by decide +kernel
theorem dX8_keep_17 : decode cX8_keep 17 = .ok (.iload_n 1, 1) := by decide +kernel
theorem dX8_keep_18 : decode cX8_keep 18 = .ok (.iaload, 1) := by decide +kernel
theorem dX8_keep_19 : decode cX8_keep 19 = .ok (.iastore, 1) := by decide +kernel
theorem dX8_keep_20 : decode cX8_keep 20 = .ok (.iinc 1 1, 3) := by decide +kernel
theorem dX8_keep_23 : decode cX8_keep 23 = .ok (.goto (-21), 3) := by decide +kernel
theorem dX8_keep_26 : decode cX8_keep 26 = .ok (.return_, 1) := by decide +kernel
theorem dX8_giveBack_0 : decode cX8_giveBack 0 = .ok (.iconst 0, 1) := by decide +kernel
theorem dX8_giveBack_1 : decode cX8_giveBack 1 = .ok (.istore_n 1, 1) := by decide +kernel
theorem dX8_giveBack_2 : decode cX8_giveBack 2 = .ok (.iload_n 1, 1) := by decide +kernel
theorem dX8_giveBack_3 : decode cX8_giveBack 3 = .ok (.bipush 46, 2) := by decide +kernel
theorem dX8_giveBack_5 : decode cX8_giveBack 5 = .ok (.if_icmp .ge 21, 3) := by decide +kernel
theorem dX8_giveBack_8 : decode cX8_giveBack 8 = .ok (.aload_n 0, 1) := by decide +kernel
theorem dX8_giveBack_9 : decode cX8_giveBack 9 = .ok (.getfield 7, 3) := by decide +kernel
theorem dX8_giveBack_12 : decode cX8_giveBack 12 = .ok (.iload_n 1, 1) := by decide +kernel
theorem dX8_giveBack_13 : decode cX8_giveBack 13 = .ok (.aload_n 0, 1) := by decide +kernel
theorem dX8_giveBack_14 : decode cX8_giveBack 14 = .ok (.getfield 13, 3) := by decide +kernel
theorem dX8_giveBack_17 : decode cX8_giveBack 17 = .ok (.iload_n 1, 1) := by decide +kernel
theorem dX8_giveBack_18 : decode cX8_giveBack 18 = .ok (.iaload, 1) := by decide +kernel
theorem dX8_giveBack_19 : decode cX8_giveBack 19 = .ok (.iastore, 1) := by decide +kernel
theorem dX8_giveBack_20 : decode cX8_giveBack 20 = .ok (.iinc 1 1, 3) := by decide +kernel
theorem dX8_giveBack_23 : decode cX8_giveBack 23 = .ok (.goto (-21), 3) := by decide +kernel
theorem dX8_giveBack_26 : decode cX8_giveBack 26 = .ok (.return_, 1) := by decide +kernel
theorem dX8_changed_0 : decode cX8_changed 0 = .ok (.aload_n 0, 1) := by decide +kernel
theorem dX8_changed_1 : decode cX8_changed 1 = .ok (.getfield 40, 3) := by decide +kernel
theorem dX8_changed_4 : decode cX8_changed 4 = .ok (.bipush 6, 2) := by decide +kernel
theorem dX8_changed_6 : decode cX8_changed 6 = .ok (.if_icmp .ne 43, 3) := by decide +kernel
theorem dX8_changed_9 : decode cX8_changed 9 = .ok (.iconst 0, 1) := by decide +kernel
theorem dX8_changed_10 : decode cX8_changed 10 = .ok (.istore_n 2, 1) := by decide +kernel
theorem dX8_changed_11 : decode cX8_changed 11 = .ok (.iload_n 2, 1) := by decide +kernel
theorem dX8_changed_12 : decode cX8_changed 12 = .ok (.sipush 230, 3) := by decide +kernel
theorem dX8_changed_15 : decode cX8_changed 15 = .ok (.if_icmp .ge 24, 3) := by decide +kernel
theorem dX8_changed_18 : decode cX8_changed 18 = .ok (.aload_n 0, 1) := by decide +kernel
theorem dX8_changed_19 : decode cX8_changed 19 = .ok (.getfield 16, 3) := by decide +kernel
theorem dX8_changed_22 : decode cX8_changed 22 = .ok (.iload_n 2, 1) := by decide +kernel
theorem dX8_changed_23 : decode cX8_changed 23 = .ok (.aload_n 0, 1) := by decide +kernel
theorem dX8_changed_24 : decode cX8_changed 24 = .ok (.getfield 16, 3) := by decide +kernel
theorem dX8_changed_27 : decode cX8_changed 27 = .ok (.iload_n 2, 1) := by decide +kernel
theorem dX8_changed_28 : decode cX8_changed 28 = .ok (.bipush 46, 2) := by decide +kernel
theorem dX8_changed_30 : decode cX8_changed 30 = .ok (.iadd, 1) := by decide +kernel
theorem dX8_changed_31 : decode cX8_changed 31 = .ok (.iaload, 1) := by decide +kernel
theorem dX8_changed_32 : decode cX8_changed 32 = .ok (.iastore, 1) := by decide +kernel
theorem dX8_changed_33 : decode cX8_changed 33 = .ok (.iinc 2 1, 3) := by decide +kernel
theorem dX8_changed_36 : decode cX8_changed 36 = .ok (.goto (-25), 3) := by decide +kernel
theorem dX8_changed_39 : decode cX8_changed 39 = .ok (.aload_n 0, 1) := by decide +kernel
theorem dX8_changed_40 : decode cX8_changed 40 = .ok (.dup, 1) := by decide +kernel
theorem dX8_changed_41 : decode cX8_changed 41 = .ok (.getfield 40, 3) := by decide +kernel
theorem dX8_changed_44 : decode cX8_changed 44 = .ok (.iconst 1, 1) := by decide +kernel
theorem dX8_changed_45 : decode cX8_changed 45 = .ok (.isub, 1) := by decide +kernel
theorem dX8_changed_46 : decode cX8_changed 46 = .ok (.putfield 40, 3) := by decide +kernel
theorem dX8_changed_49 : decode cX8_changed 49 = .ok (.iconst 0, 1) := by decide +kernel
theorem dX8_changed_50 : decode cX8_changed 50 = .ok (.istore_n 2, 1) := by decide +kernel
theorem dX8_changed_51 : decode cX8_changed 51 = .ok (.iload_n 2, 1) := by decide +kernel
theorem dX8_changed_52 : decode cX8_changed 52 = .ok (.bipush 46, 2) := by decide +kernel
theorem dX8_changed_54 : decode cX8_changed 54 = .ok (.if_icmp .ge 29, 3) := by decide +kernel
theorem dX8_changed_57 : decode cX8_changed 57 = .ok (.aload_n 0, 1) := by decide +kernel
theorem dX8_changed_58 : decode cX8_changed 58 = .ok (.getfield 16, 3) := by decide +kernel
theorem dX8_changed_61 : decode cX8_changed 61 = .ok (.bipush 46, 2) := by decide +kernel
theorem dX8_changed_63 : decode cX8_changed 63 = .ok (.aload_n 0, 1) := by decide +kernel
theorem dX8_changed_64 : decode cX8_changed 64 = .ok (.getfield 40, 3) := by decide +kernel
theorem dX8_changed_67 : decode cX8_changed 67 = .ok (.imul, 1) := by decide +kernel
theorem dX8_changed_68 : decode cX8_changed 68 = .ok (.iload_n 2, 1) := by decide +kernel
theorem dX8_changed_69 : decode cX8_changed 69 = .ok (.iadd, 1) := by decide +kernel
theorem dX8_changed_70 : decode cX8_changed 70 = .ok (.aload_n 0, 1) := by decide +kernel
theorem dX8_changed_71 : decode cX8_changed 71 = .ok (.getfield 13, 3) := by decide +kernel
theorem dX8_changed_74 : decode cX8_changed 74 = .ok (.iload_n 2, 1) := by decide +kernel
theorem dX8_changed_75 : decode cX8_changed 75 = .ok (.iaload, 1) := by decide +kernel
theorem dX8_changed_76 : decode cX8_changed 76 = .ok (.iastore, 1) := by decide +kernel
theorem dX8_changed_77 : decode cX8_changed 77 = .ok (.iinc 2 1, 3) := by decide +kernel
theorem dX8_changed_80 : decode cX8_changed 80 = .ok (.goto (-29), 3) := by decide +kernel
theorem dX8_changed_83 : decode cX8_changed 83 = .ok (.aload_n 0, 1) := by decide +kernel
theorem dX8_changed_84 : decode cX8_changed 84 = .ok (.dup, 1) := by decide +kernel
theorem dX8_changed_85 : decode cX8_changed 85 = .ok (.getfield 40, 3) := by decide +kernel
theorem dX8_changed_88 : decode cX8_changed 88 = .ok (.iconst 1, 1) := by decide +kernel
theorem dX8_changed_89 : decode cX8_changed 89 = .ok (.iadd, 1) := by decide +kernel
theorem dX8_changed_90 : decode cX8_changed 90 = .ok (.putfield 40, 3) := by decide +kernel
theorem dX8_changed_93 : decode cX8_changed 93 = .ok (.iload_n 1, 1) := by decide +kernel
theorem dX8_changed_94 : decode cX8_changed 94 = .ok (.ireturn, 1) := by decide +kernel
theorem dX8_isJuggler_0 : decode cX8_isJuggler 0 = .ok (.iload_n 0, 1) := by decide +kernel
theorem dX8_isJuggler_1 : decode cX8_isJuggler 1 = .ok (.i2l, 1) := by decide +kernel
theorem dX8_isJuggler_2 : decode cX8_isJuggler 2 = .ok (.lconst 0, 1) := by decide +kernel
theorem dX8_isJuggler_3 : decode cX8_isJuggler 3 = .ok (.lconst 1, 1) := by decide +kernel
theorem dX8_isJuggler_4 : decode cX8_isJuggler 4 = .ok (.invokestatic 44, 3) := by decide +kernel
theorem dX8_isJuggler_7 : decode cX8_isJuggler 7 = .ok (.ireturn, 1) := by decide +kernel
theorem dX8_isBeat_0 : decode cX8_isBeat 0 = .ok (.iload_n 0, 1) := by decide +kernel
theorem dX8_isBeat_1 : decode cX8_isBeat 1 = .ok (.i2l, 1) := by decide +kernel
theorem dX8_isBeat_2 : decode cX8_isBeat 2 = .ok (.lconst 0, 1) := by decide +kernel
theorem dX8_isBeat_3 : decode cX8_isBeat 3 = .ok (.ldc2_w 48, 3) := by decide +kernel
theorem dX8_isBeat_6 : decode cX8_isBeat 6 = .ok (.invokestatic 44, 3) := by decide +kernel
theorem dX8_isBeat_9 : decode cX8_isBeat 9 = .ok (.ireturn, 1) := by decide +kernel
theorem dX8_bits_0 : decode cX8_bits 0 = .ok (.iconst 0, 1) := by decide +kernel
theorem dX8_bits_1 : decode cX8_bits 1 = .ok (.istore_n 1, 1) := by decide +kernel
theorem dX8_bits_2 : decode cX8_bits 2 = .ok (.iload_n 0, 1) := by decide +kernel
theorem dX8_bits_3 : decode cX8_bits 3 = .ok (.istore_n 2, 1) := by decide +kernel
theorem dX8_bits_4 : decode cX8_bits 4 = .ok (.iload_n 2, 1) := by decide +kernel
theorem dX8_bits_5 : decode cX8_bits 5 = .ok (.ifCond .eq 15, 3) := by decide +kernel
theorem dX8_bits_8 : decode cX8_bits 8 = .ok (.iinc 1 1, 3) := by decide +kernel
theorem dX8_bits_11 : decode cX8_bits 11 = .ok (.iload_n 2, 1) := by decide +kernel
theorem dX8_bits_12 : decode cX8_bits 12 = .ok (.iload_n 2, 1) := by decide +kernel
theorem dX8_bits_13 : decode cX8_bits 13 = .ok (.iconst 1, 1) := by decide +kernel
theorem dX8_bits_14 : decode cX8_bits 14 = .ok (.isub, 1) := by decide +kernel
theorem dX8_bits_15 : decode cX8_bits 15 = .ok (.iand, 1) := by decide +kernel
theorem dX8_bits_16 : decode cX8_bits 16 = .ok (.istore_n 2, 1) := by decide +kernel
theorem dX8_bits_17 : decode cX8_bits 17 = .ok (.goto (-13), 3) := by decide +kernel
theorem dX8_bits_20 : decode cX8_bits 20 = .ok (.iload_n 1, 1) := by decide +kernel
theorem dX8_bits_21 : decode cX8_bits 21 = .ok (.ireturn, 1) := by decide +kernel
theorem dX8_clubs_0 : decode cX8_clubs 0 = .ok (.aload_n 0, 1) := by decide +kernel
theorem dX8_clubs_1 : decode cX8_clubs 1 = .ok (.getfield 7, 3) := by decide +kernel
theorem dX8_clubs_4 : decode cX8_clubs 4 = .ok (.iconst 0, 1) := by decide +kernel
theorem dX8_clubs_5 : decode cX8_clubs 5 = .ok (.iaload, 1) := by decide +kernel
theorem dX8_clubs_6 : decode cX8_clubs 6 = .ok (.invokestatic 50, 3) := by decide +kernel
theorem dX8_clubs_9 : decode cX8_clubs 9 = .ok (.aload_n 0, 1) := by decide +kernel
theorem dX8_clubs_10 : decode cX8_clubs 10 = .ok (.getfield 7, 3) := by decide +kernel
theorem dX8_clubs_13 : decode cX8_clubs 13 = .ok (.iconst 1, 1) := by decide +kernel
theorem dX8_clubs_14 : decode cX8_clubs 14 = .ok (.iaload, 1) := by decide +kernel
theorem dX8_clubs_15 : decode cX8_clubs 15 = .ok (.invokestatic 50, 3) := by decide +kernel
theorem dX8_clubs_18 : decode cX8_clubs 18 = .ok (.iadd, 1) := by decide +kernel
theorem dX8_clubs_19 : decode cX8_clubs 19 = .ok (.aload_n 0, 1) := by decide +kernel
theorem dX8_clubs_20 : decode cX8_clubs 20 = .ok (.getfield 7, 3) := by decide +kernel
theorem dX8_clubs_23 : decode cX8_clubs 23 = .ok (.bipush 38, 2) := by decide +kernel
theorem dX8_clubs_25 : decode cX8_clubs 25 = .ok (.iaload, 1) := by decide +kernel
theorem dX8_clubs_26 : decode cX8_clubs 26 = .ok (.iadd, 1) := by decide +kernel
theorem dX8_clubs_27 : decode cX8_clubs 27 = .ok (.ireturn, 1) := by decide +kernel
theorem dX8_throwsOne_0 : decode cX8_throwsOne 0 = .ok (.bipush 8, 2) := by decide +kernel
theorem dX8_throwsOne_2 : decode cX8_throwsOne 2 = .ok (.iload_n 1, 1) := by decide +kernel
theorem dX8_throwsOne_3 : decode cX8_throwsOne 3 = .ok (.imul, 1) := by decide +kernel
theorem dX8_throwsOne_4 : decode cX8_throwsOne 4 = .ok (.aload_n 0, 1) := by decide +kernel
theorem dX8_throwsOne_5 : decode cX8_throwsOne 5 = .ok (.getfield 7, 3) := by decide +kernel
theorem dX8_throwsOne_8 : decode cX8_throwsOne 8 = .ok (.iconst 2, 1) := by decide +kernel
theorem dX8_throwsOne_9 : decode cX8_throwsOne 9 = .ok (.iload_n 1, 1) := by decide +kernel
theorem dX8_throwsOne_10 : decode cX8_throwsOne 10 = .ok (.iadd, 1) := by decide +kernel
theorem dX8_throwsOne_11 : decode cX8_throwsOne 11 = .ok (.iaload, 1) := by decide +kernel
theorem dX8_throwsOne_12 : decode cX8_throwsOne 12 = .ok (.iadd, 1) := by decide +kernel
theorem dX8_throwsOne_13 : decode cX8_throwsOne 13 = .ok (.istore_n 2, 1) := by decide +kernel
theorem dX8_throwsOne_14 : decode cX8_throwsOne 14 = .ok (.aload_n 0, 1) := by decide +kernel
theorem dX8_throwsOne_15 : decode cX8_throwsOne 15 = .ok (.getfield 7, 3) := by decide +kernel
theorem dX8_throwsOne_18 : decode cX8_throwsOne 18 = .ok (.bipush 6, 2) := by decide +kernel
theorem dX8_throwsOne_20 : decode cX8_throwsOne 20 = .ok (.iload_n 2, 1) := by decide +kernel
theorem dX8_throwsOne_21 : decode cX8_throwsOne 21 = .ok (.iadd, 1) := by decide +kernel
theorem dX8_throwsOne_22 : decode cX8_throwsOne 22 = .ok (.iaload, 1) := by decide +kernel
theorem dX8_throwsOne_23 : decode cX8_throwsOne 23 = .ok (.istore_n 3, 1) := by decide +kernel
theorem dX8_throwsOne_24 : decode cX8_throwsOne 24 = .ok (.aload_n 0, 1) := by decide +kernel
theorem dX8_throwsOne_25 : decode cX8_throwsOne 25 = .ok (.getfield 7, 3) := by decide +kernel
theorem dX8_throwsOne_28 : decode cX8_throwsOne 28 = .ok (.bipush 22, 2) := by decide +kernel
theorem dX8_throwsOne_30 : decode cX8_throwsOne 30 = .ok (.iload_n 2, 1) := by decide +kernel
theorem dX8_throwsOne_31 : decode cX8_throwsOne 31 = .ok (.iadd, 1) := by decide +kernel
theorem dX8_throwsOne_32 : decode cX8_throwsOne 32 = .ok (.iaload, 1) := by decide +kernel
theorem dX8_throwsOne_33 : decode cX8_throwsOne 33 = .ok (.iconst 1, 1) := by decide +kernel
theorem dX8_throwsOne_34 : decode cX8_throwsOne 34 = .ok (.if_icmp .ne 9, 3) := by decide +kernel
theorem dX8_throwsOne_37 : decode cX8_throwsOne 37 = .ok (.iconst 1, 1) := by decide +kernel
theorem dX8_throwsOne_38 : decode cX8_throwsOne 38 = .ok (.iload_n 1, 1) := by decide +kernel
theorem dX8_throwsOne_39 : decode cX8_throwsOne 39 = .ok (.isub, 1) := by decide +kernel
theorem dX8_throwsOne_40 : decode cX8_throwsOne 40 = .ok (.goto 4, 3) := by decide +kernel
theorem dX8_throwsOne_43 : decode cX8_throwsOne 43 = .ok (.iload_n 1, 1) := by decide +kernel
theorem dX8_throwsOne_44 : decode cX8_throwsOne 44 = .ok (.istore 4, 2) := by decide +kernel
theorem dX8_throwsOne_46 : decode cX8_throwsOne 46 = .ok (.aload_n 0, 1) := by decide +kernel
theorem dX8_throwsOne_47 : decode cX8_throwsOne 47 = .ok (.getfield 7, 3) := by decide +kernel
theorem dX8_throwsOne_50 : decode cX8_throwsOne 50 = .ok (.bipush 44, 2) := by decide +kernel
theorem dX8_throwsOne_52 : decode cX8_throwsOne 52 = .ok (.dup2, 1) := by decide +kernel
theorem dX8_throwsOne_53 : decode cX8_throwsOne 53 = .ok (.iaload, 1) := by decide +kernel
theorem dX8_throwsOne_54 : decode cX8_throwsOne 54 = .ok (.iconst 1, 1) := by decide +kernel
theorem dX8_throwsOne_55 : decode cX8_throwsOne 55 = .ok (.iadd, 1) := by decide +kernel
theorem dX8_throwsOne_56 : decode cX8_throwsOne 56 = .ok (.iastore, 1) := by decide +kernel
theorem dX8_throwsOne_57 : decode cX8_throwsOne 57 = .ok (.iload_n 3, 1) := by decide +kernel
theorem dX8_throwsOne_58 : decode cX8_throwsOne 58 = .ok (.ifCond .ne 30, 3) := by decide +kernel
theorem dX8_throwsOne_61 : decode cX8_throwsOne 61 = .ok (.aload_n 0, 1) := by decide +kernel
theorem dX8_throwsOne_62 : decode cX8_throwsOne 62 = .ok (.getfield 7, 3) := by decide +kernel
theorem dX8_throwsOne_65 : decode cX8_throwsOne 65 = .ok (.bipush 40, 2) := by decide +kernel
theorem dX8_throwsOne_67 : decode cX8_throwsOne 67 = .ok (.iload_n 1, 1) := by decide +kernel
theorem dX8_throwsOne_68 : decode cX8_throwsOne 68 = .ok (.iadd, 1) := by decide +kernel
theorem dX8_throwsOne_69 : decode cX8_throwsOne 69 = .ok (.dup2, 1) := by decide +kernel
theorem dX8_throwsOne_70 : decode cX8_throwsOne 70 = .ok (.iaload, 1) := by decide +kernel
theorem dX8_throwsOne_71 : decode cX8_throwsOne 71 = .ok (.iconst 1, 1) := by decide +kernel
theorem dX8_throwsOne_72 : decode cX8_throwsOne 72 = .ok (.iadd, 1) := by decide +kernel
theorem dX8_throwsOne_73 : decode cX8_throwsOne 73 = .ok (.iastore, 1) := by decide +kernel
theorem dX8_throwsOne_74 : decode cX8_throwsOne 74 = .ok (.aload_n 0, 1) := by decide +kernel
theorem dX8_throwsOne_75 : decode cX8_throwsOne 75 = .ok (.getfield 7, 3) := by decide +kernel
theorem dX8_throwsOne_78 : decode cX8_throwsOne 78 = .ok (.bipush 38, 2) := by decide +kernel
theorem dX8_throwsOne_80 : decode cX8_throwsOne 80 = .ok (.dup2, 1) := by decide +kernel
theorem dX8_throwsOne_81 : decode cX8_throwsOne 81 = .ok (.iaload, 1) := by decide +kernel
theorem dX8_throwsOne_82 : decode cX8_throwsOne 82 = .ok (.iconst 1, 1) := by decide +kernel
theorem dX8_throwsOne_83 : decode cX8_throwsOne 83 = .ok (.iadd, 1) := by decide +kernel
theorem dX8_throwsOne_84 : decode cX8_throwsOne 84 = .ok (.iastore, 1) := by decide +kernel
theorem dX8_throwsOne_85 : decode cX8_throwsOne 85 = .ok (.goto 81, 3) := by decide +kernel
theorem dX8_throwsOne_88 : decode cX8_throwsOne 88 = .ok (.aload_n 0, 1) := by decide +kernel
theorem dX8_throwsOne_89 : decode cX8_throwsOne 89 = .ok (.getfield 7, 3) := by decide +kernel
theorem dX8_throwsOne_92 : decode cX8_throwsOne 92 = .ok (.iconst 0, 1) := by decide +kernel
theorem dX8_throwsOne_93 : decode cX8_throwsOne 93 = .ok (.iload 4, 2) := by decide +kernel
theorem dX8_throwsOne_95 : decode cX8_throwsOne 95 = .ok (.iadd, 1) := by decide +kernel
theorem dX8_throwsOne_96 : decode cX8_throwsOne 96 = .ok (.iaload, 1) := by decide +kernel
theorem dX8_throwsOne_97 : decode cX8_throwsOne 97 = .ok (.iload_n 3, 1) := by decide +kernel
theorem dX8_throwsOne_98 : decode cX8_throwsOne 98 = .ok (.ishr, 1) := by decide +kernel
theorem dX8_throwsOne_99 : decode cX8_throwsOne 99 = .ok (.iconst 1, 1) := by decide +kernel
theorem dX8_throwsOne_100 : decode cX8_throwsOne 100 = .ok (.iand, 1) := by decide +kernel
theorem dX8_throwsOne_101 : decode cX8_throwsOne 101 = .ok (.iconst 1, 1) := by decide +kernel
theorem dX8_throwsOne_102 : decode cX8_throwsOne 102 = .ok (.if_icmp .ne 30, 3) := by decide +kernel
theorem dX8_throwsOne_105 : decode cX8_throwsOne 105 = .ok (.aload_n 0, 1) := by decide +kernel
theorem dX8_throwsOne_106 : decode cX8_throwsOne 106 = .ok (.getfield 7, 3) := by decide +kernel
theorem dX8_throwsOne_109 : decode cX8_throwsOne 109 = .ok (.bipush 42, 2) := by decide +kernel
theorem dX8_throwsOne_111 : decode cX8_throwsOne 111 = .ok (.iload_n 1, 1) := by decide +kernel
theorem dX8_throwsOne_112 : decode cX8_throwsOne 112 = .ok (.iadd, 1) := by decide +kernel
theorem dX8_throwsOne_113 : decode cX8_throwsOne 113 = .ok (.dup2, 1) := by decide +kernel
theorem dX8_throwsOne_114 : decode cX8_throwsOne 114 = .ok (.iaload, 1) := by decide +kernel
theorem dX8_throwsOne_115 : decode cX8_throwsOne 115 = .ok (.iconst 1, 1) := by decide +kernel
theorem dX8_throwsOne_116 : decode cX8_throwsOne 116 = .ok (.iadd, 1) := by decide +kernel
theorem dX8_throwsOne_117 : decode cX8_throwsOne 117 = .ok (.iastore, 1) := by decide +kernel
theorem dX8_throwsOne_118 : decode cX8_throwsOne 118 = .ok (.aload_n 0, 1) := by decide +kernel
theorem dX8_throwsOne_119 : decode cX8_throwsOne 119 = .ok (.getfield 7, 3) := by decide +kernel
theorem dX8_throwsOne_122 : decode cX8_throwsOne 122 = .ok (.bipush 38, 2) := by decide +kernel
theorem dX8_throwsOne_124 : decode cX8_throwsOne 124 = .ok (.dup2, 1) := by decide +kernel
theorem dX8_throwsOne_125 : decode cX8_throwsOne 125 = .ok (.iaload, 1) := by decide +kernel
theorem dX8_throwsOne_126 : decode cX8_throwsOne 126 = .ok (.iconst 1, 1) := by decide +kernel
theorem dX8_throwsOne_127 : decode cX8_throwsOne 127 = .ok (.iadd, 1) := by decide +kernel
theorem dX8_throwsOne_128 : decode cX8_throwsOne 128 = .ok (.iastore, 1) := by decide +kernel
theorem dX8_throwsOne_129 : decode cX8_throwsOne 129 = .ok (.goto 37, 3) := by decide +kernel
theorem dX8_throwsOne_132 : decode cX8_throwsOne 132 = .ok (.aload_n 0, 1) := by decide +kernel
theorem dX8_throwsOne_133 : decode cX8_throwsOne 133 = .ok (.getfield 7, 3) := by decide +kernel
theorem dX8_throwsOne_136 : decode cX8_throwsOne 136 = .ok (.iconst 0, 1) := by decide +kernel
theorem dX8_throwsOne_137 : decode cX8_throwsOne 137 = .ok (.iload 4, 2) := by decide +kernel
theorem dX8_throwsOne_139 : decode cX8_throwsOne 139 = .ok (.iadd, 1) := by decide +kernel
theorem dX8_throwsOne_140 : decode cX8_throwsOne 140 = .ok (.dup2, 1) := by decide +kernel
theorem dX8_throwsOne_141 : decode cX8_throwsOne 141 = .ok (.iaload, 1) := by decide +kernel
theorem dX8_throwsOne_142 : decode cX8_throwsOne 142 = .ok (.iconst 1, 1) := by decide +kernel
theorem dX8_throwsOne_143 : decode cX8_throwsOne 143 = .ok (.iload_n 3, 1) := by decide +kernel
theorem dX8_throwsOne_144 : decode cX8_throwsOne 144 = .ok (.ishl, 1) := by decide +kernel
theorem dX8_throwsOne_145 : decode cX8_throwsOne 145 = .ok (.ior, 1) := by decide +kernel
theorem dX8_throwsOne_146 : decode cX8_throwsOne 146 = .ok (.iastore, 1) := by decide +kernel
theorem dX8_throwsOne_147 : decode cX8_throwsOne 147 = .ok (.aload_n 0, 1) := by decide +kernel
theorem dX8_throwsOne_148 : decode cX8_throwsOne 148 = .ok (.getfield 7, 3) := by decide +kernel
theorem dX8_throwsOne_151 : decode cX8_throwsOne 151 = .ok (.bipush 45, 2) := by decide +kernel
theorem dX8_throwsOne_153 : decode cX8_throwsOne 153 = .ok (.dup2, 1) := by decide +kernel
theorem dX8_throwsOne_154 : decode cX8_throwsOne 154 = .ok (.iaload, 1) := by decide +kernel
theorem dX8_throwsOne_155 : decode cX8_throwsOne 155 = .ok (.aload_n 0, 1) := by decide +kernel
theorem dX8_throwsOne_156 : decode cX8_throwsOne 156 = .ok (.getfield 7, 3) := by decide +kernel
theorem dX8_throwsOne_159 : decode cX8_throwsOne 159 = .ok (.bipush 22, 2) := by decide +kernel
theorem dX8_throwsOne_161 : decode cX8_throwsOne 161 = .ok (.iload_n 2, 1) := by decide +kernel
theorem dX8_throwsOne_162 : decode cX8_throwsOne 162 = .ok (.iadd, 1) := by decide +kernel
theorem dX8_throwsOne_163 : decode cX8_throwsOne 163 = .ok (.iaload, 1) := by decide +kernel
theorem dX8_throwsOne_164 : decode cX8_throwsOne 164 = .ok (.iadd, 1) := by decide +kernel
theorem dX8_throwsOne_165 : decode cX8_throwsOne 165 = .ok (.iastore, 1) := by decide +kernel
theorem dX8_throwsOne_166 : decode cX8_throwsOne 166 = .ok (.return_, 1) := by decide +kernel
theorem dX8_beats_0 : decode cX8_beats 0 = .ok (.iconst 0, 1) := by decide +kernel
theorem dX8_beats_1 : decode cX8_beats 1 = .ok (.istore_n 1, 1) := by decide +kernel
theorem dX8_beats_2 : decode cX8_beats 2 = .ok (.iload_n 1, 1) := by decide +kernel
theorem dX8_beats_3 : decode cX8_beats 3 = .ok (.iconst 2, 1) := by decide +kernel
theorem dX8_beats_4 : decode cX8_beats 4 = .ok (.if_icmp .ge 28, 3) := by decide +kernel
theorem dX8_beats_7 : decode cX8_beats 7 = .ok (.aload_n 0, 1) := by decide +kernel
theorem dX8_beats_8 : decode cX8_beats 8 = .ok (.getfield 7, 3) := by decide +kernel
theorem dX8_beats_11 : decode cX8_beats 11 = .ok (.iconst 0, 1) := by decide +kernel
theorem dX8_beats_12 : decode cX8_beats 12 = .ok (.iload_n 1, 1) := by decide +kernel
theorem dX8_beats_13 : decode cX8_beats 13 = .ok (.iadd, 1) := by decide +kernel
theorem dX8_beats_14 : decode cX8_beats 14 = .ok (.iaload, 1) := by decide +kernel
theorem dX8_beats_15 : decode cX8_beats 15 = .ok (.iconst 1, 1) := by decide +kernel
theorem dX8_beats_16 : decode cX8_beats 16 = .ok (.iand, 1) := by decide +kernel
theorem dX8_beats_17 : decode cX8_beats 17 = .ok (.iconst 1, 1) := by decide +kernel
theorem dX8_beats_18 : decode cX8_beats 18 = .ok (.if_icmp .ne 8, 3) := by decide +kernel
theorem dX8_beats_21 : decode cX8_beats 21 = .ok (.aload_n 0, 1) := by decide +kernel
theorem dX8_beats_22 : decode cX8_beats 22 = .ok (.iload_n 1, 1) := by decide +kernel
theorem dX8_beats_23 : decode cX8_beats 23 = .ok (.invokevirtual 54, 3) := by decide +kernel
theorem dX8_beats_26 : decode cX8_beats 26 = .ok (.iinc 1 1, 3) := by decide +kernel
theorem dX8_beats_29 : decode cX8_beats 29 = .ok (.goto (-27), 3) := by decide +kernel
theorem dX8_beats_32 : decode cX8_beats 32 = .ok (.iconst 0, 1) := by decide +kernel
theorem dX8_beats_33 : decode cX8_beats 33 = .ok (.istore_n 1, 1) := by decide +kernel
theorem dX8_beats_34 : decode cX8_beats 34 = .ok (.iload_n 1, 1) := by decide +kernel
theorem dX8_beats_35 : decode cX8_beats 35 = .ok (.iconst 2, 1) := by decide +kernel
theorem dX8_beats_36 : decode cX8_beats 36 = .ok (.if_icmp .ge 48, 3) := by decide +kernel
theorem dX8_beats_39 : decode cX8_beats 39 = .ok (.aload_n 0, 1) := by decide +kernel
theorem dX8_beats_40 : decode cX8_beats 40 = .ok (.getfield 7, 3) := by decide +kernel
theorem dX8_beats_43 : decode cX8_beats 43 = .ok (.iconst 0, 1) := by decide +kernel
theorem dX8_beats_44 : decode cX8_beats 44 = .ok (.iload_n 1, 1) := by decide +kernel
theorem dX8_beats_45 : decode cX8_beats 45 = .ok (.iadd, 1) := by decide +kernel
theorem dX8_beats_46 : decode cX8_beats 46 = .ok (.dup2, 1) := by decide +kernel
theorem dX8_beats_47 : decode cX8_beats 47 = .ok (.iaload, 1) := by decide +kernel
theorem dX8_beats_48 : decode cX8_beats 48 = .ok (.iconst 1, 1) := by decide +kernel
theorem dX8_beats_49 : decode cX8_beats 49 = .ok (.ishr, 1) := by decide +kernel
theorem dX8_beats_50 : decode cX8_beats 50 = .ok (.iastore, 1) := by decide +kernel
theorem dX8_beats_51 : decode cX8_beats 51 = .ok (.aload_n 0, 1) := by decide +kernel
theorem dX8_beats_52 : decode cX8_beats 52 = .ok (.getfield 7, 3) := by decide +kernel
theorem dX8_beats_55 : decode cX8_beats 55 = .ok (.iconst 2, 1) := by decide +kernel
theorem dX8_beats_56 : decode cX8_beats 56 = .ok (.iload_n 1, 1) := by decide +kernel
theorem dX8_beats_57 : decode cX8_beats 57 = .ok (.iadd, 1) := by decide +kernel
theorem dX8_beats_58 : decode cX8_beats 58 = .ok (.aload_n 0, 1) := by decide +kernel
theorem dX8_beats_59 : decode cX8_beats 59 = .ok (.getfield 7, 3) := by decide +kernel
theorem dX8_beats_62 : decode cX8_beats 62 = .ok (.iconst 2, 1) := by decide +kernel
theorem dX8_beats_63 : decode cX8_beats 63 = .ok (.iload_n 1, 1) := by decide +kernel
theorem dX8_beats_64 : decode cX8_beats 64 = .ok (.iadd, 1) := by decide +kernel
theorem dX8_beats_65 : decode cX8_beats 65 = .ok (.iaload, 1) := by decide +kernel
theorem dX8_beats_66 : decode cX8_beats 66 = .ok (.iconst 1, 1) := by decide +kernel
theorem dX8_beats_67 : decode cX8_beats 67 = .ok (.iadd, 1) := by decide +kernel
theorem dX8_beats_68 : decode cX8_beats 68 = .ok (.aload_n 0, 1) := by decide +kernel
theorem dX8_beats_69 : decode cX8_beats 69 = .ok (.getfield 7, 3) := by decide +kernel
theorem dX8_beats_72 : decode cX8_beats 72 = .ok (.iconst 4, 1) := by decide +kernel
theorem dX8_beats_73 : decode cX8_beats 73 = .ok (.iload_n 1, 1) := by decide +kernel
theorem dX8_beats_74 : decode cX8_beats 74 = .ok (.iadd, 1) := by decide +kernel
theorem dX8_beats_75 : decode cX8_beats 75 = .ok (.iaload, 1) := by decide +kernel
theorem dX8_beats_76 : decode cX8_beats 76 = .ok (.irem, 1) := by decide +kernel
theorem dX8_beats_77 : decode cX8_beats 77 = .ok (.iastore, 1) := by decide +kernel
theorem dX8_beats_78 : decode cX8_beats 78 = .ok (.iinc 1 1, 3) := by decide +kernel
theorem dX8_beats_81 : decode cX8_beats 81 = .ok (.goto (-47), 3) := by decide +kernel
theorem dX8_beats_84 : decode cX8_beats 84 = .ok (.aload_n 0, 1) := by decide +kernel
theorem dX8_beats_85 : decode cX8_beats 85 = .ok (.getfield 7, 3) := by decide +kernel
theorem dX8_beats_88 : decode cX8_beats 88 = .ok (.bipush 39, 2) := by decide +kernel
theorem dX8_beats_90 : decode cX8_beats 90 = .ok (.dup2, 1) := by decide +kernel
theorem dX8_beats_91 : decode cX8_beats 91 = .ok (.iaload, 1) := by decide +kernel
theorem dX8_beats_92 : decode cX8_beats 92 = .ok (.iconst 1, 1) := by decide +kernel
theorem dX8_beats_93 : decode cX8_beats 93 = .ok (.iadd, 1) := by decide +kernel
theorem dX8_beats_94 : decode cX8_beats 94 = .ok (.iastore, 1) := by decide +kernel
theorem dX8_beats_95 : decode cX8_beats 95 = .ok (.return_, 1) := by decide +kernel
theorem dX8_start_0 : decode cX8_start 0 = .ok (.iload_n 1, 1) := by decide +kernel
theorem dX8_start_1 : decode cX8_start 1 = .ok (.i2l, 1) := by decide +kernel
theorem dX8_start_2 : decode cX8_start 2 = .ok (.lconst 0, 1) := by decide +kernel
theorem dX8_start_3 : decode cX8_start 3 = .ok (.ldc2_w 58, 3) := by decide +kernel
theorem dX8_start_6 : decode cX8_start 6 = .ok (.invokestatic 44, 3) := by decide +kernel
theorem dX8_start_9 : decode cX8_start 9 = .ok (.ifCond .eq 15, 3) := by decide +kernel
theorem dX8_start_12 : decode cX8_start 12 = .ok (.iload_n 2, 1) := by decide +kernel
theorem dX8_start_13 : decode cX8_start 13 = .ok (.i2l, 1) := by decide +kernel
theorem dX8_start_14 : decode cX8_start 14 = .ok (.lconst 0, 1) := by decide +kernel
theorem dX8_start_15 : decode cX8_start 15 = .ok (.ldc2_w 58, 3) := by decide +kernel
theorem dX8_start_18 : decode cX8_start 18 = .ok (.invokestatic 44, 3) := by decide +kernel
theorem dX8_start_21 : decode cX8_start 21 = .ok (.ifCond .ne 6, 3) := by decide +kernel
theorem dX8_start_24 : decode cX8_start 24 = .ok (.bipush (-2), 2) := by decide +kernel
theorem dX8_start_26 : decode cX8_start 26 = .ok (.ireturn, 1) := by decide +kernel
theorem dX8_start_27 : decode cX8_start 27 = .ok (.aload_n 0, 1) := by decide +kernel
theorem dX8_start_28 : decode cX8_start 28 = .ok (.invokevirtual 60, 3) := by decide +kernel
theorem dX8_start_31 : decode cX8_start 31 = .ok (.aload_n 0, 1) := by decide +kernel
theorem dX8_start_32 : decode cX8_start 32 = .ok (.invokevirtual 63, 3) := by decide +kernel
theorem dX8_start_35 : decode cX8_start 35 = .ok (.istore_n 3, 1) := by decide +kernel
theorem dX8_start_36 : decode cX8_start 36 = .ok (.aload_n 0, 1) := by decide +kernel
theorem dX8_start_37 : decode cX8_start 37 = .ok (.getfield 7, 3) := by decide +kernel
theorem dX8_start_40 : decode cX8_start 40 = .ok (.iconst 0, 1) := by decide +kernel
theorem dX8_start_41 : decode cX8_start 41 = .ok (.iconst 1, 1) := by decide +kernel
theorem dX8_start_42 : decode cX8_start 42 = .ok (.iload_n 1, 1) := by decide +kernel
theorem dX8_start_43 : decode cX8_start 43 = .ok (.ishl, 1) := by decide +kernel
theorem dX8_start_44 : decode cX8_start 44 = .ok (.iconst 1, 1) := by decide +kernel
theorem dX8_start_45 : decode cX8_start 45 = .ok (.isub, 1) := by decide +kernel
theorem dX8_start_46 : decode cX8_start 46 = .ok (.iastore, 1) := by decide +kernel
theorem dX8_start_47 : decode cX8_start 47 = .ok (.aload_n 0, 1) := by decide +kernel
theorem dX8_start_48 : decode cX8_start 48 = .ok (.getfield 7, 3) := by decide +kernel
theorem dX8_start_51 : decode cX8_start 51 = .ok (.iconst 1, 1) := by decide +kernel
theorem dX8_start_52 : decode cX8_start 52 = .ok (.iconst 1, 1) := by decide +kernel
theorem dX8_start_53 : decode cX8_start 53 = .ok (.iload_n 2, 1) := by decide +kernel
theorem dX8_start_54 : decode cX8_start 54 = .ok (.ishl, 1) := by decide +kernel
theorem dX8_start_55 : decode cX8_start 55 = .ok (.iconst 1, 1) := by decide +kernel
theorem dX8_start_56 : decode cX8_start 56 = .ok (.isub, 1) := by decide +kernel
theorem dX8_start_57 : decode cX8_start 57 = .ok (.iastore, 1) := by decide +kernel
theorem dX8_start_58 : decode cX8_start 58 = .ok (.aload_n 0, 1) := by decide +kernel
theorem dX8_start_59 : decode cX8_start 59 = .ok (.getfield 7, 3) := by decide +kernel
theorem dX8_start_62 : decode cX8_start 62 = .ok (.iconst 2, 1) := by decide +kernel
theorem dX8_start_63 : decode cX8_start 63 = .ok (.iconst 0, 1) := by decide +kernel
theorem dX8_start_64 : decode cX8_start 64 = .ok (.iastore, 1) := by decide +kernel
theorem dX8_start_65 : decode cX8_start 65 = .ok (.aload_n 0, 1) := by decide +kernel
theorem dX8_start_66 : decode cX8_start 66 = .ok (.getfield 7, 3) := by decide +kernel
theorem dX8_start_69 : decode cX8_start 69 = .ok (.iconst 3, 1) := by decide +kernel
theorem dX8_start_70 : decode cX8_start 70 = .ok (.iconst 0, 1) := by decide +kernel
theorem dX8_start_71 : decode cX8_start 71 = .ok (.iastore, 1) := by decide +kernel
theorem dX8_start_72 : decode cX8_start 72 = .ok (.bipush 38, 2) := by decide +kernel
theorem dX8_start_74 : decode cX8_start 74 = .ok (.istore 4, 2) := by decide +kernel
theorem dX8_start_76 : decode cX8_start 76 = .ok (.iload 4, 2) := by decide +kernel
theorem dX8_start_78 : decode cX8_start 78 = .ok (.bipush 46, 2) := by decide +kernel
theorem dX8_start_80 : decode cX8_start 80 = .ok (.if_icmp .ge 17, 3) := by decide +kernel
theorem dX8_start_83 : decode cX8_start 83 = .ok (.aload_n 0, 1) := by decide +kernel
theorem dX8_start_84 : decode cX8_start 84 = .ok (.getfield 7, 3) := by decide +kernel
theorem dX8_start_87 : decode cX8_start 87 = .ok (.iload 4, 2) := by decide +kernel
theorem dX8_start_89 : decode cX8_start 89 = .ok (.iconst 0, 1) := by decide +kernel
theorem dX8_start_90 : decode cX8_start 90 = .ok (.iastore, 1) := by decide +kernel
theorem dX8_start_91 : decode cX8_start 91 = .ok (.iinc 4 1, 3) := by decide +kernel
theorem dX8_start_94 : decode cX8_start 94 = .ok (.goto (-18), 3) := by decide +kernel
theorem dX8_start_97 : decode cX8_start 97 = .ok (.aload_n 0, 1) := by decide +kernel
theorem dX8_start_98 : decode cX8_start 98 = .ok (.iload_n 3, 1) := by decide +kernel
theorem dX8_start_99 : decode cX8_start 99 = .ok (.invokevirtual 67, 3) := by decide +kernel
theorem dX8_start_102 : decode cX8_start 102 = .ok (.ireturn, 1) := by decide +kernel
theorem dX8_pass_0 : decode cX8_pass 0 = .ok (.iload_n 1, 1) := by decide +kernel
theorem dX8_pass_1 : decode cX8_pass 1 = .ok (.i2l, 1) := by decide +kernel
theorem dX8_pass_2 : decode cX8_pass 2 = .ok (.lconst 1, 1) := by decide +kernel
theorem dX8_pass_3 : decode cX8_pass 3 = .ok (.ldc2_w 70, 3) := by decide +kernel
theorem dX8_pass_6 : decode cX8_pass 6 = .ok (.invokestatic 44, 3) := by decide +kernel
theorem dX8_pass_9 : decode cX8_pass 9 = .ok (.ifCond .ne 6, 3) := by decide +kernel
theorem dX8_pass_12 : decode cX8_pass 12 = .ok (.bipush (-2), 2) := by decide +kernel
theorem dX8_pass_14 : decode cX8_pass 14 = .ok (.ireturn, 1) := by decide +kernel
theorem dX8_pass_15 : decode cX8_pass 15 = .ok (.aload_n 0, 1) := by decide +kernel
theorem dX8_pass_16 : decode cX8_pass 16 = .ok (.getfield 7, 3) := by decide +kernel
theorem dX8_pass_19 : decode cX8_pass 19 = .ok (.bipush 39, 2) := by decide +kernel
theorem dX8_pass_21 : decode cX8_pass 21 = .ok (.iaload, 1) := by decide +kernel
theorem dX8_pass_22 : decode cX8_pass 22 = .ok (.iload_n 1, 1) := by decide +kernel
theorem dX8_pass_23 : decode cX8_pass 23 = .ok (.iadd, 1) := by decide +kernel
theorem dX8_pass_24 : decode cX8_pass 24 = .ok (.ldc 72, 2) := by decide +kernel
theorem dX8_pass_26 : decode cX8_pass 26 = .ok (.if_icmp .le 6, 3) := by decide +kernel
theorem dX8_pass_29 : decode cX8_pass 29 = .ok (.bipush (-4), 2) := by decide +kernel
theorem dX8_pass_31 : decode cX8_pass 31 = .ok (.ireturn, 1) := by decide +kernel
theorem dX8_pass_32 : decode cX8_pass 32 = .ok (.aload_n 0, 1) := by decide +kernel
theorem dX8_pass_33 : decode cX8_pass 33 = .ok (.invokevirtual 60, 3) := by decide +kernel
theorem dX8_pass_36 : decode cX8_pass 36 = .ok (.aload_n 0, 1) := by decide +kernel
theorem dX8_pass_37 : decode cX8_pass 37 = .ok (.getfield 7, 3) := by decide +kernel
theorem dX8_pass_40 : decode cX8_pass 40 = .ok (.bipush 38, 2) := by decide +kernel
theorem dX8_pass_42 : decode cX8_pass 42 = .ok (.iaload, 1) := by decide +kernel
theorem dX8_pass_43 : decode cX8_pass 43 = .ok (.istore_n 2, 1) := by decide +kernel
theorem dX8_pass_44 : decode cX8_pass 44 = .ok (.iconst 0, 1) := by decide +kernel
theorem dX8_pass_45 : decode cX8_pass 45 = .ok (.istore_n 3, 1) := by decide +kernel
theorem dX8_pass_46 : decode cX8_pass 46 = .ok (.iload_n 3, 1) := by decide +kernel
theorem dX8_pass_47 : decode cX8_pass 47 = .ok (.iload_n 1, 1) := by decide +kernel
theorem dX8_pass_48 : decode cX8_pass 48 = .ok (.if_icmp .ge 13, 3) := by decide +kernel
theorem dX8_pass_51 : decode cX8_pass 51 = .ok (.aload_n 0, 1) := by decide +kernel
theorem dX8_pass_52 : decode cX8_pass 52 = .ok (.invokevirtual 73, 3) := by decide +kernel
theorem dX8_pass_55 : decode cX8_pass 55 = .ok (.iinc 3 1, 3) := by decide +kernel
theorem dX8_pass_58 : decode cX8_pass 58 = .ok (.goto (-12), 3) := by decide +kernel
theorem dX8_pass_61 : decode cX8_pass 61 = .ok (.aload_n 0, 1) := by decide +kernel
theorem dX8_pass_62 : decode cX8_pass 62 = .ok (.aload_n 0, 1) := by decide +kernel
theorem dX8_pass_63 : decode cX8_pass 63 = .ok (.getfield 7, 3) := by decide +kernel
theorem dX8_pass_66 : decode cX8_pass 66 = .ok (.bipush 38, 2) := by decide +kernel
theorem dX8_pass_68 : decode cX8_pass 68 = .ok (.iaload, 1) := by decide +kernel
theorem dX8_pass_69 : decode cX8_pass 69 = .ok (.iload_n 2, 1) := by decide +kernel
theorem dX8_pass_70 : decode cX8_pass 70 = .ok (.isub, 1) := by decide +kernel
theorem dX8_pass_71 : decode cX8_pass 71 = .ok (.invokevirtual 67, 3) := by decide +kernel
theorem dX8_pass_74 : decode cX8_pass 74 = .ok (.ireturn, 1) := by decide +kernel
theorem dX8_comes_0 : decode cX8_comes 0 = .ok (.aload_n 0, 1) := by decide +kernel
theorem dX8_comes_1 : decode cX8_comes 1 = .ok (.getfield 7, 3) := by decide +kernel
theorem dX8_comes_4 : decode cX8_comes 4 = .ok (.iconst 0, 1) := by decide +kernel
theorem dX8_comes_5 : decode cX8_comes 5 = .ok (.iload_n 1, 1) := by decide +kernel
theorem dX8_comes_6 : decode cX8_comes 6 = .ok (.iadd, 1) := by decide +kernel
theorem dX8_comes_7 : decode cX8_comes 7 = .ok (.iaload, 1) := by decide +kernel
theorem dX8_comes_8 : decode cX8_comes 8 = .ok (.iload_n 2, 1) := by decide +kernel
theorem dX8_comes_9 : decode cX8_comes 9 = .ok (.ishr, 1) := by decide +kernel
theorem dX8_comes_10 : decode cX8_comes 10 = .ok (.iconst 1, 1) := by decide +kernel
theorem dX8_comes_11 : decode cX8_comes 11 = .ok (.iand, 1) := by decide +kernel
theorem dX8_comes_12 : decode cX8_comes 12 = .ok (.iconst 1, 1) := by decide +kernel
theorem dX8_comes_13 : decode cX8_comes 13 = .ok (.if_icmp .ne 7, 3) := by decide +kernel
theorem dX8_comes_16 : decode cX8_comes 16 = .ok (.iconst 1, 1) := by decide +kernel
theorem dX8_comes_17 : decode cX8_comes 17 = .ok (.goto 4, 3) := by decide +kernel
theorem dX8_comes_20 : decode cX8_comes 20 = .ok (.iconst 0, 1) := by decide +kernel
theorem dX8_comes_21 : decode cX8_comes 21 = .ok (.ireturn, 1) := by decide +kernel
theorem dX8_drop_0 : decode cX8_drop 0 = .ok (.iload_n 1, 1) := by decide +kernel
theorem dX8_drop_1 : decode cX8_drop 1 = .ok (.invokestatic 76, 3) := by decide +kernel
theorem dX8_drop_4 : decode cX8_drop 4 = .ok (.ifCond .ne 5, 3) := by decide +kernel
theorem dX8_drop_7 : decode cX8_drop 7 = .ok (.iconst (-1), 1) := by decide +kernel
theorem dX8_drop_8 : decode cX8_drop 8 = .ok (.ireturn, 1) := by decide +kernel
theorem dX8_drop_9 : decode cX8_drop 9 = .ok (.iload_n 2, 1) := by decide +kernel
theorem dX8_drop_10 : decode cX8_drop 10 = .ok (.invokestatic 80, 3) := by decide +kernel
theorem dX8_drop_13 : decode cX8_drop 13 = .ok (.ifCond .ne 6, 3) := by decide +kernel
theorem dX8_drop_16 : decode cX8_drop 16 = .ok (.bipush (-2), 2) := by decide +kernel
theorem dX8_drop_18 : decode cX8_drop 18 = .ok (.ireturn, 1) := by decide +kernel
theorem dX8_drop_19 : decode cX8_drop 19 = .ok (.aload_n 0, 1) := by decide +kernel
theorem dX8_drop_20 : decode cX8_drop 20 = .ok (.iload_n 1, 1) := by decide +kernel
theorem dX8_drop_21 : decode cX8_drop 21 = .ok (.iload_n 2, 1) := by decide +kernel
theorem dX8_drop_22 : decode cX8_drop 22 = .ok (.invokevirtual 83, 3) := by decide +kernel
theorem dX8_drop_25 : decode cX8_drop 25 = .ok (.ifCond .ne 6, 3) := by decide +kernel
theorem dX8_drop_28 : decode cX8_drop 28 = .ok (.bipush (-5), 2) := by decide +kernel
theorem dX8_drop_30 : decode cX8_drop 30 = .ok (.ireturn, 1) := by decide +kernel
theorem dX8_drop_31 : decode cX8_drop 31 = .ok (.aload_n 0, 1) := by decide +kernel
theorem dX8_drop_32 : decode cX8_drop 32 = .ok (.invokevirtual 60, 3) := by decide +kernel
theorem dX8_drop_35 : decode cX8_drop 35 = .ok (.aload_n 0, 1) := by decide +kernel
theorem dX8_drop_36 : decode cX8_drop 36 = .ok (.getfield 7, 3) := by decide +kernel
theorem dX8_drop_39 : decode cX8_drop 39 = .ok (.iconst 0, 1) := by decide +kernel
theorem dX8_drop_40 : decode cX8_drop 40 = .ok (.iload_n 1, 1) := by decide +kernel
theorem dX8_drop_41 : decode cX8_drop 41 = .ok (.iadd, 1) := by decide +kernel
theorem dX8_drop_42 : decode cX8_drop 42 = .ok (.dup2, 1) := by decide +kernel
theorem dX8_drop_43 : decode cX8_drop 43 = .ok (.iaload, 1) := by decide +kernel
theorem dX8_drop_44 : decode cX8_drop 44 = .ok (.iconst 1, 1) := by decide +kernel
theorem dX8_drop_45 : decode cX8_drop 45 = .ok (.iload_n 2, 1) := by decide +kernel
theorem dX8_drop_46 : decode cX8_drop 46 = .ok (.ishl, 1) := by decide +kernel
theorem dX8_drop_47 : decode cX8_drop 47 = .ok (.isub, 1) := by decide +kernel
theorem dX8_drop_48 : decode cX8_drop 48 = .ok (.iastore, 1) := by decide +kernel
theorem dX8_drop_49 : decode cX8_drop 49 = .ok (.aload_n 0, 1) := by decide +kernel
theorem dX8_drop_50 : decode cX8_drop 50 = .ok (.getfield 7, 3) := by decide +kernel
theorem dX8_drop_53 : decode cX8_drop 53 = .ok (.bipush 38, 2) := by decide +kernel
theorem dX8_drop_55 : decode cX8_drop 55 = .ok (.dup2, 1) := by decide +kernel
theorem dX8_drop_56 : decode cX8_drop 56 = .ok (.iaload, 1) := by decide +kernel
theorem dX8_drop_57 : decode cX8_drop 57 = .ok (.iconst 1, 1) := by decide +kernel
theorem dX8_drop_58 : decode cX8_drop 58 = .ok (.iadd, 1) := by decide +kernel
theorem dX8_drop_59 : decode cX8_drop 59 = .ok (.iastore, 1) := by decide +kernel
theorem dX8_drop_60 : decode cX8_drop 60 = .ok (.aload_n 0, 1) := by decide +kernel
theorem dX8_drop_61 : decode cX8_drop 61 = .ok (.aload_n 0, 1) := by decide +kernel
theorem dX8_drop_62 : decode cX8_drop 62 = .ok (.getfield 7, 3) := by decide +kernel
theorem dX8_drop_65 : decode cX8_drop 65 = .ok (.bipush 38, 2) := by decide +kernel
theorem dX8_drop_67 : decode cX8_drop 67 = .ok (.iaload, 1) := by decide +kernel
theorem dX8_drop_68 : decode cX8_drop 68 = .ok (.invokevirtual 67, 3) := by decide +kernel
theorem dX8_drop_71 : decode cX8_drop 71 = .ok (.ireturn, 1) := by decide +kernel
theorem dX8_pick_0 : decode cX8_pick 0 = .ok (.iload_n 1, 1) := by decide +kernel
theorem dX8_pick_1 : decode cX8_pick 1 = .ok (.invokestatic 76, 3) := by decide +kernel
theorem dX8_pick_4 : decode cX8_pick 4 = .ok (.ifCond .ne 5, 3) := by decide +kernel
theorem dX8_pick_7 : decode cX8_pick 7 = .ok (.iconst (-1), 1) := by decide +kernel
theorem dX8_pick_8 : decode cX8_pick 8 = .ok (.ireturn, 1) := by decide +kernel
theorem dX8_pick_9 : decode cX8_pick 9 = .ok (.iload_n 2, 1) := by decide +kernel
theorem dX8_pick_10 : decode cX8_pick 10 = .ok (.invokestatic 80, 3) := by decide +kernel
theorem dX8_pick_13 : decode cX8_pick 13 = .ok (.ifCond .ne 6, 3) := by decide +kernel
theorem dX8_pick_16 : decode cX8_pick 16 = .ok (.bipush (-2), 2) := by decide +kernel
theorem dX8_pick_18 : decode cX8_pick 18 = .ok (.ireturn, 1) := by decide +kernel
theorem dX8_pick_19 : decode cX8_pick 19 = .ok (.aload_n 0, 1) := by decide +kernel
theorem dX8_pick_20 : decode cX8_pick 20 = .ok (.getfield 7, 3) := by decide +kernel
theorem dX8_pick_23 : decode cX8_pick 23 = .ok (.bipush 38, 2) := by decide +kernel
theorem dX8_pick_25 : decode cX8_pick 25 = .ok (.iaload, 1) := by decide +kernel
theorem dX8_pick_26 : decode cX8_pick 26 = .ok (.ifCond .eq 12, 3) := by decide +kernel
theorem dX8_pick_29 : decode cX8_pick 29 = .ok (.aload_n 0, 1) := by decide +kernel
theorem dX8_pick_30 : decode cX8_pick 30 = .ok (.iload_n 1, 1) := by decide +kernel
theorem dX8_pick_31 : decode cX8_pick 31 = .ok (.iload_n 2, 1) := by decide +kernel
theorem dX8_pick_32 : decode cX8_pick 32 = .ok (.invokevirtual 83, 3) := by decide +kernel
theorem dX8_pick_35 : decode cX8_pick 35 = .ok (.ifCond .eq 6, 3) := by decide +kernel
theorem dX8_pick_38 : decode cX8_pick 38 = .ok (.bipush (-5), 2) := by decide +kernel
theorem dX8_pick_40 : decode cX8_pick 40 = .ok (.ireturn, 1) := by decide +kernel
theorem dX8_pick_41 : decode cX8_pick 41 = .ok (.aload_n 0, 1) := by decide +kernel
theorem dX8_pick_42 : decode cX8_pick 42 = .ok (.invokevirtual 60, 3) := by decide +kernel
theorem dX8_pick_45 : decode cX8_pick 45 = .ok (.aload_n 0, 1) := by decide +kernel
theorem dX8_pick_46 : decode cX8_pick 46 = .ok (.getfield 7, 3) := by decide +kernel
theorem dX8_pick_49 : decode cX8_pick 49 = .ok (.iconst 0, 1) := by decide +kernel
theorem dX8_pick_50 : decode cX8_pick 50 = .ok (.iload_n 1, 1) := by decide +kernel
theorem dX8_pick_51 : decode cX8_pick 51 = .ok (.iadd, 1) := by decide +kernel
theorem dX8_pick_52 : decode cX8_pick 52 = .ok (.dup2, 1) := by decide +kernel
theorem dX8_pick_53 : decode cX8_pick 53 = .ok (.iaload, 1) := by decide +kernel
theorem dX8_pick_54 : decode cX8_pick 54 = .ok (.iconst 1, 1) := by decide +kernel
theorem dX8_pick_55 : decode cX8_pick 55 = .ok (.iload_n 2, 1) := by decide +kernel
theorem dX8_pick_56 : decode cX8_pick 56 = .ok (.ishl, 1) := by decide +kernel
theorem dX8_pick_57 : decode cX8_pick 57 = .ok (.iadd, 1) := by decide +kernel
theorem dX8_pick_58 : decode cX8_pick 58 = .ok (.iastore, 1) := by decide +kernel
theorem dX8_pick_59 : decode cX8_pick 59 = .ok (.aload_n 0, 1) := by decide +kernel
theorem dX8_pick_60 : decode cX8_pick 60 = .ok (.getfield 7, 3) := by decide +kernel
theorem dX8_pick_63 : decode cX8_pick 63 = .ok (.bipush 38, 2) := by decide +kernel
theorem dX8_pick_65 : decode cX8_pick 65 = .ok (.dup2, 1) := by decide +kernel
theorem dX8_pick_66 : decode cX8_pick 66 = .ok (.iaload, 1) := by decide +kernel
theorem dX8_pick_67 : decode cX8_pick 67 = .ok (.iconst 1, 1) := by decide +kernel
theorem dX8_pick_68 : decode cX8_pick 68 = .ok (.isub, 1) := by decide +kernel
theorem dX8_pick_69 : decode cX8_pick 69 = .ok (.iastore, 1) := by decide +kernel
theorem dX8_pick_70 : decode cX8_pick 70 = .ok (.aload_n 0, 1) := by decide +kernel
theorem dX8_pick_71 : decode cX8_pick 71 = .ok (.aload_n 0, 1) := by decide +kernel
theorem dX8_pick_72 : decode cX8_pick 72 = .ok (.getfield 7, 3) := by decide +kernel
theorem dX8_pick_75 : decode cX8_pick 75 = .ok (.bipush 38, 2) := by decide +kernel
theorem dX8_pick_77 : decode cX8_pick 77 = .ok (.iaload, 1) := by decide +kernel
theorem dX8_pick_78 : decode cX8_pick 78 = .ok (.invokevirtual 67, 3) := by decide +kernel
theorem dX8_pick_81 : decode cX8_pick 81 = .ok (.ireturn, 1) := by decide +kernel
theorem dX8_of_0 : decode cX8_of 0 = .ok (.iload_n 1, 1) := by decide +kernel
theorem dX8_of_1 : decode cX8_of 1 = .ok (.invokestatic 76, 3) := by decide +kernel
theorem dX8_of_4 : decode cX8_of 4 = .ok (.ifCond .ne 5, 3) := by decide +kernel
theorem dX8_of_7 : decode cX8_of 7 = .ok (.iconst (-1), 1) := by decide +kernel
theorem dX8_of_8 : decode cX8_of 8 = .ok (.ireturn, 1) := by decide +kernel
theorem dX8_of_9 : decode cX8_of 9 = .ok (.iload_n 2, 1) := by decide +kernel
theorem dX8_of_10 : decode cX8_of 10 = .ok (.tableswitch 97 0 5 #[38, 47, 59, 68, 77, 87], 38) := by decide +kernel
theorem dX8_of_48 : decode cX8_of 48 = .ok (.aload_n 0, 1) := by decide +kernel
theorem dX8_of_49 : decode cX8_of 49 = .ok (.getfield 7, 3) := by decide +kernel
theorem dX8_of_52 : decode cX8_of 52 = .ok (.iconst 0, 1) := by decide +kernel
theorem dX8_of_53 : decode cX8_of 53 = .ok (.iload_n 1, 1) := by decide +kernel
theorem dX8_of_54 : decode cX8_of 54 = .ok (.iadd, 1) := by decide +kernel
theorem dX8_of_55 : decode cX8_of 55 = .ok (.iaload, 1) := by decide +kernel
theorem dX8_of_56 : decode cX8_of 56 = .ok (.ireturn, 1) := by decide +kernel
theorem dX8_of_57 : decode cX8_of 57 = .ok (.aload_n 0, 1) := by decide +kernel
theorem dX8_of_58 : decode cX8_of 58 = .ok (.getfield 7, 3) := by decide +kernel
theorem dX8_of_61 : decode cX8_of 61 = .ok (.iconst 0, 1) := by decide +kernel
theorem dX8_of_62 : decode cX8_of 62 = .ok (.iload_n 1, 1) := by decide +kernel
theorem dX8_of_63 : decode cX8_of 63 = .ok (.iadd, 1) := by decide +kernel
theorem dX8_of_64 : decode cX8_of 64 = .ok (.iaload, 1) := by decide +kernel
theorem dX8_of_65 : decode cX8_of 65 = .ok (.invokestatic 50, 3) := by decide +kernel
theorem dX8_of_68 : decode cX8_of 68 = .ok (.ireturn, 1) := by decide +kernel
theorem dX8_of_69 : decode cX8_of 69 = .ok (.aload_n 0, 1) := by decide +kernel
theorem dX8_of_70 : decode cX8_of 70 = .ok (.getfield 7, 3) := by decide +kernel
theorem dX8_of_73 : decode cX8_of 73 = .ok (.iconst 4, 1) := by decide +kernel
theorem dX8_of_74 : decode cX8_of 74 = .ok (.iload_n 1, 1) := by decide +kernel
theorem dX8_of_75 : decode cX8_of 75 = .ok (.iadd, 1) := by decide +kernel
theorem dX8_of_76 : decode cX8_of 76 = .ok (.iaload, 1) := by decide +kernel
theorem dX8_of_77 : decode cX8_of 77 = .ok (.ireturn, 1) := by decide +kernel
theorem dX8_of_78 : decode cX8_of 78 = .ok (.aload_n 0, 1) := by decide +kernel
theorem dX8_of_79 : decode cX8_of 79 = .ok (.getfield 7, 3) := by decide +kernel
theorem dX8_of_82 : decode cX8_of 82 = .ok (.iconst 2, 1) := by decide +kernel
theorem dX8_of_83 : decode cX8_of 83 = .ok (.iload_n 1, 1) := by decide +kernel
theorem dX8_of_84 : decode cX8_of 84 = .ok (.iadd, 1) := by decide +kernel
theorem dX8_of_85 : decode cX8_of 85 = .ok (.iaload, 1) := by decide +kernel
theorem dX8_of_86 : decode cX8_of 86 = .ok (.ireturn, 1) := by decide +kernel
theorem dX8_of_87 : decode cX8_of 87 = .ok (.aload_n 0, 1) := by decide +kernel
theorem dX8_of_88 : decode cX8_of 88 = .ok (.getfield 7, 3) := by decide +kernel
theorem dX8_of_91 : decode cX8_of 91 = .ok (.bipush 40, 2) := by decide +kernel
theorem dX8_of_93 : decode cX8_of 93 = .ok (.iload_n 1, 1) := by decide +kernel
theorem dX8_of_94 : decode cX8_of 94 = .ok (.iadd, 1) := by decide +kernel
theorem dX8_of_95 : decode cX8_of 95 = .ok (.iaload, 1) := by decide +kernel
theorem dX8_of_96 : decode cX8_of 96 = .ok (.ireturn, 1) := by decide +kernel
theorem dX8_of_97 : decode cX8_of 97 = .ok (.aload_n 0, 1) := by decide +kernel
theorem dX8_of_98 : decode cX8_of 98 = .ok (.getfield 7, 3) := by decide +kernel
theorem dX8_of_101 : decode cX8_of 101 = .ok (.bipush 42, 2) := by decide +kernel
theorem dX8_of_103 : decode cX8_of 103 = .ok (.iload_n 1, 1) := by decide +kernel
theorem dX8_of_104 : decode cX8_of 104 = .ok (.iadd, 1) := by decide +kernel
theorem dX8_of_105 : decode cX8_of 105 = .ok (.iaload, 1) := by decide +kernel
theorem dX8_of_106 : decode cX8_of 106 = .ok (.ireturn, 1) := by decide +kernel
theorem dX8_of_107 : decode cX8_of 107 = .ok (.bipush (-2), 2) := by decide +kernel
theorem dX8_of_109 : decode cX8_of 109 = .ok (.ireturn, 1) := by decide +kernel
theorem dX8_thrown_0 : decode cX8_thrown 0 = .ok (.iload_n 1, 1) := by decide +kernel
theorem dX8_thrown_1 : decode cX8_thrown 1 = .ok (.invokestatic 76, 3) := by decide +kernel
theorem dX8_thrown_4 : decode cX8_thrown 4 = .ok (.ifCond .eq 23, 3) := by decide +kernel
theorem dX8_thrown_7 : decode cX8_thrown 7 = .ok (.iload_n 2, 1) := by decide +kernel
theorem dX8_thrown_8 : decode cX8_thrown 8 = .ok (.i2l, 1) := by decide +kernel
theorem dX8_thrown_9 : decode cX8_thrown 9 = .ok (.lconst 0, 1) := by decide +kernel
theorem dX8_thrown_10 : decode cX8_thrown 10 = .ok (.aload_n 0, 1) := by decide +kernel
theorem dX8_thrown_11 : decode cX8_thrown 11 = .ok (.getfield 7, 3) := by decide +kernel
theorem dX8_thrown_14 : decode cX8_thrown 14 = .ok (.iconst 4, 1) := by decide +kernel
theorem dX8_thrown_15 : decode cX8_thrown 15 = .ok (.iload_n 1, 1) := by decide +kernel
theorem dX8_thrown_16 : decode cX8_thrown 16 = .ok (.iadd, 1) := by decide +kernel
theorem dX8_thrown_17 : decode cX8_thrown 17 = .ok (.iaload, 1) := by decide +kernel
theorem dX8_thrown_18 : decode cX8_thrown 18 = .ok (.i2l, 1) := by decide +kernel
theorem dX8_thrown_19 : decode cX8_thrown 19 = .ok (.lconst 1, 1) := by decide +kernel
theorem dX8_thrown_20 : decode cX8_thrown 20 = .ok (.lsub, 1) := by decide +kernel
theorem dX8_thrown_21 : decode cX8_thrown 21 = .ok (.invokestatic 44, 3) := by decide +kernel
theorem dX8_thrown_24 : decode cX8_thrown 24 = .ok (.ifCond .ne 5, 3) := by decide +kernel
theorem dX8_thrown_27 : decode cX8_thrown 27 = .ok (.iconst (-1), 1) := by decide +kernel
theorem dX8_thrown_28 : decode cX8_thrown 28 = .ok (.ireturn, 1) := by decide +kernel
theorem dX8_thrown_29 : decode cX8_thrown 29 = .ok (.bipush 8, 2) := by decide +kernel
theorem dX8_thrown_31 : decode cX8_thrown 31 = .ok (.iload_n 1, 1) := by decide +kernel
theorem dX8_thrown_32 : decode cX8_thrown 32 = .ok (.imul, 1) := by decide +kernel
theorem dX8_thrown_33 : decode cX8_thrown 33 = .ok (.iload_n 2, 1) := by decide +kernel
theorem dX8_thrown_34 : decode cX8_thrown 34 = .ok (.iadd, 1) := by decide +kernel
theorem dX8_thrown_35 : decode cX8_thrown 35 = .ok (.istore 4, 2) := by decide +kernel
theorem dX8_thrown_37 : decode cX8_thrown 37 = .ok (.iload_n 3, 1) := by decide +kernel
theorem dX8_thrown_38 : decode cX8_thrown 38 = .ok (.ifCond .ne 16, 3) := by decide +kernel
theorem dX8_thrown_41 : decode cX8_thrown 41 = .ok (.aload_n 0, 1) := by decide +kernel
theorem dX8_thrown_42 : decode cX8_thrown 42 = .ok (.getfield 7, 3) := by decide +kernel
theorem dX8_thrown_45 : decode cX8_thrown 45 = .ok (.bipush 6, 2) := by decide +kernel
theorem dX8_thrown_47 : decode cX8_thrown 47 = .ok (.iload 4, 2) := by decide +kernel
theorem dX8_thrown_49 : decode cX8_thrown 49 = .ok (.iadd, 1) := by decide +kernel
theorem dX8_thrown_50 : decode cX8_thrown 50 = .ok (.iaload, 1) := by decide +kernel
theorem dX8_thrown_51 : decode cX8_thrown 51 = .ok (.goto 23, 3) := by decide +kernel
theorem dX8_thrown_54 : decode cX8_thrown 54 = .ok (.iload_n 3, 1) := by decide +kernel
theorem dX8_thrown_55 : decode cX8_thrown 55 = .ok (.iconst 1, 1) := by decide +kernel
theorem dX8_thrown_56 : decode cX8_thrown 56 = .ok (.if_icmp .ne 16, 3) := by decide +kernel
theorem dX8_thrown_59 : decode cX8_thrown 59 = .ok (.aload_n 0, 1) := by decide +kernel
theorem dX8_thrown_60 : decode cX8_thrown 60 = .ok (.getfield 7, 3) := by decide +kernel
theorem dX8_thrown_63 : decode cX8_thrown 63 = .ok (.bipush 22, 2) := by decide +kernel
theorem dX8_thrown_65 : decode cX8_thrown 65 = .ok (.iload 4, 2) := by decide +kernel
theorem dX8_thrown_67 : decode cX8_thrown 67 = .ok (.iadd, 1) := by decide +kernel
theorem dX8_thrown_68 : decode cX8_thrown 68 = .ok (.iaload, 1) := by decide +kernel
theorem dX8_thrown_69 : decode cX8_thrown 69 = .ok (.goto 5, 3) := by decide +kernel
theorem dX8_thrown_72 : decode cX8_thrown 72 = .ok (.bipush (-2), 2) := by decide +kernel
theorem dX8_thrown_74 : decode cX8_thrown 74 = .ok (.ireturn, 1) := by decide +kernel
theorem dX8_count_0 : decode cX8_count 0 = .ok (.iload_n 1, 1) := by decide +kernel
theorem dX8_count_1 : decode cX8_count 1 = .ok (.tableswitch 90 0 6 #[43, 51, 59, 64, 72, 80, 85], 43) := by decide +kernel
theorem dX8_count_44 : decode cX8_count 44 = .ok (.aload_n 0, 1) := by decide +kernel
theorem dX8_count_45 : decode cX8_count 45 = .ok (.getfield 7, 3) := by decide +kernel
theorem dX8_count_48 : decode cX8_count 48 = .ok (.bipush 39, 2) := by decide +kernel
theorem dX8_count_50 : decode cX8_count 50 = .ok (.iaload, 1) := by decide +kernel
theorem dX8_count_51 : decode cX8_count 51 = .ok (.ireturn, 1) := by decide +kernel
theorem dX8_count_52 : decode cX8_count 52 = .ok (.aload_n 0, 1) := by decide +kernel
theorem dX8_count_53 : decode cX8_count 53 = .ok (.getfield 7, 3) := by decide +kernel
theorem dX8_count_56 : decode cX8_count 56 = .ok (.bipush 38, 2) := by decide +kernel
theorem dX8_count_58 : decode cX8_count 58 = .ok (.iaload, 1) := by decide +kernel
theorem dX8_count_59 : decode cX8_count 59 = .ok (.ireturn, 1) := by decide +kernel
theorem dX8_count_60 : decode cX8_count 60 = .ok (.aload_n 0, 1) := by decide +kernel
theorem dX8_count_61 : decode cX8_count 61 = .ok (.invokevirtual 63, 3) := by decide +kernel
theorem dX8_count_64 : decode cX8_count 64 = .ok (.ireturn, 1) := by decide +kernel
theorem dX8_count_65 : decode cX8_count 65 = .ok (.aload_n 0, 1) := by decide +kernel
theorem dX8_count_66 : decode cX8_count 66 = .ok (.getfield 7, 3) := by decide +kernel
theorem dX8_count_69 : decode cX8_count 69 = .ok (.bipush 44, 2) := by decide +kernel
theorem dX8_count_71 : decode cX8_count 71 = .ok (.iaload, 1) := by decide +kernel
theorem dX8_count_72 : decode cX8_count 72 = .ok (.ireturn, 1) := by decide +kernel
theorem dX8_count_73 : decode cX8_count 73 = .ok (.aload_n 0, 1) := by decide +kernel
theorem dX8_count_74 : decode cX8_count 74 = .ok (.getfield 7, 3) := by decide +kernel
theorem dX8_count_77 : decode cX8_count 77 = .ok (.bipush 45, 2) := by decide +kernel
theorem dX8_count_79 : decode cX8_count 79 = .ok (.iaload, 1) := by decide +kernel
theorem dX8_count_80 : decode cX8_count 80 = .ok (.ireturn, 1) := by decide +kernel
theorem dX8_count_81 : decode cX8_count 81 = .ok (.aload_n 0, 1) := by decide +kernel
theorem dX8_count_82 : decode cX8_count 82 = .ok (.getfield 87, 3) := by decide +kernel
theorem dX8_count_85 : decode cX8_count 85 = .ok (.ireturn, 1) := by decide +kernel
theorem dX8_count_86 : decode cX8_count 86 = .ok (.aload_n 0, 1) := by decide +kernel
theorem dX8_count_87 : decode cX8_count 87 = .ok (.getfield 40, 3) := by decide +kernel
theorem dX8_count_90 : decode cX8_count 90 = .ok (.ireturn, 1) := by decide +kernel
theorem dX8_count_91 : decode cX8_count 91 = .ok (.bipush (-2), 2) := by decide +kernel
theorem dX8_count_93 : decode cX8_count 93 = .ok (.ireturn, 1) := by decide +kernel
theorem dX8_firstDrop_0 : decode cX8_firstDrop 0 = .ok (.aload_n 0, 1) := by decide +kernel
theorem dX8_firstDrop_1 : decode cX8_firstDrop 1 = .ok (.invokevirtual 60, 3) := by decide +kernel
theorem dX8_firstDrop_4 : decode cX8_firstDrop 4 = .ok (.iconst 0, 1) := by decide +kernel
theorem dX8_firstDrop_5 : decode cX8_firstDrop 5 = .ok (.istore_n 1, 1) := by decide +kernel
theorem dX8_firstDrop_6 : decode cX8_firstDrop 6 = .ok (.iload_n 1, 1) := by decide +kernel
theorem dX8_firstDrop_7 : decode cX8_firstDrop 7 = .ok (.sipush 1000, 3) := by decide +kernel
theorem dX8_firstDrop_10 : decode cX8_firstDrop 10 = .ok (.if_icmp .ge 30, 3) := by decide +kernel
theorem dX8_firstDrop_13 : decode cX8_firstDrop 13 = .ok (.aload_n 0, 1) := by decide +kernel
theorem dX8_firstDrop_14 : decode cX8_firstDrop 14 = .ok (.getfield 7, 3) := by decide +kernel
theorem dX8_firstDrop_17 : decode cX8_firstDrop 17 = .ok (.bipush 38, 2) := by decide +kernel
theorem dX8_firstDrop_19 : decode cX8_firstDrop 19 = .ok (.iaload, 1) := by decide +kernel
theorem dX8_firstDrop_20 : decode cX8_firstDrop 20 = .ok (.aload_n 0, 1) := by decide +kernel
theorem dX8_firstDrop_21 : decode cX8_firstDrop 21 = .ok (.getfield 13, 3) := by decide +kernel
theorem dX8_firstDrop_24 : decode cX8_firstDrop 24 = .ok (.bipush 38, 2) := by decide +kernel
theorem dX8_firstDrop_26 : decode cX8_firstDrop 26 = .ok (.iaload, 1) := by decide +kernel
theorem dX8_firstDrop_27 : decode cX8_firstDrop 27 = .ok (.if_icmp .ne 13, 3) := by decide +kernel
theorem dX8_firstDrop_30 : decode cX8_firstDrop 30 = .ok (.aload_n 0, 1) := by decide +kernel
theorem dX8_firstDrop_31 : decode cX8_firstDrop 31 = .ok (.invokevirtual 73, 3) := by decide +kernel
theorem dX8_firstDrop_34 : decode cX8_firstDrop 34 = .ok (.iinc 1 1, 3) := by decide +kernel
theorem dX8_firstDrop_37 : decode cX8_firstDrop 37 = .ok (.goto (-31), 3) := by decide +kernel
theorem dX8_firstDrop_40 : decode cX8_firstDrop 40 = .ok (.aload_n 0, 1) := by decide +kernel
theorem dX8_firstDrop_41 : decode cX8_firstDrop 41 = .ok (.getfield 7, 3) := by decide +kernel
theorem dX8_firstDrop_44 : decode cX8_firstDrop 44 = .ok (.bipush 38, 2) := by decide +kernel
theorem dX8_firstDrop_46 : decode cX8_firstDrop 46 = .ok (.iaload, 1) := by decide +kernel
theorem dX8_firstDrop_47 : decode cX8_firstDrop 47 = .ok (.aload_n 0, 1) := by decide +kernel
theorem dX8_firstDrop_48 : decode cX8_firstDrop 48 = .ok (.getfield 13, 3) := by decide +kernel
theorem dX8_firstDrop_51 : decode cX8_firstDrop 51 = .ok (.bipush 38, 2) := by decide +kernel
theorem dX8_firstDrop_53 : decode cX8_firstDrop 53 = .ok (.iaload, 1) := by decide +kernel
theorem dX8_firstDrop_54 : decode cX8_firstDrop 54 = .ok (.if_icmp .le 7, 3) := by decide +kernel
theorem dX8_firstDrop_57 : decode cX8_firstDrop 57 = .ok (.iconst 1, 1) := by decide +kernel
theorem dX8_firstDrop_58 : decode cX8_firstDrop 58 = .ok (.goto 4, 3) := by decide +kernel
theorem dX8_firstDrop_61 : decode cX8_firstDrop 61 = .ok (.iconst 0, 1) := by decide +kernel
theorem dX8_firstDrop_62 : decode cX8_firstDrop 62 = .ok (.istore_n 2, 1) := by decide +kernel
theorem dX8_firstDrop_63 : decode cX8_firstDrop 63 = .ok (.aload_n 0, 1) := by decide +kernel
theorem dX8_firstDrop_64 : decode cX8_firstDrop 64 = .ok (.invokevirtual 90, 3) := by decide +kernel
theorem dX8_firstDrop_67 : decode cX8_firstDrop 67 = .ok (.iload_n 2, 1) := by decide +kernel
theorem dX8_firstDrop_68 : decode cX8_firstDrop 68 = .ok (.ifCond .eq 9, 3) := by decide +kernel
theorem dX8_firstDrop_71 : decode cX8_firstDrop 71 = .ok (.iload_n 1, 1) := by decide +kernel
theorem dX8_firstDrop_72 : decode cX8_firstDrop 72 = .ok (.iconst 1, 1) := by decide +kernel
theorem dX8_firstDrop_73 : decode cX8_firstDrop 73 = .ok (.isub, 1) := by decide +kernel
theorem dX8_firstDrop_74 : decode cX8_firstDrop 74 = .ok (.goto 5, 3) := by decide +kernel
theorem dX8_firstDrop_77 : decode cX8_firstDrop 77 = .ok (.bipush (-6), 2) := by decide +kernel
theorem dX8_firstDrop_79 : decode cX8_firstDrop 79 = .ok (.ireturn, 1) := by decide +kernel
theorem dX8_isAsKept_0 : decode cX8_isAsKept 0 = .ok (.iconst 1, 1) := by decide +kernel
theorem dX8_isAsKept_1 : decode cX8_isAsKept 1 = .ok (.istore_n 1, 1) := by decide +kernel
theorem dX8_isAsKept_2 : decode cX8_isAsKept 2 = .ok (.iconst 0, 1) := by decide +kernel
theorem dX8_isAsKept_3 : decode cX8_isAsKept 3 = .ok (.istore_n 2, 1) := by decide +kernel
theorem dX8_isAsKept_4 : decode cX8_isAsKept 4 = .ok (.iload_n 2, 1) := by decide +kernel
theorem dX8_isAsKept_5 : decode cX8_isAsKept 5 = .ok (.iconst 4, 1) := by decide +kernel
theorem dX8_isAsKept_6 : decode cX8_isAsKept 6 = .ok (.if_icmp .ge 34, 3) := by decide +kernel
theorem dX8_isAsKept_9 : decode cX8_isAsKept 9 = .ok (.iload_n 1, 1) := by decide +kernel
theorem dX8_isAsKept_10 : decode cX8_isAsKept 10 = .ok (.ifCond .eq 22, 3) := by decide +kernel
theorem dX8_isAsKept_13 : decode cX8_isAsKept 13 = .ok (.aload_n 0, 1) := by decide +kernel
theorem dX8_isAsKept_14 : decode cX8_isAsKept 14 = .ok (.getfield 7, 3) := by decide +kernel
theorem dX8_isAsKept_17 : decode cX8_isAsKept 17 = .ok (.iload_n 2, 1) := by decide +kernel
theorem dX8_isAsKept_18 : decode cX8_isAsKept 18 = .ok (.iaload, 1) := by decide +kernel
theorem dX8_isAsKept_19 : decode cX8_isAsKept 19 = .ok (.aload_n 0, 1) := by decide +kernel
theorem dX8_isAsKept_20 : decode cX8_isAsKept 20 = .ok (.getfield 13, 3) := by decide +kernel
theorem dX8_isAsKept_23 : decode cX8_isAsKept 23 = .ok (.iload_n 2, 1) := by decide +kernel
theorem dX8_isAsKept_24 : decode cX8_isAsKept 24 = .ok (.iaload, 1) := by decide +kernel
theorem dX8_isAsKept_25 : decode cX8_isAsKept 25 = .ok (.if_icmp .ne 7, 3) := by decide +kernel
theorem dX8_isAsKept_28 : decode cX8_isAsKept 28 = .ok (.iconst 1, 1) := by decide +kernel
theorem dX8_isAsKept_29 : decode cX8_isAsKept 29 = .ok (.goto 4, 3) := by decide +kernel
theorem dX8_isAsKept_32 : decode cX8_isAsKept 32 = .ok (.iconst 0, 1) := by decide +kernel
theorem dX8_isAsKept_33 : decode cX8_isAsKept 33 = .ok (.istore_n 1, 1) := by decide +kernel
theorem dX8_isAsKept_34 : decode cX8_isAsKept 34 = .ok (.iinc 2 1, 3) := by decide +kernel
theorem dX8_isAsKept_37 : decode cX8_isAsKept 37 = .ok (.goto (-33), 3) := by decide +kernel
theorem dX8_isAsKept_40 : decode cX8_isAsKept 40 = .ok (.iload_n 1, 1) := by decide +kernel
theorem dX8_isAsKept_41 : decode cX8_isAsKept 41 = .ok (.ireturn, 1) := by decide +kernel
end
section
theorem dX8_comesRound_0 : decode cX8_comesRound 0 = .ok (.aload_n 0, 1) := by decide +kernel
theorem dX8_comesRound_1 : decode cX8_comesRound 1 = .ok (.invokevirtual 60, 3) := by decide +kernel
theorem dX8_comesRound_4 : decode cX8_comesRound 4 = .ok (.aload_n 0, 1) := by decide +kernel
theorem dX8_comesRound_5 : decode cX8_comesRound 5 = .ok (.invokevirtual 73, 3) := by decide +kernel
theorem dX8_comesRound_8 : decode cX8_comesRound 8 = .ok (.iconst 1, 1) := by decide +kernel
theorem dX8_comesRound_9 : decode cX8_comesRound 9 = .ok (.istore_n 1, 1) := by decide +kernel
theorem dX8_comesRound_10 : decode cX8_comesRound 10 = .ok (.iload_n 1, 1) := by decide +kernel
theorem dX8_comesRound_11 : decode cX8_comesRound 11 = .ok (.sipush 1000, 3) := by decide +kernel
theorem dX8_comesRound_14 : decode cX8_comesRound 14 = .ok (.if_icmp .ge 20, 3) := by decide +kernel
theorem dX8_comesRound_17 : decode cX8_comesRound 17 = .ok (.aload_n 0, 1) := by decide +kernel
theorem dX8_comesRound_18 : decode cX8_comesRound 18 = .ok (.invokevirtual 93, 3) := by decide +kernel
theorem dX8_comesRound_21 : decode cX8_comesRound 21 = .ok (.ifCond .ne 13, 3) := by decide +kernel
theorem dX8_comesRound_24 : decode cX8_comesRound 24 = .ok (.aload_n 0, 1) := by decide +kernel
theorem dX8_comesRound_25 : decode cX8_comesRound 25 = .ok (.invokevirtual 73, 3) := by decide +kernel
theorem dX8_comesRound_28 : decode cX8_comesRound 28 = .ok (.iinc 1 1, 3) := by decide +kernel
theorem dX8_comesRound_31 : decode cX8_comesRound 31 = .ok (.goto (-21), 3) := by decide +kernel
theorem dX8_comesRound_34 : decode cX8_comesRound 34 = .ok (.aload_n 0, 1) := by decide +kernel
theorem dX8_comesRound_35 : decode cX8_comesRound 35 = .ok (.invokevirtual 93, 3) := by decide +kernel
theorem dX8_comesRound_38 : decode cX8_comesRound 38 = .ok (.istore_n 2, 1) := by decide +kernel
theorem dX8_comesRound_39 : decode cX8_comesRound 39 = .ok (.aload_n 0, 1) := by decide +kernel
theorem dX8_comesRound_40 : decode cX8_comesRound 40 = .ok (.invokevirtual 90, 3) := by decide +kernel
theorem dX8_comesRound_43 : decode cX8_comesRound 43 = .ok (.iload_n 2, 1) := by decide +kernel
theorem dX8_comesRound_44 : decode cX8_comesRound 44 = .ok (.ifCond .eq 7, 3) := by decide +kernel
theorem dX8_comesRound_47 : decode cX8_comesRound 47 = .ok (.iload_n 1, 1) := by decide +kernel
theorem dX8_comesRound_48 : decode cX8_comesRound 48 = .ok (.goto 5, 3) := by decide +kernel
theorem dX8_comesRound_51 : decode cX8_comesRound 51 = .ok (.bipush (-6), 2) := by decide +kernel
theorem dX8_comesRound_53 : decode cX8_comesRound 53 = .ok (.ireturn, 1) := by decide +kernel
theorem dX8_stateBehind_0 : decode cX8_stateBehind 0 = .ok (.iload_n 1, 1) := by decide +kernel
theorem dX8_stateBehind_1 : decode cX8_stateBehind 1 = .ok (.invokestatic 76, 3) := by decide +kernel
theorem dX8_stateBehind_4 : decode cX8_stateBehind 4 = .ok (.ifCond .ne 5, 3) := by decide +kernel
theorem dX8_stateBehind_7 : decode cX8_stateBehind 7 = .ok (.iconst (-1), 1) := by decide +kernel
theorem dX8_stateBehind_8 : decode cX8_stateBehind 8 = .ok (.ireturn, 1) := by decide +kernel
theorem dX8_stateBehind_9 : decode cX8_stateBehind 9 = .ok (.iload_n 2, 1) := by decide +kernel
theorem dX8_stateBehind_10 : decode cX8_stateBehind 10 = .ok (.i2l, 1) := by decide +kernel
theorem dX8_stateBehind_11 : decode cX8_stateBehind 11 = .ok (.lconst 1, 1) := by decide +kernel
theorem dX8_stateBehind_12 : decode cX8_stateBehind 12 = .ok (.ldc2_w 70, 3) := by decide +kernel
theorem dX8_stateBehind_15 : decode cX8_stateBehind 15 = .ok (.invokestatic 44, 3) := by decide +kernel
theorem dX8_stateBehind_18 : decode cX8_stateBehind 18 = .ok (.ifCond .ne 6, 3) := by decide +kernel
theorem dX8_stateBehind_21 : decode cX8_stateBehind 21 = .ok (.bipush (-2), 2) := by decide +kernel
theorem dX8_stateBehind_23 : decode cX8_stateBehind 23 = .ok (.ireturn, 1) := by decide +kernel
theorem dX8_stateBehind_24 : decode cX8_stateBehind 24 = .ok (.aload_n 0, 1) := by decide +kernel
theorem dX8_stateBehind_25 : decode cX8_stateBehind 25 = .ok (.invokevirtual 60, 3) := by decide +kernel
theorem dX8_stateBehind_28 : decode cX8_stateBehind 28 = .ok (.iconst 0, 1) := by decide +kernel
theorem dX8_stateBehind_29 : decode cX8_stateBehind 29 = .ok (.istore_n 3, 1) := by decide +kernel
theorem dX8_stateBehind_30 : decode cX8_stateBehind 30 = .ok (.iload_n 3, 1) := by decide +kernel
theorem dX8_stateBehind_31 : decode cX8_stateBehind 31 = .ok (.iload_n 2, 1) := by decide +kernel
theorem dX8_stateBehind_32 : decode cX8_stateBehind 32 = .ok (.if_icmp .ge 13, 3) := by decide +kernel
theorem dX8_stateBehind_35 : decode cX8_stateBehind 35 = .ok (.aload_n 0, 1) := by decide +kernel
theorem dX8_stateBehind_36 : decode cX8_stateBehind 36 = .ok (.invokevirtual 73, 3) := by decide +kernel
theorem dX8_stateBehind_39 : decode cX8_stateBehind 39 = .ok (.iinc 3 1, 3) := by decide +kernel
theorem dX8_stateBehind_42 : decode cX8_stateBehind 42 = .ok (.goto (-12), 3) := by decide +kernel
theorem dX8_stateBehind_45 : decode cX8_stateBehind 45 = .ok (.aload_n 0, 1) := by decide +kernel
theorem dX8_stateBehind_46 : decode cX8_stateBehind 46 = .ok (.getfield 7, 3) := by decide +kernel
theorem dX8_stateBehind_49 : decode cX8_stateBehind 49 = .ok (.iconst 0, 1) := by decide +kernel
theorem dX8_stateBehind_50 : decode cX8_stateBehind 50 = .ok (.iload_n 1, 1) := by decide +kernel
theorem dX8_stateBehind_51 : decode cX8_stateBehind 51 = .ok (.iadd, 1) := by decide +kernel
theorem dX8_stateBehind_52 : decode cX8_stateBehind 52 = .ok (.iaload, 1) := by decide +kernel
theorem dX8_stateBehind_53 : decode cX8_stateBehind 53 = .ok (.istore_n 3, 1) := by decide +kernel
theorem dX8_stateBehind_54 : decode cX8_stateBehind 54 = .ok (.aload_n 0, 1) := by decide +kernel
theorem dX8_stateBehind_55 : decode cX8_stateBehind 55 = .ok (.invokevirtual 90, 3) := by decide +kernel
theorem dX8_stateBehind_58 : decode cX8_stateBehind 58 = .ok (.iload_n 3, 1) := by decide +kernel
theorem dX8_stateBehind_59 : decode cX8_stateBehind 59 = .ok (.ireturn, 1) := by decide +kernel
theorem dX8_put_0 : decode cX8_put 0 = .ok (.iconst 0, 1) := by decide +kernel
theorem dX8_put_1 : decode cX8_put 1 = .ok (.istore_n 3, 1) := by decide +kernel
theorem dX8_put_2 : decode cX8_put 2 = .ok (.iconst 1, 1) := by decide +kernel
theorem dX8_put_3 : decode cX8_put 3 = .ok (.istore 4, 2) := by decide +kernel
theorem dX8_put_5 : decode cX8_put 5 = .ok (.lload_n 1, 1) := by decide +kernel
theorem dX8_put_6 : decode cX8_put 6 = .ok (.lstore 5, 2) := by decide +kernel
theorem dX8_put_8 : decode cX8_put 8 = .ok (.iload_n 3, 1) := by decide +kernel
theorem dX8_put_9 : decode cX8_put 9 = .ok (.bipush 8, 2) := by decide +kernel
theorem dX8_put_11 : decode cX8_put 11 = .ok (.if_icmp .ge 57, 3) := by decide +kernel
theorem dX8_put_14 : decode cX8_put 14 = .ok (.lload 5, 2) := by decide +kernel
theorem dX8_put_16 : decode cX8_put 16 = .ok (.ldc2_w 97, 3) := by decide +kernel
theorem dX8_put_19 : decode cX8_put 19 = .ok (.land, 1) := by decide +kernel
theorem dX8_put_20 : decode cX8_put 20 = .ok (.lconst 0, 1) := by decide +kernel
theorem dX8_put_21 : decode cX8_put 21 = .ok (.lcmp, 1) := by decide +kernel
theorem dX8_put_22 : decode cX8_put 22 = .ok (.ifCond .eq 46, 3) := by decide +kernel
theorem dX8_put_25 : decode cX8_put 25 = .ok (.iload 4, 2) := by decide +kernel
theorem dX8_put_27 : decode cX8_put 27 = .ok (.ifCond .eq 25, 3) := by decide +kernel
theorem dX8_put_30 : decode cX8_put 30 = .ok (.lload 5, 2) := by decide +kernel
theorem dX8_put_32 : decode cX8_put 32 = .ok (.ldc2_w 97, 3) := by decide +kernel
theorem dX8_put_35 : decode cX8_put 35 = .ok (.land, 1) := by decide +kernel
theorem dX8_put_36 : decode cX8_put 36 = .ok (.ldc2_w 99, 3) := by decide +kernel
theorem dX8_put_39 : decode cX8_put 39 = .ok (.ldc2_w 101, 3) := by decide +kernel
theorem dX8_put_42 : decode cX8_put 42 = .ok (.invokestatic 44, 3) := by decide +kernel
theorem dX8_put_45 : decode cX8_put 45 = .ok (.ifCond .eq 7, 3) := by decide +kernel
theorem dX8_put_48 : decode cX8_put 48 = .ok (.iconst 1, 1) := by decide +kernel
theorem dX8_put_49 : decode cX8_put 49 = .ok (.goto 4, 3) := by decide +kernel
theorem dX8_put_52 : decode cX8_put 52 = .ok (.iconst 0, 1) := by decide +kernel
theorem dX8_put_53 : decode cX8_put 53 = .ok (.istore 4, 2) := by decide +kernel
theorem dX8_put_55 : decode cX8_put 55 = .ok (.lload 5, 2) := by decide +kernel
theorem dX8_put_57 : decode cX8_put 57 = .ok (.bipush 8, 2) := by decide +kernel
theorem dX8_put_59 : decode cX8_put 59 = .ok (.lushr, 1) := by decide +kernel
theorem dX8_put_60 : decode cX8_put 60 = .ok (.lstore 5, 2) := by decide +kernel
theorem dX8_put_62 : decode cX8_put 62 = .ok (.iinc 3 1, 3) := by decide +kernel
theorem dX8_put_65 : decode cX8_put 65 = .ok (.goto (-57), 3) := by decide +kernel
theorem dX8_put_68 : decode cX8_put 68 = .ok (.iload_n 3, 1) := by decide +kernel
theorem dX8_put_69 : decode cX8_put 69 = .ok (.ifCond .eq 15, 3) := by decide +kernel
theorem dX8_put_72 : decode cX8_put 72 = .ok (.lload 5, 2) := by decide +kernel
theorem dX8_put_74 : decode cX8_put 74 = .ok (.lconst 0, 1) := by decide +kernel
theorem dX8_put_75 : decode cX8_put 75 = .ok (.lcmp, 1) := by decide +kernel
theorem dX8_put_76 : decode cX8_put 76 = .ok (.ifCond .ne 8, 3) := by decide +kernel
theorem dX8_put_79 : decode cX8_put 79 = .ok (.iload 4, 2) := by decide +kernel
theorem dX8_put_81 : decode cX8_put 81 = .ok (.ifCond .ne 6, 3) := by decide +kernel
theorem dX8_put_84 : decode cX8_put 84 = .ok (.bipush (-2), 2) := by decide +kernel
theorem dX8_put_86 : decode cX8_put 86 = .ok (.ireturn, 1) := by decide +kernel
theorem dX8_put_87 : decode cX8_put 87 = .ok (.aload_n 0, 1) := by decide +kernel
theorem dX8_put_88 : decode cX8_put 88 = .ok (.getfield 87, 3) := by decide +kernel
theorem dX8_put_91 : decode cX8_put 91 = .ok (.iload_n 3, 1) := by decide +kernel
theorem dX8_put_92 : decode cX8_put 92 = .ok (.iadd, 1) := by decide +kernel
theorem dX8_put_93 : decode cX8_put 93 = .ok (.bipush 30, 2) := by decide +kernel
theorem dX8_put_95 : decode cX8_put 95 = .ok (.if_icmp .le 6, 3) := by decide +kernel
theorem dX8_put_98 : decode cX8_put 98 = .ok (.bipush (-4), 2) := by decide +kernel
theorem dX8_put_100 : decode cX8_put 100 = .ok (.ireturn, 1) := by decide +kernel
theorem dX8_put_101 : decode cX8_put 101 = .ok (.iload_n 3, 1) := by decide +kernel
theorem dX8_put_102 : decode cX8_put 102 = .ok (.iconst 1, 1) := by decide +kernel
theorem dX8_put_103 : decode cX8_put 103 = .ok (.isub, 1) := by decide +kernel
theorem dX8_put_104 : decode cX8_put 104 = .ok (.istore 7, 2) := by decide +kernel
theorem dX8_put_106 : decode cX8_put 106 = .ok (.iload 7, 2) := by decide +kernel
theorem dX8_put_108 : decode cX8_put 108 = .ok (.ifCond .lt 40, 3) := by decide +kernel
theorem dX8_put_111 : decode cX8_put 111 = .ok (.aload_n 0, 1) := by decide +kernel
theorem dX8_put_112 : decode cX8_put 112 = .ok (.getfield 25, 3) := by decide +kernel
theorem dX8_put_115 : decode cX8_put 115 = .ok (.aload_n 0, 1) := by decide +kernel
theorem dX8_put_116 : decode cX8_put 116 = .ok (.getfield 87, 3) := by decide +kernel
theorem dX8_put_119 : decode cX8_put 119 = .ok (.lload_n 1, 1) := by decide +kernel
theorem dX8_put_120 : decode cX8_put 120 = .ok (.bipush 8, 2) := by decide +kernel
theorem dX8_put_122 : decode cX8_put 122 = .ok (.iload 7, 2) := by decide +kernel
theorem dX8_put_124 : decode cX8_put 124 = .ok (.imul, 1) := by decide +kernel
theorem dX8_put_125 : decode cX8_put 125 = .ok (.lushr, 1) := by decide +kernel
theorem dX8_put_126 : decode cX8_put 126 = .ok (.ldc2_w 97, 3) := by decide +kernel
theorem dX8_put_129 : decode cX8_put 129 = .ok (.land, 1) := by decide +kernel
theorem dX8_put_130 : decode cX8_put 130 = .ok (.l2i, 1) := by decide +kernel
theorem dX8_put_131 : decode cX8_put 131 = .ok (.iastore, 1) := by decide +kernel
theorem dX8_put_132 : decode cX8_put 132 = .ok (.aload_n 0, 1) := by decide +kernel
theorem dX8_put_133 : decode cX8_put 133 = .ok (.dup, 1) := by decide +kernel
theorem dX8_put_134 : decode cX8_put 134 = .ok (.getfield 87, 3) := by decide +kernel
theorem dX8_put_137 : decode cX8_put 137 = .ok (.iconst 1, 1) := by decide +kernel
theorem dX8_put_138 : decode cX8_put 138 = .ok (.iadd, 1) := by decide +kernel
theorem dX8_put_139 : decode cX8_put 139 = .ok (.putfield 87, 3) := by decide +kernel
theorem dX8_put_142 : decode cX8_put 142 = .ok (.iinc 7 (-1), 3) := by decide +kernel
theorem dX8_put_145 : decode cX8_put 145 = .ok (.goto (-39), 3) := by decide +kernel
theorem dX8_put_148 : decode cX8_put 148 = .ok (.aload_n 0, 1) := by decide +kernel
theorem dX8_put_149 : decode cX8_put 149 = .ok (.getfield 87, 3) := by decide +kernel
theorem dX8_put_152 : decode cX8_put 152 = .ok (.ireturn, 1) := by decide +kernel
theorem dX8_wipe_0 : decode cX8_wipe 0 = .ok (.aload_n 0, 1) := by decide +kernel
theorem dX8_wipe_1 : decode cX8_wipe 1 = .ok (.getfield 87, 3) := by decide +kernel
theorem dX8_wipe_4 : decode cX8_wipe 4 = .ok (.istore_n 1, 1) := by decide +kernel
theorem dX8_wipe_5 : decode cX8_wipe 5 = .ok (.aload_n 0, 1) := by decide +kernel
theorem dX8_wipe_6 : decode cX8_wipe 6 = .ok (.iconst 0, 1) := by decide +kernel
theorem dX8_wipe_7 : decode cX8_wipe 7 = .ok (.putfield 87, 3) := by decide +kernel
theorem dX8_wipe_10 : decode cX8_wipe 10 = .ok (.iload_n 1, 1) := by decide +kernel
theorem dX8_wipe_11 : decode cX8_wipe 11 = .ok (.ireturn, 1) := by decide +kernel
theorem dX8_isAt_0 : decode cX8_isAt 0 = .ok (.iload_n 1, 1) := by decide +kernel
theorem dX8_isAt_1 : decode cX8_isAt 1 = .ok (.aload_n 0, 1) := by decide +kernel
theorem dX8_isAt_2 : decode cX8_isAt 2 = .ok (.getfield 87, 3) := by decide +kernel
theorem dX8_isAt_5 : decode cX8_isAt 5 = .ok (.if_icmp .ge 24, 3) := by decide +kernel
theorem dX8_isAt_8 : decode cX8_isAt 8 = .ok (.aload_n 0, 1) := by decide +kernel
theorem dX8_isAt_9 : decode cX8_isAt 9 = .ok (.getfield 25, 3) := by decide +kernel
theorem dX8_isAt_12 : decode cX8_isAt 12 = .ok (.iload_n 1, 1) := by decide +kernel
theorem dX8_isAt_13 : decode cX8_isAt 13 = .ok (.iaload, 1) := by decide +kernel
theorem dX8_isAt_14 : decode cX8_isAt 14 = .ok (.i2l, 1) := by decide +kernel
theorem dX8_isAt_15 : decode cX8_isAt 15 = .ok (.iload_n 2, 1) := by decide +kernel
theorem dX8_isAt_16 : decode cX8_isAt 16 = .ok (.i2l, 1) := by decide +kernel
theorem dX8_isAt_17 : decode cX8_isAt 17 = .ok (.iload_n 3, 1) := by decide +kernel
theorem dX8_isAt_18 : decode cX8_isAt 18 = .ok (.i2l, 1) := by decide +kernel
theorem dX8_isAt_19 : decode cX8_isAt 19 = .ok (.invokestatic 44, 3) := by decide +kernel
theorem dX8_isAt_22 : decode cX8_isAt 22 = .ok (.ifCond .eq 7, 3) := by decide +kernel
theorem dX8_isAt_25 : decode cX8_isAt 25 = .ok (.iconst 1, 1) := by decide +kernel
theorem dX8_isAt_26 : decode cX8_isAt 26 = .ok (.goto 4, 3) := by decide +kernel
theorem dX8_isAt_29 : decode cX8_isAt 29 = .ok (.iconst 0, 1) := by decide +kernel
theorem dX8_isAt_30 : decode cX8_isAt 30 = .ok (.ireturn, 1) := by decide +kernel
theorem dX8_fault_0 : decode cX8_fault 0 = .ok (.aload_n 0, 1) := by decide +kernel
theorem dX8_fault_1 : decode cX8_fault 1 = .ok (.iconst 0, 1) := by decide +kernel
theorem dX8_fault_2 : decode cX8_fault 2 = .ok (.bipush 48, 2) := by decide +kernel
theorem dX8_fault_4 : decode cX8_fault 4 = .ok (.bipush 49, 2) := by decide +kernel
theorem dX8_fault_6 : decode cX8_fault 6 = .ok (.invokevirtual 103, 3) := by decide +kernel
theorem dX8_fault_9 : decode cX8_fault 9 = .ok (.ifCond .ne 5, 3) := by decide +kernel
theorem dX8_fault_12 : decode cX8_fault 12 = .ok (.iconst 0, 1) := by decide +kernel
theorem dX8_fault_13 : decode cX8_fault 13 = .ok (.ireturn, 1) := by decide +kernel
theorem dX8_fault_14 : decode cX8_fault 14 = .ok (.aload_n 0, 1) := by decide +kernel
theorem dX8_fault_15 : decode cX8_fault 15 = .ok (.iconst 1, 1) := by decide +kernel
theorem dX8_fault_16 : decode cX8_fault 16 = .ok (.bipush 58, 2) := by decide +kernel
theorem dX8_fault_18 : decode cX8_fault 18 = .ok (.bipush 58, 2) := by decide +kernel
theorem dX8_fault_20 : decode cX8_fault 20 = .ok (.invokevirtual 103, 3) := by decide +kernel
theorem dX8_fault_23 : decode cX8_fault 23 = .ok (.ifCond .ne 5, 3) := by decide +kernel
theorem dX8_fault_26 : decode cX8_fault 26 = .ok (.iconst 1, 1) := by decide +kernel
theorem dX8_fault_27 : decode cX8_fault 27 = .ok (.ireturn, 1) := by decide +kernel
theorem dX8_fault_28 : decode cX8_fault 28 = .ok (.iconst 2, 1) := by decide +kernel
theorem dX8_fault_29 : decode cX8_fault 29 = .ok (.istore_n 1, 1) := by decide +kernel
theorem dX8_fault_30 : decode cX8_fault 30 = .ok (.aload_n 0, 1) := by decide +kernel
theorem dX8_fault_31 : decode cX8_fault 31 = .ok (.iconst 0, 1) := by decide +kernel
theorem dX8_fault_32 : decode cX8_fault 32 = .ok (.putfield 107, 3) := by decide +kernel
theorem dX8_fault_35 : decode cX8_fault 35 = .ok (.aload_n 0, 1) := by decide +kernel
theorem dX8_fault_36 : decode cX8_fault 36 = .ok (.getfield 107, 3) := by decide +kernel
theorem dX8_fault_39 : decode cX8_fault 39 = .ok (.bipush 8, 2) := by decide +kernel
theorem dX8_fault_41 : decode cX8_fault 41 = .ok (.if_icmp .ge 109, 3) := by decide +kernel
theorem dX8_fault_44 : decode cX8_fault 44 = .ok (.aload_n 0, 1) := by decide +kernel
theorem dX8_fault_45 : decode cX8_fault 45 = .ok (.iload_n 1, 1) := by decide +kernel
theorem dX8_fault_46 : decode cX8_fault 46 = .ok (.bipush 48, 2) := by decide +kernel
theorem dX8_fault_48 : decode cX8_fault 48 = .ok (.bipush 55, 2) := by decide +kernel
theorem dX8_fault_50 : decode cX8_fault 50 = .ok (.invokevirtual 103, 3) := by decide +kernel
theorem dX8_fault_53 : decode cX8_fault 53 = .ok (.ifCond .eq 97, 3) := by decide +kernel
theorem dX8_fault_56 : decode cX8_fault 56 = .ok (.aload_n 0, 1) := by decide +kernel
theorem dX8_fault_57 : decode cX8_fault 57 = .ok (.getfield 28, 3) := by decide +kernel
theorem dX8_fault_60 : decode cX8_fault 60 = .ok (.aload_n 0, 1) := by decide +kernel
theorem dX8_fault_61 : decode cX8_fault 61 = .ok (.getfield 107, 3) := by decide +kernel
theorem dX8_fault_64 : decode cX8_fault 64 = .ok (.aload_n 0, 1) := by decide +kernel
theorem dX8_fault_65 : decode cX8_fault 65 = .ok (.getfield 25, 3) := by decide +kernel
theorem dX8_fault_68 : decode cX8_fault 68 = .ok (.iload_n 1, 1) := by decide +kernel
theorem dX8_fault_69 : decode cX8_fault 69 = .ok (.iaload, 1) := by decide +kernel
theorem dX8_fault_70 : decode cX8_fault 70 = .ok (.bipush 48, 2) := by decide +kernel
theorem dX8_fault_72 : decode cX8_fault 72 = .ok (.isub, 1) := by decide +kernel
theorem dX8_fault_73 : decode cX8_fault 73 = .ok (.iastore, 1) := by decide +kernel
theorem dX8_fault_74 : decode cX8_fault 74 = .ok (.iinc 1 1, 3) := by decide +kernel
theorem dX8_fault_77 : decode cX8_fault 77 = .ok (.aload_n 0, 1) := by decide +kernel
theorem dX8_fault_78 : decode cX8_fault 78 = .ok (.getfield 28, 3) := by decide +kernel
theorem dX8_fault_81 : decode cX8_fault 81 = .ok (.aload_n 0, 1) := by decide +kernel
theorem dX8_fault_82 : decode cX8_fault 82 = .ok (.getfield 107, 3) := by decide +kernel
theorem dX8_fault_85 : decode cX8_fault 85 = .ok (.iaload, 1) := by decide +kernel
theorem dX8_fault_86 : decode cX8_fault 86 = .ok (.ifCond .le 19, 3) := by decide +kernel
theorem dX8_fault_89 : decode cX8_fault 89 = .ok (.aload_n 0, 1) := by decide +kernel
theorem dX8_fault_90 : decode cX8_fault 90 = .ok (.iload_n 1, 1) := by decide +kernel
theorem dX8_fault_91 : decode cX8_fault 91 = .ok (.bipush 112, 2) := by decide +kernel
theorem dX8_fault_93 : decode cX8_fault 93 = .ok (.bipush 112, 2) := by decide +kernel
theorem dX8_fault_95 : decode cX8_fault 95 = .ok (.invokevirtual 103, 3) := by decide +kernel
theorem dX8_fault_98 : decode cX8_fault 98 = .ok (.ifCond .eq 7, 3) := by decide +kernel
theorem dX8_fault_101 : decode cX8_fault 101 = .ok (.iconst 1, 1) := by decide +kernel
theorem dX8_fault_102 : decode cX8_fault 102 = .ok (.goto 4, 3) := by decide +kernel
theorem dX8_fault_105 : decode cX8_fault 105 = .ok (.iconst 0, 1) := by decide +kernel
theorem dX8_fault_106 : decode cX8_fault 106 = .ok (.istore_n 2, 1) := by decide +kernel
theorem dX8_fault_107 : decode cX8_fault 107 = .ok (.aload_n 0, 1) := by decide +kernel
theorem dX8_fault_108 : decode cX8_fault 108 = .ok (.getfield 31, 3) := by decide +kernel
theorem dX8_fault_111 : decode cX8_fault 111 = .ok (.aload_n 0, 1) := by decide +kernel
theorem dX8_fault_112 : decode cX8_fault 112 = .ok (.getfield 107, 3) := by decide +kernel
theorem dX8_fault_115 : decode cX8_fault 115 = .ok (.iload_n 2, 1) := by decide +kernel
theorem dX8_fault_116 : decode cX8_fault 116 = .ok (.ifCond .eq 7, 3) := by decide +kernel
theorem dX8_fault_119 : decode cX8_fault 119 = .ok (.iconst 1, 1) := by decide +kernel
theorem dX8_fault_120 : decode cX8_fault 120 = .ok (.goto 4, 3) := by decide +kernel
theorem dX8_fault_123 : decode cX8_fault 123 = .ok (.iconst 0, 1) := by decide +kernel
theorem dX8_fault_124 : decode cX8_fault 124 = .ok (.iastore, 1) := by decide +kernel
theorem dX8_fault_125 : decode cX8_fault 125 = .ok (.iload_n 1, 1) := by decide +kernel
theorem dX8_fault_126 : decode cX8_fault 126 = .ok (.iload_n 2, 1) := by decide +kernel
theorem dX8_fault_127 : decode cX8_fault 127 = .ok (.ifCond .eq 7, 3) := by decide +kernel
theorem dX8_fault_130 : decode cX8_fault 130 = .ok (.iconst 1, 1) := by decide +kernel
theorem dX8_fault_131 : decode cX8_fault 131 = .ok (.goto 4, 3) := by decide +kernel
theorem dX8_fault_134 : decode cX8_fault 134 = .ok (.iconst 0, 1) := by decide +kernel
theorem dX8_fault_135 : decode cX8_fault 135 = .ok (.iadd, 1) := by decide +kernel
theorem dX8_fault_136 : decode cX8_fault 136 = .ok (.istore_n 1, 1) := by decide +kernel
theorem dX8_fault_137 : decode cX8_fault 137 = .ok (.aload_n 0, 1) := by decide +kernel
theorem dX8_fault_138 : decode cX8_fault 138 = .ok (.dup, 1) := by decide +kernel
theorem dX8_fault_139 : decode cX8_fault 139 = .ok (.getfield 107, 3) := by decide +kernel
theorem dX8_fault_142 : decode cX8_fault 142 = .ok (.iconst 1, 1) := by decide +kernel
theorem dX8_fault_143 : decode cX8_fault 143 = .ok (.iadd, 1) := by decide +kernel
theorem dX8_fault_144 : decode cX8_fault 144 = .ok (.putfield 107, 3) := by decide +kernel
theorem dX8_fault_147 : decode cX8_fault 147 = .ok (.goto (-112), 3) := by decide +kernel
theorem dX8_fault_150 : decode cX8_fault 150 = .ok (.aload_n 0, 1) := by decide +kernel
theorem dX8_fault_151 : decode cX8_fault 151 = .ok (.getfield 107, 3) := by decide +kernel
theorem dX8_fault_154 : decode cX8_fault 154 = .ok (.ifCond .le 16, 3) := by decide +kernel
theorem dX8_fault_157 : decode cX8_fault 157 = .ok (.iload_n 1, 1) := by decide +kernel
theorem dX8_fault_158 : decode cX8_fault 158 = .ok (.aload_n 0, 1) := by decide +kernel
theorem dX8_fault_159 : decode cX8_fault 159 = .ok (.getfield 87, 3) := by decide +kernel
theorem dX8_fault_162 : decode cX8_fault 162 = .ok (.if_icmp .ne 8, 3) := by decide +kernel
theorem dX8_fault_165 : decode cX8_fault 165 = .ok (.bipush (-6), 2) := by decide +kernel
theorem dX8_fault_167 : decode cX8_fault 167 = .ok (.goto 4, 3) := by decide +kernel
theorem dX8_fault_170 : decode cX8_fault 170 = .ok (.iload_n 1, 1) := by decide +kernel
theorem dX8_fault_171 : decode cX8_fault 171 = .ok (.ireturn, 1) := by decide +kernel
theorem dX8_read_0 : decode cX8_read 0 = .ok (.aload_n 0, 1) := by decide +kernel
theorem dX8_read_1 : decode cX8_read 1 = .ok (.invokevirtual 110, 3) := by decide +kernel
theorem dX8_read_4 : decode cX8_read 4 = .ok (.bipush (-6), 2) := by decide +kernel
theorem dX8_read_6 : decode cX8_read 6 = .ok (.if_icmp .eq 6, 3) := by decide +kernel
theorem dX8_read_9 : decode cX8_read 9 = .ok (.bipush (-3), 2) := by decide +kernel
theorem dX8_read_11 : decode cX8_read 11 = .ok (.ireturn, 1) := by decide +kernel
theorem dX8_read_12 : decode cX8_read 12 = .ok (.aload_n 0, 1) := by decide +kernel
theorem dX8_read_13 : decode cX8_read 13 = .ok (.invokevirtual 60, 3) := by decide +kernel
theorem dX8_read_16 : decode cX8_read 16 = .ok (.aload_n 0, 1) := by decide +kernel
theorem dX8_read_17 : decode cX8_read 17 = .ok (.getfield 25, 3) := by decide +kernel
theorem dX8_read_20 : decode cX8_read 20 = .ok (.iconst 0, 1) := by decide +kernel
theorem dX8_read_21 : decode cX8_read 21 = .ok (.iaload, 1) := by decide +kernel
theorem dX8_read_22 : decode cX8_read 22 = .ok (.bipush 48, 2) := by decide +kernel
theorem dX8_read_24 : decode cX8_read 24 = .ok (.isub, 1) := by decide +kernel
theorem dX8_read_25 : decode cX8_read 25 = .ok (.istore_n 1, 1) := by decide +kernel
theorem dX8_read_26 : decode cX8_read 26 = .ok (.iconst 0, 1) := by decide +kernel
theorem dX8_read_27 : decode cX8_read 27 = .ok (.istore_n 2, 1) := by decide +kernel
theorem dX8_read_28 : decode cX8_read 28 = .ok (.iload_n 2, 1) := by decide +kernel
theorem dX8_read_29 : decode cX8_read 29 = .ok (.aload_n 0, 1) := by decide +kernel
theorem dX8_read_30 : decode cX8_read 30 = .ok (.getfield 107, 3) := by decide +kernel
theorem dX8_read_33 : decode cX8_read 33 = .ok (.if_icmp .ge 49, 3) := by decide +kernel
theorem dX8_read_36 : decode cX8_read 36 = .ok (.aload_n 0, 1) := by decide +kernel
theorem dX8_read_37 : decode cX8_read 37 = .ok (.getfield 7, 3) := by decide +kernel
theorem dX8_read_40 : decode cX8_read 40 = .ok (.bipush 6, 2) := by decide +kernel
theorem dX8_read_42 : decode cX8_read 42 = .ok (.bipush 8, 2) := by decide +kernel
theorem dX8_read_44 : decode cX8_read 44 = .ok (.iload_n 1, 1) := by decide +kernel
theorem dX8_read_45 : decode cX8_read 45 = .ok (.imul, 1) := by decide +kernel
theorem dX8_read_46 : decode cX8_read 46 = .ok (.iadd, 1) := by decide +kernel
theorem dX8_read_47 : decode cX8_read 47 = .ok (.iload_n 2, 1) := by decide +kernel
theorem dX8_read_48 : decode cX8_read 48 = .ok (.iadd, 1) := by decide +kernel
theorem dX8_read_49 : decode cX8_read 49 = .ok (.aload_n 0, 1) := by decide +kernel
theorem dX8_read_50 : decode cX8_read 50 = .ok (.getfield 28, 3) := by decide +kernel
theorem dX8_read_53 : decode cX8_read 53 = .ok (.iload_n 2, 1) := by decide +kernel
theorem dX8_read_54 : decode cX8_read 54 = .ok (.iaload, 1) := by decide +kernel
theorem dX8_read_55 : decode cX8_read 55 = .ok (.iastore, 1) := by decide +kernel
theorem dX8_read_56 : decode cX8_read 56 = .ok (.aload_n 0, 1) := by decide +kernel
theorem dX8_read_57 : decode cX8_read 57 = .ok (.getfield 7, 3) := by decide +kernel
theorem dX8_read_60 : decode cX8_read 60 = .ok (.bipush 22, 2) := by decide +kernel
theorem dX8_read_62 : decode cX8_read 62 = .ok (.bipush 8, 2) := by decide +kernel
theorem dX8_read_64 : decode cX8_read 64 = .ok (.iload_n 1, 1) := by decide +kernel
theorem dX8_read_65 : decode cX8_read 65 = .ok (.imul, 1) := by decide +kernel
theorem dX8_read_66 : decode cX8_read 66 = .ok (.iadd, 1) := by decide +kernel
theorem dX8_read_67 : decode cX8_read 67 = .ok (.iload_n 2, 1) := by decide +kernel
theorem dX8_read_68 : decode cX8_read 68 = .ok (.iadd, 1) := by decide +kernel
theorem dX8_read_69 : decode cX8_read 69 = .ok (.aload_n 0, 1) := by decide +kernel
theorem dX8_read_70 : decode cX8_read 70 = .ok (.getfield 31, 3) := by decide +kernel
theorem dX8_read_73 : decode cX8_read 73 = .ok (.iload_n 2, 1) := by decide +kernel
theorem dX8_read_74 : decode cX8_read 74 = .ok (.iaload, 1) := by decide +kernel
theorem dX8_read_75 : decode cX8_read 75 = .ok (.iastore, 1) := by decide +kernel
theorem dX8_read_76 : decode cX8_read 76 = .ok (.iinc 2 1, 3) := by decide +kernel
theorem dX8_read_79 : decode cX8_read 79 = .ok (.goto (-51), 3) := by decide +kernel
theorem dX8_read_82 : decode cX8_read 82 = .ok (.aload_n 0, 1) := by decide +kernel
theorem dX8_read_83 : decode cX8_read 83 = .ok (.getfield 7, 3) := by decide +kernel
theorem dX8_read_86 : decode cX8_read 86 = .ok (.iconst 4, 1) := by decide +kernel
theorem dX8_read_87 : decode cX8_read 87 = .ok (.iload_n 1, 1) := by decide +kernel
theorem dX8_read_88 : decode cX8_read 88 = .ok (.iadd, 1) := by decide +kernel
theorem dX8_read_89 : decode cX8_read 89 = .ok (.aload_n 0, 1) := by decide +kernel
theorem dX8_read_90 : decode cX8_read 90 = .ok (.getfield 107, 3) := by decide +kernel
theorem dX8_read_93 : decode cX8_read 93 = .ok (.iastore, 1) := by decide +kernel
theorem dX8_read_94 : decode cX8_read 94 = .ok (.aload_n 0, 1) := by decide +kernel
theorem dX8_read_95 : decode cX8_read 95 = .ok (.getfield 7, 3) := by decide +kernel
theorem dX8_read_98 : decode cX8_read 98 = .ok (.iconst 2, 1) := by decide +kernel
theorem dX8_read_99 : decode cX8_read 99 = .ok (.iload_n 1, 1) := by decide +kernel
theorem dX8_read_100 : decode cX8_read 100 = .ok (.iadd, 1) := by decide +kernel
theorem dX8_read_101 : decode cX8_read 101 = .ok (.iconst 0, 1) := by decide +kernel
theorem dX8_read_102 : decode cX8_read 102 = .ok (.iastore, 1) := by decide +kernel
theorem dX8_read_103 : decode cX8_read 103 = .ok (.aload_n 0, 1) := by decide +kernel
theorem dX8_read_104 : decode cX8_read 104 = .ok (.iconst 0, 1) := by decide +kernel
theorem dX8_read_105 : decode cX8_read 105 = .ok (.putfield 87, 3) := by decide +kernel
theorem dX8_read_108 : decode cX8_read 108 = .ok (.aload_n 0, 1) := by decide +kernel
theorem dX8_read_109 : decode cX8_read 109 = .ok (.iload_n 1, 1) := by decide +kernel
theorem dX8_read_110 : decode cX8_read 110 = .ok (.invokevirtual 67, 3) := by decide +kernel
theorem dX8_read_113 : decode cX8_read 113 = .ok (.ireturn, 1) := by decide +kernel
theorem dX8_readsPattern_0 : decode cX8_readsPattern 0 = .ok (.aload_n 0, 1) := by decide +kernel
theorem dX8_readsPattern_1 : decode cX8_readsPattern 1 = .ok (.aload_n 0, 1) := by decide +kernel
theorem dX8_readsPattern_2 : decode cX8_readsPattern 2 = .ok (.getfield 87, 3) := by decide +kernel
theorem dX8_readsPattern_5 : decode cX8_readsPattern 5 = .ok (.putfield 113, 3) := by decide +kernel
theorem dX8_readsPattern_8 : decode cX8_readsPattern 8 = .ok (.aload_n 0, 1) := by decide +kernel
theorem dX8_readsPattern_9 : decode cX8_readsPattern 9 = .ok (.getfield 87, 3) := by decide +kernel
theorem dX8_readsPattern_12 : decode cX8_readsPattern 12 = .ok (.i2l, 1) := by decide +kernel
theorem dX8_readsPattern_13 : decode cX8_readsPattern 13 = .ok (.lconst 1, 1) := by decide +kernel
theorem dX8_readsPattern_14 : decode cX8_readsPattern 14 = .ok (.ldc2_w 58, 3) := by decide +kernel
theorem dX8_readsPattern_17 : decode cX8_readsPattern 17 = .ok (.invokestatic 44, 3) := by decide +kernel
theorem dX8_readsPattern_20 : decode cX8_readsPattern 20 = .ok (.istore_n 1, 1) := by decide +kernel
theorem dX8_readsPattern_21 : decode cX8_readsPattern 21 = .ok (.iconst 0, 1) := by decide +kernel
theorem dX8_readsPattern_22 : decode cX8_readsPattern 22 = .ok (.istore_n 2, 1) := by decide +kernel
theorem dX8_readsPattern_23 : decode cX8_readsPattern 23 = .ok (.iload_n 2, 1) := by decide +kernel
theorem dX8_readsPattern_24 : decode cX8_readsPattern 24 = .ok (.aload_n 0, 1) := by decide +kernel
theorem dX8_readsPattern_25 : decode cX8_readsPattern 25 = .ok (.getfield 87, 3) := by decide +kernel
theorem dX8_readsPattern_28 : decode cX8_readsPattern 28 = .ok (.if_icmp .ge 38, 3) := by decide +kernel
theorem dX8_readsPattern_31 : decode cX8_readsPattern 31 = .ok (.iload_n 1, 1) := by decide +kernel
theorem dX8_readsPattern_32 : decode cX8_readsPattern 32 = .ok (.ifCond .eq 34, 3) := by decide +kernel
theorem dX8_readsPattern_35 : decode cX8_readsPattern 35 = .ok (.aload_n 0, 1) := by decide +kernel
theorem dX8_readsPattern_36 : decode cX8_readsPattern 36 = .ok (.iload_n 2, 1) := by decide +kernel
theorem dX8_readsPattern_37 : decode cX8_readsPattern 37 = .ok (.bipush 48, 2) := by decide +kernel
theorem dX8_readsPattern_39 : decode cX8_readsPattern 39 = .ok (.bipush 55, 2) := by decide +kernel
theorem dX8_readsPattern_41 : decode cX8_readsPattern 41 = .ok (.invokevirtual 103, 3) := by decide +kernel
theorem dX8_readsPattern_44 : decode cX8_readsPattern 44 = .ok (.istore_n 1, 1) := by decide +kernel
theorem dX8_readsPattern_45 : decode cX8_readsPattern 45 = .ok (.aload_n 0, 1) := by decide +kernel
theorem dX8_readsPattern_46 : decode cX8_readsPattern 46 = .ok (.getfield 34, 3) := by decide +kernel
theorem dX8_readsPattern_49 : decode cX8_readsPattern 49 = .ok (.iload_n 2, 1) := by decide +kernel
theorem dX8_readsPattern_50 : decode cX8_readsPattern 50 = .ok (.aload_n 0, 1) := by decide +kernel
theorem dX8_readsPattern_51 : decode cX8_readsPattern 51 = .ok (.getfield 25, 3) := by decide +kernel
theorem dX8_readsPattern_54 : decode cX8_readsPattern 54 = .ok (.iload_n 2, 1) := by decide +kernel
theorem dX8_readsPattern_55 : decode cX8_readsPattern 55 = .ok (.iaload, 1) := by decide +kernel
theorem dX8_readsPattern_56 : decode cX8_readsPattern 56 = .ok (.bipush 48, 2) := by decide +kernel
theorem dX8_readsPattern_58 : decode cX8_readsPattern 58 = .ok (.isub, 1) := by decide +kernel
theorem dX8_readsPattern_59 : decode cX8_readsPattern 59 = .ok (.iastore, 1) := by decide +kernel
theorem dX8_readsPattern_60 : decode cX8_readsPattern 60 = .ok (.iinc 2 1, 3) := by decide +kernel
theorem dX8_readsPattern_63 : decode cX8_readsPattern 63 = .ok (.goto (-40), 3) := by decide +kernel
theorem dX8_readsPattern_66 : decode cX8_readsPattern 66 = .ok (.iload_n 1, 1) := by decide +kernel
theorem dX8_readsPattern_67 : decode cX8_readsPattern 67 = .ok (.ireturn, 1) := by decide +kernel
theorem dX8_lands_0 : decode cX8_lands 0 = .ok (.iload_n 1, 1) := by decide +kernel
theorem dX8_lands_1 : decode cX8_lands 1 = .ok (.aload_n 0, 1) := by decide +kernel
theorem dX8_lands_2 : decode cX8_lands 2 = .ok (.getfield 34, 3) := by decide +kernel
theorem dX8_lands_5 : decode cX8_lands 5 = .ok (.iload_n 1, 1) := by decide +kernel
theorem dX8_lands_6 : decode cX8_lands 6 = .ok (.iaload, 1) := by decide +kernel
theorem dX8_lands_7 : decode cX8_lands 7 = .ok (.iadd, 1) := by decide +kernel
theorem dX8_lands_8 : decode cX8_lands 8 = .ok (.aload_n 0, 1) := by decide +kernel
theorem dX8_lands_9 : decode cX8_lands 9 = .ok (.getfield 113, 3) := by decide +kernel
theorem dX8_lands_12 : decode cX8_lands 12 = .ok (.irem, 1) := by decide +kernel
theorem dX8_lands_13 : decode cX8_lands 13 = .ok (.ireturn, 1) := by decide +kernel
theorem dX8_isSound_0 : decode cX8_isSound 0 = .ok (.iconst 0, 1) := by decide +kernel
theorem dX8_isSound_1 : decode cX8_isSound 1 = .ok (.istore_n 1, 1) := by decide +kernel
theorem dX8_isSound_2 : decode cX8_isSound 2 = .ok (.iconst 0, 1) := by decide +kernel
theorem dX8_isSound_3 : decode cX8_isSound 3 = .ok (.istore_n 2, 1) := by decide +kernel
theorem dX8_isSound_4 : decode cX8_isSound 4 = .ok (.iload_n 2, 1) := by decide +kernel
theorem dX8_isSound_5 : decode cX8_isSound 5 = .ok (.aload_n 0, 1) := by decide +kernel
theorem dX8_isSound_6 : decode cX8_isSound 6 = .ok (.getfield 113, 3) := by decide +kernel
theorem dX8_isSound_9 : decode cX8_isSound 9 = .ok (.if_icmp .ge 19, 3) := by decide +kernel
theorem dX8_isSound_12 : decode cX8_isSound 12 = .ok (.iload_n 1, 1) := by decide +kernel
theorem dX8_isSound_13 : decode cX8_isSound 13 = .ok (.iconst 1, 1) := by decide +kernel
theorem dX8_isSound_14 : decode cX8_isSound 14 = .ok (.aload_n 0, 1) := by decide +kernel
theorem dX8_isSound_15 : decode cX8_isSound 15 = .ok (.iload_n 2, 1) := by decide +kernel
theorem dX8_isSound_16 : decode cX8_isSound 16 = .ok (.invokevirtual 116, 3) := by decide +kernel
theorem dX8_isSound_19 : decode cX8_isSound 19 = .ok (.ishl, 1) := by decide +kernel
theorem dX8_isSound_20 : decode cX8_isSound 20 = .ok (.ior, 1) := by decide +kernel
theorem dX8_isSound_21 : decode cX8_isSound 21 = .ok (.istore_n 1, 1) := by decide +kernel
theorem dX8_isSound_22 : decode cX8_isSound 22 = .ok (.iinc 2 1, 3) := by decide +kernel
theorem dX8_isSound_25 : decode cX8_isSound 25 = .ok (.goto (-21), 3) := by decide +kernel
theorem dX8_isSound_28 : decode cX8_isSound 28 = .ok (.iload_n 1, 1) := by decide +kernel
theorem dX8_isSound_29 : decode cX8_isSound 29 = .ok (.iconst 1, 1) := by decide +kernel
theorem dX8_isSound_30 : decode cX8_isSound 30 = .ok (.aload_n 0, 1) := by decide +kernel
theorem dX8_isSound_31 : decode cX8_isSound 31 = .ok (.getfield 113, 3) := by decide +kernel
theorem dX8_isSound_34 : decode cX8_isSound 34 = .ok (.ishl, 1) := by decide +kernel
theorem dX8_isSound_35 : decode cX8_isSound 35 = .ok (.iconst 1, 1) := by decide +kernel
theorem dX8_isSound_36 : decode cX8_isSound 36 = .ok (.isub, 1) := by decide +kernel
theorem dX8_isSound_37 : decode cX8_isSound 37 = .ok (.if_icmp .ne 7, 3) := by decide +kernel
theorem dX8_isSound_40 : decode cX8_isSound 40 = .ok (.iconst 1, 1) := by decide +kernel
theorem dX8_isSound_41 : decode cX8_isSound 41 = .ok (.goto 4, 3) := by decide +kernel
theorem dX8_isSound_44 : decode cX8_isSound 44 = .ok (.iconst 0, 1) := by decide +kernel
theorem dX8_isSound_45 : decode cX8_isSound 45 = .ok (.ireturn, 1) := by decide +kernel
theorem dX8_sumOfHeights_0 : decode cX8_sumOfHeights 0 = .ok (.iconst 0, 1) := by decide +kernel
theorem dX8_sumOfHeights_1 : decode cX8_sumOfHeights 1 = .ok (.istore_n 1, 1) := by decide +kernel
theorem dX8_sumOfHeights_2 : decode cX8_sumOfHeights 2 = .ok (.iconst 0, 1) := by decide +kernel
theorem dX8_sumOfHeights_3 : decode cX8_sumOfHeights 3 = .ok (.istore_n 2, 1) := by decide +kernel
theorem dX8_sumOfHeights_4 : decode cX8_sumOfHeights 4 = .ok (.iload_n 2, 1) := by decide +kernel
theorem dX8_sumOfHeights_5 : decode cX8_sumOfHeights 5 = .ok (.aload_n 0, 1) := by decide +kernel
theorem dX8_sumOfHeights_6 : decode cX8_sumOfHeights 6 = .ok (.getfield 113, 3) := by decide +kernel
theorem dX8_sumOfHeights_9 : decode cX8_sumOfHeights 9 = .ok (.if_icmp .ge 18, 3) := by decide +kernel
theorem dX8_sumOfHeights_12 : decode cX8_sumOfHeights 12 = .ok (.iload_n 1, 1) := by decide +kernel
theorem dX8_sumOfHeights_13 : decode cX8_sumOfHeights 13 = .ok (.aload_n 0, 1) := by decide +kernel
theorem dX8_sumOfHeights_14 : decode cX8_sumOfHeights 14 = .ok (.getfield 34, 3) := by decide +kernel
theorem dX8_sumOfHeights_17 : decode cX8_sumOfHeights 17 = .ok (.iload_n 2, 1) := by decide +kernel
theorem dX8_sumOfHeights_18 : decode cX8_sumOfHeights 18 = .ok (.iaload, 1) := by decide +kernel
theorem dX8_sumOfHeights_19 : decode cX8_sumOfHeights 19 = .ok (.iadd, 1) := by decide +kernel
theorem dX8_sumOfHeights_20 : decode cX8_sumOfHeights 20 = .ok (.istore_n 1, 1) := by decide +kernel
theorem dX8_sumOfHeights_21 : decode cX8_sumOfHeights 21 = .ok (.iinc 2 1, 3) := by decide +kernel
theorem dX8_sumOfHeights_24 : decode cX8_sumOfHeights 24 = .ok (.goto (-20), 3) := by decide +kernel
theorem dX8_sumOfHeights_27 : decode cX8_sumOfHeights 27 = .ok (.iload_n 1, 1) := by decide +kernel
theorem dX8_sumOfHeights_28 : decode cX8_sumOfHeights 28 = .ok (.ireturn, 1) := by decide +kernel
theorem dX8_startOf_0 : decode cX8_startOf 0 = .ok (.iconst 0, 1) := by decide +kernel
theorem dX8_startOf_1 : decode cX8_startOf 1 = .ok (.istore_n 1, 1) := by decide +kernel
theorem dX8_startOf_2 : decode cX8_startOf 2 = .ok (.iconst 1, 1) := by decide +kernel
theorem dX8_startOf_3 : decode cX8_startOf 3 = .ok (.istore_n 2, 1) := by decide +kernel
theorem dX8_startOf_4 : decode cX8_startOf 4 = .ok (.iload_n 2, 1) := by decide +kernel
theorem dX8_startOf_5 : decode cX8_startOf 5 = .ok (.bipush 7, 2) := by decide +kernel
theorem dX8_startOf_7 : decode cX8_startOf 7 = .ok (.if_icmp .gt 51, 3) := by decide +kernel
theorem dX8_startOf_10 : decode cX8_startOf 10 = .ok (.bipush 8, 2) := by decide +kernel
theorem dX8_startOf_12 : decode cX8_startOf 12 = .ok (.aload_n 0, 1) := by decide +kernel
theorem dX8_startOf_13 : decode cX8_startOf 13 = .ok (.getfield 113, 3) := by decide +kernel
theorem dX8_startOf_16 : decode cX8_startOf 16 = .ok (.imul, 1) := by decide +kernel
theorem dX8_startOf_17 : decode cX8_startOf 17 = .ok (.iload_n 2, 1) := by decide +kernel
theorem dX8_startOf_18 : decode cX8_startOf 18 = .ok (.isub, 1) := by decide +kernel
theorem dX8_startOf_19 : decode cX8_startOf 19 = .ok (.aload_n 0, 1) := by decide +kernel
theorem dX8_startOf_20 : decode cX8_startOf 20 = .ok (.getfield 113, 3) := by decide +kernel
theorem dX8_startOf_23 : decode cX8_startOf 23 = .ok (.irem, 1) := by decide +kernel
theorem dX8_startOf_24 : decode cX8_startOf 24 = .ok (.istore_n 3, 1) := by decide +kernel
theorem dX8_startOf_25 : decode cX8_startOf 25 = .ok (.iload_n 1, 1) := by decide +kernel
theorem dX8_startOf_26 : decode cX8_startOf 26 = .ok (.aload_n 0, 1) := by decide +kernel
theorem dX8_startOf_27 : decode cX8_startOf 27 = .ok (.getfield 34, 3) := by decide +kernel
theorem dX8_startOf_30 : decode cX8_startOf 30 = .ok (.iload_n 3, 1) := by decide +kernel
theorem dX8_startOf_31 : decode cX8_startOf 31 = .ok (.iaload, 1) := by decide +kernel
theorem dX8_startOf_32 : decode cX8_startOf 32 = .ok (.iload_n 2, 1) := by decide +kernel
theorem dX8_startOf_33 : decode cX8_startOf 33 = .ok (.if_icmp .lt 16, 3) := by decide +kernel
theorem dX8_startOf_36 : decode cX8_startOf 36 = .ok (.iconst 1, 1) := by decide +kernel
theorem dX8_startOf_37 : decode cX8_startOf 37 = .ok (.aload_n 0, 1) := by decide +kernel
theorem dX8_startOf_38 : decode cX8_startOf 38 = .ok (.getfield 34, 3) := by decide +kernel
theorem dX8_startOf_41 : decode cX8_startOf 41 = .ok (.iload_n 3, 1) := by decide +kernel
theorem dX8_startOf_42 : decode cX8_startOf 42 = .ok (.iaload, 1) := by decide +kernel
theorem dX8_startOf_43 : decode cX8_startOf 43 = .ok (.iload_n 2, 1) := by decide +kernel
theorem dX8_startOf_44 : decode cX8_startOf 44 = .ok (.isub, 1) := by decide +kernel
theorem dX8_startOf_45 : decode cX8_startOf 45 = .ok (.ishl, 1) := by decide +kernel
theorem dX8_startOf_46 : decode cX8_startOf 46 = .ok (.goto 4, 3) := by decide +kernel
theorem dX8_startOf_49 : decode cX8_startOf 49 = .ok (.iconst 0, 1) := by decide +kernel
theorem dX8_startOf_50 : decode cX8_startOf 50 = .ok (.ior, 1) := by decide +kernel
theorem dX8_startOf_51 : decode cX8_startOf 51 = .ok (.istore_n 1, 1) := by decide +kernel
theorem dX8_startOf_52 : decode cX8_startOf 52 = .ok (.iinc 2 1, 3) := by decide +kernel
theorem dX8_startOf_55 : decode cX8_startOf 55 = .ok (.goto (-51), 3) := by decide +kernel
theorem dX8_startOf_58 : decode cX8_startOf 58 = .ok (.iload_n 1, 1) := by decide +kernel
theorem dX8_startOf_59 : decode cX8_startOf 59 = .ok (.ireturn, 1) := by decide +kernel
theorem dX8_orbitOf_0 : decode cX8_orbitOf 0 = .ok (.aload_n 0, 1) := by decide +kernel
theorem dX8_orbitOf_1 : decode cX8_orbitOf 1 = .ok (.getfield 34, 3) := by decide +kernel
theorem dX8_orbitOf_4 : decode cX8_orbitOf 4 = .ok (.iload_n 1, 1) := by decide +kernel
theorem dX8_orbitOf_5 : decode cX8_orbitOf 5 = .ok (.iaload, 1) := by decide +kernel
theorem dX8_orbitOf_6 : decode cX8_orbitOf 6 = .ok (.ifCond .ne 5, 3) := by decide +kernel
theorem dX8_orbitOf_9 : decode cX8_orbitOf 9 = .ok (.iconst 0, 1) := by decide +kernel
theorem dX8_orbitOf_10 : decode cX8_orbitOf 10 = .ok (.ireturn, 1) := by decide +kernel
theorem dX8_orbitOf_11 : decode cX8_orbitOf 11 = .ok (.iconst 0, 1) := by decide +kernel
theorem dX8_orbitOf_12 : decode cX8_orbitOf 12 = .ok (.istore_n 2, 1) := by decide +kernel
theorem dX8_orbitOf_13 : decode cX8_orbitOf 13 = .ok (.iload_n 1, 1) := by decide +kernel
theorem dX8_orbitOf_14 : decode cX8_orbitOf 14 = .ok (.istore_n 3, 1) := by decide +kernel
theorem dX8_orbitOf_15 : decode cX8_orbitOf 15 = .ok (.iload_n 2, 1) := by decide +kernel
theorem dX8_orbitOf_16 : decode cX8_orbitOf 16 = .ok (.iload_n 3, 1) := by decide +kernel
theorem dX8_orbitOf_17 : decode cX8_orbitOf 17 = .ok (.ishr, 1) := by decide +kernel
theorem dX8_orbitOf_18 : decode cX8_orbitOf 18 = .ok (.iconst 1, 1) := by decide +kernel
theorem dX8_orbitOf_19 : decode cX8_orbitOf 19 = .ok (.iand, 1) := by decide +kernel
theorem dX8_orbitOf_20 : decode cX8_orbitOf 20 = .ok (.ifCond .ne 18, 3) := by decide +kernel
theorem dX8_orbitOf_23 : decode cX8_orbitOf 23 = .ok (.iload_n 2, 1) := by decide +kernel
theorem dX8_orbitOf_24 : decode cX8_orbitOf 24 = .ok (.iconst 1, 1) := by decide +kernel
theorem dX8_orbitOf_25 : decode cX8_orbitOf 25 = .ok (.iload_n 3, 1) := by decide +kernel
theorem dX8_orbitOf_26 : decode cX8_orbitOf 26 = .ok (.ishl, 1) := by decide +kernel
theorem dX8_orbitOf_27 : decode cX8_orbitOf 27 = .ok (.ior, 1) := by decide +kernel
theorem dX8_orbitOf_28 : decode cX8_orbitOf 28 = .ok (.istore_n 2, 1) := by decide +kernel
theorem dX8_orbitOf_29 : decode cX8_orbitOf 29 = .ok (.aload_n 0, 1) := by decide +kernel
theorem dX8_orbitOf_30 : decode cX8_orbitOf 30 = .ok (.iload_n 3, 1) := by decide +kernel
theorem dX8_orbitOf_31 : decode cX8_orbitOf 31 = .ok (.invokevirtual 116, 3) := by decide +kernel
theorem dX8_orbitOf_34 : decode cX8_orbitOf 34 = .ok (.istore_n 3, 1) := by decide +kernel
theorem dX8_orbitOf_35 : decode cX8_orbitOf 35 = .ok (.goto (-20), 3) := by decide +kernel
theorem dX8_orbitOf_38 : decode cX8_orbitOf 38 = .ok (.iload_n 2, 1) := by decide +kernel
theorem dX8_orbitOf_39 : decode cX8_orbitOf 39 = .ok (.ireturn, 1) := by decide +kernel
theorem dX8_orbits_0 : decode cX8_orbits 0 = .ok (.iconst 0, 1) := by decide +kernel
theorem dX8_orbits_1 : decode cX8_orbits 1 = .ok (.istore_n 1, 1) := by decide +kernel
theorem dX8_orbits_2 : decode cX8_orbits 2 = .ok (.iconst 0, 1) := by decide +kernel
theorem dX8_orbits_3 : decode cX8_orbits 3 = .ok (.istore_n 2, 1) := by decide +kernel
theorem dX8_orbits_4 : decode cX8_orbits 4 = .ok (.iload_n 2, 1) := by decide +kernel
theorem dX8_orbits_5 : decode cX8_orbits 5 = .ok (.aload_n 0, 1) := by decide +kernel
theorem dX8_orbits_6 : decode cX8_orbits 6 = .ok (.getfield 113, 3) := by decide +kernel
theorem dX8_orbits_9 : decode cX8_orbits 9 = .ok (.if_icmp .ge 37, 3) := by decide +kernel
theorem dX8_orbits_12 : decode cX8_orbits 12 = .ok (.aload_n 0, 1) := by decide +kernel
theorem dX8_orbits_13 : decode cX8_orbits 13 = .ok (.iload_n 2, 1) := by decide +kernel
theorem dX8_orbits_14 : decode cX8_orbits 14 = .ok (.invokevirtual 119, 3) := by decide +kernel
theorem dX8_orbits_17 : decode cX8_orbits 17 = .ok (.istore_n 3, 1) := by decide +kernel
theorem dX8_orbits_18 : decode cX8_orbits 18 = .ok (.iload_n 1, 1) := by decide +kernel
theorem dX8_orbits_19 : decode cX8_orbits 19 = .ok (.iload_n 3, 1) := by decide +kernel
theorem dX8_orbits_20 : decode cX8_orbits 20 = .ok (.ifCond .eq 17, 3) := by decide +kernel
theorem dX8_orbits_23 : decode cX8_orbits 23 = .ok (.iload_n 3, 1) := by decide +kernel
theorem dX8_orbits_24 : decode cX8_orbits 24 = .ok (.iconst 1, 1) := by decide +kernel
theorem dX8_orbits_25 : decode cX8_orbits 25 = .ok (.iload_n 2, 1) := by decide +kernel
theorem dX8_orbits_26 : decode cX8_orbits 26 = .ok (.ishl, 1) := by decide +kernel
theorem dX8_orbits_27 : decode cX8_orbits 27 = .ok (.iconst 1, 1) := by decide +kernel
theorem dX8_orbits_28 : decode cX8_orbits 28 = .ok (.isub, 1) := by decide +kernel
theorem dX8_orbits_29 : decode cX8_orbits 29 = .ok (.iand, 1) := by decide +kernel
theorem dX8_orbits_30 : decode cX8_orbits 30 = .ok (.ifCond .ne 7, 3) := by decide +kernel
theorem dX8_orbits_33 : decode cX8_orbits 33 = .ok (.iconst 1, 1) := by decide +kernel
theorem dX8_orbits_34 : decode cX8_orbits 34 = .ok (.goto 4, 3) := by decide +kernel
theorem dX8_orbits_37 : decode cX8_orbits 37 = .ok (.iconst 0, 1) := by decide +kernel
theorem dX8_orbits_38 : decode cX8_orbits 38 = .ok (.iadd, 1) := by decide +kernel
theorem dX8_orbits_39 : decode cX8_orbits 39 = .ok (.istore_n 1, 1) := by decide +kernel
theorem dX8_orbits_40 : decode cX8_orbits 40 = .ok (.iinc 2 1, 3) := by decide +kernel
theorem dX8_orbits_43 : decode cX8_orbits 43 = .ok (.goto (-39), 3) := by decide +kernel
theorem dX8_orbits_46 : decode cX8_orbits 46 = .ok (.iload_n 1, 1) := by decide +kernel
theorem dX8_orbits_47 : decode cX8_orbits 47 = .ok (.ireturn, 1) := by decide +kernel
theorem dX8_comesAgain_0 : decode cX8_comesAgain 0 = .ok (.aload_n 0, 1) := by decide +kernel
theorem dX8_comesAgain_1 : decode cX8_comesAgain 1 = .ok (.getfield 113, 3) := by decide +kernel
theorem dX8_comesAgain_4 : decode cX8_comesAgain 4 = .ok (.iload_n 1, 1) := by decide +kernel
theorem dX8_comesAgain_5 : decode cX8_comesAgain 5 = .ok (.irem, 1) := by decide +kernel
theorem dX8_comesAgain_6 : decode cX8_comesAgain 6 = .ok (.ifCond .ne 7, 3) := by decide +kernel
theorem dX8_comesAgain_9 : decode cX8_comesAgain 9 = .ok (.iconst 1, 1) := by decide +kernel
theorem dX8_comesAgain_10 : decode cX8_comesAgain 10 = .ok (.goto 4, 3) := by decide +kernel
theorem dX8_comesAgain_13 : decode cX8_comesAgain 13 = .ok (.iconst 0, 1) := by decide +kernel
theorem dX8_comesAgain_14 : decode cX8_comesAgain 14 = .ok (.istore_n 2, 1) := by decide +kernel
theorem dX8_comesAgain_15 : decode cX8_comesAgain 15 = .ok (.iload_n 1, 1) := by decide +kernel
theorem dX8_comesAgain_16 : decode cX8_comesAgain 16 = .ok (.istore_n 3, 1) := by decide +kernel
theorem dX8_comesAgain_17 : decode cX8_comesAgain 17 = .ok (.iload_n 3, 1) := by decide +kernel
theorem dX8_comesAgain_18 : decode cX8_comesAgain 18 = .ok (.aload_n 0, 1) := by decide +kernel
theorem dX8_comesAgain_19 : decode cX8_comesAgain 19 = .ok (.getfield 113, 3) := by decide +kernel
theorem dX8_comesAgain_22 : decode cX8_comesAgain 22 = .ok (.if_icmp .ge 36, 3) := by decide +kernel
theorem dX8_comesAgain_25 : decode cX8_comesAgain 25 = .ok (.iload_n 2, 1) := by decide +kernel
theorem dX8_comesAgain_26 : decode cX8_comesAgain 26 = .ok (.ifCond .eq 24, 3) := by decide +kernel
theorem dX8_comesAgain_29 : decode cX8_comesAgain 29 = .ok (.aload_n 0, 1) := by decide +kernel
theorem dX8_comesAgain_30 : decode cX8_comesAgain 30 = .ok (.getfield 34, 3) := by decide +kernel
theorem dX8_comesAgain_33 : decode cX8_comesAgain 33 = .ok (.iload_n 3, 1) := by decide +kernel
theorem dX8_comesAgain_34 : decode cX8_comesAgain 34 = .ok (.iaload, 1) := by decide +kernel
theorem dX8_comesAgain_35 : decode cX8_comesAgain 35 = .ok (.aload_n 0, 1) := by decide +kernel
theorem dX8_comesAgain_36 : decode cX8_comesAgain 36 = .ok (.getfield 34, 3) := by decide +kernel
theorem dX8_comesAgain_39 : decode cX8_comesAgain 39 = .ok (.iload_n 3, 1) := by decide +kernel
theorem dX8_comesAgain_40 : decode cX8_comesAgain 40 = .ok (.iload_n 1, 1) := by decide +kernel
theorem dX8_comesAgain_41 : decode cX8_comesAgain 41 = .ok (.isub, 1) := by decide +kernel
theorem dX8_comesAgain_42 : decode cX8_comesAgain 42 = .ok (.iaload, 1) := by decide +kernel
theorem dX8_comesAgain_43 : decode cX8_comesAgain 43 = .ok (.if_icmp .ne 7, 3) := by decide +kernel
theorem dX8_comesAgain_46 : decode cX8_comesAgain 46 = .ok (.iconst 1, 1) := by decide +kernel
theorem dX8_comesAgain_47 : decode cX8_comesAgain 47 = .ok (.goto 4, 3) := by decide +kernel
theorem dX8_comesAgain_50 : decode cX8_comesAgain 50 = .ok (.iconst 0, 1) := by decide +kernel
theorem dX8_comesAgain_51 : decode cX8_comesAgain 51 = .ok (.istore_n 2, 1) := by decide +kernel
theorem dX8_comesAgain_52 : decode cX8_comesAgain 52 = .ok (.iinc 3 1, 3) := by decide +kernel
theorem dX8_comesAgain_55 : decode cX8_comesAgain 55 = .ok (.goto (-38), 3) := by decide +kernel
theorem dX8_comesAgain_58 : decode cX8_comesAgain 58 = .ok (.iload_n 2, 1) := by decide +kernel
theorem dX8_comesAgain_59 : decode cX8_comesAgain 59 = .ok (.ireturn, 1) := by decide +kernel
theorem dX8_period_0 : decode cX8_period 0 = .ok (.iconst 1, 1) := by decide +kernel
theorem dX8_period_1 : decode cX8_period 1 = .ok (.istore_n 1, 1) := by decide +kernel
theorem dX8_period_2 : decode cX8_period 2 = .ok (.aload_n 0, 1) := by decide +kernel
theorem dX8_period_3 : decode cX8_period 3 = .ok (.iload_n 1, 1) := by decide +kernel
theorem dX8_period_4 : decode cX8_period 4 = .ok (.invokevirtual 122, 3) := by decide +kernel
theorem dX8_period_7 : decode cX8_period 7 = .ok (.ifCond .ne 9, 3) := by decide +kernel
theorem dX8_period_10 : decode cX8_period 10 = .ok (.iinc 1 1, 3) := by decide +kernel
theorem dX8_period_13 : decode cX8_period 13 = .ok (.goto (-11), 3) := by decide +kernel
theorem dX8_period_16 : decode cX8_period 16 = .ok (.iload_n 1, 1) := by decide +kernel
theorem dX8_period_17 : decode cX8_period 17 = .ok (.ireturn, 1) := by decide +kernel
theorem dX8_told_0 : decode cX8_told 0 = .ok (.aload_n 0, 1) := by decide +kernel
theorem dX8_told_1 : decode cX8_told 1 = .ok (.invokevirtual 125, 3) := by decide +kernel
theorem dX8_told_4 : decode cX8_told 4 = .ok (.aload_n 0, 1) := by decide +kernel
theorem dX8_told_5 : decode cX8_told 5 = .ok (.getfield 113, 3) := by decide +kernel
theorem dX8_told_8 : decode cX8_told 8 = .ok (.idiv, 1) := by decide +kernel
theorem dX8_told_9 : decode cX8_told 9 = .ok (.istore_n 2, 1) := by decide +kernel
theorem dX8_told_10 : decode cX8_told 10 = .ok (.iload_n 1, 1) := by decide +kernel
theorem dX8_told_11 : decode cX8_told 11 = .ok (.iconst 1, 1) := by decide +kernel
theorem dX8_told_12 : decode cX8_told 12 = .ok (.if_icmp .ne 7, 3) := by decide +kernel
theorem dX8_told_15 : decode cX8_told 15 = .ok (.iload_n 2, 1) := by decide +kernel
theorem dX8_told_16 : decode cX8_told 16 = .ok (.goto 69, 3) := by decide +kernel
theorem dX8_told_19 : decode cX8_told 19 = .ok (.iload_n 1, 1) := by decide +kernel
theorem dX8_told_20 : decode cX8_told 20 = .ok (.iconst 2, 1) := by decide +kernel
theorem dX8_told_21 : decode cX8_told 21 = .ok (.if_icmp .ne 10, 3) := by decide +kernel
theorem dX8_told_24 : decode cX8_told 24 = .ok (.aload_n 0, 1) := by decide +kernel
theorem dX8_told_25 : decode cX8_told 25 = .ok (.invokevirtual 128, 3) := by decide +kernel
theorem dX8_told_28 : decode cX8_told 28 = .ok (.goto 57, 3) := by decide +kernel
theorem dX8_told_31 : decode cX8_told 31 = .ok (.iload_n 1, 1) := by decide +kernel
theorem dX8_told_32 : decode cX8_told 32 = .ok (.iconst 3, 1) := by decide +kernel
theorem dX8_told_33 : decode cX8_told 33 = .ok (.if_icmp .ne 10, 3) := by decide +kernel
theorem dX8_told_36 : decode cX8_told 36 = .ok (.aload_n 0, 1) := by decide +kernel
theorem dX8_told_37 : decode cX8_told 37 = .ok (.invokevirtual 131, 3) := by decide +kernel
theorem dX8_told_40 : decode cX8_told 40 = .ok (.goto 45, 3) := by decide +kernel
theorem dX8_told_43 : decode cX8_told 43 = .ok (.iload_n 1, 1) := by decide +kernel
theorem dX8_told_44 : decode cX8_told 44 = .ok (.iconst 4, 1) := by decide +kernel
theorem dX8_told_45 : decode cX8_told 45 = .ok (.if_icmp .ne 11, 3) := by decide +kernel
theorem dX8_told_48 : decode cX8_told 48 = .ok (.aload_n 0, 1) := by decide +kernel
theorem dX8_told_49 : decode cX8_told 49 = .ok (.iconst 0, 1) := by decide +kernel
theorem dX8_told_50 : decode cX8_told 50 = .ok (.invokevirtual 119, 3) := by decide +kernel
theorem dX8_told_53 : decode cX8_told 53 = .ok (.goto 32, 3) := by decide +kernel
theorem dX8_told_56 : decode cX8_told 56 = .ok (.iload_n 1, 1) := by decide +kernel
theorem dX8_told_57 : decode cX8_told 57 = .ok (.iconst 5, 1) := by decide +kernel
theorem dX8_told_58 : decode cX8_told 58 = .ok (.if_icmp .ne 10, 3) := by decide +kernel
theorem dX8_told_61 : decode cX8_told 61 = .ok (.aload_n 0, 1) := by decide +kernel
theorem dX8_told_62 : decode cX8_told 62 = .ok (.invokevirtual 134, 3) := by decide +kernel
theorem dX8_told_65 : decode cX8_told 65 = .ok (.goto 20, 3) := by decide +kernel
theorem dX8_told_68 : decode cX8_told 68 = .ok (.aload_n 0, 1) := by decide +kernel
theorem dX8_told_69 : decode cX8_told 69 = .ok (.invokevirtual 128, 3) := by decide +kernel
theorem dX8_told_72 : decode cX8_told 72 = .ok (.iconst 1, 1) := by decide +kernel
theorem dX8_told_73 : decode cX8_told 73 = .ok (.iload_n 2, 1) := by decide +kernel
theorem dX8_told_74 : decode cX8_told 74 = .ok (.ishl, 1) := by decide +kernel
theorem dX8_told_75 : decode cX8_told 75 = .ok (.iconst 1, 1) := by decide +kernel
theorem dX8_told_76 : decode cX8_told 76 = .ok (.isub, 1) := by decide +kernel
theorem dX8_told_77 : decode cX8_told 77 = .ok (.if_icmp .ne 7, 3) := by decide +kernel
theorem dX8_told_80 : decode cX8_told 80 = .ok (.iconst 1, 1) := by decide +kernel
theorem dX8_told_81 : decode cX8_told 81 = .ok (.goto 4, 3) := by decide +kernel
theorem dX8_told_84 : decode cX8_told 84 = .ok (.iconst 0, 1) := by decide +kernel
theorem dX8_told_85 : decode cX8_told 85 = .ok (.ireturn, 1) := by decide +kernel
theorem dX8_pattern_0 : decode cX8_pattern 0 = .ok (.aload_n 0, 1) := by decide +kernel
theorem dX8_pattern_1 : decode cX8_pattern 1 = .ok (.invokevirtual 137, 3) := by decide +kernel
theorem dX8_pattern_4 : decode cX8_pattern 4 = .ok (.ifCond .ne 6, 3) := by decide +kernel
theorem dX8_pattern_7 : decode cX8_pattern 7 = .ok (.bipush (-3), 2) := by decide +kernel
theorem dX8_pattern_9 : decode cX8_pattern 9 = .ok (.ireturn, 1) := by decide +kernel
theorem dX8_pattern_10 : decode cX8_pattern 10 = .ok (.iload_n 1, 1) := by decide +kernel
theorem dX8_pattern_11 : decode cX8_pattern 11 = .ok (.i2l, 1) := by decide +kernel
theorem dX8_pattern_12 : decode cX8_pattern 12 = .ok (.lconst 0, 1) := by decide +kernel
theorem dX8_pattern_13 : decode cX8_pattern 13 = .ok (.ldc2_w 140, 3) := by decide +kernel
theorem dX8_pattern_16 : decode cX8_pattern 16 = .ok (.invokestatic 44, 3) := by decide +kernel
theorem dX8_pattern_19 : decode cX8_pattern 19 = .ok (.ifCond .ne 6, 3) := by decide +kernel
theorem dX8_pattern_22 : decode cX8_pattern 22 = .ok (.bipush (-2), 2) := by decide +kernel
theorem dX8_pattern_24 : decode cX8_pattern 24 = .ok (.ireturn, 1) := by decide +kernel
theorem dX8_pattern_25 : decode cX8_pattern 25 = .ok (.iload_n 1, 1) := by decide +kernel
theorem dX8_pattern_26 : decode cX8_pattern 26 = .ok (.ifCond .ne 16, 3) := by decide +kernel
theorem dX8_pattern_29 : decode cX8_pattern 29 = .ok (.aload_n 0, 1) := by decide +kernel
theorem dX8_pattern_30 : decode cX8_pattern 30 = .ok (.invokevirtual 142, 3) := by decide +kernel
theorem dX8_pattern_33 : decode cX8_pattern 33 = .ok (.ifCond .eq 7, 3) := by decide +kernel
theorem dX8_pattern_36 : decode cX8_pattern 36 = .ok (.iconst 1, 1) := by decide +kernel
theorem dX8_pattern_37 : decode cX8_pattern 37 = .ok (.goto 4, 3) := by decide +kernel
theorem dX8_pattern_40 : decode cX8_pattern 40 = .ok (.iconst 0, 1) := by decide +kernel
theorem dX8_pattern_41 : decode cX8_pattern 41 = .ok (.ireturn, 1) := by decide +kernel
theorem dX8_pattern_42 : decode cX8_pattern 42 = .ok (.aload_n 0, 1) := by decide +kernel
theorem dX8_pattern_43 : decode cX8_pattern 43 = .ok (.invokevirtual 142, 3) := by decide +kernel
theorem dX8_pattern_46 : decode cX8_pattern 46 = .ok (.ifCond .eq 11, 3) := by decide +kernel
theorem dX8_pattern_49 : decode cX8_pattern 49 = .ok (.aload_n 0, 1) := by decide +kernel
theorem dX8_pattern_50 : decode cX8_pattern 50 = .ok (.iload_n 1, 1) := by decide +kernel
theorem dX8_pattern_51 : decode cX8_pattern 51 = .ok (.invokevirtual 145, 3) := by decide +kernel
theorem dX8_pattern_54 : decode cX8_pattern 54 = .ok (.goto 5, 3) := by decide +kernel
theorem dX8_pattern_57 : decode cX8_pattern 57 = .ok (.bipush (-5), 2) := by decide +kernel
theorem dX8_pattern_59 : decode cX8_pattern 59 = .ok (.ireturn, 1) := by decide +kernel
theorem dX8_back_0 : decode cX8_back 0 = .ok (.aload_n 0, 1) := by decide +kernel
theorem dX8_back_1 : decode cX8_back 1 = .ok (.invokevirtual 137, 3) := by decide +kernel
theorem dX8_back_4 : decode cX8_back 4 = .ok (.ifCond .ne 6, 3) := by decide +kernel
theorem dX8_back_7 : decode cX8_back 7 = .ok (.bipush (-3), 2) := by decide +kernel
theorem dX8_back_9 : decode cX8_back 9 = .ok (.ireturn, 1) := by decide +kernel
theorem dX8_back_10 : decode cX8_back 10 = .ok (.iload_n 1, 1) := by decide +kernel
theorem dX8_back_11 : decode cX8_back 11 = .ok (.i2l, 1) := by decide +kernel
theorem dX8_back_12 : decode cX8_back 12 = .ok (.lconst 0, 1) := by decide +kernel
theorem dX8_back_13 : decode cX8_back 13 = .ok (.aload_n 0, 1) := by decide +kernel
theorem dX8_back_14 : decode cX8_back 14 = .ok (.getfield 113, 3) := by decide +kernel
theorem dX8_back_17 : decode cX8_back 17 = .ok (.i2l, 1) := by decide +kernel
theorem dX8_back_18 : decode cX8_back 18 = .ok (.lconst 1, 1) := by decide +kernel
theorem dX8_back_19 : decode cX8_back 19 = .ok (.lsub, 1) := by decide +kernel
theorem dX8_back_20 : decode cX8_back 20 = .ok (.invokestatic 44, 3) := by decide +kernel
theorem dX8_back_23 : decode cX8_back 23 = .ok (.ifCond .ne 5, 3) := by decide +kernel
theorem dX8_back_26 : decode cX8_back 26 = .ok (.iconst (-1), 1) := by decide +kernel
theorem dX8_back_27 : decode cX8_back 27 = .ok (.ireturn, 1) := by decide +kernel
theorem dX8_back_28 : decode cX8_back 28 = .ok (.aload_n 0, 1) := by decide +kernel
theorem dX8_back_29 : decode cX8_back 29 = .ok (.invokevirtual 142, 3) := by decide +kernel
theorem dX8_back_32 : decode cX8_back 32 = .ok (.ifCond .ne 6, 3) := by decide +kernel
theorem dX8_back_35 : decode cX8_back 35 = .ok (.bipush (-5), 2) := by decide +kernel
theorem dX8_back_37 : decode cX8_back 37 = .ok (.ireturn, 1) := by decide +kernel
theorem dX8_back_38 : decode cX8_back 38 = .ok (.iconst 0, 1) := by decide +kernel
theorem dX8_back_39 : decode cX8_back 39 = .ok (.istore_n 2, 1) := by decide +kernel
theorem dX8_back_40 : decode cX8_back 40 = .ok (.aload_n 0, 1) := by decide +kernel
theorem dX8_back_41 : decode cX8_back 41 = .ok (.getfield 113, 3) := by decide +kernel
theorem dX8_back_44 : decode cX8_back 44 = .ok (.iconst 1, 1) := by decide +kernel
theorem dX8_back_45 : decode cX8_back 45 = .ok (.isub, 1) := by decide +kernel
theorem dX8_back_46 : decode cX8_back 46 = .ok (.aload_n 0, 1) := by decide +kernel
theorem dX8_back_47 : decode cX8_back 47 = .ok (.iload_n 2, 1) := by decide +kernel
theorem dX8_back_48 : decode cX8_back 48 = .ok (.invokevirtual 116, 3) := by decide +kernel
theorem dX8_back_51 : decode cX8_back 51 = .ok (.isub, 1) := by decide +kernel
theorem dX8_back_52 : decode cX8_back 52 = .ok (.iload_n 1, 1) := by decide +kernel
theorem dX8_back_53 : decode cX8_back 53 = .ok (.if_icmp .eq 9, 3) := by decide +kernel
theorem dX8_back_56 : decode cX8_back 56 = .ok (.iinc 2 1, 3) := by decide +kernel
theorem dX8_back_59 : decode cX8_back 59 = .ok (.goto (-19), 3) := by decide +kernel
theorem dX8_back_62 : decode cX8_back 62 = .ok (.aload_n 0, 1) := by decide +kernel
theorem dX8_back_63 : decode cX8_back 63 = .ok (.getfield 34, 3) := by decide +kernel
theorem dX8_back_66 : decode cX8_back 66 = .ok (.iload_n 2, 1) := by decide +kernel
theorem dX8_back_67 : decode cX8_back 67 = .ok (.iaload, 1) := by decide +kernel
theorem dX8_back_68 : decode cX8_back 68 = .ok (.ireturn, 1) := by decide +kernel
theorem dX8_behind_0 : decode cX8_behind 0 = .ok (.iload_n 0, 1) := by decide +kernel
theorem dX8_behind_1 : decode cX8_behind 1 = .ok (.iconst 1, 1) := by decide +kernel
theorem dX8_behind_2 : decode cX8_behind 2 = .ok (.iand, 1) := by decide +kernel
theorem dX8_behind_3 : decode cX8_behind 3 = .ok (.ifCond .ne 15, 3) := by decide +kernel
theorem dX8_behind_6 : decode cX8_behind 6 = .ok (.iload_n 1, 1) := by decide +kernel
theorem dX8_behind_7 : decode cX8_behind 7 = .ok (.ifCond .ne 9, 3) := by decide +kernel
theorem dX8_behind_10 : decode cX8_behind 10 = .ok (.iload_n 0, 1) := by decide +kernel
theorem dX8_behind_11 : decode cX8_behind 11 = .ok (.iconst 1, 1) := by decide +kernel
theorem dX8_behind_12 : decode cX8_behind 12 = .ok (.ishr, 1) := by decide +kernel
theorem dX8_behind_13 : decode cX8_behind 13 = .ok (.goto 4, 3) := by decide +kernel
theorem dX8_behind_16 : decode cX8_behind 16 = .ok (.iconst (-1), 1) := by decide +kernel
theorem dX8_behind_17 : decode cX8_behind 17 = .ok (.ireturn, 1) := by decide +kernel
theorem dX8_behind_18 : decode cX8_behind 18 = .ok (.iload_n 1, 1) := by decide +kernel
theorem dX8_behind_19 : decode cX8_behind 19 = .ok (.ifCond .le 21, 3) := by decide +kernel
theorem dX8_behind_22 : decode cX8_behind 22 = .ok (.iload_n 0, 1) := by decide +kernel
theorem dX8_behind_23 : decode cX8_behind 23 = .ok (.iload_n 1, 1) := by decide +kernel
theorem dX8_behind_24 : decode cX8_behind 24 = .ok (.ishr, 1) := by decide +kernel
theorem dX8_behind_25 : decode cX8_behind 25 = .ok (.iconst 1, 1) := by decide +kernel
theorem dX8_behind_26 : decode cX8_behind 26 = .ok (.iand, 1) := by decide +kernel
theorem dX8_behind_27 : decode cX8_behind 27 = .ok (.ifCond .ne 13, 3) := by decide +kernel
theorem dX8_behind_30 : decode cX8_behind 30 = .ok (.iload_n 0, 1) := by decide +kernel
theorem dX8_behind_31 : decode cX8_behind 31 = .ok (.iconst 1, 1) := by decide +kernel
theorem dX8_behind_32 : decode cX8_behind 32 = .ok (.iload_n 1, 1) := by decide +kernel
theorem dX8_behind_33 : decode cX8_behind 33 = .ok (.ishl, 1) := by decide +kernel
theorem dX8_behind_34 : decode cX8_behind 34 = .ok (.ior, 1) := by decide +kernel
theorem dX8_behind_35 : decode cX8_behind 35 = .ok (.iconst 1, 1) := by decide +kernel
theorem dX8_behind_36 : decode cX8_behind 36 = .ok (.ishr, 1) := by decide +kernel
theorem dX8_behind_37 : decode cX8_behind 37 = .ok (.goto 4, 3) := by decide +kernel
theorem dX8_behind_40 : decode cX8_behind 40 = .ok (.iconst (-1), 1) := by decide +kernel
theorem dX8_behind_41 : decode cX8_behind 41 = .ok (.ireturn, 1) := by decide +kernel
theorem dX8_findWays_0 : decode cX8_findWays 0 = .ok (.iconst 0, 1) := by decide +kernel
theorem dX8_findWays_1 : decode cX8_findWays 1 = .ok (.istore_n 2, 1) := by decide +kernel
theorem dX8_findWays_2 : decode cX8_findWays 2 = .ok (.iload_n 2, 1) := by decide +kernel
theorem dX8_findWays_3 : decode cX8_findWays 3 = .ok (.sipush 256, 3) := by decide +kernel
theorem dX8_findWays_6 : decode cX8_findWays 6 = .ok (.if_icmp .ge 25, 3) := by decide +kernel
theorem dX8_findWays_9 : decode cX8_findWays 9 = .ok (.aload_n 0, 1) := by decide +kernel
theorem dX8_findWays_10 : decode cX8_findWays 10 = .ok (.getfield 37, 3) := by decide +kernel
theorem dX8_findWays_13 : decode cX8_findWays 13 = .ok (.iload_n 2, 1) := by decide +kernel
theorem dX8_findWays_14 : decode cX8_findWays 14 = .ok (.iload_n 2, 1) := by decide +kernel
theorem dX8_findWays_15 : decode cX8_findWays 15 = .ok (.iload_n 1, 1) := by decide +kernel
theorem dX8_findWays_16 : decode cX8_findWays 16 = .ok (.if_icmp .ne 7, 3) := by decide +kernel
theorem dX8_findWays_19 : decode cX8_findWays 19 = .ok (.iconst 0, 1) := by decide +kernel
theorem dX8_findWays_20 : decode cX8_findWays 20 = .ok (.goto 4, 3) := by decide +kernel
theorem dX8_findWays_23 : decode cX8_findWays 23 = .ok (.iconst (-1), 1) := by decide +kernel
theorem dX8_findWays_24 : decode cX8_findWays 24 = .ok (.iastore, 1) := by decide +kernel
theorem dX8_findWays_25 : decode cX8_findWays 25 = .ok (.iinc 2 1, 3) := by decide +kernel
theorem dX8_findWays_28 : decode cX8_findWays 28 = .ok (.goto (-26), 3) := by decide +kernel
theorem dX8_findWays_31 : decode cX8_findWays 31 = .ok (.iconst 1, 1) := by decide +kernel
theorem dX8_findWays_32 : decode cX8_findWays 32 = .ok (.istore_n 2, 1) := by decide +kernel
theorem dX8_findWays_33 : decode cX8_findWays 33 = .ok (.iconst 0, 1) := by decide +kernel
theorem dX8_findWays_34 : decode cX8_findWays 34 = .ok (.istore_n 3, 1) := by decide +kernel
theorem dX8_findWays_35 : decode cX8_findWays 35 = .ok (.iload_n 2, 1) := by decide +kernel
theorem dX8_findWays_36 : decode cX8_findWays 36 = .ok (.ifCond .eq 126, 3) := by decide +kernel
theorem dX8_findWays_39 : decode cX8_findWays 39 = .ok (.iconst 0, 1) := by decide +kernel
theorem dX8_findWays_40 : decode cX8_findWays 40 = .ok (.istore_n 2, 1) := by decide +kernel
theorem dX8_findWays_41 : decode cX8_findWays 41 = .ok (.iconst 0, 1) := by decide +kernel
theorem dX8_findWays_42 : decode cX8_findWays 42 = .ok (.istore 4, 2) := by decide +kernel
theorem dX8_findWays_44 : decode cX8_findWays 44 = .ok (.iload 4, 2) := by decide +kernel
theorem dX8_findWays_46 : decode cX8_findWays 46 = .ok (.sipush 256, 3) := by decide +kernel
theorem dX8_findWays_49 : decode cX8_findWays 49 = .ok (.if_icmp .ge 107, 3) := by decide +kernel
theorem dX8_findWays_52 : decode cX8_findWays 52 = .ok (.iconst 0, 1) := by decide +kernel
theorem dX8_findWays_53 : decode cX8_findWays 53 = .ok (.istore 5, 2) := by decide +kernel
theorem dX8_findWays_55 : decode cX8_findWays 55 = .ok (.iload 5, 2) := by decide +kernel
theorem dX8_findWays_57 : decode cX8_findWays 57 = .ok (.bipush 8, 2) := by decide +kernel
theorem dX8_findWays_59 : decode cX8_findWays 59 = .ok (.if_icmp .ge 91, 3) := by decide +kernel
theorem dX8_findWays_62 : decode cX8_findWays 62 = .ok (.aload_n 0, 1) := by decide +kernel
theorem dX8_findWays_63 : decode cX8_findWays 63 = .ok (.getfield 37, 3) := by decide +kernel
theorem dX8_findWays_66 : decode cX8_findWays 66 = .ok (.iload 4, 2) := by decide +kernel
theorem dX8_findWays_68 : decode cX8_findWays 68 = .ok (.iaload, 1) := by decide +kernel
theorem dX8_findWays_69 : decode cX8_findWays 69 = .ok (.ifCond .ge 81, 3) := by decide +kernel
theorem dX8_findWays_72 : decode cX8_findWays 72 = .ok (.iload 4, 2) := by decide +kernel
theorem dX8_findWays_74 : decode cX8_findWays 74 = .ok (.iload 5, 2) := by decide +kernel
theorem dX8_findWays_76 : decode cX8_findWays 76 = .ok (.invokestatic 148, 3) := by decide +kernel
theorem dX8_findWays_79 : decode cX8_findWays 79 = .ok (.istore 6, 2) := by decide +kernel
theorem dX8_findWays_81 : decode cX8_findWays 81 = .ok (.iload 6, 2) := by decide +kernel
theorem dX8_findWays_83 : decode cX8_findWays 83 = .ok (.ifCond .lt 18, 3) := by decide +kernel
theorem dX8_findWays_86 : decode cX8_findWays 86 = .ok (.aload_n 0, 1) := by decide +kernel
theorem dX8_findWays_87 : decode cX8_findWays 87 = .ok (.getfield 37, 3) := by decide +kernel
theorem dX8_findWays_90 : decode cX8_findWays 90 = .ok (.iload 6, 2) := by decide +kernel
theorem dX8_findWays_92 : decode cX8_findWays 92 = .ok (.iaload, 1) := by decide +kernel
theorem dX8_findWays_93 : decode cX8_findWays 93 = .ok (.iload_n 3, 1) := by decide +kernel
theorem dX8_findWays_94 : decode cX8_findWays 94 = .ok (.if_icmp .ne 7, 3) := by decide +kernel
theorem dX8_findWays_97 : decode cX8_findWays 97 = .ok (.iconst 1, 1) := by decide +kernel
theorem dX8_findWays_98 : decode cX8_findWays 98 = .ok (.goto 4, 3) := by decide +kernel
theorem dX8_findWays_101 : decode cX8_findWays 101 = .ok (.iconst 0, 1) := by decide +kernel
theorem dX8_findWays_102 : decode cX8_findWays 102 = .ok (.istore 7, 2) := by decide +kernel
theorem dX8_findWays_104 : decode cX8_findWays 104 = .ok (.aload_n 0, 1) := by decide +kernel
theorem dX8_findWays_105 : decode cX8_findWays 105 = .ok (.getfield 37, 3) := by decide +kernel
theorem dX8_findWays_108 : decode cX8_findWays 108 = .ok (.iload 4, 2) := by decide +kernel
theorem dX8_findWays_110 : decode cX8_findWays 110 = .ok (.iload 7, 2) := by decide +kernel
theorem dX8_findWays_112 : decode cX8_findWays 112 = .ok (.ifCond .eq 9, 3) := by decide +kernel
theorem dX8_findWays_115 : decode cX8_findWays 115 = .ok (.iload_n 3, 1) := by decide +kernel
theorem dX8_findWays_116 : decode cX8_findWays 116 = .ok (.iconst 1, 1) := by decide +kernel
theorem dX8_findWays_117 : decode cX8_findWays 117 = .ok (.iadd, 1) := by decide +kernel
theorem dX8_findWays_118 : decode cX8_findWays 118 = .ok (.goto 10, 3) := by decide +kernel
theorem dX8_findWays_121 : decode cX8_findWays 121 = .ok (.aload_n 0, 1) := by decide +kernel
theorem dX8_findWays_122 : decode cX8_findWays 122 = .ok (.getfield 37, 3) := by decide +kernel
theorem dX8_findWays_125 : decode cX8_findWays 125 = .ok (.iload 4, 2) := by decide +kernel
theorem dX8_findWays_127 : decode cX8_findWays 127 = .ok (.iaload, 1) := by decide +kernel
theorem dX8_findWays_128 : decode cX8_findWays 128 = .ok (.iastore, 1) := by decide +kernel
theorem dX8_findWays_129 : decode cX8_findWays 129 = .ok (.iload_n 2, 1) := by decide +kernel
theorem dX8_findWays_130 : decode cX8_findWays 130 = .ok (.ifCond .ne 8, 3) := by decide +kernel
theorem dX8_findWays_133 : decode cX8_findWays 133 = .ok (.iload 7, 2) := by decide +kernel
theorem dX8_findWays_135 : decode cX8_findWays 135 = .ok (.ifCond .eq 7, 3) := by decide +kernel
theorem dX8_findWays_138 : decode cX8_findWays 138 = .ok (.iconst 1, 1) := by decide +kernel
theorem dX8_findWays_139 : decode cX8_findWays 139 = .ok (.goto 4, 3) := by decide +kernel
theorem dX8_findWays_142 : decode cX8_findWays 142 = .ok (.iconst 0, 1) := by decide +kernel
theorem dX8_findWays_143 : decode cX8_findWays 143 = .ok (.istore_n 2, 1) := by decide +kernel
theorem dX8_findWays_144 : decode cX8_findWays 144 = .ok (.iinc 5 1, 3) := by decide +kernel
theorem dX8_findWays_147 : decode cX8_findWays 147 = .ok (.goto (-92), 3) := by decide +kernel
theorem dX8_findWays_150 : decode cX8_findWays 150 = .ok (.iinc 4 1, 3) := by decide +kernel
theorem dX8_findWays_153 : decode cX8_findWays 153 = .ok (.goto (-109), 3) := by decide +kernel
theorem dX8_findWays_156 : decode cX8_findWays 156 = .ok (.iinc 3 1, 3) := by decide +kernel
theorem dX8_findWays_159 : decode cX8_findWays 159 = .ok (.goto (-124), 3) := by decide +kernel
theorem dX8_findWays_162 : decode cX8_findWays 162 = .ok (.return_, 1) := by decide +kernel
theorem dX8_nextThrow_0 : decode cX8_nextThrow 0 = .ok (.iconst 0, 1) := by decide +kernel
theorem dX8_nextThrow_1 : decode cX8_nextThrow 1 = .ok (.istore_n 2, 1) := by decide +kernel
theorem dX8_nextThrow_2 : decode cX8_nextThrow 2 = .ok (.iload_n 1, 1) := by decide +kernel
theorem dX8_nextThrow_3 : decode cX8_nextThrow 3 = .ok (.iload_n 2, 1) := by decide +kernel
theorem dX8_nextThrow_4 : decode cX8_nextThrow 4 = .ok (.invokestatic 148, 3) := by decide +kernel
theorem dX8_nextThrow_7 : decode cX8_nextThrow 7 = .ok (.ifCond .lt 24, 3) := by decide +kernel
theorem dX8_nextThrow_10 : decode cX8_nextThrow 10 = .ok (.aload_n 0, 1) := by decide +kernel
theorem dX8_nextThrow_11 : decode cX8_nextThrow 11 = .ok (.getfield 37, 3) := by decide +kernel
theorem dX8_nextThrow_14 : decode cX8_nextThrow 14 = .ok (.iload_n 1, 1) := by decide +kernel
theorem dX8_nextThrow_15 : decode cX8_nextThrow 15 = .ok (.iload_n 2, 1) := by decide +kernel
theorem dX8_nextThrow_16 : decode cX8_nextThrow 16 = .ok (.invokestatic 148, 3) := by decide +kernel
theorem dX8_nextThrow_19 : decode cX8_nextThrow 19 = .ok (.iaload, 1) := by decide +kernel
theorem dX8_nextThrow_20 : decode cX8_nextThrow 20 = .ok (.aload_n 0, 1) := by decide +kernel
theorem dX8_nextThrow_21 : decode cX8_nextThrow 21 = .ok (.getfield 37, 3) := by decide +kernel
theorem dX8_nextThrow_24 : decode cX8_nextThrow 24 = .ok (.iload_n 1, 1) := by decide +kernel
theorem dX8_nextThrow_25 : decode cX8_nextThrow 25 = .ok (.iaload, 1) := by decide +kernel
theorem dX8_nextThrow_26 : decode cX8_nextThrow 26 = .ok (.iconst 1, 1) := by decide +kernel
theorem dX8_nextThrow_27 : decode cX8_nextThrow 27 = .ok (.isub, 1) := by decide +kernel
theorem dX8_nextThrow_28 : decode cX8_nextThrow 28 = .ok (.if_icmp .eq 9, 3) := by decide +kernel
theorem dX8_nextThrow_31 : decode cX8_nextThrow 31 = .ok (.iinc 2 1, 3) := by decide +kernel
theorem dX8_nextThrow_34 : decode cX8_nextThrow 34 = .ok (.goto (-32), 3) := by decide +kernel
theorem dX8_nextThrow_37 : decode cX8_nextThrow 37 = .ok (.iload_n 2, 1) := by decide +kernel
theorem dX8_nextThrow_38 : decode cX8_nextThrow 38 = .ok (.ireturn, 1) := by decide +kernel
end
section
theorem dX8_way_0 : decode cX8_way 0 = .ok (.iload_n 1, 1) := by decide +kernel
theorem dX8_way_1 : decode cX8_way 1 = .ok (.invokestatic 76, 3) := by decide +kernel
theorem dX8_way_4 : decode cX8_way 4 = .ok (.ifCond .ne 5, 3) := by decide +kernel
theorem dX8_way_7 : decode cX8_way 7 = .ok (.iconst (-1), 1) := by decide +kernel
theorem dX8_way_8 : decode cX8_way 8 = .ok (.ireturn, 1) := by decide +kernel
theorem dX8_way_9 : decode cX8_way 9 = .ok (.iload_n 2, 1) := by decide +kernel
theorem dX8_way_10 : decode cX8_way 10 = .ok (.i2l, 1) := by decide +kernel
theorem dX8_way_11 : decode cX8_way 11 = .ok (.lconst 0, 1) := by decide +kernel
theorem dX8_way_12 : decode cX8_way 12 = .ok (.ldc2_w 97, 3) := by decide +kernel
theorem dX8_way_15 : decode cX8_way 15 = .ok (.invokestatic 44, 3) := by decide +kernel
theorem dX8_way_18 : decode cX8_way 18 = .ok (.ifCond .eq 15, 3) := by decide +kernel
theorem dX8_way_21 : decode cX8_way 21 = .ok (.iload_n 3, 1) := by decide +kernel
theorem dX8_way_22 : decode cX8_way 22 = .ok (.i2l, 1) := by decide +kernel
theorem dX8_way_23 : decode cX8_way 23 = .ok (.lconst 0, 1) := by decide +kernel
theorem dX8_way_24 : decode cX8_way 24 = .ok (.ldc2_w 152, 3) := by decide +kernel
theorem dX8_way_27 : decode cX8_way 27 = .ok (.invokestatic 44, 3) := by decide +kernel
theorem dX8_way_30 : decode cX8_way 30 = .ok (.ifCond .ne 6, 3) := by decide +kernel
theorem dX8_way_33 : decode cX8_way 33 = .ok (.bipush (-2), 2) := by decide +kernel
theorem dX8_way_35 : decode cX8_way 35 = .ok (.ireturn, 1) := by decide +kernel
theorem dX8_way_36 : decode cX8_way 36 = .ok (.aload_n 0, 1) := by decide +kernel
theorem dX8_way_37 : decode cX8_way 37 = .ok (.iload_n 2, 1) := by decide +kernel
theorem dX8_way_38 : decode cX8_way 38 = .ok (.invokevirtual 154, 3) := by decide +kernel
theorem dX8_way_41 : decode cX8_way 41 = .ok (.aload_n 0, 1) := by decide +kernel
theorem dX8_way_42 : decode cX8_way 42 = .ok (.getfield 7, 3) := by decide +kernel
theorem dX8_way_45 : decode cX8_way 45 = .ok (.iconst 0, 1) := by decide +kernel
theorem dX8_way_46 : decode cX8_way 46 = .ok (.iload_n 1, 1) := by decide +kernel
theorem dX8_way_47 : decode cX8_way 47 = .ok (.iadd, 1) := by decide +kernel
theorem dX8_way_48 : decode cX8_way 48 = .ok (.iaload, 1) := by decide +kernel
theorem dX8_way_49 : decode cX8_way 49 = .ok (.istore 4, 2) := by decide +kernel
theorem dX8_way_51 : decode cX8_way 51 = .ok (.aload_n 0, 1) := by decide +kernel
theorem dX8_way_52 : decode cX8_way 52 = .ok (.getfield 37, 3) := by decide +kernel
theorem dX8_way_55 : decode cX8_way 55 = .ok (.iload 4, 2) := by decide +kernel
theorem dX8_way_57 : decode cX8_way 57 = .ok (.iaload, 1) := by decide +kernel
theorem dX8_way_58 : decode cX8_way 58 = .ok (.ifCond .ge 6, 3) := by decide +kernel
theorem dX8_way_61 : decode cX8_way 61 = .ok (.bipush (-5), 2) := by decide +kernel
theorem dX8_way_63 : decode cX8_way 63 = .ok (.ireturn, 1) := by decide +kernel
theorem dX8_way_64 : decode cX8_way 64 = .ok (.iload_n 3, 1) := by decide +kernel
theorem dX8_way_65 : decode cX8_way 65 = .ok (.ifCond .ne 11, 3) := by decide +kernel
theorem dX8_way_68 : decode cX8_way 68 = .ok (.aload_n 0, 1) := by decide +kernel
theorem dX8_way_69 : decode cX8_way 69 = .ok (.getfield 37, 3) := by decide +kernel
theorem dX8_way_72 : decode cX8_way 72 = .ok (.iload 4, 2) := by decide +kernel
theorem dX8_way_74 : decode cX8_way 74 = .ok (.iaload, 1) := by decide +kernel
theorem dX8_way_75 : decode cX8_way 75 = .ok (.ireturn, 1) := by decide +kernel
theorem dX8_way_76 : decode cX8_way 76 = .ok (.aload_n 0, 1) := by decide +kernel
theorem dX8_way_77 : decode cX8_way 77 = .ok (.getfield 37, 3) := by decide +kernel
theorem dX8_way_80 : decode cX8_way 80 = .ok (.iload 4, 2) := by decide +kernel
theorem dX8_way_82 : decode cX8_way 82 = .ok (.iaload, 1) := by decide +kernel
theorem dX8_way_83 : decode cX8_way 83 = .ok (.ifCond .ne 6, 3) := by decide +kernel
theorem dX8_way_86 : decode cX8_way 86 = .ok (.bipush (-6), 2) := by decide +kernel
theorem dX8_way_88 : decode cX8_way 88 = .ok (.ireturn, 1) := by decide +kernel
theorem dX8_way_89 : decode cX8_way 89 = .ok (.aload_n 0, 1) := by decide +kernel
theorem dX8_way_90 : decode cX8_way 90 = .ok (.iload 4, 2) := by decide +kernel
theorem dX8_way_92 : decode cX8_way 92 = .ok (.invokevirtual 157, 3) := by decide +kernel
theorem dX8_way_95 : decode cX8_way 95 = .ok (.istore 5, 2) := by decide +kernel
theorem dX8_way_97 : decode cX8_way 97 = .ok (.iload_n 3, 1) := by decide +kernel
theorem dX8_way_98 : decode cX8_way 98 = .ok (.iconst 2, 1) := by decide +kernel
theorem dX8_way_99 : decode cX8_way 99 = .ok (.if_icmp .ne 34, 3) := by decide +kernel
theorem dX8_way_102 : decode cX8_way 102 = .ok (.aload_n 0, 1) := by decide +kernel
theorem dX8_way_103 : decode cX8_way 103 = .ok (.getfield 37, 3) := by decide +kernel
theorem dX8_way_106 : decode cX8_way 106 = .ok (.iload 4, 2) := by decide +kernel
theorem dX8_way_108 : decode cX8_way 108 = .ok (.iaload, 1) := by decide +kernel
theorem dX8_way_109 : decode cX8_way 109 = .ok (.iconst 1, 1) := by decide +kernel
theorem dX8_way_110 : decode cX8_way 110 = .ok (.if_icmp .le 23, 3) := by decide +kernel
theorem dX8_way_113 : decode cX8_way 113 = .ok (.iload 4, 2) := by decide +kernel
theorem dX8_way_115 : decode cX8_way 115 = .ok (.iload 5, 2) := by decide +kernel
theorem dX8_way_117 : decode cX8_way 117 = .ok (.invokestatic 148, 3) := by decide +kernel
theorem dX8_way_120 : decode cX8_way 120 = .ok (.istore 4, 2) := by decide +kernel
theorem dX8_way_122 : decode cX8_way 122 = .ok (.aload_n 0, 1) := by decide +kernel
theorem dX8_way_123 : decode cX8_way 123 = .ok (.iload 4, 2) := by decide +kernel
theorem dX8_way_125 : decode cX8_way 125 = .ok (.invokevirtual 157, 3) := by decide +kernel
theorem dX8_way_128 : decode cX8_way 128 = .ok (.istore 5, 2) := by decide +kernel
theorem dX8_way_130 : decode cX8_way 130 = .ok (.goto (-33), 3) := by decide +kernel
theorem dX8_way_133 : decode cX8_way 133 = .ok (.iload 5, 2) := by decide +kernel
theorem dX8_way_135 : decode cX8_way 135 = .ok (.ireturn, 1) := by decide +kernel
theorem dX8_howMany_0 : decode cX8_howMany 0 = .ok (.iload_n 1, 1) := by decide +kernel
theorem dX8_howMany_1 : decode cX8_howMany 1 = .ok (.i2l, 1) := by decide +kernel
theorem dX8_howMany_2 : decode cX8_howMany 2 = .ok (.lconst 1, 1) := by decide +kernel
theorem dX8_howMany_3 : decode cX8_howMany 3 = .ok (.ldc2_w 160, 3) := by decide +kernel
theorem dX8_howMany_6 : decode cX8_howMany 6 = .ok (.invokestatic 44, 3) := by decide +kernel
theorem dX8_howMany_9 : decode cX8_howMany 9 = .ok (.ifCond .eq 15, 3) := by decide +kernel
theorem dX8_howMany_12 : decode cX8_howMany 12 = .ok (.iload_n 2, 1) := by decide +kernel
theorem dX8_howMany_13 : decode cX8_howMany 13 = .ok (.i2l, 1) := by decide +kernel
theorem dX8_howMany_14 : decode cX8_howMany 14 = .ok (.lconst 0, 1) := by decide +kernel
theorem dX8_howMany_15 : decode cX8_howMany 15 = .ok (.ldc2_w 48, 3) := by decide +kernel
theorem dX8_howMany_18 : decode cX8_howMany 18 = .ok (.invokestatic 44, 3) := by decide +kernel
theorem dX8_howMany_21 : decode cX8_howMany 21 = .ok (.ifCond .ne 6, 3) := by decide +kernel
theorem dX8_howMany_24 : decode cX8_howMany 24 = .ok (.bipush (-2), 2) := by decide +kernel
theorem dX8_howMany_26 : decode cX8_howMany 26 = .ok (.ireturn, 1) := by decide +kernel
theorem dX8_howMany_27 : decode cX8_howMany 27 = .ok (.aload_n 0, 1) := by decide +kernel
theorem dX8_howMany_28 : decode cX8_howMany 28 = .ok (.iload_n 1, 1) := by decide +kernel
theorem dX8_howMany_29 : decode cX8_howMany 29 = .ok (.putfield 113, 3) := by decide +kernel
theorem dX8_howMany_32 : decode cX8_howMany 32 = .ok (.iconst 0, 1) := by decide +kernel
theorem dX8_howMany_33 : decode cX8_howMany 33 = .ok (.istore_n 3, 1) := by decide +kernel
theorem dX8_howMany_34 : decode cX8_howMany 34 = .ok (.iconst 0, 1) := by decide +kernel
theorem dX8_howMany_35 : decode cX8_howMany 35 = .ok (.istore 4, 2) := by decide +kernel
theorem dX8_howMany_37 : decode cX8_howMany 37 = .ok (.iload 4, 2) := by decide +kernel
theorem dX8_howMany_39 : decode cX8_howMany 39 = .ok (.iconst 1, 1) := by decide +kernel
theorem dX8_howMany_40 : decode cX8_howMany 40 = .ok (.iconst 3, 1) := by decide +kernel
theorem dX8_howMany_41 : decode cX8_howMany 41 = .ok (.iload_n 1, 1) := by decide +kernel
theorem dX8_howMany_42 : decode cX8_howMany 42 = .ok (.imul, 1) := by decide +kernel
theorem dX8_howMany_43 : decode cX8_howMany 43 = .ok (.ishl, 1) := by decide +kernel
theorem dX8_howMany_44 : decode cX8_howMany 44 = .ok (.if_icmp .ge 66, 3) := by decide +kernel
theorem dX8_howMany_47 : decode cX8_howMany 47 = .ok (.iconst 0, 1) := by decide +kernel
theorem dX8_howMany_48 : decode cX8_howMany 48 = .ok (.istore 5, 2) := by decide +kernel
theorem dX8_howMany_50 : decode cX8_howMany 50 = .ok (.iload 5, 2) := by decide +kernel
theorem dX8_howMany_52 : decode cX8_howMany 52 = .ok (.iload_n 1, 1) := by decide +kernel
theorem dX8_howMany_53 : decode cX8_howMany 53 = .ok (.if_icmp .ge 26, 3) := by decide +kernel
theorem dX8_howMany_56 : decode cX8_howMany 56 = .ok (.aload_n 0, 1) := by decide +kernel
theorem dX8_howMany_57 : decode cX8_howMany 57 = .ok (.getfield 34, 3) := by decide +kernel
theorem dX8_howMany_60 : decode cX8_howMany 60 = .ok (.iload 5, 2) := by decide +kernel
theorem dX8_howMany_62 : decode cX8_howMany 62 = .ok (.iload 4, 2) := by decide +kernel
theorem dX8_howMany_64 : decode cX8_howMany 64 = .ok (.iconst 3, 1) := by decide +kernel
theorem dX8_howMany_65 : decode cX8_howMany 65 = .ok (.iload 5, 2) := by decide +kernel
theorem dX8_howMany_67 : decode cX8_howMany 67 = .ok (.imul, 1) := by decide +kernel
theorem dX8_howMany_68 : decode cX8_howMany 68 = .ok (.ishr, 1) := by decide +kernel
theorem dX8_howMany_69 : decode cX8_howMany 69 = .ok (.bipush 7, 2) := by decide +kernel
theorem dX8_howMany_71 : decode cX8_howMany 71 = .ok (.iand, 1) := by decide +kernel
theorem dX8_howMany_72 : decode cX8_howMany 72 = .ok (.iastore, 1) := by decide +kernel
theorem dX8_howMany_73 : decode cX8_howMany 73 = .ok (.iinc 5 1, 3) := by decide +kernel
theorem dX8_howMany_76 : decode cX8_howMany 76 = .ok (.goto (-26), 3) := by decide +kernel
theorem dX8_howMany_79 : decode cX8_howMany 79 = .ok (.iload_n 3, 1) := by decide +kernel
theorem dX8_howMany_80 : decode cX8_howMany 80 = .ok (.aload_n 0, 1) := by decide +kernel
theorem dX8_howMany_81 : decode cX8_howMany 81 = .ok (.invokevirtual 125, 3) := by decide +kernel
theorem dX8_howMany_84 : decode cX8_howMany 84 = .ok (.iload_n 2, 1) := by decide +kernel
theorem dX8_howMany_85 : decode cX8_howMany 85 = .ok (.iload_n 1, 1) := by decide +kernel
theorem dX8_howMany_86 : decode cX8_howMany 86 = .ok (.imul, 1) := by decide +kernel
theorem dX8_howMany_87 : decode cX8_howMany 87 = .ok (.if_icmp .ne 14, 3) := by decide +kernel
theorem dX8_howMany_90 : decode cX8_howMany 90 = .ok (.aload_n 0, 1) := by decide +kernel
theorem dX8_howMany_91 : decode cX8_howMany 91 = .ok (.invokevirtual 142, 3) := by decide +kernel
theorem dX8_howMany_94 : decode cX8_howMany 94 = .ok (.ifCond .eq 7, 3) := by decide +kernel
theorem dX8_howMany_97 : decode cX8_howMany 97 = .ok (.iconst 1, 1) := by decide +kernel
theorem dX8_howMany_98 : decode cX8_howMany 98 = .ok (.goto 4, 3) := by decide +kernel
theorem dX8_howMany_101 : decode cX8_howMany 101 = .ok (.iconst 0, 1) := by decide +kernel
theorem dX8_howMany_102 : decode cX8_howMany 102 = .ok (.iadd, 1) := by decide +kernel
theorem dX8_howMany_103 : decode cX8_howMany 103 = .ok (.istore_n 3, 1) := by decide +kernel
theorem dX8_howMany_104 : decode cX8_howMany 104 = .ok (.iinc 4 1, 3) := by decide +kernel
theorem dX8_howMany_107 : decode cX8_howMany 107 = .ok (.goto (-70), 3) := by decide +kernel
theorem dX8_howMany_110 : decode cX8_howMany 110 = .ok (.iload_n 3, 1) := by decide +kernel
theorem dX8_howMany_111 : decode cX8_howMany 111 = .ok (.ireturn, 1) := by decide +kernel
theorem dX8_undo_0 : decode cX8_undo 0 = .ok (.aload_n 0, 1) := by decide +kernel
theorem dX8_undo_1 : decode cX8_undo 1 = .ok (.getfield 40, 3) := by decide +kernel
theorem dX8_undo_4 : decode cX8_undo 4 = .ok (.ifCond .ne 6, 3) := by decide +kernel
theorem dX8_undo_7 : decode cX8_undo 7 = .ok (.bipush (-5), 2) := by decide +kernel
theorem dX8_undo_9 : decode cX8_undo 9 = .ok (.ireturn, 1) := by decide +kernel
theorem dX8_undo_10 : decode cX8_undo 10 = .ok (.aload_n 0, 1) := by decide +kernel
theorem dX8_undo_11 : decode cX8_undo 11 = .ok (.dup, 1) := by decide +kernel
theorem dX8_undo_12 : decode cX8_undo 12 = .ok (.getfield 40, 3) := by decide +kernel
theorem dX8_undo_15 : decode cX8_undo 15 = .ok (.iconst 1, 1) := by decide +kernel
theorem dX8_undo_16 : decode cX8_undo 16 = .ok (.isub, 1) := by decide +kernel
theorem dX8_undo_17 : decode cX8_undo 17 = .ok (.putfield 40, 3) := by decide +kernel
theorem dX8_undo_20 : decode cX8_undo 20 = .ok (.iconst 0, 1) := by decide +kernel
theorem dX8_undo_21 : decode cX8_undo 21 = .ok (.istore_n 1, 1) := by decide +kernel
theorem dX8_undo_22 : decode cX8_undo 22 = .ok (.iload_n 1, 1) := by decide +kernel
theorem dX8_undo_23 : decode cX8_undo 23 = .ok (.bipush 46, 2) := by decide +kernel
theorem dX8_undo_25 : decode cX8_undo 25 = .ok (.if_icmp .ge 29, 3) := by decide +kernel
theorem dX8_undo_28 : decode cX8_undo 28 = .ok (.aload_n 0, 1) := by decide +kernel
theorem dX8_undo_29 : decode cX8_undo 29 = .ok (.getfield 7, 3) := by decide +kernel
theorem dX8_undo_32 : decode cX8_undo 32 = .ok (.iload_n 1, 1) := by decide +kernel
theorem dX8_undo_33 : decode cX8_undo 33 = .ok (.aload_n 0, 1) := by decide +kernel
theorem dX8_undo_34 : decode cX8_undo 34 = .ok (.getfield 16, 3) := by decide +kernel
theorem dX8_undo_37 : decode cX8_undo 37 = .ok (.bipush 46, 2) := by decide +kernel
theorem dX8_undo_39 : decode cX8_undo 39 = .ok (.aload_n 0, 1) := by decide +kernel
theorem dX8_undo_40 : decode cX8_undo 40 = .ok (.getfield 40, 3) := by decide +kernel
theorem dX8_undo_43 : decode cX8_undo 43 = .ok (.imul, 1) := by decide +kernel
theorem dX8_undo_44 : decode cX8_undo 44 = .ok (.iload_n 1, 1) := by decide +kernel
theorem dX8_undo_45 : decode cX8_undo 45 = .ok (.iadd, 1) := by decide +kernel
theorem dX8_undo_46 : decode cX8_undo 46 = .ok (.iaload, 1) := by decide +kernel
theorem dX8_undo_47 : decode cX8_undo 47 = .ok (.iastore, 1) := by decide +kernel
theorem dX8_undo_48 : decode cX8_undo 48 = .ok (.iinc 1 1, 3) := by decide +kernel
theorem dX8_undo_51 : decode cX8_undo 51 = .ok (.goto (-29), 3) := by decide +kernel
theorem dX8_undo_54 : decode cX8_undo 54 = .ok (.aload_n 0, 1) := by decide +kernel
theorem dX8_undo_55 : decode cX8_undo 55 = .ok (.getfield 40, 3) := by decide +kernel
theorem dX8_undo_58 : decode cX8_undo 58 = .ok (.ireturn, 1) := by decide +kernel
theorem dX8_save_0 : decode cX8_save 0 = .ok (.iload_n 1, 1) := by decide +kernel
theorem dX8_save_1 : decode cX8_save 1 = .ok (.i2l, 1) := by decide +kernel
theorem dX8_save_2 : decode cX8_save 2 = .ok (.lconst 0, 1) := by decide +kernel
theorem dX8_save_3 : decode cX8_save 3 = .ok (.lconst 1, 1) := by decide +kernel
theorem dX8_save_4 : decode cX8_save 4 = .ok (.invokestatic 44, 3) := by decide +kernel
theorem dX8_save_7 : decode cX8_save 7 = .ok (.ifCond .ne 6, 3) := by decide +kernel
theorem dX8_save_10 : decode cX8_save 10 = .ok (.bipush (-2), 2) := by decide +kernel
theorem dX8_save_12 : decode cX8_save 12 = .ok (.ireturn, 1) := by decide +kernel
theorem dX8_save_13 : decode cX8_save 13 = .ok (.iconst 0, 1) := by decide +kernel
theorem dX8_save_14 : decode cX8_save 14 = .ok (.istore_n 2, 1) := by decide +kernel
theorem dX8_save_15 : decode cX8_save 15 = .ok (.iload_n 2, 1) := by decide +kernel
theorem dX8_save_16 : decode cX8_save 16 = .ok (.bipush 46, 2) := by decide +kernel
theorem dX8_save_18 : decode cX8_save 18 = .ok (.if_icmp .ge 26, 3) := by decide +kernel
theorem dX8_save_21 : decode cX8_save 21 = .ok (.aload_n 0, 1) := by decide +kernel
theorem dX8_save_22 : decode cX8_save 22 = .ok (.getfield 19, 3) := by decide +kernel
theorem dX8_save_25 : decode cX8_save 25 = .ok (.bipush 46, 2) := by decide +kernel
theorem dX8_save_27 : decode cX8_save 27 = .ok (.iload_n 1, 1) := by decide +kernel
theorem dX8_save_28 : decode cX8_save 28 = .ok (.imul, 1) := by decide +kernel
theorem dX8_save_29 : decode cX8_save 29 = .ok (.iload_n 2, 1) := by decide +kernel
theorem dX8_save_30 : decode cX8_save 30 = .ok (.iadd, 1) := by decide +kernel
theorem dX8_save_31 : decode cX8_save 31 = .ok (.aload_n 0, 1) := by decide +kernel
theorem dX8_save_32 : decode cX8_save 32 = .ok (.getfield 7, 3) := by decide +kernel
theorem dX8_save_35 : decode cX8_save 35 = .ok (.iload_n 2, 1) := by decide +kernel
theorem dX8_save_36 : decode cX8_save 36 = .ok (.iaload, 1) := by decide +kernel
theorem dX8_save_37 : decode cX8_save 37 = .ok (.iastore, 1) := by decide +kernel
theorem dX8_save_38 : decode cX8_save 38 = .ok (.iinc 2 1, 3) := by decide +kernel
theorem dX8_save_41 : decode cX8_save 41 = .ok (.goto (-26), 3) := by decide +kernel
theorem dX8_save_44 : decode cX8_save 44 = .ok (.aload_n 0, 1) := by decide +kernel
theorem dX8_save_45 : decode cX8_save 45 = .ok (.getfield 22, 3) := by decide +kernel
theorem dX8_save_48 : decode cX8_save 48 = .ok (.iload_n 1, 1) := by decide +kernel
theorem dX8_save_49 : decode cX8_save 49 = .ok (.iconst 1, 1) := by decide +kernel
theorem dX8_save_50 : decode cX8_save 50 = .ok (.iastore, 1) := by decide +kernel
theorem dX8_save_51 : decode cX8_save 51 = .ok (.aload_n 0, 1) := by decide +kernel
theorem dX8_save_52 : decode cX8_save 52 = .ok (.invokevirtual 63, 3) := by decide +kernel
theorem dX8_save_55 : decode cX8_save 55 = .ok (.ireturn, 1) := by decide +kernel
theorem dX8_restore_0 : decode cX8_restore 0 = .ok (.iload_n 1, 1) := by decide +kernel
theorem dX8_restore_1 : decode cX8_restore 1 = .ok (.i2l, 1) := by decide +kernel
theorem dX8_restore_2 : decode cX8_restore 2 = .ok (.lconst 0, 1) := by decide +kernel
theorem dX8_restore_3 : decode cX8_restore 3 = .ok (.lconst 1, 1) := by decide +kernel
theorem dX8_restore_4 : decode cX8_restore 4 = .ok (.invokestatic 44, 3) := by decide +kernel
theorem dX8_restore_7 : decode cX8_restore 7 = .ok (.ifCond .ne 6, 3) := by decide +kernel
theorem dX8_restore_10 : decode cX8_restore 10 = .ok (.bipush (-2), 2) := by decide +kernel
theorem dX8_restore_12 : decode cX8_restore 12 = .ok (.ireturn, 1) := by decide +kernel
theorem dX8_restore_13 : decode cX8_restore 13 = .ok (.aload_n 0, 1) := by decide +kernel
theorem dX8_restore_14 : decode cX8_restore 14 = .ok (.getfield 22, 3) := by decide +kernel
theorem dX8_restore_17 : decode cX8_restore 17 = .ok (.iload_n 1, 1) := by decide +kernel
theorem dX8_restore_18 : decode cX8_restore 18 = .ok (.iaload, 1) := by decide +kernel
theorem dX8_restore_19 : decode cX8_restore 19 = .ok (.ifCond .ne 6, 3) := by decide +kernel
theorem dX8_restore_22 : decode cX8_restore 22 = .ok (.bipush (-5), 2) := by decide +kernel
theorem dX8_restore_24 : decode cX8_restore 24 = .ok (.ireturn, 1) := by decide +kernel
theorem dX8_restore_25 : decode cX8_restore 25 = .ok (.aload_n 0, 1) := by decide +kernel
theorem dX8_restore_26 : decode cX8_restore 26 = .ok (.invokevirtual 60, 3) := by decide +kernel
theorem dX8_restore_29 : decode cX8_restore 29 = .ok (.iconst 0, 1) := by decide +kernel
theorem dX8_restore_30 : decode cX8_restore 30 = .ok (.istore_n 2, 1) := by decide +kernel
theorem dX8_restore_31 : decode cX8_restore 31 = .ok (.iload_n 2, 1) := by decide +kernel
theorem dX8_restore_32 : decode cX8_restore 32 = .ok (.bipush 46, 2) := by decide +kernel
theorem dX8_restore_34 : decode cX8_restore 34 = .ok (.if_icmp .ge 26, 3) := by decide +kernel
theorem dX8_restore_37 : decode cX8_restore 37 = .ok (.aload_n 0, 1) := by decide +kernel
theorem dX8_restore_38 : decode cX8_restore 38 = .ok (.getfield 7, 3) := by decide +kernel
theorem dX8_restore_41 : decode cX8_restore 41 = .ok (.iload_n 2, 1) := by decide +kernel
theorem dX8_restore_42 : decode cX8_restore 42 = .ok (.aload_n 0, 1) := by decide +kernel
theorem dX8_restore_43 : decode cX8_restore 43 = .ok (.getfield 19, 3) := by decide +kernel
theorem dX8_restore_46 : decode cX8_restore 46 = .ok (.bipush 46, 2) := by decide +kernel
theorem dX8_restore_48 : decode cX8_restore 48 = .ok (.iload_n 1, 1) := by decide +kernel
theorem dX8_restore_49 : decode cX8_restore 49 = .ok (.imul, 1) := by decide +kernel
theorem dX8_restore_50 : decode cX8_restore 50 = .ok (.iload_n 2, 1) := by decide +kernel
theorem dX8_restore_51 : decode cX8_restore 51 = .ok (.iadd, 1) := by decide +kernel
theorem dX8_restore_52 : decode cX8_restore 52 = .ok (.iaload, 1) := by decide +kernel
theorem dX8_restore_53 : decode cX8_restore 53 = .ok (.iastore, 1) := by decide +kernel
theorem dX8_restore_54 : decode cX8_restore 54 = .ok (.iinc 2 1, 3) := by decide +kernel
theorem dX8_restore_57 : decode cX8_restore 57 = .ok (.goto (-26), 3) := by decide +kernel
theorem dX8_restore_60 : decode cX8_restore 60 = .ok (.aload_n 0, 1) := by decide +kernel
theorem dX8_restore_61 : decode cX8_restore 61 = .ok (.aload_n 0, 1) := by decide +kernel
theorem dX8_restore_62 : decode cX8_restore 62 = .ok (.invokevirtual 63, 3) := by decide +kernel
theorem dX8_restore_65 : decode cX8_restore 65 = .ok (.invokevirtual 67, 3) := by decide +kernel
theorem dX8_restore_68 : decode cX8_restore 68 = .ok (.ireturn, 1) := by decide +kernel
theorem dJ6_bitCount_0f7a4_0 : decode cJ6_bitCount_0f7a4 0 = .ok (.iload_n 0, 1) := by decide +kernel
theorem dJ6_bitCount_0f7a4_1 : decode cJ6_bitCount_0f7a4 1 = .ok (.iload_n 0, 1) := by decide +kernel
theorem dJ6_bitCount_0f7a4_2 : decode cJ6_bitCount_0f7a4 2 = .ok (.iconst 1, 1) := by decide +kernel
theorem dJ6_bitCount_0f7a4_3 : decode cJ6_bitCount_0f7a4 3 = .ok (.iushr, 1) := by decide +kernel
theorem dJ6_bitCount_0f7a4_4 : decode cJ6_bitCount_0f7a4 4 = .ok (.ldc_w 265, 3) := by decide +kernel
theorem dJ6_bitCount_0f7a4_7 : decode cJ6_bitCount_0f7a4 7 = .ok (.iand, 1) := by decide +kernel
theorem dJ6_bitCount_0f7a4_8 : decode cJ6_bitCount_0f7a4 8 = .ok (.isub, 1) := by decide +kernel
theorem dJ6_bitCount_0f7a4_9 : decode cJ6_bitCount_0f7a4 9 = .ok (.istore_n 0, 1) := by decide +kernel
theorem dJ6_bitCount_0f7a4_10 : decode cJ6_bitCount_0f7a4 10 = .ok (.iload_n 0, 1) := by decide +kernel
theorem dJ6_bitCount_0f7a4_11 : decode cJ6_bitCount_0f7a4 11 = .ok (.ldc_w 266, 3) := by decide +kernel
theorem dJ6_bitCount_0f7a4_14 : decode cJ6_bitCount_0f7a4 14 = .ok (.iand, 1) := by decide +kernel
theorem dJ6_bitCount_0f7a4_15 : decode cJ6_bitCount_0f7a4 15 = .ok (.iload_n 0, 1) := by decide +kernel
theorem dJ6_bitCount_0f7a4_16 : decode cJ6_bitCount_0f7a4 16 = .ok (.iconst 2, 1) := by decide +kernel
theorem dJ6_bitCount_0f7a4_17 : decode cJ6_bitCount_0f7a4 17 = .ok (.iushr, 1) := by decide +kernel
theorem dJ6_bitCount_0f7a4_18 : decode cJ6_bitCount_0f7a4 18 = .ok (.ldc_w 266, 3) := by decide +kernel
theorem dJ6_bitCount_0f7a4_21 : decode cJ6_bitCount_0f7a4 21 = .ok (.iand, 1) := by decide +kernel
theorem dJ6_bitCount_0f7a4_22 : decode cJ6_bitCount_0f7a4 22 = .ok (.iadd, 1) := by decide +kernel
theorem dJ6_bitCount_0f7a4_23 : decode cJ6_bitCount_0f7a4 23 = .ok (.istore_n 0, 1) := by decide +kernel
theorem dJ6_bitCount_0f7a4_24 : decode cJ6_bitCount_0f7a4 24 = .ok (.iload_n 0, 1) := by decide +kernel
theorem dJ6_bitCount_0f7a4_25 : decode cJ6_bitCount_0f7a4 25 = .ok (.iload_n 0, 1) := by decide +kernel
theorem dJ6_bitCount_0f7a4_26 : decode cJ6_bitCount_0f7a4 26 = .ok (.iconst 4, 1) := by decide +kernel
theorem dJ6_bitCount_0f7a4_27 : decode cJ6_bitCount_0f7a4 27 = .ok (.iushr, 1) := by decide +kernel
theorem dJ6_bitCount_0f7a4_28 : decode cJ6_bitCount_0f7a4 28 = .ok (.iadd, 1) := by decide +kernel
theorem dJ6_bitCount_0f7a4_29 : decode cJ6_bitCount_0f7a4 29 = .ok (.ldc_w 267, 3) := by decide +kernel
theorem dJ6_bitCount_0f7a4_32 : decode cJ6_bitCount_0f7a4 32 = .ok (.iand, 1) := by decide +kernel
theorem dJ6_bitCount_0f7a4_33 : decode cJ6_bitCount_0f7a4 33 = .ok (.istore_n 0, 1) := by decide +kernel
theorem dJ6_bitCount_0f7a4_34 : decode cJ6_bitCount_0f7a4 34 = .ok (.iload_n 0, 1) := by decide +kernel
theorem dJ6_bitCount_0f7a4_35 : decode cJ6_bitCount_0f7a4 35 = .ok (.iload_n 0, 1) := by decide +kernel
theorem dJ6_bitCount_0f7a4_36 : decode cJ6_bitCount_0f7a4 36 = .ok (.bipush 8, 2) := by decide +kernel
theorem dJ6_bitCount_0f7a4_38 : decode cJ6_bitCount_0f7a4 38 = .ok (.iushr, 1) := by decide +kernel
theorem dJ6_bitCount_0f7a4_39 : decode cJ6_bitCount_0f7a4 39 = .ok (.iadd, 1) := by decide +kernel
theorem dJ6_bitCount_0f7a4_40 : decode cJ6_bitCount_0f7a4 40 = .ok (.istore_n 0, 1) := by decide +kernel
theorem dJ6_bitCount_0f7a4_41 : decode cJ6_bitCount_0f7a4 41 = .ok (.iload_n 0, 1) := by decide +kernel
theorem dJ6_bitCount_0f7a4_42 : decode cJ6_bitCount_0f7a4 42 = .ok (.iload_n 0, 1) := by decide +kernel
theorem dJ6_bitCount_0f7a4_43 : decode cJ6_bitCount_0f7a4 43 = .ok (.bipush 16, 2) := by decide +kernel
theorem dJ6_bitCount_0f7a4_45 : decode cJ6_bitCount_0f7a4 45 = .ok (.iushr, 1) := by decide +kernel
theorem dJ6_bitCount_0f7a4_46 : decode cJ6_bitCount_0f7a4 46 = .ok (.iadd, 1) := by decide +kernel
theorem dJ6_bitCount_0f7a4_47 : decode cJ6_bitCount_0f7a4 47 = .ok (.istore_n 0, 1) := by decide +kernel
theorem dJ6_bitCount_0f7a4_48 : decode cJ6_bitCount_0f7a4 48 = .ok (.iload_n 0, 1) := by decide +kernel
theorem dJ6_bitCount_0f7a4_49 : decode cJ6_bitCount_0f7a4 49 = .ok (.bipush 63, 2) := by decide +kernel
theorem dJ6_bitCount_0f7a4_51 : decode cJ6_bitCount_0f7a4 51 = .ok (.iand, 1) := by decide +kernel
theorem dJ6_bitCount_0f7a4_52 : decode cJ6_bitCount_0f7a4 52 = .ok (.ireturn, 1) := by decide +kernel
theorem dJ9_floorMod_7cf53_0 : decode cJ9_floorMod_7cf53 0 = .ok (.iload_n 0, 1) := by decide +kernel
theorem dJ9_floorMod_7cf53_1 : decode cJ9_floorMod_7cf53 1 = .ok (.iload_n 1, 1) := by decide +kernel
theorem dJ9_floorMod_7cf53_2 : decode cJ9_floorMod_7cf53 2 = .ok (.irem, 1) := by decide +kernel
theorem dJ9_floorMod_7cf53_3 : decode cJ9_floorMod_7cf53 3 = .ok (.istore_n 2, 1) := by decide +kernel
theorem dJ9_floorMod_7cf53_4 : decode cJ9_floorMod_7cf53 4 = .ok (.iload_n 0, 1) := by decide +kernel
theorem dJ9_floorMod_7cf53_5 : decode cJ9_floorMod_7cf53 5 = .ok (.iload_n 1, 1) := by decide +kernel
theorem dJ9_floorMod_7cf53_6 : decode cJ9_floorMod_7cf53 6 = .ok (.ixor, 1) := by decide +kernel
theorem dJ9_floorMod_7cf53_7 : decode cJ9_floorMod_7cf53 7 = .ok (.ifCond .ge 11, 3) := by decide +kernel
theorem dJ9_floorMod_7cf53_10 : decode cJ9_floorMod_7cf53 10 = .ok (.iload_n 2, 1) := by decide +kernel
theorem dJ9_floorMod_7cf53_11 : decode cJ9_floorMod_7cf53 11 = .ok (.ifCond .eq 7, 3) := by decide +kernel
theorem dJ9_floorMod_7cf53_14 : decode cJ9_floorMod_7cf53 14 = .ok (.iload_n 2, 1) := by decide +kernel
theorem dJ9_floorMod_7cf53_15 : decode cJ9_floorMod_7cf53 15 = .ok (.iload_n 1, 1) := by decide +kernel
theorem dJ9_floorMod_7cf53_16 : decode cJ9_floorMod_7cf53 16 = .ok (.iadd, 1) := by decide +kernel
theorem dJ9_floorMod_7cf53_17 : decode cJ9_floorMod_7cf53 17 = .ok (.ireturn, 1) := by decide +kernel
theorem dJ9_floorMod_7cf53_18 : decode cJ9_floorMod_7cf53 18 = .ok (.iload_n 2, 1) := by decide +kernel
theorem dJ9_floorMod_7cf53_19 : decode cJ9_floorMod_7cf53 19 = .ok (.ireturn, 1) := by decide +kernel
theorem dJ7_fill_53178_0 : decode cJ7_fill_53178 0 = .ok (.iconst 0, 1) := by decide +kernel
theorem dJ7_fill_53178_1 : decode cJ7_fill_53178 1 = .ok (.istore_n 2, 1) := by decide +kernel
theorem dJ7_fill_53178_2 : decode cJ7_fill_53178 2 = .ok (.aload_n 0, 1) := by decide +kernel
theorem dJ7_fill_53178_3 : decode cJ7_fill_53178 3 = .ok (.arraylength, 1) := by decide +kernel
theorem dJ7_fill_53178_4 : decode cJ7_fill_53178 4 = .ok (.istore_n 3, 1) := by decide +kernel
theorem dJ7_fill_53178_5 : decode cJ7_fill_53178 5 = .ok (.iload_n 2, 1) := by decide +kernel
theorem dJ7_fill_53178_6 : decode cJ7_fill_53178 6 = .ok (.iload_n 3, 1) := by decide +kernel
theorem dJ7_fill_53178_7 : decode cJ7_fill_53178 7 = .ok (.if_icmp .ge 13, 3) := by decide +kernel
theorem dJ7_fill_53178_10 : decode cJ7_fill_53178 10 = .ok (.aload_n 0, 1) := by decide +kernel
theorem dJ7_fill_53178_11 : decode cJ7_fill_53178 11 = .ok (.iload_n 2, 1) := by decide +kernel
theorem dJ7_fill_53178_12 : decode cJ7_fill_53178 12 = .ok (.iload_n 1, 1) := by decide +kernel
theorem dJ7_fill_53178_13 : decode cJ7_fill_53178 13 = .ok (.iastore, 1) := by decide +kernel
theorem dJ7_fill_53178_14 : decode cJ7_fill_53178 14 = .ok (.iinc 2 1, 3) := by decide +kernel
theorem dJ7_fill_53178_17 : decode cJ7_fill_53178 17 = .ok (.goto (-12), 3) := by decide +kernel
theorem dJ7_fill_53178_20 : decode cJ7_fill_53178 20 = .ok (.return_, 1) := by decide +kernel
theorem dL_law_0 : decode cL_law 0 = .ok (.new 7, 3) := by decide +kernel
theorem dL_law_3 : decode cL_law 3 = .ok (.dup, 1) := by decide +kernel
theorem dL_law_4 : decode cL_law 4 = .ok (.invokespecial 9, 3) := by decide +kernel
theorem dL_law_7 : decode cL_law 7 = .ok (.astore_n 1, 1) := by decide +kernel
theorem dL_law_8 : decode cL_law 8 = .ok (.new 10, 3) := by decide +kernel
theorem dL_law_11 : decode cL_law 11 = .ok (.dup, 1) := by decide +kernel
theorem dL_law_12 : decode cL_law 12 = .ok (.invokespecial 12, 3) := by decide +kernel
theorem dL_law_15 : decode cL_law 15 = .ok (.astore_n 2, 1) := by decide +kernel
theorem dL_law_16 : decode cL_law 16 = .ok (.iconst 0, 1) := by decide +kernel
theorem dL_law_17 : decode cL_law 17 = .ok (.istore_n 3, 1) := by decide +kernel
theorem dL_law_18 : decode cL_law 18 = .ok (.iload_n 3, 1) := by decide +kernel
theorem dL_law_19 : decode cL_law 19 = .ok (.aload_n 0, 1) := by decide +kernel
theorem dL_law_20 : decode cL_law 20 = .ok (.arraylength, 1) := by decide +kernel
theorem dL_law_21 : decode cL_law 21 = .ok (.iconst 4, 1) := by decide +kernel
theorem dL_law_22 : decode cL_law 22 = .ok (.isub, 1) := by decide +kernel
theorem dL_law_23 : decode cL_law 23 = .ok (.if_icmp .gt 668, 3) := by decide +kernel
theorem dL_law_26 : decode cL_law 26 = .ok (.aload_n 0, 1) := by decide +kernel
theorem dL_law_27 : decode cL_law 27 = .ok (.iload_n 3, 1) := by decide +kernel
theorem dL_law_28 : decode cL_law 28 = .ok (.iaload, 1) := by decide +kernel
theorem dL_law_29 : decode cL_law 29 = .ok (.bipush 31, 2) := by decide +kernel
theorem dL_law_31 : decode cL_law 31 = .ok (.iand, 1) := by decide +kernel
theorem dL_law_32 : decode cL_law 32 = .ok (.tableswitch 653 0 20 #[100, 133, 146, 169, 202, 235, 268, 311, 334, 347, 360, 393, 416, 439, 482, 515, 568, 581, 594, 607, 630], 100) := by decide +kernel
theorem dL_law_132 : decode cL_law 132 = .ok (.aload_n 1, 1) := by decide +kernel
theorem dL_law_133 : decode cL_law 133 = .ok (.aload_n 0, 1) := by decide +kernel
theorem dL_law_134 : decode cL_law 134 = .ok (.iload_n 3, 1) := by decide +kernel
theorem dL_law_135 : decode cL_law 135 = .ok (.iconst 1, 1) := by decide +kernel
theorem dL_law_136 : decode cL_law 136 = .ok (.iadd, 1) := by decide +kernel
theorem dL_law_137 : decode cL_law 137 = .ok (.iaload, 1) := by decide +kernel
theorem dL_law_138 : decode cL_law 138 = .ok (.aload_n 0, 1) := by decide +kernel
theorem dL_law_139 : decode cL_law 139 = .ok (.iload_n 3, 1) := by decide +kernel
theorem dL_law_140 : decode cL_law 140 = .ok (.iconst 2, 1) := by decide +kernel
theorem dL_law_141 : decode cL_law 141 = .ok (.iadd, 1) := by decide +kernel
theorem dL_law_142 : decode cL_law 142 = .ok (.iaload, 1) := by decide +kernel
theorem dL_law_143 : decode cL_law 143 = .ok (.invokevirtual 13, 3) := by decide +kernel
theorem dL_law_146 : decode cL_law 146 = .ok (.aload_n 2, 1) := by decide +kernel
theorem dL_law_147 : decode cL_law 147 = .ok (.aload_n 0, 1) := by decide +kernel
theorem dL_law_148 : decode cL_law 148 = .ok (.iload_n 3, 1) := by decide +kernel
theorem dL_law_149 : decode cL_law 149 = .ok (.iconst 1, 1) := by decide +kernel
theorem dL_law_150 : decode cL_law 150 = .ok (.iadd, 1) := by decide +kernel
theorem dL_law_151 : decode cL_law 151 = .ok (.iaload, 1) := by decide +kernel
theorem dL_law_152 : decode cL_law 152 = .ok (.aload_n 0, 1) := by decide +kernel
theorem dL_law_153 : decode cL_law 153 = .ok (.iload_n 3, 1) := by decide +kernel
theorem dL_law_154 : decode cL_law 154 = .ok (.iconst 2, 1) := by decide +kernel
theorem dL_law_155 : decode cL_law 155 = .ok (.iadd, 1) := by decide +kernel
theorem dL_law_156 : decode cL_law 156 = .ok (.iaload, 1) := by decide +kernel
theorem dL_law_157 : decode cL_law 157 = .ok (.invokevirtual 17, 3) := by decide +kernel
theorem dL_law_160 : decode cL_law 160 = .ok (.if_icmp .eq 525, 3) := by decide +kernel
theorem dL_law_163 : decode cL_law 163 = .ok (.iconst 0, 1) := by decide +kernel
theorem dL_law_164 : decode cL_law 164 = .ok (.ireturn, 1) := by decide +kernel
theorem dL_law_165 : decode cL_law 165 = .ok (.aload_n 1, 1) := by decide +kernel
theorem dL_law_166 : decode cL_law 166 = .ok (.invokevirtual 18, 3) := by decide +kernel
theorem dL_law_169 : decode cL_law 169 = .ok (.aload_n 2, 1) := by decide +kernel
theorem dL_law_170 : decode cL_law 170 = .ok (.invokevirtual 22, 3) := by decide +kernel
theorem dL_law_173 : decode cL_law 173 = .ok (.if_icmp .eq 512, 3) := by decide +kernel
theorem dL_law_176 : decode cL_law 176 = .ok (.iconst 0, 1) := by decide +kernel
theorem dL_law_177 : decode cL_law 177 = .ok (.ireturn, 1) := by decide +kernel
theorem dL_law_178 : decode cL_law 178 = .ok (.aload_n 1, 1) := by decide +kernel
theorem dL_law_179 : decode cL_law 179 = .ok (.aload_n 0, 1) := by decide +kernel
theorem dL_law_180 : decode cL_law 180 = .ok (.iload_n 3, 1) := by decide +kernel
theorem dL_law_181 : decode cL_law 181 = .ok (.iconst 1, 1) := by decide +kernel
theorem dL_law_182 : decode cL_law 182 = .ok (.iadd, 1) := by decide +kernel
theorem dL_law_183 : decode cL_law 183 = .ok (.iaload, 1) := by decide +kernel
theorem dL_law_184 : decode cL_law 184 = .ok (.invokevirtual 23, 3) := by decide +kernel
theorem dL_law_187 : decode cL_law 187 = .ok (.aload_n 2, 1) := by decide +kernel
theorem dL_law_188 : decode cL_law 188 = .ok (.aload_n 0, 1) := by decide +kernel
theorem dL_law_189 : decode cL_law 189 = .ok (.iload_n 3, 1) := by decide +kernel
theorem dL_law_190 : decode cL_law 190 = .ok (.iconst 1, 1) := by decide +kernel
theorem dL_law_191 : decode cL_law 191 = .ok (.iadd, 1) := by decide +kernel
theorem dL_law_192 : decode cL_law 192 = .ok (.iaload, 1) := by decide +kernel
theorem dL_law_193 : decode cL_law 193 = .ok (.invokevirtual 27, 3) := by decide +kernel
theorem dL_law_196 : decode cL_law 196 = .ok (.if_icmp .eq 489, 3) := by decide +kernel
theorem dL_law_199 : decode cL_law 199 = .ok (.iconst 0, 1) := by decide +kernel
theorem dL_law_200 : decode cL_law 200 = .ok (.ireturn, 1) := by decide +kernel
theorem dL_law_201 : decode cL_law 201 = .ok (.aload_n 1, 1) := by decide +kernel
theorem dL_law_202 : decode cL_law 202 = .ok (.aload_n 0, 1) := by decide +kernel
theorem dL_law_203 : decode cL_law 203 = .ok (.iload_n 3, 1) := by decide +kernel
theorem dL_law_204 : decode cL_law 204 = .ok (.iconst 1, 1) := by decide +kernel
theorem dL_law_205 : decode cL_law 205 = .ok (.iadd, 1) := by decide +kernel
theorem dL_law_206 : decode cL_law 206 = .ok (.iaload, 1) := by decide +kernel
theorem dL_law_207 : decode cL_law 207 = .ok (.aload_n 0, 1) := by decide +kernel
theorem dL_law_208 : decode cL_law 208 = .ok (.iload_n 3, 1) := by decide +kernel
theorem dL_law_209 : decode cL_law 209 = .ok (.iconst 2, 1) := by decide +kernel
theorem dL_law_210 : decode cL_law 210 = .ok (.iadd, 1) := by decide +kernel
theorem dL_law_211 : decode cL_law 211 = .ok (.iaload, 1) := by decide +kernel
theorem dL_law_212 : decode cL_law 212 = .ok (.invokevirtual 28, 3) := by decide +kernel
theorem dL_law_215 : decode cL_law 215 = .ok (.aload_n 2, 1) := by decide +kernel
theorem dL_law_216 : decode cL_law 216 = .ok (.aload_n 0, 1) := by decide +kernel
theorem dL_law_217 : decode cL_law 217 = .ok (.iload_n 3, 1) := by decide +kernel
theorem dL_law_218 : decode cL_law 218 = .ok (.iconst 1, 1) := by decide +kernel
theorem dL_law_219 : decode cL_law 219 = .ok (.iadd, 1) := by decide +kernel
theorem dL_law_220 : decode cL_law 220 = .ok (.iaload, 1) := by decide +kernel
theorem dL_law_221 : decode cL_law 221 = .ok (.aload_n 0, 1) := by decide +kernel
theorem dL_law_222 : decode cL_law 222 = .ok (.iload_n 3, 1) := by decide +kernel
theorem dL_law_223 : decode cL_law 223 = .ok (.iconst 2, 1) := by decide +kernel
theorem dL_law_224 : decode cL_law 224 = .ok (.iadd, 1) := by decide +kernel
theorem dL_law_225 : decode cL_law 225 = .ok (.iaload, 1) := by decide +kernel
theorem dL_law_226 : decode cL_law 226 = .ok (.invokevirtual 31, 3) := by decide +kernel
theorem dL_law_229 : decode cL_law 229 = .ok (.if_icmp .eq 456, 3) := by decide +kernel
theorem dL_law_232 : decode cL_law 232 = .ok (.iconst 0, 1) := by decide +kernel
theorem dL_law_233 : decode cL_law 233 = .ok (.ireturn, 1) := by decide +kernel
theorem dL_law_234 : decode cL_law 234 = .ok (.aload_n 1, 1) := by decide +kernel
theorem dL_law_235 : decode cL_law 235 = .ok (.aload_n 0, 1) := by decide +kernel
theorem dL_law_236 : decode cL_law 236 = .ok (.iload_n 3, 1) := by decide +kernel
theorem dL_law_237 : decode cL_law 237 = .ok (.iconst 1, 1) := by decide +kernel
theorem dL_law_238 : decode cL_law 238 = .ok (.iadd, 1) := by decide +kernel
theorem dL_law_239 : decode cL_law 239 = .ok (.iaload, 1) := by decide +kernel
theorem dL_law_240 : decode cL_law 240 = .ok (.aload_n 0, 1) := by decide +kernel
theorem dL_law_241 : decode cL_law 241 = .ok (.iload_n 3, 1) := by decide +kernel
theorem dL_law_242 : decode cL_law 242 = .ok (.iconst 2, 1) := by decide +kernel
theorem dL_law_243 : decode cL_law 243 = .ok (.iadd, 1) := by decide +kernel
theorem dL_law_244 : decode cL_law 244 = .ok (.iaload, 1) := by decide +kernel
theorem dL_law_245 : decode cL_law 245 = .ok (.invokevirtual 32, 3) := by decide +kernel
theorem dL_law_248 : decode cL_law 248 = .ok (.aload_n 2, 1) := by decide +kernel
theorem dL_law_249 : decode cL_law 249 = .ok (.aload_n 0, 1) := by decide +kernel
theorem dL_law_250 : decode cL_law 250 = .ok (.iload_n 3, 1) := by decide +kernel
theorem dL_law_251 : decode cL_law 251 = .ok (.iconst 1, 1) := by decide +kernel
theorem dL_law_252 : decode cL_law 252 = .ok (.iadd, 1) := by decide +kernel
theorem dL_law_253 : decode cL_law 253 = .ok (.iaload, 1) := by decide +kernel
theorem dL_law_254 : decode cL_law 254 = .ok (.aload_n 0, 1) := by decide +kernel
theorem dL_law_255 : decode cL_law 255 = .ok (.iload_n 3, 1) := by decide +kernel
theorem dL_law_256 : decode cL_law 256 = .ok (.iconst 2, 1) := by decide +kernel
theorem dL_law_257 : decode cL_law 257 = .ok (.iadd, 1) := by decide +kernel
theorem dL_law_258 : decode cL_law 258 = .ok (.iaload, 1) := by decide +kernel
theorem dL_law_259 : decode cL_law 259 = .ok (.invokevirtual 35, 3) := by decide +kernel
theorem dL_law_262 : decode cL_law 262 = .ok (.if_icmp .eq 423, 3) := by decide +kernel
theorem dL_law_265 : decode cL_law 265 = .ok (.iconst 0, 1) := by decide +kernel
theorem dL_law_266 : decode cL_law 266 = .ok (.ireturn, 1) := by decide +kernel
theorem dL_law_267 : decode cL_law 267 = .ok (.aload_n 1, 1) := by decide +kernel
theorem dL_law_268 : decode cL_law 268 = .ok (.aload_n 0, 1) := by decide +kernel
theorem dL_law_269 : decode cL_law 269 = .ok (.iload_n 3, 1) := by decide +kernel
theorem dL_law_270 : decode cL_law 270 = .ok (.iconst 1, 1) := by decide +kernel
theorem dL_law_271 : decode cL_law 271 = .ok (.iadd, 1) := by decide +kernel
theorem dL_law_272 : decode cL_law 272 = .ok (.iaload, 1) := by decide +kernel
theorem dL_law_273 : decode cL_law 273 = .ok (.aload_n 0, 1) := by decide +kernel
theorem dL_law_274 : decode cL_law 274 = .ok (.iload_n 3, 1) := by decide +kernel
theorem dL_law_275 : decode cL_law 275 = .ok (.iconst 2, 1) := by decide +kernel
theorem dL_law_276 : decode cL_law 276 = .ok (.iadd, 1) := by decide +kernel
theorem dL_law_277 : decode cL_law 277 = .ok (.iaload, 1) := by decide +kernel
theorem dL_law_278 : decode cL_law 278 = .ok (.invokevirtual 36, 3) := by decide +kernel
theorem dL_law_281 : decode cL_law 281 = .ok (.aload_n 2, 1) := by decide +kernel
theorem dL_law_282 : decode cL_law 282 = .ok (.aload_n 0, 1) := by decide +kernel
theorem dL_law_283 : decode cL_law 283 = .ok (.iload_n 3, 1) := by decide +kernel
theorem dL_law_284 : decode cL_law 284 = .ok (.iconst 1, 1) := by decide +kernel
theorem dL_law_285 : decode cL_law 285 = .ok (.iadd, 1) := by decide +kernel
theorem dL_law_286 : decode cL_law 286 = .ok (.iaload, 1) := by decide +kernel
theorem dL_law_287 : decode cL_law 287 = .ok (.aload_n 0, 1) := by decide +kernel
theorem dL_law_288 : decode cL_law 288 = .ok (.iload_n 3, 1) := by decide +kernel
theorem dL_law_289 : decode cL_law 289 = .ok (.iconst 2, 1) := by decide +kernel
theorem dL_law_290 : decode cL_law 290 = .ok (.iadd, 1) := by decide +kernel
theorem dL_law_291 : decode cL_law 291 = .ok (.iaload, 1) := by decide +kernel
theorem dL_law_292 : decode cL_law 292 = .ok (.invokevirtual 39, 3) := by decide +kernel
theorem dL_law_295 : decode cL_law 295 = .ok (.if_icmp .eq 390, 3) := by decide +kernel
theorem dL_law_298 : decode cL_law 298 = .ok (.iconst 0, 1) := by decide +kernel
theorem dL_law_299 : decode cL_law 299 = .ok (.ireturn, 1) := by decide +kernel
theorem dL_law_300 : decode cL_law 300 = .ok (.aload_n 1, 1) := by decide +kernel
theorem dL_law_301 : decode cL_law 301 = .ok (.aload_n 0, 1) := by decide +kernel
theorem dL_law_302 : decode cL_law 302 = .ok (.iload_n 3, 1) := by decide +kernel
theorem dL_law_303 : decode cL_law 303 = .ok (.iconst 1, 1) := by decide +kernel
theorem dL_law_304 : decode cL_law 304 = .ok (.iadd, 1) := by decide +kernel
theorem dL_law_305 : decode cL_law 305 = .ok (.iaload, 1) := by decide +kernel
theorem dL_law_306 : decode cL_law 306 = .ok (.aload_n 0, 1) := by decide +kernel
theorem dL_law_307 : decode cL_law 307 = .ok (.iload_n 3, 1) := by decide +kernel
theorem dL_law_308 : decode cL_law 308 = .ok (.iconst 2, 1) := by decide +kernel
theorem dL_law_309 : decode cL_law 309 = .ok (.iadd, 1) := by decide +kernel
theorem dL_law_310 : decode cL_law 310 = .ok (.iaload, 1) := by decide +kernel
theorem dL_law_311 : decode cL_law 311 = .ok (.aload_n 0, 1) := by decide +kernel
theorem dL_law_312 : decode cL_law 312 = .ok (.iload_n 3, 1) := by decide +kernel
theorem dL_law_313 : decode cL_law 313 = .ok (.iconst 3, 1) := by decide +kernel
theorem dL_law_314 : decode cL_law 314 = .ok (.iadd, 1) := by decide +kernel
theorem dL_law_315 : decode cL_law 315 = .ok (.iaload, 1) := by decide +kernel
theorem dL_law_316 : decode cL_law 316 = .ok (.invokevirtual 40, 3) := by decide +kernel
theorem dL_law_319 : decode cL_law 319 = .ok (.aload_n 2, 1) := by decide +kernel
theorem dL_law_320 : decode cL_law 320 = .ok (.aload_n 0, 1) := by decide +kernel
theorem dL_law_321 : decode cL_law 321 = .ok (.iload_n 3, 1) := by decide +kernel
theorem dL_law_322 : decode cL_law 322 = .ok (.iconst 1, 1) := by decide +kernel
theorem dL_law_323 : decode cL_law 323 = .ok (.iadd, 1) := by decide +kernel
theorem dL_law_324 : decode cL_law 324 = .ok (.iaload, 1) := by decide +kernel
theorem dL_law_325 : decode cL_law 325 = .ok (.aload_n 0, 1) := by decide +kernel
theorem dL_law_326 : decode cL_law 326 = .ok (.iload_n 3, 1) := by decide +kernel
theorem dL_law_327 : decode cL_law 327 = .ok (.iconst 2, 1) := by decide +kernel
theorem dL_law_328 : decode cL_law 328 = .ok (.iadd, 1) := by decide +kernel
theorem dL_law_329 : decode cL_law 329 = .ok (.iaload, 1) := by decide +kernel
theorem dL_law_330 : decode cL_law 330 = .ok (.aload_n 0, 1) := by decide +kernel
theorem dL_law_331 : decode cL_law 331 = .ok (.iload_n 3, 1) := by decide +kernel
theorem dL_law_332 : decode cL_law 332 = .ok (.iconst 3, 1) := by decide +kernel
theorem dL_law_333 : decode cL_law 333 = .ok (.iadd, 1) := by decide +kernel
theorem dL_law_334 : decode cL_law 334 = .ok (.iaload, 1) := by decide +kernel
theorem dL_law_335 : decode cL_law 335 = .ok (.invokevirtual 44, 3) := by decide +kernel
theorem dL_law_338 : decode cL_law 338 = .ok (.if_icmp .eq 347, 3) := by decide +kernel
theorem dL_law_341 : decode cL_law 341 = .ok (.iconst 0, 1) := by decide +kernel
theorem dL_law_342 : decode cL_law 342 = .ok (.ireturn, 1) := by decide +kernel
theorem dL_law_343 : decode cL_law 343 = .ok (.aload_n 1, 1) := by decide +kernel
theorem dL_law_344 : decode cL_law 344 = .ok (.aload_n 0, 1) := by decide +kernel
theorem dL_law_345 : decode cL_law 345 = .ok (.iload_n 3, 1) := by decide +kernel
theorem dL_law_346 : decode cL_law 346 = .ok (.iconst 1, 1) := by decide +kernel
theorem dL_law_347 : decode cL_law 347 = .ok (.iadd, 1) := by decide +kernel
theorem dL_law_348 : decode cL_law 348 = .ok (.iaload, 1) := by decide +kernel
theorem dL_law_349 : decode cL_law 349 = .ok (.invokevirtual 45, 3) := by decide +kernel
theorem dL_law_352 : decode cL_law 352 = .ok (.aload_n 2, 1) := by decide +kernel
theorem dL_law_353 : decode cL_law 353 = .ok (.aload_n 0, 1) := by decide +kernel
theorem dL_law_354 : decode cL_law 354 = .ok (.iload_n 3, 1) := by decide +kernel
theorem dL_law_355 : decode cL_law 355 = .ok (.iconst 1, 1) := by decide +kernel
theorem dL_law_356 : decode cL_law 356 = .ok (.iadd, 1) := by decide +kernel
theorem dL_law_357 : decode cL_law 357 = .ok (.iaload, 1) := by decide +kernel
theorem dL_law_358 : decode cL_law 358 = .ok (.invokevirtual 48, 3) := by decide +kernel
theorem dL_law_361 : decode cL_law 361 = .ok (.if_icmp .eq 324, 3) := by decide +kernel
theorem dL_law_364 : decode cL_law 364 = .ok (.iconst 0, 1) := by decide +kernel
theorem dL_law_365 : decode cL_law 365 = .ok (.ireturn, 1) := by decide +kernel
theorem dL_law_366 : decode cL_law 366 = .ok (.aload_n 1, 1) := by decide +kernel
theorem dL_law_367 : decode cL_law 367 = .ok (.invokevirtual 49, 3) := by decide +kernel
theorem dL_law_370 : decode cL_law 370 = .ok (.aload_n 2, 1) := by decide +kernel
theorem dL_law_371 : decode cL_law 371 = .ok (.invokevirtual 52, 3) := by decide +kernel
theorem dL_law_374 : decode cL_law 374 = .ok (.if_icmp .eq 311, 3) := by decide +kernel
theorem dL_law_377 : decode cL_law 377 = .ok (.iconst 0, 1) := by decide +kernel
theorem dL_law_378 : decode cL_law 378 = .ok (.ireturn, 1) := by decide +kernel
theorem dL_law_379 : decode cL_law 379 = .ok (.aload_n 1, 1) := by decide +kernel
theorem dL_law_380 : decode cL_law 380 = .ok (.invokevirtual 53, 3) := by decide +kernel
theorem dL_law_383 : decode cL_law 383 = .ok (.aload_n 2, 1) := by decide +kernel
theorem dL_law_384 : decode cL_law 384 = .ok (.invokevirtual 56, 3) := by decide +kernel
theorem dL_law_387 : decode cL_law 387 = .ok (.if_icmp .eq 298, 3) := by decide +kernel
theorem dL_law_390 : decode cL_law 390 = .ok (.iconst 0, 1) := by decide +kernel
theorem dL_law_391 : decode cL_law 391 = .ok (.ireturn, 1) := by decide +kernel
theorem dL_law_392 : decode cL_law 392 = .ok (.aload_n 1, 1) := by decide +kernel
theorem dL_law_393 : decode cL_law 393 = .ok (.aload_n 0, 1) := by decide +kernel
theorem dL_law_394 : decode cL_law 394 = .ok (.iload_n 3, 1) := by decide +kernel
theorem dL_law_395 : decode cL_law 395 = .ok (.iconst 1, 1) := by decide +kernel
theorem dL_law_396 : decode cL_law 396 = .ok (.iadd, 1) := by decide +kernel
theorem dL_law_397 : decode cL_law 397 = .ok (.iaload, 1) := by decide +kernel
theorem dL_law_398 : decode cL_law 398 = .ok (.aload_n 0, 1) := by decide +kernel
theorem dL_law_399 : decode cL_law 399 = .ok (.iload_n 3, 1) := by decide +kernel
theorem dL_law_400 : decode cL_law 400 = .ok (.iconst 2, 1) := by decide +kernel
theorem dL_law_401 : decode cL_law 401 = .ok (.iadd, 1) := by decide +kernel
theorem dL_law_402 : decode cL_law 402 = .ok (.iaload, 1) := by decide +kernel
theorem dL_law_403 : decode cL_law 403 = .ok (.invokevirtual 57, 3) := by decide +kernel
theorem dL_law_406 : decode cL_law 406 = .ok (.aload_n 2, 1) := by decide +kernel
theorem dL_law_407 : decode cL_law 407 = .ok (.aload_n 0, 1) := by decide +kernel
theorem dL_law_408 : decode cL_law 408 = .ok (.iload_n 3, 1) := by decide +kernel
theorem dL_law_409 : decode cL_law 409 = .ok (.iconst 1, 1) := by decide +kernel
theorem dL_law_410 : decode cL_law 410 = .ok (.iadd, 1) := by decide +kernel
theorem dL_law_411 : decode cL_law 411 = .ok (.iaload, 1) := by decide +kernel
theorem dL_law_412 : decode cL_law 412 = .ok (.aload_n 0, 1) := by decide +kernel
theorem dL_law_413 : decode cL_law 413 = .ok (.iload_n 3, 1) := by decide +kernel
theorem dL_law_414 : decode cL_law 414 = .ok (.iconst 2, 1) := by decide +kernel
theorem dL_law_415 : decode cL_law 415 = .ok (.iadd, 1) := by decide +kernel
theorem dL_law_416 : decode cL_law 416 = .ok (.iaload, 1) := by decide +kernel
theorem dL_law_417 : decode cL_law 417 = .ok (.invokevirtual 60, 3) := by decide +kernel
theorem dL_law_420 : decode cL_law 420 = .ok (.if_icmp .eq 265, 3) := by decide +kernel
theorem dL_law_423 : decode cL_law 423 = .ok (.iconst 0, 1) := by decide +kernel
theorem dL_law_424 : decode cL_law 424 = .ok (.ireturn, 1) := by decide +kernel
theorem dL_law_425 : decode cL_law 425 = .ok (.aload_n 1, 1) := by decide +kernel
theorem dL_law_426 : decode cL_law 426 = .ok (.aload_n 0, 1) := by decide +kernel
theorem dL_law_427 : decode cL_law 427 = .ok (.iload_n 3, 1) := by decide +kernel
theorem dL_law_428 : decode cL_law 428 = .ok (.iconst 1, 1) := by decide +kernel
theorem dL_law_429 : decode cL_law 429 = .ok (.iadd, 1) := by decide +kernel
theorem dL_law_430 : decode cL_law 430 = .ok (.iaload, 1) := by decide +kernel
theorem dL_law_431 : decode cL_law 431 = .ok (.invokevirtual 61, 3) := by decide +kernel
theorem dL_law_434 : decode cL_law 434 = .ok (.aload_n 2, 1) := by decide +kernel
theorem dL_law_435 : decode cL_law 435 = .ok (.aload_n 0, 1) := by decide +kernel
theorem dL_law_436 : decode cL_law 436 = .ok (.iload_n 3, 1) := by decide +kernel
theorem dL_law_437 : decode cL_law 437 = .ok (.iconst 1, 1) := by decide +kernel
theorem dL_law_438 : decode cL_law 438 = .ok (.iadd, 1) := by decide +kernel
theorem dL_law_439 : decode cL_law 439 = .ok (.iaload, 1) := by decide +kernel
theorem dL_law_440 : decode cL_law 440 = .ok (.invokevirtual 64, 3) := by decide +kernel
theorem dL_law_443 : decode cL_law 443 = .ok (.if_icmp .eq 242, 3) := by decide +kernel
theorem dL_law_446 : decode cL_law 446 = .ok (.iconst 0, 1) := by decide +kernel
theorem dL_law_447 : decode cL_law 447 = .ok (.ireturn, 1) := by decide +kernel
theorem dL_law_448 : decode cL_law 448 = .ok (.aload_n 1, 1) := by decide +kernel
theorem dL_law_449 : decode cL_law 449 = .ok (.aload_n 0, 1) := by decide +kernel
theorem dL_law_450 : decode cL_law 450 = .ok (.iload_n 3, 1) := by decide +kernel
theorem dL_law_451 : decode cL_law 451 = .ok (.iconst 1, 1) := by decide +kernel
theorem dL_law_452 : decode cL_law 452 = .ok (.iadd, 1) := by decide +kernel
theorem dL_law_453 : decode cL_law 453 = .ok (.iaload, 1) := by decide +kernel
theorem dL_law_454 : decode cL_law 454 = .ok (.invokevirtual 65, 3) := by decide +kernel
theorem dL_law_457 : decode cL_law 457 = .ok (.aload_n 2, 1) := by decide +kernel
theorem dL_law_458 : decode cL_law 458 = .ok (.aload_n 0, 1) := by decide +kernel
theorem dL_law_459 : decode cL_law 459 = .ok (.iload_n 3, 1) := by decide +kernel
theorem dL_law_460 : decode cL_law 460 = .ok (.iconst 1, 1) := by decide +kernel
theorem dL_law_461 : decode cL_law 461 = .ok (.iadd, 1) := by decide +kernel
theorem dL_law_462 : decode cL_law 462 = .ok (.iaload, 1) := by decide +kernel
theorem dL_law_463 : decode cL_law 463 = .ok (.invokevirtual 68, 3) := by decide +kernel
theorem dL_law_466 : decode cL_law 466 = .ok (.if_icmp .eq 219, 3) := by decide +kernel
theorem dL_law_469 : decode cL_law 469 = .ok (.iconst 0, 1) := by decide +kernel
theorem dL_law_470 : decode cL_law 470 = .ok (.ireturn, 1) := by decide +kernel
theorem dL_law_471 : decode cL_law 471 = .ok (.aload_n 1, 1) := by decide +kernel
theorem dL_law_472 : decode cL_law 472 = .ok (.aload_n 0, 1) := by decide +kernel
theorem dL_law_473 : decode cL_law 473 = .ok (.iload_n 3, 1) := by decide +kernel
theorem dL_law_474 : decode cL_law 474 = .ok (.iconst 1, 1) := by decide +kernel
theorem dL_law_475 : decode cL_law 475 = .ok (.iadd, 1) := by decide +kernel
theorem dL_law_476 : decode cL_law 476 = .ok (.iaload, 1) := by decide +kernel
theorem dL_law_477 : decode cL_law 477 = .ok (.aload_n 0, 1) := by decide +kernel
theorem dL_law_478 : decode cL_law 478 = .ok (.iload_n 3, 1) := by decide +kernel
theorem dL_law_479 : decode cL_law 479 = .ok (.iconst 2, 1) := by decide +kernel
theorem dL_law_480 : decode cL_law 480 = .ok (.iadd, 1) := by decide +kernel
theorem dL_law_481 : decode cL_law 481 = .ok (.iaload, 1) := by decide +kernel
theorem dL_law_482 : decode cL_law 482 = .ok (.aload_n 0, 1) := by decide +kernel
theorem dL_law_483 : decode cL_law 483 = .ok (.iload_n 3, 1) := by decide +kernel
theorem dL_law_484 : decode cL_law 484 = .ok (.iconst 3, 1) := by decide +kernel
theorem dL_law_485 : decode cL_law 485 = .ok (.iadd, 1) := by decide +kernel
theorem dL_law_486 : decode cL_law 486 = .ok (.iaload, 1) := by decide +kernel
theorem dL_law_487 : decode cL_law 487 = .ok (.invokevirtual 69, 3) := by decide +kernel
theorem dL_law_490 : decode cL_law 490 = .ok (.aload_n 2, 1) := by decide +kernel
theorem dL_law_491 : decode cL_law 491 = .ok (.aload_n 0, 1) := by decide +kernel
theorem dL_law_492 : decode cL_law 492 = .ok (.iload_n 3, 1) := by decide +kernel
theorem dL_law_493 : decode cL_law 493 = .ok (.iconst 1, 1) := by decide +kernel
theorem dL_law_494 : decode cL_law 494 = .ok (.iadd, 1) := by decide +kernel
theorem dL_law_495 : decode cL_law 495 = .ok (.iaload, 1) := by decide +kernel
theorem dL_law_496 : decode cL_law 496 = .ok (.aload_n 0, 1) := by decide +kernel
theorem dL_law_497 : decode cL_law 497 = .ok (.iload_n 3, 1) := by decide +kernel
theorem dL_law_498 : decode cL_law 498 = .ok (.iconst 2, 1) := by decide +kernel
theorem dL_law_499 : decode cL_law 499 = .ok (.iadd, 1) := by decide +kernel
theorem dL_law_500 : decode cL_law 500 = .ok (.iaload, 1) := by decide +kernel
theorem dL_law_501 : decode cL_law 501 = .ok (.aload_n 0, 1) := by decide +kernel
theorem dL_law_502 : decode cL_law 502 = .ok (.iload_n 3, 1) := by decide +kernel
theorem dL_law_503 : decode cL_law 503 = .ok (.iconst 3, 1) := by decide +kernel
theorem dL_law_504 : decode cL_law 504 = .ok (.iadd, 1) := by decide +kernel
theorem dL_law_505 : decode cL_law 505 = .ok (.iaload, 1) := by decide +kernel
theorem dL_law_506 : decode cL_law 506 = .ok (.invokevirtual 72, 3) := by decide +kernel
theorem dL_law_509 : decode cL_law 509 = .ok (.if_icmp .eq 176, 3) := by decide +kernel
theorem dL_law_512 : decode cL_law 512 = .ok (.iconst 0, 1) := by decide +kernel
theorem dL_law_513 : decode cL_law 513 = .ok (.ireturn, 1) := by decide +kernel
theorem dL_law_514 : decode cL_law 514 = .ok (.aload_n 1, 1) := by decide +kernel
theorem dL_law_515 : decode cL_law 515 = .ok (.aload_n 0, 1) := by decide +kernel
theorem dL_law_516 : decode cL_law 516 = .ok (.iload_n 3, 1) := by decide +kernel
theorem dL_law_517 : decode cL_law 517 = .ok (.iconst 1, 1) := by decide +kernel
theorem dL_law_518 : decode cL_law 518 = .ok (.iadd, 1) := by decide +kernel
theorem dL_law_519 : decode cL_law 519 = .ok (.iaload, 1) := by decide +kernel
theorem dL_law_520 : decode cL_law 520 = .ok (.aload_n 0, 1) := by decide +kernel
theorem dL_law_521 : decode cL_law 521 = .ok (.iload_n 3, 1) := by decide +kernel
theorem dL_law_522 : decode cL_law 522 = .ok (.iconst 2, 1) := by decide +kernel
theorem dL_law_523 : decode cL_law 523 = .ok (.iadd, 1) := by decide +kernel
theorem dL_law_524 : decode cL_law 524 = .ok (.iaload, 1) := by decide +kernel
theorem dL_law_525 : decode cL_law 525 = .ok (.invokevirtual 73, 3) := by decide +kernel
theorem dL_law_528 : decode cL_law 528 = .ok (.aload_n 2, 1) := by decide +kernel
theorem dL_law_529 : decode cL_law 529 = .ok (.aload_n 0, 1) := by decide +kernel
theorem dL_law_530 : decode cL_law 530 = .ok (.iload_n 3, 1) := by decide +kernel
theorem dL_law_531 : decode cL_law 531 = .ok (.iconst 1, 1) := by decide +kernel
theorem dL_law_532 : decode cL_law 532 = .ok (.iadd, 1) := by decide +kernel
theorem dL_law_533 : decode cL_law 533 = .ok (.iaload, 1) := by decide +kernel
theorem dL_law_534 : decode cL_law 534 = .ok (.aload_n 0, 1) := by decide +kernel
theorem dL_law_535 : decode cL_law 535 = .ok (.iload_n 3, 1) := by decide +kernel
theorem dL_law_536 : decode cL_law 536 = .ok (.iconst 2, 1) := by decide +kernel
theorem dL_law_537 : decode cL_law 537 = .ok (.iadd, 1) := by decide +kernel
theorem dL_law_538 : decode cL_law 538 = .ok (.iaload, 1) := by decide +kernel
theorem dL_law_539 : decode cL_law 539 = .ok (.invokevirtual 76, 3) := by decide +kernel
theorem dL_law_542 : decode cL_law 542 = .ok (.if_icmp .eq 143, 3) := by decide +kernel
theorem dL_law_545 : decode cL_law 545 = .ok (.iconst 0, 1) := by decide +kernel
theorem dL_law_546 : decode cL_law 546 = .ok (.ireturn, 1) := by decide +kernel
theorem dL_law_547 : decode cL_law 547 = .ok (.aload_n 1, 1) := by decide +kernel
theorem dL_law_548 : decode cL_law 548 = .ok (.aload_n 0, 1) := by decide +kernel
theorem dL_law_549 : decode cL_law 549 = .ok (.iload_n 3, 1) := by decide +kernel
theorem dL_law_550 : decode cL_law 550 = .ok (.iconst 1, 1) := by decide +kernel
theorem dL_law_551 : decode cL_law 551 = .ok (.iadd, 1) := by decide +kernel
theorem dL_law_552 : decode cL_law 552 = .ok (.iaload, 1) := by decide +kernel
theorem dL_law_553 : decode cL_law 553 = .ok (.i2l, 1) := by decide +kernel
theorem dL_law_554 : decode cL_law 554 = .ok (.bipush 32, 2) := by decide +kernel
theorem dL_law_556 : decode cL_law 556 = .ok (.lshl, 1) := by decide +kernel
theorem dL_law_557 : decode cL_law 557 = .ok (.aload_n 0, 1) := by decide +kernel
theorem dL_law_558 : decode cL_law 558 = .ok (.iload_n 3, 1) := by decide +kernel
theorem dL_law_559 : decode cL_law 559 = .ok (.iconst 2, 1) := by decide +kernel
theorem dL_law_560 : decode cL_law 560 = .ok (.iadd, 1) := by decide +kernel
theorem dL_law_561 : decode cL_law 561 = .ok (.iaload, 1) := by decide +kernel
theorem dL_law_562 : decode cL_law 562 = .ok (.i2l, 1) := by decide +kernel
theorem dL_law_563 : decode cL_law 563 = .ok (.ldc2_w 77, 3) := by decide +kernel
theorem dL_law_566 : decode cL_law 566 = .ok (.land, 1) := by decide +kernel
theorem dL_law_567 : decode cL_law 567 = .ok (.lor, 1) := by decide +kernel
theorem dL_law_568 : decode cL_law 568 = .ok (.invokevirtual 79, 3) := by decide +kernel
theorem dL_law_571 : decode cL_law 571 = .ok (.aload_n 2, 1) := by decide +kernel
theorem dL_law_572 : decode cL_law 572 = .ok (.aload_n 0, 1) := by decide +kernel
theorem dL_law_573 : decode cL_law 573 = .ok (.iload_n 3, 1) := by decide +kernel
theorem dL_law_574 : decode cL_law 574 = .ok (.iconst 1, 1) := by decide +kernel
theorem dL_law_575 : decode cL_law 575 = .ok (.iadd, 1) := by decide +kernel
theorem dL_law_576 : decode cL_law 576 = .ok (.iaload, 1) := by decide +kernel
theorem dL_law_577 : decode cL_law 577 = .ok (.i2l, 1) := by decide +kernel
theorem dL_law_578 : decode cL_law 578 = .ok (.bipush 32, 2) := by decide +kernel
theorem dL_law_580 : decode cL_law 580 = .ok (.lshl, 1) := by decide +kernel
theorem dL_law_581 : decode cL_law 581 = .ok (.aload_n 0, 1) := by decide +kernel
theorem dL_law_582 : decode cL_law 582 = .ok (.iload_n 3, 1) := by decide +kernel
theorem dL_law_583 : decode cL_law 583 = .ok (.iconst 2, 1) := by decide +kernel
theorem dL_law_584 : decode cL_law 584 = .ok (.iadd, 1) := by decide +kernel
theorem dL_law_585 : decode cL_law 585 = .ok (.iaload, 1) := by decide +kernel
theorem dL_law_586 : decode cL_law 586 = .ok (.i2l, 1) := by decide +kernel
theorem dL_law_587 : decode cL_law 587 = .ok (.ldc2_w 77, 3) := by decide +kernel
theorem dL_law_590 : decode cL_law 590 = .ok (.land, 1) := by decide +kernel
theorem dL_law_591 : decode cL_law 591 = .ok (.lor, 1) := by decide +kernel
theorem dL_law_592 : decode cL_law 592 = .ok (.invokevirtual 83, 3) := by decide +kernel
theorem dL_law_595 : decode cL_law 595 = .ok (.if_icmp .eq 90, 3) := by decide +kernel
theorem dL_law_598 : decode cL_law 598 = .ok (.iconst 0, 1) := by decide +kernel
theorem dL_law_599 : decode cL_law 599 = .ok (.ireturn, 1) := by decide +kernel
theorem dL_law_600 : decode cL_law 600 = .ok (.aload_n 1, 1) := by decide +kernel
theorem dL_law_601 : decode cL_law 601 = .ok (.invokevirtual 84, 3) := by decide +kernel
theorem dL_law_604 : decode cL_law 604 = .ok (.aload_n 2, 1) := by decide +kernel
theorem dL_law_605 : decode cL_law 605 = .ok (.invokevirtual 87, 3) := by decide +kernel
theorem dL_law_608 : decode cL_law 608 = .ok (.if_icmp .eq 77, 3) := by decide +kernel
theorem dL_law_611 : decode cL_law 611 = .ok (.iconst 0, 1) := by decide +kernel
theorem dL_law_612 : decode cL_law 612 = .ok (.ireturn, 1) := by decide +kernel
theorem dL_law_613 : decode cL_law 613 = .ok (.aload_n 1, 1) := by decide +kernel
theorem dL_law_614 : decode cL_law 614 = .ok (.invokevirtual 88, 3) := by decide +kernel
theorem dL_law_617 : decode cL_law 617 = .ok (.aload_n 2, 1) := by decide +kernel
theorem dL_law_618 : decode cL_law 618 = .ok (.invokevirtual 91, 3) := by decide +kernel
theorem dL_law_621 : decode cL_law 621 = .ok (.if_icmp .eq 64, 3) := by decide +kernel
theorem dL_law_624 : decode cL_law 624 = .ok (.iconst 0, 1) := by decide +kernel
theorem dL_law_625 : decode cL_law 625 = .ok (.ireturn, 1) := by decide +kernel
theorem dL_law_626 : decode cL_law 626 = .ok (.aload_n 1, 1) := by decide +kernel
theorem dL_law_627 : decode cL_law 627 = .ok (.invokevirtual 92, 3) := by decide +kernel
theorem dL_law_630 : decode cL_law 630 = .ok (.aload_n 2, 1) := by decide +kernel
theorem dL_law_631 : decode cL_law 631 = .ok (.invokevirtual 95, 3) := by decide +kernel
theorem dL_law_634 : decode cL_law 634 = .ok (.if_icmp .eq 51, 3) := by decide +kernel
theorem dL_law_637 : decode cL_law 637 = .ok (.iconst 0, 1) := by decide +kernel
theorem dL_law_638 : decode cL_law 638 = .ok (.ireturn, 1) := by decide +kernel
theorem dL_law_639 : decode cL_law 639 = .ok (.aload_n 1, 1) := by decide +kernel
theorem dL_law_640 : decode cL_law 640 = .ok (.aload_n 0, 1) := by decide +kernel
theorem dL_law_641 : decode cL_law 641 = .ok (.iload_n 3, 1) := by decide +kernel
theorem dL_law_642 : decode cL_law 642 = .ok (.iconst 1, 1) := by decide +kernel
theorem dL_law_643 : decode cL_law 643 = .ok (.iadd, 1) := by decide +kernel
theorem dL_law_644 : decode cL_law 644 = .ok (.iaload, 1) := by decide +kernel
theorem dL_law_645 : decode cL_law 645 = .ok (.invokevirtual 96, 3) := by decide +kernel
theorem dL_law_648 : decode cL_law 648 = .ok (.aload_n 2, 1) := by decide +kernel
theorem dL_law_649 : decode cL_law 649 = .ok (.aload_n 0, 1) := by decide +kernel
theorem dL_law_650 : decode cL_law 650 = .ok (.iload_n 3, 1) := by decide +kernel
theorem dL_law_651 : decode cL_law 651 = .ok (.iconst 1, 1) := by decide +kernel
theorem dL_law_652 : decode cL_law 652 = .ok (.iadd, 1) := by decide +kernel
theorem dL_law_653 : decode cL_law 653 = .ok (.iaload, 1) := by decide +kernel
theorem dL_law_654 : decode cL_law 654 = .ok (.invokevirtual 99, 3) := by decide +kernel
theorem dL_law_657 : decode cL_law 657 = .ok (.if_icmp .eq 28, 3) := by decide +kernel
theorem dL_law_660 : decode cL_law 660 = .ok (.iconst 0, 1) := by decide +kernel
theorem dL_law_661 : decode cL_law 661 = .ok (.ireturn, 1) := by decide +kernel
theorem dL_law_662 : decode cL_law 662 = .ok (.aload_n 1, 1) := by decide +kernel
theorem dL_law_663 : decode cL_law 663 = .ok (.aload_n 0, 1) := by decide +kernel
theorem dL_law_664 : decode cL_law 664 = .ok (.iload_n 3, 1) := by decide +kernel
theorem dL_law_665 : decode cL_law 665 = .ok (.iconst 1, 1) := by decide +kernel
theorem dL_law_666 : decode cL_law 666 = .ok (.iadd, 1) := by decide +kernel
theorem dL_law_667 : decode cL_law 667 = .ok (.iaload, 1) := by decide +kernel
theorem dL_law_668 : decode cL_law 668 = .ok (.invokevirtual 100, 3) := by decide +kernel
theorem dL_law_671 : decode cL_law 671 = .ok (.aload_n 2, 1) := by decide +kernel
theorem dL_law_672 : decode cL_law 672 = .ok (.aload_n 0, 1) := by decide +kernel
theorem dL_law_673 : decode cL_law 673 = .ok (.iload_n 3, 1) := by decide +kernel
theorem dL_law_674 : decode cL_law 674 = .ok (.iconst 1, 1) := by decide +kernel
theorem dL_law_675 : decode cL_law 675 = .ok (.iadd, 1) := by decide +kernel
theorem dL_law_676 : decode cL_law 676 = .ok (.iaload, 1) := by decide +kernel
theorem dL_law_677 : decode cL_law 677 = .ok (.invokevirtual 103, 3) := by decide +kernel
theorem dL_law_680 : decode cL_law 680 = .ok (.if_icmp .eq 5, 3) := by decide +kernel
theorem dL_law_683 : decode cL_law 683 = .ok (.iconst 0, 1) := by decide +kernel
theorem dL_law_684 : decode cL_law 684 = .ok (.ireturn, 1) := by decide +kernel
theorem dL_law_685 : decode cL_law 685 = .ok (.iinc 3 4, 3) := by decide +kernel
theorem dL_law_688 : decode cL_law 688 = .ok (.goto (-670), 3) := by decide +kernel
theorem dL_law_691 : decode cL_law 691 = .ok (.iconst 1, 1) := by decide +kernel
theorem dL_law_692 : decode cL_law 692 = .ok (.ireturn, 1) := by decide +kernel
end
section
/-! the z layer: worlds as lists of blocks; a contract that names its answer and its world exactly; one row an instruction, one row a call -/
abbrev zB : Type := List va_W
def bl (bs : zB) : va_W := bs.flatten
theorem it_t {α : Type} {c : Prop} {i : Decidable c} {a b r : α} (h : c) (hf : @ite α c i a b = r) : a = r := by
  rw [if_pos h] at hf; exact hf
theorem it_f {α : Type} {c : Prop} {i : Decidable c} {a b r : α} (h : ¬ c) (hf : @ite α c i a b = r) : b = r := by
  rw [if_neg h] at hf; exact hf
theorem in_s {α : Type} {c : Prop} {i : Decidable c} {a : Option α} {r : α} (hf : @ite (Option α) c i none a = some r) : ¬ c ∧ a = some r := by
  by_cases h : c
  · rw [if_pos h] at hf; cases hf
  · rw [if_neg h] at hf; exact ⟨h, hf⟩
theorem ob_s {α β : Type} {x : Option α} {k : α → Option β} {r : β} (hf : x.bind k = some r) : ∃ q, x = some q ∧ k q = some r := by
  cases x with
  | none => cases hf
  | some q => exact ⟨q, rfl, hf⟩
theorem so_s {α : Type} {x r : α} (hf : some x = some r) : x = r := Option.some.inj hf
theorem zP_mem {D : va_G} {cl : List vw_C} {ws : va_W} {H : Heap} : va_P D cl ws H ↔ ∀ q ∈ ws, va_at D cl q H := by
  constructor
  · intro h q hq
    obtain ⟨k, hk⟩ := List.getElem?_of_mem hq
    exact h k q hk
  · intro h k q hk
    exact h q (List.mem_of_getElem? hk)
theorem zD_iff {A : Nat → Prop} {ws : va_W} : va_D A ws ↔ (ws.map Prod.fst).Nodup ∧ ∀ q ∈ ws, A q.1 := by
  constructor
  · intro h
    obtain ⟨h1, h2⟩ := h
    refine ⟨?_, fun q hq => ?_⟩
    · rw [List.Nodup, List.pairwise_iff_getElem]
      intro i j hi hj hij heq
      rw [List.getElem_map, List.getElem_map] at heq
      have hi' : i < ws.length := by rw [List.length_map] at hi; exact hi
      have hj' : j < ws.length := by rw [List.length_map] at hj; exact hj
      have := h1 i j ws[i] ws[j] (List.getElem?_eq_getElem hi') (List.getElem?_eq_getElem hj') heq
      omega
    · obtain ⟨k, hk⟩ := List.getElem?_of_mem hq
      exact h2 k q hk
  · intro h
    obtain ⟨h1, h2⟩ := h
    refine ⟨?_, fun k q hk => h2 q (List.mem_of_getElem? hk)⟩
    intro i j p q hp hq hpq
    rw [List.Nodup, List.pairwise_iff_getElem] at h1
    obtain ⟨hi, hi'⟩ := List.getElem?_eq_some_iff.mp hp
    obtain ⟨hj, hj'⟩ := List.getElem?_eq_some_iff.mp hq
    rcases Nat.lt_trichotomy i j with h | h | h
    · refine absurd ?_ (h1 i j (by rw [List.length_map]; exact hi) (by rw [List.length_map]; exact hj) h)
      rw [List.getElem_map, List.getElem_map, hi', hj', hpq]
    · exact h
    · refine absurd ?_ (h1 j i (by rw [List.length_map]; exact hj) (by rw [List.length_map]; exact hi) h)
      rw [List.getElem_map, List.getElem_map, hi', hj', hpq]
theorem zA_iff {ws : va_W} {sz q : Nat} : va_A ws sz q ↔ (∃ e, (q, e) ∈ ws) ∨ sz ≤ q := by
  constructor
  · rintro (⟨k, e, h⟩ | h)
    · exact Or.inl ⟨e, List.mem_of_getElem? h⟩
    · exact Or.inr h
  · rintro (⟨e, h⟩ | h)
    · obtain ⟨k, hk⟩ := List.getElem?_of_mem h
      exact Or.inl ⟨k, e, hk⟩
    · exact Or.inr h
theorem z_range {α : Type} (bs : List α) : (List.range bs.length).map (fun i => bs[i]?) = bs.map some := by
  apply List.ext_getElem?
  intro i
  rw [List.getElem?_map, List.getElem?_map]
  by_cases h : i < bs.length
  · rw [List.getElem?_range h, List.getElem?_eq_getElem h]
    simp [List.getElem?_eq_getElem h]
  · rw [List.getElem?_eq_none (by rw [List.length_range]; omega), List.getElem?_eq_none (by omega)]
    rfl
theorem z_unsome {α : Type} (l : List α) : (l.map some).filterMap id = l := by
  induction l with
  | nil => rfl
  | cons a l ih => simp
theorem z_perm {α : Type} {bs bs2 : List α} (is : List Nat) (hp : is.Perm (List.range bs.length)) (h : is.map (fun i => bs[i]?) = bs2.map some) : bs.Perm bs2 := by
  have h1 := hp.map (fun i => bs[i]?)
  rw [h, z_range] at h1
  have h3 := h1.filterMap id
  rw [z_unsome, z_unsome] at h3
  exact h3.symm
theorem z_join {D : va_G} {A0 : Nat → Prop} {bs bs' wc wc' rest : zB} {H H1 : Heap} (hP : va_P D vwCl (bl bs) H) (hD : va_D A0 (bl bs)) (hp : bs.Perm (wc ++ rest)) (hp' : bs'.Perm (wc' ++ rest)) (hk : ∀ q : Nat, q < H.size → ¬ va_A (bl wc) H.size q → H1[q]? = H[q]?) (hA : ∀ q : Nat, H.size ≤ q → A0 q)
    (hP1 : va_P D vwCl (bl wc') H1) (hD1 : va_D (va_A (bl wc) H.size) (bl wc')) : va_P D vwCl (bl bs') H1 ∧ va_D A0 (bl bs') := by
  have f1 : (bl bs).Perm (bl wc ++ bl rest) := by
    have := hp.flatten
    rw [List.flatten_append] at this
    exact this
  have f2 : (bl bs').Perm (bl wc' ++ bl rest) := by
    have := hp'.flatten
    rw [List.flatten_append] at this
    exact this
  have m1 : ∀ q, q ∈ bl bs ↔ q ∈ bl wc ∨ q ∈ bl rest := fun q => by rw [f1.mem_iff, List.mem_append]
  have m2 : ∀ q, q ∈ bl bs' ↔ q ∈ bl wc' ∨ q ∈ bl rest := fun q => by rw [f2.mem_iff, List.mem_append]
  rw [zP_mem] at hP hP1 ⊢
  rw [zD_iff] at hD hD1 ⊢
  have n1 : ((bl wc ++ bl rest).map Prod.fst).Nodup := (f1.map Prod.fst).nodup_iff.mp hD.1
  rw [List.map_append, List.nodup_append] at n1
  have hlt : ∀ q ∈ bl rest, q.1 < H.size := fun q hq => (hP q ((m1 q).mpr (Or.inr hq))).lt
  have hno : ∀ q ∈ bl rest, ¬ va_A (bl wc) H.size q.1 := by
    intro q hq hc
    rcases zA_iff.mp hc with ⟨e, he⟩ | he
    · exact n1.2.2 q.1 (List.mem_map.mpr ⟨(q.1, e), he, rfl⟩) q.1 (List.mem_map.mpr ⟨q, hq, rfl⟩) rfl
    · exact absurd (hlt q hq) (by omega)
  refine ⟨?_, ?_, ?_⟩
  · intro q hq
    rcases (m2 q).mp hq with h | h
    · exact hP1 q h
    · exact (hP q ((m1 q).mpr (Or.inr h))).kept (hk q.1 (hlt q h) (hno q h))
  · refine (f2.map Prod.fst).nodup_iff.mpr ?_
    rw [List.map_append, List.nodup_append]
    refine ⟨hD1.1, n1.2.1, ?_⟩
    intro a ha b hb hab
    obtain ⟨q, hq, rfl⟩ := List.mem_map.mp ha
    obtain ⟨r, hr, rfl⟩ := List.mem_map.mp hb
    have h1 := hD1.2 q hq
    rw [hab] at h1
    exact hno r hr h1
  · intro q hq
    rcases (m2 q).mp hq with h | h
    · rcases zA_iff.mp (hD1.2 q h) with ⟨e, he⟩ | he
      · exact hD.2 (q.1, e) ((m1 _).mpr (Or.inl he))
      · exact hA _ he
    · exact hD.2 q ((m1 q).mpr (Or.inr h))
/-- the words of the tables that any method may lean on -/
def zAll : List Cond := lw_tbl.filter goodWord
theorem zAll_good {w : Cond} (h : w ∈ zAll) : (w.onTables && w.keeps) = true ∨ ∃ ty, w = .arrayClass ty := good_of_word (List.mem_filter.mp h).2
theorem zAll_of {w : Cond} (h : w ∈ lw_tbl) (hg : goodWord w = true) : w ∈ zAll := List.mem_filter.mpr ⟨h, hg⟩
theorem zTb {w : Cond} (i : Nat) (h : tables_1[i]? = some w) : w ∈ lw_tbl := List.mem_append_right _ (List.mem_of_getElem? h)
def zWs (y : MethodName) (cc : ByteArray) (maxL : Nat) (ret : Option FieldType) : List Cond := .code y cc maxL ret :: zAll
theorem zGood {y : MethodName} {cc : ByteArray} {maxL : Nat} {ret : Option FieldType} (h : Cond.code y cc maxL ret ∈ zAll) : GoodIn zAll (zWs y cc maxL ret) := by
  intro w hw
  rcases List.mem_cons.mp hw with e | e
  · rw [e]; exact ⟨h, zAll_good h⟩
  · exact ⟨e, zAll_good e⟩
def zNf : List (String × Nat × String × String × String × String) := [("JugglerStates", 121, "JugglerStates$Juggler", "state", "I", "JugglerStates"), ("JugglerStates", 125, "JugglerStates$Juggler", "programLength", "I", "JugglerStates"), ("JugglerStates$Scene", 55, "JugglerStates$Juggler", "place", "I", "JugglerStates"), ("JugglerStates", 128, "JugglerStates$Juggler", "place", "I", "JugglerStates"), ("JugglerStates$Scene", 65, "JugglerStates$Juggler", "slips", "I", "JugglerStates"), ("JugglerStates", 131, "JugglerStates$Juggler", "slips", "I", "JugglerStates"), ("JugglerStates", 134, "JugglerStates$Juggler", "clashes", "I", "JugglerStates"), ("JugglerStates$Scene", 68, "JugglerStates$Juggler", "clashes", "I", "JugglerStates"), ("JugglerStates", 115, "JugglerStates$Scene", "floor", "I", "JugglerStates"), ("JugglerStates", 93, "JugglerStates$Scene", "beatsPassed", "I", "JugglerStates"), ("JugglerStates", 147, "JugglerStates$Scene", "throwsMade", "I", "JugglerStates"), ("JugglerStates", 150, "JugglerStates$Scene", "passesCome", "I", "JugglerStates"), ("JugglerStates$Pattern", 15, "JugglerStates$Pad", "length", "I", "JugglerStates"), ("JugglerStates$Juggler", 47, "JugglerStates$Pad", "length", "I", "JugglerStates"), ("JugglerStates", 153, "JugglerStates$Pad", "length", "I", "JugglerStates"), ("JugglerStates", 189, "JugglerStates$Pattern", "length", "I", "JugglerStates"), ("JugglerStates", 156, "JugglerStates$History", "size", "I", "JugglerStates"), ("JugglerStates", 233, "JugglerStates$Slot", "kept", "LJugglerStates$Scene;", "JugglerStates"), ("JugglerStates", 229, "JugglerStates$Slot", "filled", "Z", "JugglerStates")]
def zNm : List (String × Nat × MethodName × String) := [("JugglerStates", 11, ⟨"JugglerStates$Scene", "<init>", "()V"⟩, "JugglerStates"), ("JugglerStates$Scene", 9, ⟨"JugglerStates$Juggler", "<init>", "()V"⟩, "JugglerStates"), ("JugglerStates", 21, ⟨"JugglerStates$Pad", "<init>", "()V"⟩, "JugglerStates"), ("JugglerStates", 28, ⟨"JugglerStates$Pattern", "<init>", "()V"⟩, "JugglerStates"), ("JugglerStates", 35, ⟨"JugglerStates$Ways", "<init>", "()V"⟩, "JugglerStates"), ("JugglerStates", 42, ⟨"JugglerStates$History", "<init>", "()V"⟩, "JugglerStates"), ("JugglerStates$History", 17, ⟨"JugglerStates$Scene", "<init>", "()V"⟩, "JugglerStates"), ("JugglerStates", 49, ⟨"JugglerStates$Slot", "<init>", "()V"⟩, "JugglerStates"), ("JugglerStates$Slot", 9, ⟨"JugglerStates$Scene", "<init>", "()V"⟩, "JugglerStates"), ("JugglerStates", 61, ⟨"JugglerStates$Scene", "clubs", "()I"⟩, "JugglerStates"), ("JugglerStates$Scene", 40, ⟨"JugglerStates$Juggler", "clubs", "()I"⟩, "JugglerStates"), ("JugglerStates", 65, ⟨"JugglerStates$History", "record", "(LJugglerStates$Scene;)V"⟩, "JugglerStates"), ("JugglerStates$History", 25, ⟨"JugglerStates", "leftOver", "(II)I"⟩, "JugglerStates"), ("JugglerStates$History", 33, ⟨"JugglerStates$Scene", "become", "(LJugglerStates$Scene;)V"⟩, "JugglerStates"), ("JugglerStates$Scene", 19, ⟨"JugglerStates$Juggler", "become", "(LJugglerStates$Juggler;)V"⟩, "JugglerStates"), ("JugglerStates$Juggler", 62, ⟨"JugglerStates", "valueAt", "([II)I"⟩, "JugglerStates"), ("JugglerStates$Juggler", 26, ⟨"JugglerStates", "setAt", "([III)V"⟩, "JugglerStates"), ("JugglerStates", 69, ⟨"JugglerStates$Scene", "begin", "(II)V"⟩, "JugglerStates"), ("JugglerStates$Scene", 36, ⟨"JugglerStates$Juggler", "begin", "(I)V"⟩, "JugglerStates"), ("JugglerStates$Juggler", 42, ⟨"JugglerStates", "firstBeats", "(I)I"⟩, "JugglerStates"), ("JugglerStates", 73, ⟨"JugglerStates$Pad", "programFault", "()I"⟩, "JugglerStates"), ("JugglerStates$Pad", 23, ⟨"JugglerStates", "valueAt", "([II)I"⟩, "JugglerStates"), ("JugglerStates$Pad", 31, ⟨"JugglerStates", "isHeight", "(I)Z"⟩, "JugglerStates"), ("JugglerStates", 76, ⟨"JugglerStates$Pad", "digit", "(I)I"⟩, "JugglerStates"), ("JugglerStates", 80, ⟨"JugglerStates$Scene", "juggler", "(I)LJugglerStates$Juggler;"⟩, "JugglerStates"), ("JugglerStates", 84, ⟨"JugglerStates$Juggler", "learn", "(LJugglerStates$Pad;)V"⟩, "JugglerStates"), ("JugglerStates$Juggler", 50, ⟨"JugglerStates$Pad", "isHeightAt", "(I)Z"⟩, "JugglerStates"), ("JugglerStates$Juggler", 54, ⟨"JugglerStates$Pad", "digit", "(I)I"⟩, "JugglerStates"), ("JugglerStates", 90, ⟨"JugglerStates$Pad", "clear", "()V"⟩, "JugglerStates"), ("JugglerStates", 98, ⟨"JugglerStates$Scene", "play", "(I)I"⟩, "JugglerStates"), ("JugglerStates$Scene", 51, ⟨"JugglerStates$Juggler", "expects", "(I)Z"⟩, "JugglerStates"), ("JugglerStates$Juggler", 66, ⟨"JugglerStates", "has", "(II)Z"⟩, "JugglerStates"), ("JugglerStates$Scene", 58, ⟨"JugglerStates$Juggler", "heightAt", "(I)I"⟩, "JugglerStates"), ("JugglerStates$Scene", 62, ⟨"JugglerStates$Juggler", "isPassAt", "(I)Z"⟩, "JugglerStates"), ("JugglerStates$Scene", 71, ⟨"JugglerStates$Juggler", "expect", "(I)V"⟩, "JugglerStates"), ("JugglerStates$Scene", 74, ⟨"JugglerStates", "oneIf", "(Z)I"⟩, "JugglerStates"), ("JugglerStates$Scene", 48, ⟨"JugglerStates$Juggler", "endBeat", "()V"⟩, "JugglerStates"), ("JugglerStates", 108, ⟨"JugglerStates$Juggler", "expects", "(I)Z"⟩, "JugglerStates"), ("JugglerStates", 111, ⟨"JugglerStates$Juggler", "lose", "(I)V"⟩, "JugglerStates"), ("JugglerStates", 118, ⟨"JugglerStates$Juggler", "expect", "(I)V"⟩, "JugglerStates"), ("JugglerStates", 124, ⟨"JugglerStates$Juggler", "clubs", "()I"⟩, "JugglerStates"), ("JugglerStates", 137, ⟨"JugglerStates$Juggler", "heightAt", "(I)I"⟩, "JugglerStates"), ("JugglerStates", 140, ⟨"JugglerStates$Juggler", "isPassAt", "(I)Z"⟩, "JugglerStates"), ("JugglerStates", 159, ⟨"JugglerStates$Scene", "become", "(LJugglerStates$Scene;)V"⟩, "JugglerStates"), ("JugglerStates", 162, ⟨"JugglerStates$Scene", "standsLike", "(LJugglerStates$Scene;)Z"⟩, "JugglerStates"), ("JugglerStates$Scene", 80, ⟨"JugglerStates$Juggler", "standsLike", "(LJugglerStates$Juggler;)Z"⟩, "JugglerStates"), ("JugglerStates", 166, ⟨"JugglerStates$Pattern", "learn", "(LJugglerStates$Pad;)Z"⟩, "JugglerStates"), ("JugglerStates$Pattern", 21, ⟨"JugglerStates", "isWithin", "(III)Z"⟩, "JugglerStates"), ("JugglerStates$Pattern", 25, ⟨"JugglerStates$Pad", "isHeightAt", "(I)Z"⟩, "JugglerStates"), ("JugglerStates$Pattern", 29, ⟨"JugglerStates$Pad", "digit", "(I)I"⟩, "JugglerStates"), ("JugglerStates$Pattern", 33, ⟨"JugglerStates", "setAt", "([III)V"⟩, "JugglerStates"), ("JugglerStates", 169, ⟨"JugglerStates$Pattern", "isSound", "()Z"⟩, "JugglerStates"), ("JugglerStates$Pattern", 38, ⟨"JugglerStates", "leftOver", "(II)I"⟩, "JugglerStates"), ("JugglerStates$Pattern", 42, ⟨"JugglerStates", "valueAt", "([II)I"⟩, "JugglerStates"), ("JugglerStates", 173, ⟨"JugglerStates$Pattern", "clubs", "()I"⟩, "JugglerStates"), ("JugglerStates", 174, ⟨"JugglerStates$Pattern", "startState", "()I"⟩, "JugglerStates"), ("JugglerStates", 177, ⟨"JugglerStates$Pattern", "orbits", "()I"⟩, "JugglerStates"), ("JugglerStates$Pattern", 55, ⟨"JugglerStates", "has", "(II)Z"⟩, "JugglerStates"), ("JugglerStates", 180, ⟨"JugglerStates$Pattern", "orbitThrough", "(I)I"⟩, "JugglerStates"), ("JugglerStates", 183, ⟨"JugglerStates$Pattern", "period", "()I"⟩, "JugglerStates"), ("JugglerStates", 190, ⟨"JugglerStates$Pattern", "heightTurnedBack", "(I)I"⟩, "JugglerStates"), ("JugglerStates", 193, ⟨"JugglerStates$Ways", "searchFrom", "(I)V"⟩, "JugglerStates"), ("JugglerStates$Ways", 38, ⟨"JugglerStates", "valueAt", "([II)I"⟩, "JugglerStates"), ("JugglerStates$Ways", 61, ⟨"JugglerStates", "setAt", "([III)V"⟩, "JugglerStates"), ("JugglerStates$Ways", 46, ⟨"JugglerStates", "has", "(II)Z"⟩, "JugglerStates"), ("JugglerStates", 196, ⟨"JugglerStates$Ways", "stepsTo", "(I)I"⟩, "JugglerStates"), ("JugglerStates", 199, ⟨"JugglerStates$Ways", "firstThrowTo", "(I)I"⟩, "JugglerStates"), ("JugglerStates", 202, ⟨"JugglerStates$Ways", "lastThrowTo", "(I)I"⟩, "JugglerStates"), ("JugglerStates", 213, ⟨"JugglerStates$Pad", "append", "(I)V"⟩, "JugglerStates"), ("JugglerStates$Pad", 19, ⟨"JugglerStates", "setAt", "([III)V"⟩, "JugglerStates"), ("JugglerStates", 216, ⟨"JugglerStates$History", "takeBack", "(LJugglerStates$Scene;)V"⟩, "JugglerStates"), ("JugglerStates", 226, ⟨"JugglerStates$Slot", "keep", "(LJugglerStates$Scene;)V"⟩, "JugglerStates"), ("JugglerStates$Slot", 16, ⟨"JugglerStates$Scene", "become", "(LJugglerStates$Scene;)V"⟩, "JugglerStates")]
def zN (U : State) : Prop := (∀ q ∈ zNf, va_Nw (.fieldLinkNest q.1 q.2.1 q.2.2.1 q.2.2.2.1 q.2.2.2.2.1 q.2.2.2.2.2) U) ∧ ∀ q ∈ zNm, va_Nw (.methodLinkNest q.1 q.2.1 q.2.2.1 q.2.2.2) U
abbrev zT (cI cR : ClassId) : List (ClassId × FieldType) := [(cI, .int), (cR, .object "JugglerStates$Scene")]
def zK (D : va_G) (cI cR : ClassId) (U : State) : Prop := va_K D vwCl (zT cI cR) U ∧ zN U
theorem zK.warm {D : va_G} {cI cR : ClassId} {s U : State} (hW : s.WarmedH U.vm) (h : zK D cI cR s) : zK D cI cR U := ⟨va_K.moved hW.alike h.1, fun q hq => va_Nw.warmF hW (h.2.1 q hq), fun q hq => va_Nw.warmM hW (h.2.2 q hq)⟩
theorem zK.calling {D : va_G} {cI cR : ClassId} {U : State} {g : JFrame} {mk : MethodId} {a : Array Value} (h : zK D cI cR U) : zK D cI cR (U.calling g mk a) := ⟨va_K.moved (u := U) (U := U.calling g mk a) (Vm.Alike.refl U.vm) h.1, fun q hq => va_Nw.same rfl rfl (h.2.1 q hq), fun q hq => va_Nw.same rfl rfl (h.2.2 q hq)⟩
/-- the end of a method: its answer, its world, and nothing else changed -/
def zQ (D : va_G) (rv : Option Value) (wc wc' : zB) (sz : Nat) : Array Value → State → Outcome → State → Prop := fun _ st oc t => (oc = .returned rv ∧ va_P D vwCl (bl wc') t.heap ∧ va_D (va_A (bl wc) sz) (bl wc')) ∧ va_F (va_A (bl wc) sz) st t
def zPc (D : va_G) (cI cR : ClassId) (As : List Value) (wc : zB) (sz : Nat) : Array Value → State → Prop := va_Pc As (fun U => U.heap.size = sz ∧ va_P D vwCl (bl wc) U.heap ∧ zK D cI cR U ∧ va_D (fun _ => True) (bl wc))
/-- a method that makes no cell: from As and the blocks wc it answers rv and leaves the blocks wc' -/
def zM (l : Launch) (D : va_G) (cI cR : ClassId) (y : MethodName) (cc : ByteArray) (maxL : Nat) (ret : Option FieldType) (fr lo : Nat) (As : List Value) (wc : zB) (rv : Option Value) (wc' : zB) : Prop :=
  ∀ sz : Nat, Met l y (zWs y cc maxL ret) ({ frames := fr, cells := 0, slots := 0, locals := lo }) (zPc D cI cR As wc sz) (zQ D rv wc wc' sz) 0 0 (va_A (bl wc) sz)
theorem zPc.blind {D : va_G} {cI cR : ClassId} {As : List Value} {wc : zB} {sz : Nat} : FrameBlind (zPc D cI cR As wc sz) := fun a U g mk h => ⟨h.1, h.2.1, h.2.2.1, h.2.2.2.1.calling, h.2.2.2.2⟩
abbrev zX (p : Program) (s : State) (m : MethodId) (c : Code) (cc : ByteArray) (nL : Nat) (args : Array Value) (own : String) (D : va_G) (cI cR : ClassId) (A : Nat → Prop) : Prop := CallFix p m c cc nL s args zAll own ∧ zK D cI cR s ∧ (∀ q : Nat, s.heap.size ≤ q → A q)
def zW (D : va_G) (A : Nat → Prop) (s : State) (bs : zB) (H : Heap) (locs : List Loc) : Prop := va_P D vwCl (bl bs) H ∧ va_D A (bl bs) ∧ va_S A s.heap H locs
def zE (D : va_G) (A : Nat → Prop) (below : List Frame) (s : State) (args : Array Value) (rv : Option Value) (wc' : zB) : State → Prop := MQ below (fun _ st oc t => (oc = .returned rv ∧ va_P D vwCl (bl wc') t.heap ∧ va_D A (bl wc')) ∧ va_F A st t) args s 0 0 A
set_option maxHeartbeats 4000000 in
theorem z_of {l : Launch} {D : va_G} {cI cR : ClassId} {y : MethodName} {cc : ByteArray} {maxL : Nat} {ret : Option FieldType} {fr lo : Nat} {As : List Value} {wc wc' : zB} {rv : Option Value} {own : String} (ho : y.cls = own) (hy : plainName y.cls = true) (hn : (lg_sl As).length ≤ maxL)
    (body : ∀ (p : Program) (e : Env) (s : State) (m : MethodId) (args : Array Value) (below : List Frame) (meth : Method) (c : Code) (A : Nat → Prop) (ls : Array Slot), zX p s m c cc maxL args own D cI cR A → meth.sig.returnType = ret → meth.locks = false → zW D A s wc s.heap [] → lv_has ls maxL (lv_args 0 As) →
      W p l e ({ frames := fr, cells := 0, slots := 0, locals := lo } : Room) s m args below meth c s.heap [] 0 0 (zE D A below s args rv wc') (F0 m 0 ls [])) : zM l D cI cR y cc maxL ret fr lo As wc rv wc' := by
  intro sz
  refine Met.ofW (cc := cc) (maxL := maxL) (ret := ret) hy rfl ?_
  intro p e s m args below meth c s₁ B hml hv
  obtain ⟨rfl, hsz, hP, hK, hD0⟩ := hv
  subst hsz
  have hts := atoms_spec (ws := zWs y cc maxL ret) B.pre
  have hx := B.exec
  have hb := B.bytes
  have hr := B.returns
  have hown : s.vm.findClass y.cls = some m.cls := findClass_of_methodNamed B.named
  rw [ho] at hown
  have hlocks := B.notSynchronized
  have hD := hD0.self (sz := s.heap.size)
  have hl := lv_entry As (n := maxL) hn
  rw [lg_entry_eq]
  generalize (lg_sl As ++ List.replicate (maxL - (lg_sl As).length) Slot.unset).toArray = ls at hl ⊢
  exact body p e s m _ below meth c (va_A (bl wc) s.heap.size) ls ⟨⟨hx, hb, hml, hown, fun w hw => hts w (List.mem_cons_of_mem _ hw)⟩, hK, fun q h => Or.inr h⟩ hr hlocks ⟨hP, hD, va_S.rf⟩ hl
section ZR
variable {p : Program} {l : Launch} {e : Env} {R : Room} {s : State} {m : MethodId} {args : Array Value} {below : List Frame} {meth : Method} {c : Code} {H : Heap} {locs : List Loc} {cells slots : Nat} {Q : State → Prop}
variable {cc : ByteArray} {nL : Nat} {own : String} {D : va_G} {cI cR : ClassId} {A : Nat → Prop} {bs wc' : zB} {pc : Nat} {ls : Array Slot} {rest : List Value}
theorem z_iret {v : Int32} (X : zX p s m c cc nL args own D cI cR A) (hr : meth.sig.returnType = some .int) (hlocks : meth.locks = false) (Z : zW D A s wc' H locs) (hdg : decode cc pc = .ok (.ireturn, 1)) : W p l e R s m args below meth c H locs 0 0 (zE D A below s args (some (.int v)) wc') (F0 m pc ls [.int v]) :=
  W.iret X.1.1 X.1.2.1 hr (fun t ht hW => ⟨⟨rfl, by rw [ht]; exact Z.1, Z.2.1⟩, Z.2.2.F ht⟩) Z.2.2.2.2 hdg hlocks
theorem z_zret {v : Int32} (X : zX p s m c cc nL args own D cI cR A) (hr : meth.sig.returnType = some .boolean) (hlocks : meth.locks = false) (hv : v = 0 ∨ v = 1) (Z : zW D A s wc' H locs) (hdg : decode cc pc = .ok (.ireturn, 1)) : W p l e R s m args below meth c H locs 0 0 (zE D A below s args (some (.int v)) wc') (F0 m pc ls [.int v]) :=
  W.zret X.1.1 X.1.2.1 hr (by rcases hv with rfl | rfl <;> rfl) (fun t ht hW => ⟨⟨rfl, by rw [ht]; exact Z.1, Z.2.1⟩, Z.2.2.F ht⟩) Z.2.2.2.2 hdg hlocks
theorem z_vret (X : zX p s m c cc nL args own D cI cR A) (hr : meth.sig.returnType = none) (hlocks : meth.locks = false) (Z : zW D A s wc' H locs) (hdg : decode cc pc = .ok (.return_, 1)) : W p l e R s m args below meth c H locs 0 0 (zE D A below s args none wc') (F0 m pc ls []) :=
  W.vret X.1.1 X.1.2.1 hr (fun t ht hW => ⟨⟨rfl, by rw [ht]; exact Z.1, Z.2.1⟩, Z.2.2.F ht⟩) Z.2.2.2.2 hdg hlocks
theorem z_aret {v : Value} {C : String} (X : zX p s m c cc nL args own D cI cR A) (hr : meth.sig.returnType = some (.object C)) (hlocks : meth.locks = false) (hv : v = .null ∨ ∃ a, v = .ref a) (Z : zW D A s wc' H locs) (hdg : decode cc pc = .ok (.areturn, 1)) : W p l e R s m args below meth c H locs 0 0 (zE D A below s args (some v) wc') (F0 m pc ls [v]) :=
  W.aret X.1.1 X.1.2.1 hr (Or.inl ⟨C, rfl⟩) hv (fun t ht hW => ⟨⟨rfl, by rw [ht]; exact Z.1, Z.2.1⟩, Z.2.2.F ht⟩) Z.2.2.2.2 hdg hlocks
end ZR
section ZC
variable {p : Program} {l : Launch} {e : Env} {R : Room} {s : State} {m : MethodId} {args : Array Value} {below : List Frame} {meth : Method} {c : Code} {H : Heap} {locs : List Loc} {cells slots : Nat} {Q : State → Prop}
variable {cc : ByteArray} {nL : Nat} {own : String} {D : va_G} {cI cR : ClassId} {A : Nat → Prop} {bs bs' wc wc' : zB} {pc : Nat} {ls : Array Slot} {rest st0 : List Value} {rv : Option Value}
theorem z_cut {isC isR : List Nat} (hp : (isC ++ isR).Perm (List.range bs.length)) (hC : isC.map (fun i => bs[i]?) = wc.map some) : ∃ rr : zB, bs.Perm (wc ++ rr) ∧ isR.map (fun i => bs[i]?) = rr.map some := by
  have hb : ∀ i ∈ isR, i < bs.length := fun i hi => List.mem_range.mp (hp.subset (List.mem_append_right _ hi))
  have hRs : isR.map (fun i => bs[i]?) = (isR.filterMap (fun i => bs[i]?)).map some := by
    clear hp
    induction isR with
    | nil => rfl
    | cons i is ih =>
      have h1 := hb i List.mem_cons_self
      rw [List.map_cons, List.filterMap_cons, List.getElem?_eq_getElem h1]
      simp only [List.map_cons]
      rw [ih (fun j hj => hb j (List.mem_cons_of_mem _ hj))]
  exact ⟨_, z_perm (isC ++ isR) hp (by rw [List.map_append, List.map_append, hC, hRs]), hRs⟩
theorem z_flat {b1 b2 b3 : zB} (h : b1.Perm (b2 ++ b3)) : (bl b1).Perm (bl b2 ++ bl b3) := by
  have := h.flatten
  rw [List.flatten_append] at this
  exact this
theorem zW.pre {rr : zB} (X : zX p s m c cc nL args own D cI cR A) {As : List Value} (Z : zW D A s bs H locs) (hp : bs.Perm (wc ++ rr)) : ∀ U : State, U.heap = H → s.WarmedH U.vm → zPc D cI cR As wc H.size As.toArray U := by
  intro U hU hW
  have f1 := z_flat hp
  refine ⟨rfl, by rw [hU], ?_, X.2.1.warm hW, ?_⟩
  · rw [hU, zP_mem]
    exact fun q hq => zP_mem.mp Z.1 q (f1.mem_iff.mpr (List.mem_append_left _ hq))
  · have h1 := (zD_iff.mp Z.2.1).1
    have n1 : ((bl wc ++ bl rr).map Prod.fst).Nodup := (f1.map Prod.fst).nodup_iff.mp h1
    rw [List.map_append, List.nodup_append] at n1
    exact zD_iff.mpr ⟨n1.1, fun _ _ => trivial⟩
/-- behind a call: the callee's blocks as it leaves them, the others as they were -/
theorem z_run {a : Array Value} {isC isR : List Nat} {rr : zB} (X : zX p s m c cc nL args own D cI cR A) (Z : zW D A s bs H locs) (hr : va_Run p l e R s m args below meth c H locs cells slots 0 0 (F0 m pc ls st0) rest (zQ D rv wc wc' H.size a) (va_A (bl wc) H.size))
    (p1 : bs.Perm (wc ++ rr)) (hrr : isR.map (fun i => bs[i]?) = rr.map some) (hp : (isC ++ isR).Perm (List.range bs.length)) (hC' : isC.map (fun i => bs'[i]?) = wc'.map some) (hR : isR.map (fun i => bs'[i]?) = isR.map (fun i => bs[i]?)) (hl : bs'.length = bs.length)
    (kk : ∀ (H1 : Heap) (locs1 : List Loc), zW D A s bs' H1 locs1 → W p l e R s m args below meth c H1 locs1 cells slots Q (F0 m (pc + 3) ls (rv.toList ++ rest))) : W p l e R s m args below meth c H locs cells slots Q (F0 m pc ls st0) := by
  intro T hT Xs
  obtain ⟨v, st₀, t, T', L, h0, X', hL, e1, e2, ⟨⟨hv, hP1, hD1⟩, hz, hk⟩, st⟩ := hr T hT Xs
  cases hv
  rw [h0] at hz hk
  have hA : ∀ q : Nat, H.size ≤ q → A q := fun q h => X.2.2 q (Nat.le_trans Z.2.2.1 h)
  have p2 : bs'.Perm (wc' ++ rr) := z_perm (isC ++ isR) (by rw [hl]; exact hp) (by rw [List.map_append, List.map_append, hC', hR, hrr])
  have hF : ∀ q : Nat, va_A (bl wc) H.size q → A q := by
    intro q hq
    rcases zA_iff.mp hq with ⟨e, he⟩ | he
    · exact (zD_iff.mp Z.2.1).2 (q, e) ((z_flat p1).mem_iff.mpr (List.mem_append_left _ he))
    · exact hA q he
  obtain ⟨j1, j2⟩ := z_join Z.1 Z.2.1 p1 p2 hk hA hP1 hD1
  obtain ⟨t2, a1, b1⟩ := kk T'.heap (locs ++ L) ⟨by rw [e1]; exact j1, j2, Nat.le_trans Z.2.2.1 (by rw [e1]; exact hz), fun q h1 h2 => by rw [e1, hk q (Nat.lt_of_lt_of_le h1 Z.2.2.1) (fun z => h2 (hF q z))]; exact Z.2.2.2.1 q h1 h2, fun q hq => by
      rcases List.mem_append.mp hq with h | h
      · exact Z.2.2.2.2 q h
      · exact hF _ (hL q h)⟩ T' rfl X'
  exact ⟨t2, st t2 a1, b1⟩
variable {y : MethodName} {bytes : ByteArray} {maxL fr lo n index : Nat} {ret : Option FieldType} {C host : String} {b : Nat} {As : List Value}
theorem z_callV (X : zX p s m c cc nL args own D cI cR A) (Z : zW D A s bs H locs) (hM : zM l D cI cR y bytes maxL ret fr lo (.ref b :: As) wc rv wc') (cw : CallW R s args own C index y bytes maxL ret (zWs y bytes maxL ret) { frames := fr, cells := 0, slots := 0, locals := lo } 0 0 n)
    (q0 ci : Nat) {fs : List Value} {r : vw_C} (hrec : (bl bs)[q0]? = some (b, .inr (ci, fs))) (hcl : vwCl[ci]? = some r) (hC0 : r.1 = C) (isC isR : List Nat) (bs' : zB) (hp : (isC ++ isR).Perm (List.range bs.length)) (hC : isC.map (fun i => bs[i]?) = wc.map some) (hC' : isC.map (fun i => bs'[i]?) = wc'.map some) (hR : isR.map (fun i => bs'[i]?) = isR.map (fun i => bs[i]?)) (hl : bs'.length = bs.length)
    (hn : As.length = n) (hsz : ls.size = nL) (hst : st0 = As.reverse ++ .ref b :: rest) (hW8 : (rest.map fun v => v.category).sum ≤ 8) (hdg : decode cc pc = .ok (.invokevirtual index, 3)) (hf : cells ≤ R.cells ∧ slots ≤ R.slots)
    (kk : ∀ (H1 : Heap) (locs1 : List Loc), zW D A s bs' H1 locs1 → W p l e R s m args below meth c H1 locs1 cells slots Q (F0 m (pc + 3) ls (rv.toList ++ rest))) : W p l e R s m args below meth c H locs cells slots Q (F0 m pc ls st0) := by
  subst hC0
  obtain ⟨rr, p1, hrr⟩ := z_cut (wc := wc) hp hC
  exact z_run (isC := isC) (isR := isR) X Z (va_runV (g := F0 m pc ls st0) X.1 (hM H.size) cw ⟨zPc.blind, va_recv X.2.1.1 Z.1 hcl hrec, Z.pre X p1⟩ rfl hn hsz hst (lv_room hW8) hdg hf) p1 hrr hp hC' hR hl kk
theorem z_callVN (X : zX p s m c cc nL args own D cI cR A) (Z : zW D A s bs H locs) (hM : zM l D cI cR y bytes maxL ret fr lo (.ref b :: As) wc rv wc') (cw : va_CN R s args own index y host bytes maxL ret (zWs y bytes maxL ret) { frames := fr, cells := 0, slots := 0, locals := lo } 0 0 n ∧ (Cond.instanceMethod y).before args s = true ∧ (Cond.selects C y y).before args s = true)
    (q0 ci : Nat) {fs : List Value} {r : vw_C} (hrec : (bl bs)[q0]? = some (b, .inr (ci, fs))) (hcl : vwCl[ci]? = some r) (hC0 : r.1 = C) (isC isR : List Nat) (bs' : zB) (hp : (isC ++ isR).Perm (List.range bs.length)) (hC : isC.map (fun i => bs[i]?) = wc.map some) (hC' : isC.map (fun i => bs'[i]?) = wc'.map some) (hR : isR.map (fun i => bs'[i]?) = isR.map (fun i => bs[i]?)) (hl : bs'.length = bs.length)
    (hn : As.length = n) (hsz : ls.size = nL) (hst : st0 = As.reverse ++ .ref b :: rest) (hW8 : (rest.map fun v => v.category).sum ≤ 8) (hdg : decode cc pc = .ok (.invokevirtual index, 3)) (hf : cells ≤ R.cells ∧ slots ≤ R.slots)
    (kk : ∀ (H1 : Heap) (locs1 : List Loc), zW D A s bs' H1 locs1 → W p l e R s m args below meth c H1 locs1 cells slots Q (F0 m (pc + 3) ls (rv.toList ++ rest))) : W p l e R s m args below meth c H locs cells slots Q (F0 m pc ls st0) := by
  subst hC0
  obtain ⟨rr, p1, hrr⟩ := z_cut (wc := wc) hp hC
  exact z_run (isC := isC) (isR := isR) X Z (va_runVN (g := F0 m pc ls st0) X.1 (hM H.size) cw ⟨zPc.blind, va_recv X.2.1.1 Z.1 hcl hrec, Z.pre X p1⟩ rfl hn hsz hst (lv_room hW8) hdg hf) p1 hrr hp hC' hR hl kk
theorem z_callS (X : zX p s m c cc nL args own D cI cR A) (Z : zW D A s bs H locs) (hM : zM l D cI cR y bytes maxL ret fr lo As wc rv wc') (cw : CallB R s args own index y bytes maxL ret (zWs y bytes maxL ret) { frames := fr, cells := 0, slots := 0, locals := lo } 0 0 n ∧ (Cond.static y).before args s = true)
    (isC isR : List Nat) (bs' : zB) (hp : (isC ++ isR).Perm (List.range bs.length)) (hC : isC.map (fun i => bs[i]?) = wc.map some) (hC' : isC.map (fun i => bs'[i]?) = wc'.map some) (hR : isR.map (fun i => bs'[i]?) = isR.map (fun i => bs[i]?)) (hl : bs'.length = bs.length)
    (hn : As.length = n) (hsz : ls.size = nL) (hst : st0 = As.reverse ++ rest) (hW8 : (rest.map fun v => v.category).sum ≤ 8) (hdg : decode cc pc = .ok (.invokestatic index, 3)) (hf : cells ≤ R.cells ∧ slots ≤ R.slots)
    (kk : ∀ (H1 : Heap) (locs1 : List Loc), zW D A s bs' H1 locs1 → W p l e R s m args below meth c H1 locs1 cells slots Q (F0 m (pc + 3) ls (rv.toList ++ rest))) : W p l e R s m args below meth c H locs cells slots Q (F0 m pc ls st0) := by
  obtain ⟨rr, p1, hrr⟩ := z_cut (wc := wc) hp hC
  exact z_run (isC := isC) (isR := isR) X Z (va_runS (g := F0 m pc ls st0) X.1 (hM H.size) cw ⟨zPc.blind, Z.pre X p1⟩ rfl hn hsz hst (lv_room hW8) hdg hf) p1 hrr hp hC' hR hl kk
theorem z_callSN (X : zX p s m c cc nL args own D cI cR A) (Z : zW D A s bs H locs) (hM : zM l D cI cR y bytes maxL ret fr lo As wc rv wc') (cw : va_CN R s args own index y host bytes maxL ret (zWs y bytes maxL ret) { frames := fr, cells := 0, slots := 0, locals := lo } 0 0 n ∧ (Cond.static y).before args s = true ∧ True)
    (isC isR : List Nat) (bs' : zB) (hp : (isC ++ isR).Perm (List.range bs.length)) (hC : isC.map (fun i => bs[i]?) = wc.map some) (hC' : isC.map (fun i => bs'[i]?) = wc'.map some) (hR : isR.map (fun i => bs'[i]?) = isR.map (fun i => bs[i]?)) (hl : bs'.length = bs.length)
    (hn : As.length = n) (hsz : ls.size = nL) (hst : st0 = As.reverse ++ rest) (hW8 : (rest.map fun v => v.category).sum ≤ 8) (hdg : decode cc pc = .ok (.invokestatic index, 3)) (hf : cells ≤ R.cells ∧ slots ≤ R.slots)
    (kk : ∀ (H1 : Heap) (locs1 : List Loc), zW D A s bs' H1 locs1 → W p l e R s m args below meth c H1 locs1 cells slots Q (F0 m (pc + 3) ls (rv.toList ++ rest))) : W p l e R s m args below meth c H locs cells slots Q (F0 m pc ls st0) := by
  obtain ⟨rr, p1, hrr⟩ := z_cut (wc := wc) hp hC
  exact z_run (isC := isC) (isR := isR) X Z (va_runSN (g := F0 m pc ls st0) X.1 (hM H.size) cw ⟨zPc.blind, Z.pre X p1⟩ rfl hn hsz hst (lv_room hW8) hdg hf) p1 hrr hp hC' hR hl kk
-- words of a call
theorem zwB {fr lo : Nat} (ht : ∀ w ∈ zAll, w.before args s = true) (n : Nat) (hc : Cond.code y bytes maxL ret ∈ zAll) (hini : Cond.initialized y.cls ∈ zAll) (hl : Cond.methodLink own index y ∈ zAll) (hd : y.cls ≠ "java/lang/invoke/MethodHandle" ∧ y.cls ≠ "java/lang/invoke/VarHandle" ∧ (parseMethodDescriptor y.desc).map (fun d => d.parameters.length) = some n) (hR : fr + 1 ≤ R.frames ∧ 8 + (maxL + 11) + lo ≤ R.locals) :
    CallB R s args own index y bytes maxL ret (zWs y bytes maxL ret) { frames := fr, cells := 0, slots := 0, locals := lo } 0 0 n :=
  callB_of n ht (zGood hc) rfl rfl rfl (ht _ hini) (ht _ hl) hd hR
theorem zwN {fr lo : Nat} (hK : zK D cI cR s) (ht : ∀ w ∈ zAll, w.before args s = true) (n : Nat) (hc : Cond.code y bytes maxL ret ∈ zAll) (hini : Cond.initialized y.cls ∈ zAll) (hl : (own, index, y, host) ∈ zNm) (hd : y.cls ≠ "java/lang/invoke/MethodHandle" ∧ y.cls ≠ "java/lang/invoke/VarHandle" ∧ (parseMethodDescriptor y.desc).map (fun d => d.parameters.length) = some n) (hR : fr + 1 ≤ R.frames ∧ 8 + (maxL + 11) + lo ≤ R.locals) :
    va_CN R s args own index y host bytes maxL ret (zWs y bytes maxL ret) { frames := fr, cells := 0, slots := 0, locals := lo } 0 0 n :=
  va_cnB n ht (zGood hc) rfl rfl rfl (hK.2.2 _ hl) (ht _ hini) hd hR
end ZC
section ZF
variable {p : Program} {l : Launch} {e : Env} {R : Room} {s : State} {m : MethodId} {args : Array Value} {below : List Frame} {meth : Method} {c : Code} {H : Heap} {locs : List Loc} {cells slots : Nat} {Q : State → Prop}
variable {cc : ByteArray} {nL : Nat} {own : String} {D : va_G} {cI cR : ClassId} {A : Nat → Prop} {bs bs' : zB} {pc : Nat} {ls : Array Slot} {rest : List Value} {a : Nat}
theorem zW.eq (Z : zW D A s bs H locs) (h : bl bs = bl bs') : zW D A s bs' H locs := by
  unfold zW at Z ⊢
  rw [← h]
  exact Z
theorem z_iald {n : Nat} {f : Nat → Int32} {i v : Int32} (X : zX p s m c cc nL args own D cI cR A) (Z : zW D A s bs H locs) (q0 : Nat) (ha : (bl bs)[q0]? = some (a, .inl (cI, n, .inl f))) (hin : ¬ (i < 0 ∨ n ≤ i.toNatClampNeg)) (hv : f i.toNatClampNeg = v) (hdg : decode cc pc = .ok (.iaload, 1))
    (kk : W p l e R s m args below meth c H locs cells slots Q (F0 m (pc + 1) ls (.int v :: rest))) : W p l e R s m args below meth c H locs cells slots Q (F0 m pc ls (.int i :: .ref a :: rest)) := by
  subst hv
  exact va_iald X.1.1 X.1.2.1 X.2.1.1 Z.1 q0 0 ha rfl hin hdg kk
theorem z_iast {n : Nat} {f : Nat → Int32} {i x : Int32} (X : zX p s m c cc nL args own D cI cR A) (Z : zW D A s bs H locs) (q0 : Nat) (ha : (bl bs)[q0]? = some (a, .inl (cI, n, .inl f))) (hin : ¬ (i < 0 ∨ n ≤ i.toNatClampNeg)) (bs' : zB) (hb : (bl bs).set q0 (a, .inl (cI, n, .inl (upd f i.toNatClampNeg x))) = bl bs') (hdg : decode cc pc = .ok (.iastore, 1))
    (kk : ∀ (H1 : Heap) (locs1 : List Loc), zW D A s bs' H1 locs1 → W p l e R s m args below meth c H1 locs1 cells slots Q (F0 m (pc + 1) ls rest)) : W p l e R s m args below meth c H locs cells slots Q (F0 m pc ls (.int x :: .int i :: .ref a :: rest)) :=
  va_iast X.1.1 X.1.2.1 X.2.1.1 Z.1 Z.2.1 Z.2.2 q0 0 ha rfl hin hdg (fun H1 locs1 hP hD hS => kk H1 locs1 ⟨by rw [← hb]; exact hP, by rw [← hb]; exact hD, hS⟩)
theorem z_alen {x : vp_A} {v : Int32} (X : zX p s m c cc nL args own D cI cR A) (Z : zW D A s bs H locs) (q0 : Nat) (ha : (bl bs)[q0]? = some (a, .inl (cI, x))) (hv : Int32.ofNat x.1 = v) (hdg : decode cc pc = .ok (.arraylength, 1))
    (kk : W p l e R s m args below meth c H locs cells slots Q (F0 m (pc + 1) ls (.int v :: rest))) : W p l e R s m args below meth c H locs cells slots Q (F0 m pc ls (.ref a :: rest)) :=
  va_alen X.1.1 X.1.2.1 X.2.1.1 Z.1 q0 0 ha rfl hv hdg kk
theorem z_alenR {x : vp_A} {v : Int32} (X : zX p s m c cc nL args own D cI cR A) (Z : zW D A s bs H locs) (q0 : Nat) (ha : (bl bs)[q0]? = some (a, .inl (cR, x))) (hv : Int32.ofNat x.1 = v) (hdg : decode cc pc = .ok (.arraylength, 1))
    (kk : W p l e R s m args below meth c H locs cells slots Q (F0 m (pc + 1) ls (.int v :: rest))) : W p l e R s m args below meth c H locs cells slots Q (F0 m pc ls (.ref a :: rest)) :=
  va_alen X.1.1 X.1.2.1 X.2.1.1 Z.1 q0 1 ha rfl hv hdg kk
theorem z_get {C : String} {T : u_T} {N ci k index : Nat} {fs : List Value} {v : Value} (X : zX p s m c cc nL args own D cI cR A) (Z : zW D A s bs H locs) (hin : ∀ w ∈ u_ws C T N, w ∈ zAll) (hc : vwCl[ci]? = some (C, T, N)) (hk : k < N) (hT : (T k).1 = C) (hlink : Cond.fieldLink own index C (T k).2.1 (T k).2.2.1 ∈ zAll) (q0 : Nat) (he : (bl bs)[q0]? = some (a, .inr (ci, fs))) (hv : fs[k]? = some v) (hdg : decode cc pc = .ok (.getfield index, 3))
    (kk : W p l e R s m args below meth c H locs cells slots Q (F0 m (pc + 3) ls (v :: rest))) : W p l e R s m args below meth c H locs cells slots Q (F0 m pc ls (.ref a :: rest)) :=
  va_get (own := own) (ref := C) X.1.1 X.1.2.1 X.1.2.2.2.2 hin X.1.2.2.2.1 X.2.1.1 Z.1 q0 he hc k hk (X.1.2.2.2.2 _ hlink) (fun x h => by rw [hT] at h; exact h) hv hdg kk
theorem z_getN {C host : String} {T : u_T} {N ci k index : Nat} {fs : List Value} {v : Value} (X : zX p s m c cc nL args own D cI cR A) (Z : zW D A s bs H locs) (hin : ∀ w ∈ u_ws C T N, w ∈ zAll) (hc : vwCl[ci]? = some (C, T, N)) (hk : k < N) (hT : (T k).1 = C) (hlink : (own, index, C, (T k).2.1, (T k).2.2.1, host) ∈ zNf) (q0 : Nat) (he : (bl bs)[q0]? = some (a, .inr (ci, fs))) (hv : fs[k]? = some v) (hdg : decode cc pc = .ok (.getfield index, 3))
    (kk : W p l e R s m args below meth c H locs cells slots Q (F0 m (pc + 3) ls (v :: rest))) : W p l e R s m args below meth c H locs cells slots Q (F0 m pc ls (.ref a :: rest)) :=
  va_getN (own := own) (ref := C) (host := host) X.1.1 X.1.2.1 X.1.2.2.2.2 hin X.1.2.2.2.1 X.2.1.1 Z.1 q0 he hc k hk (va_Nw.use rfl (X.2.1.2.1 _ hlink)) (fun x h => by rw [hT] at h; exact h) hv hdg kk
theorem z_put {C : String} {T : u_T} {N ci k index : Nat} {fs : List Value} {v : Value} {ty : FieldType} (ty0 : Nat → FieldType) (X : zX p s m c cc nL args own D cI cR A) (Z : zW D A s bs H locs) (hin : ∀ w ∈ u_ws C T N, w ∈ zAll) (hty : ∀ k, k < N → parseFieldDescriptor (T k).2.2.1 = some (ty0 k)) (hnm : ∀ a, a < N → ∀ b, b < N → a ≠ b → (T a).2.1 ≠ (T b).2.1) (hc : vwCl[ci]? = some (C, T, N)) (hk : k < N) (hT : (T k).1 = C) (hfin : (T k).2.2.2 = false) (hd : parseFieldDescriptor (T k).2.2.1 = some ty) (hlink : Cond.fieldLink own index C (T k).2.1 (T k).2.2.1 ∈ zAll)
    (hn : narrow ty v = v) (hfit : fits ty v = true) (q0 : Nat) (he : (bl bs)[q0]? = some (a, .inr (ci, fs))) (hl : k < fs.length) (bs' : zB) (hb : (bl bs).set q0 (a, .inr (ci, fs.set k v)) = bl bs') (hdg : decode cc pc = .ok (.putfield index, 3))
    (kk : ∀ (H1 : Heap) (locs1 : List Loc), zW D A s bs' H1 locs1 → W p l e R s m args below meth c H1 locs1 cells slots Q (F0 m (pc + 3) ls rest)) : W p l e R s m args below meth c H locs cells slots Q (F0 m pc ls (v :: .ref a :: rest)) :=
  va_put (own := own) (ref := C) X.1.1 X.1.2.1 X.1.2.2.2.2 hin ty0 hty hnm X.1.2.2.2.1 X.2.1.1 Z.1 Z.2.1 Z.2.2 q0 he hc k hk (X.1.2.2.2.2 _ hlink) (fun x h => by rw [hT] at h; exact h) hfin hd hn hfit hl hdg (fun H1 locs1 hP hD hS => kk H1 locs1 ⟨by rw [← hb]; exact hP, by rw [← hb]; exact hD, hS⟩)
theorem z_putN {C host : String} {T : u_T} {N ci k index : Nat} {fs : List Value} {v : Value} {ty : FieldType} (ty0 : Nat → FieldType) (X : zX p s m c cc nL args own D cI cR A) (Z : zW D A s bs H locs) (hin : ∀ w ∈ u_ws C T N, w ∈ zAll) (hty : ∀ k, k < N → parseFieldDescriptor (T k).2.2.1 = some (ty0 k)) (hnm : ∀ a, a < N → ∀ b, b < N → a ≠ b → (T a).2.1 ≠ (T b).2.1) (hc : vwCl[ci]? = some (C, T, N)) (hk : k < N) (hT : (T k).1 = C) (hfin : (T k).2.2.2 = false) (hd : parseFieldDescriptor (T k).2.2.1 = some ty) (hlink : (own, index, C, (T k).2.1, (T k).2.2.1, host) ∈ zNf)
    (hn : narrow ty v = v) (hfit : fits ty v = true) (q0 : Nat) (he : (bl bs)[q0]? = some (a, .inr (ci, fs))) (hl : k < fs.length) (bs' : zB) (hb : (bl bs).set q0 (a, .inr (ci, fs.set k v)) = bl bs') (hdg : decode cc pc = .ok (.putfield index, 3))
    (kk : ∀ (H1 : Heap) (locs1 : List Loc), zW D A s bs' H1 locs1 → W p l e R s m args below meth c H1 locs1 cells slots Q (F0 m (pc + 3) ls rest)) : W p l e R s m args below meth c H locs cells slots Q (F0 m pc ls (v :: .ref a :: rest)) :=
  va_putN (own := own) (ref := C) (host := host) X.1.1 X.1.2.1 X.1.2.2.2.2 hin ty0 hty hnm X.1.2.2.2.1 X.2.1.1 Z.1 Z.2.1 Z.2.2 q0 he hc k hk (va_Nw.use rfl (X.2.1.2.1 _ hlink)) (fun x h => by rw [hT] at h; exact h) hfin hd hn hfit hl hdg (fun H1 locs1 hP hD hS => kk H1 locs1 ⟨by rw [← hb]; exact hP, by rw [← hb]; exact hD, hS⟩)
end ZF
end
section
theorem mi_L : Cond.initialized RL ∈ zAll := zAll_of (zTb 0 (by decide +kernel)) (by decide +kernel)
theorem mi_X7 : Cond.initialized RX7 ∈ zAll := zAll_of (zTb 1 (by decide +kernel)) (by decide +kernel)
theorem mi_X4 : Cond.initialized RX4 ∈ zAll := zAll_of (zTb 2 (by decide +kernel)) (by decide +kernel)
theorem mi_X1 : Cond.initialized RX1 ∈ zAll := zAll_of (zTb 3 (by decide +kernel)) (by decide +kernel)
theorem mi_X2 : Cond.initialized RX2 ∈ zAll := zAll_of (zTb 4 (by decide +kernel)) (by decide +kernel)
theorem mi_X3 : Cond.initialized RX3 ∈ zAll := zAll_of (zTb 5 (by decide +kernel)) (by decide +kernel)
theorem mi_X6 : Cond.initialized RX6 ∈ zAll := zAll_of (zTb 6 (by decide +kernel)) (by decide +kernel)
theorem mi_X0 : Cond.initialized RX0 ∈ zAll := zAll_of (zTb 7 (by decide +kernel)) (by decide +kernel)
theorem mi_X5 : Cond.initialized RX5 ∈ zAll := zAll_of (zTb 8 (by decide +kernel)) (by decide +kernel)
theorem mi_X8 : Cond.initialized RX8 ∈ zAll := zAll_of (zTb 9 (by decide +kernel)) (by decide +kernel)
theorem mi_J6 : Cond.initialized RJ6 ∈ zAll := zAll_of (zTb 10 (by decide +kernel)) (by decide +kernel)
theorem mi_J9 : Cond.initialized RJ9 ∈ zAll := zAll_of (zTb 11 (by decide +kernel)) (by decide +kernel)
theorem mi_J7 : Cond.initialized RJ7 ∈ zAll := zAll_of (zTb 12 (by decide +kernel)) (by decide +kernel)
theorem ml_L_7 : Cond.classLink RL 7 RX7 ∈ zAll := zAll_of (zTb 13 (by decide +kernel)) (by decide +kernel)
theorem mn_X7 : Cond.instantiable RX7 8 ∈ zAll := zAll_of (zTb 14 (by decide +kernel)) (by decide +kernel)
theorem mm_X7_init : Cond.instanceMethod yX7_init ∈ zAll := zAll_of (zTb 16 (by decide +kernel)) (by decide +kernel)
theorem mc_X7_init : Cond.code yX7_init cX7_init 1 none ∈ zAll := zAll_of (zTb 17 (by decide +kernel)) (by decide +kernel)
theorem ml_X7_9 : Cond.classLink RX7 9 RX4 ∈ zAll := zAll_of (zTb 21 (by decide +kernel)) (by decide +kernel)
theorem mn_X4 : Cond.instantiable RX4 6 ∈ zAll := zAll_of (zTb 22 (by decide +kernel)) (by decide +kernel)
theorem mm_X4_init : Cond.instanceMethod yX4_init ∈ zAll := zAll_of (zTb 24 (by decide +kernel)) (by decide +kernel)
theorem mc_X4_init : Cond.code yX4_init cX4_init 1 none ∈ zAll := zAll_of (zTb 25 (by decide +kernel)) (by decide +kernel)
theorem ml_X4_7 : Cond.classLink RX4 7 RX1 ∈ zAll := zAll_of (zTb 27 (by decide +kernel)) (by decide +kernel)
theorem mn_X1 : Cond.instantiable RX1 7 ∈ zAll := zAll_of (zTb 28 (by decide +kernel)) (by decide +kernel)
theorem mm_X1_init : Cond.instanceMethod yX1_init ∈ zAll := zAll_of (zTb 30 (by decide +kernel)) (by decide +kernel)
theorem mc_X1_init : Cond.code yX1_init cX1_init 1 none ∈ zAll := zAll_of (zTb 31 (by decide +kernel)) (by decide +kernel)
theorem ma_int : Cond.arrayClass .int ∈ zAll := zAll_of (zTb 63 (by decide +kernel)) (by decide +kernel)
theorem ml_X7_19 : Cond.classLink RX7 19 RX2 ∈ zAll := zAll_of (zTb 87 (by decide +kernel)) (by decide +kernel)
theorem mn_X2 : Cond.instantiable RX2 2 ∈ zAll := zAll_of (zTb 88 (by decide +kernel)) (by decide +kernel)
theorem mm_X2_init : Cond.instanceMethod yX2_init ∈ zAll := zAll_of (zTb 90 (by decide +kernel)) (by decide +kernel)
theorem mc_X2_init : Cond.code yX2_init cX2_init 1 none ∈ zAll := zAll_of (zTb 91 (by decide +kernel)) (by decide +kernel)
theorem ml_X7_26 : Cond.classLink RX7 26 RX3 ∈ zAll := zAll_of (zTb 103 (by decide +kernel)) (by decide +kernel)
theorem mn_X3 : Cond.instantiable RX3 2 ∈ zAll := zAll_of (zTb 104 (by decide +kernel)) (by decide +kernel)
theorem mm_X3_init : Cond.instanceMethod yX3_init ∈ zAll := zAll_of (zTb 106 (by decide +kernel)) (by decide +kernel)
theorem mc_X3_init : Cond.code yX3_init cX3_init 1 none ∈ zAll := zAll_of (zTb 107 (by decide +kernel)) (by decide +kernel)
theorem ml_X7_33 : Cond.classLink RX7 33 RX6 ∈ zAll := zAll_of (zTb 117 (by decide +kernel)) (by decide +kernel)
theorem mn_X6 : Cond.instantiable RX6 5 ∈ zAll := zAll_of (zTb 118 (by decide +kernel)) (by decide +kernel)
theorem mm_X6_init : Cond.instanceMethod yX6_init ∈ zAll := zAll_of (zTb 120 (by decide +kernel)) (by decide +kernel)
theorem mc_X6_init : Cond.code yX6_init cX6_init 1 none ∈ zAll := zAll_of (zTb 121 (by decide +kernel)) (by decide +kernel)
theorem ml_X7_40 : Cond.classLink RX7 40 RX0 ∈ zAll := zAll_of (zTb 139 (by decide +kernel)) (by decide +kernel)
theorem mn_X0 : Cond.instantiable RX0 3 ∈ zAll := zAll_of (zTb 140 (by decide +kernel)) (by decide +kernel)
theorem mm_X0_init : Cond.instanceMethod yX0_init ∈ zAll := zAll_of (zTb 142 (by decide +kernel)) (by decide +kernel)
theorem mc_X0_init : Cond.code yX0_init cX0_init 2 none ∈ zAll := zAll_of (zTb 143 (by decide +kernel)) (by decide +kernel)
theorem ml_X0_9 : Cond.classLink RX0 9 RX4 ∈ zAll := zAll_of (zTb 145 (by decide +kernel)) (by decide +kernel)
theorem ml_X7_47 : Cond.classLink RX7 47 RX5 ∈ zAll := zAll_of (zTb 159 (by decide +kernel)) (by decide +kernel)
theorem mn_X5 : Cond.instantiable RX5 2 ∈ zAll := zAll_of (zTb 160 (by decide +kernel)) (by decide +kernel)
theorem mm_X5_init : Cond.instanceMethod yX5_init ∈ zAll := zAll_of (zTb 162 (by decide +kernel)) (by decide +kernel)
theorem mc_X5_init : Cond.code yX5_init cX5_init 1 none ∈ zAll := zAll_of (zTb 163 (by decide +kernel)) (by decide +kernel)
theorem ml_X5_7 : Cond.classLink RX5 7 RX4 ∈ zAll := zAll_of (zTb 165 (by decide +kernel)) (by decide +kernel)
theorem mm_X7_start : Cond.instanceMethod yX7_start ∈ zAll := zAll_of (zTb 202 (by decide +kernel)) (by decide +kernel)
theorem mv_X7_start : Cond.selects yX7_start.cls yX7_start yX7_start ∈ zAll := zAll_of (zTb 203 (by decide +kernel)) (by decide +kernel)
theorem mc_X7_start : Cond.code yX7_start cX7_start 4 (some .int) ∈ zAll := zAll_of (zTb 204 (by decide +kernel)) (by decide +kernel)
theorem ms_X7_isWithin : Cond.static yX7_isWithin ∈ zAll := zAll_of (zTb 206 (by decide +kernel)) (by decide +kernel)
theorem mc_X7_isWithin : Cond.code yX7_isWithin cX7_isWithin 3 (some .boolean) ∈ zAll := zAll_of (zTb 207 (by decide +kernel)) (by decide +kernel)
theorem mm_X4_clubs : Cond.instanceMethod yX4_clubs ∈ zAll := zAll_of (zTb 210 (by decide +kernel)) (by decide +kernel)
theorem mc_X4_clubs : Cond.code yX4_clubs cX4_clubs 1 (some .int) ∈ zAll := zAll_of (zTb 211 (by decide +kernel)) (by decide +kernel)
theorem mm_X1_clubs : Cond.instanceMethod yX1_clubs ∈ zAll := zAll_of (zTb 214 (by decide +kernel)) (by decide +kernel)
theorem mc_X1_clubs : Cond.code yX1_clubs cX1_clubs 1 (some .int) ∈ zAll := zAll_of (zTb 215 (by decide +kernel)) (by decide +kernel)
theorem ms_J6_bitCount_0f7a4 : Cond.static yJ6_bitCount_0f7a4 ∈ zAll := zAll_of (zTb 217 (by decide +kernel)) (by decide +kernel)
theorem mc_J6_bitCount_0f7a4 : Cond.code yJ6_bitCount_0f7a4 cJ6_bitCount_0f7a4 1 (some .int) ∈ zAll := zAll_of (zTb 218 (by decide +kernel)) (by decide +kernel)
theorem mk_J6_265 : Cond.constant RJ6 265 (1431655765 : Int32) ∈ zAll := zAll_of (zTb 219 (by decide +kernel)) (by decide +kernel)
theorem mk_J6_266 : Cond.constant RJ6 266 (858993459 : Int32) ∈ zAll := zAll_of (zTb 220 (by decide +kernel)) (by decide +kernel)
theorem mk_J6_267 : Cond.constant RJ6 267 (252645135 : Int32) ∈ zAll := zAll_of (zTb 221 (by decide +kernel)) (by decide +kernel)
theorem mm_X0_record : Cond.instanceMethod yX0_record ∈ zAll := zAll_of (zTb 224 (by decide +kernel)) (by decide +kernel)
theorem mc_X0_record : Cond.code yX0_record cX0_record 3 none ∈ zAll := zAll_of (zTb 225 (by decide +kernel)) (by decide +kernel)
theorem ms_X7_leftOver : Cond.static yX7_leftOver ∈ zAll := zAll_of (zTb 227 (by decide +kernel)) (by decide +kernel)
theorem mc_X7_leftOver : Cond.code yX7_leftOver cX7_leftOver 2 (some .int) ∈ zAll := zAll_of (zTb 228 (by decide +kernel)) (by decide +kernel)
theorem ms_J9_floorMod_7cf53 : Cond.static yJ9_floorMod_7cf53 ∈ zAll := zAll_of (zTb 230 (by decide +kernel)) (by decide +kernel)
theorem mc_J9_floorMod_7cf53 : Cond.code yJ9_floorMod_7cf53 cJ9_floorMod_7cf53 3 (some .int) ∈ zAll := zAll_of (zTb 231 (by decide +kernel)) (by decide +kernel)
theorem mm_X0_latest : Cond.instanceMethod yX0_latest ∈ zAll := zAll_of (zTb 234 (by decide +kernel)) (by decide +kernel)
theorem mc_X0_latest : Cond.code yX0_latest cX0_latest 2 (some (.object "JugglerStates$Scene")) ∈ zAll := zAll_of (zTb 235 (by decide +kernel)) (by decide +kernel)
theorem mm_X4_become : Cond.instanceMethod yX4_become ∈ zAll := zAll_of (zTb 238 (by decide +kernel)) (by decide +kernel)
theorem mc_X4_become : Cond.code yX4_become cX4_become 2 none ∈ zAll := zAll_of (zTb 239 (by decide +kernel)) (by decide +kernel)
theorem mm_X1_become : Cond.instanceMethod yX1_become ∈ zAll := zAll_of (zTb 242 (by decide +kernel)) (by decide +kernel)
theorem mc_X1_become : Cond.code yX1_become cX1_become 3 none ∈ zAll := zAll_of (zTb 243 (by decide +kernel)) (by decide +kernel)
theorem mm_X1_heightAt : Cond.instanceMethod yX1_heightAt ∈ zAll := zAll_of (zTb 246 (by decide +kernel)) (by decide +kernel)
theorem mc_X1_heightAt : Cond.code yX1_heightAt cX1_heightAt 2 (some .int) ∈ zAll := zAll_of (zTb 247 (by decide +kernel)) (by decide +kernel)
theorem ms_X7_valueAt : Cond.static yX7_valueAt ∈ zAll := zAll_of (zTb 249 (by decide +kernel)) (by decide +kernel)
theorem mc_X7_valueAt : Cond.code yX7_valueAt cX7_valueAt 2 (some .int) ∈ zAll := zAll_of (zTb 250 (by decide +kernel)) (by decide +kernel)
theorem ms_X7_setAt : Cond.static yX7_setAt ∈ zAll := zAll_of (zTb 252 (by decide +kernel)) (by decide +kernel)
theorem mc_X7_setAt : Cond.code yX7_setAt cX7_setAt 3 none ∈ zAll := zAll_of (zTb 253 (by decide +kernel)) (by decide +kernel)
theorem mm_X4_begin : Cond.instanceMethod yX4_begin ∈ zAll := zAll_of (zTb 256 (by decide +kernel)) (by decide +kernel)
theorem mc_X4_begin : Cond.code yX4_begin cX4_begin 3 none ∈ zAll := zAll_of (zTb 257 (by decide +kernel)) (by decide +kernel)
theorem mm_X1_begin : Cond.instanceMethod yX1_begin ∈ zAll := zAll_of (zTb 260 (by decide +kernel)) (by decide +kernel)
theorem mc_X1_begin : Cond.code yX1_begin cX1_begin 2 none ∈ zAll := zAll_of (zTb 261 (by decide +kernel)) (by decide +kernel)
theorem ms_X7_firstBeats : Cond.static yX7_firstBeats ∈ zAll := zAll_of (zTb 263 (by decide +kernel)) (by decide +kernel)
theorem mc_X7_firstBeats : Cond.code yX7_firstBeats cX7_firstBeats 1 (some .int) ∈ zAll := zAll_of (zTb 264 (by decide +kernel)) (by decide +kernel)
theorem mm_X7_read : Cond.instanceMethod yX7_read ∈ zAll := zAll_of (zTb 266 (by decide +kernel)) (by decide +kernel)
theorem mv_X7_read : Cond.selects yX7_read.cls yX7_read yX7_read ∈ zAll := zAll_of (zTb 267 (by decide +kernel)) (by decide +kernel)
theorem mc_X7_read : Cond.code yX7_read cX7_read 2 (some .int) ∈ zAll := zAll_of (zTb 268 (by decide +kernel)) (by decide +kernel)
theorem mm_X2_programFault : Cond.instanceMethod yX2_programFault ∈ zAll := zAll_of (zTb 271 (by decide +kernel)) (by decide +kernel)
theorem mc_X2_programFault : Cond.code yX2_programFault cX2_programFault 3 (some .int) ∈ zAll := zAll_of (zTb 272 (by decide +kernel)) (by decide +kernel)
theorem mm_X2_canStand : Cond.instanceMethod yX2_canStand ∈ zAll := zAll_of (zTb 275 (by decide +kernel)) (by decide +kernel)
theorem mc_X2_canStand : Cond.code yX2_canStand cX2_canStand 4 (some .boolean) ∈ zAll := zAll_of (zTb 276 (by decide +kernel)) (by decide +kernel)
theorem mm_X2_codeAt : Cond.instanceMethod yX2_codeAt ∈ zAll := zAll_of (zTb 279 (by decide +kernel)) (by decide +kernel)
theorem mc_X2_codeAt : Cond.code yX2_codeAt cX2_codeAt 2 (some .int) ∈ zAll := zAll_of (zTb 280 (by decide +kernel)) (by decide +kernel)
theorem mm_X2_isHeightAt : Cond.instanceMethod yX2_isHeightAt ∈ zAll := zAll_of (zTb 284 (by decide +kernel)) (by decide +kernel)
theorem mc_X2_isHeightAt : Cond.code yX2_isHeightAt cX2_isHeightAt 2 (some .boolean) ∈ zAll := zAll_of (zTb 285 (by decide +kernel)) (by decide +kernel)
theorem ms_X7_isHeight : Cond.static yX7_isHeight ∈ zAll := zAll_of (zTb 287 (by decide +kernel)) (by decide +kernel)
theorem mc_X7_isHeight : Cond.code yX7_isHeight cX7_isHeight 1 (some .boolean) ∈ zAll := zAll_of (zTb 288 (by decide +kernel)) (by decide +kernel)
theorem mm_X2_digit : Cond.instanceMethod yX2_digit ∈ zAll := zAll_of (zTb 291 (by decide +kernel)) (by decide +kernel)
theorem mc_X2_digit : Cond.code yX2_digit cX2_digit 2 (some .int) ∈ zAll := zAll_of (zTb 292 (by decide +kernel)) (by decide +kernel)
theorem mm_X4_juggler : Cond.instanceMethod yX4_juggler ∈ zAll := zAll_of (zTb 296 (by decide +kernel)) (by decide +kernel)
theorem mc_X4_juggler : Cond.code yX4_juggler cX4_juggler 2 (some (.object "JugglerStates$Juggler")) ∈ zAll := zAll_of (zTb 297 (by decide +kernel)) (by decide +kernel)
theorem mm_X1_learn : Cond.instanceMethod yX1_learn ∈ zAll := zAll_of (zTb 300 (by decide +kernel)) (by decide +kernel)
theorem mc_X1_learn : Cond.code yX1_learn cX1_learn 3 none ∈ zAll := zAll_of (zTb 301 (by decide +kernel)) (by decide +kernel)
theorem mm_X2_clear : Cond.instanceMethod yX2_clear ∈ zAll := zAll_of (zTb 306 (by decide +kernel)) (by decide +kernel)
theorem mc_X2_clear : Cond.code yX2_clear cX2_clear 1 none ∈ zAll := zAll_of (zTb 307 (by decide +kernel)) (by decide +kernel)
theorem mm_X7_pass : Cond.instanceMethod yX7_pass ∈ zAll := zAll_of (zTb 309 (by decide +kernel)) (by decide +kernel)
theorem mv_X7_pass : Cond.selects yX7_pass.cls yX7_pass yX7_pass ∈ zAll := zAll_of (zTb 310 (by decide +kernel)) (by decide +kernel)
theorem mc_X7_pass : Cond.code yX7_pass cX7_pass 2 (some .int) ∈ zAll := zAll_of (zTb 311 (by decide +kernel)) (by decide +kernel)
theorem mk_X7_97 : Cond.constant RX7 97 (100000 : Int32) ∈ zAll := zAll_of (zTb 312 (by decide +kernel)) (by decide +kernel)
theorem mm_X4_play : Cond.instanceMethod yX4_play ∈ zAll := zAll_of (zTb 315 (by decide +kernel)) (by decide +kernel)
theorem mc_X4_play : Cond.code yX4_play cX4_play 4 (some .int) ∈ zAll := zAll_of (zTb 316 (by decide +kernel)) (by decide +kernel)
theorem mm_X4_letThrow : Cond.instanceMethod yX4_letThrow ∈ zAll := zAll_of (zTb 319 (by decide +kernel)) (by decide +kernel)
theorem mc_X4_letThrow : Cond.code yX4_letThrow cX4_letThrow 6 none ∈ zAll := zAll_of (zTb 320 (by decide +kernel)) (by decide +kernel)
theorem mm_X1_expects : Cond.instanceMethod yX1_expects ∈ zAll := zAll_of (zTb 323 (by decide +kernel)) (by decide +kernel)
theorem mc_X1_expects : Cond.code yX1_expects cX1_expects 2 (some .boolean) ∈ zAll := zAll_of (zTb 324 (by decide +kernel)) (by decide +kernel)
theorem ms_X7_has : Cond.static yX7_has ∈ zAll := zAll_of (zTb 326 (by decide +kernel)) (by decide +kernel)
theorem mc_X7_has : Cond.code yX7_has cX7_has 2 (some .boolean) ∈ zAll := zAll_of (zTb 327 (by decide +kernel)) (by decide +kernel)
theorem mm_X1_isPassAt : Cond.instanceMethod yX1_isPassAt ∈ zAll := zAll_of (zTb 331 (by decide +kernel)) (by decide +kernel)
theorem mc_X1_isPassAt : Cond.code yX1_isPassAt cX1_isPassAt 2 (some .boolean) ∈ zAll := zAll_of (zTb 332 (by decide +kernel)) (by decide +kernel)
theorem mm_X1_expect : Cond.instanceMethod yX1_expect ∈ zAll := zAll_of (zTb 335 (by decide +kernel)) (by decide +kernel)
theorem mc_X1_expect : Cond.code yX1_expect cX1_expect 2 none ∈ zAll := zAll_of (zTb 336 (by decide +kernel)) (by decide +kernel)
theorem ms_X7_oneIf : Cond.static yX7_oneIf ∈ zAll := zAll_of (zTb 338 (by decide +kernel)) (by decide +kernel)
theorem mc_X7_oneIf : Cond.code yX7_oneIf cX7_oneIf 1 (some .int) ∈ zAll := zAll_of (zTb 339 (by decide +kernel)) (by decide +kernel)
theorem mm_X1_endBeat : Cond.instanceMethod yX1_endBeat ∈ zAll := zAll_of (zTb 342 (by decide +kernel)) (by decide +kernel)
theorem mc_X1_endBeat : Cond.code yX1_endBeat cX1_endBeat 1 none ∈ zAll := zAll_of (zTb 343 (by decide +kernel)) (by decide +kernel)
theorem mm_X7_drop : Cond.instanceMethod yX7_drop ∈ zAll := zAll_of (zTb 345 (by decide +kernel)) (by decide +kernel)
theorem mv_X7_drop : Cond.selects yX7_drop.cls yX7_drop yX7_drop ∈ zAll := zAll_of (zTb 346 (by decide +kernel)) (by decide +kernel)
theorem mc_X7_drop : Cond.code yX7_drop cX7_drop 3 (some .int) ∈ zAll := zAll_of (zTb 347 (by decide +kernel)) (by decide +kernel)
theorem ms_X7_isJuggler : Cond.static yX7_isJuggler ∈ zAll := zAll_of (zTb 349 (by decide +kernel)) (by decide +kernel)
theorem mc_X7_isJuggler : Cond.code yX7_isJuggler cX7_isJuggler 1 (some .boolean) ∈ zAll := zAll_of (zTb 350 (by decide +kernel)) (by decide +kernel)
theorem ms_X7_isBeat : Cond.static yX7_isBeat ∈ zAll := zAll_of (zTb 352 (by decide +kernel)) (by decide +kernel)
theorem mc_X7_isBeat : Cond.code yX7_isBeat cX7_isBeat 1 (some .boolean) ∈ zAll := zAll_of (zTb 353 (by decide +kernel)) (by decide +kernel)
theorem mm_X1_lose : Cond.instanceMethod yX1_lose ∈ zAll := zAll_of (zTb 357 (by decide +kernel)) (by decide +kernel)
theorem mc_X1_lose : Cond.code yX1_lose cX1_lose 2 none ∈ zAll := zAll_of (zTb 358 (by decide +kernel)) (by decide +kernel)
theorem mm_X7_pick : Cond.instanceMethod yX7_pick ∈ zAll := zAll_of (zTb 360 (by decide +kernel)) (by decide +kernel)
theorem mv_X7_pick : Cond.selects yX7_pick.cls yX7_pick yX7_pick ∈ zAll := zAll_of (zTb 361 (by decide +kernel)) (by decide +kernel)
theorem mc_X7_pick : Cond.code yX7_pick cX7_pick 3 (some .int) ∈ zAll := zAll_of (zTb 362 (by decide +kernel)) (by decide +kernel)
theorem mm_X7_of : Cond.instanceMethod yX7_of ∈ zAll := zAll_of (zTb 365 (by decide +kernel)) (by decide +kernel)
theorem mv_X7_of : Cond.selects yX7_of.cls yX7_of yX7_of ∈ zAll := zAll_of (zTb 366 (by decide +kernel)) (by decide +kernel)
theorem mc_X7_of : Cond.code yX7_of cX7_of 4 (some .int) ∈ zAll := zAll_of (zTb 367 (by decide +kernel)) (by decide +kernel)
theorem mm_X7_thrown : Cond.instanceMethod yX7_thrown ∈ zAll := zAll_of (zTb 370 (by decide +kernel)) (by decide +kernel)
theorem mv_X7_thrown : Cond.selects yX7_thrown.cls yX7_thrown yX7_thrown ∈ zAll := zAll_of (zTb 371 (by decide +kernel)) (by decide +kernel)
theorem mc_X7_thrown : Cond.code yX7_thrown cX7_thrown 5 (some .int) ∈ zAll := zAll_of (zTb 372 (by decide +kernel)) (by decide +kernel)
theorem mm_X7_count : Cond.instanceMethod yX7_count ∈ zAll := zAll_of (zTb 377 (by decide +kernel)) (by decide +kernel)
theorem mv_X7_count : Cond.selects yX7_count.cls yX7_count yX7_count ∈ zAll := zAll_of (zTb 378 (by decide +kernel)) (by decide +kernel)
theorem mc_X7_count : Cond.code yX7_count cX7_count 2 (some .int) ∈ zAll := zAll_of (zTb 379 (by decide +kernel)) (by decide +kernel)
theorem mm_X7_firstDrop : Cond.instanceMethod yX7_firstDrop ∈ zAll := zAll_of (zTb 381 (by decide +kernel)) (by decide +kernel)
theorem mv_X7_firstDrop : Cond.selects yX7_firstDrop.cls yX7_firstDrop yX7_firstDrop ∈ zAll := zAll_of (zTb 382 (by decide +kernel)) (by decide +kernel)
theorem mc_X7_firstDrop : Cond.code yX7_firstDrop cX7_firstDrop 2 (some .int) ∈ zAll := zAll_of (zTb 383 (by decide +kernel)) (by decide +kernel)
theorem mm_X7_comesRound : Cond.instanceMethod yX7_comesRound ∈ zAll := zAll_of (zTb 386 (by decide +kernel)) (by decide +kernel)
theorem mv_X7_comesRound : Cond.selects yX7_comesRound.cls yX7_comesRound yX7_comesRound ∈ zAll := zAll_of (zTb 387 (by decide +kernel)) (by decide +kernel)
theorem mc_X7_comesRound : Cond.code yX7_comesRound cX7_comesRound 2 (some .int) ∈ zAll := zAll_of (zTb 388 (by decide +kernel)) (by decide +kernel)
theorem mm_X4_standsLike : Cond.instanceMethod yX4_standsLike ∈ zAll := zAll_of (zTb 391 (by decide +kernel)) (by decide +kernel)
theorem mc_X4_standsLike : Cond.code yX4_standsLike cX4_standsLike 2 (some .boolean) ∈ zAll := zAll_of (zTb 392 (by decide +kernel)) (by decide +kernel)
theorem mm_X1_standsLike : Cond.instanceMethod yX1_standsLike ∈ zAll := zAll_of (zTb 395 (by decide +kernel)) (by decide +kernel)
theorem mc_X1_standsLike : Cond.code yX1_standsLike cX1_standsLike 2 (some .boolean) ∈ zAll := zAll_of (zTb 396 (by decide +kernel)) (by decide +kernel)
theorem mm_X7_stateBehind : Cond.instanceMethod yX7_stateBehind ∈ zAll := zAll_of (zTb 398 (by decide +kernel)) (by decide +kernel)
theorem mv_X7_stateBehind : Cond.selects yX7_stateBehind.cls yX7_stateBehind yX7_stateBehind ∈ zAll := zAll_of (zTb 399 (by decide +kernel)) (by decide +kernel)
theorem mc_X7_stateBehind : Cond.code yX7_stateBehind cX7_stateBehind 3 (some .int) ∈ zAll := zAll_of (zTb 400 (by decide +kernel)) (by decide +kernel)
theorem mm_X7_pattern : Cond.instanceMethod yX7_pattern ∈ zAll := zAll_of (zTb 402 (by decide +kernel)) (by decide +kernel)
theorem mv_X7_pattern : Cond.selects yX7_pattern.cls yX7_pattern yX7_pattern ∈ zAll := zAll_of (zTb 403 (by decide +kernel)) (by decide +kernel)
theorem mc_X7_pattern : Cond.code yX7_pattern cX7_pattern 3 (some .int) ∈ zAll := zAll_of (zTb 404 (by decide +kernel)) (by decide +kernel)
theorem mm_X3_learn : Cond.instanceMethod yX3_learn ∈ zAll := zAll_of (zTb 407 (by decide +kernel)) (by decide +kernel)
theorem mc_X3_learn : Cond.code yX3_learn cX3_learn 3 (some .boolean) ∈ zAll := zAll_of (zTb 408 (by decide +kernel)) (by decide +kernel)
theorem mm_X3_isSound : Cond.instanceMethod yX3_isSound ∈ zAll := zAll_of (zTb 415 (by decide +kernel)) (by decide +kernel)
theorem mc_X3_isSound : Cond.code yX3_isSound cX3_isSound 3 (some .boolean) ∈ zAll := zAll_of (zTb 416 (by decide +kernel)) (by decide +kernel)
theorem mm_X3_landing : Cond.instanceMethod yX3_landing ∈ zAll := zAll_of (zTb 419 (by decide +kernel)) (by decide +kernel)
theorem mc_X3_landing : Cond.code yX3_landing cX3_landing 2 (some .int) ∈ zAll := zAll_of (zTb 420 (by decide +kernel)) (by decide +kernel)
theorem mm_X3_heightAt : Cond.instanceMethod yX3_heightAt ∈ zAll := zAll_of (zTb 423 (by decide +kernel)) (by decide +kernel)
theorem mc_X3_heightAt : Cond.code yX3_heightAt cX3_heightAt 2 (some .int) ∈ zAll := zAll_of (zTb 424 (by decide +kernel)) (by decide +kernel)
theorem mm_X3_clubs : Cond.instanceMethod yX3_clubs ∈ zAll := zAll_of (zTb 429 (by decide +kernel)) (by decide +kernel)
theorem mc_X3_clubs : Cond.code yX3_clubs cX3_clubs 3 (some .int) ∈ zAll := zAll_of (zTb 430 (by decide +kernel)) (by decide +kernel)
theorem mm_X3_startState : Cond.instanceMethod yX3_startState ∈ zAll := zAll_of (zTb 433 (by decide +kernel)) (by decide +kernel)
theorem mc_X3_startState : Cond.code yX3_startState cX3_startState 4 (some .int) ∈ zAll := zAll_of (zTb 434 (by decide +kernel)) (by decide +kernel)
theorem mm_X3_orbits : Cond.instanceMethod yX3_orbits ∈ zAll := zAll_of (zTb 437 (by decide +kernel)) (by decide +kernel)
theorem mc_X3_orbits : Cond.code yX3_orbits cX3_orbits 5 (some .int) ∈ zAll := zAll_of (zTb 438 (by decide +kernel)) (by decide +kernel)
theorem mm_X3_orbitThrough : Cond.instanceMethod yX3_orbitThrough ∈ zAll := zAll_of (zTb 441 (by decide +kernel)) (by decide +kernel)
theorem mc_X3_orbitThrough : Cond.code yX3_orbitThrough cX3_orbitThrough 5 (some .int) ∈ zAll := zAll_of (zTb 442 (by decide +kernel)) (by decide +kernel)
theorem mm_X3_period : Cond.instanceMethod yX3_period ∈ zAll := zAll_of (zTb 447 (by decide +kernel)) (by decide +kernel)
theorem mc_X3_period : Cond.code yX3_period cX3_period 2 (some .int) ∈ zAll := zAll_of (zTb 448 (by decide +kernel)) (by decide +kernel)
theorem mm_X3_comesAgainBehind : Cond.instanceMethod yX3_comesAgainBehind ∈ zAll := zAll_of (zTb 451 (by decide +kernel)) (by decide +kernel)
theorem mc_X3_comesAgainBehind : Cond.code yX3_comesAgainBehind cX3_comesAgainBehind 3 (some .boolean) ∈ zAll := zAll_of (zTb 452 (by decide +kernel)) (by decide +kernel)
theorem mm_X7_back : Cond.instanceMethod yX7_back ∈ zAll := zAll_of (zTb 455 (by decide +kernel)) (by decide +kernel)
theorem mv_X7_back : Cond.selects yX7_back.cls yX7_back yX7_back ∈ zAll := zAll_of (zTb 456 (by decide +kernel)) (by decide +kernel)
theorem mc_X7_back : Cond.code yX7_back cX7_back 2 (some .int) ∈ zAll := zAll_of (zTb 457 (by decide +kernel)) (by decide +kernel)
theorem mm_X3_heightTurnedBack : Cond.instanceMethod yX3_heightTurnedBack ∈ zAll := zAll_of (zTb 460 (by decide +kernel)) (by decide +kernel)
theorem mc_X3_heightTurnedBack : Cond.code yX3_heightTurnedBack cX3_heightTurnedBack 3 (some .int) ∈ zAll := zAll_of (zTb 461 (by decide +kernel)) (by decide +kernel)
theorem mm_X7_way : Cond.instanceMethod yX7_way ∈ zAll := zAll_of (zTb 463 (by decide +kernel)) (by decide +kernel)
theorem mv_X7_way : Cond.selects yX7_way.cls yX7_way yX7_way ∈ zAll := zAll_of (zTb 464 (by decide +kernel)) (by decide +kernel)
theorem mc_X7_way : Cond.code yX7_way cX7_way 5 (some .int) ∈ zAll := zAll_of (zTb 465 (by decide +kernel)) (by decide +kernel)
theorem mm_X6_searchFrom : Cond.instanceMethod yX6_searchFrom ∈ zAll := zAll_of (zTb 468 (by decide +kernel)) (by decide +kernel)
theorem mc_X6_searchFrom : Cond.code yX6_searchFrom cX6_searchFrom 3 none ∈ zAll := zAll_of (zTb 469 (by decide +kernel)) (by decide +kernel)
theorem ms_J7_fill_53178 : Cond.static yJ7_fill_53178 ∈ zAll := zAll_of (zTb 471 (by decide +kernel)) (by decide +kernel)
theorem mc_J7_fill_53178 : Cond.code yJ7_fill_53178 cJ7_fill_53178 4 none ∈ zAll := zAll_of (zTb 472 (by decide +kernel)) (by decide +kernel)
theorem mm_X6_reach : Cond.instanceMethod yX6_reach ∈ zAll := zAll_of (zTb 475 (by decide +kernel)) (by decide +kernel)
theorem mc_X6_reach : Cond.code yX6_reach cX6_reach 5 none ∈ zAll := zAll_of (zTb 476 (by decide +kernel)) (by decide +kernel)
theorem mm_X6_stepsTo : Cond.instanceMethod yX6_stepsTo ∈ zAll := zAll_of (zTb 479 (by decide +kernel)) (by decide +kernel)
theorem mc_X6_stepsTo : Cond.code yX6_stepsTo cX6_stepsTo 2 (some .int) ∈ zAll := zAll_of (zTb 480 (by decide +kernel)) (by decide +kernel)
theorem mm_X6_goOnFrom : Cond.instanceMethod yX6_goOnFrom ∈ zAll := zAll_of (zTb 485 (by decide +kernel)) (by decide +kernel)
theorem mc_X6_goOnFrom : Cond.code yX6_goOnFrom cX6_goOnFrom 3 none ∈ zAll := zAll_of (zTb 486 (by decide +kernel)) (by decide +kernel)
theorem mm_X6_makeThrow : Cond.instanceMethod yX6_makeThrow ∈ zAll := zAll_of (zTb 490 (by decide +kernel)) (by decide +kernel)
theorem mc_X6_makeThrow : Cond.code yX6_makeThrow cX6_makeThrow 5 none ∈ zAll := zAll_of (zTb 491 (by decide +kernel)) (by decide +kernel)
theorem mm_X6_firstThrowTo : Cond.instanceMethod yX6_firstThrowTo ∈ zAll := zAll_of (zTb 494 (by decide +kernel)) (by decide +kernel)
theorem mc_X6_firstThrowTo : Cond.code yX6_firstThrowTo cX6_firstThrowTo 2 (some .int) ∈ zAll := zAll_of (zTb 495 (by decide +kernel)) (by decide +kernel)
theorem mm_X6_lastThrowTo : Cond.instanceMethod yX6_lastThrowTo ∈ zAll := zAll_of (zTb 500 (by decide +kernel)) (by decide +kernel)
theorem mc_X6_lastThrowTo : Cond.code yX6_lastThrowTo cX6_lastThrowTo 2 (some .int) ∈ zAll := zAll_of (zTb 501 (by decide +kernel)) (by decide +kernel)
theorem mm_X7_howMany : Cond.instanceMethod yX7_howMany ∈ zAll := zAll_of (zTb 503 (by decide +kernel)) (by decide +kernel)
theorem mv_X7_howMany : Cond.selects yX7_howMany.cls yX7_howMany yX7_howMany ∈ zAll := zAll_of (zTb 504 (by decide +kernel)) (by decide +kernel)
theorem mc_X7_howMany : Cond.code yX7_howMany cX7_howMany 3 (some .int) ∈ zAll := zAll_of (zTb 505 (by decide +kernel)) (by decide +kernel)
theorem ms_X7_soundEndings : Cond.static yX7_soundEndings ∈ zAll := zAll_of (zTb 507 (by decide +kernel)) (by decide +kernel)
theorem mc_X7_soundEndings : Cond.code yX7_soundEndings cX7_soundEndings 7 (some .int) ∈ zAll := zAll_of (zTb 508 (by decide +kernel)) (by decide +kernel)
theorem mm_X7_put : Cond.instanceMethod yX7_put ∈ zAll := zAll_of (zTb 512 (by decide +kernel)) (by decide +kernel)
theorem mv_X7_put : Cond.selects yX7_put.cls yX7_put yX7_put ∈ zAll := zAll_of (zTb 513 (by decide +kernel)) (by decide +kernel)
theorem mc_X7_put : Cond.code yX7_put cX7_put 5 (some .int) ∈ zAll := zAll_of (zTb 514 (by decide +kernel)) (by decide +kernel)
theorem ms_X7_packedCharacters : Cond.static yX7_packedCharacters ∈ zAll := zAll_of (zTb 516 (by decide +kernel)) (by decide +kernel)
theorem mc_X7_packedCharacters : Cond.code yX7_packedCharacters cX7_packedCharacters 5 (some .int) ∈ zAll := zAll_of (zTb 517 (by decide +kernel)) (by decide +kernel)
theorem mk_X7_242 : Cond.constantLong RX7 242 (255 : Int64) ∈ zAll := zAll_of (zTb 518 (by decide +kernel)) (by decide +kernel)
theorem mm_X2_append : Cond.instanceMethod yX2_append ∈ zAll := zAll_of (zTb 521 (by decide +kernel)) (by decide +kernel)
theorem mc_X2_append : Cond.code yX2_append cX2_append 2 none ∈ zAll := zAll_of (zTb 522 (by decide +kernel)) (by decide +kernel)
theorem mm_X7_wipe : Cond.instanceMethod yX7_wipe ∈ zAll := zAll_of (zTb 525 (by decide +kernel)) (by decide +kernel)
theorem mv_X7_wipe : Cond.selects yX7_wipe.cls yX7_wipe yX7_wipe ∈ zAll := zAll_of (zTb 526 (by decide +kernel)) (by decide +kernel)
theorem mc_X7_wipe : Cond.code yX7_wipe cX7_wipe 2 (some .int) ∈ zAll := zAll_of (zTb 527 (by decide +kernel)) (by decide +kernel)
theorem mm_X7_fault : Cond.instanceMethod yX7_fault ∈ zAll := zAll_of (zTb 529 (by decide +kernel)) (by decide +kernel)
theorem mv_X7_fault : Cond.selects yX7_fault.cls yX7_fault yX7_fault ∈ zAll := zAll_of (zTb 530 (by decide +kernel)) (by decide +kernel)
theorem mc_X7_fault : Cond.code yX7_fault cX7_fault 1 (some .int) ∈ zAll := zAll_of (zTb 531 (by decide +kernel)) (by decide +kernel)
theorem mm_X7_undo : Cond.instanceMethod yX7_undo ∈ zAll := zAll_of (zTb 533 (by decide +kernel)) (by decide +kernel)
theorem mv_X7_undo : Cond.selects yX7_undo.cls yX7_undo yX7_undo ∈ zAll := zAll_of (zTb 534 (by decide +kernel)) (by decide +kernel)
theorem mc_X7_undo : Cond.code yX7_undo cX7_undo 1 (some .int) ∈ zAll := zAll_of (zTb 535 (by decide +kernel)) (by decide +kernel)
theorem mm_X0_takeBack : Cond.instanceMethod yX0_takeBack ∈ zAll := zAll_of (zTb 538 (by decide +kernel)) (by decide +kernel)
theorem mc_X0_takeBack : Cond.code yX0_takeBack cX0_takeBack 3 none ∈ zAll := zAll_of (zTb 539 (by decide +kernel)) (by decide +kernel)
theorem mm_X7_save : Cond.instanceMethod yX7_save ∈ zAll := zAll_of (zTb 541 (by decide +kernel)) (by decide +kernel)
theorem mv_X7_save : Cond.selects yX7_save.cls yX7_save yX7_save ∈ zAll := zAll_of (zTb 542 (by decide +kernel)) (by decide +kernel)
theorem mc_X7_save : Cond.code yX7_save cX7_save 2 (some .int) ∈ zAll := zAll_of (zTb 543 (by decide +kernel)) (by decide +kernel)
theorem ms_X7_isSlot : Cond.static yX7_isSlot ∈ zAll := zAll_of (zTb 545 (by decide +kernel)) (by decide +kernel)
theorem mc_X7_isSlot : Cond.code yX7_isSlot cX7_isSlot 1 (some .boolean) ∈ zAll := zAll_of (zTb 546 (by decide +kernel)) (by decide +kernel)
theorem mm_X7_slotOf : Cond.instanceMethod yX7_slotOf ∈ zAll := zAll_of (zTb 549 (by decide +kernel)) (by decide +kernel)
theorem mc_X7_slotOf : Cond.code yX7_slotOf cX7_slotOf 2 (some (.object "JugglerStates$Slot")) ∈ zAll := zAll_of (zTb 550 (by decide +kernel)) (by decide +kernel)
theorem mm_X5_keep : Cond.instanceMethod yX5_keep ∈ zAll := zAll_of (zTb 553 (by decide +kernel)) (by decide +kernel)
theorem mc_X5_keep : Cond.code yX5_keep cX5_keep 2 none ∈ zAll := zAll_of (zTb 554 (by decide +kernel)) (by decide +kernel)
theorem mm_X7_restore : Cond.instanceMethod yX7_restore ∈ zAll := zAll_of (zTb 557 (by decide +kernel)) (by decide +kernel)
theorem mv_X7_restore : Cond.selects yX7_restore.cls yX7_restore yX7_restore ∈ zAll := zAll_of (zTb 558 (by decide +kernel)) (by decide +kernel)
theorem mc_X7_restore : Cond.code yX7_restore cX7_restore 2 (some .int) ∈ zAll := zAll_of (zTb 559 (by decide +kernel)) (by decide +kernel)
theorem ml_L_10 : Cond.classLink RL 10 RX8 ∈ zAll := zAll_of (zTb 560 (by decide +kernel)) (by decide +kernel)
theorem mn_X8 : Cond.instantiable RX8 14 ∈ zAll := zAll_of (zTb 561 (by decide +kernel)) (by decide +kernel)
theorem mm_X8_init : Cond.instanceMethod yX8_init ∈ zAll := zAll_of (zTb 563 (by decide +kernel)) (by decide +kernel)
theorem mc_X8_init : Cond.code yX8_init cX8_init 1 none ∈ zAll := zAll_of (zTb 564 (by decide +kernel)) (by decide +kernel)
theorem mm_X8_start : Cond.instanceMethod yX8_start ∈ zAll := zAll_of (zTb 610 (by decide +kernel)) (by decide +kernel)
theorem mv_X8_start : Cond.selects yX8_start.cls yX8_start yX8_start ∈ zAll := zAll_of (zTb 611 (by decide +kernel)) (by decide +kernel)
theorem mc_X8_start : Cond.code yX8_start cX8_start 5 (some .int) ∈ zAll := zAll_of (zTb 612 (by decide +kernel)) (by decide +kernel)
theorem mk_X8_58 : Cond.constantLong RX8 58 (8 : Int64) ∈ zAll := zAll_of (zTb 613 (by decide +kernel)) (by decide +kernel)
theorem ms_X8_in : Cond.static yX8_in ∈ zAll := zAll_of (zTb 615 (by decide +kernel)) (by decide +kernel)
theorem mc_X8_in : Cond.code yX8_in cX8_in 6 (some .boolean) ∈ zAll := zAll_of (zTb 616 (by decide +kernel)) (by decide +kernel)
theorem mm_X8_keep : Cond.instanceMethod yX8_keep ∈ zAll := zAll_of (zTb 619 (by decide +kernel)) (by decide +kernel)
theorem mc_X8_keep : Cond.code yX8_keep cX8_keep 2 none ∈ zAll := zAll_of (zTb 620 (by decide +kernel)) (by decide +kernel)
theorem mm_X8_clubs : Cond.instanceMethod yX8_clubs ∈ zAll := zAll_of (zTb 623 (by decide +kernel)) (by decide +kernel)
theorem mc_X8_clubs : Cond.code yX8_clubs cX8_clubs 1 (some .int) ∈ zAll := zAll_of (zTb 624 (by decide +kernel)) (by decide +kernel)
theorem ms_X8_bits : Cond.static yX8_bits ∈ zAll := zAll_of (zTb 626 (by decide +kernel)) (by decide +kernel)
theorem mc_X8_bits : Cond.code yX8_bits cX8_bits 3 (some .int) ∈ zAll := zAll_of (zTb 627 (by decide +kernel)) (by decide +kernel)
theorem mm_X8_changed : Cond.instanceMethod yX8_changed ∈ zAll := zAll_of (zTb 630 (by decide +kernel)) (by decide +kernel)
theorem mc_X8_changed : Cond.code yX8_changed cX8_changed 3 (some .int) ∈ zAll := zAll_of (zTb 631 (by decide +kernel)) (by decide +kernel)
theorem mm_X8_pass : Cond.instanceMethod yX8_pass ∈ zAll := zAll_of (zTb 633 (by decide +kernel)) (by decide +kernel)
theorem mv_X8_pass : Cond.selects yX8_pass.cls yX8_pass yX8_pass ∈ zAll := zAll_of (zTb 634 (by decide +kernel)) (by decide +kernel)
theorem mc_X8_pass : Cond.code yX8_pass cX8_pass 4 (some .int) ∈ zAll := zAll_of (zTb 635 (by decide +kernel)) (by decide +kernel)
theorem mk_X8_70 : Cond.constantLong RX8 70 (200 : Int64) ∈ zAll := zAll_of (zTb 636 (by decide +kernel)) (by decide +kernel)
theorem mk_X8_72 : Cond.constant RX8 72 (100000 : Int32) ∈ zAll := zAll_of (zTb 637 (by decide +kernel)) (by decide +kernel)
theorem mm_X8_beats : Cond.instanceMethod yX8_beats ∈ zAll := zAll_of (zTb 640 (by decide +kernel)) (by decide +kernel)
theorem mc_X8_beats : Cond.code yX8_beats cX8_beats 2 none ∈ zAll := zAll_of (zTb 641 (by decide +kernel)) (by decide +kernel)
theorem mm_X8_throwsOne : Cond.instanceMethod yX8_throwsOne ∈ zAll := zAll_of (zTb 644 (by decide +kernel)) (by decide +kernel)
theorem mc_X8_throwsOne : Cond.code yX8_throwsOne cX8_throwsOne 5 none ∈ zAll := zAll_of (zTb 645 (by decide +kernel)) (by decide +kernel)
theorem mm_X8_drop : Cond.instanceMethod yX8_drop ∈ zAll := zAll_of (zTb 647 (by decide +kernel)) (by decide +kernel)
theorem mv_X8_drop : Cond.selects yX8_drop.cls yX8_drop yX8_drop ∈ zAll := zAll_of (zTb 648 (by decide +kernel)) (by decide +kernel)
theorem mc_X8_drop : Cond.code yX8_drop cX8_drop 3 (some .int) ∈ zAll := zAll_of (zTb 649 (by decide +kernel)) (by decide +kernel)
theorem ms_X8_isJuggler : Cond.static yX8_isJuggler ∈ zAll := zAll_of (zTb 651 (by decide +kernel)) (by decide +kernel)
theorem mc_X8_isJuggler : Cond.code yX8_isJuggler cX8_isJuggler 1 (some .boolean) ∈ zAll := zAll_of (zTb 652 (by decide +kernel)) (by decide +kernel)
theorem ms_X8_isBeat : Cond.static yX8_isBeat ∈ zAll := zAll_of (zTb 654 (by decide +kernel)) (by decide +kernel)
theorem mc_X8_isBeat : Cond.code yX8_isBeat cX8_isBeat 1 (some .boolean) ∈ zAll := zAll_of (zTb 655 (by decide +kernel)) (by decide +kernel)
theorem mk_X8_48 : Cond.constantLong RX8 48 (7 : Int64) ∈ zAll := zAll_of (zTb 656 (by decide +kernel)) (by decide +kernel)
theorem mm_X8_comes : Cond.instanceMethod yX8_comes ∈ zAll := zAll_of (zTb 659 (by decide +kernel)) (by decide +kernel)
theorem mc_X8_comes : Cond.code yX8_comes cX8_comes 3 (some .boolean) ∈ zAll := zAll_of (zTb 660 (by decide +kernel)) (by decide +kernel)
theorem mm_X8_pick : Cond.instanceMethod yX8_pick ∈ zAll := zAll_of (zTb 662 (by decide +kernel)) (by decide +kernel)
theorem mv_X8_pick : Cond.selects yX8_pick.cls yX8_pick yX8_pick ∈ zAll := zAll_of (zTb 663 (by decide +kernel)) (by decide +kernel)
theorem mc_X8_pick : Cond.code yX8_pick cX8_pick 3 (some .int) ∈ zAll := zAll_of (zTb 664 (by decide +kernel)) (by decide +kernel)
theorem mm_X8_of : Cond.instanceMethod yX8_of ∈ zAll := zAll_of (zTb 666 (by decide +kernel)) (by decide +kernel)
theorem mv_X8_of : Cond.selects yX8_of.cls yX8_of yX8_of ∈ zAll := zAll_of (zTb 667 (by decide +kernel)) (by decide +kernel)
theorem mc_X8_of : Cond.code yX8_of cX8_of 3 (some .int) ∈ zAll := zAll_of (zTb 668 (by decide +kernel)) (by decide +kernel)
theorem mm_X8_thrown : Cond.instanceMethod yX8_thrown ∈ zAll := zAll_of (zTb 670 (by decide +kernel)) (by decide +kernel)
theorem mv_X8_thrown : Cond.selects yX8_thrown.cls yX8_thrown yX8_thrown ∈ zAll := zAll_of (zTb 671 (by decide +kernel)) (by decide +kernel)
theorem mc_X8_thrown : Cond.code yX8_thrown cX8_thrown 5 (some .int) ∈ zAll := zAll_of (zTb 672 (by decide +kernel)) (by decide +kernel)
theorem mm_X8_count : Cond.instanceMethod yX8_count ∈ zAll := zAll_of (zTb 674 (by decide +kernel)) (by decide +kernel)
theorem mv_X8_count : Cond.selects yX8_count.cls yX8_count yX8_count ∈ zAll := zAll_of (zTb 675 (by decide +kernel)) (by decide +kernel)
theorem mc_X8_count : Cond.code yX8_count cX8_count 2 (some .int) ∈ zAll := zAll_of (zTb 676 (by decide +kernel)) (by decide +kernel)
theorem mm_X8_firstDrop : Cond.instanceMethod yX8_firstDrop ∈ zAll := zAll_of (zTb 678 (by decide +kernel)) (by decide +kernel)
theorem mv_X8_firstDrop : Cond.selects yX8_firstDrop.cls yX8_firstDrop yX8_firstDrop ∈ zAll := zAll_of (zTb 679 (by decide +kernel)) (by decide +kernel)
theorem mc_X8_firstDrop : Cond.code yX8_firstDrop cX8_firstDrop 3 (some .int) ∈ zAll := zAll_of (zTb 680 (by decide +kernel)) (by decide +kernel)
theorem mm_X8_giveBack : Cond.instanceMethod yX8_giveBack ∈ zAll := zAll_of (zTb 683 (by decide +kernel)) (by decide +kernel)
theorem mc_X8_giveBack : Cond.code yX8_giveBack cX8_giveBack 2 none ∈ zAll := zAll_of (zTb 684 (by decide +kernel)) (by decide +kernel)
theorem mm_X8_comesRound : Cond.instanceMethod yX8_comesRound ∈ zAll := zAll_of (zTb 686 (by decide +kernel)) (by decide +kernel)
theorem mv_X8_comesRound : Cond.selects yX8_comesRound.cls yX8_comesRound yX8_comesRound ∈ zAll := zAll_of (zTb 687 (by decide +kernel)) (by decide +kernel)
theorem mc_X8_comesRound : Cond.code yX8_comesRound cX8_comesRound 3 (some .int) ∈ zAll := zAll_of (zTb 688 (by decide +kernel)) (by decide +kernel)
theorem mm_X8_isAsKept : Cond.instanceMethod yX8_isAsKept ∈ zAll := zAll_of (zTb 691 (by decide +kernel)) (by decide +kernel)
theorem mc_X8_isAsKept : Cond.code yX8_isAsKept cX8_isAsKept 3 (some .boolean) ∈ zAll := zAll_of (zTb 692 (by decide +kernel)) (by decide +kernel)
theorem mm_X8_stateBehind : Cond.instanceMethod yX8_stateBehind ∈ zAll := zAll_of (zTb 694 (by decide +kernel)) (by decide +kernel)
theorem mv_X8_stateBehind : Cond.selects yX8_stateBehind.cls yX8_stateBehind yX8_stateBehind ∈ zAll := zAll_of (zTb 695 (by decide +kernel)) (by decide +kernel)
theorem mc_X8_stateBehind : Cond.code yX8_stateBehind cX8_stateBehind 4 (some .int) ∈ zAll := zAll_of (zTb 696 (by decide +kernel)) (by decide +kernel)
theorem mm_X8_put : Cond.instanceMethod yX8_put ∈ zAll := zAll_of (zTb 698 (by decide +kernel)) (by decide +kernel)
theorem mv_X8_put : Cond.selects yX8_put.cls yX8_put yX8_put ∈ zAll := zAll_of (zTb 699 (by decide +kernel)) (by decide +kernel)
theorem mc_X8_put : Cond.code yX8_put cX8_put 8 (some .int) ∈ zAll := zAll_of (zTb 700 (by decide +kernel)) (by decide +kernel)
theorem mk_X8_97 : Cond.constantLong RX8 97 (255 : Int64) ∈ zAll := zAll_of (zTb 701 (by decide +kernel)) (by decide +kernel)
theorem mk_X8_99 : Cond.constantLong RX8 99 (33 : Int64) ∈ zAll := zAll_of (zTb 702 (by decide +kernel)) (by decide +kernel)
theorem mk_X8_101 : Cond.constantLong RX8 101 (126 : Int64) ∈ zAll := zAll_of (zTb 703 (by decide +kernel)) (by decide +kernel)
theorem mm_X8_wipe : Cond.instanceMethod yX8_wipe ∈ zAll := zAll_of (zTb 705 (by decide +kernel)) (by decide +kernel)
theorem mv_X8_wipe : Cond.selects yX8_wipe.cls yX8_wipe yX8_wipe ∈ zAll := zAll_of (zTb 706 (by decide +kernel)) (by decide +kernel)
theorem mc_X8_wipe : Cond.code yX8_wipe cX8_wipe 2 (some .int) ∈ zAll := zAll_of (zTb 707 (by decide +kernel)) (by decide +kernel)
theorem mm_X8_fault : Cond.instanceMethod yX8_fault ∈ zAll := zAll_of (zTb 709 (by decide +kernel)) (by decide +kernel)
theorem mv_X8_fault : Cond.selects yX8_fault.cls yX8_fault yX8_fault ∈ zAll := zAll_of (zTb 710 (by decide +kernel)) (by decide +kernel)
theorem mc_X8_fault : Cond.code yX8_fault cX8_fault 3 (some .int) ∈ zAll := zAll_of (zTb 711 (by decide +kernel)) (by decide +kernel)
theorem mm_X8_isAt : Cond.instanceMethod yX8_isAt ∈ zAll := zAll_of (zTb 714 (by decide +kernel)) (by decide +kernel)
theorem mc_X8_isAt : Cond.code yX8_isAt cX8_isAt 4 (some .boolean) ∈ zAll := zAll_of (zTb 715 (by decide +kernel)) (by decide +kernel)
theorem mm_X8_read : Cond.instanceMethod yX8_read ∈ zAll := zAll_of (zTb 717 (by decide +kernel)) (by decide +kernel)
theorem mv_X8_read : Cond.selects yX8_read.cls yX8_read yX8_read ∈ zAll := zAll_of (zTb 718 (by decide +kernel)) (by decide +kernel)
theorem mc_X8_read : Cond.code yX8_read cX8_read 3 (some .int) ∈ zAll := zAll_of (zTb 719 (by decide +kernel)) (by decide +kernel)
theorem mm_X8_pattern : Cond.instanceMethod yX8_pattern ∈ zAll := zAll_of (zTb 722 (by decide +kernel)) (by decide +kernel)
theorem mv_X8_pattern : Cond.selects yX8_pattern.cls yX8_pattern yX8_pattern ∈ zAll := zAll_of (zTb 723 (by decide +kernel)) (by decide +kernel)
theorem mc_X8_pattern : Cond.code yX8_pattern cX8_pattern 2 (some .int) ∈ zAll := zAll_of (zTb 724 (by decide +kernel)) (by decide +kernel)
theorem mm_X8_readsPattern : Cond.instanceMethod yX8_readsPattern ∈ zAll := zAll_of (zTb 727 (by decide +kernel)) (by decide +kernel)
theorem mc_X8_readsPattern : Cond.code yX8_readsPattern cX8_readsPattern 3 (some .boolean) ∈ zAll := zAll_of (zTb 728 (by decide +kernel)) (by decide +kernel)
theorem mk_X8_140 : Cond.constantLong RX8 140 (6 : Int64) ∈ zAll := zAll_of (zTb 729 (by decide +kernel)) (by decide +kernel)
theorem mm_X8_isSound : Cond.instanceMethod yX8_isSound ∈ zAll := zAll_of (zTb 732 (by decide +kernel)) (by decide +kernel)
theorem mc_X8_isSound : Cond.code yX8_isSound cX8_isSound 3 (some .boolean) ∈ zAll := zAll_of (zTb 733 (by decide +kernel)) (by decide +kernel)
theorem mm_X8_lands : Cond.instanceMethod yX8_lands ∈ zAll := zAll_of (zTb 736 (by decide +kernel)) (by decide +kernel)
theorem mc_X8_lands : Cond.code yX8_lands cX8_lands 2 (some .int) ∈ zAll := zAll_of (zTb 737 (by decide +kernel)) (by decide +kernel)
theorem mm_X8_told : Cond.instanceMethod yX8_told ∈ zAll := zAll_of (zTb 740 (by decide +kernel)) (by decide +kernel)
theorem mc_X8_told : Cond.code yX8_told cX8_told 3 (some .int) ∈ zAll := zAll_of (zTb 741 (by decide +kernel)) (by decide +kernel)
theorem mm_X8_sumOfHeights : Cond.instanceMethod yX8_sumOfHeights ∈ zAll := zAll_of (zTb 744 (by decide +kernel)) (by decide +kernel)
theorem mc_X8_sumOfHeights : Cond.code yX8_sumOfHeights cX8_sumOfHeights 3 (some .int) ∈ zAll := zAll_of (zTb 745 (by decide +kernel)) (by decide +kernel)
theorem mm_X8_startOf : Cond.instanceMethod yX8_startOf ∈ zAll := zAll_of (zTb 748 (by decide +kernel)) (by decide +kernel)
theorem mc_X8_startOf : Cond.code yX8_startOf cX8_startOf 4 (some .int) ∈ zAll := zAll_of (zTb 749 (by decide +kernel)) (by decide +kernel)
theorem mm_X8_orbits : Cond.instanceMethod yX8_orbits ∈ zAll := zAll_of (zTb 752 (by decide +kernel)) (by decide +kernel)
theorem mc_X8_orbits : Cond.code yX8_orbits cX8_orbits 4 (some .int) ∈ zAll := zAll_of (zTb 753 (by decide +kernel)) (by decide +kernel)
theorem mm_X8_orbitOf : Cond.instanceMethod yX8_orbitOf ∈ zAll := zAll_of (zTb 756 (by decide +kernel)) (by decide +kernel)
theorem mc_X8_orbitOf : Cond.code yX8_orbitOf cX8_orbitOf 4 (some .int) ∈ zAll := zAll_of (zTb 757 (by decide +kernel)) (by decide +kernel)
theorem mm_X8_period : Cond.instanceMethod yX8_period ∈ zAll := zAll_of (zTb 760 (by decide +kernel)) (by decide +kernel)
theorem mc_X8_period : Cond.code yX8_period cX8_period 2 (some .int) ∈ zAll := zAll_of (zTb 761 (by decide +kernel)) (by decide +kernel)
theorem mm_X8_comesAgain : Cond.instanceMethod yX8_comesAgain ∈ zAll := zAll_of (zTb 764 (by decide +kernel)) (by decide +kernel)
theorem mc_X8_comesAgain : Cond.code yX8_comesAgain cX8_comesAgain 4 (some .boolean) ∈ zAll := zAll_of (zTb 765 (by decide +kernel)) (by decide +kernel)
theorem mm_X8_back : Cond.instanceMethod yX8_back ∈ zAll := zAll_of (zTb 767 (by decide +kernel)) (by decide +kernel)
theorem mv_X8_back : Cond.selects yX8_back.cls yX8_back yX8_back ∈ zAll := zAll_of (zTb 768 (by decide +kernel)) (by decide +kernel)
theorem mc_X8_back : Cond.code yX8_back cX8_back 3 (some .int) ∈ zAll := zAll_of (zTb 769 (by decide +kernel)) (by decide +kernel)
theorem mm_X8_way : Cond.instanceMethod yX8_way ∈ zAll := zAll_of (zTb 771 (by decide +kernel)) (by decide +kernel)
theorem mv_X8_way : Cond.selects yX8_way.cls yX8_way yX8_way ∈ zAll := zAll_of (zTb 772 (by decide +kernel)) (by decide +kernel)
theorem mc_X8_way : Cond.code yX8_way cX8_way 6 (some .int) ∈ zAll := zAll_of (zTb 773 (by decide +kernel)) (by decide +kernel)
theorem mk_X8_152 : Cond.constantLong RX8 152 (2 : Int64) ∈ zAll := zAll_of (zTb 774 (by decide +kernel)) (by decide +kernel)
theorem mm_X8_findWays : Cond.instanceMethod yX8_findWays ∈ zAll := zAll_of (zTb 777 (by decide +kernel)) (by decide +kernel)
theorem mc_X8_findWays : Cond.code yX8_findWays cX8_findWays 8 none ∈ zAll := zAll_of (zTb 778 (by decide +kernel)) (by decide +kernel)
theorem ms_X8_behind : Cond.static yX8_behind ∈ zAll := zAll_of (zTb 780 (by decide +kernel)) (by decide +kernel)
theorem mc_X8_behind : Cond.code yX8_behind cX8_behind 2 (some .int) ∈ zAll := zAll_of (zTb 781 (by decide +kernel)) (by decide +kernel)
theorem mm_X8_nextThrow : Cond.instanceMethod yX8_nextThrow ∈ zAll := zAll_of (zTb 784 (by decide +kernel)) (by decide +kernel)
theorem mc_X8_nextThrow : Cond.code yX8_nextThrow cX8_nextThrow 3 (some .int) ∈ zAll := zAll_of (zTb 785 (by decide +kernel)) (by decide +kernel)
theorem mm_X8_howMany : Cond.instanceMethod yX8_howMany ∈ zAll := zAll_of (zTb 787 (by decide +kernel)) (by decide +kernel)
theorem mv_X8_howMany : Cond.selects yX8_howMany.cls yX8_howMany yX8_howMany ∈ zAll := zAll_of (zTb 788 (by decide +kernel)) (by decide +kernel)
theorem mc_X8_howMany : Cond.code yX8_howMany cX8_howMany 6 (some .int) ∈ zAll := zAll_of (zTb 789 (by decide +kernel)) (by decide +kernel)
theorem mk_X8_160 : Cond.constantLong RX8 160 (5 : Int64) ∈ zAll := zAll_of (zTb 790 (by decide +kernel)) (by decide +kernel)
theorem mm_X8_undo : Cond.instanceMethod yX8_undo ∈ zAll := zAll_of (zTb 792 (by decide +kernel)) (by decide +kernel)
theorem mv_X8_undo : Cond.selects yX8_undo.cls yX8_undo yX8_undo ∈ zAll := zAll_of (zTb 793 (by decide +kernel)) (by decide +kernel)
theorem mc_X8_undo : Cond.code yX8_undo cX8_undo 2 (some .int) ∈ zAll := zAll_of (zTb 794 (by decide +kernel)) (by decide +kernel)
theorem mm_X8_save : Cond.instanceMethod yX8_save ∈ zAll := zAll_of (zTb 796 (by decide +kernel)) (by decide +kernel)
theorem mv_X8_save : Cond.selects yX8_save.cls yX8_save yX8_save ∈ zAll := zAll_of (zTb 797 (by decide +kernel)) (by decide +kernel)
theorem mc_X8_save : Cond.code yX8_save cX8_save 3 (some .int) ∈ zAll := zAll_of (zTb 798 (by decide +kernel)) (by decide +kernel)
theorem mm_X8_restore : Cond.instanceMethod yX8_restore ∈ zAll := zAll_of (zTb 800 (by decide +kernel)) (by decide +kernel)
theorem mv_X8_restore : Cond.selects yX8_restore.cls yX8_restore yX8_restore ∈ zAll := zAll_of (zTb 801 (by decide +kernel)) (by decide +kernel)
theorem mc_X8_restore : Cond.code yX8_restore cX8_restore 3 (some .int) ∈ zAll := zAll_of (zTb 802 (by decide +kernel)) (by decide +kernel)
theorem mk_L_77 : Cond.constantLong RL 77 (4294967295 : Int64) ∈ zAll := zAll_of (zTb 803 (by decide +kernel)) (by decide +kernel)
theorem mv_X4_clubs : Cond.selects yX4_clubs.cls yX4_clubs yX4_clubs ∈ zAll := zAll_of (List.mem_of_getElem? (i := 0) (by decide +kernel)) (by decide +kernel)
theorem mv_X1_clubs : Cond.selects yX1_clubs.cls yX1_clubs yX1_clubs ∈ zAll := zAll_of (List.mem_of_getElem? (i := 1) (by decide +kernel)) (by decide +kernel)
theorem mv_X0_record : Cond.selects yX0_record.cls yX0_record yX0_record ∈ zAll := zAll_of (List.mem_of_getElem? (i := 2) (by decide +kernel)) (by decide +kernel)
theorem mv_X0_latest : Cond.selects yX0_latest.cls yX0_latest yX0_latest ∈ zAll := zAll_of (List.mem_of_getElem? (i := 3) (by decide +kernel)) (by decide +kernel)
theorem mv_X4_become : Cond.selects yX4_become.cls yX4_become yX4_become ∈ zAll := zAll_of (List.mem_of_getElem? (i := 4) (by decide +kernel)) (by decide +kernel)
theorem mv_X1_become : Cond.selects yX1_become.cls yX1_become yX1_become ∈ zAll := zAll_of (List.mem_of_getElem? (i := 5) (by decide +kernel)) (by decide +kernel)
theorem mv_X1_heightAt : Cond.selects yX1_heightAt.cls yX1_heightAt yX1_heightAt ∈ zAll := zAll_of (List.mem_of_getElem? (i := 6) (by decide +kernel)) (by decide +kernel)
theorem mv_X4_begin : Cond.selects yX4_begin.cls yX4_begin yX4_begin ∈ zAll := zAll_of (List.mem_of_getElem? (i := 7) (by decide +kernel)) (by decide +kernel)
theorem mv_X1_begin : Cond.selects yX1_begin.cls yX1_begin yX1_begin ∈ zAll := zAll_of (List.mem_of_getElem? (i := 8) (by decide +kernel)) (by decide +kernel)
theorem mv_X2_programFault : Cond.selects yX2_programFault.cls yX2_programFault yX2_programFault ∈ zAll := zAll_of (List.mem_of_getElem? (i := 9) (by decide +kernel)) (by decide +kernel)
theorem mv_X2_canStand : Cond.selects yX2_canStand.cls yX2_canStand yX2_canStand ∈ zAll := zAll_of (List.mem_of_getElem? (i := 10) (by decide +kernel)) (by decide +kernel)
theorem mv_X2_codeAt : Cond.selects yX2_codeAt.cls yX2_codeAt yX2_codeAt ∈ zAll := zAll_of (List.mem_of_getElem? (i := 11) (by decide +kernel)) (by decide +kernel)
theorem mv_X2_isHeightAt : Cond.selects yX2_isHeightAt.cls yX2_isHeightAt yX2_isHeightAt ∈ zAll := zAll_of (List.mem_of_getElem? (i := 12) (by decide +kernel)) (by decide +kernel)
theorem mv_X2_digit : Cond.selects yX2_digit.cls yX2_digit yX2_digit ∈ zAll := zAll_of (List.mem_of_getElem? (i := 13) (by decide +kernel)) (by decide +kernel)
theorem mv_X4_juggler : Cond.selects yX4_juggler.cls yX4_juggler yX4_juggler ∈ zAll := zAll_of (List.mem_of_getElem? (i := 14) (by decide +kernel)) (by decide +kernel)
theorem mv_X1_learn : Cond.selects yX1_learn.cls yX1_learn yX1_learn ∈ zAll := zAll_of (List.mem_of_getElem? (i := 15) (by decide +kernel)) (by decide +kernel)
theorem mv_X2_clear : Cond.selects yX2_clear.cls yX2_clear yX2_clear ∈ zAll := zAll_of (List.mem_of_getElem? (i := 16) (by decide +kernel)) (by decide +kernel)
theorem mv_X4_play : Cond.selects yX4_play.cls yX4_play yX4_play ∈ zAll := zAll_of (List.mem_of_getElem? (i := 17) (by decide +kernel)) (by decide +kernel)
theorem mv_X4_letThrow : Cond.selects yX4_letThrow.cls yX4_letThrow yX4_letThrow ∈ zAll := zAll_of (List.mem_of_getElem? (i := 18) (by decide +kernel)) (by decide +kernel)
theorem mv_X1_expects : Cond.selects yX1_expects.cls yX1_expects yX1_expects ∈ zAll := zAll_of (List.mem_of_getElem? (i := 19) (by decide +kernel)) (by decide +kernel)
theorem mv_X1_isPassAt : Cond.selects yX1_isPassAt.cls yX1_isPassAt yX1_isPassAt ∈ zAll := zAll_of (List.mem_of_getElem? (i := 20) (by decide +kernel)) (by decide +kernel)
theorem mv_X1_expect : Cond.selects yX1_expect.cls yX1_expect yX1_expect ∈ zAll := zAll_of (List.mem_of_getElem? (i := 21) (by decide +kernel)) (by decide +kernel)
theorem mv_X1_endBeat : Cond.selects yX1_endBeat.cls yX1_endBeat yX1_endBeat ∈ zAll := zAll_of (List.mem_of_getElem? (i := 22) (by decide +kernel)) (by decide +kernel)
theorem mv_X1_lose : Cond.selects yX1_lose.cls yX1_lose yX1_lose ∈ zAll := zAll_of (List.mem_of_getElem? (i := 23) (by decide +kernel)) (by decide +kernel)
theorem mv_X4_standsLike : Cond.selects yX4_standsLike.cls yX4_standsLike yX4_standsLike ∈ zAll := zAll_of (List.mem_of_getElem? (i := 24) (by decide +kernel)) (by decide +kernel)
theorem mv_X1_standsLike : Cond.selects yX1_standsLike.cls yX1_standsLike yX1_standsLike ∈ zAll := zAll_of (List.mem_of_getElem? (i := 25) (by decide +kernel)) (by decide +kernel)
theorem mv_X3_learn : Cond.selects yX3_learn.cls yX3_learn yX3_learn ∈ zAll := zAll_of (List.mem_of_getElem? (i := 26) (by decide +kernel)) (by decide +kernel)
theorem mv_X3_isSound : Cond.selects yX3_isSound.cls yX3_isSound yX3_isSound ∈ zAll := zAll_of (List.mem_of_getElem? (i := 27) (by decide +kernel)) (by decide +kernel)
theorem mv_X3_landing : Cond.selects yX3_landing.cls yX3_landing yX3_landing ∈ zAll := zAll_of (List.mem_of_getElem? (i := 28) (by decide +kernel)) (by decide +kernel)
theorem mv_X3_heightAt : Cond.selects yX3_heightAt.cls yX3_heightAt yX3_heightAt ∈ zAll := zAll_of (List.mem_of_getElem? (i := 29) (by decide +kernel)) (by decide +kernel)
theorem mv_X3_clubs : Cond.selects yX3_clubs.cls yX3_clubs yX3_clubs ∈ zAll := zAll_of (List.mem_of_getElem? (i := 30) (by decide +kernel)) (by decide +kernel)
theorem mv_X3_startState : Cond.selects yX3_startState.cls yX3_startState yX3_startState ∈ zAll := zAll_of (List.mem_of_getElem? (i := 31) (by decide +kernel)) (by decide +kernel)
theorem mv_X3_orbits : Cond.selects yX3_orbits.cls yX3_orbits yX3_orbits ∈ zAll := zAll_of (List.mem_of_getElem? (i := 32) (by decide +kernel)) (by decide +kernel)
theorem mv_X3_orbitThrough : Cond.selects yX3_orbitThrough.cls yX3_orbitThrough yX3_orbitThrough ∈ zAll := zAll_of (List.mem_of_getElem? (i := 33) (by decide +kernel)) (by decide +kernel)
theorem mv_X3_period : Cond.selects yX3_period.cls yX3_period yX3_period ∈ zAll := zAll_of (List.mem_of_getElem? (i := 34) (by decide +kernel)) (by decide +kernel)
theorem mv_X3_comesAgainBehind : Cond.selects yX3_comesAgainBehind.cls yX3_comesAgainBehind yX3_comesAgainBehind ∈ zAll := zAll_of (List.mem_of_getElem? (i := 35) (by decide +kernel)) (by decide +kernel)
theorem mv_X3_heightTurnedBack : Cond.selects yX3_heightTurnedBack.cls yX3_heightTurnedBack yX3_heightTurnedBack ∈ zAll := zAll_of (List.mem_of_getElem? (i := 36) (by decide +kernel)) (by decide +kernel)
theorem mv_X6_searchFrom : Cond.selects yX6_searchFrom.cls yX6_searchFrom yX6_searchFrom ∈ zAll := zAll_of (List.mem_of_getElem? (i := 37) (by decide +kernel)) (by decide +kernel)
theorem mv_X6_reach : Cond.selects yX6_reach.cls yX6_reach yX6_reach ∈ zAll := zAll_of (List.mem_of_getElem? (i := 38) (by decide +kernel)) (by decide +kernel)
theorem mv_X6_stepsTo : Cond.selects yX6_stepsTo.cls yX6_stepsTo yX6_stepsTo ∈ zAll := zAll_of (List.mem_of_getElem? (i := 39) (by decide +kernel)) (by decide +kernel)
theorem mv_X6_goOnFrom : Cond.selects yX6_goOnFrom.cls yX6_goOnFrom yX6_goOnFrom ∈ zAll := zAll_of (List.mem_of_getElem? (i := 40) (by decide +kernel)) (by decide +kernel)
theorem mv_X6_makeThrow : Cond.selects yX6_makeThrow.cls yX6_makeThrow yX6_makeThrow ∈ zAll := zAll_of (List.mem_of_getElem? (i := 41) (by decide +kernel)) (by decide +kernel)
theorem mv_X6_firstThrowTo : Cond.selects yX6_firstThrowTo.cls yX6_firstThrowTo yX6_firstThrowTo ∈ zAll := zAll_of (List.mem_of_getElem? (i := 42) (by decide +kernel)) (by decide +kernel)
theorem mv_X6_lastThrowTo : Cond.selects yX6_lastThrowTo.cls yX6_lastThrowTo yX6_lastThrowTo ∈ zAll := zAll_of (List.mem_of_getElem? (i := 43) (by decide +kernel)) (by decide +kernel)
theorem mv_X2_append : Cond.selects yX2_append.cls yX2_append yX2_append ∈ zAll := zAll_of (List.mem_of_getElem? (i := 44) (by decide +kernel)) (by decide +kernel)
theorem mv_X0_takeBack : Cond.selects yX0_takeBack.cls yX0_takeBack yX0_takeBack ∈ zAll := zAll_of (List.mem_of_getElem? (i := 45) (by decide +kernel)) (by decide +kernel)
theorem mv_X7_slotOf : Cond.selects yX7_slotOf.cls yX7_slotOf yX7_slotOf ∈ zAll := zAll_of (List.mem_of_getElem? (i := 46) (by decide +kernel)) (by decide +kernel)
theorem mv_X5_keep : Cond.selects yX5_keep.cls yX5_keep yX5_keep ∈ zAll := zAll_of (List.mem_of_getElem? (i := 47) (by decide +kernel)) (by decide +kernel)
theorem mv_X8_keep : Cond.selects yX8_keep.cls yX8_keep yX8_keep ∈ zAll := zAll_of (List.mem_of_getElem? (i := 48) (by decide +kernel)) (by decide +kernel)
theorem mv_X8_clubs : Cond.selects yX8_clubs.cls yX8_clubs yX8_clubs ∈ zAll := zAll_of (List.mem_of_getElem? (i := 49) (by decide +kernel)) (by decide +kernel)
theorem mv_X8_changed : Cond.selects yX8_changed.cls yX8_changed yX8_changed ∈ zAll := zAll_of (List.mem_of_getElem? (i := 50) (by decide +kernel)) (by decide +kernel)
theorem mv_X8_beats : Cond.selects yX8_beats.cls yX8_beats yX8_beats ∈ zAll := zAll_of (List.mem_of_getElem? (i := 51) (by decide +kernel)) (by decide +kernel)
theorem mv_X8_throwsOne : Cond.selects yX8_throwsOne.cls yX8_throwsOne yX8_throwsOne ∈ zAll := zAll_of (List.mem_of_getElem? (i := 52) (by decide +kernel)) (by decide +kernel)
theorem mv_X8_comes : Cond.selects yX8_comes.cls yX8_comes yX8_comes ∈ zAll := zAll_of (List.mem_of_getElem? (i := 53) (by decide +kernel)) (by decide +kernel)
theorem mv_X8_giveBack : Cond.selects yX8_giveBack.cls yX8_giveBack yX8_giveBack ∈ zAll := zAll_of (List.mem_of_getElem? (i := 54) (by decide +kernel)) (by decide +kernel)
theorem mv_X8_isAsKept : Cond.selects yX8_isAsKept.cls yX8_isAsKept yX8_isAsKept ∈ zAll := zAll_of (List.mem_of_getElem? (i := 55) (by decide +kernel)) (by decide +kernel)
theorem mv_X8_isAt : Cond.selects yX8_isAt.cls yX8_isAt yX8_isAt ∈ zAll := zAll_of (List.mem_of_getElem? (i := 56) (by decide +kernel)) (by decide +kernel)
theorem mv_X8_readsPattern : Cond.selects yX8_readsPattern.cls yX8_readsPattern yX8_readsPattern ∈ zAll := zAll_of (List.mem_of_getElem? (i := 57) (by decide +kernel)) (by decide +kernel)
theorem mv_X8_isSound : Cond.selects yX8_isSound.cls yX8_isSound yX8_isSound ∈ zAll := zAll_of (List.mem_of_getElem? (i := 58) (by decide +kernel)) (by decide +kernel)
theorem mv_X8_lands : Cond.selects yX8_lands.cls yX8_lands yX8_lands ∈ zAll := zAll_of (List.mem_of_getElem? (i := 59) (by decide +kernel)) (by decide +kernel)
theorem mv_X8_told : Cond.selects yX8_told.cls yX8_told yX8_told ∈ zAll := zAll_of (List.mem_of_getElem? (i := 60) (by decide +kernel)) (by decide +kernel)
theorem mv_X8_sumOfHeights : Cond.selects yX8_sumOfHeights.cls yX8_sumOfHeights yX8_sumOfHeights ∈ zAll := zAll_of (List.mem_of_getElem? (i := 61) (by decide +kernel)) (by decide +kernel)
theorem mv_X8_startOf : Cond.selects yX8_startOf.cls yX8_startOf yX8_startOf ∈ zAll := zAll_of (List.mem_of_getElem? (i := 62) (by decide +kernel)) (by decide +kernel)
theorem mv_X8_orbits : Cond.selects yX8_orbits.cls yX8_orbits yX8_orbits ∈ zAll := zAll_of (List.mem_of_getElem? (i := 63) (by decide +kernel)) (by decide +kernel)
theorem mv_X8_orbitOf : Cond.selects yX8_orbitOf.cls yX8_orbitOf yX8_orbitOf ∈ zAll := zAll_of (List.mem_of_getElem? (i := 64) (by decide +kernel)) (by decide +kernel)
theorem mv_X8_period : Cond.selects yX8_period.cls yX8_period yX8_period ∈ zAll := zAll_of (List.mem_of_getElem? (i := 65) (by decide +kernel)) (by decide +kernel)
theorem mv_X8_comesAgain : Cond.selects yX8_comesAgain.cls yX8_comesAgain yX8_comesAgain ∈ zAll := zAll_of (List.mem_of_getElem? (i := 66) (by decide +kernel)) (by decide +kernel)
theorem mv_X8_findWays : Cond.selects yX8_findWays.cls yX8_findWays yX8_findWays ∈ zAll := zAll_of (List.mem_of_getElem? (i := 67) (by decide +kernel)) (by decide +kernel)
theorem mv_X8_nextThrow : Cond.selects yX8_nextThrow.cls yX8_nextThrow yX8_nextThrow ∈ zAll := zAll_of (List.mem_of_getElem? (i := 68) (by decide +kernel)) (by decide +kernel)
theorem in_X0 : ∀ w ∈ u_ws RX0 TX0 3, w ∈ zAll := by decide +kernel
theorem in_X1 : ∀ w ∈ u_ws RX1 TX1 7, w ∈ zAll := by decide +kernel
theorem in_X2 : ∀ w ∈ u_ws RX2 TX2 2, w ∈ zAll := by decide +kernel
theorem in_X3 : ∀ w ∈ u_ws RX3 TX3 2, w ∈ zAll := by decide +kernel
theorem in_X4 : ∀ w ∈ u_ws RX4 TX4 6, w ∈ zAll := by decide +kernel
theorem in_X5 : ∀ w ∈ u_ws RX5 TX5 2, w ∈ zAll := by decide +kernel
theorem in_X6 : ∀ w ∈ u_ws RX6 TX6 5, w ∈ zAll := by decide +kernel
theorem in_X7 : ∀ w ∈ u_ws RX7 TX7 8, w ∈ zAll := by decide +kernel
theorem in_X8 : ∀ w ∈ u_ws RX8 TX8 14, w ∈ zAll := by decide +kernel
theorem mj_X7_3 : Cond.methodLink RX7 3 objectInit ∈ zAll := zAll_of (zTb 18 (by decide +kernel)) (by decide +kernel)
theorem mj_X4_1 : Cond.methodLink RX4 1 objectInit ∈ zAll := zAll_of (zTb 26 (by decide +kernel)) (by decide +kernel)
theorem mj_X1_3 : Cond.methodLink RX1 3 objectInit ∈ zAll := zAll_of (zTb 32 (by decide +kernel)) (by decide +kernel)
theorem mj_X2_3 : Cond.methodLink RX2 3 objectInit ∈ zAll := zAll_of (zTb 92 (by decide +kernel)) (by decide +kernel)
theorem mj_X3_3 : Cond.methodLink RX3 3 objectInit ∈ zAll := zAll_of (zTb 108 (by decide +kernel)) (by decide +kernel)
theorem mj_X6_3 : Cond.methodLink RX6 3 objectInit ∈ zAll := zAll_of (zTb 122 (by decide +kernel)) (by decide +kernel)
theorem mj_X0_3 : Cond.methodLink RX0 3 objectInit ∈ zAll := zAll_of (zTb 144 (by decide +kernel)) (by decide +kernel)
theorem mj_X5_1 : Cond.methodLink RX5 1 objectInit ∈ zAll := zAll_of (zTb 164 (by decide +kernel)) (by decide +kernel)
theorem zw_L_13 {R : Room} {s : State} {args : Array Value} {fr lo : Nat} (ht : ∀ w ∈ zAll, w.before args s = true) (hR : fr + 1 ≤ R.frames ∧ 8 + (4 + 11) + lo ≤ R.locals) : CallB R s args RL 13 yX7_start cX7_start 4 (some .int) (zWs yX7_start cX7_start 4 (some .int)) { frames := fr, cells := 0, slots := 0, locals := lo } 0 0 2 ∧ (Cond.instanceMethod yX7_start).before args s = true ∧ (Cond.selects RX7 yX7_start yX7_start).before args s = true := ⟨zwB ht 2 mc_X7_start mi_X7 (zAll_of (zTb 201 (by decide +kernel)) (by decide +kernel)) (by decide +kernel) hR, ht _ mm_X7_start, ht _ mv_X7_start⟩
theorem zw_X7_57 {R : Room} {s : State} {args : Array Value} {fr lo : Nat} (ht : ∀ w ∈ zAll, w.before args s = true) (hR : fr + 1 ≤ R.frames ∧ 8 + (3 + 11) + lo ≤ R.locals) : CallB R s args RX7 57 yX7_isWithin cX7_isWithin 3 (some .boolean) (zWs yX7_isWithin cX7_isWithin 3 (some .boolean)) { frames := fr, cells := 0, slots := 0, locals := lo } 0 0 3 ∧ (Cond.static yX7_isWithin).before args s = true := ⟨zwB ht 3 mc_X7_isWithin mi_X7 (zAll_of (zTb 205 (by decide +kernel)) (by decide +kernel)) (by decide +kernel) hR, ht _ ms_X7_isWithin⟩
theorem zw_X7_61 {R : Room} {s : State} {args : Array Value} {fr lo : Nat} {D : va_G} {cI cR : ClassId} (hK : zK D cI cR s) (ht : ∀ w ∈ zAll, w.before args s = true) (hR : fr + 1 ≤ R.frames ∧ 8 + (1 + 11) + lo ≤ R.locals) : va_CN R s args RX7 61 yX4_clubs "JugglerStates" cX4_clubs 1 (some .int) (zWs yX4_clubs cX4_clubs 1 (some .int)) { frames := fr, cells := 0, slots := 0, locals := lo } 0 0 0 ∧ (Cond.instanceMethod yX4_clubs).before args s = true ∧ (Cond.selects RX4 yX4_clubs yX4_clubs).before args s = true := ⟨zwN hK ht 0 mc_X4_clubs mi_X4 (by decide +kernel) (by decide +kernel) hR, ht _ mm_X4_clubs, ht _ mv_X4_clubs⟩
theorem zw_X4_40 {R : Room} {s : State} {args : Array Value} {fr lo : Nat} {D : va_G} {cI cR : ClassId} (hK : zK D cI cR s) (ht : ∀ w ∈ zAll, w.before args s = true) (hR : fr + 1 ≤ R.frames ∧ 8 + (1 + 11) + lo ≤ R.locals) : va_CN R s args RX4 40 yX1_clubs "JugglerStates" cX1_clubs 1 (some .int) (zWs yX1_clubs cX1_clubs 1 (some .int)) { frames := fr, cells := 0, slots := 0, locals := lo } 0 0 0 ∧ (Cond.instanceMethod yX1_clubs).before args s = true ∧ (Cond.selects RX1 yX1_clubs yX1_clubs).before args s = true := ⟨zwN hK ht 0 mc_X1_clubs mi_X1 (by decide +kernel) (by decide +kernel) hR, ht _ mm_X1_clubs, ht _ mv_X1_clubs⟩
theorem zw_X1_57 {R : Room} {s : State} {args : Array Value} {fr lo : Nat} (ht : ∀ w ∈ zAll, w.before args s = true) (hR : fr + 1 ≤ R.frames ∧ 8 + (1 + 11) + lo ≤ R.locals) : CallB R s args RX1 57 yJ6_bitCount_0f7a4 cJ6_bitCount_0f7a4 1 (some .int) (zWs yJ6_bitCount_0f7a4 cJ6_bitCount_0f7a4 1 (some .int)) { frames := fr, cells := 0, slots := 0, locals := lo } 0 0 1 ∧ (Cond.static yJ6_bitCount_0f7a4).before args s = true := ⟨zwB ht 1 mc_J6_bitCount_0f7a4 mi_J6 (zAll_of (zTb 216 (by decide +kernel)) (by decide +kernel)) (by decide +kernel) hR, ht _ ms_J6_bitCount_0f7a4⟩
theorem zw_X7_65 {R : Room} {s : State} {args : Array Value} {fr lo : Nat} {D : va_G} {cI cR : ClassId} (hK : zK D cI cR s) (ht : ∀ w ∈ zAll, w.before args s = true) (hR : fr + 1 ≤ R.frames ∧ 8 + (3 + 11) + lo ≤ R.locals) : va_CN R s args RX7 65 yX0_record "JugglerStates" cX0_record 3 none (zWs yX0_record cX0_record 3 none) { frames := fr, cells := 0, slots := 0, locals := lo } 0 0 1 ∧ (Cond.instanceMethod yX0_record).before args s = true ∧ (Cond.selects RX0 yX0_record yX0_record).before args s = true := ⟨zwN hK ht 1 mc_X0_record mi_X0 (by decide +kernel) (by decide +kernel) hR, ht _ mm_X0_record, ht _ mv_X0_record⟩
theorem zw_X0_25 {R : Room} {s : State} {args : Array Value} {fr lo : Nat} {D : va_G} {cI cR : ClassId} (hK : zK D cI cR s) (ht : ∀ w ∈ zAll, w.before args s = true) (hR : fr + 1 ≤ R.frames ∧ 8 + (2 + 11) + lo ≤ R.locals) : va_CN R s args RX0 25 yX7_leftOver "JugglerStates" cX7_leftOver 2 (some .int) (zWs yX7_leftOver cX7_leftOver 2 (some .int)) { frames := fr, cells := 0, slots := 0, locals := lo } 0 0 2 ∧ (Cond.static yX7_leftOver).before args s = true ∧ True := ⟨zwN hK ht 2 mc_X7_leftOver mi_X7 (by decide +kernel) (by decide +kernel) hR, ht _ ms_X7_leftOver, trivial⟩
theorem zw_X7_236 {R : Room} {s : State} {args : Array Value} {fr lo : Nat} (ht : ∀ w ∈ zAll, w.before args s = true) (hR : fr + 1 ≤ R.frames ∧ 8 + (3 + 11) + lo ≤ R.locals) : CallB R s args RX7 236 yJ9_floorMod_7cf53 cJ9_floorMod_7cf53 3 (some .int) (zWs yJ9_floorMod_7cf53 cJ9_floorMod_7cf53 3 (some .int)) { frames := fr, cells := 0, slots := 0, locals := lo } 0 0 2 ∧ (Cond.static yJ9_floorMod_7cf53).before args s = true := ⟨zwB ht 2 mc_J9_floorMod_7cf53 mi_J9 (zAll_of (zTb 229 (by decide +kernel)) (by decide +kernel)) (by decide +kernel) hR, ht _ ms_J9_floorMod_7cf53⟩
theorem zw_X0_29 {R : Room} {s : State} {args : Array Value} {fr lo : Nat} (ht : ∀ w ∈ zAll, w.before args s = true) (hR : fr + 1 ≤ R.frames ∧ 8 + (2 + 11) + lo ≤ R.locals) : CallB R s args RX0 29 yX0_latest cX0_latest 2 (some (.object "JugglerStates$Scene")) (zWs yX0_latest cX0_latest 2 (some (.object "JugglerStates$Scene"))) { frames := fr, cells := 0, slots := 0, locals := lo } 0 0 0 ∧ (Cond.instanceMethod yX0_latest).before args s = true ∧ (Cond.selects RX0 yX0_latest yX0_latest).before args s = true := ⟨zwB ht 0 mc_X0_latest mi_X0 (zAll_of (zTb 232 (by decide +kernel)) (by decide +kernel)) (by decide +kernel) hR, ht _ mm_X0_latest, ht _ mv_X0_latest⟩
theorem zw_X0_33 {R : Room} {s : State} {args : Array Value} {fr lo : Nat} {D : va_G} {cI cR : ClassId} (hK : zK D cI cR s) (ht : ∀ w ∈ zAll, w.before args s = true) (hR : fr + 1 ≤ R.frames ∧ 8 + (2 + 11) + lo ≤ R.locals) : va_CN R s args RX0 33 yX4_become "JugglerStates" cX4_become 2 none (zWs yX4_become cX4_become 2 none) { frames := fr, cells := 0, slots := 0, locals := lo } 0 0 1 ∧ (Cond.instanceMethod yX4_become).before args s = true ∧ (Cond.selects RX4 yX4_become yX4_become).before args s = true := ⟨zwN hK ht 1 mc_X4_become mi_X4 (by decide +kernel) (by decide +kernel) hR, ht _ mm_X4_become, ht _ mv_X4_become⟩
theorem zw_X4_19 {R : Room} {s : State} {args : Array Value} {fr lo : Nat} {D : va_G} {cI cR : ClassId} (hK : zK D cI cR s) (ht : ∀ w ∈ zAll, w.before args s = true) (hR : fr + 1 ≤ R.frames ∧ 8 + (3 + 11) + lo ≤ R.locals) : va_CN R s args RX4 19 yX1_become "JugglerStates" cX1_become 3 none (zWs yX1_become cX1_become 3 none) { frames := fr, cells := 0, slots := 0, locals := lo } 0 0 1 ∧ (Cond.instanceMethod yX1_become).before args s = true ∧ (Cond.selects RX1 yX1_become yX1_become).before args s = true := ⟨zwN hK ht 1 mc_X1_become mi_X1 (by decide +kernel) (by decide +kernel) hR, ht _ mm_X1_become, ht _ mv_X1_become⟩
theorem zw_X1_22 {R : Room} {s : State} {args : Array Value} {fr lo : Nat} (ht : ∀ w ∈ zAll, w.before args s = true) (hR : fr + 1 ≤ R.frames ∧ 8 + (2 + 11) + lo ≤ R.locals) : CallB R s args RX1 22 yX1_heightAt cX1_heightAt 2 (some .int) (zWs yX1_heightAt cX1_heightAt 2 (some .int)) { frames := fr, cells := 0, slots := 0, locals := lo } 0 0 1 ∧ (Cond.instanceMethod yX1_heightAt).before args s = true ∧ (Cond.selects RX1 yX1_heightAt yX1_heightAt).before args s = true := ⟨zwB ht 1 mc_X1_heightAt mi_X1 (zAll_of (zTb 244 (by decide +kernel)) (by decide +kernel)) (by decide +kernel) hR, ht _ mm_X1_heightAt, ht _ mv_X1_heightAt⟩
theorem zw_X1_62 {R : Room} {s : State} {args : Array Value} {fr lo : Nat} {D : va_G} {cI cR : ClassId} (hK : zK D cI cR s) (ht : ∀ w ∈ zAll, w.before args s = true) (hR : fr + 1 ≤ R.frames ∧ 8 + (2 + 11) + lo ≤ R.locals) : va_CN R s args RX1 62 yX7_valueAt "JugglerStates" cX7_valueAt 2 (some .int) (zWs yX7_valueAt cX7_valueAt 2 (some .int)) { frames := fr, cells := 0, slots := 0, locals := lo } 0 0 2 ∧ (Cond.static yX7_valueAt).before args s = true ∧ True := ⟨zwN hK ht 2 mc_X7_valueAt mi_X7 (by decide +kernel) (by decide +kernel) hR, ht _ ms_X7_valueAt, trivial⟩
theorem zw_X1_26 {R : Room} {s : State} {args : Array Value} {fr lo : Nat} {D : va_G} {cI cR : ClassId} (hK : zK D cI cR s) (ht : ∀ w ∈ zAll, w.before args s = true) (hR : fr + 1 ≤ R.frames ∧ 8 + (3 + 11) + lo ≤ R.locals) : va_CN R s args RX1 26 yX7_setAt "JugglerStates" cX7_setAt 3 none (zWs yX7_setAt cX7_setAt 3 none) { frames := fr, cells := 0, slots := 0, locals := lo } 0 0 3 ∧ (Cond.static yX7_setAt).before args s = true ∧ True := ⟨zwN hK ht 3 mc_X7_setAt mi_X7 (by decide +kernel) (by decide +kernel) hR, ht _ ms_X7_setAt, trivial⟩
theorem zw_X7_69 {R : Room} {s : State} {args : Array Value} {fr lo : Nat} {D : va_G} {cI cR : ClassId} (hK : zK D cI cR s) (ht : ∀ w ∈ zAll, w.before args s = true) (hR : fr + 1 ≤ R.frames ∧ 8 + (3 + 11) + lo ≤ R.locals) : va_CN R s args RX7 69 yX4_begin "JugglerStates" cX4_begin 3 none (zWs yX4_begin cX4_begin 3 none) { frames := fr, cells := 0, slots := 0, locals := lo } 0 0 2 ∧ (Cond.instanceMethod yX4_begin).before args s = true ∧ (Cond.selects RX4 yX4_begin yX4_begin).before args s = true := ⟨zwN hK ht 2 mc_X4_begin mi_X4 (by decide +kernel) (by decide +kernel) hR, ht _ mm_X4_begin, ht _ mv_X4_begin⟩
theorem zw_X4_36 {R : Room} {s : State} {args : Array Value} {fr lo : Nat} {D : va_G} {cI cR : ClassId} (hK : zK D cI cR s) (ht : ∀ w ∈ zAll, w.before args s = true) (hR : fr + 1 ≤ R.frames ∧ 8 + (2 + 11) + lo ≤ R.locals) : va_CN R s args RX4 36 yX1_begin "JugglerStates" cX1_begin 2 none (zWs yX1_begin cX1_begin 2 none) { frames := fr, cells := 0, slots := 0, locals := lo } 0 0 1 ∧ (Cond.instanceMethod yX1_begin).before args s = true ∧ (Cond.selects RX1 yX1_begin yX1_begin).before args s = true := ⟨zwN hK ht 1 mc_X1_begin mi_X1 (by decide +kernel) (by decide +kernel) hR, ht _ mm_X1_begin, ht _ mv_X1_begin⟩
theorem zw_X1_42 {R : Room} {s : State} {args : Array Value} {fr lo : Nat} {D : va_G} {cI cR : ClassId} (hK : zK D cI cR s) (ht : ∀ w ∈ zAll, w.before args s = true) (hR : fr + 1 ≤ R.frames ∧ 8 + (1 + 11) + lo ≤ R.locals) : va_CN R s args RX1 42 yX7_firstBeats "JugglerStates" cX7_firstBeats 1 (some .int) (zWs yX7_firstBeats cX7_firstBeats 1 (some .int)) { frames := fr, cells := 0, slots := 0, locals := lo } 0 0 1 ∧ (Cond.static yX7_firstBeats).before args s = true ∧ True := ⟨zwN hK ht 1 mc_X7_firstBeats mi_X7 (by decide +kernel) (by decide +kernel) hR, ht _ ms_X7_firstBeats, trivial⟩
theorem zw_L_18 {R : Room} {s : State} {args : Array Value} {fr lo : Nat} (ht : ∀ w ∈ zAll, w.before args s = true) (hR : fr + 1 ≤ R.frames ∧ 8 + (2 + 11) + lo ≤ R.locals) : CallB R s args RL 18 yX7_read cX7_read 2 (some .int) (zWs yX7_read cX7_read 2 (some .int)) { frames := fr, cells := 0, slots := 0, locals := lo } 0 0 0 ∧ (Cond.instanceMethod yX7_read).before args s = true ∧ (Cond.selects RX7 yX7_read yX7_read).before args s = true := ⟨zwB ht 0 mc_X7_read mi_X7 (zAll_of (zTb 265 (by decide +kernel)) (by decide +kernel)) (by decide +kernel) hR, ht _ mm_X7_read, ht _ mv_X7_read⟩
theorem zw_X7_73 {R : Room} {s : State} {args : Array Value} {fr lo : Nat} {D : va_G} {cI cR : ClassId} (hK : zK D cI cR s) (ht : ∀ w ∈ zAll, w.before args s = true) (hR : fr + 1 ≤ R.frames ∧ 8 + (3 + 11) + lo ≤ R.locals) : va_CN R s args RX7 73 yX2_programFault "JugglerStates" cX2_programFault 3 (some .int) (zWs yX2_programFault cX2_programFault 3 (some .int)) { frames := fr, cells := 0, slots := 0, locals := lo } 0 0 0 ∧ (Cond.instanceMethod yX2_programFault).before args s = true ∧ (Cond.selects RX2 yX2_programFault yX2_programFault).before args s = true := ⟨zwN hK ht 0 mc_X2_programFault mi_X2 (by decide +kernel) (by decide +kernel) hR, ht _ mm_X2_programFault, ht _ mv_X2_programFault⟩
theorem zw_X2_35 {R : Room} {s : State} {args : Array Value} {fr lo : Nat} (ht : ∀ w ∈ zAll, w.before args s = true) (hR : fr + 1 ≤ R.frames ∧ 8 + (4 + 11) + lo ≤ R.locals) : CallB R s args RX2 35 yX2_canStand cX2_canStand 4 (some .boolean) (zWs yX2_canStand cX2_canStand 4 (some .boolean)) { frames := fr, cells := 0, slots := 0, locals := lo } 0 0 2 ∧ (Cond.instanceMethod yX2_canStand).before args s = true ∧ (Cond.selects RX2 yX2_canStand yX2_canStand).before args s = true := ⟨zwB ht 2 mc_X2_canStand mi_X2 (zAll_of (zTb 273 (by decide +kernel)) (by decide +kernel)) (by decide +kernel) hR, ht _ mm_X2_canStand, ht _ mv_X2_canStand⟩
theorem zw_X2_27 {R : Room} {s : State} {args : Array Value} {fr lo : Nat} (ht : ∀ w ∈ zAll, w.before args s = true) (hR : fr + 1 ≤ R.frames ∧ 8 + (2 + 11) + lo ≤ R.locals) : CallB R s args RX2 27 yX2_codeAt cX2_codeAt 2 (some .int) (zWs yX2_codeAt cX2_codeAt 2 (some .int)) { frames := fr, cells := 0, slots := 0, locals := lo } 0 0 1 ∧ (Cond.instanceMethod yX2_codeAt).before args s = true ∧ (Cond.selects RX2 yX2_codeAt yX2_codeAt).before args s = true := ⟨zwB ht 1 mc_X2_codeAt mi_X2 (zAll_of (zTb 277 (by decide +kernel)) (by decide +kernel)) (by decide +kernel) hR, ht _ mm_X2_codeAt, ht _ mv_X2_codeAt⟩
theorem zw_X2_23 {R : Room} {s : State} {args : Array Value} {fr lo : Nat} {D : va_G} {cI cR : ClassId} (hK : zK D cI cR s) (ht : ∀ w ∈ zAll, w.before args s = true) (hR : fr + 1 ≤ R.frames ∧ 8 + (2 + 11) + lo ≤ R.locals) : va_CN R s args RX2 23 yX7_valueAt "JugglerStates" cX7_valueAt 2 (some .int) (zWs yX7_valueAt cX7_valueAt 2 (some .int)) { frames := fr, cells := 0, slots := 0, locals := lo } 0 0 2 ∧ (Cond.static yX7_valueAt).before args s = true ∧ True := ⟨zwN hK ht 2 mc_X7_valueAt mi_X7 (by decide +kernel) (by decide +kernel) hR, ht _ ms_X7_valueAt, trivial⟩
theorem zw_X2_39 {R : Room} {s : State} {args : Array Value} {fr lo : Nat} (ht : ∀ w ∈ zAll, w.before args s = true) (hR : fr + 1 ≤ R.frames ∧ 8 + (2 + 11) + lo ≤ R.locals) : CallB R s args RX2 39 yX2_isHeightAt cX2_isHeightAt 2 (some .boolean) (zWs yX2_isHeightAt cX2_isHeightAt 2 (some .boolean)) { frames := fr, cells := 0, slots := 0, locals := lo } 0 0 1 ∧ (Cond.instanceMethod yX2_isHeightAt).before args s = true ∧ (Cond.selects RX2 yX2_isHeightAt yX2_isHeightAt).before args s = true := ⟨zwB ht 1 mc_X2_isHeightAt mi_X2 (zAll_of (zTb 282 (by decide +kernel)) (by decide +kernel)) (by decide +kernel) hR, ht _ mm_X2_isHeightAt, ht _ mv_X2_isHeightAt⟩
theorem zw_X2_31 {R : Room} {s : State} {args : Array Value} {fr lo : Nat} {D : va_G} {cI cR : ClassId} (hK : zK D cI cR s) (ht : ∀ w ∈ zAll, w.before args s = true) (hR : fr + 1 ≤ R.frames ∧ 8 + (1 + 11) + lo ≤ R.locals) : va_CN R s args RX2 31 yX7_isHeight "JugglerStates" cX7_isHeight 1 (some .boolean) (zWs yX7_isHeight cX7_isHeight 1 (some .boolean)) { frames := fr, cells := 0, slots := 0, locals := lo } 0 0 1 ∧ (Cond.static yX7_isHeight).before args s = true ∧ True := ⟨zwN hK ht 1 mc_X7_isHeight mi_X7 (by decide +kernel) (by decide +kernel) hR, ht _ ms_X7_isHeight, trivial⟩
theorem zw_X2_42 {R : Room} {s : State} {args : Array Value} {fr lo : Nat} (ht : ∀ w ∈ zAll, w.before args s = true) (hR : fr + 1 ≤ R.frames ∧ 8 + (2 + 11) + lo ≤ R.locals) : CallB R s args RX2 42 yX2_digit cX2_digit 2 (some .int) (zWs yX2_digit cX2_digit 2 (some .int)) { frames := fr, cells := 0, slots := 0, locals := lo } 0 0 1 ∧ (Cond.instanceMethod yX2_digit).before args s = true ∧ (Cond.selects RX2 yX2_digit yX2_digit).before args s = true := ⟨zwB ht 1 mc_X2_digit mi_X2 (zAll_of (zTb 289 (by decide +kernel)) (by decide +kernel)) (by decide +kernel) hR, ht _ mm_X2_digit, ht _ mv_X2_digit⟩
theorem zw_X7_76 {R : Room} {s : State} {args : Array Value} {fr lo : Nat} {D : va_G} {cI cR : ClassId} (hK : zK D cI cR s) (ht : ∀ w ∈ zAll, w.before args s = true) (hR : fr + 1 ≤ R.frames ∧ 8 + (2 + 11) + lo ≤ R.locals) : va_CN R s args RX7 76 yX2_digit "JugglerStates" cX2_digit 2 (some .int) (zWs yX2_digit cX2_digit 2 (some .int)) { frames := fr, cells := 0, slots := 0, locals := lo } 0 0 1 ∧ (Cond.instanceMethod yX2_digit).before args s = true ∧ (Cond.selects RX2 yX2_digit yX2_digit).before args s = true := ⟨zwN hK ht 1 mc_X2_digit mi_X2 (by decide +kernel) (by decide +kernel) hR, ht _ mm_X2_digit, ht _ mv_X2_digit⟩
theorem zw_X7_80 {R : Room} {s : State} {args : Array Value} {fr lo : Nat} {D : va_G} {cI cR : ClassId} (hK : zK D cI cR s) (ht : ∀ w ∈ zAll, w.before args s = true) (hR : fr + 1 ≤ R.frames ∧ 8 + (2 + 11) + lo ≤ R.locals) : va_CN R s args RX7 80 yX4_juggler "JugglerStates" cX4_juggler 2 (some (.object "JugglerStates$Juggler")) (zWs yX4_juggler cX4_juggler 2 (some (.object "JugglerStates$Juggler"))) { frames := fr, cells := 0, slots := 0, locals := lo } 0 0 1 ∧ (Cond.instanceMethod yX4_juggler).before args s = true ∧ (Cond.selects RX4 yX4_juggler yX4_juggler).before args s = true := ⟨zwN hK ht 1 mc_X4_juggler mi_X4 (by decide +kernel) (by decide +kernel) hR, ht _ mm_X4_juggler, ht _ mv_X4_juggler⟩
theorem zw_X7_84 {R : Room} {s : State} {args : Array Value} {fr lo : Nat} {D : va_G} {cI cR : ClassId} (hK : zK D cI cR s) (ht : ∀ w ∈ zAll, w.before args s = true) (hR : fr + 1 ≤ R.frames ∧ 8 + (3 + 11) + lo ≤ R.locals) : va_CN R s args RX7 84 yX1_learn "JugglerStates" cX1_learn 3 none (zWs yX1_learn cX1_learn 3 none) { frames := fr, cells := 0, slots := 0, locals := lo } 0 0 1 ∧ (Cond.instanceMethod yX1_learn).before args s = true ∧ (Cond.selects RX1 yX1_learn yX1_learn).before args s = true := ⟨zwN hK ht 1 mc_X1_learn mi_X1 (by decide +kernel) (by decide +kernel) hR, ht _ mm_X1_learn, ht _ mv_X1_learn⟩
theorem zw_X1_50 {R : Room} {s : State} {args : Array Value} {fr lo : Nat} {D : va_G} {cI cR : ClassId} (hK : zK D cI cR s) (ht : ∀ w ∈ zAll, w.before args s = true) (hR : fr + 1 ≤ R.frames ∧ 8 + (2 + 11) + lo ≤ R.locals) : va_CN R s args RX1 50 yX2_isHeightAt "JugglerStates" cX2_isHeightAt 2 (some .boolean) (zWs yX2_isHeightAt cX2_isHeightAt 2 (some .boolean)) { frames := fr, cells := 0, slots := 0, locals := lo } 0 0 1 ∧ (Cond.instanceMethod yX2_isHeightAt).before args s = true ∧ (Cond.selects RX2 yX2_isHeightAt yX2_isHeightAt).before args s = true := ⟨zwN hK ht 1 mc_X2_isHeightAt mi_X2 (by decide +kernel) (by decide +kernel) hR, ht _ mm_X2_isHeightAt, ht _ mv_X2_isHeightAt⟩
theorem zw_X1_54 {R : Room} {s : State} {args : Array Value} {fr lo : Nat} {D : va_G} {cI cR : ClassId} (hK : zK D cI cR s) (ht : ∀ w ∈ zAll, w.before args s = true) (hR : fr + 1 ≤ R.frames ∧ 8 + (2 + 11) + lo ≤ R.locals) : va_CN R s args RX1 54 yX2_digit "JugglerStates" cX2_digit 2 (some .int) (zWs yX2_digit cX2_digit 2 (some .int)) { frames := fr, cells := 0, slots := 0, locals := lo } 0 0 1 ∧ (Cond.instanceMethod yX2_digit).before args s = true ∧ (Cond.selects RX2 yX2_digit yX2_digit).before args s = true := ⟨zwN hK ht 1 mc_X2_digit mi_X2 (by decide +kernel) (by decide +kernel) hR, ht _ mm_X2_digit, ht _ mv_X2_digit⟩
theorem zw_X7_90 {R : Room} {s : State} {args : Array Value} {fr lo : Nat} {D : va_G} {cI cR : ClassId} (hK : zK D cI cR s) (ht : ∀ w ∈ zAll, w.before args s = true) (hR : fr + 1 ≤ R.frames ∧ 8 + (1 + 11) + lo ≤ R.locals) : va_CN R s args RX7 90 yX2_clear "JugglerStates" cX2_clear 1 none (zWs yX2_clear cX2_clear 1 none) { frames := fr, cells := 0, slots := 0, locals := lo } 0 0 0 ∧ (Cond.instanceMethod yX2_clear).before args s = true ∧ (Cond.selects RX2 yX2_clear yX2_clear).before args s = true := ⟨zwN hK ht 0 mc_X2_clear mi_X2 (by decide +kernel) (by decide +kernel) hR, ht _ mm_X2_clear, ht _ mv_X2_clear⟩
theorem zw_L_23 {R : Room} {s : State} {args : Array Value} {fr lo : Nat} (ht : ∀ w ∈ zAll, w.before args s = true) (hR : fr + 1 ≤ R.frames ∧ 8 + (2 + 11) + lo ≤ R.locals) : CallB R s args RL 23 yX7_pass cX7_pass 2 (some .int) (zWs yX7_pass cX7_pass 2 (some .int)) { frames := fr, cells := 0, slots := 0, locals := lo } 0 0 1 ∧ (Cond.instanceMethod yX7_pass).before args s = true ∧ (Cond.selects RX7 yX7_pass yX7_pass).before args s = true := ⟨zwB ht 1 mc_X7_pass mi_X7 (zAll_of (zTb 308 (by decide +kernel)) (by decide +kernel)) (by decide +kernel) hR, ht _ mm_X7_pass, ht _ mv_X7_pass⟩
theorem zw_X7_98 {R : Room} {s : State} {args : Array Value} {fr lo : Nat} {D : va_G} {cI cR : ClassId} (hK : zK D cI cR s) (ht : ∀ w ∈ zAll, w.before args s = true) (hR : fr + 1 ≤ R.frames ∧ 8 + (4 + 11) + lo ≤ R.locals) : va_CN R s args RX7 98 yX4_play "JugglerStates" cX4_play 4 (some .int) (zWs yX4_play cX4_play 4 (some .int)) { frames := fr, cells := 0, slots := 0, locals := lo } 0 0 1 ∧ (Cond.instanceMethod yX4_play).before args s = true ∧ (Cond.selects RX4 yX4_play yX4_play).before args s = true := ⟨zwN hK ht 1 mc_X4_play mi_X4 (by decide +kernel) (by decide +kernel) hR, ht _ mm_X4_play, ht _ mv_X4_play⟩
theorem zw_X4_44 {R : Room} {s : State} {args : Array Value} {fr lo : Nat} (ht : ∀ w ∈ zAll, w.before args s = true) (hR : fr + 1 ≤ R.frames ∧ 8 + (6 + 11) + lo ≤ R.locals) : CallB R s args RX4 44 yX4_letThrow cX4_letThrow 6 none (zWs yX4_letThrow cX4_letThrow 6 none) { frames := fr, cells := 0, slots := 0, locals := lo } 0 0 2 ∧ (Cond.instanceMethod yX4_letThrow).before args s = true ∧ (Cond.selects RX4 yX4_letThrow yX4_letThrow).before args s = true := ⟨zwB ht 2 mc_X4_letThrow mi_X4 (zAll_of (zTb 317 (by decide +kernel)) (by decide +kernel)) (by decide +kernel) hR, ht _ mm_X4_letThrow, ht _ mv_X4_letThrow⟩
theorem zw_X4_51 {R : Room} {s : State} {args : Array Value} {fr lo : Nat} {D : va_G} {cI cR : ClassId} (hK : zK D cI cR s) (ht : ∀ w ∈ zAll, w.before args s = true) (hR : fr + 1 ≤ R.frames ∧ 8 + (2 + 11) + lo ≤ R.locals) : va_CN R s args RX4 51 yX1_expects "JugglerStates" cX1_expects 2 (some .boolean) (zWs yX1_expects cX1_expects 2 (some .boolean)) { frames := fr, cells := 0, slots := 0, locals := lo } 0 0 1 ∧ (Cond.instanceMethod yX1_expects).before args s = true ∧ (Cond.selects RX1 yX1_expects yX1_expects).before args s = true := ⟨zwN hK ht 1 mc_X1_expects mi_X1 (by decide +kernel) (by decide +kernel) hR, ht _ mm_X1_expects, ht _ mv_X1_expects⟩
theorem zw_X1_66 {R : Room} {s : State} {args : Array Value} {fr lo : Nat} {D : va_G} {cI cR : ClassId} (hK : zK D cI cR s) (ht : ∀ w ∈ zAll, w.before args s = true) (hR : fr + 1 ≤ R.frames ∧ 8 + (2 + 11) + lo ≤ R.locals) : va_CN R s args RX1 66 yX7_has "JugglerStates" cX7_has 2 (some .boolean) (zWs yX7_has cX7_has 2 (some .boolean)) { frames := fr, cells := 0, slots := 0, locals := lo } 0 0 2 ∧ (Cond.static yX7_has).before args s = true ∧ True := ⟨zwN hK ht 2 mc_X7_has mi_X7 (by decide +kernel) (by decide +kernel) hR, ht _ ms_X7_has, trivial⟩
theorem zw_X4_58 {R : Room} {s : State} {args : Array Value} {fr lo : Nat} {D : va_G} {cI cR : ClassId} (hK : zK D cI cR s) (ht : ∀ w ∈ zAll, w.before args s = true) (hR : fr + 1 ≤ R.frames ∧ 8 + (2 + 11) + lo ≤ R.locals) : va_CN R s args RX4 58 yX1_heightAt "JugglerStates" cX1_heightAt 2 (some .int) (zWs yX1_heightAt cX1_heightAt 2 (some .int)) { frames := fr, cells := 0, slots := 0, locals := lo } 0 0 1 ∧ (Cond.instanceMethod yX1_heightAt).before args s = true ∧ (Cond.selects RX1 yX1_heightAt yX1_heightAt).before args s = true := ⟨zwN hK ht 1 mc_X1_heightAt mi_X1 (by decide +kernel) (by decide +kernel) hR, ht _ mm_X1_heightAt, ht _ mv_X1_heightAt⟩
theorem zw_X4_62 {R : Room} {s : State} {args : Array Value} {fr lo : Nat} {D : va_G} {cI cR : ClassId} (hK : zK D cI cR s) (ht : ∀ w ∈ zAll, w.before args s = true) (hR : fr + 1 ≤ R.frames ∧ 8 + (2 + 11) + lo ≤ R.locals) : va_CN R s args RX4 62 yX1_isPassAt "JugglerStates" cX1_isPassAt 2 (some .boolean) (zWs yX1_isPassAt cX1_isPassAt 2 (some .boolean)) { frames := fr, cells := 0, slots := 0, locals := lo } 0 0 1 ∧ (Cond.instanceMethod yX1_isPassAt).before args s = true ∧ (Cond.selects RX1 yX1_isPassAt yX1_isPassAt).before args s = true := ⟨zwN hK ht 1 mc_X1_isPassAt mi_X1 (by decide +kernel) (by decide +kernel) hR, ht _ mm_X1_isPassAt, ht _ mv_X1_isPassAt⟩
theorem zw_X4_71 {R : Room} {s : State} {args : Array Value} {fr lo : Nat} {D : va_G} {cI cR : ClassId} (hK : zK D cI cR s) (ht : ∀ w ∈ zAll, w.before args s = true) (hR : fr + 1 ≤ R.frames ∧ 8 + (2 + 11) + lo ≤ R.locals) : va_CN R s args RX4 71 yX1_expect "JugglerStates" cX1_expect 2 none (zWs yX1_expect cX1_expect 2 none) { frames := fr, cells := 0, slots := 0, locals := lo } 0 0 1 ∧ (Cond.instanceMethod yX1_expect).before args s = true ∧ (Cond.selects RX1 yX1_expect yX1_expect).before args s = true := ⟨zwN hK ht 1 mc_X1_expect mi_X1 (by decide +kernel) (by decide +kernel) hR, ht _ mm_X1_expect, ht _ mv_X1_expect⟩
theorem zw_X4_74 {R : Room} {s : State} {args : Array Value} {fr lo : Nat} {D : va_G} {cI cR : ClassId} (hK : zK D cI cR s) (ht : ∀ w ∈ zAll, w.before args s = true) (hR : fr + 1 ≤ R.frames ∧ 8 + (1 + 11) + lo ≤ R.locals) : va_CN R s args RX4 74 yX7_oneIf "JugglerStates" cX7_oneIf 1 (some .int) (zWs yX7_oneIf cX7_oneIf 1 (some .int)) { frames := fr, cells := 0, slots := 0, locals := lo } 0 0 1 ∧ (Cond.static yX7_oneIf).before args s = true ∧ True := ⟨zwN hK ht 1 mc_X7_oneIf mi_X7 (by decide +kernel) (by decide +kernel) hR, ht _ ms_X7_oneIf, trivial⟩
theorem zw_X4_48 {R : Room} {s : State} {args : Array Value} {fr lo : Nat} {D : va_G} {cI cR : ClassId} (hK : zK D cI cR s) (ht : ∀ w ∈ zAll, w.before args s = true) (hR : fr + 1 ≤ R.frames ∧ 8 + (1 + 11) + lo ≤ R.locals) : va_CN R s args RX4 48 yX1_endBeat "JugglerStates" cX1_endBeat 1 none (zWs yX1_endBeat cX1_endBeat 1 none) { frames := fr, cells := 0, slots := 0, locals := lo } 0 0 0 ∧ (Cond.instanceMethod yX1_endBeat).before args s = true ∧ (Cond.selects RX1 yX1_endBeat yX1_endBeat).before args s = true := ⟨zwN hK ht 0 mc_X1_endBeat mi_X1 (by decide +kernel) (by decide +kernel) hR, ht _ mm_X1_endBeat, ht _ mv_X1_endBeat⟩
theorem zw_L_28 {R : Room} {s : State} {args : Array Value} {fr lo : Nat} (ht : ∀ w ∈ zAll, w.before args s = true) (hR : fr + 1 ≤ R.frames ∧ 8 + (3 + 11) + lo ≤ R.locals) : CallB R s args RL 28 yX7_drop cX7_drop 3 (some .int) (zWs yX7_drop cX7_drop 3 (some .int)) { frames := fr, cells := 0, slots := 0, locals := lo } 0 0 2 ∧ (Cond.instanceMethod yX7_drop).before args s = true ∧ (Cond.selects RX7 yX7_drop yX7_drop).before args s = true := ⟨zwB ht 2 mc_X7_drop mi_X7 (zAll_of (zTb 344 (by decide +kernel)) (by decide +kernel)) (by decide +kernel) hR, ht _ mm_X7_drop, ht _ mv_X7_drop⟩
theorem zw_X7_101 {R : Room} {s : State} {args : Array Value} {fr lo : Nat} (ht : ∀ w ∈ zAll, w.before args s = true) (hR : fr + 1 ≤ R.frames ∧ 8 + (1 + 11) + lo ≤ R.locals) : CallB R s args RX7 101 yX7_isJuggler cX7_isJuggler 1 (some .boolean) (zWs yX7_isJuggler cX7_isJuggler 1 (some .boolean)) { frames := fr, cells := 0, slots := 0, locals := lo } 0 0 1 ∧ (Cond.static yX7_isJuggler).before args s = true := ⟨zwB ht 1 mc_X7_isJuggler mi_X7 (zAll_of (zTb 348 (by decide +kernel)) (by decide +kernel)) (by decide +kernel) hR, ht _ ms_X7_isJuggler⟩
theorem zw_X7_105 {R : Room} {s : State} {args : Array Value} {fr lo : Nat} (ht : ∀ w ∈ zAll, w.before args s = true) (hR : fr + 1 ≤ R.frames ∧ 8 + (1 + 11) + lo ≤ R.locals) : CallB R s args RX7 105 yX7_isBeat cX7_isBeat 1 (some .boolean) (zWs yX7_isBeat cX7_isBeat 1 (some .boolean)) { frames := fr, cells := 0, slots := 0, locals := lo } 0 0 1 ∧ (Cond.static yX7_isBeat).before args s = true := ⟨zwB ht 1 mc_X7_isBeat mi_X7 (zAll_of (zTb 351 (by decide +kernel)) (by decide +kernel)) (by decide +kernel) hR, ht _ ms_X7_isBeat⟩
theorem zw_X7_108 {R : Room} {s : State} {args : Array Value} {fr lo : Nat} {D : va_G} {cI cR : ClassId} (hK : zK D cI cR s) (ht : ∀ w ∈ zAll, w.before args s = true) (hR : fr + 1 ≤ R.frames ∧ 8 + (2 + 11) + lo ≤ R.locals) : va_CN R s args RX7 108 yX1_expects "JugglerStates" cX1_expects 2 (some .boolean) (zWs yX1_expects cX1_expects 2 (some .boolean)) { frames := fr, cells := 0, slots := 0, locals := lo } 0 0 1 ∧ (Cond.instanceMethod yX1_expects).before args s = true ∧ (Cond.selects RX1 yX1_expects yX1_expects).before args s = true := ⟨zwN hK ht 1 mc_X1_expects mi_X1 (by decide +kernel) (by decide +kernel) hR, ht _ mm_X1_expects, ht _ mv_X1_expects⟩
theorem zw_X7_111 {R : Room} {s : State} {args : Array Value} {fr lo : Nat} {D : va_G} {cI cR : ClassId} (hK : zK D cI cR s) (ht : ∀ w ∈ zAll, w.before args s = true) (hR : fr + 1 ≤ R.frames ∧ 8 + (2 + 11) + lo ≤ R.locals) : va_CN R s args RX7 111 yX1_lose "JugglerStates" cX1_lose 2 none (zWs yX1_lose cX1_lose 2 none) { frames := fr, cells := 0, slots := 0, locals := lo } 0 0 1 ∧ (Cond.instanceMethod yX1_lose).before args s = true ∧ (Cond.selects RX1 yX1_lose yX1_lose).before args s = true := ⟨zwN hK ht 1 mc_X1_lose mi_X1 (by decide +kernel) (by decide +kernel) hR, ht _ mm_X1_lose, ht _ mv_X1_lose⟩
theorem zw_L_32 {R : Room} {s : State} {args : Array Value} {fr lo : Nat} (ht : ∀ w ∈ zAll, w.before args s = true) (hR : fr + 1 ≤ R.frames ∧ 8 + (3 + 11) + lo ≤ R.locals) : CallB R s args RL 32 yX7_pick cX7_pick 3 (some .int) (zWs yX7_pick cX7_pick 3 (some .int)) { frames := fr, cells := 0, slots := 0, locals := lo } 0 0 2 ∧ (Cond.instanceMethod yX7_pick).before args s = true ∧ (Cond.selects RX7 yX7_pick yX7_pick).before args s = true := ⟨zwB ht 2 mc_X7_pick mi_X7 (zAll_of (zTb 359 (by decide +kernel)) (by decide +kernel)) (by decide +kernel) hR, ht _ mm_X7_pick, ht _ mv_X7_pick⟩
theorem zw_X7_118 {R : Room} {s : State} {args : Array Value} {fr lo : Nat} {D : va_G} {cI cR : ClassId} (hK : zK D cI cR s) (ht : ∀ w ∈ zAll, w.before args s = true) (hR : fr + 1 ≤ R.frames ∧ 8 + (2 + 11) + lo ≤ R.locals) : va_CN R s args RX7 118 yX1_expect "JugglerStates" cX1_expect 2 none (zWs yX1_expect cX1_expect 2 none) { frames := fr, cells := 0, slots := 0, locals := lo } 0 0 1 ∧ (Cond.instanceMethod yX1_expect).before args s = true ∧ (Cond.selects RX1 yX1_expect yX1_expect).before args s = true := ⟨zwN hK ht 1 mc_X1_expect mi_X1 (by decide +kernel) (by decide +kernel) hR, ht _ mm_X1_expect, ht _ mv_X1_expect⟩
theorem zw_L_36 {R : Room} {s : State} {args : Array Value} {fr lo : Nat} (ht : ∀ w ∈ zAll, w.before args s = true) (hR : fr + 1 ≤ R.frames ∧ 8 + (4 + 11) + lo ≤ R.locals) : CallB R s args RL 36 yX7_of cX7_of 4 (some .int) (zWs yX7_of cX7_of 4 (some .int)) { frames := fr, cells := 0, slots := 0, locals := lo } 0 0 2 ∧ (Cond.instanceMethod yX7_of).before args s = true ∧ (Cond.selects RX7 yX7_of yX7_of).before args s = true := ⟨zwB ht 2 mc_X7_of mi_X7 (zAll_of (zTb 364 (by decide +kernel)) (by decide +kernel)) (by decide +kernel) hR, ht _ mm_X7_of, ht _ mv_X7_of⟩
theorem zw_X7_124 {R : Room} {s : State} {args : Array Value} {fr lo : Nat} {D : va_G} {cI cR : ClassId} (hK : zK D cI cR s) (ht : ∀ w ∈ zAll, w.before args s = true) (hR : fr + 1 ≤ R.frames ∧ 8 + (1 + 11) + lo ≤ R.locals) : va_CN R s args RX7 124 yX1_clubs "JugglerStates" cX1_clubs 1 (some .int) (zWs yX1_clubs cX1_clubs 1 (some .int)) { frames := fr, cells := 0, slots := 0, locals := lo } 0 0 0 ∧ (Cond.instanceMethod yX1_clubs).before args s = true ∧ (Cond.selects RX1 yX1_clubs yX1_clubs).before args s = true := ⟨zwN hK ht 0 mc_X1_clubs mi_X1 (by decide +kernel) (by decide +kernel) hR, ht _ mm_X1_clubs, ht _ mv_X1_clubs⟩
theorem zw_L_40 {R : Room} {s : State} {args : Array Value} {fr lo : Nat} (ht : ∀ w ∈ zAll, w.before args s = true) (hR : fr + 1 ≤ R.frames ∧ 8 + (5 + 11) + lo ≤ R.locals) : CallB R s args RL 40 yX7_thrown cX7_thrown 5 (some .int) (zWs yX7_thrown cX7_thrown 5 (some .int)) { frames := fr, cells := 0, slots := 0, locals := lo } 0 0 3 ∧ (Cond.instanceMethod yX7_thrown).before args s = true ∧ (Cond.selects RX7 yX7_thrown yX7_thrown).before args s = true := ⟨zwB ht 3 mc_X7_thrown mi_X7 (zAll_of (zTb 369 (by decide +kernel)) (by decide +kernel)) (by decide +kernel) hR, ht _ mm_X7_thrown, ht _ mv_X7_thrown⟩
theorem zw_X7_137 {R : Room} {s : State} {args : Array Value} {fr lo : Nat} {D : va_G} {cI cR : ClassId} (hK : zK D cI cR s) (ht : ∀ w ∈ zAll, w.before args s = true) (hR : fr + 1 ≤ R.frames ∧ 8 + (2 + 11) + lo ≤ R.locals) : va_CN R s args RX7 137 yX1_heightAt "JugglerStates" cX1_heightAt 2 (some .int) (zWs yX1_heightAt cX1_heightAt 2 (some .int)) { frames := fr, cells := 0, slots := 0, locals := lo } 0 0 1 ∧ (Cond.instanceMethod yX1_heightAt).before args s = true ∧ (Cond.selects RX1 yX1_heightAt yX1_heightAt).before args s = true := ⟨zwN hK ht 1 mc_X1_heightAt mi_X1 (by decide +kernel) (by decide +kernel) hR, ht _ mm_X1_heightAt, ht _ mv_X1_heightAt⟩
theorem zw_X7_140 {R : Room} {s : State} {args : Array Value} {fr lo : Nat} {D : va_G} {cI cR : ClassId} (hK : zK D cI cR s) (ht : ∀ w ∈ zAll, w.before args s = true) (hR : fr + 1 ≤ R.frames ∧ 8 + (2 + 11) + lo ≤ R.locals) : va_CN R s args RX7 140 yX1_isPassAt "JugglerStates" cX1_isPassAt 2 (some .boolean) (zWs yX1_isPassAt cX1_isPassAt 2 (some .boolean)) { frames := fr, cells := 0, slots := 0, locals := lo } 0 0 1 ∧ (Cond.instanceMethod yX1_isPassAt).before args s = true ∧ (Cond.selects RX1 yX1_isPassAt yX1_isPassAt).before args s = true := ⟨zwN hK ht 1 mc_X1_isPassAt mi_X1 (by decide +kernel) (by decide +kernel) hR, ht _ mm_X1_isPassAt, ht _ mv_X1_isPassAt⟩
theorem zw_X7_143 {R : Room} {s : State} {args : Array Value} {fr lo : Nat} (ht : ∀ w ∈ zAll, w.before args s = true) (hR : fr + 1 ≤ R.frames ∧ 8 + (1 + 11) + lo ≤ R.locals) : CallB R s args RX7 143 yX7_oneIf cX7_oneIf 1 (some .int) (zWs yX7_oneIf cX7_oneIf 1 (some .int)) { frames := fr, cells := 0, slots := 0, locals := lo } 0 0 1 ∧ (Cond.static yX7_oneIf).before args s = true := ⟨zwB ht 1 mc_X7_oneIf mi_X7 (zAll_of (zTb 375 (by decide +kernel)) (by decide +kernel)) (by decide +kernel) hR, ht _ ms_X7_oneIf⟩
theorem zw_L_45 {R : Room} {s : State} {args : Array Value} {fr lo : Nat} (ht : ∀ w ∈ zAll, w.before args s = true) (hR : fr + 1 ≤ R.frames ∧ 8 + (2 + 11) + lo ≤ R.locals) : CallB R s args RL 45 yX7_count cX7_count 2 (some .int) (zWs yX7_count cX7_count 2 (some .int)) { frames := fr, cells := 0, slots := 0, locals := lo } 0 0 1 ∧ (Cond.instanceMethod yX7_count).before args s = true ∧ (Cond.selects RX7 yX7_count yX7_count).before args s = true := ⟨zwB ht 1 mc_X7_count mi_X7 (zAll_of (zTb 376 (by decide +kernel)) (by decide +kernel)) (by decide +kernel) hR, ht _ mm_X7_count, ht _ mv_X7_count⟩
theorem zw_L_49 {R : Room} {s : State} {args : Array Value} {fr lo : Nat} (ht : ∀ w ∈ zAll, w.before args s = true) (hR : fr + 1 ≤ R.frames ∧ 8 + (2 + 11) + lo ≤ R.locals) : CallB R s args RL 49 yX7_firstDrop cX7_firstDrop 2 (some .int) (zWs yX7_firstDrop cX7_firstDrop 2 (some .int)) { frames := fr, cells := 0, slots := 0, locals := lo } 0 0 0 ∧ (Cond.instanceMethod yX7_firstDrop).before args s = true ∧ (Cond.selects RX7 yX7_firstDrop yX7_firstDrop).before args s = true := ⟨zwB ht 0 mc_X7_firstDrop mi_X7 (zAll_of (zTb 380 (by decide +kernel)) (by decide +kernel)) (by decide +kernel) hR, ht _ mm_X7_firstDrop, ht _ mv_X7_firstDrop⟩
theorem zw_X7_159 {R : Room} {s : State} {args : Array Value} {fr lo : Nat} {D : va_G} {cI cR : ClassId} (hK : zK D cI cR s) (ht : ∀ w ∈ zAll, w.before args s = true) (hR : fr + 1 ≤ R.frames ∧ 8 + (2 + 11) + lo ≤ R.locals) : va_CN R s args RX7 159 yX4_become "JugglerStates" cX4_become 2 none (zWs yX4_become cX4_become 2 none) { frames := fr, cells := 0, slots := 0, locals := lo } 0 0 1 ∧ (Cond.instanceMethod yX4_become).before args s = true ∧ (Cond.selects RX4 yX4_become yX4_become).before args s = true := ⟨zwN hK ht 1 mc_X4_become mi_X4 (by decide +kernel) (by decide +kernel) hR, ht _ mm_X4_become, ht _ mv_X4_become⟩
theorem zw_L_53 {R : Room} {s : State} {args : Array Value} {fr lo : Nat} (ht : ∀ w ∈ zAll, w.before args s = true) (hR : fr + 1 ≤ R.frames ∧ 8 + (2 + 11) + lo ≤ R.locals) : CallB R s args RL 53 yX7_comesRound cX7_comesRound 2 (some .int) (zWs yX7_comesRound cX7_comesRound 2 (some .int)) { frames := fr, cells := 0, slots := 0, locals := lo } 0 0 0 ∧ (Cond.instanceMethod yX7_comesRound).before args s = true ∧ (Cond.selects RX7 yX7_comesRound yX7_comesRound).before args s = true := ⟨zwB ht 0 mc_X7_comesRound mi_X7 (zAll_of (zTb 385 (by decide +kernel)) (by decide +kernel)) (by decide +kernel) hR, ht _ mm_X7_comesRound, ht _ mv_X7_comesRound⟩
theorem zw_X7_162 {R : Room} {s : State} {args : Array Value} {fr lo : Nat} {D : va_G} {cI cR : ClassId} (hK : zK D cI cR s) (ht : ∀ w ∈ zAll, w.before args s = true) (hR : fr + 1 ≤ R.frames ∧ 8 + (2 + 11) + lo ≤ R.locals) : va_CN R s args RX7 162 yX4_standsLike "JugglerStates" cX4_standsLike 2 (some .boolean) (zWs yX4_standsLike cX4_standsLike 2 (some .boolean)) { frames := fr, cells := 0, slots := 0, locals := lo } 0 0 1 ∧ (Cond.instanceMethod yX4_standsLike).before args s = true ∧ (Cond.selects RX4 yX4_standsLike yX4_standsLike).before args s = true := ⟨zwN hK ht 1 mc_X4_standsLike mi_X4 (by decide +kernel) (by decide +kernel) hR, ht _ mm_X4_standsLike, ht _ mv_X4_standsLike⟩
theorem zw_X4_80 {R : Room} {s : State} {args : Array Value} {fr lo : Nat} {D : va_G} {cI cR : ClassId} (hK : zK D cI cR s) (ht : ∀ w ∈ zAll, w.before args s = true) (hR : fr + 1 ≤ R.frames ∧ 8 + (2 + 11) + lo ≤ R.locals) : va_CN R s args RX4 80 yX1_standsLike "JugglerStates" cX1_standsLike 2 (some .boolean) (zWs yX1_standsLike cX1_standsLike 2 (some .boolean)) { frames := fr, cells := 0, slots := 0, locals := lo } 0 0 1 ∧ (Cond.instanceMethod yX1_standsLike).before args s = true ∧ (Cond.selects RX1 yX1_standsLike yX1_standsLike).before args s = true := ⟨zwN hK ht 1 mc_X1_standsLike mi_X1 (by decide +kernel) (by decide +kernel) hR, ht _ mm_X1_standsLike, ht _ mv_X1_standsLike⟩
theorem zw_L_57 {R : Room} {s : State} {args : Array Value} {fr lo : Nat} (ht : ∀ w ∈ zAll, w.before args s = true) (hR : fr + 1 ≤ R.frames ∧ 8 + (3 + 11) + lo ≤ R.locals) : CallB R s args RL 57 yX7_stateBehind cX7_stateBehind 3 (some .int) (zWs yX7_stateBehind cX7_stateBehind 3 (some .int)) { frames := fr, cells := 0, slots := 0, locals := lo } 0 0 2 ∧ (Cond.instanceMethod yX7_stateBehind).before args s = true ∧ (Cond.selects RX7 yX7_stateBehind yX7_stateBehind).before args s = true := ⟨zwB ht 2 mc_X7_stateBehind mi_X7 (zAll_of (zTb 397 (by decide +kernel)) (by decide +kernel)) (by decide +kernel) hR, ht _ mm_X7_stateBehind, ht _ mv_X7_stateBehind⟩
theorem zw_L_61 {R : Room} {s : State} {args : Array Value} {fr lo : Nat} (ht : ∀ w ∈ zAll, w.before args s = true) (hR : fr + 1 ≤ R.frames ∧ 8 + (3 + 11) + lo ≤ R.locals) : CallB R s args RL 61 yX7_pattern cX7_pattern 3 (some .int) (zWs yX7_pattern cX7_pattern 3 (some .int)) { frames := fr, cells := 0, slots := 0, locals := lo } 0 0 1 ∧ (Cond.instanceMethod yX7_pattern).before args s = true ∧ (Cond.selects RX7 yX7_pattern yX7_pattern).before args s = true := ⟨zwB ht 1 mc_X7_pattern mi_X7 (zAll_of (zTb 401 (by decide +kernel)) (by decide +kernel)) (by decide +kernel) hR, ht _ mm_X7_pattern, ht _ mv_X7_pattern⟩
theorem zw_X7_166 {R : Room} {s : State} {args : Array Value} {fr lo : Nat} {D : va_G} {cI cR : ClassId} (hK : zK D cI cR s) (ht : ∀ w ∈ zAll, w.before args s = true) (hR : fr + 1 ≤ R.frames ∧ 8 + (3 + 11) + lo ≤ R.locals) : va_CN R s args RX7 166 yX3_learn "JugglerStates" cX3_learn 3 (some .boolean) (zWs yX3_learn cX3_learn 3 (some .boolean)) { frames := fr, cells := 0, slots := 0, locals := lo } 0 0 1 ∧ (Cond.instanceMethod yX3_learn).before args s = true ∧ (Cond.selects RX3 yX3_learn yX3_learn).before args s = true := ⟨zwN hK ht 1 mc_X3_learn mi_X3 (by decide +kernel) (by decide +kernel) hR, ht _ mm_X3_learn, ht _ mv_X3_learn⟩
theorem zw_X3_21 {R : Room} {s : State} {args : Array Value} {fr lo : Nat} {D : va_G} {cI cR : ClassId} (hK : zK D cI cR s) (ht : ∀ w ∈ zAll, w.before args s = true) (hR : fr + 1 ≤ R.frames ∧ 8 + (3 + 11) + lo ≤ R.locals) : va_CN R s args RX3 21 yX7_isWithin "JugglerStates" cX7_isWithin 3 (some .boolean) (zWs yX7_isWithin cX7_isWithin 3 (some .boolean)) { frames := fr, cells := 0, slots := 0, locals := lo } 0 0 3 ∧ (Cond.static yX7_isWithin).before args s = true ∧ True := ⟨zwN hK ht 3 mc_X7_isWithin mi_X7 (by decide +kernel) (by decide +kernel) hR, ht _ ms_X7_isWithin, trivial⟩
theorem zw_X3_25 {R : Room} {s : State} {args : Array Value} {fr lo : Nat} {D : va_G} {cI cR : ClassId} (hK : zK D cI cR s) (ht : ∀ w ∈ zAll, w.before args s = true) (hR : fr + 1 ≤ R.frames ∧ 8 + (2 + 11) + lo ≤ R.locals) : va_CN R s args RX3 25 yX2_isHeightAt "JugglerStates" cX2_isHeightAt 2 (some .boolean) (zWs yX2_isHeightAt cX2_isHeightAt 2 (some .boolean)) { frames := fr, cells := 0, slots := 0, locals := lo } 0 0 1 ∧ (Cond.instanceMethod yX2_isHeightAt).before args s = true ∧ (Cond.selects RX2 yX2_isHeightAt yX2_isHeightAt).before args s = true := ⟨zwN hK ht 1 mc_X2_isHeightAt mi_X2 (by decide +kernel) (by decide +kernel) hR, ht _ mm_X2_isHeightAt, ht _ mv_X2_isHeightAt⟩
theorem zw_X3_29 {R : Room} {s : State} {args : Array Value} {fr lo : Nat} {D : va_G} {cI cR : ClassId} (hK : zK D cI cR s) (ht : ∀ w ∈ zAll, w.before args s = true) (hR : fr + 1 ≤ R.frames ∧ 8 + (2 + 11) + lo ≤ R.locals) : va_CN R s args RX3 29 yX2_digit "JugglerStates" cX2_digit 2 (some .int) (zWs yX2_digit cX2_digit 2 (some .int)) { frames := fr, cells := 0, slots := 0, locals := lo } 0 0 1 ∧ (Cond.instanceMethod yX2_digit).before args s = true ∧ (Cond.selects RX2 yX2_digit yX2_digit).before args s = true := ⟨zwN hK ht 1 mc_X2_digit mi_X2 (by decide +kernel) (by decide +kernel) hR, ht _ mm_X2_digit, ht _ mv_X2_digit⟩
theorem zw_X3_33 {R : Room} {s : State} {args : Array Value} {fr lo : Nat} {D : va_G} {cI cR : ClassId} (hK : zK D cI cR s) (ht : ∀ w ∈ zAll, w.before args s = true) (hR : fr + 1 ≤ R.frames ∧ 8 + (3 + 11) + lo ≤ R.locals) : va_CN R s args RX3 33 yX7_setAt "JugglerStates" cX7_setAt 3 none (zWs yX7_setAt cX7_setAt 3 none) { frames := fr, cells := 0, slots := 0, locals := lo } 0 0 3 ∧ (Cond.static yX7_setAt).before args s = true ∧ True := ⟨zwN hK ht 3 mc_X7_setAt mi_X7 (by decide +kernel) (by decide +kernel) hR, ht _ ms_X7_setAt, trivial⟩
theorem zw_X7_169 {R : Room} {s : State} {args : Array Value} {fr lo : Nat} {D : va_G} {cI cR : ClassId} (hK : zK D cI cR s) (ht : ∀ w ∈ zAll, w.before args s = true) (hR : fr + 1 ≤ R.frames ∧ 8 + (3 + 11) + lo ≤ R.locals) : va_CN R s args RX7 169 yX3_isSound "JugglerStates" cX3_isSound 3 (some .boolean) (zWs yX3_isSound cX3_isSound 3 (some .boolean)) { frames := fr, cells := 0, slots := 0, locals := lo } 0 0 0 ∧ (Cond.instanceMethod yX3_isSound).before args s = true ∧ (Cond.selects RX3 yX3_isSound yX3_isSound).before args s = true := ⟨zwN hK ht 0 mc_X3_isSound mi_X3 (by decide +kernel) (by decide +kernel) hR, ht _ mm_X3_isSound, ht _ mv_X3_isSound⟩
theorem zw_X3_49 {R : Room} {s : State} {args : Array Value} {fr lo : Nat} (ht : ∀ w ∈ zAll, w.before args s = true) (hR : fr + 1 ≤ R.frames ∧ 8 + (2 + 11) + lo ≤ R.locals) : CallB R s args RX3 49 yX3_landing cX3_landing 2 (some .int) (zWs yX3_landing cX3_landing 2 (some .int)) { frames := fr, cells := 0, slots := 0, locals := lo } 0 0 1 ∧ (Cond.instanceMethod yX3_landing).before args s = true ∧ (Cond.selects RX3 yX3_landing yX3_landing).before args s = true := ⟨zwB ht 1 mc_X3_landing mi_X3 (zAll_of (zTb 417 (by decide +kernel)) (by decide +kernel)) (by decide +kernel) hR, ht _ mm_X3_landing, ht _ mv_X3_landing⟩
theorem zw_X3_46 {R : Room} {s : State} {args : Array Value} {fr lo : Nat} (ht : ∀ w ∈ zAll, w.before args s = true) (hR : fr + 1 ≤ R.frames ∧ 8 + (2 + 11) + lo ≤ R.locals) : CallB R s args RX3 46 yX3_heightAt cX3_heightAt 2 (some .int) (zWs yX3_heightAt cX3_heightAt 2 (some .int)) { frames := fr, cells := 0, slots := 0, locals := lo } 0 0 1 ∧ (Cond.instanceMethod yX3_heightAt).before args s = true ∧ (Cond.selects RX3 yX3_heightAt yX3_heightAt).before args s = true := ⟨zwB ht 1 mc_X3_heightAt mi_X3 (zAll_of (zTb 421 (by decide +kernel)) (by decide +kernel)) (by decide +kernel) hR, ht _ mm_X3_heightAt, ht _ mv_X3_heightAt⟩
theorem zw_X3_38 {R : Room} {s : State} {args : Array Value} {fr lo : Nat} {D : va_G} {cI cR : ClassId} (hK : zK D cI cR s) (ht : ∀ w ∈ zAll, w.before args s = true) (hR : fr + 1 ≤ R.frames ∧ 8 + (2 + 11) + lo ≤ R.locals) : va_CN R s args RX3 38 yX7_leftOver "JugglerStates" cX7_leftOver 2 (some .int) (zWs yX7_leftOver cX7_leftOver 2 (some .int)) { frames := fr, cells := 0, slots := 0, locals := lo } 0 0 2 ∧ (Cond.static yX7_leftOver).before args s = true ∧ True := ⟨zwN hK ht 2 mc_X7_leftOver mi_X7 (by decide +kernel) (by decide +kernel) hR, ht _ ms_X7_leftOver, trivial⟩
theorem zw_X3_42 {R : Room} {s : State} {args : Array Value} {fr lo : Nat} {D : va_G} {cI cR : ClassId} (hK : zK D cI cR s) (ht : ∀ w ∈ zAll, w.before args s = true) (hR : fr + 1 ≤ R.frames ∧ 8 + (2 + 11) + lo ≤ R.locals) : va_CN R s args RX3 42 yX7_valueAt "JugglerStates" cX7_valueAt 2 (some .int) (zWs yX7_valueAt cX7_valueAt 2 (some .int)) { frames := fr, cells := 0, slots := 0, locals := lo } 0 0 2 ∧ (Cond.static yX7_valueAt).before args s = true ∧ True := ⟨zwN hK ht 2 mc_X7_valueAt mi_X7 (by decide +kernel) (by decide +kernel) hR, ht _ ms_X7_valueAt, trivial⟩
theorem zw_X7_173 {R : Room} {s : State} {args : Array Value} {fr lo : Nat} {D : va_G} {cI cR : ClassId} (hK : zK D cI cR s) (ht : ∀ w ∈ zAll, w.before args s = true) (hR : fr + 1 ≤ R.frames ∧ 8 + (3 + 11) + lo ≤ R.locals) : va_CN R s args RX7 173 yX3_clubs "JugglerStates" cX3_clubs 3 (some .int) (zWs yX3_clubs cX3_clubs 3 (some .int)) { frames := fr, cells := 0, slots := 0, locals := lo } 0 0 0 ∧ (Cond.instanceMethod yX3_clubs).before args s = true ∧ (Cond.selects RX3 yX3_clubs yX3_clubs).before args s = true := ⟨zwN hK ht 0 mc_X3_clubs mi_X3 (by decide +kernel) (by decide +kernel) hR, ht _ mm_X3_clubs, ht _ mv_X3_clubs⟩
theorem zw_X7_174 {R : Room} {s : State} {args : Array Value} {fr lo : Nat} {D : va_G} {cI cR : ClassId} (hK : zK D cI cR s) (ht : ∀ w ∈ zAll, w.before args s = true) (hR : fr + 1 ≤ R.frames ∧ 8 + (4 + 11) + lo ≤ R.locals) : va_CN R s args RX7 174 yX3_startState "JugglerStates" cX3_startState 4 (some .int) (zWs yX3_startState cX3_startState 4 (some .int)) { frames := fr, cells := 0, slots := 0, locals := lo } 0 0 0 ∧ (Cond.instanceMethod yX3_startState).before args s = true ∧ (Cond.selects RX3 yX3_startState yX3_startState).before args s = true := ⟨zwN hK ht 0 mc_X3_startState mi_X3 (by decide +kernel) (by decide +kernel) hR, ht _ mm_X3_startState, ht _ mv_X3_startState⟩
theorem zw_X7_177 {R : Room} {s : State} {args : Array Value} {fr lo : Nat} {D : va_G} {cI cR : ClassId} (hK : zK D cI cR s) (ht : ∀ w ∈ zAll, w.before args s = true) (hR : fr + 1 ≤ R.frames ∧ 8 + (5 + 11) + lo ≤ R.locals) : va_CN R s args RX7 177 yX3_orbits "JugglerStates" cX3_orbits 5 (some .int) (zWs yX3_orbits cX3_orbits 5 (some .int)) { frames := fr, cells := 0, slots := 0, locals := lo } 0 0 0 ∧ (Cond.instanceMethod yX3_orbits).before args s = true ∧ (Cond.selects RX3 yX3_orbits yX3_orbits).before args s = true := ⟨zwN hK ht 0 mc_X3_orbits mi_X3 (by decide +kernel) (by decide +kernel) hR, ht _ mm_X3_orbits, ht _ mv_X3_orbits⟩
theorem zw_X3_52 {R : Room} {s : State} {args : Array Value} {fr lo : Nat} (ht : ∀ w ∈ zAll, w.before args s = true) (hR : fr + 1 ≤ R.frames ∧ 8 + (5 + 11) + lo ≤ R.locals) : CallB R s args RX3 52 yX3_orbitThrough cX3_orbitThrough 5 (some .int) (zWs yX3_orbitThrough cX3_orbitThrough 5 (some .int)) { frames := fr, cells := 0, slots := 0, locals := lo } 0 0 1 ∧ (Cond.instanceMethod yX3_orbitThrough).before args s = true ∧ (Cond.selects RX3 yX3_orbitThrough yX3_orbitThrough).before args s = true := ⟨zwB ht 1 mc_X3_orbitThrough mi_X3 (zAll_of (zTb 439 (by decide +kernel)) (by decide +kernel)) (by decide +kernel) hR, ht _ mm_X3_orbitThrough, ht _ mv_X3_orbitThrough⟩
theorem zw_X3_55 {R : Room} {s : State} {args : Array Value} {fr lo : Nat} {D : va_G} {cI cR : ClassId} (hK : zK D cI cR s) (ht : ∀ w ∈ zAll, w.before args s = true) (hR : fr + 1 ≤ R.frames ∧ 8 + (2 + 11) + lo ≤ R.locals) : va_CN R s args RX3 55 yX7_has "JugglerStates" cX7_has 2 (some .boolean) (zWs yX7_has cX7_has 2 (some .boolean)) { frames := fr, cells := 0, slots := 0, locals := lo } 0 0 2 ∧ (Cond.static yX7_has).before args s = true ∧ True := ⟨zwN hK ht 2 mc_X7_has mi_X7 (by decide +kernel) (by decide +kernel) hR, ht _ ms_X7_has, trivial⟩
theorem zw_X7_180 {R : Room} {s : State} {args : Array Value} {fr lo : Nat} {D : va_G} {cI cR : ClassId} (hK : zK D cI cR s) (ht : ∀ w ∈ zAll, w.before args s = true) (hR : fr + 1 ≤ R.frames ∧ 8 + (5 + 11) + lo ≤ R.locals) : va_CN R s args RX7 180 yX3_orbitThrough "JugglerStates" cX3_orbitThrough 5 (some .int) (zWs yX3_orbitThrough cX3_orbitThrough 5 (some .int)) { frames := fr, cells := 0, slots := 0, locals := lo } 0 0 1 ∧ (Cond.instanceMethod yX3_orbitThrough).before args s = true ∧ (Cond.selects RX3 yX3_orbitThrough yX3_orbitThrough).before args s = true := ⟨zwN hK ht 1 mc_X3_orbitThrough mi_X3 (by decide +kernel) (by decide +kernel) hR, ht _ mm_X3_orbitThrough, ht _ mv_X3_orbitThrough⟩
theorem zw_X7_183 {R : Room} {s : State} {args : Array Value} {fr lo : Nat} {D : va_G} {cI cR : ClassId} (hK : zK D cI cR s) (ht : ∀ w ∈ zAll, w.before args s = true) (hR : fr + 1 ≤ R.frames ∧ 8 + (2 + 11) + lo ≤ R.locals) : va_CN R s args RX7 183 yX3_period "JugglerStates" cX3_period 2 (some .int) (zWs yX3_period cX3_period 2 (some .int)) { frames := fr, cells := 0, slots := 0, locals := lo } 0 0 0 ∧ (Cond.instanceMethod yX3_period).before args s = true ∧ (Cond.selects RX3 yX3_period yX3_period).before args s = true := ⟨zwN hK ht 0 mc_X3_period mi_X3 (by decide +kernel) (by decide +kernel) hR, ht _ mm_X3_period, ht _ mv_X3_period⟩
theorem zw_X3_59 {R : Room} {s : State} {args : Array Value} {fr lo : Nat} (ht : ∀ w ∈ zAll, w.before args s = true) (hR : fr + 1 ≤ R.frames ∧ 8 + (3 + 11) + lo ≤ R.locals) : CallB R s args RX3 59 yX3_comesAgainBehind cX3_comesAgainBehind 3 (some .boolean) (zWs yX3_comesAgainBehind cX3_comesAgainBehind 3 (some .boolean)) { frames := fr, cells := 0, slots := 0, locals := lo } 0 0 1 ∧ (Cond.instanceMethod yX3_comesAgainBehind).before args s = true ∧ (Cond.selects RX3 yX3_comesAgainBehind yX3_comesAgainBehind).before args s = true := ⟨zwB ht 1 mc_X3_comesAgainBehind mi_X3 (zAll_of (zTb 449 (by decide +kernel)) (by decide +kernel)) (by decide +kernel) hR, ht _ mm_X3_comesAgainBehind, ht _ mv_X3_comesAgainBehind⟩
theorem zw_X7_186 {R : Room} {s : State} {args : Array Value} {fr lo : Nat} (ht : ∀ w ∈ zAll, w.before args s = true) (hR : fr + 1 ≤ R.frames ∧ 8 + (1 + 11) + lo ≤ R.locals) : CallB R s args RX7 186 yX7_firstBeats cX7_firstBeats 1 (some .int) (zWs yX7_firstBeats cX7_firstBeats 1 (some .int)) { frames := fr, cells := 0, slots := 0, locals := lo } 0 0 1 ∧ (Cond.static yX7_firstBeats).before args s = true := ⟨zwB ht 1 mc_X7_firstBeats mi_X7 (zAll_of (zTb 453 (by decide +kernel)) (by decide +kernel)) (by decide +kernel) hR, ht _ ms_X7_firstBeats⟩
theorem zw_L_65 {R : Room} {s : State} {args : Array Value} {fr lo : Nat} (ht : ∀ w ∈ zAll, w.before args s = true) (hR : fr + 1 ≤ R.frames ∧ 8 + (2 + 11) + lo ≤ R.locals) : CallB R s args RL 65 yX7_back cX7_back 2 (some .int) (zWs yX7_back cX7_back 2 (some .int)) { frames := fr, cells := 0, slots := 0, locals := lo } 0 0 1 ∧ (Cond.instanceMethod yX7_back).before args s = true ∧ (Cond.selects RX7 yX7_back yX7_back).before args s = true := ⟨zwB ht 1 mc_X7_back mi_X7 (zAll_of (zTb 454 (by decide +kernel)) (by decide +kernel)) (by decide +kernel) hR, ht _ mm_X7_back, ht _ mv_X7_back⟩
theorem zw_X7_190 {R : Room} {s : State} {args : Array Value} {fr lo : Nat} {D : va_G} {cI cR : ClassId} (hK : zK D cI cR s) (ht : ∀ w ∈ zAll, w.before args s = true) (hR : fr + 1 ≤ R.frames ∧ 8 + (3 + 11) + lo ≤ R.locals) : va_CN R s args RX7 190 yX3_heightTurnedBack "JugglerStates" cX3_heightTurnedBack 3 (some .int) (zWs yX3_heightTurnedBack cX3_heightTurnedBack 3 (some .int)) { frames := fr, cells := 0, slots := 0, locals := lo } 0 0 1 ∧ (Cond.instanceMethod yX3_heightTurnedBack).before args s = true ∧ (Cond.selects RX3 yX3_heightTurnedBack yX3_heightTurnedBack).before args s = true := ⟨zwN hK ht 1 mc_X3_heightTurnedBack mi_X3 (by decide +kernel) (by decide +kernel) hR, ht _ mm_X3_heightTurnedBack, ht _ mv_X3_heightTurnedBack⟩
theorem zw_L_69 {R : Room} {s : State} {args : Array Value} {fr lo : Nat} (ht : ∀ w ∈ zAll, w.before args s = true) (hR : fr + 1 ≤ R.frames ∧ 8 + (5 + 11) + lo ≤ R.locals) : CallB R s args RL 69 yX7_way cX7_way 5 (some .int) (zWs yX7_way cX7_way 5 (some .int)) { frames := fr, cells := 0, slots := 0, locals := lo } 0 0 3 ∧ (Cond.instanceMethod yX7_way).before args s = true ∧ (Cond.selects RX7 yX7_way yX7_way).before args s = true := ⟨zwB ht 3 mc_X7_way mi_X7 (zAll_of (zTb 462 (by decide +kernel)) (by decide +kernel)) (by decide +kernel) hR, ht _ mm_X7_way, ht _ mv_X7_way⟩
theorem zw_X7_193 {R : Room} {s : State} {args : Array Value} {fr lo : Nat} {D : va_G} {cI cR : ClassId} (hK : zK D cI cR s) (ht : ∀ w ∈ zAll, w.before args s = true) (hR : fr + 1 ≤ R.frames ∧ 8 + (3 + 11) + lo ≤ R.locals) : va_CN R s args RX7 193 yX6_searchFrom "JugglerStates" cX6_searchFrom 3 none (zWs yX6_searchFrom cX6_searchFrom 3 none) { frames := fr, cells := 0, slots := 0, locals := lo } 0 0 1 ∧ (Cond.instanceMethod yX6_searchFrom).before args s = true ∧ (Cond.selects RX6 yX6_searchFrom yX6_searchFrom).before args s = true := ⟨zwN hK ht 1 mc_X6_searchFrom mi_X6 (by decide +kernel) (by decide +kernel) hR, ht _ mm_X6_searchFrom, ht _ mv_X6_searchFrom⟩
theorem zw_X6_24 {R : Room} {s : State} {args : Array Value} {fr lo : Nat} (ht : ∀ w ∈ zAll, w.before args s = true) (hR : fr + 1 ≤ R.frames ∧ 8 + (4 + 11) + lo ≤ R.locals) : CallB R s args RX6 24 yJ7_fill_53178 cJ7_fill_53178 4 none (zWs yJ7_fill_53178 cJ7_fill_53178 4 none) { frames := fr, cells := 0, slots := 0, locals := lo } 0 0 2 ∧ (Cond.static yJ7_fill_53178).before args s = true := ⟨zwB ht 2 mc_J7_fill_53178 mi_J7 (zAll_of (zTb 470 (by decide +kernel)) (by decide +kernel)) (by decide +kernel) hR, ht _ ms_J7_fill_53178⟩
theorem zw_X6_34 {R : Room} {s : State} {args : Array Value} {fr lo : Nat} (ht : ∀ w ∈ zAll, w.before args s = true) (hR : fr + 1 ≤ R.frames ∧ 8 + (5 + 11) + lo ≤ R.locals) : CallB R s args RX6 34 yX6_reach cX6_reach 5 none (zWs yX6_reach cX6_reach 5 none) { frames := fr, cells := 0, slots := 0, locals := lo } 0 0 4 ∧ (Cond.instanceMethod yX6_reach).before args s = true ∧ (Cond.selects RX6 yX6_reach yX6_reach).before args s = true := ⟨zwB ht 4 mc_X6_reach mi_X6 (zAll_of (zTb 473 (by decide +kernel)) (by decide +kernel)) (by decide +kernel) hR, ht _ mm_X6_reach, ht _ mv_X6_reach⟩
theorem zw_X6_54 {R : Room} {s : State} {args : Array Value} {fr lo : Nat} (ht : ∀ w ∈ zAll, w.before args s = true) (hR : fr + 1 ≤ R.frames ∧ 8 + (2 + 11) + lo ≤ R.locals) : CallB R s args RX6 54 yX6_stepsTo cX6_stepsTo 2 (some .int) (zWs yX6_stepsTo cX6_stepsTo 2 (some .int)) { frames := fr, cells := 0, slots := 0, locals := lo } 0 0 1 ∧ (Cond.instanceMethod yX6_stepsTo).before args s = true ∧ (Cond.selects RX6 yX6_stepsTo yX6_stepsTo).before args s = true := ⟨zwB ht 1 mc_X6_stepsTo mi_X6 (zAll_of (zTb 477 (by decide +kernel)) (by decide +kernel)) (by decide +kernel) hR, ht _ mm_X6_stepsTo, ht _ mv_X6_stepsTo⟩
theorem zw_X6_38 {R : Room} {s : State} {args : Array Value} {fr lo : Nat} {D : va_G} {cI cR : ClassId} (hK : zK D cI cR s) (ht : ∀ w ∈ zAll, w.before args s = true) (hR : fr + 1 ≤ R.frames ∧ 8 + (2 + 11) + lo ≤ R.locals) : va_CN R s args RX6 38 yX7_valueAt "JugglerStates" cX7_valueAt 2 (some .int) (zWs yX7_valueAt cX7_valueAt 2 (some .int)) { frames := fr, cells := 0, slots := 0, locals := lo } 0 0 2 ∧ (Cond.static yX7_valueAt).before args s = true ∧ True := ⟨zwN hK ht 2 mc_X7_valueAt mi_X7 (by decide +kernel) (by decide +kernel) hR, ht _ ms_X7_valueAt, trivial⟩
theorem zw_X6_61 {R : Room} {s : State} {args : Array Value} {fr lo : Nat} {D : va_G} {cI cR : ClassId} (hK : zK D cI cR s) (ht : ∀ w ∈ zAll, w.before args s = true) (hR : fr + 1 ≤ R.frames ∧ 8 + (3 + 11) + lo ≤ R.locals) : va_CN R s args RX6 61 yX7_setAt "JugglerStates" cX7_setAt 3 none (zWs yX7_setAt cX7_setAt 3 none) { frames := fr, cells := 0, slots := 0, locals := lo } 0 0 3 ∧ (Cond.static yX7_setAt).before args s = true ∧ True := ⟨zwN hK ht 3 mc_X7_setAt mi_X7 (by decide +kernel) (by decide +kernel) hR, ht _ ms_X7_setAt, trivial⟩
theorem zw_X6_42 {R : Room} {s : State} {args : Array Value} {fr lo : Nat} (ht : ∀ w ∈ zAll, w.before args s = true) (hR : fr + 1 ≤ R.frames ∧ 8 + (3 + 11) + lo ≤ R.locals) : CallB R s args RX6 42 yX6_goOnFrom cX6_goOnFrom 3 none (zWs yX6_goOnFrom cX6_goOnFrom 3 none) { frames := fr, cells := 0, slots := 0, locals := lo } 0 0 1 ∧ (Cond.instanceMethod yX6_goOnFrom).before args s = true ∧ (Cond.selects RX6 yX6_goOnFrom yX6_goOnFrom).before args s = true := ⟨zwB ht 1 mc_X6_goOnFrom mi_X6 (zAll_of (zTb 483 (by decide +kernel)) (by decide +kernel)) (by decide +kernel) hR, ht _ mm_X6_goOnFrom, ht _ mv_X6_goOnFrom⟩
theorem zw_X6_46 {R : Room} {s : State} {args : Array Value} {fr lo : Nat} {D : va_G} {cI cR : ClassId} (hK : zK D cI cR s) (ht : ∀ w ∈ zAll, w.before args s = true) (hR : fr + 1 ≤ R.frames ∧ 8 + (2 + 11) + lo ≤ R.locals) : va_CN R s args RX6 46 yX7_has "JugglerStates" cX7_has 2 (some .boolean) (zWs yX7_has cX7_has 2 (some .boolean)) { frames := fr, cells := 0, slots := 0, locals := lo } 0 0 2 ∧ (Cond.static yX7_has).before args s = true ∧ True := ⟨zwN hK ht 2 mc_X7_has mi_X7 (by decide +kernel) (by decide +kernel) hR, ht _ ms_X7_has, trivial⟩
theorem zw_X6_50 {R : Room} {s : State} {args : Array Value} {fr lo : Nat} (ht : ∀ w ∈ zAll, w.before args s = true) (hR : fr + 1 ≤ R.frames ∧ 8 + (5 + 11) + lo ≤ R.locals) : CallB R s args RX6 50 yX6_makeThrow cX6_makeThrow 5 none (zWs yX6_makeThrow cX6_makeThrow 5 none) { frames := fr, cells := 0, slots := 0, locals := lo } 0 0 2 ∧ (Cond.instanceMethod yX6_makeThrow).before args s = true ∧ (Cond.selects RX6 yX6_makeThrow yX6_makeThrow).before args s = true := ⟨zwB ht 2 mc_X6_makeThrow mi_X6 (zAll_of (zTb 488 (by decide +kernel)) (by decide +kernel)) (by decide +kernel) hR, ht _ mm_X6_makeThrow, ht _ mv_X6_makeThrow⟩
theorem zw_X6_58 {R : Room} {s : State} {args : Array Value} {fr lo : Nat} (ht : ∀ w ∈ zAll, w.before args s = true) (hR : fr + 1 ≤ R.frames ∧ 8 + (2 + 11) + lo ≤ R.locals) : CallB R s args RX6 58 yX6_firstThrowTo cX6_firstThrowTo 2 (some .int) (zWs yX6_firstThrowTo cX6_firstThrowTo 2 (some .int)) { frames := fr, cells := 0, slots := 0, locals := lo } 0 0 1 ∧ (Cond.instanceMethod yX6_firstThrowTo).before args s = true ∧ (Cond.selects RX6 yX6_firstThrowTo yX6_firstThrowTo).before args s = true := ⟨zwB ht 1 mc_X6_firstThrowTo mi_X6 (zAll_of (zTb 492 (by decide +kernel)) (by decide +kernel)) (by decide +kernel) hR, ht _ mm_X6_firstThrowTo, ht _ mv_X6_firstThrowTo⟩
theorem zw_X7_196 {R : Room} {s : State} {args : Array Value} {fr lo : Nat} {D : va_G} {cI cR : ClassId} (hK : zK D cI cR s) (ht : ∀ w ∈ zAll, w.before args s = true) (hR : fr + 1 ≤ R.frames ∧ 8 + (2 + 11) + lo ≤ R.locals) : va_CN R s args RX7 196 yX6_stepsTo "JugglerStates" cX6_stepsTo 2 (some .int) (zWs yX6_stepsTo cX6_stepsTo 2 (some .int)) { frames := fr, cells := 0, slots := 0, locals := lo } 0 0 1 ∧ (Cond.instanceMethod yX6_stepsTo).before args s = true ∧ (Cond.selects RX6 yX6_stepsTo yX6_stepsTo).before args s = true := ⟨zwN hK ht 1 mc_X6_stepsTo mi_X6 (by decide +kernel) (by decide +kernel) hR, ht _ mm_X6_stepsTo, ht _ mv_X6_stepsTo⟩
theorem zw_X7_199 {R : Room} {s : State} {args : Array Value} {fr lo : Nat} {D : va_G} {cI cR : ClassId} (hK : zK D cI cR s) (ht : ∀ w ∈ zAll, w.before args s = true) (hR : fr + 1 ≤ R.frames ∧ 8 + (2 + 11) + lo ≤ R.locals) : va_CN R s args RX7 199 yX6_firstThrowTo "JugglerStates" cX6_firstThrowTo 2 (some .int) (zWs yX6_firstThrowTo cX6_firstThrowTo 2 (some .int)) { frames := fr, cells := 0, slots := 0, locals := lo } 0 0 1 ∧ (Cond.instanceMethod yX6_firstThrowTo).before args s = true ∧ (Cond.selects RX6 yX6_firstThrowTo yX6_firstThrowTo).before args s = true := ⟨zwN hK ht 1 mc_X6_firstThrowTo mi_X6 (by decide +kernel) (by decide +kernel) hR, ht _ mm_X6_firstThrowTo, ht _ mv_X6_firstThrowTo⟩
theorem zw_X7_202 {R : Room} {s : State} {args : Array Value} {fr lo : Nat} {D : va_G} {cI cR : ClassId} (hK : zK D cI cR s) (ht : ∀ w ∈ zAll, w.before args s = true) (hR : fr + 1 ≤ R.frames ∧ 8 + (2 + 11) + lo ≤ R.locals) : va_CN R s args RX7 202 yX6_lastThrowTo "JugglerStates" cX6_lastThrowTo 2 (some .int) (zWs yX6_lastThrowTo cX6_lastThrowTo 2 (some .int)) { frames := fr, cells := 0, slots := 0, locals := lo } 0 0 1 ∧ (Cond.instanceMethod yX6_lastThrowTo).before args s = true ∧ (Cond.selects RX6 yX6_lastThrowTo yX6_lastThrowTo).before args s = true := ⟨zwN hK ht 1 mc_X6_lastThrowTo mi_X6 (by decide +kernel) (by decide +kernel) hR, ht _ mm_X6_lastThrowTo, ht _ mv_X6_lastThrowTo⟩
theorem zw_L_73 {R : Room} {s : State} {args : Array Value} {fr lo : Nat} (ht : ∀ w ∈ zAll, w.before args s = true) (hR : fr + 1 ≤ R.frames ∧ 8 + (3 + 11) + lo ≤ R.locals) : CallB R s args RL 73 yX7_howMany cX7_howMany 3 (some .int) (zWs yX7_howMany cX7_howMany 3 (some .int)) { frames := fr, cells := 0, slots := 0, locals := lo } 0 0 2 ∧ (Cond.instanceMethod yX7_howMany).before args s = true ∧ (Cond.selects RX7 yX7_howMany yX7_howMany).before args s = true := ⟨zwB ht 2 mc_X7_howMany mi_X7 (zAll_of (zTb 502 (by decide +kernel)) (by decide +kernel)) (by decide +kernel) hR, ht _ mm_X7_howMany, ht _ mv_X7_howMany⟩
theorem zw_X7_205 {R : Room} {s : State} {args : Array Value} {fr lo : Nat} (ht : ∀ w ∈ zAll, w.before args s = true) (hR : fr + 1 ≤ R.frames ∧ 8 + (7 + 11) + lo ≤ R.locals) : CallB R s args RX7 205 yX7_soundEndings cX7_soundEndings 7 (some .int) (zWs yX7_soundEndings cX7_soundEndings 7 (some .int)) { frames := fr, cells := 0, slots := 0, locals := lo } 0 0 4 ∧ (Cond.static yX7_soundEndings).before args s = true := ⟨zwB ht 4 mc_X7_soundEndings mi_X7 (zAll_of (zTb 506 (by decide +kernel)) (by decide +kernel)) (by decide +kernel) hR, ht _ ms_X7_soundEndings⟩
theorem zw_X7_244 {R : Room} {s : State} {args : Array Value} {fr lo : Nat} (ht : ∀ w ∈ zAll, w.before args s = true) (hR : fr + 1 ≤ R.frames ∧ 8 + (2 + 11) + lo ≤ R.locals) : CallB R s args RX7 244 yX7_leftOver cX7_leftOver 2 (some .int) (zWs yX7_leftOver cX7_leftOver 2 (some .int)) { frames := fr, cells := 0, slots := 0, locals := lo } 0 0 2 ∧ (Cond.static yX7_leftOver).before args s = true := ⟨zwB ht 2 mc_X7_leftOver mi_X7 (zAll_of (zTb 509 (by decide +kernel)) (by decide +kernel)) (by decide +kernel) hR, ht _ ms_X7_leftOver⟩
theorem zw_X7_247 {R : Room} {s : State} {args : Array Value} {fr lo : Nat} (ht : ∀ w ∈ zAll, w.before args s = true) (hR : fr + 1 ≤ R.frames ∧ 8 + (2 + 11) + lo ≤ R.locals) : CallB R s args RX7 247 yX7_has cX7_has 2 (some .boolean) (zWs yX7_has cX7_has 2 (some .boolean)) { frames := fr, cells := 0, slots := 0, locals := lo } 0 0 2 ∧ (Cond.static yX7_has).before args s = true := ⟨zwB ht 2 mc_X7_has mi_X7 (zAll_of (zTb 510 (by decide +kernel)) (by decide +kernel)) (by decide +kernel) hR, ht _ ms_X7_has⟩
theorem zw_L_79 {R : Room} {s : State} {args : Array Value} {fr lo : Nat} (ht : ∀ w ∈ zAll, w.before args s = true) (hR : fr + 1 ≤ R.frames ∧ 8 + (5 + 11) + lo ≤ R.locals) : CallB R s args RL 79 yX7_put cX7_put 5 (some .int) (zWs yX7_put cX7_put 5 (some .int)) { frames := fr, cells := 0, slots := 0, locals := lo } 0 0 1 ∧ (Cond.instanceMethod yX7_put).before args s = true ∧ (Cond.selects RX7 yX7_put yX7_put).before args s = true := ⟨zwB ht 1 mc_X7_put mi_X7 (zAll_of (zTb 511 (by decide +kernel)) (by decide +kernel)) (by decide +kernel) hR, ht _ mm_X7_put, ht _ mv_X7_put⟩
theorem zw_X7_209 {R : Room} {s : State} {args : Array Value} {fr lo : Nat} (ht : ∀ w ∈ zAll, w.before args s = true) (hR : fr + 1 ≤ R.frames ∧ 8 + (5 + 11) + lo ≤ R.locals) : CallB R s args RX7 209 yX7_packedCharacters cX7_packedCharacters 5 (some .int) (zWs yX7_packedCharacters cX7_packedCharacters 5 (some .int)) { frames := fr, cells := 0, slots := 0, locals := lo } 0 0 1 ∧ (Cond.static yX7_packedCharacters).before args s = true := ⟨zwB ht 1 mc_X7_packedCharacters mi_X7 (zAll_of (zTb 515 (by decide +kernel)) (by decide +kernel)) (by decide +kernel) hR, ht _ ms_X7_packedCharacters⟩
theorem zw_X7_213 {R : Room} {s : State} {args : Array Value} {fr lo : Nat} {D : va_G} {cI cR : ClassId} (hK : zK D cI cR s) (ht : ∀ w ∈ zAll, w.before args s = true) (hR : fr + 1 ≤ R.frames ∧ 8 + (2 + 11) + lo ≤ R.locals) : va_CN R s args RX7 213 yX2_append "JugglerStates" cX2_append 2 none (zWs yX2_append cX2_append 2 none) { frames := fr, cells := 0, slots := 0, locals := lo } 0 0 1 ∧ (Cond.instanceMethod yX2_append).before args s = true ∧ (Cond.selects RX2 yX2_append yX2_append).before args s = true := ⟨zwN hK ht 1 mc_X2_append mi_X2 (by decide +kernel) (by decide +kernel) hR, ht _ mm_X2_append, ht _ mv_X2_append⟩
theorem zw_X2_19 {R : Room} {s : State} {args : Array Value} {fr lo : Nat} {D : va_G} {cI cR : ClassId} (hK : zK D cI cR s) (ht : ∀ w ∈ zAll, w.before args s = true) (hR : fr + 1 ≤ R.frames ∧ 8 + (3 + 11) + lo ≤ R.locals) : va_CN R s args RX2 19 yX7_setAt "JugglerStates" cX7_setAt 3 none (zWs yX7_setAt cX7_setAt 3 none) { frames := fr, cells := 0, slots := 0, locals := lo } 0 0 3 ∧ (Cond.static yX7_setAt).before args s = true ∧ True := ⟨zwN hK ht 3 mc_X7_setAt mi_X7 (by decide +kernel) (by decide +kernel) hR, ht _ ms_X7_setAt, trivial⟩
theorem zw_L_84 {R : Room} {s : State} {args : Array Value} {fr lo : Nat} (ht : ∀ w ∈ zAll, w.before args s = true) (hR : fr + 1 ≤ R.frames ∧ 8 + (2 + 11) + lo ≤ R.locals) : CallB R s args RL 84 yX7_wipe cX7_wipe 2 (some .int) (zWs yX7_wipe cX7_wipe 2 (some .int)) { frames := fr, cells := 0, slots := 0, locals := lo } 0 0 0 ∧ (Cond.instanceMethod yX7_wipe).before args s = true ∧ (Cond.selects RX7 yX7_wipe yX7_wipe).before args s = true := ⟨zwB ht 0 mc_X7_wipe mi_X7 (zAll_of (zTb 524 (by decide +kernel)) (by decide +kernel)) (by decide +kernel) hR, ht _ mm_X7_wipe, ht _ mv_X7_wipe⟩
theorem zw_L_88 {R : Room} {s : State} {args : Array Value} {fr lo : Nat} (ht : ∀ w ∈ zAll, w.before args s = true) (hR : fr + 1 ≤ R.frames ∧ 8 + (1 + 11) + lo ≤ R.locals) : CallB R s args RL 88 yX7_fault cX7_fault 1 (some .int) (zWs yX7_fault cX7_fault 1 (some .int)) { frames := fr, cells := 0, slots := 0, locals := lo } 0 0 0 ∧ (Cond.instanceMethod yX7_fault).before args s = true ∧ (Cond.selects RX7 yX7_fault yX7_fault).before args s = true := ⟨zwB ht 0 mc_X7_fault mi_X7 (zAll_of (zTb 528 (by decide +kernel)) (by decide +kernel)) (by decide +kernel) hR, ht _ mm_X7_fault, ht _ mv_X7_fault⟩
theorem zw_L_92 {R : Room} {s : State} {args : Array Value} {fr lo : Nat} (ht : ∀ w ∈ zAll, w.before args s = true) (hR : fr + 1 ≤ R.frames ∧ 8 + (1 + 11) + lo ≤ R.locals) : CallB R s args RL 92 yX7_undo cX7_undo 1 (some .int) (zWs yX7_undo cX7_undo 1 (some .int)) { frames := fr, cells := 0, slots := 0, locals := lo } 0 0 0 ∧ (Cond.instanceMethod yX7_undo).before args s = true ∧ (Cond.selects RX7 yX7_undo yX7_undo).before args s = true := ⟨zwB ht 0 mc_X7_undo mi_X7 (zAll_of (zTb 532 (by decide +kernel)) (by decide +kernel)) (by decide +kernel) hR, ht _ mm_X7_undo, ht _ mv_X7_undo⟩
theorem zw_X7_216 {R : Room} {s : State} {args : Array Value} {fr lo : Nat} {D : va_G} {cI cR : ClassId} (hK : zK D cI cR s) (ht : ∀ w ∈ zAll, w.before args s = true) (hR : fr + 1 ≤ R.frames ∧ 8 + (3 + 11) + lo ≤ R.locals) : va_CN R s args RX7 216 yX0_takeBack "JugglerStates" cX0_takeBack 3 none (zWs yX0_takeBack cX0_takeBack 3 none) { frames := fr, cells := 0, slots := 0, locals := lo } 0 0 1 ∧ (Cond.instanceMethod yX0_takeBack).before args s = true ∧ (Cond.selects RX0 yX0_takeBack yX0_takeBack).before args s = true := ⟨zwN hK ht 1 mc_X0_takeBack mi_X0 (by decide +kernel) (by decide +kernel) hR, ht _ mm_X0_takeBack, ht _ mv_X0_takeBack⟩
theorem zw_L_96 {R : Room} {s : State} {args : Array Value} {fr lo : Nat} (ht : ∀ w ∈ zAll, w.before args s = true) (hR : fr + 1 ≤ R.frames ∧ 8 + (2 + 11) + lo ≤ R.locals) : CallB R s args RL 96 yX7_save cX7_save 2 (some .int) (zWs yX7_save cX7_save 2 (some .int)) { frames := fr, cells := 0, slots := 0, locals := lo } 0 0 1 ∧ (Cond.instanceMethod yX7_save).before args s = true ∧ (Cond.selects RX7 yX7_save yX7_save).before args s = true := ⟨zwB ht 1 mc_X7_save mi_X7 (zAll_of (zTb 540 (by decide +kernel)) (by decide +kernel)) (by decide +kernel) hR, ht _ mm_X7_save, ht _ mv_X7_save⟩
theorem zw_X7_219 {R : Room} {s : State} {args : Array Value} {fr lo : Nat} (ht : ∀ w ∈ zAll, w.before args s = true) (hR : fr + 1 ≤ R.frames ∧ 8 + (1 + 11) + lo ≤ R.locals) : CallB R s args RX7 219 yX7_isSlot cX7_isSlot 1 (some .boolean) (zWs yX7_isSlot cX7_isSlot 1 (some .boolean)) { frames := fr, cells := 0, slots := 0, locals := lo } 0 0 1 ∧ (Cond.static yX7_isSlot).before args s = true := ⟨zwB ht 1 mc_X7_isSlot mi_X7 (zAll_of (zTb 544 (by decide +kernel)) (by decide +kernel)) (by decide +kernel) hR, ht _ ms_X7_isSlot⟩
theorem zw_X7_222 {R : Room} {s : State} {args : Array Value} {fr lo : Nat} (ht : ∀ w ∈ zAll, w.before args s = true) (hR : fr + 1 ≤ R.frames ∧ 8 + (2 + 11) + lo ≤ R.locals) : CallB R s args RX7 222 yX7_slotOf cX7_slotOf 2 (some (.object "JugglerStates$Slot")) (zWs yX7_slotOf cX7_slotOf 2 (some (.object "JugglerStates$Slot"))) { frames := fr, cells := 0, slots := 0, locals := lo } 0 0 1 ∧ (Cond.instanceMethod yX7_slotOf).before args s = true ∧ (Cond.selects RX7 yX7_slotOf yX7_slotOf).before args s = true := ⟨zwB ht 1 mc_X7_slotOf mi_X7 (zAll_of (zTb 547 (by decide +kernel)) (by decide +kernel)) (by decide +kernel) hR, ht _ mm_X7_slotOf, ht _ mv_X7_slotOf⟩
theorem zw_X7_226 {R : Room} {s : State} {args : Array Value} {fr lo : Nat} {D : va_G} {cI cR : ClassId} (hK : zK D cI cR s) (ht : ∀ w ∈ zAll, w.before args s = true) (hR : fr + 1 ≤ R.frames ∧ 8 + (2 + 11) + lo ≤ R.locals) : va_CN R s args RX7 226 yX5_keep "JugglerStates" cX5_keep 2 none (zWs yX5_keep cX5_keep 2 none) { frames := fr, cells := 0, slots := 0, locals := lo } 0 0 1 ∧ (Cond.instanceMethod yX5_keep).before args s = true ∧ (Cond.selects RX5 yX5_keep yX5_keep).before args s = true := ⟨zwN hK ht 1 mc_X5_keep mi_X5 (by decide +kernel) (by decide +kernel) hR, ht _ mm_X5_keep, ht _ mv_X5_keep⟩
theorem zw_X5_16 {R : Room} {s : State} {args : Array Value} {fr lo : Nat} {D : va_G} {cI cR : ClassId} (hK : zK D cI cR s) (ht : ∀ w ∈ zAll, w.before args s = true) (hR : fr + 1 ≤ R.frames ∧ 8 + (2 + 11) + lo ≤ R.locals) : va_CN R s args RX5 16 yX4_become "JugglerStates" cX4_become 2 none (zWs yX4_become cX4_become 2 none) { frames := fr, cells := 0, slots := 0, locals := lo } 0 0 1 ∧ (Cond.instanceMethod yX4_become).before args s = true ∧ (Cond.selects RX4 yX4_become yX4_become).before args s = true := ⟨zwN hK ht 1 mc_X4_become mi_X4 (by decide +kernel) (by decide +kernel) hR, ht _ mm_X4_become, ht _ mv_X4_become⟩
theorem zw_L_100 {R : Room} {s : State} {args : Array Value} {fr lo : Nat} (ht : ∀ w ∈ zAll, w.before args s = true) (hR : fr + 1 ≤ R.frames ∧ 8 + (2 + 11) + lo ≤ R.locals) : CallB R s args RL 100 yX7_restore cX7_restore 2 (some .int) (zWs yX7_restore cX7_restore 2 (some .int)) { frames := fr, cells := 0, slots := 0, locals := lo } 0 0 1 ∧ (Cond.instanceMethod yX7_restore).before args s = true ∧ (Cond.selects RX7 yX7_restore yX7_restore).before args s = true := ⟨zwB ht 1 mc_X7_restore mi_X7 (zAll_of (zTb 556 (by decide +kernel)) (by decide +kernel)) (by decide +kernel) hR, ht _ mm_X7_restore, ht _ mv_X7_restore⟩
theorem mj_X8_1 : Cond.methodLink RX8 1 objectInit ∈ zAll := zAll_of (zTb 565 (by decide +kernel)) (by decide +kernel)
theorem zw_L_17 {R : Room} {s : State} {args : Array Value} {fr lo : Nat} (ht : ∀ w ∈ zAll, w.before args s = true) (hR : fr + 1 ≤ R.frames ∧ 8 + (5 + 11) + lo ≤ R.locals) : CallB R s args RL 17 yX8_start cX8_start 5 (some .int) (zWs yX8_start cX8_start 5 (some .int)) { frames := fr, cells := 0, slots := 0, locals := lo } 0 0 2 ∧ (Cond.instanceMethod yX8_start).before args s = true ∧ (Cond.selects RX8 yX8_start yX8_start).before args s = true := ⟨zwB ht 2 mc_X8_start mi_X8 (zAll_of (zTb 609 (by decide +kernel)) (by decide +kernel)) (by decide +kernel) hR, ht _ mm_X8_start, ht _ mv_X8_start⟩
theorem zw_X8_44 {R : Room} {s : State} {args : Array Value} {fr lo : Nat} (ht : ∀ w ∈ zAll, w.before args s = true) (hR : fr + 1 ≤ R.frames ∧ 8 + (6 + 11) + lo ≤ R.locals) : CallB R s args RX8 44 yX8_in cX8_in 6 (some .boolean) (zWs yX8_in cX8_in 6 (some .boolean)) { frames := fr, cells := 0, slots := 0, locals := lo } 0 0 3 ∧ (Cond.static yX8_in).before args s = true := ⟨zwB ht 3 mc_X8_in mi_X8 (zAll_of (zTb 614 (by decide +kernel)) (by decide +kernel)) (by decide +kernel) hR, ht _ ms_X8_in⟩
theorem zw_X8_60 {R : Room} {s : State} {args : Array Value} {fr lo : Nat} (ht : ∀ w ∈ zAll, w.before args s = true) (hR : fr + 1 ≤ R.frames ∧ 8 + (2 + 11) + lo ≤ R.locals) : CallB R s args RX8 60 yX8_keep cX8_keep 2 none (zWs yX8_keep cX8_keep 2 none) { frames := fr, cells := 0, slots := 0, locals := lo } 0 0 0 ∧ (Cond.instanceMethod yX8_keep).before args s = true ∧ (Cond.selects RX8 yX8_keep yX8_keep).before args s = true := ⟨zwB ht 0 mc_X8_keep mi_X8 (zAll_of (zTb 617 (by decide +kernel)) (by decide +kernel)) (by decide +kernel) hR, ht _ mm_X8_keep, ht _ mv_X8_keep⟩
theorem zw_X8_63 {R : Room} {s : State} {args : Array Value} {fr lo : Nat} (ht : ∀ w ∈ zAll, w.before args s = true) (hR : fr + 1 ≤ R.frames ∧ 8 + (1 + 11) + lo ≤ R.locals) : CallB R s args RX8 63 yX8_clubs cX8_clubs 1 (some .int) (zWs yX8_clubs cX8_clubs 1 (some .int)) { frames := fr, cells := 0, slots := 0, locals := lo } 0 0 0 ∧ (Cond.instanceMethod yX8_clubs).before args s = true ∧ (Cond.selects RX8 yX8_clubs yX8_clubs).before args s = true := ⟨zwB ht 0 mc_X8_clubs mi_X8 (zAll_of (zTb 621 (by decide +kernel)) (by decide +kernel)) (by decide +kernel) hR, ht _ mm_X8_clubs, ht _ mv_X8_clubs⟩
theorem zw_X8_50 {R : Room} {s : State} {args : Array Value} {fr lo : Nat} (ht : ∀ w ∈ zAll, w.before args s = true) (hR : fr + 1 ≤ R.frames ∧ 8 + (3 + 11) + lo ≤ R.locals) : CallB R s args RX8 50 yX8_bits cX8_bits 3 (some .int) (zWs yX8_bits cX8_bits 3 (some .int)) { frames := fr, cells := 0, slots := 0, locals := lo } 0 0 1 ∧ (Cond.static yX8_bits).before args s = true := ⟨zwB ht 1 mc_X8_bits mi_X8 (zAll_of (zTb 625 (by decide +kernel)) (by decide +kernel)) (by decide +kernel) hR, ht _ ms_X8_bits⟩
theorem zw_X8_67 {R : Room} {s : State} {args : Array Value} {fr lo : Nat} (ht : ∀ w ∈ zAll, w.before args s = true) (hR : fr + 1 ≤ R.frames ∧ 8 + (3 + 11) + lo ≤ R.locals) : CallB R s args RX8 67 yX8_changed cX8_changed 3 (some .int) (zWs yX8_changed cX8_changed 3 (some .int)) { frames := fr, cells := 0, slots := 0, locals := lo } 0 0 1 ∧ (Cond.instanceMethod yX8_changed).before args s = true ∧ (Cond.selects RX8 yX8_changed yX8_changed).before args s = true := ⟨zwB ht 1 mc_X8_changed mi_X8 (zAll_of (zTb 628 (by decide +kernel)) (by decide +kernel)) (by decide +kernel) hR, ht _ mm_X8_changed, ht _ mv_X8_changed⟩
theorem zw_L_27 {R : Room} {s : State} {args : Array Value} {fr lo : Nat} (ht : ∀ w ∈ zAll, w.before args s = true) (hR : fr + 1 ≤ R.frames ∧ 8 + (4 + 11) + lo ≤ R.locals) : CallB R s args RL 27 yX8_pass cX8_pass 4 (some .int) (zWs yX8_pass cX8_pass 4 (some .int)) { frames := fr, cells := 0, slots := 0, locals := lo } 0 0 1 ∧ (Cond.instanceMethod yX8_pass).before args s = true ∧ (Cond.selects RX8 yX8_pass yX8_pass).before args s = true := ⟨zwB ht 1 mc_X8_pass mi_X8 (zAll_of (zTb 632 (by decide +kernel)) (by decide +kernel)) (by decide +kernel) hR, ht _ mm_X8_pass, ht _ mv_X8_pass⟩
theorem zw_X8_73 {R : Room} {s : State} {args : Array Value} {fr lo : Nat} (ht : ∀ w ∈ zAll, w.before args s = true) (hR : fr + 1 ≤ R.frames ∧ 8 + (2 + 11) + lo ≤ R.locals) : CallB R s args RX8 73 yX8_beats cX8_beats 2 none (zWs yX8_beats cX8_beats 2 none) { frames := fr, cells := 0, slots := 0, locals := lo } 0 0 0 ∧ (Cond.instanceMethod yX8_beats).before args s = true ∧ (Cond.selects RX8 yX8_beats yX8_beats).before args s = true := ⟨zwB ht 0 mc_X8_beats mi_X8 (zAll_of (zTb 638 (by decide +kernel)) (by decide +kernel)) (by decide +kernel) hR, ht _ mm_X8_beats, ht _ mv_X8_beats⟩
theorem zw_X8_54 {R : Room} {s : State} {args : Array Value} {fr lo : Nat} (ht : ∀ w ∈ zAll, w.before args s = true) (hR : fr + 1 ≤ R.frames ∧ 8 + (5 + 11) + lo ≤ R.locals) : CallB R s args RX8 54 yX8_throwsOne cX8_throwsOne 5 none (zWs yX8_throwsOne cX8_throwsOne 5 none) { frames := fr, cells := 0, slots := 0, locals := lo } 0 0 1 ∧ (Cond.instanceMethod yX8_throwsOne).before args s = true ∧ (Cond.selects RX8 yX8_throwsOne yX8_throwsOne).before args s = true := ⟨zwB ht 1 mc_X8_throwsOne mi_X8 (zAll_of (zTb 642 (by decide +kernel)) (by decide +kernel)) (by decide +kernel) hR, ht _ mm_X8_throwsOne, ht _ mv_X8_throwsOne⟩
theorem zw_L_31 {R : Room} {s : State} {args : Array Value} {fr lo : Nat} (ht : ∀ w ∈ zAll, w.before args s = true) (hR : fr + 1 ≤ R.frames ∧ 8 + (3 + 11) + lo ≤ R.locals) : CallB R s args RL 31 yX8_drop cX8_drop 3 (some .int) (zWs yX8_drop cX8_drop 3 (some .int)) { frames := fr, cells := 0, slots := 0, locals := lo } 0 0 2 ∧ (Cond.instanceMethod yX8_drop).before args s = true ∧ (Cond.selects RX8 yX8_drop yX8_drop).before args s = true := ⟨zwB ht 2 mc_X8_drop mi_X8 (zAll_of (zTb 646 (by decide +kernel)) (by decide +kernel)) (by decide +kernel) hR, ht _ mm_X8_drop, ht _ mv_X8_drop⟩
theorem zw_X8_76 {R : Room} {s : State} {args : Array Value} {fr lo : Nat} (ht : ∀ w ∈ zAll, w.before args s = true) (hR : fr + 1 ≤ R.frames ∧ 8 + (1 + 11) + lo ≤ R.locals) : CallB R s args RX8 76 yX8_isJuggler cX8_isJuggler 1 (some .boolean) (zWs yX8_isJuggler cX8_isJuggler 1 (some .boolean)) { frames := fr, cells := 0, slots := 0, locals := lo } 0 0 1 ∧ (Cond.static yX8_isJuggler).before args s = true := ⟨zwB ht 1 mc_X8_isJuggler mi_X8 (zAll_of (zTb 650 (by decide +kernel)) (by decide +kernel)) (by decide +kernel) hR, ht _ ms_X8_isJuggler⟩
theorem zw_X8_80 {R : Room} {s : State} {args : Array Value} {fr lo : Nat} (ht : ∀ w ∈ zAll, w.before args s = true) (hR : fr + 1 ≤ R.frames ∧ 8 + (1 + 11) + lo ≤ R.locals) : CallB R s args RX8 80 yX8_isBeat cX8_isBeat 1 (some .boolean) (zWs yX8_isBeat cX8_isBeat 1 (some .boolean)) { frames := fr, cells := 0, slots := 0, locals := lo } 0 0 1 ∧ (Cond.static yX8_isBeat).before args s = true := ⟨zwB ht 1 mc_X8_isBeat mi_X8 (zAll_of (zTb 653 (by decide +kernel)) (by decide +kernel)) (by decide +kernel) hR, ht _ ms_X8_isBeat⟩
theorem zw_X8_83 {R : Room} {s : State} {args : Array Value} {fr lo : Nat} (ht : ∀ w ∈ zAll, w.before args s = true) (hR : fr + 1 ≤ R.frames ∧ 8 + (3 + 11) + lo ≤ R.locals) : CallB R s args RX8 83 yX8_comes cX8_comes 3 (some .boolean) (zWs yX8_comes cX8_comes 3 (some .boolean)) { frames := fr, cells := 0, slots := 0, locals := lo } 0 0 2 ∧ (Cond.instanceMethod yX8_comes).before args s = true ∧ (Cond.selects RX8 yX8_comes yX8_comes).before args s = true := ⟨zwB ht 2 mc_X8_comes mi_X8 (zAll_of (zTb 657 (by decide +kernel)) (by decide +kernel)) (by decide +kernel) hR, ht _ mm_X8_comes, ht _ mv_X8_comes⟩
theorem zw_L_35 {R : Room} {s : State} {args : Array Value} {fr lo : Nat} (ht : ∀ w ∈ zAll, w.before args s = true) (hR : fr + 1 ≤ R.frames ∧ 8 + (3 + 11) + lo ≤ R.locals) : CallB R s args RL 35 yX8_pick cX8_pick 3 (some .int) (zWs yX8_pick cX8_pick 3 (some .int)) { frames := fr, cells := 0, slots := 0, locals := lo } 0 0 2 ∧ (Cond.instanceMethod yX8_pick).before args s = true ∧ (Cond.selects RX8 yX8_pick yX8_pick).before args s = true := ⟨zwB ht 2 mc_X8_pick mi_X8 (zAll_of (zTb 661 (by decide +kernel)) (by decide +kernel)) (by decide +kernel) hR, ht _ mm_X8_pick, ht _ mv_X8_pick⟩
theorem zw_L_39 {R : Room} {s : State} {args : Array Value} {fr lo : Nat} (ht : ∀ w ∈ zAll, w.before args s = true) (hR : fr + 1 ≤ R.frames ∧ 8 + (3 + 11) + lo ≤ R.locals) : CallB R s args RL 39 yX8_of cX8_of 3 (some .int) (zWs yX8_of cX8_of 3 (some .int)) { frames := fr, cells := 0, slots := 0, locals := lo } 0 0 2 ∧ (Cond.instanceMethod yX8_of).before args s = true ∧ (Cond.selects RX8 yX8_of yX8_of).before args s = true := ⟨zwB ht 2 mc_X8_of mi_X8 (zAll_of (zTb 665 (by decide +kernel)) (by decide +kernel)) (by decide +kernel) hR, ht _ mm_X8_of, ht _ mv_X8_of⟩
theorem zw_L_44 {R : Room} {s : State} {args : Array Value} {fr lo : Nat} (ht : ∀ w ∈ zAll, w.before args s = true) (hR : fr + 1 ≤ R.frames ∧ 8 + (5 + 11) + lo ≤ R.locals) : CallB R s args RL 44 yX8_thrown cX8_thrown 5 (some .int) (zWs yX8_thrown cX8_thrown 5 (some .int)) { frames := fr, cells := 0, slots := 0, locals := lo } 0 0 3 ∧ (Cond.instanceMethod yX8_thrown).before args s = true ∧ (Cond.selects RX8 yX8_thrown yX8_thrown).before args s = true := ⟨zwB ht 3 mc_X8_thrown mi_X8 (zAll_of (zTb 669 (by decide +kernel)) (by decide +kernel)) (by decide +kernel) hR, ht _ mm_X8_thrown, ht _ mv_X8_thrown⟩
theorem zw_L_48 {R : Room} {s : State} {args : Array Value} {fr lo : Nat} (ht : ∀ w ∈ zAll, w.before args s = true) (hR : fr + 1 ≤ R.frames ∧ 8 + (2 + 11) + lo ≤ R.locals) : CallB R s args RL 48 yX8_count cX8_count 2 (some .int) (zWs yX8_count cX8_count 2 (some .int)) { frames := fr, cells := 0, slots := 0, locals := lo } 0 0 1 ∧ (Cond.instanceMethod yX8_count).before args s = true ∧ (Cond.selects RX8 yX8_count yX8_count).before args s = true := ⟨zwB ht 1 mc_X8_count mi_X8 (zAll_of (zTb 673 (by decide +kernel)) (by decide +kernel)) (by decide +kernel) hR, ht _ mm_X8_count, ht _ mv_X8_count⟩
theorem zw_L_52 {R : Room} {s : State} {args : Array Value} {fr lo : Nat} (ht : ∀ w ∈ zAll, w.before args s = true) (hR : fr + 1 ≤ R.frames ∧ 8 + (3 + 11) + lo ≤ R.locals) : CallB R s args RL 52 yX8_firstDrop cX8_firstDrop 3 (some .int) (zWs yX8_firstDrop cX8_firstDrop 3 (some .int)) { frames := fr, cells := 0, slots := 0, locals := lo } 0 0 0 ∧ (Cond.instanceMethod yX8_firstDrop).before args s = true ∧ (Cond.selects RX8 yX8_firstDrop yX8_firstDrop).before args s = true := ⟨zwB ht 0 mc_X8_firstDrop mi_X8 (zAll_of (zTb 677 (by decide +kernel)) (by decide +kernel)) (by decide +kernel) hR, ht _ mm_X8_firstDrop, ht _ mv_X8_firstDrop⟩
theorem zw_X8_90 {R : Room} {s : State} {args : Array Value} {fr lo : Nat} (ht : ∀ w ∈ zAll, w.before args s = true) (hR : fr + 1 ≤ R.frames ∧ 8 + (2 + 11) + lo ≤ R.locals) : CallB R s args RX8 90 yX8_giveBack cX8_giveBack 2 none (zWs yX8_giveBack cX8_giveBack 2 none) { frames := fr, cells := 0, slots := 0, locals := lo } 0 0 0 ∧ (Cond.instanceMethod yX8_giveBack).before args s = true ∧ (Cond.selects RX8 yX8_giveBack yX8_giveBack).before args s = true := ⟨zwB ht 0 mc_X8_giveBack mi_X8 (zAll_of (zTb 681 (by decide +kernel)) (by decide +kernel)) (by decide +kernel) hR, ht _ mm_X8_giveBack, ht _ mv_X8_giveBack⟩
theorem zw_L_56 {R : Room} {s : State} {args : Array Value} {fr lo : Nat} (ht : ∀ w ∈ zAll, w.before args s = true) (hR : fr + 1 ≤ R.frames ∧ 8 + (3 + 11) + lo ≤ R.locals) : CallB R s args RL 56 yX8_comesRound cX8_comesRound 3 (some .int) (zWs yX8_comesRound cX8_comesRound 3 (some .int)) { frames := fr, cells := 0, slots := 0, locals := lo } 0 0 0 ∧ (Cond.instanceMethod yX8_comesRound).before args s = true ∧ (Cond.selects RX8 yX8_comesRound yX8_comesRound).before args s = true := ⟨zwB ht 0 mc_X8_comesRound mi_X8 (zAll_of (zTb 685 (by decide +kernel)) (by decide +kernel)) (by decide +kernel) hR, ht _ mm_X8_comesRound, ht _ mv_X8_comesRound⟩
theorem zw_X8_93 {R : Room} {s : State} {args : Array Value} {fr lo : Nat} (ht : ∀ w ∈ zAll, w.before args s = true) (hR : fr + 1 ≤ R.frames ∧ 8 + (3 + 11) + lo ≤ R.locals) : CallB R s args RX8 93 yX8_isAsKept cX8_isAsKept 3 (some .boolean) (zWs yX8_isAsKept cX8_isAsKept 3 (some .boolean)) { frames := fr, cells := 0, slots := 0, locals := lo } 0 0 0 ∧ (Cond.instanceMethod yX8_isAsKept).before args s = true ∧ (Cond.selects RX8 yX8_isAsKept yX8_isAsKept).before args s = true := ⟨zwB ht 0 mc_X8_isAsKept mi_X8 (zAll_of (zTb 689 (by decide +kernel)) (by decide +kernel)) (by decide +kernel) hR, ht _ mm_X8_isAsKept, ht _ mv_X8_isAsKept⟩
theorem zw_L_60 {R : Room} {s : State} {args : Array Value} {fr lo : Nat} (ht : ∀ w ∈ zAll, w.before args s = true) (hR : fr + 1 ≤ R.frames ∧ 8 + (4 + 11) + lo ≤ R.locals) : CallB R s args RL 60 yX8_stateBehind cX8_stateBehind 4 (some .int) (zWs yX8_stateBehind cX8_stateBehind 4 (some .int)) { frames := fr, cells := 0, slots := 0, locals := lo } 0 0 2 ∧ (Cond.instanceMethod yX8_stateBehind).before args s = true ∧ (Cond.selects RX8 yX8_stateBehind yX8_stateBehind).before args s = true := ⟨zwB ht 2 mc_X8_stateBehind mi_X8 (zAll_of (zTb 693 (by decide +kernel)) (by decide +kernel)) (by decide +kernel) hR, ht _ mm_X8_stateBehind, ht _ mv_X8_stateBehind⟩
theorem zw_L_83 {R : Room} {s : State} {args : Array Value} {fr lo : Nat} (ht : ∀ w ∈ zAll, w.before args s = true) (hR : fr + 1 ≤ R.frames ∧ 8 + (8 + 11) + lo ≤ R.locals) : CallB R s args RL 83 yX8_put cX8_put 8 (some .int) (zWs yX8_put cX8_put 8 (some .int)) { frames := fr, cells := 0, slots := 0, locals := lo } 0 0 1 ∧ (Cond.instanceMethod yX8_put).before args s = true ∧ (Cond.selects RX8 yX8_put yX8_put).before args s = true := ⟨zwB ht 1 mc_X8_put mi_X8 (zAll_of (zTb 697 (by decide +kernel)) (by decide +kernel)) (by decide +kernel) hR, ht _ mm_X8_put, ht _ mv_X8_put⟩
theorem zw_L_87 {R : Room} {s : State} {args : Array Value} {fr lo : Nat} (ht : ∀ w ∈ zAll, w.before args s = true) (hR : fr + 1 ≤ R.frames ∧ 8 + (2 + 11) + lo ≤ R.locals) : CallB R s args RL 87 yX8_wipe cX8_wipe 2 (some .int) (zWs yX8_wipe cX8_wipe 2 (some .int)) { frames := fr, cells := 0, slots := 0, locals := lo } 0 0 0 ∧ (Cond.instanceMethod yX8_wipe).before args s = true ∧ (Cond.selects RX8 yX8_wipe yX8_wipe).before args s = true := ⟨zwB ht 0 mc_X8_wipe mi_X8 (zAll_of (zTb 704 (by decide +kernel)) (by decide +kernel)) (by decide +kernel) hR, ht _ mm_X8_wipe, ht _ mv_X8_wipe⟩
theorem zw_L_91 {R : Room} {s : State} {args : Array Value} {fr lo : Nat} (ht : ∀ w ∈ zAll, w.before args s = true) (hR : fr + 1 ≤ R.frames ∧ 8 + (3 + 11) + lo ≤ R.locals) : CallB R s args RL 91 yX8_fault cX8_fault 3 (some .int) (zWs yX8_fault cX8_fault 3 (some .int)) { frames := fr, cells := 0, slots := 0, locals := lo } 0 0 0 ∧ (Cond.instanceMethod yX8_fault).before args s = true ∧ (Cond.selects RX8 yX8_fault yX8_fault).before args s = true := ⟨zwB ht 0 mc_X8_fault mi_X8 (zAll_of (zTb 708 (by decide +kernel)) (by decide +kernel)) (by decide +kernel) hR, ht _ mm_X8_fault, ht _ mv_X8_fault⟩
theorem zw_X8_103 {R : Room} {s : State} {args : Array Value} {fr lo : Nat} (ht : ∀ w ∈ zAll, w.before args s = true) (hR : fr + 1 ≤ R.frames ∧ 8 + (4 + 11) + lo ≤ R.locals) : CallB R s args RX8 103 yX8_isAt cX8_isAt 4 (some .boolean) (zWs yX8_isAt cX8_isAt 4 (some .boolean)) { frames := fr, cells := 0, slots := 0, locals := lo } 0 0 3 ∧ (Cond.instanceMethod yX8_isAt).before args s = true ∧ (Cond.selects RX8 yX8_isAt yX8_isAt).before args s = true := ⟨zwB ht 3 mc_X8_isAt mi_X8 (zAll_of (zTb 712 (by decide +kernel)) (by decide +kernel)) (by decide +kernel) hR, ht _ mm_X8_isAt, ht _ mv_X8_isAt⟩
theorem zw_L_22 {R : Room} {s : State} {args : Array Value} {fr lo : Nat} (ht : ∀ w ∈ zAll, w.before args s = true) (hR : fr + 1 ≤ R.frames ∧ 8 + (3 + 11) + lo ≤ R.locals) : CallB R s args RL 22 yX8_read cX8_read 3 (some .int) (zWs yX8_read cX8_read 3 (some .int)) { frames := fr, cells := 0, slots := 0, locals := lo } 0 0 0 ∧ (Cond.instanceMethod yX8_read).before args s = true ∧ (Cond.selects RX8 yX8_read yX8_read).before args s = true := ⟨zwB ht 0 mc_X8_read mi_X8 (zAll_of (zTb 716 (by decide +kernel)) (by decide +kernel)) (by decide +kernel) hR, ht _ mm_X8_read, ht _ mv_X8_read⟩
theorem zw_X8_110 {R : Room} {s : State} {args : Array Value} {fr lo : Nat} (ht : ∀ w ∈ zAll, w.before args s = true) (hR : fr + 1 ≤ R.frames ∧ 8 + (3 + 11) + lo ≤ R.locals) : CallB R s args RX8 110 yX8_fault cX8_fault 3 (some .int) (zWs yX8_fault cX8_fault 3 (some .int)) { frames := fr, cells := 0, slots := 0, locals := lo } 0 0 0 ∧ (Cond.instanceMethod yX8_fault).before args s = true ∧ (Cond.selects RX8 yX8_fault yX8_fault).before args s = true := ⟨zwB ht 0 mc_X8_fault mi_X8 (zAll_of (zTb 720 (by decide +kernel)) (by decide +kernel)) (by decide +kernel) hR, ht _ mm_X8_fault, ht _ mv_X8_fault⟩
theorem zw_L_64 {R : Room} {s : State} {args : Array Value} {fr lo : Nat} (ht : ∀ w ∈ zAll, w.before args s = true) (hR : fr + 1 ≤ R.frames ∧ 8 + (2 + 11) + lo ≤ R.locals) : CallB R s args RL 64 yX8_pattern cX8_pattern 2 (some .int) (zWs yX8_pattern cX8_pattern 2 (some .int)) { frames := fr, cells := 0, slots := 0, locals := lo } 0 0 1 ∧ (Cond.instanceMethod yX8_pattern).before args s = true ∧ (Cond.selects RX8 yX8_pattern yX8_pattern).before args s = true := ⟨zwB ht 1 mc_X8_pattern mi_X8 (zAll_of (zTb 721 (by decide +kernel)) (by decide +kernel)) (by decide +kernel) hR, ht _ mm_X8_pattern, ht _ mv_X8_pattern⟩
theorem zw_X8_137 {R : Room} {s : State} {args : Array Value} {fr lo : Nat} (ht : ∀ w ∈ zAll, w.before args s = true) (hR : fr + 1 ≤ R.frames ∧ 8 + (3 + 11) + lo ≤ R.locals) : CallB R s args RX8 137 yX8_readsPattern cX8_readsPattern 3 (some .boolean) (zWs yX8_readsPattern cX8_readsPattern 3 (some .boolean)) { frames := fr, cells := 0, slots := 0, locals := lo } 0 0 0 ∧ (Cond.instanceMethod yX8_readsPattern).before args s = true ∧ (Cond.selects RX8 yX8_readsPattern yX8_readsPattern).before args s = true := ⟨zwB ht 0 mc_X8_readsPattern mi_X8 (zAll_of (zTb 725 (by decide +kernel)) (by decide +kernel)) (by decide +kernel) hR, ht _ mm_X8_readsPattern, ht _ mv_X8_readsPattern⟩
theorem zw_X8_142 {R : Room} {s : State} {args : Array Value} {fr lo : Nat} (ht : ∀ w ∈ zAll, w.before args s = true) (hR : fr + 1 ≤ R.frames ∧ 8 + (3 + 11) + lo ≤ R.locals) : CallB R s args RX8 142 yX8_isSound cX8_isSound 3 (some .boolean) (zWs yX8_isSound cX8_isSound 3 (some .boolean)) { frames := fr, cells := 0, slots := 0, locals := lo } 0 0 0 ∧ (Cond.instanceMethod yX8_isSound).before args s = true ∧ (Cond.selects RX8 yX8_isSound yX8_isSound).before args s = true := ⟨zwB ht 0 mc_X8_isSound mi_X8 (zAll_of (zTb 730 (by decide +kernel)) (by decide +kernel)) (by decide +kernel) hR, ht _ mm_X8_isSound, ht _ mv_X8_isSound⟩
theorem zw_X8_116 {R : Room} {s : State} {args : Array Value} {fr lo : Nat} (ht : ∀ w ∈ zAll, w.before args s = true) (hR : fr + 1 ≤ R.frames ∧ 8 + (2 + 11) + lo ≤ R.locals) : CallB R s args RX8 116 yX8_lands cX8_lands 2 (some .int) (zWs yX8_lands cX8_lands 2 (some .int)) { frames := fr, cells := 0, slots := 0, locals := lo } 0 0 1 ∧ (Cond.instanceMethod yX8_lands).before args s = true ∧ (Cond.selects RX8 yX8_lands yX8_lands).before args s = true := ⟨zwB ht 1 mc_X8_lands mi_X8 (zAll_of (zTb 734 (by decide +kernel)) (by decide +kernel)) (by decide +kernel) hR, ht _ mm_X8_lands, ht _ mv_X8_lands⟩
theorem zw_X8_145 {R : Room} {s : State} {args : Array Value} {fr lo : Nat} (ht : ∀ w ∈ zAll, w.before args s = true) (hR : fr + 1 ≤ R.frames ∧ 8 + (3 + 11) + lo ≤ R.locals) : CallB R s args RX8 145 yX8_told cX8_told 3 (some .int) (zWs yX8_told cX8_told 3 (some .int)) { frames := fr, cells := 0, slots := 0, locals := lo } 0 0 1 ∧ (Cond.instanceMethod yX8_told).before args s = true ∧ (Cond.selects RX8 yX8_told yX8_told).before args s = true := ⟨zwB ht 1 mc_X8_told mi_X8 (zAll_of (zTb 738 (by decide +kernel)) (by decide +kernel)) (by decide +kernel) hR, ht _ mm_X8_told, ht _ mv_X8_told⟩
theorem zw_X8_125 {R : Room} {s : State} {args : Array Value} {fr lo : Nat} (ht : ∀ w ∈ zAll, w.before args s = true) (hR : fr + 1 ≤ R.frames ∧ 8 + (3 + 11) + lo ≤ R.locals) : CallB R s args RX8 125 yX8_sumOfHeights cX8_sumOfHeights 3 (some .int) (zWs yX8_sumOfHeights cX8_sumOfHeights 3 (some .int)) { frames := fr, cells := 0, slots := 0, locals := lo } 0 0 0 ∧ (Cond.instanceMethod yX8_sumOfHeights).before args s = true ∧ (Cond.selects RX8 yX8_sumOfHeights yX8_sumOfHeights).before args s = true := ⟨zwB ht 0 mc_X8_sumOfHeights mi_X8 (zAll_of (zTb 742 (by decide +kernel)) (by decide +kernel)) (by decide +kernel) hR, ht _ mm_X8_sumOfHeights, ht _ mv_X8_sumOfHeights⟩
theorem zw_X8_128 {R : Room} {s : State} {args : Array Value} {fr lo : Nat} (ht : ∀ w ∈ zAll, w.before args s = true) (hR : fr + 1 ≤ R.frames ∧ 8 + (4 + 11) + lo ≤ R.locals) : CallB R s args RX8 128 yX8_startOf cX8_startOf 4 (some .int) (zWs yX8_startOf cX8_startOf 4 (some .int)) { frames := fr, cells := 0, slots := 0, locals := lo } 0 0 0 ∧ (Cond.instanceMethod yX8_startOf).before args s = true ∧ (Cond.selects RX8 yX8_startOf yX8_startOf).before args s = true := ⟨zwB ht 0 mc_X8_startOf mi_X8 (zAll_of (zTb 746 (by decide +kernel)) (by decide +kernel)) (by decide +kernel) hR, ht _ mm_X8_startOf, ht _ mv_X8_startOf⟩
theorem zw_X8_131 {R : Room} {s : State} {args : Array Value} {fr lo : Nat} (ht : ∀ w ∈ zAll, w.before args s = true) (hR : fr + 1 ≤ R.frames ∧ 8 + (4 + 11) + lo ≤ R.locals) : CallB R s args RX8 131 yX8_orbits cX8_orbits 4 (some .int) (zWs yX8_orbits cX8_orbits 4 (some .int)) { frames := fr, cells := 0, slots := 0, locals := lo } 0 0 0 ∧ (Cond.instanceMethod yX8_orbits).before args s = true ∧ (Cond.selects RX8 yX8_orbits yX8_orbits).before args s = true := ⟨zwB ht 0 mc_X8_orbits mi_X8 (zAll_of (zTb 750 (by decide +kernel)) (by decide +kernel)) (by decide +kernel) hR, ht _ mm_X8_orbits, ht _ mv_X8_orbits⟩
theorem zw_X8_119 {R : Room} {s : State} {args : Array Value} {fr lo : Nat} (ht : ∀ w ∈ zAll, w.before args s = true) (hR : fr + 1 ≤ R.frames ∧ 8 + (4 + 11) + lo ≤ R.locals) : CallB R s args RX8 119 yX8_orbitOf cX8_orbitOf 4 (some .int) (zWs yX8_orbitOf cX8_orbitOf 4 (some .int)) { frames := fr, cells := 0, slots := 0, locals := lo } 0 0 1 ∧ (Cond.instanceMethod yX8_orbitOf).before args s = true ∧ (Cond.selects RX8 yX8_orbitOf yX8_orbitOf).before args s = true := ⟨zwB ht 1 mc_X8_orbitOf mi_X8 (zAll_of (zTb 754 (by decide +kernel)) (by decide +kernel)) (by decide +kernel) hR, ht _ mm_X8_orbitOf, ht _ mv_X8_orbitOf⟩
theorem zw_X8_134 {R : Room} {s : State} {args : Array Value} {fr lo : Nat} (ht : ∀ w ∈ zAll, w.before args s = true) (hR : fr + 1 ≤ R.frames ∧ 8 + (2 + 11) + lo ≤ R.locals) : CallB R s args RX8 134 yX8_period cX8_period 2 (some .int) (zWs yX8_period cX8_period 2 (some .int)) { frames := fr, cells := 0, slots := 0, locals := lo } 0 0 0 ∧ (Cond.instanceMethod yX8_period).before args s = true ∧ (Cond.selects RX8 yX8_period yX8_period).before args s = true := ⟨zwB ht 0 mc_X8_period mi_X8 (zAll_of (zTb 758 (by decide +kernel)) (by decide +kernel)) (by decide +kernel) hR, ht _ mm_X8_period, ht _ mv_X8_period⟩
theorem zw_X8_122 {R : Room} {s : State} {args : Array Value} {fr lo : Nat} (ht : ∀ w ∈ zAll, w.before args s = true) (hR : fr + 1 ≤ R.frames ∧ 8 + (4 + 11) + lo ≤ R.locals) : CallB R s args RX8 122 yX8_comesAgain cX8_comesAgain 4 (some .boolean) (zWs yX8_comesAgain cX8_comesAgain 4 (some .boolean)) { frames := fr, cells := 0, slots := 0, locals := lo } 0 0 1 ∧ (Cond.instanceMethod yX8_comesAgain).before args s = true ∧ (Cond.selects RX8 yX8_comesAgain yX8_comesAgain).before args s = true := ⟨zwB ht 1 mc_X8_comesAgain mi_X8 (zAll_of (zTb 762 (by decide +kernel)) (by decide +kernel)) (by decide +kernel) hR, ht _ mm_X8_comesAgain, ht _ mv_X8_comesAgain⟩
theorem zw_L_68 {R : Room} {s : State} {args : Array Value} {fr lo : Nat} (ht : ∀ w ∈ zAll, w.before args s = true) (hR : fr + 1 ≤ R.frames ∧ 8 + (3 + 11) + lo ≤ R.locals) : CallB R s args RL 68 yX8_back cX8_back 3 (some .int) (zWs yX8_back cX8_back 3 (some .int)) { frames := fr, cells := 0, slots := 0, locals := lo } 0 0 1 ∧ (Cond.instanceMethod yX8_back).before args s = true ∧ (Cond.selects RX8 yX8_back yX8_back).before args s = true := ⟨zwB ht 1 mc_X8_back mi_X8 (zAll_of (zTb 766 (by decide +kernel)) (by decide +kernel)) (by decide +kernel) hR, ht _ mm_X8_back, ht _ mv_X8_back⟩
theorem zw_L_72 {R : Room} {s : State} {args : Array Value} {fr lo : Nat} (ht : ∀ w ∈ zAll, w.before args s = true) (hR : fr + 1 ≤ R.frames ∧ 8 + (6 + 11) + lo ≤ R.locals) : CallB R s args RL 72 yX8_way cX8_way 6 (some .int) (zWs yX8_way cX8_way 6 (some .int)) { frames := fr, cells := 0, slots := 0, locals := lo } 0 0 3 ∧ (Cond.instanceMethod yX8_way).before args s = true ∧ (Cond.selects RX8 yX8_way yX8_way).before args s = true := ⟨zwB ht 3 mc_X8_way mi_X8 (zAll_of (zTb 770 (by decide +kernel)) (by decide +kernel)) (by decide +kernel) hR, ht _ mm_X8_way, ht _ mv_X8_way⟩
theorem zw_X8_154 {R : Room} {s : State} {args : Array Value} {fr lo : Nat} (ht : ∀ w ∈ zAll, w.before args s = true) (hR : fr + 1 ≤ R.frames ∧ 8 + (8 + 11) + lo ≤ R.locals) : CallB R s args RX8 154 yX8_findWays cX8_findWays 8 none (zWs yX8_findWays cX8_findWays 8 none) { frames := fr, cells := 0, slots := 0, locals := lo } 0 0 1 ∧ (Cond.instanceMethod yX8_findWays).before args s = true ∧ (Cond.selects RX8 yX8_findWays yX8_findWays).before args s = true := ⟨zwB ht 1 mc_X8_findWays mi_X8 (zAll_of (zTb 775 (by decide +kernel)) (by decide +kernel)) (by decide +kernel) hR, ht _ mm_X8_findWays, ht _ mv_X8_findWays⟩
theorem zw_X8_148 {R : Room} {s : State} {args : Array Value} {fr lo : Nat} (ht : ∀ w ∈ zAll, w.before args s = true) (hR : fr + 1 ≤ R.frames ∧ 8 + (2 + 11) + lo ≤ R.locals) : CallB R s args RX8 148 yX8_behind cX8_behind 2 (some .int) (zWs yX8_behind cX8_behind 2 (some .int)) { frames := fr, cells := 0, slots := 0, locals := lo } 0 0 2 ∧ (Cond.static yX8_behind).before args s = true := ⟨zwB ht 2 mc_X8_behind mi_X8 (zAll_of (zTb 779 (by decide +kernel)) (by decide +kernel)) (by decide +kernel) hR, ht _ ms_X8_behind⟩
theorem zw_X8_157 {R : Room} {s : State} {args : Array Value} {fr lo : Nat} (ht : ∀ w ∈ zAll, w.before args s = true) (hR : fr + 1 ≤ R.frames ∧ 8 + (3 + 11) + lo ≤ R.locals) : CallB R s args RX8 157 yX8_nextThrow cX8_nextThrow 3 (some .int) (zWs yX8_nextThrow cX8_nextThrow 3 (some .int)) { frames := fr, cells := 0, slots := 0, locals := lo } 0 0 1 ∧ (Cond.instanceMethod yX8_nextThrow).before args s = true ∧ (Cond.selects RX8 yX8_nextThrow yX8_nextThrow).before args s = true := ⟨zwB ht 1 mc_X8_nextThrow mi_X8 (zAll_of (zTb 782 (by decide +kernel)) (by decide +kernel)) (by decide +kernel) hR, ht _ mm_X8_nextThrow, ht _ mv_X8_nextThrow⟩
theorem zw_L_76 {R : Room} {s : State} {args : Array Value} {fr lo : Nat} (ht : ∀ w ∈ zAll, w.before args s = true) (hR : fr + 1 ≤ R.frames ∧ 8 + (6 + 11) + lo ≤ R.locals) : CallB R s args RL 76 yX8_howMany cX8_howMany 6 (some .int) (zWs yX8_howMany cX8_howMany 6 (some .int)) { frames := fr, cells := 0, slots := 0, locals := lo } 0 0 2 ∧ (Cond.instanceMethod yX8_howMany).before args s = true ∧ (Cond.selects RX8 yX8_howMany yX8_howMany).before args s = true := ⟨zwB ht 2 mc_X8_howMany mi_X8 (zAll_of (zTb 786 (by decide +kernel)) (by decide +kernel)) (by decide +kernel) hR, ht _ mm_X8_howMany, ht _ mv_X8_howMany⟩
theorem zw_L_95 {R : Room} {s : State} {args : Array Value} {fr lo : Nat} (ht : ∀ w ∈ zAll, w.before args s = true) (hR : fr + 1 ≤ R.frames ∧ 8 + (2 + 11) + lo ≤ R.locals) : CallB R s args RL 95 yX8_undo cX8_undo 2 (some .int) (zWs yX8_undo cX8_undo 2 (some .int)) { frames := fr, cells := 0, slots := 0, locals := lo } 0 0 0 ∧ (Cond.instanceMethod yX8_undo).before args s = true ∧ (Cond.selects RX8 yX8_undo yX8_undo).before args s = true := ⟨zwB ht 0 mc_X8_undo mi_X8 (zAll_of (zTb 791 (by decide +kernel)) (by decide +kernel)) (by decide +kernel) hR, ht _ mm_X8_undo, ht _ mv_X8_undo⟩
theorem zw_L_99 {R : Room} {s : State} {args : Array Value} {fr lo : Nat} (ht : ∀ w ∈ zAll, w.before args s = true) (hR : fr + 1 ≤ R.frames ∧ 8 + (3 + 11) + lo ≤ R.locals) : CallB R s args RL 99 yX8_save cX8_save 3 (some .int) (zWs yX8_save cX8_save 3 (some .int)) { frames := fr, cells := 0, slots := 0, locals := lo } 0 0 1 ∧ (Cond.instanceMethod yX8_save).before args s = true ∧ (Cond.selects RX8 yX8_save yX8_save).before args s = true := ⟨zwB ht 1 mc_X8_save mi_X8 (zAll_of (zTb 795 (by decide +kernel)) (by decide +kernel)) (by decide +kernel) hR, ht _ mm_X8_save, ht _ mv_X8_save⟩
theorem zw_L_103 {R : Room} {s : State} {args : Array Value} {fr lo : Nat} (ht : ∀ w ∈ zAll, w.before args s = true) (hR : fr + 1 ≤ R.frames ∧ 8 + (3 + 11) + lo ≤ R.locals) : CallB R s args RL 103 yX8_restore cX8_restore 3 (some .int) (zWs yX8_restore cX8_restore 3 (some .int)) { frames := fr, cells := 0, slots := 0, locals := lo } 0 0 1 ∧ (Cond.instanceMethod yX8_restore).before args s = true ∧ (Cond.selects RX8 yX8_restore yX8_restore).before args s = true := ⟨zwB ht 1 mc_X8_restore mi_X8 (zAll_of (zTb 799 (by decide +kernel)) (by decide +kernel)) (by decide +kernel) hR, ht _ mm_X8_restore, ht _ mv_X8_restore⟩
theorem zg_X1_19 {p : Program} {l : Launch} {e : Env} {R : Room} {s : State} {m : MethodId} {args : Array Value} {below : List Frame} {meth : Method} {c : Code} {H : Heap} {locs : List Loc} {cells slots : Nat} {Q : State → Prop} {cc : ByteArray} {nL : Nat} {D : va_G} {cI cR : ClassId} {A : Nat → Prop} {bs : zB} {pc : Nat} {ls : Array Slot} {rest : List Value} {a : Nat} {fs : List Value} {v : Value} (X : zX p s m c cc nL args RX1 D cI cR A) (Z : zW D A s bs H locs) (q0 : Nat) (he : (bl bs)[q0]? = some (a, .inr (1, fs))) (hv : fs[0]? = some v) (hdg : decode cc pc = .ok (.getfield 19, 3)) (kk : W p l e R s m args below meth c H locs cells slots Q (F0 m (pc + 3) ls (v :: rest))) : W p l e R s m args below meth c H locs cells slots Q (F0 m pc ls (.ref a :: rest)) :=
  z_get (C := RX1) (T := TX1) (N := 7) (k := 0) X Z in_X1 rfl (Nat.le_of_ble_eq_true rfl) (by decide +kernel) (zAll_of (zTb 33 (by decide +kernel)) (by decide +kernel)) q0 he hv hdg kk
theorem zp_X1_19 {p : Program} {l : Launch} {e : Env} {R : Room} {s : State} {m : MethodId} {args : Array Value} {below : List Frame} {meth : Method} {c : Code} {H : Heap} {locs : List Loc} {cells slots : Nat} {Q : State → Prop} {cc : ByteArray} {nL : Nat} {D : va_G} {cI cR : ClassId} {A : Nat → Prop} {bs : zB} {pc : Nat} {ls : Array Slot} {rest : List Value} {a : Nat} {fs : List Value} {v : Int32} (X : zX p s m c cc nL args RX1 D cI cR A) (Z : zW D A s bs H locs) (q0 : Nat) (he : (bl bs)[q0]? = some (a, .inr (1, fs))) (hl : 0 < fs.length) (bs' : zB) (hb : (bl bs).set q0 (a, .inr (1, fs.set 0 (.int v))) = bl bs') (hdg : decode cc pc = .ok (.putfield 19, 3)) (kk : ∀ (H1 : Heap) (locs1 : List Loc), zW D A s bs' H1 locs1 → W p l e R s m args below meth c H1 locs1 cells slots Q (F0 m (pc + 3) ls rest)) : W p l e R s m args below meth c H locs cells slots Q (F0 m pc ls (.int v :: .ref a :: rest)) :=
  z_put (C := RX1) (T := TX1) (N := 7) (k := 0) (ty := .int) tyX1 X Z in_X1 tyX1_ok nmX1 rfl (Nat.le_of_ble_eq_true rfl) (by decide +kernel) (by decide +kernel) (by decide +kernel) (zAll_of (zTb 33 (by decide +kernel)) (by decide +kernel)) rfl rfl q0 he hl bs' hb hdg kk
theorem zg_X7_121 {p : Program} {l : Launch} {e : Env} {R : Room} {s : State} {m : MethodId} {args : Array Value} {below : List Frame} {meth : Method} {c : Code} {H : Heap} {locs : List Loc} {cells slots : Nat} {Q : State → Prop} {cc : ByteArray} {nL : Nat} {D : va_G} {cI cR : ClassId} {A : Nat → Prop} {bs : zB} {pc : Nat} {ls : Array Slot} {rest : List Value} {a : Nat} {fs : List Value} {v : Value} (X : zX p s m c cc nL args RX7 D cI cR A) (Z : zW D A s bs H locs) (q0 : Nat) (he : (bl bs)[q0]? = some (a, .inr (1, fs))) (hv : fs[0]? = some v) (hdg : decode cc pc = .ok (.getfield 121, 3)) (kk : W p l e R s m args below meth c H locs cells slots Q (F0 m (pc + 3) ls (v :: rest))) : W p l e R s m args below meth c H locs cells slots Q (F0 m pc ls (.ref a :: rest)) :=
  z_getN (host := "JugglerStates") (C := RX1) (T := TX1) (N := 7) (k := 0) X Z in_X1 rfl (Nat.le_of_ble_eq_true rfl) (by decide +kernel) (by decide +kernel) q0 he hv hdg kk
theorem zp_X7_121 {p : Program} {l : Launch} {e : Env} {R : Room} {s : State} {m : MethodId} {args : Array Value} {below : List Frame} {meth : Method} {c : Code} {H : Heap} {locs : List Loc} {cells slots : Nat} {Q : State → Prop} {cc : ByteArray} {nL : Nat} {D : va_G} {cI cR : ClassId} {A : Nat → Prop} {bs : zB} {pc : Nat} {ls : Array Slot} {rest : List Value} {a : Nat} {fs : List Value} {v : Int32} (X : zX p s m c cc nL args RX7 D cI cR A) (Z : zW D A s bs H locs) (q0 : Nat) (he : (bl bs)[q0]? = some (a, .inr (1, fs))) (hl : 0 < fs.length) (bs' : zB) (hb : (bl bs).set q0 (a, .inr (1, fs.set 0 (.int v))) = bl bs') (hdg : decode cc pc = .ok (.putfield 121, 3)) (kk : ∀ (H1 : Heap) (locs1 : List Loc), zW D A s bs' H1 locs1 → W p l e R s m args below meth c H1 locs1 cells slots Q (F0 m (pc + 3) ls rest)) : W p l e R s m args below meth c H locs cells slots Q (F0 m pc ls (.int v :: .ref a :: rest)) :=
  z_putN (host := "JugglerStates") (C := RX1) (T := TX1) (N := 7) (k := 0) (ty := .int) tyX1 X Z in_X1 tyX1_ok nmX1 rfl (Nat.le_of_ble_eq_true rfl) (by decide +kernel) (by decide +kernel) (by decide +kernel) (by decide +kernel) rfl rfl q0 he hl bs' hb hdg kk
theorem zg_X1_9 {p : Program} {l : Launch} {e : Env} {R : Room} {s : State} {m : MethodId} {args : Array Value} {below : List Frame} {meth : Method} {c : Code} {H : Heap} {locs : List Loc} {cells slots : Nat} {Q : State → Prop} {cc : ByteArray} {nL : Nat} {D : va_G} {cI cR : ClassId} {A : Nat → Prop} {bs : zB} {pc : Nat} {ls : Array Slot} {rest : List Value} {a : Nat} {fs : List Value} {v : Value} (X : zX p s m c cc nL args RX1 D cI cR A) (Z : zW D A s bs H locs) (q0 : Nat) (he : (bl bs)[q0]? = some (a, .inr (1, fs))) (hv : fs[1]? = some v) (hdg : decode cc pc = .ok (.getfield 9, 3)) (kk : W p l e R s m args below meth c H locs cells slots Q (F0 m (pc + 3) ls (v :: rest))) : W p l e R s m args below meth c H locs cells slots Q (F0 m pc ls (.ref a :: rest)) :=
  z_get (C := RX1) (T := TX1) (N := 7) (k := 1) X Z in_X1 rfl (Nat.le_of_ble_eq_true rfl) (by decide +kernel) (zAll_of (zTb 35 (by decide +kernel)) (by decide +kernel)) q0 he hv hdg kk
theorem zg_X1_30 {p : Program} {l : Launch} {e : Env} {R : Room} {s : State} {m : MethodId} {args : Array Value} {below : List Frame} {meth : Method} {c : Code} {H : Heap} {locs : List Loc} {cells slots : Nat} {Q : State → Prop} {cc : ByteArray} {nL : Nat} {D : va_G} {cI cR : ClassId} {A : Nat → Prop} {bs : zB} {pc : Nat} {ls : Array Slot} {rest : List Value} {a : Nat} {fs : List Value} {v : Value} (X : zX p s m c cc nL args RX1 D cI cR A) (Z : zW D A s bs H locs) (q0 : Nat) (he : (bl bs)[q0]? = some (a, .inr (1, fs))) (hv : fs[2]? = some v) (hdg : decode cc pc = .ok (.getfield 30, 3)) (kk : W p l e R s m args below meth c H locs cells slots Q (F0 m (pc + 3) ls (v :: rest))) : W p l e R s m args below meth c H locs cells slots Q (F0 m pc ls (.ref a :: rest)) :=
  z_get (C := RX1) (T := TX1) (N := 7) (k := 2) X Z in_X1 rfl (Nat.le_of_ble_eq_true rfl) (by decide +kernel) (zAll_of (zTb 36 (by decide +kernel)) (by decide +kernel)) q0 he hv hdg kk
theorem zp_X1_30 {p : Program} {l : Launch} {e : Env} {R : Room} {s : State} {m : MethodId} {args : Array Value} {below : List Frame} {meth : Method} {c : Code} {H : Heap} {locs : List Loc} {cells slots : Nat} {Q : State → Prop} {cc : ByteArray} {nL : Nat} {D : va_G} {cI cR : ClassId} {A : Nat → Prop} {bs : zB} {pc : Nat} {ls : Array Slot} {rest : List Value} {a : Nat} {fs : List Value} {v : Int32} (X : zX p s m c cc nL args RX1 D cI cR A) (Z : zW D A s bs H locs) (q0 : Nat) (he : (bl bs)[q0]? = some (a, .inr (1, fs))) (hl : 2 < fs.length) (bs' : zB) (hb : (bl bs).set q0 (a, .inr (1, fs.set 2 (.int v))) = bl bs') (hdg : decode cc pc = .ok (.putfield 30, 3)) (kk : ∀ (H1 : Heap) (locs1 : List Loc), zW D A s bs' H1 locs1 → W p l e R s m args below meth c H1 locs1 cells slots Q (F0 m (pc + 3) ls rest)) : W p l e R s m args below meth c H locs cells slots Q (F0 m pc ls (.int v :: .ref a :: rest)) :=
  z_put (C := RX1) (T := TX1) (N := 7) (k := 2) (ty := .int) tyX1 X Z in_X1 tyX1_ok nmX1 rfl (Nat.le_of_ble_eq_true rfl) (by decide +kernel) (by decide +kernel) (by decide +kernel) (zAll_of (zTb 36 (by decide +kernel)) (by decide +kernel)) rfl rfl q0 he hl bs' hb hdg kk
theorem zg_X1_15 {p : Program} {l : Launch} {e : Env} {R : Room} {s : State} {m : MethodId} {args : Array Value} {below : List Frame} {meth : Method} {c : Code} {H : Heap} {locs : List Loc} {cells slots : Nat} {Q : State → Prop} {cc : ByteArray} {nL : Nat} {D : va_G} {cI cR : ClassId} {A : Nat → Prop} {bs : zB} {pc : Nat} {ls : Array Slot} {rest : List Value} {a : Nat} {fs : List Value} {v : Value} (X : zX p s m c cc nL args RX1 D cI cR A) (Z : zW D A s bs H locs) (q0 : Nat) (he : (bl bs)[q0]? = some (a, .inr (1, fs))) (hv : fs[3]? = some v) (hdg : decode cc pc = .ok (.getfield 15, 3)) (kk : W p l e R s m args below meth c H locs cells slots Q (F0 m (pc + 3) ls (v :: rest))) : W p l e R s m args below meth c H locs cells slots Q (F0 m pc ls (.ref a :: rest)) :=
  z_get (C := RX1) (T := TX1) (N := 7) (k := 3) X Z in_X1 rfl (Nat.le_of_ble_eq_true rfl) (by decide +kernel) (zAll_of (zTb 37 (by decide +kernel)) (by decide +kernel)) q0 he hv hdg kk
theorem zp_X1_15 {p : Program} {l : Launch} {e : Env} {R : Room} {s : State} {m : MethodId} {args : Array Value} {below : List Frame} {meth : Method} {c : Code} {H : Heap} {locs : List Loc} {cells slots : Nat} {Q : State → Prop} {cc : ByteArray} {nL : Nat} {D : va_G} {cI cR : ClassId} {A : Nat → Prop} {bs : zB} {pc : Nat} {ls : Array Slot} {rest : List Value} {a : Nat} {fs : List Value} {v : Int32} (X : zX p s m c cc nL args RX1 D cI cR A) (Z : zW D A s bs H locs) (q0 : Nat) (he : (bl bs)[q0]? = some (a, .inr (1, fs))) (hl : 3 < fs.length) (bs' : zB) (hb : (bl bs).set q0 (a, .inr (1, fs.set 3 (.int v))) = bl bs') (hdg : decode cc pc = .ok (.putfield 15, 3)) (kk : ∀ (H1 : Heap) (locs1 : List Loc), zW D A s bs' H1 locs1 → W p l e R s m args below meth c H1 locs1 cells slots Q (F0 m (pc + 3) ls rest)) : W p l e R s m args below meth c H locs cells slots Q (F0 m pc ls (.int v :: .ref a :: rest)) :=
  z_put (C := RX1) (T := TX1) (N := 7) (k := 3) (ty := .int) tyX1 X Z in_X1 tyX1_ok nmX1 rfl (Nat.le_of_ble_eq_true rfl) (by decide +kernel) (by decide +kernel) (by decide +kernel) (zAll_of (zTb 37 (by decide +kernel)) (by decide +kernel)) rfl rfl q0 he hl bs' hb hdg kk
theorem zg_X7_125 {p : Program} {l : Launch} {e : Env} {R : Room} {s : State} {m : MethodId} {args : Array Value} {below : List Frame} {meth : Method} {c : Code} {H : Heap} {locs : List Loc} {cells slots : Nat} {Q : State → Prop} {cc : ByteArray} {nL : Nat} {D : va_G} {cI cR : ClassId} {A : Nat → Prop} {bs : zB} {pc : Nat} {ls : Array Slot} {rest : List Value} {a : Nat} {fs : List Value} {v : Value} (X : zX p s m c cc nL args RX7 D cI cR A) (Z : zW D A s bs H locs) (q0 : Nat) (he : (bl bs)[q0]? = some (a, .inr (1, fs))) (hv : fs[3]? = some v) (hdg : decode cc pc = .ok (.getfield 125, 3)) (kk : W p l e R s m args below meth c H locs cells slots Q (F0 m (pc + 3) ls (v :: rest))) : W p l e R s m args below meth c H locs cells slots Q (F0 m pc ls (.ref a :: rest)) :=
  z_getN (host := "JugglerStates") (C := RX1) (T := TX1) (N := 7) (k := 3) X Z in_X1 rfl (Nat.le_of_ble_eq_true rfl) (by decide +kernel) (by decide +kernel) q0 he hv hdg kk
theorem zp_X7_125 {p : Program} {l : Launch} {e : Env} {R : Room} {s : State} {m : MethodId} {args : Array Value} {below : List Frame} {meth : Method} {c : Code} {H : Heap} {locs : List Loc} {cells slots : Nat} {Q : State → Prop} {cc : ByteArray} {nL : Nat} {D : va_G} {cI cR : ClassId} {A : Nat → Prop} {bs : zB} {pc : Nat} {ls : Array Slot} {rest : List Value} {a : Nat} {fs : List Value} {v : Int32} (X : zX p s m c cc nL args RX7 D cI cR A) (Z : zW D A s bs H locs) (q0 : Nat) (he : (bl bs)[q0]? = some (a, .inr (1, fs))) (hl : 3 < fs.length) (bs' : zB) (hb : (bl bs).set q0 (a, .inr (1, fs.set 3 (.int v))) = bl bs') (hdg : decode cc pc = .ok (.putfield 125, 3)) (kk : ∀ (H1 : Heap) (locs1 : List Loc), zW D A s bs' H1 locs1 → W p l e R s m args below meth c H1 locs1 cells slots Q (F0 m (pc + 3) ls rest)) : W p l e R s m args below meth c H locs cells slots Q (F0 m pc ls (.int v :: .ref a :: rest)) :=
  z_putN (host := "JugglerStates") (C := RX1) (T := TX1) (N := 7) (k := 3) (ty := .int) tyX1 X Z in_X1 tyX1_ok nmX1 rfl (Nat.le_of_ble_eq_true rfl) (by decide +kernel) (by decide +kernel) (by decide +kernel) (by decide +kernel) rfl rfl q0 he hl bs' hb hdg kk
theorem zg_X1_33 {p : Program} {l : Launch} {e : Env} {R : Room} {s : State} {m : MethodId} {args : Array Value} {below : List Frame} {meth : Method} {c : Code} {H : Heap} {locs : List Loc} {cells slots : Nat} {Q : State → Prop} {cc : ByteArray} {nL : Nat} {D : va_G} {cI cR : ClassId} {A : Nat → Prop} {bs : zB} {pc : Nat} {ls : Array Slot} {rest : List Value} {a : Nat} {fs : List Value} {v : Value} (X : zX p s m c cc nL args RX1 D cI cR A) (Z : zW D A s bs H locs) (q0 : Nat) (he : (bl bs)[q0]? = some (a, .inr (1, fs))) (hv : fs[4]? = some v) (hdg : decode cc pc = .ok (.getfield 33, 3)) (kk : W p l e R s m args below meth c H locs cells slots Q (F0 m (pc + 3) ls (v :: rest))) : W p l e R s m args below meth c H locs cells slots Q (F0 m pc ls (.ref a :: rest)) :=
  z_get (C := RX1) (T := TX1) (N := 7) (k := 4) X Z in_X1 rfl (Nat.le_of_ble_eq_true rfl) (by decide +kernel) (zAll_of (zTb 39 (by decide +kernel)) (by decide +kernel)) q0 he hv hdg kk
theorem zp_X1_33 {p : Program} {l : Launch} {e : Env} {R : Room} {s : State} {m : MethodId} {args : Array Value} {below : List Frame} {meth : Method} {c : Code} {H : Heap} {locs : List Loc} {cells slots : Nat} {Q : State → Prop} {cc : ByteArray} {nL : Nat} {D : va_G} {cI cR : ClassId} {A : Nat → Prop} {bs : zB} {pc : Nat} {ls : Array Slot} {rest : List Value} {a : Nat} {fs : List Value} {v : Int32} (X : zX p s m c cc nL args RX1 D cI cR A) (Z : zW D A s bs H locs) (q0 : Nat) (he : (bl bs)[q0]? = some (a, .inr (1, fs))) (hl : 4 < fs.length) (bs' : zB) (hb : (bl bs).set q0 (a, .inr (1, fs.set 4 (.int v))) = bl bs') (hdg : decode cc pc = .ok (.putfield 33, 3)) (kk : ∀ (H1 : Heap) (locs1 : List Loc), zW D A s bs' H1 locs1 → W p l e R s m args below meth c H1 locs1 cells slots Q (F0 m (pc + 3) ls rest)) : W p l e R s m args below meth c H locs cells slots Q (F0 m pc ls (.int v :: .ref a :: rest)) :=
  z_put (C := RX1) (T := TX1) (N := 7) (k := 4) (ty := .int) tyX1 X Z in_X1 tyX1_ok nmX1 rfl (Nat.le_of_ble_eq_true rfl) (by decide +kernel) (by decide +kernel) (by decide +kernel) (zAll_of (zTb 39 (by decide +kernel)) (by decide +kernel)) rfl rfl q0 he hl bs' hb hdg kk
theorem zg_X4_55 {p : Program} {l : Launch} {e : Env} {R : Room} {s : State} {m : MethodId} {args : Array Value} {below : List Frame} {meth : Method} {c : Code} {H : Heap} {locs : List Loc} {cells slots : Nat} {Q : State → Prop} {cc : ByteArray} {nL : Nat} {D : va_G} {cI cR : ClassId} {A : Nat → Prop} {bs : zB} {pc : Nat} {ls : Array Slot} {rest : List Value} {a : Nat} {fs : List Value} {v : Value} (X : zX p s m c cc nL args RX4 D cI cR A) (Z : zW D A s bs H locs) (q0 : Nat) (he : (bl bs)[q0]? = some (a, .inr (1, fs))) (hv : fs[4]? = some v) (hdg : decode cc pc = .ok (.getfield 55, 3)) (kk : W p l e R s m args below meth c H locs cells slots Q (F0 m (pc + 3) ls (v :: rest))) : W p l e R s m args below meth c H locs cells slots Q (F0 m pc ls (.ref a :: rest)) :=
  z_getN (host := "JugglerStates") (C := RX1) (T := TX1) (N := 7) (k := 4) X Z in_X1 rfl (Nat.le_of_ble_eq_true rfl) (by decide +kernel) (by decide +kernel) q0 he hv hdg kk
theorem zp_X4_55 {p : Program} {l : Launch} {e : Env} {R : Room} {s : State} {m : MethodId} {args : Array Value} {below : List Frame} {meth : Method} {c : Code} {H : Heap} {locs : List Loc} {cells slots : Nat} {Q : State → Prop} {cc : ByteArray} {nL : Nat} {D : va_G} {cI cR : ClassId} {A : Nat → Prop} {bs : zB} {pc : Nat} {ls : Array Slot} {rest : List Value} {a : Nat} {fs : List Value} {v : Int32} (X : zX p s m c cc nL args RX4 D cI cR A) (Z : zW D A s bs H locs) (q0 : Nat) (he : (bl bs)[q0]? = some (a, .inr (1, fs))) (hl : 4 < fs.length) (bs' : zB) (hb : (bl bs).set q0 (a, .inr (1, fs.set 4 (.int v))) = bl bs') (hdg : decode cc pc = .ok (.putfield 55, 3)) (kk : ∀ (H1 : Heap) (locs1 : List Loc), zW D A s bs' H1 locs1 → W p l e R s m args below meth c H1 locs1 cells slots Q (F0 m (pc + 3) ls rest)) : W p l e R s m args below meth c H locs cells slots Q (F0 m pc ls (.int v :: .ref a :: rest)) :=
  z_putN (host := "JugglerStates") (C := RX1) (T := TX1) (N := 7) (k := 4) (ty := .int) tyX1 X Z in_X1 tyX1_ok nmX1 rfl (Nat.le_of_ble_eq_true rfl) (by decide +kernel) (by decide +kernel) (by decide +kernel) (by decide +kernel) rfl rfl q0 he hl bs' hb hdg kk
theorem zg_X7_128 {p : Program} {l : Launch} {e : Env} {R : Room} {s : State} {m : MethodId} {args : Array Value} {below : List Frame} {meth : Method} {c : Code} {H : Heap} {locs : List Loc} {cells slots : Nat} {Q : State → Prop} {cc : ByteArray} {nL : Nat} {D : va_G} {cI cR : ClassId} {A : Nat → Prop} {bs : zB} {pc : Nat} {ls : Array Slot} {rest : List Value} {a : Nat} {fs : List Value} {v : Value} (X : zX p s m c cc nL args RX7 D cI cR A) (Z : zW D A s bs H locs) (q0 : Nat) (he : (bl bs)[q0]? = some (a, .inr (1, fs))) (hv : fs[4]? = some v) (hdg : decode cc pc = .ok (.getfield 128, 3)) (kk : W p l e R s m args below meth c H locs cells slots Q (F0 m (pc + 3) ls (v :: rest))) : W p l e R s m args below meth c H locs cells slots Q (F0 m pc ls (.ref a :: rest)) :=
  z_getN (host := "JugglerStates") (C := RX1) (T := TX1) (N := 7) (k := 4) X Z in_X1 rfl (Nat.le_of_ble_eq_true rfl) (by decide +kernel) (by decide +kernel) q0 he hv hdg kk
theorem zp_X7_128 {p : Program} {l : Launch} {e : Env} {R : Room} {s : State} {m : MethodId} {args : Array Value} {below : List Frame} {meth : Method} {c : Code} {H : Heap} {locs : List Loc} {cells slots : Nat} {Q : State → Prop} {cc : ByteArray} {nL : Nat} {D : va_G} {cI cR : ClassId} {A : Nat → Prop} {bs : zB} {pc : Nat} {ls : Array Slot} {rest : List Value} {a : Nat} {fs : List Value} {v : Int32} (X : zX p s m c cc nL args RX7 D cI cR A) (Z : zW D A s bs H locs) (q0 : Nat) (he : (bl bs)[q0]? = some (a, .inr (1, fs))) (hl : 4 < fs.length) (bs' : zB) (hb : (bl bs).set q0 (a, .inr (1, fs.set 4 (.int v))) = bl bs') (hdg : decode cc pc = .ok (.putfield 128, 3)) (kk : ∀ (H1 : Heap) (locs1 : List Loc), zW D A s bs' H1 locs1 → W p l e R s m args below meth c H1 locs1 cells slots Q (F0 m (pc + 3) ls rest)) : W p l e R s m args below meth c H locs cells slots Q (F0 m pc ls (.int v :: .ref a :: rest)) :=
  z_putN (host := "JugglerStates") (C := RX1) (T := TX1) (N := 7) (k := 4) (ty := .int) tyX1 X Z in_X1 tyX1_ok nmX1 rfl (Nat.le_of_ble_eq_true rfl) (by decide +kernel) (by decide +kernel) (by decide +kernel) (by decide +kernel) rfl rfl q0 he hl bs' hb hdg kk
theorem zg_X1_36 {p : Program} {l : Launch} {e : Env} {R : Room} {s : State} {m : MethodId} {args : Array Value} {below : List Frame} {meth : Method} {c : Code} {H : Heap} {locs : List Loc} {cells slots : Nat} {Q : State → Prop} {cc : ByteArray} {nL : Nat} {D : va_G} {cI cR : ClassId} {A : Nat → Prop} {bs : zB} {pc : Nat} {ls : Array Slot} {rest : List Value} {a : Nat} {fs : List Value} {v : Value} (X : zX p s m c cc nL args RX1 D cI cR A) (Z : zW D A s bs H locs) (q0 : Nat) (he : (bl bs)[q0]? = some (a, .inr (1, fs))) (hv : fs[5]? = some v) (hdg : decode cc pc = .ok (.getfield 36, 3)) (kk : W p l e R s m args below meth c H locs cells slots Q (F0 m (pc + 3) ls (v :: rest))) : W p l e R s m args below meth c H locs cells slots Q (F0 m pc ls (.ref a :: rest)) :=
  z_get (C := RX1) (T := TX1) (N := 7) (k := 5) X Z in_X1 rfl (Nat.le_of_ble_eq_true rfl) (by decide +kernel) (zAll_of (zTb 42 (by decide +kernel)) (by decide +kernel)) q0 he hv hdg kk
theorem zp_X1_36 {p : Program} {l : Launch} {e : Env} {R : Room} {s : State} {m : MethodId} {args : Array Value} {below : List Frame} {meth : Method} {c : Code} {H : Heap} {locs : List Loc} {cells slots : Nat} {Q : State → Prop} {cc : ByteArray} {nL : Nat} {D : va_G} {cI cR : ClassId} {A : Nat → Prop} {bs : zB} {pc : Nat} {ls : Array Slot} {rest : List Value} {a : Nat} {fs : List Value} {v : Int32} (X : zX p s m c cc nL args RX1 D cI cR A) (Z : zW D A s bs H locs) (q0 : Nat) (he : (bl bs)[q0]? = some (a, .inr (1, fs))) (hl : 5 < fs.length) (bs' : zB) (hb : (bl bs).set q0 (a, .inr (1, fs.set 5 (.int v))) = bl bs') (hdg : decode cc pc = .ok (.putfield 36, 3)) (kk : ∀ (H1 : Heap) (locs1 : List Loc), zW D A s bs' H1 locs1 → W p l e R s m args below meth c H1 locs1 cells slots Q (F0 m (pc + 3) ls rest)) : W p l e R s m args below meth c H locs cells slots Q (F0 m pc ls (.int v :: .ref a :: rest)) :=
  z_put (C := RX1) (T := TX1) (N := 7) (k := 5) (ty := .int) tyX1 X Z in_X1 tyX1_ok nmX1 rfl (Nat.le_of_ble_eq_true rfl) (by decide +kernel) (by decide +kernel) (by decide +kernel) (zAll_of (zTb 42 (by decide +kernel)) (by decide +kernel)) rfl rfl q0 he hl bs' hb hdg kk
theorem zg_X4_65 {p : Program} {l : Launch} {e : Env} {R : Room} {s : State} {m : MethodId} {args : Array Value} {below : List Frame} {meth : Method} {c : Code} {H : Heap} {locs : List Loc} {cells slots : Nat} {Q : State → Prop} {cc : ByteArray} {nL : Nat} {D : va_G} {cI cR : ClassId} {A : Nat → Prop} {bs : zB} {pc : Nat} {ls : Array Slot} {rest : List Value} {a : Nat} {fs : List Value} {v : Value} (X : zX p s m c cc nL args RX4 D cI cR A) (Z : zW D A s bs H locs) (q0 : Nat) (he : (bl bs)[q0]? = some (a, .inr (1, fs))) (hv : fs[5]? = some v) (hdg : decode cc pc = .ok (.getfield 65, 3)) (kk : W p l e R s m args below meth c H locs cells slots Q (F0 m (pc + 3) ls (v :: rest))) : W p l e R s m args below meth c H locs cells slots Q (F0 m pc ls (.ref a :: rest)) :=
  z_getN (host := "JugglerStates") (C := RX1) (T := TX1) (N := 7) (k := 5) X Z in_X1 rfl (Nat.le_of_ble_eq_true rfl) (by decide +kernel) (by decide +kernel) q0 he hv hdg kk
theorem zp_X4_65 {p : Program} {l : Launch} {e : Env} {R : Room} {s : State} {m : MethodId} {args : Array Value} {below : List Frame} {meth : Method} {c : Code} {H : Heap} {locs : List Loc} {cells slots : Nat} {Q : State → Prop} {cc : ByteArray} {nL : Nat} {D : va_G} {cI cR : ClassId} {A : Nat → Prop} {bs : zB} {pc : Nat} {ls : Array Slot} {rest : List Value} {a : Nat} {fs : List Value} {v : Int32} (X : zX p s m c cc nL args RX4 D cI cR A) (Z : zW D A s bs H locs) (q0 : Nat) (he : (bl bs)[q0]? = some (a, .inr (1, fs))) (hl : 5 < fs.length) (bs' : zB) (hb : (bl bs).set q0 (a, .inr (1, fs.set 5 (.int v))) = bl bs') (hdg : decode cc pc = .ok (.putfield 65, 3)) (kk : ∀ (H1 : Heap) (locs1 : List Loc), zW D A s bs' H1 locs1 → W p l e R s m args below meth c H1 locs1 cells slots Q (F0 m (pc + 3) ls rest)) : W p l e R s m args below meth c H locs cells slots Q (F0 m pc ls (.int v :: .ref a :: rest)) :=
  z_putN (host := "JugglerStates") (C := RX1) (T := TX1) (N := 7) (k := 5) (ty := .int) tyX1 X Z in_X1 tyX1_ok nmX1 rfl (Nat.le_of_ble_eq_true rfl) (by decide +kernel) (by decide +kernel) (by decide +kernel) (by decide +kernel) rfl rfl q0 he hl bs' hb hdg kk
theorem zg_X7_131 {p : Program} {l : Launch} {e : Env} {R : Room} {s : State} {m : MethodId} {args : Array Value} {below : List Frame} {meth : Method} {c : Code} {H : Heap} {locs : List Loc} {cells slots : Nat} {Q : State → Prop} {cc : ByteArray} {nL : Nat} {D : va_G} {cI cR : ClassId} {A : Nat → Prop} {bs : zB} {pc : Nat} {ls : Array Slot} {rest : List Value} {a : Nat} {fs : List Value} {v : Value} (X : zX p s m c cc nL args RX7 D cI cR A) (Z : zW D A s bs H locs) (q0 : Nat) (he : (bl bs)[q0]? = some (a, .inr (1, fs))) (hv : fs[5]? = some v) (hdg : decode cc pc = .ok (.getfield 131, 3)) (kk : W p l e R s m args below meth c H locs cells slots Q (F0 m (pc + 3) ls (v :: rest))) : W p l e R s m args below meth c H locs cells slots Q (F0 m pc ls (.ref a :: rest)) :=
  z_getN (host := "JugglerStates") (C := RX1) (T := TX1) (N := 7) (k := 5) X Z in_X1 rfl (Nat.le_of_ble_eq_true rfl) (by decide +kernel) (by decide +kernel) q0 he hv hdg kk
theorem zp_X7_131 {p : Program} {l : Launch} {e : Env} {R : Room} {s : State} {m : MethodId} {args : Array Value} {below : List Frame} {meth : Method} {c : Code} {H : Heap} {locs : List Loc} {cells slots : Nat} {Q : State → Prop} {cc : ByteArray} {nL : Nat} {D : va_G} {cI cR : ClassId} {A : Nat → Prop} {bs : zB} {pc : Nat} {ls : Array Slot} {rest : List Value} {a : Nat} {fs : List Value} {v : Int32} (X : zX p s m c cc nL args RX7 D cI cR A) (Z : zW D A s bs H locs) (q0 : Nat) (he : (bl bs)[q0]? = some (a, .inr (1, fs))) (hl : 5 < fs.length) (bs' : zB) (hb : (bl bs).set q0 (a, .inr (1, fs.set 5 (.int v))) = bl bs') (hdg : decode cc pc = .ok (.putfield 131, 3)) (kk : ∀ (H1 : Heap) (locs1 : List Loc), zW D A s bs' H1 locs1 → W p l e R s m args below meth c H1 locs1 cells slots Q (F0 m (pc + 3) ls rest)) : W p l e R s m args below meth c H locs cells slots Q (F0 m pc ls (.int v :: .ref a :: rest)) :=
  z_putN (host := "JugglerStates") (C := RX1) (T := TX1) (N := 7) (k := 5) (ty := .int) tyX1 X Z in_X1 tyX1_ok nmX1 rfl (Nat.le_of_ble_eq_true rfl) (by decide +kernel) (by decide +kernel) (by decide +kernel) (by decide +kernel) rfl rfl q0 he hl bs' hb hdg kk
theorem zg_X1_39 {p : Program} {l : Launch} {e : Env} {R : Room} {s : State} {m : MethodId} {args : Array Value} {below : List Frame} {meth : Method} {c : Code} {H : Heap} {locs : List Loc} {cells slots : Nat} {Q : State → Prop} {cc : ByteArray} {nL : Nat} {D : va_G} {cI cR : ClassId} {A : Nat → Prop} {bs : zB} {pc : Nat} {ls : Array Slot} {rest : List Value} {a : Nat} {fs : List Value} {v : Value} (X : zX p s m c cc nL args RX1 D cI cR A) (Z : zW D A s bs H locs) (q0 : Nat) (he : (bl bs)[q0]? = some (a, .inr (1, fs))) (hv : fs[6]? = some v) (hdg : decode cc pc = .ok (.getfield 39, 3)) (kk : W p l e R s m args below meth c H locs cells slots Q (F0 m (pc + 3) ls (v :: rest))) : W p l e R s m args below meth c H locs cells slots Q (F0 m pc ls (.ref a :: rest)) :=
  z_get (C := RX1) (T := TX1) (N := 7) (k := 6) X Z in_X1 rfl (Nat.le_of_ble_eq_true rfl) (by decide +kernel) (zAll_of (zTb 45 (by decide +kernel)) (by decide +kernel)) q0 he hv hdg kk
theorem zp_X1_39 {p : Program} {l : Launch} {e : Env} {R : Room} {s : State} {m : MethodId} {args : Array Value} {below : List Frame} {meth : Method} {c : Code} {H : Heap} {locs : List Loc} {cells slots : Nat} {Q : State → Prop} {cc : ByteArray} {nL : Nat} {D : va_G} {cI cR : ClassId} {A : Nat → Prop} {bs : zB} {pc : Nat} {ls : Array Slot} {rest : List Value} {a : Nat} {fs : List Value} {v : Int32} (X : zX p s m c cc nL args RX1 D cI cR A) (Z : zW D A s bs H locs) (q0 : Nat) (he : (bl bs)[q0]? = some (a, .inr (1, fs))) (hl : 6 < fs.length) (bs' : zB) (hb : (bl bs).set q0 (a, .inr (1, fs.set 6 (.int v))) = bl bs') (hdg : decode cc pc = .ok (.putfield 39, 3)) (kk : ∀ (H1 : Heap) (locs1 : List Loc), zW D A s bs' H1 locs1 → W p l e R s m args below meth c H1 locs1 cells slots Q (F0 m (pc + 3) ls rest)) : W p l e R s m args below meth c H locs cells slots Q (F0 m pc ls (.int v :: .ref a :: rest)) :=
  z_put (C := RX1) (T := TX1) (N := 7) (k := 6) (ty := .int) tyX1 X Z in_X1 tyX1_ok nmX1 rfl (Nat.le_of_ble_eq_true rfl) (by decide +kernel) (by decide +kernel) (by decide +kernel) (zAll_of (zTb 45 (by decide +kernel)) (by decide +kernel)) rfl rfl q0 he hl bs' hb hdg kk
theorem zg_X7_134 {p : Program} {l : Launch} {e : Env} {R : Room} {s : State} {m : MethodId} {args : Array Value} {below : List Frame} {meth : Method} {c : Code} {H : Heap} {locs : List Loc} {cells slots : Nat} {Q : State → Prop} {cc : ByteArray} {nL : Nat} {D : va_G} {cI cR : ClassId} {A : Nat → Prop} {bs : zB} {pc : Nat} {ls : Array Slot} {rest : List Value} {a : Nat} {fs : List Value} {v : Value} (X : zX p s m c cc nL args RX7 D cI cR A) (Z : zW D A s bs H locs) (q0 : Nat) (he : (bl bs)[q0]? = some (a, .inr (1, fs))) (hv : fs[6]? = some v) (hdg : decode cc pc = .ok (.getfield 134, 3)) (kk : W p l e R s m args below meth c H locs cells slots Q (F0 m (pc + 3) ls (v :: rest))) : W p l e R s m args below meth c H locs cells slots Q (F0 m pc ls (.ref a :: rest)) :=
  z_getN (host := "JugglerStates") (C := RX1) (T := TX1) (N := 7) (k := 6) X Z in_X1 rfl (Nat.le_of_ble_eq_true rfl) (by decide +kernel) (by decide +kernel) q0 he hv hdg kk
theorem zp_X7_134 {p : Program} {l : Launch} {e : Env} {R : Room} {s : State} {m : MethodId} {args : Array Value} {below : List Frame} {meth : Method} {c : Code} {H : Heap} {locs : List Loc} {cells slots : Nat} {Q : State → Prop} {cc : ByteArray} {nL : Nat} {D : va_G} {cI cR : ClassId} {A : Nat → Prop} {bs : zB} {pc : Nat} {ls : Array Slot} {rest : List Value} {a : Nat} {fs : List Value} {v : Int32} (X : zX p s m c cc nL args RX7 D cI cR A) (Z : zW D A s bs H locs) (q0 : Nat) (he : (bl bs)[q0]? = some (a, .inr (1, fs))) (hl : 6 < fs.length) (bs' : zB) (hb : (bl bs).set q0 (a, .inr (1, fs.set 6 (.int v))) = bl bs') (hdg : decode cc pc = .ok (.putfield 134, 3)) (kk : ∀ (H1 : Heap) (locs1 : List Loc), zW D A s bs' H1 locs1 → W p l e R s m args below meth c H1 locs1 cells slots Q (F0 m (pc + 3) ls rest)) : W p l e R s m args below meth c H locs cells slots Q (F0 m pc ls (.int v :: .ref a :: rest)) :=
  z_putN (host := "JugglerStates") (C := RX1) (T := TX1) (N := 7) (k := 6) (ty := .int) tyX1 X Z in_X1 tyX1_ok nmX1 rfl (Nat.le_of_ble_eq_true rfl) (by decide +kernel) (by decide +kernel) (by decide +kernel) (by decide +kernel) rfl rfl q0 he hl bs' hb hdg kk
theorem zg_X4_68 {p : Program} {l : Launch} {e : Env} {R : Room} {s : State} {m : MethodId} {args : Array Value} {below : List Frame} {meth : Method} {c : Code} {H : Heap} {locs : List Loc} {cells slots : Nat} {Q : State → Prop} {cc : ByteArray} {nL : Nat} {D : va_G} {cI cR : ClassId} {A : Nat → Prop} {bs : zB} {pc : Nat} {ls : Array Slot} {rest : List Value} {a : Nat} {fs : List Value} {v : Value} (X : zX p s m c cc nL args RX4 D cI cR A) (Z : zW D A s bs H locs) (q0 : Nat) (he : (bl bs)[q0]? = some (a, .inr (1, fs))) (hv : fs[6]? = some v) (hdg : decode cc pc = .ok (.getfield 68, 3)) (kk : W p l e R s m args below meth c H locs cells slots Q (F0 m (pc + 3) ls (v :: rest))) : W p l e R s m args below meth c H locs cells slots Q (F0 m pc ls (.ref a :: rest)) :=
  z_getN (host := "JugglerStates") (C := RX1) (T := TX1) (N := 7) (k := 6) X Z in_X1 rfl (Nat.le_of_ble_eq_true rfl) (by decide +kernel) (by decide +kernel) q0 he hv hdg kk
theorem zp_X4_68 {p : Program} {l : Launch} {e : Env} {R : Room} {s : State} {m : MethodId} {args : Array Value} {below : List Frame} {meth : Method} {c : Code} {H : Heap} {locs : List Loc} {cells slots : Nat} {Q : State → Prop} {cc : ByteArray} {nL : Nat} {D : va_G} {cI cR : ClassId} {A : Nat → Prop} {bs : zB} {pc : Nat} {ls : Array Slot} {rest : List Value} {a : Nat} {fs : List Value} {v : Int32} (X : zX p s m c cc nL args RX4 D cI cR A) (Z : zW D A s bs H locs) (q0 : Nat) (he : (bl bs)[q0]? = some (a, .inr (1, fs))) (hl : 6 < fs.length) (bs' : zB) (hb : (bl bs).set q0 (a, .inr (1, fs.set 6 (.int v))) = bl bs') (hdg : decode cc pc = .ok (.putfield 68, 3)) (kk : ∀ (H1 : Heap) (locs1 : List Loc), zW D A s bs' H1 locs1 → W p l e R s m args below meth c H1 locs1 cells slots Q (F0 m (pc + 3) ls rest)) : W p l e R s m args below meth c H locs cells slots Q (F0 m pc ls (.int v :: .ref a :: rest)) :=
  z_putN (host := "JugglerStates") (C := RX1) (T := TX1) (N := 7) (k := 6) (ty := .int) tyX1 X Z in_X1 tyX1_ok nmX1 rfl (Nat.le_of_ble_eq_true rfl) (by decide +kernel) (by decide +kernel) (by decide +kernel) (by decide +kernel) rfl rfl q0 he hl bs' hb hdg kk
theorem zg_X4_10 {p : Program} {l : Launch} {e : Env} {R : Room} {s : State} {m : MethodId} {args : Array Value} {below : List Frame} {meth : Method} {c : Code} {H : Heap} {locs : List Loc} {cells slots : Nat} {Q : State → Prop} {cc : ByteArray} {nL : Nat} {D : va_G} {cI cR : ClassId} {A : Nat → Prop} {bs : zB} {pc : Nat} {ls : Array Slot} {rest : List Value} {a : Nat} {fs : List Value} {v : Value} (X : zX p s m c cc nL args RX4 D cI cR A) (Z : zW D A s bs H locs) (q0 : Nat) (he : (bl bs)[q0]? = some (a, .inr (4, fs))) (hv : fs[0]? = some v) (hdg : decode cc pc = .ok (.getfield 10, 3)) (kk : W p l e R s m args below meth c H locs cells slots Q (F0 m (pc + 3) ls (v :: rest))) : W p l e R s m args below meth c H locs cells slots Q (F0 m pc ls (.ref a :: rest)) :=
  z_get (C := RX4) (T := TX4) (N := 6) (k := 0) X Z in_X4 rfl (Nat.le_of_ble_eq_true rfl) (by decide +kernel) (zAll_of (zTb 64 (by decide +kernel)) (by decide +kernel)) q0 he hv hdg kk
theorem zg_X4_16 {p : Program} {l : Launch} {e : Env} {R : Room} {s : State} {m : MethodId} {args : Array Value} {below : List Frame} {meth : Method} {c : Code} {H : Heap} {locs : List Loc} {cells slots : Nat} {Q : State → Prop} {cc : ByteArray} {nL : Nat} {D : va_G} {cI cR : ClassId} {A : Nat → Prop} {bs : zB} {pc : Nat} {ls : Array Slot} {rest : List Value} {a : Nat} {fs : List Value} {v : Value} (X : zX p s m c cc nL args RX4 D cI cR A) (Z : zW D A s bs H locs) (q0 : Nat) (he : (bl bs)[q0]? = some (a, .inr (4, fs))) (hv : fs[1]? = some v) (hdg : decode cc pc = .ok (.getfield 16, 3)) (kk : W p l e R s m args below meth c H locs cells slots Q (F0 m (pc + 3) ls (v :: rest))) : W p l e R s m args below meth c H locs cells slots Q (F0 m pc ls (.ref a :: rest)) :=
  z_get (C := RX4) (T := TX4) (N := 6) (k := 1) X Z in_X4 rfl (Nat.le_of_ble_eq_true rfl) (by decide +kernel) (zAll_of (zTb 65 (by decide +kernel)) (by decide +kernel)) q0 he hv hdg kk
theorem zg_X4_23 {p : Program} {l : Launch} {e : Env} {R : Room} {s : State} {m : MethodId} {args : Array Value} {below : List Frame} {meth : Method} {c : Code} {H : Heap} {locs : List Loc} {cells slots : Nat} {Q : State → Prop} {cc : ByteArray} {nL : Nat} {D : va_G} {cI cR : ClassId} {A : Nat → Prop} {bs : zB} {pc : Nat} {ls : Array Slot} {rest : List Value} {a : Nat} {fs : List Value} {v : Value} (X : zX p s m c cc nL args RX4 D cI cR A) (Z : zW D A s bs H locs) (q0 : Nat) (he : (bl bs)[q0]? = some (a, .inr (4, fs))) (hv : fs[2]? = some v) (hdg : decode cc pc = .ok (.getfield 23, 3)) (kk : W p l e R s m args below meth c H locs cells slots Q (F0 m (pc + 3) ls (v :: rest))) : W p l e R s m args below meth c H locs cells slots Q (F0 m pc ls (.ref a :: rest)) :=
  z_get (C := RX4) (T := TX4) (N := 6) (k := 2) X Z in_X4 rfl (Nat.le_of_ble_eq_true rfl) (by decide +kernel) (zAll_of (zTb 66 (by decide +kernel)) (by decide +kernel)) q0 he hv hdg kk
theorem zp_X4_23 {p : Program} {l : Launch} {e : Env} {R : Room} {s : State} {m : MethodId} {args : Array Value} {below : List Frame} {meth : Method} {c : Code} {H : Heap} {locs : List Loc} {cells slots : Nat} {Q : State → Prop} {cc : ByteArray} {nL : Nat} {D : va_G} {cI cR : ClassId} {A : Nat → Prop} {bs : zB} {pc : Nat} {ls : Array Slot} {rest : List Value} {a : Nat} {fs : List Value} {v : Int32} (X : zX p s m c cc nL args RX4 D cI cR A) (Z : zW D A s bs H locs) (q0 : Nat) (he : (bl bs)[q0]? = some (a, .inr (4, fs))) (hl : 2 < fs.length) (bs' : zB) (hb : (bl bs).set q0 (a, .inr (4, fs.set 2 (.int v))) = bl bs') (hdg : decode cc pc = .ok (.putfield 23, 3)) (kk : ∀ (H1 : Heap) (locs1 : List Loc), zW D A s bs' H1 locs1 → W p l e R s m args below meth c H1 locs1 cells slots Q (F0 m (pc + 3) ls rest)) : W p l e R s m args below meth c H locs cells slots Q (F0 m pc ls (.int v :: .ref a :: rest)) :=
  z_put (C := RX4) (T := TX4) (N := 6) (k := 2) (ty := .int) tyX4 X Z in_X4 tyX4_ok nmX4 rfl (Nat.le_of_ble_eq_true rfl) (by decide +kernel) (by decide +kernel) (by decide +kernel) (zAll_of (zTb 66 (by decide +kernel)) (by decide +kernel)) rfl rfl q0 he hl bs' hb hdg kk
theorem zg_X7_115 {p : Program} {l : Launch} {e : Env} {R : Room} {s : State} {m : MethodId} {args : Array Value} {below : List Frame} {meth : Method} {c : Code} {H : Heap} {locs : List Loc} {cells slots : Nat} {Q : State → Prop} {cc : ByteArray} {nL : Nat} {D : va_G} {cI cR : ClassId} {A : Nat → Prop} {bs : zB} {pc : Nat} {ls : Array Slot} {rest : List Value} {a : Nat} {fs : List Value} {v : Value} (X : zX p s m c cc nL args RX7 D cI cR A) (Z : zW D A s bs H locs) (q0 : Nat) (he : (bl bs)[q0]? = some (a, .inr (4, fs))) (hv : fs[2]? = some v) (hdg : decode cc pc = .ok (.getfield 115, 3)) (kk : W p l e R s m args below meth c H locs cells slots Q (F0 m (pc + 3) ls (v :: rest))) : W p l e R s m args below meth c H locs cells slots Q (F0 m pc ls (.ref a :: rest)) :=
  z_getN (host := "JugglerStates") (C := RX4) (T := TX4) (N := 6) (k := 2) X Z in_X4 rfl (Nat.le_of_ble_eq_true rfl) (by decide +kernel) (by decide +kernel) q0 he hv hdg kk
theorem zp_X7_115 {p : Program} {l : Launch} {e : Env} {R : Room} {s : State} {m : MethodId} {args : Array Value} {below : List Frame} {meth : Method} {c : Code} {H : Heap} {locs : List Loc} {cells slots : Nat} {Q : State → Prop} {cc : ByteArray} {nL : Nat} {D : va_G} {cI cR : ClassId} {A : Nat → Prop} {bs : zB} {pc : Nat} {ls : Array Slot} {rest : List Value} {a : Nat} {fs : List Value} {v : Int32} (X : zX p s m c cc nL args RX7 D cI cR A) (Z : zW D A s bs H locs) (q0 : Nat) (he : (bl bs)[q0]? = some (a, .inr (4, fs))) (hl : 2 < fs.length) (bs' : zB) (hb : (bl bs).set q0 (a, .inr (4, fs.set 2 (.int v))) = bl bs') (hdg : decode cc pc = .ok (.putfield 115, 3)) (kk : ∀ (H1 : Heap) (locs1 : List Loc), zW D A s bs' H1 locs1 → W p l e R s m args below meth c H1 locs1 cells slots Q (F0 m (pc + 3) ls rest)) : W p l e R s m args below meth c H locs cells slots Q (F0 m pc ls (.int v :: .ref a :: rest)) :=
  z_putN (host := "JugglerStates") (C := RX4) (T := TX4) (N := 6) (k := 2) (ty := .int) tyX4 X Z in_X4 tyX4_ok nmX4 rfl (Nat.le_of_ble_eq_true rfl) (by decide +kernel) (by decide +kernel) (by decide +kernel) (by decide +kernel) rfl rfl q0 he hl bs' hb hdg kk
theorem zg_X4_27 {p : Program} {l : Launch} {e : Env} {R : Room} {s : State} {m : MethodId} {args : Array Value} {below : List Frame} {meth : Method} {c : Code} {H : Heap} {locs : List Loc} {cells slots : Nat} {Q : State → Prop} {cc : ByteArray} {nL : Nat} {D : va_G} {cI cR : ClassId} {A : Nat → Prop} {bs : zB} {pc : Nat} {ls : Array Slot} {rest : List Value} {a : Nat} {fs : List Value} {v : Value} (X : zX p s m c cc nL args RX4 D cI cR A) (Z : zW D A s bs H locs) (q0 : Nat) (he : (bl bs)[q0]? = some (a, .inr (4, fs))) (hv : fs[3]? = some v) (hdg : decode cc pc = .ok (.getfield 27, 3)) (kk : W p l e R s m args below meth c H locs cells slots Q (F0 m (pc + 3) ls (v :: rest))) : W p l e R s m args below meth c H locs cells slots Q (F0 m pc ls (.ref a :: rest)) :=
  z_get (C := RX4) (T := TX4) (N := 6) (k := 3) X Z in_X4 rfl (Nat.le_of_ble_eq_true rfl) (by decide +kernel) (zAll_of (zTb 68 (by decide +kernel)) (by decide +kernel)) q0 he hv hdg kk
theorem zp_X4_27 {p : Program} {l : Launch} {e : Env} {R : Room} {s : State} {m : MethodId} {args : Array Value} {below : List Frame} {meth : Method} {c : Code} {H : Heap} {locs : List Loc} {cells slots : Nat} {Q : State → Prop} {cc : ByteArray} {nL : Nat} {D : va_G} {cI cR : ClassId} {A : Nat → Prop} {bs : zB} {pc : Nat} {ls : Array Slot} {rest : List Value} {a : Nat} {fs : List Value} {v : Int32} (X : zX p s m c cc nL args RX4 D cI cR A) (Z : zW D A s bs H locs) (q0 : Nat) (he : (bl bs)[q0]? = some (a, .inr (4, fs))) (hl : 3 < fs.length) (bs' : zB) (hb : (bl bs).set q0 (a, .inr (4, fs.set 3 (.int v))) = bl bs') (hdg : decode cc pc = .ok (.putfield 27, 3)) (kk : ∀ (H1 : Heap) (locs1 : List Loc), zW D A s bs' H1 locs1 → W p l e R s m args below meth c H1 locs1 cells slots Q (F0 m (pc + 3) ls rest)) : W p l e R s m args below meth c H locs cells slots Q (F0 m pc ls (.int v :: .ref a :: rest)) :=
  z_put (C := RX4) (T := TX4) (N := 6) (k := 3) (ty := .int) tyX4 X Z in_X4 tyX4_ok nmX4 rfl (Nat.le_of_ble_eq_true rfl) (by decide +kernel) (by decide +kernel) (by decide +kernel) (zAll_of (zTb 68 (by decide +kernel)) (by decide +kernel)) rfl rfl q0 he hl bs' hb hdg kk
theorem zg_X7_93 {p : Program} {l : Launch} {e : Env} {R : Room} {s : State} {m : MethodId} {args : Array Value} {below : List Frame} {meth : Method} {c : Code} {H : Heap} {locs : List Loc} {cells slots : Nat} {Q : State → Prop} {cc : ByteArray} {nL : Nat} {D : va_G} {cI cR : ClassId} {A : Nat → Prop} {bs : zB} {pc : Nat} {ls : Array Slot} {rest : List Value} {a : Nat} {fs : List Value} {v : Value} (X : zX p s m c cc nL args RX7 D cI cR A) (Z : zW D A s bs H locs) (q0 : Nat) (he : (bl bs)[q0]? = some (a, .inr (4, fs))) (hv : fs[3]? = some v) (hdg : decode cc pc = .ok (.getfield 93, 3)) (kk : W p l e R s m args below meth c H locs cells slots Q (F0 m (pc + 3) ls (v :: rest))) : W p l e R s m args below meth c H locs cells slots Q (F0 m pc ls (.ref a :: rest)) :=
  z_getN (host := "JugglerStates") (C := RX4) (T := TX4) (N := 6) (k := 3) X Z in_X4 rfl (Nat.le_of_ble_eq_true rfl) (by decide +kernel) (by decide +kernel) q0 he hv hdg kk
theorem zp_X7_93 {p : Program} {l : Launch} {e : Env} {R : Room} {s : State} {m : MethodId} {args : Array Value} {below : List Frame} {meth : Method} {c : Code} {H : Heap} {locs : List Loc} {cells slots : Nat} {Q : State → Prop} {cc : ByteArray} {nL : Nat} {D : va_G} {cI cR : ClassId} {A : Nat → Prop} {bs : zB} {pc : Nat} {ls : Array Slot} {rest : List Value} {a : Nat} {fs : List Value} {v : Int32} (X : zX p s m c cc nL args RX7 D cI cR A) (Z : zW D A s bs H locs) (q0 : Nat) (he : (bl bs)[q0]? = some (a, .inr (4, fs))) (hl : 3 < fs.length) (bs' : zB) (hb : (bl bs).set q0 (a, .inr (4, fs.set 3 (.int v))) = bl bs') (hdg : decode cc pc = .ok (.putfield 93, 3)) (kk : ∀ (H1 : Heap) (locs1 : List Loc), zW D A s bs' H1 locs1 → W p l e R s m args below meth c H1 locs1 cells slots Q (F0 m (pc + 3) ls rest)) : W p l e R s m args below meth c H locs cells slots Q (F0 m pc ls (.int v :: .ref a :: rest)) :=
  z_putN (host := "JugglerStates") (C := RX4) (T := TX4) (N := 6) (k := 3) (ty := .int) tyX4 X Z in_X4 tyX4_ok nmX4 rfl (Nat.le_of_ble_eq_true rfl) (by decide +kernel) (by decide +kernel) (by decide +kernel) (by decide +kernel) rfl rfl q0 he hl bs' hb hdg kk
theorem zg_X4_30 {p : Program} {l : Launch} {e : Env} {R : Room} {s : State} {m : MethodId} {args : Array Value} {below : List Frame} {meth : Method} {c : Code} {H : Heap} {locs : List Loc} {cells slots : Nat} {Q : State → Prop} {cc : ByteArray} {nL : Nat} {D : va_G} {cI cR : ClassId} {A : Nat → Prop} {bs : zB} {pc : Nat} {ls : Array Slot} {rest : List Value} {a : Nat} {fs : List Value} {v : Value} (X : zX p s m c cc nL args RX4 D cI cR A) (Z : zW D A s bs H locs) (q0 : Nat) (he : (bl bs)[q0]? = some (a, .inr (4, fs))) (hv : fs[4]? = some v) (hdg : decode cc pc = .ok (.getfield 30, 3)) (kk : W p l e R s m args below meth c H locs cells slots Q (F0 m (pc + 3) ls (v :: rest))) : W p l e R s m args below meth c H locs cells slots Q (F0 m pc ls (.ref a :: rest)) :=
  z_get (C := RX4) (T := TX4) (N := 6) (k := 4) X Z in_X4 rfl (Nat.le_of_ble_eq_true rfl) (by decide +kernel) (zAll_of (zTb 70 (by decide +kernel)) (by decide +kernel)) q0 he hv hdg kk
theorem zp_X4_30 {p : Program} {l : Launch} {e : Env} {R : Room} {s : State} {m : MethodId} {args : Array Value} {below : List Frame} {meth : Method} {c : Code} {H : Heap} {locs : List Loc} {cells slots : Nat} {Q : State → Prop} {cc : ByteArray} {nL : Nat} {D : va_G} {cI cR : ClassId} {A : Nat → Prop} {bs : zB} {pc : Nat} {ls : Array Slot} {rest : List Value} {a : Nat} {fs : List Value} {v : Int32} (X : zX p s m c cc nL args RX4 D cI cR A) (Z : zW D A s bs H locs) (q0 : Nat) (he : (bl bs)[q0]? = some (a, .inr (4, fs))) (hl : 4 < fs.length) (bs' : zB) (hb : (bl bs).set q0 (a, .inr (4, fs.set 4 (.int v))) = bl bs') (hdg : decode cc pc = .ok (.putfield 30, 3)) (kk : ∀ (H1 : Heap) (locs1 : List Loc), zW D A s bs' H1 locs1 → W p l e R s m args below meth c H1 locs1 cells slots Q (F0 m (pc + 3) ls rest)) : W p l e R s m args below meth c H locs cells slots Q (F0 m pc ls (.int v :: .ref a :: rest)) :=
  z_put (C := RX4) (T := TX4) (N := 6) (k := 4) (ty := .int) tyX4 X Z in_X4 tyX4_ok nmX4 rfl (Nat.le_of_ble_eq_true rfl) (by decide +kernel) (by decide +kernel) (by decide +kernel) (zAll_of (zTb 70 (by decide +kernel)) (by decide +kernel)) rfl rfl q0 he hl bs' hb hdg kk
theorem zg_X7_147 {p : Program} {l : Launch} {e : Env} {R : Room} {s : State} {m : MethodId} {args : Array Value} {below : List Frame} {meth : Method} {c : Code} {H : Heap} {locs : List Loc} {cells slots : Nat} {Q : State → Prop} {cc : ByteArray} {nL : Nat} {D : va_G} {cI cR : ClassId} {A : Nat → Prop} {bs : zB} {pc : Nat} {ls : Array Slot} {rest : List Value} {a : Nat} {fs : List Value} {v : Value} (X : zX p s m c cc nL args RX7 D cI cR A) (Z : zW D A s bs H locs) (q0 : Nat) (he : (bl bs)[q0]? = some (a, .inr (4, fs))) (hv : fs[4]? = some v) (hdg : decode cc pc = .ok (.getfield 147, 3)) (kk : W p l e R s m args below meth c H locs cells slots Q (F0 m (pc + 3) ls (v :: rest))) : W p l e R s m args below meth c H locs cells slots Q (F0 m pc ls (.ref a :: rest)) :=
  z_getN (host := "JugglerStates") (C := RX4) (T := TX4) (N := 6) (k := 4) X Z in_X4 rfl (Nat.le_of_ble_eq_true rfl) (by decide +kernel) (by decide +kernel) q0 he hv hdg kk
theorem zp_X7_147 {p : Program} {l : Launch} {e : Env} {R : Room} {s : State} {m : MethodId} {args : Array Value} {below : List Frame} {meth : Method} {c : Code} {H : Heap} {locs : List Loc} {cells slots : Nat} {Q : State → Prop} {cc : ByteArray} {nL : Nat} {D : va_G} {cI cR : ClassId} {A : Nat → Prop} {bs : zB} {pc : Nat} {ls : Array Slot} {rest : List Value} {a : Nat} {fs : List Value} {v : Int32} (X : zX p s m c cc nL args RX7 D cI cR A) (Z : zW D A s bs H locs) (q0 : Nat) (he : (bl bs)[q0]? = some (a, .inr (4, fs))) (hl : 4 < fs.length) (bs' : zB) (hb : (bl bs).set q0 (a, .inr (4, fs.set 4 (.int v))) = bl bs') (hdg : decode cc pc = .ok (.putfield 147, 3)) (kk : ∀ (H1 : Heap) (locs1 : List Loc), zW D A s bs' H1 locs1 → W p l e R s m args below meth c H1 locs1 cells slots Q (F0 m (pc + 3) ls rest)) : W p l e R s m args below meth c H locs cells slots Q (F0 m pc ls (.int v :: .ref a :: rest)) :=
  z_putN (host := "JugglerStates") (C := RX4) (T := TX4) (N := 6) (k := 4) (ty := .int) tyX4 X Z in_X4 tyX4_ok nmX4 rfl (Nat.le_of_ble_eq_true rfl) (by decide +kernel) (by decide +kernel) (by decide +kernel) (by decide +kernel) rfl rfl q0 he hl bs' hb hdg kk
theorem zg_X4_33 {p : Program} {l : Launch} {e : Env} {R : Room} {s : State} {m : MethodId} {args : Array Value} {below : List Frame} {meth : Method} {c : Code} {H : Heap} {locs : List Loc} {cells slots : Nat} {Q : State → Prop} {cc : ByteArray} {nL : Nat} {D : va_G} {cI cR : ClassId} {A : Nat → Prop} {bs : zB} {pc : Nat} {ls : Array Slot} {rest : List Value} {a : Nat} {fs : List Value} {v : Value} (X : zX p s m c cc nL args RX4 D cI cR A) (Z : zW D A s bs H locs) (q0 : Nat) (he : (bl bs)[q0]? = some (a, .inr (4, fs))) (hv : fs[5]? = some v) (hdg : decode cc pc = .ok (.getfield 33, 3)) (kk : W p l e R s m args below meth c H locs cells slots Q (F0 m (pc + 3) ls (v :: rest))) : W p l e R s m args below meth c H locs cells slots Q (F0 m pc ls (.ref a :: rest)) :=
  z_get (C := RX4) (T := TX4) (N := 6) (k := 5) X Z in_X4 rfl (Nat.le_of_ble_eq_true rfl) (by decide +kernel) (zAll_of (zTb 72 (by decide +kernel)) (by decide +kernel)) q0 he hv hdg kk
theorem zp_X4_33 {p : Program} {l : Launch} {e : Env} {R : Room} {s : State} {m : MethodId} {args : Array Value} {below : List Frame} {meth : Method} {c : Code} {H : Heap} {locs : List Loc} {cells slots : Nat} {Q : State → Prop} {cc : ByteArray} {nL : Nat} {D : va_G} {cI cR : ClassId} {A : Nat → Prop} {bs : zB} {pc : Nat} {ls : Array Slot} {rest : List Value} {a : Nat} {fs : List Value} {v : Int32} (X : zX p s m c cc nL args RX4 D cI cR A) (Z : zW D A s bs H locs) (q0 : Nat) (he : (bl bs)[q0]? = some (a, .inr (4, fs))) (hl : 5 < fs.length) (bs' : zB) (hb : (bl bs).set q0 (a, .inr (4, fs.set 5 (.int v))) = bl bs') (hdg : decode cc pc = .ok (.putfield 33, 3)) (kk : ∀ (H1 : Heap) (locs1 : List Loc), zW D A s bs' H1 locs1 → W p l e R s m args below meth c H1 locs1 cells slots Q (F0 m (pc + 3) ls rest)) : W p l e R s m args below meth c H locs cells slots Q (F0 m pc ls (.int v :: .ref a :: rest)) :=
  z_put (C := RX4) (T := TX4) (N := 6) (k := 5) (ty := .int) tyX4 X Z in_X4 tyX4_ok nmX4 rfl (Nat.le_of_ble_eq_true rfl) (by decide +kernel) (by decide +kernel) (by decide +kernel) (zAll_of (zTb 72 (by decide +kernel)) (by decide +kernel)) rfl rfl q0 he hl bs' hb hdg kk
theorem zg_X7_150 {p : Program} {l : Launch} {e : Env} {R : Room} {s : State} {m : MethodId} {args : Array Value} {below : List Frame} {meth : Method} {c : Code} {H : Heap} {locs : List Loc} {cells slots : Nat} {Q : State → Prop} {cc : ByteArray} {nL : Nat} {D : va_G} {cI cR : ClassId} {A : Nat → Prop} {bs : zB} {pc : Nat} {ls : Array Slot} {rest : List Value} {a : Nat} {fs : List Value} {v : Value} (X : zX p s m c cc nL args RX7 D cI cR A) (Z : zW D A s bs H locs) (q0 : Nat) (he : (bl bs)[q0]? = some (a, .inr (4, fs))) (hv : fs[5]? = some v) (hdg : decode cc pc = .ok (.getfield 150, 3)) (kk : W p l e R s m args below meth c H locs cells slots Q (F0 m (pc + 3) ls (v :: rest))) : W p l e R s m args below meth c H locs cells slots Q (F0 m pc ls (.ref a :: rest)) :=
  z_getN (host := "JugglerStates") (C := RX4) (T := TX4) (N := 6) (k := 5) X Z in_X4 rfl (Nat.le_of_ble_eq_true rfl) (by decide +kernel) (by decide +kernel) q0 he hv hdg kk
theorem zp_X7_150 {p : Program} {l : Launch} {e : Env} {R : Room} {s : State} {m : MethodId} {args : Array Value} {below : List Frame} {meth : Method} {c : Code} {H : Heap} {locs : List Loc} {cells slots : Nat} {Q : State → Prop} {cc : ByteArray} {nL : Nat} {D : va_G} {cI cR : ClassId} {A : Nat → Prop} {bs : zB} {pc : Nat} {ls : Array Slot} {rest : List Value} {a : Nat} {fs : List Value} {v : Int32} (X : zX p s m c cc nL args RX7 D cI cR A) (Z : zW D A s bs H locs) (q0 : Nat) (he : (bl bs)[q0]? = some (a, .inr (4, fs))) (hl : 5 < fs.length) (bs' : zB) (hb : (bl bs).set q0 (a, .inr (4, fs.set 5 (.int v))) = bl bs') (hdg : decode cc pc = .ok (.putfield 150, 3)) (kk : ∀ (H1 : Heap) (locs1 : List Loc), zW D A s bs' H1 locs1 → W p l e R s m args below meth c H1 locs1 cells slots Q (F0 m (pc + 3) ls rest)) : W p l e R s m args below meth c H locs cells slots Q (F0 m pc ls (.int v :: .ref a :: rest)) :=
  z_putN (host := "JugglerStates") (C := RX4) (T := TX4) (N := 6) (k := 5) (ty := .int) tyX4 X Z in_X4 tyX4_ok nmX4 rfl (Nat.le_of_ble_eq_true rfl) (by decide +kernel) (by decide +kernel) (by decide +kernel) (by decide +kernel) rfl rfl q0 he hl bs' hb hdg kk
theorem zg_X2_9 {p : Program} {l : Launch} {e : Env} {R : Room} {s : State} {m : MethodId} {args : Array Value} {below : List Frame} {meth : Method} {c : Code} {H : Heap} {locs : List Loc} {cells slots : Nat} {Q : State → Prop} {cc : ByteArray} {nL : Nat} {D : va_G} {cI cR : ClassId} {A : Nat → Prop} {bs : zB} {pc : Nat} {ls : Array Slot} {rest : List Value} {a : Nat} {fs : List Value} {v : Value} (X : zX p s m c cc nL args RX2 D cI cR A) (Z : zW D A s bs H locs) (q0 : Nat) (he : (bl bs)[q0]? = some (a, .inr (2, fs))) (hv : fs[0]? = some v) (hdg : decode cc pc = .ok (.getfield 9, 3)) (kk : W p l e R s m args below meth c H locs cells slots Q (F0 m (pc + 3) ls (v :: rest))) : W p l e R s m args below meth c H locs cells slots Q (F0 m pc ls (.ref a :: rest)) :=
  z_get (C := RX2) (T := TX2) (N := 2) (k := 0) X Z in_X2 rfl (Nat.le_of_ble_eq_true rfl) (by decide +kernel) (zAll_of (zTb 93 (by decide +kernel)) (by decide +kernel)) q0 he hv hdg kk
theorem zg_X3_15 {p : Program} {l : Launch} {e : Env} {R : Room} {s : State} {m : MethodId} {args : Array Value} {below : List Frame} {meth : Method} {c : Code} {H : Heap} {locs : List Loc} {cells slots : Nat} {Q : State → Prop} {cc : ByteArray} {nL : Nat} {D : va_G} {cI cR : ClassId} {A : Nat → Prop} {bs : zB} {pc : Nat} {ls : Array Slot} {rest : List Value} {a : Nat} {fs : List Value} {v : Value} (X : zX p s m c cc nL args RX3 D cI cR A) (Z : zW D A s bs H locs) (q0 : Nat) (he : (bl bs)[q0]? = some (a, .inr (2, fs))) (hv : fs[1]? = some v) (hdg : decode cc pc = .ok (.getfield 15, 3)) (kk : W p l e R s m args below meth c H locs cells slots Q (F0 m (pc + 3) ls (v :: rest))) : W p l e R s m args below meth c H locs cells slots Q (F0 m pc ls (.ref a :: rest)) :=
  z_getN (host := "JugglerStates") (C := RX2) (T := TX2) (N := 2) (k := 1) X Z in_X2 rfl (Nat.le_of_ble_eq_true rfl) (by decide +kernel) (by decide +kernel) q0 he hv hdg kk
theorem zp_X3_15 {p : Program} {l : Launch} {e : Env} {R : Room} {s : State} {m : MethodId} {args : Array Value} {below : List Frame} {meth : Method} {c : Code} {H : Heap} {locs : List Loc} {cells slots : Nat} {Q : State → Prop} {cc : ByteArray} {nL : Nat} {D : va_G} {cI cR : ClassId} {A : Nat → Prop} {bs : zB} {pc : Nat} {ls : Array Slot} {rest : List Value} {a : Nat} {fs : List Value} {v : Int32} (X : zX p s m c cc nL args RX3 D cI cR A) (Z : zW D A s bs H locs) (q0 : Nat) (he : (bl bs)[q0]? = some (a, .inr (2, fs))) (hl : 1 < fs.length) (bs' : zB) (hb : (bl bs).set q0 (a, .inr (2, fs.set 1 (.int v))) = bl bs') (hdg : decode cc pc = .ok (.putfield 15, 3)) (kk : ∀ (H1 : Heap) (locs1 : List Loc), zW D A s bs' H1 locs1 → W p l e R s m args below meth c H1 locs1 cells slots Q (F0 m (pc + 3) ls rest)) : W p l e R s m args below meth c H locs cells slots Q (F0 m pc ls (.int v :: .ref a :: rest)) :=
  z_putN (host := "JugglerStates") (C := RX2) (T := TX2) (N := 2) (k := 1) (ty := .int) tyX2 X Z in_X2 tyX2_ok nmX2 rfl (Nat.le_of_ble_eq_true rfl) (by decide +kernel) (by decide +kernel) (by decide +kernel) (by decide +kernel) rfl rfl q0 he hl bs' hb hdg kk
theorem zg_X2_15 {p : Program} {l : Launch} {e : Env} {R : Room} {s : State} {m : MethodId} {args : Array Value} {below : List Frame} {meth : Method} {c : Code} {H : Heap} {locs : List Loc} {cells slots : Nat} {Q : State → Prop} {cc : ByteArray} {nL : Nat} {D : va_G} {cI cR : ClassId} {A : Nat → Prop} {bs : zB} {pc : Nat} {ls : Array Slot} {rest : List Value} {a : Nat} {fs : List Value} {v : Value} (X : zX p s m c cc nL args RX2 D cI cR A) (Z : zW D A s bs H locs) (q0 : Nat) (he : (bl bs)[q0]? = some (a, .inr (2, fs))) (hv : fs[1]? = some v) (hdg : decode cc pc = .ok (.getfield 15, 3)) (kk : W p l e R s m args below meth c H locs cells slots Q (F0 m (pc + 3) ls (v :: rest))) : W p l e R s m args below meth c H locs cells slots Q (F0 m pc ls (.ref a :: rest)) :=
  z_get (C := RX2) (T := TX2) (N := 2) (k := 1) X Z in_X2 rfl (Nat.le_of_ble_eq_true rfl) (by decide +kernel) (zAll_of (zTb 95 (by decide +kernel)) (by decide +kernel)) q0 he hv hdg kk
theorem zp_X2_15 {p : Program} {l : Launch} {e : Env} {R : Room} {s : State} {m : MethodId} {args : Array Value} {below : List Frame} {meth : Method} {c : Code} {H : Heap} {locs : List Loc} {cells slots : Nat} {Q : State → Prop} {cc : ByteArray} {nL : Nat} {D : va_G} {cI cR : ClassId} {A : Nat → Prop} {bs : zB} {pc : Nat} {ls : Array Slot} {rest : List Value} {a : Nat} {fs : List Value} {v : Int32} (X : zX p s m c cc nL args RX2 D cI cR A) (Z : zW D A s bs H locs) (q0 : Nat) (he : (bl bs)[q0]? = some (a, .inr (2, fs))) (hl : 1 < fs.length) (bs' : zB) (hb : (bl bs).set q0 (a, .inr (2, fs.set 1 (.int v))) = bl bs') (hdg : decode cc pc = .ok (.putfield 15, 3)) (kk : ∀ (H1 : Heap) (locs1 : List Loc), zW D A s bs' H1 locs1 → W p l e R s m args below meth c H1 locs1 cells slots Q (F0 m (pc + 3) ls rest)) : W p l e R s m args below meth c H locs cells slots Q (F0 m pc ls (.int v :: .ref a :: rest)) :=
  z_put (C := RX2) (T := TX2) (N := 2) (k := 1) (ty := .int) tyX2 X Z in_X2 tyX2_ok nmX2 rfl (Nat.le_of_ble_eq_true rfl) (by decide +kernel) (by decide +kernel) (by decide +kernel) (zAll_of (zTb 95 (by decide +kernel)) (by decide +kernel)) rfl rfl q0 he hl bs' hb hdg kk
theorem zg_X1_47 {p : Program} {l : Launch} {e : Env} {R : Room} {s : State} {m : MethodId} {args : Array Value} {below : List Frame} {meth : Method} {c : Code} {H : Heap} {locs : List Loc} {cells slots : Nat} {Q : State → Prop} {cc : ByteArray} {nL : Nat} {D : va_G} {cI cR : ClassId} {A : Nat → Prop} {bs : zB} {pc : Nat} {ls : Array Slot} {rest : List Value} {a : Nat} {fs : List Value} {v : Value} (X : zX p s m c cc nL args RX1 D cI cR A) (Z : zW D A s bs H locs) (q0 : Nat) (he : (bl bs)[q0]? = some (a, .inr (2, fs))) (hv : fs[1]? = some v) (hdg : decode cc pc = .ok (.getfield 47, 3)) (kk : W p l e R s m args below meth c H locs cells slots Q (F0 m (pc + 3) ls (v :: rest))) : W p l e R s m args below meth c H locs cells slots Q (F0 m pc ls (.ref a :: rest)) :=
  z_getN (host := "JugglerStates") (C := RX2) (T := TX2) (N := 2) (k := 1) X Z in_X2 rfl (Nat.le_of_ble_eq_true rfl) (by decide +kernel) (by decide +kernel) q0 he hv hdg kk
theorem zp_X1_47 {p : Program} {l : Launch} {e : Env} {R : Room} {s : State} {m : MethodId} {args : Array Value} {below : List Frame} {meth : Method} {c : Code} {H : Heap} {locs : List Loc} {cells slots : Nat} {Q : State → Prop} {cc : ByteArray} {nL : Nat} {D : va_G} {cI cR : ClassId} {A : Nat → Prop} {bs : zB} {pc : Nat} {ls : Array Slot} {rest : List Value} {a : Nat} {fs : List Value} {v : Int32} (X : zX p s m c cc nL args RX1 D cI cR A) (Z : zW D A s bs H locs) (q0 : Nat) (he : (bl bs)[q0]? = some (a, .inr (2, fs))) (hl : 1 < fs.length) (bs' : zB) (hb : (bl bs).set q0 (a, .inr (2, fs.set 1 (.int v))) = bl bs') (hdg : decode cc pc = .ok (.putfield 47, 3)) (kk : ∀ (H1 : Heap) (locs1 : List Loc), zW D A s bs' H1 locs1 → W p l e R s m args below meth c H1 locs1 cells slots Q (F0 m (pc + 3) ls rest)) : W p l e R s m args below meth c H locs cells slots Q (F0 m pc ls (.int v :: .ref a :: rest)) :=
  z_putN (host := "JugglerStates") (C := RX2) (T := TX2) (N := 2) (k := 1) (ty := .int) tyX2 X Z in_X2 tyX2_ok nmX2 rfl (Nat.le_of_ble_eq_true rfl) (by decide +kernel) (by decide +kernel) (by decide +kernel) (by decide +kernel) rfl rfl q0 he hl bs' hb hdg kk
theorem zg_X7_153 {p : Program} {l : Launch} {e : Env} {R : Room} {s : State} {m : MethodId} {args : Array Value} {below : List Frame} {meth : Method} {c : Code} {H : Heap} {locs : List Loc} {cells slots : Nat} {Q : State → Prop} {cc : ByteArray} {nL : Nat} {D : va_G} {cI cR : ClassId} {A : Nat → Prop} {bs : zB} {pc : Nat} {ls : Array Slot} {rest : List Value} {a : Nat} {fs : List Value} {v : Value} (X : zX p s m c cc nL args RX7 D cI cR A) (Z : zW D A s bs H locs) (q0 : Nat) (he : (bl bs)[q0]? = some (a, .inr (2, fs))) (hv : fs[1]? = some v) (hdg : decode cc pc = .ok (.getfield 153, 3)) (kk : W p l e R s m args below meth c H locs cells slots Q (F0 m (pc + 3) ls (v :: rest))) : W p l e R s m args below meth c H locs cells slots Q (F0 m pc ls (.ref a :: rest)) :=
  z_getN (host := "JugglerStates") (C := RX2) (T := TX2) (N := 2) (k := 1) X Z in_X2 rfl (Nat.le_of_ble_eq_true rfl) (by decide +kernel) (by decide +kernel) q0 he hv hdg kk
theorem zp_X7_153 {p : Program} {l : Launch} {e : Env} {R : Room} {s : State} {m : MethodId} {args : Array Value} {below : List Frame} {meth : Method} {c : Code} {H : Heap} {locs : List Loc} {cells slots : Nat} {Q : State → Prop} {cc : ByteArray} {nL : Nat} {D : va_G} {cI cR : ClassId} {A : Nat → Prop} {bs : zB} {pc : Nat} {ls : Array Slot} {rest : List Value} {a : Nat} {fs : List Value} {v : Int32} (X : zX p s m c cc nL args RX7 D cI cR A) (Z : zW D A s bs H locs) (q0 : Nat) (he : (bl bs)[q0]? = some (a, .inr (2, fs))) (hl : 1 < fs.length) (bs' : zB) (hb : (bl bs).set q0 (a, .inr (2, fs.set 1 (.int v))) = bl bs') (hdg : decode cc pc = .ok (.putfield 153, 3)) (kk : ∀ (H1 : Heap) (locs1 : List Loc), zW D A s bs' H1 locs1 → W p l e R s m args below meth c H1 locs1 cells slots Q (F0 m (pc + 3) ls rest)) : W p l e R s m args below meth c H locs cells slots Q (F0 m pc ls (.int v :: .ref a :: rest)) :=
  z_putN (host := "JugglerStates") (C := RX2) (T := TX2) (N := 2) (k := 1) (ty := .int) tyX2 X Z in_X2 tyX2_ok nmX2 rfl (Nat.le_of_ble_eq_true rfl) (by decide +kernel) (by decide +kernel) (by decide +kernel) (by decide +kernel) rfl rfl q0 he hl bs' hb hdg kk
theorem zg_X3_9 {p : Program} {l : Launch} {e : Env} {R : Room} {s : State} {m : MethodId} {args : Array Value} {below : List Frame} {meth : Method} {c : Code} {H : Heap} {locs : List Loc} {cells slots : Nat} {Q : State → Prop} {cc : ByteArray} {nL : Nat} {D : va_G} {cI cR : ClassId} {A : Nat → Prop} {bs : zB} {pc : Nat} {ls : Array Slot} {rest : List Value} {a : Nat} {fs : List Value} {v : Value} (X : zX p s m c cc nL args RX3 D cI cR A) (Z : zW D A s bs H locs) (q0 : Nat) (he : (bl bs)[q0]? = some (a, .inr (3, fs))) (hv : fs[0]? = some v) (hdg : decode cc pc = .ok (.getfield 9, 3)) (kk : W p l e R s m args below meth c H locs cells slots Q (F0 m (pc + 3) ls (v :: rest))) : W p l e R s m args below meth c H locs cells slots Q (F0 m pc ls (.ref a :: rest)) :=
  z_get (C := RX3) (T := TX3) (N := 2) (k := 0) X Z in_X3 rfl (Nat.le_of_ble_eq_true rfl) (by decide +kernel) (zAll_of (zTb 109 (by decide +kernel)) (by decide +kernel)) q0 he hv hdg kk
theorem zg_X3_37 {p : Program} {l : Launch} {e : Env} {R : Room} {s : State} {m : MethodId} {args : Array Value} {below : List Frame} {meth : Method} {c : Code} {H : Heap} {locs : List Loc} {cells slots : Nat} {Q : State → Prop} {cc : ByteArray} {nL : Nat} {D : va_G} {cI cR : ClassId} {A : Nat → Prop} {bs : zB} {pc : Nat} {ls : Array Slot} {rest : List Value} {a : Nat} {fs : List Value} {v : Value} (X : zX p s m c cc nL args RX3 D cI cR A) (Z : zW D A s bs H locs) (q0 : Nat) (he : (bl bs)[q0]? = some (a, .inr (3, fs))) (hv : fs[1]? = some v) (hdg : decode cc pc = .ok (.getfield 37, 3)) (kk : W p l e R s m args below meth c H locs cells slots Q (F0 m (pc + 3) ls (v :: rest))) : W p l e R s m args below meth c H locs cells slots Q (F0 m pc ls (.ref a :: rest)) :=
  z_get (C := RX3) (T := TX3) (N := 2) (k := 1) X Z in_X3 rfl (Nat.le_of_ble_eq_true rfl) (by decide +kernel) (zAll_of (zTb 110 (by decide +kernel)) (by decide +kernel)) q0 he hv hdg kk
theorem zp_X3_37 {p : Program} {l : Launch} {e : Env} {R : Room} {s : State} {m : MethodId} {args : Array Value} {below : List Frame} {meth : Method} {c : Code} {H : Heap} {locs : List Loc} {cells slots : Nat} {Q : State → Prop} {cc : ByteArray} {nL : Nat} {D : va_G} {cI cR : ClassId} {A : Nat → Prop} {bs : zB} {pc : Nat} {ls : Array Slot} {rest : List Value} {a : Nat} {fs : List Value} {v : Int32} (X : zX p s m c cc nL args RX3 D cI cR A) (Z : zW D A s bs H locs) (q0 : Nat) (he : (bl bs)[q0]? = some (a, .inr (3, fs))) (hl : 1 < fs.length) (bs' : zB) (hb : (bl bs).set q0 (a, .inr (3, fs.set 1 (.int v))) = bl bs') (hdg : decode cc pc = .ok (.putfield 37, 3)) (kk : ∀ (H1 : Heap) (locs1 : List Loc), zW D A s bs' H1 locs1 → W p l e R s m args below meth c H1 locs1 cells slots Q (F0 m (pc + 3) ls rest)) : W p l e R s m args below meth c H locs cells slots Q (F0 m pc ls (.int v :: .ref a :: rest)) :=
  z_put (C := RX3) (T := TX3) (N := 2) (k := 1) (ty := .int) tyX3 X Z in_X3 tyX3_ok nmX3 rfl (Nat.le_of_ble_eq_true rfl) (by decide +kernel) (by decide +kernel) (by decide +kernel) (zAll_of (zTb 110 (by decide +kernel)) (by decide +kernel)) rfl rfl q0 he hl bs' hb hdg kk
theorem zg_X7_189 {p : Program} {l : Launch} {e : Env} {R : Room} {s : State} {m : MethodId} {args : Array Value} {below : List Frame} {meth : Method} {c : Code} {H : Heap} {locs : List Loc} {cells slots : Nat} {Q : State → Prop} {cc : ByteArray} {nL : Nat} {D : va_G} {cI cR : ClassId} {A : Nat → Prop} {bs : zB} {pc : Nat} {ls : Array Slot} {rest : List Value} {a : Nat} {fs : List Value} {v : Value} (X : zX p s m c cc nL args RX7 D cI cR A) (Z : zW D A s bs H locs) (q0 : Nat) (he : (bl bs)[q0]? = some (a, .inr (3, fs))) (hv : fs[1]? = some v) (hdg : decode cc pc = .ok (.getfield 189, 3)) (kk : W p l e R s m args below meth c H locs cells slots Q (F0 m (pc + 3) ls (v :: rest))) : W p l e R s m args below meth c H locs cells slots Q (F0 m pc ls (.ref a :: rest)) :=
  z_getN (host := "JugglerStates") (C := RX3) (T := TX3) (N := 2) (k := 1) X Z in_X3 rfl (Nat.le_of_ble_eq_true rfl) (by decide +kernel) (by decide +kernel) q0 he hv hdg kk
theorem zp_X7_189 {p : Program} {l : Launch} {e : Env} {R : Room} {s : State} {m : MethodId} {args : Array Value} {below : List Frame} {meth : Method} {c : Code} {H : Heap} {locs : List Loc} {cells slots : Nat} {Q : State → Prop} {cc : ByteArray} {nL : Nat} {D : va_G} {cI cR : ClassId} {A : Nat → Prop} {bs : zB} {pc : Nat} {ls : Array Slot} {rest : List Value} {a : Nat} {fs : List Value} {v : Int32} (X : zX p s m c cc nL args RX7 D cI cR A) (Z : zW D A s bs H locs) (q0 : Nat) (he : (bl bs)[q0]? = some (a, .inr (3, fs))) (hl : 1 < fs.length) (bs' : zB) (hb : (bl bs).set q0 (a, .inr (3, fs.set 1 (.int v))) = bl bs') (hdg : decode cc pc = .ok (.putfield 189, 3)) (kk : ∀ (H1 : Heap) (locs1 : List Loc), zW D A s bs' H1 locs1 → W p l e R s m args below meth c H1 locs1 cells slots Q (F0 m (pc + 3) ls rest)) : W p l e R s m args below meth c H locs cells slots Q (F0 m pc ls (.int v :: .ref a :: rest)) :=
  z_putN (host := "JugglerStates") (C := RX3) (T := TX3) (N := 2) (k := 1) (ty := .int) tyX3 X Z in_X3 tyX3_ok nmX3 rfl (Nat.le_of_ble_eq_true rfl) (by decide +kernel) (by decide +kernel) (by decide +kernel) (by decide +kernel) rfl rfl q0 he hl bs' hb hdg kk
theorem zg_X6_9 {p : Program} {l : Launch} {e : Env} {R : Room} {s : State} {m : MethodId} {args : Array Value} {below : List Frame} {meth : Method} {c : Code} {H : Heap} {locs : List Loc} {cells slots : Nat} {Q : State → Prop} {cc : ByteArray} {nL : Nat} {D : va_G} {cI cR : ClassId} {A : Nat → Prop} {bs : zB} {pc : Nat} {ls : Array Slot} {rest : List Value} {a : Nat} {fs : List Value} {v : Value} (X : zX p s m c cc nL args RX6 D cI cR A) (Z : zW D A s bs H locs) (q0 : Nat) (he : (bl bs)[q0]? = some (a, .inr (6, fs))) (hv : fs[0]? = some v) (hdg : decode cc pc = .ok (.getfield 9, 3)) (kk : W p l e R s m args below meth c H locs cells slots Q (F0 m (pc + 3) ls (v :: rest))) : W p l e R s m args below meth c H locs cells slots Q (F0 m pc ls (.ref a :: rest)) :=
  z_get (C := RX6) (T := TX6) (N := 5) (k := 0) X Z in_X6 rfl (Nat.le_of_ble_eq_true rfl) (by decide +kernel) (zAll_of (zTb 123 (by decide +kernel)) (by decide +kernel)) q0 he hv hdg kk
theorem zg_X6_15 {p : Program} {l : Launch} {e : Env} {R : Room} {s : State} {m : MethodId} {args : Array Value} {below : List Frame} {meth : Method} {c : Code} {H : Heap} {locs : List Loc} {cells slots : Nat} {Q : State → Prop} {cc : ByteArray} {nL : Nat} {D : va_G} {cI cR : ClassId} {A : Nat → Prop} {bs : zB} {pc : Nat} {ls : Array Slot} {rest : List Value} {a : Nat} {fs : List Value} {v : Value} (X : zX p s m c cc nL args RX6 D cI cR A) (Z : zW D A s bs H locs) (q0 : Nat) (he : (bl bs)[q0]? = some (a, .inr (6, fs))) (hv : fs[1]? = some v) (hdg : decode cc pc = .ok (.getfield 15, 3)) (kk : W p l e R s m args below meth c H locs cells slots Q (F0 m (pc + 3) ls (v :: rest))) : W p l e R s m args below meth c H locs cells slots Q (F0 m pc ls (.ref a :: rest)) :=
  z_get (C := RX6) (T := TX6) (N := 5) (k := 1) X Z in_X6 rfl (Nat.le_of_ble_eq_true rfl) (by decide +kernel) (zAll_of (zTb 124 (by decide +kernel)) (by decide +kernel)) q0 he hv hdg kk
theorem zg_X6_18 {p : Program} {l : Launch} {e : Env} {R : Room} {s : State} {m : MethodId} {args : Array Value} {below : List Frame} {meth : Method} {c : Code} {H : Heap} {locs : List Loc} {cells slots : Nat} {Q : State → Prop} {cc : ByteArray} {nL : Nat} {D : va_G} {cI cR : ClassId} {A : Nat → Prop} {bs : zB} {pc : Nat} {ls : Array Slot} {rest : List Value} {a : Nat} {fs : List Value} {v : Value} (X : zX p s m c cc nL args RX6 D cI cR A) (Z : zW D A s bs H locs) (q0 : Nat) (he : (bl bs)[q0]? = some (a, .inr (6, fs))) (hv : fs[2]? = some v) (hdg : decode cc pc = .ok (.getfield 18, 3)) (kk : W p l e R s m args below meth c H locs cells slots Q (F0 m (pc + 3) ls (v :: rest))) : W p l e R s m args below meth c H locs cells slots Q (F0 m pc ls (.ref a :: rest)) :=
  z_get (C := RX6) (T := TX6) (N := 5) (k := 2) X Z in_X6 rfl (Nat.le_of_ble_eq_true rfl) (by decide +kernel) (zAll_of (zTb 125 (by decide +kernel)) (by decide +kernel)) q0 he hv hdg kk
theorem zg_X6_21 {p : Program} {l : Launch} {e : Env} {R : Room} {s : State} {m : MethodId} {args : Array Value} {below : List Frame} {meth : Method} {c : Code} {H : Heap} {locs : List Loc} {cells slots : Nat} {Q : State → Prop} {cc : ByteArray} {nL : Nat} {D : va_G} {cI cR : ClassId} {A : Nat → Prop} {bs : zB} {pc : Nat} {ls : Array Slot} {rest : List Value} {a : Nat} {fs : List Value} {v : Value} (X : zX p s m c cc nL args RX6 D cI cR A) (Z : zW D A s bs H locs) (q0 : Nat) (he : (bl bs)[q0]? = some (a, .inr (6, fs))) (hv : fs[3]? = some v) (hdg : decode cc pc = .ok (.getfield 21, 3)) (kk : W p l e R s m args below meth c H locs cells slots Q (F0 m (pc + 3) ls (v :: rest))) : W p l e R s m args below meth c H locs cells slots Q (F0 m pc ls (.ref a :: rest)) :=
  z_get (C := RX6) (T := TX6) (N := 5) (k := 3) X Z in_X6 rfl (Nat.le_of_ble_eq_true rfl) (by decide +kernel) (zAll_of (zTb 126 (by decide +kernel)) (by decide +kernel)) q0 he hv hdg kk
theorem zg_X6_30 {p : Program} {l : Launch} {e : Env} {R : Room} {s : State} {m : MethodId} {args : Array Value} {below : List Frame} {meth : Method} {c : Code} {H : Heap} {locs : List Loc} {cells slots : Nat} {Q : State → Prop} {cc : ByteArray} {nL : Nat} {D : va_G} {cI cR : ClassId} {A : Nat → Prop} {bs : zB} {pc : Nat} {ls : Array Slot} {rest : List Value} {a : Nat} {fs : List Value} {v : Value} (X : zX p s m c cc nL args RX6 D cI cR A) (Z : zW D A s bs H locs) (q0 : Nat) (he : (bl bs)[q0]? = some (a, .inr (6, fs))) (hv : fs[4]? = some v) (hdg : decode cc pc = .ok (.getfield 30, 3)) (kk : W p l e R s m args below meth c H locs cells slots Q (F0 m (pc + 3) ls (v :: rest))) : W p l e R s m args below meth c H locs cells slots Q (F0 m pc ls (.ref a :: rest)) :=
  z_get (C := RX6) (T := TX6) (N := 5) (k := 4) X Z in_X6 rfl (Nat.le_of_ble_eq_true rfl) (by decide +kernel) (zAll_of (zTb 127 (by decide +kernel)) (by decide +kernel)) q0 he hv hdg kk
theorem zp_X6_30 {p : Program} {l : Launch} {e : Env} {R : Room} {s : State} {m : MethodId} {args : Array Value} {below : List Frame} {meth : Method} {c : Code} {H : Heap} {locs : List Loc} {cells slots : Nat} {Q : State → Prop} {cc : ByteArray} {nL : Nat} {D : va_G} {cI cR : ClassId} {A : Nat → Prop} {bs : zB} {pc : Nat} {ls : Array Slot} {rest : List Value} {a : Nat} {fs : List Value} {v : Int32} (X : zX p s m c cc nL args RX6 D cI cR A) (Z : zW D A s bs H locs) (q0 : Nat) (he : (bl bs)[q0]? = some (a, .inr (6, fs))) (hl : 4 < fs.length) (bs' : zB) (hb : (bl bs).set q0 (a, .inr (6, fs.set 4 (.int v))) = bl bs') (hdg : decode cc pc = .ok (.putfield 30, 3)) (kk : ∀ (H1 : Heap) (locs1 : List Loc), zW D A s bs' H1 locs1 → W p l e R s m args below meth c H1 locs1 cells slots Q (F0 m (pc + 3) ls rest)) : W p l e R s m args below meth c H locs cells slots Q (F0 m pc ls (.int v :: .ref a :: rest)) :=
  z_put (C := RX6) (T := TX6) (N := 5) (k := 4) (ty := .int) tyX6 X Z in_X6 tyX6_ok nmX6 rfl (Nat.le_of_ble_eq_true rfl) (by decide +kernel) (by decide +kernel) (by decide +kernel) (zAll_of (zTb 127 (by decide +kernel)) (by decide +kernel)) rfl rfl q0 he hl bs' hb hdg kk
theorem zg_X0_11 {p : Program} {l : Launch} {e : Env} {R : Room} {s : State} {m : MethodId} {args : Array Value} {below : List Frame} {meth : Method} {c : Code} {H : Heap} {locs : List Loc} {cells slots : Nat} {Q : State → Prop} {cc : ByteArray} {nL : Nat} {D : va_G} {cI cR : ClassId} {A : Nat → Prop} {bs : zB} {pc : Nat} {ls : Array Slot} {rest : List Value} {a : Nat} {fs : List Value} {v : Value} (X : zX p s m c cc nL args RX0 D cI cR A) (Z : zW D A s bs H locs) (q0 : Nat) (he : (bl bs)[q0]? = some (a, .inr (0, fs))) (hv : fs[0]? = some v) (hdg : decode cc pc = .ok (.getfield 11, 3)) (kk : W p l e R s m args below meth c H locs cells slots Q (F0 m (pc + 3) ls (v :: rest))) : W p l e R s m args below meth c H locs cells slots Q (F0 m pc ls (.ref a :: rest)) :=
  z_get (C := RX0) (T := TX0) (N := 3) (k := 0) X Z in_X0 rfl (Nat.le_of_ble_eq_true rfl) (by decide +kernel) (zAll_of (zTb 148 (by decide +kernel)) (by decide +kernel)) q0 he hv hdg kk
theorem zg_X0_22 {p : Program} {l : Launch} {e : Env} {R : Room} {s : State} {m : MethodId} {args : Array Value} {below : List Frame} {meth : Method} {c : Code} {H : Heap} {locs : List Loc} {cells slots : Nat} {Q : State → Prop} {cc : ByteArray} {nL : Nat} {D : va_G} {cI cR : ClassId} {A : Nat → Prop} {bs : zB} {pc : Nat} {ls : Array Slot} {rest : List Value} {a : Nat} {fs : List Value} {v : Value} (X : zX p s m c cc nL args RX0 D cI cR A) (Z : zW D A s bs H locs) (q0 : Nat) (he : (bl bs)[q0]? = some (a, .inr (0, fs))) (hv : fs[1]? = some v) (hdg : decode cc pc = .ok (.getfield 22, 3)) (kk : W p l e R s m args below meth c H locs cells slots Q (F0 m (pc + 3) ls (v :: rest))) : W p l e R s m args below meth c H locs cells slots Q (F0 m pc ls (.ref a :: rest)) :=
  z_get (C := RX0) (T := TX0) (N := 3) (k := 1) X Z in_X0 rfl (Nat.le_of_ble_eq_true rfl) (by decide +kernel) (zAll_of (zTb 149 (by decide +kernel)) (by decide +kernel)) q0 he hv hdg kk
theorem zp_X0_22 {p : Program} {l : Launch} {e : Env} {R : Room} {s : State} {m : MethodId} {args : Array Value} {below : List Frame} {meth : Method} {c : Code} {H : Heap} {locs : List Loc} {cells slots : Nat} {Q : State → Prop} {cc : ByteArray} {nL : Nat} {D : va_G} {cI cR : ClassId} {A : Nat → Prop} {bs : zB} {pc : Nat} {ls : Array Slot} {rest : List Value} {a : Nat} {fs : List Value} {v : Int32} (X : zX p s m c cc nL args RX0 D cI cR A) (Z : zW D A s bs H locs) (q0 : Nat) (he : (bl bs)[q0]? = some (a, .inr (0, fs))) (hl : 1 < fs.length) (bs' : zB) (hb : (bl bs).set q0 (a, .inr (0, fs.set 1 (.int v))) = bl bs') (hdg : decode cc pc = .ok (.putfield 22, 3)) (kk : ∀ (H1 : Heap) (locs1 : List Loc), zW D A s bs' H1 locs1 → W p l e R s m args below meth c H1 locs1 cells slots Q (F0 m (pc + 3) ls rest)) : W p l e R s m args below meth c H locs cells slots Q (F0 m pc ls (.int v :: .ref a :: rest)) :=
  z_put (C := RX0) (T := TX0) (N := 3) (k := 1) (ty := .int) tyX0 X Z in_X0 tyX0_ok nmX0 rfl (Nat.le_of_ble_eq_true rfl) (by decide +kernel) (by decide +kernel) (by decide +kernel) (zAll_of (zTb 149 (by decide +kernel)) (by decide +kernel)) rfl rfl q0 he hl bs' hb hdg kk
theorem zg_X0_18 {p : Program} {l : Launch} {e : Env} {R : Room} {s : State} {m : MethodId} {args : Array Value} {below : List Frame} {meth : Method} {c : Code} {H : Heap} {locs : List Loc} {cells slots : Nat} {Q : State → Prop} {cc : ByteArray} {nL : Nat} {D : va_G} {cI cR : ClassId} {A : Nat → Prop} {bs : zB} {pc : Nat} {ls : Array Slot} {rest : List Value} {a : Nat} {fs : List Value} {v : Value} (X : zX p s m c cc nL args RX0 D cI cR A) (Z : zW D A s bs H locs) (q0 : Nat) (he : (bl bs)[q0]? = some (a, .inr (0, fs))) (hv : fs[2]? = some v) (hdg : decode cc pc = .ok (.getfield 18, 3)) (kk : W p l e R s m args below meth c H locs cells slots Q (F0 m (pc + 3) ls (v :: rest))) : W p l e R s m args below meth c H locs cells slots Q (F0 m pc ls (.ref a :: rest)) :=
  z_get (C := RX0) (T := TX0) (N := 3) (k := 2) X Z in_X0 rfl (Nat.le_of_ble_eq_true rfl) (by decide +kernel) (zAll_of (zTb 150 (by decide +kernel)) (by decide +kernel)) q0 he hv hdg kk
theorem zp_X0_18 {p : Program} {l : Launch} {e : Env} {R : Room} {s : State} {m : MethodId} {args : Array Value} {below : List Frame} {meth : Method} {c : Code} {H : Heap} {locs : List Loc} {cells slots : Nat} {Q : State → Prop} {cc : ByteArray} {nL : Nat} {D : va_G} {cI cR : ClassId} {A : Nat → Prop} {bs : zB} {pc : Nat} {ls : Array Slot} {rest : List Value} {a : Nat} {fs : List Value} {v : Int32} (X : zX p s m c cc nL args RX0 D cI cR A) (Z : zW D A s bs H locs) (q0 : Nat) (he : (bl bs)[q0]? = some (a, .inr (0, fs))) (hl : 2 < fs.length) (bs' : zB) (hb : (bl bs).set q0 (a, .inr (0, fs.set 2 (.int v))) = bl bs') (hdg : decode cc pc = .ok (.putfield 18, 3)) (kk : ∀ (H1 : Heap) (locs1 : List Loc), zW D A s bs' H1 locs1 → W p l e R s m args below meth c H1 locs1 cells slots Q (F0 m (pc + 3) ls rest)) : W p l e R s m args below meth c H locs cells slots Q (F0 m pc ls (.int v :: .ref a :: rest)) :=
  z_put (C := RX0) (T := TX0) (N := 3) (k := 2) (ty := .int) tyX0 X Z in_X0 tyX0_ok nmX0 rfl (Nat.le_of_ble_eq_true rfl) (by decide +kernel) (by decide +kernel) (by decide +kernel) (zAll_of (zTb 150 (by decide +kernel)) (by decide +kernel)) rfl rfl q0 he hl bs' hb hdg kk
theorem zg_X7_156 {p : Program} {l : Launch} {e : Env} {R : Room} {s : State} {m : MethodId} {args : Array Value} {below : List Frame} {meth : Method} {c : Code} {H : Heap} {locs : List Loc} {cells slots : Nat} {Q : State → Prop} {cc : ByteArray} {nL : Nat} {D : va_G} {cI cR : ClassId} {A : Nat → Prop} {bs : zB} {pc : Nat} {ls : Array Slot} {rest : List Value} {a : Nat} {fs : List Value} {v : Value} (X : zX p s m c cc nL args RX7 D cI cR A) (Z : zW D A s bs H locs) (q0 : Nat) (he : (bl bs)[q0]? = some (a, .inr (0, fs))) (hv : fs[2]? = some v) (hdg : decode cc pc = .ok (.getfield 156, 3)) (kk : W p l e R s m args below meth c H locs cells slots Q (F0 m (pc + 3) ls (v :: rest))) : W p l e R s m args below meth c H locs cells slots Q (F0 m pc ls (.ref a :: rest)) :=
  z_getN (host := "JugglerStates") (C := RX0) (T := TX0) (N := 3) (k := 2) X Z in_X0 rfl (Nat.le_of_ble_eq_true rfl) (by decide +kernel) (by decide +kernel) q0 he hv hdg kk
theorem zp_X7_156 {p : Program} {l : Launch} {e : Env} {R : Room} {s : State} {m : MethodId} {args : Array Value} {below : List Frame} {meth : Method} {c : Code} {H : Heap} {locs : List Loc} {cells slots : Nat} {Q : State → Prop} {cc : ByteArray} {nL : Nat} {D : va_G} {cI cR : ClassId} {A : Nat → Prop} {bs : zB} {pc : Nat} {ls : Array Slot} {rest : List Value} {a : Nat} {fs : List Value} {v : Int32} (X : zX p s m c cc nL args RX7 D cI cR A) (Z : zW D A s bs H locs) (q0 : Nat) (he : (bl bs)[q0]? = some (a, .inr (0, fs))) (hl : 2 < fs.length) (bs' : zB) (hb : (bl bs).set q0 (a, .inr (0, fs.set 2 (.int v))) = bl bs') (hdg : decode cc pc = .ok (.putfield 156, 3)) (kk : ∀ (H1 : Heap) (locs1 : List Loc), zW D A s bs' H1 locs1 → W p l e R s m args below meth c H1 locs1 cells slots Q (F0 m (pc + 3) ls rest)) : W p l e R s m args below meth c H locs cells slots Q (F0 m pc ls (.int v :: .ref a :: rest)) :=
  z_putN (host := "JugglerStates") (C := RX0) (T := TX0) (N := 3) (k := 2) (ty := .int) tyX0 X Z in_X0 tyX0_ok nmX0 rfl (Nat.le_of_ble_eq_true rfl) (by decide +kernel) (by decide +kernel) (by decide +kernel) (by decide +kernel) rfl rfl q0 he hl bs' hb hdg kk
theorem zg_X5_10 {p : Program} {l : Launch} {e : Env} {R : Room} {s : State} {m : MethodId} {args : Array Value} {below : List Frame} {meth : Method} {c : Code} {H : Heap} {locs : List Loc} {cells slots : Nat} {Q : State → Prop} {cc : ByteArray} {nL : Nat} {D : va_G} {cI cR : ClassId} {A : Nat → Prop} {bs : zB} {pc : Nat} {ls : Array Slot} {rest : List Value} {a : Nat} {fs : List Value} {v : Value} (X : zX p s m c cc nL args RX5 D cI cR A) (Z : zW D A s bs H locs) (q0 : Nat) (he : (bl bs)[q0]? = some (a, .inr (5, fs))) (hv : fs[0]? = some v) (hdg : decode cc pc = .ok (.getfield 10, 3)) (kk : W p l e R s m args below meth c H locs cells slots Q (F0 m (pc + 3) ls (v :: rest))) : W p l e R s m args below meth c H locs cells slots Q (F0 m pc ls (.ref a :: rest)) :=
  z_get (C := RX5) (T := TX5) (N := 2) (k := 0) X Z in_X5 rfl (Nat.le_of_ble_eq_true rfl) (by decide +kernel) (zAll_of (zTb 167 (by decide +kernel)) (by decide +kernel)) q0 he hv hdg kk
theorem zg_X7_233 {p : Program} {l : Launch} {e : Env} {R : Room} {s : State} {m : MethodId} {args : Array Value} {below : List Frame} {meth : Method} {c : Code} {H : Heap} {locs : List Loc} {cells slots : Nat} {Q : State → Prop} {cc : ByteArray} {nL : Nat} {D : va_G} {cI cR : ClassId} {A : Nat → Prop} {bs : zB} {pc : Nat} {ls : Array Slot} {rest : List Value} {a : Nat} {fs : List Value} {v : Value} (X : zX p s m c cc nL args RX7 D cI cR A) (Z : zW D A s bs H locs) (q0 : Nat) (he : (bl bs)[q0]? = some (a, .inr (5, fs))) (hv : fs[0]? = some v) (hdg : decode cc pc = .ok (.getfield 233, 3)) (kk : W p l e R s m args below meth c H locs cells slots Q (F0 m (pc + 3) ls (v :: rest))) : W p l e R s m args below meth c H locs cells slots Q (F0 m pc ls (.ref a :: rest)) :=
  z_getN (host := "JugglerStates") (C := RX5) (T := TX5) (N := 2) (k := 0) X Z in_X5 rfl (Nat.le_of_ble_eq_true rfl) (by decide +kernel) (by decide +kernel) q0 he hv hdg kk
theorem zg_X5_20 {p : Program} {l : Launch} {e : Env} {R : Room} {s : State} {m : MethodId} {args : Array Value} {below : List Frame} {meth : Method} {c : Code} {H : Heap} {locs : List Loc} {cells slots : Nat} {Q : State → Prop} {cc : ByteArray} {nL : Nat} {D : va_G} {cI cR : ClassId} {A : Nat → Prop} {bs : zB} {pc : Nat} {ls : Array Slot} {rest : List Value} {a : Nat} {fs : List Value} {v : Value} (X : zX p s m c cc nL args RX5 D cI cR A) (Z : zW D A s bs H locs) (q0 : Nat) (he : (bl bs)[q0]? = some (a, .inr (5, fs))) (hv : fs[1]? = some v) (hdg : decode cc pc = .ok (.getfield 20, 3)) (kk : W p l e R s m args below meth c H locs cells slots Q (F0 m (pc + 3) ls (v :: rest))) : W p l e R s m args below meth c H locs cells slots Q (F0 m pc ls (.ref a :: rest)) :=
  z_get (C := RX5) (T := TX5) (N := 2) (k := 1) X Z in_X5 rfl (Nat.le_of_ble_eq_true rfl) (by decide +kernel) (zAll_of (zTb 169 (by decide +kernel)) (by decide +kernel)) q0 he hv hdg kk
theorem zp_X5_20 {p : Program} {l : Launch} {e : Env} {R : Room} {s : State} {m : MethodId} {args : Array Value} {below : List Frame} {meth : Method} {c : Code} {H : Heap} {locs : List Loc} {cells slots : Nat} {Q : State → Prop} {cc : ByteArray} {nL : Nat} {D : va_G} {cI cR : ClassId} {A : Nat → Prop} {bs : zB} {pc : Nat} {ls : Array Slot} {rest : List Value} {a : Nat} {fs : List Value} {v : Int32} (X : zX p s m c cc nL args RX5 D cI cR A) (Z : zW D A s bs H locs) (hz : v = 0 ∨ v = 1) (q0 : Nat) (he : (bl bs)[q0]? = some (a, .inr (5, fs))) (hl : 1 < fs.length) (bs' : zB) (hb : (bl bs).set q0 (a, .inr (5, fs.set 1 (.int v))) = bl bs') (hdg : decode cc pc = .ok (.putfield 20, 3)) (kk : ∀ (H1 : Heap) (locs1 : List Loc), zW D A s bs' H1 locs1 → W p l e R s m args below meth c H1 locs1 cells slots Q (F0 m (pc + 3) ls rest)) : W p l e R s m args below meth c H locs cells slots Q (F0 m pc ls (.int v :: .ref a :: rest)) :=
  z_put (C := RX5) (T := TX5) (N := 2) (k := 1) (ty := .boolean) tyX5 X Z in_X5 tyX5_ok nmX5 rfl (Nat.le_of_ble_eq_true rfl) (by decide +kernel) (by decide +kernel) (by decide +kernel) (zAll_of (zTb 169 (by decide +kernel)) (by decide +kernel)) (by rcases hz with rfl | rfl <;> rfl) (by rcases hz with rfl | rfl <;> rfl) q0 he hl bs' hb hdg kk
theorem zg_X7_229 {p : Program} {l : Launch} {e : Env} {R : Room} {s : State} {m : MethodId} {args : Array Value} {below : List Frame} {meth : Method} {c : Code} {H : Heap} {locs : List Loc} {cells slots : Nat} {Q : State → Prop} {cc : ByteArray} {nL : Nat} {D : va_G} {cI cR : ClassId} {A : Nat → Prop} {bs : zB} {pc : Nat} {ls : Array Slot} {rest : List Value} {a : Nat} {fs : List Value} {v : Value} (X : zX p s m c cc nL args RX7 D cI cR A) (Z : zW D A s bs H locs) (q0 : Nat) (he : (bl bs)[q0]? = some (a, .inr (5, fs))) (hv : fs[1]? = some v) (hdg : decode cc pc = .ok (.getfield 229, 3)) (kk : W p l e R s m args below meth c H locs cells slots Q (F0 m (pc + 3) ls (v :: rest))) : W p l e R s m args below meth c H locs cells slots Q (F0 m pc ls (.ref a :: rest)) :=
  z_getN (host := "JugglerStates") (C := RX5) (T := TX5) (N := 2) (k := 1) X Z in_X5 rfl (Nat.le_of_ble_eq_true rfl) (by decide +kernel) (by decide +kernel) q0 he hv hdg kk
theorem zp_X7_229 {p : Program} {l : Launch} {e : Env} {R : Room} {s : State} {m : MethodId} {args : Array Value} {below : List Frame} {meth : Method} {c : Code} {H : Heap} {locs : List Loc} {cells slots : Nat} {Q : State → Prop} {cc : ByteArray} {nL : Nat} {D : va_G} {cI cR : ClassId} {A : Nat → Prop} {bs : zB} {pc : Nat} {ls : Array Slot} {rest : List Value} {a : Nat} {fs : List Value} {v : Int32} (X : zX p s m c cc nL args RX7 D cI cR A) (Z : zW D A s bs H locs) (hz : v = 0 ∨ v = 1) (q0 : Nat) (he : (bl bs)[q0]? = some (a, .inr (5, fs))) (hl : 1 < fs.length) (bs' : zB) (hb : (bl bs).set q0 (a, .inr (5, fs.set 1 (.int v))) = bl bs') (hdg : decode cc pc = .ok (.putfield 229, 3)) (kk : ∀ (H1 : Heap) (locs1 : List Loc), zW D A s bs' H1 locs1 → W p l e R s m args below meth c H1 locs1 cells slots Q (F0 m (pc + 3) ls rest)) : W p l e R s m args below meth c H locs cells slots Q (F0 m pc ls (.int v :: .ref a :: rest)) :=
  z_putN (host := "JugglerStates") (C := RX5) (T := TX5) (N := 2) (k := 1) (ty := .boolean) tyX5 X Z in_X5 tyX5_ok nmX5 rfl (Nat.le_of_ble_eq_true rfl) (by decide +kernel) (by decide +kernel) (by decide +kernel) (by decide +kernel) (by rcases hz with rfl | rfl <;> rfl) (by rcases hz with rfl | rfl <;> rfl) q0 he hl bs' hb hdg kk
theorem zg_X7_12 {p : Program} {l : Launch} {e : Env} {R : Room} {s : State} {m : MethodId} {args : Array Value} {below : List Frame} {meth : Method} {c : Code} {H : Heap} {locs : List Loc} {cells slots : Nat} {Q : State → Prop} {cc : ByteArray} {nL : Nat} {D : va_G} {cI cR : ClassId} {A : Nat → Prop} {bs : zB} {pc : Nat} {ls : Array Slot} {rest : List Value} {a : Nat} {fs : List Value} {v : Value} (X : zX p s m c cc nL args RX7 D cI cR A) (Z : zW D A s bs H locs) (q0 : Nat) (he : (bl bs)[q0]? = some (a, .inr (7, fs))) (hv : fs[0]? = some v) (hdg : decode cc pc = .ok (.getfield 12, 3)) (kk : W p l e R s m args below meth c H locs cells slots Q (F0 m (pc + 3) ls (v :: rest))) : W p l e R s m args below meth c H locs cells slots Q (F0 m pc ls (.ref a :: rest)) :=
  z_get (C := RX7) (T := TX7) (N := 8) (k := 0) X Z in_X7 rfl (Nat.le_of_ble_eq_true rfl) (by decide +kernel) (zAll_of (zTb 176 (by decide +kernel)) (by decide +kernel)) q0 he hv hdg kk
theorem zg_X7_16 {p : Program} {l : Launch} {e : Env} {R : Room} {s : State} {m : MethodId} {args : Array Value} {below : List Frame} {meth : Method} {c : Code} {H : Heap} {locs : List Loc} {cells slots : Nat} {Q : State → Prop} {cc : ByteArray} {nL : Nat} {D : va_G} {cI cR : ClassId} {A : Nat → Prop} {bs : zB} {pc : Nat} {ls : Array Slot} {rest : List Value} {a : Nat} {fs : List Value} {v : Value} (X : zX p s m c cc nL args RX7 D cI cR A) (Z : zW D A s bs H locs) (q0 : Nat) (he : (bl bs)[q0]? = some (a, .inr (7, fs))) (hv : fs[1]? = some v) (hdg : decode cc pc = .ok (.getfield 16, 3)) (kk : W p l e R s m args below meth c H locs cells slots Q (F0 m (pc + 3) ls (v :: rest))) : W p l e R s m args below meth c H locs cells slots Q (F0 m pc ls (.ref a :: rest)) :=
  z_get (C := RX7) (T := TX7) (N := 8) (k := 1) X Z in_X7 rfl (Nat.le_of_ble_eq_true rfl) (by decide +kernel) (zAll_of (zTb 177 (by decide +kernel)) (by decide +kernel)) q0 he hv hdg kk
theorem zg_X7_22 {p : Program} {l : Launch} {e : Env} {R : Room} {s : State} {m : MethodId} {args : Array Value} {below : List Frame} {meth : Method} {c : Code} {H : Heap} {locs : List Loc} {cells slots : Nat} {Q : State → Prop} {cc : ByteArray} {nL : Nat} {D : va_G} {cI cR : ClassId} {A : Nat → Prop} {bs : zB} {pc : Nat} {ls : Array Slot} {rest : List Value} {a : Nat} {fs : List Value} {v : Value} (X : zX p s m c cc nL args RX7 D cI cR A) (Z : zW D A s bs H locs) (q0 : Nat) (he : (bl bs)[q0]? = some (a, .inr (7, fs))) (hv : fs[2]? = some v) (hdg : decode cc pc = .ok (.getfield 22, 3)) (kk : W p l e R s m args below meth c H locs cells slots Q (F0 m (pc + 3) ls (v :: rest))) : W p l e R s m args below meth c H locs cells slots Q (F0 m pc ls (.ref a :: rest)) :=
  z_get (C := RX7) (T := TX7) (N := 8) (k := 2) X Z in_X7 rfl (Nat.le_of_ble_eq_true rfl) (by decide +kernel) (zAll_of (zTb 178 (by decide +kernel)) (by decide +kernel)) q0 he hv hdg kk
theorem zg_X7_29 {p : Program} {l : Launch} {e : Env} {R : Room} {s : State} {m : MethodId} {args : Array Value} {below : List Frame} {meth : Method} {c : Code} {H : Heap} {locs : List Loc} {cells slots : Nat} {Q : State → Prop} {cc : ByteArray} {nL : Nat} {D : va_G} {cI cR : ClassId} {A : Nat → Prop} {bs : zB} {pc : Nat} {ls : Array Slot} {rest : List Value} {a : Nat} {fs : List Value} {v : Value} (X : zX p s m c cc nL args RX7 D cI cR A) (Z : zW D A s bs H locs) (q0 : Nat) (he : (bl bs)[q0]? = some (a, .inr (7, fs))) (hv : fs[3]? = some v) (hdg : decode cc pc = .ok (.getfield 29, 3)) (kk : W p l e R s m args below meth c H locs cells slots Q (F0 m (pc + 3) ls (v :: rest))) : W p l e R s m args below meth c H locs cells slots Q (F0 m pc ls (.ref a :: rest)) :=
  z_get (C := RX7) (T := TX7) (N := 8) (k := 3) X Z in_X7 rfl (Nat.le_of_ble_eq_true rfl) (by decide +kernel) (zAll_of (zTb 179 (by decide +kernel)) (by decide +kernel)) q0 he hv hdg kk
theorem zg_X7_36 {p : Program} {l : Launch} {e : Env} {R : Room} {s : State} {m : MethodId} {args : Array Value} {below : List Frame} {meth : Method} {c : Code} {H : Heap} {locs : List Loc} {cells slots : Nat} {Q : State → Prop} {cc : ByteArray} {nL : Nat} {D : va_G} {cI cR : ClassId} {A : Nat → Prop} {bs : zB} {pc : Nat} {ls : Array Slot} {rest : List Value} {a : Nat} {fs : List Value} {v : Value} (X : zX p s m c cc nL args RX7 D cI cR A) (Z : zW D A s bs H locs) (q0 : Nat) (he : (bl bs)[q0]? = some (a, .inr (7, fs))) (hv : fs[4]? = some v) (hdg : decode cc pc = .ok (.getfield 36, 3)) (kk : W p l e R s m args below meth c H locs cells slots Q (F0 m (pc + 3) ls (v :: rest))) : W p l e R s m args below meth c H locs cells slots Q (F0 m pc ls (.ref a :: rest)) :=
  z_get (C := RX7) (T := TX7) (N := 8) (k := 4) X Z in_X7 rfl (Nat.le_of_ble_eq_true rfl) (by decide +kernel) (zAll_of (zTb 180 (by decide +kernel)) (by decide +kernel)) q0 he hv hdg kk
theorem zg_X7_43 {p : Program} {l : Launch} {e : Env} {R : Room} {s : State} {m : MethodId} {args : Array Value} {below : List Frame} {meth : Method} {c : Code} {H : Heap} {locs : List Loc} {cells slots : Nat} {Q : State → Prop} {cc : ByteArray} {nL : Nat} {D : va_G} {cI cR : ClassId} {A : Nat → Prop} {bs : zB} {pc : Nat} {ls : Array Slot} {rest : List Value} {a : Nat} {fs : List Value} {v : Value} (X : zX p s m c cc nL args RX7 D cI cR A) (Z : zW D A s bs H locs) (q0 : Nat) (he : (bl bs)[q0]? = some (a, .inr (7, fs))) (hv : fs[5]? = some v) (hdg : decode cc pc = .ok (.getfield 43, 3)) (kk : W p l e R s m args below meth c H locs cells slots Q (F0 m (pc + 3) ls (v :: rest))) : W p l e R s m args below meth c H locs cells slots Q (F0 m pc ls (.ref a :: rest)) :=
  z_get (C := RX7) (T := TX7) (N := 8) (k := 5) X Z in_X7 rfl (Nat.le_of_ble_eq_true rfl) (by decide +kernel) (zAll_of (zTb 181 (by decide +kernel)) (by decide +kernel)) q0 he hv hdg kk
theorem zg_X7_50 {p : Program} {l : Launch} {e : Env} {R : Room} {s : State} {m : MethodId} {args : Array Value} {below : List Frame} {meth : Method} {c : Code} {H : Heap} {locs : List Loc} {cells slots : Nat} {Q : State → Prop} {cc : ByteArray} {nL : Nat} {D : va_G} {cI cR : ClassId} {A : Nat → Prop} {bs : zB} {pc : Nat} {ls : Array Slot} {rest : List Value} {a : Nat} {fs : List Value} {v : Value} (X : zX p s m c cc nL args RX7 D cI cR A) (Z : zW D A s bs H locs) (q0 : Nat) (he : (bl bs)[q0]? = some (a, .inr (7, fs))) (hv : fs[6]? = some v) (hdg : decode cc pc = .ok (.getfield 50, 3)) (kk : W p l e R s m args below meth c H locs cells slots Q (F0 m (pc + 3) ls (v :: rest))) : W p l e R s m args below meth c H locs cells slots Q (F0 m pc ls (.ref a :: rest)) :=
  z_get (C := RX7) (T := TX7) (N := 8) (k := 6) X Z in_X7 rfl (Nat.le_of_ble_eq_true rfl) (by decide +kernel) (zAll_of (zTb 182 (by decide +kernel)) (by decide +kernel)) q0 he hv hdg kk
theorem zg_X7_54 {p : Program} {l : Launch} {e : Env} {R : Room} {s : State} {m : MethodId} {args : Array Value} {below : List Frame} {meth : Method} {c : Code} {H : Heap} {locs : List Loc} {cells slots : Nat} {Q : State → Prop} {cc : ByteArray} {nL : Nat} {D : va_G} {cI cR : ClassId} {A : Nat → Prop} {bs : zB} {pc : Nat} {ls : Array Slot} {rest : List Value} {a : Nat} {fs : List Value} {v : Value} (X : zX p s m c cc nL args RX7 D cI cR A) (Z : zW D A s bs H locs) (q0 : Nat) (he : (bl bs)[q0]? = some (a, .inr (7, fs))) (hv : fs[7]? = some v) (hdg : decode cc pc = .ok (.getfield 54, 3)) (kk : W p l e R s m args below meth c H locs cells slots Q (F0 m (pc + 3) ls (v :: rest))) : W p l e R s m args below meth c H locs cells slots Q (F0 m pc ls (.ref a :: rest)) :=
  z_get (C := RX7) (T := TX7) (N := 8) (k := 7) X Z in_X7 rfl (Nat.le_of_ble_eq_true rfl) (by decide +kernel) (zAll_of (zTb 183 (by decide +kernel)) (by decide +kernel)) q0 he hv hdg kk
theorem zg_X8_7 {p : Program} {l : Launch} {e : Env} {R : Room} {s : State} {m : MethodId} {args : Array Value} {below : List Frame} {meth : Method} {c : Code} {H : Heap} {locs : List Loc} {cells slots : Nat} {Q : State → Prop} {cc : ByteArray} {nL : Nat} {D : va_G} {cI cR : ClassId} {A : Nat → Prop} {bs : zB} {pc : Nat} {ls : Array Slot} {rest : List Value} {a : Nat} {fs : List Value} {v : Value} (X : zX p s m c cc nL args RX8 D cI cR A) (Z : zW D A s bs H locs) (q0 : Nat) (he : (bl bs)[q0]? = some (a, .inr (8, fs))) (hv : fs[0]? = some v) (hdg : decode cc pc = .ok (.getfield 7, 3)) (kk : W p l e R s m args below meth c H locs cells slots Q (F0 m (pc + 3) ls (v :: rest))) : W p l e R s m args below meth c H locs cells slots Q (F0 m pc ls (.ref a :: rest)) :=
  z_get (C := RX8) (T := TX8) (N := 14) (k := 0) X Z in_X8 rfl (Nat.le_of_ble_eq_true rfl) (by decide +kernel) (zAll_of (zTb 566 (by decide +kernel)) (by decide +kernel)) q0 he hv hdg kk
theorem zg_X8_13 {p : Program} {l : Launch} {e : Env} {R : Room} {s : State} {m : MethodId} {args : Array Value} {below : List Frame} {meth : Method} {c : Code} {H : Heap} {locs : List Loc} {cells slots : Nat} {Q : State → Prop} {cc : ByteArray} {nL : Nat} {D : va_G} {cI cR : ClassId} {A : Nat → Prop} {bs : zB} {pc : Nat} {ls : Array Slot} {rest : List Value} {a : Nat} {fs : List Value} {v : Value} (X : zX p s m c cc nL args RX8 D cI cR A) (Z : zW D A s bs H locs) (q0 : Nat) (he : (bl bs)[q0]? = some (a, .inr (8, fs))) (hv : fs[1]? = some v) (hdg : decode cc pc = .ok (.getfield 13, 3)) (kk : W p l e R s m args below meth c H locs cells slots Q (F0 m (pc + 3) ls (v :: rest))) : W p l e R s m args below meth c H locs cells slots Q (F0 m pc ls (.ref a :: rest)) :=
  z_get (C := RX8) (T := TX8) (N := 14) (k := 1) X Z in_X8 rfl (Nat.le_of_ble_eq_true rfl) (by decide +kernel) (zAll_of (zTb 567 (by decide +kernel)) (by decide +kernel)) q0 he hv hdg kk
theorem zg_X8_16 {p : Program} {l : Launch} {e : Env} {R : Room} {s : State} {m : MethodId} {args : Array Value} {below : List Frame} {meth : Method} {c : Code} {H : Heap} {locs : List Loc} {cells slots : Nat} {Q : State → Prop} {cc : ByteArray} {nL : Nat} {D : va_G} {cI cR : ClassId} {A : Nat → Prop} {bs : zB} {pc : Nat} {ls : Array Slot} {rest : List Value} {a : Nat} {fs : List Value} {v : Value} (X : zX p s m c cc nL args RX8 D cI cR A) (Z : zW D A s bs H locs) (q0 : Nat) (he : (bl bs)[q0]? = some (a, .inr (8, fs))) (hv : fs[2]? = some v) (hdg : decode cc pc = .ok (.getfield 16, 3)) (kk : W p l e R s m args below meth c H locs cells slots Q (F0 m (pc + 3) ls (v :: rest))) : W p l e R s m args below meth c H locs cells slots Q (F0 m pc ls (.ref a :: rest)) :=
  z_get (C := RX8) (T := TX8) (N := 14) (k := 2) X Z in_X8 rfl (Nat.le_of_ble_eq_true rfl) (by decide +kernel) (zAll_of (zTb 568 (by decide +kernel)) (by decide +kernel)) q0 he hv hdg kk
theorem zg_X8_40 {p : Program} {l : Launch} {e : Env} {R : Room} {s : State} {m : MethodId} {args : Array Value} {below : List Frame} {meth : Method} {c : Code} {H : Heap} {locs : List Loc} {cells slots : Nat} {Q : State → Prop} {cc : ByteArray} {nL : Nat} {D : va_G} {cI cR : ClassId} {A : Nat → Prop} {bs : zB} {pc : Nat} {ls : Array Slot} {rest : List Value} {a : Nat} {fs : List Value} {v : Value} (X : zX p s m c cc nL args RX8 D cI cR A) (Z : zW D A s bs H locs) (q0 : Nat) (he : (bl bs)[q0]? = some (a, .inr (8, fs))) (hv : fs[3]? = some v) (hdg : decode cc pc = .ok (.getfield 40, 3)) (kk : W p l e R s m args below meth c H locs cells slots Q (F0 m (pc + 3) ls (v :: rest))) : W p l e R s m args below meth c H locs cells slots Q (F0 m pc ls (.ref a :: rest)) :=
  z_get (C := RX8) (T := TX8) (N := 14) (k := 3) X Z in_X8 rfl (Nat.le_of_ble_eq_true rfl) (by decide +kernel) (zAll_of (zTb 569 (by decide +kernel)) (by decide +kernel)) q0 he hv hdg kk
theorem zp_X8_40 {p : Program} {l : Launch} {e : Env} {R : Room} {s : State} {m : MethodId} {args : Array Value} {below : List Frame} {meth : Method} {c : Code} {H : Heap} {locs : List Loc} {cells slots : Nat} {Q : State → Prop} {cc : ByteArray} {nL : Nat} {D : va_G} {cI cR : ClassId} {A : Nat → Prop} {bs : zB} {pc : Nat} {ls : Array Slot} {rest : List Value} {a : Nat} {fs : List Value} {v : Int32} (X : zX p s m c cc nL args RX8 D cI cR A) (Z : zW D A s bs H locs) (q0 : Nat) (he : (bl bs)[q0]? = some (a, .inr (8, fs))) (hl : 3 < fs.length) (bs' : zB) (hb : (bl bs).set q0 (a, .inr (8, fs.set 3 (.int v))) = bl bs') (hdg : decode cc pc = .ok (.putfield 40, 3)) (kk : ∀ (H1 : Heap) (locs1 : List Loc), zW D A s bs' H1 locs1 → W p l e R s m args below meth c H1 locs1 cells slots Q (F0 m (pc + 3) ls rest)) : W p l e R s m args below meth c H locs cells slots Q (F0 m pc ls (.int v :: .ref a :: rest)) :=
  z_put (C := RX8) (T := TX8) (N := 14) (k := 3) (ty := .int) tyX8 X Z in_X8 tyX8_ok nmX8 rfl (Nat.le_of_ble_eq_true rfl) (by decide +kernel) (by decide +kernel) (by decide +kernel) (zAll_of (zTb 569 (by decide +kernel)) (by decide +kernel)) rfl rfl q0 he hl bs' hb hdg kk
theorem zg_X8_19 {p : Program} {l : Launch} {e : Env} {R : Room} {s : State} {m : MethodId} {args : Array Value} {below : List Frame} {meth : Method} {c : Code} {H : Heap} {locs : List Loc} {cells slots : Nat} {Q : State → Prop} {cc : ByteArray} {nL : Nat} {D : va_G} {cI cR : ClassId} {A : Nat → Prop} {bs : zB} {pc : Nat} {ls : Array Slot} {rest : List Value} {a : Nat} {fs : List Value} {v : Value} (X : zX p s m c cc nL args RX8 D cI cR A) (Z : zW D A s bs H locs) (q0 : Nat) (he : (bl bs)[q0]? = some (a, .inr (8, fs))) (hv : fs[4]? = some v) (hdg : decode cc pc = .ok (.getfield 19, 3)) (kk : W p l e R s m args below meth c H locs cells slots Q (F0 m (pc + 3) ls (v :: rest))) : W p l e R s m args below meth c H locs cells slots Q (F0 m pc ls (.ref a :: rest)) :=
  z_get (C := RX8) (T := TX8) (N := 14) (k := 4) X Z in_X8 rfl (Nat.le_of_ble_eq_true rfl) (by decide +kernel) (zAll_of (zTb 570 (by decide +kernel)) (by decide +kernel)) q0 he hv hdg kk
theorem zg_X8_22 {p : Program} {l : Launch} {e : Env} {R : Room} {s : State} {m : MethodId} {args : Array Value} {below : List Frame} {meth : Method} {c : Code} {H : Heap} {locs : List Loc} {cells slots : Nat} {Q : State → Prop} {cc : ByteArray} {nL : Nat} {D : va_G} {cI cR : ClassId} {A : Nat → Prop} {bs : zB} {pc : Nat} {ls : Array Slot} {rest : List Value} {a : Nat} {fs : List Value} {v : Value} (X : zX p s m c cc nL args RX8 D cI cR A) (Z : zW D A s bs H locs) (q0 : Nat) (he : (bl bs)[q0]? = some (a, .inr (8, fs))) (hv : fs[5]? = some v) (hdg : decode cc pc = .ok (.getfield 22, 3)) (kk : W p l e R s m args below meth c H locs cells slots Q (F0 m (pc + 3) ls (v :: rest))) : W p l e R s m args below meth c H locs cells slots Q (F0 m pc ls (.ref a :: rest)) :=
  z_get (C := RX8) (T := TX8) (N := 14) (k := 5) X Z in_X8 rfl (Nat.le_of_ble_eq_true rfl) (by decide +kernel) (zAll_of (zTb 571 (by decide +kernel)) (by decide +kernel)) q0 he hv hdg kk
theorem zg_X8_25 {p : Program} {l : Launch} {e : Env} {R : Room} {s : State} {m : MethodId} {args : Array Value} {below : List Frame} {meth : Method} {c : Code} {H : Heap} {locs : List Loc} {cells slots : Nat} {Q : State → Prop} {cc : ByteArray} {nL : Nat} {D : va_G} {cI cR : ClassId} {A : Nat → Prop} {bs : zB} {pc : Nat} {ls : Array Slot} {rest : List Value} {a : Nat} {fs : List Value} {v : Value} (X : zX p s m c cc nL args RX8 D cI cR A) (Z : zW D A s bs H locs) (q0 : Nat) (he : (bl bs)[q0]? = some (a, .inr (8, fs))) (hv : fs[6]? = some v) (hdg : decode cc pc = .ok (.getfield 25, 3)) (kk : W p l e R s m args below meth c H locs cells slots Q (F0 m (pc + 3) ls (v :: rest))) : W p l e R s m args below meth c H locs cells slots Q (F0 m pc ls (.ref a :: rest)) :=
  z_get (C := RX8) (T := TX8) (N := 14) (k := 6) X Z in_X8 rfl (Nat.le_of_ble_eq_true rfl) (by decide +kernel) (zAll_of (zTb 572 (by decide +kernel)) (by decide +kernel)) q0 he hv hdg kk
theorem zg_X8_87 {p : Program} {l : Launch} {e : Env} {R : Room} {s : State} {m : MethodId} {args : Array Value} {below : List Frame} {meth : Method} {c : Code} {H : Heap} {locs : List Loc} {cells slots : Nat} {Q : State → Prop} {cc : ByteArray} {nL : Nat} {D : va_G} {cI cR : ClassId} {A : Nat → Prop} {bs : zB} {pc : Nat} {ls : Array Slot} {rest : List Value} {a : Nat} {fs : List Value} {v : Value} (X : zX p s m c cc nL args RX8 D cI cR A) (Z : zW D A s bs H locs) (q0 : Nat) (he : (bl bs)[q0]? = some (a, .inr (8, fs))) (hv : fs[7]? = some v) (hdg : decode cc pc = .ok (.getfield 87, 3)) (kk : W p l e R s m args below meth c H locs cells slots Q (F0 m (pc + 3) ls (v :: rest))) : W p l e R s m args below meth c H locs cells slots Q (F0 m pc ls (.ref a :: rest)) :=
  z_get (C := RX8) (T := TX8) (N := 14) (k := 7) X Z in_X8 rfl (Nat.le_of_ble_eq_true rfl) (by decide +kernel) (zAll_of (zTb 573 (by decide +kernel)) (by decide +kernel)) q0 he hv hdg kk
theorem zp_X8_87 {p : Program} {l : Launch} {e : Env} {R : Room} {s : State} {m : MethodId} {args : Array Value} {below : List Frame} {meth : Method} {c : Code} {H : Heap} {locs : List Loc} {cells slots : Nat} {Q : State → Prop} {cc : ByteArray} {nL : Nat} {D : va_G} {cI cR : ClassId} {A : Nat → Prop} {bs : zB} {pc : Nat} {ls : Array Slot} {rest : List Value} {a : Nat} {fs : List Value} {v : Int32} (X : zX p s m c cc nL args RX8 D cI cR A) (Z : zW D A s bs H locs) (q0 : Nat) (he : (bl bs)[q0]? = some (a, .inr (8, fs))) (hl : 7 < fs.length) (bs' : zB) (hb : (bl bs).set q0 (a, .inr (8, fs.set 7 (.int v))) = bl bs') (hdg : decode cc pc = .ok (.putfield 87, 3)) (kk : ∀ (H1 : Heap) (locs1 : List Loc), zW D A s bs' H1 locs1 → W p l e R s m args below meth c H1 locs1 cells slots Q (F0 m (pc + 3) ls rest)) : W p l e R s m args below meth c H locs cells slots Q (F0 m pc ls (.int v :: .ref a :: rest)) :=
  z_put (C := RX8) (T := TX8) (N := 14) (k := 7) (ty := .int) tyX8 X Z in_X8 tyX8_ok nmX8 rfl (Nat.le_of_ble_eq_true rfl) (by decide +kernel) (by decide +kernel) (by decide +kernel) (zAll_of (zTb 573 (by decide +kernel)) (by decide +kernel)) rfl rfl q0 he hl bs' hb hdg kk
theorem zg_X8_28 {p : Program} {l : Launch} {e : Env} {R : Room} {s : State} {m : MethodId} {args : Array Value} {below : List Frame} {meth : Method} {c : Code} {H : Heap} {locs : List Loc} {cells slots : Nat} {Q : State → Prop} {cc : ByteArray} {nL : Nat} {D : va_G} {cI cR : ClassId} {A : Nat → Prop} {bs : zB} {pc : Nat} {ls : Array Slot} {rest : List Value} {a : Nat} {fs : List Value} {v : Value} (X : zX p s m c cc nL args RX8 D cI cR A) (Z : zW D A s bs H locs) (q0 : Nat) (he : (bl bs)[q0]? = some (a, .inr (8, fs))) (hv : fs[8]? = some v) (hdg : decode cc pc = .ok (.getfield 28, 3)) (kk : W p l e R s m args below meth c H locs cells slots Q (F0 m (pc + 3) ls (v :: rest))) : W p l e R s m args below meth c H locs cells slots Q (F0 m pc ls (.ref a :: rest)) :=
  z_get (C := RX8) (T := TX8) (N := 14) (k := 8) X Z in_X8 rfl (Nat.le_of_ble_eq_true rfl) (by decide +kernel) (zAll_of (zTb 574 (by decide +kernel)) (by decide +kernel)) q0 he hv hdg kk
theorem zg_X8_31 {p : Program} {l : Launch} {e : Env} {R : Room} {s : State} {m : MethodId} {args : Array Value} {below : List Frame} {meth : Method} {c : Code} {H : Heap} {locs : List Loc} {cells slots : Nat} {Q : State → Prop} {cc : ByteArray} {nL : Nat} {D : va_G} {cI cR : ClassId} {A : Nat → Prop} {bs : zB} {pc : Nat} {ls : Array Slot} {rest : List Value} {a : Nat} {fs : List Value} {v : Value} (X : zX p s m c cc nL args RX8 D cI cR A) (Z : zW D A s bs H locs) (q0 : Nat) (he : (bl bs)[q0]? = some (a, .inr (8, fs))) (hv : fs[9]? = some v) (hdg : decode cc pc = .ok (.getfield 31, 3)) (kk : W p l e R s m args below meth c H locs cells slots Q (F0 m (pc + 3) ls (v :: rest))) : W p l e R s m args below meth c H locs cells slots Q (F0 m pc ls (.ref a :: rest)) :=
  z_get (C := RX8) (T := TX8) (N := 14) (k := 9) X Z in_X8 rfl (Nat.le_of_ble_eq_true rfl) (by decide +kernel) (zAll_of (zTb 575 (by decide +kernel)) (by decide +kernel)) q0 he hv hdg kk
theorem zg_X8_107 {p : Program} {l : Launch} {e : Env} {R : Room} {s : State} {m : MethodId} {args : Array Value} {below : List Frame} {meth : Method} {c : Code} {H : Heap} {locs : List Loc} {cells slots : Nat} {Q : State → Prop} {cc : ByteArray} {nL : Nat} {D : va_G} {cI cR : ClassId} {A : Nat → Prop} {bs : zB} {pc : Nat} {ls : Array Slot} {rest : List Value} {a : Nat} {fs : List Value} {v : Value} (X : zX p s m c cc nL args RX8 D cI cR A) (Z : zW D A s bs H locs) (q0 : Nat) (he : (bl bs)[q0]? = some (a, .inr (8, fs))) (hv : fs[10]? = some v) (hdg : decode cc pc = .ok (.getfield 107, 3)) (kk : W p l e R s m args below meth c H locs cells slots Q (F0 m (pc + 3) ls (v :: rest))) : W p l e R s m args below meth c H locs cells slots Q (F0 m pc ls (.ref a :: rest)) :=
  z_get (C := RX8) (T := TX8) (N := 14) (k := 10) X Z in_X8 rfl (Nat.le_of_ble_eq_true rfl) (by decide +kernel) (zAll_of (zTb 576 (by decide +kernel)) (by decide +kernel)) q0 he hv hdg kk
theorem zp_X8_107 {p : Program} {l : Launch} {e : Env} {R : Room} {s : State} {m : MethodId} {args : Array Value} {below : List Frame} {meth : Method} {c : Code} {H : Heap} {locs : List Loc} {cells slots : Nat} {Q : State → Prop} {cc : ByteArray} {nL : Nat} {D : va_G} {cI cR : ClassId} {A : Nat → Prop} {bs : zB} {pc : Nat} {ls : Array Slot} {rest : List Value} {a : Nat} {fs : List Value} {v : Int32} (X : zX p s m c cc nL args RX8 D cI cR A) (Z : zW D A s bs H locs) (q0 : Nat) (he : (bl bs)[q0]? = some (a, .inr (8, fs))) (hl : 10 < fs.length) (bs' : zB) (hb : (bl bs).set q0 (a, .inr (8, fs.set 10 (.int v))) = bl bs') (hdg : decode cc pc = .ok (.putfield 107, 3)) (kk : ∀ (H1 : Heap) (locs1 : List Loc), zW D A s bs' H1 locs1 → W p l e R s m args below meth c H1 locs1 cells slots Q (F0 m (pc + 3) ls rest)) : W p l e R s m args below meth c H locs cells slots Q (F0 m pc ls (.int v :: .ref a :: rest)) :=
  z_put (C := RX8) (T := TX8) (N := 14) (k := 10) (ty := .int) tyX8 X Z in_X8 tyX8_ok nmX8 rfl (Nat.le_of_ble_eq_true rfl) (by decide +kernel) (by decide +kernel) (by decide +kernel) (zAll_of (zTb 576 (by decide +kernel)) (by decide +kernel)) rfl rfl q0 he hl bs' hb hdg kk
theorem zg_X8_34 {p : Program} {l : Launch} {e : Env} {R : Room} {s : State} {m : MethodId} {args : Array Value} {below : List Frame} {meth : Method} {c : Code} {H : Heap} {locs : List Loc} {cells slots : Nat} {Q : State → Prop} {cc : ByteArray} {nL : Nat} {D : va_G} {cI cR : ClassId} {A : Nat → Prop} {bs : zB} {pc : Nat} {ls : Array Slot} {rest : List Value} {a : Nat} {fs : List Value} {v : Value} (X : zX p s m c cc nL args RX8 D cI cR A) (Z : zW D A s bs H locs) (q0 : Nat) (he : (bl bs)[q0]? = some (a, .inr (8, fs))) (hv : fs[11]? = some v) (hdg : decode cc pc = .ok (.getfield 34, 3)) (kk : W p l e R s m args below meth c H locs cells slots Q (F0 m (pc + 3) ls (v :: rest))) : W p l e R s m args below meth c H locs cells slots Q (F0 m pc ls (.ref a :: rest)) :=
  z_get (C := RX8) (T := TX8) (N := 14) (k := 11) X Z in_X8 rfl (Nat.le_of_ble_eq_true rfl) (by decide +kernel) (zAll_of (zTb 577 (by decide +kernel)) (by decide +kernel)) q0 he hv hdg kk
theorem zg_X8_113 {p : Program} {l : Launch} {e : Env} {R : Room} {s : State} {m : MethodId} {args : Array Value} {below : List Frame} {meth : Method} {c : Code} {H : Heap} {locs : List Loc} {cells slots : Nat} {Q : State → Prop} {cc : ByteArray} {nL : Nat} {D : va_G} {cI cR : ClassId} {A : Nat → Prop} {bs : zB} {pc : Nat} {ls : Array Slot} {rest : List Value} {a : Nat} {fs : List Value} {v : Value} (X : zX p s m c cc nL args RX8 D cI cR A) (Z : zW D A s bs H locs) (q0 : Nat) (he : (bl bs)[q0]? = some (a, .inr (8, fs))) (hv : fs[12]? = some v) (hdg : decode cc pc = .ok (.getfield 113, 3)) (kk : W p l e R s m args below meth c H locs cells slots Q (F0 m (pc + 3) ls (v :: rest))) : W p l e R s m args below meth c H locs cells slots Q (F0 m pc ls (.ref a :: rest)) :=
  z_get (C := RX8) (T := TX8) (N := 14) (k := 12) X Z in_X8 rfl (Nat.le_of_ble_eq_true rfl) (by decide +kernel) (zAll_of (zTb 578 (by decide +kernel)) (by decide +kernel)) q0 he hv hdg kk
theorem zp_X8_113 {p : Program} {l : Launch} {e : Env} {R : Room} {s : State} {m : MethodId} {args : Array Value} {below : List Frame} {meth : Method} {c : Code} {H : Heap} {locs : List Loc} {cells slots : Nat} {Q : State → Prop} {cc : ByteArray} {nL : Nat} {D : va_G} {cI cR : ClassId} {A : Nat → Prop} {bs : zB} {pc : Nat} {ls : Array Slot} {rest : List Value} {a : Nat} {fs : List Value} {v : Int32} (X : zX p s m c cc nL args RX8 D cI cR A) (Z : zW D A s bs H locs) (q0 : Nat) (he : (bl bs)[q0]? = some (a, .inr (8, fs))) (hl : 12 < fs.length) (bs' : zB) (hb : (bl bs).set q0 (a, .inr (8, fs.set 12 (.int v))) = bl bs') (hdg : decode cc pc = .ok (.putfield 113, 3)) (kk : ∀ (H1 : Heap) (locs1 : List Loc), zW D A s bs' H1 locs1 → W p l e R s m args below meth c H1 locs1 cells slots Q (F0 m (pc + 3) ls rest)) : W p l e R s m args below meth c H locs cells slots Q (F0 m pc ls (.int v :: .ref a :: rest)) :=
  z_put (C := RX8) (T := TX8) (N := 14) (k := 12) (ty := .int) tyX8 X Z in_X8 tyX8_ok nmX8 rfl (Nat.le_of_ble_eq_true rfl) (by decide +kernel) (by decide +kernel) (by decide +kernel) (zAll_of (zTb 578 (by decide +kernel)) (by decide +kernel)) rfl rfl q0 he hl bs' hb hdg kk
theorem zg_X8_37 {p : Program} {l : Launch} {e : Env} {R : Room} {s : State} {m : MethodId} {args : Array Value} {below : List Frame} {meth : Method} {c : Code} {H : Heap} {locs : List Loc} {cells slots : Nat} {Q : State → Prop} {cc : ByteArray} {nL : Nat} {D : va_G} {cI cR : ClassId} {A : Nat → Prop} {bs : zB} {pc : Nat} {ls : Array Slot} {rest : List Value} {a : Nat} {fs : List Value} {v : Value} (X : zX p s m c cc nL args RX8 D cI cR A) (Z : zW D A s bs H locs) (q0 : Nat) (he : (bl bs)[q0]? = some (a, .inr (8, fs))) (hv : fs[13]? = some v) (hdg : decode cc pc = .ok (.getfield 37, 3)) (kk : W p l e R s m args below meth c H locs cells slots Q (F0 m (pc + 3) ls (v :: rest))) : W p l e R s m args below meth c H locs cells slots Q (F0 m pc ls (.ref a :: rest)) :=
  z_get (C := RX8) (T := TX8) (N := 14) (k := 13) X Z in_X8 rfl (Nat.le_of_ble_eq_true rfl) (by decide +kernel) (zAll_of (zTb 579 (by decide +kernel)) (by decide +kernel)) q0 he hv hdg kk
end
section
abbrev JT : Type := Int32 × (Nat → Int32) × Int32 × Int32 × Int32 × Int32 × Int32
abbrev ST : Type := JT × JT × Int32 × Int32 × Int32 × Int32
def zF : Nat := 100000
def w_X1 (cI cR : ClassId) (a0 a1 : Nat) (state : Int32) (heights : (Nat → Int32)) (passPlaces : Int32) (programLength : Int32) (place : Int32) (slips : Int32) (clashes : Int32) : va_W := [(a0, .inr (1, [.int state, .ref a1, .int passPlaces, .int programLength, .int place, .int slips, .int clashes]))] ++ ([(a1, .inl (cI, 8, .inl heights))])
def w_X4 (cI cR : ClassId) (a0 a1 a2 a3 a4 : Nat) (s : ST) : va_W := [(a0, .inr (4, [.ref a1, .ref a3, .int s.2.2.1, .int s.2.2.2.1, .int s.2.2.2.2.1, .int s.2.2.2.2.2]))] ++ (w_X1 cI cR a1 a2 s.1.1 s.1.2.1 s.1.2.2.1 s.1.2.2.2.1 s.1.2.2.2.2.1 s.1.2.2.2.2.2.1 s.1.2.2.2.2.2.2 ++ (w_X1 cI cR a3 a4 s.2.1.1 s.2.1.2.1 s.2.1.2.2.1 s.2.1.2.2.2.1 s.2.1.2.2.2.2.1 s.2.1.2.2.2.2.2.1 s.2.1.2.2.2.2.2.2))
def w_X2 (cI cR : ClassId) (a0 a1 : Nat) (codes : (Nat → Int32)) (length : Int32) : va_W := [(a0, .inr (2, [.ref a1, .int length]))] ++ ([(a1, .inl (cI, 30, .inl codes))])
def w_X3 (cI cR : ClassId) (a0 a1 : Nat) (heights : (Nat → Int32)) (length : Int32) : va_W := [(a0, .inr (3, [.ref a1, .int length]))] ++ ([(a1, .inl (cI, 8, .inl heights))])
def w_X5 (cI cR : ClassId) (a0 a1 a2 a3 a4 a5 : Nat) (kept : ST) (filled : Int32) : va_W := [(a0, .inr (5, [.ref a1, .int filled]))] ++ (w_X4 cI cR a1 a2 a3 a4 a5 kept)
def w_X6 (cI cR : ClassId) (a0 a1 a2 a3 a4 : Nat) (steps : (Nat → Int32)) (firstThrows : (Nat → Int32)) (lastThrows : (Nat → Int32)) (reached : (Nat → Int32)) (reachedCount : Int32) : va_W := [(a0, .inr (6, [.ref a1, .ref a2, .ref a3, .ref a4, .int reachedCount]))] ++ ([(a1, .inl (cI, 256, .inl steps))] ++ ([(a2, .inl (cI, 256, .inl firstThrows))] ++ ([(a3, .inl (cI, 256, .inl lastThrows))] ++ ([(a4, .inl (cI, 256, .inl reached))]))))
def w_X0 (cI cR : ClassId) (a : Nat → Nat) (rs : (Nat → ST)) (oldest : Int32) (size : Int32) : va_W := [(a 0, .inr (0, [.ref (a 1), .int oldest, .int size])), (a 1, .inl (cR, 6, .inr (.inr (.inr (.inr (fun k => if k < 6 then some (a (2 + 5 * k)) else none))))))] ++ (w_X4 cI cR (a 2) (a 3) (a 4) (a 5) (a 6) (rs 0) ++ (w_X4 cI cR (a 7) (a 8) (a 9) (a 10) (a 11) (rs 1) ++ (w_X4 cI cR (a 12) (a 13) (a 14) (a 15) (a 16) (rs 2) ++ (w_X4 cI cR (a 17) (a 18) (a 19) (a 20) (a 21) (rs 3) ++ (w_X4 cI cR (a 22) (a 23) (a 24) (a 25) (a 26) (rs 4) ++ (w_X4 cI cR (a 27) (a 28) (a 29) (a 30) (a 31) (rs 5)))))))
def w_X7 (cI cR : ClassId) (a : Nat → Nat) (now : ST) (ahead : ST) (pad_codes : (Nat → Int32)) (pad_length : Int32) (padPattern_heights : (Nat → Int32)) (padPattern_length : Int32) (ways_steps : (Nat → Int32)) (ways_firstThrows : (Nat → Int32)) (ways_lastThrows : (Nat → Int32)) (ways_reached : (Nat → Int32)) (ways_reachedCount : Int32) (history_rs : (Nat → ST)) (history_oldest : Int32) (history_size : Int32) (slotZero_kept : ST) (slotZero_filled : Int32) (slotOne_kept : ST) (slotOne_filled : Int32) : va_W := [((a 0), .inr (7, [.ref (a 1), .ref (a 6), .ref (a 11), .ref (a 13), .ref (a 15), .ref (a 20), .ref (a 52), .ref (a 58)]))] ++ (w_X4 cI cR (a 1) (a 2) (a 3) (a 4) (a 5) now ++ (w_X4 cI cR (a 6) (a 7) (a 8) (a 9) (a 10) ahead ++ (w_X2 cI cR (a 11) (a 12) pad_codes pad_length ++ (w_X3 cI cR (a 13) (a 14) padPattern_heights padPattern_length ++ (w_X6 cI cR (a 15) (a 16) (a 17) (a 18) (a 19) ways_steps ways_firstThrows ways_lastThrows ways_reached ways_reachedCount ++ (w_X0 cI cR (fun i => a (i + 20)) history_rs history_oldest history_size ++ (w_X5 cI cR (a 52) (a 53) (a 54) (a 55) (a 56) (a 57) slotZero_kept slotZero_filled ++ (w_X5 cI cR (a 58) (a 59) (a 60) (a 61) (a 62) (a 63) slotOne_kept slotOne_filled))))))))
def w_X8 (cI cR : ClassId) (a : Nat → Nat) (all : (Nat → Int32)) (kept : (Nat → Int32)) (history : (Nat → Int32)) (historyLong : Int32) (slots : (Nat → Int32)) (isSaved : (Nat → Int32)) (pad : (Nat → Int32)) (padLong : Int32) (readHeight : (Nat → Int32)) (readPass : (Nat → Int32)) (readMany : Int32) (heights : (Nat → Int32)) (many : Int32) (takes : (Nat → Int32)) : va_W := [((a 0), .inr (8, [.ref (a 1), .ref (a 2), .ref (a 3), .int historyLong, .ref (a 4), .ref (a 5), .ref (a 6), .int padLong, .ref (a 7), .ref (a 8), .int readMany, .ref (a 9), .int many, .ref (a 10)]))] ++ ([((a 1), .inl (cI, 46, .inl all))] ++ ([((a 2), .inl (cI, 46, .inl kept))] ++ ([((a 3), .inl (cI, 276, .inl history))] ++ ([((a 4), .inl (cI, 92, .inl slots))] ++ ([((a 5), .inl (cI, 2, .inl isSaved))] ++ ([((a 6), .inl (cI, 30, .inl pad))] ++ ([((a 7), .inl (cI, 8, .inl readHeight))] ++ ([((a 8), .inl (cI, 8, .inl readPass))] ++ ([((a 9), .inl (cI, 8, .inl heights))] ++ ([((a 10), .inl (cI, 256, .inl takes))]))))))))))
theorem oi_s {α : Type} {c : Prop} {i : Decidable c} {a : Option α} {r : α} (hf : @ite (Option α) c i a none = some r) : c ∧ a = some r := by
  by_cases h : c
  · rw [if_pos h] at hf; exact ⟨h, hf⟩
  · rw [if_neg h] at hf; cases hf
theorem z_ne {x k : Int32} (h : ¬ x = k) : x.toInt ≠ k.toInt := fun e => h (Int32.toInt_inj.mp e)
section ZL
variable {p : Program} {l : Launch} {e : Env} {R : Room} {s : State} {m : MethodId} {args : Array Value} {below : List Frame} {meth : Method} {c : Code} {H : Heap} {locs : List Loc} {cells slots : Nat} {Q : State → Prop}
variable {cc : ByteArray} {nL : Nat} {own : String} {D : va_G} {cI cR : ClassId} {A : Nat → Prop} {bs bs' wc : zB} {pc : Nat} {ls : Array Slot} {rest st0 : List Value} {a : Nat} {rv : Option Value}
theorem z_tabIn (hexec : p.tables.exec = Jvm.exec) (hb : c.code = cc) {dflt lo hi : Int} {offs : Array Int} {len : Nat} {x : Int32} {off : Int} {tgt : Nat} (k : Int32) (hk : x = k) (hdg : decode cc pc = .ok (.tableswitch dflt lo hi offs, len)) (h1 : ¬ k.toInt < lo) (h2 : ¬ hi < k.toInt) (ho : offs[(k.toInt - lo).toNat]? = some off) (ht : (pc : Int) + off = (tgt : Int))
    (kk : W p l e R s m args below meth c H locs cells slots Q (F0 m tgt ls rest)) : W p l e R s m args below meth c H locs cells slots Q (F0 m pc ls (.int x :: rest)) := by
  subst hk; exact lv_tableIn hexec hb hdg h1 h2 ho ht kk
theorem z_lookIn (hexec : p.tables.exec = Jvm.exec) (hb : c.code = cc) {dflt : Int} {ps : Array (Int × Int)} {len : Nat} {x : Int32} {off : Int} {tgt : Nat} (k : Int32) (hk : x = k) (hdg : decode cc pc = .ok (.lookupswitch dflt ps, len)) (hp : (ps.toList.zip (ps.toList.drop 1)).all (fun (a, next) => a.1 < next.1) = true) (ho : Op.lookupswitch.offset ps.toList dflt k.toInt = off) (ht : (pc : Int) + off = (tgt : Int))
    (kk : W p l e R s m args below meth c H locs cells slots Q (F0 m tgt ls rest)) : W p l e R s m args below meth c H locs cells slots Q (F0 m pc ls (.int x :: rest)) := by
  subst hk; exact lv_lookup hexec hb hdg hp ho ht kk
theorem z_ld {n : Nat} {f : Nat → Int32} {i : Int32} {j : Nat} (X : zX p s m c cc nL args own D cI cR A) (Z : zW D A s bs H locs) (q0 : Nat) (ha : (bl bs)[q0]? = some (a, .inl (cI, n, .inl f))) (hin : ¬ (i < 0 ∨ n ≤ i.toNatClampNeg)) (hj : i.toNatClampNeg = j) (hdg : decode cc pc = .ok (.iaload, 1))
    (kk : W p l e R s m args below meth c H locs cells slots Q (F0 m (pc + 1) ls (.int (f j) :: rest))) : W p l e R s m args below meth c H locs cells slots Q (F0 m pc ls (.int i :: .ref a :: rest)) := by
  subst hj; exact z_iald X Z q0 ha hin rfl hdg kk
theorem z_st {n : Nat} {f : Nat → Int32} {i x : Int32} {j : Nat} (X : zX p s m c cc nL args own D cI cR A) (Z : zW D A s bs H locs) (q0 : Nat) (ha : (bl bs)[q0]? = some (a, .inl (cI, n, .inl f))) (hin : ¬ (i < 0 ∨ n ≤ i.toNatClampNeg)) (hj : i.toNatClampNeg = j) (bs' : zB) (hb : (bl bs).set q0 (a, .inl (cI, n, .inl (upd f j x))) = bl bs') (hdg : decode cc pc = .ok (.iastore, 1))
    (kk : ∀ (H1 : Heap) (locs1 : List Loc), zW D A s bs' H1 locs1 → W p l e R s m args below meth c H1 locs1 cells slots Q (F0 m (pc + 1) ls rest)) : W p l e R s m args below meth c H locs cells slots Q (F0 m pc ls (.int x :: .int i :: .ref a :: rest)) := by
  subst hj; exact z_iast X Z q0 ha hin bs' hb hdg kk
variable {y : MethodName} {bytes : ByteArray} {maxL fr lo n index : Nat} {ret : Option FieldType} {C host : String} {b : Nat} {As : List Value}
theorem z_roV (X : zX p s m c cc nL args own D cI cR A) (Z : zW D A s bs H locs) (hM : zM l D cI cR y bytes maxL ret fr lo (.ref b :: As) wc rv wc) (cw : CallW R s args own C index y bytes maxL ret (zWs y bytes maxL ret) { frames := fr, cells := 0, slots := 0, locals := lo } 0 0 n) (q0 ci : Nat) {fs : List Value} {r : vw_C} (hrec : (bl bs)[q0]? = some (b, .inr (ci, fs))) (hcl : vwCl[ci]? = some r) (hC0 : r.1 = C) (isC isR : List Nat) (hp : (isC ++ isR).Perm (List.range bs.length)) (hC : isC.map (fun i => bs[i]?) = wc.map some)
    (hn : As.length = n) (hsz : ls.size = nL) (hst : st0 = As.reverse ++ .ref b :: rest) (hW8 : (rest.map fun v => v.category).sum ≤ 8) (hdg : decode cc pc = .ok (.invokevirtual index, 3)) (hf : cells ≤ R.cells ∧ slots ≤ R.slots)
    (kk : ∀ (H1 : Heap) (locs1 : List Loc), zW D A s bs H1 locs1 → W p l e R s m args below meth c H1 locs1 cells slots Q (F0 m (pc + 3) ls (rv.toList ++ rest))) : W p l e R s m args below meth c H locs cells slots Q (F0 m pc ls st0) :=
  z_callV X Z hM cw q0 ci hrec hcl hC0 isC isR bs hp hC hC rfl rfl hn hsz hst hW8 hdg hf kk
theorem z_roVN (X : zX p s m c cc nL args own D cI cR A) (Z : zW D A s bs H locs) (hM : zM l D cI cR y bytes maxL ret fr lo (.ref b :: As) wc rv wc) (cw : va_CN R s args own index y host bytes maxL ret (zWs y bytes maxL ret) { frames := fr, cells := 0, slots := 0, locals := lo } 0 0 n ∧ (Cond.instanceMethod y).before args s = true ∧ (Cond.selects C y y).before args s = true) (q0 ci : Nat) {fs : List Value} {r : vw_C} (hrec : (bl bs)[q0]? = some (b, .inr (ci, fs))) (hcl : vwCl[ci]? = some r) (hC0 : r.1 = C) (isC isR : List Nat) (hp : (isC ++ isR).Perm (List.range bs.length)) (hC : isC.map (fun i => bs[i]?) = wc.map some)
    (hn : As.length = n) (hsz : ls.size = nL) (hst : st0 = As.reverse ++ .ref b :: rest) (hW8 : (rest.map fun v => v.category).sum ≤ 8) (hdg : decode cc pc = .ok (.invokevirtual index, 3)) (hf : cells ≤ R.cells ∧ slots ≤ R.slots)
    (kk : ∀ (H1 : Heap) (locs1 : List Loc), zW D A s bs H1 locs1 → W p l e R s m args below meth c H1 locs1 cells slots Q (F0 m (pc + 3) ls (rv.toList ++ rest))) : W p l e R s m args below meth c H locs cells slots Q (F0 m pc ls st0) :=
  z_callVN X Z hM cw q0 ci hrec hcl hC0 isC isR bs hp hC hC rfl rfl hn hsz hst hW8 hdg hf kk
theorem z_roS (X : zX p s m c cc nL args own D cI cR A) (Z : zW D A s bs H locs) (hM : zM l D cI cR y bytes maxL ret fr lo As wc rv wc) (cw : CallB R s args own index y bytes maxL ret (zWs y bytes maxL ret) { frames := fr, cells := 0, slots := 0, locals := lo } 0 0 n ∧ (Cond.static y).before args s = true) (isC isR : List Nat) (hp : (isC ++ isR).Perm (List.range bs.length)) (hC : isC.map (fun i => bs[i]?) = wc.map some)
    (hn : As.length = n) (hsz : ls.size = nL) (hst : st0 = As.reverse ++ rest) (hW8 : (rest.map fun v => v.category).sum ≤ 8) (hdg : decode cc pc = .ok (.invokestatic index, 3)) (hf : cells ≤ R.cells ∧ slots ≤ R.slots)
    (kk : ∀ (H1 : Heap) (locs1 : List Loc), zW D A s bs H1 locs1 → W p l e R s m args below meth c H1 locs1 cells slots Q (F0 m (pc + 3) ls (rv.toList ++ rest))) : W p l e R s m args below meth c H locs cells slots Q (F0 m pc ls st0) :=
  z_callS X Z hM cw isC isR bs hp hC hC rfl rfl hn hsz hst hW8 hdg hf kk
theorem z_roSN (X : zX p s m c cc nL args own D cI cR A) (Z : zW D A s bs H locs) (hM : zM l D cI cR y bytes maxL ret fr lo As wc rv wc) (cw : va_CN R s args own index y host bytes maxL ret (zWs y bytes maxL ret) { frames := fr, cells := 0, slots := 0, locals := lo } 0 0 n ∧ (Cond.static y).before args s = true ∧ True) (isC isR : List Nat) (hp : (isC ++ isR).Perm (List.range bs.length)) (hC : isC.map (fun i => bs[i]?) = wc.map some)
    (hn : As.length = n) (hsz : ls.size = nL) (hst : st0 = As.reverse ++ rest) (hW8 : (rest.map fun v => v.category).sum ≤ 8) (hdg : decode cc pc = .ok (.invokestatic index, 3)) (hf : cells ≤ R.cells ∧ slots ≤ R.slots)
    (kk : ∀ (H1 : Heap) (locs1 : List Loc), zW D A s bs H1 locs1 → W p l e R s m args below meth c H1 locs1 cells slots Q (F0 m (pc + 3) ls (rv.toList ++ rest))) : W p l e R s m args below meth c H locs cells slots Q (F0 m pc ls st0) :=
  z_callSN X Z hM cw isC isR bs hp hC hC rfl rfl hn hsz hst hW8 hdg hf kk
end ZL
set_option maxHeartbeats 4000000 in
theorem z_ofF {l : Launch} {D : va_G} {cI cR : ClassId} {y : MethodName} {cc : ByteArray} {maxL : Nat} {ret : Option FieldType} {fr lo : Nat} {As : List Value} {wc wc' : zB} {rv : Option Value} {own : String} (ho : y.cls = own) (hy : plainFor y = true) (hn : (lg_sl As).length ≤ maxL)
    (body : ∀ (p : Program) (e : Env) (s : State) (m : MethodId) (args : Array Value) (below : List Frame) (meth : Method) (c : Code) (A : Nat → Prop) (ls : Array Slot), zX p s m c cc maxL args own D cI cR A → meth.sig.returnType = ret → meth.locks = false → zW D A s wc s.heap [] → lv_has ls maxL (lv_args 0 As) →
      W p l e ({ frames := fr, cells := 0, slots := 0, locals := lo } : Room) s m args below meth c s.heap [] 0 0 (zE D A below s args rv wc') (F0 m 0 ls [])) : zM l D cI cR y cc maxL ret fr lo As wc rv wc' := by
  intro sz
  refine MetFree.of_bodySF (code := cc) (maxLocals := maxL) (ret := ret) hy ?_ ?_
  · intro args s m h hn
    obtain ⟨meth, c, h1, h2, h3, h4, h5, h6, -, -⟩ := Cond.code_spec hn (atoms_spec (ws := zWs y cc maxL ret) h _ List.mem_cons_self)
    exact ⟨meth, c, h1, h2, h3, h4, h5, h6⟩
  intro p e s m args below meth c s₁ B hml hv _
  have hh0 : s₁.heap = s.heap := by rw [B.state]; rfl
  suffices hW : W p l e (headSpec (zWs y cc maxL ret) { frames := fr, cells := 0, slots := 0, locals := lo }).room s m args below meth c s.heap [] 0 0 (MQ below (zQ D rv wc wc' sz) args s 0 0 (va_A (bl wc) sz)) (entryFrame m args maxL) by
    obtain ⟨t, a1, o, b1, b2, b3⟩ := hW s₁ hh0 (Stand.of_body B)
    exact ⟨t, o, a1, b1, b2, ⟨b3.1, b3.2⟩⟩
  obtain ⟨rfl, hsz, hP, hK, hD0⟩ := hv
  subst hsz
  have hts := atoms_spec (ws := zWs y cc maxL ret) B.pre
  have hx := B.exec
  have hb := B.bytes
  have hr := B.returns
  have hown : s.vm.findClass y.cls = some m.cls := findClass_of_methodNamed B.named
  rw [ho] at hown
  have hlocks := B.notSynchronized
  have hD := hD0.self (sz := s.heap.size)
  have hl := lv_entry As (n := maxL) hn
  rw [lg_entry_eq]
  generalize (lg_sl As ++ List.replicate (maxL - (lg_sl As).length) Slot.unset).toArray = ls at hl ⊢
  exact body p e s m _ below meth c (va_A (bl wc) s.heap.size) ls ⟨⟨hx, hb, hml, hown, fun w hw => hts w (List.mem_cons_of_mem _ hw)⟩, hK, fun q h => Or.inr h⟩ hr hlocks ⟨hP, hD, va_S.rf⟩ hl
end
section
def f_X7_isWithin (p0 : Int32) (p1 : Int32) (p2 : Int32) : Option (Int32) := if p0 < p1 then (some (0 : Int32)) else (if p2 < p0 then (some (0 : Int32)) else (some (1 : Int32)))
set_option maxHeartbeats 4000000 in
set_option maxRecDepth 100000 in
theorem c_X7_isWithin (l : Launch) (D : va_G) (cI cR : ClassId) (p0 : Int32) (p1 : Int32) (p2 : Int32) {R : Int32} (hf : f_X7_isWithin p0 p1 p2 = some R) : zM l D cI cR yX7_isWithin cX7_isWithin 3 (some .boolean) 0 0 [.int p0, .int p1, .int p2] [] (some (.int R)) [] := by
  refine z_of (own := RX7) rfl (by decide) (Nat.le_of_ble_eq_true rfl) ?_
  intro p e s m args below meth c A ls X hr hlocks Z hl
  have hx := X.1.1
  have hb := X.1.2.1
  have Z : zW D A s [] s.heap [] := Z
  have hl : lv_has ls 3 [(0, .int p0), (1, .int p1), (2, .int p2)] := hl
  refine lv_iload_n hx hb dX7_isWithin_0 rfl (lv_at hl 0 rfl) ?_
  refine lv_iload_n hx hb dX7_isWithin_1 rfl (lv_at hl 1 rfl) ?_
  refine lv_icmp_lt (tgt := 14) hx hb dX7_isWithin_2 (by decide) (fun c1 => ?_) (fun c1 => ?_)
  · have hf := it_t c1 hf
    refine lv_iconst (v := 0) hx hb dX7_isWithin_14 (by decide) ?_
    have hR := so_s hf
    subst hR
    refine z_zret X hr hlocks (by decide) ?_ dX7_isWithin_15
    exact Z.eq rfl
  · have hf := it_f c1 hf
    refine lv_iload_n hx hb dX7_isWithin_5 rfl (lv_at hl 0 rfl) ?_
    refine lv_iload_n hx hb dX7_isWithin_6 rfl (lv_at hl 2 rfl) ?_
    refine lv_icmp_gt (tgt := 14) hx hb dX7_isWithin_7 (by decide) (fun c2 => ?_) (fun c2 => ?_)
    · have hf := it_t c2 hf
      refine lv_iconst (v := 0) hx hb dX7_isWithin_14 (by decide) ?_
      have hR := so_s hf
      subst hR
      refine z_zret X hr hlocks (by decide) ?_ dX7_isWithin_15
      exact Z.eq rfl
    · have hf := it_f c2 hf
      refine lv_iconst (v := 1) hx hb dX7_isWithin_10 (by decide) ?_
      refine lv_goto (tgt := 15) hx hb dX7_isWithin_11 (by decide) ?_
      have hR := so_s hf
      subst hR
      refine z_zret X hr hlocks (by decide) ?_ dX7_isWithin_15
      exact Z.eq rfl
theorem b_X7_isWithin {p0 : Int32} {p1 : Int32} {p2 : Int32} {R : Int32} (hf : f_X7_isWithin p0 p1 p2 = some R) : R = 0 ∨ R = 1 := by
  rcases Decidable.em (p0 < p1) with c1 | c1
  · have hf := it_t c1 hf
    have hR := so_s hf
    subst hR
    exact (by decide)
  · have hf := it_f c1 hf
    rcases Decidable.em (p2 < p0) with c2 | c2
    · have hf := it_t c2 hf
      have hR := so_s hf
      subst hR
      exact (by decide)
    · have hf := it_f c2 hf
      have hR := so_s hf
      subst hR
      exact (by decide)
def f_X7_isJuggler (p0 : Int32) : Option (Int32) := (f_X7_isWithin p0 (0 : Int32) (1 : Int32)).bind (fun q1 => some q1)
set_option maxHeartbeats 4000000 in
set_option maxRecDepth 100000 in
theorem c_X7_isJuggler (l : Launch) (D : va_G) (cI cR : ClassId) (p0 : Int32) {R : Int32} (hf : f_X7_isJuggler p0 = some R) : zM l D cI cR yX7_isJuggler cX7_isJuggler 1 (some .boolean) 1 22 [.int p0] [] (some (.int R)) [] := by
  refine z_of (own := RX7) rfl (by decide) (Nat.le_of_ble_eq_true rfl) ?_
  intro p e s m args below meth c A ls X hr hlocks Z hl
  have hx := X.1.1
  have hb := X.1.2.1
  have Z : zW D A s [] s.heap [] := Z
  have hl : lv_has ls 1 [(0, .int p0)] := hl
  refine lv_iload_n hx hb dX7_isJuggler_0 rfl (lv_at hl 0 rfl) ?_
  refine lv_iconst (v := 0) hx hb dX7_isJuggler_1 (by decide) ?_
  refine lv_iconst (v := 1) hx hb dX7_isJuggler_2 (by decide) ?_
  obtain ⟨q1, hq1, hf⟩ := ob_s hf
  refine z_roS X Z (c_X7_isWithin l D cI cR   p0 (0 : Int32) (1 : Int32) hq1) (zw_X7_57 X.1.2.2.2.2 ⟨Nat.le_of_ble_eq_true rfl, Nat.le_of_ble_eq_true rfl⟩) [] [] (by decide : ([] ++ [] : List Nat).Perm (List.range 0)) rfl rfl hl.1 rfl (Nat.le_of_ble_eq_true rfl) dX7_isJuggler_3 ⟨Nat.le_of_ble_eq_true rfl, Nat.le_of_ble_eq_true rfl⟩ (fun H locs Z => ?_)
  have hR := so_s hf
  subst hR
  refine z_zret X hr hlocks (b_X7_isWithin hq1) ?_ dX7_isJuggler_6
  exact Z.eq rfl
theorem b_X7_isJuggler {p0 : Int32} {R : Int32} (hf : f_X7_isJuggler p0 = some R) : R = 0 ∨ R = 1 := by
  obtain ⟨q1, hq1, hf⟩ := ob_s hf
  have hR := so_s hf
  subst hR
  exact (b_X7_isWithin hq1)
def f_X7_isBeat (p0 : Int32) : Option (Int32) := (f_X7_isWithin p0 (0 : Int32) (7 : Int32)).bind (fun q1 => some q1)
set_option maxHeartbeats 4000000 in
set_option maxRecDepth 100000 in
theorem c_X7_isBeat (l : Launch) (D : va_G) (cI cR : ClassId) (p0 : Int32) {R : Int32} (hf : f_X7_isBeat p0 = some R) : zM l D cI cR yX7_isBeat cX7_isBeat 1 (some .boolean) 1 22 [.int p0] [] (some (.int R)) [] := by
  refine z_of (own := RX7) rfl (by decide) (Nat.le_of_ble_eq_true rfl) ?_
  intro p e s m args below meth c A ls X hr hlocks Z hl
  have hx := X.1.1
  have hb := X.1.2.1
  have Z : zW D A s [] s.heap [] := Z
  have hl : lv_has ls 1 [(0, .int p0)] := hl
  refine lv_iload_n hx hb dX7_isBeat_0 rfl (lv_at hl 0 rfl) ?_
  refine lv_iconst (v := 0) hx hb dX7_isBeat_1 (by decide) ?_
  refine lv_bipush (v := 7) hx hb dX7_isBeat_2 (by decide) ?_
  obtain ⟨q1, hq1, hf⟩ := ob_s hf
  refine z_roS X Z (c_X7_isWithin l D cI cR   p0 (0 : Int32) (7 : Int32) hq1) (zw_X7_57 X.1.2.2.2.2 ⟨Nat.le_of_ble_eq_true rfl, Nat.le_of_ble_eq_true rfl⟩) [] [] (by decide : ([] ++ [] : List Nat).Perm (List.range 0)) rfl rfl hl.1 rfl (Nat.le_of_ble_eq_true rfl) dX7_isBeat_4 ⟨Nat.le_of_ble_eq_true rfl, Nat.le_of_ble_eq_true rfl⟩ (fun H locs Z => ?_)
  have hR := so_s hf
  subst hR
  refine z_zret X hr hlocks (b_X7_isWithin hq1) ?_ dX7_isBeat_7
  exact Z.eq rfl
theorem b_X7_isBeat {p0 : Int32} {R : Int32} (hf : f_X7_isBeat p0 = some R) : R = 0 ∨ R = 1 := by
  obtain ⟨q1, hq1, hf⟩ := ob_s hf
  have hR := so_s hf
  subst hR
  exact (b_X7_isWithin hq1)
def f_X7_isSlot (p0 : Int32) : Option (Int32) := (f_X7_isWithin p0 (0 : Int32) (1 : Int32)).bind (fun q1 => some q1)
set_option maxHeartbeats 4000000 in
set_option maxRecDepth 100000 in
theorem c_X7_isSlot (l : Launch) (D : va_G) (cI cR : ClassId) (p0 : Int32) {R : Int32} (hf : f_X7_isSlot p0 = some R) : zM l D cI cR yX7_isSlot cX7_isSlot 1 (some .boolean) 1 22 [.int p0] [] (some (.int R)) [] := by
  refine z_of (own := RX7) rfl (by decide) (Nat.le_of_ble_eq_true rfl) ?_
  intro p e s m args below meth c A ls X hr hlocks Z hl
  have hx := X.1.1
  have hb := X.1.2.1
  have Z : zW D A s [] s.heap [] := Z
  have hl : lv_has ls 1 [(0, .int p0)] := hl
  refine lv_iload_n hx hb dX7_isSlot_0 rfl (lv_at hl 0 rfl) ?_
  refine lv_iconst (v := 0) hx hb dX7_isSlot_1 (by decide) ?_
  refine lv_iconst (v := 1) hx hb dX7_isSlot_2 (by decide) ?_
  obtain ⟨q1, hq1, hf⟩ := ob_s hf
  refine z_roS X Z (c_X7_isWithin l D cI cR   p0 (0 : Int32) (1 : Int32) hq1) (zw_X7_57 X.1.2.2.2.2 ⟨Nat.le_of_ble_eq_true rfl, Nat.le_of_ble_eq_true rfl⟩) [] [] (by decide : ([] ++ [] : List Nat).Perm (List.range 0)) rfl rfl hl.1 rfl (Nat.le_of_ble_eq_true rfl) dX7_isSlot_3 ⟨Nat.le_of_ble_eq_true rfl, Nat.le_of_ble_eq_true rfl⟩ (fun H locs Z => ?_)
  have hR := so_s hf
  subst hR
  refine z_zret X hr hlocks (b_X7_isWithin hq1) ?_ dX7_isSlot_6
  exact Z.eq rfl
theorem b_X7_isSlot {p0 : Int32} {R : Int32} (hf : f_X7_isSlot p0 = some R) : R = 0 ∨ R = 1 := by
  obtain ⟨q1, hq1, hf⟩ := ob_s hf
  have hR := so_s hf
  subst hR
  exact (b_X7_isWithin hq1)
def f_X7_oneIf (p0 : Int32) : Option (Int32) := if p0 = 0 then (some (0 : Int32)) else (some (1 : Int32))
set_option maxHeartbeats 4000000 in
set_option maxRecDepth 100000 in
theorem c_X7_oneIf (l : Launch) (D : va_G) (cI cR : ClassId) (p0 : Int32) {R : Int32} (hf : f_X7_oneIf p0 = some R) : zM l D cI cR yX7_oneIf cX7_oneIf 1 (some .int) 0 0 [.int p0] [] (some (.int R)) [] := by
  refine z_of (own := RX7) rfl (by decide) (Nat.le_of_ble_eq_true rfl) ?_
  intro p e s m args below meth c A ls X hr hlocks Z hl
  have hx := X.1.1
  have hb := X.1.2.1
  have Z : zW D A s [] s.heap [] := Z
  have hl : lv_has ls 1 [(0, .int p0)] := hl
  refine lv_iload_n hx hb dX7_oneIf_0 rfl (lv_at hl 0 rfl) ?_
  refine lv_if_eq (tgt := 8) hx hb dX7_oneIf_1 (by decide) (fun c1 => ?_) (fun c1 => ?_)
  · have hf := it_t c1 hf
    refine lv_iconst (v := 0) hx hb dX7_oneIf_8 (by decide) ?_
    have hR := so_s hf
    subst hR
    refine z_iret X hr hlocks ?_ dX7_oneIf_9
    exact Z.eq rfl
  · have hf := it_f c1 hf
    refine lv_iconst (v := 1) hx hb dX7_oneIf_4 (by decide) ?_
    refine lv_goto (tgt := 9) hx hb dX7_oneIf_5 (by decide) ?_
    have hR := so_s hf
    subst hR
    refine z_iret X hr hlocks ?_ dX7_oneIf_9
    exact Z.eq rfl
def f_X7_firstBeats (p0 : Int32) : Option (Int32) := some (((1 : Int32) <<< (p0 &&& 31)) - (1 : Int32))
set_option maxHeartbeats 4000000 in
set_option maxRecDepth 100000 in
theorem c_X7_firstBeats (l : Launch) (D : va_G) (cI cR : ClassId) (p0 : Int32) {R : Int32} (hf : f_X7_firstBeats p0 = some R) : zM l D cI cR yX7_firstBeats cX7_firstBeats 1 (some .int) 0 0 [.int p0] [] (some (.int R)) [] := by
  refine z_of (own := RX7) rfl (by decide) (Nat.le_of_ble_eq_true rfl) ?_
  intro p e s m args below meth c A ls X hr hlocks Z hl
  have hx := X.1.1
  have hb := X.1.2.1
  have Z : zW D A s [] s.heap [] := Z
  have hl : lv_has ls 1 [(0, .int p0)] := hl
  refine lv_iconst (v := 1) hx hb dX7_firstBeats_0 (by decide) ?_
  refine lv_iload_n hx hb dX7_firstBeats_1 rfl (lv_at hl 0 rfl) ?_
  refine lv_ishl hx hb dX7_firstBeats_2 ?_
  refine lv_iconst (v := 1) hx hb dX7_firstBeats_3 (by decide) ?_
  refine lv_isub hx hb dX7_firstBeats_4 ?_
  have hR := so_s hf
  subst hR
  refine z_iret X hr hlocks ?_ dX7_firstBeats_5
  exact Z.eq rfl
def f_X7_has (p0 : Int32) (p1 : Int32) : Option (Int32) := if ((p0 >>> (p1 &&& 31)) &&& (1 : Int32)) = 0 then (some (0 : Int32)) else (some (1 : Int32))
set_option maxHeartbeats 4000000 in
set_option maxRecDepth 100000 in
theorem c_X7_has (l : Launch) (D : va_G) (cI cR : ClassId) (p0 : Int32) (p1 : Int32) {R : Int32} (hf : f_X7_has p0 p1 = some R) : zM l D cI cR yX7_has cX7_has 2 (some .boolean) 0 0 [.int p0, .int p1] [] (some (.int R)) [] := by
  refine z_of (own := RX7) rfl (by decide) (Nat.le_of_ble_eq_true rfl) ?_
  intro p e s m args below meth c A ls X hr hlocks Z hl
  have hx := X.1.1
  have hb := X.1.2.1
  have Z : zW D A s [] s.heap [] := Z
  have hl : lv_has ls 2 [(0, .int p0), (1, .int p1)] := hl
  refine lv_iload_n hx hb dX7_has_0 rfl (lv_at hl 0 rfl) ?_
  refine lv_iload_n hx hb dX7_has_1 rfl (lv_at hl 1 rfl) ?_
  refine lv_ishr hx hb dX7_has_2 ?_
  refine lv_iconst (v := 1) hx hb dX7_has_3 (by decide) ?_
  refine lv_iand hx hb dX7_has_4 ?_
  refine lv_if_eq (tgt := 12) hx hb dX7_has_5 (by decide) (fun c1 => ?_) (fun c1 => ?_)
  · have hf := it_t c1 hf
    refine lv_iconst (v := 0) hx hb dX7_has_12 (by decide) ?_
    have hR := so_s hf
    subst hR
    refine z_zret X hr hlocks (by decide) ?_ dX7_has_13
    exact Z.eq rfl
  · have hf := it_f c1 hf
    refine lv_iconst (v := 1) hx hb dX7_has_8 (by decide) ?_
    refine lv_goto (tgt := 13) hx hb dX7_has_9 (by decide) ?_
    have hR := so_s hf
    subst hR
    refine z_zret X hr hlocks (by decide) ?_ dX7_has_13
    exact Z.eq rfl
theorem b_X7_has {p0 : Int32} {p1 : Int32} {R : Int32} (hf : f_X7_has p0 p1 = some R) : R = 0 ∨ R = 1 := by
  rcases Decidable.em (((p0 >>> (p1 &&& 31)) &&& (1 : Int32)) = 0) with c1 | c1
  · have hf := it_t c1 hf
    have hR := so_s hf
    subst hR
    exact (by decide)
  · have hf := it_f c1 hf
    have hR := so_s hf
    subst hR
    exact (by decide)
def f_X7_valueAt (an : Nat) (a_h : (Nat → Int32)) (p1 : Int32) : Option (Int32) := if p1 < 0 then (some (0 : Int32)) else (if (Int32.ofNat an) ≤ p1 then (some (0 : Int32)) else (if p1 < 0 ∨ an ≤ p1.toNatClampNeg then none else (some (a_h p1.toNatClampNeg))))
set_option maxHeartbeats 4000000 in
set_option maxRecDepth 100000 in
theorem c_X7_valueAt (l : Launch) (D : va_G) (cI cR : ClassId) (a0 : Nat) (an : Nat) (a_h : (Nat → Int32)) (p1 : Int32) {R : Int32} (hf : f_X7_valueAt an a_h p1 = some R) : zM l D cI cR yX7_valueAt cX7_valueAt 2 (some .int) 0 0 [.ref a0, .int p1] [[(a0, .inl (cI, an, .inl a_h))]] (some (.int R)) [[(a0, .inl (cI, an, .inl a_h))]] := by
  refine z_of (own := RX7) rfl (by decide) (Nat.le_of_ble_eq_true rfl) ?_
  intro p e s m args below meth c A ls X hr hlocks Z hl
  have hx := X.1.1
  have hb := X.1.2.1
  have Z : zW D A s [[(a0, .inl (cI, an, .inl a_h))]] s.heap [] := Z
  have hl : lv_has ls 2 [(0, .ref a0), (1, .int p1)] := hl
  refine lv_iload_n hx hb dX7_valueAt_0 rfl (lv_at hl 1 rfl) ?_
  refine lv_if_lt (tgt := 16) hx hb dX7_valueAt_1 (by decide) (fun c1 => ?_) (fun c1 => ?_)
  · have hf := it_t c1 hf
    refine lv_iconst (v := 0) hx hb dX7_valueAt_16 (by decide) ?_
    have hR := so_s hf
    subst hR
    refine z_iret X hr hlocks ?_ dX7_valueAt_17
    exact Z.eq rfl
  · have hf := it_f c1 hf
    refine lv_iload_n hx hb dX7_valueAt_4 rfl (lv_at hl 1 rfl) ?_
    refine lv_aload_n hx hb dX7_valueAt_5 rfl (lv_at hl 0 rfl) ?_
    refine z_alen  X Z 0 rfl rfl dX7_valueAt_6 ?_
    refine lv_icmp_ge (tgt := 16) hx hb dX7_valueAt_7 (by decide) (fun c2 => ?_) (fun c2 => ?_)
    · have hf := it_t c2 hf
      refine lv_iconst (v := 0) hx hb dX7_valueAt_16 (by decide) ?_
      have hR := so_s hf
      subst hR
      refine z_iret X hr hlocks ?_ dX7_valueAt_17
      exact Z.eq rfl
    · have hf := it_f c2 hf
      refine lv_aload_n hx hb dX7_valueAt_10 rfl (lv_at hl 0 rfl) ?_
      refine lv_iload_n hx hb dX7_valueAt_11 rfl (lv_at hl 1 rfl) ?_
      obtain ⟨i3, hf⟩ := in_s hf
      refine z_ld (j := p1.toNatClampNeg) X Z 0 rfl i3 rfl dX7_valueAt_12 ?_
      refine lv_goto (tgt := 17) hx hb dX7_valueAt_13 (by decide) ?_
      have hR := so_s hf
      subst hR
      refine z_iret X hr hlocks ?_ dX7_valueAt_17
      exact Z.eq rfl
def f_X7_setAt (an : Nat) (a_h : (Nat → Int32)) (p1 : Int32) (p2 : Int32) : Option ((Nat → Int32)) := if p1 < 0 then (some a_h) else (if (Int32.ofNat an) ≤ p1 then (some a_h) else (if p1 < 0 ∨ an ≤ p1.toNatClampNeg then none else (some (upd a_h p1.toNatClampNeg p2))))
set_option maxHeartbeats 4000000 in
set_option maxRecDepth 100000 in
theorem c_X7_setAt (l : Launch) (D : va_G) (cI cR : ClassId) (a0 : Nat) (an : Nat) (a_h : (Nat → Int32)) (p1 : Int32) (p2 : Int32) {R : (Nat → Int32)} (hf : f_X7_setAt an a_h p1 p2 = some R) : zM l D cI cR yX7_setAt cX7_setAt 3 none 0 0 [.ref a0, .int p1, .int p2] [[(a0, .inl (cI, an, .inl a_h))]] none [[(a0, .inl (cI, an, .inl R))]] := by
  refine z_of (own := RX7) rfl (by decide) (Nat.le_of_ble_eq_true rfl) ?_
  intro p e s m args below meth c A ls X hr hlocks Z hl
  have hx := X.1.1
  have hb := X.1.2.1
  have Z : zW D A s [[(a0, .inl (cI, an, .inl a_h))]] s.heap [] := Z
  have hl : lv_has ls 3 [(0, .ref a0), (1, .int p1), (2, .int p2)] := hl
  refine lv_iload_n hx hb dX7_setAt_0 rfl (lv_at hl 1 rfl) ?_
  refine lv_if_lt (tgt := 14) hx hb dX7_setAt_1 (by decide) (fun c1 => ?_) (fun c1 => ?_)
  · have hf := it_t c1 hf
    have hR := so_s hf
    subst hR
    refine z_vret X hr hlocks ?_ dX7_setAt_14
    exact Z.eq rfl
  · have hf := it_f c1 hf
    refine lv_iload_n hx hb dX7_setAt_4 rfl (lv_at hl 1 rfl) ?_
    refine lv_aload_n hx hb dX7_setAt_5 rfl (lv_at hl 0 rfl) ?_
    refine z_alen  X Z 0 rfl rfl dX7_setAt_6 ?_
    refine lv_icmp_ge (tgt := 14) hx hb dX7_setAt_7 (by decide) (fun c2 => ?_) (fun c2 => ?_)
    · have hf := it_t c2 hf
      have hR := so_s hf
      subst hR
      refine z_vret X hr hlocks ?_ dX7_setAt_14
      exact Z.eq rfl
    · have hf := it_f c2 hf
      refine lv_aload_n hx hb dX7_setAt_10 rfl (lv_at hl 0 rfl) ?_
      refine lv_iload_n hx hb dX7_setAt_11 rfl (lv_at hl 1 rfl) ?_
      refine lv_iload_n hx hb dX7_setAt_12 rfl (lv_at hl 2 rfl) ?_
      obtain ⟨i3, hf⟩ := in_s hf
      refine z_st (j := p1.toNatClampNeg) X Z 0 rfl i3 rfl [[(a0, .inl (cI, an, .inl (upd a_h p1.toNatClampNeg p2)))]] rfl dX7_setAt_13 (fun H locs Z => ?_)
      have hR := so_s hf
      subst hR
      refine z_vret X hr hlocks ?_ dX7_setAt_14
      exact Z.eq rfl
def f_J9_floorMod_7cf53 (p0 : Int32) (p1 : Int32) : Option (Int32) := if p1 = 0 then none else (if 0 ≤ (p0 ^^^ p1) then (some (p0 - p0 / p1 * p1)) else (if (p0 - p0 / p1 * p1) = 0 then (some (p0 - p0 / p1 * p1)) else (some ((p0 - p0 / p1 * p1) + p1))))
set_option maxHeartbeats 4000000 in
set_option maxRecDepth 100000 in
theorem c_J9_floorMod_7cf53 (l : Launch) (D : va_G) (cI cR : ClassId) (p0 : Int32) (p1 : Int32) {R : Int32} (hf : f_J9_floorMod_7cf53 p0 p1 = some R) : zM l D cI cR yJ9_floorMod_7cf53 cJ9_floorMod_7cf53 3 (some .int) 0 0 [.int p0, .int p1] [] (some (.int R)) [] := by
  refine z_ofF (own := RJ9) rfl (by decide +kernel) (Nat.le_of_ble_eq_true rfl) ?_
  intro p e s m args below meth c A ls X hr hlocks Z hl
  have hx := X.1.1
  have hb := X.1.2.1
  have Z : zW D A s [] s.heap [] := Z
  have hl : lv_has ls 3 [(0, .int p0), (1, .int p1)] := hl
  refine lv_iload_n hx hb dJ9_floorMod_7cf53_0 rfl (lv_at hl 0 rfl) ?_
  refine lv_iload_n hx hb dJ9_floorMod_7cf53_1 rfl (lv_at hl 1 rfl) ?_
  obtain ⟨i1, hf⟩ := in_s hf
  refine lv_irem hx hb dJ9_floorMod_7cf53_2 i1 ?_
  refine lv_istore_n (lv' := [(2, .int (p0 - p0 / p1 * p1)), (0, .int p0), (1, .int p1)]) hx hb dJ9_floorMod_7cf53_3 rfl hl (by decide) rfl (fun ls hl => ?_)
  refine lv_iload_n hx hb dJ9_floorMod_7cf53_4 rfl (lv_at hl 1 rfl) ?_
  refine lv_iload_n hx hb dJ9_floorMod_7cf53_5 rfl (lv_at hl 2 rfl) ?_
  refine lv_ixor hx hb dJ9_floorMod_7cf53_6 ?_
  refine lv_if_ge (tgt := 18) hx hb dJ9_floorMod_7cf53_7 (by decide) (fun c2 => ?_) (fun c2 => ?_)
  · have hf := it_t c2 hf
    refine lv_iload_n hx hb dJ9_floorMod_7cf53_18 rfl (lv_at hl 0 rfl) ?_
    have hR := so_s hf
    subst hR
    refine z_iret X hr hlocks ?_ dJ9_floorMod_7cf53_19
    exact Z.eq rfl
  · have hf := it_f c2 hf
    refine lv_iload_n hx hb dJ9_floorMod_7cf53_10 rfl (lv_at hl 0 rfl) ?_
    refine lv_if_eq (tgt := 18) hx hb dJ9_floorMod_7cf53_11 (by decide) (fun c3 => ?_) (fun c3 => ?_)
    · have hf := it_t c3 hf
      refine lv_iload_n hx hb dJ9_floorMod_7cf53_18 rfl (lv_at hl 0 rfl) ?_
      have hR := so_s hf
      subst hR
      refine z_iret X hr hlocks ?_ dJ9_floorMod_7cf53_19
      exact Z.eq rfl
    · have hf := it_f c3 hf
      refine lv_iload_n hx hb dJ9_floorMod_7cf53_14 rfl (lv_at hl 0 rfl) ?_
      refine lv_iload_n hx hb dJ9_floorMod_7cf53_15 rfl (lv_at hl 2 rfl) ?_
      refine lv_iadd hx hb dJ9_floorMod_7cf53_16 ?_
      have hR := so_s hf
      subst hR
      refine z_iret X hr hlocks ?_ dJ9_floorMod_7cf53_17
      exact Z.eq rfl
def f_X7_leftOver (p0 : Int32) (p1 : Int32) : Option (Int32) := if p1 ≤ 0 then (some (0 : Int32)) else ((f_J9_floorMod_7cf53 p0 p1).bind (fun q2 => some q2))
set_option maxHeartbeats 4000000 in
set_option maxRecDepth 100000 in
theorem c_X7_leftOver (l : Launch) (D : va_G) (cI cR : ClassId) (p0 : Int32) (p1 : Int32) {R : Int32} (hf : f_X7_leftOver p0 p1 = some R) : zM l D cI cR yX7_leftOver cX7_leftOver 2 (some .int) 1 22 [.int p0, .int p1] [] (some (.int R)) [] := by
  refine z_of (own := RX7) rfl (by decide) (Nat.le_of_ble_eq_true rfl) ?_
  intro p e s m args below meth c A ls X hr hlocks Z hl
  have hx := X.1.1
  have hb := X.1.2.1
  have Z : zW D A s [] s.heap [] := Z
  have hl : lv_has ls 2 [(0, .int p0), (1, .int p1)] := hl
  refine lv_iload_n hx hb dX7_leftOver_0 rfl (lv_at hl 1 rfl) ?_
  refine lv_if_le (tgt := 12) hx hb dX7_leftOver_1 (by decide) (fun c1 => ?_) (fun c1 => ?_)
  · have hf := it_t c1 hf
    refine lv_iconst (v := 0) hx hb dX7_leftOver_12 (by decide) ?_
    have hR := so_s hf
    subst hR
    refine z_iret X hr hlocks ?_ dX7_leftOver_13
    exact Z.eq rfl
  · have hf := it_f c1 hf
    refine lv_iload_n hx hb dX7_leftOver_4 rfl (lv_at hl 0 rfl) ?_
    refine lv_iload_n hx hb dX7_leftOver_5 rfl (lv_at hl 1 rfl) ?_
    obtain ⟨q2, hq2, hf⟩ := ob_s hf
    refine z_roS X Z (c_J9_floorMod_7cf53 l D cI cR   p0 p1 hq2) (zw_X7_236 X.1.2.2.2.2 ⟨Nat.le_of_ble_eq_true rfl, Nat.le_of_ble_eq_true rfl⟩) [] [] (by decide : ([] ++ [] : List Nat).Perm (List.range 0)) rfl rfl hl.1 rfl (Nat.le_of_ble_eq_true rfl) dX7_leftOver_6 ⟨Nat.le_of_ble_eq_true rfl, Nat.le_of_ble_eq_true rfl⟩ (fun H locs Z => ?_)
    refine lv_goto (tgt := 13) hx hb dX7_leftOver_9 (by decide) ?_
    have hR := so_s hf
    subst hR
    refine z_iret X hr hlocks ?_ dX7_leftOver_13
    exact Z.eq rfl
def f_X7_isHeight (p0 : Int32) : Option (Int32) := (f_X7_isWithin p0 (48 : Int32) (55 : Int32)).bind (fun q1 => some q1)
set_option maxHeartbeats 4000000 in
set_option maxRecDepth 100000 in
theorem c_X7_isHeight (l : Launch) (D : va_G) (cI cR : ClassId) (p0 : Int32) {R : Int32} (hf : f_X7_isHeight p0 = some R) : zM l D cI cR yX7_isHeight cX7_isHeight 1 (some .boolean) 1 22 [.int p0] [] (some (.int R)) [] := by
  refine z_of (own := RX7) rfl (by decide) (Nat.le_of_ble_eq_true rfl) ?_
  intro p e s m args below meth c A ls X hr hlocks Z hl
  have hx := X.1.1
  have hb := X.1.2.1
  have Z : zW D A s [] s.heap [] := Z
  have hl : lv_has ls 1 [(0, .int p0)] := hl
  refine lv_iload_n hx hb dX7_isHeight_0 rfl (lv_at hl 0 rfl) ?_
  refine lv_bipush (v := 48) hx hb dX7_isHeight_1 (by decide) ?_
  refine lv_bipush (v := 55) hx hb dX7_isHeight_3 (by decide) ?_
  obtain ⟨q1, hq1, hf⟩ := ob_s hf
  refine z_roS X Z (c_X7_isWithin l D cI cR   p0 (48 : Int32) (55 : Int32) hq1) (zw_X7_57 X.1.2.2.2.2 ⟨Nat.le_of_ble_eq_true rfl, Nat.le_of_ble_eq_true rfl⟩) [] [] (by decide : ([] ++ [] : List Nat).Perm (List.range 0)) rfl rfl hl.1 rfl (Nat.le_of_ble_eq_true rfl) dX7_isHeight_5 ⟨Nat.le_of_ble_eq_true rfl, Nat.le_of_ble_eq_true rfl⟩ (fun H locs Z => ?_)
  have hR := so_s hf
  subst hR
  refine z_zret X hr hlocks (b_X7_isWithin hq1) ?_ dX7_isHeight_8
  exact Z.eq rfl
theorem b_X7_isHeight {p0 : Int32} {R : Int32} (hf : f_X7_isHeight p0 = some R) : R = 0 ∨ R = 1 := by
  obtain ⟨q1, hq1, hf⟩ := ob_s hf
  have hR := so_s hf
  subst hR
  exact (b_X7_isWithin hq1)
def f_X7_packedCharacters_L4 : Nat → Int32 → Int64 → Option (Int32)
  | 0, _, _ => none
  | n + 1, x2, x3 => if (8 : Int32) ≤ x2 then (some x2) else (if (lg_cmp x3 (0 : Int64)) = 0 then (some x2) else ((f_X7_isWithin ((x3 &&& (255 : Int64)).toInt32) (33 : Int32) (126 : Int32)).bind (fun q3 => if q3 = 0 then (some (0 : Int32)) else (f_X7_packedCharacters_L4  n (x2 + (1 : Int32)) ((x3.toUInt64 >>> ((8 : Int32).toInt64.toUInt64 &&& Int64.toUInt64 63)).toInt64) ))))
set_option maxHeartbeats 4000000 in
set_option maxRecDepth 100000 in
theorem w_X7_packedCharacters_L4 {p : Program} {l : Launch} {e : Env} {s : State} {m : MethodId} {args : Array Value} {below : List Frame} {meth : Method} {c : Code} {D : va_G} {cI cR : ClassId} {A : Nat → Prop} {R : Int32} (X : zX p s m c cX7_packedCharacters 5 args RX7 D cI cR A) (hr : meth.sig.returnType = (some .int)) (hlocks : meth.locks = false) : ∀ (n : Nat)  {x2 : Int32} {x3 : Int64} {H : Heap} {locs : List Loc} {ls : Array Slot}, f_X7_packedCharacters_L4  n x2 x3 = some R → zW D A s [] H locs → lv_has ls 5 [(2, .int x2), (3, .long x3)] → W p l e ({ frames := 1, cells := 0, slots := 0, locals := 22 } : Room) s m args below meth c H locs 0 0 (zE D A below s args (some (.int R)) []) (F0 m 4 ls []) := by
  have hx := X.1.1
  have hb := X.1.2.1
  intro n
  induction n with
  | zero =>
    intro x2 x3 H locs ls hf
    have hf : none = some R := hf
    cases hf
  | succ n ih =>
    intro x2 x3 H locs ls hf Z hl
    refine lv_iload_n hx hb dX7_packedCharacters_4 rfl (lv_at hl 0 rfl) ?_
    refine lv_bipush (v := 8) hx hb dX7_packedCharacters_5 (by decide) ?_
    refine lv_icmp_ge (tgt := 45) hx hb dX7_packedCharacters_7 (by decide) (fun c1 => ?_) (fun c1 => ?_)
    · have hf := it_t c1 hf
      refine lv_iload_n hx hb dX7_packedCharacters_45 rfl (lv_at hl 0 rfl) ?_
      have hR := so_s hf
      subst hR
      refine z_iret X hr hlocks ?_ dX7_packedCharacters_46
      exact Z.eq rfl
    · have hf := it_f c1 hf
      refine lv_lload_n hx hb dX7_packedCharacters_10 rfl (lv_at hl 1 rfl) ?_
      refine lv_lconst (v := 0) hx hb dX7_packedCharacters_11 (by decide) ?_
      refine W.lcmp hx hb dX7_packedCharacters_12 ?_
      refine lv_if_eq (tgt := 45) hx hb dX7_packedCharacters_13 (by decide) (fun c2 => ?_) (fun c2 => ?_)
      · have hf := it_t c2 hf
        refine lv_iload_n hx hb dX7_packedCharacters_45 rfl (lv_at hl 0 rfl) ?_
        have hR := so_s hf
        subst hR
        refine z_iret X hr hlocks ?_ dX7_packedCharacters_46
        exact Z.eq rfl
      · have hf := it_f c2 hf
        refine lv_lload_n hx hb dX7_packedCharacters_16 rfl (lv_at hl 1 rfl) ?_
        refine lv_ldc2 hx hb X.1.2.2.2.1 (X.1.2.2.2.2 _ mk_X7_242) dX7_packedCharacters_17 ?_
        refine lv_land hx hb dX7_packedCharacters_20 ?_
        refine lv_l2i hx hb dX7_packedCharacters_21 rfl ?_
        refine lv_bipush (v := 33) hx hb dX7_packedCharacters_22 (by decide) ?_
        refine lv_bipush (v := 126) hx hb dX7_packedCharacters_24 (by decide) ?_
        obtain ⟨q3, hq3, hf⟩ := ob_s hf
        refine z_roS X Z (c_X7_isWithin l D cI cR   ((x3 &&& (255 : Int64)).toInt32) (33 : Int32) (126 : Int32) hq3) (zw_X7_57 X.1.2.2.2.2 ⟨Nat.le_of_ble_eq_true rfl, Nat.le_of_ble_eq_true rfl⟩) [] [] (by decide : ([] ++ [] : List Nat).Perm (List.range 0)) rfl rfl hl.1 rfl (Nat.le_of_ble_eq_true rfl) dX7_packedCharacters_26 ⟨Nat.le_of_ble_eq_true rfl, Nat.le_of_ble_eq_true rfl⟩ (fun H locs Z => ?_)
        refine lv_if_ne (tgt := 34) hx hb dX7_packedCharacters_29 (by decide) (fun c4 => ?_) (fun c4 => ?_)
        · have hf := it_f c4 hf
          refine lv_lload_n hx hb dX7_packedCharacters_34 rfl (lv_at hl 1 rfl) ?_
          refine lv_bipush (v := 8) hx hb dX7_packedCharacters_35 (by decide) ?_
          refine lv_lushr hx hb dX7_packedCharacters_37 rfl ?_
          refine lv_lstore_n (lv' := [(3, .long ((x3.toUInt64 >>> ((8 : Int32).toInt64.toUInt64 &&& Int64.toUInt64 63)).toInt64)), (2, .int x2)]) hx hb dX7_packedCharacters_38 rfl hl (by decide) rfl (fun ls hl => ?_)
          refine lv_iinc (v := x2 + (1 : Int32)) (lv' := [(2, .int (x2 + (1 : Int32))), (3, .long ((x3.toUInt64 >>> ((8 : Int32).toInt64.toUInt64 &&& Int64.toUInt64 63)).toInt64))]) hx hb dX7_packedCharacters_39 hl (k := 1) rfl rfl (by decide) rfl (fun ls hl => ?_)
          refine lv_goto (tgt := 4) hx hb dX7_packedCharacters_42 (by decide) ?_
          exact ih hf Z (lv_sub hl [0, 1] rfl)
        · have hf := it_t c4 hf
          refine lv_iconst (v := 0) hx hb dX7_packedCharacters_32 (by decide) ?_
          have hR := so_s hf
          subst hR
          refine z_iret X hr hlocks ?_ dX7_packedCharacters_33
          exact Z.eq rfl

def f_X7_packedCharacters (p0 : Int64) : Option (Int32) := f_X7_packedCharacters_L4  zF (0 : Int32) p0
set_option maxHeartbeats 4000000 in
set_option maxRecDepth 100000 in
theorem c_X7_packedCharacters (l : Launch) (D : va_G) (cI cR : ClassId) (p0 : Int64) {R : Int32} (hf : f_X7_packedCharacters p0 = some R) : zM l D cI cR yX7_packedCharacters cX7_packedCharacters 5 (some .int) 1 22 [.long p0] [] (some (.int R)) [] := by
  refine z_of (own := RX7) rfl (by decide) (Nat.le_of_ble_eq_true rfl) ?_
  intro p e s m args below meth c A ls X hr hlocks Z hl
  have hx := X.1.1
  have hb := X.1.2.1
  have Z : zW D A s [] s.heap [] := Z
  have hl : lv_has ls 5 [(0, .long p0)] := hl
  refine lv_iconst (v := 0) hx hb dX7_packedCharacters_0 (by decide) ?_
  refine lv_istore_n (lv' := [(2, .int (0 : Int32)), (0, .long p0)]) hx hb dX7_packedCharacters_1 rfl hl (by decide) rfl (fun ls hl => ?_)
  refine lv_lload_n hx hb dX7_packedCharacters_2 rfl (lv_at hl 1 rfl) ?_
  refine lv_lstore_n (lv' := [(3, .long p0), (2, .int (0 : Int32)), (0, .long p0)]) hx hb dX7_packedCharacters_3 rfl hl (by decide) rfl (fun ls hl => ?_)
  exact w_X7_packedCharacters_L4 X hr hlocks _ hf Z (lv_sub hl [1, 0] rfl)
def f_J6_bitCount_0f7a4 (p0 : Int32) : Option (Int32) := some ((((((((p0 - (((p0.toUInt32 >>> ((1 : Int32).toUInt32 &&& Int32.toUInt32 31)).toInt32) &&& (1431655765 : Int32))) &&& (858993459 : Int32)) + ((((p0 - (((p0.toUInt32 >>> ((1 : Int32).toUInt32 &&& Int32.toUInt32 31)).toInt32) &&& (1431655765 : Int32))).toUInt32 >>> ((2 : Int32).toUInt32 &&& Int32.toUInt32 31)).toInt32) &&& (858993459 : Int32))) + (((((p0 - (((p0.toUInt32 >>> ((1 : Int32).toUInt32 &&& Int32.toUInt32 31)).toInt32) &&& (1431655765 : Int32))) &&& (858993459 : Int32)) + ((((p0 - (((p0.toUInt32 >>> ((1 : Int32).toUInt32 &&& Int32.toUInt32 31)).toInt32) &&& (1431655765 : Int32))).toUInt32 >>> ((2 : Int32).toUInt32 &&& Int32.toUInt32 31)).toInt32) &&& (858993459 : Int32))).toUInt32 >>> ((4 : Int32).toUInt32 &&& Int32.toUInt32 31)).toInt32)) &&& (252645135 : Int32)) + (((((((p0 - (((p0.toUInt32 >>> ((1 : Int32).toUInt32 &&& Int32.toUInt32 31)).toInt32) &&& (1431655765 : Int32))) &&& (858993459 : Int32)) + ((((p0 - (((p0.toUInt32 >>> ((1 : Int32).toUInt32 &&& Int32.toUInt32 31)).toInt32) &&& (1431655765 : Int32))).toUInt32 >>> ((2 : Int32).toUInt32 &&& Int32.toUInt32 31)).toInt32) &&& (858993459 : Int32))) + (((((p0 - (((p0.toUInt32 >>> ((1 : Int32).toUInt32 &&& Int32.toUInt32 31)).toInt32) &&& (1431655765 : Int32))) &&& (858993459 : Int32)) + ((((p0 - (((p0.toUInt32 >>> ((1 : Int32).toUInt32 &&& Int32.toUInt32 31)).toInt32) &&& (1431655765 : Int32))).toUInt32 >>> ((2 : Int32).toUInt32 &&& Int32.toUInt32 31)).toInt32) &&& (858993459 : Int32))).toUInt32 >>> ((4 : Int32).toUInt32 &&& Int32.toUInt32 31)).toInt32)) &&& (252645135 : Int32)).toUInt32 >>> ((8 : Int32).toUInt32 &&& Int32.toUInt32 31)).toInt32)) + ((((((((p0 - (((p0.toUInt32 >>> ((1 : Int32).toUInt32 &&& Int32.toUInt32 31)).toInt32) &&& (1431655765 : Int32))) &&& (858993459 : Int32)) + ((((p0 - (((p0.toUInt32 >>> ((1 : Int32).toUInt32 &&& Int32.toUInt32 31)).toInt32) &&& (1431655765 : Int32))).toUInt32 >>> ((2 : Int32).toUInt32 &&& Int32.toUInt32 31)).toInt32) &&& (858993459 : Int32))) + (((((p0 - (((p0.toUInt32 >>> ((1 : Int32).toUInt32 &&& Int32.toUInt32 31)).toInt32) &&& (1431655765 : Int32))) &&& (858993459 : Int32)) + ((((p0 - (((p0.toUInt32 >>> ((1 : Int32).toUInt32 &&& Int32.toUInt32 31)).toInt32) &&& (1431655765 : Int32))).toUInt32 >>> ((2 : Int32).toUInt32 &&& Int32.toUInt32 31)).toInt32) &&& (858993459 : Int32))).toUInt32 >>> ((4 : Int32).toUInt32 &&& Int32.toUInt32 31)).toInt32)) &&& (252645135 : Int32)) + (((((((p0 - (((p0.toUInt32 >>> ((1 : Int32).toUInt32 &&& Int32.toUInt32 31)).toInt32) &&& (1431655765 : Int32))) &&& (858993459 : Int32)) + ((((p0 - (((p0.toUInt32 >>> ((1 : Int32).toUInt32 &&& Int32.toUInt32 31)).toInt32) &&& (1431655765 : Int32))).toUInt32 >>> ((2 : Int32).toUInt32 &&& Int32.toUInt32 31)).toInt32) &&& (858993459 : Int32))) + (((((p0 - (((p0.toUInt32 >>> ((1 : Int32).toUInt32 &&& Int32.toUInt32 31)).toInt32) &&& (1431655765 : Int32))) &&& (858993459 : Int32)) + ((((p0 - (((p0.toUInt32 >>> ((1 : Int32).toUInt32 &&& Int32.toUInt32 31)).toInt32) &&& (1431655765 : Int32))).toUInt32 >>> ((2 : Int32).toUInt32 &&& Int32.toUInt32 31)).toInt32) &&& (858993459 : Int32))).toUInt32 >>> ((4 : Int32).toUInt32 &&& Int32.toUInt32 31)).toInt32)) &&& (252645135 : Int32)).toUInt32 >>> ((8 : Int32).toUInt32 &&& Int32.toUInt32 31)).toInt32)).toUInt32 >>> ((16 : Int32).toUInt32 &&& Int32.toUInt32 31)).toInt32)) &&& (63 : Int32))
set_option maxHeartbeats 4000000 in
set_option maxRecDepth 100000 in
theorem c_J6_bitCount_0f7a4 (l : Launch) (D : va_G) (cI cR : ClassId) (p0 : Int32) {R : Int32} (hf : f_J6_bitCount_0f7a4 p0 = some R) : zM l D cI cR yJ6_bitCount_0f7a4 cJ6_bitCount_0f7a4 1 (some .int) 0 0 [.int p0] [] (some (.int R)) [] := by
  refine z_of (own := RJ6) rfl (by decide) (Nat.le_of_ble_eq_true rfl) ?_
  intro p e s m args below meth c A ls X hr hlocks Z hl
  have hx := X.1.1
  have hb := X.1.2.1
  have Z : zW D A s [] s.heap [] := Z
  have hl : lv_has ls 1 [(0, .int p0)] := hl
  refine lv_iload_n hx hb dJ6_bitCount_0f7a4_0 rfl (lv_at hl 0 rfl) ?_
  refine lv_iload_n hx hb dJ6_bitCount_0f7a4_1 rfl (lv_at hl 0 rfl) ?_
  refine lv_iconst (v := 1) hx hb dJ6_bitCount_0f7a4_2 (by decide) ?_
  refine lv_iushr hx hb dJ6_bitCount_0f7a4_3 rfl ?_
  refine lv_ldcw hx hb X.1.2.2.2.1 (X.1.2.2.2.2 _ mk_J6_265) dJ6_bitCount_0f7a4_4 ?_
  refine lv_iand hx hb dJ6_bitCount_0f7a4_7 ?_
  refine lv_isub hx hb dJ6_bitCount_0f7a4_8 ?_
  refine lv_istore_n (lv' := [(0, .int (p0 - (((p0.toUInt32 >>> ((1 : Int32).toUInt32 &&& Int32.toUInt32 31)).toInt32) &&& (1431655765 : Int32))))]) hx hb dJ6_bitCount_0f7a4_9 rfl hl (by decide) rfl (fun ls hl => ?_)
  refine lv_iload_n hx hb dJ6_bitCount_0f7a4_10 rfl (lv_at hl 0 rfl) ?_
  refine lv_ldcw hx hb X.1.2.2.2.1 (X.1.2.2.2.2 _ mk_J6_266) dJ6_bitCount_0f7a4_11 ?_
  refine lv_iand hx hb dJ6_bitCount_0f7a4_14 ?_
  refine lv_iload_n hx hb dJ6_bitCount_0f7a4_15 rfl (lv_at hl 0 rfl) ?_
  refine lv_iconst (v := 2) hx hb dJ6_bitCount_0f7a4_16 (by decide) ?_
  refine lv_iushr hx hb dJ6_bitCount_0f7a4_17 rfl ?_
  refine lv_ldcw hx hb X.1.2.2.2.1 (X.1.2.2.2.2 _ mk_J6_266) dJ6_bitCount_0f7a4_18 ?_
  refine lv_iand hx hb dJ6_bitCount_0f7a4_21 ?_
  refine lv_iadd hx hb dJ6_bitCount_0f7a4_22 ?_
  refine lv_istore_n (lv' := [(0, .int (((p0 - (((p0.toUInt32 >>> ((1 : Int32).toUInt32 &&& Int32.toUInt32 31)).toInt32) &&& (1431655765 : Int32))) &&& (858993459 : Int32)) + ((((p0 - (((p0.toUInt32 >>> ((1 : Int32).toUInt32 &&& Int32.toUInt32 31)).toInt32) &&& (1431655765 : Int32))).toUInt32 >>> ((2 : Int32).toUInt32 &&& Int32.toUInt32 31)).toInt32) &&& (858993459 : Int32))))]) hx hb dJ6_bitCount_0f7a4_23 rfl hl (by decide) rfl (fun ls hl => ?_)
  refine lv_iload_n hx hb dJ6_bitCount_0f7a4_24 rfl (lv_at hl 0 rfl) ?_
  refine lv_iload_n hx hb dJ6_bitCount_0f7a4_25 rfl (lv_at hl 0 rfl) ?_
  refine lv_iconst (v := 4) hx hb dJ6_bitCount_0f7a4_26 (by decide) ?_
  refine lv_iushr hx hb dJ6_bitCount_0f7a4_27 rfl ?_
  refine lv_iadd hx hb dJ6_bitCount_0f7a4_28 ?_
  refine lv_ldcw hx hb X.1.2.2.2.1 (X.1.2.2.2.2 _ mk_J6_267) dJ6_bitCount_0f7a4_29 ?_
  refine lv_iand hx hb dJ6_bitCount_0f7a4_32 ?_
  refine lv_istore_n (lv' := [(0, .int (((((p0 - (((p0.toUInt32 >>> ((1 : Int32).toUInt32 &&& Int32.toUInt32 31)).toInt32) &&& (1431655765 : Int32))) &&& (858993459 : Int32)) + ((((p0 - (((p0.toUInt32 >>> ((1 : Int32).toUInt32 &&& Int32.toUInt32 31)).toInt32) &&& (1431655765 : Int32))).toUInt32 >>> ((2 : Int32).toUInt32 &&& Int32.toUInt32 31)).toInt32) &&& (858993459 : Int32))) + (((((p0 - (((p0.toUInt32 >>> ((1 : Int32).toUInt32 &&& Int32.toUInt32 31)).toInt32) &&& (1431655765 : Int32))) &&& (858993459 : Int32)) + ((((p0 - (((p0.toUInt32 >>> ((1 : Int32).toUInt32 &&& Int32.toUInt32 31)).toInt32) &&& (1431655765 : Int32))).toUInt32 >>> ((2 : Int32).toUInt32 &&& Int32.toUInt32 31)).toInt32) &&& (858993459 : Int32))).toUInt32 >>> ((4 : Int32).toUInt32 &&& Int32.toUInt32 31)).toInt32)) &&& (252645135 : Int32)))]) hx hb dJ6_bitCount_0f7a4_33 rfl hl (by decide) rfl (fun ls hl => ?_)
  refine lv_iload_n hx hb dJ6_bitCount_0f7a4_34 rfl (lv_at hl 0 rfl) ?_
  refine lv_iload_n hx hb dJ6_bitCount_0f7a4_35 rfl (lv_at hl 0 rfl) ?_
  refine lv_bipush (v := 8) hx hb dJ6_bitCount_0f7a4_36 (by decide) ?_
  refine lv_iushr hx hb dJ6_bitCount_0f7a4_38 rfl ?_
  refine lv_iadd hx hb dJ6_bitCount_0f7a4_39 ?_
  refine lv_istore_n (lv' := [(0, .int ((((((p0 - (((p0.toUInt32 >>> ((1 : Int32).toUInt32 &&& Int32.toUInt32 31)).toInt32) &&& (1431655765 : Int32))) &&& (858993459 : Int32)) + ((((p0 - (((p0.toUInt32 >>> ((1 : Int32).toUInt32 &&& Int32.toUInt32 31)).toInt32) &&& (1431655765 : Int32))).toUInt32 >>> ((2 : Int32).toUInt32 &&& Int32.toUInt32 31)).toInt32) &&& (858993459 : Int32))) + (((((p0 - (((p0.toUInt32 >>> ((1 : Int32).toUInt32 &&& Int32.toUInt32 31)).toInt32) &&& (1431655765 : Int32))) &&& (858993459 : Int32)) + ((((p0 - (((p0.toUInt32 >>> ((1 : Int32).toUInt32 &&& Int32.toUInt32 31)).toInt32) &&& (1431655765 : Int32))).toUInt32 >>> ((2 : Int32).toUInt32 &&& Int32.toUInt32 31)).toInt32) &&& (858993459 : Int32))).toUInt32 >>> ((4 : Int32).toUInt32 &&& Int32.toUInt32 31)).toInt32)) &&& (252645135 : Int32)) + (((((((p0 - (((p0.toUInt32 >>> ((1 : Int32).toUInt32 &&& Int32.toUInt32 31)).toInt32) &&& (1431655765 : Int32))) &&& (858993459 : Int32)) + ((((p0 - (((p0.toUInt32 >>> ((1 : Int32).toUInt32 &&& Int32.toUInt32 31)).toInt32) &&& (1431655765 : Int32))).toUInt32 >>> ((2 : Int32).toUInt32 &&& Int32.toUInt32 31)).toInt32) &&& (858993459 : Int32))) + (((((p0 - (((p0.toUInt32 >>> ((1 : Int32).toUInt32 &&& Int32.toUInt32 31)).toInt32) &&& (1431655765 : Int32))) &&& (858993459 : Int32)) + ((((p0 - (((p0.toUInt32 >>> ((1 : Int32).toUInt32 &&& Int32.toUInt32 31)).toInt32) &&& (1431655765 : Int32))).toUInt32 >>> ((2 : Int32).toUInt32 &&& Int32.toUInt32 31)).toInt32) &&& (858993459 : Int32))).toUInt32 >>> ((4 : Int32).toUInt32 &&& Int32.toUInt32 31)).toInt32)) &&& (252645135 : Int32)).toUInt32 >>> ((8 : Int32).toUInt32 &&& Int32.toUInt32 31)).toInt32)))]) hx hb dJ6_bitCount_0f7a4_40 rfl hl (by decide) rfl (fun ls hl => ?_)
  refine lv_iload_n hx hb dJ6_bitCount_0f7a4_41 rfl (lv_at hl 0 rfl) ?_
  refine lv_iload_n hx hb dJ6_bitCount_0f7a4_42 rfl (lv_at hl 0 rfl) ?_
  refine lv_bipush (v := 16) hx hb dJ6_bitCount_0f7a4_43 (by decide) ?_
  refine lv_iushr hx hb dJ6_bitCount_0f7a4_45 rfl ?_
  refine lv_iadd hx hb dJ6_bitCount_0f7a4_46 ?_
  refine lv_istore_n (lv' := [(0, .int (((((((p0 - (((p0.toUInt32 >>> ((1 : Int32).toUInt32 &&& Int32.toUInt32 31)).toInt32) &&& (1431655765 : Int32))) &&& (858993459 : Int32)) + ((((p0 - (((p0.toUInt32 >>> ((1 : Int32).toUInt32 &&& Int32.toUInt32 31)).toInt32) &&& (1431655765 : Int32))).toUInt32 >>> ((2 : Int32).toUInt32 &&& Int32.toUInt32 31)).toInt32) &&& (858993459 : Int32))) + (((((p0 - (((p0.toUInt32 >>> ((1 : Int32).toUInt32 &&& Int32.toUInt32 31)).toInt32) &&& (1431655765 : Int32))) &&& (858993459 : Int32)) + ((((p0 - (((p0.toUInt32 >>> ((1 : Int32).toUInt32 &&& Int32.toUInt32 31)).toInt32) &&& (1431655765 : Int32))).toUInt32 >>> ((2 : Int32).toUInt32 &&& Int32.toUInt32 31)).toInt32) &&& (858993459 : Int32))).toUInt32 >>> ((4 : Int32).toUInt32 &&& Int32.toUInt32 31)).toInt32)) &&& (252645135 : Int32)) + (((((((p0 - (((p0.toUInt32 >>> ((1 : Int32).toUInt32 &&& Int32.toUInt32 31)).toInt32) &&& (1431655765 : Int32))) &&& (858993459 : Int32)) + ((((p0 - (((p0.toUInt32 >>> ((1 : Int32).toUInt32 &&& Int32.toUInt32 31)).toInt32) &&& (1431655765 : Int32))).toUInt32 >>> ((2 : Int32).toUInt32 &&& Int32.toUInt32 31)).toInt32) &&& (858993459 : Int32))) + (((((p0 - (((p0.toUInt32 >>> ((1 : Int32).toUInt32 &&& Int32.toUInt32 31)).toInt32) &&& (1431655765 : Int32))) &&& (858993459 : Int32)) + ((((p0 - (((p0.toUInt32 >>> ((1 : Int32).toUInt32 &&& Int32.toUInt32 31)).toInt32) &&& (1431655765 : Int32))).toUInt32 >>> ((2 : Int32).toUInt32 &&& Int32.toUInt32 31)).toInt32) &&& (858993459 : Int32))).toUInt32 >>> ((4 : Int32).toUInt32 &&& Int32.toUInt32 31)).toInt32)) &&& (252645135 : Int32)).toUInt32 >>> ((8 : Int32).toUInt32 &&& Int32.toUInt32 31)).toInt32)) + ((((((((p0 - (((p0.toUInt32 >>> ((1 : Int32).toUInt32 &&& Int32.toUInt32 31)).toInt32) &&& (1431655765 : Int32))) &&& (858993459 : Int32)) + ((((p0 - (((p0.toUInt32 >>> ((1 : Int32).toUInt32 &&& Int32.toUInt32 31)).toInt32) &&& (1431655765 : Int32))).toUInt32 >>> ((2 : Int32).toUInt32 &&& Int32.toUInt32 31)).toInt32) &&& (858993459 : Int32))) + (((((p0 - (((p0.toUInt32 >>> ((1 : Int32).toUInt32 &&& Int32.toUInt32 31)).toInt32) &&& (1431655765 : Int32))) &&& (858993459 : Int32)) + ((((p0 - (((p0.toUInt32 >>> ((1 : Int32).toUInt32 &&& Int32.toUInt32 31)).toInt32) &&& (1431655765 : Int32))).toUInt32 >>> ((2 : Int32).toUInt32 &&& Int32.toUInt32 31)).toInt32) &&& (858993459 : Int32))).toUInt32 >>> ((4 : Int32).toUInt32 &&& Int32.toUInt32 31)).toInt32)) &&& (252645135 : Int32)) + (((((((p0 - (((p0.toUInt32 >>> ((1 : Int32).toUInt32 &&& Int32.toUInt32 31)).toInt32) &&& (1431655765 : Int32))) &&& (858993459 : Int32)) + ((((p0 - (((p0.toUInt32 >>> ((1 : Int32).toUInt32 &&& Int32.toUInt32 31)).toInt32) &&& (1431655765 : Int32))).toUInt32 >>> ((2 : Int32).toUInt32 &&& Int32.toUInt32 31)).toInt32) &&& (858993459 : Int32))) + (((((p0 - (((p0.toUInt32 >>> ((1 : Int32).toUInt32 &&& Int32.toUInt32 31)).toInt32) &&& (1431655765 : Int32))) &&& (858993459 : Int32)) + ((((p0 - (((p0.toUInt32 >>> ((1 : Int32).toUInt32 &&& Int32.toUInt32 31)).toInt32) &&& (1431655765 : Int32))).toUInt32 >>> ((2 : Int32).toUInt32 &&& Int32.toUInt32 31)).toInt32) &&& (858993459 : Int32))).toUInt32 >>> ((4 : Int32).toUInt32 &&& Int32.toUInt32 31)).toInt32)) &&& (252645135 : Int32)).toUInt32 >>> ((8 : Int32).toUInt32 &&& Int32.toUInt32 31)).toInt32)).toUInt32 >>> ((16 : Int32).toUInt32 &&& Int32.toUInt32 31)).toInt32)))]) hx hb dJ6_bitCount_0f7a4_47 rfl hl (by decide) rfl (fun ls hl => ?_)
  refine lv_iload_n hx hb dJ6_bitCount_0f7a4_48 rfl (lv_at hl 0 rfl) ?_
  refine lv_bipush (v := 63) hx hb dJ6_bitCount_0f7a4_49 (by decide) ?_
  refine lv_iand hx hb dJ6_bitCount_0f7a4_51 ?_
  have hR := so_s hf
  subst hR
  refine z_iret X hr hlocks ?_ dJ6_bitCount_0f7a4_52
  exact Z.eq rfl
def f_J7_fill_53178_L5 (an : Nat) (x1 : Int32) (x3 : Int32) : Nat → Int32 → (Nat → Int32) → Option ((Nat → Int32))
  | 0, _, _ => none
  | n + 1, x2, a_h => if x3 ≤ x2 then (some a_h) else (if x2 < 0 ∨ an ≤ x2.toNatClampNeg then none else (f_J7_fill_53178_L5 an x1 x3 n (x2 + (1 : Int32)) (upd a_h x2.toNatClampNeg x1)))
set_option maxHeartbeats 4000000 in
set_option maxRecDepth 100000 in
theorem w_J7_fill_53178_L5 {p : Program} {l : Launch} {e : Env} {s : State} {m : MethodId} {args : Array Value} {below : List Frame} {meth : Method} {c : Code} {D : va_G} {cI cR : ClassId} {A : Nat → Prop} {a0 : Nat} {an : Nat} {x1 : Int32} {x3 : Int32} {R : (Nat → Int32)} (X : zX p s m c cJ7_fill_53178 4 args RJ7 D cI cR A) (hr : meth.sig.returnType = none) (hlocks : meth.locks = false) : ∀ (n : Nat)  {x2 : Int32} {a_h : (Nat → Int32)} {H : Heap} {locs : List Loc} {ls : Array Slot}, f_J7_fill_53178_L5 an x1 x3 n x2 a_h = some R → zW D A s [[(a0, .inl (cI, an, .inl a_h))]] H locs → lv_has ls 4 [(0, .ref a0), (1, .int x1), (2, .int x2), (3, .int x3)] → W p l e ({ frames := 0, cells := 0, slots := 0, locals := 0 } : Room) s m args below meth c H locs 0 0 (zE D A below s args none [[(a0, .inl (cI, an, .inl R))]]) (F0 m 5 ls []) := by
  have hx := X.1.1
  have hb := X.1.2.1
  intro n
  induction n with
  | zero =>
    intro x2 a_h H locs ls hf
    have hf : none = some R := hf
    cases hf
  | succ n ih =>
    intro x2 a_h H locs ls hf Z hl
    refine lv_iload_n hx hb dJ7_fill_53178_5 rfl (lv_at hl 2 rfl) ?_
    refine lv_iload_n hx hb dJ7_fill_53178_6 rfl (lv_at hl 3 rfl) ?_
    refine lv_icmp_ge (tgt := 20) hx hb dJ7_fill_53178_7 (by decide) (fun c1 => ?_) (fun c1 => ?_)
    · have hf := it_t c1 hf
      have hR := so_s hf
      subst hR
      refine z_vret X hr hlocks ?_ dJ7_fill_53178_20
      exact Z.eq rfl
    · have hf := it_f c1 hf
      refine lv_aload_n hx hb dJ7_fill_53178_10 rfl (lv_at hl 0 rfl) ?_
      refine lv_iload_n hx hb dJ7_fill_53178_11 rfl (lv_at hl 2 rfl) ?_
      refine lv_iload_n hx hb dJ7_fill_53178_12 rfl (lv_at hl 1 rfl) ?_
      obtain ⟨i2, hf⟩ := in_s hf
      refine z_st (j := x2.toNatClampNeg) X Z 0 rfl i2 rfl [[(a0, .inl (cI, an, .inl (upd a_h x2.toNatClampNeg x1)))]] rfl dJ7_fill_53178_13 (fun H locs Z => ?_)
      refine lv_iinc (v := x2 + (1 : Int32)) (lv' := [(2, .int (x2 + (1 : Int32))), (0, .ref a0), (1, .int x1), (3, .int x3)]) hx hb dJ7_fill_53178_14 hl (k := 2) rfl rfl (by decide) rfl (fun ls hl => ?_)
      refine lv_goto (tgt := 5) hx hb dJ7_fill_53178_17 (by decide) ?_
      exact ih hf Z (lv_sub hl [1, 2, 0, 3] rfl)

def f_J7_fill_53178 (an : Nat) (a_h : (Nat → Int32)) (p1 : Int32) : Option ((Nat → Int32)) := f_J7_fill_53178_L5 an p1 (Int32.ofNat an) zF (0 : Int32) a_h
set_option maxHeartbeats 4000000 in
set_option maxRecDepth 100000 in
theorem c_J7_fill_53178 (l : Launch) (D : va_G) (cI cR : ClassId) (a0 : Nat) (an : Nat) (a_h : (Nat → Int32)) (p1 : Int32) {R : (Nat → Int32)} (hf : f_J7_fill_53178 an a_h p1 = some R) : zM l D cI cR yJ7_fill_53178 cJ7_fill_53178 4 none 0 0 [.ref a0, .int p1] [[(a0, .inl (cI, an, .inl a_h))]] none [[(a0, .inl (cI, an, .inl R))]] := by
  refine z_of (own := RJ7) rfl (by decide) (Nat.le_of_ble_eq_true rfl) ?_
  intro p e s m args below meth c A ls X hr hlocks Z hl
  have hx := X.1.1
  have hb := X.1.2.1
  have Z : zW D A s [[(a0, .inl (cI, an, .inl a_h))]] s.heap [] := Z
  have hl : lv_has ls 4 [(0, .ref a0), (1, .int p1)] := hl
  refine lv_iconst (v := 0) hx hb dJ7_fill_53178_0 (by decide) ?_
  refine lv_istore_n (lv' := [(2, .int (0 : Int32)), (0, .ref a0), (1, .int p1)]) hx hb dJ7_fill_53178_1 rfl hl (by decide) rfl (fun ls hl => ?_)
  refine lv_aload_n hx hb dJ7_fill_53178_2 rfl (lv_at hl 1 rfl) ?_
  refine z_alen  X Z 0 rfl rfl dJ7_fill_53178_3 ?_
  refine lv_istore_n (lv' := [(3, .int (Int32.ofNat an)), (2, .int (0 : Int32)), (0, .ref a0), (1, .int p1)]) hx hb dJ7_fill_53178_4 rfl hl (by decide) rfl (fun ls hl => ?_)
  exact w_J7_fill_53178_L5 X hr hlocks _ hf Z (lv_sub hl [2, 3, 1, 0] rfl)
end
section
def f_X2_append (a_codes : (Nat → Int32)) (a_length : Int32) (p1 : Int32) : Option ((Nat → Int32) × Int32) := (f_X7_setAt 30 a_codes a_length p1).bind (fun q1 => some (q1, a_length + (1 : Int32)))
set_option maxHeartbeats 4000000 in
set_option maxRecDepth 100000 in
theorem c_X2_append (l : Launch) (D : va_G) (cI cR : ClassId) (a0 : Nat) (a1 : Nat) (a_codes : (Nat → Int32)) (a_length : Int32) (p1 : Int32) {R : (Nat → Int32) × Int32} (hf : f_X2_append a_codes a_length p1 = some R) : zM l D cI cR yX2_append cX2_append 2 none 1 22 [.ref a0, .int p1] [w_X2 cI cR a0 a1 a_codes a_length] none [w_X2 cI cR a0 a1 R.1 R.2] := by
  refine z_of (own := RX2) rfl (by decide) (Nat.le_of_ble_eq_true rfl) ?_
  intro p e s m args below meth c A ls X hr hlocks Z hl
  have hx := X.1.1
  have hb := X.1.2.1
  have Z : zW D A s [w_X2 cI cR a0 a1 a_codes a_length] s.heap [] := Z
  have hl : lv_has ls 2 [(0, .ref a0), (1, .int p1)] := hl
  refine lv_aload_n hx hb dX2_append_0 rfl (lv_at hl 0 rfl) ?_
  refine zg_X2_9 X Z 0 rfl rfl dX2_append_1 ?_
  refine lv_aload_n hx hb dX2_append_4 rfl (lv_at hl 0 rfl) ?_
  refine zg_X2_15 X Z 0 rfl rfl dX2_append_5 ?_
  refine lv_iload_n hx hb dX2_append_8 rfl (lv_at hl 1 rfl) ?_
  have Z : zW D A s [[(a0, .inr (2, [.ref a1, .int a_length]))], [(a1, .inl (cI, 30, .inl a_codes))]] _ _ := Z.eq rfl
  obtain ⟨q1, hq1, hf⟩ := ob_s hf
  refine z_callSN X Z (c_X7_setAt l D cI cR a1 30 a_codes a_length p1 hq1) (zw_X2_19 X.2.1 X.1.2.2.2.2 ⟨Nat.le_of_ble_eq_true rfl, Nat.le_of_ble_eq_true rfl⟩) [1] [0] [[(a0, .inr (2, [.ref a1, .int a_length]))], [(a1, .inl (cI, 30, .inl q1))]] (by decide : ([1] ++ [0] : List Nat).Perm (List.range 2)) rfl rfl rfl rfl rfl hl.1 rfl (Nat.le_of_ble_eq_true rfl) dX2_append_9 ⟨Nat.le_of_ble_eq_true rfl, Nat.le_of_ble_eq_true rfl⟩ (fun H locs Z => ?_)
  refine lv_aload_n hx hb dX2_append_12 rfl (lv_at hl 0 rfl) ?_
  refine lv_dup hx hb dX2_append_13 rfl ?_
  refine zg_X2_15 X Z 0 rfl rfl dX2_append_14 ?_
  refine lv_iconst (v := 1) hx hb dX2_append_17 (by decide) ?_
  refine lv_iadd hx hb dX2_append_18 ?_
  refine zp_X2_15 X Z 0 rfl (Nat.le_of_ble_eq_true rfl) [[(a0, .inr (2, [.ref a1, .int (a_length + (1 : Int32))]))], [(a1, .inl (cI, 30, .inl q1))]] rfl dX2_append_19 (fun H locs Z => ?_)
  have hR := so_s hf
  subst hR
  refine z_vret X hr hlocks ?_ dX2_append_22
  exact Z.eq rfl
def f_X2_clear (a_length : Int32) : Option (Int32) := some (0 : Int32)
set_option maxHeartbeats 4000000 in
set_option maxRecDepth 100000 in
theorem c_X2_clear (l : Launch) (D : va_G) (cI cR : ClassId) (a0 : Nat) (a1 : Nat) (a_codes : (Nat → Int32)) (a_length : Int32) {R : Int32} (hf : f_X2_clear a_length = some R) : zM l D cI cR yX2_clear cX2_clear 1 none 0 0 [.ref a0] [w_X2 cI cR a0 a1 a_codes a_length] none [w_X2 cI cR a0 a1 a_codes R] := by
  refine z_of (own := RX2) rfl (by decide) (Nat.le_of_ble_eq_true rfl) ?_
  intro p e s m args below meth c A ls X hr hlocks Z hl
  have hx := X.1.1
  have hb := X.1.2.1
  have Z : zW D A s [w_X2 cI cR a0 a1 a_codes a_length] s.heap [] := Z
  have hl : lv_has ls 1 [(0, .ref a0)] := hl
  refine lv_aload_n hx hb dX2_clear_0 rfl (lv_at hl 0 rfl) ?_
  refine lv_iconst (v := 0) hx hb dX2_clear_1 (by decide) ?_
  refine zp_X2_15 X Z 0 rfl (Nat.le_of_ble_eq_true rfl) [w_X2 cI cR a0 a1 a_codes (0 : Int32)] rfl dX2_clear_2 (fun H locs Z => ?_)
  have hR := so_s hf
  subst hR
  refine z_vret X hr hlocks ?_ dX2_clear_5
  exact Z.eq rfl
def f_X2_codeAt (a_codes : (Nat → Int32)) (p1 : Int32) : Option (Int32) := (f_X7_valueAt 30 a_codes p1).bind (fun q1 => some q1)
set_option maxHeartbeats 4000000 in
set_option maxRecDepth 100000 in
theorem c_X2_codeAt (l : Launch) (D : va_G) (cI cR : ClassId) (a0 : Nat) (a1 : Nat) (a_codes : (Nat → Int32)) (a_length : Int32) (p1 : Int32) {R : Int32} (hf : f_X2_codeAt a_codes p1 = some R) : zM l D cI cR yX2_codeAt cX2_codeAt 2 (some .int) 1 21 [.ref a0, .int p1] [w_X2 cI cR a0 a1 a_codes a_length] (some (.int R)) [w_X2 cI cR a0 a1 a_codes a_length] := by
  refine z_of (own := RX2) rfl (by decide) (Nat.le_of_ble_eq_true rfl) ?_
  intro p e s m args below meth c A ls X hr hlocks Z hl
  have hx := X.1.1
  have hb := X.1.2.1
  have Z : zW D A s [w_X2 cI cR a0 a1 a_codes a_length] s.heap [] := Z
  have hl : lv_has ls 2 [(0, .ref a0), (1, .int p1)] := hl
  refine lv_aload_n hx hb dX2_codeAt_0 rfl (lv_at hl 0 rfl) ?_
  refine zg_X2_9 X Z 0 rfl rfl dX2_codeAt_1 ?_
  refine lv_iload_n hx hb dX2_codeAt_4 rfl (lv_at hl 1 rfl) ?_
  have Z : zW D A s [[(a0, .inr (2, [.ref a1, .int a_length]))], [(a1, .inl (cI, 30, .inl a_codes))]] _ _ := Z.eq rfl
  obtain ⟨q1, hq1, hf⟩ := ob_s hf
  refine z_roSN X Z (c_X7_valueAt l D cI cR a1 30 a_codes p1 hq1) (zw_X2_23 X.2.1 X.1.2.2.2.2 ⟨Nat.le_of_ble_eq_true rfl, Nat.le_of_ble_eq_true rfl⟩) [1] [0] (by decide : ([1] ++ [0] : List Nat).Perm (List.range 2)) rfl rfl hl.1 rfl (Nat.le_of_ble_eq_true rfl) dX2_codeAt_5 ⟨Nat.le_of_ble_eq_true rfl, Nat.le_of_ble_eq_true rfl⟩ (fun H locs Z => ?_)
  have hR := so_s hf
  subst hR
  refine z_iret X hr hlocks ?_ dX2_codeAt_8
  exact Z.eq rfl
def f_X2_digit (a_codes : (Nat → Int32)) (p1 : Int32) : Option (Int32) := (f_X2_codeAt a_codes p1).bind (fun q1 => some (q1 - (48 : Int32)))
set_option maxHeartbeats 4000000 in
set_option maxRecDepth 100000 in
theorem c_X2_digit (l : Launch) (D : va_G) (cI cR : ClassId) (a0 : Nat) (a1 : Nat) (a_codes : (Nat → Int32)) (a_length : Int32) (p1 : Int32) {R : Int32} (hf : f_X2_digit a_codes p1 = some R) : zM l D cI cR yX2_digit cX2_digit 2 (some .int) 2 42 [.ref a0, .int p1] [w_X2 cI cR a0 a1 a_codes a_length] (some (.int R)) [w_X2 cI cR a0 a1 a_codes a_length] := by
  refine z_of (own := RX2) rfl (by decide) (Nat.le_of_ble_eq_true rfl) ?_
  intro p e s m args below meth c A ls X hr hlocks Z hl
  have hx := X.1.1
  have hb := X.1.2.1
  have Z : zW D A s [w_X2 cI cR a0 a1 a_codes a_length] s.heap [] := Z
  have hl : lv_has ls 2 [(0, .ref a0), (1, .int p1)] := hl
  refine lv_aload_n hx hb dX2_digit_0 rfl (lv_at hl 0 rfl) ?_
  refine lv_iload_n hx hb dX2_digit_1 rfl (lv_at hl 1 rfl) ?_
  obtain ⟨q1, hq1, hf⟩ := ob_s hf
  refine z_roV X Z (c_X2_codeAt l D cI cR a0 a1 a_codes a_length p1 hq1) (zw_X2_27 X.1.2.2.2.2 ⟨Nat.le_of_ble_eq_true rfl, Nat.le_of_ble_eq_true rfl⟩) 0 2 rfl rfl rfl [0] [] (by decide : ([0] ++ [] : List Nat).Perm (List.range 1)) rfl rfl hl.1 rfl (Nat.le_of_ble_eq_true rfl) dX2_digit_2 ⟨Nat.le_of_ble_eq_true rfl, Nat.le_of_ble_eq_true rfl⟩ (fun H locs Z => ?_)
  refine lv_bipush (v := 48) hx hb dX2_digit_5 (by decide) ?_
  refine lv_isub hx hb dX2_digit_7 ?_
  have hR := so_s hf
  subst hR
  refine z_iret X hr hlocks ?_ dX2_digit_8
  exact Z.eq rfl
def f_X2_isHeightAt (a_codes : (Nat → Int32)) (p1 : Int32) : Option (Int32) := (f_X2_codeAt a_codes p1).bind (fun q1 => (f_X7_isHeight q1).bind (fun q2 => some q2))
set_option maxHeartbeats 4000000 in
set_option maxRecDepth 100000 in
theorem c_X2_isHeightAt (l : Launch) (D : va_G) (cI cR : ClassId) (a0 : Nat) (a1 : Nat) (a_codes : (Nat → Int32)) (a_length : Int32) (p1 : Int32) {R : Int32} (hf : f_X2_isHeightAt a_codes p1 = some R) : zM l D cI cR yX2_isHeightAt cX2_isHeightAt 2 (some .boolean) 2 42 [.ref a0, .int p1] [w_X2 cI cR a0 a1 a_codes a_length] (some (.int R)) [w_X2 cI cR a0 a1 a_codes a_length] := by
  refine z_of (own := RX2) rfl (by decide) (Nat.le_of_ble_eq_true rfl) ?_
  intro p e s m args below meth c A ls X hr hlocks Z hl
  have hx := X.1.1
  have hb := X.1.2.1
  have Z : zW D A s [w_X2 cI cR a0 a1 a_codes a_length] s.heap [] := Z
  have hl : lv_has ls 2 [(0, .ref a0), (1, .int p1)] := hl
  refine lv_aload_n hx hb dX2_isHeightAt_0 rfl (lv_at hl 0 rfl) ?_
  refine lv_iload_n hx hb dX2_isHeightAt_1 rfl (lv_at hl 1 rfl) ?_
  obtain ⟨q1, hq1, hf⟩ := ob_s hf
  refine z_roV X Z (c_X2_codeAt l D cI cR a0 a1 a_codes a_length p1 hq1) (zw_X2_27 X.1.2.2.2.2 ⟨Nat.le_of_ble_eq_true rfl, Nat.le_of_ble_eq_true rfl⟩) 0 2 rfl rfl rfl [0] [] (by decide : ([0] ++ [] : List Nat).Perm (List.range 1)) rfl rfl hl.1 rfl (Nat.le_of_ble_eq_true rfl) dX2_isHeightAt_2 ⟨Nat.le_of_ble_eq_true rfl, Nat.le_of_ble_eq_true rfl⟩ (fun H locs Z => ?_)
  obtain ⟨q2, hq2, hf⟩ := ob_s hf
  refine z_roSN X Z (c_X7_isHeight l D cI cR   q1 hq2) (zw_X2_31 X.2.1 X.1.2.2.2.2 ⟨Nat.le_of_ble_eq_true rfl, Nat.le_of_ble_eq_true rfl⟩) [] [0] (by decide : ([] ++ [0] : List Nat).Perm (List.range 1)) rfl rfl hl.1 rfl (Nat.le_of_ble_eq_true rfl) dX2_isHeightAt_5 ⟨Nat.le_of_ble_eq_true rfl, Nat.le_of_ble_eq_true rfl⟩ (fun H locs Z => ?_)
  have hR := so_s hf
  subst hR
  refine z_zret X hr hlocks (b_X7_isHeight hq2) ?_ dX2_isHeightAt_8
  exact Z.eq rfl
theorem b_X2_isHeightAt {a_codes : (Nat → Int32)} {p1 : Int32} {R : Int32} (hf : f_X2_isHeightAt a_codes p1 = some R) : R = 0 ∨ R = 1 := by
  obtain ⟨q1, hq1, hf⟩ := ob_s hf
  obtain ⟨q2, hq2, hf⟩ := ob_s hf
  have hR := so_s hf
  subst hR
  exact (b_X7_isHeight hq2)
def f_X2_canStand (a_codes : (Nat → Int32)) (p1 : Int32) (p2 : Int32) : Option (Int32) := (f_X2_codeAt a_codes p1).bind (fun q1 => if p1 = 0 then (if q1 = (48 : Int32) then (some (1 : Int32)) else (if q1 = (49 : Int32) then (some (1 : Int32)) else (some (0 : Int32)))) else (if p1 = (1 : Int32) then (if q1 = (58 : Int32) then (some (1 : Int32)) else (some (0 : Int32))) else (if q1 = (112 : Int32) then ((f_X2_isHeightAt a_codes (p1 - (1 : Int32))).bind (fun q8 => if q8 = 0 then (some (0 : Int32)) else ((f_X2_digit a_codes (p1 - (1 : Int32))).bind (fun q10 => if q10 = 0 then (some (0 : Int32)) else (some (1 : Int32)))))) else ((f_X7_isHeight q1).bind (fun q5 => if q5 = 0 then (some (0 : Int32)) else (if (8 : Int32) ≤ p2 then (some (0 : Int32)) else (some (1 : Int32))))))))
set_option maxHeartbeats 4000000 in
set_option maxRecDepth 100000 in
theorem c_X2_canStand (l : Launch) (D : va_G) (cI cR : ClassId) (a0 : Nat) (a1 : Nat) (a_codes : (Nat → Int32)) (a_length : Int32) (p1 : Int32) (p2 : Int32) {R : Int32} (hf : f_X2_canStand a_codes p1 p2 = some R) : zM l D cI cR yX2_canStand cX2_canStand 4 (some .boolean) 3 63 [.ref a0, .int p1, .int p2] [w_X2 cI cR a0 a1 a_codes a_length] (some (.int R)) [w_X2 cI cR a0 a1 a_codes a_length] := by
  refine z_of (own := RX2) rfl (by decide) (Nat.le_of_ble_eq_true rfl) ?_
  intro p e s m args below meth c A ls X hr hlocks Z hl
  have hx := X.1.1
  have hb := X.1.2.1
  have Z : zW D A s [w_X2 cI cR a0 a1 a_codes a_length] s.heap [] := Z
  have hl : lv_has ls 4 [(0, .ref a0), (1, .int p1), (2, .int p2)] := hl
  refine lv_aload_n hx hb dX2_canStand_0 rfl (lv_at hl 0 rfl) ?_
  refine lv_iload_n hx hb dX2_canStand_1 rfl (lv_at hl 1 rfl) ?_
  obtain ⟨q1, hq1, hf⟩ := ob_s hf
  refine z_roV X Z (c_X2_codeAt l D cI cR a0 a1 a_codes a_length p1 hq1) (zw_X2_27 X.1.2.2.2.2 ⟨Nat.le_of_ble_eq_true rfl, Nat.le_of_ble_eq_true rfl⟩) 0 2 rfl rfl rfl [0] [] (by decide : ([0] ++ [] : List Nat).Perm (List.range 1)) rfl rfl hl.1 rfl (Nat.le_of_ble_eq_true rfl) dX2_canStand_2 ⟨Nat.le_of_ble_eq_true rfl, Nat.le_of_ble_eq_true rfl⟩ (fun H locs Z => ?_)
  refine lv_istore_n (lv' := [(3, .int q1), (0, .ref a0), (1, .int p1), (2, .int p2)]) hx hb dX2_canStand_5 rfl hl (by decide) rfl (fun ls hl => ?_)
  refine lv_iload_n hx hb dX2_canStand_6 rfl (lv_at hl 2 rfl) ?_
  refine lv_if_ne (tgt := 28) hx hb dX2_canStand_7 (by decide) (fun c2 => ?_) (fun c2 => ?_)
  · have hf := it_f c2 hf
    refine lv_iload_n hx hb dX2_canStand_28 rfl (lv_at hl 2 rfl) ?_
    refine lv_iconst (v := 1) hx hb dX2_canStand_29 (by decide) ?_
    refine lv_icmp_ne (tgt := 45) hx hb dX2_canStand_30 (by decide) (fun c3 => ?_) (fun c3 => ?_)
    · have hf := it_f c3 hf
      refine lv_iload_n hx hb dX2_canStand_45 rfl (lv_at hl 0 rfl) ?_
      refine lv_bipush (v := 112) hx hb dX2_canStand_46 (by decide) ?_
      refine lv_icmp_ne (tgt := 77) hx hb dX2_canStand_48 (by decide) (fun c4 => ?_) (fun c4 => ?_)
      · have hf := it_f c4 hf
        refine lv_iload_n hx hb dX2_canStand_77 rfl (lv_at hl 0 rfl) ?_
        obtain ⟨q5, hq5, hf⟩ := ob_s hf
        refine z_roSN X Z (c_X7_isHeight l D cI cR   q1 hq5) (zw_X2_31 X.2.1 X.1.2.2.2.2 ⟨Nat.le_of_ble_eq_true rfl, Nat.le_of_ble_eq_true rfl⟩) [] [0] (by decide : ([] ++ [0] : List Nat).Perm (List.range 1)) rfl rfl hl.1 rfl (Nat.le_of_ble_eq_true rfl) dX2_canStand_78 ⟨Nat.le_of_ble_eq_true rfl, Nat.le_of_ble_eq_true rfl⟩ (fun H locs Z => ?_)
        refine lv_if_eq (tgt := 94) hx hb dX2_canStand_81 (by decide) (fun c6 => ?_) (fun c6 => ?_)
        · have hf := it_t c6 hf
          refine lv_iconst (v := 0) hx hb dX2_canStand_94 (by decide) ?_
          have hR := so_s hf
          subst hR
          refine z_zret X hr hlocks (by decide) ?_ dX2_canStand_95
          exact Z.eq rfl
        · have hf := it_f c6 hf
          refine lv_iload_n hx hb dX2_canStand_84 rfl (lv_at hl 3 rfl) ?_
          refine lv_bipush (v := 8) hx hb dX2_canStand_85 (by decide) ?_
          refine lv_icmp_ge (tgt := 94) hx hb dX2_canStand_87 (by decide) (fun c7 => ?_) (fun c7 => ?_)
          · have hf := it_t c7 hf
            refine lv_iconst (v := 0) hx hb dX2_canStand_94 (by decide) ?_
            have hR := so_s hf
            subst hR
            refine z_zret X hr hlocks (by decide) ?_ dX2_canStand_95
            exact Z.eq rfl
          · have hf := it_f c7 hf
            refine lv_iconst (v := 1) hx hb dX2_canStand_90 (by decide) ?_
            refine lv_goto (tgt := 95) hx hb dX2_canStand_91 (by decide) ?_
            have hR := so_s hf
            subst hR
            refine z_zret X hr hlocks (by decide) ?_ dX2_canStand_95
            exact Z.eq rfl
      · have hf := it_t c4 hf
        refine lv_aload_n hx hb dX2_canStand_51 rfl (lv_at hl 1 rfl) ?_
        refine lv_iload_n hx hb dX2_canStand_52 rfl (lv_at hl 2 rfl) ?_
        refine lv_iconst (v := 1) hx hb dX2_canStand_53 (by decide) ?_
        refine lv_isub hx hb dX2_canStand_54 ?_
        obtain ⟨q8, hq8, hf⟩ := ob_s hf
        refine z_roV X Z (c_X2_isHeightAt l D cI cR a0 a1 a_codes a_length (p1 - (1 : Int32)) hq8) (zw_X2_39 X.1.2.2.2.2 ⟨Nat.le_of_ble_eq_true rfl, Nat.le_of_ble_eq_true rfl⟩) 0 2 rfl rfl rfl [0] [] (by decide : ([0] ++ [] : List Nat).Perm (List.range 1)) rfl rfl hl.1 rfl (Nat.le_of_ble_eq_true rfl) dX2_canStand_55 ⟨Nat.le_of_ble_eq_true rfl, Nat.le_of_ble_eq_true rfl⟩ (fun H locs Z => ?_)
        refine lv_if_eq (tgt := 75) hx hb dX2_canStand_58 (by decide) (fun c9 => ?_) (fun c9 => ?_)
        · have hf := it_t c9 hf
          refine lv_iconst (v := 0) hx hb dX2_canStand_75 (by decide) ?_
          have hR := so_s hf
          subst hR
          refine z_zret X hr hlocks (by decide) ?_ dX2_canStand_76
          exact Z.eq rfl
        · have hf := it_f c9 hf
          refine lv_aload_n hx hb dX2_canStand_61 rfl (lv_at hl 1 rfl) ?_
          refine lv_iload_n hx hb dX2_canStand_62 rfl (lv_at hl 2 rfl) ?_
          refine lv_iconst (v := 1) hx hb dX2_canStand_63 (by decide) ?_
          refine lv_isub hx hb dX2_canStand_64 ?_
          obtain ⟨q10, hq10, hf⟩ := ob_s hf
          refine z_roV X Z (c_X2_digit l D cI cR a0 a1 a_codes a_length (p1 - (1 : Int32)) hq10) (zw_X2_42 X.1.2.2.2.2 ⟨Nat.le_of_ble_eq_true rfl, Nat.le_of_ble_eq_true rfl⟩) 0 2 rfl rfl rfl [0] [] (by decide : ([0] ++ [] : List Nat).Perm (List.range 1)) rfl rfl hl.1 rfl (Nat.le_of_ble_eq_true rfl) dX2_canStand_65 ⟨Nat.le_of_ble_eq_true rfl, Nat.le_of_ble_eq_true rfl⟩ (fun H locs Z => ?_)
          refine lv_if_eq (tgt := 75) hx hb dX2_canStand_68 (by decide) (fun c11 => ?_) (fun c11 => ?_)
          · have hf := it_t c11 hf
            refine lv_iconst (v := 0) hx hb dX2_canStand_75 (by decide) ?_
            have hR := so_s hf
            subst hR
            refine z_zret X hr hlocks (by decide) ?_ dX2_canStand_76
            exact Z.eq rfl
          · have hf := it_f c11 hf
            refine lv_iconst (v := 1) hx hb dX2_canStand_71 (by decide) ?_
            refine lv_goto (tgt := 76) hx hb dX2_canStand_72 (by decide) ?_
            have hR := so_s hf
            subst hR
            refine z_zret X hr hlocks (by decide) ?_ dX2_canStand_76
            exact Z.eq rfl
    · have hf := it_t c3 hf
      refine lv_iload_n hx hb dX2_canStand_33 rfl (lv_at hl 0 rfl) ?_
      refine lv_bipush (v := 58) hx hb dX2_canStand_34 (by decide) ?_
      refine lv_icmp_ne (tgt := 43) hx hb dX2_canStand_36 (by decide) (fun c12 => ?_) (fun c12 => ?_)
      · have hf := it_f c12 hf
        refine lv_iconst (v := 0) hx hb dX2_canStand_43 (by decide) ?_
        have hR := so_s hf
        subst hR
        refine z_zret X hr hlocks (by decide) ?_ dX2_canStand_44
        exact Z.eq rfl
      · have hf := it_t c12 hf
        refine lv_iconst (v := 1) hx hb dX2_canStand_39 (by decide) ?_
        refine lv_goto (tgt := 44) hx hb dX2_canStand_40 (by decide) ?_
        have hR := so_s hf
        subst hR
        refine z_zret X hr hlocks (by decide) ?_ dX2_canStand_44
        exact Z.eq rfl
  · have hf := it_t c2 hf
    refine lv_iload_n hx hb dX2_canStand_10 rfl (lv_at hl 0 rfl) ?_
    refine lv_bipush (v := 48) hx hb dX2_canStand_11 (by decide) ?_
    refine lv_icmp_eq (tgt := 22) hx hb dX2_canStand_13 (by decide) (fun c13 => ?_) (fun c13 => ?_)
    · have hf := it_t c13 hf
      refine lv_iconst (v := 1) hx hb dX2_canStand_22 (by decide) ?_
      refine lv_goto (tgt := 27) hx hb dX2_canStand_23 (by decide) ?_
      have hR := so_s hf
      subst hR
      refine z_zret X hr hlocks (by decide) ?_ dX2_canStand_27
      exact Z.eq rfl
    · have hf := it_f c13 hf
      refine lv_iload_n hx hb dX2_canStand_16 rfl (lv_at hl 0 rfl) ?_
      refine lv_bipush (v := 49) hx hb dX2_canStand_17 (by decide) ?_
      refine lv_icmp_ne (tgt := 26) hx hb dX2_canStand_19 (by decide) (fun c14 => ?_) (fun c14 => ?_)
      · have hf := it_f c14 hf
        refine lv_iconst (v := 0) hx hb dX2_canStand_26 (by decide) ?_
        have hR := so_s hf
        subst hR
        refine z_zret X hr hlocks (by decide) ?_ dX2_canStand_27
        exact Z.eq rfl
      · have hf := it_t c14 hf
        refine lv_iconst (v := 1) hx hb dX2_canStand_22 (by decide) ?_
        refine lv_goto (tgt := 27) hx hb dX2_canStand_23 (by decide) ?_
        have hR := so_s hf
        subst hR
        refine z_zret X hr hlocks (by decide) ?_ dX2_canStand_27
        exact Z.eq rfl
theorem b_X2_canStand {a_codes : (Nat → Int32)} {p1 : Int32} {p2 : Int32} {R : Int32} (hf : f_X2_canStand a_codes p1 p2 = some R) : R = 0 ∨ R = 1 := by
  obtain ⟨q1, hq1, hf⟩ := ob_s hf
  rcases Decidable.em (p1 = 0) with c2 | c2
  · have hf := it_t c2 hf
    rcases Decidable.em (q1 = (48 : Int32)) with c13 | c13
    · have hf := it_t c13 hf
      have hR := so_s hf
      subst hR
      exact (by decide)
    · have hf := it_f c13 hf
      rcases Decidable.em (q1 = (49 : Int32)) with c14 | c14
      · have hf := it_t c14 hf
        have hR := so_s hf
        subst hR
        exact (by decide)
      · have hf := it_f c14 hf
        have hR := so_s hf
        subst hR
        exact (by decide)
  · have hf := it_f c2 hf
    rcases Decidable.em (p1 = (1 : Int32)) with c3 | c3
    · have hf := it_t c3 hf
      rcases Decidable.em (q1 = (58 : Int32)) with c12 | c12
      · have hf := it_t c12 hf
        have hR := so_s hf
        subst hR
        exact (by decide)
      · have hf := it_f c12 hf
        have hR := so_s hf
        subst hR
        exact (by decide)
    · have hf := it_f c3 hf
      rcases Decidable.em (q1 = (112 : Int32)) with c4 | c4
      · have hf := it_t c4 hf
        obtain ⟨q8, hq8, hf⟩ := ob_s hf
        rcases Decidable.em (q8 = 0) with c9 | c9
        · have hf := it_t c9 hf
          have hR := so_s hf
          subst hR
          exact (by decide)
        · have hf := it_f c9 hf
          obtain ⟨q10, hq10, hf⟩ := ob_s hf
          rcases Decidable.em (q10 = 0) with c11 | c11
          · have hf := it_t c11 hf
            have hR := so_s hf
            subst hR
            exact (by decide)
          · have hf := it_f c11 hf
            have hR := so_s hf
            subst hR
            exact (by decide)
      · have hf := it_f c4 hf
        obtain ⟨q5, hq5, hf⟩ := ob_s hf
        rcases Decidable.em (q5 = 0) with c6 | c6
        · have hf := it_t c6 hf
          have hR := so_s hf
          subst hR
          exact (by decide)
        · have hf := it_f c6 hf
          rcases Decidable.em ((8 : Int32) ≤ p2) with c7 | c7
          · have hf := it_t c7 hf
            have hR := so_s hf
            subst hR
            exact (by decide)
          · have hf := it_f c7 hf
            have hR := so_s hf
            subst hR
            exact (by decide)
def f_X2_programFault_L4 (a_codes : (Nat → Int32)) (a_length : Int32) : Nat → Int32 → Int32 → Option (Int32)
  | 0, _, _ => none
  | n + 1, x1, x2 => if a_length ≤ x2 then (if x1 = 0 then (some a_length) else (some (-6 : Int32))) else ((f_X2_canStand a_codes x2 x1).bind (fun q3 => if q3 = 0 then (some x2) else (if x2 < (2 : Int32) then (f_X2_programFault_L4 a_codes a_length n x1 (x2 + (1 : Int32)) ) else ((f_X2_isHeightAt a_codes x2).bind (fun q6 => if q6 = 0 then (f_X2_programFault_L4 a_codes a_length n x1 (x2 + (1 : Int32)) ) else (f_X2_programFault_L4 a_codes a_length n (x1 + (1 : Int32)) (x2 + (1 : Int32)) ))))))
set_option maxHeartbeats 4000000 in
set_option maxRecDepth 100000 in
theorem w_X2_programFault_L4 {p : Program} {l : Launch} {e : Env} {s : State} {m : MethodId} {args : Array Value} {below : List Frame} {meth : Method} {c : Code} {D : va_G} {cI cR : ClassId} {A : Nat → Prop} {a0 : Nat} {a1 : Nat} {a_codes : (Nat → Int32)} {a_length : Int32} {R : Int32} (X : zX p s m c cX2_programFault 3 args RX2 D cI cR A) (hr : meth.sig.returnType = (some .int)) (hlocks : meth.locks = false) : ∀ (n : Nat)  {x1 : Int32} {x2 : Int32} {H : Heap} {locs : List Loc} {ls : Array Slot}, f_X2_programFault_L4 a_codes a_length n x1 x2 = some R → zW D A s [w_X2 cI cR a0 a1 a_codes a_length] H locs → lv_has ls 3 [(0, .ref a0), (1, .int x1), (2, .int x2)] → W p l e ({ frames := 4, cells := 0, slots := 0, locals := 86 } : Room) s m args below meth c H locs 0 0 (zE D A below s args (some (.int R)) [w_X2 cI cR a0 a1 a_codes a_length]) (F0 m 4 ls []) := by
  have hx := X.1.1
  have hb := X.1.2.1
  intro n
  induction n with
  | zero =>
    intro x1 x2 H locs ls hf
    have hf : none = some R := hf
    cases hf
  | succ n ih =>
    intro x1 x2 H locs ls hf Z hl
    refine lv_iload_n hx hb dX2_programFault_4 rfl (lv_at hl 2 rfl) ?_
    refine lv_aload_n hx hb dX2_programFault_5 rfl (lv_at hl 0 rfl) ?_
    refine zg_X2_15 X Z 0 rfl rfl dX2_programFault_6 ?_
    refine lv_icmp_ge (tgt := 45) hx hb dX2_programFault_9 (by decide) (fun c1 => ?_) (fun c1 => ?_)
    · have hf := it_t c1 hf
      refine lv_iload_n hx hb dX2_programFault_45 rfl (lv_at hl 1 rfl) ?_
      refine lv_if_ne (tgt := 56) hx hb dX2_programFault_46 (by decide) (fun c2 => ?_) (fun c2 => ?_)
      · have hf := it_f c2 hf
        refine lv_bipush (v := -6) hx hb dX2_programFault_56 (by decide) ?_
        have hR := so_s hf
        subst hR
        refine z_iret X hr hlocks ?_ dX2_programFault_58
        exact Z.eq rfl
      · have hf := it_t c2 hf
        refine lv_aload_n hx hb dX2_programFault_49 rfl (lv_at hl 0 rfl) ?_
        refine zg_X2_15 X Z 0 rfl rfl dX2_programFault_50 ?_
        refine lv_goto (tgt := 58) hx hb dX2_programFault_53 (by decide) ?_
        have hR := so_s hf
        subst hR
        refine z_iret X hr hlocks ?_ dX2_programFault_58
        exact Z.eq rfl
    · have hf := it_f c1 hf
      refine lv_aload_n hx hb dX2_programFault_12 rfl (lv_at hl 0 rfl) ?_
      refine lv_iload_n hx hb dX2_programFault_13 rfl (lv_at hl 2 rfl) ?_
      refine lv_iload_n hx hb dX2_programFault_14 rfl (lv_at hl 1 rfl) ?_
      obtain ⟨q3, hq3, hf⟩ := ob_s hf
      refine z_roV X Z (c_X2_canStand l D cI cR a0 a1 a_codes a_length x2 x1 hq3) (zw_X2_35 X.1.2.2.2.2 ⟨Nat.le_of_ble_eq_true rfl, Nat.le_of_ble_eq_true rfl⟩) 0 2 rfl rfl rfl [0] [] (by decide : ([0] ++ [] : List Nat).Perm (List.range 1)) rfl rfl hl.1 rfl (Nat.le_of_ble_eq_true rfl) dX2_programFault_15 ⟨Nat.le_of_ble_eq_true rfl, Nat.le_of_ble_eq_true rfl⟩ (fun H locs Z => ?_)
      refine lv_if_ne (tgt := 23) hx hb dX2_programFault_18 (by decide) (fun c4 => ?_) (fun c4 => ?_)
      · have hf := it_f c4 hf
        refine lv_iload_n hx hb dX2_programFault_23 rfl (lv_at hl 2 rfl) ?_
        refine lv_iconst (v := 2) hx hb dX2_programFault_24 (by decide) ?_
        refine lv_icmp_lt (tgt := 39) hx hb dX2_programFault_25 (by decide) (fun c5 => ?_) (fun c5 => ?_)
        · have hf := it_t c5 hf
          refine lv_iinc (v := x2 + (1 : Int32)) (lv' := [(2, .int (x2 + (1 : Int32))), (0, .ref a0), (1, .int x1)]) hx hb dX2_programFault_39 hl (k := 2) rfl rfl (by decide) rfl (fun ls hl => ?_)
          refine lv_goto (tgt := 4) hx hb dX2_programFault_42 (by decide) ?_
          exact ih hf Z (lv_sub hl [1, 2, 0] rfl)
        · have hf := it_f c5 hf
          refine lv_aload_n hx hb dX2_programFault_28 rfl (lv_at hl 0 rfl) ?_
          refine lv_iload_n hx hb dX2_programFault_29 rfl (lv_at hl 2 rfl) ?_
          obtain ⟨q6, hq6, hf⟩ := ob_s hf
          refine z_roV X Z (c_X2_isHeightAt l D cI cR a0 a1 a_codes a_length x2 hq6) (zw_X2_39 X.1.2.2.2.2 ⟨Nat.le_of_ble_eq_true rfl, Nat.le_of_ble_eq_true rfl⟩) 0 2 rfl rfl rfl [0] [] (by decide : ([0] ++ [] : List Nat).Perm (List.range 1)) rfl rfl hl.1 rfl (Nat.le_of_ble_eq_true rfl) dX2_programFault_30 ⟨Nat.le_of_ble_eq_true rfl, Nat.le_of_ble_eq_true rfl⟩ (fun H locs Z => ?_)
          refine lv_if_eq (tgt := 39) hx hb dX2_programFault_33 (by decide) (fun c7 => ?_) (fun c7 => ?_)
          · have hf := it_t c7 hf
            refine lv_iinc (v := x2 + (1 : Int32)) (lv' := [(2, .int (x2 + (1 : Int32))), (0, .ref a0), (1, .int x1)]) hx hb dX2_programFault_39 hl (k := 2) rfl rfl (by decide) rfl (fun ls hl => ?_)
            refine lv_goto (tgt := 4) hx hb dX2_programFault_42 (by decide) ?_
            exact ih hf Z (lv_sub hl [1, 2, 0] rfl)
          · have hf := it_f c7 hf
            refine lv_iinc (v := x1 + (1 : Int32)) (lv' := [(1, .int (x1 + (1 : Int32))), (0, .ref a0), (2, .int x2)]) hx hb dX2_programFault_36 hl (k := 1) rfl rfl (by decide) rfl (fun ls hl => ?_)
            refine lv_iinc (v := x2 + (1 : Int32)) (lv' := [(2, .int (x2 + (1 : Int32))), (1, .int (x1 + (1 : Int32))), (0, .ref a0)]) hx hb dX2_programFault_39 hl (k := 2) rfl rfl (by decide) rfl (fun ls hl => ?_)
            refine lv_goto (tgt := 4) hx hb dX2_programFault_42 (by decide) ?_
            exact ih hf Z (lv_sub hl [2, 1, 0] rfl)
      · have hf := it_t c4 hf
        refine lv_iload_n hx hb dX2_programFault_21 rfl (lv_at hl 2 rfl) ?_
        have hR := so_s hf
        subst hR
        refine z_iret X hr hlocks ?_ dX2_programFault_22
        exact Z.eq rfl

def f_X2_programFault (a_codes : (Nat → Int32)) (a_length : Int32) : Option (Int32) := f_X2_programFault_L4 a_codes a_length zF (0 : Int32) (0 : Int32)
set_option maxHeartbeats 4000000 in
set_option maxRecDepth 100000 in
theorem c_X2_programFault (l : Launch) (D : va_G) (cI cR : ClassId) (a0 : Nat) (a1 : Nat) (a_codes : (Nat → Int32)) (a_length : Int32) {R : Int32} (hf : f_X2_programFault a_codes a_length = some R) : zM l D cI cR yX2_programFault cX2_programFault 3 (some .int) 4 86 [.ref a0] [w_X2 cI cR a0 a1 a_codes a_length] (some (.int R)) [w_X2 cI cR a0 a1 a_codes a_length] := by
  refine z_of (own := RX2) rfl (by decide) (Nat.le_of_ble_eq_true rfl) ?_
  intro p e s m args below meth c A ls X hr hlocks Z hl
  have hx := X.1.1
  have hb := X.1.2.1
  have Z : zW D A s [w_X2 cI cR a0 a1 a_codes a_length] s.heap [] := Z
  have hl : lv_has ls 3 [(0, .ref a0)] := hl
  refine lv_iconst (v := 0) hx hb dX2_programFault_0 (by decide) ?_
  refine lv_istore_n (lv' := [(1, .int (0 : Int32)), (0, .ref a0)]) hx hb dX2_programFault_1 rfl hl (by decide) rfl (fun ls hl => ?_)
  refine lv_iconst (v := 0) hx hb dX2_programFault_2 (by decide) ?_
  refine lv_istore_n (lv' := [(2, .int (0 : Int32)), (1, .int (0 : Int32)), (0, .ref a0)]) hx hb dX2_programFault_3 rfl hl (by decide) rfl (fun ls hl => ?_)
  exact w_X2_programFault_L4 X hr hlocks _ hf Z (lv_sub hl [2, 1, 0] rfl)
end
