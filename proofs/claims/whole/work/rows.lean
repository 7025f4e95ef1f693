section
-- ===== PART A: goes FIRST, ahead of the names: the tables' words, and 'selects' of the private methods out of them =====
/-- a private method of a class that the tables say can be made, by its rows of tables_1 -/
def lw_okq (q : MethodName × Nat) : Prop := (q.1.cls ≠ "java/lang/invoke/MethodHandle" ∧ q.1.cls ≠ "java/lang/invoke/VarHandle") ∧ Cond.instantiable q.1.cls q.2 ∈ tables_1 ∧ Cond.privateMethod q.1 ∈ tables_1 ∧ Cond.instanceMethod q.1 ∈ tables_1
theorem lw_p0 : lw_okq (⟨"MuffledTolls$Tower", "ringersAtRopes", "()I"⟩, 7) := ⟨⟨by decide +kernel, by decide +kernel⟩, List.mem_of_getElem? (i := 26) (by decide +kernel), List.mem_of_getElem? (i := 204) (by decide +kernel), List.mem_of_getElem? (i := 205) (by decide +kernel)⟩
theorem lw_p1 : lw_okq (⟨"MuffledTolls$Tower", "tollsDone", "()I"⟩, 7) := ⟨⟨by decide +kernel, by decide +kernel⟩, List.mem_of_getElem? (i := 26) (by decide +kernel), List.mem_of_getElem? (i := 212) (by decide +kernel), List.mem_of_getElem? (i := 213) (by decide +kernel)⟩
theorem lw_p2 : lw_okq (⟨"MuffledTolls$Tower", "strokesInAll", "()I"⟩, 7) := ⟨⟨by decide +kernel, by decide +kernel⟩, List.mem_of_getElem? (i := 26) (by decide +kernel), List.mem_of_getElem? (i := 220) (by decide +kernel), List.mem_of_getElem? (i := 221) (by decide +kernel)⟩
theorem lw_p3 : lw_okq (⟨"MuffledTolls$Tower", "loudInAll", "()I"⟩, 7) := ⟨⟨by decide +kernel, by decide +kernel⟩, List.mem_of_getElem? (i := 26) (by decide +kernel), List.mem_of_getElem? (i := 224) (by decide +kernel), List.mem_of_getElem? (i := 225) (by decide +kernel)⟩
theorem lw_p4 : lw_okq (⟨"MuffledTolls$Tower", "leathersOnBells", "()I"⟩, 7) := ⟨⟨by decide +kernel, by decide +kernel⟩, List.mem_of_getElem? (i := 26) (by decide +kernel), List.mem_of_getElem? (i := 228) (by decide +kernel), List.mem_of_getElem? (i := 229) (by decide +kernel)⟩
theorem lw_p5 : lw_okq (⟨"MuffledTolls", "withBell", "(JI)J"⟩, 2) := ⟨⟨by decide +kernel, by decide +kernel⟩, List.mem_of_getElem? (i := 18) (by decide +kernel), List.mem_of_getElem? (i := 236) (by decide +kernel), List.mem_of_getElem? (i := 237) (by decide +kernel)⟩
theorem lw_p6 : lw_okq (⟨"MuffledTolls$Tower", "tollsNotDone", "(I)I"⟩, 7) := ⟨⟨by decide +kernel, by decide +kernel⟩, List.mem_of_getElem? (i := 26) (by decide +kernel), List.mem_of_getElem? (i := 244) (by decide +kernel), List.mem_of_getElem? (i := 245) (by decide +kernel)⟩
theorem lw_p7 : lw_okq (⟨"MuffledTolls$Toll", "years", "()I"⟩, 8) := ⟨⟨by decide +kernel, by decide +kernel⟩, List.mem_of_getElem? (i := 118) (by decide +kernel), List.mem_of_getElem? (i := 271) (by decide +kernel), List.mem_of_getElem? (i := 272) (by decide +kernel)⟩
theorem lw_p8 : lw_okq (⟨"MuffledTolls$Toll", "tellers", "()I"⟩, 8) := ⟨⟨by decide +kernel, by decide +kernel⟩, List.mem_of_getElem? (i := 118) (by decide +kernel), List.mem_of_getElem? (i := 275) (by decide +kernel), List.mem_of_getElem? (i := 276) (by decide +kernel)⟩
theorem lw_p9 : lw_okq (⟨"MuffledTolls$Toll", "state", "()I"⟩, 8) := ⟨⟨by decide +kernel, by decide +kernel⟩, List.mem_of_getElem? (i := 118) (by decide +kernel), List.mem_of_getElem? (i := 282) (by decide +kernel), List.mem_of_getElem? (i := 283) (by decide +kernel)⟩
theorem lw_p10 : lw_okq (⟨"java/lang/Throwable", "fillInStackTrace", "(I)Ljava/lang/Throwable;"⟩, 6) := ⟨⟨by decide +kernel, by decide +kernel⟩, List.mem_of_getElem? (i := 344) (by decide +kernel), List.mem_of_getElem? (i := 342) (by decide +kernel), List.mem_of_getElem? (i := 343) (by decide +kernel)⟩
theorem lw_p11 : lw_okq (⟨"MuffledTolls$Tower", "emptyRope", "(LMuffledTolls$Bell;)V"⟩, 7) := ⟨⟨by decide +kernel, by decide +kernel⟩, List.mem_of_getElem? (i := 26) (by decide +kernel), List.mem_of_getElem? (i := 471) (by decide +kernel), List.mem_of_getElem? (i := 472) (by decide +kernel)⟩
theorem lw_p12 : lw_okq (⟨"MuffledTolls$Tower", "firstNotDone", "(I)I"⟩, 7) := ⟨⟨by decide +kernel, by decide +kernel⟩, List.mem_of_getElem? (i := 26) (by decide +kernel), List.mem_of_getElem? (i := 514) (by decide +kernel), List.mem_of_getElem? (i := 515) (by decide +kernel)⟩
theorem lw_p13 : lw_okq (⟨"MuffledTolls$Tower", "passMinute", "()I"⟩, 7) := ⟨⟨by decide +kernel, by decide +kernel⟩, List.mem_of_getElem? (i := 26) (by decide +kernel), List.mem_of_getElem? (i := 554) (by decide +kernel), List.mem_of_getElem? (i := 555) (by decide +kernel)⟩
theorem lw_p14 : lw_okq (⟨"MuffledTolls$Tower", "goOn", "(I)I"⟩, 7) := ⟨⟨by decide +kernel, by decide +kernel⟩, List.mem_of_getElem? (i := 26) (by decide +kernel), List.mem_of_getElem? (i := 558) (by decide +kernel), List.mem_of_getElem? (i := 559) (by decide +kernel)⟩
theorem lw_p15 : lw_okq (⟨"MuffledTolls$Tower", "findPuller", "(I)I"⟩, 7) := ⟨⟨by decide +kernel, by decide +kernel⟩, List.mem_of_getElem? (i := 26) (by decide +kernel), List.mem_of_getElem? (i := 562) (by decide +kernel), List.mem_of_getElem? (i := 563) (by decide +kernel)⟩
def lw_privs_1 : List (MethodName × Nat) := [(⟨"MuffledTolls$Tower", "ringersAtRopes", "()I"⟩, 7), (⟨"MuffledTolls$Tower", "tollsDone", "()I"⟩, 7), (⟨"MuffledTolls$Tower", "strokesInAll", "()I"⟩, 7), (⟨"MuffledTolls$Tower", "loudInAll", "()I"⟩, 7), (⟨"MuffledTolls$Tower", "leathersOnBells", "()I"⟩, 7), (⟨"MuffledTolls", "withBell", "(JI)J"⟩, 2), (⟨"MuffledTolls$Tower", "tollsNotDone", "(I)I"⟩, 7), (⟨"MuffledTolls$Toll", "years", "()I"⟩, 8), (⟨"MuffledTolls$Toll", "tellers", "()I"⟩, 8), (⟨"MuffledTolls$Toll", "state", "()I"⟩, 8), (⟨"java/lang/Throwable", "fillInStackTrace", "(I)Ljava/lang/Throwable;"⟩, 6), (⟨"MuffledTolls$Tower", "emptyRope", "(LMuffledTolls$Bell;)V"⟩, 7), (⟨"MuffledTolls$Tower", "firstNotDone", "(I)I"⟩, 7), (⟨"MuffledTolls$Tower", "passMinute", "()I"⟩, 7), (⟨"MuffledTolls$Tower", "goOn", "(I)I"⟩, 7), (⟨"MuffledTolls$Tower", "findPuller", "(I)I"⟩, 7)]
theorem lw_r1 : ∀ q ∈ lw_privs_1, lw_okq q := List.forall_mem_cons.mpr ⟨lw_p0, List.forall_mem_cons.mpr ⟨lw_p1, List.forall_mem_cons.mpr ⟨lw_p2, List.forall_mem_cons.mpr ⟨lw_p3, List.forall_mem_cons.mpr ⟨lw_p4, List.forall_mem_cons.mpr ⟨lw_p5, List.forall_mem_cons.mpr ⟨lw_p6, List.forall_mem_cons.mpr ⟨lw_p7, List.forall_mem_cons.mpr ⟨lw_p8, List.forall_mem_cons.mpr ⟨lw_p9, List.forall_mem_cons.mpr ⟨lw_p10, List.forall_mem_cons.mpr ⟨lw_p11, List.forall_mem_cons.mpr ⟨lw_p12, List.forall_mem_cons.mpr ⟨lw_p13, List.forall_mem_cons.mpr ⟨lw_p14, List.forall_mem_cons.mpr ⟨lw_p15, fun _ h => absurd h List.not_mem_nil⟩⟩⟩⟩⟩⟩⟩⟩⟩⟩⟩⟩⟩⟩⟩⟩
theorem lw_p16 : lw_okq (⟨"MuffledTolls$Tower", "leastTiredAtRest", "(I)I"⟩, 7) := ⟨⟨by decide +kernel, by decide +kernel⟩, List.mem_of_getElem? (i := 26) (by decide +kernel), List.mem_of_getElem? (i := 570) (by decide +kernel), List.mem_of_getElem? (i := 571) (by decide +kernel)⟩
theorem lw_p17 : lw_okq (⟨"MuffledTolls$Tower", "strike", "(LMuffledTolls$Bell;LMuffledTolls$Ringer;)V"⟩, 7) := ⟨⟨by decide +kernel, by decide +kernel⟩, List.mem_of_getElem? (i := 26) (by decide +kernel), List.mem_of_getElem? (i := 575) (by decide +kernel), List.mem_of_getElem? (i := 576) (by decide +kernel)⟩
theorem lw_p18 : lw_okq (⟨"MuffledTollsModel", "no", "(I)I"⟩, 11) := ⟨⟨by decide +kernel, by decide +kernel⟩, List.mem_of_getElem? (i := 658) (by decide +kernel), List.mem_of_getElem? (i := 790) (by decide +kernel), List.mem_of_getElem? (i := 791) (by decide +kernel)⟩
theorem lw_p19 : lw_okq (⟨"MuffledTollsModel", "lastsOn", "(II)I"⟩, 11) := ⟨⟨by decide +kernel, by decide +kernel⟩, List.mem_of_getElem? (i := 658) (by decide +kernel), List.mem_of_getElem? (i := 814) (by decide +kernel), List.mem_of_getElem? (i := 815) (by decide +kernel)⟩
theorem lw_p20 : lw_okq (⟨"MuffledTollsModel", "bellTold", "(II)I"⟩, 11) := ⟨⟨by decide +kernel, by decide +kernel⟩, List.mem_of_getElem? (i := 658) (by decide +kernel), List.mem_of_getElem? (i := 822) (by decide +kernel), List.mem_of_getElem? (i := 823) (by decide +kernel)⟩
theorem lw_p21 : lw_okq (⟨"MuffledTollsModel", "isRinger", "(I)Z"⟩, 11) := ⟨⟨by decide +kernel, by decide +kernel⟩, List.mem_of_getElem? (i := 658) (by decide +kernel), List.mem_of_getElem? (i := 838) (by decide +kernel), List.mem_of_getElem? (i := 839) (by decide +kernel)⟩
theorem lw_p22 : lw_okq (⟨"MuffledTollsModel", "ringerTold", "(II)I"⟩, 11) := ⟨⟨by decide +kernel, by decide +kernel⟩, List.mem_of_getElem? (i := 658) (by decide +kernel), List.mem_of_getElem? (i := 850) (by decide +kernel), List.mem_of_getElem? (i := 851) (by decide +kernel)⟩
theorem lw_p23 : lw_okq (⟨"MuffledTollsModel", "tell", "(IIIII)V"⟩, 11) := ⟨⟨by decide +kernel, by decide +kernel⟩, List.mem_of_getElem? (i := 658) (by decide +kernel), List.mem_of_getElem? (i := 861) (by decide +kernel), List.mem_of_getElem? (i := 862) (by decide +kernel)⟩
theorem lw_p24 : lw_okq (⟨"MuffledTollsModel", "isToll", "(I)Z"⟩, 11) := ⟨⟨by decide +kernel, by decide +kernel⟩, List.mem_of_getElem? (i := 658) (by decide +kernel), List.mem_of_getElem? (i := 873) (by decide +kernel), List.mem_of_getElem? (i := 874) (by decide +kernel)⟩
theorem lw_p25 : lw_okq (⟨"MuffledTollsModel", "all", "(I)I"⟩, 11) := ⟨⟨by decide +kernel, by decide +kernel⟩, List.mem_of_getElem? (i := 658) (by decide +kernel), List.mem_of_getElem? (i := 882) (by decide +kernel), List.mem_of_getElem? (i := 883) (by decide +kernel)⟩
theorem lw_p26 : lw_okq (⟨"MuffledTollsModel", "tellers", "(I)I"⟩, 11) := ⟨⟨by decide +kernel, by decide +kernel⟩, List.mem_of_getElem? (i := 658) (by decide +kernel), List.mem_of_getElem? (i := 886) (by decide +kernel), List.mem_of_getElem? (i := 887) (by decide +kernel)⟩
theorem lw_p27 : lw_okq (⟨"MuffledTollsModel", "tollTold", "(II)I"⟩, 11) := ⟨⟨by decide +kernel, by decide +kernel⟩, List.mem_of_getElem? (i := 658) (by decide +kernel), List.mem_of_getElem? (i := 894) (by decide +kernel), List.mem_of_getElem? (i := 895) (by decide +kernel)⟩
theorem lw_p28 : lw_okq (⟨"MuffledTollsModel", "heardOf", "(II)I"⟩, 11) := ⟨⟨by decide +kernel, by decide +kernel⟩, List.mem_of_getElem? (i := 658) (by decide +kernel), List.mem_of_getElem? (i := 903) (by decide +kernel), List.mem_of_getElem? (i := 904) (by decide +kernel)⟩
theorem lw_p29 : lw_okq (⟨"MuffledTollsModel$State", "isManned", "(I)Z"⟩, 17) := ⟨⟨by decide +kernel, by decide +kernel⟩, List.mem_of_getElem? (i := 664) (by decide +kernel), List.mem_of_getElem? (i := 923) (by decide +kernel), List.mem_of_getElem? (i := 924) (by decide +kernel)⟩
theorem lw_p30 : lw_okq (⟨"MuffledTollsModel$State", "canPull", "(II)Z"⟩, 17) := ⟨⟨by decide +kernel, by decide +kernel⟩, List.mem_of_getElem? (i := 664) (by decide +kernel), List.mem_of_getElem? (i := 927) (by decide +kernel), List.mem_of_getElem? (i := 928) (by decide +kernel)⟩
theorem lw_p31 : lw_okq (⟨"MuffledTollsModel$State", "stroke", "(IIZ)V"⟩, 17) := ⟨⟨by decide +kernel, by decide +kernel⟩, List.mem_of_getElem? (i := 664) (by decide +kernel), List.mem_of_getElem? (i := 932) (by decide +kernel), List.mem_of_getElem? (i := 933) (by decide +kernel)⟩
def lw_privs_2 : List (MethodName × Nat) := [(⟨"MuffledTolls$Tower", "leastTiredAtRest", "(I)I"⟩, 7), (⟨"MuffledTolls$Tower", "strike", "(LMuffledTolls$Bell;LMuffledTolls$Ringer;)V"⟩, 7), (⟨"MuffledTollsModel", "no", "(I)I"⟩, 11), (⟨"MuffledTollsModel", "lastsOn", "(II)I"⟩, 11), (⟨"MuffledTollsModel", "bellTold", "(II)I"⟩, 11), (⟨"MuffledTollsModel", "isRinger", "(I)Z"⟩, 11), (⟨"MuffledTollsModel", "ringerTold", "(II)I"⟩, 11), (⟨"MuffledTollsModel", "tell", "(IIIII)V"⟩, 11), (⟨"MuffledTollsModel", "isToll", "(I)Z"⟩, 11), (⟨"MuffledTollsModel", "all", "(I)I"⟩, 11), (⟨"MuffledTollsModel", "tellers", "(I)I"⟩, 11), (⟨"MuffledTollsModel", "tollTold", "(II)I"⟩, 11), (⟨"MuffledTollsModel", "heardOf", "(II)I"⟩, 11), (⟨"MuffledTollsModel$State", "isManned", "(I)Z"⟩, 17), (⟨"MuffledTollsModel$State", "canPull", "(II)Z"⟩, 17), (⟨"MuffledTollsModel$State", "stroke", "(IIZ)V"⟩, 17)]
theorem lw_r2 : ∀ q ∈ lw_privs_2, lw_okq q := List.forall_mem_cons.mpr ⟨lw_p16, List.forall_mem_cons.mpr ⟨lw_p17, List.forall_mem_cons.mpr ⟨lw_p18, List.forall_mem_cons.mpr ⟨lw_p19, List.forall_mem_cons.mpr ⟨lw_p20, List.forall_mem_cons.mpr ⟨lw_p21, List.forall_mem_cons.mpr ⟨lw_p22, List.forall_mem_cons.mpr ⟨lw_p23, List.forall_mem_cons.mpr ⟨lw_p24, List.forall_mem_cons.mpr ⟨lw_p25, List.forall_mem_cons.mpr ⟨lw_p26, List.forall_mem_cons.mpr ⟨lw_p27, List.forall_mem_cons.mpr ⟨lw_p28, List.forall_mem_cons.mpr ⟨lw_p29, List.forall_mem_cons.mpr ⟨lw_p30, List.forall_mem_cons.mpr ⟨lw_p31, fun _ h => absurd h List.not_mem_nil⟩⟩⟩⟩⟩⟩⟩⟩⟩⟩⟩⟩⟩⟩⟩⟩
theorem lw_p32 : lw_okq (⟨"MuffledTollsModel$State", "copy", "([I[I)V"⟩, 17) := ⟨⟨by decide +kernel, by decide +kernel⟩, List.mem_of_getElem? (i := 664) (by decide +kernel), List.mem_of_getElem? (i := 949) (by decide +kernel), List.mem_of_getElem? (i := 950) (by decide +kernel)⟩
theorem lw_p33 : lw_okq (⟨"MuffledTollsModel", "endOf", "(I)I"⟩, 11) := ⟨⟨by decide +kernel, by decide +kernel⟩, List.mem_of_getElem? (i := 658) (by decide +kernel), List.mem_of_getElem? (i := 956) (by decide +kernel), List.mem_of_getElem? (i := 957) (by decide +kernel)⟩
def lw_privs_3 : List (MethodName × Nat) := [(⟨"MuffledTollsModel$State", "copy", "([I[I)V"⟩, 17), (⟨"MuffledTollsModel", "endOf", "(I)I"⟩, 11)]
theorem lw_r3 : ∀ q ∈ lw_privs_3, lw_okq q := List.forall_mem_cons.mpr ⟨lw_p32, List.forall_mem_cons.mpr ⟨lw_p33, fun _ h => absurd h List.not_mem_nil⟩⟩
def lw_privs : List (MethodName × Nat) := lw_privs_1 ++ (lw_privs_2 ++ (lw_privs_3))
def lw_tbl : List Cond := k2_sels lw_privs ++ tables_1
theorem lw_privs_ok : ∀ q ∈ lw_privs, lw_okq q := by
  show ∀ q ∈ lw_privs_1 ++ (lw_privs_2 ++ (lw_privs_3)), lw_okq q
  exact List.forall_mem_append.mpr ⟨lw_r1, List.forall_mem_append.mpr ⟨lw_r2, lw_r3⟩⟩
/-- the streams that the claim lets the run draw from -/
abbrev lw_cs : List Choice := [Jvm.Choice.named "NaN.bits"]
theorem lw_bits : nanBits ∈ lw_cs := by first | decide | exact List.mem_cons_self | simp [lw_cs, nanBits]

/-! ===== BEGIN words of one list among another's, by their places ===== -/
theorem goodIn_r {big : List Cond} (ws : List Cond) (ps : List Nat) (hp : ws = ps.filterMap (fun i => big[i]?)) (h : ws.all goodWord = true) : GoodIn big ws := by
  intro w hw
  have h1 := List.all_eq_true.mp h w hw
  rw [hp] at hw
  obtain ⟨i, -, hi⟩ := List.mem_filterMap.mp hw
  have hm : w ∈ big := by first | exact List.mem_of_getElem? hi | exact List.getElem?_mem hi
  exact ⟨hm, good_of_word h1⟩
theorem goodIn_app {big a b : List Cond} (ha : GoodIn big a) (hb : GoodIn big b) : GoodIn big (a ++ b) := fun w h => (List.mem_append.mp h).elim (ha w) (hb w)
theorem goodIn_ca {big a b : List Cond} {c : Cond} (ha : GoodIn big (c :: a)) (hb : GoodIn big b) : GoodIn big (c :: (a ++ b)) := fun w h => (List.mem_cons.mp h).elim (fun e => ha w (List.mem_cons.mpr (Or.inl e))) (fun h => (List.mem_append.mp h).elim (fun h => ha w (List.mem_cons.mpr (Or.inr h))) (hb w))
theorem goodIn_sub {big ws : List Cond} (hm : ∀ w ∈ ws, w ∈ big) (h : ws.all goodWord = true) : GoodIn big ws := fun w hw => ⟨hm w hw, good_of_word (List.all_eq_true.mp h w hw)⟩
/-! ===== END ===== -/

/-! ===== BEGIN exceptions that leave a method, and their catching by the caller (launches without stack traces) ===== -/
section VXA
/-! The laws vx_back, vx_callV, vx_callS, vx_callSW, vx_throw0, vx_throwS follow proofs of the library, with one case more: JvmDerived/Free/Laws.lean (Back.of_free), Shelf42/LK1.lean (callV, callS), Shelf/KitTraced.lean (throwNew0V, throwNewS). -/
/-- where a method has thrown q: the class by its name, the cell, what was written, the world -/
def vx_T (XC : String → State → State → Prop) (st : State) (q : Addr) (t : State) (mc ms : Nat) (free : Addr → Prop) : Prop :=
  ∃ (E : String) (ce : Cell) (L : List Loc), XC E st t ∧ t.heap[q]? = some ce ∧ ce.vm = .none ∧ st.vm.findClass E = some ce.cls ∧ st.WarmedH t.vm ∧ st.sameButNew ({ t with vm := st.vm } : State) L mc ms ∧ ∀ z ∈ L, free z.base
def vx_Q (Qc : Array Value → State → Outcome → State → Prop) (XC : String → State → State → Prop) (mc ms : Nat) (free : Addr → Prop) : Array Value → State → Outcome → State → Prop := fun a st o t =>
  (Qc a st o t ∧ ∃ L, FrameEnd st o t L mc ms ∧ ∀ q ∈ L, free q.base) ∨ ∃ q, o = .threw q ∧ vx_T XC st q t mc ms free
/-- a callee that returns or throws -/
def vx_Met (l : Launch) (y : MethodName) (ws : List Cond) (rm : Room) (Pc : Array Value → State → Prop) (Qc : Array Value → State → Outcome → State → Prop) (XC : String → State → State → Prop) (mc ms : Nat) (free : Addr → Prop) : Prop :=
  MetFree l y (headSpec ws rm) Pc (fun _ _ _ _ _ => True) (vx_Q Qc XC mc ms free)
def vx_Post (XC : String → State → State → Prop) (mc ms : Nat) (free : Addr → Prop) : Pt → Array Value → Addr → Pt → Prop := fun A a q B =>
  ∃ (g : JFrame) (mk : MethodId) (t : State) (L : List Loc) (E : String) (ce : Cell), B.U.heap = t.heap ∧ B.U.vm = t.vm ∧ XC E (A.U.calling g mk a) t ∧ t.heap[q]? = some ce ∧ ce.vm = .none ∧ A.U.vm.findClass E = some ce.cls ∧ B.locs = A.locs ++ L ∧ (∀ z ∈ L, free z.base) ∧ B.cells = A.cells + mc ∧ B.slots = A.slots + ms
def vx_Back (l : Launch) (R : Room) (p : Program) (e : Env) (below : List Frame) (s : State) (sargs : Array Value) (y : MethodName) (len W9 : Nat)
    (Pre : Pt → Array Value → Prop) (Post : Pt → Array Value → Option Value → Pt → Prop) (PostX : Pt → Array Value → Addr → Pt → Prop) : Prop :=
  ∀ (m : MethodId) (meth : Method) (c : Code) (A : Pt) (g : JFrame) (ig : Instr) (mk : MethodId) (a : Array Value),
    Stand p l e R s m sargs below meth c A.U A.locs A.cells A.slots → g.method = m → g.locals.size = c.maxLocals → decode c.code g.pc = .ok (ig, len) →
    2 * g.monitorRoom + (g.stack.map fun v => v.category).sum ≤ W9 → A.U.methodNamed? y = some mk → Pre A a →
    (∃ (v : Option Value) (B : Pt), Stand p l e R s m sargs below meth c B.U B.locs B.cells B.slots ∧ Post A a v B ∧
      Steps p.tables e below (doInvoke e (A.U.setTop g) [] mk a).1 (B.U.setTop { g with pc := g.pc + len, stack := v.toList ++ g.stack })) ∨
    (∃ (q : Addr) (B : Pt), Stand p l e R s m sargs below meth c B.U B.locs B.cells B.slots ∧ PostX A a q B ∧
      Steps p.tables e below (doInvoke e (A.U.setTop g) [] mk a).1 ((B.U.setTop g).pushFrame (.throwing q)))
section Payer
variable {l : Launch} {R : Room} {p : Program} {e : Env} {below : List Frame} {s : State} {sargs : Array Value} {y : MethodName} {len W9 : Nat}
theorem vx_back {ws : List Cond} {rm : Room} {Pc : Array Value → State → Prop} {Qc : Array Value → State → Outcome → State → Prop} {XC : String → State → State → Prop} {mc ms : Nat} {free : Addr → Prop} {bytes : ByteArray} {maxL : Nat} {ret : Option FieldType}
    (hM : vx_Met l y ws rm Pc Qc XC mc ms free) (hblind : FrameBlind Pc) (hrc : rm.cells = mc) (hrs : rm.slots = ms)
    (hframes : rm.frames + 1 ≤ R.frames) (hlocals : W9 + (maxL + 11) + rm.locals ≤ R.locals)
    (hws : ∀ w ∈ ws, ∀ a' U, s.WarmedH U.vm → w.before a' U = true) (hcode : Cond.code y bytes maxL ret ∈ ws) (hinit : ∀ a' U, s.WarmedH U.vm → (Cond.initialized y.cls).before a' U = true) :
    vx_Back l R p e below s sargs y len W9 (PreOf R mc ms Pc) (PostOf Qc mc ms free) (vx_Post XC mc ms free) := by
  intro m meth c A g ig mk a X hg hsize hdg hW hn hp
  have h1 : (headSpec ws rm).pre.before a A.U = true := atoms_intro fun w hw => hws w hw _ _ X.warmed
  have h2 : (Cond.code y bytes maxL ret).before a A.U = true := hws _ hcode _ _ X.warmed
  have h3 : (Cond.initialized y.cls).before a A.U = true := hinit _ _ X.warmed
  have h4 : A.cells + (headSpec ws rm).room.cells ≤ R.cells := by rw [show (headSpec ws rm).room.cells = mc from hrc]; exact hp.1
  have h5 : A.slots + (headSpec ws rm).room.slots ≤ R.slots := by rw [show (headSpec ws rm).room.slots = ms from hrs]; exact hp.2.1
  have hPc : Pc a (A.U.calling g mk a) := hblind _ _ _ _ hp.2.2
  obtain ⟨U, Ls, c0, s0⟩ := A
  dsimp only [Pt.U, Pt.locs, Pt.cells, Pt.slots] at h1 h2 h3 h4 h5 X hn hPc ⊢
  obtain ⟨methY, cY, hmY, hcY, -, hlY, -, -, -, -⟩ := Cond.code_spec hn h2
  obtain ⟨kY, hkY, -⟩ := className_of_methodNamed hn
  have hinitY : kY.init = .initialized := Cond.initialized_spec (findClass_of_methodNamed hn) hkY h3
  have h : At U g.method c below := by rw [hg]; exact X.here
  have hlocals9 : W9 + (maxL + 11) + (headSpec ws rm).room.locals ≤ R.locals := hlocals
  have happ : (headSpec ws rm).appliesLoose y e.platform (U.calling g mk a) = true :=
    Spec.appliesLoose_calling (g := g) h hdg hn hkY hinitY
      (X.room_calling (g := g) (R' := (headSpec ws rm).room) hsize hmY hcY hframes (by rw [hlY]; omega) h4 h5) h1
  obtain ⟨mid, hmid⟩ := h.above
  have hfr : (U.setTop g).frames = (.java g :: mid) ++ below := by rw [State.frames_setTop' g h.top, hmid]; rfl
  obtain ⟨o, s₂, hsteps, -, hend, hq⟩ := Steps.callFree hM p X.admits X.cas X.clock (acts := []) hfr happ hPc trivial
  have hq' : vx_Q Qc XC mc ms free a (U.calling g mk a) o s₂ := hq
  rw [State.frames_setTop' g h.top] at hend
  obtain ⟨g₀, hg0⟩ := Option.isSome_iff_exists.mp h.top
  obtain ⟨r, hr⟩ := State.topJava?_eq_some.mp hg0
  have hr' : (({ U with heap := s₂.heap, slotsUsed := s₂.slotsUsed } : State).setVm s₂.vm).frames = .java g₀ :: r := hr
  rcases hq' with ⟨hqc, L, hfe, hL⟩ | ⟨q, rfl, E, ce, L, hx, hce, hcv, hcl, hW₂, hsm, hL⟩
  · obtain ⟨⟨v, rfl⟩, hW₂, e2, q2, q3, q4, q5, q6⟩ := id hfe
    have e3 : s₂ = ({ (U.calling g mk a).setFrames s₂.frames with heap := s₂.heap, slotsUsed := s₂.slotsUsed } : State).setVm s₂.vm := by
      have : s₂ = ({ s₂ with vm := (U.calling g mk a).vm } : State).setVm s₂.vm := rfl
      rw [e2] at this
      exact this
    obtain ⟨c₂, i₂, len₂, hc₂, hd₂, hf₂⟩ := hend
    have hW' : U.WarmedH s₂.vm := hW₂
    have hcc : c₂ = c := by
      have h1 : s₂.code? g.method = U.code? g.method := by
        rw [State.code?_eq, State.code?_eq, hW'.alike.method?]
      exact Option.some.inj (hc₂.symm.trans (h1.trans h.code))
    subst hcc
    have hlen : len₂ = len := by rw [hdg] at hd₂; cases hd₂; rfl
    subst hlen
    have hs₂ : s₂ = (({ U with heap := s₂.heap, slotsUsed := s₂.slotsUsed } : State).setVm s₂.vm).setTop { g with pc := g.pc + len₂, stack := v.toList ++ g.stack } := by
      refine e3.trans ?_
      rw [hf₂, State.calling_eq h.top, State.setFrames_setFrames, State.setTop_of_frames _ hr', hr]
      rfl
    have hsame : U.sameButNew ({ U with heap := s₂.heap, slotsUsed := s₂.slotsUsed } : State) L mc ms := by
      refine ⟨?_, q2, q3, q4, q5, q6⟩
      obtain ⟨t, ht, -⟩ := State.frames_cons hr
      show ({ U with heap := s₂.heap, slotsUsed := s₂.slotsUsed } : State) = { U.setFrames U.frames with heap := s₂.heap, slotsUsed := s₂.slotsUsed }
      rw [State.setFrames_self ht]
    subst hg
    refine Or.inl ⟨v, ⟨(({ U with heap := s₂.heap, slotsUsed := s₂.slotsUsed } : State).setVm s₂.vm), Ls ++ L, c0 + mc, s0 + ms⟩,
      ⟨X.admits, X.cas, X.clock, X.frames, X.room, X.hears, X.method, X.code, (X.here.setHeapUsed s₂.heap s₂.slotsUsed).setVm hW'.alike, X.tail, State.WarmedH.trans X.warmed hW', X.limits, X.bytes, X.same.trans (hsame.setVm s.vm)⟩,
      ⟨g, mk, s₂, L, rfl, rfl, hqc, rfl, hL, rfl, rfl⟩, ?_⟩
    show Steps p.tables e below _ ((({ U with heap := s₂.heap, slotsUsed := s₂.slotsUsed } : State).setVm s₂.vm).setTop { g with pc := g.pc + len₂, stack := v.toList ++ g.stack })
    rw [← hs₂]
    exact hsteps
  · obtain ⟨e2, q2, q3, q4, q5, q6⟩ := id hsm
    have e3 : s₂ = ({ (U.calling g mk a).setFrames s₂.frames with heap := s₂.heap, slotsUsed := s₂.slotsUsed } : State).setVm s₂.vm := by
      have : s₂ = ({ s₂ with vm := (U.calling g mk a).vm } : State).setVm s₂.vm := rfl
      rw [e2] at this
      exact this
    have hf₂ : s₂.frames = .throwing q :: .java g :: U.frames.tail := hend
    have hW' : U.WarmedH s₂.vm := hW₂
    have hs₂ : s₂ = ((({ U with heap := s₂.heap, slotsUsed := s₂.slotsUsed } : State).setVm s₂.vm).setTop g).pushFrame (.throwing q) := by
      refine e3.trans ?_
      rw [hf₂, State.calling_eq h.top, State.setFrames_setFrames, State.pushFrame, State.frames_setTop _ hr', State.setTop_of_frames _ hr', State.setFrames_setFrames, hr]
      rfl
    have hsame : U.sameButNew ({ U with heap := s₂.heap, slotsUsed := s₂.slotsUsed } : State) L mc ms := by
      refine ⟨?_, q2, q3, q4, q5, q6⟩
      obtain ⟨t, ht, -⟩ := State.frames_cons hr
      show ({ U with heap := s₂.heap, slotsUsed := s₂.slotsUsed } : State) = { U.setFrames U.frames with heap := s₂.heap, slotsUsed := s₂.slotsUsed }
      rw [State.setFrames_self ht]
    subst hg
    refine Or.inr ⟨q, ⟨(({ U with heap := s₂.heap, slotsUsed := s₂.slotsUsed } : State).setVm s₂.vm), Ls ++ L, c0 + mc, s0 + ms⟩,
      ⟨X.admits, X.cas, X.clock, X.frames, X.room, X.hears, X.method, X.code, (X.here.setHeapUsed s₂.heap s₂.slotsUsed).setVm hW'.alike, X.tail, State.WarmedH.trans X.warmed hW', X.limits, X.bytes, X.same.trans (hsame.setVm s.vm)⟩,
      ⟨g, mk, s₂, L, E, ce, rfl, rfl, hx, hce, hcv, hcl, rfl, hL, rfl, rfl⟩, ?_⟩
    show Steps p.tables e below _ (((({ U with heap := s₂.heap, slotsUsed := s₂.slotsUsed } : State).setVm s₂.vm).setTop g).pushFrame (.throwing q))
    rw [← hs₂]
    exact hsteps
end Payer
section Calls
variable {p : Program} {l : Launch} {e : Env} {R : Room} {s : State} {m : MethodId} {args : Array Value} {below : List Frame} {meth : Method} {c : Code} {T : State} {locs : List Loc} {cells slots : Nat}
theorem vx_callV (X : Stand p l e R s m args below meth c T locs cells slots) (hexec : p.tables.exec = Jvm.exec) {own C : String} {index : Nat} {y : MethodName} {bytes : ByteArray} {maxL : Nat} {ret : Option FieldType}
    (hown : s.vm.findClass own = some m.cls) (hlink : (Cond.methodLink own index y).before args s = true) (hinst : (Cond.instanceMethod y).before args s = true) (hsel : (Cond.selects C y y).before args s = true)
    (hcode : (Cond.code y bytes maxL ret).before args s = true) (hy : y.cls ≠ "java/lang/invoke/MethodHandle" ∧ y.cls ≠ "java/lang/invoke/VarHandle")
    {W9 : Nat} {Pre : Pt → Array Value → Prop} {Post : Pt → Array Value → Option Value → Pt → Prop} {PostX : Pt → Array Value → Addr → Pt → Prop} (hK : vx_Back l R p e below s args y 3 W9 Pre Post PostX)
    {b : Addr} {cellB : Cell} (hcell : T.heap[b]? = some cellB) (hobj : cellB.vm.isStatics = false) (hcls : s.vm.findClass C = some cellB.cls)
    {g : JFrame} (hg : g.method = m) (hsize : g.locals.size = c.maxLocals) {argsL rest : List Value} (hlen : ∀ sig, parseMethodDescriptor y.desc = some sig → argsL.length = sig.parameters.length)
    (hstack : g.stack = argsL.reverse ++ .ref b :: rest) (hW : 2 * g.monitorRoom + (rest.map fun v => v.category).sum ≤ W9) (hdg : decode c.code g.pc = .ok (.invokevirtual index, 3))
    (hpre : ∀ vm₁, s.WarmedH vm₁ → Pre ⟨T.setVm vm₁, locs, cells, slots⟩ (Value.ref b :: argsL).toArray) :
    (∃ (v : Option Value) (vm₁ : Vm) (B : Pt), s.WarmedH vm₁ ∧ Stand p l e R s m args below meth c B.U B.locs B.cells B.slots ∧ Post ⟨T.setVm vm₁, locs, cells, slots⟩ (Value.ref b :: argsL).toArray v B ∧
      ∀ target, Steps p.tables e below (B.U.setTop { g with pc := g.pc + 3, stack := v.toList ++ rest }) target → Steps p.tables e below (T.setTop g) target) ∨
    (∃ (q : Addr) (vm₁ : Vm) (B : Pt), s.WarmedH vm₁ ∧ Stand p l e R s m args below meth c B.U B.locs B.cells B.slots ∧ PostX ⟨T.setVm vm₁, locs, cells, slots⟩ (Value.ref b :: argsL).toArray q B ∧
      Steps p.tables e below (T.setTop g) ((B.U.setTop { g with stack := rest }).pushFrame (.throwing q))) := by
  obtain ⟨mk, methM, hnamed, hmethM, hstM, habM⟩ := Cond.instanceMethod_spec hinst
  obtain ⟨methM', cM, hmethM', -, -, -, -, -, -, hsigM⟩ := Cond.code_spec hnamed hcode
  cases hmethM.symm.trans hmethM'
  obtain ⟨c2, r2, m2, q1, q2, q3, q4, kP, hkP, hkPi⟩ := Cond.selects_spec hsel
  cases hcls.symm.trans q1
  cases (State.methodFound?_of_named hnamed hy).symm.trans q2
  cases hnamed.symm.trans q3
  have hselP : selectMethod e.platform s.vm cellB.cls mk = .method mk := by rw [Launch.admits_selectMethod X.admits]; exact q4
  obtain ⟨vm₁, X₁, hstep₁⟩ := X.invokevirtual hexec hown hlink hnamed hmethM hstM hkP hkPi hy (a := b) (cell := cellB) hcell
    (fun z h => by rw [h] at hobj; cases hobj) hselP hmethM habM hkP hkPi (g := g) hg (argsL := argsL) (rest := rest) (hlen _ hsigM) hstack hdg
  rcases hK m meth c ⟨T.setVm vm₁, locs, cells, slots⟩ { g with stack := rest } (.invokevirtual index) mk (Value.ref b :: argsL).toArray X₁ hg hsize hdg hW (X₁.named hnamed) (hpre vm₁ X₁.warmed) with ⟨v, B, X', hpost, hsteps⟩ | ⟨q, B, X', hpost, hsteps⟩
  · exact Or.inl ⟨v, vm₁, B, X₁.warmed, X', hpost, fun target h => hstep₁ _ fun acts => by rw [doInvoke_state]; exact hsteps.trans h⟩
  · exact Or.inr ⟨q, vm₁, B, X₁.warmed, X', hpost, hstep₁ _ fun acts => by rw [doInvoke_state]; exact hsteps⟩
theorem vx_callS (X : Stand p l e R s m args below meth c T locs cells slots) (hexec : p.tables.exec = Jvm.exec) {own : String} {index : Nat} {y : MethodName} {bytes : ByteArray} {maxL : Nat} {ret : Option FieldType}
    (hown : s.vm.findClass own = some m.cls) (hlink : (Cond.methodLink own index y).before args s = true) (hstat : (Cond.static y).before args s = true) (hinit : (Cond.initialized y.cls).before args s = true)
    (hcode : (Cond.code y bytes maxL ret).before args s = true) (hy : y.cls ≠ "java/lang/invoke/MethodHandle" ∧ y.cls ≠ "java/lang/invoke/VarHandle")
    {W9 : Nat} {Pre : Pt → Array Value → Prop} {Post : Pt → Array Value → Option Value → Pt → Prop} {PostX : Pt → Array Value → Addr → Pt → Prop} (hK : vx_Back l R p e below s args y 3 W9 Pre Post PostX)
    {g : JFrame} (hg : g.method = m) (hsize : g.locals.size = c.maxLocals) {argsL rest : List Value} (hlen : ∀ sig, parseMethodDescriptor y.desc = some sig → argsL.length = sig.parameters.length)
    (hstack : g.stack = argsL.reverse ++ rest) (hW : 2 * g.monitorRoom + (rest.map fun v => v.category).sum ≤ W9) (hdg : decode c.code g.pc = .ok (.invokestatic index, 3))
    (hpre : ∀ vm₁, s.WarmedH vm₁ → Pre ⟨T.setVm vm₁, locs, cells, slots⟩ argsL.toArray) :
    (∃ (v : Option Value) (vm₁ : Vm) (B : Pt), s.WarmedH vm₁ ∧ Stand p l e R s m args below meth c B.U B.locs B.cells B.slots ∧ Post ⟨T.setVm vm₁, locs, cells, slots⟩ argsL.toArray v B ∧
      ∀ target, Steps p.tables e below (B.U.setTop { g with pc := g.pc + 3, stack := v.toList ++ rest }) target → Steps p.tables e below (T.setTop g) target) ∨
    (∃ (q : Addr) (vm₁ : Vm) (B : Pt), s.WarmedH vm₁ ∧ Stand p l e R s m args below meth c B.U B.locs B.cells B.slots ∧ PostX ⟨T.setVm vm₁, locs, cells, slots⟩ argsL.toArray q B ∧
      Steps p.tables e below (T.setTop g) ((B.U.setTop { g with stack := rest }).pushFrame (.throwing q))) := by
  obtain ⟨mk, hnamed⟩ := Cond.code_named hcode
  obtain ⟨methM, cM, hmethM, -, -, -, -, -, -, hsigM⟩ := Cond.code_spec hnamed hcode
  have hstatic : methM.isStatic = true := Cond.static_spec hnamed hmethM hstat
  obtain ⟨kP, hkP, -⟩ := className_of_methodNamed hnamed
  have hinitP : kP.init = .initialized := Cond.initialized_spec (findClass_of_methodNamed hnamed) hkP hinit
  obtain ⟨vm₁, X₁, hstep₁⟩ := X.invokestatic hexec hown hlink hnamed hmethM hstatic hkP hinitP hy (g := g) hg (argsL := argsL) (rest := rest) (hlen _ hsigM) hstack hdg
  rcases hK m meth c ⟨T.setVm vm₁, locs, cells, slots⟩ { g with stack := rest } (.invokestatic index) mk argsL.toArray X₁ hg hsize hdg hW (X₁.named hnamed) (hpre vm₁ X₁.warmed) with ⟨v, B, X', hpost, hsteps⟩ | ⟨q, B, X', hpost, hsteps⟩
  · exact Or.inl ⟨v, vm₁, B, X₁.warmed, X', hpost, fun target h => hstep₁ _ fun acts => by rw [doInvoke_state]; exact hsteps.trans h⟩
  · exact Or.inr ⟨q, vm₁, B, X₁.warmed, X', hpost, hstep₁ _ fun acts => by rw [doInvoke_state]; exact hsteps⟩
end Calls
theorem vx_cls {s : State} {T : State} {vm₁ : Vm} {E : String} {k : ClassId} (hW : s.WarmedH vm₁) (h : (T.setVm vm₁).vm.findClass E = some k) : s.vm.findClass E = some k := by
  have h1 : vm₁.findClass E = some k := h
  rw [hW.alike.findClass] at h1
  exact h1
/-- the method's frame g, with q thrown over it -/
def vx_W (p : Program) (l : Launch) (e : Env) (R : Room) (s : State) (m : MethodId) (args : Array Value) (below : List Frame) (meth : Method) (c : Code) (H : Heap) (locs : List Loc) (cells slots : Nat) (Q : State → Prop) (g : JFrame) (q : Addr) : Prop :=
  ∀ T : State, T.heap = H → Stand p l e R s m args below meth c T locs cells slots → ∃ t, Steps p.tables e below ((T.setTop g).pushFrame (.throwing q)) t ∧ Q t
def vx_Run (p : Program) (l : Launch) (e : Env) (R : Room) (s : State) (m : MethodId) (args : Array Value) (below : List Frame) (meth : Method) (c : Code) (H : Heap) (locs : List Loc) (cells slots mc ms : Nat) (g : JFrame) (rest : List Value) (Qa : State → Outcome → State → Prop) (XC : String → State → State → Prop) (free : Addr → Prop) : Prop :=
  ∀ T : State, T.heap = H → Stand p l e R s m args below meth c T locs cells slots →
    (∃ (v : Option Value) (st₀ t T' : State) (L : List Loc), st₀.heap = H ∧ Stand p l e R s m args below meth c T' (locs ++ L) (cells + mc) (slots + ms) ∧ (∀ q ∈ L, free q.base) ∧ T'.heap = t.heap ∧ T'.vm = t.vm ∧ Qa st₀ (.returned v) t ∧
      Goes p e below T g T' { g with pc := g.pc + 3, stack := v.toList ++ rest }) ∨
    (∃ (q : Addr) (st₀ t T' : State) (L : List Loc) (E : String) (ce : Cell), st₀.heap = H ∧ Stand p l e R s m args below meth c T' (locs ++ L) (cells + mc) (slots + ms) ∧ (∀ z ∈ L, free z.base) ∧ T'.heap = t.heap ∧ T'.vm = t.vm ∧ XC E st₀ t ∧ t.heap[q]? = some ce ∧ ce.vm = .none ∧ s.vm.findClass E = some ce.cls ∧
      Steps p.tables e below (T.setTop g) ((T'.setTop { g with stack := rest }).pushFrame (.throwing q)))
def vx_X {S : Type} (px : S → Prop) (B : String → S → State → Prop) (A : Nat → Prop) : String → State → State → Prop := fun E st t => ∃ u : S, px u ∧ B E u t ∧ va_F A st t
section Runs
variable {p : Program} {l : Launch} {e : Env} {R : Room} {s : State} {m : MethodId} {args : Array Value} {below : List Frame} {meth : Method} {c : Code} {H : Heap} {locs : List Loc} {cells slots : Nat}
variable {y : MethodName} {bytes cc : ByteArray} {maxL nL mc ms n index : Nat} {ret : Option FieldType} {ws : List Cond} {rm : Room} {Pc : Array Value → State → Prop} {Qc : Array Value → State → Outcome → State → Prop} {XC : String → State → State → Prop} {free : Addr → Prop} {Ts : List Cond} {own C : String} {b : Addr} {As rest : List Value} {g : JFrame}
theorem vx_callBack (cb : CallB R s args own index y bytes maxL ret ws rm mc ms n) (hM : vx_Met l y ws rm Pc Qc XC mc ms free) (hbl : FrameBlind Pc) : vx_Back l R p e below s args y 3 8 (PreOf R mc ms Pc) (PostOf Qc mc ms free) (vx_Post XC mc ms free) := by
  obtain ⟨hrc, hrs, hfr, hlo, hws, hcw, -, hini, -⟩ := cb
  exact vx_back (bytes := bytes) (maxL := maxL) (ret := ret) hM hbl hrc hrs hfr hlo hws hcw (fun a' U hW => word_at hW (Or.inl (by first | rfl | simp [Cond.onTables, Cond.keeps, Cond.steady])) hini)
theorem vx_runV (S : CallFix p m c cc nL s args Ts own) (hM : vx_Met l y ws rm Pc Qc XC mc ms free) (cw : CallW R s args own C index y bytes maxL ret ws rm mc ms n) (hp : PreV s H C b Pc As)
    (hg : g.method = m) (hn : As.length = n) (hsize : g.locals.size = nL) (hstack : g.stack = As.reverse ++ .ref b :: rest) (hW : 2 * g.monitorRoom + (rest.map fun v => v.category).sum ≤ 8) (hdg : decode cc g.pc = .ok (.invokevirtual index, 3)) (hf : cells + mc ≤ R.cells ∧ slots + ms ≤ R.slots) :
    vx_Run p l e R s m args below meth c H locs cells slots mc ms g rest (Qc (Value.ref b :: As).toArray) XC free := by
  have hK : vx_Back l R p e below s args y 3 8 (PreOf R mc ms Pc) (PostOf Qc mc ms free) (vx_Post XC mc ms free) := vx_callBack cw.1 hM hp.1
  obtain ⟨⟨-, -, -, -, -, -, hcode, -, hy, hlen, hl⟩, hin, hse⟩ := cw
  obtain ⟨hx, hb, hml, ho, -⟩ := S
  obtain ⟨-, ⟨cellB, hcB, hoB, hclB⟩, hPc⟩ := hp
  intro T hT X
  rcases vx_callV X hx (C := C) (bytes := bytes) (maxL := maxL) (ret := ret) ho hl hin hse hcode hy hK (by rw [hT]; exact hcB) hoB hclB hg (hsize.trans hml.symm) (argsL := As) (rest := rest) (fun sig h => hn.trans (hlen sig h)) hstack hW (by rw [hb]; exact hdg)
    (fun vm₁ hW₁ => ⟨hf.1, hf.2, hPc (T.setVm vm₁) hT hW₁⟩) with ⟨v, vm₁, ⟨U', l2, c2, s2⟩, hW₁, X', ⟨g', mk, t, L, e1, e2, hq, h1, hL, h2, h3⟩, st⟩ | ⟨q, vm₁, ⟨U', l2, c2, s2⟩, hW₁, X', ⟨g', mk, t, L, E, ce, e1, e2, hq, hce, hcv, hcl, h1, hL, h2, h3⟩, st⟩
  · dsimp only [Pt.U, Pt.locs, Pt.cells, Pt.slots] at X' e1 e2 h1 h2 h3 st
    subst h1; subst h2; subst h3
    exact Or.inl ⟨v, (T.setVm vm₁).calling g' mk (Value.ref b :: As).toArray, t, U', L, hT, X', hL, e1, e2, hq, st⟩
  · dsimp only [Pt.U, Pt.locs, Pt.cells, Pt.slots] at X' e1 e2 h1 h2 h3 st hcl
    subst h1; subst h2; subst h3
    exact Or.inr ⟨q, (T.setVm vm₁).calling g' mk (Value.ref b :: As).toArray, t, U', L, E, ce, hT, X', hL, e1, e2, hq, hce, hcv, vx_cls hW₁ hcl, st⟩
theorem vx_runS (S : CallFix p m c cc nL s args Ts own) (hM : vx_Met l y ws rm Pc Qc XC mc ms free) (cw : CallB R s args own index y bytes maxL ret ws rm mc ms n ∧ (Cond.static y).before args s = true) (hp : PreS s H Pc As)
    (hg : g.method = m) (hn : As.length = n) (hsize : g.locals.size = nL) (hstack : g.stack = As.reverse ++ rest) (hW : 2 * g.monitorRoom + (rest.map fun v => v.category).sum ≤ 8) (hdg : decode cc g.pc = .ok (.invokestatic index, 3)) (hf : cells + mc ≤ R.cells ∧ slots + ms ≤ R.slots) :
    vx_Run p l e R s m args below meth c H locs cells slots mc ms g rest (Qc As.toArray) XC free := by
  have hK : vx_Back l R p e below s args y 3 8 (PreOf R mc ms Pc) (PostOf Qc mc ms free) (vx_Post XC mc ms free) := vx_callBack cw.1 hM hp.1
  obtain ⟨⟨-, -, -, -, -, -, hcode, hini, hy, hlen, hl⟩, hstt⟩ := cw
  obtain ⟨hx, hb, hml, ho, -⟩ := S
  intro T hT X
  rcases vx_callS X hx (bytes := bytes) (maxL := maxL) (ret := ret) ho hl hstt hini hcode hy hK hg (hsize.trans hml.symm) (argsL := As) (rest := rest) (fun sig h => hn.trans (hlen sig h)) hstack hW (by rw [hb]; exact hdg)
    (fun vm₁ hW₁ => ⟨hf.1, hf.2, hp.2 (T.setVm vm₁) hT hW₁⟩) with ⟨v, vm₁, ⟨U', l2, c2, s2⟩, hW₁, X', ⟨g', mk, t, L, e1, e2, hq, h1, hL, h2, h3⟩, st⟩ | ⟨q, vm₁, ⟨U', l2, c2, s2⟩, hW₁, X', ⟨g', mk, t, L, E, ce, e1, e2, hq, hce, hcv, hcl, h1, hL, h2, h3⟩, st⟩
  · dsimp only [Pt.U, Pt.locs, Pt.cells, Pt.slots] at X' e1 e2 h1 h2 h3 st
    subst h1; subst h2; subst h3
    exact Or.inl ⟨v, (T.setVm vm₁).calling g' mk As.toArray, t, U', L, hT, X', hL, e1, e2, hq, st⟩
  · dsimp only [Pt.U, Pt.locs, Pt.cells, Pt.slots] at X' e1 e2 h1 h2 h3 st hcl
    subst h1; subst h2; subst h3
    exact Or.inr ⟨q, (T.setVm vm₁).calling g' mk As.toArray, t, U', L, E, ce, hT, X', hL, e1, e2, hq, hce, hcv, vx_cls hW₁ hcl, st⟩
end Runs
section Rows
variable {p : Program} {l : Launch} {e : Env} {R : Room} {s : State} {m : MethodId} {args : Array Value} {below : List Frame} {meth : Method} {c : Code} {H : Heap} {locs : List Loc} {cells slots : Nat} {Q : State → Prop}
variable {mc ms : Nat} {free : Addr → Prop} {A0 A1 : Nat → Prop} {H0 : Heap} {a : Array Value} {pc : Nat} {ls : Array Slot} {st0 rest : List Value}
theorem vx_keep {st₀ t T' : State} {L : List Loc} (h0 : st₀.heap = H) (e1 : T'.heap = t.heap) (hS : va_S A0 H0 H locs) (hA : ∀ q, q < H.size → A1 q → A0 q) (hf : ∀ q, free q → A0 q) (hL : ∀ q ∈ L, free q.base) (hF : va_F A1 st₀ t) :
    H.size ≤ T'.heap.size ∧ (∀ q : Nat, q < H.size → ¬ A1 q → T'.heap[q]? = H[q]?) ∧ va_S A0 H0 T'.heap (locs ++ L) := by
  obtain ⟨hz, hk⟩ := hF
  rw [h0] at hz hk
  exact ⟨by rw [e1]; exact hz, fun q h1 h2 => by rw [e1]; exact hk q h1 h2,
    ⟨Nat.le_trans hS.1 (by rw [e1]; exact hz), fun q h1 h2 => by rw [e1, hk q (Nat.lt_of_lt_of_le h1 hS.1) (fun z => h2 (hA q (Nat.lt_of_lt_of_le h1 hS.1) z))]; exact hS.2.1 q h1 h2, fun q hq => by
      rcases List.mem_append.mp hq with h | h
      · exact hS.2.2 q h
      · exact hf _ (hL q h)⟩⟩
theorem vx_calli {S SX : Type} {post : Int32 → S → Prop} {px : SX → Prop} {B : S → State → Prop} {BX : String → SX → State → Prop} {AX : Nat → Prop} (hr : vx_Run p l e R s m args below meth c H locs cells slots mc ms (F0 m pc ls st0) rest (va_Qi post B A1 a) (vx_X px BX AX) free) (hS : va_S A0 H0 H locs) (hA : ∀ q, q < H.size → A1 q → A0 q) (hf : ∀ q, free q → A0 q) (hAX : ∀ q, q < H.size → AX q → A0 q)
    (kx : ∀ (E : String) (ce : Cell) (q9 : Addr) (u : SX) (t : State) (H1 : Heap) (locs1 : List Loc), t.heap = H1 → s.vm.Alike t.vm → px u → BX E u t → H.size ≤ H1.size → (∀ q : Nat, q < H.size → ¬ AX q → H1[q]? = H[q]?) → va_S A0 H0 H1 locs1 → H1[q9]? = some ce → ce.vm = .none → s.vm.findClass E = some ce.cls → vx_W p l e R s m args below meth c H1 locs1 (cells + mc) (slots + ms) Q (F0 m pc ls rest) q9)
    (kk : ∀ (r : Int32) (u : S) (t : State) (H1 : Heap) (locs1 : List Loc), t.heap = H1 → s.vm.Alike t.vm → post r u → B u t → H.size ≤ H1.size → (∀ q : Nat, q < H.size → ¬ A1 q → H1[q]? = H[q]?) → va_S A0 H0 H1 locs1 → W p l e R s m args below meth c H1 locs1 (cells + mc) (slots + ms) Q (F0 m (pc + 3) ls (.int r :: rest))) : W p l e R s m args below meth c H locs cells slots Q (F0 m pc ls st0) := by
  intro T hT X
  rcases hr T hT X with ⟨v, st₀, t, T', L, h0, X', hL, e1, e2, ⟨⟨r, u, hv, hp, hb⟩, hF⟩, st⟩ | ⟨q, st₀, t, T', L, E, ce, h0, X', hL, e1, e2, ⟨u, hp, hb, hF⟩, hce, hcv, hcl, st⟩
  · cases hv
    obtain ⟨k1, k2, k3⟩ := vx_keep h0 e1 hS hA hf hL hF
    obtain ⟨t2, a1, b1⟩ := kk r u t T'.heap (locs ++ L) e1.symm (by rw [← e2]; exact X'.warmed.alike) hp hb k1 k2 k3 T' rfl X'
    exact ⟨t2, st t2 a1, b1⟩
  · obtain ⟨k1, k2, k3⟩ := vx_keep h0 e1 hS hAX hf hL hF
    obtain ⟨t2, a1, b1⟩ := kx E ce q u t T'.heap (locs ++ L) e1.symm (by rw [← e2]; exact X'.warmed.alike) hp hb k1 k2 k3 (by rw [e1]; exact hce) hcv hcl T' rfl X'
    exact ⟨t2, st.trans a1, b1⟩
theorem vx_calll {S SX : Type} {post : Int64 → S → Prop} {px : SX → Prop} {B : S → State → Prop} {BX : String → SX → State → Prop} {AX : Nat → Prop} (hr : vx_Run p l e R s m args below meth c H locs cells slots mc ms (F0 m pc ls st0) rest (va_Ql post B A1 a) (vx_X px BX AX) free) (hS : va_S A0 H0 H locs) (hA : ∀ q, q < H.size → A1 q → A0 q) (hf : ∀ q, free q → A0 q) (hAX : ∀ q, q < H.size → AX q → A0 q)
    (kx : ∀ (E : String) (ce : Cell) (q9 : Addr) (u : SX) (t : State) (H1 : Heap) (locs1 : List Loc), t.heap = H1 → s.vm.Alike t.vm → px u → BX E u t → H.size ≤ H1.size → (∀ q : Nat, q < H.size → ¬ AX q → H1[q]? = H[q]?) → va_S A0 H0 H1 locs1 → H1[q9]? = some ce → ce.vm = .none → s.vm.findClass E = some ce.cls → vx_W p l e R s m args below meth c H1 locs1 (cells + mc) (slots + ms) Q (F0 m pc ls rest) q9)
    (kk : ∀ (r : Int64) (u : S) (t : State) (H1 : Heap) (locs1 : List Loc), t.heap = H1 → s.vm.Alike t.vm → post r u → B u t → H.size ≤ H1.size → (∀ q : Nat, q < H.size → ¬ A1 q → H1[q]? = H[q]?) → va_S A0 H0 H1 locs1 → W p l e R s m args below meth c H1 locs1 (cells + mc) (slots + ms) Q (F0 m (pc + 3) ls (.long r :: rest))) : W p l e R s m args below meth c H locs cells slots Q (F0 m pc ls st0) := by
  intro T hT X
  rcases hr T hT X with ⟨v, st₀, t, T', L, h0, X', hL, e1, e2, ⟨⟨r, u, hv, hp, hb⟩, hF⟩, st⟩ | ⟨q, st₀, t, T', L, E, ce, h0, X', hL, e1, e2, ⟨u, hp, hb, hF⟩, hce, hcv, hcl, st⟩
  · cases hv
    obtain ⟨k1, k2, k3⟩ := vx_keep h0 e1 hS hA hf hL hF
    obtain ⟨t2, a1, b1⟩ := kk r u t T'.heap (locs ++ L) e1.symm (by rw [← e2]; exact X'.warmed.alike) hp hb k1 k2 k3 T' rfl X'
    exact ⟨t2, st t2 a1, b1⟩
  · obtain ⟨k1, k2, k3⟩ := vx_keep h0 e1 hS hAX hf hL hF
    obtain ⟨t2, a1, b1⟩ := kx E ce q u t T'.heap (locs ++ L) e1.symm (by rw [← e2]; exact X'.warmed.alike) hp hb k1 k2 k3 (by rw [e1]; exact hce) hcv hcl T' rfl X'
    exact ⟨t2, st.trans a1, b1⟩
theorem vx_callf {S SX : Type} {post : UInt32 → S → Prop} {px : SX → Prop} {B : S → State → Prop} {BX : String → SX → State → Prop} {AX : Nat → Prop} (hr : vx_Run p l e R s m args below meth c H locs cells slots mc ms (F0 m pc ls st0) rest (va_Qf post B A1 a) (vx_X px BX AX) free) (hS : va_S A0 H0 H locs) (hA : ∀ q, q < H.size → A1 q → A0 q) (hf : ∀ q, free q → A0 q) (hAX : ∀ q, q < H.size → AX q → A0 q)
    (kx : ∀ (E : String) (ce : Cell) (q9 : Addr) (u : SX) (t : State) (H1 : Heap) (locs1 : List Loc), t.heap = H1 → s.vm.Alike t.vm → px u → BX E u t → H.size ≤ H1.size → (∀ q : Nat, q < H.size → ¬ AX q → H1[q]? = H[q]?) → va_S A0 H0 H1 locs1 → H1[q9]? = some ce → ce.vm = .none → s.vm.findClass E = some ce.cls → vx_W p l e R s m args below meth c H1 locs1 (cells + mc) (slots + ms) Q (F0 m pc ls rest) q9)
    (kk : ∀ (r : UInt32) (u : S) (t : State) (H1 : Heap) (locs1 : List Loc), t.heap = H1 → s.vm.Alike t.vm → post r u → B u t → H.size ≤ H1.size → (∀ q : Nat, q < H.size → ¬ A1 q → H1[q]? = H[q]?) → va_S A0 H0 H1 locs1 → W p l e R s m args below meth c H1 locs1 (cells + mc) (slots + ms) Q (F0 m (pc + 3) ls (.float r :: rest))) : W p l e R s m args below meth c H locs cells slots Q (F0 m pc ls st0) := by
  intro T hT X
  rcases hr T hT X with ⟨v, st₀, t, T', L, h0, X', hL, e1, e2, ⟨⟨r, u, hv, hp, hb⟩, hF⟩, st⟩ | ⟨q, st₀, t, T', L, E, ce, h0, X', hL, e1, e2, ⟨u, hp, hb, hF⟩, hce, hcv, hcl, st⟩
  · cases hv
    obtain ⟨k1, k2, k3⟩ := vx_keep h0 e1 hS hA hf hL hF
    obtain ⟨t2, a1, b1⟩ := kk r u t T'.heap (locs ++ L) e1.symm (by rw [← e2]; exact X'.warmed.alike) hp hb k1 k2 k3 T' rfl X'
    exact ⟨t2, st t2 a1, b1⟩
  · obtain ⟨k1, k2, k3⟩ := vx_keep h0 e1 hS hAX hf hL hF
    obtain ⟨t2, a1, b1⟩ := kx E ce q u t T'.heap (locs ++ L) e1.symm (by rw [← e2]; exact X'.warmed.alike) hp hb k1 k2 k3 (by rw [e1]; exact hce) hcv hcl T' rfl X'
    exact ⟨t2, st.trans a1, b1⟩
theorem vx_calld {S SX : Type} {post : UInt64 → S → Prop} {px : SX → Prop} {B : S → State → Prop} {BX : String → SX → State → Prop} {AX : Nat → Prop} (hr : vx_Run p l e R s m args below meth c H locs cells slots mc ms (F0 m pc ls st0) rest (va_Qd post B A1 a) (vx_X px BX AX) free) (hS : va_S A0 H0 H locs) (hA : ∀ q, q < H.size → A1 q → A0 q) (hf : ∀ q, free q → A0 q) (hAX : ∀ q, q < H.size → AX q → A0 q)
    (kx : ∀ (E : String) (ce : Cell) (q9 : Addr) (u : SX) (t : State) (H1 : Heap) (locs1 : List Loc), t.heap = H1 → s.vm.Alike t.vm → px u → BX E u t → H.size ≤ H1.size → (∀ q : Nat, q < H.size → ¬ AX q → H1[q]? = H[q]?) → va_S A0 H0 H1 locs1 → H1[q9]? = some ce → ce.vm = .none → s.vm.findClass E = some ce.cls → vx_W p l e R s m args below meth c H1 locs1 (cells + mc) (slots + ms) Q (F0 m pc ls rest) q9)
    (kk : ∀ (r : UInt64) (u : S) (t : State) (H1 : Heap) (locs1 : List Loc), t.heap = H1 → s.vm.Alike t.vm → post r u → B u t → H.size ≤ H1.size → (∀ q : Nat, q < H.size → ¬ A1 q → H1[q]? = H[q]?) → va_S A0 H0 H1 locs1 → W p l e R s m args below meth c H1 locs1 (cells + mc) (slots + ms) Q (F0 m (pc + 3) ls (.double r :: rest))) : W p l e R s m args below meth c H locs cells slots Q (F0 m pc ls st0) := by
  intro T hT X
  rcases hr T hT X with ⟨v, st₀, t, T', L, h0, X', hL, e1, e2, ⟨⟨r, u, hv, hp, hb⟩, hF⟩, st⟩ | ⟨q, st₀, t, T', L, E, ce, h0, X', hL, e1, e2, ⟨u, hp, hb, hF⟩, hce, hcv, hcl, st⟩
  · cases hv
    obtain ⟨k1, k2, k3⟩ := vx_keep h0 e1 hS hA hf hL hF
    obtain ⟨t2, a1, b1⟩ := kk r u t T'.heap (locs ++ L) e1.symm (by rw [← e2]; exact X'.warmed.alike) hp hb k1 k2 k3 T' rfl X'
    exact ⟨t2, st t2 a1, b1⟩
  · obtain ⟨k1, k2, k3⟩ := vx_keep h0 e1 hS hAX hf hL hF
    obtain ⟨t2, a1, b1⟩ := kx E ce q u t T'.heap (locs ++ L) e1.symm (by rw [← e2]; exact X'.warmed.alike) hp hb k1 k2 k3 (by rw [e1]; exact hce) hcv hcl T' rfl X'
    exact ⟨t2, st.trans a1, b1⟩
theorem vx_callv {S SX : Type} {post : S → Prop} {px : SX → Prop} {B : S → State → Prop} {BX : String → SX → State → Prop} {AX : Nat → Prop} (hr : vx_Run p l e R s m args below meth c H locs cells slots mc ms (F0 m pc ls st0) rest (va_Qv post B A1 a) (vx_X px BX AX) free) (hS : va_S A0 H0 H locs) (hA : ∀ q, q < H.size → A1 q → A0 q) (hf : ∀ q, free q → A0 q) (hAX : ∀ q, q < H.size → AX q → A0 q)
    (kx : ∀ (E : String) (ce : Cell) (q9 : Addr) (u : SX) (t : State) (H1 : Heap) (locs1 : List Loc), t.heap = H1 → s.vm.Alike t.vm → px u → BX E u t → H.size ≤ H1.size → (∀ q : Nat, q < H.size → ¬ AX q → H1[q]? = H[q]?) → va_S A0 H0 H1 locs1 → H1[q9]? = some ce → ce.vm = .none → s.vm.findClass E = some ce.cls → vx_W p l e R s m args below meth c H1 locs1 (cells + mc) (slots + ms) Q (F0 m pc ls rest) q9)
    (kk : ∀ (u : S) (t : State) (H1 : Heap) (locs1 : List Loc), t.heap = H1 → s.vm.Alike t.vm → post u → B u t → H.size ≤ H1.size → (∀ q : Nat, q < H.size → ¬ A1 q → H1[q]? = H[q]?) → va_S A0 H0 H1 locs1 → W p l e R s m args below meth c H1 locs1 (cells + mc) (slots + ms) Q (F0 m (pc + 3) ls (rest))) : W p l e R s m args below meth c H locs cells slots Q (F0 m pc ls st0) := by
  intro T hT X
  rcases hr T hT X with ⟨v, st₀, t, T', L, h0, X', hL, e1, e2, ⟨⟨u, hv, hp, hb⟩, hF⟩, st⟩ | ⟨q, st₀, t, T', L, E, ce, h0, X', hL, e1, e2, ⟨u, hp, hb, hF⟩, hce, hcv, hcl, st⟩
  · cases hv
    obtain ⟨k1, k2, k3⟩ := vx_keep h0 e1 hS hA hf hL hF
    obtain ⟨t2, a1, b1⟩ := kk u t T'.heap (locs ++ L) e1.symm (by rw [← e2]; exact X'.warmed.alike) hp hb k1 k2 k3 T' rfl X'
    exact ⟨t2, st t2 a1, b1⟩
  · obtain ⟨k1, k2, k3⟩ := vx_keep h0 e1 hS hAX hf hL hF
    obtain ⟨t2, a1, b1⟩ := kx E ce q u t T'.heap (locs ++ L) e1.symm (by rw [← e2]; exact X'.warmed.alike) hp hb k1 k2 k3 (by rw [e1]; exact hce) hcv hcl T' rfl X'
    exact ⟨t2, st.trans a1, b1⟩
/-- caught by the row x of this method's table; the rows ahead don't take it -/
theorem vx_catch {own name : String} {E : String} {ce : Cell} {q : Addr} (hown : s.vm.findClass own = some m.cls) (pre : List ExceptionTableEntry) (x : ExceptionTableEntry) (suf : List ExceptionTableEntry) (hsplit : c.exceptionTable.toList = pre ++ x :: suf)
    (hpass : ∀ z ∈ pre, covers z pc = false ∨ (z.catchType ≠ 0 ∧ ∃ nm : String, (Cond.classLink own z.catchType nm).before args s = true ∧ va_Nc E nm s)) (hx : covers x pc = true) (h0 : x.catchType ≠ 0)
    (hlink : (Cond.classLink own x.catchType name).before args s = true) (hcast : (Cond.castable E name).before args s = true) (hcell : H[q]? = some ce) (hv : ce.vm = .none) (hcl : s.vm.findClass E = some ce.cls)
    (kk : W p l e R s m args below meth c H locs cells slots Q (F0 m x.handlerPc ls [.ref q])) : vx_W p l e R s m args below meth c H locs cells slots Q (F0 m pc ls rest) q := by
  intro T hT X
  have hpl : e.platform.magicAccessors = ({} : Platform).magicAccessors := by rw [X.admits.platform]
  obtain ⟨c3, c4, hc3, hc4, hasg⟩ := Cond.castable_spec hcast
  cases Option.some.inj (hc3.symm.trans hcl)
  obtain ⟨c5, hc5, hcl5⟩ := Cond.classLink_spec hown hlink e.platform hpl
  cases Option.some.inj (hc4.symm.trans hc5)
  obtain ⟨vm', X', st⟩ := X.thenCaughtThrough q (g := F0 m pc ls rest) rfl (Steps.refl _) (by rw [hT]; exact hcell) (by rw [hv]; rfl) (by obtain ⟨k9, h9, -⟩ := Vm.findClass_spec hcl; exact ⟨k9, h9⟩) pre x suf hsplit
    (fun z hz => by
      rcases hpass z hz with h | ⟨hz0, nm, hl1, hn1⟩
      · exact Or.inl h
      · obtain ⟨c6, hc6, hcl6⟩ := Cond.classLink_spec hown hl1 e.platform hpl
        obtain ⟨a8, b8, h1, h2, h3⟩ := hn1
        cases Option.some.inj (h1.symm.trans hcl)
        cases Option.some.inj (h2.symm.trans hc6)
        exact Or.inr ⟨hz0, _, hcl6, h3⟩) hx (Or.inr ⟨h0, c4, hcl5, hasg⟩)
  obtain ⟨t, a1, b1⟩ := kk (T.setVm vm') hT X'
  exact ⟨t, st.trans a1, b1⟩
end Rows
section Ends
variable {p : Program} {l : Launch} {e : Env} {R : Room} {s : State} {m : MethodId} {args : Array Value} {below : List Frame} {meth : Method} {c : Code} {H : Heap} {locs : List Loc} {cells slots : Nat} {Q : State → Prop}
variable {mc ms : Nat} {free : Addr → Prop} {A0 A1 : Nat → Prop} {H0 : Heap} {a : Array Value} {ls : Array Slot} {st0 rest : List Value}
variable {Qc : Array Value → State → Outcome → State → Prop} {XC : String → State → State → Prop}
/-- what a body that may throw owes at its end -/
def vx_MQ (below : List Frame) (Qc : Array Value → State → Outcome → State → Prop) (XC : String → State → State → Prop) (a : Array Value) (s : State) (mc ms : Nat) (free : Addr → Prop) : State → Prop := fun t =>
  ∃ o, t.status = .running ∧ Ended t below o ∧ vx_Q Qc XC mc ms free a s o t
theorem vx_ret {g : JFrame} {mc ms : Nat} (k : W p l e R s m args below meth c H locs cells slots (MQ below Qc args s mc ms free) g) : W p l e R s m args below meth c H locs cells slots (vx_MQ below Qc XC args s mc ms free) g := by
  intro T hT X
  obtain ⟨t, a1, o, b1, b2, b3, b4⟩ := k T hT X
  exact ⟨t, a1, o, b1, b2, Or.inl ⟨b3, b4⟩⟩
/-- not caught here: it goes on to the caller -/
theorem vx_widen {g : JFrame} {q : Addr} {k n : Nat} (h1 : cells ≤ k) (h2 : slots ≤ n) (kk : vx_W p l e R s m args below meth c H locs k n Q g q) : vx_W p l e R s m args below meth c H locs cells slots Q g q := fun T hT X => kk T hT (stand_widen X h1 h2)
theorem vx_out {pc : Nat} {E : String} {ce : Cell} {q : Addr} {mc ms : Nat} (hout : ∀ x ∈ c.exceptionTable.toList, covers x pc = false) (hlocks : meth.locks = false) (hcell : H[q]? = some ce) (hv : ce.vm = .none) (hcl : s.vm.findClass E = some ce.cls)
    (hx : ∀ t : State, t.heap = H → s.vm.Alike t.vm → XC E s t) (hf : ∀ z ∈ locs, free z.base) (hc : cells ≤ mc) (hs : slots ≤ ms) :
    vx_W p l e R s m args below meth c H locs cells slots (vx_MQ below Qc XC args s mc ms free) (F0 m pc ls rest) q := by
  intro T hT X
  obtain ⟨st1, hrun, hend, hW, hsm⟩ := X.leaveThrown q (g := F0 m pc ls rest) rfl rfl rfl hout hlocks
  have hcell9 : (T.setFrames (.throwing q :: below)).heap[q]? = some ce := by
    show T.heap[q]? = some ce
    rw [hT]; exact hcell
  exact ⟨_, st1, .threw q, hrun, hend, Or.inr ⟨q, rfl, E, ce, locs, hx _ hT hW.alike, hcell9, hv, hcl, hW, hsm.mono hc hs, hf⟩⟩
theorem vx_frame {U : State} {k n : Nat} (h : s.sameButNew ({ U with vm := s.vm } : State) locs k n) : s.heap.size ≤ U.heap.size ∧ ∀ q : Nat, q < s.heap.size → (∀ z ∈ locs, z.base ≠ q) → U.heap[q]? = s.heap[q]? := by
  obtain ⟨-, h2, -, -, -, h6⟩ := h
  refine ⟨h2, fun q hq hz => ?_⟩
  obtain ⟨c9, e1, e2, e3, e4⟩ := h6 q _ (Array.getElem?_eq_getElem hq)
  have hs : c9.slots = (s.heap[q]).slots := Array.ext_getElem? fun i => e4 i fun hm => hz _ hm rfl
  have h9 : c9 = s.heap[q] := by
    rw [hs] at e2
    exact e2
  have e5 : U.heap[q]? = some c9 := e1
  rw [e5, h9, Array.getElem?_eq_getElem hq]
/-- the words of a throw but the four that speak of the heap -/
def vx_no (w : Cond) : Bool := decide (w ≠ .isRef (.static Bundle.tN "UNASSIGNED_STACK" Bundle.steD)) && decide (w ≠ .isRef (.static Bundle.tN "SUPPRESSED_SENTINEL" Bundle.listD)) && decide (w ≠ .laysStatic Bundle.tN "UNASSIGNED_STACK" Bundle.steD) && decide (w ≠ .laysStatic Bundle.tN "SUPPRESSED_SENTINEL" Bundle.listD)
def vx_at0 (own : String) (ic : Nat) (X : String) (names : List String) : List Cond := (Bundle.ownAtoms0 own ic X names).filter vx_no
def vx_atS (own : String) (ic : Nat) (X : String) (names : List String) : List Cond := (Bundle.ownAtoms own ic X names).filter vx_no
/-- a word that the tables alone decide, or a good one -/
def vx_ot (w : Cond) : Bool := w.onTables || goodWord w
theorem vx_ot_at {args a' : Array Value} {s U : State} {w : Cond} (hW : s.WarmedH U.vm) (hvm : s.vm = U.vm) (hg : vx_ot w = true) (h : w.before args s = true) : w.before a' U = true := by
  simp only [vx_ot, Bool.or_eq_true] at hg
  rcases hg with hg | hg
  · exact va_tabs hg hvm h
  · exact word_at hW (good_of_word hg) h
/-- a list's words: the good ones out of the method's own list, the others by premises of their own -/
theorem vx_hat {args : Array Value} {s : State} {L B : List Cond} (h1 : ∀ w ∈ L.filter goodWord, w.before args s = true) (h2 : ∀ w ∈ L.filter (fun w => !goodWord w), w ∈ B) (h3 : ∀ w ∈ B, w.before args s = true) : ∀ w ∈ L, w.before args s = true := by
  intro w hw
  by_cases g : goodWord w = true
  · exact h1 w (List.mem_filter.mpr ⟨hw, g⟩)
  · refine h3 w (h2 w (List.mem_filter.mpr ⟨hw, ?_⟩))
    show (!goodWord w) = true
    cases hgw : goodWord w
    · rfl
    · exact absurd hgw g
theorem vx_c {args : Array Value} {s : State} {w : Cond} {B : List Cond} (h : w.before args s = true) (t : ∀ w ∈ B, w.before args s = true) : ∀ w' ∈ w :: B, w'.before args s = true := fun w' h' => (List.mem_cons.mp h').elim (fun e => by rw [e]; exact h) (t w')
theorem vx_n {args : Array Value} {s : State} : ∀ w ∈ ([] : List Cond), w.before args s = true := fun _ h => nomatch h
theorem vx_own {args : Array Value} {s : State} {L : List Cond} (h1 : ∀ w ∈ L.filter vx_no, w.before args s = true)
    (hU : (Cond.isRef (.static Bundle.tN "UNASSIGNED_STACK" Bundle.steD)).before args s = true) (hN : (Cond.isRef (.static Bundle.tN "SUPPRESSED_SENTINEL" Bundle.listD)).before args s = true)
    (lU : (Cond.laysStatic Bundle.tN "UNASSIGNED_STACK" Bundle.steD).before args s = true) (lN : (Cond.laysStatic Bundle.tN "SUPPRESSED_SENTINEL" Bundle.listD).before args s = true) : ∀ w ∈ L, w.before args s = true := by
  intro w hw
  by_cases e1 : w = .isRef (.static Bundle.tN "UNASSIGNED_STACK" Bundle.steD)
  · rw [e1]; exact hU
  · by_cases e2 : w = .isRef (.static Bundle.tN "SUPPRESSED_SENTINEL" Bundle.listD)
    · rw [e2]; exact hN
    · by_cases e3 : w = .laysStatic Bundle.tN "UNASSIGNED_STACK" Bundle.steD
      · rw [e3]; exact lU
      · by_cases e4 : w = .laysStatic Bundle.tN "SUPPRESSED_SENTINEL" Bundle.listD
        · rw [e4]; exact lN
        · exact h1 w (List.mem_filter.mpr ⟨hw, by unfold vx_no; rw [decide_eq_true e1, decide_eq_true e2, decide_eq_true e3, decide_eq_true e4]; rfl⟩)
/-- where a static field lies, its class's statics cell in H -/
def vx_L (C n d : String) (A : Nat → Prop) (U : State) (H : Heap) : Prop := ∃ (c : ClassId) (k : Class) (i : Nat) (f : Field) (a : Nat) (cell : Cell), U.vm.findClass C = some c ∧ U.fieldFound? C n d = some (c, k, i, f) ∧ f.isStatic = true ∧ k.statics = some a ∧ H[a]? = some cell ∧ cell.vm.isStatics = true ∧ cell.cls = c ∧ f.slot < cell.slots.size ∧ k.staticTypes[f.slot]? = some f.type ∧ ¬ A a
theorem vx_L.moved {C n d : String} {A : Nat → Prop} {u U : State} {H : Heap} (hvm : u.vm.Alike U.vm) (h : vx_L C n d A u H) : vx_L C n d A U H := by
  obtain ⟨c, k, i, f, a, cell, h1, h2, h3, h4, h5, h6, h7, h8, h9, h10⟩ := h
  obtain ⟨k', hi', he⟩ := State.fieldFound?_setVm hvm h2
  exact ⟨c, k', i, f, a, cell, by rw [hvm.findClass]; exact h1, hi', h3, by rw [he]; exact h4, h5, h6, h7, h8, by rw [he]; exact h9, h10⟩
theorem vx_L.kept {C n d : String} {A : Nat → Prop} {U : State} {H H1 : Heap} (h : vx_L C n d A U H) (hq : ∀ a : Nat, a < H.size → ¬ A a → H1[a]? = H[a]?) : vx_L C n d A U H1 := by
  obtain ⟨c, k, i, f, a, cell, h1, h2, h3, h4, h5, h6, h7, h8, h9, h10⟩ := h
  exact ⟨c, k, i, f, a, cell, h1, h2, h3, h4, by rw [hq a (Array.getElem?_eq_some_iff.mp h5).1 h10]; exact h5, h6, h7, h8, h9, h10⟩
theorem vx_L.narrow {C n d : String} {A B : Nat → Prop} {U : State} {H : Heap} (h : vx_L C n d A U H) (hAB : ∀ q, B q → A q) : vx_L C n d B U H := by
  obtain ⟨c, k, i, f, a, cell, h1, h2, h3, h4, h5, h6, h7, h8, h9, h10⟩ := h
  exact ⟨c, k, i, f, a, cell, h1, h2, h3, h4, h5, h6, h7, h8, h9, fun z => h10 (hAB _ z)⟩
theorem vx_L.word {C n d : String} {A : Nat → Prop} {s : State} {args : Array Value} (h : vx_L C n d A s s.heap) : (Cond.laysStatic C n d).before args s = true := by
  obtain ⟨c, k, i, f, a, cell, h1, h2, h3, h4, h5, h6, h7, h8, h9, -⟩ := h
  show (Cond.laysStatic C n d).holds args s none s [] = true
  exact Cond.laysStatic_of h1 h2 h3 h4 h5 h6 h7 h8 h9
/-- .. and what it holds: null or some reference -/
def vx_Zq (C n d : String) (A : Nat → Prop) (U : State) (H : Heap) : Prop := va_Zq C n d A U H ∧ vx_L C n d A U H
theorem vx_Zq.moved {C n d : String} {A : Nat → Prop} {u U : State} {H : Heap} (hvm : u.vm.Alike U.vm) (h : vx_Zq C n d A u H) : vx_Zq C n d A U H := ⟨va_Zq.moved hvm h.1, vx_L.moved hvm h.2⟩
theorem vx_Zq.kept {C n d : String} {A : Nat → Prop} {U : State} {H H1 : Heap} (h : vx_Zq C n d A U H) (hq : ∀ a : Nat, a < H.size → ¬ A a → H1[a]? = H[a]?) : vx_Zq C n d A U H1 := ⟨va_Zq.kept h.1 hq, vx_L.kept h.2 hq⟩
theorem vx_Zq.narrow {C n d : String} {A B : Nat → Prop} {U : State} {H : Heap} (h : vx_Zq C n d A U H) (hAB : ∀ q, B q → A q) : vx_Zq C n d B U H := ⟨va_Zq.narrow h.1 hAB, vx_L.narrow h.2 hAB⟩
theorem vx_Zqof {args : Array Value} {s : State} {C n d : String} {A : Nat → Prop} (hl : (Cond.laysStatic C n d).before args s = true) (hini : (Cond.initialized C).before args s = true) (h : (Cond.isRef (.static C n d)).before args s = true) (hA : ∀ a : Nat, a < s.heap.size → ¬ A a) : vx_Zq C n d A s s.heap := by
  refine ⟨va_Zqof hl hini h hA, ?_⟩
  obtain ⟨c, k, i, f, a, cell, h1, h2, h3, h4, h5, h6, h7, h8, h9⟩ := Cond.laysStatic_spec hl
  exact ⟨c, k, i, f, a, cell, h1, h2, h3, h4, h5, h6, h7, h8, h9, hA a (Array.getElem?_eq_some_iff.mp h5).1⟩
theorem vx_isRef {C n d : String} {v : Value} {A : Nat → Prop} {s : State} {args : Array Value} (h : va_Z C n d v A s s.heap) (hv : v.isRef = true) : (Cond.isRef (.static C n d)).before args s = true := by
  obtain ⟨cf, kf, fi, f, a, cell, h1, h2, h3, h4, h5, h6, h7, -⟩ := h
  have he : (Term.static C n d).eval args s none [] s = some v := by
    simp [Term.eval, State.fieldNamed?, h1, h2, h4, h5, h6, h7]
  simp only [Cond.before, Cond.holds, Cond.value, he]
  cases v <;> simp_all [Value.isRef]
theorem vx_isRefq {C n d : String} {A : Nat → Prop} {s : State} {args : Array Value} (h : va_Zq C n d A s s.heap) : (Cond.isRef (.static C n d)).before args s = true := by
  rcases h with h | ⟨t, h⟩
  · exact vx_isRef h rfl
  · exact vx_isRef h rfl
/-- the same frame, seen from here: as if the method were called anew in this heap -/
theorem vx_rebase {T : State} (X : Stand p l e R s m args below meth c T locs cells slots) {R' : Room} (hf : R'.frames ≤ R.frames) (hl : R'.locals ≤ R.locals) (hc : cells + R'.cells ≤ R.cells) (hs : slots + R'.slots ≤ R.slots) :
    Stand p l e R' ((T.setVm s.vm).setFrames (.invoking m args :: below)) m args below meth c T [] 0 0 := by
  have htop : (T.setVm s.vm).topJava?.isSome := X.here.top
  have hF : ((T.setVm s.vm).setFrames (.invoking m args :: below)).frames = .invoking m args :: below := State.frames_setFrames _ (State.cur_lt_of_top htop)
  obtain ⟨g₀, hg0⟩ := Option.isSome_iff_exists.mp htop
  obtain ⟨r, hr⟩ := State.topJava?_eq_some.mp hg0
  have hl9 : e.platform.stackLimits (T.setVm s.vm).me = e.platform.stackLimits s.me := X.limits
  have hb9 : (T.setVm s.vm).me.stackBytes = s.me.stackBytes := X.bytes
  refine ⟨X.admits, X.cas, X.clock, hF, ?_, X.hears, X.method, X.code, X.here, X.tail, X.warmed, ?_, ?_, ?_⟩
  · have h := X.room
    have hU : ((T.setVm s.vm).setFrames (.invoking m args :: below)).localsInUse = s.localsInUse := by
      rw [State.localsInUse_invoking hF (meth := meth) (c := c) X.method X.code, State.localsInUse_invoking X.frames X.method X.code]
    simp only [State.hasRoom, Bool.and_eq_true, decide_eq_true_eq] at h ⊢
    obtain ⟨⟨⟨⟨h1, h2, h3, h4, h5, h6⟩, h7⟩, h8⟩, h9⟩ := h
    rw [X.frames, List.length_cons] at h2 h3
    have q1 := X.heapSize
    have q2 := X.used
    simp only [hF, hU, List.length_cons, State.stackLimits_setFrames, State.stackBytes_setFrames, hl9, hb9]
    refine ⟨⟨⟨⟨by omega, by omega, by omega, by omega, by omega, h6⟩, ?_⟩, ?_⟩, X.book⟩
    · show T.heap.size + R'.cells ≤ e.platform.maxCells
      omega
    · show T.slotsUsed + R'.slots ≤ e.platform.maxSlots
      omega
  · rw [State.stackLimits_setFrames]; rfl
  · rw [State.stackBytes_setFrames]; rfl
  · refine ⟨?_, Nat.le_refl _, Nat.le_refl _, ?_, ?_, fun a c9 h9 => ⟨c9, h9, rfl, rfl, fun _ _ => rfl⟩⟩
    · obtain ⟨t, ht, -⟩ := State.frames_cons hr
      show T.setVm s.vm = { ((T.setVm s.vm).setFrames (.invoking m args :: below)).setFrames (T.setVm s.vm).frames with heap := T.heap, slotsUsed := T.slotsUsed }
      rw [State.setFrames_setFrames, State.setFrames_self ht]
      rfl
    · show T.slotsUsed = T.slotsUsed + ((T.heap.toList.drop T.heap.size).map (·.slots.size)).sum
      rw [List.drop_eq_nil_of_le (Nat.le_of_eq Array.length_toList)]
      rfl
    · show ((T.heap.toList.drop T.heap.size).map (·.slots.size)).sum ≤ 0
      rw [List.drop_eq_nil_of_le (Nat.le_of_eq Array.length_toList)]
      exact Nat.le_refl _
/-- 'throw new E()': new; dup; invokespecial; athrow -/
theorem vx_throw0 {cc : ByteArray} {pc : Nat} (hexec : p.tables.exec = Jvm.exec) (hb : c.code = cc) (hl : l.stackTraces = false) {own cls : String} {names : List String} {ik ic mc ms : Nat} {A : Nat → Prop}
    (hown : s.vm.findClass own = some m.cls) (hcls : Bundle.fit cls = true) (hnames : ∀ n ∈ names, Bundle.fit n = true)
    (hk : (Cond.classLink own ik cls).before args s = true) (hini : (Cond.initialized cls).before args s = true) (hat : ∀ w ∈ vx_at0 own ic cls names, w.before args s = true)
    (hgood : ∀ w ∈ Cond.classLink own ik cls :: Cond.initialized cls :: vx_at0 own ic cls names, vx_ot w = true)
    (hU : vx_Zq Bundle.tN "UNASSIGNED_STACK" Bundle.steD A s s.heap) (hN : vx_Zq Bundle.tN "SUPPRESSED_SENTINEL" Bundle.listD A s s.heap) (hS : va_S A s.heap H locs) (hsize : ls.size = c.maxLocals)
    (d0 : decode cc pc = .ok (.new ik, 3)) (d3 : decode cc (pc + 3) = .ok (.dup, 1)) (d4 : decode cc (pc + 4) = .ok (.invokespecial ic, 3)) (d7 : decode cc (pc + 7) = .ok (.athrow, 1))
    (hout : ∀ x ∈ c.exceptionTable.toList, covers x (pc + 7) = false)
    (hRframes : names.length + 3 < R.frames) (hRlocals : (rest.map fun v => v.category).sum + (13 * (names.length + 1) + 42) ≤ R.locals) (hRcells : cells + 1 ≤ R.cells) (hRslots : slots + 6 ≤ R.slots) (hlocks : meth.locks = false)
    (hx : ∀ t : State, s.vm.Alike t.vm → H.size ≤ t.heap.size → (∀ q : Nat, q < H.size → t.heap[q]? = H[q]?) → XC cls s t)
    (hf : ∀ z ∈ locs, free z.base) (hc : cells + 1 ≤ mc) (hs : slots + 6 ≤ ms) :
    W p l e R s m args below meth c H locs cells slots (vx_MQ below Qc XC args s mc ms free) (F0 m pc ls rest) := by
  intro T hT X
  have htr : e.platform.stackTraces = false := (show e.platform.stackTraces = l.stackTraces by rw [X.admits.platform]).trans hl
  have Y := vx_rebase X (R' := { frames := R.frames, locals := R.locals, cells := 1, slots := 6 }) (Nat.le_refl _) (Nat.le_refl _) hRcells hRslots
  obtain ⟨s', hA⟩ : ∃ z, z = (T.setVm s.vm).setFrames (.invoking m args :: below) := ⟨_, rfl⟩
  rw [← hA] at Y
  have hvm : s'.vm = s.vm := by rw [hA]; rfl
  have hhp : s'.heap = H := by rw [hA]; exact hT
  have hW0 : s.WarmedH s'.vm := by rw [hvm]; exact State.WarmedH.refl s
  have hat' : ∀ w ∈ vx_at0 own ic cls names, w.before args s' = true := fun w hw => vx_ot_at hW0 hvm.symm (hgood w (List.mem_cons_of_mem _ (List.mem_cons_of_mem _ hw))) (hat w hw)
  have hk' : (Cond.classLink own ik cls).before args s' = true := vx_ot_at hW0 hvm.symm (hgood _ List.mem_cons_self) hk
  have hini' : (Cond.initialized cls).before args s' = true := vx_ot_at hW0 hvm.symm (hgood _ (List.mem_cons_of_mem _ List.mem_cons_self)) hini
  have hU' : vx_Zq Bundle.tN "UNASSIGNED_STACK" Bundle.steD A s' s'.heap := by rw [hhp]; exact vx_Zq.moved hW0.alike (hU.kept hS.2.1)
  have hN' : vx_Zq Bundle.tN "SUPPRESSED_SENTINEL" Bundle.listD A s' s'.heap := by rw [hhp]; exact vx_Zq.moved hW0.alike (hN.kept hS.2.1)
  have h : ∀ w ∈ Bundle.ownAtoms0 own ic cls names, w.before args s' = true := vx_own hat' (vx_isRefq hU'.1) (vx_isRefq hN'.1) hU'.2.word hN'.2.word
  have hown' : s'.vm.findClass own = some m.cls := by rw [hvm]; exact hown
  have hins : (Cond.instantiable cls 6).before args s' = true := h _ (by simp [Bundle.ownAtoms0])
  obtain ⟨vm₁, cX, kX, hfX, hkX, -, -, X₁, st1⟩ := Y.newCold hexec (own := own) (C := cls) (index := ik) (n := 6) hown' hk' hins hini'
    (g := F0 m pc ls rest) rfl (by rw [hb]; exact d0) (Nat.le_refl _) (Nat.le_refl _)
  generalize hT1 : (T.setVm vm₁).pushCell { cls := cX, slots := kX.instanceTypes.map defaultValue, vm := .none } = T1 at X₁ st1
  have hcat : (Value.ref T.heap.size).category = 1 := rfl
  have hcellA : T1.heap[T.heap.size]? = some (freshCell cX kX) := by rw [← hT1]; exact State.heap_pushCell_size _ _
  have d3' : decode c.code (pc + 3) = .ok (.dup, 1) := by rw [hb]; exact d3
  obtain ⟨U, hsteps, hrun, hend, hW, hsame, ce, hce, hO⟩ := X₁.ctorThrow0 hexec htr (own := own) (cls := cls) (names := names) (ic := ic) hown' hcls hnames h (fun x hx => nomatch hx) hfX hkX hcellA (by rw [hhp, hT]; exact Nat.le_refl _)
    (g := { method := m, pc := pc + 4, locals := ls, stack := .ref T.heap.size :: .ref T.heap.size :: rest, locked := none }) rfl hsize rfl rfl (rest := rest) rfl
    (by rw [hb]; exact d4) (by rw [hb]; exact d7) hout hRframes (by simp only [List.map_cons, List.sum_cons, hcat]; omega) hlocks
  obtain ⟨f1, f2⟩ := vx_frame hsame
  rw [hhp] at f1 f2
  have hWs : s.WarmedH U.vm := State.WarmedH.trans hW0 hW
  have hcl : s.vm.findClass cls = some ce.cls := by
    have h9 := hO.cls
    rw [hvm] at h9
    exact h9
  have hall : s.sameButNew ({ U with vm := s.vm } : State) locs mc ms := by
    subst hA
    obtain ⟨e1, e2⟩ := hsame
    rw [State.setFrames_setFrames] at e1
    have h2 : (T.setVm s.vm).sameButNew ({ U with vm := s.vm } : State) [] (0 + 1) (0 + 6) := ⟨e1, e2⟩
    have h3 := X.same.trans h2
    rw [List.append_nil] at h3
    exact h3.mono hc hs
  refine ⟨U, ?_, .threw T.heap.size, hrun, hend, Or.inr ⟨T.heap.size, rfl, cls, ce, locs, hx U hWs.alike f1 (fun q hq => f2 q hq (fun z hz => nomatch hz)), hce, hO.vm, hcl, hWs, hall, hf⟩⟩
  refine st1 _ ?_
  show Steps p.tables e below (T1.setTop { method := m, pc := pc + 3, locals := ls, stack := .ref T.heap.size :: rest, locked := none }) _
  jvm_step X₁.here [X₁.here.top, hexec, d3', Value.category]
  exact hsteps
/-- 'throw new E("text")': new; dup; ldc; invokespecial; athrow -/
theorem vx_throwS {cc : ByteArray} {pc : Nat} (hexec : p.tables.exec = Jvm.exec) (hb : c.code = cc) (hl : l.stackTraces = false) {own cls text : String} {names : List String} {ik is ic mc ms sa : Nat} {A : Nat → Prop}
    (hown : s.vm.findClass own = some m.cls) (hcls : Bundle.fit cls = true) (hnames : ∀ n ∈ names, Bundle.fit n = true)
    (hk : (Cond.classLink own ik cls).before args s = true) (hini : (Cond.initialized cls).before args s = true) (hstr : vk_R own is text sa s) (hat : ∀ w ∈ vx_atS own ic cls names, w.before args s = true)
    (hgood : ∀ w ∈ Cond.classLink own ik cls :: Cond.initialized cls :: vx_atS own ic cls names, vx_ot w = true)
    (hU : vx_Zq Bundle.tN "UNASSIGNED_STACK" Bundle.steD A s s.heap) (hN : vx_Zq Bundle.tN "SUPPRESSED_SENTINEL" Bundle.listD A s s.heap) (hS : va_S A s.heap H locs) (hsize : ls.size = c.maxLocals)
    (d0 : decode cc pc = .ok (.new ik, 3)) (d3 : decode cc (pc + 3) = .ok (.dup, 1)) (d4 : decode cc (pc + 4) = .ok (.ldc is, 2)) (d6 : decode cc (pc + 6) = .ok (.invokespecial ic, 3)) (d9 : decode cc (pc + 9) = .ok (.athrow, 1))
    (hout : ∀ x ∈ c.exceptionTable.toList, covers x (pc + 9) = false)
    (hRframes : names.length + 3 < R.frames) (hRlocals : (rest.map fun v => v.category).sum + (13 * (names.length + 1) + 43) ≤ R.locals) (hRcells : cells + 1 ≤ R.cells) (hRslots : slots + 6 ≤ R.slots) (hlocks : meth.locks = false)
    (hx : ∀ t : State, s.vm.Alike t.vm → H.size ≤ t.heap.size → (∀ q : Nat, q < H.size → t.heap[q]? = H[q]?) → XC cls s t)
    (hf : ∀ z ∈ locs, free z.base) (hc : cells + 1 ≤ mc) (hs : slots + 6 ≤ ms) :
    W p l e R s m args below meth c H locs cells slots (vx_MQ below Qc XC args s mc ms free) (F0 m pc ls rest) := by
  intro T hT X
  have htr : e.platform.stackTraces = false := (show e.platform.stackTraces = l.stackTraces by rw [X.admits.platform]).trans hl
  have Y := vx_rebase X (R' := { frames := R.frames, locals := R.locals, cells := 1, slots := 6 }) (Nat.le_refl _) (Nat.le_refl _) hRcells hRslots
  obtain ⟨s', hA⟩ : ∃ z, z = (T.setVm s.vm).setFrames (.invoking m args :: below) := ⟨_, rfl⟩
  rw [← hA] at Y
  have hvm : s'.vm = s.vm := by rw [hA]; rfl
  have hhp : s'.heap = H := by rw [hA]; exact hT
  have hW0 : s.WarmedH s'.vm := by rw [hvm]; exact State.WarmedH.refl s
  have hat' : ∀ w ∈ vx_atS own ic cls names, w.before args s' = true := fun w hw => vx_ot_at hW0 hvm.symm (hgood w (List.mem_cons_of_mem _ (List.mem_cons_of_mem _ hw))) (hat w hw)
  have hk' : (Cond.classLink own ik cls).before args s' = true := vx_ot_at hW0 hvm.symm (hgood _ List.mem_cons_self) hk
  have hini' : (Cond.initialized cls).before args s' = true := vx_ot_at hW0 hvm.symm (hgood _ (List.mem_cons_of_mem _ List.mem_cons_self)) hini
  have hU' : vx_Zq Bundle.tN "UNASSIGNED_STACK" Bundle.steD A s' s'.heap := by rw [hhp]; exact vx_Zq.moved hW0.alike (hU.kept hS.2.1)
  have hN' : vx_Zq Bundle.tN "SUPPRESSED_SENTINEL" Bundle.listD A s' s'.heap := by rw [hhp]; exact vx_Zq.moved hW0.alike (hN.kept hS.2.1)
  have h : ∀ w ∈ Bundle.ownAtoms own ic cls names, w.before args s' = true := vx_own hat' (vx_isRefq hU'.1) (vx_isRefq hN'.1) hU'.2.word hN'.2.word
  have hown' : s'.vm.findClass own = some m.cls := by rw [hvm]; exact hown
  have hins : (Cond.instantiable cls 6).before args s' = true := h _ (by simp [Bundle.ownAtoms])
  obtain ⟨vm₁, cX, kX, hfX, hkX, -, -, X₁, st1⟩ := Y.newCold hexec (own := own) (C := cls) (index := ik) (n := 6) hown' hk' hins hini'
    (g := F0 m pc ls rest) rfl (by rw [hb]; exact d0) (Nat.le_refl _) (Nat.le_refl _)
  generalize hT1 : (T.setVm vm₁).pushCell { cls := cX, slots := kX.instanceTypes.map defaultValue, vm := .none } = T1 at X₁ st1
  have hcat : (Value.ref T.heap.size).category = 1 := rfl
  have hcellA : T1.heap[T.heap.size]? = some (freshCell cX kX) := by rw [← hT1]; exact State.heap_pushCell_size _ _
  have d3' : decode c.code (pc + 3) = .ok (.dup, 1) := by rw [hb]; exact d3
  have d4' : decode c.code (pc + 4) = .ok (.ldc is, 2) := by rw [hb]; exact d4
  have hstr' : vk_R own is text sa s' := vk_R.warm hW0 hstr
  obtain ⟨U, hsteps, hrun, hend, hW, hsame, ce, hce, hO⟩ := X₁.ctorThrowS hexec htr (own := own) (cls := cls) (names := names) (ic := ic) hown' hcls hnames h (fun x hx => nomatch hx) hfX hkX hcellA (by rw [hhp, hT]; exact Nat.le_refl _) (msg := .ref sa) rfl
    (g := { method := m, pc := pc + 6, locals := ls, stack := .ref sa :: .ref T.heap.size :: .ref T.heap.size :: rest, locked := none }) rfl hsize rfl rfl (rest := rest) rfl
    (by rw [hb]; exact d6) (by rw [hb]; exact d9) hout hRframes (by simp only [List.map_cons, List.sum_cons, hcat]; omega) hlocks
  obtain ⟨f1, f2⟩ := vx_frame hsame
  rw [hhp] at f1 f2
  have hWs : s.WarmedH U.vm := State.WarmedH.trans hW0 hW
  have hcl : s.vm.findClass cls = some ce.cls := by
    have h9 := hO.cls
    rw [hvm] at h9
    exact h9
  have hall : s.sameButNew ({ U with vm := s.vm } : State) locs mc ms := by
    subst hA
    obtain ⟨e1, e2⟩ := hsame
    rw [State.setFrames_setFrames] at e1
    have h2 : (T.setVm s.vm).sameButNew ({ U with vm := s.vm } : State) [] (0 + 1) (0 + 6) := ⟨e1, e2⟩
    have h3 := X.same.trans h2
    rw [List.append_nil] at h3
    exact h3.mono hc hs
  refine ⟨U, ?_, .threw T.heap.size, hrun, hend, Or.inr ⟨T.heap.size, rfl, cls, ce, locs, hx U hWs.alike f1 (fun q hq => f2 q hq (fun z hz => nomatch hz)), hce, hO.vm, hcl, hWs, hall, hf⟩⟩
  refine st1 _ ?_
  show Steps p.tables e below (T1.setTop { method := m, pc := pc + 3, locals := ls, stack := .ref T.heap.size :: rest, locked := none }) _
  jvm_step X₁.here [X₁.here.top, hexec, d3', Value.category]
  exact X₁.ldcString hexec (own := own) (text := text) (index := is) (a := sa) hown' hstr'.1 hstr'.2
    (g := { method := m, pc := pc + 4, locals := ls, stack := .ref T.heap.size :: .ref T.heap.size :: rest, locked := none }) rfl d4' _ hsteps
/-- 'throw new E("text")', the text by a wide index -/
theorem vx_throwSW {cc : ByteArray} {pc : Nat} (hexec : p.tables.exec = Jvm.exec) (hb : c.code = cc) (hl : l.stackTraces = false) {own cls text : String} {names : List String} {ik is ic mc ms sa : Nat} {A : Nat → Prop}
    (hown : s.vm.findClass own = some m.cls) (hcls : Bundle.fit cls = true) (hnames : ∀ n ∈ names, Bundle.fit n = true)
    (hk : (Cond.classLink own ik cls).before args s = true) (hini : (Cond.initialized cls).before args s = true) (hstr : vk_R own is text sa s) (hat : ∀ w ∈ vx_atS own ic cls names, w.before args s = true)
    (hgood : ∀ w ∈ Cond.classLink own ik cls :: Cond.initialized cls :: vx_atS own ic cls names, vx_ot w = true)
    (hU : vx_Zq Bundle.tN "UNASSIGNED_STACK" Bundle.steD A s s.heap) (hN : vx_Zq Bundle.tN "SUPPRESSED_SENTINEL" Bundle.listD A s s.heap) (hS : va_S A s.heap H locs) (hsize : ls.size = c.maxLocals)
    (d0 : decode cc pc = .ok (.new ik, 3)) (d3 : decode cc (pc + 3) = .ok (.dup, 1)) (d4 : decode cc (pc + 4) = .ok (.ldc_w is, 3)) (d7 : decode cc (pc + 7) = .ok (.invokespecial ic, 3)) (d10 : decode cc (pc + 10) = .ok (.athrow, 1))
    (hout : ∀ x ∈ c.exceptionTable.toList, covers x (pc + 10) = false)
    (hRframes : names.length + 3 < R.frames) (hRlocals : (rest.map fun v => v.category).sum + (13 * (names.length + 1) + 43) ≤ R.locals) (hRcells : cells + 1 ≤ R.cells) (hRslots : slots + 6 ≤ R.slots) (hlocks : meth.locks = false)
    (hx : ∀ t : State, s.vm.Alike t.vm → H.size ≤ t.heap.size → (∀ q : Nat, q < H.size → t.heap[q]? = H[q]?) → XC cls s t)
    (hf : ∀ z ∈ locs, free z.base) (hc : cells + 1 ≤ mc) (hs : slots + 6 ≤ ms) :
    W p l e R s m args below meth c H locs cells slots (vx_MQ below Qc XC args s mc ms free) (F0 m pc ls rest) := by
  intro T hT X
  have htr : e.platform.stackTraces = false := (show e.platform.stackTraces = l.stackTraces by rw [X.admits.platform]).trans hl
  have Y := vx_rebase X (R' := { frames := R.frames, locals := R.locals, cells := 1, slots := 6 }) (Nat.le_refl _) (Nat.le_refl _) hRcells hRslots
  obtain ⟨s', hA⟩ : ∃ z, z = (T.setVm s.vm).setFrames (.invoking m args :: below) := ⟨_, rfl⟩
  rw [← hA] at Y
  have hvm : s'.vm = s.vm := by rw [hA]; rfl
  have hhp : s'.heap = H := by rw [hA]; exact hT
  have hW0 : s.WarmedH s'.vm := by rw [hvm]; exact State.WarmedH.refl s
  have hat' : ∀ w ∈ vx_atS own ic cls names, w.before args s' = true := fun w hw => vx_ot_at hW0 hvm.symm (hgood w (List.mem_cons_of_mem _ (List.mem_cons_of_mem _ hw))) (hat w hw)
  have hk' : (Cond.classLink own ik cls).before args s' = true := vx_ot_at hW0 hvm.symm (hgood _ List.mem_cons_self) hk
  have hini' : (Cond.initialized cls).before args s' = true := vx_ot_at hW0 hvm.symm (hgood _ (List.mem_cons_of_mem _ List.mem_cons_self)) hini
  have hU' : vx_Zq Bundle.tN "UNASSIGNED_STACK" Bundle.steD A s' s'.heap := by rw [hhp]; exact vx_Zq.moved hW0.alike (hU.kept hS.2.1)
  have hN' : vx_Zq Bundle.tN "SUPPRESSED_SENTINEL" Bundle.listD A s' s'.heap := by rw [hhp]; exact vx_Zq.moved hW0.alike (hN.kept hS.2.1)
  have h : ∀ w ∈ Bundle.ownAtoms own ic cls names, w.before args s' = true := vx_own hat' (vx_isRefq hU'.1) (vx_isRefq hN'.1) hU'.2.word hN'.2.word
  have hown' : s'.vm.findClass own = some m.cls := by rw [hvm]; exact hown
  have hins : (Cond.instantiable cls 6).before args s' = true := h _ (by simp [Bundle.ownAtoms])
  obtain ⟨vm₁, cX, kX, hfX, hkX, -, -, X₁, st1⟩ := Y.newCold hexec (own := own) (C := cls) (index := ik) (n := 6) hown' hk' hins hini'
    (g := F0 m pc ls rest) rfl (by rw [hb]; exact d0) (Nat.le_refl _) (Nat.le_refl _)
  generalize hT1 : (T.setVm vm₁).pushCell { cls := cX, slots := kX.instanceTypes.map defaultValue, vm := .none } = T1 at X₁ st1
  have hcat : (Value.ref T.heap.size).category = 1 := rfl
  have hcellA : T1.heap[T.heap.size]? = some (freshCell cX kX) := by rw [← hT1]; exact State.heap_pushCell_size _ _
  have d3' : decode c.code (pc + 3) = .ok (.dup, 1) := by rw [hb]; exact d3
  have d4' : decode c.code (pc + 4) = .ok (.ldc_w is, 3) := by rw [hb]; exact d4
  have hstr' : vk_R own is text sa s' := vk_R.warm hW0 hstr
  obtain ⟨U, hsteps, hrun, hend, hW, hsame, ce, hce, hO⟩ := X₁.ctorThrowS hexec htr (own := own) (cls := cls) (names := names) (ic := ic) hown' hcls hnames h (fun x hx => nomatch hx) hfX hkX hcellA (by rw [hhp, hT]; exact Nat.le_refl _) (msg := .ref sa) rfl
    (g := { method := m, pc := pc + 7, locals := ls, stack := .ref sa :: .ref T.heap.size :: .ref T.heap.size :: rest, locked := none }) rfl hsize rfl rfl (rest := rest) rfl
    (by rw [hb]; exact d7) (by rw [hb]; exact d10) hout hRframes (by simp only [List.map_cons, List.sum_cons, hcat]; omega) hlocks
  obtain ⟨f1, f2⟩ := vx_frame hsame
  rw [hhp] at f1 f2
  have hWs : s.WarmedH U.vm := State.WarmedH.trans hW0 hW
  have hcl : s.vm.findClass cls = some ce.cls := by
    have h9 := hO.cls
    rw [hvm] at h9
    exact h9
  have hall : s.sameButNew ({ U with vm := s.vm } : State) locs mc ms := by
    subst hA
    obtain ⟨e1, e2⟩ := hsame
    rw [State.setFrames_setFrames] at e1
    have h2 : (T.setVm s.vm).sameButNew ({ U with vm := s.vm } : State) [] (0 + 1) (0 + 6) := ⟨e1, e2⟩
    have h3 := X.same.trans h2
    rw [List.append_nil] at h3
    exact h3.mono hc hs
  refine ⟨U, ?_, .threw T.heap.size, hrun, hend, Or.inr ⟨T.heap.size, rfl, cls, ce, locs, hx U hWs.alike f1 (fun q hq => f2 q hq (fun z hz => nomatch hz)), hce, hO.vm, hcl, hWs, hall, hf⟩⟩
  refine st1 _ ?_
  show Steps p.tables e below (T1.setTop { method := m, pc := pc + 3, locals := ls, stack := .ref T.heap.size :: rest, locked := none }) _
  jvm_step X₁.here [X₁.here.top, hexec, d3', Value.category]
  exact X₁.ldcStringW hexec (own := own) (text := text) (index := is) (a := sa) hown' hstr'.1 hstr'.2
    (g := { method := m, pc := pc + 4, locals := ls, stack := .ref T.heap.size :: .ref T.heap.size :: rest, locked := none }) rfl d4' _ hsteps
end Ends
section Bodies
variable {l : Launch}
theorem vx_ofW {y : MethodName} {ws ws' : List Cond} {rm : Room} {Pc : Array Value → State → Prop} {Qc : Array Value → State → Outcome → State → Prop} {XC : String → State → State → Prop} {mc ms : Nat} {free : Addr → Prop} {cc : ByteArray} {maxL : Nat} {ret : Option FieldType}
    (hy : plainName y.cls = true) (hw : ws = Cond.code y cc maxL ret :: ws')
    (body : ∀ p e s m args below meth c s₁, BodyLoose p l y (headSpec ws rm) cc maxL ret e s m args below meth c s₁ → c.maxLocals = maxL → (∀ x ∈ c.exceptionTable.toList, False) → Pc args s →
      W p l e (headSpec ws rm).room s m args below meth c s.heap [] 0 0 (vx_MQ below Qc XC args s mc ms free) (entryFrame m args maxL)) : vx_Met l y ws rm Pc Qc XC mc ms free := by
  refine MetFree.of_bodyS (code := cc) (maxLocals := maxL) (ret := ret) hy ?_ ?_
  · intro args s m h hn
    obtain ⟨meth, c, h1, h2, h3, h4, h5, h6, -, -⟩ := Cond.code_spec hn (atoms_spec (ws := ws) h _ (by rw [hw]; exact List.mem_cons_self))
    exact ⟨meth, c, h1, h2, h3, h4, h5, h6⟩
  · intro p e s m args below meth c s₁ B hml hP _
    have hh0 : s₁.heap = s.heap := by rw [B.state]; rfl
    have ht : ∀ x ∈ c.exceptionTable.toList, False := by
      obtain ⟨meth9, c9, h1, h2, -, -, -, -, h7, -⟩ := Cond.code_spec B.named (atoms_spec (ws := ws) B.pre _ (by rw [hw]; exact List.mem_cons_self))
      cases Option.some.inj (h1.symm.trans B.method)
      cases Option.some.inj (h2.symm.trans (Stand.of_body B).code)
      intro x hx
      rw [Array.isEmpty_iff.mp h7] at hx
      cases hx
    obtain ⟨t, a1, o, b1, b2, b3⟩ := body p e s m args below meth c s₁ B hml ht hP s₁ hh0 (Stand.of_body B)
    exact ⟨t, o, a1, b1, b2, b3⟩
/-- the table of a body with handlers -/
theorem vx_table {p : Program} {x y : MethodName} {S : Spec} {cc bytes : ByteArray} {maxL maxL' : Nat} {ret ret' : Option FieldType} {e : Env} {s s₁ : State} {m : MethodId} {args : Array Value} {below : List Frame} {meth : Method} {c : Code} {hh : List (Nat × Nat × Nat × Nat)}
    (B : BodyLoose p l y S cc maxL ret e s m args below meth c s₁) (h : (Cond.codeWith y bytes maxL' ret' hh).before args s = true) : c.exceptionTable.toList = tableOf hh := by
  obtain ⟨m9, meth9, c9, hn9, h1, h2, -, -, h6, -⟩ := Cond.codeWith_spec h
  cases Option.some.inj (hn9.symm.trans B.named)
  cases Option.some.inj (h1.symm.trans B.method)
  cases Option.some.inj (h2.symm.trans (Stand.of_body B).code)
  rw [← h6, table_eq]
end Bodies
end VXA
/-! ===== END ===== -/
/-! ===== BEGIN a static call of a method with an exception table ===== -/
section VXS
variable {p : Program} {l : Launch} {e : Env} {R : Room} {s : State} {m : MethodId} {args : Array Value} {below : List Frame} {meth : Method} {c : Code} {T : State} {H : Heap} {locs : List Loc} {cells slots : Nat}
abbrev vx_CSW (R : Room) (s : State) (args : Array Value) (own : String) (index : Nat) (y : MethodName) (bytes : ByteArray) (maxL : Nat) (ret : Option FieldType) (hh : List (Nat × Nat × Nat × Nat)) (ws : List Cond) (rm : Room) (mc ms n : Nat) : Prop :=
  (rm.cells = mc ∧ rm.slots = ms ∧ rm.frames + 1 ≤ R.frames ∧ 8 + (maxL + 11) + rm.locals ≤ R.locals ∧ (∀ w ∈ ws, ∀ (a' : Array Value) (U : State), s.WarmedH U.vm → w.before a' U = true) ∧ Cond.codeWith y bytes maxL ret hh ∈ ws) ∧
  (Cond.codeWith y bytes maxL ret hh).before args s = true ∧ (Cond.initialized y.cls).before args s = true ∧ (y.cls ≠ "java/lang/invoke/MethodHandle" ∧ y.cls ≠ "java/lang/invoke/VarHandle") ∧
  (∀ sig, parseMethodDescriptor y.desc = some sig → n = sig.parameters.length) ∧ (Cond.methodLink own index y).before args s = true ∧ (Cond.static y).before args s = true
theorem vx_cwSW {own : String} {index maxL mc ms : Nat} {y : MethodName} {bytes : ByteArray} {ret : Option FieldType} {hh : List (Nat × Nat × Nat × Nat)} {Ts ws ws' : List Cond} {rm : Room} (n : Nat) (ht : ∀ w ∈ Ts, w.before args s = true) (hT : GoodIn Ts (va_wsS own index y ws)) (hw : ws = Cond.codeWith y bytes maxL ret hh :: ws') (hrc : rm.cells = mc) (hrs : rm.slots = ms)
    (hd : y.cls ≠ "java/lang/invoke/MethodHandle" ∧ y.cls ≠ "java/lang/invoke/VarHandle" ∧ (parseMethodDescriptor y.desc).map (fun d => d.parameters.length) = some n) (hR : rm.frames + 1 ≤ R.frames ∧ 8 + (maxL + 11) + rm.locals ≤ R.locals) :
    vx_CSW R s args own index y bytes maxL ret hh ws rm mc ms n := by
  have ok : ∀ w ∈ va_wsS own index y ws, w.before args s = true := fun w h => ht w (hT w h).1
  have hG : GoodIn Ts ws := fun w h => hT w (by unfold va_wsS; exact List.mem_append_right _ h)
  have hc : Cond.codeWith y bytes maxL ret hh ∈ ws := by rw [hw]; exact List.mem_cons_self
  refine ⟨⟨hrc, hrs, hR.1, hR.2, pay_in ht hG, hc⟩, ht _ (hG _ hc).1, ok _ (by simp [va_wsS]), ⟨hd.1, hd.2.1⟩, fun sig h => ?_, ok _ (by simp [va_wsS]), ok _ (by simp [va_wsS])⟩
  have h2 := hd.2.2
  rw [h] at h2
  exact (Option.some.inj h2).symm
theorem vx_callSW (X : Stand p l e R s m args below meth c T locs cells slots) (hexec : p.tables.exec = Jvm.exec) {own : String} {index : Nat} {y : MethodName} {bytes : ByteArray} {maxL : Nat} {ret : Option FieldType} {hh : List (Nat × Nat × Nat × Nat)}
    (hown : s.vm.findClass own = some m.cls) (hlink : (Cond.methodLink own index y).before args s = true) (hstat : (Cond.static y).before args s = true) (hinit : (Cond.initialized y.cls).before args s = true)
    (hcode : (Cond.codeWith y bytes maxL ret hh).before args s = true) (hy : y.cls ≠ "java/lang/invoke/MethodHandle" ∧ y.cls ≠ "java/lang/invoke/VarHandle")
    {W9 : Nat} {Pre : Pt → Array Value → Prop} {Post : Pt → Array Value → Option Value → Pt → Prop} (hK : Back l R p e below s args y 3 W9 Pre Post)
    {g : JFrame} (hg : g.method = m) (hsize : g.locals.size = c.maxLocals) {argsL rest : List Value} (hlen : ∀ sig, parseMethodDescriptor y.desc = some sig → argsL.length = sig.parameters.length)
    (hstack : g.stack = argsL.reverse ++ rest) (hW : 2 * g.monitorRoom + (rest.map fun v => v.category).sum ≤ W9) (hdg : decode c.code g.pc = .ok (.invokestatic index, 3))
    (hpre : ∀ vm₁, s.WarmedH vm₁ → Pre ⟨T.setVm vm₁, locs, cells, slots⟩ argsL.toArray) :
    ∃ (v : Option Value) (vm₁ : Vm) (B : Pt), s.WarmedH vm₁ ∧ Stand p l e R s m args below meth c B.U B.locs B.cells B.slots ∧ Post ⟨T.setVm vm₁, locs, cells, slots⟩ argsL.toArray v B ∧
      ∀ target, Steps p.tables e below (B.U.setTop { g with pc := g.pc + 3, stack := v.toList ++ rest }) target → Steps p.tables e below (T.setTop g) target := by
  obtain ⟨mk, methM, cM, hnamed, hmethM, -, -, -, -, -, -, hsigM⟩ := Cond.codeWith_spec hcode
  have hstatic : methM.isStatic = true := Cond.static_spec hnamed hmethM hstat
  obtain ⟨kP, hkP, -⟩ := className_of_methodNamed hnamed
  have hinitP : kP.init = .initialized := Cond.initialized_spec (findClass_of_methodNamed hnamed) hkP hinit
  obtain ⟨vm₁, X₁, hstep₁⟩ := X.invokestatic hexec hown hlink hnamed hmethM hstatic hkP hinitP hy (g := g) hg (argsL := argsL) (rest := rest) (hlen _ hsigM) hstack hdg
  obtain ⟨v, B, X', hpost, hsteps⟩ := hK m meth c ⟨T.setVm vm₁, locs, cells, slots⟩ { g with stack := rest } (.invokestatic index) mk argsL.toArray X₁ hg hsize hdg hW (X₁.named hnamed) (hpre vm₁ X₁.warmed)
  exact ⟨v, vm₁, B, X₁.warmed, X', hpost, fun target h => hstep₁ _ fun acts => by rw [doInvoke_state]; exact hsteps.trans h⟩
theorem vx_runSW {y : MethodName} {bytes cc : ByteArray} {maxL nL mc ms n index : Nat} {ret : Option FieldType} {hh : List (Nat × Nat × Nat × Nat)} {ws : List Cond} {rm : Room} {Pc : Array Value → State → Prop} {Qc : Array Value → State → Outcome → State → Prop} {free : Addr → Prop} {Ts : List Cond} {own : String} {As rest : List Value} {g : JFrame}
    (S : CallFix p m c cc nL s args Ts own) (hM : Met l y ws rm Pc Qc mc ms free) (cw : vx_CSW R s args own index y bytes maxL ret hh ws rm mc ms n) (hp : PreS s H Pc As)
    (hg : g.method = m) (hn : As.length = n) (hsize : g.locals.size = nL) (hstack : g.stack = As.reverse ++ rest) (hW : 2 * g.monitorRoom + (rest.map fun v => v.category).sum ≤ 8) (hdg : decode cc g.pc = .ok (.invokestatic index, 3)) (hf : cells + mc ≤ R.cells ∧ slots + ms ≤ R.slots) :
    va_Run p l e R s m args below meth c H locs cells slots mc ms g rest (Qc As.toArray) (free) := by
  obtain ⟨⟨hrc, hrs, hfr, hlo, hws, hcw⟩, hcode, hini, hy, hlen, hl, hstt⟩ := cw
  have hK : Back l R p e below s args y 3 8 (PreOf R mc ms Pc) (PostOf Qc mc ms free) := va_backW (hh := hh) (bytes := bytes) (maxL := maxL) (ret := ret) hM hp.1 hrc hrs hfr hlo hws hcw (fun a' U hW => word_at hW (Or.inl (by first | rfl | simp [Cond.onTables, Cond.keeps, Cond.steady])) hini)
  obtain ⟨hx, hb, hml, ho, -⟩ := S
  intro T hT X
  obtain ⟨v, vm₁, ⟨U', l2, c2, s2⟩, hW₁, X', ⟨g', mk, t, L, e1, e2, hq, h1, hL, h2, h3⟩, st⟩ := vx_callSW X hx (hh := hh) (bytes := bytes) (maxL := maxL) (ret := ret) ho hl hstt hini hcode hy hK hg (hsize.trans hml.symm) (argsL := As) (rest := rest) (fun sig h => hn.trans (hlen sig h)) hstack hW (by rw [hb]; exact hdg)
    (fun vm₁ hW₁ => ⟨hf.1, hf.2, hp.2 (T.setVm vm₁) hT hW₁⟩)
  dsimp only [Pt.U, Pt.locs, Pt.cells, Pt.slots] at X' e1 e2 h1 h2 h3 st
  subst h1; subst h2; subst h3
  exact ⟨v, (T.setVm vm₁).calling g' mk As.toArray, t, U', L, hT, X', hL, e1, e2, hq, st⟩
/-- not caught here, past rows that name other classes: it goes on to the caller -/
theorem vx_outP {p : Program} {l : Launch} {e : Env} {R : Room} {s : State} {m : MethodId} {args : Array Value} {below : List Frame} {meth : Method} {c : Code} {H : Heap} {locs : List Loc} {cells slots : Nat} {free : Addr → Prop} {ls : Array Slot} {rest : List Value} {Qc : Array Value → State → Outcome → State → Prop} {XC : String → State → State → Prop}
    {pc : Nat} {own E : String} {ce : Cell} {q : Addr} {mc ms : Nat} (hown : s.vm.findClass own = some m.cls) (hlocks : meth.locks = false)
    (hpass : ∀ z ∈ c.exceptionTable.toList, covers z pc = false ∨ (z.catchType ≠ 0 ∧ ∃ nm : String, (Cond.classLink own z.catchType nm).before args s = true ∧ va_Nc E nm s)) (hcell : H[q]? = some ce) (hv : ce.vm = .none) (hcl : s.vm.findClass E = some ce.cls)
    (hx : ∀ t : State, t.heap = H → s.vm.Alike t.vm → XC E s t) (hf : ∀ z ∈ locs, free z.base) (hc : cells ≤ mc) (hs : slots ≤ ms) :
    vx_W p l e R s m args below meth c H locs cells slots (vx_MQ below Qc XC args s mc ms free) (F0 m pc ls rest) q := by
  intro T hT X
  have hpl : e.platform.magicAccessors = ({} : Platform).magicAccessors := by rw [X.admits.platform]
  obtain ⟨vm', hW', X', st⟩ := X.outThrough hlocks q (g := F0 m pc ls rest) rfl rfl rfl (cell := ce) (by rw [hT]; exact hcell) (by rw [hv]; rfl)
    (by obtain ⟨k9, h9, -⟩ := Vm.findClass_spec hcl; exact ⟨k9, h9⟩) (fun z hz => by
      rcases hpass z hz with h | ⟨hz0, nm, hl1, hn1⟩
      · exact Or.inl h
      · obtain ⟨c6, hc6, hcl6⟩ := Cond.classLink_spec hown hl1 e.platform hpl
        obtain ⟨a8, b8, h1, h2, h3⟩ := hn1
        cases Option.some.inj (h1.symm.trans hcl)
        cases Option.some.inj (h2.symm.trans hc6)
        exact Or.inr ⟨hz0, _, hcl6, h3⟩)
  obtain ⟨g₀, hfr⟩ := X'.frames_eq
  have hcell9 : ((T.setVm vm').setFrames (.throwing q :: below)).heap[q]? = some ce := by
    show T.heap[q]? = some ce
    rw [hT]; exact hcell
  have hend : Ended ((T.setVm vm').setFrames (.throwing q :: below)) below (.threw q) := State.frames_setFrames _ (State.cur_lt_of_frames hfr)
  refine ⟨(T.setVm vm').setFrames (.throwing q :: below), ?_, .threw q, X'.here.running, hend, Or.inr ⟨q, rfl, E, ce, locs, hx _ hT (X'.ends _).1.alike, hcell9, hv, hcl, (X'.ends _).1, (X'.ends _).2.mono hc hs, hf⟩⟩
  rw [X.pushThrowing_eq]
  exact st
/-- a thing of a world lies in the heap -/
theorem vx_lt {D : va_G} {cl : List vw_C} {ws : va_W} {H1 : Heap} (h : va_P D cl ws H1) {k : Nat} {q : Nat × va_E} (hk : ws[k]? = some q) : q.1 < H1.size := (h k q hk).lt
end VXS
/-! ===== END ===== -/
/-! ===== BEGIN methods with a table of their own: called by a name, returning or throwing ===== -/
section VXH
/-! vx_backW, vx_callVX, vx_callSX, vx_callVW, vx_runVW, vx_runVX, vx_runSX, vx_ofWH follow the same proofs as their sisters above (Free/Laws.lean, Shelf42/LK1.lean); vx_outP calls Shelf42/NT130.lean (outThrough). -/
section
variable {l : Launch} {R : Room} {p : Program} {e : Env} {below : List Frame} {s : State} {sargs : Array Value} {y : MethodName} {len W9 : Nat}
theorem vx_backW {ws : List Cond} {rm : Room} {Pc : Array Value → State → Prop} {Qc : Array Value → State → Outcome → State → Prop} {XC : String → State → State → Prop} {mc ms : Nat} {free : Addr → Prop} {bytes : ByteArray} {maxL : Nat} {ret : Option FieldType} {hh : List (Nat × Nat × Nat × Nat)}
    (hM : vx_Met l y ws rm Pc Qc XC mc ms free) (hblind : FrameBlind Pc) (hrc : rm.cells = mc) (hrs : rm.slots = ms)
    (hframes : rm.frames + 1 ≤ R.frames) (hlocals : W9 + (maxL + 11) + rm.locals ≤ R.locals)
    (hws : ∀ w ∈ ws, ∀ a' U, s.WarmedH U.vm → w.before a' U = true) (hcode : Cond.codeWith y bytes maxL ret hh ∈ ws) (hinit : ∀ a' U, s.WarmedH U.vm → (Cond.initialized y.cls).before a' U = true) :
    vx_Back l R p e below s sargs y len W9 (PreOf R mc ms Pc) (PostOf Qc mc ms free) (vx_Post XC mc ms free) := by
  intro m meth c A g ig mk a X hg hsize hdg hW hn hp
  have h1 : (headSpec ws rm).pre.before a A.U = true := atoms_intro fun w hw => hws w hw _ _ X.warmed
  have h2 : (Cond.codeWith y bytes maxL ret hh).before a A.U = true := hws _ hcode _ _ X.warmed
  have h3 : (Cond.initialized y.cls).before a A.U = true := hinit _ _ X.warmed
  have h4 : A.cells + (headSpec ws rm).room.cells ≤ R.cells := by rw [show (headSpec ws rm).room.cells = mc from hrc]; exact hp.1
  have h5 : A.slots + (headSpec ws rm).room.slots ≤ R.slots := by rw [show (headSpec ws rm).room.slots = ms from hrs]; exact hp.2.1
  have hPc : Pc a (A.U.calling g mk a) := hblind _ _ _ _ hp.2.2
  obtain ⟨U, Ls, c0, s0⟩ := A
  dsimp only [Pt.U, Pt.locs, Pt.cells, Pt.slots] at h1 h2 h3 h4 h5 X hn hPc ⊢
  obtain ⟨m9, methY, cY, hn9, hmY, hcY, -, hlY, -⟩ := Cond.codeWith_spec h2
  cases Option.some.inj (hn9.symm.trans hn)
  obtain ⟨kY, hkY, -⟩ := className_of_methodNamed hn
  have hinitY : kY.init = .initialized := Cond.initialized_spec (findClass_of_methodNamed hn) hkY h3
  have h : At U g.method c below := by rw [hg]; exact X.here
  have hlocals9 : W9 + (maxL + 11) + (headSpec ws rm).room.locals ≤ R.locals := hlocals
  have happ : (headSpec ws rm).appliesLoose y e.platform (U.calling g mk a) = true :=
    Spec.appliesLoose_calling (g := g) h hdg hn hkY hinitY
      (X.room_calling (g := g) (R' := (headSpec ws rm).room) hsize hmY hcY hframes (by rw [hlY]; omega) h4 h5) h1
  obtain ⟨mid, hmid⟩ := h.above
  have hfr : (U.setTop g).frames = (.java g :: mid) ++ below := by rw [State.frames_setTop' g h.top, hmid]; rfl
  obtain ⟨o, s₂, hsteps, -, hend, hq⟩ := Steps.callFree hM p X.admits X.cas X.clock (acts := []) hfr happ hPc trivial
  have hq' : vx_Q Qc XC mc ms free a (U.calling g mk a) o s₂ := hq
  rw [State.frames_setTop' g h.top] at hend
  obtain ⟨g₀, hg0⟩ := Option.isSome_iff_exists.mp h.top
  obtain ⟨r, hr⟩ := State.topJava?_eq_some.mp hg0
  have hr' : (({ U with heap := s₂.heap, slotsUsed := s₂.slotsUsed } : State).setVm s₂.vm).frames = .java g₀ :: r := hr
  rcases hq' with ⟨hqc, L, hfe, hL⟩ | ⟨q, rfl, E, ce, L, hx, hce, hcv, hcl, hW₂, hsm, hL⟩
  · obtain ⟨⟨v, rfl⟩, hW₂, e2, q2, q3, q4, q5, q6⟩ := id hfe
    have e3 : s₂ = ({ (U.calling g mk a).setFrames s₂.frames with heap := s₂.heap, slotsUsed := s₂.slotsUsed } : State).setVm s₂.vm := by
      have : s₂ = ({ s₂ with vm := (U.calling g mk a).vm } : State).setVm s₂.vm := rfl
      rw [e2] at this
      exact this
    obtain ⟨c₂, i₂, len₂, hc₂, hd₂, hf₂⟩ := hend
    have hW' : U.WarmedH s₂.vm := hW₂
    have hcc : c₂ = c := by
      have h1 : s₂.code? g.method = U.code? g.method := by
        rw [State.code?_eq, State.code?_eq, hW'.alike.method?]
      exact Option.some.inj (hc₂.symm.trans (h1.trans h.code))
    subst hcc
    have hlen : len₂ = len := by rw [hdg] at hd₂; cases hd₂; rfl
    subst hlen
    have hs₂ : s₂ = (({ U with heap := s₂.heap, slotsUsed := s₂.slotsUsed } : State).setVm s₂.vm).setTop { g with pc := g.pc + len₂, stack := v.toList ++ g.stack } := by
      refine e3.trans ?_
      rw [hf₂, State.calling_eq h.top, State.setFrames_setFrames, State.setTop_of_frames _ hr', hr]
      rfl
    have hsame : U.sameButNew ({ U with heap := s₂.heap, slotsUsed := s₂.slotsUsed } : State) L mc ms := by
      refine ⟨?_, q2, q3, q4, q5, q6⟩
      obtain ⟨t, ht, -⟩ := State.frames_cons hr
      show ({ U with heap := s₂.heap, slotsUsed := s₂.slotsUsed } : State) = { U.setFrames U.frames with heap := s₂.heap, slotsUsed := s₂.slotsUsed }
      rw [State.setFrames_self ht]
    subst hg
    refine Or.inl ⟨v, ⟨(({ U with heap := s₂.heap, slotsUsed := s₂.slotsUsed } : State).setVm s₂.vm), Ls ++ L, c0 + mc, s0 + ms⟩,
      ⟨X.admits, X.cas, X.clock, X.frames, X.room, X.hears, X.method, X.code, (X.here.setHeapUsed s₂.heap s₂.slotsUsed).setVm hW'.alike, X.tail, State.WarmedH.trans X.warmed hW', X.limits, X.bytes, X.same.trans (hsame.setVm s.vm)⟩,
      ⟨g, mk, s₂, L, rfl, rfl, hqc, rfl, hL, rfl, rfl⟩, ?_⟩
    show Steps p.tables e below _ ((({ U with heap := s₂.heap, slotsUsed := s₂.slotsUsed } : State).setVm s₂.vm).setTop { g with pc := g.pc + len₂, stack := v.toList ++ g.stack })
    rw [← hs₂]
    exact hsteps
  · obtain ⟨e2, q2, q3, q4, q5, q6⟩ := id hsm
    have e3 : s₂ = ({ (U.calling g mk a).setFrames s₂.frames with heap := s₂.heap, slotsUsed := s₂.slotsUsed } : State).setVm s₂.vm := by
      have : s₂ = ({ s₂ with vm := (U.calling g mk a).vm } : State).setVm s₂.vm := rfl
      rw [e2] at this
      exact this
    have hf₂ : s₂.frames = .throwing q :: .java g :: U.frames.tail := hend
    have hW' : U.WarmedH s₂.vm := hW₂
    have hs₂ : s₂ = ((({ U with heap := s₂.heap, slotsUsed := s₂.slotsUsed } : State).setVm s₂.vm).setTop g).pushFrame (.throwing q) := by
      refine e3.trans ?_
      rw [hf₂, State.calling_eq h.top, State.setFrames_setFrames, State.pushFrame, State.frames_setTop _ hr', State.setTop_of_frames _ hr', State.setFrames_setFrames, hr]
      rfl
    have hsame : U.sameButNew ({ U with heap := s₂.heap, slotsUsed := s₂.slotsUsed } : State) L mc ms := by
      refine ⟨?_, q2, q3, q4, q5, q6⟩
      obtain ⟨t, ht, -⟩ := State.frames_cons hr
      show ({ U with heap := s₂.heap, slotsUsed := s₂.slotsUsed } : State) = { U.setFrames U.frames with heap := s₂.heap, slotsUsed := s₂.slotsUsed }
      rw [State.setFrames_self ht]
    subst hg
    refine Or.inr ⟨q, ⟨(({ U with heap := s₂.heap, slotsUsed := s₂.slotsUsed } : State).setVm s₂.vm), Ls ++ L, c0 + mc, s0 + ms⟩,
      ⟨X.admits, X.cas, X.clock, X.frames, X.room, X.hears, X.method, X.code, (X.here.setHeapUsed s₂.heap s₂.slotsUsed).setVm hW'.alike, X.tail, State.WarmedH.trans X.warmed hW', X.limits, X.bytes, X.same.trans (hsame.setVm s.vm)⟩,
      ⟨g, mk, s₂, L, E, ce, rfl, rfl, hx, hce, hcv, hcl, rfl, hL, rfl, rfl⟩, ?_⟩
    show Steps p.tables e below _ (((({ U with heap := s₂.heap, slotsUsed := s₂.slotsUsed } : State).setVm s₂.vm).setTop g).pushFrame (.throwing q))
    rw [← hs₂]
    exact hsteps
end
variable {p : Program} {l : Launch} {e : Env} {R : Room} {s : State} {m : MethodId} {args : Array Value} {below : List Frame} {meth : Method} {c : Code} {T : State} {H : Heap} {locs : List Loc} {cells slots : Nat}
theorem vx_callVX (X : Stand p l e R s m args below meth c T locs cells slots) (hexec : p.tables.exec = Jvm.exec) {own C : String} {index : Nat} {y : MethodName} {bytes : ByteArray} {maxL : Nat} {ret : Option FieldType} {hh : List (Nat × Nat × Nat × Nat)}
    (hown : s.vm.findClass own = some m.cls) (hlink : (Cond.methodLink own index y).before args s = true) (hinst : (Cond.instanceMethod y).before args s = true) (hsel : (Cond.selects C y y).before args s = true)
    (hcode : (Cond.codeWith y bytes maxL ret hh).before args s = true) (hy : y.cls ≠ "java/lang/invoke/MethodHandle" ∧ y.cls ≠ "java/lang/invoke/VarHandle")
    {W9 : Nat} {Pre : Pt → Array Value → Prop} {Post : Pt → Array Value → Option Value → Pt → Prop} {PostX : Pt → Array Value → Addr → Pt → Prop} (hK : vx_Back l R p e below s args y 3 W9 Pre Post PostX)
    {b : Addr} {cellB : Cell} (hcell : T.heap[b]? = some cellB) (hobj : cellB.vm.isStatics = false) (hcls : s.vm.findClass C = some cellB.cls)
    {g : JFrame} (hg : g.method = m) (hsize : g.locals.size = c.maxLocals) {argsL rest : List Value} (hlen : ∀ sig, parseMethodDescriptor y.desc = some sig → argsL.length = sig.parameters.length)
    (hstack : g.stack = argsL.reverse ++ .ref b :: rest) (hW : 2 * g.monitorRoom + (rest.map fun v => v.category).sum ≤ W9) (hdg : decode c.code g.pc = .ok (.invokevirtual index, 3))
    (hpre : ∀ vm₁, s.WarmedH vm₁ → Pre ⟨T.setVm vm₁, locs, cells, slots⟩ (Value.ref b :: argsL).toArray) :
    (∃ (v : Option Value) (vm₁ : Vm) (B : Pt), s.WarmedH vm₁ ∧ Stand p l e R s m args below meth c B.U B.locs B.cells B.slots ∧ Post ⟨T.setVm vm₁, locs, cells, slots⟩ (Value.ref b :: argsL).toArray v B ∧
      ∀ target, Steps p.tables e below (B.U.setTop { g with pc := g.pc + 3, stack := v.toList ++ rest }) target → Steps p.tables e below (T.setTop g) target) ∨
    (∃ (q : Addr) (vm₁ : Vm) (B : Pt), s.WarmedH vm₁ ∧ Stand p l e R s m args below meth c B.U B.locs B.cells B.slots ∧ PostX ⟨T.setVm vm₁, locs, cells, slots⟩ (Value.ref b :: argsL).toArray q B ∧
      Steps p.tables e below (T.setTop g) ((B.U.setTop { g with stack := rest }).pushFrame (.throwing q))) := by
  obtain ⟨mk, methM, hnamed, hmethM, hstM, habM⟩ := Cond.instanceMethod_spec hinst
  obtain ⟨m8, methM', cM, hn8, hmethM', -, -, -, -, -, -, hsigM⟩ := Cond.codeWith_spec hcode
  cases Option.some.inj (hn8.symm.trans hnamed)
  cases hmethM.symm.trans hmethM'
  obtain ⟨c2, r2, m2, q1, q2, q3, q4, kP, hkP, hkPi⟩ := Cond.selects_spec hsel
  cases hcls.symm.trans q1
  cases (State.methodFound?_of_named hnamed hy).symm.trans q2
  cases hnamed.symm.trans q3
  have hselP : selectMethod e.platform s.vm cellB.cls mk = .method mk := by rw [Launch.admits_selectMethod X.admits]; exact q4
  obtain ⟨vm₁, X₁, hstep₁⟩ := X.invokevirtual hexec hown hlink hnamed hmethM hstM hkP hkPi hy (a := b) (cell := cellB) hcell
    (fun z h => by rw [h] at hobj; cases hobj) hselP hmethM habM hkP hkPi (g := g) hg (argsL := argsL) (rest := rest) (hlen _ hsigM) hstack hdg
  rcases hK m meth c ⟨T.setVm vm₁, locs, cells, slots⟩ { g with stack := rest } (.invokevirtual index) mk (Value.ref b :: argsL).toArray X₁ hg hsize hdg hW (X₁.named hnamed) (hpre vm₁ X₁.warmed) with ⟨v, B, X', hpost, hsteps⟩ | ⟨q, B, X', hpost, hsteps⟩
  · exact Or.inl ⟨v, vm₁, B, X₁.warmed, X', hpost, fun target h => hstep₁ _ fun acts => by rw [doInvoke_state]; exact hsteps.trans h⟩
  · exact Or.inr ⟨q, vm₁, B, X₁.warmed, X', hpost, hstep₁ _ fun acts => by rw [doInvoke_state]; exact hsteps⟩
theorem vx_callSX (X : Stand p l e R s m args below meth c T locs cells slots) (hexec : p.tables.exec = Jvm.exec) {own : String} {index : Nat} {y : MethodName} {bytes : ByteArray} {maxL : Nat} {ret : Option FieldType} {hh : List (Nat × Nat × Nat × Nat)}
    (hown : s.vm.findClass own = some m.cls) (hlink : (Cond.methodLink own index y).before args s = true) (hstat : (Cond.static y).before args s = true) (hinit : (Cond.initialized y.cls).before args s = true)
    (hcode : (Cond.codeWith y bytes maxL ret hh).before args s = true) (hy : y.cls ≠ "java/lang/invoke/MethodHandle" ∧ y.cls ≠ "java/lang/invoke/VarHandle")
    {W9 : Nat} {Pre : Pt → Array Value → Prop} {Post : Pt → Array Value → Option Value → Pt → Prop} {PostX : Pt → Array Value → Addr → Pt → Prop} (hK : vx_Back l R p e below s args y 3 W9 Pre Post PostX)
    {g : JFrame} (hg : g.method = m) (hsize : g.locals.size = c.maxLocals) {argsL rest : List Value} (hlen : ∀ sig, parseMethodDescriptor y.desc = some sig → argsL.length = sig.parameters.length)
    (hstack : g.stack = argsL.reverse ++ rest) (hW : 2 * g.monitorRoom + (rest.map fun v => v.category).sum ≤ W9) (hdg : decode c.code g.pc = .ok (.invokestatic index, 3))
    (hpre : ∀ vm₁, s.WarmedH vm₁ → Pre ⟨T.setVm vm₁, locs, cells, slots⟩ argsL.toArray) :
    (∃ (v : Option Value) (vm₁ : Vm) (B : Pt), s.WarmedH vm₁ ∧ Stand p l e R s m args below meth c B.U B.locs B.cells B.slots ∧ Post ⟨T.setVm vm₁, locs, cells, slots⟩ argsL.toArray v B ∧
      ∀ target, Steps p.tables e below (B.U.setTop { g with pc := g.pc + 3, stack := v.toList ++ rest }) target → Steps p.tables e below (T.setTop g) target) ∨
    (∃ (q : Addr) (vm₁ : Vm) (B : Pt), s.WarmedH vm₁ ∧ Stand p l e R s m args below meth c B.U B.locs B.cells B.slots ∧ PostX ⟨T.setVm vm₁, locs, cells, slots⟩ argsL.toArray q B ∧
      Steps p.tables e below (T.setTop g) ((B.U.setTop { g with stack := rest }).pushFrame (.throwing q))) := by
  obtain ⟨mk, methM, cM, hnamed, hmethM, -, -, -, -, -, -, hsigM⟩ := Cond.codeWith_spec hcode
  have hstatic : methM.isStatic = true := Cond.static_spec hnamed hmethM hstat
  obtain ⟨kP, hkP, -⟩ := className_of_methodNamed hnamed
  have hinitP : kP.init = .initialized := Cond.initialized_spec (findClass_of_methodNamed hnamed) hkP hinit
  obtain ⟨vm₁, X₁, hstep₁⟩ := X.invokestatic hexec hown hlink hnamed hmethM hstatic hkP hinitP hy (g := g) hg (argsL := argsL) (rest := rest) (hlen _ hsigM) hstack hdg
  rcases hK m meth c ⟨T.setVm vm₁, locs, cells, slots⟩ { g with stack := rest } (.invokestatic index) mk argsL.toArray X₁ hg hsize hdg hW (X₁.named hnamed) (hpre vm₁ X₁.warmed) with ⟨v, B, X', hpost, hsteps⟩ | ⟨q, B, X', hpost, hsteps⟩
  · exact Or.inl ⟨v, vm₁, B, X₁.warmed, X', hpost, fun target h => hstep₁ _ fun acts => by rw [doInvoke_state]; exact hsteps.trans h⟩
  · exact Or.inr ⟨q, vm₁, B, X₁.warmed, X', hpost, hstep₁ _ fun acts => by rw [doInvoke_state]; exact hsteps⟩
theorem vx_callVW (X : Stand p l e R s m args below meth c T locs cells slots) (hexec : p.tables.exec = Jvm.exec) {own C : String} {index : Nat} {y : MethodName} {bytes : ByteArray} {maxL : Nat} {ret : Option FieldType} {hh : List (Nat × Nat × Nat × Nat)}
    (hown : s.vm.findClass own = some m.cls) (hlink : (Cond.methodLink own index y).before args s = true) (hinst : (Cond.instanceMethod y).before args s = true) (hsel : (Cond.selects C y y).before args s = true)
    (hcode : (Cond.codeWith y bytes maxL ret hh).before args s = true) (hy : y.cls ≠ "java/lang/invoke/MethodHandle" ∧ y.cls ≠ "java/lang/invoke/VarHandle")
    {W9 : Nat} {Pre : Pt → Array Value → Prop} {Post : Pt → Array Value → Option Value → Pt → Prop} (hK : Back l R p e below s args y 3 W9 Pre Post)
    {b : Addr} {cellB : Cell} (hcell : T.heap[b]? = some cellB) (hobj : cellB.vm.isStatics = false) (hcls : s.vm.findClass C = some cellB.cls)
    {g : JFrame} (hg : g.method = m) (hsize : g.locals.size = c.maxLocals) {argsL rest : List Value} (hlen : ∀ sig, parseMethodDescriptor y.desc = some sig → argsL.length = sig.parameters.length)
    (hstack : g.stack = argsL.reverse ++ .ref b :: rest) (hW : 2 * g.monitorRoom + (rest.map fun v => v.category).sum ≤ W9) (hdg : decode c.code g.pc = .ok (.invokevirtual index, 3))
    (hpre : ∀ vm₁, s.WarmedH vm₁ → Pre ⟨T.setVm vm₁, locs, cells, slots⟩ (Value.ref b :: argsL).toArray) :
    ∃ (v : Option Value) (vm₁ : Vm) (B : Pt), s.WarmedH vm₁ ∧ Stand p l e R s m args below meth c B.U B.locs B.cells B.slots ∧ Post ⟨T.setVm vm₁, locs, cells, slots⟩ (Value.ref b :: argsL).toArray v B ∧
      ∀ target, Steps p.tables e below (B.U.setTop { g with pc := g.pc + 3, stack := v.toList ++ rest }) target → Steps p.tables e below (T.setTop g) target := by
  obtain ⟨mk, methM, hnamed, hmethM, hstM, habM⟩ := Cond.instanceMethod_spec hinst
  obtain ⟨m8, methM', cM, hn8, hmethM', -, -, -, -, -, -, hsigM⟩ := Cond.codeWith_spec hcode
  cases Option.some.inj (hn8.symm.trans hnamed)
  cases hmethM.symm.trans hmethM'
  obtain ⟨c2, r2, m2, q1, q2, q3, q4, kP, hkP, hkPi⟩ := Cond.selects_spec hsel
  cases hcls.symm.trans q1
  cases (State.methodFound?_of_named hnamed hy).symm.trans q2
  cases hnamed.symm.trans q3
  have hselP : selectMethod e.platform s.vm cellB.cls mk = .method mk := by rw [Launch.admits_selectMethod X.admits]; exact q4
  obtain ⟨vm₁, X₁, hstep₁⟩ := X.invokevirtual hexec hown hlink hnamed hmethM hstM hkP hkPi hy (a := b) (cell := cellB) hcell
    (fun z h => by rw [h] at hobj; cases hobj) hselP hmethM habM hkP hkPi (g := g) hg (argsL := argsL) (rest := rest) (hlen _ hsigM) hstack hdg
  obtain ⟨v, B, X', hpost, hsteps⟩ := hK m meth c ⟨T.setVm vm₁, locs, cells, slots⟩ { g with stack := rest } (.invokevirtual index) mk (Value.ref b :: argsL).toArray X₁ hg hsize hdg hW (X₁.named hnamed) (hpre vm₁ X₁.warmed)
  exact ⟨v, vm₁, B, X₁.warmed, X', hpost, fun target h => hstep₁ _ fun acts => by rw [doInvoke_state]; exact hsteps.trans h⟩
abbrev vx_CVW (R : Room) (s : State) (args : Array Value) (own C : String) (index : Nat) (y : MethodName) (bytes : ByteArray) (maxL : Nat) (ret : Option FieldType) (hh : List (Nat × Nat × Nat × Nat)) (ws : List Cond) (rm : Room) (mc ms n : Nat) : Prop :=
  (rm.cells = mc ∧ rm.slots = ms ∧ rm.frames + 1 ≤ R.frames ∧ 8 + (maxL + 11) + rm.locals ≤ R.locals ∧ (∀ w ∈ ws, ∀ (a' : Array Value) (U : State), s.WarmedH U.vm → w.before a' U = true) ∧ Cond.codeWith y bytes maxL ret hh ∈ ws) ∧
  (Cond.codeWith y bytes maxL ret hh).before args s = true ∧ (Cond.initialized y.cls).before args s = true ∧ (y.cls ≠ "java/lang/invoke/MethodHandle" ∧ y.cls ≠ "java/lang/invoke/VarHandle") ∧
  (∀ sig, parseMethodDescriptor y.desc = some sig → n = sig.parameters.length) ∧ (Cond.methodLink own index y).before args s = true ∧ (Cond.instanceMethod y).before args s = true ∧ (Cond.selects C y y).before args s = true
theorem vx_cwVW {own C : String} {index maxL mc ms : Nat} {y : MethodName} {bytes : ByteArray} {ret : Option FieldType} {hh : List (Nat × Nat × Nat × Nat)} {Ts ws ws' : List Cond} {rm : Room} (n : Nat) (ht : ∀ w ∈ Ts, w.before args s = true) (hT : GoodIn Ts (wsV own index C y ws)) (hw : ws = Cond.codeWith y bytes maxL ret hh :: ws') (hrc : rm.cells = mc) (hrs : rm.slots = ms)
    (hd : y.cls = C ∧ y.cls ≠ "java/lang/invoke/MethodHandle" ∧ y.cls ≠ "java/lang/invoke/VarHandle" ∧ (parseMethodDescriptor y.desc).map (fun d => d.parameters.length) = some n) (hR : rm.frames + 1 ≤ R.frames ∧ 8 + (maxL + 11) + rm.locals ≤ R.locals) :
    vx_CVW R s args own C index y bytes maxL ret hh ws rm mc ms n := by
  obtain ⟨hC, hd⟩ := hd
  subst hC
  have ok : ∀ w ∈ wsV own index y.cls y ws, w.before args s = true := fun w h => ht w (hT w h).1
  have hG : GoodIn Ts ws := fun w h => hT w (by unfold wsV; exact List.mem_append_right _ h)
  have hc : Cond.codeWith y bytes maxL ret hh ∈ ws := by rw [hw]; exact List.mem_cons_self
  refine ⟨⟨hrc, hrs, hR.1, hR.2, pay_in ht hG, hc⟩, ht _ (hG _ hc).1, ok _ (by simp [wsV]), ⟨hd.1, hd.2.1⟩, fun sig h => ?_, ok _ (by simp [wsV]), ok _ (by simp [wsV]), ok _ (by simp [wsV])⟩
  have h2 := hd.2.2
  rw [h] at h2
  exact (Option.some.inj h2).symm
theorem vx_runVW {y : MethodName} {bytes cc : ByteArray} {maxL nL mc ms n index : Nat} {ret : Option FieldType} {hh : List (Nat × Nat × Nat × Nat)} {ws : List Cond} {rm : Room} {Pc : Array Value → State → Prop} {Qc : Array Value → State → Outcome → State → Prop} {free : Addr → Prop} {Ts : List Cond} {own C : String} {b : Addr} {As rest : List Value} {g : JFrame}
    (S : CallFix p m c cc nL s args Ts own) (hM : Met l y ws rm Pc Qc mc ms free) (cw : vx_CVW R s args own C index y bytes maxL ret hh ws rm mc ms n) (hp : PreV s H C b Pc As)
    (hg : g.method = m) (hn : As.length = n) (hsize : g.locals.size = nL) (hstack : g.stack = As.reverse ++ .ref b :: rest) (hW : 2 * g.monitorRoom + (rest.map fun v => v.category).sum ≤ 8) (hdg : decode cc g.pc = .ok (.invokevirtual index, 3)) (hf : cells + mc ≤ R.cells ∧ slots + ms ≤ R.slots) :
    va_Run p l e R s m args below meth c H locs cells slots mc ms g rest (Qc (Value.ref b :: As).toArray) free := by
  obtain ⟨⟨hrc, hrs, hfr, hlo, hws, hcw⟩, hcode, hini, hy, hlen, hl, hin, hse⟩ := cw
  have hK : Back l R p e below s args y 3 8 (PreOf R mc ms Pc) (PostOf Qc mc ms free) := va_backW (hh := hh) (bytes := bytes) (maxL := maxL) (ret := ret) hM hp.1 hrc hrs hfr hlo hws hcw (fun a' U hW => word_at hW (Or.inl (by first | rfl | simp [Cond.onTables, Cond.keeps, Cond.steady])) hini)
  obtain ⟨hx, hb, hml, ho, -⟩ := S
  obtain ⟨-, ⟨cellB, hcB, hoB, hclB⟩, hPc⟩ := hp
  intro T hT X
  obtain ⟨v, vm₁, ⟨U', l2, c2, s2⟩, hW₁, X', ⟨g', mk, t, L, e1, e2, hq, h1, hL, h2, h3⟩, st⟩ := vx_callVW X hx (C := C) (hh := hh) (bytes := bytes) (maxL := maxL) (ret := ret) ho hl hin hse hcode hy hK (by rw [hT]; exact hcB) hoB hclB hg (hsize.trans hml.symm) (argsL := As) (rest := rest) (fun sig h => hn.trans (hlen sig h)) hstack hW (by rw [hb]; exact hdg)
    (fun vm₁ hW₁ => ⟨hf.1, hf.2, hPc (T.setVm vm₁) hT hW₁⟩)
  dsimp only [Pt.U, Pt.locs, Pt.cells, Pt.slots] at X' e1 e2 h1 h2 h3 st
  subst h1; subst h2; subst h3
  exact ⟨v, (T.setVm vm₁).calling g' mk (Value.ref b :: As).toArray, t, U', L, hT, X', hL, e1, e2, hq, st⟩
section
variable {y : MethodName} {bytes cc : ByteArray} {maxL nL mc ms n index : Nat} {ret : Option FieldType} {ws : List Cond} {rm : Room} {Pc : Array Value → State → Prop} {Qc : Array Value → State → Outcome → State → Prop} {XC : String → State → State → Prop} {free : Addr → Prop} {Ts : List Cond} {own C : String} {b : Addr} {As rest : List Value} {g : JFrame}
theorem vx_runVX {hh : List (Nat × Nat × Nat × Nat)} (S : CallFix p m c cc nL s args Ts own) (hM : vx_Met l y ws rm Pc Qc XC mc ms free) (cw : vx_CVW R s args own C index y bytes maxL ret hh ws rm mc ms n) (hp : PreV s H C b Pc As)
    (hg : g.method = m) (hn : As.length = n) (hsize : g.locals.size = nL) (hstack : g.stack = As.reverse ++ .ref b :: rest) (hW : 2 * g.monitorRoom + (rest.map fun v => v.category).sum ≤ 8) (hdg : decode cc g.pc = .ok (.invokevirtual index, 3)) (hf : cells + mc ≤ R.cells ∧ slots + ms ≤ R.slots) :
    vx_Run p l e R s m args below meth c H locs cells slots mc ms g rest (Qc (Value.ref b :: As).toArray) XC free := by
  obtain ⟨⟨hrc, hrs, hfr, hlo, hws, hcw⟩, hcode, hini, hy, hlen, hl, hin, hse⟩ := cw
  have hK : vx_Back l R p e below s args y 3 8 (PreOf R mc ms Pc) (PostOf Qc mc ms free) (vx_Post XC mc ms free) := vx_backW (hh := hh) (bytes := bytes) (maxL := maxL) (ret := ret) hM hp.1 hrc hrs hfr hlo hws hcw (fun a' U hW => word_at hW (Or.inl (by first | rfl | simp [Cond.onTables, Cond.keeps, Cond.steady])) hini)
  obtain ⟨hx, hb, hml, ho, -⟩ := S
  obtain ⟨-, ⟨cellB, hcB, hoB, hclB⟩, hPc⟩ := hp
  intro T hT X
  rcases vx_callVX X hx (C := C) (hh := hh) (bytes := bytes) (maxL := maxL) (ret := ret) ho hl hin hse hcode hy hK (by rw [hT]; exact hcB) hoB hclB hg (hsize.trans hml.symm) (argsL := As) (rest := rest) (fun sig h => hn.trans (hlen sig h)) hstack hW (by rw [hb]; exact hdg)
    (fun vm₁ hW₁ => ⟨hf.1, hf.2, hPc (T.setVm vm₁) hT hW₁⟩) with ⟨v, vm₁, ⟨U', l2, c2, s2⟩, hW₁, X', ⟨g', mk, t, L, e1, e2, hq, h1, hL, h2, h3⟩, st⟩ | ⟨q, vm₁, ⟨U', l2, c2, s2⟩, hW₁, X', ⟨g', mk, t, L, E, ce, e1, e2, hq, hce, hcv, hcl, h1, hL, h2, h3⟩, st⟩
  · dsimp only [Pt.U, Pt.locs, Pt.cells, Pt.slots] at X' e1 e2 h1 h2 h3 st
    subst h1; subst h2; subst h3
    exact Or.inl ⟨v, (T.setVm vm₁).calling g' mk (Value.ref b :: As).toArray, t, U', L, hT, X', hL, e1, e2, hq, st⟩
  · dsimp only [Pt.U, Pt.locs, Pt.cells, Pt.slots] at X' e1 e2 h1 h2 h3 st hcl
    subst h1; subst h2; subst h3
    exact Or.inr ⟨q, (T.setVm vm₁).calling g' mk (Value.ref b :: As).toArray, t, U', L, E, ce, hT, X', hL, e1, e2, hq, hce, hcv, vx_cls hW₁ hcl, st⟩
theorem vx_runSX {hh : List (Nat × Nat × Nat × Nat)} (S : CallFix p m c cc nL s args Ts own) (hM : vx_Met l y ws rm Pc Qc XC mc ms free) (cw : vx_CSW R s args own index y bytes maxL ret hh ws rm mc ms n) (hp : PreS s H Pc As)
    (hg : g.method = m) (hn : As.length = n) (hsize : g.locals.size = nL) (hstack : g.stack = As.reverse ++ rest) (hW : 2 * g.monitorRoom + (rest.map fun v => v.category).sum ≤ 8) (hdg : decode cc g.pc = .ok (.invokestatic index, 3)) (hf : cells + mc ≤ R.cells ∧ slots + ms ≤ R.slots) :
    vx_Run p l e R s m args below meth c H locs cells slots mc ms g rest (Qc As.toArray) XC free := by
  obtain ⟨⟨hrc, hrs, hfr, hlo, hws, hcw⟩, hcode, hini, hy, hlen, hl, hstt⟩ := cw
  have hK : vx_Back l R p e below s args y 3 8 (PreOf R mc ms Pc) (PostOf Qc mc ms free) (vx_Post XC mc ms free) := vx_backW (hh := hh) (bytes := bytes) (maxL := maxL) (ret := ret) hM hp.1 hrc hrs hfr hlo hws hcw (fun a' U hW => word_at hW (Or.inl (by first | rfl | simp [Cond.onTables, Cond.keeps, Cond.steady])) hini)
  obtain ⟨hx, hb, hml, ho, -⟩ := S
  intro T hT X
  rcases vx_callSX X hx (hh := hh) (bytes := bytes) (maxL := maxL) (ret := ret) ho hl hstt hini hcode hy hK hg (hsize.trans hml.symm) (argsL := As) (rest := rest) (fun sig h => hn.trans (hlen sig h)) hstack hW (by rw [hb]; exact hdg)
    (fun vm₁ hW₁ => ⟨hf.1, hf.2, hp.2 (T.setVm vm₁) hT hW₁⟩) with ⟨v, vm₁, ⟨U', l2, c2, s2⟩, hW₁, X', ⟨g', mk, t, L, e1, e2, hq, h1, hL, h2, h3⟩, st⟩ | ⟨q, vm₁, ⟨U', l2, c2, s2⟩, hW₁, X', ⟨g', mk, t, L, E, ce, e1, e2, hq, hce, hcv, hcl, h1, hL, h2, h3⟩, st⟩
  · dsimp only [Pt.U, Pt.locs, Pt.cells, Pt.slots] at X' e1 e2 h1 h2 h3 st
    subst h1; subst h2; subst h3
    exact Or.inl ⟨v, (T.setVm vm₁).calling g' mk As.toArray, t, U', L, hT, X', hL, e1, e2, hq, st⟩
  · dsimp only [Pt.U, Pt.locs, Pt.cells, Pt.slots] at X' e1 e2 h1 h2 h3 st hcl
    subst h1; subst h2; subst h3
    exact Or.inr ⟨q, (T.setVm vm₁).calling g' mk As.toArray, t, U', L, E, ce, hT, X', hL, e1, e2, hq, hce, hcv, vx_cls hW₁ hcl, st⟩
end
end VXH
theorem vx_ofWH {l : Launch} {y : MethodName} {ws ws' : List Cond} {rm : Room} {Pc : Array Value → State → Prop} {Qc : Array Value → State → Outcome → State → Prop} {XC : String → State → State → Prop} {mc ms : Nat} {free : Addr → Prop} {cc : ByteArray} {maxL : Nat} {ret : Option FieldType} {hh : List (Nat × Nat × Nat × Nat)}
    (hy : plainName y.cls = true) (hw : ws = Cond.codeWith y cc maxL ret hh :: ws')
    (body : ∀ p e s m args below meth c s₁, BodyLoose p l y (headSpec ws rm) cc maxL ret e s m args below meth c s₁ → c.maxLocals = maxL → Pc args s →
      W p l e (headSpec ws rm).room s m args below meth c s.heap [] 0 0 (vx_MQ below Qc XC args s mc ms free) (entryFrame m args maxL)) : vx_Met l y ws rm Pc Qc XC mc ms free := by
  refine MetFree.of_bodyS (code := cc) (maxLocals := maxL) (ret := ret) hy ?_ ?_
  · intro args s m h hn
    obtain ⟨m9, meth, c, hn9, h1, h2, h3, h4, -, h5, h6, -⟩ := Cond.codeWith_spec (atoms_spec (ws := ws) h _ (by rw [hw]; exact List.mem_cons_self))
    cases hn.symm.trans hn9
    exact ⟨meth, c, h1, h2, h3, h4, h5, h6⟩
  · intro p e s m args below meth c s₁ B hml hP _
    have hh0 : s₁.heap = s.heap := by rw [B.state]; rfl
    obtain ⟨t, a1, o, b1, b2, b3⟩ := body p e s m args below meth c s₁ B hml hP s₁ hh0 (Stand.of_body B)
    exact ⟨t, o, a1, b1, b2, b3⟩
/-! ===== END ===== -/

/-! ===== BEGIN printed: names, fields, word lists, decode rows ===== -/
def RX0 : String := "MuffledTolls$Bell"
def TX0 : u_T := fun k => match k with
  | 0 => ("MuffledTolls$Bell", "hand", "LMuffledTolls$Leather;", true)
  | 1 => ("MuffledTolls$Bell", "back", "LMuffledTolls$Leather;", true)
  | 2 => ("MuffledTolls$Bell", "weight", "I", false)
  | 3 => ("MuffledTolls$Bell", "side", "I", false)
  | 4 => ("MuffledTolls$Bell", "rope", "I", false)
  | 5 => ("MuffledTolls$Bell", "goesOnWith", "I", false)
  | 6 => ("MuffledTolls$Bell", "pause", "I", false)
  | _ => ("MuffledTolls$Bell", "strokes", "I", false)
def tyX0 : Nat → FieldType := fun k => match k with
  | 0 => .object "MuffledTolls$Leather"
  | 1 => .object "MuffledTolls$Leather"
  | 2 => .int
  | 3 => .int
  | 4 => .int
  | 5 => .int
  | 6 => .int
  | _ => .int
abbrev wsX00 : List Cond := u_ws RX0 TX0 8
theorem nmX0 : ∀ a, a < 8 → ∀ b, b < 8 → a ≠ b → (TX0 a).2.1 ≠ (TX0 b).2.1 := by decide +kernel
theorem tyX0_ok : ∀ k, k < 8 → parseFieldDescriptor (TX0 k).2.2.1 = some (tyX0 k) := by decide +kernel
abbrev cX0_init : ByteArray := prog_2_method_1_code
def yX0_init : MethodName := ⟨RX0, "<init>", "(I)V"⟩
abbrev cX0_becomeLike : ByteArray := prog_2_method_2_code
def yX0_becomeLike : MethodName := ⟨RX0, "becomeLike", "(LMuffledTolls$Bell;)V"⟩
abbrev cX0_leather : ByteArray := prog_2_method_3_code
def yX0_leather : MethodName := ⟨RX0, "leather", "(I)LMuffledTolls$Leather;"⟩
abbrev cX0_strokesLeft : ByteArray := prog_2_method_4_code
def yX0_strokesLeft : MethodName := ⟨RX0, "strokesLeft", "(I)I"⟩
abbrev cX0_turn : ByteArray := prog_2_method_5_code
def yX0_turn : MethodName := ⟨RX0, "turn", "()V"⟩
def RX1 : String := "MuffledTolls$Leather"
def TX1 : u_T := fun k => match k with
  | 0 => ("MuffledTolls$Leather", "thick", "I", false)
  | _ => ("MuffledTolls$Leather", "worn", "I", false)
def tyX1 : Nat → FieldType := fun k => match k with
  | 0 => .int
  | _ => .int
abbrev wsX10 : List Cond := u_ws RX1 TX1 2
theorem nmX1 : ∀ a, a < 2 → ∀ b, b < 2 → a ≠ b → (TX1 a).2.1 ≠ (TX1 b).2.1 := by decide +kernel
theorem tyX1_ok : ∀ k, k < 2 → parseFieldDescriptor (TX1 k).2.2.1 = some (tyX1 k) := by decide +kernel
abbrev cX1_init : ByteArray := prog_3_method_1_code
def yX1_init : MethodName := ⟨RX1, "<init>", "()V"⟩
abbrev cX1_becomeLike : ByteArray := prog_3_method_2_code
def yX1_becomeLike : MethodName := ⟨RX1, "becomeLike", "(LMuffledTolls$Leather;)V"⟩
abbrev cX1_renew : ByteArray := prog_3_method_3_code
def yX1_renew : MethodName := ⟨RX1, "renew", "(I)V"⟩
abbrev cX1_reach : ByteArray := prog_3_method_4_code
def yX1_reach : MethodName := ⟨RX1, "reach", "(I)I"⟩
abbrev cX1_wear : ByteArray := prog_3_method_5_code
def yX1_wear : MethodName := ⟨RX1, "wear", "(I)V"⟩
abbrev cX1_strokesLeft : ByteArray := prog_3_method_6_code
def yX1_strokesLeft : MethodName := ⟨RX1, "strokesLeft", "(I)I"⟩
def RX2 : String := "MuffledTolls$Ringer"
def TX2 : u_T := fun k => match k with
  | 0 => ("MuffledTolls$Ringer", "strength", "I", false)
  | 1 => ("MuffledTolls$Ringer", "tired", "I", false)
  | 2 => ("MuffledTolls$Ringer", "bell", "I", false)
  | 3 => ("MuffledTolls$Ringer", "strokes", "I", false)
  | _ => ("MuffledTolls$Ringer", "reliefs", "I", false)
def tyX2 : Nat → FieldType := fun k => match k with
  | 0 => .int
  | 1 => .int
  | 2 => .int
  | 3 => .int
  | _ => .int
abbrev wsX20 : List Cond := u_ws RX2 TX2 5
theorem nmX2 : ∀ a, a < 5 → ∀ b, b < 5 → a ≠ b → (TX2 a).2.1 ≠ (TX2 b).2.1 := by decide +kernel
theorem tyX2_ok : ∀ k, k < 5 → parseFieldDescriptor (TX2 k).2.2.1 = some (tyX2 k) := by decide +kernel
abbrev cX2_init : ByteArray := prog_4_method_1_code
def yX2_init : MethodName := ⟨RX2, "<init>", "()V"⟩
abbrev cX2_becomeLike : ByteArray := prog_4_method_2_code
def yX2_becomeLike : MethodName := ⟨RX2, "becomeLike", "(LMuffledTolls$Ringer;)V"⟩
abbrev cX2_rests : ByteArray := prog_4_method_3_code
def yX2_rests : MethodName := ⟨RX2, "rests", "()Z"⟩
abbrev cX2_canPull : ByteArray := prog_4_method_4_code
def yX2_canPull : MethodName := ⟨RX2, "canPull", "(I)Z"⟩
abbrev cX2_pull : ByteArray := prog_4_method_5_code
def yX2_pull : MethodName := ⟨RX2, "pull", "(I)V"⟩
abbrev cX2_restIfFree : ByteArray := prog_4_method_6_code
def yX2_restIfFree : MethodName := ⟨RX2, "restIfFree", "()V"⟩
abbrev cX2_fact : ByteArray := prog_4_method_7_code
def yX2_fact : MethodName := ⟨RX2, "fact", "(I)I"⟩
def RX3 : String := "MuffledTolls$Toll"
def TX3 : u_T := fun k => match k with
  | 0 => ("MuffledTolls$Toll", "yearsByReach", "[I", true)
  | 1 => ("MuffledTolls$Toll", "bell", "I", false)
  | 2 => ("MuffledTolls$Toll", "kind", "I", false)
  | 3 => ("MuffledTolls$Toll", "age", "I", false)
  | 4 => ("MuffledTolls$Toll", "pace", "I", false)
  | 5 => ("MuffledTolls$Toll", "strokes", "I", false)
  | 6 => ("MuffledTolls$Toll", "loud", "I", false)
  | _ => ("MuffledTolls$Toll", "doneIn", "I", false)
def tyX3 : Nat → FieldType := fun k => match k with
  | 0 => .array .int
  | 1 => .int
  | 2 => .int
  | 3 => .int
  | 4 => .int
  | 5 => .int
  | 6 => .int
  | _ => .int
abbrev wsX30 : List Cond := u_ws RX3 TX3 8
theorem nmX3 : ∀ a, a < 8 → ∀ b, b < 8 → a ≠ b → (TX3 a).2.1 ≠ (TX3 b).2.1 := by decide +kernel
theorem tyX3_ok : ∀ k, k < 8 → parseFieldDescriptor (TX3 k).2.2.1 = some (tyX3 k) := by decide +kernel
abbrev cX3_init : ByteArray := prog_5_method_1_code
def yX3_init : MethodName := ⟨RX3, "<init>", "(Z)V"⟩
abbrev cX3_becomeLike : ByteArray := prog_5_method_2_code
def yX3_becomeLike : MethodName := ⟨RX3, "becomeLike", "(LMuffledTolls$Toll;)V"⟩
abbrev cX3_begin : ByteArray := prog_5_method_3_code
def yX3_begin : MethodName := ⟨RX3, "begin", "(IIII)V"⟩
abbrev cX3_isDone : ByteArray := prog_5_method_4_code
def yX3_isDone : MethodName := ⟨RX3, "isDone", "()Z"⟩
abbrev cX3_tellers : ByteArray := prog_5_method_5_code
def yX3_tellers : MethodName := ⟨RX3, "tellers", "()I"⟩
abbrev cX3_strokesDue : ByteArray := prog_5_method_6_code
def yX3_strokesDue : MethodName := ⟨RX3, "strokesDue", "()I"⟩
abbrev cX3_years : ByteArray := prog_5_method_7_code
def yX3_years : MethodName := ⟨RX3, "years", "()I"⟩
abbrev cX3_sound : ByteArray := prog_5_method_8_code
def yX3_sound : MethodName := ⟨RX3, "sound", "(ZI)V"⟩
abbrev cX3_pauseNow : ByteArray := prog_5_method_9_code
def yX3_pauseNow : MethodName := ⟨RX3, "pauseNow", "()I"⟩
abbrev cX3_yearsCounted : ByteArray := prog_5_method_10_code
def yX3_yearsCounted : MethodName := ⟨RX3, "yearsCounted", "(I)I"⟩
abbrev cX3_state : ByteArray := prog_5_method_11_code
def yX3_state : MethodName := ⟨RX3, "state", "()I"⟩
abbrev cX3_fact : ByteArray := prog_5_method_12_code
def yX3_fact : MethodName := ⟨RX3, "fact", "(I)I"⟩
def RX4 : String := "MuffledTolls$Tower"
def TX4 : u_T := fun k => match k with
  | 0 => ("MuffledTolls$Tower", "bells", "[LMuffledTolls$Bell;", true)
  | 1 => ("MuffledTolls$Tower", "ringers", "[LMuffledTolls$Ringer;", true)
  | 2 => ("MuffledTolls$Tower", "tolls", "[LMuffledTolls$Toll;", true)
  | 3 => ("MuffledTolls$Tower", "minute", "I", false)
  | 4 => ("MuffledTolls$Tower", "ringerCount", "I", false)
  | 5 => ("MuffledTolls$Tower", "tollCount", "I", false)
  | _ => ("MuffledTolls$Tower", "store", "I", false)
def tyX4 : Nat → FieldType := fun k => match k with
  | 0 => .array (.object "MuffledTolls$Bell")
  | 1 => .array (.object "MuffledTolls$Ringer")
  | 2 => .array (.object "MuffledTolls$Toll")
  | 3 => .int
  | 4 => .int
  | 5 => .int
  | _ => .int
abbrev wsX40 : List Cond := u_ws RX4 TX4 7
theorem nmX4 : ∀ a, a < 7 → ∀ b, b < 7 → a ≠ b → (TX4 a).2.1 ≠ (TX4 b).2.1 := by decide +kernel
theorem tyX4_ok : ∀ k, k < 7 → parseFieldDescriptor (TX4 k).2.2.1 = some (tyX4 k) := by decide +kernel
abbrev cX4_init : ByteArray := prog_6_method_1_code
def yX4_init : MethodName := ⟨RX4, "<init>", "(Z)V"⟩
abbrev cX4_becomeLike : ByteArray := prog_6_method_2_code
def yX4_becomeLike : MethodName := ⟨RX4, "becomeLike", "(LMuffledTolls$Tower;)V"⟩
abbrev cX4_addRinger : ByteArray := prog_6_method_3_code
def yX4_addRinger : MethodName := ⟨RX4, "addRinger", "(I)I"⟩
abbrev cX4_addToll : ByteArray := prog_6_method_4_code
def yX4_addToll : MethodName := ⟨RX4, "addToll", "(IIII)I"⟩
abbrev cX4_endToll : ByteArray := prog_6_method_5_code
def yX4_endToll : MethodName := ⟨RX4, "endToll", "(I)V"⟩
abbrev cX4_firstNotDone : ByteArray := prog_6_method_6_code
def yX4_firstNotDone : MethodName := ⟨RX4, "firstNotDone", "(I)I"⟩
abbrev cX4_bringToRope : ByteArray := prog_6_method_7_code
def yX4_bringToRope : MethodName := ⟨RX4, "bringToRope", "(II)V"⟩
abbrev cX4_emptyRope : ByteArray := prog_6_method_8_code
def yX4_emptyRope : MethodName := ⟨RX4, "emptyRope", "(LMuffledTolls$Bell;)V"⟩
abbrev cX4_passMinutes : ByteArray := prog_6_method_9_code
def yX4_passMinutes : MethodName := ⟨RX4, "passMinutes", "(I)I"⟩
abbrev cX4_passTillDone : ByteArray := prog_6_method_10_code
def yX4_passTillDone : MethodName := ⟨RX4, "passTillDone", "(II)I"⟩
abbrev cX4_passMinute : ByteArray := prog_6_method_11_code
def yX4_passMinute : MethodName := ⟨RX4, "passMinute", "()I"⟩
abbrev cX4_goOn : ByteArray := prog_6_method_12_code
def yX4_goOn : MethodName := ⟨RX4, "goOn", "(I)I"⟩
abbrev cX4_findPuller : ByteArray := prog_6_method_13_code
def yX4_findPuller : MethodName := ⟨RX4, "findPuller", "(I)I"⟩
abbrev cX4_leastTiredAtRest : ByteArray := prog_6_method_14_code
def yX4_leastTiredAtRest : MethodName := ⟨RX4, "leastTiredAtRest", "(I)I"⟩
abbrev cX4_strike : ByteArray := prog_6_method_15_code
def yX4_strike : MethodName := ⟨RX4, "strike", "(LMuffledTolls$Bell;LMuffledTolls$Ringer;)V"⟩
abbrev cX4_inAll : ByteArray := prog_6_method_16_code
def yX4_inAll : MethodName := ⟨RX4, "inAll", "(I)I"⟩
abbrev cX4_ringersAtRopes : ByteArray := prog_6_method_17_code
def yX4_ringersAtRopes : MethodName := ⟨RX4, "ringersAtRopes", "()I"⟩
abbrev cX4_tollsDone : ByteArray := prog_6_method_18_code
def yX4_tollsDone : MethodName := ⟨RX4, "tollsDone", "()I"⟩
abbrev cX4_strokesInAll : ByteArray := prog_6_method_19_code
def yX4_strokesInAll : MethodName := ⟨RX4, "strokesInAll", "()I"⟩
abbrev cX4_loudInAll : ByteArray := prog_6_method_20_code
def yX4_loudInAll : MethodName := ⟨RX4, "loudInAll", "()I"⟩
abbrev cX4_leathersOnBells : ByteArray := prog_6_method_21_code
def yX4_leathersOnBells : MethodName := ⟨RX4, "leathersOnBells", "()I"⟩
abbrev cX4_ofBell : ByteArray := prog_6_method_22_code
def yX4_ofBell : MethodName := ⟨RX4, "ofBell", "(II)I"⟩
abbrev cX4_tollsNotDone : ByteArray := prog_6_method_23_code
def yX4_tollsNotDone : MethodName := ⟨RX4, "tollsNotDone", "(I)I"⟩
def RX5 : String := "MuffledTolls"
def TX5 : u_T := fun k => match k with
  | 0 => ("MuffledTolls", "tower", "LMuffledTolls$Tower;", true)
  | _ => ("MuffledTolls", "ahead", "LMuffledTolls$Tower;", true)
def tyX5 : Nat → FieldType := fun k => match k with
  | 0 => .object "MuffledTolls$Tower"
  | _ => .object "MuffledTolls$Tower"
abbrev wsX50 : List Cond := u_ws RX5 TX5 2
theorem nmX5 : ∀ a, a < 2 → ∀ b, b < 2 → a ≠ b → (TX5 a).2.1 ≠ (TX5 b).2.1 := by decide +kernel
theorem tyX5_ok : ∀ k, k < 2 → parseFieldDescriptor (TX5 k).2.2.1 = some (tyX5 k) := by decide +kernel
abbrev cX5_init : ByteArray := prog_1_method_1_code
def yX5_init : MethodName := ⟨RX5, "<init>", "()V"⟩
abbrev cX5_weigh : ByteArray := prog_1_method_2_code
def yX5_weigh : MethodName := ⟨RX5, "weigh", "(II)I"⟩
abbrev cX5_fit : ByteArray := prog_1_method_3_code
def yX5_fit : MethodName := ⟨RX5, "fit", "(III)I"⟩
abbrev cX5_store : ByteArray := prog_1_method_4_code
def yX5_store : MethodName := ⟨RX5, "store", "(I)I"⟩
abbrev cX5_lasts : ByteArray := prog_1_method_5_code
def yX5_lasts : MethodName := ⟨RX5, "lasts", "(II)I"⟩
abbrev cX5_bell : ByteArray := prog_1_method_6_code
def yX5_bell : MethodName := ⟨RX5, "bell", "(II)I"⟩
abbrev cX5_ringer : ByteArray := prog_1_method_7_code
def yX5_ringer : MethodName := ⟨RX5, "ringer", "(I)I"⟩
abbrev cX5_send : ByteArray := prog_1_method_8_code
def yX5_send : MethodName := ⟨RX5, "send", "(II)I"⟩
abbrev cX5_told : ByteArray := prog_1_method_9_code
def yX5_told : MethodName := ⟨RX5, "told", "(II)I"⟩
abbrev cX5_toll : ByteArray := prog_1_method_10_code
def yX5_toll : MethodName := ⟨RX5, "toll", "(IIII)I"⟩
abbrev cX5_stop : ByteArray := prog_1_method_11_code
def yX5_stop : MethodName := ⟨RX5, "stop", "(I)I"⟩
abbrev cX5_about : ByteArray := prog_1_method_12_code
def yX5_about : MethodName := ⟨RX5, "about", "(II)I"⟩
abbrev cX5_heard : ByteArray := prog_1_method_13_code
def yX5_heard : MethodName := ⟨RX5, "heard", "(II)I"⟩
abbrev cX5_count : ByteArray := prog_1_method_14_code
def yX5_count : MethodName := ⟨RX5, "count", "(I)I"⟩
abbrev cX5_pass : ByteArray := prog_1_method_15_code
def yX5_pass : MethodName := ⟨RX5, "pass", "(I)I"⟩
abbrev cX5_ends : ByteArray := prog_1_method_16_code
def yX5_ends : MethodName := ⟨RX5, "ends", "(I)I"⟩
abbrev cX5_foresee : ByteArray := prog_1_method_17_code
def yX5_foresee : MethodName := ⟨RX5, "foresee", "(II)I"⟩
abbrev cX5_choose : ByteArray := prog_1_method_18_code
def yX5_choose : MethodName := ⟨RX5, "choose", "(III)I"⟩
abbrev cX5_mean : ByteArray := prog_1_method_19_code
def yX5_mean : MethodName := ⟨RX5, "mean", "()D"⟩
abbrev cX5_digest : ByteArray := prog_1_method_20_code
def yX5_digest : MethodName := ⟨RX5, "digest", "()J"⟩
abbrev cX5_withBell : ByteArray := prog_1_method_21_code
def yX5_withBell : MethodName := ⟨RX5, "withBell", "(JI)J"⟩
abbrev cX5_withRinger : ByteArray := prog_1_method_22_code
def yX5_withRinger : MethodName := ⟨RX5, "withRinger", "(JLMuffledTolls$Ringer;)J"⟩
abbrev cX5_withToll : ByteArray := prog_1_method_23_code
def yX5_withToll : MethodName := ⟨RX5, "withToll", "(JLMuffledTolls$Toll;)J"⟩
abbrev cX5_needBell : ByteArray := prog_1_method_24_code
def yX5_needBell : MethodName := ⟨RX5, "needBell", "(I)V"⟩
abbrev cX5_needTollOfSuch : ByteArray := prog_1_method_25_code
def yX5_needTollOfSuch : MethodName := ⟨RX5, "needTollOfSuch", "(III)V"⟩
abbrev cX5_needIndex : ByteArray := prog_1_method_26_code
def yX5_needIndex : MethodName := ⟨RX5, "needIndex", "(II)V"⟩
abbrev cX5_needBetween : ByteArray := prog_1_method_27_code
def yX5_needBetween : MethodName := ⟨RX5, "needBetween", "(III)V"⟩
def RX6 : String := "MuffledTollsModel$State"
def TX6 : u_T := fun k => match k with
  | 0 => ("MuffledTollsModel$State", "minute", "I", false)
  | 1 => ("MuffledTollsModel$State", "store", "I", false)
  | 2 => ("MuffledTollsModel$State", "known", "I", false)
  | 3 => ("MuffledTollsModel$State", "weight", "[I", true)
  | 4 => ("MuffledTollsModel$State", "thick", "[I", true)
  | 5 => ("MuffledTollsModel$State", "worn", "[I", true)
  | 6 => ("MuffledTollsModel$State", "side", "[I", true)
  | 7 => ("MuffledTollsModel$State", "rope", "[I", true)
  | 8 => ("MuffledTollsModel$State", "pause", "[I", true)
  | 9 => ("MuffledTollsModel$State", "rung", "[I", true)
  | 10 => ("MuffledTollsModel$State", "tired", "[I", true)
  | 11 => ("MuffledTollsModel$State", "pulls", "[I", true)
  | 12 => ("MuffledTollsModel$State", "reliefs", "[I", true)
  | 13 => ("MuffledTollsModel$State", "strokes", "[I", true)
  | 14 => ("MuffledTollsModel$State", "loud", "[I", true)
  | 15 => ("MuffledTollsModel$State", "done", "[I", true)
  | _ => ("MuffledTollsModel$State", "this$0", "LMuffledTollsModel;", true)
def tyX6 : Nat → FieldType := fun k => match k with
  | 0 => .int
  | 1 => .int
  | 2 => .int
  | 3 => .array .int
  | 4 => .array .int
  | 5 => .array .int
  | 6 => .array .int
  | 7 => .array .int
  | 8 => .array .int
  | 9 => .array .int
  | 10 => .array .int
  | 11 => .array .int
  | 12 => .array .int
  | 13 => .array .int
  | 14 => .array .int
  | 15 => .array .int
  | _ => .object "MuffledTollsModel"
abbrev wsX60 : List Cond := u_ws RX6 TX6 17
theorem nmX6 : ∀ a, a < 17 → ∀ b, b < 17 → a ≠ b → (TX6 a).2.1 ≠ (TX6 b).2.1 := by decide +kernel
theorem tyX6_ok : ∀ k, k < 17 → parseFieldDescriptor (TX6 k).2.2.1 = some (tyX6 k) := by decide +kernel
abbrev cX6_init : ByteArray := prog_9_method_1_code
def yX6_init : MethodName := ⟨RX6, "<init>", "(LMuffledTollsModel;)V"⟩
abbrev cX6_copy : ByteArray := prog_9_method_2_code
def yX6_copy : MethodName := ⟨RX6, "copy", "([I[I)V"⟩
abbrev cX6_become : ByteArray := prog_9_method_3_code
def yX6_become : MethodName := ⟨RX6, "become", "(LMuffledTollsModel$State;)V"⟩
abbrev cX6_come : ByteArray := prog_9_method_4_code
def yX6_come : MethodName := ⟨RX6, "come", "()I"⟩
abbrev cX6_first : ByteArray := prog_9_method_5_code
def yX6_first : MethodName := ⟨RX6, "first", "(I)I"⟩
abbrev cX6_bellOf : ByteArray := prog_9_method_6_code
def yX6_bellOf : MethodName := ⟨RX6, "bellOf", "(I)I"⟩
abbrev cX6_canPull : ByteArray := prog_9_method_7_code
def yX6_canPull : MethodName := ⟨RX6, "canPull", "(II)Z"⟩
abbrev cX6_isManned : ByteArray := prog_9_method_8_code
def yX6_isManned : MethodName := ⟨RX6, "isManned", "(I)Z"⟩
abbrev cX6_stroke : ByteArray := prog_9_method_9_code
def yX6_stroke : MethodName := ⟨RX6, "stroke", "(IIZ)V"⟩
abbrev cX6_bare : ByteArray := prog_9_method_10_code
def yX6_bare : MethodName := ⟨RX6, "bare", "(II)V"⟩
abbrev cX6_end : ByteArray := prog_9_method_11_code
def yX6_end : MethodName := ⟨RX6, "end", "(I)V"⟩
abbrev cX6_pass : ByteArray := prog_9_method_12_code
def yX6_pass : MethodName := ⟨RX6, "pass", "(Z)I"⟩
abbrev cX6_counted : ByteArray := prog_9_method_13_code
def yX6_counted : MethodName := ⟨RX6, "counted", "(I)I"⟩
def RX7 : String := "MuffledTollsModel"
def TX7 : u_T := fun k => match k with
  | 0 => ("MuffledTollsModel", "thrown", "I", false)
  | 1 => ("MuffledTollsModel", "ringers", "I", false)
  | 2 => ("MuffledTollsModel", "strength", "[I", true)
  | 3 => ("MuffledTollsModel", "tolls", "I", false)
  | 4 => ("MuffledTollsModel", "belongs", "[I", true)
  | 5 => ("MuffledTollsModel", "kind", "[I", true)
  | 6 => ("MuffledTollsModel", "age", "[I", true)
  | 7 => ("MuffledTollsModel", "pace", "[I", true)
  | 8 => ("MuffledTollsModel", "reached", "[I", true)
  | 9 => ("MuffledTollsModel", "s", "LMuffledTollsModel$State;", true)
  | _ => ("MuffledTollsModel", "ahead", "LMuffledTollsModel$State;", true)
def tyX7 : Nat → FieldType := fun k => match k with
  | 0 => .int
  | 1 => .int
  | 2 => .array .int
  | 3 => .int
  | 4 => .array .int
  | 5 => .array .int
  | 6 => .array .int
  | 7 => .array .int
  | 8 => .array .int
  | 9 => .object "MuffledTollsModel$State"
  | _ => .object "MuffledTollsModel$State"
abbrev wsX70 : List Cond := u_ws RX7 TX7 11
theorem nmX7 : ∀ a, a < 11 → ∀ b, b < 11 → a ≠ b → (TX7 a).2.1 ≠ (TX7 b).2.1 := by decide +kernel
theorem tyX7_ok : ∀ k, k < 11 → parseFieldDescriptor (TX7 k).2.2.1 = some (tyX7 k) := by decide +kernel
abbrev cX7_init : ByteArray := prog_8_method_1_code
def yX7_init : MethodName := ⟨RX7, "<init>", "()V"⟩
abbrev cX7_thrown : ByteArray := prog_8_method_2_code
def yX7_thrown : MethodName := ⟨RX7, "thrown", "()I"⟩
abbrev cX7_no : ByteArray := prog_8_method_3_code
def yX7_no : MethodName := ⟨RX7, "no", "(I)I"⟩
abbrev cX7_isIn : ByteArray := prog_8_method_4_code
def yX7_isIn : MethodName := ⟨RX7, "isIn", "(III)Z"⟩
abbrev cX7_isBell : ByteArray := prog_8_method_5_code
def yX7_isBell : MethodName := ⟨RX7, "isBell", "(I)Z"⟩
abbrev cX7_isSide : ByteArray := prog_8_method_6_code
def yX7_isSide : MethodName := ⟨RX7, "isSide", "(I)Z"⟩
abbrev cX7_isRinger : ByteArray := prog_8_method_7_code
def yX7_isRinger : MethodName := ⟨RX7, "isRinger", "(I)Z"⟩
abbrev cX7_isToll : ByteArray := prog_8_method_8_code
def yX7_isToll : MethodName := ⟨RX7, "isToll", "(I)Z"⟩
abbrev cX7_isKind : ByteArray := prog_8_method_9_code
def yX7_isKind : MethodName := ⟨RX7, "isKind", "(III)Z"⟩
abbrev cX7_tellers : ByteArray := prog_8_method_10_code
def yX7_tellers : MethodName := ⟨RX7, "tellers", "(I)I"⟩
abbrev cX7_all : ByteArray := prog_8_method_11_code
def yX7_all : MethodName := ⟨RX7, "all", "(I)I"⟩
abbrev cX7_weigh : ByteArray := prog_8_method_12_code
def yX7_weigh : MethodName := ⟨RX7, "weigh", "(II)I"⟩
abbrev cX7_fit : ByteArray := prog_8_method_13_code
def yX7_fit : MethodName := ⟨RX7, "fit", "(III)I"⟩
abbrev cX7_store : ByteArray := prog_8_method_14_code
def yX7_store : MethodName := ⟨RX7, "store", "(I)I"⟩
abbrev cX7_lastsOn : ByteArray := prog_8_method_15_code
def yX7_lastsOn : MethodName := ⟨RX7, "lastsOn", "(II)I"⟩
abbrev cX7_lasts : ByteArray := prog_8_method_16_code
def yX7_lasts : MethodName := ⟨RX7, "lasts", "(II)I"⟩
abbrev cX7_bellTold : ByteArray := prog_8_method_17_code
def yX7_bellTold : MethodName := ⟨RX7, "bellTold", "(II)I"⟩
abbrev cX7_bell : ByteArray := prog_8_method_18_code
def yX7_bell : MethodName := ⟨RX7, "bell", "(II)I"⟩
abbrev cX7_ringer : ByteArray := prog_8_method_19_code
def yX7_ringer : MethodName := ⟨RX7, "ringer", "(I)I"⟩
abbrev cX7_send : ByteArray := prog_8_method_20_code
def yX7_send : MethodName := ⟨RX7, "send", "(II)I"⟩
abbrev cX7_ringerTold : ByteArray := prog_8_method_21_code
def yX7_ringerTold : MethodName := ⟨RX7, "ringerTold", "(II)I"⟩
abbrev cX7_told : ByteArray := prog_8_method_22_code
def yX7_told : MethodName := ⟨RX7, "told", "(II)I"⟩
abbrev cX7_tell : ByteArray := prog_8_method_23_code
def yX7_tell : MethodName := ⟨RX7, "tell", "(IIIII)V"⟩
abbrev cX7_toll : ByteArray := prog_8_method_24_code
def yX7_toll : MethodName := ⟨RX7, "toll", "(IIII)I"⟩
abbrev cX7_stop : ByteArray := prog_8_method_25_code
def yX7_stop : MethodName := ⟨RX7, "stop", "(I)I"⟩
abbrev cX7_tollTold : ByteArray := prog_8_method_26_code
def yX7_tollTold : MethodName := ⟨RX7, "tollTold", "(II)I"⟩
abbrev cX7_about : ByteArray := prog_8_method_27_code
def yX7_about : MethodName := ⟨RX7, "about", "(II)I"⟩
abbrev cX7_heardOf : ByteArray := prog_8_method_28_code
def yX7_heardOf : MethodName := ⟨RX7, "heardOf", "(II)I"⟩
abbrev cX7_heard : ByteArray := prog_8_method_29_code
def yX7_heard : MethodName := ⟨RX7, "heard", "(II)I"⟩
abbrev cX7_count : ByteArray := prog_8_method_30_code
def yX7_count : MethodName := ⟨RX7, "count", "(I)I"⟩
abbrev cX7_pass : ByteArray := prog_8_method_31_code
def yX7_pass : MethodName := ⟨RX7, "pass", "(I)I"⟩
abbrev cX7_endOf : ByteArray := prog_8_method_32_code
def yX7_endOf : MethodName := ⟨RX7, "endOf", "(I)I"⟩
abbrev cX7_ends : ByteArray := prog_8_method_33_code
def yX7_ends : MethodName := ⟨RX7, "ends", "(I)I"⟩
abbrev cX7_foresee : ByteArray := prog_8_method_34_code
def yX7_foresee : MethodName := ⟨RX7, "foresee", "(II)I"⟩
abbrev cX7_choose : ByteArray := prog_8_method_35_code
def yX7_choose : MethodName := ⟨RX7, "choose", "(III)I"⟩
abbrev cX7_mean : ByteArray := prog_8_method_36_code
def yX7_mean : MethodName := ⟨RX7, "mean", "()D"⟩
abbrev cX7_digest : ByteArray := prog_8_method_37_code
def yX7_digest : MethodName := ⟨RX7, "digest", "()J"⟩
def RJ9 : String := "java/lang/Math"
def TJ9 : u_T := fun k => match k with
  | _ => ("", "", "", false)
def tyJ9 : Nat → FieldType := fun k => match k with
  | _ => .int
abbrev wsJ90 : List Cond := u_ws RJ9 TJ9 0
theorem nmJ9 : ∀ a, a < 0 → ∀ b, b < 0 → a ≠ b → (TJ9 a).2.1 ≠ (TJ9 b).2.1 := by decide +kernel
theorem tyJ9_ok : ∀ k, k < 0 → parseFieldDescriptor (TJ9 k).2.2.1 = some (tyJ9 k) := by decide +kernel
abbrev cJ9_max_7cf53 : ByteArray := prog_14_method_65_code
def yJ9_max_7cf53 : MethodName := ⟨RJ9, "max", "(II)I"⟩
abbrev cJ9_min_7cf53 : ByteArray := prog_14_method_69_code
def yJ9_min_7cf53 : MethodName := ⟨RJ9, "min", "(II)I"⟩
def RJ0 : String := "java/lang/String"
def TJ0 : u_T := fun k => match k with
  | _ => ("", "", "", false)
def tyJ0 : Nat → FieldType := fun k => match k with
  | _ => .int
abbrev wsJ00 : List Cond := u_ws RJ0 TJ0 0
theorem nmJ0 : ∀ a, a < 0 → ∀ b, b < 0 → a ≠ b → (TJ0 a).2.1 ≠ (TJ0 b).2.1 := by decide +kernel
theorem tyJ0_ok : ∀ k, k < 0 → parseFieldDescriptor (TJ0 k).2.2.1 = some (tyJ0 k) := by decide +kernel
def RJ10 : String := "java/lang/System"
def TJ10 : u_T := fun k => match k with
  | _ => ("", "", "", false)
def tyJ10 : Nat → FieldType := fun k => match k with
  | _ => .int
abbrev wsJ100 : List Cond := u_ws RJ10 TJ10 0
theorem nmJ10 : ∀ a, a < 0 → ∀ b, b < 0 → a ≠ b → (TJ10 a).2.1 ≠ (TJ10 b).2.1 := by decide +kernel
theorem tyJ10_ok : ∀ k, k < 0 → parseFieldDescriptor (TJ10 k).2.2.1 = some (tyJ10 k) := by decide +kernel
def RL : String := "MuffledTollsLaw"
abbrev cL_weigh : ByteArray := method_3_code
def yL_weigh : MethodName := ⟨RL, "weigh", "(LMuffledTolls;II[J)I"⟩
abbrev cL_fit : ByteArray := method_4_code
def yL_fit : MethodName := ⟨RL, "fit", "(LMuffledTolls;III[J)I"⟩
abbrev cL_store : ByteArray := method_5_code
def yL_store : MethodName := ⟨RL, "store", "(LMuffledTolls;I[J)I"⟩
abbrev cL_lasts : ByteArray := method_6_code
def yL_lasts : MethodName := ⟨RL, "lasts", "(LMuffledTolls;II[J)I"⟩
abbrev cL_bell : ByteArray := method_7_code
def yL_bell : MethodName := ⟨RL, "bell", "(LMuffledTolls;II[J)I"⟩
abbrev cL_ringer : ByteArray := method_8_code
def yL_ringer : MethodName := ⟨RL, "ringer", "(LMuffledTolls;I[J)I"⟩
abbrev cL_send : ByteArray := method_9_code
def yL_send : MethodName := ⟨RL, "send", "(LMuffledTolls;II[J)I"⟩
abbrev cL_told : ByteArray := method_10_code
def yL_told : MethodName := ⟨RL, "told", "(LMuffledTolls;II[J)I"⟩
abbrev cL_toll : ByteArray := method_11_code
def yL_toll : MethodName := ⟨RL, "toll", "(LMuffledTolls;IIII[J)I"⟩
abbrev cL_stop : ByteArray := method_12_code
def yL_stop : MethodName := ⟨RL, "stop", "(LMuffledTolls;I[J)I"⟩
abbrev cL_about : ByteArray := method_13_code
def yL_about : MethodName := ⟨RL, "about", "(LMuffledTolls;II[J)I"⟩
abbrev cL_heard : ByteArray := method_14_code
def yL_heard : MethodName := ⟨RL, "heard", "(LMuffledTolls;II[J)I"⟩
abbrev cL_count : ByteArray := method_15_code
def yL_count : MethodName := ⟨RL, "count", "(LMuffledTolls;I[J)I"⟩
abbrev cL_pass : ByteArray := method_16_code
def yL_pass : MethodName := ⟨RL, "pass", "(LMuffledTolls;I[J)I"⟩
abbrev cL_ends : ByteArray := method_17_code
def yL_ends : MethodName := ⟨RL, "ends", "(LMuffledTolls;I[J)I"⟩
abbrev cL_foresee : ByteArray := method_18_code
def yL_foresee : MethodName := ⟨RL, "foresee", "(LMuffledTolls;II[J)I"⟩
abbrev cL_choose : ByteArray := method_19_code
def yL_choose : MethodName := ⟨RL, "choose", "(LMuffledTolls;III[J)I"⟩
abbrev cL_law : ByteArray := code
def yL_law : MethodName := ⟨RL, "law", "([I)Z"⟩
def wsJ9_max_7cf53 : List Cond := .code yJ9_max_7cf53 cJ9_max_7cf53 2 (some .int) :: ([])
def wsJ9_min_7cf53 : List Cond := .code yJ9_min_7cf53 cJ9_min_7cf53 2 (some .int) :: ([])
theorem dJ9_max_7cf53_0 : decode cJ9_max_7cf53 0 = .ok (.iload_n 0, 1) := by decide +kernel
theorem dJ9_max_7cf53_1 : decode cJ9_max_7cf53 1 = .ok (.iload_n 1, 1) := by decide +kernel
theorem dJ9_max_7cf53_2 : decode cJ9_max_7cf53 2 = .ok (.if_icmp .lt 7, 3) := by decide +kernel
theorem dJ9_max_7cf53_5 : decode cJ9_max_7cf53 5 = .ok (.iload_n 0, 1) := by decide +kernel
theorem dJ9_max_7cf53_6 : decode cJ9_max_7cf53 6 = .ok (.goto 4, 3) := by decide +kernel
theorem dJ9_max_7cf53_9 : decode cJ9_max_7cf53 9 = .ok (.iload_n 1, 1) := by decide +kernel
theorem dJ9_max_7cf53_10 : decode cJ9_max_7cf53 10 = .ok (.ireturn, 1) := by decide +kernel
theorem dJ9_min_7cf53_0 : decode cJ9_min_7cf53 0 = .ok (.iload_n 0, 1) := by decide +kernel
theorem dJ9_min_7cf53_1 : decode cJ9_min_7cf53 1 = .ok (.iload_n 1, 1) := by decide +kernel
theorem dJ9_min_7cf53_2 : decode cJ9_min_7cf53 2 = .ok (.if_icmp .gt 7, 3) := by decide +kernel
theorem dJ9_min_7cf53_5 : decode cJ9_min_7cf53 5 = .ok (.iload_n 0, 1) := by decide +kernel
theorem dJ9_min_7cf53_6 : decode cJ9_min_7cf53 6 = .ok (.goto 4, 3) := by decide +kernel
theorem dJ9_min_7cf53_9 : decode cJ9_min_7cf53 9 = .ok (.iload_n 1, 1) := by decide +kernel
theorem dJ9_min_7cf53_10 : decode cJ9_min_7cf53 10 = .ok (.ireturn, 1) := by decide +kernel
abbrev vwCl : List vw_C := [(RX0, TX0, 8), (RX1, TX1, 2), (RX2, TX2, 5), (RX3, TX3, 8), (RX4, TX4, 7), (RX5, TX5, 2), (RX6, TX6, 17), (RX7, TX7, 11)]
end
section
theorem dX0_init_0 : decode cX0_init 0 = .ok (.aload_n 0, 1) := by decide +kernel
theorem dX0_init_1 : decode cX0_init 1 = .ok (.invokespecial 3, 3) := by decide +kernel
theorem dX0_init_4 : decode cX0_init 4 = .ok (.aload_n 0, 1) := by decide +kernel
theorem dX0_init_5 : decode cX0_init 5 = .ok (.new 9, 3) := by decide +kernel
theorem dX0_init_8 : decode cX0_init 8 = .ok (.dup, 1) := by decide +kernel
theorem dX0_init_9 : decode cX0_init 9 = .ok (.invokespecial 11, 3) := by decide +kernel
theorem dX0_init_12 : decode cX0_init 12 = .ok (.putfield 12, 3) := by decide +kernel
theorem dX0_init_15 : decode cX0_init 15 = .ok (.aload_n 0, 1) := by decide +kernel
theorem dX0_init_16 : decode cX0_init 16 = .ok (.new 9, 3) := by decide +kernel
theorem dX0_init_19 : decode cX0_init 19 = .ok (.dup, 1) := by decide +kernel
theorem dX0_init_20 : decode cX0_init 20 = .ok (.invokespecial 11, 3) := by decide +kernel
theorem dX0_init_23 : decode cX0_init 23 = .ok (.putfield 18, 3) := by decide +kernel
theorem dX0_init_26 : decode cX0_init 26 = .ok (.aload_n 0, 1) := by decide +kernel
theorem dX0_init_27 : decode cX0_init 27 = .ok (.iconst (-1), 1) := by decide +kernel
theorem dX0_init_28 : decode cX0_init 28 = .ok (.putfield 21, 3) := by decide +kernel
theorem dX0_init_31 : decode cX0_init 31 = .ok (.aload_n 0, 1) := by decide +kernel
theorem dX0_init_32 : decode cX0_init 32 = .ok (.iconst (-1), 1) := by decide +kernel
theorem dX0_init_33 : decode cX0_init 33 = .ok (.putfield 25, 3) := by decide +kernel
theorem dX0_init_36 : decode cX0_init 36 = .ok (.aload_n 0, 1) := by decide +kernel
theorem dX0_init_37 : decode cX0_init 37 = .ok (.iload_n 1, 1) := by decide +kernel
theorem dX0_init_38 : decode cX0_init 38 = .ok (.putfield 28, 3) := by decide +kernel
theorem dX0_init_41 : decode cX0_init 41 = .ok (.return_, 1) := by decide +kernel
theorem dX0_becomeLike_0 : decode cX0_becomeLike 0 = .ok (.aload_n 0, 1) := by decide +kernel
theorem dX0_becomeLike_1 : decode cX0_becomeLike 1 = .ok (.getfield 12, 3) := by decide +kernel
theorem dX0_becomeLike_4 : decode cX0_becomeLike 4 = .ok (.aload_n 1, 1) := by decide +kernel
theorem dX0_becomeLike_5 : decode cX0_becomeLike 5 = .ok (.getfield 12, 3) := by decide +kernel
theorem dX0_becomeLike_8 : decode cX0_becomeLike 8 = .ok (.invokevirtual 31, 3) := by decide +kernel
theorem dX0_becomeLike_11 : decode cX0_becomeLike 11 = .ok (.aload_n 0, 1) := by decide +kernel
theorem dX0_becomeLike_12 : decode cX0_becomeLike 12 = .ok (.getfield 18, 3) := by decide +kernel
theorem dX0_becomeLike_15 : decode cX0_becomeLike 15 = .ok (.aload_n 1, 1) := by decide +kernel
theorem dX0_becomeLike_16 : decode cX0_becomeLike 16 = .ok (.getfield 18, 3) := by decide +kernel
theorem dX0_becomeLike_19 : decode cX0_becomeLike 19 = .ok (.invokevirtual 31, 3) := by decide +kernel
theorem dX0_becomeLike_22 : decode cX0_becomeLike 22 = .ok (.aload_n 0, 1) := by decide +kernel
theorem dX0_becomeLike_23 : decode cX0_becomeLike 23 = .ok (.aload_n 1, 1) := by decide +kernel
theorem dX0_becomeLike_24 : decode cX0_becomeLike 24 = .ok (.getfield 28, 3) := by decide +kernel
theorem dX0_becomeLike_27 : decode cX0_becomeLike 27 = .ok (.putfield 28, 3) := by decide +kernel
theorem dX0_becomeLike_30 : decode cX0_becomeLike 30 = .ok (.aload_n 0, 1) := by decide +kernel
theorem dX0_becomeLike_31 : decode cX0_becomeLike 31 = .ok (.aload_n 1, 1) := by decide +kernel
theorem dX0_becomeLike_32 : decode cX0_becomeLike 32 = .ok (.getfield 35, 3) := by decide +kernel
theorem dX0_becomeLike_35 : decode cX0_becomeLike 35 = .ok (.putfield 35, 3) := by decide +kernel
theorem dX0_becomeLike_38 : decode cX0_becomeLike 38 = .ok (.aload_n 0, 1) := by decide +kernel
theorem dX0_becomeLike_39 : decode cX0_becomeLike 39 = .ok (.aload_n 1, 1) := by decide +kernel
theorem dX0_becomeLike_40 : decode cX0_becomeLike 40 = .ok (.getfield 21, 3) := by decide +kernel
theorem dX0_becomeLike_43 : decode cX0_becomeLike 43 = .ok (.putfield 21, 3) := by decide +kernel
theorem dX0_becomeLike_46 : decode cX0_becomeLike 46 = .ok (.aload_n 0, 1) := by decide +kernel
theorem dX0_becomeLike_47 : decode cX0_becomeLike 47 = .ok (.aload_n 1, 1) := by decide +kernel
theorem dX0_becomeLike_48 : decode cX0_becomeLike 48 = .ok (.getfield 25, 3) := by decide +kernel
theorem dX0_becomeLike_51 : decode cX0_becomeLike 51 = .ok (.putfield 25, 3) := by decide +kernel
theorem dX0_becomeLike_54 : decode cX0_becomeLike 54 = .ok (.aload_n 0, 1) := by decide +kernel
theorem dX0_becomeLike_55 : decode cX0_becomeLike 55 = .ok (.aload_n 1, 1) := by decide +kernel
theorem dX0_becomeLike_56 : decode cX0_becomeLike 56 = .ok (.getfield 38, 3) := by decide +kernel
theorem dX0_becomeLike_59 : decode cX0_becomeLike 59 = .ok (.putfield 38, 3) := by decide +kernel
theorem dX0_becomeLike_62 : decode cX0_becomeLike 62 = .ok (.aload_n 0, 1) := by decide +kernel
theorem dX0_becomeLike_63 : decode cX0_becomeLike 63 = .ok (.aload_n 1, 1) := by decide +kernel
theorem dX0_becomeLike_64 : decode cX0_becomeLike 64 = .ok (.getfield 41, 3) := by decide +kernel
theorem dX0_becomeLike_67 : decode cX0_becomeLike 67 = .ok (.putfield 41, 3) := by decide +kernel
theorem dX0_becomeLike_70 : decode cX0_becomeLike 70 = .ok (.return_, 1) := by decide +kernel
theorem dX0_leather_0 : decode cX0_leather 0 = .ok (.iload_n 1, 1) := by decide +kernel
theorem dX0_leather_1 : decode cX0_leather 1 = .ok (.ifCond .ne 10, 3) := by decide +kernel
theorem dX0_leather_4 : decode cX0_leather 4 = .ok (.aload_n 0, 1) := by decide +kernel
theorem dX0_leather_5 : decode cX0_leather 5 = .ok (.getfield 12, 3) := by decide +kernel
theorem dX0_leather_8 : decode cX0_leather 8 = .ok (.goto 7, 3) := by decide +kernel
theorem dX0_leather_11 : decode cX0_leather 11 = .ok (.aload_n 0, 1) := by decide +kernel
theorem dX0_leather_12 : decode cX0_leather 12 = .ok (.getfield 18, 3) := by decide +kernel
theorem dX0_leather_15 : decode cX0_leather 15 = .ok (.areturn, 1) := by decide +kernel
theorem dX0_strokesLeft_0 : decode cX0_strokesLeft 0 = .ok (.aload_n 0, 1) := by decide +kernel
theorem dX0_strokesLeft_1 : decode cX0_strokesLeft 1 = .ok (.iload_n 1, 1) := by decide +kernel
theorem dX0_strokesLeft_2 : decode cX0_strokesLeft 2 = .ok (.invokevirtual 44, 3) := by decide +kernel
theorem dX0_strokesLeft_5 : decode cX0_strokesLeft 5 = .ok (.aload_n 0, 1) := by decide +kernel
theorem dX0_strokesLeft_6 : decode cX0_strokesLeft 6 = .ok (.getfield 28, 3) := by decide +kernel
theorem dX0_strokesLeft_9 : decode cX0_strokesLeft 9 = .ok (.invokevirtual 48, 3) := by decide +kernel
theorem dX0_strokesLeft_12 : decode cX0_strokesLeft 12 = .ok (.ireturn, 1) := by decide +kernel
theorem dX0_turn_0 : decode cX0_turn 0 = .ok (.aload_n 0, 1) := by decide +kernel
theorem dX0_turn_1 : decode cX0_turn 1 = .ok (.iconst 1, 1) := by decide +kernel
theorem dX0_turn_2 : decode cX0_turn 2 = .ok (.aload_n 0, 1) := by decide +kernel
theorem dX0_turn_3 : decode cX0_turn 3 = .ok (.getfield 35, 3) := by decide +kernel
theorem dX0_turn_6 : decode cX0_turn 6 = .ok (.isub, 1) := by decide +kernel
theorem dX0_turn_7 : decode cX0_turn 7 = .ok (.putfield 35, 3) := by decide +kernel
theorem dX0_turn_10 : decode cX0_turn 10 = .ok (.aload_n 0, 1) := by decide +kernel
theorem dX0_turn_11 : decode cX0_turn 11 = .ok (.dup, 1) := by decide +kernel
theorem dX0_turn_12 : decode cX0_turn 12 = .ok (.getfield 41, 3) := by decide +kernel
theorem dX0_turn_15 : decode cX0_turn 15 = .ok (.iconst 1, 1) := by decide +kernel
theorem dX0_turn_16 : decode cX0_turn 16 = .ok (.iadd, 1) := by decide +kernel
theorem dX0_turn_17 : decode cX0_turn 17 = .ok (.putfield 41, 3) := by decide +kernel
theorem dX0_turn_20 : decode cX0_turn 20 = .ok (.return_, 1) := by decide +kernel
theorem dX1_init_0 : decode cX1_init 0 = .ok (.aload_n 0, 1) := by decide +kernel
theorem dX1_init_1 : decode cX1_init 1 = .ok (.invokespecial 1, 3) := by decide +kernel
theorem dX1_init_4 : decode cX1_init 4 = .ok (.return_, 1) := by decide +kernel
theorem dX1_becomeLike_0 : decode cX1_becomeLike 0 = .ok (.aload_n 0, 1) := by decide +kernel
theorem dX1_becomeLike_1 : decode cX1_becomeLike 1 = .ok (.aload_n 1, 1) := by decide +kernel
theorem dX1_becomeLike_2 : decode cX1_becomeLike 2 = .ok (.getfield 7, 3) := by decide +kernel
theorem dX1_becomeLike_5 : decode cX1_becomeLike 5 = .ok (.putfield 7, 3) := by decide +kernel
theorem dX1_becomeLike_8 : decode cX1_becomeLike 8 = .ok (.aload_n 0, 1) := by decide +kernel
theorem dX1_becomeLike_9 : decode cX1_becomeLike 9 = .ok (.aload_n 1, 1) := by decide +kernel
theorem dX1_becomeLike_10 : decode cX1_becomeLike 10 = .ok (.getfield 13, 3) := by decide +kernel
theorem dX1_becomeLike_13 : decode cX1_becomeLike 13 = .ok (.putfield 13, 3) := by decide +kernel
theorem dX1_becomeLike_16 : decode cX1_becomeLike 16 = .ok (.return_, 1) := by decide +kernel
theorem dX1_renew_0 : decode cX1_renew 0 = .ok (.aload_n 0, 1) := by decide +kernel
theorem dX1_renew_1 : decode cX1_renew 1 = .ok (.iload_n 1, 1) := by decide +kernel
theorem dX1_renew_2 : decode cX1_renew 2 = .ok (.putfield 7, 3) := by decide +kernel
theorem dX1_renew_5 : decode cX1_renew 5 = .ok (.aload_n 0, 1) := by decide +kernel
theorem dX1_renew_6 : decode cX1_renew 6 = .ok (.iconst 0, 1) := by decide +kernel
theorem dX1_renew_7 : decode cX1_renew 7 = .ok (.putfield 13, 3) := by decide +kernel
theorem dX1_renew_10 : decode cX1_renew 10 = .ok (.return_, 1) := by decide +kernel
theorem dX1_reach_0 : decode cX1_reach 0 = .ok (.aload_n 0, 1) := by decide +kernel
theorem dX1_reach_1 : decode cX1_reach 1 = .ok (.getfield 7, 3) := by decide +kernel
theorem dX1_reach_4 : decode cX1_reach 4 = .ok (.ifCond .le 17, 3) := by decide +kernel
theorem dX1_reach_7 : decode cX1_reach 7 = .ok (.bipush 10, 2) := by decide +kernel
theorem dX1_reach_9 : decode cX1_reach 9 = .ok (.iload_n 1, 1) := by decide +kernel
theorem dX1_reach_10 : decode cX1_reach 10 = .ok (.imul, 1) := by decide +kernel
theorem dX1_reach_11 : decode cX1_reach 11 = .ok (.iconst 1, 1) := by decide +kernel
theorem dX1_reach_12 : decode cX1_reach 12 = .ok (.aload_n 0, 1) := by decide +kernel
theorem dX1_reach_13 : decode cX1_reach 13 = .ok (.getfield 7, 3) := by decide +kernel
theorem dX1_reach_16 : decode cX1_reach 16 = .ok (.iadd, 1) := by decide +kernel
theorem dX1_reach_17 : decode cX1_reach 17 = .ok (.idiv, 1) := by decide +kernel
theorem dX1_reach_18 : decode cX1_reach 18 = .ok (.goto 7, 3) := by decide +kernel
theorem dX1_reach_21 : decode cX1_reach 21 = .ok (.bipush 10, 2) := by decide +kernel
theorem dX1_reach_23 : decode cX1_reach 23 = .ok (.iload_n 1, 1) := by decide +kernel
theorem dX1_reach_24 : decode cX1_reach 24 = .ok (.imul, 1) := by decide +kernel
theorem dX1_reach_25 : decode cX1_reach 25 = .ok (.ireturn, 1) := by decide +kernel
theorem dX1_wear_0 : decode cX1_wear 0 = .ok (.aload_n 0, 1) := by decide +kernel
theorem dX1_wear_1 : decode cX1_wear 1 = .ok (.getfield 7, 3) := by decide +kernel
theorem dX1_wear_4 : decode cX1_wear 4 = .ok (.ifCond .ne 4, 3) := by decide +kernel
theorem dX1_wear_7 : decode cX1_wear 7 = .ok (.return_, 1) := by decide +kernel
theorem dX1_wear_8 : decode cX1_wear 8 = .ok (.aload_n 0, 1) := by decide +kernel
theorem dX1_wear_9 : decode cX1_wear 9 = .ok (.dup, 1) := by decide +kernel
theorem dX1_wear_10 : decode cX1_wear 10 = .ok (.getfield 13, 3) := by decide +kernel
theorem dX1_wear_13 : decode cX1_wear 13 = .ok (.iload_n 1, 1) := by decide +kernel
theorem dX1_wear_14 : decode cX1_wear 14 = .ok (.iadd, 1) := by decide +kernel
theorem dX1_wear_15 : decode cX1_wear 15 = .ok (.putfield 13, 3) := by decide +kernel
theorem dX1_wear_18 : decode cX1_wear 18 = .ok (.aload_n 0, 1) := by decide +kernel
theorem dX1_wear_19 : decode cX1_wear 19 = .ok (.getfield 13, 3) := by decide +kernel
theorem dX1_wear_22 : decode cX1_wear 22 = .ok (.bipush 10, 2) := by decide +kernel
theorem dX1_wear_24 : decode cX1_wear 24 = .ok (.aload_n 0, 1) := by decide +kernel
theorem dX1_wear_25 : decode cX1_wear 25 = .ok (.getfield 7, 3) := by decide +kernel
theorem dX1_wear_28 : decode cX1_wear 28 = .ok (.imul, 1) := by decide +kernel
theorem dX1_wear_29 : decode cX1_wear 29 = .ok (.if_icmp .lt 8, 3) := by decide +kernel
theorem dX1_wear_32 : decode cX1_wear 32 = .ok (.aload_n 0, 1) := by decide +kernel
theorem dX1_wear_33 : decode cX1_wear 33 = .ok (.iconst 0, 1) := by decide +kernel
theorem dX1_wear_34 : decode cX1_wear 34 = .ok (.invokevirtual 16, 3) := by decide +kernel
theorem dX1_wear_37 : decode cX1_wear 37 = .ok (.return_, 1) := by decide +kernel
theorem dX1_strokesLeft_0 : decode cX1_strokesLeft 0 = .ok (.aload_n 0, 1) := by decide +kernel
theorem dX1_strokesLeft_1 : decode cX1_strokesLeft 1 = .ok (.getfield 7, 3) := by decide +kernel
theorem dX1_strokesLeft_4 : decode cX1_strokesLeft 4 = .ok (.ifCond .eq 7, 3) := by decide +kernel
theorem dX1_strokesLeft_7 : decode cX1_strokesLeft 7 = .ok (.iload_n 1, 1) := by decide +kernel
theorem dX1_strokesLeft_8 : decode cX1_strokesLeft 8 = .ok (.ifCond .gt 5, 3) := by decide +kernel
theorem dX1_strokesLeft_11 : decode cX1_strokesLeft 11 = .ok (.iconst 0, 1) := by decide +kernel
theorem dX1_strokesLeft_12 : decode cX1_strokesLeft 12 = .ok (.ireturn, 1) := by decide +kernel
theorem dX1_strokesLeft_13 : decode cX1_strokesLeft 13 = .ok (.bipush 10, 2) := by decide +kernel
theorem dX1_strokesLeft_15 : decode cX1_strokesLeft 15 = .ok (.aload_n 0, 1) := by decide +kernel
theorem dX1_strokesLeft_16 : decode cX1_strokesLeft 16 = .ok (.getfield 7, 3) := by decide +kernel
theorem dX1_strokesLeft_19 : decode cX1_strokesLeft 19 = .ok (.imul, 1) := by decide +kernel
theorem dX1_strokesLeft_20 : decode cX1_strokesLeft 20 = .ok (.aload_n 0, 1) := by decide +kernel
theorem dX1_strokesLeft_21 : decode cX1_strokesLeft 21 = .ok (.getfield 13, 3) := by decide +kernel
theorem dX1_strokesLeft_24 : decode cX1_strokesLeft 24 = .ok (.isub, 1) := by decide +kernel
theorem dX1_strokesLeft_25 : decode cX1_strokesLeft 25 = .ok (.iload_n 1, 1) := by decide +kernel
theorem dX1_strokesLeft_26 : decode cX1_strokesLeft 26 = .ok (.iadd, 1) := by decide +kernel
theorem dX1_strokesLeft_27 : decode cX1_strokesLeft 27 = .ok (.iconst 1, 1) := by decide +kernel
theorem dX1_strokesLeft_28 : decode cX1_strokesLeft 28 = .ok (.isub, 1) := by decide +kernel
theorem dX1_strokesLeft_29 : decode cX1_strokesLeft 29 = .ok (.iload_n 1, 1) := by decide +kernel
theorem dX1_strokesLeft_30 : decode cX1_strokesLeft 30 = .ok (.idiv, 1) := by decide +kernel
theorem dX1_strokesLeft_31 : decode cX1_strokesLeft 31 = .ok (.ireturn, 1) := by decide +kernel
theorem dX2_init_0 : decode cX2_init 0 = .ok (.aload_n 0, 1) := by decide +kernel
theorem dX2_init_1 : decode cX2_init 1 = .ok (.invokespecial 3, 3) := by decide +kernel
theorem dX2_init_4 : decode cX2_init 4 = .ok (.aload_n 0, 1) := by decide +kernel
theorem dX2_init_5 : decode cX2_init 5 = .ok (.iconst (-1), 1) := by decide +kernel
theorem dX2_init_6 : decode cX2_init 6 = .ok (.putfield 9, 3) := by decide +kernel
theorem dX2_init_9 : decode cX2_init 9 = .ok (.return_, 1) := by decide +kernel
theorem dX2_becomeLike_0 : decode cX2_becomeLike 0 = .ok (.aload_n 0, 1) := by decide +kernel
theorem dX2_becomeLike_1 : decode cX2_becomeLike 1 = .ok (.aload_n 1, 1) := by decide +kernel
theorem dX2_becomeLike_2 : decode cX2_becomeLike 2 = .ok (.getfield 15, 3) := by decide +kernel
theorem dX2_becomeLike_5 : decode cX2_becomeLike 5 = .ok (.putfield 15, 3) := by decide +kernel
theorem dX2_becomeLike_8 : decode cX2_becomeLike 8 = .ok (.aload_n 0, 1) := by decide +kernel
theorem dX2_becomeLike_9 : decode cX2_becomeLike 9 = .ok (.aload_n 1, 1) := by decide +kernel
theorem dX2_becomeLike_10 : decode cX2_becomeLike 10 = .ok (.getfield 18, 3) := by decide +kernel
theorem dX2_becomeLike_13 : decode cX2_becomeLike 13 = .ok (.putfield 18, 3) := by decide +kernel
theorem dX2_becomeLike_16 : decode cX2_becomeLike 16 = .ok (.aload_n 0, 1) := by decide +kernel
theorem dX2_becomeLike_17 : decode cX2_becomeLike 17 = .ok (.aload_n 1, 1) := by decide +kernel
theorem dX2_becomeLike_18 : decode cX2_becomeLike 18 = .ok (.getfield 9, 3) := by decide +kernel
theorem dX2_becomeLike_21 : decode cX2_becomeLike 21 = .ok (.putfield 9, 3) := by decide +kernel
theorem dX2_becomeLike_24 : decode cX2_becomeLike 24 = .ok (.aload_n 0, 1) := by decide +kernel
theorem dX2_becomeLike_25 : decode cX2_becomeLike 25 = .ok (.aload_n 1, 1) := by decide +kernel
theorem dX2_becomeLike_26 : decode cX2_becomeLike 26 = .ok (.getfield 21, 3) := by decide +kernel
theorem dX2_becomeLike_29 : decode cX2_becomeLike 29 = .ok (.putfield 21, 3) := by decide +kernel
theorem dX2_becomeLike_32 : decode cX2_becomeLike 32 = .ok (.aload_n 0, 1) := by decide +kernel
theorem dX2_becomeLike_33 : decode cX2_becomeLike 33 = .ok (.aload_n 1, 1) := by decide +kernel
theorem dX2_becomeLike_34 : decode cX2_becomeLike 34 = .ok (.getfield 24, 3) := by decide +kernel
theorem dX2_becomeLike_37 : decode cX2_becomeLike 37 = .ok (.putfield 24, 3) := by decide +kernel
theorem dX2_becomeLike_40 : decode cX2_becomeLike 40 = .ok (.return_, 1) := by decide +kernel
theorem dX2_rests_0 : decode cX2_rests 0 = .ok (.aload_n 0, 1) := by decide +kernel
theorem dX2_rests_1 : decode cX2_rests 1 = .ok (.getfield 9, 3) := by decide +kernel
theorem dX2_rests_4 : decode cX2_rests 4 = .ok (.iconst (-1), 1) := by decide +kernel
theorem dX2_rests_5 : decode cX2_rests 5 = .ok (.if_icmp .ne 7, 3) := by decide +kernel
theorem dX2_rests_8 : decode cX2_rests 8 = .ok (.iconst 1, 1) := by decide +kernel
theorem dX2_rests_9 : decode cX2_rests 9 = .ok (.goto 4, 3) := by decide +kernel
theorem dX2_rests_12 : decode cX2_rests 12 = .ok (.iconst 0, 1) := by decide +kernel
theorem dX2_rests_13 : decode cX2_rests 13 = .ok (.ireturn, 1) := by decide +kernel
theorem dX2_canPull_0 : decode cX2_canPull 0 = .ok (.aload_n 0, 1) := by decide +kernel
theorem dX2_canPull_1 : decode cX2_canPull 1 = .ok (.getfield 18, 3) := by decide +kernel
theorem dX2_canPull_4 : decode cX2_canPull 4 = .ok (.iload_n 1, 1) := by decide +kernel
theorem dX2_canPull_5 : decode cX2_canPull 5 = .ok (.iadd, 1) := by decide +kernel
theorem dX2_canPull_6 : decode cX2_canPull 6 = .ok (.bipush 10, 2) := by decide +kernel
theorem dX2_canPull_8 : decode cX2_canPull 8 = .ok (.aload_n 0, 1) := by decide +kernel
theorem dX2_canPull_9 : decode cX2_canPull 9 = .ok (.getfield 15, 3) := by decide +kernel
theorem dX2_canPull_12 : decode cX2_canPull 12 = .ok (.imul, 1) := by decide +kernel
theorem dX2_canPull_13 : decode cX2_canPull 13 = .ok (.if_icmp .gt 7, 3) := by decide +kernel
theorem dX2_canPull_16 : decode cX2_canPull 16 = .ok (.iconst 1, 1) := by decide +kernel
theorem dX2_canPull_17 : decode cX2_canPull 17 = .ok (.goto 4, 3) := by decide +kernel
theorem dX2_canPull_20 : decode cX2_canPull 20 = .ok (.iconst 0, 1) := by decide +kernel
theorem dX2_canPull_21 : decode cX2_canPull 21 = .ok (.ireturn, 1) := by decide +kernel
theorem dX2_pull_0 : decode cX2_pull 0 = .ok (.aload_n 0, 1) := by decide +kernel
theorem dX2_pull_1 : decode cX2_pull 1 = .ok (.dup, 1) := by decide +kernel
theorem dX2_pull_2 : decode cX2_pull 2 = .ok (.getfield 18, 3) := by decide +kernel
theorem dX2_pull_5 : decode cX2_pull 5 = .ok (.iload_n 1, 1) := by decide +kernel
theorem dX2_pull_6 : decode cX2_pull 6 = .ok (.iadd, 1) := by decide +kernel
theorem dX2_pull_7 : decode cX2_pull 7 = .ok (.putfield 18, 3) := by decide +kernel
theorem dX2_pull_10 : decode cX2_pull 10 = .ok (.aload_n 0, 1) := by decide +kernel
theorem dX2_pull_11 : decode cX2_pull 11 = .ok (.dup, 1) := by decide +kernel
theorem dX2_pull_12 : decode cX2_pull 12 = .ok (.getfield 21, 3) := by decide +kernel
theorem dX2_pull_15 : decode cX2_pull 15 = .ok (.iconst 1, 1) := by decide +kernel
theorem dX2_pull_16 : decode cX2_pull 16 = .ok (.iadd, 1) := by decide +kernel
theorem dX2_pull_17 : decode cX2_pull 17 = .ok (.putfield 21, 3) := by decide +kernel
theorem dX2_pull_20 : decode cX2_pull 20 = .ok (.return_, 1) := by decide +kernel
theorem dX2_restIfFree_0 : decode cX2_restIfFree 0 = .ok (.aload_n 0, 1) := by decide +kernel
theorem dX2_restIfFree_1 : decode cX2_restIfFree 1 = .ok (.invokevirtual 27, 3) := by decide +kernel
theorem dX2_restIfFree_4 : decode cX2_restIfFree 4 = .ok (.ifCond .eq 17, 3) := by decide +kernel
theorem dX2_restIfFree_7 : decode cX2_restIfFree 7 = .ok (.aload_n 0, 1) := by decide +kernel
theorem dX2_restIfFree_8 : decode cX2_restIfFree 8 = .ok (.iconst 0, 1) := by decide +kernel
theorem dX2_restIfFree_9 : decode cX2_restIfFree 9 = .ok (.aload_n 0, 1) := by decide +kernel
theorem dX2_restIfFree_10 : decode cX2_restIfFree 10 = .ok (.getfield 18, 3) := by decide +kernel
theorem dX2_restIfFree_13 : decode cX2_restIfFree 13 = .ok (.iconst 2, 1) := by decide +kernel
theorem dX2_restIfFree_14 : decode cX2_restIfFree 14 = .ok (.isub, 1) := by decide +kernel
theorem dX2_restIfFree_15 : decode cX2_restIfFree 15 = .ok (.invokestatic 31, 3) := by decide +kernel
theorem dX2_restIfFree_18 : decode cX2_restIfFree 18 = .ok (.putfield 18, 3) := by decide +kernel
theorem dX2_restIfFree_21 : decode cX2_restIfFree 21 = .ok (.return_, 1) := by decide +kernel
theorem dX2_fact_0 : decode cX2_fact 0 = .ok (.iload_n 1, 1) := by decide +kernel
theorem dX2_fact_1 : decode cX2_fact 1 = .ok (.tableswitch 51 0 3 #[31, 36, 41, 46], 31) := by decide +kernel
theorem dX2_fact_32 : decode cX2_fact 32 = .ok (.aload_n 0, 1) := by decide +kernel
theorem dX2_fact_33 : decode cX2_fact 33 = .ok (.getfield 15, 3) := by decide +kernel
theorem dX2_fact_36 : decode cX2_fact 36 = .ok (.ireturn, 1) := by decide +kernel
theorem dX2_fact_37 : decode cX2_fact 37 = .ok (.aload_n 0, 1) := by decide +kernel
theorem dX2_fact_38 : decode cX2_fact 38 = .ok (.getfield 18, 3) := by decide +kernel
theorem dX2_fact_41 : decode cX2_fact 41 = .ok (.ireturn, 1) := by decide +kernel
theorem dX2_fact_42 : decode cX2_fact 42 = .ok (.aload_n 0, 1) := by decide +kernel
theorem dX2_fact_43 : decode cX2_fact 43 = .ok (.getfield 9, 3) := by decide +kernel
theorem dX2_fact_46 : decode cX2_fact 46 = .ok (.ireturn, 1) := by decide +kernel
theorem dX2_fact_47 : decode cX2_fact 47 = .ok (.aload_n 0, 1) := by decide +kernel
theorem dX2_fact_48 : decode cX2_fact 48 = .ok (.getfield 21, 3) := by decide +kernel
theorem dX2_fact_51 : decode cX2_fact 51 = .ok (.ireturn, 1) := by decide +kernel
theorem dX2_fact_52 : decode cX2_fact 52 = .ok (.aload_n 0, 1) := by decide +kernel
theorem dX2_fact_53 : decode cX2_fact 53 = .ok (.getfield 24, 3) := by decide +kernel
theorem dX2_fact_56 : decode cX2_fact 56 = .ok (.ireturn, 1) := by decide +kernel
theorem dX3_init_0 : decode cX3_init 0 = .ok (.aload_n 0, 1) := by decide +kernel
theorem dX3_init_1 : decode cX3_init 1 = .ok (.invokespecial 3, 3) := by decide +kernel
theorem dX3_init_4 : decode cX3_init 4 = .ok (.aload_n 0, 1) := by decide +kernel
theorem dX3_init_5 : decode cX3_init 5 = .ok (.iconst (-1), 1) := by decide +kernel
theorem dX3_init_6 : decode cX3_init 6 = .ok (.putfield 9, 3) := by decide +kernel
theorem dX3_init_9 : decode cX3_init 9 = .ok (.aload_n 0, 1) := by decide +kernel
theorem dX3_init_10 : decode cX3_init 10 = .ok (.iload_n 1, 1) := by decide +kernel
theorem dX3_init_11 : decode cX3_init 11 = .ok (.ifCond .eq 8, 3) := by decide +kernel
theorem dX3_init_14 : decode cX3_init 14 = .ok (.bipush 91, 2) := by decide +kernel
theorem dX3_init_16 : decode cX3_init 16 = .ok (.goto 4, 3) := by decide +kernel
theorem dX3_init_19 : decode cX3_init 19 = .ok (.iconst 0, 1) := by decide +kernel
theorem dX3_init_20 : decode cX3_init 20 = .ok (.newarray .int, 2) := by decide +kernel
theorem dX3_init_22 : decode cX3_init 22 = .ok (.putfield 15, 3) := by decide +kernel
theorem dX3_init_25 : decode cX3_init 25 = .ok (.return_, 1) := by decide +kernel
theorem dX3_becomeLike_0 : decode cX3_becomeLike 0 = .ok (.aload_n 0, 1) := by decide +kernel
theorem dX3_becomeLike_1 : decode cX3_becomeLike 1 = .ok (.aload_n 1, 1) := by decide +kernel
theorem dX3_becomeLike_2 : decode cX3_becomeLike 2 = .ok (.getfield 19, 3) := by decide +kernel
theorem dX3_becomeLike_5 : decode cX3_becomeLike 5 = .ok (.putfield 19, 3) := by decide +kernel
theorem dX3_becomeLike_8 : decode cX3_becomeLike 8 = .ok (.aload_n 0, 1) := by decide +kernel
theorem dX3_becomeLike_9 : decode cX3_becomeLike 9 = .ok (.aload_n 1, 1) := by decide +kernel
theorem dX3_becomeLike_10 : decode cX3_becomeLike 10 = .ok (.getfield 22, 3) := by decide +kernel
theorem dX3_becomeLike_13 : decode cX3_becomeLike 13 = .ok (.putfield 22, 3) := by decide +kernel
theorem dX3_becomeLike_16 : decode cX3_becomeLike 16 = .ok (.aload_n 0, 1) := by decide +kernel
theorem dX3_becomeLike_17 : decode cX3_becomeLike 17 = .ok (.aload_n 1, 1) := by decide +kernel
theorem dX3_becomeLike_18 : decode cX3_becomeLike 18 = .ok (.getfield 25, 3) := by decide +kernel
theorem dX3_becomeLike_21 : decode cX3_becomeLike 21 = .ok (.putfield 25, 3) := by decide +kernel
theorem dX3_becomeLike_24 : decode cX3_becomeLike 24 = .ok (.aload_n 0, 1) := by decide +kernel
theorem dX3_becomeLike_25 : decode cX3_becomeLike 25 = .ok (.aload_n 1, 1) := by decide +kernel
theorem dX3_becomeLike_26 : decode cX3_becomeLike 26 = .ok (.getfield 28, 3) := by decide +kernel
theorem dX3_becomeLike_29 : decode cX3_becomeLike 29 = .ok (.putfield 28, 3) := by decide +kernel
theorem dX3_becomeLike_32 : decode cX3_becomeLike 32 = .ok (.aload_n 0, 1) := by decide +kernel
theorem dX3_becomeLike_33 : decode cX3_becomeLike 33 = .ok (.aload_n 1, 1) := by decide +kernel
theorem dX3_becomeLike_34 : decode cX3_becomeLike 34 = .ok (.getfield 31, 3) := by decide +kernel
theorem dX3_becomeLike_37 : decode cX3_becomeLike 37 = .ok (.putfield 31, 3) := by decide +kernel
theorem dX3_becomeLike_40 : decode cX3_becomeLike 40 = .ok (.aload_n 0, 1) := by decide +kernel
theorem dX3_becomeLike_41 : decode cX3_becomeLike 41 = .ok (.aload_n 1, 1) := by decide +kernel
theorem dX3_becomeLike_42 : decode cX3_becomeLike 42 = .ok (.getfield 34, 3) := by decide +kernel
theorem dX3_becomeLike_45 : decode cX3_becomeLike 45 = .ok (.putfield 34, 3) := by decide +kernel
theorem dX3_becomeLike_48 : decode cX3_becomeLike 48 = .ok (.aload_n 0, 1) := by decide +kernel
theorem dX3_becomeLike_49 : decode cX3_becomeLike 49 = .ok (.aload_n 1, 1) := by decide +kernel
theorem dX3_becomeLike_50 : decode cX3_becomeLike 50 = .ok (.getfield 9, 3) := by decide +kernel
theorem dX3_becomeLike_53 : decode cX3_becomeLike 53 = .ok (.putfield 9, 3) := by decide +kernel
theorem dX3_becomeLike_56 : decode cX3_becomeLike 56 = .ok (.return_, 1) := by decide +kernel
theorem dX3_begin_0 : decode cX3_begin 0 = .ok (.aload_n 0, 1) := by decide +kernel
theorem dX3_begin_1 : decode cX3_begin 1 = .ok (.iload_n 1, 1) := by decide +kernel
theorem dX3_begin_2 : decode cX3_begin 2 = .ok (.putfield 19, 3) := by decide +kernel
theorem dX3_begin_5 : decode cX3_begin 5 = .ok (.aload_n 0, 1) := by decide +kernel
theorem dX3_begin_6 : decode cX3_begin 6 = .ok (.iload_n 2, 1) := by decide +kernel
theorem dX3_begin_7 : decode cX3_begin 7 = .ok (.putfield 22, 3) := by decide +kernel
theorem dX3_begin_10 : decode cX3_begin 10 = .ok (.aload_n 0, 1) := by decide +kernel
theorem dX3_begin_11 : decode cX3_begin 11 = .ok (.iload_n 3, 1) := by decide +kernel
theorem dX3_begin_12 : decode cX3_begin 12 = .ok (.putfield 25, 3) := by decide +kernel
theorem dX3_begin_15 : decode cX3_begin 15 = .ok (.aload_n 0, 1) := by decide +kernel
theorem dX3_begin_16 : decode cX3_begin 16 = .ok (.iload 4, 2) := by decide +kernel
theorem dX3_begin_18 : decode cX3_begin 18 = .ok (.putfield 28, 3) := by decide +kernel
theorem dX3_begin_21 : decode cX3_begin 21 = .ok (.aload_n 0, 1) := by decide +kernel
theorem dX3_begin_22 : decode cX3_begin 22 = .ok (.iconst 0, 1) := by decide +kernel
theorem dX3_begin_23 : decode cX3_begin 23 = .ok (.putfield 31, 3) := by decide +kernel
theorem dX3_begin_26 : decode cX3_begin 26 = .ok (.aload_n 0, 1) := by decide +kernel
theorem dX3_begin_27 : decode cX3_begin 27 = .ok (.iconst 0, 1) := by decide +kernel
theorem dX3_begin_28 : decode cX3_begin 28 = .ok (.putfield 34, 3) := by decide +kernel
theorem dX3_begin_31 : decode cX3_begin 31 = .ok (.aload_n 0, 1) := by decide +kernel
theorem dX3_begin_32 : decode cX3_begin 32 = .ok (.iconst (-1), 1) := by decide +kernel
theorem dX3_begin_33 : decode cX3_begin 33 = .ok (.putfield 9, 3) := by decide +kernel
theorem dX3_begin_36 : decode cX3_begin 36 = .ok (.return_, 1) := by decide +kernel
theorem dX3_isDone_0 : decode cX3_isDone 0 = .ok (.aload_n 0, 1) := by decide +kernel
theorem dX3_isDone_1 : decode cX3_isDone 1 = .ok (.getfield 9, 3) := by decide +kernel
theorem dX3_isDone_4 : decode cX3_isDone 4 = .ok (.ifCond .lt 7, 3) := by decide +kernel
theorem dX3_isDone_7 : decode cX3_isDone 7 = .ok (.iconst 1, 1) := by decide +kernel
theorem dX3_isDone_8 : decode cX3_isDone 8 = .ok (.goto 4, 3) := by decide +kernel
theorem dX3_isDone_11 : decode cX3_isDone 11 = .ok (.iconst 0, 1) := by decide +kernel
theorem dX3_isDone_12 : decode cX3_isDone 12 = .ok (.ireturn, 1) := by decide +kernel
theorem dX3_tellers_0 : decode cX3_tellers 0 = .ok (.iconst 3, 1) := by decide +kernel
theorem dX3_tellers_1 : decode cX3_tellers 1 = .ok (.aload_n 0, 1) := by decide +kernel
theorem dX3_tellers_2 : decode cX3_tellers 2 = .ok (.getfield 22, 3) := by decide +kernel
theorem dX3_tellers_5 : decode cX3_tellers 5 = .ok (.iconst 1, 1) := by decide +kernel
theorem dX3_tellers_6 : decode cX3_tellers 6 = .ok (.iadd, 1) := by decide +kernel
theorem dX3_tellers_7 : decode cX3_tellers 7 = .ok (.imul, 1) := by decide +kernel
theorem dX3_tellers_8 : decode cX3_tellers 8 = .ok (.ireturn, 1) := by decide +kernel
theorem dX3_strokesDue_0 : decode cX3_strokesDue 0 = .ok (.aload_n 0, 1) := by decide +kernel
theorem dX3_strokesDue_1 : decode cX3_strokesDue 1 = .ok (.invokevirtual 37, 3) := by decide +kernel
theorem dX3_strokesDue_4 : decode cX3_strokesDue 4 = .ok (.aload_n 0, 1) := by decide +kernel
theorem dX3_strokesDue_5 : decode cX3_strokesDue 5 = .ok (.getfield 25, 3) := by decide +kernel
theorem dX3_strokesDue_8 : decode cX3_strokesDue 8 = .ok (.iadd, 1) := by decide +kernel
theorem dX3_strokesDue_9 : decode cX3_strokesDue 9 = .ok (.ireturn, 1) := by decide +kernel
theorem dX3_years_0 : decode cX3_years 0 = .ok (.iconst 0, 1) := by decide +kernel
theorem dX3_years_1 : decode cX3_years 1 = .ok (.aload_n 0, 1) := by decide +kernel
theorem dX3_years_2 : decode cX3_years 2 = .ok (.getfield 31, 3) := by decide +kernel
theorem dX3_years_5 : decode cX3_years 5 = .ok (.aload_n 0, 1) := by decide +kernel
theorem dX3_years_6 : decode cX3_years 6 = .ok (.invokevirtual 37, 3) := by decide +kernel
theorem dX3_years_9 : decode cX3_years 9 = .ok (.isub, 1) := by decide +kernel
theorem dX3_years_10 : decode cX3_years 10 = .ok (.invokestatic 41, 3) := by decide +kernel
theorem dX3_years_13 : decode cX3_years 13 = .ok (.ireturn, 1) := by decide +kernel
theorem dX3_sound_0 : decode cX3_sound 0 = .ok (.aload_n 0, 1) := by decide +kernel
theorem dX3_sound_1 : decode cX3_sound 1 = .ok (.dup, 1) := by decide +kernel
theorem dX3_sound_2 : decode cX3_sound 2 = .ok (.getfield 31, 3) := by decide +kernel
theorem dX3_sound_5 : decode cX3_sound 5 = .ok (.iconst 1, 1) := by decide +kernel
theorem dX3_sound_6 : decode cX3_sound 6 = .ok (.iadd, 1) := by decide +kernel
theorem dX3_sound_7 : decode cX3_sound 7 = .ok (.putfield 31, 3) := by decide +kernel
theorem dX3_sound_10 : decode cX3_sound 10 = .ok (.iload_n 1, 1) := by decide +kernel
theorem dX3_sound_11 : decode cX3_sound 11 = .ok (.ifCond .eq 13, 3) := by decide +kernel
theorem dX3_sound_14 : decode cX3_sound 14 = .ok (.aload_n 0, 1) := by decide +kernel
theorem dX3_sound_15 : decode cX3_sound 15 = .ok (.dup, 1) := by decide +kernel
theorem dX3_sound_16 : decode cX3_sound 16 = .ok (.getfield 34, 3) := by decide +kernel
theorem dX3_sound_19 : decode cX3_sound 19 = .ok (.iconst 1, 1) := by decide +kernel
theorem dX3_sound_20 : decode cX3_sound 20 = .ok (.iadd, 1) := by decide +kernel
theorem dX3_sound_21 : decode cX3_sound 21 = .ok (.putfield 34, 3) := by decide +kernel
theorem dX3_sound_24 : decode cX3_sound 24 = .ok (.aload_n 0, 1) := by decide +kernel
theorem dX3_sound_25 : decode cX3_sound 25 = .ok (.getfield 31, 3) := by decide +kernel
theorem dX3_sound_28 : decode cX3_sound 28 = .ok (.aload_n 0, 1) := by decide +kernel
theorem dX3_sound_29 : decode cX3_sound 29 = .ok (.invokevirtual 37, 3) := by decide +kernel
theorem dX3_sound_32 : decode cX3_sound 32 = .ok (.if_icmp .le 26, 3) := by decide +kernel
theorem dX3_sound_35 : decode cX3_sound 35 = .ok (.iload_n 2, 1) := by decide +kernel
theorem dX3_sound_36 : decode cX3_sound 36 = .ok (.ifCond .lt 22, 3) := by decide +kernel
theorem dX3_sound_39 : decode cX3_sound 39 = .ok (.iload_n 2, 1) := by decide +kernel
theorem dX3_sound_40 : decode cX3_sound 40 = .ok (.aload_n 0, 1) := by decide +kernel
theorem dX3_sound_41 : decode cX3_sound 41 = .ok (.getfield 15, 3) := by decide +kernel
theorem dX3_sound_44 : decode cX3_sound 44 = .ok (.arraylength, 1) := by decide +kernel
theorem dX3_sound_45 : decode cX3_sound 45 = .ok (.if_icmp .ge 13, 3) := by decide +kernel
theorem dX3_sound_48 : decode cX3_sound 48 = .ok (.aload_n 0, 1) := by decide +kernel
theorem dX3_sound_49 : decode cX3_sound 49 = .ok (.getfield 15, 3) := by decide +kernel
theorem dX3_sound_52 : decode cX3_sound 52 = .ok (.iload_n 2, 1) := by decide +kernel
theorem dX3_sound_53 : decode cX3_sound 53 = .ok (.dup2, 1) := by decide +kernel
theorem dX3_sound_54 : decode cX3_sound 54 = .ok (.iaload, 1) := by decide +kernel
theorem dX3_sound_55 : decode cX3_sound 55 = .ok (.iconst 1, 1) := by decide +kernel
theorem dX3_sound_56 : decode cX3_sound 56 = .ok (.iadd, 1) := by decide +kernel
theorem dX3_sound_57 : decode cX3_sound 57 = .ok (.iastore, 1) := by decide +kernel
theorem dX3_sound_58 : decode cX3_sound 58 = .ok (.return_, 1) := by decide +kernel
theorem dX3_pauseNow_0 : decode cX3_pauseNow 0 = .ok (.aload_n 0, 1) := by decide +kernel
theorem dX3_pauseNow_1 : decode cX3_pauseNow 1 = .ok (.getfield 22, 3) := by decide +kernel
theorem dX3_pauseNow_4 : decode cX3_pauseNow 4 = .ok (.iconst 1, 1) := by decide +kernel
theorem dX3_pauseNow_5 : decode cX3_pauseNow 5 = .ok (.iadd, 1) := by decide +kernel
theorem dX3_pauseNow_6 : decode cX3_pauseNow 6 = .ok (.istore_n 1, 1) := by decide +kernel
theorem dX3_pauseNow_7 : decode cX3_pauseNow 7 = .ok (.aload_n 0, 1) := by decide +kernel
theorem dX3_pauseNow_8 : decode cX3_pauseNow 8 = .ok (.getfield 31, 3) := by decide +kernel
theorem dX3_pauseNow_11 : decode cX3_pauseNow 11 = .ok (.iload_n 1, 1) := by decide +kernel
theorem dX3_pauseNow_12 : decode cX3_pauseNow 12 = .ok (.if_icmp .eq 23, 3) := by decide +kernel
theorem dX3_pauseNow_15 : decode cX3_pauseNow 15 = .ok (.aload_n 0, 1) := by decide +kernel
theorem dX3_pauseNow_16 : decode cX3_pauseNow 16 = .ok (.getfield 31, 3) := by decide +kernel
theorem dX3_pauseNow_19 : decode cX3_pauseNow 19 = .ok (.iconst 2, 1) := by decide +kernel
theorem dX3_pauseNow_20 : decode cX3_pauseNow 20 = .ok (.iload_n 1, 1) := by decide +kernel
theorem dX3_pauseNow_21 : decode cX3_pauseNow 21 = .ok (.imul, 1) := by decide +kernel
theorem dX3_pauseNow_22 : decode cX3_pauseNow 22 = .ok (.if_icmp .eq 13, 3) := by decide +kernel
theorem dX3_pauseNow_25 : decode cX3_pauseNow 25 = .ok (.aload_n 0, 1) := by decide +kernel
theorem dX3_pauseNow_26 : decode cX3_pauseNow 26 = .ok (.getfield 31, 3) := by decide +kernel
theorem dX3_pauseNow_29 : decode cX3_pauseNow 29 = .ok (.iconst 3, 1) := by decide +kernel
theorem dX3_pauseNow_30 : decode cX3_pauseNow 30 = .ok (.iload_n 1, 1) := by decide +kernel
theorem dX3_pauseNow_31 : decode cX3_pauseNow 31 = .ok (.imul, 1) := by decide +kernel
theorem dX3_pauseNow_32 : decode cX3_pauseNow 32 = .ok (.if_icmp .ne 7, 3) := by decide +kernel
theorem dX3_pauseNow_35 : decode cX3_pauseNow 35 = .ok (.iconst 1, 1) := by decide +kernel
theorem dX3_pauseNow_36 : decode cX3_pauseNow 36 = .ok (.goto 4, 3) := by decide +kernel
theorem dX3_pauseNow_39 : decode cX3_pauseNow 39 = .ok (.iconst 0, 1) := by decide +kernel
theorem dX3_pauseNow_40 : decode cX3_pauseNow 40 = .ok (.istore_n 2, 1) := by decide +kernel
theorem dX3_pauseNow_41 : decode cX3_pauseNow 41 = .ok (.iload_n 2, 1) := by decide +kernel
theorem dX3_pauseNow_42 : decode cX3_pauseNow 42 = .ok (.ifCond .eq 17, 3) := by decide +kernel
theorem dX3_pauseNow_45 : decode cX3_pauseNow 45 = .ok (.aload_n 0, 1) := by decide +kernel
theorem dX3_pauseNow_46 : decode cX3_pauseNow 46 = .ok (.getfield 28, 3) := by decide +kernel
theorem dX3_pauseNow_49 : decode cX3_pauseNow 49 = .ok (.iconst 1, 1) := by decide +kernel
theorem dX3_pauseNow_50 : decode cX3_pauseNow 50 = .ok (.isub, 1) := by decide +kernel
theorem dX3_pauseNow_51 : decode cX3_pauseNow 51 = .ok (.aload_n 0, 1) := by decide +kernel
theorem dX3_pauseNow_52 : decode cX3_pauseNow 52 = .ok (.getfield 28, 3) := by decide +kernel
theorem dX3_pauseNow_55 : decode cX3_pauseNow 55 = .ok (.iadd, 1) := by decide +kernel
theorem dX3_pauseNow_56 : decode cX3_pauseNow 56 = .ok (.goto 9, 3) := by decide +kernel
theorem dX3_pauseNow_59 : decode cX3_pauseNow 59 = .ok (.aload_n 0, 1) := by decide +kernel
theorem dX3_pauseNow_60 : decode cX3_pauseNow 60 = .ok (.getfield 28, 3) := by decide +kernel
theorem dX3_pauseNow_63 : decode cX3_pauseNow 63 = .ok (.iconst 1, 1) := by decide +kernel
theorem dX3_pauseNow_64 : decode cX3_pauseNow 64 = .ok (.isub, 1) := by decide +kernel
theorem dX3_pauseNow_65 : decode cX3_pauseNow 65 = .ok (.ireturn, 1) := by decide +kernel
theorem dX3_yearsCounted_0 : decode cX3_yearsCounted 0 = .ok (.iconst 0, 1) := by decide +kernel
theorem dX3_yearsCounted_1 : decode cX3_yearsCounted 1 = .ok (.istore_n 2, 1) := by decide +kernel
theorem dX3_yearsCounted_2 : decode cX3_yearsCounted 2 = .ok (.iconst 0, 1) := by decide +kernel
theorem dX3_yearsCounted_3 : decode cX3_yearsCounted 3 = .ok (.iload_n 1, 1) := by decide +kernel
theorem dX3_yearsCounted_4 : decode cX3_yearsCounted 4 = .ok (.invokestatic 41, 3) := by decide +kernel
theorem dX3_yearsCounted_7 : decode cX3_yearsCounted 7 = .ok (.istore_n 3, 1) := by decide +kernel
theorem dX3_yearsCounted_8 : decode cX3_yearsCounted 8 = .ok (.iload_n 3, 1) := by decide +kernel
theorem dX3_yearsCounted_9 : decode cX3_yearsCounted 9 = .ok (.aload_n 0, 1) := by decide +kernel
theorem dX3_yearsCounted_10 : decode cX3_yearsCounted 10 = .ok (.getfield 15, 3) := by decide +kernel
theorem dX3_yearsCounted_13 : decode cX3_yearsCounted 13 = .ok (.arraylength, 1) := by decide +kernel
theorem dX3_yearsCounted_14 : decode cX3_yearsCounted 14 = .ok (.if_icmp .ge 18, 3) := by decide +kernel
theorem dX3_yearsCounted_17 : decode cX3_yearsCounted 17 = .ok (.iload_n 2, 1) := by decide +kernel
theorem dX3_yearsCounted_18 : decode cX3_yearsCounted 18 = .ok (.aload_n 0, 1) := by decide +kernel
theorem dX3_yearsCounted_19 : decode cX3_yearsCounted 19 = .ok (.getfield 15, 3) := by decide +kernel
theorem dX3_yearsCounted_22 : decode cX3_yearsCounted 22 = .ok (.iload_n 3, 1) := by decide +kernel
theorem dX3_yearsCounted_23 : decode cX3_yearsCounted 23 = .ok (.iaload, 1) := by decide +kernel
theorem dX3_yearsCounted_24 : decode cX3_yearsCounted 24 = .ok (.iadd, 1) := by decide +kernel
theorem dX3_yearsCounted_25 : decode cX3_yearsCounted 25 = .ok (.istore_n 2, 1) := by decide +kernel
theorem dX3_yearsCounted_26 : decode cX3_yearsCounted 26 = .ok (.iinc 3 1, 3) := by decide +kernel
theorem dX3_yearsCounted_29 : decode cX3_yearsCounted 29 = .ok (.goto (-21), 3) := by decide +kernel
theorem dX3_yearsCounted_32 : decode cX3_yearsCounted 32 = .ok (.iload_n 2, 1) := by decide +kernel
theorem dX3_yearsCounted_33 : decode cX3_yearsCounted 33 = .ok (.ireturn, 1) := by decide +kernel
theorem dX3_state_0 : decode cX3_state 0 = .ok (.aload_n 0, 1) := by decide +kernel
theorem dX3_state_1 : decode cX3_state 1 = .ok (.invokevirtual 47, 3) := by decide +kernel
theorem dX3_state_4 : decode cX3_state 4 = .ok (.ifCond .eq 5, 3) := by decide +kernel
theorem dX3_state_7 : decode cX3_state 7 = .ok (.iconst 2, 1) := by decide +kernel
theorem dX3_state_8 : decode cX3_state 8 = .ok (.ireturn, 1) := by decide +kernel
theorem dX3_state_9 : decode cX3_state 9 = .ok (.aload_n 0, 1) := by decide +kernel
theorem dX3_state_10 : decode cX3_state 10 = .ok (.getfield 31, 3) := by decide +kernel
theorem dX3_state_13 : decode cX3_state 13 = .ok (.ifCond .le 7, 3) := by decide +kernel
theorem dX3_state_16 : decode cX3_state 16 = .ok (.iconst 1, 1) := by decide +kernel
theorem dX3_state_17 : decode cX3_state 17 = .ok (.goto 4, 3) := by decide +kernel
theorem dX3_state_20 : decode cX3_state 20 = .ok (.iconst 0, 1) := by decide +kernel
theorem dX3_state_21 : decode cX3_state 21 = .ok (.ireturn, 1) := by decide +kernel
theorem dX3_fact_0 : decode cX3_fact 0 = .ok (.iload_n 1, 1) := by decide +kernel
theorem dX3_fact_1 : decode cX3_fact 1 = .ok (.tableswitch 87 0 7 #[47, 52, 57, 62, 67, 72, 77, 82], 47) := by decide +kernel
theorem dX3_fact_48 : decode cX3_fact 48 = .ok (.aload_n 0, 1) := by decide +kernel
theorem dX3_fact_49 : decode cX3_fact 49 = .ok (.getfield 19, 3) := by decide +kernel
theorem dX3_fact_52 : decode cX3_fact 52 = .ok (.ireturn, 1) := by decide +kernel
theorem dX3_fact_53 : decode cX3_fact 53 = .ok (.aload_n 0, 1) := by decide +kernel
theorem dX3_fact_54 : decode cX3_fact 54 = .ok (.getfield 22, 3) := by decide +kernel
theorem dX3_fact_57 : decode cX3_fact 57 = .ok (.ireturn, 1) := by decide +kernel
theorem dX3_fact_58 : decode cX3_fact 58 = .ok (.aload_n 0, 1) := by decide +kernel
theorem dX3_fact_59 : decode cX3_fact 59 = .ok (.getfield 25, 3) := by decide +kernel
theorem dX3_fact_62 : decode cX3_fact 62 = .ok (.ireturn, 1) := by decide +kernel
theorem dX3_fact_63 : decode cX3_fact 63 = .ok (.aload_n 0, 1) := by decide +kernel
theorem dX3_fact_64 : decode cX3_fact 64 = .ok (.getfield 28, 3) := by decide +kernel
theorem dX3_fact_67 : decode cX3_fact 67 = .ok (.ireturn, 1) := by decide +kernel
theorem dX3_fact_68 : decode cX3_fact 68 = .ok (.aload_n 0, 1) := by decide +kernel
theorem dX3_fact_69 : decode cX3_fact 69 = .ok (.getfield 31, 3) := by decide +kernel
theorem dX3_fact_72 : decode cX3_fact 72 = .ok (.ireturn, 1) := by decide +kernel
theorem dX3_fact_73 : decode cX3_fact 73 = .ok (.aload_n 0, 1) := by decide +kernel
theorem dX3_fact_74 : decode cX3_fact 74 = .ok (.getfield 34, 3) := by decide +kernel
theorem dX3_fact_77 : decode cX3_fact 77 = .ok (.ireturn, 1) := by decide +kernel
theorem dX3_fact_78 : decode cX3_fact 78 = .ok (.aload_n 0, 1) := by decide +kernel
theorem dX3_fact_79 : decode cX3_fact 79 = .ok (.invokevirtual 51, 3) := by decide +kernel
theorem dX3_fact_82 : decode cX3_fact 82 = .ok (.ireturn, 1) := by decide +kernel
theorem dX3_fact_83 : decode cX3_fact 83 = .ok (.aload_n 0, 1) := by decide +kernel
theorem dX3_fact_84 : decode cX3_fact 84 = .ok (.invokevirtual 54, 3) := by decide +kernel
theorem dX3_fact_87 : decode cX3_fact 87 = .ok (.ireturn, 1) := by decide +kernel
theorem dX3_fact_88 : decode cX3_fact 88 = .ok (.aload_n 0, 1) := by decide +kernel
theorem dX3_fact_89 : decode cX3_fact 89 = .ok (.getfield 9, 3) := by decide +kernel
theorem dX3_fact_92 : decode cX3_fact 92 = .ok (.ireturn, 1) := by decide +kernel
theorem dX4_init_0 : decode cX4_init 0 = .ok (.aload_n 0, 1) := by decide +kernel
theorem dX4_init_1 : decode cX4_init 1 = .ok (.invokespecial 3, 3) := by decide +kernel
theorem dX4_init_4 : decode cX4_init 4 = .ok (.aload_n 0, 1) := by decide +kernel
theorem dX4_init_5 : decode cX4_init 5 = .ok (.iconst 4, 1) := by decide +kernel
theorem dX4_init_6 : decode cX4_init 6 = .ok (.anewarray 9, 3) := by decide +kernel
theorem dX4_init_9 : decode cX4_init 9 = .ok (.putfield 11, 3) := by decide +kernel
theorem dX4_init_12 : decode cX4_init 12 = .ok (.iconst 0, 1) := by decide +kernel
theorem dX4_init_13 : decode cX4_init 13 = .ok (.istore_n 2, 1) := by decide +kernel
theorem dX4_init_14 : decode cX4_init 14 = .ok (.iload_n 2, 1) := by decide +kernel
theorem dX4_init_15 : decode cX4_init 15 = .ok (.iconst 4, 1) := by decide +kernel
theorem dX4_init_16 : decode cX4_init 16 = .ok (.if_icmp .ge 25, 3) := by decide +kernel
theorem dX4_init_19 : decode cX4_init 19 = .ok (.aload_n 0, 1) := by decide +kernel
theorem dX4_init_20 : decode cX4_init 20 = .ok (.getfield 11, 3) := by decide +kernel
theorem dX4_init_23 : decode cX4_init 23 = .ok (.iload_n 2, 1) := by decide +kernel
theorem dX4_init_24 : decode cX4_init 24 = .ok (.new 9, 3) := by decide +kernel
theorem dX4_init_27 : decode cX4_init 27 = .ok (.dup, 1) := by decide +kernel
theorem dX4_init_28 : decode cX4_init 28 = .ok (.iload_n 2, 1) := by decide +kernel
theorem dX4_init_29 : decode cX4_init 29 = .ok (.iconst 3, 1) := by decide +kernel
theorem dX4_init_30 : decode cX4_init 30 = .ok (.iadd, 1) := by decide +kernel
theorem dX4_init_31 : decode cX4_init 31 = .ok (.invokespecial 17, 3) := by decide +kernel
theorem dX4_init_34 : decode cX4_init 34 = .ok (.aastore, 1) := by decide +kernel
theorem dX4_init_35 : decode cX4_init 35 = .ok (.iinc 2 1, 3) := by decide +kernel
theorem dX4_init_38 : decode cX4_init 38 = .ok (.goto (-24), 3) := by decide +kernel
theorem dX4_init_41 : decode cX4_init 41 = .ok (.aload_n 0, 1) := by decide +kernel
theorem dX4_init_42 : decode cX4_init 42 = .ok (.bipush 12, 2) := by decide +kernel
theorem dX4_init_44 : decode cX4_init 44 = .ok (.anewarray 20, 3) := by decide +kernel
theorem dX4_init_47 : decode cX4_init 47 = .ok (.putfield 22, 3) := by decide +kernel
theorem dX4_init_50 : decode cX4_init 50 = .ok (.iconst 0, 1) := by decide +kernel
theorem dX4_init_51 : decode cX4_init 51 = .ok (.istore_n 2, 1) := by decide +kernel
theorem dX4_init_52 : decode cX4_init 52 = .ok (.iload_n 2, 1) := by decide +kernel
theorem dX4_init_53 : decode cX4_init 53 = .ok (.bipush 12, 2) := by decide +kernel
theorem dX4_init_55 : decode cX4_init 55 = .ok (.if_icmp .ge 22, 3) := by decide +kernel
theorem dX4_init_58 : decode cX4_init 58 = .ok (.aload_n 0, 1) := by decide +kernel
theorem dX4_init_59 : decode cX4_init 59 = .ok (.getfield 22, 3) := by decide +kernel
theorem dX4_init_62 : decode cX4_init 62 = .ok (.iload_n 2, 1) := by decide +kernel
theorem dX4_init_63 : decode cX4_init 63 = .ok (.new 20, 3) := by decide +kernel
theorem dX4_init_66 : decode cX4_init 66 = .ok (.dup, 1) := by decide +kernel
theorem dX4_init_67 : decode cX4_init 67 = .ok (.invokespecial 26, 3) := by decide +kernel
theorem dX4_init_70 : decode cX4_init 70 = .ok (.aastore, 1) := by decide +kernel
theorem dX4_init_71 : decode cX4_init 71 = .ok (.iinc 2 1, 3) := by decide +kernel
theorem dX4_init_74 : decode cX4_init 74 = .ok (.goto (-22), 3) := by decide +kernel
theorem dX4_init_77 : decode cX4_init 77 = .ok (.aload_n 0, 1) := by decide +kernel
theorem dX4_init_78 : decode cX4_init 78 = .ok (.bipush 21, 2) := by decide +kernel
theorem dX4_init_80 : decode cX4_init 80 = .ok (.anewarray 27, 3) := by decide +kernel
theorem dX4_init_83 : decode cX4_init 83 = .ok (.putfield 29, 3) := by decide +kernel
theorem dX4_init_86 : decode cX4_init 86 = .ok (.iconst 0, 1) := by decide +kernel
theorem dX4_init_87 : decode cX4_init 87 = .ok (.istore_n 2, 1) := by decide +kernel
theorem dX4_init_88 : decode cX4_init 88 = .ok (.iload_n 2, 1) := by decide +kernel
theorem dX4_init_89 : decode cX4_init 89 = .ok (.bipush 20, 2) := by decide +kernel
theorem dX4_init_91 : decode cX4_init 91 = .ok (.if_icmp .gt 23, 3) := by decide +kernel
theorem dX4_init_94 : decode cX4_init 94 = .ok (.aload_n 0, 1) := by decide +kernel
theorem dX4_init_95 : decode cX4_init 95 = .ok (.getfield 29, 3) := by decide +kernel
theorem dX4_init_98 : decode cX4_init 98 = .ok (.iload_n 2, 1) := by decide +kernel
theorem dX4_init_99 : decode cX4_init 99 = .ok (.new 27, 3) := by decide +kernel
theorem dX4_init_102 : decode cX4_init 102 = .ok (.dup, 1) := by decide +kernel
theorem dX4_init_103 : decode cX4_init 103 = .ok (.iload_n 1, 1) := by decide +kernel
theorem dX4_init_104 : decode cX4_init 104 = .ok (.invokespecial 33, 3) := by decide +kernel
theorem dX4_init_107 : decode cX4_init 107 = .ok (.aastore, 1) := by decide +kernel
theorem dX4_init_108 : decode cX4_init 108 = .ok (.iinc 2 1, 3) := by decide +kernel
theorem dX4_init_111 : decode cX4_init 111 = .ok (.goto (-23), 3) := by decide +kernel
theorem dX4_init_114 : decode cX4_init 114 = .ok (.aload_n 0, 1) := by decide +kernel
theorem dX4_init_115 : decode cX4_init 115 = .ok (.bipush 20, 2) := by decide +kernel
theorem dX4_init_117 : decode cX4_init 117 = .ok (.putfield 36, 3) := by decide +kernel
theorem dX4_init_120 : decode cX4_init 120 = .ok (.return_, 1) := by decide +kernel
theorem dX4_becomeLike_0 : decode cX4_becomeLike 0 = .ok (.iconst 0, 1) := by decide +kernel
theorem dX4_becomeLike_1 : decode cX4_becomeLike 1 = .ok (.istore_n 2, 1) := by decide +kernel
theorem dX4_becomeLike_2 : decode cX4_becomeLike 2 = .ok (.iload_n 2, 1) := by decide +kernel
theorem dX4_becomeLike_3 : decode cX4_becomeLike 3 = .ok (.iconst 4, 1) := by decide +kernel
theorem dX4_becomeLike_4 : decode cX4_becomeLike 4 = .ok (.if_icmp .ge 24, 3) := by decide +kernel
theorem dX4_becomeLike_7 : decode cX4_becomeLike 7 = .ok (.aload_n 0, 1) := by decide +kernel
theorem dX4_becomeLike_8 : decode cX4_becomeLike 8 = .ok (.getfield 11, 3) := by decide +kernel
theorem dX4_becomeLike_11 : decode cX4_becomeLike 11 = .ok (.iload_n 2, 1) := by decide +kernel
theorem dX4_becomeLike_12 : decode cX4_becomeLike 12 = .ok (.aaload, 1) := by decide +kernel
theorem dX4_becomeLike_13 : decode cX4_becomeLike 13 = .ok (.aload_n 1, 1) := by decide +kernel
theorem dX4_becomeLike_14 : decode cX4_becomeLike 14 = .ok (.getfield 11, 3) := by decide +kernel
theorem dX4_becomeLike_17 : decode cX4_becomeLike 17 = .ok (.iload_n 2, 1) := by decide +kernel
theorem dX4_becomeLike_18 : decode cX4_becomeLike 18 = .ok (.aaload, 1) := by decide +kernel
theorem dX4_becomeLike_19 : decode cX4_becomeLike 19 = .ok (.invokevirtual 40, 3) := by decide +kernel
theorem dX4_becomeLike_22 : decode cX4_becomeLike 22 = .ok (.iinc 2 1, 3) := by decide +kernel
theorem dX4_becomeLike_25 : decode cX4_becomeLike 25 = .ok (.goto (-23), 3) := by decide +kernel
theorem dX4_becomeLike_28 : decode cX4_becomeLike 28 = .ok (.iconst 0, 1) := by decide +kernel
theorem dX4_becomeLike_29 : decode cX4_becomeLike 29 = .ok (.istore_n 2, 1) := by decide +kernel
theorem dX4_becomeLike_30 : decode cX4_becomeLike 30 = .ok (.iload_n 2, 1) := by decide +kernel
theorem dX4_becomeLike_31 : decode cX4_becomeLike 31 = .ok (.aload_n 1, 1) := by decide +kernel
theorem dX4_becomeLike_32 : decode cX4_becomeLike 32 = .ok (.getfield 44, 3) := by decide +kernel
theorem dX4_becomeLike_35 : decode cX4_becomeLike 35 = .ok (.if_icmp .ge 24, 3) := by decide +kernel
theorem dX4_becomeLike_38 : decode cX4_becomeLike 38 = .ok (.aload_n 0, 1) := by decide +kernel
theorem dX4_becomeLike_39 : decode cX4_becomeLike 39 = .ok (.getfield 22, 3) := by decide +kernel
theorem dX4_becomeLike_42 : decode cX4_becomeLike 42 = .ok (.iload_n 2, 1) := by decide +kernel
theorem dX4_becomeLike_43 : decode cX4_becomeLike 43 = .ok (.aaload, 1) := by decide +kernel
theorem dX4_becomeLike_44 : decode cX4_becomeLike 44 = .ok (.aload_n 1, 1) := by decide +kernel
theorem dX4_becomeLike_45 : decode cX4_becomeLike 45 = .ok (.getfield 22, 3) := by decide +kernel
theorem dX4_becomeLike_48 : decode cX4_becomeLike 48 = .ok (.iload_n 2, 1) := by decide +kernel
theorem dX4_becomeLike_49 : decode cX4_becomeLike 49 = .ok (.aaload, 1) := by decide +kernel
theorem dX4_becomeLike_50 : decode cX4_becomeLike 50 = .ok (.invokevirtual 47, 3) := by decide +kernel
theorem dX4_becomeLike_53 : decode cX4_becomeLike 53 = .ok (.iinc 2 1, 3) := by decide +kernel
theorem dX4_becomeLike_56 : decode cX4_becomeLike 56 = .ok (.goto (-26), 3) := by decide +kernel
theorem dX4_becomeLike_59 : decode cX4_becomeLike 59 = .ok (.iconst 0, 1) := by decide +kernel
theorem dX4_becomeLike_60 : decode cX4_becomeLike 60 = .ok (.istore_n 2, 1) := by decide +kernel
theorem dX4_becomeLike_61 : decode cX4_becomeLike 61 = .ok (.iload_n 2, 1) := by decide +kernel
theorem dX4_becomeLike_62 : decode cX4_becomeLike 62 = .ok (.aload_n 1, 1) := by decide +kernel
theorem dX4_becomeLike_63 : decode cX4_becomeLike 63 = .ok (.getfield 50, 3) := by decide +kernel
theorem dX4_becomeLike_66 : decode cX4_becomeLike 66 = .ok (.if_icmp .ge 24, 3) := by decide +kernel
theorem dX4_becomeLike_69 : decode cX4_becomeLike 69 = .ok (.aload_n 0, 1) := by decide +kernel
theorem dX4_becomeLike_70 : decode cX4_becomeLike 70 = .ok (.getfield 29, 3) := by decide +kernel
theorem dX4_becomeLike_73 : decode cX4_becomeLike 73 = .ok (.iload_n 2, 1) := by decide +kernel
theorem dX4_becomeLike_74 : decode cX4_becomeLike 74 = .ok (.aaload, 1) := by decide +kernel
theorem dX4_becomeLike_75 : decode cX4_becomeLike 75 = .ok (.aload_n 1, 1) := by decide +kernel
theorem dX4_becomeLike_76 : decode cX4_becomeLike 76 = .ok (.getfield 29, 3) := by decide +kernel
theorem dX4_becomeLike_79 : decode cX4_becomeLike 79 = .ok (.iload_n 2, 1) := by decide +kernel
theorem dX4_becomeLike_80 : decode cX4_becomeLike 80 = .ok (.aaload, 1) := by decide +kernel
theorem dX4_becomeLike_81 : decode cX4_becomeLike 81 = .ok (.invokevirtual 53, 3) := by decide +kernel
theorem dX4_becomeLike_84 : decode cX4_becomeLike 84 = .ok (.iinc 2 1, 3) := by decide +kernel
theorem dX4_becomeLike_87 : decode cX4_becomeLike 87 = .ok (.goto (-26), 3) := by decide +kernel
theorem dX4_becomeLike_90 : decode cX4_becomeLike 90 = .ok (.aload_n 0, 1) := by decide +kernel
theorem dX4_becomeLike_91 : decode cX4_becomeLike 91 = .ok (.aload_n 1, 1) := by decide +kernel
theorem dX4_becomeLike_92 : decode cX4_becomeLike 92 = .ok (.getfield 56, 3) := by decide +kernel
theorem dX4_becomeLike_95 : decode cX4_becomeLike 95 = .ok (.putfield 56, 3) := by decide +kernel
theorem dX4_becomeLike_98 : decode cX4_becomeLike 98 = .ok (.aload_n 0, 1) := by decide +kernel
theorem dX4_becomeLike_99 : decode cX4_becomeLike 99 = .ok (.aload_n 1, 1) := by decide +kernel
theorem dX4_becomeLike_100 : decode cX4_becomeLike 100 = .ok (.getfield 44, 3) := by decide +kernel
theorem dX4_becomeLike_103 : decode cX4_becomeLike 103 = .ok (.putfield 44, 3) := by decide +kernel
theorem dX4_becomeLike_106 : decode cX4_becomeLike 106 = .ok (.aload_n 0, 1) := by decide +kernel
theorem dX4_becomeLike_107 : decode cX4_becomeLike 107 = .ok (.aload_n 1, 1) := by decide +kernel
theorem dX4_becomeLike_108 : decode cX4_becomeLike 108 = .ok (.getfield 50, 3) := by decide +kernel
theorem dX4_becomeLike_111 : decode cX4_becomeLike 111 = .ok (.putfield 50, 3) := by decide +kernel
theorem dX4_becomeLike_114 : decode cX4_becomeLike 114 = .ok (.aload_n 0, 1) := by decide +kernel
theorem dX4_becomeLike_115 : decode cX4_becomeLike 115 = .ok (.aload_n 1, 1) := by decide +kernel
theorem dX4_becomeLike_116 : decode cX4_becomeLike 116 = .ok (.getfield 36, 3) := by decide +kernel
theorem dX4_becomeLike_119 : decode cX4_becomeLike 119 = .ok (.putfield 36, 3) := by decide +kernel
theorem dX4_becomeLike_122 : decode cX4_becomeLike 122 = .ok (.return_, 1) := by decide +kernel
theorem dX4_addRinger_0 : decode cX4_addRinger 0 = .ok (.aload_n 0, 1) := by decide +kernel
theorem dX4_addRinger_1 : decode cX4_addRinger 1 = .ok (.getfield 44, 3) := by decide +kernel
theorem dX4_addRinger_4 : decode cX4_addRinger 4 = .ok (.istore_n 2, 1) := by decide +kernel
theorem dX4_addRinger_5 : decode cX4_addRinger 5 = .ok (.iload_n 2, 1) := by decide +kernel
theorem dX4_addRinger_6 : decode cX4_addRinger 6 = .ok (.aload_n 0, 1) := by decide +kernel
theorem dX4_addRinger_7 : decode cX4_addRinger 7 = .ok (.getfield 22, 3) := by decide +kernel
theorem dX4_addRinger_10 : decode cX4_addRinger 10 = .ok (.arraylength, 1) := by decide +kernel
theorem dX4_addRinger_11 : decode cX4_addRinger 11 = .ok (.if_icmp .lt 5, 3) := by decide +kernel
theorem dX4_addRinger_14 : decode cX4_addRinger 14 = .ok (.iconst (-1), 1) := by decide +kernel
theorem dX4_addRinger_15 : decode cX4_addRinger 15 = .ok (.ireturn, 1) := by decide +kernel
theorem dX4_addRinger_16 : decode cX4_addRinger 16 = .ok (.aload_n 0, 1) := by decide +kernel
theorem dX4_addRinger_17 : decode cX4_addRinger 17 = .ok (.getfield 22, 3) := by decide +kernel
theorem dX4_addRinger_20 : decode cX4_addRinger 20 = .ok (.iload_n 2, 1) := by decide +kernel
theorem dX4_addRinger_21 : decode cX4_addRinger 21 = .ok (.aaload, 1) := by decide +kernel
theorem dX4_addRinger_22 : decode cX4_addRinger 22 = .ok (.iload_n 1, 1) := by decide +kernel
theorem dX4_addRinger_23 : decode cX4_addRinger 23 = .ok (.putfield 59, 3) := by decide +kernel
theorem dX4_addRinger_26 : decode cX4_addRinger 26 = .ok (.aload_n 0, 1) := by decide +kernel
theorem dX4_addRinger_27 : decode cX4_addRinger 27 = .ok (.dup, 1) := by decide +kernel
theorem dX4_addRinger_28 : decode cX4_addRinger 28 = .ok (.getfield 44, 3) := by decide +kernel
theorem dX4_addRinger_31 : decode cX4_addRinger 31 = .ok (.iconst 1, 1) := by decide +kernel
theorem dX4_addRinger_32 : decode cX4_addRinger 32 = .ok (.iadd, 1) := by decide +kernel
theorem dX4_addRinger_33 : decode cX4_addRinger 33 = .ok (.putfield 44, 3) := by decide +kernel
theorem dX4_addRinger_36 : decode cX4_addRinger 36 = .ok (.iload_n 2, 1) := by decide +kernel
theorem dX4_addRinger_37 : decode cX4_addRinger 37 = .ok (.ireturn, 1) := by decide +kernel
theorem dX4_addToll_0 : decode cX4_addToll 0 = .ok (.aload_n 0, 1) := by decide +kernel
theorem dX4_addToll_1 : decode cX4_addToll 1 = .ok (.getfield 50, 3) := by decide +kernel
theorem dX4_addToll_4 : decode cX4_addToll 4 = .ok (.istore 5, 2) := by decide +kernel
theorem dX4_addToll_6 : decode cX4_addToll 6 = .ok (.iload 5, 2) := by decide +kernel
theorem dX4_addToll_8 : decode cX4_addToll 8 = .ok (.aload_n 0, 1) := by decide +kernel
theorem dX4_addToll_9 : decode cX4_addToll 9 = .ok (.getfield 29, 3) := by decide +kernel
theorem dX4_addToll_12 : decode cX4_addToll 12 = .ok (.arraylength, 1) := by decide +kernel
theorem dX4_addToll_13 : decode cX4_addToll 13 = .ok (.if_icmp .lt 5, 3) := by decide +kernel
theorem dX4_addToll_16 : decode cX4_addToll 16 = .ok (.iconst (-1), 1) := by decide +kernel
theorem dX4_addToll_17 : decode cX4_addToll 17 = .ok (.ireturn, 1) := by decide +kernel
theorem dX4_addToll_18 : decode cX4_addToll 18 = .ok (.aload_n 0, 1) := by decide +kernel
theorem dX4_addToll_19 : decode cX4_addToll 19 = .ok (.getfield 29, 3) := by decide +kernel
theorem dX4_addToll_22 : decode cX4_addToll 22 = .ok (.iload 5, 2) := by decide +kernel
theorem dX4_addToll_24 : decode cX4_addToll 24 = .ok (.aaload, 1) := by decide +kernel
theorem dX4_addToll_25 : decode cX4_addToll 25 = .ok (.iload_n 1, 1) := by decide +kernel
theorem dX4_addToll_26 : decode cX4_addToll 26 = .ok (.iload_n 2, 1) := by decide +kernel
theorem dX4_addToll_27 : decode cX4_addToll 27 = .ok (.iload_n 3, 1) := by decide +kernel
theorem dX4_addToll_28 : decode cX4_addToll 28 = .ok (.iload 4, 2) := by decide +kernel
theorem dX4_addToll_30 : decode cX4_addToll 30 = .ok (.invokevirtual 62, 3) := by decide +kernel
theorem dX4_addToll_33 : decode cX4_addToll 33 = .ok (.aload_n 0, 1) := by decide +kernel
theorem dX4_addToll_34 : decode cX4_addToll 34 = .ok (.dup, 1) := by decide +kernel
theorem dX4_addToll_35 : decode cX4_addToll 35 = .ok (.getfield 50, 3) := by decide +kernel
theorem dX4_addToll_38 : decode cX4_addToll 38 = .ok (.iconst 1, 1) := by decide +kernel
theorem dX4_addToll_39 : decode cX4_addToll 39 = .ok (.iadd, 1) := by decide +kernel
theorem dX4_addToll_40 : decode cX4_addToll 40 = .ok (.putfield 50, 3) := by decide +kernel
theorem dX4_addToll_43 : decode cX4_addToll 43 = .ok (.aload_n 0, 1) := by decide +kernel
theorem dX4_addToll_44 : decode cX4_addToll 44 = .ok (.getfield 11, 3) := by decide +kernel
theorem dX4_addToll_47 : decode cX4_addToll 47 = .ok (.iload_n 1, 1) := by decide +kernel
theorem dX4_addToll_48 : decode cX4_addToll 48 = .ok (.aaload, 1) := by decide +kernel
theorem dX4_addToll_49 : decode cX4_addToll 49 = .ok (.getfield 66, 3) := by decide +kernel
theorem dX4_addToll_52 : decode cX4_addToll 52 = .ok (.iconst (-1), 1) := by decide +kernel
theorem dX4_addToll_53 : decode cX4_addToll 53 = .ok (.if_icmp .ne 14, 3) := by decide +kernel
theorem dX4_addToll_56 : decode cX4_addToll 56 = .ok (.aload_n 0, 1) := by decide +kernel
theorem dX4_addToll_57 : decode cX4_addToll 57 = .ok (.getfield 11, 3) := by decide +kernel
theorem dX4_addToll_60 : decode cX4_addToll 60 = .ok (.iload_n 1, 1) := by decide +kernel
theorem dX4_addToll_61 : decode cX4_addToll 61 = .ok (.aaload, 1) := by decide +kernel
theorem dX4_addToll_62 : decode cX4_addToll 62 = .ok (.iload 5, 2) := by decide +kernel
theorem dX4_addToll_64 : decode cX4_addToll 64 = .ok (.putfield 66, 3) := by decide +kernel
theorem dX4_addToll_67 : decode cX4_addToll 67 = .ok (.iload 5, 2) := by decide +kernel
theorem dX4_addToll_69 : decode cX4_addToll 69 = .ok (.ireturn, 1) := by decide +kernel
theorem dX4_endToll_0 : decode cX4_endToll 0 = .ok (.aload_n 0, 1) := by decide +kernel
theorem dX4_endToll_1 : decode cX4_endToll 1 = .ok (.getfield 29, 3) := by decide +kernel
theorem dX4_endToll_4 : decode cX4_endToll 4 = .ok (.iload_n 1, 1) := by decide +kernel
theorem dX4_endToll_5 : decode cX4_endToll 5 = .ok (.aaload, 1) := by decide +kernel
theorem dX4_endToll_6 : decode cX4_endToll 6 = .ok (.astore_n 2, 1) := by decide +kernel
theorem dX4_endToll_7 : decode cX4_endToll 7 = .ok (.aload_n 2, 1) := by decide +kernel
theorem dX4_endToll_8 : decode cX4_endToll 8 = .ok (.aload_n 0, 1) := by decide +kernel
theorem dX4_endToll_9 : decode cX4_endToll 9 = .ok (.getfield 56, 3) := by decide +kernel
theorem dX4_endToll_12 : decode cX4_endToll 12 = .ok (.putfield 69, 3) := by decide +kernel
theorem dX4_endToll_15 : decode cX4_endToll 15 = .ok (.aload_n 0, 1) := by decide +kernel
theorem dX4_endToll_16 : decode cX4_endToll 16 = .ok (.getfield 11, 3) := by decide +kernel
theorem dX4_endToll_19 : decode cX4_endToll 19 = .ok (.aload_n 2, 1) := by decide +kernel
theorem dX4_endToll_20 : decode cX4_endToll 20 = .ok (.getfield 72, 3) := by decide +kernel
theorem dX4_endToll_23 : decode cX4_endToll 23 = .ok (.aaload, 1) := by decide +kernel
theorem dX4_endToll_24 : decode cX4_endToll 24 = .ok (.astore_n 3, 1) := by decide +kernel
theorem dX4_endToll_25 : decode cX4_endToll 25 = .ok (.aload_n 3, 1) := by decide +kernel
theorem dX4_endToll_26 : decode cX4_endToll 26 = .ok (.getfield 66, 3) := by decide +kernel
theorem dX4_endToll_29 : decode cX4_endToll 29 = .ok (.iload_n 1, 1) := by decide +kernel
theorem dX4_endToll_30 : decode cX4_endToll 30 = .ok (.if_icmp .ne 20, 3) := by decide +kernel
theorem dX4_endToll_33 : decode cX4_endToll 33 = .ok (.aload_n 3, 1) := by decide +kernel
theorem dX4_endToll_34 : decode cX4_endToll 34 = .ok (.iconst 0, 1) := by decide +kernel
theorem dX4_endToll_35 : decode cX4_endToll 35 = .ok (.putfield 75, 3) := by decide +kernel
theorem dX4_endToll_38 : decode cX4_endToll 38 = .ok (.aload_n 3, 1) := by decide +kernel
theorem dX4_endToll_39 : decode cX4_endToll 39 = .ok (.aload_n 0, 1) := by decide +kernel
theorem dX4_endToll_40 : decode cX4_endToll 40 = .ok (.aload_n 2, 1) := by decide +kernel
theorem dX4_endToll_41 : decode cX4_endToll 41 = .ok (.getfield 72, 3) := by decide +kernel
theorem dX4_endToll_44 : decode cX4_endToll 44 = .ok (.invokevirtual 78, 3) := by decide +kernel
theorem dX4_endToll_47 : decode cX4_endToll 47 = .ok (.putfield 66, 3) := by decide +kernel
theorem dX4_endToll_50 : decode cX4_endToll 50 = .ok (.aload_n 3, 1) := by decide +kernel
theorem dX4_endToll_51 : decode cX4_endToll 51 = .ok (.getfield 66, 3) := by decide +kernel
theorem dX4_endToll_54 : decode cX4_endToll 54 = .ok (.iconst (-1), 1) := by decide +kernel
theorem dX4_endToll_55 : decode cX4_endToll 55 = .ok (.if_icmp .ne 8, 3) := by decide +kernel
theorem dX4_endToll_58 : decode cX4_endToll 58 = .ok (.aload_n 0, 1) := by decide +kernel
theorem dX4_endToll_59 : decode cX4_endToll 59 = .ok (.aload_n 3, 1) := by decide +kernel
theorem dX4_endToll_60 : decode cX4_endToll 60 = .ok (.invokevirtual 82, 3) := by decide +kernel
theorem dX4_endToll_63 : decode cX4_endToll 63 = .ok (.return_, 1) := by decide +kernel
theorem dX4_firstNotDone_0 : decode cX4_firstNotDone 0 = .ok (.iconst 0, 1) := by decide +kernel
theorem dX4_firstNotDone_1 : decode cX4_firstNotDone 1 = .ok (.istore_n 2, 1) := by decide +kernel
theorem dX4_firstNotDone_2 : decode cX4_firstNotDone 2 = .ok (.iload_n 2, 1) := by decide +kernel
theorem dX4_firstNotDone_3 : decode cX4_firstNotDone 3 = .ok (.aload_n 0, 1) := by decide +kernel
theorem dX4_firstNotDone_4 : decode cX4_firstNotDone 4 = .ok (.getfield 50, 3) := by decide +kernel
theorem dX4_firstNotDone_7 : decode cX4_firstNotDone 7 = .ok (.if_icmp .ge 36, 3) := by decide +kernel
theorem dX4_firstNotDone_10 : decode cX4_firstNotDone 10 = .ok (.aload_n 0, 1) := by decide +kernel
theorem dX4_firstNotDone_11 : decode cX4_firstNotDone 11 = .ok (.getfield 29, 3) := by decide +kernel
theorem dX4_firstNotDone_14 : decode cX4_firstNotDone 14 = .ok (.iload_n 2, 1) := by decide +kernel
theorem dX4_firstNotDone_15 : decode cX4_firstNotDone 15 = .ok (.aaload, 1) := by decide +kernel
theorem dX4_firstNotDone_16 : decode cX4_firstNotDone 16 = .ok (.getfield 72, 3) := by decide +kernel
theorem dX4_firstNotDone_19 : decode cX4_firstNotDone 19 = .ok (.iload_n 1, 1) := by decide +kernel
theorem dX4_firstNotDone_20 : decode cX4_firstNotDone 20 = .ok (.if_icmp .ne 17, 3) := by decide +kernel
theorem dX4_firstNotDone_23 : decode cX4_firstNotDone 23 = .ok (.aload_n 0, 1) := by decide +kernel
theorem dX4_firstNotDone_24 : decode cX4_firstNotDone 24 = .ok (.getfield 29, 3) := by decide +kernel
theorem dX4_firstNotDone_27 : decode cX4_firstNotDone 27 = .ok (.iload_n 2, 1) := by decide +kernel
theorem dX4_firstNotDone_28 : decode cX4_firstNotDone 28 = .ok (.aaload, 1) := by decide +kernel
theorem dX4_firstNotDone_29 : decode cX4_firstNotDone 29 = .ok (.invokevirtual 85, 3) := by decide +kernel
theorem dX4_firstNotDone_32 : decode cX4_firstNotDone 32 = .ok (.ifCond .ne 5, 3) := by decide +kernel
theorem dX4_firstNotDone_35 : decode cX4_firstNotDone 35 = .ok (.iload_n 2, 1) := by decide +kernel
theorem dX4_firstNotDone_36 : decode cX4_firstNotDone 36 = .ok (.ireturn, 1) := by decide +kernel
theorem dX4_firstNotDone_37 : decode cX4_firstNotDone 37 = .ok (.iinc 2 1, 3) := by decide +kernel
theorem dX4_firstNotDone_40 : decode cX4_firstNotDone 40 = .ok (.goto (-38), 3) := by decide +kernel
theorem dX4_firstNotDone_43 : decode cX4_firstNotDone 43 = .ok (.iconst (-1), 1) := by decide +kernel
theorem dX4_firstNotDone_44 : decode cX4_firstNotDone 44 = .ok (.ireturn, 1) := by decide +kernel
theorem dX4_bringToRope_0 : decode cX4_bringToRope 0 = .ok (.aload_n 0, 1) := by decide +kernel
theorem dX4_bringToRope_1 : decode cX4_bringToRope 1 = .ok (.aload_n 0, 1) := by decide +kernel
theorem dX4_bringToRope_2 : decode cX4_bringToRope 2 = .ok (.getfield 11, 3) := by decide +kernel
theorem dX4_bringToRope_5 : decode cX4_bringToRope 5 = .ok (.iload_n 1, 1) := by decide +kernel
theorem dX4_bringToRope_6 : decode cX4_bringToRope 6 = .ok (.aaload, 1) := by decide +kernel
theorem dX4_bringToRope_7 : decode cX4_bringToRope 7 = .ok (.invokevirtual 82, 3) := by decide +kernel
theorem dX4_bringToRope_10 : decode cX4_bringToRope 10 = .ok (.aload_n 0, 1) := by decide +kernel
theorem dX4_bringToRope_11 : decode cX4_bringToRope 11 = .ok (.getfield 11, 3) := by decide +kernel
theorem dX4_bringToRope_14 : decode cX4_bringToRope 14 = .ok (.iload_n 1, 1) := by decide +kernel
theorem dX4_bringToRope_15 : decode cX4_bringToRope 15 = .ok (.aaload, 1) := by decide +kernel
theorem dX4_bringToRope_16 : decode cX4_bringToRope 16 = .ok (.iload_n 2, 1) := by decide +kernel
theorem dX4_bringToRope_17 : decode cX4_bringToRope 17 = .ok (.putfield 89, 3) := by decide +kernel
theorem dX4_bringToRope_20 : decode cX4_bringToRope 20 = .ok (.aload_n 0, 1) := by decide +kernel
theorem dX4_bringToRope_21 : decode cX4_bringToRope 21 = .ok (.getfield 22, 3) := by decide +kernel
theorem dX4_bringToRope_24 : decode cX4_bringToRope 24 = .ok (.iload_n 2, 1) := by decide +kernel
theorem dX4_bringToRope_25 : decode cX4_bringToRope 25 = .ok (.aaload, 1) := by decide +kernel
theorem dX4_bringToRope_26 : decode cX4_bringToRope 26 = .ok (.iload_n 1, 1) := by decide +kernel
theorem dX4_bringToRope_27 : decode cX4_bringToRope 27 = .ok (.putfield 92, 3) := by decide +kernel
theorem dX4_bringToRope_30 : decode cX4_bringToRope 30 = .ok (.return_, 1) := by decide +kernel
theorem dX4_emptyRope_0 : decode cX4_emptyRope 0 = .ok (.aload_n 1, 1) := by decide +kernel
theorem dX4_emptyRope_1 : decode cX4_emptyRope 1 = .ok (.getfield 89, 3) := by decide +kernel
theorem dX4_emptyRope_4 : decode cX4_emptyRope 4 = .ok (.ifCond .lt 16, 3) := by decide +kernel
theorem dX4_emptyRope_7 : decode cX4_emptyRope 7 = .ok (.aload_n 0, 1) := by decide +kernel
theorem dX4_emptyRope_8 : decode cX4_emptyRope 8 = .ok (.getfield 22, 3) := by decide +kernel
theorem dX4_emptyRope_11 : decode cX4_emptyRope 11 = .ok (.aload_n 1, 1) := by decide +kernel
theorem dX4_emptyRope_12 : decode cX4_emptyRope 12 = .ok (.getfield 89, 3) := by decide +kernel
theorem dX4_emptyRope_15 : decode cX4_emptyRope 15 = .ok (.aaload, 1) := by decide +kernel
theorem dX4_emptyRope_16 : decode cX4_emptyRope 16 = .ok (.iconst (-1), 1) := by decide +kernel
theorem dX4_emptyRope_17 : decode cX4_emptyRope 17 = .ok (.putfield 92, 3) := by decide +kernel
theorem dX4_emptyRope_20 : decode cX4_emptyRope 20 = .ok (.aload_n 1, 1) := by decide +kernel
theorem dX4_emptyRope_21 : decode cX4_emptyRope 21 = .ok (.iconst (-1), 1) := by decide +kernel
theorem dX4_emptyRope_22 : decode cX4_emptyRope 22 = .ok (.putfield 89, 3) := by decide +kernel
theorem dX4_emptyRope_25 : decode cX4_emptyRope 25 = .ok (.return_, 1) := by decide +kernel
theorem dX4_passMinutes_0 : decode cX4_passMinutes 0 = .ok (.iconst 0, 1) := by decide +kernel
theorem dX4_passMinutes_1 : decode cX4_passMinutes 1 = .ok (.istore_n 2, 1) := by decide +kernel
theorem dX4_passMinutes_2 : decode cX4_passMinutes 2 = .ok (.iconst 0, 1) := by decide +kernel
theorem dX4_passMinutes_3 : decode cX4_passMinutes 3 = .ok (.istore_n 3, 1) := by decide +kernel
theorem dX4_passMinutes_4 : decode cX4_passMinutes 4 = .ok (.iload_n 3, 1) := by decide +kernel
theorem dX4_passMinutes_5 : decode cX4_passMinutes 5 = .ok (.iload_n 1, 1) := by decide +kernel
theorem dX4_passMinutes_6 : decode cX4_passMinutes 6 = .ok (.if_icmp .ge 16, 3) := by decide +kernel
theorem dX4_passMinutes_9 : decode cX4_passMinutes 9 = .ok (.iload_n 2, 1) := by decide +kernel
theorem dX4_passMinutes_10 : decode cX4_passMinutes 10 = .ok (.aload_n 0, 1) := by decide +kernel
theorem dX4_passMinutes_11 : decode cX4_passMinutes 11 = .ok (.invokevirtual 93, 3) := by decide +kernel
theorem dX4_passMinutes_14 : decode cX4_passMinutes 14 = .ok (.iadd, 1) := by decide +kernel
theorem dX4_passMinutes_15 : decode cX4_passMinutes 15 = .ok (.istore_n 2, 1) := by decide +kernel
theorem dX4_passMinutes_16 : decode cX4_passMinutes 16 = .ok (.iinc 3 1, 3) := by decide +kernel
theorem dX4_passMinutes_19 : decode cX4_passMinutes 19 = .ok (.goto (-15), 3) := by decide +kernel
theorem dX4_passMinutes_22 : decode cX4_passMinutes 22 = .ok (.iload_n 2, 1) := by decide +kernel
theorem dX4_passMinutes_23 : decode cX4_passMinutes 23 = .ok (.ireturn, 1) := by decide +kernel
theorem dX4_passTillDone_0 : decode cX4_passTillDone 0 = .ok (.iload_n 1, 1) := by decide +kernel
theorem dX4_passTillDone_1 : decode cX4_passTillDone 1 = .ok (.ifCond .lt 11, 3) := by decide +kernel
theorem dX4_passTillDone_4 : decode cX4_passTillDone 4 = .ok (.iload_n 1, 1) := by decide +kernel
theorem dX4_passTillDone_5 : decode cX4_passTillDone 5 = .ok (.aload_n 0, 1) := by decide +kernel
theorem dX4_passTillDone_6 : decode cX4_passTillDone 6 = .ok (.getfield 50, 3) := by decide +kernel
theorem dX4_passTillDone_9 : decode cX4_passTillDone 9 = .ok (.if_icmp .lt 5, 3) := by decide +kernel
theorem dX4_passTillDone_12 : decode cX4_passTillDone 12 = .ok (.iconst (-1), 1) := by decide +kernel
theorem dX4_passTillDone_13 : decode cX4_passTillDone 13 = .ok (.ireturn, 1) := by decide +kernel
theorem dX4_passTillDone_14 : decode cX4_passTillDone 14 = .ok (.aload_n 0, 1) := by decide +kernel
theorem dX4_passTillDone_15 : decode cX4_passTillDone 15 = .ok (.getfield 29, 3) := by decide +kernel
theorem dX4_passTillDone_18 : decode cX4_passTillDone 18 = .ok (.iload_n 1, 1) := by decide +kernel
theorem dX4_passTillDone_19 : decode cX4_passTillDone 19 = .ok (.aaload, 1) := by decide +kernel
theorem dX4_passTillDone_20 : decode cX4_passTillDone 20 = .ok (.astore_n 3, 1) := by decide +kernel
theorem dX4_passTillDone_21 : decode cX4_passTillDone 21 = .ok (.iconst 0, 1) := by decide +kernel
theorem dX4_passTillDone_22 : decode cX4_passTillDone 22 = .ok (.istore 4, 2) := by decide +kernel
theorem dX4_passTillDone_24 : decode cX4_passTillDone 24 = .ok (.aload_n 3, 1) := by decide +kernel
theorem dX4_passTillDone_25 : decode cX4_passTillDone 25 = .ok (.invokevirtual 85, 3) := by decide +kernel
theorem dX4_passTillDone_28 : decode cX4_passTillDone 28 = .ok (.ifCond .ne 20, 3) := by decide +kernel
theorem dX4_passTillDone_31 : decode cX4_passTillDone 31 = .ok (.iload 4, 2) := by decide +kernel
theorem dX4_passTillDone_33 : decode cX4_passTillDone 33 = .ok (.iload_n 2, 1) := by decide +kernel
theorem dX4_passTillDone_34 : decode cX4_passTillDone 34 = .ok (.if_icmp .ge 14, 3) := by decide +kernel
theorem dX4_passTillDone_37 : decode cX4_passTillDone 37 = .ok (.aload_n 0, 1) := by decide +kernel
theorem dX4_passTillDone_38 : decode cX4_passTillDone 38 = .ok (.invokevirtual 93, 3) := by decide +kernel
theorem dX4_passTillDone_41 : decode cX4_passTillDone 41 = .ok (.pop, 1) := by decide +kernel
theorem dX4_passTillDone_42 : decode cX4_passTillDone 42 = .ok (.iinc 4 1, 3) := by decide +kernel
theorem dX4_passTillDone_45 : decode cX4_passTillDone 45 = .ok (.goto (-21), 3) := by decide +kernel
theorem dX4_passTillDone_48 : decode cX4_passTillDone 48 = .ok (.aload_n 3, 1) := by decide +kernel
theorem dX4_passTillDone_49 : decode cX4_passTillDone 49 = .ok (.invokevirtual 85, 3) := by decide +kernel
theorem dX4_passTillDone_52 : decode cX4_passTillDone 52 = .ok (.ifCond .eq 8, 3) := by decide +kernel
theorem dX4_passTillDone_55 : decode cX4_passTillDone 55 = .ok (.iload 4, 2) := by decide +kernel
theorem dX4_passTillDone_57 : decode cX4_passTillDone 57 = .ok (.goto 4, 3) := by decide +kernel
theorem dX4_passTillDone_60 : decode cX4_passTillDone 60 = .ok (.iconst (-1), 1) := by decide +kernel
theorem dX4_passTillDone_61 : decode cX4_passTillDone 61 = .ok (.ireturn, 1) := by decide +kernel
theorem dX4_passMinute_0 : decode cX4_passMinute 0 = .ok (.iconst 0, 1) := by decide +kernel
theorem dX4_passMinute_1 : decode cX4_passMinute 1 = .ok (.istore_n 1, 1) := by decide +kernel
theorem dX4_passMinute_2 : decode cX4_passMinute 2 = .ok (.iconst 0, 1) := by decide +kernel
theorem dX4_passMinute_3 : decode cX4_passMinute 3 = .ok (.istore_n 2, 1) := by decide +kernel
theorem dX4_passMinute_4 : decode cX4_passMinute 4 = .ok (.iload_n 2, 1) := by decide +kernel
theorem dX4_passMinute_5 : decode cX4_passMinute 5 = .ok (.iconst 4, 1) := by decide +kernel
theorem dX4_passMinute_6 : decode cX4_passMinute 6 = .ok (.if_icmp .ge 38, 3) := by decide +kernel
theorem dX4_passMinute_9 : decode cX4_passMinute 9 = .ok (.aload_n 0, 1) := by decide +kernel
theorem dX4_passMinute_10 : decode cX4_passMinute 10 = .ok (.iload_n 2, 1) := by decide +kernel
theorem dX4_passMinute_11 : decode cX4_passMinute 11 = .ok (.invokevirtual 97, 3) := by decide +kernel
theorem dX4_passMinute_14 : decode cX4_passMinute 14 = .ok (.istore_n 3, 1) := by decide +kernel
theorem dX4_passMinute_15 : decode cX4_passMinute 15 = .ok (.iload_n 3, 1) := by decide +kernel
theorem dX4_passMinute_16 : decode cX4_passMinute 16 = .ok (.ifCond .lt 22, 3) := by decide +kernel
theorem dX4_passMinute_19 : decode cX4_passMinute 19 = .ok (.aload_n 0, 1) := by decide +kernel
theorem dX4_passMinute_20 : decode cX4_passMinute 20 = .ok (.aload_n 0, 1) := by decide +kernel
theorem dX4_passMinute_21 : decode cX4_passMinute 21 = .ok (.getfield 11, 3) := by decide +kernel
theorem dX4_passMinute_24 : decode cX4_passMinute 24 = .ok (.iload_n 2, 1) := by decide +kernel
theorem dX4_passMinute_25 : decode cX4_passMinute 25 = .ok (.aaload, 1) := by decide +kernel
theorem dX4_passMinute_26 : decode cX4_passMinute 26 = .ok (.aload_n 0, 1) := by decide +kernel
theorem dX4_passMinute_27 : decode cX4_passMinute 27 = .ok (.getfield 22, 3) := by decide +kernel
theorem dX4_passMinute_30 : decode cX4_passMinute 30 = .ok (.iload_n 3, 1) := by decide +kernel
theorem dX4_passMinute_31 : decode cX4_passMinute 31 = .ok (.aaload, 1) := by decide +kernel
theorem dX4_passMinute_32 : decode cX4_passMinute 32 = .ok (.invokevirtual 100, 3) := by decide +kernel
theorem dX4_passMinute_35 : decode cX4_passMinute 35 = .ok (.iinc 1 1, 3) := by decide +kernel
theorem dX4_passMinute_38 : decode cX4_passMinute 38 = .ok (.iinc 2 1, 3) := by decide +kernel
theorem dX4_passMinute_41 : decode cX4_passMinute 41 = .ok (.goto (-37), 3) := by decide +kernel
theorem dX4_passMinute_44 : decode cX4_passMinute 44 = .ok (.iconst 0, 1) := by decide +kernel
theorem dX4_passMinute_45 : decode cX4_passMinute 45 = .ok (.istore_n 2, 1) := by decide +kernel
theorem dX4_passMinute_46 : decode cX4_passMinute 46 = .ok (.iload_n 2, 1) := by decide +kernel
theorem dX4_passMinute_47 : decode cX4_passMinute 47 = .ok (.aload_n 0, 1) := by decide +kernel
theorem dX4_passMinute_48 : decode cX4_passMinute 48 = .ok (.getfield 44, 3) := by decide +kernel
theorem dX4_passMinute_51 : decode cX4_passMinute 51 = .ok (.if_icmp .ge 18, 3) := by decide +kernel
theorem dX4_passMinute_54 : decode cX4_passMinute 54 = .ok (.aload_n 0, 1) := by decide +kernel
theorem dX4_passMinute_55 : decode cX4_passMinute 55 = .ok (.getfield 22, 3) := by decide +kernel
theorem dX4_passMinute_58 : decode cX4_passMinute 58 = .ok (.iload_n 2, 1) := by decide +kernel
theorem dX4_passMinute_59 : decode cX4_passMinute 59 = .ok (.aaload, 1) := by decide +kernel
theorem dX4_passMinute_60 : decode cX4_passMinute 60 = .ok (.invokevirtual 104, 3) := by decide +kernel
theorem dX4_passMinute_63 : decode cX4_passMinute 63 = .ok (.iinc 2 1, 3) := by decide +kernel
theorem dX4_passMinute_66 : decode cX4_passMinute 66 = .ok (.goto (-20), 3) := by decide +kernel
theorem dX4_passMinute_69 : decode cX4_passMinute 69 = .ok (.aload_n 0, 1) := by decide +kernel
theorem dX4_passMinute_70 : decode cX4_passMinute 70 = .ok (.dup, 1) := by decide +kernel
theorem dX4_passMinute_71 : decode cX4_passMinute 71 = .ok (.getfield 56, 3) := by decide +kernel
theorem dX4_passMinute_74 : decode cX4_passMinute 74 = .ok (.iconst 1, 1) := by decide +kernel
theorem dX4_passMinute_75 : decode cX4_passMinute 75 = .ok (.iadd, 1) := by decide +kernel
theorem dX4_passMinute_76 : decode cX4_passMinute 76 = .ok (.putfield 56, 3) := by decide +kernel
theorem dX4_passMinute_79 : decode cX4_passMinute 79 = .ok (.iload_n 1, 1) := by decide +kernel
theorem dX4_passMinute_80 : decode cX4_passMinute 80 = .ok (.ireturn, 1) := by decide +kernel
theorem dX4_goOn_0 : decode cX4_goOn 0 = .ok (.aload_n 0, 1) := by decide +kernel
theorem dX4_goOn_1 : decode cX4_goOn 1 = .ok (.getfield 11, 3) := by decide +kernel
theorem dX4_goOn_4 : decode cX4_goOn 4 = .ok (.iload_n 1, 1) := by decide +kernel
theorem dX4_goOn_5 : decode cX4_goOn 5 = .ok (.aaload, 1) := by decide +kernel
theorem dX4_goOn_6 : decode cX4_goOn 6 = .ok (.astore_n 2, 1) := by decide +kernel
theorem dX4_goOn_7 : decode cX4_goOn 7 = .ok (.aload_n 2, 1) := by decide +kernel
theorem dX4_goOn_8 : decode cX4_goOn 8 = .ok (.getfield 66, 3) := by decide +kernel
theorem dX4_goOn_11 : decode cX4_goOn 11 = .ok (.ifCond .ge 5, 3) := by decide +kernel
theorem dX4_goOn_14 : decode cX4_goOn 14 = .ok (.iconst (-1), 1) := by decide +kernel
theorem dX4_goOn_15 : decode cX4_goOn 15 = .ok (.ireturn, 1) := by decide +kernel
theorem dX4_goOn_16 : decode cX4_goOn 16 = .ok (.aload_n 2, 1) := by decide +kernel
theorem dX4_goOn_17 : decode cX4_goOn 17 = .ok (.getfield 75, 3) := by decide +kernel
theorem dX4_goOn_20 : decode cX4_goOn 20 = .ok (.ifCond .le 15, 3) := by decide +kernel
theorem dX4_goOn_23 : decode cX4_goOn 23 = .ok (.aload_n 2, 1) := by decide +kernel
theorem dX4_goOn_24 : decode cX4_goOn 24 = .ok (.dup, 1) := by decide +kernel
theorem dX4_goOn_25 : decode cX4_goOn 25 = .ok (.getfield 75, 3) := by decide +kernel
theorem dX4_goOn_28 : decode cX4_goOn 28 = .ok (.iconst 1, 1) := by decide +kernel
theorem dX4_goOn_29 : decode cX4_goOn 29 = .ok (.isub, 1) := by decide +kernel
theorem dX4_goOn_30 : decode cX4_goOn 30 = .ok (.putfield 75, 3) := by decide +kernel
theorem dX4_goOn_33 : decode cX4_goOn 33 = .ok (.iconst (-1), 1) := by decide +kernel
theorem dX4_goOn_34 : decode cX4_goOn 34 = .ok (.ireturn, 1) := by decide +kernel
theorem dX4_goOn_35 : decode cX4_goOn 35 = .ok (.aload_n 0, 1) := by decide +kernel
theorem dX4_goOn_36 : decode cX4_goOn 36 = .ok (.iload_n 1, 1) := by decide +kernel
theorem dX4_goOn_37 : decode cX4_goOn 37 = .ok (.invokevirtual 107, 3) := by decide +kernel
theorem dX4_goOn_40 : decode cX4_goOn 40 = .ok (.ireturn, 1) := by decide +kernel
theorem dX4_findPuller_0 : decode cX4_findPuller 0 = .ok (.aload_n 0, 1) := by decide +kernel
theorem dX4_findPuller_1 : decode cX4_findPuller 1 = .ok (.getfield 11, 3) := by decide +kernel
theorem dX4_findPuller_4 : decode cX4_findPuller 4 = .ok (.iload_n 1, 1) := by decide +kernel
theorem dX4_findPuller_5 : decode cX4_findPuller 5 = .ok (.aaload, 1) := by decide +kernel
theorem dX4_findPuller_6 : decode cX4_findPuller 6 = .ok (.astore_n 2, 1) := by decide +kernel
theorem dX4_findPuller_7 : decode cX4_findPuller 7 = .ok (.aload_n 2, 1) := by decide +kernel
theorem dX4_findPuller_8 : decode cX4_findPuller 8 = .ok (.getfield 89, 3) := by decide +kernel
theorem dX4_findPuller_11 : decode cX4_findPuller 11 = .ok (.ifCond .lt 27, 3) := by decide +kernel
theorem dX4_findPuller_14 : decode cX4_findPuller 14 = .ok (.aload_n 0, 1) := by decide +kernel
theorem dX4_findPuller_15 : decode cX4_findPuller 15 = .ok (.getfield 22, 3) := by decide +kernel
theorem dX4_findPuller_18 : decode cX4_findPuller 18 = .ok (.aload_n 2, 1) := by decide +kernel
theorem dX4_findPuller_19 : decode cX4_findPuller 19 = .ok (.getfield 89, 3) := by decide +kernel
theorem dX4_findPuller_22 : decode cX4_findPuller 22 = .ok (.aaload, 1) := by decide +kernel
theorem dX4_findPuller_23 : decode cX4_findPuller 23 = .ok (.aload_n 2, 1) := by decide +kernel
theorem dX4_findPuller_24 : decode cX4_findPuller 24 = .ok (.getfield 110, 3) := by decide +kernel
theorem dX4_findPuller_27 : decode cX4_findPuller 27 = .ok (.invokevirtual 113, 3) := by decide +kernel
theorem dX4_findPuller_30 : decode cX4_findPuller 30 = .ok (.ifCond .eq 8, 3) := by decide +kernel
theorem dX4_findPuller_33 : decode cX4_findPuller 33 = .ok (.aload_n 2, 1) := by decide +kernel
theorem dX4_findPuller_34 : decode cX4_findPuller 34 = .ok (.getfield 89, 3) := by decide +kernel
theorem dX4_findPuller_37 : decode cX4_findPuller 37 = .ok (.ireturn, 1) := by decide +kernel
theorem dX4_findPuller_38 : decode cX4_findPuller 38 = .ok (.aload_n 0, 1) := by decide +kernel
theorem dX4_findPuller_39 : decode cX4_findPuller 39 = .ok (.aload_n 2, 1) := by decide +kernel
theorem dX4_findPuller_40 : decode cX4_findPuller 40 = .ok (.getfield 110, 3) := by decide +kernel
theorem dX4_findPuller_43 : decode cX4_findPuller 43 = .ok (.invokevirtual 117, 3) := by decide +kernel
theorem dX4_findPuller_46 : decode cX4_findPuller 46 = .ok (.istore_n 3, 1) := by decide +kernel
theorem dX4_findPuller_47 : decode cX4_findPuller 47 = .ok (.iload_n 3, 1) := by decide +kernel
theorem dX4_findPuller_48 : decode cX4_findPuller 48 = .ok (.ifCond .lt 24, 3) := by decide +kernel
theorem dX4_findPuller_51 : decode cX4_findPuller 51 = .ok (.aload_n 0, 1) := by decide +kernel
theorem dX4_findPuller_52 : decode cX4_findPuller 52 = .ok (.iload_n 1, 1) := by decide +kernel
theorem dX4_findPuller_53 : decode cX4_findPuller 53 = .ok (.iload_n 3, 1) := by decide +kernel
theorem dX4_findPuller_54 : decode cX4_findPuller 54 = .ok (.invokevirtual 120, 3) := by decide +kernel
theorem dX4_findPuller_57 : decode cX4_findPuller 57 = .ok (.aload_n 0, 1) := by decide +kernel
theorem dX4_findPuller_58 : decode cX4_findPuller 58 = .ok (.getfield 22, 3) := by decide +kernel
theorem dX4_findPuller_61 : decode cX4_findPuller 61 = .ok (.iload_n 3, 1) := by decide +kernel
theorem dX4_findPuller_62 : decode cX4_findPuller 62 = .ok (.aaload, 1) := by decide +kernel
theorem dX4_findPuller_63 : decode cX4_findPuller 63 = .ok (.dup, 1) := by decide +kernel
theorem dX4_findPuller_64 : decode cX4_findPuller 64 = .ok (.getfield 124, 3) := by decide +kernel
theorem dX4_findPuller_67 : decode cX4_findPuller 67 = .ok (.iconst 1, 1) := by decide +kernel
theorem dX4_findPuller_68 : decode cX4_findPuller 68 = .ok (.iadd, 1) := by decide +kernel
theorem dX4_findPuller_69 : decode cX4_findPuller 69 = .ok (.putfield 124, 3) := by decide +kernel
theorem dX4_findPuller_72 : decode cX4_findPuller 72 = .ok (.iload_n 3, 1) := by decide +kernel
theorem dX4_findPuller_73 : decode cX4_findPuller 73 = .ok (.ireturn, 1) := by decide +kernel
theorem dX4_leastTiredAtRest_0 : decode cX4_leastTiredAtRest 0 = .ok (.iconst (-1), 1) := by decide +kernel
theorem dX4_leastTiredAtRest_1 : decode cX4_leastTiredAtRest 1 = .ok (.istore_n 2, 1) := by decide +kernel
theorem dX4_leastTiredAtRest_2 : decode cX4_leastTiredAtRest 2 = .ok (.iconst 0, 1) := by decide +kernel
theorem dX4_leastTiredAtRest_3 : decode cX4_leastTiredAtRest 3 = .ok (.istore_n 3, 1) := by decide +kernel
theorem dX4_leastTiredAtRest_4 : decode cX4_leastTiredAtRest 4 = .ok (.iconst 0, 1) := by decide +kernel
theorem dX4_leastTiredAtRest_5 : decode cX4_leastTiredAtRest 5 = .ok (.istore 4, 2) := by decide +kernel
theorem dX4_leastTiredAtRest_7 : decode cX4_leastTiredAtRest 7 = .ok (.iload 4, 2) := by decide +kernel
theorem dX4_leastTiredAtRest_9 : decode cX4_leastTiredAtRest 9 = .ok (.aload_n 0, 1) := by decide +kernel
theorem dX4_leastTiredAtRest_10 : decode cX4_leastTiredAtRest 10 = .ok (.getfield 44, 3) := by decide +kernel
theorem dX4_leastTiredAtRest_13 : decode cX4_leastTiredAtRest 13 = .ok (.if_icmp .ge 70, 3) := by decide +kernel
theorem dX4_leastTiredAtRest_16 : decode cX4_leastTiredAtRest 16 = .ok (.aload_n 0, 1) := by decide +kernel
theorem dX4_leastTiredAtRest_17 : decode cX4_leastTiredAtRest 17 = .ok (.getfield 22, 3) := by decide +kernel
theorem dX4_leastTiredAtRest_20 : decode cX4_leastTiredAtRest 20 = .ok (.iload 4, 2) := by decide +kernel
theorem dX4_leastTiredAtRest_22 : decode cX4_leastTiredAtRest 22 = .ok (.aaload, 1) := by decide +kernel
theorem dX4_leastTiredAtRest_23 : decode cX4_leastTiredAtRest 23 = .ok (.astore 5, 2) := by decide +kernel
theorem dX4_leastTiredAtRest_25 : decode cX4_leastTiredAtRest 25 = .ok (.aload 5, 2) := by decide +kernel
theorem dX4_leastTiredAtRest_27 : decode cX4_leastTiredAtRest 27 = .ok (.invokevirtual 127, 3) := by decide +kernel
theorem dX4_leastTiredAtRest_30 : decode cX4_leastTiredAtRest 30 = .ok (.ifCond .eq 16, 3) := by decide +kernel
theorem dX4_leastTiredAtRest_33 : decode cX4_leastTiredAtRest 33 = .ok (.aload 5, 2) := by decide +kernel
theorem dX4_leastTiredAtRest_35 : decode cX4_leastTiredAtRest 35 = .ok (.iload_n 1, 1) := by decide +kernel
theorem dX4_leastTiredAtRest_36 : decode cX4_leastTiredAtRest 36 = .ok (.invokevirtual 113, 3) := by decide +kernel
theorem dX4_leastTiredAtRest_39 : decode cX4_leastTiredAtRest 39 = .ok (.ifCond .eq 7, 3) := by decide +kernel
theorem dX4_leastTiredAtRest_42 : decode cX4_leastTiredAtRest 42 = .ok (.iconst 1, 1) := by decide +kernel
theorem dX4_leastTiredAtRest_43 : decode cX4_leastTiredAtRest 43 = .ok (.goto 4, 3) := by decide +kernel
theorem dX4_leastTiredAtRest_46 : decode cX4_leastTiredAtRest 46 = .ok (.iconst 0, 1) := by decide +kernel
theorem dX4_leastTiredAtRest_47 : decode cX4_leastTiredAtRest 47 = .ok (.istore 6, 2) := by decide +kernel
theorem dX4_leastTiredAtRest_49 : decode cX4_leastTiredAtRest 49 = .ok (.iload 6, 2) := by decide +kernel
theorem dX4_leastTiredAtRest_51 : decode cX4_leastTiredAtRest 51 = .ok (.ifCond .eq 26, 3) := by decide +kernel
theorem dX4_leastTiredAtRest_54 : decode cX4_leastTiredAtRest 54 = .ok (.iload_n 2, 1) := by decide +kernel
theorem dX4_leastTiredAtRest_55 : decode cX4_leastTiredAtRest 55 = .ok (.iconst (-1), 1) := by decide +kernel
theorem dX4_leastTiredAtRest_56 : decode cX4_leastTiredAtRest 56 = .ok (.if_icmp .eq 12, 3) := by decide +kernel
theorem dX4_leastTiredAtRest_59 : decode cX4_leastTiredAtRest 59 = .ok (.aload 5, 2) := by decide +kernel
theorem dX4_leastTiredAtRest_61 : decode cX4_leastTiredAtRest 61 = .ok (.getfield 130, 3) := by decide +kernel
theorem dX4_leastTiredAtRest_64 : decode cX4_leastTiredAtRest 64 = .ok (.iload_n 3, 1) := by decide +kernel
theorem dX4_leastTiredAtRest_65 : decode cX4_leastTiredAtRest 65 = .ok (.if_icmp .ge 12, 3) := by decide +kernel
theorem dX4_leastTiredAtRest_68 : decode cX4_leastTiredAtRest 68 = .ok (.iload 4, 2) := by decide +kernel
theorem dX4_leastTiredAtRest_70 : decode cX4_leastTiredAtRest 70 = .ok (.istore_n 2, 1) := by decide +kernel
theorem dX4_leastTiredAtRest_71 : decode cX4_leastTiredAtRest 71 = .ok (.aload 5, 2) := by decide +kernel
theorem dX4_leastTiredAtRest_73 : decode cX4_leastTiredAtRest 73 = .ok (.getfield 130, 3) := by decide +kernel
theorem dX4_leastTiredAtRest_76 : decode cX4_leastTiredAtRest 76 = .ok (.istore_n 3, 1) := by decide +kernel
theorem dX4_leastTiredAtRest_77 : decode cX4_leastTiredAtRest 77 = .ok (.iinc 4 1, 3) := by decide +kernel
theorem dX4_leastTiredAtRest_80 : decode cX4_leastTiredAtRest 80 = .ok (.goto (-73), 3) := by decide +kernel
theorem dX4_leastTiredAtRest_83 : decode cX4_leastTiredAtRest 83 = .ok (.iload_n 2, 1) := by decide +kernel
theorem dX4_leastTiredAtRest_84 : decode cX4_leastTiredAtRest 84 = .ok (.ireturn, 1) := by decide +kernel
theorem dX4_strike_0 : decode cX4_strike 0 = .ok (.aload_n 1, 1) := by decide +kernel
theorem dX4_strike_1 : decode cX4_strike 1 = .ok (.getfield 66, 3) := by decide +kernel
theorem dX4_strike_4 : decode cX4_strike 4 = .ok (.istore_n 3, 1) := by decide +kernel
theorem dX4_strike_5 : decode cX4_strike 5 = .ok (.aload_n 0, 1) := by decide +kernel
theorem dX4_strike_6 : decode cX4_strike 6 = .ok (.getfield 29, 3) := by decide +kernel
theorem dX4_strike_9 : decode cX4_strike 9 = .ok (.iload_n 3, 1) := by decide +kernel
theorem dX4_strike_10 : decode cX4_strike 10 = .ok (.aaload, 1) := by decide +kernel
theorem dX4_strike_11 : decode cX4_strike 11 = .ok (.astore 4, 2) := by decide +kernel
theorem dX4_strike_13 : decode cX4_strike 13 = .ok (.aload_n 2, 1) := by decide +kernel
theorem dX4_strike_14 : decode cX4_strike 14 = .ok (.aload_n 1, 1) := by decide +kernel
theorem dX4_strike_15 : decode cX4_strike 15 = .ok (.getfield 110, 3) := by decide +kernel
theorem dX4_strike_18 : decode cX4_strike 18 = .ok (.invokevirtual 133, 3) := by decide +kernel
theorem dX4_strike_21 : decode cX4_strike 21 = .ok (.aload_n 1, 1) := by decide +kernel
theorem dX4_strike_22 : decode cX4_strike 22 = .ok (.aload_n 1, 1) := by decide +kernel
theorem dX4_strike_23 : decode cX4_strike 23 = .ok (.getfield 136, 3) := by decide +kernel
theorem dX4_strike_26 : decode cX4_strike 26 = .ok (.invokevirtual 139, 3) := by decide +kernel
theorem dX4_strike_29 : decode cX4_strike 29 = .ok (.astore 5, 2) := by decide +kernel
theorem dX4_strike_31 : decode cX4_strike 31 = .ok (.aload 4, 2) := by decide +kernel
theorem dX4_strike_33 : decode cX4_strike 33 = .ok (.aload 5, 2) := by decide +kernel
theorem dX4_strike_35 : decode cX4_strike 35 = .ok (.getfield 143, 3) := by decide +kernel
theorem dX4_strike_38 : decode cX4_strike 38 = .ok (.ifCond .ne 7, 3) := by decide +kernel
theorem dX4_strike_41 : decode cX4_strike 41 = .ok (.iconst 1, 1) := by decide +kernel
theorem dX4_strike_42 : decode cX4_strike 42 = .ok (.goto 4, 3) := by decide +kernel
theorem dX4_strike_45 : decode cX4_strike 45 = .ok (.iconst 0, 1) := by decide +kernel
theorem dX4_strike_46 : decode cX4_strike 46 = .ok (.aload 5, 2) := by decide +kernel
theorem dX4_strike_48 : decode cX4_strike 48 = .ok (.aload_n 1, 1) := by decide +kernel
theorem dX4_strike_49 : decode cX4_strike 49 = .ok (.getfield 110, 3) := by decide +kernel
theorem dX4_strike_52 : decode cX4_strike 52 = .ok (.invokevirtual 148, 3) := by decide +kernel
theorem dX4_strike_55 : decode cX4_strike 55 = .ok (.invokevirtual 151, 3) := by decide +kernel
theorem dX4_strike_58 : decode cX4_strike 58 = .ok (.aload 5, 2) := by decide +kernel
theorem dX4_strike_60 : decode cX4_strike 60 = .ok (.aload_n 1, 1) := by decide +kernel
theorem dX4_strike_61 : decode cX4_strike 61 = .ok (.getfield 110, 3) := by decide +kernel
theorem dX4_strike_64 : decode cX4_strike 64 = .ok (.invokevirtual 155, 3) := by decide +kernel
theorem dX4_strike_67 : decode cX4_strike 67 = .ok (.aload_n 1, 1) := by decide +kernel
theorem dX4_strike_68 : decode cX4_strike 68 = .ok (.invokevirtual 158, 3) := by decide +kernel
theorem dX4_strike_71 : decode cX4_strike 71 = .ok (.aload 4, 2) := by decide +kernel
theorem dX4_strike_73 : decode cX4_strike 73 = .ok (.getfield 161, 3) := by decide +kernel
theorem dX4_strike_76 : decode cX4_strike 76 = .ok (.aload 4, 2) := by decide +kernel
theorem dX4_strike_78 : decode cX4_strike 78 = .ok (.invokevirtual 164, 3) := by decide +kernel
theorem dX4_strike_81 : decode cX4_strike 81 = .ok (.if_icmp .lt 11, 3) := by decide +kernel
theorem dX4_strike_84 : decode cX4_strike 84 = .ok (.aload_n 0, 1) := by decide +kernel
theorem dX4_strike_85 : decode cX4_strike 85 = .ok (.iload_n 3, 1) := by decide +kernel
theorem dX4_strike_86 : decode cX4_strike 86 = .ok (.invokevirtual 167, 3) := by decide +kernel
theorem dX4_strike_89 : decode cX4_strike 89 = .ok (.goto 12, 3) := by decide +kernel
theorem dX4_strike_92 : decode cX4_strike 92 = .ok (.aload_n 1, 1) := by decide +kernel
theorem dX4_strike_93 : decode cX4_strike 93 = .ok (.aload 4, 2) := by decide +kernel
theorem dX4_strike_95 : decode cX4_strike 95 = .ok (.invokevirtual 170, 3) := by decide +kernel
theorem dX4_strike_98 : decode cX4_strike 98 = .ok (.putfield 75, 3) := by decide +kernel
theorem dX4_strike_101 : decode cX4_strike 101 = .ok (.return_, 1) := by decide +kernel
theorem dX4_inAll_0 : decode cX4_inAll 0 = .ok (.iload_n 1, 1) := by decide +kernel
theorem dX4_inAll_1 : decode cX4_inAll 1 = .ok (.tableswitch 87 0 7 #[47, 52, 57, 62, 67, 72, 77, 82], 47) := by decide +kernel
theorem dX4_inAll_48 : decode cX4_inAll 48 = .ok (.aload_n 0, 1) := by decide +kernel
theorem dX4_inAll_49 : decode cX4_inAll 49 = .ok (.getfield 56, 3) := by decide +kernel
theorem dX4_inAll_52 : decode cX4_inAll 52 = .ok (.ireturn, 1) := by decide +kernel
theorem dX4_inAll_53 : decode cX4_inAll 53 = .ok (.aload_n 0, 1) := by decide +kernel
theorem dX4_inAll_54 : decode cX4_inAll 54 = .ok (.getfield 44, 3) := by decide +kernel
theorem dX4_inAll_57 : decode cX4_inAll 57 = .ok (.ireturn, 1) := by decide +kernel
theorem dX4_inAll_58 : decode cX4_inAll 58 = .ok (.aload_n 0, 1) := by decide +kernel
theorem dX4_inAll_59 : decode cX4_inAll 59 = .ok (.invokevirtual 173, 3) := by decide +kernel
theorem dX4_inAll_62 : decode cX4_inAll 62 = .ok (.ireturn, 1) := by decide +kernel
theorem dX4_inAll_63 : decode cX4_inAll 63 = .ok (.aload_n 0, 1) := by decide +kernel
theorem dX4_inAll_64 : decode cX4_inAll 64 = .ok (.getfield 50, 3) := by decide +kernel
theorem dX4_inAll_67 : decode cX4_inAll 67 = .ok (.ireturn, 1) := by decide +kernel
theorem dX4_inAll_68 : decode cX4_inAll 68 = .ok (.aload_n 0, 1) := by decide +kernel
theorem dX4_inAll_69 : decode cX4_inAll 69 = .ok (.invokevirtual 176, 3) := by decide +kernel
theorem dX4_inAll_72 : decode cX4_inAll 72 = .ok (.ireturn, 1) := by decide +kernel
theorem dX4_inAll_73 : decode cX4_inAll 73 = .ok (.aload_n 0, 1) := by decide +kernel
theorem dX4_inAll_74 : decode cX4_inAll 74 = .ok (.invokevirtual 179, 3) := by decide +kernel
theorem dX4_inAll_77 : decode cX4_inAll 77 = .ok (.ireturn, 1) := by decide +kernel
theorem dX4_inAll_78 : decode cX4_inAll 78 = .ok (.aload_n 0, 1) := by decide +kernel
theorem dX4_inAll_79 : decode cX4_inAll 79 = .ok (.invokevirtual 182, 3) := by decide +kernel
theorem dX4_inAll_82 : decode cX4_inAll 82 = .ok (.ireturn, 1) := by decide +kernel
theorem dX4_inAll_83 : decode cX4_inAll 83 = .ok (.aload_n 0, 1) := by decide +kernel
theorem dX4_inAll_84 : decode cX4_inAll 84 = .ok (.getfield 36, 3) := by decide +kernel
theorem dX4_inAll_87 : decode cX4_inAll 87 = .ok (.ireturn, 1) := by decide +kernel
theorem dX4_inAll_88 : decode cX4_inAll 88 = .ok (.aload_n 0, 1) := by decide +kernel
theorem dX4_inAll_89 : decode cX4_inAll 89 = .ok (.invokevirtual 185, 3) := by decide +kernel
theorem dX4_inAll_92 : decode cX4_inAll 92 = .ok (.ireturn, 1) := by decide +kernel
theorem dX4_ringersAtRopes_0 : decode cX4_ringersAtRopes 0 = .ok (.iconst 0, 1) := by decide +kernel
theorem dX4_ringersAtRopes_1 : decode cX4_ringersAtRopes 1 = .ok (.istore_n 1, 1) := by decide +kernel
theorem dX4_ringersAtRopes_2 : decode cX4_ringersAtRopes 2 = .ok (.iconst 0, 1) := by decide +kernel
theorem dX4_ringersAtRopes_3 : decode cX4_ringersAtRopes 3 = .ok (.istore_n 2, 1) := by decide +kernel
theorem dX4_ringersAtRopes_4 : decode cX4_ringersAtRopes 4 = .ok (.iload_n 2, 1) := by decide +kernel
theorem dX4_ringersAtRopes_5 : decode cX4_ringersAtRopes 5 = .ok (.aload_n 0, 1) := by decide +kernel
theorem dX4_ringersAtRopes_6 : decode cX4_ringersAtRopes 6 = .ok (.getfield 44, 3) := by decide +kernel
theorem dX4_ringersAtRopes_9 : decode cX4_ringersAtRopes 9 = .ok (.if_icmp .ge 29, 3) := by decide +kernel
theorem dX4_ringersAtRopes_12 : decode cX4_ringersAtRopes 12 = .ok (.iload_n 1, 1) := by decide +kernel
theorem dX4_ringersAtRopes_13 : decode cX4_ringersAtRopes 13 = .ok (.aload_n 0, 1) := by decide +kernel
theorem dX4_ringersAtRopes_14 : decode cX4_ringersAtRopes 14 = .ok (.getfield 22, 3) := by decide +kernel
theorem dX4_ringersAtRopes_17 : decode cX4_ringersAtRopes 17 = .ok (.iload_n 2, 1) := by decide +kernel
theorem dX4_ringersAtRopes_18 : decode cX4_ringersAtRopes 18 = .ok (.aaload, 1) := by decide +kernel
theorem dX4_ringersAtRopes_19 : decode cX4_ringersAtRopes 19 = .ok (.invokevirtual 127, 3) := by decide +kernel
theorem dX4_ringersAtRopes_22 : decode cX4_ringersAtRopes 22 = .ok (.ifCond .eq 7, 3) := by decide +kernel
theorem dX4_ringersAtRopes_25 : decode cX4_ringersAtRopes 25 = .ok (.iconst 0, 1) := by decide +kernel
theorem dX4_ringersAtRopes_26 : decode cX4_ringersAtRopes 26 = .ok (.goto 4, 3) := by decide +kernel
theorem dX4_ringersAtRopes_29 : decode cX4_ringersAtRopes 29 = .ok (.iconst 1, 1) := by decide +kernel
theorem dX4_ringersAtRopes_30 : decode cX4_ringersAtRopes 30 = .ok (.iadd, 1) := by decide +kernel
theorem dX4_ringersAtRopes_31 : decode cX4_ringersAtRopes 31 = .ok (.istore_n 1, 1) := by decide +kernel
theorem dX4_ringersAtRopes_32 : decode cX4_ringersAtRopes 32 = .ok (.iinc 2 1, 3) := by decide +kernel
theorem dX4_ringersAtRopes_35 : decode cX4_ringersAtRopes 35 = .ok (.goto (-31), 3) := by decide +kernel
theorem dX4_ringersAtRopes_38 : decode cX4_ringersAtRopes 38 = .ok (.iload_n 1, 1) := by decide +kernel
theorem dX4_ringersAtRopes_39 : decode cX4_ringersAtRopes 39 = .ok (.ireturn, 1) := by decide +kernel
theorem dX4_tollsDone_0 : decode cX4_tollsDone 0 = .ok (.iconst 0, 1) := by decide +kernel
theorem dX4_tollsDone_1 : decode cX4_tollsDone 1 = .ok (.istore_n 1, 1) := by decide +kernel
theorem dX4_tollsDone_2 : decode cX4_tollsDone 2 = .ok (.iconst 0, 1) := by decide +kernel
theorem dX4_tollsDone_3 : decode cX4_tollsDone 3 = .ok (.istore_n 2, 1) := by decide +kernel
theorem dX4_tollsDone_4 : decode cX4_tollsDone 4 = .ok (.iload_n 2, 1) := by decide +kernel
theorem dX4_tollsDone_5 : decode cX4_tollsDone 5 = .ok (.aload_n 0, 1) := by decide +kernel
theorem dX4_tollsDone_6 : decode cX4_tollsDone 6 = .ok (.getfield 50, 3) := by decide +kernel
theorem dX4_tollsDone_9 : decode cX4_tollsDone 9 = .ok (.if_icmp .ge 29, 3) := by decide +kernel
theorem dX4_tollsDone_12 : decode cX4_tollsDone 12 = .ok (.iload_n 1, 1) := by decide +kernel
theorem dX4_tollsDone_13 : decode cX4_tollsDone 13 = .ok (.aload_n 0, 1) := by decide +kernel
theorem dX4_tollsDone_14 : decode cX4_tollsDone 14 = .ok (.getfield 29, 3) := by decide +kernel
theorem dX4_tollsDone_17 : decode cX4_tollsDone 17 = .ok (.iload_n 2, 1) := by decide +kernel
theorem dX4_tollsDone_18 : decode cX4_tollsDone 18 = .ok (.aaload, 1) := by decide +kernel
theorem dX4_tollsDone_19 : decode cX4_tollsDone 19 = .ok (.invokevirtual 85, 3) := by decide +kernel
theorem dX4_tollsDone_22 : decode cX4_tollsDone 22 = .ok (.ifCond .eq 7, 3) := by decide +kernel
theorem dX4_tollsDone_25 : decode cX4_tollsDone 25 = .ok (.iconst 1, 1) := by decide +kernel
theorem dX4_tollsDone_26 : decode cX4_tollsDone 26 = .ok (.goto 4, 3) := by decide +kernel
theorem dX4_tollsDone_29 : decode cX4_tollsDone 29 = .ok (.iconst 0, 1) := by decide +kernel
theorem dX4_tollsDone_30 : decode cX4_tollsDone 30 = .ok (.iadd, 1) := by decide +kernel
theorem dX4_tollsDone_31 : decode cX4_tollsDone 31 = .ok (.istore_n 1, 1) := by decide +kernel
theorem dX4_tollsDone_32 : decode cX4_tollsDone 32 = .ok (.iinc 2 1, 3) := by decide +kernel
theorem dX4_tollsDone_35 : decode cX4_tollsDone 35 = .ok (.goto (-31), 3) := by decide +kernel
theorem dX4_tollsDone_38 : decode cX4_tollsDone 38 = .ok (.iload_n 1, 1) := by decide +kernel
theorem dX4_tollsDone_39 : decode cX4_tollsDone 39 = .ok (.ireturn, 1) := by decide +kernel
theorem dX4_strokesInAll_0 : decode cX4_strokesInAll 0 = .ok (.iconst 0, 1) := by decide +kernel
theorem dX4_strokesInAll_1 : decode cX4_strokesInAll 1 = .ok (.istore_n 1, 1) := by decide +kernel
theorem dX4_strokesInAll_2 : decode cX4_strokesInAll 2 = .ok (.iconst 0, 1) := by decide +kernel
theorem dX4_strokesInAll_3 : decode cX4_strokesInAll 3 = .ok (.istore_n 2, 1) := by decide +kernel
theorem dX4_strokesInAll_4 : decode cX4_strokesInAll 4 = .ok (.iload_n 2, 1) := by decide +kernel
theorem dX4_strokesInAll_5 : decode cX4_strokesInAll 5 = .ok (.iconst 4, 1) := by decide +kernel
theorem dX4_strokesInAll_6 : decode cX4_strokesInAll 6 = .ok (.if_icmp .ge 21, 3) := by decide +kernel
theorem dX4_strokesInAll_9 : decode cX4_strokesInAll 9 = .ok (.iload_n 1, 1) := by decide +kernel
theorem dX4_strokesInAll_10 : decode cX4_strokesInAll 10 = .ok (.aload_n 0, 1) := by decide +kernel
theorem dX4_strokesInAll_11 : decode cX4_strokesInAll 11 = .ok (.getfield 11, 3) := by decide +kernel
theorem dX4_strokesInAll_14 : decode cX4_strokesInAll 14 = .ok (.iload_n 2, 1) := by decide +kernel
theorem dX4_strokesInAll_15 : decode cX4_strokesInAll 15 = .ok (.aaload, 1) := by decide +kernel
theorem dX4_strokesInAll_16 : decode cX4_strokesInAll 16 = .ok (.getfield 188, 3) := by decide +kernel
theorem dX4_strokesInAll_19 : decode cX4_strokesInAll 19 = .ok (.iadd, 1) := by decide +kernel
theorem dX4_strokesInAll_20 : decode cX4_strokesInAll 20 = .ok (.istore_n 1, 1) := by decide +kernel
theorem dX4_strokesInAll_21 : decode cX4_strokesInAll 21 = .ok (.iinc 2 1, 3) := by decide +kernel
theorem dX4_strokesInAll_24 : decode cX4_strokesInAll 24 = .ok (.goto (-20), 3) := by decide +kernel
theorem dX4_strokesInAll_27 : decode cX4_strokesInAll 27 = .ok (.iload_n 1, 1) := by decide +kernel
theorem dX4_strokesInAll_28 : decode cX4_strokesInAll 28 = .ok (.ireturn, 1) := by decide +kernel
theorem dX4_loudInAll_0 : decode cX4_loudInAll 0 = .ok (.iconst 0, 1) := by decide +kernel
theorem dX4_loudInAll_1 : decode cX4_loudInAll 1 = .ok (.istore_n 1, 1) := by decide +kernel
theorem dX4_loudInAll_2 : decode cX4_loudInAll 2 = .ok (.iconst 0, 1) := by decide +kernel
theorem dX4_loudInAll_3 : decode cX4_loudInAll 3 = .ok (.istore_n 2, 1) := by decide +kernel
theorem dX4_loudInAll_4 : decode cX4_loudInAll 4 = .ok (.iload_n 2, 1) := by decide +kernel
theorem dX4_loudInAll_5 : decode cX4_loudInAll 5 = .ok (.aload_n 0, 1) := by decide +kernel
theorem dX4_loudInAll_6 : decode cX4_loudInAll 6 = .ok (.getfield 50, 3) := by decide +kernel
theorem dX4_loudInAll_9 : decode cX4_loudInAll 9 = .ok (.if_icmp .ge 21, 3) := by decide +kernel
theorem dX4_loudInAll_12 : decode cX4_loudInAll 12 = .ok (.iload_n 1, 1) := by decide +kernel
theorem dX4_loudInAll_13 : decode cX4_loudInAll 13 = .ok (.aload_n 0, 1) := by decide +kernel
theorem dX4_loudInAll_14 : decode cX4_loudInAll 14 = .ok (.getfield 29, 3) := by decide +kernel
theorem dX4_loudInAll_17 : decode cX4_loudInAll 17 = .ok (.iload_n 2, 1) := by decide +kernel
theorem dX4_loudInAll_18 : decode cX4_loudInAll 18 = .ok (.aaload, 1) := by decide +kernel
theorem dX4_loudInAll_19 : decode cX4_loudInAll 19 = .ok (.getfield 189, 3) := by decide +kernel
theorem dX4_loudInAll_22 : decode cX4_loudInAll 22 = .ok (.iadd, 1) := by decide +kernel
theorem dX4_loudInAll_23 : decode cX4_loudInAll 23 = .ok (.istore_n 1, 1) := by decide +kernel
theorem dX4_loudInAll_24 : decode cX4_loudInAll 24 = .ok (.iinc 2 1, 3) := by decide +kernel
theorem dX4_loudInAll_27 : decode cX4_loudInAll 27 = .ok (.goto (-23), 3) := by decide +kernel
theorem dX4_loudInAll_30 : decode cX4_loudInAll 30 = .ok (.iload_n 1, 1) := by decide +kernel
theorem dX4_loudInAll_31 : decode cX4_loudInAll 31 = .ok (.ireturn, 1) := by decide +kernel
theorem dX4_leathersOnBells_0 : decode cX4_leathersOnBells 0 = .ok (.iconst 0, 1) := by decide +kernel
theorem dX4_leathersOnBells_1 : decode cX4_leathersOnBells 1 = .ok (.istore_n 1, 1) := by decide +kernel
theorem dX4_leathersOnBells_2 : decode cX4_leathersOnBells 2 = .ok (.iconst 0, 1) := by decide +kernel
theorem dX4_leathersOnBells_3 : decode cX4_leathersOnBells 3 = .ok (.istore_n 2, 1) := by decide +kernel
theorem dX4_leathersOnBells_4 : decode cX4_leathersOnBells 4 = .ok (.iload_n 2, 1) := by decide +kernel
theorem dX4_leathersOnBells_5 : decode cX4_leathersOnBells 5 = .ok (.iconst 4, 1) := by decide +kernel
theorem dX4_leathersOnBells_6 : decode cX4_leathersOnBells 6 = .ok (.if_icmp .ge 46, 3) := by decide +kernel
theorem dX4_leathersOnBells_9 : decode cX4_leathersOnBells 9 = .ok (.iconst 0, 1) := by decide +kernel
theorem dX4_leathersOnBells_10 : decode cX4_leathersOnBells 10 = .ok (.istore_n 3, 1) := by decide +kernel
theorem dX4_leathersOnBells_11 : decode cX4_leathersOnBells 11 = .ok (.iload_n 3, 1) := by decide +kernel
theorem dX4_leathersOnBells_12 : decode cX4_leathersOnBells 12 = .ok (.iconst 2, 1) := by decide +kernel
theorem dX4_leathersOnBells_13 : decode cX4_leathersOnBells 13 = .ok (.if_icmp .ge 33, 3) := by decide +kernel
theorem dX4_leathersOnBells_16 : decode cX4_leathersOnBells 16 = .ok (.iload_n 1, 1) := by decide +kernel
theorem dX4_leathersOnBells_17 : decode cX4_leathersOnBells 17 = .ok (.aload_n 0, 1) := by decide +kernel
theorem dX4_leathersOnBells_18 : decode cX4_leathersOnBells 18 = .ok (.getfield 11, 3) := by decide +kernel
theorem dX4_leathersOnBells_21 : decode cX4_leathersOnBells 21 = .ok (.iload_n 2, 1) := by decide +kernel
theorem dX4_leathersOnBells_22 : decode cX4_leathersOnBells 22 = .ok (.aaload, 1) := by decide +kernel
theorem dX4_leathersOnBells_23 : decode cX4_leathersOnBells 23 = .ok (.iload_n 3, 1) := by decide +kernel
theorem dX4_leathersOnBells_24 : decode cX4_leathersOnBells 24 = .ok (.invokevirtual 139, 3) := by decide +kernel
theorem dX4_leathersOnBells_27 : decode cX4_leathersOnBells 27 = .ok (.getfield 143, 3) := by decide +kernel
theorem dX4_leathersOnBells_30 : decode cX4_leathersOnBells 30 = .ok (.ifCond .le 7, 3) := by decide +kernel
theorem dX4_leathersOnBells_33 : decode cX4_leathersOnBells 33 = .ok (.iconst 1, 1) := by decide +kernel
theorem dX4_leathersOnBells_34 : decode cX4_leathersOnBells 34 = .ok (.goto 4, 3) := by decide +kernel
theorem dX4_leathersOnBells_37 : decode cX4_leathersOnBells 37 = .ok (.iconst 0, 1) := by decide +kernel
theorem dX4_leathersOnBells_38 : decode cX4_leathersOnBells 38 = .ok (.iadd, 1) := by decide +kernel
theorem dX4_leathersOnBells_39 : decode cX4_leathersOnBells 39 = .ok (.istore_n 1, 1) := by decide +kernel
theorem dX4_leathersOnBells_40 : decode cX4_leathersOnBells 40 = .ok (.iinc 3 1, 3) := by decide +kernel
theorem dX4_leathersOnBells_43 : decode cX4_leathersOnBells 43 = .ok (.goto (-32), 3) := by decide +kernel
theorem dX4_leathersOnBells_46 : decode cX4_leathersOnBells 46 = .ok (.iinc 2 1, 3) := by decide +kernel
theorem dX4_leathersOnBells_49 : decode cX4_leathersOnBells 49 = .ok (.goto (-45), 3) := by decide +kernel
theorem dX4_leathersOnBells_52 : decode cX4_leathersOnBells 52 = .ok (.iload_n 1, 1) := by decide +kernel
theorem dX4_leathersOnBells_53 : decode cX4_leathersOnBells 53 = .ok (.ireturn, 1) := by decide +kernel
theorem dX4_ofBell_0 : decode cX4_ofBell 0 = .ok (.aload_n 0, 1) := by decide +kernel
theorem dX4_ofBell_1 : decode cX4_ofBell 1 = .ok (.getfield 11, 3) := by decide +kernel
theorem dX4_ofBell_4 : decode cX4_ofBell 4 = .ok (.iload_n 1, 1) := by decide +kernel
theorem dX4_ofBell_5 : decode cX4_ofBell 5 = .ok (.aaload, 1) := by decide +kernel
theorem dX4_ofBell_6 : decode cX4_ofBell 6 = .ok (.astore_n 3, 1) := by decide +kernel
theorem dX4_ofBell_7 : decode cX4_ofBell 7 = .ok (.iload_n 2, 1) := by decide +kernel
theorem dX4_ofBell_8 : decode cX4_ofBell 8 = .ok (.tableswitch 95 0 7 #[48, 53, 61, 69, 74, 79, 84, 89], 48) := by decide +kernel
theorem dX4_ofBell_56 : decode cX4_ofBell 56 = .ok (.aload_n 3, 1) := by decide +kernel
theorem dX4_ofBell_57 : decode cX4_ofBell 57 = .ok (.getfield 110, 3) := by decide +kernel
theorem dX4_ofBell_60 : decode cX4_ofBell 60 = .ok (.ireturn, 1) := by decide +kernel
theorem dX4_ofBell_61 : decode cX4_ofBell 61 = .ok (.aload_n 3, 1) := by decide +kernel
theorem dX4_ofBell_62 : decode cX4_ofBell 62 = .ok (.getfield 192, 3) := by decide +kernel
theorem dX4_ofBell_65 : decode cX4_ofBell 65 = .ok (.getfield 143, 3) := by decide +kernel
theorem dX4_ofBell_68 : decode cX4_ofBell 68 = .ok (.ireturn, 1) := by decide +kernel
theorem dX4_ofBell_69 : decode cX4_ofBell 69 = .ok (.aload_n 3, 1) := by decide +kernel
theorem dX4_ofBell_70 : decode cX4_ofBell 70 = .ok (.getfield 196, 3) := by decide +kernel
theorem dX4_ofBell_73 : decode cX4_ofBell 73 = .ok (.getfield 143, 3) := by decide +kernel
theorem dX4_ofBell_76 : decode cX4_ofBell 76 = .ok (.ireturn, 1) := by decide +kernel
theorem dX4_ofBell_77 : decode cX4_ofBell 77 = .ok (.aload_n 3, 1) := by decide +kernel
theorem dX4_ofBell_78 : decode cX4_ofBell 78 = .ok (.getfield 136, 3) := by decide +kernel
theorem dX4_ofBell_81 : decode cX4_ofBell 81 = .ok (.ireturn, 1) := by decide +kernel
theorem dX4_ofBell_82 : decode cX4_ofBell 82 = .ok (.aload_n 3, 1) := by decide +kernel
theorem dX4_ofBell_83 : decode cX4_ofBell 83 = .ok (.getfield 89, 3) := by decide +kernel
theorem dX4_ofBell_86 : decode cX4_ofBell 86 = .ok (.ireturn, 1) := by decide +kernel
theorem dX4_ofBell_87 : decode cX4_ofBell 87 = .ok (.aload_n 3, 1) := by decide +kernel
theorem dX4_ofBell_88 : decode cX4_ofBell 88 = .ok (.getfield 66, 3) := by decide +kernel
theorem dX4_ofBell_91 : decode cX4_ofBell 91 = .ok (.ireturn, 1) := by decide +kernel
theorem dX4_ofBell_92 : decode cX4_ofBell 92 = .ok (.aload_n 3, 1) := by decide +kernel
theorem dX4_ofBell_93 : decode cX4_ofBell 93 = .ok (.getfield 75, 3) := by decide +kernel
theorem dX4_ofBell_96 : decode cX4_ofBell 96 = .ok (.ireturn, 1) := by decide +kernel
theorem dX4_ofBell_97 : decode cX4_ofBell 97 = .ok (.aload_n 0, 1) := by decide +kernel
theorem dX4_ofBell_98 : decode cX4_ofBell 98 = .ok (.iload_n 1, 1) := by decide +kernel
theorem dX4_ofBell_99 : decode cX4_ofBell 99 = .ok (.invokevirtual 199, 3) := by decide +kernel
theorem dX4_ofBell_102 : decode cX4_ofBell 102 = .ok (.ireturn, 1) := by decide +kernel
theorem dX4_ofBell_103 : decode cX4_ofBell 103 = .ok (.aload_n 3, 1) := by decide +kernel
theorem dX4_ofBell_104 : decode cX4_ofBell 104 = .ok (.getfield 188, 3) := by decide +kernel
theorem dX4_ofBell_107 : decode cX4_ofBell 107 = .ok (.ireturn, 1) := by decide +kernel
theorem dX4_tollsNotDone_0 : decode cX4_tollsNotDone 0 = .ok (.iconst 0, 1) := by decide +kernel
theorem dX4_tollsNotDone_1 : decode cX4_tollsNotDone 1 = .ok (.istore_n 2, 1) := by decide +kernel
theorem dX4_tollsNotDone_2 : decode cX4_tollsNotDone 2 = .ok (.iconst 0, 1) := by decide +kernel
theorem dX4_tollsNotDone_3 : decode cX4_tollsNotDone 3 = .ok (.istore_n 3, 1) := by decide +kernel
theorem dX4_tollsNotDone_4 : decode cX4_tollsNotDone 4 = .ok (.iload_n 3, 1) := by decide +kernel
theorem dX4_tollsNotDone_5 : decode cX4_tollsNotDone 5 = .ok (.aload_n 0, 1) := by decide +kernel
theorem dX4_tollsNotDone_6 : decode cX4_tollsNotDone 6 = .ok (.getfield 50, 3) := by decide +kernel
theorem dX4_tollsNotDone_9 : decode cX4_tollsNotDone 9 = .ok (.if_icmp .ge 37, 3) := by decide +kernel
theorem dX4_tollsNotDone_12 : decode cX4_tollsNotDone 12 = .ok (.aload_n 0, 1) := by decide +kernel
theorem dX4_tollsNotDone_13 : decode cX4_tollsNotDone 13 = .ok (.getfield 29, 3) := by decide +kernel
theorem dX4_tollsNotDone_16 : decode cX4_tollsNotDone 16 = .ok (.iload_n 3, 1) := by decide +kernel
theorem dX4_tollsNotDone_17 : decode cX4_tollsNotDone 17 = .ok (.aaload, 1) := by decide +kernel
theorem dX4_tollsNotDone_18 : decode cX4_tollsNotDone 18 = .ok (.getfield 72, 3) := by decide +kernel
theorem dX4_tollsNotDone_21 : decode cX4_tollsNotDone 21 = .ok (.iload_n 1, 1) := by decide +kernel
theorem dX4_tollsNotDone_22 : decode cX4_tollsNotDone 22 = .ok (.if_icmp .ne 18, 3) := by decide +kernel
theorem dX4_tollsNotDone_25 : decode cX4_tollsNotDone 25 = .ok (.aload_n 0, 1) := by decide +kernel
theorem dX4_tollsNotDone_26 : decode cX4_tollsNotDone 26 = .ok (.getfield 29, 3) := by decide +kernel
theorem dX4_tollsNotDone_29 : decode cX4_tollsNotDone 29 = .ok (.iload_n 3, 1) := by decide +kernel
theorem dX4_tollsNotDone_30 : decode cX4_tollsNotDone 30 = .ok (.aaload, 1) := by decide +kernel
theorem dX4_tollsNotDone_31 : decode cX4_tollsNotDone 31 = .ok (.invokevirtual 85, 3) := by decide +kernel
theorem dX4_tollsNotDone_34 : decode cX4_tollsNotDone 34 = .ok (.ifCond .ne 6, 3) := by decide +kernel
theorem dX4_tollsNotDone_37 : decode cX4_tollsNotDone 37 = .ok (.iinc 2 1, 3) := by decide +kernel
theorem dX4_tollsNotDone_40 : decode cX4_tollsNotDone 40 = .ok (.iinc 3 1, 3) := by decide +kernel
theorem dX4_tollsNotDone_43 : decode cX4_tollsNotDone 43 = .ok (.goto (-39), 3) := by decide +kernel
theorem dX4_tollsNotDone_46 : decode cX4_tollsNotDone 46 = .ok (.iload_n 2, 1) := by decide +kernel
theorem dX4_tollsNotDone_47 : decode cX4_tollsNotDone 47 = .ok (.ireturn, 1) := by decide +kernel
theorem dX5_init_0 : decode cX5_init 0 = .ok (.aload_n 0, 1) := by decide +kernel
theorem dX5_init_1 : decode cX5_init 1 = .ok (.invokespecial 1, 3) := by decide +kernel
theorem dX5_init_4 : decode cX5_init 4 = .ok (.aload_n 0, 1) := by decide +kernel
theorem dX5_init_5 : decode cX5_init 5 = .ok (.new 7, 3) := by decide +kernel
theorem dX5_init_8 : decode cX5_init 8 = .ok (.dup, 1) := by decide +kernel
theorem dX5_init_9 : decode cX5_init 9 = .ok (.iconst 1, 1) := by decide +kernel
theorem dX5_init_10 : decode cX5_init 10 = .ok (.invokespecial 9, 3) := by decide +kernel
theorem dX5_init_13 : decode cX5_init 13 = .ok (.putfield 12, 3) := by decide +kernel
theorem dX5_init_16 : decode cX5_init 16 = .ok (.aload_n 0, 1) := by decide +kernel
theorem dX5_init_17 : decode cX5_init 17 = .ok (.new 7, 3) := by decide +kernel
theorem dX5_init_20 : decode cX5_init 20 = .ok (.dup, 1) := by decide +kernel
theorem dX5_init_21 : decode cX5_init 21 = .ok (.iconst 0, 1) := by decide +kernel
theorem dX5_init_22 : decode cX5_init 22 = .ok (.invokespecial 9, 3) := by decide +kernel
theorem dX5_init_25 : decode cX5_init 25 = .ok (.putfield 18, 3) := by decide +kernel
theorem dX5_init_28 : decode cX5_init 28 = .ok (.return_, 1) := by decide +kernel
theorem dX5_weigh_0 : decode cX5_weigh 0 = .ok (.iload_n 1, 1) := by decide +kernel
theorem dX5_weigh_1 : decode cX5_weigh 1 = .ok (.invokestatic 21, 3) := by decide +kernel
theorem dX5_weigh_4 : decode cX5_weigh 4 = .ok (.iload_n 2, 1) := by decide +kernel
theorem dX5_weigh_5 : decode cX5_weigh 5 = .ok (.iconst 1, 1) := by decide +kernel
theorem dX5_weigh_6 : decode cX5_weigh 6 = .ok (.bipush 9, 2) := by decide +kernel
theorem dX5_weigh_8 : decode cX5_weigh 8 = .ok (.invokestatic 25, 3) := by decide +kernel
theorem dX5_weigh_11 : decode cX5_weigh 11 = .ok (.aload_n 0, 1) := by decide +kernel
theorem dX5_weigh_12 : decode cX5_weigh 12 = .ok (.getfield 12, 3) := by decide +kernel
theorem dX5_weigh_15 : decode cX5_weigh 15 = .ok (.getfield 29, 3) := by decide +kernel
theorem dX5_weigh_18 : decode cX5_weigh 18 = .ok (.iload_n 1, 1) := by decide +kernel
theorem dX5_weigh_19 : decode cX5_weigh 19 = .ok (.aaload, 1) := by decide +kernel
theorem dX5_weigh_20 : decode cX5_weigh 20 = .ok (.getfield 33, 3) := by decide +kernel
theorem dX5_weigh_23 : decode cX5_weigh 23 = .ok (.istore_n 3, 1) := by decide +kernel
theorem dX5_weigh_24 : decode cX5_weigh 24 = .ok (.aload_n 0, 1) := by decide +kernel
theorem dX5_weigh_25 : decode cX5_weigh 25 = .ok (.getfield 12, 3) := by decide +kernel
theorem dX5_weigh_28 : decode cX5_weigh 28 = .ok (.getfield 29, 3) := by decide +kernel
theorem dX5_weigh_31 : decode cX5_weigh 31 = .ok (.iload_n 1, 1) := by decide +kernel
theorem dX5_weigh_32 : decode cX5_weigh 32 = .ok (.aaload, 1) := by decide +kernel
theorem dX5_weigh_33 : decode cX5_weigh 33 = .ok (.iload_n 2, 1) := by decide +kernel
theorem dX5_weigh_34 : decode cX5_weigh 34 = .ok (.putfield 33, 3) := by decide +kernel
theorem dX5_weigh_37 : decode cX5_weigh 37 = .ok (.iload_n 3, 1) := by decide +kernel
theorem dX5_weigh_38 : decode cX5_weigh 38 = .ok (.ireturn, 1) := by decide +kernel
theorem dX5_fit_0 : decode cX5_fit 0 = .ok (.iload_n 1, 1) := by decide +kernel
theorem dX5_fit_1 : decode cX5_fit 1 = .ok (.invokestatic 21, 3) := by decide +kernel
theorem dX5_fit_4 : decode cX5_fit 4 = .ok (.iload_n 2, 1) := by decide +kernel
theorem dX5_fit_5 : decode cX5_fit 5 = .ok (.iconst 2, 1) := by decide +kernel
theorem dX5_fit_6 : decode cX5_fit 6 = .ok (.invokestatic 39, 3) := by decide +kernel
theorem dX5_fit_9 : decode cX5_fit 9 = .ok (.iload_n 3, 1) := by decide +kernel
theorem dX5_fit_10 : decode cX5_fit 10 = .ok (.iconst 0, 1) := by decide +kernel
theorem dX5_fit_11 : decode cX5_fit 11 = .ok (.bipush 9, 2) := by decide +kernel
theorem dX5_fit_13 : decode cX5_fit 13 = .ok (.invokestatic 25, 3) := by decide +kernel
theorem dX5_fit_16 : decode cX5_fit 16 = .ok (.iload_n 3, 1) := by decide +kernel
theorem dX5_fit_17 : decode cX5_fit 17 = .ok (.ifCond .eq 23, 3) := by decide +kernel
theorem dX5_fit_20 : decode cX5_fit 20 = .ok (.aload_n 0, 1) := by decide +kernel
theorem dX5_fit_21 : decode cX5_fit 21 = .ok (.getfield 12, 3) := by decide +kernel
theorem dX5_fit_24 : decode cX5_fit 24 = .ok (.getfield 43, 3) := by decide +kernel
theorem dX5_fit_27 : decode cX5_fit 27 = .ok (.ifCond .ne 13, 3) := by decide +kernel
theorem dX5_fit_30 : decode cX5_fit 30 = .ok (.new 46, 3) := by decide +kernel
theorem dX5_fit_33 : decode cX5_fit 33 = .ok (.dup, 1) := by decide +kernel
theorem dX5_fit_34 : decode cX5_fit 34 = .ok (.ldc 48, 2) := by decide +kernel
theorem dX5_fit_36 : decode cX5_fit 36 = .ok (.invokespecial 50, 3) := by decide +kernel
theorem dX5_fit_39 : decode cX5_fit 39 = .ok (.athrow, 1) := by decide +kernel
theorem dX5_fit_40 : decode cX5_fit 40 = .ok (.aload_n 0, 1) := by decide +kernel
theorem dX5_fit_41 : decode cX5_fit 41 = .ok (.getfield 12, 3) := by decide +kernel
theorem dX5_fit_44 : decode cX5_fit 44 = .ok (.getfield 29, 3) := by decide +kernel
theorem dX5_fit_47 : decode cX5_fit 47 = .ok (.iload_n 1, 1) := by decide +kernel
theorem dX5_fit_48 : decode cX5_fit 48 = .ok (.aaload, 1) := by decide +kernel
theorem dX5_fit_49 : decode cX5_fit 49 = .ok (.iload_n 2, 1) := by decide +kernel
theorem dX5_fit_50 : decode cX5_fit 50 = .ok (.invokevirtual 53, 3) := by decide +kernel
theorem dX5_fit_53 : decode cX5_fit 53 = .ok (.astore 4, 2) := by decide +kernel
theorem dX5_fit_55 : decode cX5_fit 55 = .ok (.aload 4, 2) := by decide +kernel
theorem dX5_fit_57 : decode cX5_fit 57 = .ok (.getfield 57, 3) := by decide +kernel
theorem dX5_fit_60 : decode cX5_fit 60 = .ok (.istore 5, 2) := by decide +kernel
theorem dX5_fit_62 : decode cX5_fit 62 = .ok (.aload 4, 2) := by decide +kernel
theorem dX5_fit_64 : decode cX5_fit 64 = .ok (.iload_n 3, 1) := by decide +kernel
theorem dX5_fit_65 : decode cX5_fit 65 = .ok (.invokevirtual 62, 3) := by decide +kernel
theorem dX5_fit_68 : decode cX5_fit 68 = .ok (.iload_n 3, 1) := by decide +kernel
theorem dX5_fit_69 : decode cX5_fit 69 = .ok (.ifCond .eq 16, 3) := by decide +kernel
theorem dX5_fit_72 : decode cX5_fit 72 = .ok (.aload_n 0, 1) := by decide +kernel
theorem dX5_fit_73 : decode cX5_fit 73 = .ok (.getfield 12, 3) := by decide +kernel
theorem dX5_fit_76 : decode cX5_fit 76 = .ok (.dup, 1) := by decide +kernel
theorem dX5_fit_77 : decode cX5_fit 77 = .ok (.getfield 43, 3) := by decide +kernel
theorem dX5_fit_80 : decode cX5_fit 80 = .ok (.iconst 1, 1) := by decide +kernel
theorem dX5_fit_81 : decode cX5_fit 81 = .ok (.isub, 1) := by decide +kernel
theorem dX5_fit_82 : decode cX5_fit 82 = .ok (.putfield 43, 3) := by decide +kernel
theorem dX5_fit_85 : decode cX5_fit 85 = .ok (.iload 5, 2) := by decide +kernel
theorem dX5_fit_87 : decode cX5_fit 87 = .ok (.ireturn, 1) := by decide +kernel
theorem dX5_store_0 : decode cX5_store 0 = .ok (.iload_n 1, 1) := by decide +kernel
theorem dX5_store_1 : decode cX5_store 1 = .ok (.iconst 1, 1) := by decide +kernel
theorem dX5_store_2 : decode cX5_store 2 = .ok (.bipush 50, 2) := by decide +kernel
theorem dX5_store_4 : decode cX5_store 4 = .ok (.invokestatic 25, 3) := by decide +kernel
theorem dX5_store_7 : decode cX5_store 7 = .ok (.aload_n 0, 1) := by decide +kernel
theorem dX5_store_8 : decode cX5_store 8 = .ok (.getfield 12, 3) := by decide +kernel
theorem dX5_store_11 : decode cX5_store 11 = .ok (.bipush 99, 2) := by decide +kernel
theorem dX5_store_13 : decode cX5_store 13 = .ok (.aload_n 0, 1) := by decide +kernel
theorem dX5_store_14 : decode cX5_store 14 = .ok (.getfield 12, 3) := by decide +kernel
theorem dX5_store_17 : decode cX5_store 17 = .ok (.getfield 43, 3) := by decide +kernel
theorem dX5_store_20 : decode cX5_store 20 = .ok (.iload_n 1, 1) := by decide +kernel
theorem dX5_store_21 : decode cX5_store 21 = .ok (.iadd, 1) := by decide +kernel
theorem dX5_store_22 : decode cX5_store 22 = .ok (.invokestatic 65, 3) := by decide +kernel
theorem dX5_store_25 : decode cX5_store 25 = .ok (.putfield 43, 3) := by decide +kernel
theorem dX5_store_28 : decode cX5_store 28 = .ok (.aload_n 0, 1) := by decide +kernel
theorem dX5_store_29 : decode cX5_store 29 = .ok (.getfield 12, 3) := by decide +kernel
theorem dX5_store_32 : decode cX5_store 32 = .ok (.getfield 43, 3) := by decide +kernel
theorem dX5_store_35 : decode cX5_store 35 = .ok (.ireturn, 1) := by decide +kernel
theorem dX5_lasts_0 : decode cX5_lasts 0 = .ok (.iload_n 1, 1) := by decide +kernel
theorem dX5_lasts_1 : decode cX5_lasts 1 = .ok (.invokestatic 21, 3) := by decide +kernel
theorem dX5_lasts_4 : decode cX5_lasts 4 = .ok (.iload_n 2, 1) := by decide +kernel
theorem dX5_lasts_5 : decode cX5_lasts 5 = .ok (.iconst 2, 1) := by decide +kernel
theorem dX5_lasts_6 : decode cX5_lasts 6 = .ok (.invokestatic 39, 3) := by decide +kernel
theorem dX5_lasts_9 : decode cX5_lasts 9 = .ok (.aload_n 0, 1) := by decide +kernel
theorem dX5_lasts_10 : decode cX5_lasts 10 = .ok (.getfield 12, 3) := by decide +kernel
theorem dX5_lasts_13 : decode cX5_lasts 13 = .ok (.getfield 29, 3) := by decide +kernel
theorem dX5_lasts_16 : decode cX5_lasts 16 = .ok (.iload_n 1, 1) := by decide +kernel
theorem dX5_lasts_17 : decode cX5_lasts 17 = .ok (.aaload, 1) := by decide +kernel
theorem dX5_lasts_18 : decode cX5_lasts 18 = .ok (.iload_n 2, 1) := by decide +kernel
theorem dX5_lasts_19 : decode cX5_lasts 19 = .ok (.invokevirtual 71, 3) := by decide +kernel
theorem dX5_lasts_22 : decode cX5_lasts 22 = .ok (.ireturn, 1) := by decide +kernel
theorem dX5_bell_0 : decode cX5_bell 0 = .ok (.iload_n 1, 1) := by decide +kernel
theorem dX5_bell_1 : decode cX5_bell 1 = .ok (.invokestatic 21, 3) := by decide +kernel
theorem dX5_bell_4 : decode cX5_bell 4 = .ok (.iload_n 2, 1) := by decide +kernel
theorem dX5_bell_5 : decode cX5_bell 5 = .ok (.bipush 9, 2) := by decide +kernel
theorem dX5_bell_7 : decode cX5_bell 7 = .ok (.invokestatic 39, 3) := by decide +kernel
theorem dX5_bell_10 : decode cX5_bell 10 = .ok (.aload_n 0, 1) := by decide +kernel
theorem dX5_bell_11 : decode cX5_bell 11 = .ok (.getfield 12, 3) := by decide +kernel
theorem dX5_bell_14 : decode cX5_bell 14 = .ok (.iload_n 1, 1) := by decide +kernel
theorem dX5_bell_15 : decode cX5_bell 15 = .ok (.iload_n 2, 1) := by decide +kernel
theorem dX5_bell_16 : decode cX5_bell 16 = .ok (.invokevirtual 75, 3) := by decide +kernel
theorem dX5_bell_19 : decode cX5_bell 19 = .ok (.ireturn, 1) := by decide +kernel
theorem dX5_ringer_0 : decode cX5_ringer 0 = .ok (.iload_n 1, 1) := by decide +kernel
theorem dX5_ringer_1 : decode cX5_ringer 1 = .ok (.iconst 1, 1) := by decide +kernel
theorem dX5_ringer_2 : decode cX5_ringer 2 = .ok (.bipush 9, 2) := by decide +kernel
theorem dX5_ringer_4 : decode cX5_ringer 4 = .ok (.invokestatic 25, 3) := by decide +kernel
theorem dX5_ringer_7 : decode cX5_ringer 7 = .ok (.aload_n 0, 1) := by decide +kernel
theorem dX5_ringer_8 : decode cX5_ringer 8 = .ok (.getfield 12, 3) := by decide +kernel
theorem dX5_ringer_11 : decode cX5_ringer 11 = .ok (.getfield 78, 3) := by decide +kernel
theorem dX5_ringer_14 : decode cX5_ringer 14 = .ok (.bipush 12, 2) := by decide +kernel
theorem dX5_ringer_16 : decode cX5_ringer 16 = .ok (.if_icmp .lt 13, 3) := by decide +kernel
theorem dX5_ringer_19 : decode cX5_ringer 19 = .ok (.new 46, 3) := by decide +kernel
theorem dX5_ringer_22 : decode cX5_ringer 22 = .ok (.dup, 1) := by decide +kernel
theorem dX5_ringer_23 : decode cX5_ringer 23 = .ok (.ldc 81, 2) := by decide +kernel
theorem dX5_ringer_25 : decode cX5_ringer 25 = .ok (.invokespecial 50, 3) := by decide +kernel
theorem dX5_ringer_28 : decode cX5_ringer 28 = .ok (.athrow, 1) := by decide +kernel
theorem dX5_ringer_29 : decode cX5_ringer 29 = .ok (.aload_n 0, 1) := by decide +kernel
theorem dX5_ringer_30 : decode cX5_ringer 30 = .ok (.getfield 12, 3) := by decide +kernel
theorem dX5_ringer_33 : decode cX5_ringer 33 = .ok (.iload_n 1, 1) := by decide +kernel
theorem dX5_ringer_34 : decode cX5_ringer 34 = .ok (.invokevirtual 83, 3) := by decide +kernel
theorem dX5_ringer_37 : decode cX5_ringer 37 = .ok (.ireturn, 1) := by decide +kernel
theorem dX5_send_0 : decode cX5_send 0 = .ok (.iload_n 1, 1) := by decide +kernel
theorem dX5_send_1 : decode cX5_send 1 = .ok (.invokestatic 21, 3) := by decide +kernel
theorem dX5_send_4 : decode cX5_send 4 = .ok (.iload_n 2, 1) := by decide +kernel
theorem dX5_send_5 : decode cX5_send 5 = .ok (.aload_n 0, 1) := by decide +kernel
theorem dX5_send_6 : decode cX5_send 6 = .ok (.getfield 12, 3) := by decide +kernel
theorem dX5_send_9 : decode cX5_send 9 = .ok (.getfield 78, 3) := by decide +kernel
theorem dX5_send_12 : decode cX5_send 12 = .ok (.invokestatic 39, 3) := by decide +kernel
theorem dX5_send_15 : decode cX5_send 15 = .ok (.aload_n 0, 1) := by decide +kernel
theorem dX5_send_16 : decode cX5_send 16 = .ok (.getfield 12, 3) := by decide +kernel
theorem dX5_send_19 : decode cX5_send 19 = .ok (.getfield 86, 3) := by decide +kernel
theorem dX5_send_22 : decode cX5_send 22 = .ok (.iload_n 2, 1) := by decide +kernel
theorem dX5_send_23 : decode cX5_send 23 = .ok (.aaload, 1) := by decide +kernel
theorem dX5_send_24 : decode cX5_send 24 = .ok (.invokevirtual 90, 3) := by decide +kernel
theorem dX5_send_27 : decode cX5_send 27 = .ok (.ifCond .ne 13, 3) := by decide +kernel
theorem dX5_send_30 : decode cX5_send 30 = .ok (.new 46, 3) := by decide +kernel
theorem dX5_send_33 : decode cX5_send 33 = .ok (.dup, 1) := by decide +kernel
theorem dX5_send_34 : decode cX5_send 34 = .ok (.ldc 96, 2) := by decide +kernel
theorem dX5_send_36 : decode cX5_send 36 = .ok (.invokespecial 50, 3) := by decide +kernel
theorem dX5_send_39 : decode cX5_send 39 = .ok (.athrow, 1) := by decide +kernel
theorem dX5_send_40 : decode cX5_send 40 = .ok (.aload_n 0, 1) := by decide +kernel
theorem dX5_send_41 : decode cX5_send 41 = .ok (.getfield 12, 3) := by decide +kernel
theorem dX5_send_44 : decode cX5_send 44 = .ok (.getfield 29, 3) := by decide +kernel
theorem dX5_send_47 : decode cX5_send 47 = .ok (.iload_n 1, 1) := by decide +kernel
theorem dX5_send_48 : decode cX5_send 48 = .ok (.aaload, 1) := by decide +kernel
theorem dX5_send_49 : decode cX5_send 49 = .ok (.getfield 98, 3) := by decide +kernel
theorem dX5_send_52 : decode cX5_send 52 = .ok (.istore_n 3, 1) := by decide +kernel
theorem dX5_send_53 : decode cX5_send 53 = .ok (.aload_n 0, 1) := by decide +kernel
theorem dX5_send_54 : decode cX5_send 54 = .ok (.getfield 12, 3) := by decide +kernel
theorem dX5_send_57 : decode cX5_send 57 = .ok (.iload_n 1, 1) := by decide +kernel
theorem dX5_send_58 : decode cX5_send 58 = .ok (.iload_n 2, 1) := by decide +kernel
theorem dX5_send_59 : decode cX5_send 59 = .ok (.invokevirtual 101, 3) := by decide +kernel
theorem dX5_send_62 : decode cX5_send 62 = .ok (.iload_n 3, 1) := by decide +kernel
theorem dX5_send_63 : decode cX5_send 63 = .ok (.ireturn, 1) := by decide +kernel
theorem dX5_told_0 : decode cX5_told 0 = .ok (.iload_n 1, 1) := by decide +kernel
theorem dX5_told_1 : decode cX5_told 1 = .ok (.aload_n 0, 1) := by decide +kernel
theorem dX5_told_2 : decode cX5_told 2 = .ok (.getfield 12, 3) := by decide +kernel
theorem dX5_told_5 : decode cX5_told 5 = .ok (.getfield 78, 3) := by decide +kernel
theorem dX5_told_8 : decode cX5_told 8 = .ok (.invokestatic 39, 3) := by decide +kernel
theorem dX5_told_11 : decode cX5_told 11 = .ok (.iload_n 2, 1) := by decide +kernel
theorem dX5_told_12 : decode cX5_told 12 = .ok (.iconst 5, 1) := by decide +kernel
theorem dX5_told_13 : decode cX5_told 13 = .ok (.invokestatic 39, 3) := by decide +kernel
theorem dX5_told_16 : decode cX5_told 16 = .ok (.aload_n 0, 1) := by decide +kernel
theorem dX5_told_17 : decode cX5_told 17 = .ok (.getfield 12, 3) := by decide +kernel
theorem dX5_told_20 : decode cX5_told 20 = .ok (.getfield 86, 3) := by decide +kernel
theorem dX5_told_23 : decode cX5_told 23 = .ok (.iload_n 1, 1) := by decide +kernel
theorem dX5_told_24 : decode cX5_told 24 = .ok (.aaload, 1) := by decide +kernel
theorem dX5_told_25 : decode cX5_told 25 = .ok (.iload_n 2, 1) := by decide +kernel
theorem dX5_told_26 : decode cX5_told 26 = .ok (.invokevirtual 104, 3) := by decide +kernel
theorem dX5_told_29 : decode cX5_told 29 = .ok (.ireturn, 1) := by decide +kernel
theorem dX5_toll_0 : decode cX5_toll 0 = .ok (.iload_n 1, 1) := by decide +kernel
theorem dX5_toll_1 : decode cX5_toll 1 = .ok (.invokestatic 21, 3) := by decide +kernel
theorem dX5_toll_4 : decode cX5_toll 4 = .ok (.iload_n 2, 1) := by decide +kernel
theorem dX5_toll_5 : decode cX5_toll 5 = .ok (.iload_n 3, 1) := by decide +kernel
theorem dX5_toll_6 : decode cX5_toll 6 = .ok (.iload 4, 2) := by decide +kernel
theorem dX5_toll_8 : decode cX5_toll 8 = .ok (.invokestatic 107, 3) := by decide +kernel
theorem dX5_toll_11 : decode cX5_toll 11 = .ok (.aload_n 0, 1) := by decide +kernel
theorem dX5_toll_12 : decode cX5_toll 12 = .ok (.getfield 12, 3) := by decide +kernel
theorem dX5_toll_15 : decode cX5_toll 15 = .ok (.getfield 110, 3) := by decide +kernel
theorem dX5_toll_18 : decode cX5_toll 18 = .ok (.bipush 20, 2) := by decide +kernel
theorem dX5_toll_20 : decode cX5_toll 20 = .ok (.if_icmp .lt 13, 3) := by decide +kernel
theorem dX5_toll_23 : decode cX5_toll 23 = .ok (.new 46, 3) := by decide +kernel
theorem dX5_toll_26 : decode cX5_toll 26 = .ok (.dup, 1) := by decide +kernel
theorem dX5_toll_27 : decode cX5_toll 27 = .ok (.ldc 113, 2) := by decide +kernel
theorem dX5_toll_29 : decode cX5_toll 29 = .ok (.invokespecial 50, 3) := by decide +kernel
theorem dX5_toll_32 : decode cX5_toll 32 = .ok (.athrow, 1) := by decide +kernel
theorem dX5_toll_33 : decode cX5_toll 33 = .ok (.aload_n 0, 1) := by decide +kernel
theorem dX5_toll_34 : decode cX5_toll 34 = .ok (.getfield 12, 3) := by decide +kernel
theorem dX5_toll_37 : decode cX5_toll 37 = .ok (.iload_n 1, 1) := by decide +kernel
theorem dX5_toll_38 : decode cX5_toll 38 = .ok (.iload_n 2, 1) := by decide +kernel
theorem dX5_toll_39 : decode cX5_toll 39 = .ok (.iload_n 3, 1) := by decide +kernel
theorem dX5_toll_40 : decode cX5_toll 40 = .ok (.iload 4, 2) := by decide +kernel
theorem dX5_toll_42 : decode cX5_toll 42 = .ok (.invokevirtual 115, 3) := by decide +kernel
theorem dX5_toll_45 : decode cX5_toll 45 = .ok (.ireturn, 1) := by decide +kernel
theorem dX5_stop_0 : decode cX5_stop 0 = .ok (.iload_n 1, 1) := by decide +kernel
theorem dX5_stop_1 : decode cX5_stop 1 = .ok (.aload_n 0, 1) := by decide +kernel
theorem dX5_stop_2 : decode cX5_stop 2 = .ok (.getfield 12, 3) := by decide +kernel
theorem dX5_stop_5 : decode cX5_stop 5 = .ok (.getfield 110, 3) := by decide +kernel
theorem dX5_stop_8 : decode cX5_stop 8 = .ok (.invokestatic 39, 3) := by decide +kernel
theorem dX5_stop_11 : decode cX5_stop 11 = .ok (.aload_n 0, 1) := by decide +kernel
theorem dX5_stop_12 : decode cX5_stop 12 = .ok (.getfield 12, 3) := by decide +kernel
theorem dX5_stop_15 : decode cX5_stop 15 = .ok (.getfield 119, 3) := by decide +kernel
theorem dX5_stop_18 : decode cX5_stop 18 = .ok (.iload_n 1, 1) := by decide +kernel
theorem dX5_stop_19 : decode cX5_stop 19 = .ok (.aaload, 1) := by decide +kernel
theorem dX5_stop_20 : decode cX5_stop 20 = .ok (.invokevirtual 123, 3) := by decide +kernel
theorem dX5_stop_23 : decode cX5_stop 23 = .ok (.ifCond .eq 13, 3) := by decide +kernel
theorem dX5_stop_26 : decode cX5_stop 26 = .ok (.new 46, 3) := by decide +kernel
theorem dX5_stop_29 : decode cX5_stop 29 = .ok (.dup, 1) := by decide +kernel
theorem dX5_stop_30 : decode cX5_stop 30 = .ok (.ldc 128, 2) := by decide +kernel
theorem dX5_stop_32 : decode cX5_stop 32 = .ok (.invokespecial 50, 3) := by decide +kernel
theorem dX5_stop_35 : decode cX5_stop 35 = .ok (.athrow, 1) := by decide +kernel
theorem dX5_stop_36 : decode cX5_stop 36 = .ok (.aload_n 0, 1) := by decide +kernel
theorem dX5_stop_37 : decode cX5_stop 37 = .ok (.getfield 12, 3) := by decide +kernel
theorem dX5_stop_40 : decode cX5_stop 40 = .ok (.iload_n 1, 1) := by decide +kernel
theorem dX5_stop_41 : decode cX5_stop 41 = .ok (.invokevirtual 130, 3) := by decide +kernel
theorem dX5_stop_44 : decode cX5_stop 44 = .ok (.aload_n 0, 1) := by decide +kernel
theorem dX5_stop_45 : decode cX5_stop 45 = .ok (.getfield 12, 3) := by decide +kernel
theorem dX5_stop_48 : decode cX5_stop 48 = .ok (.getfield 119, 3) := by decide +kernel
theorem dX5_stop_51 : decode cX5_stop 51 = .ok (.iload_n 1, 1) := by decide +kernel
theorem dX5_stop_52 : decode cX5_stop 52 = .ok (.aaload, 1) := by decide +kernel
theorem dX5_stop_53 : decode cX5_stop 53 = .ok (.invokevirtual 133, 3) := by decide +kernel
theorem dX5_stop_56 : decode cX5_stop 56 = .ok (.aload_n 0, 1) := by decide +kernel
theorem dX5_stop_57 : decode cX5_stop 57 = .ok (.getfield 12, 3) := by decide +kernel
theorem dX5_stop_60 : decode cX5_stop 60 = .ok (.getfield 119, 3) := by decide +kernel
theorem dX5_stop_63 : decode cX5_stop 63 = .ok (.iload_n 1, 1) := by decide +kernel
theorem dX5_stop_64 : decode cX5_stop 64 = .ok (.aaload, 1) := by decide +kernel
theorem dX5_stop_65 : decode cX5_stop 65 = .ok (.getfield 137, 3) := by decide +kernel
theorem dX5_stop_68 : decode cX5_stop 68 = .ok (.isub, 1) := by decide +kernel
theorem dX5_stop_69 : decode cX5_stop 69 = .ok (.ireturn, 1) := by decide +kernel
theorem dX5_about_0 : decode cX5_about 0 = .ok (.iload_n 1, 1) := by decide +kernel
theorem dX5_about_1 : decode cX5_about 1 = .ok (.aload_n 0, 1) := by decide +kernel
theorem dX5_about_2 : decode cX5_about 2 = .ok (.getfield 12, 3) := by decide +kernel
theorem dX5_about_5 : decode cX5_about 5 = .ok (.getfield 110, 3) := by decide +kernel
theorem dX5_about_8 : decode cX5_about 8 = .ok (.invokestatic 39, 3) := by decide +kernel
theorem dX5_about_11 : decode cX5_about 11 = .ok (.iload_n 2, 1) := by decide +kernel
theorem dX5_about_12 : decode cX5_about 12 = .ok (.bipush 9, 2) := by decide +kernel
theorem dX5_about_14 : decode cX5_about 14 = .ok (.invokestatic 39, 3) := by decide +kernel
theorem dX5_about_17 : decode cX5_about 17 = .ok (.aload_n 0, 1) := by decide +kernel
theorem dX5_about_18 : decode cX5_about 18 = .ok (.getfield 12, 3) := by decide +kernel
theorem dX5_about_21 : decode cX5_about 21 = .ok (.getfield 119, 3) := by decide +kernel
theorem dX5_about_24 : decode cX5_about 24 = .ok (.iload_n 1, 1) := by decide +kernel
theorem dX5_about_25 : decode cX5_about 25 = .ok (.aaload, 1) := by decide +kernel
theorem dX5_about_26 : decode cX5_about 26 = .ok (.iload_n 2, 1) := by decide +kernel
theorem dX5_about_27 : decode cX5_about 27 = .ok (.invokevirtual 140, 3) := by decide +kernel
theorem dX5_about_30 : decode cX5_about 30 = .ok (.ireturn, 1) := by decide +kernel
theorem dX5_heard_0 : decode cX5_heard 0 = .ok (.iload_n 1, 1) := by decide +kernel
theorem dX5_heard_1 : decode cX5_heard 1 = .ok (.aload_n 0, 1) := by decide +kernel
theorem dX5_heard_2 : decode cX5_heard 2 = .ok (.getfield 12, 3) := by decide +kernel
theorem dX5_heard_5 : decode cX5_heard 5 = .ok (.getfield 110, 3) := by decide +kernel
theorem dX5_heard_8 : decode cX5_heard 8 = .ok (.invokestatic 39, 3) := by decide +kernel
theorem dX5_heard_11 : decode cX5_heard 11 = .ok (.iload_n 2, 1) := by decide +kernel
theorem dX5_heard_12 : decode cX5_heard 12 = .ok (.iconst 0, 1) := by decide +kernel
theorem dX5_heard_13 : decode cX5_heard 13 = .ok (.bipush 90, 2) := by decide +kernel
theorem dX5_heard_15 : decode cX5_heard 15 = .ok (.invokestatic 25, 3) := by decide +kernel
theorem dX5_heard_18 : decode cX5_heard 18 = .ok (.aload_n 0, 1) := by decide +kernel
theorem dX5_heard_19 : decode cX5_heard 19 = .ok (.getfield 12, 3) := by decide +kernel
theorem dX5_heard_22 : decode cX5_heard 22 = .ok (.getfield 119, 3) := by decide +kernel
theorem dX5_heard_25 : decode cX5_heard 25 = .ok (.iload_n 1, 1) := by decide +kernel
theorem dX5_heard_26 : decode cX5_heard 26 = .ok (.aaload, 1) := by decide +kernel
theorem dX5_heard_27 : decode cX5_heard 27 = .ok (.iload_n 2, 1) := by decide +kernel
theorem dX5_heard_28 : decode cX5_heard 28 = .ok (.invokevirtual 141, 3) := by decide +kernel
theorem dX5_heard_31 : decode cX5_heard 31 = .ok (.ireturn, 1) := by decide +kernel
theorem dX5_count_0 : decode cX5_count 0 = .ok (.iload_n 1, 1) := by decide +kernel
theorem dX5_count_1 : decode cX5_count 1 = .ok (.bipush 9, 2) := by decide +kernel
theorem dX5_count_3 : decode cX5_count 3 = .ok (.invokestatic 39, 3) := by decide +kernel
theorem dX5_count_6 : decode cX5_count 6 = .ok (.aload_n 0, 1) := by decide +kernel
theorem dX5_count_7 : decode cX5_count 7 = .ok (.getfield 12, 3) := by decide +kernel
theorem dX5_count_10 : decode cX5_count 10 = .ok (.iload_n 1, 1) := by decide +kernel
theorem dX5_count_11 : decode cX5_count 11 = .ok (.invokevirtual 144, 3) := by decide +kernel
theorem dX5_count_14 : decode cX5_count 14 = .ok (.ireturn, 1) := by decide +kernel
theorem dX5_pass_0 : decode cX5_pass 0 = .ok (.iload_n 1, 1) := by decide +kernel
theorem dX5_pass_1 : decode cX5_pass 1 = .ok (.iconst 1, 1) := by decide +kernel
theorem dX5_pass_2 : decode cX5_pass 2 = .ok (.sipush 240, 3) := by decide +kernel
theorem dX5_pass_5 : decode cX5_pass 5 = .ok (.invokestatic 25, 3) := by decide +kernel
theorem dX5_pass_8 : decode cX5_pass 8 = .ok (.aload_n 0, 1) := by decide +kernel
theorem dX5_pass_9 : decode cX5_pass 9 = .ok (.getfield 12, 3) := by decide +kernel
theorem dX5_pass_12 : decode cX5_pass 12 = .ok (.iload_n 1, 1) := by decide +kernel
theorem dX5_pass_13 : decode cX5_pass 13 = .ok (.invokevirtual 147, 3) := by decide +kernel
theorem dX5_pass_16 : decode cX5_pass 16 = .ok (.ireturn, 1) := by decide +kernel
theorem dX5_ends_0 : decode cX5_ends 0 = .ok (.iload_n 1, 1) := by decide +kernel
theorem dX5_ends_1 : decode cX5_ends 1 = .ok (.aload_n 0, 1) := by decide +kernel
theorem dX5_ends_2 : decode cX5_ends 2 = .ok (.getfield 12, 3) := by decide +kernel
theorem dX5_ends_5 : decode cX5_ends 5 = .ok (.getfield 110, 3) := by decide +kernel
theorem dX5_ends_8 : decode cX5_ends 8 = .ok (.invokestatic 39, 3) := by decide +kernel
theorem dX5_ends_11 : decode cX5_ends 11 = .ok (.aload_n 0, 1) := by decide +kernel
theorem dX5_ends_12 : decode cX5_ends 12 = .ok (.getfield 18, 3) := by decide +kernel
theorem dX5_ends_15 : decode cX5_ends 15 = .ok (.aload_n 0, 1) := by decide +kernel
theorem dX5_ends_16 : decode cX5_ends 16 = .ok (.getfield 12, 3) := by decide +kernel
theorem dX5_ends_19 : decode cX5_ends 19 = .ok (.invokevirtual 150, 3) := by decide +kernel
theorem dX5_ends_22 : decode cX5_ends 22 = .ok (.aload_n 0, 1) := by decide +kernel
theorem dX5_ends_23 : decode cX5_ends 23 = .ok (.getfield 18, 3) := by decide +kernel
theorem dX5_ends_26 : decode cX5_ends 26 = .ok (.iload_n 1, 1) := by decide +kernel
theorem dX5_ends_27 : decode cX5_ends 27 = .ok (.sipush 600, 3) := by decide +kernel
theorem dX5_ends_30 : decode cX5_ends 30 = .ok (.invokevirtual 154, 3) := by decide +kernel
theorem dX5_ends_33 : decode cX5_ends 33 = .ok (.ireturn, 1) := by decide +kernel
theorem dX5_foresee_0 : decode cX5_foresee 0 = .ok (.iload_n 1, 1) := by decide +kernel
theorem dX5_foresee_1 : decode cX5_foresee 1 = .ok (.iconst 1, 1) := by decide +kernel
theorem dX5_foresee_2 : decode cX5_foresee 2 = .ok (.sipush 240, 3) := by decide +kernel
theorem dX5_foresee_5 : decode cX5_foresee 5 = .ok (.invokestatic 25, 3) := by decide +kernel
theorem dX5_foresee_8 : decode cX5_foresee 8 = .ok (.iload_n 2, 1) := by decide +kernel
theorem dX5_foresee_9 : decode cX5_foresee 9 = .ok (.iconst 2, 1) := by decide +kernel
theorem dX5_foresee_10 : decode cX5_foresee 10 = .ok (.if_icmp .eq 35, 3) := by decide +kernel
theorem dX5_foresee_13 : decode cX5_foresee 13 = .ok (.iload_n 2, 1) := by decide +kernel
theorem dX5_foresee_14 : decode cX5_foresee 14 = .ok (.iconst 4, 1) := by decide +kernel
theorem dX5_foresee_15 : decode cX5_foresee 15 = .ok (.if_icmp .eq 30, 3) := by decide +kernel
theorem dX5_foresee_18 : decode cX5_foresee 18 = .ok (.iload_n 2, 1) := by decide +kernel
theorem dX5_foresee_19 : decode cX5_foresee 19 = .ok (.iconst 5, 1) := by decide +kernel
theorem dX5_foresee_20 : decode cX5_foresee 20 = .ok (.if_icmp .eq 25, 3) := by decide +kernel
theorem dX5_foresee_23 : decode cX5_foresee 23 = .ok (.iload_n 2, 1) := by decide +kernel
theorem dX5_foresee_24 : decode cX5_foresee 24 = .ok (.bipush 6, 2) := by decide +kernel
theorem dX5_foresee_26 : decode cX5_foresee 26 = .ok (.if_icmp .eq 19, 3) := by decide +kernel
theorem dX5_foresee_29 : decode cX5_foresee 29 = .ok (.iload_n 2, 1) := by decide +kernel
theorem dX5_foresee_30 : decode cX5_foresee 30 = .ok (.bipush 8, 2) := by decide +kernel
theorem dX5_foresee_32 : decode cX5_foresee 32 = .ok (.if_icmp .eq 13, 3) := by decide +kernel
theorem dX5_foresee_35 : decode cX5_foresee 35 = .ok (.new 157, 3) := by decide +kernel
theorem dX5_foresee_38 : decode cX5_foresee 38 = .ok (.dup, 1) := by decide +kernel
theorem dX5_foresee_39 : decode cX5_foresee 39 = .ok (.ldc 159, 2) := by decide +kernel
theorem dX5_foresee_41 : decode cX5_foresee 41 = .ok (.invokespecial 161, 3) := by decide +kernel
theorem dX5_foresee_44 : decode cX5_foresee 44 = .ok (.athrow, 1) := by decide +kernel
theorem dX5_foresee_45 : decode cX5_foresee 45 = .ok (.aload_n 0, 1) := by decide +kernel
theorem dX5_foresee_46 : decode cX5_foresee 46 = .ok (.getfield 18, 3) := by decide +kernel
theorem dX5_foresee_49 : decode cX5_foresee 49 = .ok (.aload_n 0, 1) := by decide +kernel
theorem dX5_foresee_50 : decode cX5_foresee 50 = .ok (.getfield 12, 3) := by decide +kernel
theorem dX5_foresee_53 : decode cX5_foresee 53 = .ok (.invokevirtual 150, 3) := by decide +kernel
theorem dX5_foresee_56 : decode cX5_foresee 56 = .ok (.aload_n 0, 1) := by decide +kernel
theorem dX5_foresee_57 : decode cX5_foresee 57 = .ok (.getfield 18, 3) := by decide +kernel
theorem dX5_foresee_60 : decode cX5_foresee 60 = .ok (.iload_n 1, 1) := by decide +kernel
theorem dX5_foresee_61 : decode cX5_foresee 61 = .ok (.invokevirtual 147, 3) := by decide +kernel
theorem dX5_foresee_64 : decode cX5_foresee 64 = .ok (.pop, 1) := by decide +kernel
theorem dX5_foresee_65 : decode cX5_foresee 65 = .ok (.aload_n 0, 1) := by decide +kernel
theorem dX5_foresee_66 : decode cX5_foresee 66 = .ok (.getfield 18, 3) := by decide +kernel
theorem dX5_foresee_69 : decode cX5_foresee 69 = .ok (.iload_n 2, 1) := by decide +kernel
theorem dX5_foresee_70 : decode cX5_foresee 70 = .ok (.invokevirtual 144, 3) := by decide +kernel
theorem dX5_foresee_73 : decode cX5_foresee 73 = .ok (.ireturn, 1) := by decide +kernel
theorem dX5_choose_0 : decode cX5_choose 0 = .ok (.iload_n 1, 1) := by decide +kernel
theorem dX5_choose_1 : decode cX5_choose 1 = .ok (.iload_n 2, 1) := by decide +kernel
theorem dX5_choose_2 : decode cX5_choose 2 = .ok (.iload_n 3, 1) := by decide +kernel
theorem dX5_choose_3 : decode cX5_choose 3 = .ok (.invokestatic 107, 3) := by decide +kernel
theorem dX5_choose_6 : decode cX5_choose 6 = .ok (.iconst (-1), 1) := by decide +kernel
theorem dX5_choose_7 : decode cX5_choose 7 = .ok (.istore 4, 2) := by decide +kernel
theorem dX5_choose_9 : decode cX5_choose 9 = .ok (.sipush 600, 3) := by decide +kernel
theorem dX5_choose_12 : decode cX5_choose 12 = .ok (.istore 5, 2) := by decide +kernel
theorem dX5_choose_14 : decode cX5_choose 14 = .ok (.iconst 0, 1) := by decide +kernel
theorem dX5_choose_15 : decode cX5_choose 15 = .ok (.istore 6, 2) := by decide +kernel
theorem dX5_choose_17 : decode cX5_choose 17 = .ok (.iload 6, 2) := by decide +kernel
theorem dX5_choose_19 : decode cX5_choose 19 = .ok (.iconst 4, 1) := by decide +kernel
theorem dX5_choose_20 : decode cX5_choose 20 = .ok (.if_icmp .ge 62, 3) := by decide +kernel
theorem dX5_choose_23 : decode cX5_choose 23 = .ok (.aload_n 0, 1) := by decide +kernel
theorem dX5_choose_24 : decode cX5_choose 24 = .ok (.getfield 18, 3) := by decide +kernel
theorem dX5_choose_27 : decode cX5_choose 27 = .ok (.aload_n 0, 1) := by decide +kernel
theorem dX5_choose_28 : decode cX5_choose 28 = .ok (.getfield 12, 3) := by decide +kernel
theorem dX5_choose_31 : decode cX5_choose 31 = .ok (.invokevirtual 150, 3) := by decide +kernel
theorem dX5_choose_34 : decode cX5_choose 34 = .ok (.aload_n 0, 1) := by decide +kernel
theorem dX5_choose_35 : decode cX5_choose 35 = .ok (.getfield 18, 3) := by decide +kernel
theorem dX5_choose_38 : decode cX5_choose 38 = .ok (.iload 6, 2) := by decide +kernel
theorem dX5_choose_40 : decode cX5_choose 40 = .ok (.iload_n 1, 1) := by decide +kernel
theorem dX5_choose_41 : decode cX5_choose 41 = .ok (.iload_n 2, 1) := by decide +kernel
theorem dX5_choose_42 : decode cX5_choose 42 = .ok (.iload_n 3, 1) := by decide +kernel
theorem dX5_choose_43 : decode cX5_choose 43 = .ok (.invokevirtual 115, 3) := by decide +kernel
theorem dX5_choose_46 : decode cX5_choose 46 = .ok (.istore 7, 2) := by decide +kernel
theorem dX5_choose_48 : decode cX5_choose 48 = .ok (.aload_n 0, 1) := by decide +kernel
theorem dX5_choose_49 : decode cX5_choose 49 = .ok (.getfield 18, 3) := by decide +kernel
theorem dX5_choose_52 : decode cX5_choose 52 = .ok (.iload 7, 2) := by decide +kernel
theorem dX5_choose_54 : decode cX5_choose 54 = .ok (.iload 5, 2) := by decide +kernel
theorem dX5_choose_56 : decode cX5_choose 56 = .ok (.invokevirtual 154, 3) := by decide +kernel
theorem dX5_choose_59 : decode cX5_choose 59 = .ok (.istore 8, 2) := by decide +kernel
theorem dX5_choose_61 : decode cX5_choose 61 = .ok (.iload 8, 2) := by decide +kernel
theorem dX5_choose_63 : decode cX5_choose 63 = .ok (.ifCond .lt 13, 3) := by decide +kernel
theorem dX5_choose_66 : decode cX5_choose 66 = .ok (.iload 6, 2) := by decide +kernel
theorem dX5_choose_68 : decode cX5_choose 68 = .ok (.istore 4, 2) := by decide +kernel
theorem dX5_choose_70 : decode cX5_choose 70 = .ok (.iload 8, 2) := by decide +kernel
theorem dX5_choose_72 : decode cX5_choose 72 = .ok (.iconst 1, 1) := by decide +kernel
theorem dX5_choose_73 : decode cX5_choose 73 = .ok (.isub, 1) := by decide +kernel
theorem dX5_choose_74 : decode cX5_choose 74 = .ok (.istore 5, 2) := by decide +kernel
theorem dX5_choose_76 : decode cX5_choose 76 = .ok (.iinc 6 1, 3) := by decide +kernel
theorem dX5_choose_79 : decode cX5_choose 79 = .ok (.goto (-62), 3) := by decide +kernel
theorem dX5_choose_82 : decode cX5_choose 82 = .ok (.iload 4, 2) := by decide +kernel
theorem dX5_choose_84 : decode cX5_choose 84 = .ok (.ireturn, 1) := by decide +kernel
theorem dX5_mean_0 : decode cX5_mean 0 = .ok (.aload_n 0, 1) := by decide +kernel
theorem dX5_mean_1 : decode cX5_mean 1 = .ok (.getfield 12, 3) := by decide +kernel
theorem dX5_mean_4 : decode cX5_mean 4 = .ok (.getfield 78, 3) := by decide +kernel
theorem dX5_mean_7 : decode cX5_mean 7 = .ok (.ifCond .ne 5, 3) := by decide +kernel
theorem dX5_mean_10 : decode cX5_mean 10 = .ok (.dconst 0, 1) := by decide +kernel
theorem dX5_mean_11 : decode cX5_mean 11 = .ok (.dreturn, 1) := by decide +kernel
theorem dX5_mean_12 : decode cX5_mean 12 = .ok (.iconst 0, 1) := by decide +kernel
theorem dX5_mean_13 : decode cX5_mean 13 = .ok (.istore_n 1, 1) := by decide +kernel
theorem dX5_mean_14 : decode cX5_mean 14 = .ok (.iconst 0, 1) := by decide +kernel
theorem dX5_mean_15 : decode cX5_mean 15 = .ok (.istore_n 2, 1) := by decide +kernel
theorem dX5_mean_16 : decode cX5_mean 16 = .ok (.iload_n 2, 1) := by decide +kernel
theorem dX5_mean_17 : decode cX5_mean 17 = .ok (.aload_n 0, 1) := by decide +kernel
theorem dX5_mean_18 : decode cX5_mean 18 = .ok (.getfield 12, 3) := by decide +kernel
theorem dX5_mean_21 : decode cX5_mean 21 = .ok (.getfield 78, 3) := by decide +kernel
theorem dX5_mean_24 : decode cX5_mean 24 = .ok (.if_icmp .ge 24, 3) := by decide +kernel
theorem dX5_mean_27 : decode cX5_mean 27 = .ok (.iload_n 1, 1) := by decide +kernel
theorem dX5_mean_28 : decode cX5_mean 28 = .ok (.aload_n 0, 1) := by decide +kernel
theorem dX5_mean_29 : decode cX5_mean 29 = .ok (.getfield 12, 3) := by decide +kernel
theorem dX5_mean_32 : decode cX5_mean 32 = .ok (.getfield 86, 3) := by decide +kernel
theorem dX5_mean_35 : decode cX5_mean 35 = .ok (.iload_n 2, 1) := by decide +kernel
theorem dX5_mean_36 : decode cX5_mean 36 = .ok (.aaload, 1) := by decide +kernel
theorem dX5_mean_37 : decode cX5_mean 37 = .ok (.getfield 162, 3) := by decide +kernel
theorem dX5_mean_40 : decode cX5_mean 40 = .ok (.iadd, 1) := by decide +kernel
theorem dX5_mean_41 : decode cX5_mean 41 = .ok (.istore_n 1, 1) := by decide +kernel
theorem dX5_mean_42 : decode cX5_mean 42 = .ok (.iinc 2 1, 3) := by decide +kernel
theorem dX5_mean_45 : decode cX5_mean 45 = .ok (.goto (-29), 3) := by decide +kernel
theorem dX5_mean_48 : decode cX5_mean 48 = .ok (.iload_n 1, 1) := by decide +kernel
theorem dX5_mean_49 : decode cX5_mean 49 = .ok (.i2d, 1) := by decide +kernel
theorem dX5_mean_50 : decode cX5_mean 50 = .ok (.aload_n 0, 1) := by decide +kernel
theorem dX5_mean_51 : decode cX5_mean 51 = .ok (.getfield 12, 3) := by decide +kernel
theorem dX5_mean_54 : decode cX5_mean 54 = .ok (.getfield 78, 3) := by decide +kernel
theorem dX5_mean_57 : decode cX5_mean 57 = .ok (.i2d, 1) := by decide +kernel
theorem dX5_mean_58 : decode cX5_mean 58 = .ok (.ddiv, 1) := by decide +kernel
theorem dX5_mean_59 : decode cX5_mean 59 = .ok (.dreturn, 1) := by decide +kernel
theorem dX5_digest_0 : decode cX5_digest 0 = .ok (.ldc2_w 165, 3) := by decide +kernel
theorem dX5_digest_3 : decode cX5_digest 3 = .ok (.lstore_n 1, 1) := by decide +kernel
theorem dX5_digest_4 : decode cX5_digest 4 = .ok (.iconst 0, 1) := by decide +kernel
theorem dX5_digest_5 : decode cX5_digest 5 = .ok (.istore_n 3, 1) := by decide +kernel
theorem dX5_digest_6 : decode cX5_digest 6 = .ok (.iload_n 3, 1) := by decide +kernel
theorem dX5_digest_7 : decode cX5_digest 7 = .ok (.bipush 9, 2) := by decide +kernel
theorem dX5_digest_9 : decode cX5_digest 9 = .ok (.if_icmp .ge 25, 3) := by decide +kernel
theorem dX5_digest_12 : decode cX5_digest 12 = .ok (.lload_n 1, 1) := by decide +kernel
theorem dX5_digest_13 : decode cX5_digest 13 = .ok (.ldc2_w 167, 3) := by decide +kernel
theorem dX5_digest_16 : decode cX5_digest 16 = .ok (.lmul, 1) := by decide +kernel
theorem dX5_digest_17 : decode cX5_digest 17 = .ok (.aload_n 0, 1) := by decide +kernel
theorem dX5_digest_18 : decode cX5_digest 18 = .ok (.getfield 12, 3) := by decide +kernel
theorem dX5_digest_21 : decode cX5_digest 21 = .ok (.iload_n 3, 1) := by decide +kernel
theorem dX5_digest_22 : decode cX5_digest 22 = .ok (.invokevirtual 144, 3) := by decide +kernel
theorem dX5_digest_25 : decode cX5_digest 25 = .ok (.i2l, 1) := by decide +kernel
theorem dX5_digest_26 : decode cX5_digest 26 = .ok (.ladd, 1) := by decide +kernel
theorem dX5_digest_27 : decode cX5_digest 27 = .ok (.lstore_n 1, 1) := by decide +kernel
theorem dX5_digest_28 : decode cX5_digest 28 = .ok (.iinc 3 1, 3) := by decide +kernel
theorem dX5_digest_31 : decode cX5_digest 31 = .ok (.goto (-25), 3) := by decide +kernel
theorem dX5_digest_34 : decode cX5_digest 34 = .ok (.iconst 0, 1) := by decide +kernel
theorem dX5_digest_35 : decode cX5_digest 35 = .ok (.istore_n 3, 1) := by decide +kernel
theorem dX5_digest_36 : decode cX5_digest 36 = .ok (.iload_n 3, 1) := by decide +kernel
theorem dX5_digest_37 : decode cX5_digest 37 = .ok (.iconst 4, 1) := by decide +kernel
theorem dX5_digest_38 : decode cX5_digest 38 = .ok (.if_icmp .ge 16, 3) := by decide +kernel
theorem dX5_digest_41 : decode cX5_digest 41 = .ok (.aload_n 0, 1) := by decide +kernel
theorem dX5_digest_42 : decode cX5_digest 42 = .ok (.lload_n 1, 1) := by decide +kernel
theorem dX5_digest_43 : decode cX5_digest 43 = .ok (.iload_n 3, 1) := by decide +kernel
end
section
theorem dX5_digest_44 : decode cX5_digest 44 = .ok (.invokevirtual 169, 3) := by decide +kernel
theorem dX5_digest_47 : decode cX5_digest 47 = .ok (.lstore_n 1, 1) := by decide +kernel
theorem dX5_digest_48 : decode cX5_digest 48 = .ok (.iinc 3 1, 3) := by decide +kernel
theorem dX5_digest_51 : decode cX5_digest 51 = .ok (.goto (-15), 3) := by decide +kernel
theorem dX5_digest_54 : decode cX5_digest 54 = .ok (.iconst 0, 1) := by decide +kernel
theorem dX5_digest_55 : decode cX5_digest 55 = .ok (.istore_n 3, 1) := by decide +kernel
theorem dX5_digest_56 : decode cX5_digest 56 = .ok (.iload_n 3, 1) := by decide +kernel
theorem dX5_digest_57 : decode cX5_digest 57 = .ok (.aload_n 0, 1) := by decide +kernel
theorem dX5_digest_58 : decode cX5_digest 58 = .ok (.getfield 12, 3) := by decide +kernel
theorem dX5_digest_61 : decode cX5_digest 61 = .ok (.getfield 78, 3) := by decide +kernel
theorem dX5_digest_64 : decode cX5_digest 64 = .ok (.if_icmp .ge 23, 3) := by decide +kernel
theorem dX5_digest_67 : decode cX5_digest 67 = .ok (.lload_n 1, 1) := by decide +kernel
theorem dX5_digest_68 : decode cX5_digest 68 = .ok (.aload_n 0, 1) := by decide +kernel
theorem dX5_digest_69 : decode cX5_digest 69 = .ok (.getfield 12, 3) := by decide +kernel
theorem dX5_digest_72 : decode cX5_digest 72 = .ok (.getfield 86, 3) := by decide +kernel
theorem dX5_digest_75 : decode cX5_digest 75 = .ok (.iload_n 3, 1) := by decide +kernel
theorem dX5_digest_76 : decode cX5_digest 76 = .ok (.aaload, 1) := by decide +kernel
theorem dX5_digest_77 : decode cX5_digest 77 = .ok (.invokestatic 173, 3) := by decide +kernel
theorem dX5_digest_80 : decode cX5_digest 80 = .ok (.lstore_n 1, 1) := by decide +kernel
theorem dX5_digest_81 : decode cX5_digest 81 = .ok (.iinc 3 1, 3) := by decide +kernel
theorem dX5_digest_84 : decode cX5_digest 84 = .ok (.goto (-28), 3) := by decide +kernel
theorem dX5_digest_87 : decode cX5_digest 87 = .ok (.iconst 0, 1) := by decide +kernel
theorem dX5_digest_88 : decode cX5_digest 88 = .ok (.istore_n 3, 1) := by decide +kernel
theorem dX5_digest_89 : decode cX5_digest 89 = .ok (.iload_n 3, 1) := by decide +kernel
theorem dX5_digest_90 : decode cX5_digest 90 = .ok (.aload_n 0, 1) := by decide +kernel
theorem dX5_digest_91 : decode cX5_digest 91 = .ok (.getfield 12, 3) := by decide +kernel
theorem dX5_digest_94 : decode cX5_digest 94 = .ok (.getfield 110, 3) := by decide +kernel
theorem dX5_digest_97 : decode cX5_digest 97 = .ok (.if_icmp .ge 23, 3) := by decide +kernel
theorem dX5_digest_100 : decode cX5_digest 100 = .ok (.lload_n 1, 1) := by decide +kernel
theorem dX5_digest_101 : decode cX5_digest 101 = .ok (.aload_n 0, 1) := by decide +kernel
theorem dX5_digest_102 : decode cX5_digest 102 = .ok (.getfield 12, 3) := by decide +kernel
theorem dX5_digest_105 : decode cX5_digest 105 = .ok (.getfield 119, 3) := by decide +kernel
theorem dX5_digest_108 : decode cX5_digest 108 = .ok (.iload_n 3, 1) := by decide +kernel
theorem dX5_digest_109 : decode cX5_digest 109 = .ok (.aaload, 1) := by decide +kernel
theorem dX5_digest_110 : decode cX5_digest 110 = .ok (.invokestatic 177, 3) := by decide +kernel
theorem dX5_digest_113 : decode cX5_digest 113 = .ok (.lstore_n 1, 1) := by decide +kernel
theorem dX5_digest_114 : decode cX5_digest 114 = .ok (.iinc 3 1, 3) := by decide +kernel
theorem dX5_digest_117 : decode cX5_digest 117 = .ok (.goto (-28), 3) := by decide +kernel
theorem dX5_digest_120 : decode cX5_digest 120 = .ok (.lload_n 1, 1) := by decide +kernel
theorem dX5_digest_121 : decode cX5_digest 121 = .ok (.lreturn, 1) := by decide +kernel
theorem dX5_withBell_0 : decode cX5_withBell 0 = .ok (.lload_n 1, 1) := by decide +kernel
theorem dX5_withBell_1 : decode cX5_withBell 1 = .ok (.lstore 4, 2) := by decide +kernel
theorem dX5_withBell_3 : decode cX5_withBell 3 = .ok (.iconst 0, 1) := by decide +kernel
theorem dX5_withBell_4 : decode cX5_withBell 4 = .ok (.istore 6, 2) := by decide +kernel
theorem dX5_withBell_6 : decode cX5_withBell 6 = .ok (.iload 6, 2) := by decide +kernel
theorem dX5_withBell_8 : decode cX5_withBell 8 = .ok (.bipush 9, 2) := by decide +kernel
theorem dX5_withBell_10 : decode cX5_withBell 10 = .ok (.if_icmp .ge 29, 3) := by decide +kernel
theorem dX5_withBell_13 : decode cX5_withBell 13 = .ok (.lload 4, 2) := by decide +kernel
theorem dX5_withBell_15 : decode cX5_withBell 15 = .ok (.ldc2_w 167, 3) := by decide +kernel
theorem dX5_withBell_18 : decode cX5_withBell 18 = .ok (.lmul, 1) := by decide +kernel
theorem dX5_withBell_19 : decode cX5_withBell 19 = .ok (.aload_n 0, 1) := by decide +kernel
theorem dX5_withBell_20 : decode cX5_withBell 20 = .ok (.getfield 12, 3) := by decide +kernel
theorem dX5_withBell_23 : decode cX5_withBell 23 = .ok (.iload_n 3, 1) := by decide +kernel
theorem dX5_withBell_24 : decode cX5_withBell 24 = .ok (.iload 6, 2) := by decide +kernel
theorem dX5_withBell_26 : decode cX5_withBell 26 = .ok (.invokevirtual 75, 3) := by decide +kernel
theorem dX5_withBell_29 : decode cX5_withBell 29 = .ok (.i2l, 1) := by decide +kernel
theorem dX5_withBell_30 : decode cX5_withBell 30 = .ok (.ladd, 1) := by decide +kernel
theorem dX5_withBell_31 : decode cX5_withBell 31 = .ok (.lstore 4, 2) := by decide +kernel
theorem dX5_withBell_33 : decode cX5_withBell 33 = .ok (.iinc 6 1, 3) := by decide +kernel
theorem dX5_withBell_36 : decode cX5_withBell 36 = .ok (.goto (-30), 3) := by decide +kernel
theorem dX5_withBell_39 : decode cX5_withBell 39 = .ok (.iconst 0, 1) := by decide +kernel
theorem dX5_withBell_40 : decode cX5_withBell 40 = .ok (.istore 6, 2) := by decide +kernel
theorem dX5_withBell_42 : decode cX5_withBell 42 = .ok (.iload 6, 2) := by decide +kernel
theorem dX5_withBell_44 : decode cX5_withBell 44 = .ok (.iconst 2, 1) := by decide +kernel
theorem dX5_withBell_45 : decode cX5_withBell 45 = .ok (.if_icmp .ge 33, 3) := by decide +kernel
theorem dX5_withBell_48 : decode cX5_withBell 48 = .ok (.lload 4, 2) := by decide +kernel
theorem dX5_withBell_50 : decode cX5_withBell 50 = .ok (.ldc2_w 167, 3) := by decide +kernel
theorem dX5_withBell_53 : decode cX5_withBell 53 = .ok (.lmul, 1) := by decide +kernel
theorem dX5_withBell_54 : decode cX5_withBell 54 = .ok (.aload_n 0, 1) := by decide +kernel
theorem dX5_withBell_55 : decode cX5_withBell 55 = .ok (.getfield 12, 3) := by decide +kernel
theorem dX5_withBell_58 : decode cX5_withBell 58 = .ok (.getfield 29, 3) := by decide +kernel
theorem dX5_withBell_61 : decode cX5_withBell 61 = .ok (.iload_n 3, 1) := by decide +kernel
theorem dX5_withBell_62 : decode cX5_withBell 62 = .ok (.aaload, 1) := by decide +kernel
theorem dX5_withBell_63 : decode cX5_withBell 63 = .ok (.iload 6, 2) := by decide +kernel
theorem dX5_withBell_65 : decode cX5_withBell 65 = .ok (.invokevirtual 71, 3) := by decide +kernel
theorem dX5_withBell_68 : decode cX5_withBell 68 = .ok (.i2l, 1) := by decide +kernel
theorem dX5_withBell_69 : decode cX5_withBell 69 = .ok (.ladd, 1) := by decide +kernel
theorem dX5_withBell_70 : decode cX5_withBell 70 = .ok (.lstore 4, 2) := by decide +kernel
theorem dX5_withBell_72 : decode cX5_withBell 72 = .ok (.iinc 6 1, 3) := by decide +kernel
theorem dX5_withBell_75 : decode cX5_withBell 75 = .ok (.goto (-33), 3) := by decide +kernel
theorem dX5_withBell_78 : decode cX5_withBell 78 = .ok (.lload 4, 2) := by decide +kernel
theorem dX5_withBell_80 : decode cX5_withBell 80 = .ok (.lreturn, 1) := by decide +kernel
theorem dX5_withRinger_0 : decode cX5_withRinger 0 = .ok (.lload_n 0, 1) := by decide +kernel
theorem dX5_withRinger_1 : decode cX5_withRinger 1 = .ok (.lstore_n 3, 1) := by decide +kernel
theorem dX5_withRinger_2 : decode cX5_withRinger 2 = .ok (.iconst 0, 1) := by decide +kernel
theorem dX5_withRinger_3 : decode cX5_withRinger 3 = .ok (.istore 5, 2) := by decide +kernel
theorem dX5_withRinger_5 : decode cX5_withRinger 5 = .ok (.iload 5, 2) := by decide +kernel
theorem dX5_withRinger_7 : decode cX5_withRinger 7 = .ok (.iconst 5, 1) := by decide +kernel
theorem dX5_withRinger_8 : decode cX5_withRinger 8 = .ok (.if_icmp .ge 23, 3) := by decide +kernel
theorem dX5_withRinger_11 : decode cX5_withRinger 11 = .ok (.lload_n 3, 1) := by decide +kernel
theorem dX5_withRinger_12 : decode cX5_withRinger 12 = .ok (.ldc2_w 167, 3) := by decide +kernel
theorem dX5_withRinger_15 : decode cX5_withRinger 15 = .ok (.lmul, 1) := by decide +kernel
theorem dX5_withRinger_16 : decode cX5_withRinger 16 = .ok (.aload_n 2, 1) := by decide +kernel
theorem dX5_withRinger_17 : decode cX5_withRinger 17 = .ok (.iload 5, 2) := by decide +kernel
theorem dX5_withRinger_19 : decode cX5_withRinger 19 = .ok (.invokevirtual 104, 3) := by decide +kernel
theorem dX5_withRinger_22 : decode cX5_withRinger 22 = .ok (.i2l, 1) := by decide +kernel
theorem dX5_withRinger_23 : decode cX5_withRinger 23 = .ok (.ladd, 1) := by decide +kernel
theorem dX5_withRinger_24 : decode cX5_withRinger 24 = .ok (.lstore_n 3, 1) := by decide +kernel
theorem dX5_withRinger_25 : decode cX5_withRinger 25 = .ok (.iinc 5 1, 3) := by decide +kernel
theorem dX5_withRinger_28 : decode cX5_withRinger 28 = .ok (.goto (-23), 3) := by decide +kernel
theorem dX5_withRinger_31 : decode cX5_withRinger 31 = .ok (.lload_n 3, 1) := by decide +kernel
theorem dX5_withRinger_32 : decode cX5_withRinger 32 = .ok (.lreturn, 1) := by decide +kernel
theorem dX5_withToll_0 : decode cX5_withToll 0 = .ok (.lload_n 0, 1) := by decide +kernel
theorem dX5_withToll_1 : decode cX5_withToll 1 = .ok (.lstore_n 3, 1) := by decide +kernel
theorem dX5_withToll_2 : decode cX5_withToll 2 = .ok (.iconst 0, 1) := by decide +kernel
theorem dX5_withToll_3 : decode cX5_withToll 3 = .ok (.istore 5, 2) := by decide +kernel
theorem dX5_withToll_5 : decode cX5_withToll 5 = .ok (.iload 5, 2) := by decide +kernel
theorem dX5_withToll_7 : decode cX5_withToll 7 = .ok (.bipush 9, 2) := by decide +kernel
theorem dX5_withToll_9 : decode cX5_withToll 9 = .ok (.if_icmp .ge 23, 3) := by decide +kernel
theorem dX5_withToll_12 : decode cX5_withToll 12 = .ok (.lload_n 3, 1) := by decide +kernel
theorem dX5_withToll_13 : decode cX5_withToll 13 = .ok (.ldc2_w 167, 3) := by decide +kernel
theorem dX5_withToll_16 : decode cX5_withToll 16 = .ok (.lmul, 1) := by decide +kernel
theorem dX5_withToll_17 : decode cX5_withToll 17 = .ok (.aload_n 2, 1) := by decide +kernel
theorem dX5_withToll_18 : decode cX5_withToll 18 = .ok (.iload 5, 2) := by decide +kernel
theorem dX5_withToll_20 : decode cX5_withToll 20 = .ok (.invokevirtual 140, 3) := by decide +kernel
theorem dX5_withToll_23 : decode cX5_withToll 23 = .ok (.i2l, 1) := by decide +kernel
theorem dX5_withToll_24 : decode cX5_withToll 24 = .ok (.ladd, 1) := by decide +kernel
theorem dX5_withToll_25 : decode cX5_withToll 25 = .ok (.lstore_n 3, 1) := by decide +kernel
theorem dX5_withToll_26 : decode cX5_withToll 26 = .ok (.iinc 5 1, 3) := by decide +kernel
theorem dX5_withToll_29 : decode cX5_withToll 29 = .ok (.goto (-24), 3) := by decide +kernel
theorem dX5_withToll_32 : decode cX5_withToll 32 = .ok (.bipush 10, 2) := by decide +kernel
theorem dX5_withToll_34 : decode cX5_withToll 34 = .ok (.istore 5, 2) := by decide +kernel
theorem dX5_withToll_36 : decode cX5_withToll 36 = .ok (.iload 5, 2) := by decide +kernel
theorem dX5_withToll_38 : decode cX5_withToll 38 = .ok (.bipush 90, 2) := by decide +kernel
theorem dX5_withToll_40 : decode cX5_withToll 40 = .ok (.if_icmp .gt 23, 3) := by decide +kernel
theorem dX5_withToll_43 : decode cX5_withToll 43 = .ok (.lload_n 3, 1) := by decide +kernel
theorem dX5_withToll_44 : decode cX5_withToll 44 = .ok (.ldc2_w 167, 3) := by decide +kernel
theorem dX5_withToll_47 : decode cX5_withToll 47 = .ok (.lmul, 1) := by decide +kernel
theorem dX5_withToll_48 : decode cX5_withToll 48 = .ok (.aload_n 2, 1) := by decide +kernel
theorem dX5_withToll_49 : decode cX5_withToll 49 = .ok (.iload 5, 2) := by decide +kernel
theorem dX5_withToll_51 : decode cX5_withToll 51 = .ok (.invokevirtual 141, 3) := by decide +kernel
theorem dX5_withToll_54 : decode cX5_withToll 54 = .ok (.i2l, 1) := by decide +kernel
theorem dX5_withToll_55 : decode cX5_withToll 55 = .ok (.ladd, 1) := by decide +kernel
theorem dX5_withToll_56 : decode cX5_withToll 56 = .ok (.lstore_n 3, 1) := by decide +kernel
theorem dX5_withToll_57 : decode cX5_withToll 57 = .ok (.iinc 5 10, 3) := by decide +kernel
theorem dX5_withToll_60 : decode cX5_withToll 60 = .ok (.goto (-24), 3) := by decide +kernel
theorem dX5_withToll_63 : decode cX5_withToll 63 = .ok (.lload_n 3, 1) := by decide +kernel
theorem dX5_withToll_64 : decode cX5_withToll 64 = .ok (.lreturn, 1) := by decide +kernel
theorem dX5_needBell_0 : decode cX5_needBell 0 = .ok (.iload_n 0, 1) := by decide +kernel
theorem dX5_needBell_1 : decode cX5_needBell 1 = .ok (.iconst 4, 1) := by decide +kernel
theorem dX5_needBell_2 : decode cX5_needBell 2 = .ok (.invokestatic 39, 3) := by decide +kernel
theorem dX5_needBell_5 : decode cX5_needBell 5 = .ok (.return_, 1) := by decide +kernel
theorem dX5_needTollOfSuch_0 : decode cX5_needTollOfSuch 0 = .ok (.iload_n 0, 1) := by decide +kernel
theorem dX5_needTollOfSuch_1 : decode cX5_needTollOfSuch 1 = .ok (.iconst 0, 1) := by decide +kernel
theorem dX5_needTollOfSuch_2 : decode cX5_needTollOfSuch 2 = .ok (.iconst 2, 1) := by decide +kernel
theorem dX5_needTollOfSuch_3 : decode cX5_needTollOfSuch 3 = .ok (.invokestatic 25, 3) := by decide +kernel
theorem dX5_needTollOfSuch_6 : decode cX5_needTollOfSuch 6 = .ok (.iload_n 1, 1) := by decide +kernel
theorem dX5_needTollOfSuch_7 : decode cX5_needTollOfSuch 7 = .ok (.iconst 0, 1) := by decide +kernel
theorem dX5_needTollOfSuch_8 : decode cX5_needTollOfSuch 8 = .ok (.bipush 120, 2) := by decide +kernel
theorem dX5_needTollOfSuch_10 : decode cX5_needTollOfSuch 10 = .ok (.invokestatic 25, 3) := by decide +kernel
theorem dX5_needTollOfSuch_13 : decode cX5_needTollOfSuch 13 = .ok (.iload_n 2, 1) := by decide +kernel
theorem dX5_needTollOfSuch_14 : decode cX5_needTollOfSuch 14 = .ok (.iconst 1, 1) := by decide +kernel
theorem dX5_needTollOfSuch_15 : decode cX5_needTollOfSuch 15 = .ok (.iconst 5, 1) := by decide +kernel
theorem dX5_needTollOfSuch_16 : decode cX5_needTollOfSuch 16 = .ok (.invokestatic 25, 3) := by decide +kernel
theorem dX5_needTollOfSuch_19 : decode cX5_needTollOfSuch 19 = .ok (.return_, 1) := by decide +kernel
theorem dX5_needIndex_0 : decode cX5_needIndex 0 = .ok (.iload_n 0, 1) := by decide +kernel
theorem dX5_needIndex_1 : decode cX5_needIndex 1 = .ok (.ifCond .lt 8, 3) := by decide +kernel
theorem dX5_needIndex_4 : decode cX5_needIndex 4 = .ok (.iload_n 0, 1) := by decide +kernel
theorem dX5_needIndex_5 : decode cX5_needIndex 5 = .ok (.iload_n 1, 1) := by decide +kernel
theorem dX5_needIndex_6 : decode cX5_needIndex 6 = .ok (.if_icmp .lt 13, 3) := by decide +kernel
theorem dX5_needIndex_9 : decode cX5_needIndex 9 = .ok (.new 157, 3) := by decide +kernel
theorem dX5_needIndex_12 : decode cX5_needIndex 12 = .ok (.dup, 1) := by decide +kernel
theorem dX5_needIndex_13 : decode cX5_needIndex 13 = .ok (.ldc 181, 2) := by decide +kernel
theorem dX5_needIndex_15 : decode cX5_needIndex 15 = .ok (.invokespecial 161, 3) := by decide +kernel
theorem dX5_needIndex_18 : decode cX5_needIndex 18 = .ok (.athrow, 1) := by decide +kernel
theorem dX5_needIndex_19 : decode cX5_needIndex 19 = .ok (.return_, 1) := by decide +kernel
theorem dX5_needBetween_0 : decode cX5_needBetween 0 = .ok (.iload_n 0, 1) := by decide +kernel
theorem dX5_needBetween_1 : decode cX5_needBetween 1 = .ok (.iload_n 1, 1) := by decide +kernel
theorem dX5_needBetween_2 : decode cX5_needBetween 2 = .ok (.if_icmp .lt 8, 3) := by decide +kernel
theorem dX5_needBetween_5 : decode cX5_needBetween 5 = .ok (.iload_n 0, 1) := by decide +kernel
theorem dX5_needBetween_6 : decode cX5_needBetween 6 = .ok (.iload_n 2, 1) := by decide +kernel
theorem dX5_needBetween_7 : decode cX5_needBetween 7 = .ok (.if_icmp .le 13, 3) := by decide +kernel
theorem dX5_needBetween_10 : decode cX5_needBetween 10 = .ok (.new 183, 3) := by decide +kernel
theorem dX5_needBetween_13 : decode cX5_needBetween 13 = .ok (.dup, 1) := by decide +kernel
theorem dX5_needBetween_14 : decode cX5_needBetween 14 = .ok (.ldc 185, 2) := by decide +kernel
theorem dX5_needBetween_16 : decode cX5_needBetween 16 = .ok (.invokespecial 187, 3) := by decide +kernel
theorem dX5_needBetween_19 : decode cX5_needBetween 19 = .ok (.athrow, 1) := by decide +kernel
theorem dX5_needBetween_20 : decode cX5_needBetween 20 = .ok (.return_, 1) := by decide +kernel
theorem dX6_init_0 : decode cX6_init 0 = .ok (.aload_n 0, 1) := by decide +kernel
theorem dX6_init_1 : decode cX6_init 1 = .ok (.aload_n 1, 1) := by decide +kernel
theorem dX6_init_2 : decode cX6_init 2 = .ok (.putfield 3, 3) := by decide +kernel
theorem dX6_init_5 : decode cX6_init 5 = .ok (.aload_n 0, 1) := by decide +kernel
theorem dX6_init_6 : decode cX6_init 6 = .ok (.invokespecial 9, 3) := by decide +kernel
theorem dX6_init_9 : decode cX6_init 9 = .ok (.aload_n 0, 1) := by decide +kernel
theorem dX6_init_10 : decode cX6_init 10 = .ok (.bipush 20, 2) := by decide +kernel
theorem dX6_init_12 : decode cX6_init 12 = .ok (.putfield 15, 3) := by decide +kernel
theorem dX6_init_15 : decode cX6_init 15 = .ok (.aload_n 0, 1) := by decide +kernel
theorem dX6_init_16 : decode cX6_init 16 = .ok (.iconst 4, 1) := by decide +kernel
theorem dX6_init_17 : decode cX6_init 17 = .ok (.newarray .int, 2) := by decide +kernel
theorem dX6_init_19 : decode cX6_init 19 = .ok (.putfield 19, 3) := by decide +kernel
theorem dX6_init_22 : decode cX6_init 22 = .ok (.aload_n 0, 1) := by decide +kernel
theorem dX6_init_23 : decode cX6_init 23 = .ok (.bipush 8, 2) := by decide +kernel
theorem dX6_init_25 : decode cX6_init 25 = .ok (.newarray .int, 2) := by decide +kernel
theorem dX6_init_27 : decode cX6_init 27 = .ok (.putfield 23, 3) := by decide +kernel
theorem dX6_init_30 : decode cX6_init 30 = .ok (.aload_n 0, 1) := by decide +kernel
theorem dX6_init_31 : decode cX6_init 31 = .ok (.bipush 8, 2) := by decide +kernel
theorem dX6_init_33 : decode cX6_init 33 = .ok (.newarray .int, 2) := by decide +kernel
theorem dX6_init_35 : decode cX6_init 35 = .ok (.putfield 26, 3) := by decide +kernel
theorem dX6_init_38 : decode cX6_init 38 = .ok (.aload_n 0, 1) := by decide +kernel
theorem dX6_init_39 : decode cX6_init 39 = .ok (.iconst 4, 1) := by decide +kernel
theorem dX6_init_40 : decode cX6_init 40 = .ok (.newarray .int, 2) := by decide +kernel
theorem dX6_init_42 : decode cX6_init 42 = .ok (.putfield 29, 3) := by decide +kernel
theorem dX6_init_45 : decode cX6_init 45 = .ok (.aload_n 0, 1) := by decide +kernel
theorem dX6_init_46 : decode cX6_init 46 = .ok (.iconst 4, 1) := by decide +kernel
theorem dX6_init_47 : decode cX6_init 47 = .ok (.newarray .int, 2) := by decide +kernel
theorem dX6_init_49 : decode cX6_init 49 = .ok (.putfield 32, 3) := by decide +kernel
theorem dX6_init_52 : decode cX6_init 52 = .ok (.aload_n 0, 1) := by decide +kernel
theorem dX6_init_53 : decode cX6_init 53 = .ok (.iconst 4, 1) := by decide +kernel
theorem dX6_init_54 : decode cX6_init 54 = .ok (.newarray .int, 2) := by decide +kernel
theorem dX6_init_56 : decode cX6_init 56 = .ok (.putfield 35, 3) := by decide +kernel
theorem dX6_init_59 : decode cX6_init 59 = .ok (.aload_n 0, 1) := by decide +kernel
theorem dX6_init_60 : decode cX6_init 60 = .ok (.iconst 4, 1) := by decide +kernel
theorem dX6_init_61 : decode cX6_init 61 = .ok (.newarray .int, 2) := by decide +kernel
theorem dX6_init_63 : decode cX6_init 63 = .ok (.putfield 38, 3) := by decide +kernel
theorem dX6_init_66 : decode cX6_init 66 = .ok (.aload_n 0, 1) := by decide +kernel
theorem dX6_init_67 : decode cX6_init 67 = .ok (.bipush 12, 2) := by decide +kernel
theorem dX6_init_69 : decode cX6_init 69 = .ok (.newarray .int, 2) := by decide +kernel
theorem dX6_init_71 : decode cX6_init 71 = .ok (.putfield 41, 3) := by decide +kernel
theorem dX6_init_74 : decode cX6_init 74 = .ok (.aload_n 0, 1) := by decide +kernel
theorem dX6_init_75 : decode cX6_init 75 = .ok (.bipush 12, 2) := by decide +kernel
theorem dX6_init_77 : decode cX6_init 77 = .ok (.newarray .int, 2) := by decide +kernel
theorem dX6_init_79 : decode cX6_init 79 = .ok (.putfield 44, 3) := by decide +kernel
theorem dX6_init_82 : decode cX6_init 82 = .ok (.aload_n 0, 1) := by decide +kernel
theorem dX6_init_83 : decode cX6_init 83 = .ok (.bipush 12, 2) := by decide +kernel
theorem dX6_init_85 : decode cX6_init 85 = .ok (.newarray .int, 2) := by decide +kernel
theorem dX6_init_87 : decode cX6_init 87 = .ok (.putfield 47, 3) := by decide +kernel
theorem dX6_init_90 : decode cX6_init 90 = .ok (.aload_n 0, 1) := by decide +kernel
theorem dX6_init_91 : decode cX6_init 91 = .ok (.bipush 21, 2) := by decide +kernel
theorem dX6_init_93 : decode cX6_init 93 = .ok (.newarray .int, 2) := by decide +kernel
theorem dX6_init_95 : decode cX6_init 95 = .ok (.putfield 50, 3) := by decide +kernel
theorem dX6_init_98 : decode cX6_init 98 = .ok (.aload_n 0, 1) := by decide +kernel
theorem dX6_init_99 : decode cX6_init 99 = .ok (.bipush 21, 2) := by decide +kernel
theorem dX6_init_101 : decode cX6_init 101 = .ok (.newarray .int, 2) := by decide +kernel
theorem dX6_init_103 : decode cX6_init 103 = .ok (.putfield 53, 3) := by decide +kernel
theorem dX6_init_106 : decode cX6_init 106 = .ok (.aload_n 0, 1) := by decide +kernel
theorem dX6_init_107 : decode cX6_init 107 = .ok (.bipush 21, 2) := by decide +kernel
theorem dX6_init_109 : decode cX6_init 109 = .ok (.newarray .int, 2) := by decide +kernel
theorem dX6_init_111 : decode cX6_init 111 = .ok (.putfield 56, 3) := by decide +kernel
theorem dX6_init_114 : decode cX6_init 114 = .ok (.iconst 0, 1) := by decide +kernel
theorem dX6_init_115 : decode cX6_init 115 = .ok (.istore_n 2, 1) := by decide +kernel
theorem dX6_init_116 : decode cX6_init 116 = .ok (.iload_n 2, 1) := by decide +kernel
theorem dX6_init_117 : decode cX6_init 117 = .ok (.iconst 4, 1) := by decide +kernel
theorem dX6_init_118 : decode cX6_init 118 = .ok (.if_icmp .ge 25, 3) := by decide +kernel
theorem dX6_init_121 : decode cX6_init 121 = .ok (.aload_n 0, 1) := by decide +kernel
theorem dX6_init_122 : decode cX6_init 122 = .ok (.getfield 19, 3) := by decide +kernel
theorem dX6_init_125 : decode cX6_init 125 = .ok (.iload_n 2, 1) := by decide +kernel
theorem dX6_init_126 : decode cX6_init 126 = .ok (.iconst 3, 1) := by decide +kernel
theorem dX6_init_127 : decode cX6_init 127 = .ok (.iload_n 2, 1) := by decide +kernel
theorem dX6_init_128 : decode cX6_init 128 = .ok (.iadd, 1) := by decide +kernel
theorem dX6_init_129 : decode cX6_init 129 = .ok (.iastore, 1) := by decide +kernel
theorem dX6_init_130 : decode cX6_init 130 = .ok (.aload_n 0, 1) := by decide +kernel
theorem dX6_init_131 : decode cX6_init 131 = .ok (.getfield 32, 3) := by decide +kernel
theorem dX6_init_134 : decode cX6_init 134 = .ok (.iload_n 2, 1) := by decide +kernel
theorem dX6_init_135 : decode cX6_init 135 = .ok (.iconst (-1), 1) := by decide +kernel
theorem dX6_init_136 : decode cX6_init 136 = .ok (.iastore, 1) := by decide +kernel
theorem dX6_init_137 : decode cX6_init 137 = .ok (.iinc 2 1, 3) := by decide +kernel
theorem dX6_init_140 : decode cX6_init 140 = .ok (.goto (-24), 3) := by decide +kernel
theorem dX6_init_143 : decode cX6_init 143 = .ok (.return_, 1) := by decide +kernel
theorem dX6_copy_0 : decode cX6_copy 0 = .ok (.aload_n 1, 1) := by decide +kernel
theorem dX6_copy_1 : decode cX6_copy 1 = .ok (.iconst 0, 1) := by decide +kernel
theorem dX6_copy_2 : decode cX6_copy 2 = .ok (.aload_n 2, 1) := by decide +kernel
theorem dX6_copy_3 : decode cX6_copy 3 = .ok (.iconst 0, 1) := by decide +kernel
theorem dX6_copy_4 : decode cX6_copy 4 = .ok (.aload_n 1, 1) := by decide +kernel
theorem dX6_copy_5 : decode cX6_copy 5 = .ok (.arraylength, 1) := by decide +kernel
theorem dX6_copy_6 : decode cX6_copy 6 = .ok (.invokestatic 59, 3) := by decide +kernel
theorem dX6_copy_9 : decode cX6_copy 9 = .ok (.return_, 1) := by decide +kernel
theorem dX6_become_0 : decode cX6_become 0 = .ok (.aload_n 0, 1) := by decide +kernel
theorem dX6_become_1 : decode cX6_become 1 = .ok (.aload_n 1, 1) := by decide +kernel
theorem dX6_become_2 : decode cX6_become 2 = .ok (.getfield 65, 3) := by decide +kernel
theorem dX6_become_5 : decode cX6_become 5 = .ok (.putfield 65, 3) := by decide +kernel
theorem dX6_become_8 : decode cX6_become 8 = .ok (.aload_n 0, 1) := by decide +kernel
theorem dX6_become_9 : decode cX6_become 9 = .ok (.aload_n 1, 1) := by decide +kernel
theorem dX6_become_10 : decode cX6_become 10 = .ok (.getfield 15, 3) := by decide +kernel
theorem dX6_become_13 : decode cX6_become 13 = .ok (.putfield 15, 3) := by decide +kernel
theorem dX6_become_16 : decode cX6_become 16 = .ok (.aload_n 0, 1) := by decide +kernel
theorem dX6_become_17 : decode cX6_become 17 = .ok (.aload_n 1, 1) := by decide +kernel
theorem dX6_become_18 : decode cX6_become 18 = .ok (.getfield 68, 3) := by decide +kernel
theorem dX6_become_21 : decode cX6_become 21 = .ok (.putfield 68, 3) := by decide +kernel
theorem dX6_become_24 : decode cX6_become 24 = .ok (.aload_n 0, 1) := by decide +kernel
theorem dX6_become_25 : decode cX6_become 25 = .ok (.aload_n 1, 1) := by decide +kernel
theorem dX6_become_26 : decode cX6_become 26 = .ok (.getfield 19, 3) := by decide +kernel
theorem dX6_become_29 : decode cX6_become 29 = .ok (.aload_n 0, 1) := by decide +kernel
theorem dX6_become_30 : decode cX6_become 30 = .ok (.getfield 19, 3) := by decide +kernel
theorem dX6_become_33 : decode cX6_become 33 = .ok (.invokevirtual 71, 3) := by decide +kernel
theorem dX6_become_36 : decode cX6_become 36 = .ok (.aload_n 0, 1) := by decide +kernel
theorem dX6_become_37 : decode cX6_become 37 = .ok (.aload_n 1, 1) := by decide +kernel
theorem dX6_become_38 : decode cX6_become 38 = .ok (.getfield 23, 3) := by decide +kernel
theorem dX6_become_41 : decode cX6_become 41 = .ok (.aload_n 0, 1) := by decide +kernel
theorem dX6_become_42 : decode cX6_become 42 = .ok (.getfield 23, 3) := by decide +kernel
theorem dX6_become_45 : decode cX6_become 45 = .ok (.invokevirtual 71, 3) := by decide +kernel
theorem dX6_become_48 : decode cX6_become 48 = .ok (.aload_n 0, 1) := by decide +kernel
theorem dX6_become_49 : decode cX6_become 49 = .ok (.aload_n 1, 1) := by decide +kernel
theorem dX6_become_50 : decode cX6_become 50 = .ok (.getfield 26, 3) := by decide +kernel
theorem dX6_become_53 : decode cX6_become 53 = .ok (.aload_n 0, 1) := by decide +kernel
theorem dX6_become_54 : decode cX6_become 54 = .ok (.getfield 26, 3) := by decide +kernel
theorem dX6_become_57 : decode cX6_become 57 = .ok (.invokevirtual 71, 3) := by decide +kernel
theorem dX6_become_60 : decode cX6_become 60 = .ok (.aload_n 0, 1) := by decide +kernel
theorem dX6_become_61 : decode cX6_become 61 = .ok (.aload_n 1, 1) := by decide +kernel
theorem dX6_become_62 : decode cX6_become 62 = .ok (.getfield 29, 3) := by decide +kernel
theorem dX6_become_65 : decode cX6_become 65 = .ok (.aload_n 0, 1) := by decide +kernel
theorem dX6_become_66 : decode cX6_become 66 = .ok (.getfield 29, 3) := by decide +kernel
theorem dX6_become_69 : decode cX6_become 69 = .ok (.invokevirtual 71, 3) := by decide +kernel
theorem dX6_become_72 : decode cX6_become 72 = .ok (.aload_n 0, 1) := by decide +kernel
theorem dX6_become_73 : decode cX6_become 73 = .ok (.aload_n 1, 1) := by decide +kernel
theorem dX6_become_74 : decode cX6_become 74 = .ok (.getfield 32, 3) := by decide +kernel
theorem dX6_become_77 : decode cX6_become 77 = .ok (.aload_n 0, 1) := by decide +kernel
theorem dX6_become_78 : decode cX6_become 78 = .ok (.getfield 32, 3) := by decide +kernel
theorem dX6_become_81 : decode cX6_become 81 = .ok (.invokevirtual 71, 3) := by decide +kernel
theorem dX6_become_84 : decode cX6_become 84 = .ok (.aload_n 0, 1) := by decide +kernel
theorem dX6_become_85 : decode cX6_become 85 = .ok (.aload_n 1, 1) := by decide +kernel
theorem dX6_become_86 : decode cX6_become 86 = .ok (.getfield 35, 3) := by decide +kernel
theorem dX6_become_89 : decode cX6_become 89 = .ok (.aload_n 0, 1) := by decide +kernel
theorem dX6_become_90 : decode cX6_become 90 = .ok (.getfield 35, 3) := by decide +kernel
theorem dX6_become_93 : decode cX6_become 93 = .ok (.invokevirtual 71, 3) := by decide +kernel
theorem dX6_become_96 : decode cX6_become 96 = .ok (.aload_n 0, 1) := by decide +kernel
theorem dX6_become_97 : decode cX6_become 97 = .ok (.aload_n 1, 1) := by decide +kernel
theorem dX6_become_98 : decode cX6_become 98 = .ok (.getfield 38, 3) := by decide +kernel
theorem dX6_become_101 : decode cX6_become 101 = .ok (.aload_n 0, 1) := by decide +kernel
theorem dX6_become_102 : decode cX6_become 102 = .ok (.getfield 38, 3) := by decide +kernel
theorem dX6_become_105 : decode cX6_become 105 = .ok (.invokevirtual 71, 3) := by decide +kernel
theorem dX6_become_108 : decode cX6_become 108 = .ok (.aload_n 0, 1) := by decide +kernel
theorem dX6_become_109 : decode cX6_become 109 = .ok (.aload_n 1, 1) := by decide +kernel
theorem dX6_become_110 : decode cX6_become 110 = .ok (.getfield 41, 3) := by decide +kernel
theorem dX6_become_113 : decode cX6_become 113 = .ok (.aload_n 0, 1) := by decide +kernel
theorem dX6_become_114 : decode cX6_become 114 = .ok (.getfield 41, 3) := by decide +kernel
theorem dX6_become_117 : decode cX6_become 117 = .ok (.invokevirtual 71, 3) := by decide +kernel
theorem dX6_become_120 : decode cX6_become 120 = .ok (.aload_n 0, 1) := by decide +kernel
theorem dX6_become_121 : decode cX6_become 121 = .ok (.aload_n 1, 1) := by decide +kernel
theorem dX6_become_122 : decode cX6_become 122 = .ok (.getfield 44, 3) := by decide +kernel
theorem dX6_become_125 : decode cX6_become 125 = .ok (.aload_n 0, 1) := by decide +kernel
theorem dX6_become_126 : decode cX6_become 126 = .ok (.getfield 44, 3) := by decide +kernel
theorem dX6_become_129 : decode cX6_become 129 = .ok (.invokevirtual 71, 3) := by decide +kernel
theorem dX6_become_132 : decode cX6_become 132 = .ok (.aload_n 0, 1) := by decide +kernel
theorem dX6_become_133 : decode cX6_become 133 = .ok (.aload_n 1, 1) := by decide +kernel
theorem dX6_become_134 : decode cX6_become 134 = .ok (.getfield 47, 3) := by decide +kernel
theorem dX6_become_137 : decode cX6_become 137 = .ok (.aload_n 0, 1) := by decide +kernel
theorem dX6_become_138 : decode cX6_become 138 = .ok (.getfield 47, 3) := by decide +kernel
theorem dX6_become_141 : decode cX6_become 141 = .ok (.invokevirtual 71, 3) := by decide +kernel
theorem dX6_become_144 : decode cX6_become 144 = .ok (.aload_n 0, 1) := by decide +kernel
theorem dX6_become_145 : decode cX6_become 145 = .ok (.aload_n 1, 1) := by decide +kernel
theorem dX6_become_146 : decode cX6_become 146 = .ok (.getfield 50, 3) := by decide +kernel
theorem dX6_become_149 : decode cX6_become 149 = .ok (.aload_n 0, 1) := by decide +kernel
theorem dX6_become_150 : decode cX6_become 150 = .ok (.getfield 50, 3) := by decide +kernel
theorem dX6_become_153 : decode cX6_become 153 = .ok (.invokevirtual 71, 3) := by decide +kernel
theorem dX6_become_156 : decode cX6_become 156 = .ok (.aload_n 0, 1) := by decide +kernel
theorem dX6_become_157 : decode cX6_become 157 = .ok (.aload_n 1, 1) := by decide +kernel
theorem dX6_become_158 : decode cX6_become 158 = .ok (.getfield 53, 3) := by decide +kernel
theorem dX6_become_161 : decode cX6_become 161 = .ok (.aload_n 0, 1) := by decide +kernel
theorem dX6_become_162 : decode cX6_become 162 = .ok (.getfield 53, 3) := by decide +kernel
theorem dX6_become_165 : decode cX6_become 165 = .ok (.invokevirtual 71, 3) := by decide +kernel
theorem dX6_become_168 : decode cX6_become 168 = .ok (.aload_n 0, 1) := by decide +kernel
theorem dX6_become_169 : decode cX6_become 169 = .ok (.aload_n 1, 1) := by decide +kernel
theorem dX6_become_170 : decode cX6_become 170 = .ok (.getfield 56, 3) := by decide +kernel
theorem dX6_become_173 : decode cX6_become 173 = .ok (.aload_n 0, 1) := by decide +kernel
theorem dX6_become_174 : decode cX6_become 174 = .ok (.getfield 56, 3) := by decide +kernel
theorem dX6_become_177 : decode cX6_become 177 = .ok (.invokevirtual 71, 3) := by decide +kernel
theorem dX6_become_180 : decode cX6_become 180 = .ok (.return_, 1) := by decide +kernel
theorem dX6_come_0 : decode cX6_come 0 = .ok (.aload_n 0, 1) := by decide +kernel
theorem dX6_come_1 : decode cX6_come 1 = .ok (.getfield 50, 3) := by decide +kernel
theorem dX6_come_4 : decode cX6_come 4 = .ok (.aload_n 0, 1) := by decide +kernel
theorem dX6_come_5 : decode cX6_come 5 = .ok (.getfield 68, 3) := by decide +kernel
theorem dX6_come_8 : decode cX6_come 8 = .ok (.iconst 0, 1) := by decide +kernel
theorem dX6_come_9 : decode cX6_come 9 = .ok (.iastore, 1) := by decide +kernel
theorem dX6_come_10 : decode cX6_come 10 = .ok (.aload_n 0, 1) := by decide +kernel
theorem dX6_come_11 : decode cX6_come 11 = .ok (.getfield 53, 3) := by decide +kernel
theorem dX6_come_14 : decode cX6_come 14 = .ok (.aload_n 0, 1) := by decide +kernel
theorem dX6_come_15 : decode cX6_come 15 = .ok (.getfield 68, 3) := by decide +kernel
theorem dX6_come_18 : decode cX6_come 18 = .ok (.iconst 0, 1) := by decide +kernel
theorem dX6_come_19 : decode cX6_come 19 = .ok (.iastore, 1) := by decide +kernel
theorem dX6_come_20 : decode cX6_come 20 = .ok (.aload_n 0, 1) := by decide +kernel
theorem dX6_come_21 : decode cX6_come 21 = .ok (.getfield 56, 3) := by decide +kernel
theorem dX6_come_24 : decode cX6_come 24 = .ok (.aload_n 0, 1) := by decide +kernel
theorem dX6_come_25 : decode cX6_come 25 = .ok (.getfield 68, 3) := by decide +kernel
theorem dX6_come_28 : decode cX6_come 28 = .ok (.iconst (-1), 1) := by decide +kernel
theorem dX6_come_29 : decode cX6_come 29 = .ok (.iastore, 1) := by decide +kernel
theorem dX6_come_30 : decode cX6_come 30 = .ok (.aload_n 0, 1) := by decide +kernel
theorem dX6_come_31 : decode cX6_come 31 = .ok (.dup, 1) := by decide +kernel
theorem dX6_come_32 : decode cX6_come 32 = .ok (.getfield 68, 3) := by decide +kernel
theorem dX6_come_35 : decode cX6_come 35 = .ok (.iconst 1, 1) := by decide +kernel
theorem dX6_come_36 : decode cX6_come 36 = .ok (.iadd, 1) := by decide +kernel
theorem dX6_come_37 : decode cX6_come 37 = .ok (.putfield 68, 3) := by decide +kernel
theorem dX6_come_40 : decode cX6_come 40 = .ok (.aload_n 0, 1) := by decide +kernel
theorem dX6_come_41 : decode cX6_come 41 = .ok (.getfield 68, 3) := by decide +kernel
theorem dX6_come_44 : decode cX6_come 44 = .ok (.iconst 1, 1) := by decide +kernel
theorem dX6_come_45 : decode cX6_come 45 = .ok (.isub, 1) := by decide +kernel
theorem dX6_come_46 : decode cX6_come 46 = .ok (.ireturn, 1) := by decide +kernel
theorem dX6_first_0 : decode cX6_first 0 = .ok (.iconst 0, 1) := by decide +kernel
theorem dX6_first_1 : decode cX6_first 1 = .ok (.istore_n 2, 1) := by decide +kernel
theorem dX6_first_2 : decode cX6_first 2 = .ok (.iload_n 2, 1) := by decide +kernel
theorem dX6_first_3 : decode cX6_first 3 = .ok (.aload_n 0, 1) := by decide +kernel
theorem dX6_first_4 : decode cX6_first 4 = .ok (.getfield 68, 3) := by decide +kernel
theorem dX6_first_7 : decode cX6_first 7 = .ok (.if_icmp .ge 34, 3) := by decide +kernel
theorem dX6_first_10 : decode cX6_first 10 = .ok (.aload_n 0, 1) := by decide +kernel
theorem dX6_first_11 : decode cX6_first 11 = .ok (.getfield 3, 3) := by decide +kernel
theorem dX6_first_14 : decode cX6_first 14 = .ok (.getfield 75, 3) := by decide +kernel
theorem dX6_first_17 : decode cX6_first 17 = .ok (.iload_n 2, 1) := by decide +kernel
theorem dX6_first_18 : decode cX6_first 18 = .ok (.iaload, 1) := by decide +kernel
theorem dX6_first_19 : decode cX6_first 19 = .ok (.iload_n 1, 1) := by decide +kernel
theorem dX6_first_20 : decode cX6_first 20 = .ok (.if_icmp .ne 15, 3) := by decide +kernel
theorem dX6_first_23 : decode cX6_first 23 = .ok (.aload_n 0, 1) := by decide +kernel
theorem dX6_first_24 : decode cX6_first 24 = .ok (.getfield 56, 3) := by decide +kernel
theorem dX6_first_27 : decode cX6_first 27 = .ok (.iload_n 2, 1) := by decide +kernel
theorem dX6_first_28 : decode cX6_first 28 = .ok (.iaload, 1) := by decide +kernel
theorem dX6_first_29 : decode cX6_first 29 = .ok (.iconst (-1), 1) := by decide +kernel
theorem dX6_first_30 : decode cX6_first 30 = .ok (.if_icmp .ne 5, 3) := by decide +kernel
theorem dX6_first_33 : decode cX6_first 33 = .ok (.iload_n 2, 1) := by decide +kernel
theorem dX6_first_34 : decode cX6_first 34 = .ok (.ireturn, 1) := by decide +kernel
theorem dX6_first_35 : decode cX6_first 35 = .ok (.iinc 2 1, 3) := by decide +kernel
theorem dX6_first_38 : decode cX6_first 38 = .ok (.goto (-36), 3) := by decide +kernel
theorem dX6_first_41 : decode cX6_first 41 = .ok (.iconst (-1), 1) := by decide +kernel
theorem dX6_first_42 : decode cX6_first 42 = .ok (.ireturn, 1) := by decide +kernel
theorem dX6_bellOf_0 : decode cX6_bellOf 0 = .ok (.iconst 0, 1) := by decide +kernel
theorem dX6_bellOf_1 : decode cX6_bellOf 1 = .ok (.istore_n 2, 1) := by decide +kernel
theorem dX6_bellOf_2 : decode cX6_bellOf 2 = .ok (.iload_n 2, 1) := by decide +kernel
theorem dX6_bellOf_3 : decode cX6_bellOf 3 = .ok (.iconst 4, 1) := by decide +kernel
theorem dX6_bellOf_4 : decode cX6_bellOf 4 = .ok (.if_icmp .ge 21, 3) := by decide +kernel
theorem dX6_bellOf_7 : decode cX6_bellOf 7 = .ok (.aload_n 0, 1) := by decide +kernel
theorem dX6_bellOf_8 : decode cX6_bellOf 8 = .ok (.getfield 32, 3) := by decide +kernel
theorem dX6_bellOf_11 : decode cX6_bellOf 11 = .ok (.iload_n 2, 1) := by decide +kernel
theorem dX6_bellOf_12 : decode cX6_bellOf 12 = .ok (.iaload, 1) := by decide +kernel
theorem dX6_bellOf_13 : decode cX6_bellOf 13 = .ok (.iload_n 1, 1) := by decide +kernel
theorem dX6_bellOf_14 : decode cX6_bellOf 14 = .ok (.if_icmp .ne 5, 3) := by decide +kernel
theorem dX6_bellOf_17 : decode cX6_bellOf 17 = .ok (.iload_n 2, 1) := by decide +kernel
theorem dX6_bellOf_18 : decode cX6_bellOf 18 = .ok (.ireturn, 1) := by decide +kernel
theorem dX6_bellOf_19 : decode cX6_bellOf 19 = .ok (.iinc 2 1, 3) := by decide +kernel
theorem dX6_bellOf_22 : decode cX6_bellOf 22 = .ok (.goto (-20), 3) := by decide +kernel
theorem dX6_bellOf_25 : decode cX6_bellOf 25 = .ok (.iconst (-1), 1) := by decide +kernel
theorem dX6_bellOf_26 : decode cX6_bellOf 26 = .ok (.ireturn, 1) := by decide +kernel
theorem dX6_canPull_0 : decode cX6_canPull 0 = .ok (.aload_n 0, 1) := by decide +kernel
theorem dX6_canPull_1 : decode cX6_canPull 1 = .ok (.getfield 41, 3) := by decide +kernel
theorem dX6_canPull_4 : decode cX6_canPull 4 = .ok (.iload_n 1, 1) := by decide +kernel
theorem dX6_canPull_5 : decode cX6_canPull 5 = .ok (.iaload, 1) := by decide +kernel
theorem dX6_canPull_6 : decode cX6_canPull 6 = .ok (.aload_n 0, 1) := by decide +kernel
theorem dX6_canPull_7 : decode cX6_canPull 7 = .ok (.getfield 19, 3) := by decide +kernel
theorem dX6_canPull_10 : decode cX6_canPull 10 = .ok (.iload_n 2, 1) := by decide +kernel
theorem dX6_canPull_11 : decode cX6_canPull 11 = .ok (.iaload, 1) := by decide +kernel
theorem dX6_canPull_12 : decode cX6_canPull 12 = .ok (.iadd, 1) := by decide +kernel
theorem dX6_canPull_13 : decode cX6_canPull 13 = .ok (.bipush 10, 2) := by decide +kernel
theorem dX6_canPull_15 : decode cX6_canPull 15 = .ok (.aload_n 0, 1) := by decide +kernel
theorem dX6_canPull_16 : decode cX6_canPull 16 = .ok (.getfield 3, 3) := by decide +kernel
theorem dX6_canPull_19 : decode cX6_canPull 19 = .ok (.getfield 78, 3) := by decide +kernel
theorem dX6_canPull_22 : decode cX6_canPull 22 = .ok (.iload_n 1, 1) := by decide +kernel
theorem dX6_canPull_23 : decode cX6_canPull 23 = .ok (.iaload, 1) := by decide +kernel
theorem dX6_canPull_24 : decode cX6_canPull 24 = .ok (.imul, 1) := by decide +kernel
theorem dX6_canPull_25 : decode cX6_canPull 25 = .ok (.if_icmp .gt 7, 3) := by decide +kernel
theorem dX6_canPull_28 : decode cX6_canPull 28 = .ok (.iconst 1, 1) := by decide +kernel
theorem dX6_canPull_29 : decode cX6_canPull 29 = .ok (.goto 4, 3) := by decide +kernel
theorem dX6_canPull_32 : decode cX6_canPull 32 = .ok (.iconst 0, 1) := by decide +kernel
theorem dX6_canPull_33 : decode cX6_canPull 33 = .ok (.ireturn, 1) := by decide +kernel
theorem dX6_isManned_0 : decode cX6_isManned 0 = .ok (.aload_n 0, 1) := by decide +kernel
theorem dX6_isManned_1 : decode cX6_isManned 1 = .ok (.getfield 32, 3) := by decide +kernel
theorem dX6_isManned_4 : decode cX6_isManned 4 = .ok (.iload_n 1, 1) := by decide +kernel
theorem dX6_isManned_5 : decode cX6_isManned 5 = .ok (.iaload, 1) := by decide +kernel
theorem dX6_isManned_6 : decode cX6_isManned 6 = .ok (.iconst (-1), 1) := by decide +kernel
theorem dX6_isManned_7 : decode cX6_isManned 7 = .ok (.if_icmp .eq 19, 3) := by decide +kernel
theorem dX6_isManned_10 : decode cX6_isManned 10 = .ok (.aload_n 0, 1) := by decide +kernel
theorem dX6_isManned_11 : decode cX6_isManned 11 = .ok (.aload_n 0, 1) := by decide +kernel
theorem dX6_isManned_12 : decode cX6_isManned 12 = .ok (.getfield 32, 3) := by decide +kernel
theorem dX6_isManned_15 : decode cX6_isManned 15 = .ok (.iload_n 1, 1) := by decide +kernel
theorem dX6_isManned_16 : decode cX6_isManned 16 = .ok (.iaload, 1) := by decide +kernel
theorem dX6_isManned_17 : decode cX6_isManned 17 = .ok (.iload_n 1, 1) := by decide +kernel
theorem dX6_isManned_18 : decode cX6_isManned 18 = .ok (.invokevirtual 81, 3) := by decide +kernel
theorem dX6_isManned_21 : decode cX6_isManned 21 = .ok (.ifCond .eq 5, 3) := by decide +kernel
theorem dX6_isManned_24 : decode cX6_isManned 24 = .ok (.iconst 1, 1) := by decide +kernel
theorem dX6_isManned_25 : decode cX6_isManned 25 = .ok (.ireturn, 1) := by decide +kernel
theorem dX6_isManned_26 : decode cX6_isManned 26 = .ok (.iconst (-1), 1) := by decide +kernel
theorem dX6_isManned_27 : decode cX6_isManned 27 = .ok (.istore_n 2, 1) := by decide +kernel
theorem dX6_isManned_28 : decode cX6_isManned 28 = .ok (.iconst 0, 1) := by decide +kernel
theorem dX6_isManned_29 : decode cX6_isManned 29 = .ok (.istore_n 3, 1) := by decide +kernel
theorem dX6_isManned_30 : decode cX6_isManned 30 = .ok (.iload_n 3, 1) := by decide +kernel
theorem dX6_isManned_31 : decode cX6_isManned 31 = .ok (.aload_n 0, 1) := by decide +kernel
theorem dX6_isManned_32 : decode cX6_isManned 32 = .ok (.getfield 3, 3) := by decide +kernel
theorem dX6_isManned_35 : decode cX6_isManned 35 = .ok (.getfield 85, 3) := by decide +kernel
theorem dX6_isManned_38 : decode cX6_isManned 38 = .ok (.if_icmp .ge 49, 3) := by decide +kernel
theorem dX6_isManned_41 : decode cX6_isManned 41 = .ok (.aload_n 0, 1) := by decide +kernel
theorem dX6_isManned_42 : decode cX6_isManned 42 = .ok (.iload_n 3, 1) := by decide +kernel
theorem dX6_isManned_43 : decode cX6_isManned 43 = .ok (.invokevirtual 88, 3) := by decide +kernel
theorem dX6_isManned_46 : decode cX6_isManned 46 = .ok (.iconst (-1), 1) := by decide +kernel
theorem dX6_isManned_47 : decode cX6_isManned 47 = .ok (.if_icmp .ne 34, 3) := by decide +kernel
theorem dX6_isManned_50 : decode cX6_isManned 50 = .ok (.aload_n 0, 1) := by decide +kernel
theorem dX6_isManned_51 : decode cX6_isManned 51 = .ok (.iload_n 3, 1) := by decide +kernel
theorem dX6_isManned_52 : decode cX6_isManned 52 = .ok (.iload_n 1, 1) := by decide +kernel
theorem dX6_isManned_53 : decode cX6_isManned 53 = .ok (.invokevirtual 81, 3) := by decide +kernel
theorem dX6_isManned_56 : decode cX6_isManned 56 = .ok (.ifCond .eq 25, 3) := by decide +kernel
theorem dX6_isManned_59 : decode cX6_isManned 59 = .ok (.iload_n 2, 1) := by decide +kernel
theorem dX6_isManned_60 : decode cX6_isManned 60 = .ok (.iconst (-1), 1) := by decide +kernel
theorem dX6_isManned_61 : decode cX6_isManned 61 = .ok (.if_icmp .eq 18, 3) := by decide +kernel
theorem dX6_isManned_64 : decode cX6_isManned 64 = .ok (.aload_n 0, 1) := by decide +kernel
theorem dX6_isManned_65 : decode cX6_isManned 65 = .ok (.getfield 41, 3) := by decide +kernel
theorem dX6_isManned_68 : decode cX6_isManned 68 = .ok (.iload_n 3, 1) := by decide +kernel
theorem dX6_isManned_69 : decode cX6_isManned 69 = .ok (.iaload, 1) := by decide +kernel
theorem dX6_isManned_70 : decode cX6_isManned 70 = .ok (.aload_n 0, 1) := by decide +kernel
theorem dX6_isManned_71 : decode cX6_isManned 71 = .ok (.getfield 41, 3) := by decide +kernel
theorem dX6_isManned_74 : decode cX6_isManned 74 = .ok (.iload_n 2, 1) := by decide +kernel
theorem dX6_isManned_75 : decode cX6_isManned 75 = .ok (.iaload, 1) := by decide +kernel
theorem dX6_isManned_76 : decode cX6_isManned 76 = .ok (.if_icmp .ge 5, 3) := by decide +kernel
theorem dX6_isManned_79 : decode cX6_isManned 79 = .ok (.iload_n 3, 1) := by decide +kernel
theorem dX6_isManned_80 : decode cX6_isManned 80 = .ok (.istore_n 2, 1) := by decide +kernel
theorem dX6_isManned_81 : decode cX6_isManned 81 = .ok (.iinc 3 1, 3) := by decide +kernel
theorem dX6_isManned_84 : decode cX6_isManned 84 = .ok (.goto (-54), 3) := by decide +kernel
theorem dX6_isManned_87 : decode cX6_isManned 87 = .ok (.iload_n 2, 1) := by decide +kernel
theorem dX6_isManned_88 : decode cX6_isManned 88 = .ok (.iconst (-1), 1) := by decide +kernel
theorem dX6_isManned_89 : decode cX6_isManned 89 = .ok (.if_icmp .ne 5, 3) := by decide +kernel
theorem dX6_isManned_92 : decode cX6_isManned 92 = .ok (.iconst 0, 1) := by decide +kernel
theorem dX6_isManned_93 : decode cX6_isManned 93 = .ok (.ireturn, 1) := by decide +kernel
theorem dX6_isManned_94 : decode cX6_isManned 94 = .ok (.aload_n 0, 1) := by decide +kernel
theorem dX6_isManned_95 : decode cX6_isManned 95 = .ok (.getfield 32, 3) := by decide +kernel
theorem dX6_isManned_98 : decode cX6_isManned 98 = .ok (.iload_n 1, 1) := by decide +kernel
theorem dX6_isManned_99 : decode cX6_isManned 99 = .ok (.iload_n 2, 1) := by decide +kernel
theorem dX6_isManned_100 : decode cX6_isManned 100 = .ok (.iastore, 1) := by decide +kernel
theorem dX6_isManned_101 : decode cX6_isManned 101 = .ok (.aload_n 0, 1) := by decide +kernel
theorem dX6_isManned_102 : decode cX6_isManned 102 = .ok (.getfield 47, 3) := by decide +kernel
theorem dX6_isManned_105 : decode cX6_isManned 105 = .ok (.iload_n 2, 1) := by decide +kernel
theorem dX6_isManned_106 : decode cX6_isManned 106 = .ok (.dup2, 1) := by decide +kernel
theorem dX6_isManned_107 : decode cX6_isManned 107 = .ok (.iaload, 1) := by decide +kernel
theorem dX6_isManned_108 : decode cX6_isManned 108 = .ok (.iconst 1, 1) := by decide +kernel
theorem dX6_isManned_109 : decode cX6_isManned 109 = .ok (.iadd, 1) := by decide +kernel
theorem dX6_isManned_110 : decode cX6_isManned 110 = .ok (.iastore, 1) := by decide +kernel
theorem dX6_isManned_111 : decode cX6_isManned 111 = .ok (.iconst 1, 1) := by decide +kernel
theorem dX6_isManned_112 : decode cX6_isManned 112 = .ok (.ireturn, 1) := by decide +kernel
theorem dX6_stroke_0 : decode cX6_stroke 0 = .ok (.iconst 2, 1) := by decide +kernel
theorem dX6_stroke_1 : decode cX6_stroke 1 = .ok (.iload_n 1, 1) := by decide +kernel
theorem dX6_stroke_2 : decode cX6_stroke 2 = .ok (.imul, 1) := by decide +kernel
theorem dX6_stroke_3 : decode cX6_stroke 3 = .ok (.aload_n 0, 1) := by decide +kernel
theorem dX6_stroke_4 : decode cX6_stroke 4 = .ok (.getfield 29, 3) := by decide +kernel
theorem dX6_stroke_7 : decode cX6_stroke 7 = .ok (.iload_n 1, 1) := by decide +kernel
theorem dX6_stroke_8 : decode cX6_stroke 8 = .ok (.iaload, 1) := by decide +kernel
theorem dX6_stroke_9 : decode cX6_stroke 9 = .ok (.iadd, 1) := by decide +kernel
theorem dX6_stroke_10 : decode cX6_stroke 10 = .ok (.istore 4, 2) := by decide +kernel
theorem dX6_stroke_12 : decode cX6_stroke 12 = .ok (.bipush 10, 2) := by decide +kernel
theorem dX6_stroke_14 : decode cX6_stroke 14 = .ok (.aload_n 0, 1) := by decide +kernel
theorem dX6_stroke_15 : decode cX6_stroke 15 = .ok (.getfield 19, 3) := by decide +kernel
theorem dX6_stroke_18 : decode cX6_stroke 18 = .ok (.iload_n 1, 1) := by decide +kernel
theorem dX6_stroke_19 : decode cX6_stroke 19 = .ok (.iaload, 1) := by decide +kernel
theorem dX6_stroke_20 : decode cX6_stroke 20 = .ok (.imul, 1) := by decide +kernel
theorem dX6_stroke_21 : decode cX6_stroke 21 = .ok (.iconst 1, 1) := by decide +kernel
theorem dX6_stroke_22 : decode cX6_stroke 22 = .ok (.aload_n 0, 1) := by decide +kernel
theorem dX6_stroke_23 : decode cX6_stroke 23 = .ok (.getfield 23, 3) := by decide +kernel
theorem dX6_stroke_26 : decode cX6_stroke 26 = .ok (.iload 4, 2) := by decide +kernel
theorem dX6_stroke_28 : decode cX6_stroke 28 = .ok (.iaload, 1) := by decide +kernel
theorem dX6_stroke_29 : decode cX6_stroke 29 = .ok (.iadd, 1) := by decide +kernel
theorem dX6_stroke_30 : decode cX6_stroke 30 = .ok (.idiv, 1) := by decide +kernel
theorem dX6_stroke_31 : decode cX6_stroke 31 = .ok (.istore 5, 2) := by decide +kernel
theorem dX6_stroke_33 : decode cX6_stroke 33 = .ok (.aload_n 0, 1) := by decide +kernel
theorem dX6_stroke_34 : decode cX6_stroke 34 = .ok (.getfield 41, 3) := by decide +kernel
theorem dX6_stroke_37 : decode cX6_stroke 37 = .ok (.aload_n 0, 1) := by decide +kernel
theorem dX6_stroke_38 : decode cX6_stroke 38 = .ok (.getfield 32, 3) := by decide +kernel
theorem dX6_stroke_41 : decode cX6_stroke 41 = .ok (.iload_n 1, 1) := by decide +kernel
theorem dX6_stroke_42 : decode cX6_stroke 42 = .ok (.iaload, 1) := by decide +kernel
theorem dX6_stroke_43 : decode cX6_stroke 43 = .ok (.dup2, 1) := by decide +kernel
theorem dX6_stroke_44 : decode cX6_stroke 44 = .ok (.iaload, 1) := by decide +kernel
theorem dX6_stroke_45 : decode cX6_stroke 45 = .ok (.aload_n 0, 1) := by decide +kernel
theorem dX6_stroke_46 : decode cX6_stroke 46 = .ok (.getfield 19, 3) := by decide +kernel
theorem dX6_stroke_49 : decode cX6_stroke 49 = .ok (.iload_n 1, 1) := by decide +kernel
theorem dX6_stroke_50 : decode cX6_stroke 50 = .ok (.iaload, 1) := by decide +kernel
theorem dX6_stroke_51 : decode cX6_stroke 51 = .ok (.iadd, 1) := by decide +kernel
theorem dX6_stroke_52 : decode cX6_stroke 52 = .ok (.iastore, 1) := by decide +kernel
theorem dX6_stroke_53 : decode cX6_stroke 53 = .ok (.aload_n 0, 1) := by decide +kernel
theorem dX6_stroke_54 : decode cX6_stroke 54 = .ok (.getfield 44, 3) := by decide +kernel
theorem dX6_stroke_57 : decode cX6_stroke 57 = .ok (.aload_n 0, 1) := by decide +kernel
theorem dX6_stroke_58 : decode cX6_stroke 58 = .ok (.getfield 32, 3) := by decide +kernel
theorem dX6_stroke_61 : decode cX6_stroke 61 = .ok (.iload_n 1, 1) := by decide +kernel
theorem dX6_stroke_62 : decode cX6_stroke 62 = .ok (.iaload, 1) := by decide +kernel
theorem dX6_stroke_63 : decode cX6_stroke 63 = .ok (.dup2, 1) := by decide +kernel
theorem dX6_stroke_64 : decode cX6_stroke 64 = .ok (.iaload, 1) := by decide +kernel
theorem dX6_stroke_65 : decode cX6_stroke 65 = .ok (.iconst 1, 1) := by decide +kernel
theorem dX6_stroke_66 : decode cX6_stroke 66 = .ok (.iadd, 1) := by decide +kernel
theorem dX6_stroke_67 : decode cX6_stroke 67 = .ok (.iastore, 1) := by decide +kernel
theorem dX6_stroke_68 : decode cX6_stroke 68 = .ok (.aload_n 0, 1) := by decide +kernel
theorem dX6_stroke_69 : decode cX6_stroke 69 = .ok (.getfield 38, 3) := by decide +kernel
theorem dX6_stroke_72 : decode cX6_stroke 72 = .ok (.iload_n 1, 1) := by decide +kernel
theorem dX6_stroke_73 : decode cX6_stroke 73 = .ok (.dup2, 1) := by decide +kernel
theorem dX6_stroke_74 : decode cX6_stroke 74 = .ok (.iaload, 1) := by decide +kernel
theorem dX6_stroke_75 : decode cX6_stroke 75 = .ok (.iconst 1, 1) := by decide +kernel
theorem dX6_stroke_76 : decode cX6_stroke 76 = .ok (.iadd, 1) := by decide +kernel
theorem dX6_stroke_77 : decode cX6_stroke 77 = .ok (.iastore, 1) := by decide +kernel
theorem dX6_stroke_78 : decode cX6_stroke 78 = .ok (.aload_n 0, 1) := by decide +kernel
theorem dX6_stroke_79 : decode cX6_stroke 79 = .ok (.getfield 50, 3) := by decide +kernel
theorem dX6_stroke_82 : decode cX6_stroke 82 = .ok (.iload_n 2, 1) := by decide +kernel
theorem dX6_stroke_83 : decode cX6_stroke 83 = .ok (.dup2, 1) := by decide +kernel
theorem dX6_stroke_84 : decode cX6_stroke 84 = .ok (.iaload, 1) := by decide +kernel
theorem dX6_stroke_85 : decode cX6_stroke 85 = .ok (.iconst 1, 1) := by decide +kernel
theorem dX6_stroke_86 : decode cX6_stroke 86 = .ok (.iadd, 1) := by decide +kernel
theorem dX6_stroke_87 : decode cX6_stroke 87 = .ok (.iastore, 1) := by decide +kernel
theorem dX6_stroke_88 : decode cX6_stroke 88 = .ok (.iload_n 3, 1) := by decide +kernel
theorem dX6_stroke_89 : decode cX6_stroke 89 = .ok (.ifCond .eq 39, 3) := by decide +kernel
theorem dX6_stroke_92 : decode cX6_stroke 92 = .ok (.aload_n 0, 1) := by decide +kernel
theorem dX6_stroke_93 : decode cX6_stroke 93 = .ok (.getfield 50, 3) := by decide +kernel
theorem dX6_stroke_96 : decode cX6_stroke 96 = .ok (.iload_n 2, 1) := by decide +kernel
theorem dX6_stroke_97 : decode cX6_stroke 97 = .ok (.iaload, 1) := by decide +kernel
theorem dX6_stroke_98 : decode cX6_stroke 98 = .ok (.aload_n 0, 1) := by decide +kernel
theorem dX6_stroke_99 : decode cX6_stroke 99 = .ok (.getfield 3, 3) := by decide +kernel
theorem dX6_stroke_102 : decode cX6_stroke 102 = .ok (.iload_n 2, 1) := by decide +kernel
theorem dX6_stroke_103 : decode cX6_stroke 103 = .ok (.invokevirtual 92, 3) := by decide +kernel
theorem dX6_stroke_106 : decode cX6_stroke 106 = .ok (.if_icmp .le 22, 3) := by decide +kernel
theorem dX6_stroke_109 : decode cX6_stroke 109 = .ok (.aload_n 0, 1) := by decide +kernel
theorem dX6_stroke_110 : decode cX6_stroke 110 = .ok (.getfield 3, 3) := by decide +kernel
theorem dX6_stroke_113 : decode cX6_stroke 113 = .ok (.getfield 95, 3) := by decide +kernel
theorem dX6_stroke_116 : decode cX6_stroke 116 = .ok (.bipush 91, 2) := by decide +kernel
theorem dX6_stroke_118 : decode cX6_stroke 118 = .ok (.iload_n 2, 1) := by decide +kernel
theorem dX6_stroke_119 : decode cX6_stroke 119 = .ok (.imul, 1) := by decide +kernel
theorem dX6_stroke_120 : decode cX6_stroke 120 = .ok (.iload 5, 2) := by decide +kernel
theorem dX6_stroke_122 : decode cX6_stroke 122 = .ok (.iadd, 1) := by decide +kernel
theorem dX6_stroke_123 : decode cX6_stroke 123 = .ok (.dup2, 1) := by decide +kernel
theorem dX6_stroke_124 : decode cX6_stroke 124 = .ok (.iaload, 1) := by decide +kernel
theorem dX6_stroke_125 : decode cX6_stroke 125 = .ok (.iconst 1, 1) := by decide +kernel
theorem dX6_stroke_126 : decode cX6_stroke 126 = .ok (.iadd, 1) := by decide +kernel
theorem dX6_stroke_127 : decode cX6_stroke 127 = .ok (.iastore, 1) := by decide +kernel
theorem dX6_stroke_128 : decode cX6_stroke 128 = .ok (.aload_n 0, 1) := by decide +kernel
theorem dX6_stroke_129 : decode cX6_stroke 129 = .ok (.getfield 23, 3) := by decide +kernel
theorem dX6_stroke_132 : decode cX6_stroke 132 = .ok (.iload 4, 2) := by decide +kernel
theorem dX6_stroke_134 : decode cX6_stroke 134 = .ok (.iaload, 1) := by decide +kernel
theorem dX6_stroke_135 : decode cX6_stroke 135 = .ok (.ifCond .ne 16, 3) := by decide +kernel
theorem dX6_stroke_138 : decode cX6_stroke 138 = .ok (.aload_n 0, 1) := by decide +kernel
theorem dX6_stroke_139 : decode cX6_stroke 139 = .ok (.getfield 53, 3) := by decide +kernel
theorem dX6_stroke_142 : decode cX6_stroke 142 = .ok (.iload_n 2, 1) := by decide +kernel
theorem dX6_stroke_143 : decode cX6_stroke 143 = .ok (.dup2, 1) := by decide +kernel
theorem dX6_stroke_144 : decode cX6_stroke 144 = .ok (.iaload, 1) := by decide +kernel
theorem dX6_stroke_145 : decode cX6_stroke 145 = .ok (.iconst 1, 1) := by decide +kernel
theorem dX6_stroke_146 : decode cX6_stroke 146 = .ok (.iadd, 1) := by decide +kernel
theorem dX6_stroke_147 : decode cX6_stroke 147 = .ok (.iastore, 1) := by decide +kernel
theorem dX6_stroke_148 : decode cX6_stroke 148 = .ok (.goto 46, 3) := by decide +kernel
theorem dX6_stroke_151 : decode cX6_stroke 151 = .ok (.aload_n 0, 1) := by decide +kernel
theorem dX6_stroke_152 : decode cX6_stroke 152 = .ok (.getfield 26, 3) := by decide +kernel
theorem dX6_stroke_155 : decode cX6_stroke 155 = .ok (.iload 4, 2) := by decide +kernel
theorem dX6_stroke_157 : decode cX6_stroke 157 = .ok (.dup2, 1) := by decide +kernel
theorem dX6_stroke_158 : decode cX6_stroke 158 = .ok (.iaload, 1) := by decide +kernel
theorem dX6_stroke_159 : decode cX6_stroke 159 = .ok (.aload_n 0, 1) := by decide +kernel
theorem dX6_stroke_160 : decode cX6_stroke 160 = .ok (.getfield 19, 3) := by decide +kernel
theorem dX6_stroke_163 : decode cX6_stroke 163 = .ok (.iload_n 1, 1) := by decide +kernel
theorem dX6_stroke_164 : decode cX6_stroke 164 = .ok (.iaload, 1) := by decide +kernel
theorem dX6_stroke_165 : decode cX6_stroke 165 = .ok (.iadd, 1) := by decide +kernel
theorem dX6_stroke_166 : decode cX6_stroke 166 = .ok (.iastore, 1) := by decide +kernel
theorem dX6_stroke_167 : decode cX6_stroke 167 = .ok (.aload_n 0, 1) := by decide +kernel
theorem dX6_stroke_168 : decode cX6_stroke 168 = .ok (.getfield 26, 3) := by decide +kernel
theorem dX6_stroke_171 : decode cX6_stroke 171 = .ok (.iload 4, 2) := by decide +kernel
theorem dX6_stroke_173 : decode cX6_stroke 173 = .ok (.iaload, 1) := by decide +kernel
theorem dX6_stroke_174 : decode cX6_stroke 174 = .ok (.bipush 10, 2) := by decide +kernel
theorem dX6_stroke_176 : decode cX6_stroke 176 = .ok (.aload_n 0, 1) := by decide +kernel
theorem dX6_stroke_177 : decode cX6_stroke 177 = .ok (.getfield 23, 3) := by decide +kernel
theorem dX6_stroke_180 : decode cX6_stroke 180 = .ok (.iload 4, 2) := by decide +kernel
theorem dX6_stroke_182 : decode cX6_stroke 182 = .ok (.iaload, 1) := by decide +kernel
theorem dX6_stroke_183 : decode cX6_stroke 183 = .ok (.imul, 1) := by decide +kernel
theorem dX6_stroke_184 : decode cX6_stroke 184 = .ok (.if_icmp .lt 10, 3) := by decide +kernel
theorem dX6_stroke_187 : decode cX6_stroke 187 = .ok (.aload_n 0, 1) := by decide +kernel
theorem dX6_stroke_188 : decode cX6_stroke 188 = .ok (.iload 4, 2) := by decide +kernel
theorem dX6_stroke_190 : decode cX6_stroke 190 = .ok (.iconst 0, 1) := by decide +kernel
theorem dX6_stroke_191 : decode cX6_stroke 191 = .ok (.invokevirtual 98, 3) := by decide +kernel
theorem dX6_stroke_194 : decode cX6_stroke 194 = .ok (.aload_n 0, 1) := by decide +kernel
theorem dX6_stroke_195 : decode cX6_stroke 195 = .ok (.getfield 29, 3) := by decide +kernel
theorem dX6_stroke_198 : decode cX6_stroke 198 = .ok (.iload_n 1, 1) := by decide +kernel
theorem dX6_stroke_199 : decode cX6_stroke 199 = .ok (.iconst 1, 1) := by decide +kernel
theorem dX6_stroke_200 : decode cX6_stroke 200 = .ok (.aload_n 0, 1) := by decide +kernel
theorem dX6_stroke_201 : decode cX6_stroke 201 = .ok (.getfield 29, 3) := by decide +kernel
theorem dX6_stroke_204 : decode cX6_stroke 204 = .ok (.iload_n 1, 1) := by decide +kernel
theorem dX6_stroke_205 : decode cX6_stroke 205 = .ok (.iaload, 1) := by decide +kernel
theorem dX6_stroke_206 : decode cX6_stroke 206 = .ok (.isub, 1) := by decide +kernel
theorem dX6_stroke_207 : decode cX6_stroke 207 = .ok (.iastore, 1) := by decide +kernel
theorem dX6_stroke_208 : decode cX6_stroke 208 = .ok (.aload_n 0, 1) := by decide +kernel
theorem dX6_stroke_209 : decode cX6_stroke 209 = .ok (.getfield 50, 3) := by decide +kernel
theorem dX6_stroke_212 : decode cX6_stroke 212 = .ok (.iload_n 2, 1) := by decide +kernel
theorem dX6_stroke_213 : decode cX6_stroke 213 = .ok (.iaload, 1) := by decide +kernel
theorem dX6_stroke_214 : decode cX6_stroke 214 = .ok (.aload_n 0, 1) := by decide +kernel
theorem dX6_stroke_215 : decode cX6_stroke 215 = .ok (.getfield 3, 3) := by decide +kernel
theorem dX6_stroke_218 : decode cX6_stroke 218 = .ok (.iload_n 2, 1) := by decide +kernel
theorem dX6_stroke_219 : decode cX6_stroke 219 = .ok (.invokevirtual 92, 3) := by decide +kernel
theorem dX6_stroke_222 : decode cX6_stroke 222 = .ok (.if_icmp .gt 28, 3) := by decide +kernel
theorem dX6_stroke_225 : decode cX6_stroke 225 = .ok (.aload_n 0, 1) := by decide +kernel
theorem dX6_stroke_226 : decode cX6_stroke 226 = .ok (.getfield 50, 3) := by decide +kernel
theorem dX6_stroke_229 : decode cX6_stroke 229 = .ok (.iload_n 2, 1) := by decide +kernel
theorem dX6_stroke_230 : decode cX6_stroke 230 = .ok (.iaload, 1) := by decide +kernel
theorem dX6_stroke_231 : decode cX6_stroke 231 = .ok (.aload_n 0, 1) := by decide +kernel
theorem dX6_stroke_232 : decode cX6_stroke 232 = .ok (.getfield 3, 3) := by decide +kernel
theorem dX6_stroke_235 : decode cX6_stroke 235 = .ok (.getfield 102, 3) := by decide +kernel
theorem dX6_stroke_238 : decode cX6_stroke 238 = .ok (.iload_n 2, 1) := by decide +kernel
theorem dX6_stroke_239 : decode cX6_stroke 239 = .ok (.iaload, 1) := by decide +kernel
theorem dX6_stroke_240 : decode cX6_stroke 240 = .ok (.iconst 1, 1) := by decide +kernel
theorem dX6_stroke_241 : decode cX6_stroke 241 = .ok (.iadd, 1) := by decide +kernel
theorem dX6_stroke_242 : decode cX6_stroke 242 = .ok (.irem, 1) := by decide +kernel
theorem dX6_stroke_243 : decode cX6_stroke 243 = .ok (.ifCond .ne 7, 3) := by decide +kernel
theorem dX6_stroke_246 : decode cX6_stroke 246 = .ok (.iconst 1, 1) := by decide +kernel
theorem dX6_stroke_247 : decode cX6_stroke 247 = .ok (.goto 4, 3) := by decide +kernel
theorem dX6_stroke_250 : decode cX6_stroke 250 = .ok (.iconst 0, 1) := by decide +kernel
theorem dX6_stroke_251 : decode cX6_stroke 251 = .ok (.istore 6, 2) := by decide +kernel
theorem dX6_stroke_253 : decode cX6_stroke 253 = .ok (.aload_n 0, 1) := by decide +kernel
theorem dX6_stroke_254 : decode cX6_stroke 254 = .ok (.getfield 35, 3) := by decide +kernel
theorem dX6_stroke_257 : decode cX6_stroke 257 = .ok (.iload_n 1, 1) := by decide +kernel
theorem dX6_stroke_258 : decode cX6_stroke 258 = .ok (.aload_n 0, 1) := by decide +kernel
theorem dX6_stroke_259 : decode cX6_stroke 259 = .ok (.getfield 3, 3) := by decide +kernel
theorem dX6_stroke_262 : decode cX6_stroke 262 = .ok (.getfield 105, 3) := by decide +kernel
theorem dX6_stroke_265 : decode cX6_stroke 265 = .ok (.iload_n 2, 1) := by decide +kernel
theorem dX6_stroke_266 : decode cX6_stroke 266 = .ok (.iaload, 1) := by decide +kernel
theorem dX6_stroke_267 : decode cX6_stroke 267 = .ok (.iconst 1, 1) := by decide +kernel
theorem dX6_stroke_268 : decode cX6_stroke 268 = .ok (.isub, 1) := by decide +kernel
theorem dX6_stroke_269 : decode cX6_stroke 269 = .ok (.iload 6, 2) := by decide +kernel
theorem dX6_stroke_271 : decode cX6_stroke 271 = .ok (.ifCond .eq 15, 3) := by decide +kernel
theorem dX6_stroke_274 : decode cX6_stroke 274 = .ok (.aload_n 0, 1) := by decide +kernel
theorem dX6_stroke_275 : decode cX6_stroke 275 = .ok (.getfield 3, 3) := by decide +kernel
theorem dX6_stroke_278 : decode cX6_stroke 278 = .ok (.getfield 105, 3) := by decide +kernel
theorem dX6_stroke_281 : decode cX6_stroke 281 = .ok (.iload_n 2, 1) := by decide +kernel
theorem dX6_stroke_282 : decode cX6_stroke 282 = .ok (.iaload, 1) := by decide +kernel
theorem dX6_stroke_283 : decode cX6_stroke 283 = .ok (.goto 4, 3) := by decide +kernel
theorem dX6_stroke_286 : decode cX6_stroke 286 = .ok (.iconst 0, 1) := by decide +kernel
theorem dX6_stroke_287 : decode cX6_stroke 287 = .ok (.iadd, 1) := by decide +kernel
theorem dX6_stroke_288 : decode cX6_stroke 288 = .ok (.iastore, 1) := by decide +kernel
theorem dX6_stroke_289 : decode cX6_stroke 289 = .ok (.aload_n 0, 1) := by decide +kernel
theorem dX6_stroke_290 : decode cX6_stroke 290 = .ok (.getfield 50, 3) := by decide +kernel
theorem dX6_stroke_293 : decode cX6_stroke 293 = .ok (.iload_n 2, 1) := by decide +kernel
theorem dX6_stroke_294 : decode cX6_stroke 294 = .ok (.iaload, 1) := by decide +kernel
theorem dX6_stroke_295 : decode cX6_stroke 295 = .ok (.aload_n 0, 1) := by decide +kernel
theorem dX6_stroke_296 : decode cX6_stroke 296 = .ok (.getfield 3, 3) := by decide +kernel
theorem dX6_stroke_299 : decode cX6_stroke 299 = .ok (.iload_n 2, 1) := by decide +kernel
theorem dX6_stroke_300 : decode cX6_stroke 300 = .ok (.invokevirtual 108, 3) := by decide +kernel
theorem dX6_stroke_303 : decode cX6_stroke 303 = .ok (.if_icmp .ne 8, 3) := by decide +kernel
theorem dX6_stroke_306 : decode cX6_stroke 306 = .ok (.aload_n 0, 1) := by decide +kernel
theorem dX6_stroke_307 : decode cX6_stroke 307 = .ok (.iload_n 2, 1) := by decide +kernel
theorem dX6_stroke_308 : decode cX6_stroke 308 = .ok (.invokevirtual 111, 3) := by decide +kernel
theorem dX6_stroke_311 : decode cX6_stroke 311 = .ok (.return_, 1) := by decide +kernel
theorem dX6_bare_0 : decode cX6_bare 0 = .ok (.aload_n 0, 1) := by decide +kernel
theorem dX6_bare_1 : decode cX6_bare 1 = .ok (.getfield 23, 3) := by decide +kernel
theorem dX6_bare_4 : decode cX6_bare 4 = .ok (.iload_n 1, 1) := by decide +kernel
theorem dX6_bare_5 : decode cX6_bare 5 = .ok (.iload_n 2, 1) := by decide +kernel
theorem dX6_bare_6 : decode cX6_bare 6 = .ok (.iastore, 1) := by decide +kernel
theorem dX6_bare_7 : decode cX6_bare 7 = .ok (.aload_n 0, 1) := by decide +kernel
theorem dX6_bare_8 : decode cX6_bare 8 = .ok (.getfield 26, 3) := by decide +kernel
theorem dX6_bare_11 : decode cX6_bare 11 = .ok (.iload_n 1, 1) := by decide +kernel
theorem dX6_bare_12 : decode cX6_bare 12 = .ok (.iconst 0, 1) := by decide +kernel
theorem dX6_bare_13 : decode cX6_bare 13 = .ok (.iastore, 1) := by decide +kernel
theorem dX6_bare_14 : decode cX6_bare 14 = .ok (.return_, 1) := by decide +kernel
theorem dX6_end_0 : decode cX6_end 0 = .ok (.aload_n 0, 1) := by decide +kernel
theorem dX6_end_1 : decode cX6_end 1 = .ok (.getfield 3, 3) := by decide +kernel
theorem dX6_end_4 : decode cX6_end 4 = .ok (.getfield 75, 3) := by decide +kernel
theorem dX6_end_7 : decode cX6_end 7 = .ok (.iload_n 1, 1) := by decide +kernel
theorem dX6_end_8 : decode cX6_end 8 = .ok (.iaload, 1) := by decide +kernel
theorem dX6_end_9 : decode cX6_end 9 = .ok (.istore_n 2, 1) := by decide +kernel
theorem dX6_end_10 : decode cX6_end 10 = .ok (.aload_n 0, 1) := by decide +kernel
theorem dX6_end_11 : decode cX6_end 11 = .ok (.iload_n 2, 1) := by decide +kernel
theorem dX6_end_12 : decode cX6_end 12 = .ok (.invokevirtual 115, 3) := by decide +kernel
theorem dX6_end_15 : decode cX6_end 15 = .ok (.iload_n 1, 1) := by decide +kernel
theorem dX6_end_16 : decode cX6_end 16 = .ok (.if_icmp .ne 7, 3) := by decide +kernel
theorem dX6_end_19 : decode cX6_end 19 = .ok (.iconst 1, 1) := by decide +kernel
theorem dX6_end_20 : decode cX6_end 20 = .ok (.goto 4, 3) := by decide +kernel
theorem dX6_end_23 : decode cX6_end 23 = .ok (.iconst 0, 1) := by decide +kernel
theorem dX6_end_24 : decode cX6_end 24 = .ok (.istore_n 3, 1) := by decide +kernel
theorem dX6_end_25 : decode cX6_end 25 = .ok (.aload_n 0, 1) := by decide +kernel
theorem dX6_end_26 : decode cX6_end 26 = .ok (.getfield 56, 3) := by decide +kernel
theorem dX6_end_29 : decode cX6_end 29 = .ok (.iload_n 1, 1) := by decide +kernel
theorem dX6_end_30 : decode cX6_end 30 = .ok (.aload_n 0, 1) := by decide +kernel
theorem dX6_end_31 : decode cX6_end 31 = .ok (.getfield 65, 3) := by decide +kernel
theorem dX6_end_34 : decode cX6_end 34 = .ok (.iastore, 1) := by decide +kernel
theorem dX6_end_35 : decode cX6_end 35 = .ok (.iload_n 3, 1) := by decide +kernel
theorem dX6_end_36 : decode cX6_end 36 = .ok (.ifCond .eq 10, 3) := by decide +kernel
theorem dX6_end_39 : decode cX6_end 39 = .ok (.aload_n 0, 1) := by decide +kernel
theorem dX6_end_40 : decode cX6_end 40 = .ok (.getfield 35, 3) := by decide +kernel
theorem dX6_end_43 : decode cX6_end 43 = .ok (.iload_n 2, 1) := by decide +kernel
theorem dX6_end_44 : decode cX6_end 44 = .ok (.iconst 0, 1) := by decide +kernel
theorem dX6_end_45 : decode cX6_end 45 = .ok (.iastore, 1) := by decide +kernel
theorem dX6_end_46 : decode cX6_end 46 = .ok (.aload_n 0, 1) := by decide +kernel
theorem dX6_end_47 : decode cX6_end 47 = .ok (.iload_n 2, 1) := by decide +kernel
theorem dX6_end_48 : decode cX6_end 48 = .ok (.invokevirtual 115, 3) := by decide +kernel
theorem dX6_end_51 : decode cX6_end 51 = .ok (.iconst (-1), 1) := by decide +kernel
theorem dX6_end_52 : decode cX6_end 52 = .ok (.if_icmp .ne 10, 3) := by decide +kernel
theorem dX6_end_55 : decode cX6_end 55 = .ok (.aload_n 0, 1) := by decide +kernel
theorem dX6_end_56 : decode cX6_end 56 = .ok (.getfield 32, 3) := by decide +kernel
theorem dX6_end_59 : decode cX6_end 59 = .ok (.iload_n 2, 1) := by decide +kernel
theorem dX6_end_60 : decode cX6_end 60 = .ok (.iconst (-1), 1) := by decide +kernel
theorem dX6_end_61 : decode cX6_end 61 = .ok (.iastore, 1) := by decide +kernel
theorem dX6_end_62 : decode cX6_end 62 = .ok (.return_, 1) := by decide +kernel
theorem dX6_pass_0 : decode cX6_pass 0 = .ok (.iconst 0, 1) := by decide +kernel
theorem dX6_pass_1 : decode cX6_pass 1 = .ok (.istore_n 2, 1) := by decide +kernel
theorem dX6_pass_2 : decode cX6_pass 2 = .ok (.iconst 0, 1) := by decide +kernel
theorem dX6_pass_3 : decode cX6_pass 3 = .ok (.istore_n 3, 1) := by decide +kernel
theorem dX6_pass_4 : decode cX6_pass 4 = .ok (.iload_n 3, 1) := by decide +kernel
theorem dX6_pass_5 : decode cX6_pass 5 = .ok (.iconst 4, 1) := by decide +kernel
theorem dX6_pass_6 : decode cX6_pass 6 = .ok (.if_icmp .ge 66, 3) := by decide +kernel
theorem dX6_pass_9 : decode cX6_pass 9 = .ok (.aload_n 0, 1) := by decide +kernel
theorem dX6_pass_10 : decode cX6_pass 10 = .ok (.iload_n 3, 1) := by decide +kernel
theorem dX6_pass_11 : decode cX6_pass 11 = .ok (.invokevirtual 115, 3) := by decide +kernel
theorem dX6_pass_14 : decode cX6_pass 14 = .ok (.istore 4, 2) := by decide +kernel
theorem dX6_pass_16 : decode cX6_pass 16 = .ok (.iload 4, 2) := by decide +kernel
theorem dX6_pass_18 : decode cX6_pass 18 = .ok (.iconst (-1), 1) := by decide +kernel
theorem dX6_pass_19 : decode cX6_pass 19 = .ok (.if_icmp .ne 6, 3) := by decide +kernel
theorem dX6_pass_22 : decode cX6_pass 22 = .ok (.goto 44, 3) := by decide +kernel
theorem dX6_pass_25 : decode cX6_pass 25 = .ok (.aload_n 0, 1) := by decide +kernel
theorem dX6_pass_26 : decode cX6_pass 26 = .ok (.getfield 35, 3) := by decide +kernel
theorem dX6_pass_29 : decode cX6_pass 29 = .ok (.iload_n 3, 1) := by decide +kernel
theorem dX6_pass_30 : decode cX6_pass 30 = .ok (.iaload, 1) := by decide +kernel
theorem dX6_pass_31 : decode cX6_pass 31 = .ok (.ifCond .le 16, 3) := by decide +kernel
theorem dX6_pass_34 : decode cX6_pass 34 = .ok (.aload_n 0, 1) := by decide +kernel
theorem dX6_pass_35 : decode cX6_pass 35 = .ok (.getfield 35, 3) := by decide +kernel
theorem dX6_pass_38 : decode cX6_pass 38 = .ok (.iload_n 3, 1) := by decide +kernel
theorem dX6_pass_39 : decode cX6_pass 39 = .ok (.dup2, 1) := by decide +kernel
theorem dX6_pass_40 : decode cX6_pass 40 = .ok (.iaload, 1) := by decide +kernel
theorem dX6_pass_41 : decode cX6_pass 41 = .ok (.iconst 1, 1) := by decide +kernel
theorem dX6_pass_42 : decode cX6_pass 42 = .ok (.isub, 1) := by decide +kernel
theorem dX6_pass_43 : decode cX6_pass 43 = .ok (.iastore, 1) := by decide +kernel
theorem dX6_pass_44 : decode cX6_pass 44 = .ok (.goto 22, 3) := by decide +kernel
theorem dX6_pass_47 : decode cX6_pass 47 = .ok (.aload_n 0, 1) := by decide +kernel
theorem dX6_pass_48 : decode cX6_pass 48 = .ok (.iload_n 3, 1) := by decide +kernel
theorem dX6_pass_49 : decode cX6_pass 49 = .ok (.invokevirtual 118, 3) := by decide +kernel
theorem dX6_pass_52 : decode cX6_pass 52 = .ok (.ifCond .eq 14, 3) := by decide +kernel
theorem dX6_pass_55 : decode cX6_pass 55 = .ok (.aload_n 0, 1) := by decide +kernel
theorem dX6_pass_56 : decode cX6_pass 56 = .ok (.iload_n 3, 1) := by decide +kernel
theorem dX6_pass_57 : decode cX6_pass 57 = .ok (.iload 4, 2) := by decide +kernel
theorem dX6_pass_59 : decode cX6_pass 59 = .ok (.iload_n 1, 1) := by decide +kernel
theorem dX6_pass_60 : decode cX6_pass 60 = .ok (.invokevirtual 122, 3) := by decide +kernel
theorem dX6_pass_63 : decode cX6_pass 63 = .ok (.iinc 2 1, 3) := by decide +kernel
theorem dX6_pass_66 : decode cX6_pass 66 = .ok (.iinc 3 1, 3) := by decide +kernel
theorem dX6_pass_69 : decode cX6_pass 69 = .ok (.goto (-65), 3) := by decide +kernel
theorem dX6_pass_72 : decode cX6_pass 72 = .ok (.iconst 0, 1) := by decide +kernel
theorem dX6_pass_73 : decode cX6_pass 73 = .ok (.istore_n 3, 1) := by decide +kernel
theorem dX6_pass_74 : decode cX6_pass 74 = .ok (.iload_n 3, 1) := by decide +kernel
theorem dX6_pass_75 : decode cX6_pass 75 = .ok (.aload_n 0, 1) := by decide +kernel
theorem dX6_pass_76 : decode cX6_pass 76 = .ok (.getfield 3, 3) := by decide +kernel
theorem dX6_pass_79 : decode cX6_pass 79 = .ok (.getfield 85, 3) := by decide +kernel
theorem dX6_pass_82 : decode cX6_pass 82 = .ok (.if_icmp .ge 36, 3) := by decide +kernel
theorem dX6_pass_85 : decode cX6_pass 85 = .ok (.aload_n 0, 1) := by decide +kernel
theorem dX6_pass_86 : decode cX6_pass 86 = .ok (.iload_n 3, 1) := by decide +kernel
theorem dX6_pass_87 : decode cX6_pass 87 = .ok (.invokevirtual 88, 3) := by decide +kernel
theorem dX6_pass_90 : decode cX6_pass 90 = .ok (.iconst (-1), 1) := by decide +kernel
theorem dX6_pass_91 : decode cX6_pass 91 = .ok (.if_icmp .ne 21, 3) := by decide +kernel
theorem dX6_pass_94 : decode cX6_pass 94 = .ok (.aload_n 0, 1) := by decide +kernel
theorem dX6_pass_95 : decode cX6_pass 95 = .ok (.getfield 41, 3) := by decide +kernel
theorem dX6_pass_98 : decode cX6_pass 98 = .ok (.iload_n 3, 1) := by decide +kernel
theorem dX6_pass_99 : decode cX6_pass 99 = .ok (.iconst 0, 1) := by decide +kernel
theorem dX6_pass_100 : decode cX6_pass 100 = .ok (.aload_n 0, 1) := by decide +kernel
theorem dX6_pass_101 : decode cX6_pass 101 = .ok (.getfield 41, 3) := by decide +kernel
theorem dX6_pass_104 : decode cX6_pass 104 = .ok (.iload_n 3, 1) := by decide +kernel
theorem dX6_pass_105 : decode cX6_pass 105 = .ok (.iaload, 1) := by decide +kernel
theorem dX6_pass_106 : decode cX6_pass 106 = .ok (.iconst 2, 1) := by decide +kernel
theorem dX6_pass_107 : decode cX6_pass 107 = .ok (.isub, 1) := by decide +kernel
theorem dX6_pass_108 : decode cX6_pass 108 = .ok (.invokestatic 126, 3) := by decide +kernel
theorem dX6_pass_111 : decode cX6_pass 111 = .ok (.iastore, 1) := by decide +kernel
theorem dX6_pass_112 : decode cX6_pass 112 = .ok (.iinc 3 1, 3) := by decide +kernel
theorem dX6_pass_115 : decode cX6_pass 115 = .ok (.goto (-41), 3) := by decide +kernel
theorem dX6_pass_118 : decode cX6_pass 118 = .ok (.aload_n 0, 1) := by decide +kernel
theorem dX6_pass_119 : decode cX6_pass 119 = .ok (.dup, 1) := by decide +kernel
theorem dX6_pass_120 : decode cX6_pass 120 = .ok (.getfield 65, 3) := by decide +kernel
theorem dX6_pass_123 : decode cX6_pass 123 = .ok (.iconst 1, 1) := by decide +kernel
theorem dX6_pass_124 : decode cX6_pass 124 = .ok (.iadd, 1) := by decide +kernel
theorem dX6_pass_125 : decode cX6_pass 125 = .ok (.putfield 65, 3) := by decide +kernel
theorem dX6_pass_128 : decode cX6_pass 128 = .ok (.iload_n 2, 1) := by decide +kernel
theorem dX6_pass_129 : decode cX6_pass 129 = .ok (.ireturn, 1) := by decide +kernel
theorem dX6_counted_0 : decode cX6_counted 0 = .ok (.bipush 9, 2) := by decide +kernel
theorem dX6_counted_2 : decode cX6_counted 2 = .ok (.newarray .int, 2) := by decide +kernel
theorem dX6_counted_4 : decode cX6_counted 4 = .ok (.dup, 1) := by decide +kernel
theorem dX6_counted_5 : decode cX6_counted 5 = .ok (.iconst 0, 1) := by decide +kernel
theorem dX6_counted_6 : decode cX6_counted 6 = .ok (.aload_n 0, 1) := by decide +kernel
theorem dX6_counted_7 : decode cX6_counted 7 = .ok (.getfield 65, 3) := by decide +kernel
theorem dX6_counted_10 : decode cX6_counted 10 = .ok (.iastore, 1) := by decide +kernel
theorem dX6_counted_11 : decode cX6_counted 11 = .ok (.dup, 1) := by decide +kernel
theorem dX6_counted_12 : decode cX6_counted 12 = .ok (.iconst 1, 1) := by decide +kernel
theorem dX6_counted_13 : decode cX6_counted 13 = .ok (.aload_n 0, 1) := by decide +kernel
theorem dX6_counted_14 : decode cX6_counted 14 = .ok (.getfield 3, 3) := by decide +kernel
theorem dX6_counted_17 : decode cX6_counted 17 = .ok (.getfield 85, 3) := by decide +kernel
theorem dX6_counted_20 : decode cX6_counted 20 = .ok (.iastore, 1) := by decide +kernel
theorem dX6_counted_21 : decode cX6_counted 21 = .ok (.dup, 1) := by decide +kernel
theorem dX6_counted_22 : decode cX6_counted 22 = .ok (.iconst 2, 1) := by decide +kernel
theorem dX6_counted_23 : decode cX6_counted 23 = .ok (.iconst 0, 1) := by decide +kernel
theorem dX6_counted_24 : decode cX6_counted 24 = .ok (.iastore, 1) := by decide +kernel
theorem dX6_counted_25 : decode cX6_counted 25 = .ok (.dup, 1) := by decide +kernel
theorem dX6_counted_26 : decode cX6_counted 26 = .ok (.iconst 3, 1) := by decide +kernel
theorem dX6_counted_27 : decode cX6_counted 27 = .ok (.aload_n 0, 1) := by decide +kernel
theorem dX6_counted_28 : decode cX6_counted 28 = .ok (.getfield 68, 3) := by decide +kernel
theorem dX6_counted_31 : decode cX6_counted 31 = .ok (.iastore, 1) := by decide +kernel
theorem dX6_counted_32 : decode cX6_counted 32 = .ok (.dup, 1) := by decide +kernel
theorem dX6_counted_33 : decode cX6_counted 33 = .ok (.iconst 4, 1) := by decide +kernel
theorem dX6_counted_34 : decode cX6_counted 34 = .ok (.iconst 0, 1) := by decide +kernel
theorem dX6_counted_35 : decode cX6_counted 35 = .ok (.iastore, 1) := by decide +kernel
theorem dX6_counted_36 : decode cX6_counted 36 = .ok (.dup, 1) := by decide +kernel
theorem dX6_counted_37 : decode cX6_counted 37 = .ok (.iconst 5, 1) := by decide +kernel
theorem dX6_counted_38 : decode cX6_counted 38 = .ok (.iconst 0, 1) := by decide +kernel
theorem dX6_counted_39 : decode cX6_counted 39 = .ok (.iastore, 1) := by decide +kernel
theorem dX6_counted_40 : decode cX6_counted 40 = .ok (.dup, 1) := by decide +kernel
theorem dX6_counted_41 : decode cX6_counted 41 = .ok (.bipush 6, 2) := by decide +kernel
theorem dX6_counted_43 : decode cX6_counted 43 = .ok (.iconst 0, 1) := by decide +kernel
theorem dX6_counted_44 : decode cX6_counted 44 = .ok (.iastore, 1) := by decide +kernel
theorem dX6_counted_45 : decode cX6_counted 45 = .ok (.dup, 1) := by decide +kernel
theorem dX6_counted_46 : decode cX6_counted 46 = .ok (.bipush 7, 2) := by decide +kernel
theorem dX6_counted_48 : decode cX6_counted 48 = .ok (.aload_n 0, 1) := by decide +kernel
theorem dX6_counted_49 : decode cX6_counted 49 = .ok (.getfield 15, 3) := by decide +kernel
theorem dX6_counted_52 : decode cX6_counted 52 = .ok (.iastore, 1) := by decide +kernel
theorem dX6_counted_53 : decode cX6_counted 53 = .ok (.dup, 1) := by decide +kernel
theorem dX6_counted_54 : decode cX6_counted 54 = .ok (.bipush 8, 2) := by decide +kernel
theorem dX6_counted_56 : decode cX6_counted 56 = .ok (.iconst 0, 1) := by decide +kernel
theorem dX6_counted_57 : decode cX6_counted 57 = .ok (.iastore, 1) := by decide +kernel
theorem dX6_counted_58 : decode cX6_counted 58 = .ok (.astore_n 2, 1) := by decide +kernel
theorem dX6_counted_59 : decode cX6_counted 59 = .ok (.iconst 0, 1) := by decide +kernel
theorem dX6_counted_60 : decode cX6_counted 60 = .ok (.istore_n 3, 1) := by decide +kernel
theorem dX6_counted_61 : decode cX6_counted 61 = .ok (.iload_n 3, 1) := by decide +kernel
theorem dX6_counted_62 : decode cX6_counted 62 = .ok (.iconst 4, 1) := by decide +kernel
theorem dX6_counted_63 : decode cX6_counted 63 = .ok (.if_icmp .ge 42, 3) := by decide +kernel
theorem dX6_counted_66 : decode cX6_counted 66 = .ok (.aload_n 2, 1) := by decide +kernel
theorem dX6_counted_67 : decode cX6_counted 67 = .ok (.iconst 2, 1) := by decide +kernel
theorem dX6_counted_68 : decode cX6_counted 68 = .ok (.dup2, 1) := by decide +kernel
theorem dX6_counted_69 : decode cX6_counted 69 = .ok (.iaload, 1) := by decide +kernel
theorem dX6_counted_70 : decode cX6_counted 70 = .ok (.aload_n 0, 1) := by decide +kernel
theorem dX6_counted_71 : decode cX6_counted 71 = .ok (.getfield 32, 3) := by decide +kernel
theorem dX6_counted_74 : decode cX6_counted 74 = .ok (.iload_n 3, 1) := by decide +kernel
theorem dX6_counted_75 : decode cX6_counted 75 = .ok (.iaload, 1) := by decide +kernel
theorem dX6_counted_76 : decode cX6_counted 76 = .ok (.iconst (-1), 1) := by decide +kernel
theorem dX6_counted_77 : decode cX6_counted 77 = .ok (.if_icmp .ne 7, 3) := by decide +kernel
theorem dX6_counted_80 : decode cX6_counted 80 = .ok (.iconst 0, 1) := by decide +kernel
theorem dX6_counted_81 : decode cX6_counted 81 = .ok (.goto 4, 3) := by decide +kernel
theorem dX6_counted_84 : decode cX6_counted 84 = .ok (.iconst 1, 1) := by decide +kernel
theorem dX6_counted_85 : decode cX6_counted 85 = .ok (.iadd, 1) := by decide +kernel
theorem dX6_counted_86 : decode cX6_counted 86 = .ok (.iastore, 1) := by decide +kernel
theorem dX6_counted_87 : decode cX6_counted 87 = .ok (.aload_n 2, 1) := by decide +kernel
theorem dX6_counted_88 : decode cX6_counted 88 = .ok (.iconst 5, 1) := by decide +kernel
theorem dX6_counted_89 : decode cX6_counted 89 = .ok (.dup2, 1) := by decide +kernel
theorem dX6_counted_90 : decode cX6_counted 90 = .ok (.iaload, 1) := by decide +kernel
theorem dX6_counted_91 : decode cX6_counted 91 = .ok (.aload_n 0, 1) := by decide +kernel
theorem dX6_counted_92 : decode cX6_counted 92 = .ok (.getfield 38, 3) := by decide +kernel
theorem dX6_counted_95 : decode cX6_counted 95 = .ok (.iload_n 3, 1) := by decide +kernel
theorem dX6_counted_96 : decode cX6_counted 96 = .ok (.iaload, 1) := by decide +kernel
theorem dX6_counted_97 : decode cX6_counted 97 = .ok (.iadd, 1) := by decide +kernel
theorem dX6_counted_98 : decode cX6_counted 98 = .ok (.iastore, 1) := by decide +kernel
theorem dX6_counted_99 : decode cX6_counted 99 = .ok (.iinc 3 1, 3) := by decide +kernel
theorem dX6_counted_102 : decode cX6_counted 102 = .ok (.goto (-41), 3) := by decide +kernel
theorem dX6_counted_105 : decode cX6_counted 105 = .ok (.iconst 0, 1) := by decide +kernel
theorem dX6_counted_106 : decode cX6_counted 106 = .ok (.istore_n 3, 1) := by decide +kernel
theorem dX6_counted_107 : decode cX6_counted 107 = .ok (.iload_n 3, 1) := by decide +kernel
theorem dX6_counted_108 : decode cX6_counted 108 = .ok (.aload_n 0, 1) := by decide +kernel
theorem dX6_counted_109 : decode cX6_counted 109 = .ok (.getfield 68, 3) := by decide +kernel
theorem dX6_counted_112 : decode cX6_counted 112 = .ok (.if_icmp .ge 43, 3) := by decide +kernel
theorem dX6_counted_115 : decode cX6_counted 115 = .ok (.aload_n 2, 1) := by decide +kernel
theorem dX6_counted_116 : decode cX6_counted 116 = .ok (.iconst 4, 1) := by decide +kernel
theorem dX6_counted_117 : decode cX6_counted 117 = .ok (.dup2, 1) := by decide +kernel
theorem dX6_counted_118 : decode cX6_counted 118 = .ok (.iaload, 1) := by decide +kernel
theorem dX6_counted_119 : decode cX6_counted 119 = .ok (.aload_n 0, 1) := by decide +kernel
theorem dX6_counted_120 : decode cX6_counted 120 = .ok (.getfield 56, 3) := by decide +kernel
theorem dX6_counted_123 : decode cX6_counted 123 = .ok (.iload_n 3, 1) := by decide +kernel
theorem dX6_counted_124 : decode cX6_counted 124 = .ok (.iaload, 1) := by decide +kernel
theorem dX6_counted_125 : decode cX6_counted 125 = .ok (.iconst (-1), 1) := by decide +kernel
theorem dX6_counted_126 : decode cX6_counted 126 = .ok (.if_icmp .ne 7, 3) := by decide +kernel
theorem dX6_counted_129 : decode cX6_counted 129 = .ok (.iconst 0, 1) := by decide +kernel
theorem dX6_counted_130 : decode cX6_counted 130 = .ok (.goto 4, 3) := by decide +kernel
theorem dX6_counted_133 : decode cX6_counted 133 = .ok (.iconst 1, 1) := by decide +kernel
theorem dX6_counted_134 : decode cX6_counted 134 = .ok (.iadd, 1) := by decide +kernel
theorem dX6_counted_135 : decode cX6_counted 135 = .ok (.iastore, 1) := by decide +kernel
theorem dX6_counted_136 : decode cX6_counted 136 = .ok (.aload_n 2, 1) := by decide +kernel
theorem dX6_counted_137 : decode cX6_counted 137 = .ok (.bipush 6, 2) := by decide +kernel
theorem dX6_counted_139 : decode cX6_counted 139 = .ok (.dup2, 1) := by decide +kernel
theorem dX6_counted_140 : decode cX6_counted 140 = .ok (.iaload, 1) := by decide +kernel
theorem dX6_counted_141 : decode cX6_counted 141 = .ok (.aload_n 0, 1) := by decide +kernel
theorem dX6_counted_142 : decode cX6_counted 142 = .ok (.getfield 53, 3) := by decide +kernel
theorem dX6_counted_145 : decode cX6_counted 145 = .ok (.iload_n 3, 1) := by decide +kernel
theorem dX6_counted_146 : decode cX6_counted 146 = .ok (.iaload, 1) := by decide +kernel
theorem dX6_counted_147 : decode cX6_counted 147 = .ok (.iadd, 1) := by decide +kernel
theorem dX6_counted_148 : decode cX6_counted 148 = .ok (.iastore, 1) := by decide +kernel
theorem dX6_counted_149 : decode cX6_counted 149 = .ok (.iinc 3 1, 3) := by decide +kernel
theorem dX6_counted_152 : decode cX6_counted 152 = .ok (.goto (-45), 3) := by decide +kernel
theorem dX6_counted_155 : decode cX6_counted 155 = .ok (.aload_n 0, 1) := by decide +kernel
theorem dX6_counted_156 : decode cX6_counted 156 = .ok (.getfield 23, 3) := by decide +kernel
theorem dX6_counted_159 : decode cX6_counted 159 = .ok (.astore_n 3, 1) := by decide +kernel
theorem dX6_counted_160 : decode cX6_counted 160 = .ok (.aload_n 3, 1) := by decide +kernel
theorem dX6_counted_161 : decode cX6_counted 161 = .ok (.arraylength, 1) := by decide +kernel
theorem dX6_counted_162 : decode cX6_counted 162 = .ok (.istore 4, 2) := by decide +kernel
theorem dX6_counted_164 : decode cX6_counted 164 = .ok (.iconst 0, 1) := by decide +kernel
theorem dX6_counted_165 : decode cX6_counted 165 = .ok (.istore 5, 2) := by decide +kernel
theorem dX6_counted_167 : decode cX6_counted 167 = .ok (.iload 5, 2) := by decide +kernel
theorem dX6_counted_169 : decode cX6_counted 169 = .ok (.iload 4, 2) := by decide +kernel
theorem dX6_counted_171 : decode cX6_counted 171 = .ok (.if_icmp .ge 32, 3) := by decide +kernel
theorem dX6_counted_174 : decode cX6_counted 174 = .ok (.aload_n 3, 1) := by decide +kernel
theorem dX6_counted_175 : decode cX6_counted 175 = .ok (.iload 5, 2) := by decide +kernel
theorem dX6_counted_177 : decode cX6_counted 177 = .ok (.iaload, 1) := by decide +kernel
theorem dX6_counted_178 : decode cX6_counted 178 = .ok (.istore 6, 2) := by decide +kernel
theorem dX6_counted_180 : decode cX6_counted 180 = .ok (.aload_n 2, 1) := by decide +kernel
theorem dX6_counted_181 : decode cX6_counted 181 = .ok (.bipush 8, 2) := by decide +kernel
theorem dX6_counted_183 : decode cX6_counted 183 = .ok (.dup2, 1) := by decide +kernel
theorem dX6_counted_184 : decode cX6_counted 184 = .ok (.iaload, 1) := by decide +kernel
theorem dX6_counted_185 : decode cX6_counted 185 = .ok (.iload 6, 2) := by decide +kernel
theorem dX6_counted_187 : decode cX6_counted 187 = .ok (.ifCond .le 7, 3) := by decide +kernel
theorem dX6_counted_190 : decode cX6_counted 190 = .ok (.iconst 1, 1) := by decide +kernel
theorem dX6_counted_191 : decode cX6_counted 191 = .ok (.goto 4, 3) := by decide +kernel
theorem dX6_counted_194 : decode cX6_counted 194 = .ok (.iconst 0, 1) := by decide +kernel
theorem dX6_counted_195 : decode cX6_counted 195 = .ok (.iadd, 1) := by decide +kernel
theorem dX6_counted_196 : decode cX6_counted 196 = .ok (.iastore, 1) := by decide +kernel
theorem dX6_counted_197 : decode cX6_counted 197 = .ok (.iinc 5 1, 3) := by decide +kernel
theorem dX6_counted_200 : decode cX6_counted 200 = .ok (.goto (-33), 3) := by decide +kernel
theorem dX6_counted_203 : decode cX6_counted 203 = .ok (.aload_n 2, 1) := by decide +kernel
theorem dX6_counted_204 : decode cX6_counted 204 = .ok (.iload_n 1, 1) := by decide +kernel
theorem dX6_counted_205 : decode cX6_counted 205 = .ok (.iaload, 1) := by decide +kernel
theorem dX6_counted_206 : decode cX6_counted 206 = .ok (.ireturn, 1) := by decide +kernel
theorem dX7_init_0 : decode cX7_init 0 = .ok (.aload_n 0, 1) := by decide +kernel
theorem dX7_init_1 : decode cX7_init 1 = .ok (.invokespecial 1, 3) := by decide +kernel
theorem dX7_init_4 : decode cX7_init 4 = .ok (.aload_n 0, 1) := by decide +kernel
theorem dX7_init_5 : decode cX7_init 5 = .ok (.bipush 12, 2) := by decide +kernel
theorem dX7_init_7 : decode cX7_init 7 = .ok (.newarray .int, 2) := by decide +kernel
theorem dX7_init_9 : decode cX7_init 9 = .ok (.putfield 9, 3) := by decide +kernel
theorem dX7_init_12 : decode cX7_init 12 = .ok (.aload_n 0, 1) := by decide +kernel
theorem dX7_init_13 : decode cX7_init 13 = .ok (.bipush 21, 2) := by decide +kernel
theorem dX7_init_15 : decode cX7_init 15 = .ok (.newarray .int, 2) := by decide +kernel
theorem dX7_init_17 : decode cX7_init 17 = .ok (.putfield 13, 3) := by decide +kernel
theorem dX7_init_20 : decode cX7_init 20 = .ok (.aload_n 0, 1) := by decide +kernel
theorem dX7_init_21 : decode cX7_init 21 = .ok (.bipush 21, 2) := by decide +kernel
theorem dX7_init_23 : decode cX7_init 23 = .ok (.newarray .int, 2) := by decide +kernel
theorem dX7_init_25 : decode cX7_init 25 = .ok (.putfield 16, 3) := by decide +kernel
theorem dX7_init_28 : decode cX7_init 28 = .ok (.aload_n 0, 1) := by decide +kernel
theorem dX7_init_29 : decode cX7_init 29 = .ok (.bipush 21, 2) := by decide +kernel
theorem dX7_init_31 : decode cX7_init 31 = .ok (.newarray .int, 2) := by decide +kernel
theorem dX7_init_33 : decode cX7_init 33 = .ok (.putfield 19, 3) := by decide +kernel
theorem dX7_init_36 : decode cX7_init 36 = .ok (.aload_n 0, 1) := by decide +kernel
theorem dX7_init_37 : decode cX7_init 37 = .ok (.bipush 21, 2) := by decide +kernel
theorem dX7_init_39 : decode cX7_init 39 = .ok (.newarray .int, 2) := by decide +kernel
theorem dX7_init_41 : decode cX7_init 41 = .ok (.putfield 22, 3) := by decide +kernel
theorem dX7_init_44 : decode cX7_init 44 = .ok (.aload_n 0, 1) := by decide +kernel
theorem dX7_init_45 : decode cX7_init 45 = .ok (.sipush 1911, 3) := by decide +kernel
theorem dX7_init_48 : decode cX7_init 48 = .ok (.newarray .int, 2) := by decide +kernel
theorem dX7_init_50 : decode cX7_init 50 = .ok (.putfield 25, 3) := by decide +kernel
theorem dX7_init_53 : decode cX7_init 53 = .ok (.aload_n 0, 1) := by decide +kernel
theorem dX7_init_54 : decode cX7_init 54 = .ok (.new 28, 3) := by decide +kernel
theorem dX7_init_57 : decode cX7_init 57 = .ok (.dup, 1) := by decide +kernel
theorem dX7_init_58 : decode cX7_init 58 = .ok (.aload_n 0, 1) := by decide +kernel
theorem dX7_init_59 : decode cX7_init 59 = .ok (.invokespecial 30, 3) := by decide +kernel
theorem dX7_init_62 : decode cX7_init 62 = .ok (.putfield 33, 3) := by decide +kernel
theorem dX7_init_65 : decode cX7_init 65 = .ok (.aload_n 0, 1) := by decide +kernel
theorem dX7_init_66 : decode cX7_init 66 = .ok (.new 28, 3) := by decide +kernel
theorem dX7_init_69 : decode cX7_init 69 = .ok (.dup, 1) := by decide +kernel
theorem dX7_init_70 : decode cX7_init 70 = .ok (.aload_n 0, 1) := by decide +kernel
theorem dX7_init_71 : decode cX7_init 71 = .ok (.invokespecial 30, 3) := by decide +kernel
theorem dX7_init_74 : decode cX7_init 74 = .ok (.putfield 37, 3) := by decide +kernel
theorem dX7_init_77 : decode cX7_init 77 = .ok (.return_, 1) := by decide +kernel
theorem dX7_thrown_0 : decode cX7_thrown 0 = .ok (.aload_n 0, 1) := by decide +kernel
theorem dX7_thrown_1 : decode cX7_thrown 1 = .ok (.getfield 40, 3) := by decide +kernel
theorem dX7_thrown_4 : decode cX7_thrown 4 = .ok (.ireturn, 1) := by decide +kernel
theorem dX7_no_0 : decode cX7_no 0 = .ok (.aload_n 0, 1) := by decide +kernel
theorem dX7_no_1 : decode cX7_no 1 = .ok (.iload_n 1, 1) := by decide +kernel
theorem dX7_no_2 : decode cX7_no 2 = .ok (.putfield 40, 3) := by decide +kernel
theorem dX7_no_5 : decode cX7_no 5 = .ok (.iconst 0, 1) := by decide +kernel
theorem dX7_no_6 : decode cX7_no 6 = .ok (.ireturn, 1) := by decide +kernel
theorem dX7_isIn_0 : decode cX7_isIn 0 = .ok (.iload_n 0, 1) := by decide +kernel
theorem dX7_isIn_1 : decode cX7_isIn 1 = .ok (.iload_n 1, 1) := by decide +kernel
theorem dX7_isIn_2 : decode cX7_isIn 2 = .ok (.if_icmp .lt 12, 3) := by decide +kernel
theorem dX7_isIn_5 : decode cX7_isIn 5 = .ok (.iload_n 0, 1) := by decide +kernel
theorem dX7_isIn_6 : decode cX7_isIn 6 = .ok (.iload_n 2, 1) := by decide +kernel
theorem dX7_isIn_7 : decode cX7_isIn 7 = .ok (.if_icmp .gt 7, 3) := by decide +kernel
theorem dX7_isIn_10 : decode cX7_isIn 10 = .ok (.iconst 1, 1) := by decide +kernel
theorem dX7_isIn_11 : decode cX7_isIn 11 = .ok (.goto 4, 3) := by decide +kernel
theorem dX7_isIn_14 : decode cX7_isIn 14 = .ok (.iconst 0, 1) := by decide +kernel
theorem dX7_isIn_15 : decode cX7_isIn 15 = .ok (.ireturn, 1) := by decide +kernel
theorem dX7_isBell_0 : decode cX7_isBell 0 = .ok (.iload_n 0, 1) := by decide +kernel
theorem dX7_isBell_1 : decode cX7_isBell 1 = .ok (.iconst 0, 1) := by decide +kernel
theorem dX7_isBell_2 : decode cX7_isBell 2 = .ok (.iconst 3, 1) := by decide +kernel
theorem dX7_isBell_3 : decode cX7_isBell 3 = .ok (.invokestatic 44, 3) := by decide +kernel
theorem dX7_isBell_6 : decode cX7_isBell 6 = .ok (.ireturn, 1) := by decide +kernel
theorem dX7_isSide_0 : decode cX7_isSide 0 = .ok (.iload_n 0, 1) := by decide +kernel
theorem dX7_isSide_1 : decode cX7_isSide 1 = .ok (.iconst 0, 1) := by decide +kernel
theorem dX7_isSide_2 : decode cX7_isSide 2 = .ok (.iconst 1, 1) := by decide +kernel
theorem dX7_isSide_3 : decode cX7_isSide 3 = .ok (.invokestatic 44, 3) := by decide +kernel
theorem dX7_isSide_6 : decode cX7_isSide 6 = .ok (.ireturn, 1) := by decide +kernel
theorem dX7_isRinger_0 : decode cX7_isRinger 0 = .ok (.iload_n 1, 1) := by decide +kernel
theorem dX7_isRinger_1 : decode cX7_isRinger 1 = .ok (.iconst 0, 1) := by decide +kernel
theorem dX7_isRinger_2 : decode cX7_isRinger 2 = .ok (.aload_n 0, 1) := by decide +kernel
theorem dX7_isRinger_3 : decode cX7_isRinger 3 = .ok (.getfield 48, 3) := by decide +kernel
theorem dX7_isRinger_6 : decode cX7_isRinger 6 = .ok (.iconst 1, 1) := by decide +kernel
theorem dX7_isRinger_7 : decode cX7_isRinger 7 = .ok (.isub, 1) := by decide +kernel
theorem dX7_isRinger_8 : decode cX7_isRinger 8 = .ok (.invokestatic 44, 3) := by decide +kernel
theorem dX7_isRinger_11 : decode cX7_isRinger 11 = .ok (.ireturn, 1) := by decide +kernel
theorem dX7_isToll_0 : decode cX7_isToll 0 = .ok (.iload_n 1, 1) := by decide +kernel
theorem dX7_isToll_1 : decode cX7_isToll 1 = .ok (.iconst 0, 1) := by decide +kernel
theorem dX7_isToll_2 : decode cX7_isToll 2 = .ok (.aload_n 0, 1) := by decide +kernel
theorem dX7_isToll_3 : decode cX7_isToll 3 = .ok (.getfield 51, 3) := by decide +kernel
theorem dX7_isToll_6 : decode cX7_isToll 6 = .ok (.iconst 1, 1) := by decide +kernel
theorem dX7_isToll_7 : decode cX7_isToll 7 = .ok (.isub, 1) := by decide +kernel
theorem dX7_isToll_8 : decode cX7_isToll 8 = .ok (.invokestatic 44, 3) := by decide +kernel
theorem dX7_isToll_11 : decode cX7_isToll 11 = .ok (.ireturn, 1) := by decide +kernel
theorem dX7_isKind_0 : decode cX7_isKind 0 = .ok (.iload_n 0, 1) := by decide +kernel
theorem dX7_isKind_1 : decode cX7_isKind 1 = .ok (.iconst 0, 1) := by decide +kernel
theorem dX7_isKind_2 : decode cX7_isKind 2 = .ok (.iconst 2, 1) := by decide +kernel
theorem dX7_isKind_3 : decode cX7_isKind 3 = .ok (.invokestatic 44, 3) := by decide +kernel
theorem dX7_isKind_6 : decode cX7_isKind 6 = .ok (.ifCond .eq 26, 3) := by decide +kernel
theorem dX7_isKind_9 : decode cX7_isKind 9 = .ok (.iload_n 1, 1) := by decide +kernel
theorem dX7_isKind_10 : decode cX7_isKind 10 = .ok (.iconst 0, 1) := by decide +kernel
theorem dX7_isKind_11 : decode cX7_isKind 11 = .ok (.bipush 120, 2) := by decide +kernel
theorem dX7_isKind_13 : decode cX7_isKind 13 = .ok (.invokestatic 44, 3) := by decide +kernel
theorem dX7_isKind_16 : decode cX7_isKind 16 = .ok (.ifCond .eq 16, 3) := by decide +kernel
theorem dX7_isKind_19 : decode cX7_isKind 19 = .ok (.iload_n 2, 1) := by decide +kernel
theorem dX7_isKind_20 : decode cX7_isKind 20 = .ok (.iconst 1, 1) := by decide +kernel
theorem dX7_isKind_21 : decode cX7_isKind 21 = .ok (.iconst 5, 1) := by decide +kernel
theorem dX7_isKind_22 : decode cX7_isKind 22 = .ok (.invokestatic 44, 3) := by decide +kernel
theorem dX7_isKind_25 : decode cX7_isKind 25 = .ok (.ifCond .eq 7, 3) := by decide +kernel
theorem dX7_isKind_28 : decode cX7_isKind 28 = .ok (.iconst 1, 1) := by decide +kernel
theorem dX7_isKind_29 : decode cX7_isKind 29 = .ok (.goto 4, 3) := by decide +kernel
theorem dX7_isKind_32 : decode cX7_isKind 32 = .ok (.iconst 0, 1) := by decide +kernel
theorem dX7_isKind_33 : decode cX7_isKind 33 = .ok (.ireturn, 1) := by decide +kernel
theorem dX7_tellers_0 : decode cX7_tellers 0 = .ok (.iconst 3, 1) := by decide +kernel
theorem dX7_tellers_1 : decode cX7_tellers 1 = .ok (.aload_n 0, 1) := by decide +kernel
theorem dX7_tellers_2 : decode cX7_tellers 2 = .ok (.getfield 16, 3) := by decide +kernel
theorem dX7_tellers_5 : decode cX7_tellers 5 = .ok (.iload_n 1, 1) := by decide +kernel
theorem dX7_tellers_6 : decode cX7_tellers 6 = .ok (.iaload, 1) := by decide +kernel
theorem dX7_tellers_7 : decode cX7_tellers 7 = .ok (.iconst 1, 1) := by decide +kernel
theorem dX7_tellers_8 : decode cX7_tellers 8 = .ok (.iadd, 1) := by decide +kernel
theorem dX7_tellers_9 : decode cX7_tellers 9 = .ok (.imul, 1) := by decide +kernel
theorem dX7_tellers_10 : decode cX7_tellers 10 = .ok (.ireturn, 1) := by decide +kernel
theorem dX7_all_0 : decode cX7_all 0 = .ok (.aload_n 0, 1) := by decide +kernel
theorem dX7_all_1 : decode cX7_all 1 = .ok (.iload_n 1, 1) := by decide +kernel
theorem dX7_all_2 : decode cX7_all 2 = .ok (.invokevirtual 54, 3) := by decide +kernel
theorem dX7_all_5 : decode cX7_all 5 = .ok (.aload_n 0, 1) := by decide +kernel
theorem dX7_all_6 : decode cX7_all 6 = .ok (.getfield 19, 3) := by decide +kernel
theorem dX7_all_9 : decode cX7_all 9 = .ok (.iload_n 1, 1) := by decide +kernel
theorem dX7_all_10 : decode cX7_all 10 = .ok (.iaload, 1) := by decide +kernel
theorem dX7_all_11 : decode cX7_all 11 = .ok (.iadd, 1) := by decide +kernel
theorem dX7_all_12 : decode cX7_all 12 = .ok (.ireturn, 1) := by decide +kernel
theorem dX7_weigh_0 : decode cX7_weigh 0 = .ok (.aload_n 0, 1) := by decide +kernel
theorem dX7_weigh_1 : decode cX7_weigh 1 = .ok (.iconst 0, 1) := by decide +kernel
theorem dX7_weigh_2 : decode cX7_weigh 2 = .ok (.putfield 40, 3) := by decide +kernel
theorem dX7_weigh_5 : decode cX7_weigh 5 = .ok (.iload_n 1, 1) := by decide +kernel
theorem dX7_weigh_6 : decode cX7_weigh 6 = .ok (.invokestatic 58, 3) := by decide +kernel
theorem dX7_weigh_9 : decode cX7_weigh 9 = .ok (.ifCond .ne 9, 3) := by decide +kernel
theorem dX7_weigh_12 : decode cX7_weigh 12 = .ok (.aload_n 0, 1) := by decide +kernel
theorem dX7_weigh_13 : decode cX7_weigh 13 = .ok (.iconst 1, 1) := by decide +kernel
theorem dX7_weigh_14 : decode cX7_weigh 14 = .ok (.invokevirtual 62, 3) := by decide +kernel
theorem dX7_weigh_17 : decode cX7_weigh 17 = .ok (.ireturn, 1) := by decide +kernel
theorem dX7_weigh_18 : decode cX7_weigh 18 = .ok (.iload_n 2, 1) := by decide +kernel
theorem dX7_weigh_19 : decode cX7_weigh 19 = .ok (.iconst 1, 1) := by decide +kernel
theorem dX7_weigh_20 : decode cX7_weigh 20 = .ok (.bipush 9, 2) := by decide +kernel
theorem dX7_weigh_22 : decode cX7_weigh 22 = .ok (.invokestatic 44, 3) := by decide +kernel
theorem dX7_weigh_25 : decode cX7_weigh 25 = .ok (.ifCond .ne 9, 3) := by decide +kernel
theorem dX7_weigh_28 : decode cX7_weigh 28 = .ok (.aload_n 0, 1) := by decide +kernel
theorem dX7_weigh_29 : decode cX7_weigh 29 = .ok (.iconst 2, 1) := by decide +kernel
theorem dX7_weigh_30 : decode cX7_weigh 30 = .ok (.invokevirtual 62, 3) := by decide +kernel
theorem dX7_weigh_33 : decode cX7_weigh 33 = .ok (.ireturn, 1) := by decide +kernel
theorem dX7_weigh_34 : decode cX7_weigh 34 = .ok (.aload_n 0, 1) := by decide +kernel
theorem dX7_weigh_35 : decode cX7_weigh 35 = .ok (.getfield 33, 3) := by decide +kernel
theorem dX7_weigh_38 : decode cX7_weigh 38 = .ok (.getfield 65, 3) := by decide +kernel
theorem dX7_weigh_41 : decode cX7_weigh 41 = .ok (.iload_n 1, 1) := by decide +kernel
theorem dX7_weigh_42 : decode cX7_weigh 42 = .ok (.iaload, 1) := by decide +kernel
theorem dX7_weigh_43 : decode cX7_weigh 43 = .ok (.istore_n 3, 1) := by decide +kernel
theorem dX7_weigh_44 : decode cX7_weigh 44 = .ok (.aload_n 0, 1) := by decide +kernel
theorem dX7_weigh_45 : decode cX7_weigh 45 = .ok (.getfield 33, 3) := by decide +kernel
theorem dX7_weigh_48 : decode cX7_weigh 48 = .ok (.getfield 65, 3) := by decide +kernel
theorem dX7_weigh_51 : decode cX7_weigh 51 = .ok (.iload_n 1, 1) := by decide +kernel
theorem dX7_weigh_52 : decode cX7_weigh 52 = .ok (.iload_n 2, 1) := by decide +kernel
theorem dX7_weigh_53 : decode cX7_weigh 53 = .ok (.iastore, 1) := by decide +kernel
theorem dX7_weigh_54 : decode cX7_weigh 54 = .ok (.iload_n 3, 1) := by decide +kernel
theorem dX7_weigh_55 : decode cX7_weigh 55 = .ok (.ireturn, 1) := by decide +kernel
theorem dX7_fit_0 : decode cX7_fit 0 = .ok (.aload_n 0, 1) := by decide +kernel
theorem dX7_fit_1 : decode cX7_fit 1 = .ok (.iconst 0, 1) := by decide +kernel
theorem dX7_fit_2 : decode cX7_fit 2 = .ok (.putfield 40, 3) := by decide +kernel
theorem dX7_fit_5 : decode cX7_fit 5 = .ok (.iload_n 1, 1) := by decide +kernel
theorem dX7_fit_6 : decode cX7_fit 6 = .ok (.invokestatic 58, 3) := by decide +kernel
theorem dX7_fit_9 : decode cX7_fit 9 = .ok (.ifCond .eq 10, 3) := by decide +kernel
theorem dX7_fit_12 : decode cX7_fit 12 = .ok (.iload_n 2, 1) := by decide +kernel
theorem dX7_fit_13 : decode cX7_fit 13 = .ok (.invokestatic 68, 3) := by decide +kernel
theorem dX7_fit_16 : decode cX7_fit 16 = .ok (.ifCond .ne 9, 3) := by decide +kernel
theorem dX7_fit_19 : decode cX7_fit 19 = .ok (.aload_n 0, 1) := by decide +kernel
theorem dX7_fit_20 : decode cX7_fit 20 = .ok (.iconst 1, 1) := by decide +kernel
theorem dX7_fit_21 : decode cX7_fit 21 = .ok (.invokevirtual 62, 3) := by decide +kernel
theorem dX7_fit_24 : decode cX7_fit 24 = .ok (.ireturn, 1) := by decide +kernel
theorem dX7_fit_25 : decode cX7_fit 25 = .ok (.iload_n 3, 1) := by decide +kernel
theorem dX7_fit_26 : decode cX7_fit 26 = .ok (.iconst 0, 1) := by decide +kernel
theorem dX7_fit_27 : decode cX7_fit 27 = .ok (.bipush 9, 2) := by decide +kernel
theorem dX7_fit_29 : decode cX7_fit 29 = .ok (.invokestatic 44, 3) := by decide +kernel
theorem dX7_fit_32 : decode cX7_fit 32 = .ok (.ifCond .ne 9, 3) := by decide +kernel
theorem dX7_fit_35 : decode cX7_fit 35 = .ok (.aload_n 0, 1) := by decide +kernel
theorem dX7_fit_36 : decode cX7_fit 36 = .ok (.iconst 2, 1) := by decide +kernel
theorem dX7_fit_37 : decode cX7_fit 37 = .ok (.invokevirtual 62, 3) := by decide +kernel
theorem dX7_fit_40 : decode cX7_fit 40 = .ok (.ireturn, 1) := by decide +kernel
theorem dX7_fit_41 : decode cX7_fit 41 = .ok (.iload_n 3, 1) := by decide +kernel
theorem dX7_fit_42 : decode cX7_fit 42 = .ok (.ifCond .le 19, 3) := by decide +kernel
theorem dX7_fit_45 : decode cX7_fit 45 = .ok (.aload_n 0, 1) := by decide +kernel
theorem dX7_fit_46 : decode cX7_fit 46 = .ok (.getfield 33, 3) := by decide +kernel
theorem dX7_fit_49 : decode cX7_fit 49 = .ok (.getfield 71, 3) := by decide +kernel
theorem dX7_fit_52 : decode cX7_fit 52 = .ok (.ifCond .ne 9, 3) := by decide +kernel
theorem dX7_fit_55 : decode cX7_fit 55 = .ok (.aload_n 0, 1) := by decide +kernel
theorem dX7_fit_56 : decode cX7_fit 56 = .ok (.iconst 3, 1) := by decide +kernel
theorem dX7_fit_57 : decode cX7_fit 57 = .ok (.invokevirtual 62, 3) := by decide +kernel
theorem dX7_fit_60 : decode cX7_fit 60 = .ok (.ireturn, 1) := by decide +kernel
theorem dX7_fit_61 : decode cX7_fit 61 = .ok (.aload_n 0, 1) := by decide +kernel
theorem dX7_fit_62 : decode cX7_fit 62 = .ok (.getfield 33, 3) := by decide +kernel
theorem dX7_fit_65 : decode cX7_fit 65 = .ok (.getfield 74, 3) := by decide +kernel
theorem dX7_fit_68 : decode cX7_fit 68 = .ok (.iconst 2, 1) := by decide +kernel
theorem dX7_fit_69 : decode cX7_fit 69 = .ok (.iload_n 1, 1) := by decide +kernel
theorem dX7_fit_70 : decode cX7_fit 70 = .ok (.imul, 1) := by decide +kernel
theorem dX7_fit_71 : decode cX7_fit 71 = .ok (.iload_n 2, 1) := by decide +kernel
theorem dX7_fit_72 : decode cX7_fit 72 = .ok (.iadd, 1) := by decide +kernel
theorem dX7_fit_73 : decode cX7_fit 73 = .ok (.iaload, 1) := by decide +kernel
theorem dX7_fit_74 : decode cX7_fit 74 = .ok (.istore 4, 2) := by decide +kernel
theorem dX7_fit_76 : decode cX7_fit 76 = .ok (.aload_n 0, 1) := by decide +kernel
theorem dX7_fit_77 : decode cX7_fit 77 = .ok (.getfield 33, 3) := by decide +kernel
theorem dX7_fit_80 : decode cX7_fit 80 = .ok (.iconst 2, 1) := by decide +kernel
theorem dX7_fit_81 : decode cX7_fit 81 = .ok (.iload_n 1, 1) := by decide +kernel
theorem dX7_fit_82 : decode cX7_fit 82 = .ok (.imul, 1) := by decide +kernel
theorem dX7_fit_83 : decode cX7_fit 83 = .ok (.iload_n 2, 1) := by decide +kernel
theorem dX7_fit_84 : decode cX7_fit 84 = .ok (.iadd, 1) := by decide +kernel
theorem dX7_fit_85 : decode cX7_fit 85 = .ok (.iload_n 3, 1) := by decide +kernel
theorem dX7_fit_86 : decode cX7_fit 86 = .ok (.invokevirtual 77, 3) := by decide +kernel
theorem dX7_fit_89 : decode cX7_fit 89 = .ok (.aload_n 0, 1) := by decide +kernel
theorem dX7_fit_90 : decode cX7_fit 90 = .ok (.getfield 33, 3) := by decide +kernel
theorem dX7_fit_93 : decode cX7_fit 93 = .ok (.dup, 1) := by decide +kernel
theorem dX7_fit_94 : decode cX7_fit 94 = .ok (.getfield 71, 3) := by decide +kernel
theorem dX7_fit_97 : decode cX7_fit 97 = .ok (.iload_n 3, 1) := by decide +kernel
theorem dX7_fit_98 : decode cX7_fit 98 = .ok (.ifCond .le 7, 3) := by decide +kernel
theorem dX7_fit_101 : decode cX7_fit 101 = .ok (.iconst 1, 1) := by decide +kernel
theorem dX7_fit_102 : decode cX7_fit 102 = .ok (.goto 4, 3) := by decide +kernel
theorem dX7_fit_105 : decode cX7_fit 105 = .ok (.iconst 0, 1) := by decide +kernel
theorem dX7_fit_106 : decode cX7_fit 106 = .ok (.isub, 1) := by decide +kernel
theorem dX7_fit_107 : decode cX7_fit 107 = .ok (.putfield 71, 3) := by decide +kernel
theorem dX7_fit_110 : decode cX7_fit 110 = .ok (.iload 4, 2) := by decide +kernel
theorem dX7_fit_112 : decode cX7_fit 112 = .ok (.ireturn, 1) := by decide +kernel
theorem dX7_store_0 : decode cX7_store 0 = .ok (.aload_n 0, 1) := by decide +kernel
theorem dX7_store_1 : decode cX7_store 1 = .ok (.iconst 0, 1) := by decide +kernel
theorem dX7_store_2 : decode cX7_store 2 = .ok (.putfield 40, 3) := by decide +kernel
theorem dX7_store_5 : decode cX7_store 5 = .ok (.iload_n 1, 1) := by decide +kernel
theorem dX7_store_6 : decode cX7_store 6 = .ok (.iconst 1, 1) := by decide +kernel
theorem dX7_store_7 : decode cX7_store 7 = .ok (.bipush 50, 2) := by decide +kernel
theorem dX7_store_9 : decode cX7_store 9 = .ok (.invokestatic 44, 3) := by decide +kernel
theorem dX7_store_12 : decode cX7_store 12 = .ok (.ifCond .ne 9, 3) := by decide +kernel
theorem dX7_store_15 : decode cX7_store 15 = .ok (.aload_n 0, 1) := by decide +kernel
theorem dX7_store_16 : decode cX7_store 16 = .ok (.iconst 1, 1) := by decide +kernel
theorem dX7_store_17 : decode cX7_store 17 = .ok (.invokevirtual 62, 3) := by decide +kernel
theorem dX7_store_20 : decode cX7_store 20 = .ok (.ireturn, 1) := by decide +kernel
theorem dX7_store_21 : decode cX7_store 21 = .ok (.aload_n 0, 1) := by decide +kernel
theorem dX7_store_22 : decode cX7_store 22 = .ok (.getfield 33, 3) := by decide +kernel
theorem dX7_store_25 : decode cX7_store 25 = .ok (.bipush 99, 2) := by decide +kernel
theorem dX7_store_27 : decode cX7_store 27 = .ok (.aload_n 0, 1) := by decide +kernel
theorem dX7_store_28 : decode cX7_store 28 = .ok (.getfield 33, 3) := by decide +kernel
theorem dX7_store_31 : decode cX7_store 31 = .ok (.getfield 71, 3) := by decide +kernel
theorem dX7_store_34 : decode cX7_store 34 = .ok (.iload_n 1, 1) := by decide +kernel
theorem dX7_store_35 : decode cX7_store 35 = .ok (.iadd, 1) := by decide +kernel
theorem dX7_store_36 : decode cX7_store 36 = .ok (.invokestatic 81, 3) := by decide +kernel
theorem dX7_store_39 : decode cX7_store 39 = .ok (.putfield 71, 3) := by decide +kernel
theorem dX7_store_42 : decode cX7_store 42 = .ok (.aload_n 0, 1) := by decide +kernel
theorem dX7_store_43 : decode cX7_store 43 = .ok (.getfield 33, 3) := by decide +kernel
theorem dX7_store_46 : decode cX7_store 46 = .ok (.getfield 71, 3) := by decide +kernel
theorem dX7_store_49 : decode cX7_store 49 = .ok (.ireturn, 1) := by decide +kernel
theorem dX7_lastsOn_0 : decode cX7_lastsOn 0 = .ok (.bipush 10, 2) := by decide +kernel
theorem dX7_lastsOn_2 : decode cX7_lastsOn 2 = .ok (.aload_n 0, 1) := by decide +kernel
theorem dX7_lastsOn_3 : decode cX7_lastsOn 3 = .ok (.getfield 33, 3) := by decide +kernel
theorem dX7_lastsOn_6 : decode cX7_lastsOn 6 = .ok (.getfield 74, 3) := by decide +kernel
theorem dX7_lastsOn_9 : decode cX7_lastsOn 9 = .ok (.iconst 2, 1) := by decide +kernel
theorem dX7_lastsOn_10 : decode cX7_lastsOn 10 = .ok (.iload_n 1, 1) := by decide +kernel
theorem dX7_lastsOn_11 : decode cX7_lastsOn 11 = .ok (.imul, 1) := by decide +kernel
theorem dX7_lastsOn_12 : decode cX7_lastsOn 12 = .ok (.iload_n 2, 1) := by decide +kernel
theorem dX7_lastsOn_13 : decode cX7_lastsOn 13 = .ok (.iadd, 1) := by decide +kernel
theorem dX7_lastsOn_14 : decode cX7_lastsOn 14 = .ok (.iaload, 1) := by decide +kernel
theorem dX7_lastsOn_15 : decode cX7_lastsOn 15 = .ok (.imul, 1) := by decide +kernel
theorem dX7_lastsOn_16 : decode cX7_lastsOn 16 = .ok (.aload_n 0, 1) := by decide +kernel
theorem dX7_lastsOn_17 : decode cX7_lastsOn 17 = .ok (.getfield 33, 3) := by decide +kernel
theorem dX7_lastsOn_20 : decode cX7_lastsOn 20 = .ok (.getfield 87, 3) := by decide +kernel
theorem dX7_lastsOn_23 : decode cX7_lastsOn 23 = .ok (.iconst 2, 1) := by decide +kernel
theorem dX7_lastsOn_24 : decode cX7_lastsOn 24 = .ok (.iload_n 1, 1) := by decide +kernel
theorem dX7_lastsOn_25 : decode cX7_lastsOn 25 = .ok (.imul, 1) := by decide +kernel
theorem dX7_lastsOn_26 : decode cX7_lastsOn 26 = .ok (.iload_n 2, 1) := by decide +kernel
theorem dX7_lastsOn_27 : decode cX7_lastsOn 27 = .ok (.iadd, 1) := by decide +kernel
theorem dX7_lastsOn_28 : decode cX7_lastsOn 28 = .ok (.iaload, 1) := by decide +kernel
theorem dX7_lastsOn_29 : decode cX7_lastsOn 29 = .ok (.isub, 1) := by decide +kernel
theorem dX7_lastsOn_30 : decode cX7_lastsOn 30 = .ok (.istore_n 3, 1) := by decide +kernel
theorem dX7_lastsOn_31 : decode cX7_lastsOn 31 = .ok (.iload_n 3, 1) := by decide +kernel
theorem dX7_lastsOn_32 : decode cX7_lastsOn 32 = .ok (.aload_n 0, 1) := by decide +kernel
theorem dX7_lastsOn_33 : decode cX7_lastsOn 33 = .ok (.getfield 33, 3) := by decide +kernel
theorem dX7_lastsOn_36 : decode cX7_lastsOn 36 = .ok (.getfield 65, 3) := by decide +kernel
theorem dX7_lastsOn_39 : decode cX7_lastsOn 39 = .ok (.iload_n 1, 1) := by decide +kernel
theorem dX7_lastsOn_40 : decode cX7_lastsOn 40 = .ok (.iaload, 1) := by decide +kernel
theorem dX7_lastsOn_41 : decode cX7_lastsOn 41 = .ok (.iadd, 1) := by decide +kernel
theorem dX7_lastsOn_42 : decode cX7_lastsOn 42 = .ok (.iconst 1, 1) := by decide +kernel
theorem dX7_lastsOn_43 : decode cX7_lastsOn 43 = .ok (.isub, 1) := by decide +kernel
theorem dX7_lastsOn_44 : decode cX7_lastsOn 44 = .ok (.aload_n 0, 1) := by decide +kernel
theorem dX7_lastsOn_45 : decode cX7_lastsOn 45 = .ok (.getfield 33, 3) := by decide +kernel
theorem dX7_lastsOn_48 : decode cX7_lastsOn 48 = .ok (.getfield 65, 3) := by decide +kernel
theorem dX7_lastsOn_51 : decode cX7_lastsOn 51 = .ok (.iload_n 1, 1) := by decide +kernel
theorem dX7_lastsOn_52 : decode cX7_lastsOn 52 = .ok (.iaload, 1) := by decide +kernel
theorem dX7_lastsOn_53 : decode cX7_lastsOn 53 = .ok (.idiv, 1) := by decide +kernel
theorem dX7_lastsOn_54 : decode cX7_lastsOn 54 = .ok (.ireturn, 1) := by decide +kernel
theorem dX7_lasts_0 : decode cX7_lasts 0 = .ok (.aload_n 0, 1) := by decide +kernel
theorem dX7_lasts_1 : decode cX7_lasts 1 = .ok (.iconst 0, 1) := by decide +kernel
theorem dX7_lasts_2 : decode cX7_lasts 2 = .ok (.putfield 40, 3) := by decide +kernel
theorem dX7_lasts_5 : decode cX7_lasts 5 = .ok (.iload_n 1, 1) := by decide +kernel
theorem dX7_lasts_6 : decode cX7_lasts 6 = .ok (.invokestatic 58, 3) := by decide +kernel
theorem dX7_lasts_9 : decode cX7_lasts 9 = .ok (.ifCond .eq 19, 3) := by decide +kernel
theorem dX7_lasts_12 : decode cX7_lasts 12 = .ok (.iload_n 2, 1) := by decide +kernel
theorem dX7_lasts_13 : decode cX7_lasts 13 = .ok (.invokestatic 68, 3) := by decide +kernel
theorem dX7_lasts_16 : decode cX7_lasts 16 = .ok (.ifCond .eq 12, 3) := by decide +kernel
theorem dX7_lasts_19 : decode cX7_lasts 19 = .ok (.aload_n 0, 1) := by decide +kernel
theorem dX7_lasts_20 : decode cX7_lasts 20 = .ok (.iload_n 1, 1) := by decide +kernel
theorem dX7_lasts_21 : decode cX7_lasts 21 = .ok (.iload_n 2, 1) := by decide +kernel
theorem dX7_lasts_22 : decode cX7_lasts 22 = .ok (.invokevirtual 90, 3) := by decide +kernel
theorem dX7_lasts_25 : decode cX7_lasts 25 = .ok (.goto 8, 3) := by decide +kernel
theorem dX7_lasts_28 : decode cX7_lasts 28 = .ok (.aload_n 0, 1) := by decide +kernel
theorem dX7_lasts_29 : decode cX7_lasts 29 = .ok (.iconst 1, 1) := by decide +kernel
theorem dX7_lasts_30 : decode cX7_lasts 30 = .ok (.invokevirtual 62, 3) := by decide +kernel
theorem dX7_lasts_33 : decode cX7_lasts 33 = .ok (.ireturn, 1) := by decide +kernel
theorem dX7_bellTold_0 : decode cX7_bellTold 0 = .ok (.iconst 0, 1) := by decide +kernel
theorem dX7_bellTold_1 : decode cX7_bellTold 1 = .ok (.istore_n 3, 1) := by decide +kernel
theorem dX7_bellTold_2 : decode cX7_bellTold 2 = .ok (.iconst 0, 1) := by decide +kernel
theorem dX7_bellTold_3 : decode cX7_bellTold 3 = .ok (.istore 4, 2) := by decide +kernel
theorem dX7_bellTold_5 : decode cX7_bellTold 5 = .ok (.iload 4, 2) := by decide +kernel
theorem dX7_bellTold_7 : decode cX7_bellTold 7 = .ok (.aload_n 0, 1) := by decide +kernel
theorem dX7_bellTold_8 : decode cX7_bellTold 8 = .ok (.getfield 51, 3) := by decide +kernel
theorem dX7_bellTold_11 : decode cX7_bellTold 11 = .ok (.if_icmp .ge 42, 3) := by decide +kernel
theorem dX7_bellTold_14 : decode cX7_bellTold 14 = .ok (.iload_n 3, 1) := by decide +kernel
theorem dX7_bellTold_15 : decode cX7_bellTold 15 = .ok (.aload_n 0, 1) := by decide +kernel
theorem dX7_bellTold_16 : decode cX7_bellTold 16 = .ok (.getfield 13, 3) := by decide +kernel
theorem dX7_bellTold_19 : decode cX7_bellTold 19 = .ok (.iload 4, 2) := by decide +kernel
theorem dX7_bellTold_21 : decode cX7_bellTold 21 = .ok (.iaload, 1) := by decide +kernel
theorem dX7_bellTold_22 : decode cX7_bellTold 22 = .ok (.iload_n 1, 1) := by decide +kernel
theorem dX7_bellTold_23 : decode cX7_bellTold 23 = .ok (.if_icmp .ne 21, 3) := by decide +kernel
theorem dX7_bellTold_26 : decode cX7_bellTold 26 = .ok (.aload_n 0, 1) := by decide +kernel
theorem dX7_bellTold_27 : decode cX7_bellTold 27 = .ok (.getfield 33, 3) := by decide +kernel
theorem dX7_bellTold_30 : decode cX7_bellTold 30 = .ok (.getfield 93, 3) := by decide +kernel
theorem dX7_bellTold_33 : decode cX7_bellTold 33 = .ok (.iload 4, 2) := by decide +kernel
theorem dX7_bellTold_35 : decode cX7_bellTold 35 = .ok (.iaload, 1) := by decide +kernel
theorem dX7_bellTold_36 : decode cX7_bellTold 36 = .ok (.iconst (-1), 1) := by decide +kernel
theorem dX7_bellTold_37 : decode cX7_bellTold 37 = .ok (.if_icmp .ne 7, 3) := by decide +kernel
theorem dX7_bellTold_40 : decode cX7_bellTold 40 = .ok (.iconst 1, 1) := by decide +kernel
theorem dX7_bellTold_41 : decode cX7_bellTold 41 = .ok (.goto 4, 3) := by decide +kernel
theorem dX7_bellTold_44 : decode cX7_bellTold 44 = .ok (.iconst 0, 1) := by decide +kernel
theorem dX7_bellTold_45 : decode cX7_bellTold 45 = .ok (.iadd, 1) := by decide +kernel
theorem dX7_bellTold_46 : decode cX7_bellTold 46 = .ok (.istore_n 3, 1) := by decide +kernel
theorem dX7_bellTold_47 : decode cX7_bellTold 47 = .ok (.iinc 4 1, 3) := by decide +kernel
theorem dX7_bellTold_50 : decode cX7_bellTold 50 = .ok (.goto (-45), 3) := by decide +kernel
theorem dX7_bellTold_53 : decode cX7_bellTold 53 = .ok (.bipush 9, 2) := by decide +kernel
theorem dX7_bellTold_55 : decode cX7_bellTold 55 = .ok (.newarray .int, 2) := by decide +kernel
theorem dX7_bellTold_57 : decode cX7_bellTold 57 = .ok (.dup, 1) := by decide +kernel
theorem dX7_bellTold_58 : decode cX7_bellTold 58 = .ok (.iconst 0, 1) := by decide +kernel
theorem dX7_bellTold_59 : decode cX7_bellTold 59 = .ok (.aload_n 0, 1) := by decide +kernel
theorem dX7_bellTold_60 : decode cX7_bellTold 60 = .ok (.getfield 33, 3) := by decide +kernel
theorem dX7_bellTold_63 : decode cX7_bellTold 63 = .ok (.getfield 65, 3) := by decide +kernel
theorem dX7_bellTold_66 : decode cX7_bellTold 66 = .ok (.iload_n 1, 1) := by decide +kernel
theorem dX7_bellTold_67 : decode cX7_bellTold 67 = .ok (.iaload, 1) := by decide +kernel
theorem dX7_bellTold_68 : decode cX7_bellTold 68 = .ok (.iastore, 1) := by decide +kernel
theorem dX7_bellTold_69 : decode cX7_bellTold 69 = .ok (.dup, 1) := by decide +kernel
theorem dX7_bellTold_70 : decode cX7_bellTold 70 = .ok (.iconst 1, 1) := by decide +kernel
theorem dX7_bellTold_71 : decode cX7_bellTold 71 = .ok (.aload_n 0, 1) := by decide +kernel
theorem dX7_bellTold_72 : decode cX7_bellTold 72 = .ok (.getfield 33, 3) := by decide +kernel
theorem dX7_bellTold_75 : decode cX7_bellTold 75 = .ok (.getfield 74, 3) := by decide +kernel
theorem dX7_bellTold_78 : decode cX7_bellTold 78 = .ok (.iconst 2, 1) := by decide +kernel
theorem dX7_bellTold_79 : decode cX7_bellTold 79 = .ok (.iload_n 1, 1) := by decide +kernel
theorem dX7_bellTold_80 : decode cX7_bellTold 80 = .ok (.imul, 1) := by decide +kernel
theorem dX7_bellTold_81 : decode cX7_bellTold 81 = .ok (.iaload, 1) := by decide +kernel
theorem dX7_bellTold_82 : decode cX7_bellTold 82 = .ok (.iastore, 1) := by decide +kernel
theorem dX7_bellTold_83 : decode cX7_bellTold 83 = .ok (.dup, 1) := by decide +kernel
theorem dX7_bellTold_84 : decode cX7_bellTold 84 = .ok (.iconst 2, 1) := by decide +kernel
theorem dX7_bellTold_85 : decode cX7_bellTold 85 = .ok (.aload_n 0, 1) := by decide +kernel
theorem dX7_bellTold_86 : decode cX7_bellTold 86 = .ok (.getfield 33, 3) := by decide +kernel
theorem dX7_bellTold_89 : decode cX7_bellTold 89 = .ok (.getfield 74, 3) := by decide +kernel
theorem dX7_bellTold_92 : decode cX7_bellTold 92 = .ok (.iconst 2, 1) := by decide +kernel
theorem dX7_bellTold_93 : decode cX7_bellTold 93 = .ok (.iload_n 1, 1) := by decide +kernel
theorem dX7_bellTold_94 : decode cX7_bellTold 94 = .ok (.imul, 1) := by decide +kernel
theorem dX7_bellTold_95 : decode cX7_bellTold 95 = .ok (.iconst 1, 1) := by decide +kernel
theorem dX7_bellTold_96 : decode cX7_bellTold 96 = .ok (.iadd, 1) := by decide +kernel
theorem dX7_bellTold_97 : decode cX7_bellTold 97 = .ok (.iaload, 1) := by decide +kernel
theorem dX7_bellTold_98 : decode cX7_bellTold 98 = .ok (.iastore, 1) := by decide +kernel
theorem dX7_bellTold_99 : decode cX7_bellTold 99 = .ok (.dup, 1) := by decide +kernel
theorem dX7_bellTold_100 : decode cX7_bellTold 100 = .ok (.iconst 3, 1) := by decide +kernel
theorem dX7_bellTold_101 : decode cX7_bellTold 101 = .ok (.aload_n 0, 1) := by decide +kernel
theorem dX7_bellTold_102 : decode cX7_bellTold 102 = .ok (.getfield 33, 3) := by decide +kernel
theorem dX7_bellTold_105 : decode cX7_bellTold 105 = .ok (.getfield 96, 3) := by decide +kernel
theorem dX7_bellTold_108 : decode cX7_bellTold 108 = .ok (.iload_n 1, 1) := by decide +kernel
theorem dX7_bellTold_109 : decode cX7_bellTold 109 = .ok (.iaload, 1) := by decide +kernel
theorem dX7_bellTold_110 : decode cX7_bellTold 110 = .ok (.iastore, 1) := by decide +kernel
theorem dX7_bellTold_111 : decode cX7_bellTold 111 = .ok (.dup, 1) := by decide +kernel
theorem dX7_bellTold_112 : decode cX7_bellTold 112 = .ok (.iconst 4, 1) := by decide +kernel
theorem dX7_bellTold_113 : decode cX7_bellTold 113 = .ok (.aload_n 0, 1) := by decide +kernel
theorem dX7_bellTold_114 : decode cX7_bellTold 114 = .ok (.getfield 33, 3) := by decide +kernel
theorem dX7_bellTold_117 : decode cX7_bellTold 117 = .ok (.getfield 99, 3) := by decide +kernel
theorem dX7_bellTold_120 : decode cX7_bellTold 120 = .ok (.iload_n 1, 1) := by decide +kernel
theorem dX7_bellTold_121 : decode cX7_bellTold 121 = .ok (.iaload, 1) := by decide +kernel
theorem dX7_bellTold_122 : decode cX7_bellTold 122 = .ok (.iastore, 1) := by decide +kernel
theorem dX7_bellTold_123 : decode cX7_bellTold 123 = .ok (.dup, 1) := by decide +kernel
theorem dX7_bellTold_124 : decode cX7_bellTold 124 = .ok (.iconst 5, 1) := by decide +kernel
theorem dX7_bellTold_125 : decode cX7_bellTold 125 = .ok (.aload_n 0, 1) := by decide +kernel
theorem dX7_bellTold_126 : decode cX7_bellTold 126 = .ok (.getfield 33, 3) := by decide +kernel
theorem dX7_bellTold_129 : decode cX7_bellTold 129 = .ok (.iload_n 1, 1) := by decide +kernel
theorem dX7_bellTold_130 : decode cX7_bellTold 130 = .ok (.invokevirtual 102, 3) := by decide +kernel
theorem dX7_bellTold_133 : decode cX7_bellTold 133 = .ok (.iastore, 1) := by decide +kernel
theorem dX7_bellTold_134 : decode cX7_bellTold 134 = .ok (.dup, 1) := by decide +kernel
theorem dX7_bellTold_135 : decode cX7_bellTold 135 = .ok (.bipush 6, 2) := by decide +kernel
theorem dX7_bellTold_137 : decode cX7_bellTold 137 = .ok (.aload_n 0, 1) := by decide +kernel
theorem dX7_bellTold_138 : decode cX7_bellTold 138 = .ok (.getfield 33, 3) := by decide +kernel
theorem dX7_bellTold_141 : decode cX7_bellTold 141 = .ok (.getfield 105, 3) := by decide +kernel
theorem dX7_bellTold_144 : decode cX7_bellTold 144 = .ok (.iload_n 1, 1) := by decide +kernel
theorem dX7_bellTold_145 : decode cX7_bellTold 145 = .ok (.iaload, 1) := by decide +kernel
theorem dX7_bellTold_146 : decode cX7_bellTold 146 = .ok (.iastore, 1) := by decide +kernel
theorem dX7_bellTold_147 : decode cX7_bellTold 147 = .ok (.dup, 1) := by decide +kernel
theorem dX7_bellTold_148 : decode cX7_bellTold 148 = .ok (.bipush 7, 2) := by decide +kernel
theorem dX7_bellTold_150 : decode cX7_bellTold 150 = .ok (.iload_n 3, 1) := by decide +kernel
theorem dX7_bellTold_151 : decode cX7_bellTold 151 = .ok (.iastore, 1) := by decide +kernel
theorem dX7_bellTold_152 : decode cX7_bellTold 152 = .ok (.dup, 1) := by decide +kernel
theorem dX7_bellTold_153 : decode cX7_bellTold 153 = .ok (.bipush 8, 2) := by decide +kernel
theorem dX7_bellTold_155 : decode cX7_bellTold 155 = .ok (.aload_n 0, 1) := by decide +kernel
theorem dX7_bellTold_156 : decode cX7_bellTold 156 = .ok (.getfield 33, 3) := by decide +kernel
theorem dX7_bellTold_159 : decode cX7_bellTold 159 = .ok (.getfield 108, 3) := by decide +kernel
theorem dX7_bellTold_162 : decode cX7_bellTold 162 = .ok (.iload_n 1, 1) := by decide +kernel
theorem dX7_bellTold_163 : decode cX7_bellTold 163 = .ok (.iaload, 1) := by decide +kernel
theorem dX7_bellTold_164 : decode cX7_bellTold 164 = .ok (.iastore, 1) := by decide +kernel
theorem dX7_bellTold_165 : decode cX7_bellTold 165 = .ok (.astore 4, 2) := by decide +kernel
theorem dX7_bellTold_167 : decode cX7_bellTold 167 = .ok (.aload 4, 2) := by decide +kernel
theorem dX7_bellTold_169 : decode cX7_bellTold 169 = .ok (.iload_n 2, 1) := by decide +kernel
theorem dX7_bellTold_170 : decode cX7_bellTold 170 = .ok (.iaload, 1) := by decide +kernel
theorem dX7_bellTold_171 : decode cX7_bellTold 171 = .ok (.ireturn, 1) := by decide +kernel
theorem dX7_bell_0 : decode cX7_bell 0 = .ok (.aload_n 0, 1) := by decide +kernel
theorem dX7_bell_1 : decode cX7_bell 1 = .ok (.iconst 0, 1) := by decide +kernel
theorem dX7_bell_2 : decode cX7_bell 2 = .ok (.putfield 40, 3) := by decide +kernel
theorem dX7_bell_5 : decode cX7_bell 5 = .ok (.iload_n 1, 1) := by decide +kernel
theorem dX7_bell_6 : decode cX7_bell 6 = .ok (.invokestatic 58, 3) := by decide +kernel
theorem dX7_bell_9 : decode cX7_bell 9 = .ok (.ifCond .eq 22, 3) := by decide +kernel
theorem dX7_bell_12 : decode cX7_bell 12 = .ok (.iload_n 2, 1) := by decide +kernel
theorem dX7_bell_13 : decode cX7_bell 13 = .ok (.iconst 0, 1) := by decide +kernel
theorem dX7_bell_14 : decode cX7_bell 14 = .ok (.bipush 8, 2) := by decide +kernel
theorem dX7_bell_16 : decode cX7_bell 16 = .ok (.invokestatic 44, 3) := by decide +kernel
theorem dX7_bell_19 : decode cX7_bell 19 = .ok (.ifCond .eq 12, 3) := by decide +kernel
theorem dX7_bell_22 : decode cX7_bell 22 = .ok (.aload_n 0, 1) := by decide +kernel
theorem dX7_bell_23 : decode cX7_bell 23 = .ok (.iload_n 1, 1) := by decide +kernel
theorem dX7_bell_24 : decode cX7_bell 24 = .ok (.iload_n 2, 1) := by decide +kernel
theorem dX7_bell_25 : decode cX7_bell 25 = .ok (.invokevirtual 111, 3) := by decide +kernel
theorem dX7_bell_28 : decode cX7_bell 28 = .ok (.goto 8, 3) := by decide +kernel
theorem dX7_bell_31 : decode cX7_bell 31 = .ok (.aload_n 0, 1) := by decide +kernel
theorem dX7_bell_32 : decode cX7_bell 32 = .ok (.iconst 1, 1) := by decide +kernel
theorem dX7_bell_33 : decode cX7_bell 33 = .ok (.invokevirtual 62, 3) := by decide +kernel
theorem dX7_bell_36 : decode cX7_bell 36 = .ok (.ireturn, 1) := by decide +kernel
theorem dX7_ringer_0 : decode cX7_ringer 0 = .ok (.aload_n 0, 1) := by decide +kernel
theorem dX7_ringer_1 : decode cX7_ringer 1 = .ok (.iconst 0, 1) := by decide +kernel
theorem dX7_ringer_2 : decode cX7_ringer 2 = .ok (.putfield 40, 3) := by decide +kernel
theorem dX7_ringer_5 : decode cX7_ringer 5 = .ok (.iload_n 1, 1) := by decide +kernel
theorem dX7_ringer_6 : decode cX7_ringer 6 = .ok (.iconst 1, 1) := by decide +kernel
theorem dX7_ringer_7 : decode cX7_ringer 7 = .ok (.bipush 9, 2) := by decide +kernel
theorem dX7_ringer_9 : decode cX7_ringer 9 = .ok (.invokestatic 44, 3) := by decide +kernel
theorem dX7_ringer_12 : decode cX7_ringer 12 = .ok (.ifCond .ne 9, 3) := by decide +kernel
theorem dX7_ringer_15 : decode cX7_ringer 15 = .ok (.aload_n 0, 1) := by decide +kernel
theorem dX7_ringer_16 : decode cX7_ringer 16 = .ok (.iconst 1, 1) := by decide +kernel
theorem dX7_ringer_17 : decode cX7_ringer 17 = .ok (.invokevirtual 62, 3) := by decide +kernel
theorem dX7_ringer_20 : decode cX7_ringer 20 = .ok (.ireturn, 1) := by decide +kernel
theorem dX7_ringer_21 : decode cX7_ringer 21 = .ok (.aload_n 0, 1) := by decide +kernel
theorem dX7_ringer_22 : decode cX7_ringer 22 = .ok (.getfield 48, 3) := by decide +kernel
theorem dX7_ringer_25 : decode cX7_ringer 25 = .ok (.bipush 12, 2) := by decide +kernel
theorem dX7_ringer_27 : decode cX7_ringer 27 = .ok (.if_icmp .ne 9, 3) := by decide +kernel
theorem dX7_ringer_30 : decode cX7_ringer 30 = .ok (.aload_n 0, 1) := by decide +kernel
theorem dX7_ringer_31 : decode cX7_ringer 31 = .ok (.iconst 2, 1) := by decide +kernel
theorem dX7_ringer_32 : decode cX7_ringer 32 = .ok (.invokevirtual 62, 3) := by decide +kernel
theorem dX7_ringer_35 : decode cX7_ringer 35 = .ok (.ireturn, 1) := by decide +kernel
theorem dX7_ringer_36 : decode cX7_ringer 36 = .ok (.aload_n 0, 1) := by decide +kernel
theorem dX7_ringer_37 : decode cX7_ringer 37 = .ok (.getfield 9, 3) := by decide +kernel
theorem dX7_ringer_40 : decode cX7_ringer 40 = .ok (.aload_n 0, 1) := by decide +kernel
theorem dX7_ringer_41 : decode cX7_ringer 41 = .ok (.getfield 48, 3) := by decide +kernel
theorem dX7_ringer_44 : decode cX7_ringer 44 = .ok (.iload_n 1, 1) := by decide +kernel
theorem dX7_ringer_45 : decode cX7_ringer 45 = .ok (.iastore, 1) := by decide +kernel
theorem dX7_ringer_46 : decode cX7_ringer 46 = .ok (.aload_n 0, 1) := by decide +kernel
theorem dX7_ringer_47 : decode cX7_ringer 47 = .ok (.dup, 1) := by decide +kernel
theorem dX7_ringer_48 : decode cX7_ringer 48 = .ok (.getfield 48, 3) := by decide +kernel
theorem dX7_ringer_51 : decode cX7_ringer 51 = .ok (.iconst 1, 1) := by decide +kernel
theorem dX7_ringer_52 : decode cX7_ringer 52 = .ok (.iadd, 1) := by decide +kernel
theorem dX7_ringer_53 : decode cX7_ringer 53 = .ok (.putfield 48, 3) := by decide +kernel
theorem dX7_ringer_56 : decode cX7_ringer 56 = .ok (.aload_n 0, 1) := by decide +kernel
theorem dX7_ringer_57 : decode cX7_ringer 57 = .ok (.getfield 48, 3) := by decide +kernel
theorem dX7_ringer_60 : decode cX7_ringer 60 = .ok (.iconst 1, 1) := by decide +kernel
theorem dX7_ringer_61 : decode cX7_ringer 61 = .ok (.isub, 1) := by decide +kernel
theorem dX7_ringer_62 : decode cX7_ringer 62 = .ok (.ireturn, 1) := by decide +kernel
theorem dX7_send_0 : decode cX7_send 0 = .ok (.aload_n 0, 1) := by decide +kernel
theorem dX7_send_1 : decode cX7_send 1 = .ok (.iconst 0, 1) := by decide +kernel
theorem dX7_send_2 : decode cX7_send 2 = .ok (.putfield 40, 3) := by decide +kernel
theorem dX7_send_5 : decode cX7_send 5 = .ok (.iload_n 1, 1) := by decide +kernel
theorem dX7_send_6 : decode cX7_send 6 = .ok (.invokestatic 58, 3) := by decide +kernel
theorem dX7_send_9 : decode cX7_send 9 = .ok (.ifCond .eq 11, 3) := by decide +kernel
theorem dX7_send_12 : decode cX7_send 12 = .ok (.aload_n 0, 1) := by decide +kernel
theorem dX7_send_13 : decode cX7_send 13 = .ok (.iload_n 2, 1) := by decide +kernel
theorem dX7_send_14 : decode cX7_send 14 = .ok (.invokevirtual 114, 3) := by decide +kernel
theorem dX7_send_17 : decode cX7_send 17 = .ok (.ifCond .ne 9, 3) := by decide +kernel
theorem dX7_send_20 : decode cX7_send 20 = .ok (.aload_n 0, 1) := by decide +kernel
theorem dX7_send_21 : decode cX7_send 21 = .ok (.iconst 1, 1) := by decide +kernel
theorem dX7_send_22 : decode cX7_send 22 = .ok (.invokevirtual 62, 3) := by decide +kernel
theorem dX7_send_25 : decode cX7_send 25 = .ok (.ireturn, 1) := by decide +kernel
theorem dX7_send_26 : decode cX7_send 26 = .ok (.aload_n 0, 1) := by decide +kernel
theorem dX7_send_27 : decode cX7_send 27 = .ok (.getfield 33, 3) := by decide +kernel
theorem dX7_send_30 : decode cX7_send 30 = .ok (.iload_n 2, 1) := by decide +kernel
theorem dX7_send_31 : decode cX7_send 31 = .ok (.invokevirtual 117, 3) := by decide +kernel
theorem dX7_send_34 : decode cX7_send 34 = .ok (.iconst (-1), 1) := by decide +kernel
theorem dX7_send_35 : decode cX7_send 35 = .ok (.if_icmp .eq 9, 3) := by decide +kernel
theorem dX7_send_38 : decode cX7_send 38 = .ok (.aload_n 0, 1) := by decide +kernel
theorem dX7_send_39 : decode cX7_send 39 = .ok (.iconst 2, 1) := by decide +kernel
theorem dX7_send_40 : decode cX7_send 40 = .ok (.invokevirtual 62, 3) := by decide +kernel
theorem dX7_send_43 : decode cX7_send 43 = .ok (.ireturn, 1) := by decide +kernel
theorem dX7_send_44 : decode cX7_send 44 = .ok (.aload_n 0, 1) := by decide +kernel
theorem dX7_send_45 : decode cX7_send 45 = .ok (.getfield 33, 3) := by decide +kernel
theorem dX7_send_48 : decode cX7_send 48 = .ok (.getfield 99, 3) := by decide +kernel
theorem dX7_send_51 : decode cX7_send 51 = .ok (.iload_n 1, 1) := by decide +kernel
theorem dX7_send_52 : decode cX7_send 52 = .ok (.iaload, 1) := by decide +kernel
theorem dX7_send_53 : decode cX7_send 53 = .ok (.istore_n 3, 1) := by decide +kernel
theorem dX7_send_54 : decode cX7_send 54 = .ok (.aload_n 0, 1) := by decide +kernel
theorem dX7_send_55 : decode cX7_send 55 = .ok (.getfield 33, 3) := by decide +kernel
theorem dX7_send_58 : decode cX7_send 58 = .ok (.getfield 99, 3) := by decide +kernel
theorem dX7_send_61 : decode cX7_send 61 = .ok (.iload_n 1, 1) := by decide +kernel
theorem dX7_send_62 : decode cX7_send 62 = .ok (.iload_n 2, 1) := by decide +kernel
theorem dX7_send_63 : decode cX7_send 63 = .ok (.iastore, 1) := by decide +kernel
theorem dX7_send_64 : decode cX7_send 64 = .ok (.iload_n 3, 1) := by decide +kernel
theorem dX7_send_65 : decode cX7_send 65 = .ok (.ireturn, 1) := by decide +kernel
theorem dX7_ringerTold_0 : decode cX7_ringerTold 0 = .ok (.iconst 5, 1) := by decide +kernel
theorem dX7_ringerTold_1 : decode cX7_ringerTold 1 = .ok (.newarray .int, 2) := by decide +kernel
theorem dX7_ringerTold_3 : decode cX7_ringerTold 3 = .ok (.dup, 1) := by decide +kernel
theorem dX7_ringerTold_4 : decode cX7_ringerTold 4 = .ok (.iconst 0, 1) := by decide +kernel
theorem dX7_ringerTold_5 : decode cX7_ringerTold 5 = .ok (.aload_n 0, 1) := by decide +kernel
theorem dX7_ringerTold_6 : decode cX7_ringerTold 6 = .ok (.getfield 9, 3) := by decide +kernel
theorem dX7_ringerTold_9 : decode cX7_ringerTold 9 = .ok (.iload_n 1, 1) := by decide +kernel
theorem dX7_ringerTold_10 : decode cX7_ringerTold 10 = .ok (.iaload, 1) := by decide +kernel
theorem dX7_ringerTold_11 : decode cX7_ringerTold 11 = .ok (.iastore, 1) := by decide +kernel
theorem dX7_ringerTold_12 : decode cX7_ringerTold 12 = .ok (.dup, 1) := by decide +kernel
theorem dX7_ringerTold_13 : decode cX7_ringerTold 13 = .ok (.iconst 1, 1) := by decide +kernel
theorem dX7_ringerTold_14 : decode cX7_ringerTold 14 = .ok (.aload_n 0, 1) := by decide +kernel
theorem dX7_ringerTold_15 : decode cX7_ringerTold 15 = .ok (.getfield 33, 3) := by decide +kernel
theorem dX7_ringerTold_18 : decode cX7_ringerTold 18 = .ok (.getfield 120, 3) := by decide +kernel
theorem dX7_ringerTold_21 : decode cX7_ringerTold 21 = .ok (.iload_n 1, 1) := by decide +kernel
theorem dX7_ringerTold_22 : decode cX7_ringerTold 22 = .ok (.iaload, 1) := by decide +kernel
theorem dX7_ringerTold_23 : decode cX7_ringerTold 23 = .ok (.iastore, 1) := by decide +kernel
theorem dX7_ringerTold_24 : decode cX7_ringerTold 24 = .ok (.dup, 1) := by decide +kernel
theorem dX7_ringerTold_25 : decode cX7_ringerTold 25 = .ok (.iconst 2, 1) := by decide +kernel
theorem dX7_ringerTold_26 : decode cX7_ringerTold 26 = .ok (.aload_n 0, 1) := by decide +kernel
theorem dX7_ringerTold_27 : decode cX7_ringerTold 27 = .ok (.getfield 33, 3) := by decide +kernel
theorem dX7_ringerTold_30 : decode cX7_ringerTold 30 = .ok (.iload_n 1, 1) := by decide +kernel
theorem dX7_ringerTold_31 : decode cX7_ringerTold 31 = .ok (.invokevirtual 117, 3) := by decide +kernel
theorem dX7_ringerTold_34 : decode cX7_ringerTold 34 = .ok (.iastore, 1) := by decide +kernel
theorem dX7_ringerTold_35 : decode cX7_ringerTold 35 = .ok (.dup, 1) := by decide +kernel
theorem dX7_ringerTold_36 : decode cX7_ringerTold 36 = .ok (.iconst 3, 1) := by decide +kernel
theorem dX7_ringerTold_37 : decode cX7_ringerTold 37 = .ok (.aload_n 0, 1) := by decide +kernel
theorem dX7_ringerTold_38 : decode cX7_ringerTold 38 = .ok (.getfield 33, 3) := by decide +kernel
theorem dX7_ringerTold_41 : decode cX7_ringerTold 41 = .ok (.getfield 123, 3) := by decide +kernel
theorem dX7_ringerTold_44 : decode cX7_ringerTold 44 = .ok (.iload_n 1, 1) := by decide +kernel
theorem dX7_ringerTold_45 : decode cX7_ringerTold 45 = .ok (.iaload, 1) := by decide +kernel
theorem dX7_ringerTold_46 : decode cX7_ringerTold 46 = .ok (.iastore, 1) := by decide +kernel
theorem dX7_ringerTold_47 : decode cX7_ringerTold 47 = .ok (.dup, 1) := by decide +kernel
theorem dX7_ringerTold_48 : decode cX7_ringerTold 48 = .ok (.iconst 4, 1) := by decide +kernel
theorem dX7_ringerTold_49 : decode cX7_ringerTold 49 = .ok (.aload_n 0, 1) := by decide +kernel
theorem dX7_ringerTold_50 : decode cX7_ringerTold 50 = .ok (.getfield 33, 3) := by decide +kernel
theorem dX7_ringerTold_53 : decode cX7_ringerTold 53 = .ok (.getfield 126, 3) := by decide +kernel
theorem dX7_ringerTold_56 : decode cX7_ringerTold 56 = .ok (.iload_n 1, 1) := by decide +kernel
theorem dX7_ringerTold_57 : decode cX7_ringerTold 57 = .ok (.iaload, 1) := by decide +kernel
theorem dX7_ringerTold_58 : decode cX7_ringerTold 58 = .ok (.iastore, 1) := by decide +kernel
theorem dX7_ringerTold_59 : decode cX7_ringerTold 59 = .ok (.astore_n 3, 1) := by decide +kernel
theorem dX7_ringerTold_60 : decode cX7_ringerTold 60 = .ok (.aload_n 3, 1) := by decide +kernel
theorem dX7_ringerTold_61 : decode cX7_ringerTold 61 = .ok (.iload_n 2, 1) := by decide +kernel
theorem dX7_ringerTold_62 : decode cX7_ringerTold 62 = .ok (.iaload, 1) := by decide +kernel
theorem dX7_ringerTold_63 : decode cX7_ringerTold 63 = .ok (.ireturn, 1) := by decide +kernel
theorem dX7_told_0 : decode cX7_told 0 = .ok (.aload_n 0, 1) := by decide +kernel
theorem dX7_told_1 : decode cX7_told 1 = .ok (.iconst 0, 1) := by decide +kernel
theorem dX7_told_2 : decode cX7_told 2 = .ok (.putfield 40, 3) := by decide +kernel
theorem dX7_told_5 : decode cX7_told 5 = .ok (.aload_n 0, 1) := by decide +kernel
theorem dX7_told_6 : decode cX7_told 6 = .ok (.iload_n 1, 1) := by decide +kernel
theorem dX7_told_7 : decode cX7_told 7 = .ok (.invokevirtual 114, 3) := by decide +kernel
theorem dX7_told_10 : decode cX7_told 10 = .ok (.ifCond .eq 21, 3) := by decide +kernel
theorem dX7_told_13 : decode cX7_told 13 = .ok (.iload_n 2, 1) := by decide +kernel
theorem dX7_told_14 : decode cX7_told 14 = .ok (.iconst 0, 1) := by decide +kernel
theorem dX7_told_15 : decode cX7_told 15 = .ok (.iconst 4, 1) := by decide +kernel
theorem dX7_told_16 : decode cX7_told 16 = .ok (.invokestatic 44, 3) := by decide +kernel
theorem dX7_told_19 : decode cX7_told 19 = .ok (.ifCond .eq 12, 3) := by decide +kernel
theorem dX7_told_22 : decode cX7_told 22 = .ok (.aload_n 0, 1) := by decide +kernel
theorem dX7_told_23 : decode cX7_told 23 = .ok (.iload_n 1, 1) := by decide +kernel
theorem dX7_told_24 : decode cX7_told 24 = .ok (.iload_n 2, 1) := by decide +kernel
theorem dX7_told_25 : decode cX7_told 25 = .ok (.invokevirtual 129, 3) := by decide +kernel
theorem dX7_told_28 : decode cX7_told 28 = .ok (.goto 8, 3) := by decide +kernel
theorem dX7_told_31 : decode cX7_told 31 = .ok (.aload_n 0, 1) := by decide +kernel
theorem dX7_told_32 : decode cX7_told 32 = .ok (.iconst 1, 1) := by decide +kernel
theorem dX7_told_33 : decode cX7_told 33 = .ok (.invokevirtual 62, 3) := by decide +kernel
theorem dX7_told_36 : decode cX7_told 36 = .ok (.ireturn, 1) := by decide +kernel
theorem dX7_tell_0 : decode cX7_tell 0 = .ok (.aload_n 0, 1) := by decide +kernel
theorem dX7_tell_1 : decode cX7_tell 1 = .ok (.getfield 13, 3) := by decide +kernel
theorem dX7_tell_4 : decode cX7_tell 4 = .ok (.iload_n 1, 1) := by decide +kernel
theorem dX7_tell_5 : decode cX7_tell 5 = .ok (.iload_n 2, 1) := by decide +kernel
theorem dX7_tell_6 : decode cX7_tell 6 = .ok (.iastore, 1) := by decide +kernel
theorem dX7_tell_7 : decode cX7_tell 7 = .ok (.aload_n 0, 1) := by decide +kernel
theorem dX7_tell_8 : decode cX7_tell 8 = .ok (.getfield 16, 3) := by decide +kernel
theorem dX7_tell_11 : decode cX7_tell 11 = .ok (.iload_n 1, 1) := by decide +kernel
theorem dX7_tell_12 : decode cX7_tell 12 = .ok (.iload_n 3, 1) := by decide +kernel
theorem dX7_tell_13 : decode cX7_tell 13 = .ok (.iastore, 1) := by decide +kernel
theorem dX7_tell_14 : decode cX7_tell 14 = .ok (.aload_n 0, 1) := by decide +kernel
theorem dX7_tell_15 : decode cX7_tell 15 = .ok (.getfield 19, 3) := by decide +kernel
theorem dX7_tell_18 : decode cX7_tell 18 = .ok (.iload_n 1, 1) := by decide +kernel
theorem dX7_tell_19 : decode cX7_tell 19 = .ok (.iload 4, 2) := by decide +kernel
theorem dX7_tell_21 : decode cX7_tell 21 = .ok (.iastore, 1) := by decide +kernel
theorem dX7_tell_22 : decode cX7_tell 22 = .ok (.aload_n 0, 1) := by decide +kernel
theorem dX7_tell_23 : decode cX7_tell 23 = .ok (.getfield 22, 3) := by decide +kernel
theorem dX7_tell_26 : decode cX7_tell 26 = .ok (.iload_n 1, 1) := by decide +kernel
theorem dX7_tell_27 : decode cX7_tell 27 = .ok (.iload 5, 2) := by decide +kernel
theorem dX7_tell_29 : decode cX7_tell 29 = .ok (.iastore, 1) := by decide +kernel
theorem dX7_tell_30 : decode cX7_tell 30 = .ok (.return_, 1) := by decide +kernel
theorem dX7_toll_0 : decode cX7_toll 0 = .ok (.aload_n 0, 1) := by decide +kernel
theorem dX7_toll_1 : decode cX7_toll 1 = .ok (.iconst 0, 1) := by decide +kernel
theorem dX7_toll_2 : decode cX7_toll 2 = .ok (.putfield 40, 3) := by decide +kernel
theorem dX7_toll_5 : decode cX7_toll 5 = .ok (.iload_n 1, 1) := by decide +kernel
theorem dX7_toll_6 : decode cX7_toll 6 = .ok (.invokestatic 58, 3) := by decide +kernel
theorem dX7_toll_9 : decode cX7_toll 9 = .ok (.ifCond .ne 9, 3) := by decide +kernel
theorem dX7_toll_12 : decode cX7_toll 12 = .ok (.aload_n 0, 1) := by decide +kernel
theorem dX7_toll_13 : decode cX7_toll 13 = .ok (.iconst 1, 1) := by decide +kernel
theorem dX7_toll_14 : decode cX7_toll 14 = .ok (.invokevirtual 62, 3) := by decide +kernel
theorem dX7_toll_17 : decode cX7_toll 17 = .ok (.ireturn, 1) := by decide +kernel
theorem dX7_toll_18 : decode cX7_toll 18 = .ok (.iload_n 2, 1) := by decide +kernel
theorem dX7_toll_19 : decode cX7_toll 19 = .ok (.iload_n 3, 1) := by decide +kernel
theorem dX7_toll_20 : decode cX7_toll 20 = .ok (.iload 4, 2) := by decide +kernel
theorem dX7_toll_22 : decode cX7_toll 22 = .ok (.invokestatic 132, 3) := by decide +kernel
theorem dX7_toll_25 : decode cX7_toll 25 = .ok (.ifCond .ne 9, 3) := by decide +kernel
theorem dX7_toll_28 : decode cX7_toll 28 = .ok (.aload_n 0, 1) := by decide +kernel
theorem dX7_toll_29 : decode cX7_toll 29 = .ok (.iconst 2, 1) := by decide +kernel
theorem dX7_toll_30 : decode cX7_toll 30 = .ok (.invokevirtual 62, 3) := by decide +kernel
theorem dX7_toll_33 : decode cX7_toll 33 = .ok (.ireturn, 1) := by decide +kernel
theorem dX7_toll_34 : decode cX7_toll 34 = .ok (.aload_n 0, 1) := by decide +kernel
theorem dX7_toll_35 : decode cX7_toll 35 = .ok (.getfield 51, 3) := by decide +kernel
theorem dX7_toll_38 : decode cX7_toll 38 = .ok (.bipush 20, 2) := by decide +kernel
theorem dX7_toll_40 : decode cX7_toll 40 = .ok (.if_icmp .ne 9, 3) := by decide +kernel
theorem dX7_toll_43 : decode cX7_toll 43 = .ok (.aload_n 0, 1) := by decide +kernel
theorem dX7_toll_44 : decode cX7_toll 44 = .ok (.iconst 3, 1) := by decide +kernel
theorem dX7_toll_45 : decode cX7_toll 45 = .ok (.invokevirtual 62, 3) := by decide +kernel
theorem dX7_toll_48 : decode cX7_toll 48 = .ok (.ireturn, 1) := by decide +kernel
theorem dX7_toll_49 : decode cX7_toll 49 = .ok (.aload_n 0, 1) := by decide +kernel
theorem dX7_toll_50 : decode cX7_toll 50 = .ok (.aload_n 0, 1) := by decide +kernel
theorem dX7_toll_51 : decode cX7_toll 51 = .ok (.getfield 51, 3) := by decide +kernel
theorem dX7_toll_54 : decode cX7_toll 54 = .ok (.iload_n 1, 1) := by decide +kernel
theorem dX7_toll_55 : decode cX7_toll 55 = .ok (.iload_n 2, 1) := by decide +kernel
theorem dX7_toll_56 : decode cX7_toll 56 = .ok (.iload_n 3, 1) := by decide +kernel
theorem dX7_toll_57 : decode cX7_toll 57 = .ok (.iload 4, 2) := by decide +kernel
theorem dX7_toll_59 : decode cX7_toll 59 = .ok (.invokevirtual 135, 3) := by decide +kernel
theorem dX7_toll_62 : decode cX7_toll 62 = .ok (.aload_n 0, 1) := by decide +kernel
theorem dX7_toll_63 : decode cX7_toll 63 = .ok (.dup, 1) := by decide +kernel
theorem dX7_toll_64 : decode cX7_toll 64 = .ok (.getfield 51, 3) := by decide +kernel
theorem dX7_toll_67 : decode cX7_toll 67 = .ok (.iconst 1, 1) := by decide +kernel
theorem dX7_toll_68 : decode cX7_toll 68 = .ok (.iadd, 1) := by decide +kernel
theorem dX7_toll_69 : decode cX7_toll 69 = .ok (.putfield 51, 3) := by decide +kernel
theorem dX7_toll_72 : decode cX7_toll 72 = .ok (.aload_n 0, 1) := by decide +kernel
theorem dX7_toll_73 : decode cX7_toll 73 = .ok (.getfield 33, 3) := by decide +kernel
theorem dX7_toll_76 : decode cX7_toll 76 = .ok (.invokevirtual 139, 3) := by decide +kernel
theorem dX7_toll_79 : decode cX7_toll 79 = .ok (.ireturn, 1) := by decide +kernel
theorem dX7_stop_0 : decode cX7_stop 0 = .ok (.aload_n 0, 1) := by decide +kernel
theorem dX7_stop_1 : decode cX7_stop 1 = .ok (.iconst 0, 1) := by decide +kernel
theorem dX7_stop_2 : decode cX7_stop 2 = .ok (.putfield 40, 3) := by decide +kernel
theorem dX7_stop_5 : decode cX7_stop 5 = .ok (.aload_n 0, 1) := by decide +kernel
theorem dX7_stop_6 : decode cX7_stop 6 = .ok (.iload_n 1, 1) := by decide +kernel
theorem dX7_stop_7 : decode cX7_stop 7 = .ok (.invokevirtual 143, 3) := by decide +kernel
theorem dX7_stop_10 : decode cX7_stop 10 = .ok (.ifCond .ne 9, 3) := by decide +kernel
theorem dX7_stop_13 : decode cX7_stop 13 = .ok (.aload_n 0, 1) := by decide +kernel
theorem dX7_stop_14 : decode cX7_stop 14 = .ok (.iconst 1, 1) := by decide +kernel
theorem dX7_stop_15 : decode cX7_stop 15 = .ok (.invokevirtual 62, 3) := by decide +kernel
theorem dX7_stop_18 : decode cX7_stop 18 = .ok (.ireturn, 1) := by decide +kernel
theorem dX7_stop_19 : decode cX7_stop 19 = .ok (.aload_n 0, 1) := by decide +kernel
theorem dX7_stop_20 : decode cX7_stop 20 = .ok (.getfield 33, 3) := by decide +kernel
theorem dX7_stop_23 : decode cX7_stop 23 = .ok (.getfield 93, 3) := by decide +kernel
theorem dX7_stop_26 : decode cX7_stop 26 = .ok (.iload_n 1, 1) := by decide +kernel
theorem dX7_stop_27 : decode cX7_stop 27 = .ok (.iaload, 1) := by decide +kernel
theorem dX7_stop_28 : decode cX7_stop 28 = .ok (.iconst (-1), 1) := by decide +kernel
theorem dX7_stop_29 : decode cX7_stop 29 = .ok (.if_icmp .eq 9, 3) := by decide +kernel
theorem dX7_stop_32 : decode cX7_stop 32 = .ok (.aload_n 0, 1) := by decide +kernel
theorem dX7_stop_33 : decode cX7_stop 33 = .ok (.iconst 2, 1) := by decide +kernel
theorem dX7_stop_34 : decode cX7_stop 34 = .ok (.invokevirtual 62, 3) := by decide +kernel
theorem dX7_stop_37 : decode cX7_stop 37 = .ok (.ireturn, 1) := by decide +kernel
theorem dX7_stop_38 : decode cX7_stop 38 = .ok (.aload_n 0, 1) := by decide +kernel
theorem dX7_stop_39 : decode cX7_stop 39 = .ok (.getfield 33, 3) := by decide +kernel
theorem dX7_stop_42 : decode cX7_stop 42 = .ok (.iload_n 1, 1) := by decide +kernel
theorem dX7_stop_43 : decode cX7_stop 43 = .ok (.invokevirtual 146, 3) := by decide +kernel
theorem dX7_stop_46 : decode cX7_stop 46 = .ok (.aload_n 0, 1) := by decide +kernel
theorem dX7_stop_47 : decode cX7_stop 47 = .ok (.iload_n 1, 1) := by decide +kernel
theorem dX7_stop_48 : decode cX7_stop 48 = .ok (.invokevirtual 150, 3) := by decide +kernel
theorem dX7_stop_51 : decode cX7_stop 51 = .ok (.aload_n 0, 1) := by decide +kernel
theorem dX7_stop_52 : decode cX7_stop 52 = .ok (.getfield 33, 3) := by decide +kernel
theorem dX7_stop_55 : decode cX7_stop 55 = .ok (.getfield 153, 3) := by decide +kernel
theorem dX7_stop_58 : decode cX7_stop 58 = .ok (.iload_n 1, 1) := by decide +kernel
theorem dX7_stop_59 : decode cX7_stop 59 = .ok (.iaload, 1) := by decide +kernel
theorem dX7_stop_60 : decode cX7_stop 60 = .ok (.isub, 1) := by decide +kernel
theorem dX7_stop_61 : decode cX7_stop 61 = .ok (.ireturn, 1) := by decide +kernel
theorem dX7_tollTold_0 : decode cX7_tollTold 0 = .ok (.aload_n 0, 1) := by decide +kernel
theorem dX7_tollTold_1 : decode cX7_tollTold 1 = .ok (.getfield 33, 3) := by decide +kernel
theorem dX7_tollTold_4 : decode cX7_tollTold 4 = .ok (.getfield 93, 3) := by decide +kernel
theorem dX7_tollTold_7 : decode cX7_tollTold 7 = .ok (.iload_n 1, 1) := by decide +kernel
theorem dX7_tollTold_8 : decode cX7_tollTold 8 = .ok (.iaload, 1) := by decide +kernel
theorem dX7_tollTold_9 : decode cX7_tollTold 9 = .ok (.iconst (-1), 1) := by decide +kernel
theorem dX7_tollTold_10 : decode cX7_tollTold 10 = .ok (.if_icmp .eq 7, 3) := by decide +kernel
theorem dX7_tollTold_13 : decode cX7_tollTold 13 = .ok (.iconst 2, 1) := by decide +kernel
theorem dX7_tollTold_14 : decode cX7_tollTold 14 = .ok (.goto 20, 3) := by decide +kernel
theorem dX7_tollTold_17 : decode cX7_tollTold 17 = .ok (.aload_n 0, 1) := by decide +kernel
theorem dX7_tollTold_18 : decode cX7_tollTold 18 = .ok (.getfield 33, 3) := by decide +kernel
theorem dX7_tollTold_21 : decode cX7_tollTold 21 = .ok (.getfield 153, 3) := by decide +kernel
theorem dX7_tollTold_24 : decode cX7_tollTold 24 = .ok (.iload_n 1, 1) := by decide +kernel
theorem dX7_tollTold_25 : decode cX7_tollTold 25 = .ok (.iaload, 1) := by decide +kernel
theorem dX7_tollTold_26 : decode cX7_tollTold 26 = .ok (.ifCond .le 7, 3) := by decide +kernel
theorem dX7_tollTold_29 : decode cX7_tollTold 29 = .ok (.iconst 1, 1) := by decide +kernel
theorem dX7_tollTold_30 : decode cX7_tollTold 30 = .ok (.goto 4, 3) := by decide +kernel
theorem dX7_tollTold_33 : decode cX7_tollTold 33 = .ok (.iconst 0, 1) := by decide +kernel
theorem dX7_tollTold_34 : decode cX7_tollTold 34 = .ok (.istore_n 3, 1) := by decide +kernel
theorem dX7_tollTold_35 : decode cX7_tollTold 35 = .ok (.bipush 9, 2) := by decide +kernel
theorem dX7_tollTold_37 : decode cX7_tollTold 37 = .ok (.newarray .int, 2) := by decide +kernel
theorem dX7_tollTold_39 : decode cX7_tollTold 39 = .ok (.dup, 1) := by decide +kernel
theorem dX7_tollTold_40 : decode cX7_tollTold 40 = .ok (.iconst 0, 1) := by decide +kernel
theorem dX7_tollTold_41 : decode cX7_tollTold 41 = .ok (.aload_n 0, 1) := by decide +kernel
theorem dX7_tollTold_42 : decode cX7_tollTold 42 = .ok (.getfield 13, 3) := by decide +kernel
theorem dX7_tollTold_45 : decode cX7_tollTold 45 = .ok (.iload_n 1, 1) := by decide +kernel
theorem dX7_tollTold_46 : decode cX7_tollTold 46 = .ok (.iaload, 1) := by decide +kernel
theorem dX7_tollTold_47 : decode cX7_tollTold 47 = .ok (.iastore, 1) := by decide +kernel
theorem dX7_tollTold_48 : decode cX7_tollTold 48 = .ok (.dup, 1) := by decide +kernel
theorem dX7_tollTold_49 : decode cX7_tollTold 49 = .ok (.iconst 1, 1) := by decide +kernel
theorem dX7_tollTold_50 : decode cX7_tollTold 50 = .ok (.aload_n 0, 1) := by decide +kernel
theorem dX7_tollTold_51 : decode cX7_tollTold 51 = .ok (.getfield 16, 3) := by decide +kernel
theorem dX7_tollTold_54 : decode cX7_tollTold 54 = .ok (.iload_n 1, 1) := by decide +kernel
theorem dX7_tollTold_55 : decode cX7_tollTold 55 = .ok (.iaload, 1) := by decide +kernel
theorem dX7_tollTold_56 : decode cX7_tollTold 56 = .ok (.iastore, 1) := by decide +kernel
theorem dX7_tollTold_57 : decode cX7_tollTold 57 = .ok (.dup, 1) := by decide +kernel
theorem dX7_tollTold_58 : decode cX7_tollTold 58 = .ok (.iconst 2, 1) := by decide +kernel
theorem dX7_tollTold_59 : decode cX7_tollTold 59 = .ok (.aload_n 0, 1) := by decide +kernel
theorem dX7_tollTold_60 : decode cX7_tollTold 60 = .ok (.getfield 19, 3) := by decide +kernel
theorem dX7_tollTold_63 : decode cX7_tollTold 63 = .ok (.iload_n 1, 1) := by decide +kernel
theorem dX7_tollTold_64 : decode cX7_tollTold 64 = .ok (.iaload, 1) := by decide +kernel
theorem dX7_tollTold_65 : decode cX7_tollTold 65 = .ok (.iastore, 1) := by decide +kernel
theorem dX7_tollTold_66 : decode cX7_tollTold 66 = .ok (.dup, 1) := by decide +kernel
theorem dX7_tollTold_67 : decode cX7_tollTold 67 = .ok (.iconst 3, 1) := by decide +kernel
theorem dX7_tollTold_68 : decode cX7_tollTold 68 = .ok (.aload_n 0, 1) := by decide +kernel
end
section
theorem dX7_tollTold_69 : decode cX7_tollTold 69 = .ok (.getfield 22, 3) := by decide +kernel
theorem dX7_tollTold_72 : decode cX7_tollTold 72 = .ok (.iload_n 1, 1) := by decide +kernel
theorem dX7_tollTold_73 : decode cX7_tollTold 73 = .ok (.iaload, 1) := by decide +kernel
theorem dX7_tollTold_74 : decode cX7_tollTold 74 = .ok (.iastore, 1) := by decide +kernel
theorem dX7_tollTold_75 : decode cX7_tollTold 75 = .ok (.dup, 1) := by decide +kernel
theorem dX7_tollTold_76 : decode cX7_tollTold 76 = .ok (.iconst 4, 1) := by decide +kernel
theorem dX7_tollTold_77 : decode cX7_tollTold 77 = .ok (.aload_n 0, 1) := by decide +kernel
theorem dX7_tollTold_78 : decode cX7_tollTold 78 = .ok (.getfield 33, 3) := by decide +kernel
theorem dX7_tollTold_81 : decode cX7_tollTold 81 = .ok (.getfield 153, 3) := by decide +kernel
theorem dX7_tollTold_84 : decode cX7_tollTold 84 = .ok (.iload_n 1, 1) := by decide +kernel
theorem dX7_tollTold_85 : decode cX7_tollTold 85 = .ok (.iaload, 1) := by decide +kernel
theorem dX7_tollTold_86 : decode cX7_tollTold 86 = .ok (.iastore, 1) := by decide +kernel
theorem dX7_tollTold_87 : decode cX7_tollTold 87 = .ok (.dup, 1) := by decide +kernel
theorem dX7_tollTold_88 : decode cX7_tollTold 88 = .ok (.iconst 5, 1) := by decide +kernel
theorem dX7_tollTold_89 : decode cX7_tollTold 89 = .ok (.aload_n 0, 1) := by decide +kernel
theorem dX7_tollTold_90 : decode cX7_tollTold 90 = .ok (.getfield 33, 3) := by decide +kernel
theorem dX7_tollTold_93 : decode cX7_tollTold 93 = .ok (.getfield 156, 3) := by decide +kernel
theorem dX7_tollTold_96 : decode cX7_tollTold 96 = .ok (.iload_n 1, 1) := by decide +kernel
theorem dX7_tollTold_97 : decode cX7_tollTold 97 = .ok (.iaload, 1) := by decide +kernel
theorem dX7_tollTold_98 : decode cX7_tollTold 98 = .ok (.iastore, 1) := by decide +kernel
theorem dX7_tollTold_99 : decode cX7_tollTold 99 = .ok (.dup, 1) := by decide +kernel
theorem dX7_tollTold_100 : decode cX7_tollTold 100 = .ok (.bipush 6, 2) := by decide +kernel
theorem dX7_tollTold_102 : decode cX7_tollTold 102 = .ok (.iconst 0, 1) := by decide +kernel
theorem dX7_tollTold_103 : decode cX7_tollTold 103 = .ok (.aload_n 0, 1) := by decide +kernel
theorem dX7_tollTold_104 : decode cX7_tollTold 104 = .ok (.getfield 33, 3) := by decide +kernel
theorem dX7_tollTold_107 : decode cX7_tollTold 107 = .ok (.getfield 153, 3) := by decide +kernel
theorem dX7_tollTold_110 : decode cX7_tollTold 110 = .ok (.iload_n 1, 1) := by decide +kernel
theorem dX7_tollTold_111 : decode cX7_tollTold 111 = .ok (.iaload, 1) := by decide +kernel
theorem dX7_tollTold_112 : decode cX7_tollTold 112 = .ok (.aload_n 0, 1) := by decide +kernel
theorem dX7_tollTold_113 : decode cX7_tollTold 113 = .ok (.iload_n 1, 1) := by decide +kernel
theorem dX7_tollTold_114 : decode cX7_tollTold 114 = .ok (.invokevirtual 54, 3) := by decide +kernel
theorem dX7_tollTold_117 : decode cX7_tollTold 117 = .ok (.isub, 1) := by decide +kernel
theorem dX7_tollTold_118 : decode cX7_tollTold 118 = .ok (.invokestatic 159, 3) := by decide +kernel
theorem dX7_tollTold_121 : decode cX7_tollTold 121 = .ok (.iastore, 1) := by decide +kernel
theorem dX7_tollTold_122 : decode cX7_tollTold 122 = .ok (.dup, 1) := by decide +kernel
theorem dX7_tollTold_123 : decode cX7_tollTold 123 = .ok (.bipush 7, 2) := by decide +kernel
theorem dX7_tollTold_125 : decode cX7_tollTold 125 = .ok (.iload_n 3, 1) := by decide +kernel
theorem dX7_tollTold_126 : decode cX7_tollTold 126 = .ok (.iastore, 1) := by decide +kernel
theorem dX7_tollTold_127 : decode cX7_tollTold 127 = .ok (.dup, 1) := by decide +kernel
theorem dX7_tollTold_128 : decode cX7_tollTold 128 = .ok (.bipush 8, 2) := by decide +kernel
theorem dX7_tollTold_130 : decode cX7_tollTold 130 = .ok (.aload_n 0, 1) := by decide +kernel
theorem dX7_tollTold_131 : decode cX7_tollTold 131 = .ok (.getfield 33, 3) := by decide +kernel
theorem dX7_tollTold_134 : decode cX7_tollTold 134 = .ok (.getfield 93, 3) := by decide +kernel
theorem dX7_tollTold_137 : decode cX7_tollTold 137 = .ok (.iload_n 1, 1) := by decide +kernel
theorem dX7_tollTold_138 : decode cX7_tollTold 138 = .ok (.iaload, 1) := by decide +kernel
theorem dX7_tollTold_139 : decode cX7_tollTold 139 = .ok (.iastore, 1) := by decide +kernel
theorem dX7_tollTold_140 : decode cX7_tollTold 140 = .ok (.astore 4, 2) := by decide +kernel
theorem dX7_tollTold_142 : decode cX7_tollTold 142 = .ok (.aload 4, 2) := by decide +kernel
theorem dX7_tollTold_144 : decode cX7_tollTold 144 = .ok (.iload_n 2, 1) := by decide +kernel
theorem dX7_tollTold_145 : decode cX7_tollTold 145 = .ok (.iaload, 1) := by decide +kernel
theorem dX7_tollTold_146 : decode cX7_tollTold 146 = .ok (.ireturn, 1) := by decide +kernel
theorem dX7_about_0 : decode cX7_about 0 = .ok (.aload_n 0, 1) := by decide +kernel
theorem dX7_about_1 : decode cX7_about 1 = .ok (.iconst 0, 1) := by decide +kernel
theorem dX7_about_2 : decode cX7_about 2 = .ok (.putfield 40, 3) := by decide +kernel
theorem dX7_about_5 : decode cX7_about 5 = .ok (.aload_n 0, 1) := by decide +kernel
theorem dX7_about_6 : decode cX7_about 6 = .ok (.iload_n 1, 1) := by decide +kernel
theorem dX7_about_7 : decode cX7_about 7 = .ok (.invokevirtual 143, 3) := by decide +kernel
theorem dX7_about_10 : decode cX7_about 10 = .ok (.ifCond .eq 22, 3) := by decide +kernel
theorem dX7_about_13 : decode cX7_about 13 = .ok (.iload_n 2, 1) := by decide +kernel
theorem dX7_about_14 : decode cX7_about 14 = .ok (.iconst 0, 1) := by decide +kernel
theorem dX7_about_15 : decode cX7_about 15 = .ok (.bipush 8, 2) := by decide +kernel
theorem dX7_about_17 : decode cX7_about 17 = .ok (.invokestatic 44, 3) := by decide +kernel
theorem dX7_about_20 : decode cX7_about 20 = .ok (.ifCond .eq 12, 3) := by decide +kernel
theorem dX7_about_23 : decode cX7_about 23 = .ok (.aload_n 0, 1) := by decide +kernel
theorem dX7_about_24 : decode cX7_about 24 = .ok (.iload_n 1, 1) := by decide +kernel
theorem dX7_about_25 : decode cX7_about 25 = .ok (.iload_n 2, 1) := by decide +kernel
theorem dX7_about_26 : decode cX7_about 26 = .ok (.invokevirtual 162, 3) := by decide +kernel
theorem dX7_about_29 : decode cX7_about 29 = .ok (.goto 8, 3) := by decide +kernel
theorem dX7_about_32 : decode cX7_about 32 = .ok (.aload_n 0, 1) := by decide +kernel
theorem dX7_about_33 : decode cX7_about 33 = .ok (.iconst 1, 1) := by decide +kernel
theorem dX7_about_34 : decode cX7_about 34 = .ok (.invokevirtual 62, 3) := by decide +kernel
theorem dX7_about_37 : decode cX7_about 37 = .ok (.ireturn, 1) := by decide +kernel
theorem dX7_heardOf_0 : decode cX7_heardOf 0 = .ok (.iconst 0, 1) := by decide +kernel
theorem dX7_heardOf_1 : decode cX7_heardOf 1 = .ok (.istore_n 3, 1) := by decide +kernel
theorem dX7_heardOf_2 : decode cX7_heardOf 2 = .ok (.iload_n 2, 1) := by decide +kernel
theorem dX7_heardOf_3 : decode cX7_heardOf 3 = .ok (.istore 4, 2) := by decide +kernel
theorem dX7_heardOf_5 : decode cX7_heardOf 5 = .ok (.iload 4, 2) := by decide +kernel
theorem dX7_heardOf_7 : decode cX7_heardOf 7 = .ok (.bipush 91, 2) := by decide +kernel
theorem dX7_heardOf_9 : decode cX7_heardOf 9 = .ok (.if_icmp .ge 24, 3) := by decide +kernel
theorem dX7_heardOf_12 : decode cX7_heardOf 12 = .ok (.iload_n 3, 1) := by decide +kernel
theorem dX7_heardOf_13 : decode cX7_heardOf 13 = .ok (.aload_n 0, 1) := by decide +kernel
theorem dX7_heardOf_14 : decode cX7_heardOf 14 = .ok (.getfield 25, 3) := by decide +kernel
theorem dX7_heardOf_17 : decode cX7_heardOf 17 = .ok (.bipush 91, 2) := by decide +kernel
theorem dX7_heardOf_19 : decode cX7_heardOf 19 = .ok (.iload_n 1, 1) := by decide +kernel
theorem dX7_heardOf_20 : decode cX7_heardOf 20 = .ok (.imul, 1) := by decide +kernel
theorem dX7_heardOf_21 : decode cX7_heardOf 21 = .ok (.iload 4, 2) := by decide +kernel
theorem dX7_heardOf_23 : decode cX7_heardOf 23 = .ok (.iadd, 1) := by decide +kernel
theorem dX7_heardOf_24 : decode cX7_heardOf 24 = .ok (.iaload, 1) := by decide +kernel
theorem dX7_heardOf_25 : decode cX7_heardOf 25 = .ok (.iadd, 1) := by decide +kernel
theorem dX7_heardOf_26 : decode cX7_heardOf 26 = .ok (.istore_n 3, 1) := by decide +kernel
theorem dX7_heardOf_27 : decode cX7_heardOf 27 = .ok (.iinc 4 1, 3) := by decide +kernel
theorem dX7_heardOf_30 : decode cX7_heardOf 30 = .ok (.goto (-25), 3) := by decide +kernel
theorem dX7_heardOf_33 : decode cX7_heardOf 33 = .ok (.iload_n 3, 1) := by decide +kernel
theorem dX7_heardOf_34 : decode cX7_heardOf 34 = .ok (.ireturn, 1) := by decide +kernel
theorem dX7_heard_0 : decode cX7_heard 0 = .ok (.aload_n 0, 1) := by decide +kernel
theorem dX7_heard_1 : decode cX7_heard 1 = .ok (.iconst 0, 1) := by decide +kernel
theorem dX7_heard_2 : decode cX7_heard 2 = .ok (.putfield 40, 3) := by decide +kernel
theorem dX7_heard_5 : decode cX7_heard 5 = .ok (.aload_n 0, 1) := by decide +kernel
theorem dX7_heard_6 : decode cX7_heard 6 = .ok (.iload_n 1, 1) := by decide +kernel
theorem dX7_heard_7 : decode cX7_heard 7 = .ok (.invokevirtual 143, 3) := by decide +kernel
theorem dX7_heard_10 : decode cX7_heard 10 = .ok (.ifCond .ne 9, 3) := by decide +kernel
theorem dX7_heard_13 : decode cX7_heard 13 = .ok (.aload_n 0, 1) := by decide +kernel
theorem dX7_heard_14 : decode cX7_heard 14 = .ok (.iconst 1, 1) := by decide +kernel
theorem dX7_heard_15 : decode cX7_heard 15 = .ok (.invokevirtual 62, 3) := by decide +kernel
theorem dX7_heard_18 : decode cX7_heard 18 = .ok (.ireturn, 1) := by decide +kernel
theorem dX7_heard_19 : decode cX7_heard 19 = .ok (.iload_n 2, 1) := by decide +kernel
theorem dX7_heard_20 : decode cX7_heard 20 = .ok (.iconst 0, 1) := by decide +kernel
theorem dX7_heard_21 : decode cX7_heard 21 = .ok (.bipush 90, 2) := by decide +kernel
theorem dX7_heard_23 : decode cX7_heard 23 = .ok (.invokestatic 44, 3) := by decide +kernel
theorem dX7_heard_26 : decode cX7_heard 26 = .ok (.ifCond .eq 12, 3) := by decide +kernel
theorem dX7_heard_29 : decode cX7_heard 29 = .ok (.aload_n 0, 1) := by decide +kernel
theorem dX7_heard_30 : decode cX7_heard 30 = .ok (.iload_n 1, 1) := by decide +kernel
theorem dX7_heard_31 : decode cX7_heard 31 = .ok (.iload_n 2, 1) := by decide +kernel
theorem dX7_heard_32 : decode cX7_heard 32 = .ok (.invokevirtual 165, 3) := by decide +kernel
theorem dX7_heard_35 : decode cX7_heard 35 = .ok (.goto 8, 3) := by decide +kernel
theorem dX7_heard_38 : decode cX7_heard 38 = .ok (.aload_n 0, 1) := by decide +kernel
theorem dX7_heard_39 : decode cX7_heard 39 = .ok (.iconst 2, 1) := by decide +kernel
theorem dX7_heard_40 : decode cX7_heard 40 = .ok (.invokevirtual 62, 3) := by decide +kernel
theorem dX7_heard_43 : decode cX7_heard 43 = .ok (.ireturn, 1) := by decide +kernel
theorem dX7_count_0 : decode cX7_count 0 = .ok (.aload_n 0, 1) := by decide +kernel
theorem dX7_count_1 : decode cX7_count 1 = .ok (.iconst 0, 1) := by decide +kernel
theorem dX7_count_2 : decode cX7_count 2 = .ok (.putfield 40, 3) := by decide +kernel
theorem dX7_count_5 : decode cX7_count 5 = .ok (.iload_n 1, 1) := by decide +kernel
theorem dX7_count_6 : decode cX7_count 6 = .ok (.iconst 0, 1) := by decide +kernel
theorem dX7_count_7 : decode cX7_count 7 = .ok (.bipush 8, 2) := by decide +kernel
theorem dX7_count_9 : decode cX7_count 9 = .ok (.invokestatic 44, 3) := by decide +kernel
theorem dX7_count_12 : decode cX7_count 12 = .ok (.ifCond .eq 14, 3) := by decide +kernel
theorem dX7_count_15 : decode cX7_count 15 = .ok (.aload_n 0, 1) := by decide +kernel
theorem dX7_count_16 : decode cX7_count 16 = .ok (.getfield 33, 3) := by decide +kernel
theorem dX7_count_19 : decode cX7_count 19 = .ok (.iload_n 1, 1) := by decide +kernel
theorem dX7_count_20 : decode cX7_count 20 = .ok (.invokevirtual 168, 3) := by decide +kernel
theorem dX7_count_23 : decode cX7_count 23 = .ok (.goto 8, 3) := by decide +kernel
theorem dX7_count_26 : decode cX7_count 26 = .ok (.aload_n 0, 1) := by decide +kernel
theorem dX7_count_27 : decode cX7_count 27 = .ok (.iconst 1, 1) := by decide +kernel
theorem dX7_count_28 : decode cX7_count 28 = .ok (.invokevirtual 62, 3) := by decide +kernel
theorem dX7_count_31 : decode cX7_count 31 = .ok (.ireturn, 1) := by decide +kernel
theorem dX7_pass_0 : decode cX7_pass 0 = .ok (.aload_n 0, 1) := by decide +kernel
theorem dX7_pass_1 : decode cX7_pass 1 = .ok (.iconst 0, 1) := by decide +kernel
theorem dX7_pass_2 : decode cX7_pass 2 = .ok (.putfield 40, 3) := by decide +kernel
theorem dX7_pass_5 : decode cX7_pass 5 = .ok (.iload_n 1, 1) := by decide +kernel
theorem dX7_pass_6 : decode cX7_pass 6 = .ok (.iconst 1, 1) := by decide +kernel
theorem dX7_pass_7 : decode cX7_pass 7 = .ok (.sipush 240, 3) := by decide +kernel
theorem dX7_pass_10 : decode cX7_pass 10 = .ok (.invokestatic 44, 3) := by decide +kernel
theorem dX7_pass_13 : decode cX7_pass 13 = .ok (.ifCond .ne 9, 3) := by decide +kernel
theorem dX7_pass_16 : decode cX7_pass 16 = .ok (.aload_n 0, 1) := by decide +kernel
theorem dX7_pass_17 : decode cX7_pass 17 = .ok (.iconst 1, 1) := by decide +kernel
theorem dX7_pass_18 : decode cX7_pass 18 = .ok (.invokevirtual 62, 3) := by decide +kernel
theorem dX7_pass_21 : decode cX7_pass 21 = .ok (.ireturn, 1) := by decide +kernel
theorem dX7_pass_22 : decode cX7_pass 22 = .ok (.iconst 0, 1) := by decide +kernel
theorem dX7_pass_23 : decode cX7_pass 23 = .ok (.istore_n 2, 1) := by decide +kernel
theorem dX7_pass_24 : decode cX7_pass 24 = .ok (.iconst 0, 1) := by decide +kernel
theorem dX7_pass_25 : decode cX7_pass 25 = .ok (.istore_n 3, 1) := by decide +kernel
theorem dX7_pass_26 : decode cX7_pass 26 = .ok (.iload_n 3, 1) := by decide +kernel
theorem dX7_pass_27 : decode cX7_pass 27 = .ok (.iload_n 1, 1) := by decide +kernel
theorem dX7_pass_28 : decode cX7_pass 28 = .ok (.if_icmp .ge 20, 3) := by decide +kernel
theorem dX7_pass_31 : decode cX7_pass 31 = .ok (.iload_n 2, 1) := by decide +kernel
theorem dX7_pass_32 : decode cX7_pass 32 = .ok (.aload_n 0, 1) := by decide +kernel
theorem dX7_pass_33 : decode cX7_pass 33 = .ok (.getfield 33, 3) := by decide +kernel
theorem dX7_pass_36 : decode cX7_pass 36 = .ok (.iconst 1, 1) := by decide +kernel
theorem dX7_pass_37 : decode cX7_pass 37 = .ok (.invokevirtual 171, 3) := by decide +kernel
theorem dX7_pass_40 : decode cX7_pass 40 = .ok (.iadd, 1) := by decide +kernel
theorem dX7_pass_41 : decode cX7_pass 41 = .ok (.istore_n 2, 1) := by decide +kernel
theorem dX7_pass_42 : decode cX7_pass 42 = .ok (.iinc 3 1, 3) := by decide +kernel
theorem dX7_pass_45 : decode cX7_pass 45 = .ok (.goto (-19), 3) := by decide +kernel
theorem dX7_pass_48 : decode cX7_pass 48 = .ok (.iload_n 2, 1) := by decide +kernel
theorem dX7_pass_49 : decode cX7_pass 49 = .ok (.ireturn, 1) := by decide +kernel
theorem dX7_endOf_0 : decode cX7_endOf 0 = .ok (.iconst 0, 1) := by decide +kernel
theorem dX7_endOf_1 : decode cX7_endOf 1 = .ok (.istore_n 2, 1) := by decide +kernel
theorem dX7_endOf_2 : decode cX7_endOf 2 = .ok (.iload_n 2, 1) := by decide +kernel
theorem dX7_endOf_3 : decode cX7_endOf 3 = .ok (.sipush 600, 3) := by decide +kernel
theorem dX7_endOf_6 : decode cX7_endOf 6 = .ok (.if_icmp .gt 33, 3) := by decide +kernel
theorem dX7_endOf_9 : decode cX7_endOf 9 = .ok (.aload_n 0, 1) := by decide +kernel
theorem dX7_endOf_10 : decode cX7_endOf 10 = .ok (.getfield 37, 3) := by decide +kernel
theorem dX7_endOf_13 : decode cX7_endOf 13 = .ok (.getfield 93, 3) := by decide +kernel
theorem dX7_endOf_16 : decode cX7_endOf 16 = .ok (.iload_n 1, 1) := by decide +kernel
theorem dX7_endOf_17 : decode cX7_endOf 17 = .ok (.iaload, 1) := by decide +kernel
theorem dX7_endOf_18 : decode cX7_endOf 18 = .ok (.iconst (-1), 1) := by decide +kernel
theorem dX7_endOf_19 : decode cX7_endOf 19 = .ok (.if_icmp .eq 5, 3) := by decide +kernel
theorem dX7_endOf_22 : decode cX7_endOf 22 = .ok (.iload_n 2, 1) := by decide +kernel
theorem dX7_endOf_23 : decode cX7_endOf 23 = .ok (.ireturn, 1) := by decide +kernel
theorem dX7_endOf_24 : decode cX7_endOf 24 = .ok (.aload_n 0, 1) := by decide +kernel
theorem dX7_endOf_25 : decode cX7_endOf 25 = .ok (.getfield 37, 3) := by decide +kernel
theorem dX7_endOf_28 : decode cX7_endOf 28 = .ok (.iconst 0, 1) := by decide +kernel
theorem dX7_endOf_29 : decode cX7_endOf 29 = .ok (.invokevirtual 171, 3) := by decide +kernel
theorem dX7_endOf_32 : decode cX7_endOf 32 = .ok (.pop, 1) := by decide +kernel
theorem dX7_endOf_33 : decode cX7_endOf 33 = .ok (.iinc 2 1, 3) := by decide +kernel
theorem dX7_endOf_36 : decode cX7_endOf 36 = .ok (.goto (-34), 3) := by decide +kernel
theorem dX7_endOf_39 : decode cX7_endOf 39 = .ok (.iconst (-1), 1) := by decide +kernel
theorem dX7_endOf_40 : decode cX7_endOf 40 = .ok (.ireturn, 1) := by decide +kernel
theorem dX7_ends_0 : decode cX7_ends 0 = .ok (.aload_n 0, 1) := by decide +kernel
theorem dX7_ends_1 : decode cX7_ends 1 = .ok (.iconst 0, 1) := by decide +kernel
theorem dX7_ends_2 : decode cX7_ends 2 = .ok (.putfield 40, 3) := by decide +kernel
theorem dX7_ends_5 : decode cX7_ends 5 = .ok (.aload_n 0, 1) := by decide +kernel
theorem dX7_ends_6 : decode cX7_ends 6 = .ok (.iload_n 1, 1) := by decide +kernel
theorem dX7_ends_7 : decode cX7_ends 7 = .ok (.invokevirtual 143, 3) := by decide +kernel
theorem dX7_ends_10 : decode cX7_ends 10 = .ok (.ifCond .ne 9, 3) := by decide +kernel
theorem dX7_ends_13 : decode cX7_ends 13 = .ok (.aload_n 0, 1) := by decide +kernel
theorem dX7_ends_14 : decode cX7_ends 14 = .ok (.iconst 1, 1) := by decide +kernel
theorem dX7_ends_15 : decode cX7_ends 15 = .ok (.invokevirtual 62, 3) := by decide +kernel
theorem dX7_ends_18 : decode cX7_ends 18 = .ok (.ireturn, 1) := by decide +kernel
theorem dX7_ends_19 : decode cX7_ends 19 = .ok (.aload_n 0, 1) := by decide +kernel
theorem dX7_ends_20 : decode cX7_ends 20 = .ok (.getfield 37, 3) := by decide +kernel
theorem dX7_ends_23 : decode cX7_ends 23 = .ok (.aload_n 0, 1) := by decide +kernel
theorem dX7_ends_24 : decode cX7_ends 24 = .ok (.getfield 33, 3) := by decide +kernel
theorem dX7_ends_27 : decode cX7_ends 27 = .ok (.invokevirtual 175, 3) := by decide +kernel
theorem dX7_ends_30 : decode cX7_ends 30 = .ok (.aload_n 0, 1) := by decide +kernel
theorem dX7_ends_31 : decode cX7_ends 31 = .ok (.iload_n 1, 1) := by decide +kernel
theorem dX7_ends_32 : decode cX7_ends 32 = .ok (.invokevirtual 179, 3) := by decide +kernel
theorem dX7_ends_35 : decode cX7_ends 35 = .ok (.ireturn, 1) := by decide +kernel
theorem dX7_foresee_0 : decode cX7_foresee 0 = .ok (.aload_n 0, 1) := by decide +kernel
theorem dX7_foresee_1 : decode cX7_foresee 1 = .ok (.iconst 0, 1) := by decide +kernel
theorem dX7_foresee_2 : decode cX7_foresee 2 = .ok (.putfield 40, 3) := by decide +kernel
theorem dX7_foresee_5 : decode cX7_foresee 5 = .ok (.iload_n 1, 1) := by decide +kernel
theorem dX7_foresee_6 : decode cX7_foresee 6 = .ok (.iconst 1, 1) := by decide +kernel
theorem dX7_foresee_7 : decode cX7_foresee 7 = .ok (.sipush 240, 3) := by decide +kernel
theorem dX7_foresee_10 : decode cX7_foresee 10 = .ok (.invokestatic 44, 3) := by decide +kernel
theorem dX7_foresee_13 : decode cX7_foresee 13 = .ok (.ifCond .ne 9, 3) := by decide +kernel
theorem dX7_foresee_16 : decode cX7_foresee 16 = .ok (.aload_n 0, 1) := by decide +kernel
theorem dX7_foresee_17 : decode cX7_foresee 17 = .ok (.iconst 1, 1) := by decide +kernel
theorem dX7_foresee_18 : decode cX7_foresee 18 = .ok (.invokevirtual 62, 3) := by decide +kernel
theorem dX7_foresee_21 : decode cX7_foresee 21 = .ok (.ireturn, 1) := by decide +kernel
theorem dX7_foresee_22 : decode cX7_foresee 22 = .ok (.iload_n 2, 1) := by decide +kernel
theorem dX7_foresee_23 : decode cX7_foresee 23 = .ok (.iconst 2, 1) := by decide +kernel
theorem dX7_foresee_24 : decode cX7_foresee 24 = .ok (.if_icmp .eq 25, 3) := by decide +kernel
theorem dX7_foresee_27 : decode cX7_foresee 27 = .ok (.iload_n 2, 1) := by decide +kernel
theorem dX7_foresee_28 : decode cX7_foresee 28 = .ok (.bipush 8, 2) := by decide +kernel
theorem dX7_foresee_30 : decode cX7_foresee 30 = .ok (.if_icmp .eq 19, 3) := by decide +kernel
theorem dX7_foresee_33 : decode cX7_foresee 33 = .ok (.iload_n 2, 1) := by decide +kernel
theorem dX7_foresee_34 : decode cX7_foresee 34 = .ok (.iconst 4, 1) := by decide +kernel
theorem dX7_foresee_35 : decode cX7_foresee 35 = .ok (.bipush 6, 2) := by decide +kernel
theorem dX7_foresee_37 : decode cX7_foresee 37 = .ok (.invokestatic 44, 3) := by decide +kernel
theorem dX7_foresee_40 : decode cX7_foresee 40 = .ok (.ifCond .ne 9, 3) := by decide +kernel
theorem dX7_foresee_43 : decode cX7_foresee 43 = .ok (.aload_n 0, 1) := by decide +kernel
theorem dX7_foresee_44 : decode cX7_foresee 44 = .ok (.iconst 2, 1) := by decide +kernel
theorem dX7_foresee_45 : decode cX7_foresee 45 = .ok (.invokevirtual 62, 3) := by decide +kernel
theorem dX7_foresee_48 : decode cX7_foresee 48 = .ok (.ireturn, 1) := by decide +kernel
theorem dX7_foresee_49 : decode cX7_foresee 49 = .ok (.aload_n 0, 1) := by decide +kernel
theorem dX7_foresee_50 : decode cX7_foresee 50 = .ok (.getfield 37, 3) := by decide +kernel
theorem dX7_foresee_53 : decode cX7_foresee 53 = .ok (.aload_n 0, 1) := by decide +kernel
theorem dX7_foresee_54 : decode cX7_foresee 54 = .ok (.getfield 33, 3) := by decide +kernel
theorem dX7_foresee_57 : decode cX7_foresee 57 = .ok (.invokevirtual 175, 3) := by decide +kernel
theorem dX7_foresee_60 : decode cX7_foresee 60 = .ok (.iconst 0, 1) := by decide +kernel
theorem dX7_foresee_61 : decode cX7_foresee 61 = .ok (.istore_n 3, 1) := by decide +kernel
theorem dX7_foresee_62 : decode cX7_foresee 62 = .ok (.iload_n 3, 1) := by decide +kernel
theorem dX7_foresee_63 : decode cX7_foresee 63 = .ok (.iload_n 1, 1) := by decide +kernel
theorem dX7_foresee_64 : decode cX7_foresee 64 = .ok (.if_icmp .ge 18, 3) := by decide +kernel
theorem dX7_foresee_67 : decode cX7_foresee 67 = .ok (.aload_n 0, 1) := by decide +kernel
theorem dX7_foresee_68 : decode cX7_foresee 68 = .ok (.getfield 37, 3) := by decide +kernel
theorem dX7_foresee_71 : decode cX7_foresee 71 = .ok (.iconst 0, 1) := by decide +kernel
theorem dX7_foresee_72 : decode cX7_foresee 72 = .ok (.invokevirtual 171, 3) := by decide +kernel
theorem dX7_foresee_75 : decode cX7_foresee 75 = .ok (.pop, 1) := by decide +kernel
theorem dX7_foresee_76 : decode cX7_foresee 76 = .ok (.iinc 3 1, 3) := by decide +kernel
theorem dX7_foresee_79 : decode cX7_foresee 79 = .ok (.goto (-17), 3) := by decide +kernel
theorem dX7_foresee_82 : decode cX7_foresee 82 = .ok (.aload_n 0, 1) := by decide +kernel
theorem dX7_foresee_83 : decode cX7_foresee 83 = .ok (.getfield 37, 3) := by decide +kernel
theorem dX7_foresee_86 : decode cX7_foresee 86 = .ok (.iload_n 2, 1) := by decide +kernel
theorem dX7_foresee_87 : decode cX7_foresee 87 = .ok (.invokevirtual 168, 3) := by decide +kernel
theorem dX7_foresee_90 : decode cX7_foresee 90 = .ok (.ireturn, 1) := by decide +kernel
theorem dX7_choose_0 : decode cX7_choose 0 = .ok (.aload_n 0, 1) := by decide +kernel
theorem dX7_choose_1 : decode cX7_choose 1 = .ok (.iconst 0, 1) := by decide +kernel
theorem dX7_choose_2 : decode cX7_choose 2 = .ok (.putfield 40, 3) := by decide +kernel
theorem dX7_choose_5 : decode cX7_choose 5 = .ok (.iload_n 1, 1) := by decide +kernel
theorem dX7_choose_6 : decode cX7_choose 6 = .ok (.iload_n 2, 1) := by decide +kernel
theorem dX7_choose_7 : decode cX7_choose 7 = .ok (.iload_n 3, 1) := by decide +kernel
theorem dX7_choose_8 : decode cX7_choose 8 = .ok (.invokestatic 132, 3) := by decide +kernel
theorem dX7_choose_11 : decode cX7_choose 11 = .ok (.ifCond .ne 9, 3) := by decide +kernel
theorem dX7_choose_14 : decode cX7_choose 14 = .ok (.aload_n 0, 1) := by decide +kernel
theorem dX7_choose_15 : decode cX7_choose 15 = .ok (.iconst 1, 1) := by decide +kernel
theorem dX7_choose_16 : decode cX7_choose 16 = .ok (.invokevirtual 62, 3) := by decide +kernel
theorem dX7_choose_19 : decode cX7_choose 19 = .ok (.ireturn, 1) := by decide +kernel
theorem dX7_choose_20 : decode cX7_choose 20 = .ok (.iconst (-1), 1) := by decide +kernel
theorem dX7_choose_21 : decode cX7_choose 21 = .ok (.istore 4, 2) := by decide +kernel
theorem dX7_choose_23 : decode cX7_choose 23 = .ok (.sipush 601, 3) := by decide +kernel
theorem dX7_choose_26 : decode cX7_choose 26 = .ok (.istore 5, 2) := by decide +kernel
theorem dX7_choose_28 : decode cX7_choose 28 = .ok (.iconst 0, 1) := by decide +kernel
theorem dX7_choose_29 : decode cX7_choose 29 = .ok (.istore 6, 2) := by decide +kernel
theorem dX7_choose_31 : decode cX7_choose 31 = .ok (.iload 6, 2) := by decide +kernel
theorem dX7_choose_33 : decode cX7_choose 33 = .ok (.iconst 4, 1) := by decide +kernel
theorem dX7_choose_34 : decode cX7_choose 34 = .ok (.if_icmp .ge 70, 3) := by decide +kernel
theorem dX7_choose_37 : decode cX7_choose 37 = .ok (.aload_n 0, 1) := by decide +kernel
theorem dX7_choose_38 : decode cX7_choose 38 = .ok (.getfield 37, 3) := by decide +kernel
theorem dX7_choose_41 : decode cX7_choose 41 = .ok (.aload_n 0, 1) := by decide +kernel
theorem dX7_choose_42 : decode cX7_choose 42 = .ok (.getfield 33, 3) := by decide +kernel
theorem dX7_choose_45 : decode cX7_choose 45 = .ok (.invokevirtual 175, 3) := by decide +kernel
theorem dX7_choose_48 : decode cX7_choose 48 = .ok (.aload_n 0, 1) := by decide +kernel
theorem dX7_choose_49 : decode cX7_choose 49 = .ok (.aload_n 0, 1) := by decide +kernel
theorem dX7_choose_50 : decode cX7_choose 50 = .ok (.getfield 51, 3) := by decide +kernel
theorem dX7_choose_53 : decode cX7_choose 53 = .ok (.iload 6, 2) := by decide +kernel
theorem dX7_choose_55 : decode cX7_choose 55 = .ok (.iload_n 1, 1) := by decide +kernel
theorem dX7_choose_56 : decode cX7_choose 56 = .ok (.iload_n 2, 1) := by decide +kernel
theorem dX7_choose_57 : decode cX7_choose 57 = .ok (.iload_n 3, 1) := by decide +kernel
theorem dX7_choose_58 : decode cX7_choose 58 = .ok (.invokevirtual 135, 3) := by decide +kernel
theorem dX7_choose_61 : decode cX7_choose 61 = .ok (.aload_n 0, 1) := by decide +kernel
theorem dX7_choose_62 : decode cX7_choose 62 = .ok (.aload_n 0, 1) := by decide +kernel
theorem dX7_choose_63 : decode cX7_choose 63 = .ok (.getfield 37, 3) := by decide +kernel
theorem dX7_choose_66 : decode cX7_choose 66 = .ok (.invokevirtual 139, 3) := by decide +kernel
theorem dX7_choose_69 : decode cX7_choose 69 = .ok (.invokevirtual 179, 3) := by decide +kernel
theorem dX7_choose_72 : decode cX7_choose 72 = .ok (.istore 7, 2) := by decide +kernel
theorem dX7_choose_74 : decode cX7_choose 74 = .ok (.iload 7, 2) := by decide +kernel
theorem dX7_choose_76 : decode cX7_choose 76 = .ok (.iconst (-1), 1) := by decide +kernel
theorem dX7_choose_77 : decode cX7_choose 77 = .ok (.if_icmp .eq 21, 3) := by decide +kernel
theorem dX7_choose_80 : decode cX7_choose 80 = .ok (.iload 7, 2) := by decide +kernel
theorem dX7_choose_82 : decode cX7_choose 82 = .ok (.iload 5, 2) := by decide +kernel
theorem dX7_choose_84 : decode cX7_choose 84 = .ok (.if_icmp .lt 6, 3) := by decide +kernel
theorem dX7_choose_87 : decode cX7_choose 87 = .ok (.goto 11, 3) := by decide +kernel
theorem dX7_choose_90 : decode cX7_choose 90 = .ok (.iload 7, 2) := by decide +kernel
theorem dX7_choose_92 : decode cX7_choose 92 = .ok (.istore 5, 2) := by decide +kernel
theorem dX7_choose_94 : decode cX7_choose 94 = .ok (.iload 6, 2) := by decide +kernel
theorem dX7_choose_96 : decode cX7_choose 96 = .ok (.istore 4, 2) := by decide +kernel
theorem dX7_choose_98 : decode cX7_choose 98 = .ok (.iinc 6 1, 3) := by decide +kernel
theorem dX7_choose_101 : decode cX7_choose 101 = .ok (.goto (-70), 3) := by decide +kernel
theorem dX7_choose_104 : decode cX7_choose 104 = .ok (.iload 4, 2) := by decide +kernel
theorem dX7_choose_106 : decode cX7_choose 106 = .ok (.ireturn, 1) := by decide +kernel
theorem dX7_mean_0 : decode cX7_mean 0 = .ok (.aload_n 0, 1) := by decide +kernel
theorem dX7_mean_1 : decode cX7_mean 1 = .ok (.iconst 0, 1) := by decide +kernel
theorem dX7_mean_2 : decode cX7_mean 2 = .ok (.putfield 40, 3) := by decide +kernel
theorem dX7_mean_5 : decode cX7_mean 5 = .ok (.iconst 0, 1) := by decide +kernel
theorem dX7_mean_6 : decode cX7_mean 6 = .ok (.istore_n 1, 1) := by decide +kernel
theorem dX7_mean_7 : decode cX7_mean 7 = .ok (.iconst 0, 1) := by decide +kernel
theorem dX7_mean_8 : decode cX7_mean 8 = .ok (.istore_n 2, 1) := by decide +kernel
theorem dX7_mean_9 : decode cX7_mean 9 = .ok (.iload_n 2, 1) := by decide +kernel
theorem dX7_mean_10 : decode cX7_mean 10 = .ok (.aload_n 0, 1) := by decide +kernel
theorem dX7_mean_11 : decode cX7_mean 11 = .ok (.getfield 48, 3) := by decide +kernel
theorem dX7_mean_14 : decode cX7_mean 14 = .ok (.if_icmp .ge 21, 3) := by decide +kernel
theorem dX7_mean_17 : decode cX7_mean 17 = .ok (.iload_n 1, 1) := by decide +kernel
theorem dX7_mean_18 : decode cX7_mean 18 = .ok (.aload_n 0, 1) := by decide +kernel
theorem dX7_mean_19 : decode cX7_mean 19 = .ok (.getfield 33, 3) := by decide +kernel
theorem dX7_mean_22 : decode cX7_mean 22 = .ok (.getfield 120, 3) := by decide +kernel
theorem dX7_mean_25 : decode cX7_mean 25 = .ok (.iload_n 2, 1) := by decide +kernel
theorem dX7_mean_26 : decode cX7_mean 26 = .ok (.iaload, 1) := by decide +kernel
theorem dX7_mean_27 : decode cX7_mean 27 = .ok (.iadd, 1) := by decide +kernel
theorem dX7_mean_28 : decode cX7_mean 28 = .ok (.istore_n 1, 1) := by decide +kernel
theorem dX7_mean_29 : decode cX7_mean 29 = .ok (.iinc 2 1, 3) := by decide +kernel
theorem dX7_mean_32 : decode cX7_mean 32 = .ok (.goto (-23), 3) := by decide +kernel
theorem dX7_mean_35 : decode cX7_mean 35 = .ok (.aload_n 0, 1) := by decide +kernel
theorem dX7_mean_36 : decode cX7_mean 36 = .ok (.getfield 48, 3) := by decide +kernel
theorem dX7_mean_39 : decode cX7_mean 39 = .ok (.ifCond .ne 7, 3) := by decide +kernel
theorem dX7_mean_42 : decode cX7_mean 42 = .ok (.dconst 0, 1) := by decide +kernel
theorem dX7_mean_43 : decode cX7_mean 43 = .ok (.goto 11, 3) := by decide +kernel
theorem dX7_mean_46 : decode cX7_mean 46 = .ok (.iload_n 1, 1) := by decide +kernel
theorem dX7_mean_47 : decode cX7_mean 47 = .ok (.i2d, 1) := by decide +kernel
theorem dX7_mean_48 : decode cX7_mean 48 = .ok (.aload_n 0, 1) := by decide +kernel
theorem dX7_mean_49 : decode cX7_mean 49 = .ok (.getfield 48, 3) := by decide +kernel
theorem dX7_mean_52 : decode cX7_mean 52 = .ok (.i2d, 1) := by decide +kernel
theorem dX7_mean_53 : decode cX7_mean 53 = .ok (.ddiv, 1) := by decide +kernel
theorem dX7_mean_54 : decode cX7_mean 54 = .ok (.dreturn, 1) := by decide +kernel
theorem dX7_digest_0 : decode cX7_digest 0 = .ok (.aload_n 0, 1) := by decide +kernel
theorem dX7_digest_1 : decode cX7_digest 1 = .ok (.iconst 0, 1) := by decide +kernel
theorem dX7_digest_2 : decode cX7_digest 2 = .ok (.putfield 40, 3) := by decide +kernel
theorem dX7_digest_5 : decode cX7_digest 5 = .ok (.ldc2_w 182, 3) := by decide +kernel
theorem dX7_digest_8 : decode cX7_digest 8 = .ok (.lstore_n 1, 1) := by decide +kernel
theorem dX7_digest_9 : decode cX7_digest 9 = .ok (.iconst 0, 1) := by decide +kernel
theorem dX7_digest_10 : decode cX7_digest 10 = .ok (.istore_n 3, 1) := by decide +kernel
theorem dX7_digest_11 : decode cX7_digest 11 = .ok (.iload_n 3, 1) := by decide +kernel
theorem dX7_digest_12 : decode cX7_digest 12 = .ok (.bipush 8, 2) := by decide +kernel
theorem dX7_digest_14 : decode cX7_digest 14 = .ok (.if_icmp .gt 25, 3) := by decide +kernel
theorem dX7_digest_17 : decode cX7_digest 17 = .ok (.lload_n 1, 1) := by decide +kernel
theorem dX7_digest_18 : decode cX7_digest 18 = .ok (.ldc2_w 184, 3) := by decide +kernel
theorem dX7_digest_21 : decode cX7_digest 21 = .ok (.lmul, 1) := by decide +kernel
theorem dX7_digest_22 : decode cX7_digest 22 = .ok (.aload_n 0, 1) := by decide +kernel
theorem dX7_digest_23 : decode cX7_digest 23 = .ok (.getfield 33, 3) := by decide +kernel
theorem dX7_digest_26 : decode cX7_digest 26 = .ok (.iload_n 3, 1) := by decide +kernel
theorem dX7_digest_27 : decode cX7_digest 27 = .ok (.invokevirtual 168, 3) := by decide +kernel
theorem dX7_digest_30 : decode cX7_digest 30 = .ok (.i2l, 1) := by decide +kernel
theorem dX7_digest_31 : decode cX7_digest 31 = .ok (.ladd, 1) := by decide +kernel
theorem dX7_digest_32 : decode cX7_digest 32 = .ok (.lstore_n 1, 1) := by decide +kernel
theorem dX7_digest_33 : decode cX7_digest 33 = .ok (.iinc 3 1, 3) := by decide +kernel
theorem dX7_digest_36 : decode cX7_digest 36 = .ok (.goto (-25), 3) := by decide +kernel
theorem dX7_digest_39 : decode cX7_digest 39 = .ok (.iconst 0, 1) := by decide +kernel
theorem dX7_digest_40 : decode cX7_digest 40 = .ok (.istore_n 3, 1) := by decide +kernel
theorem dX7_digest_41 : decode cX7_digest 41 = .ok (.iload_n 3, 1) := by decide +kernel
theorem dX7_digest_42 : decode cX7_digest 42 = .ok (.iconst 4, 1) := by decide +kernel
theorem dX7_digest_43 : decode cX7_digest 43 = .ok (.if_icmp .ge 70, 3) := by decide +kernel
theorem dX7_digest_46 : decode cX7_digest 46 = .ok (.iconst 0, 1) := by decide +kernel
theorem dX7_digest_47 : decode cX7_digest 47 = .ok (.istore 4, 2) := by decide +kernel
theorem dX7_digest_49 : decode cX7_digest 49 = .ok (.iload 4, 2) := by decide +kernel
theorem dX7_digest_51 : decode cX7_digest 51 = .ok (.bipush 8, 2) := by decide +kernel
theorem dX7_digest_53 : decode cX7_digest 53 = .ok (.if_icmp .gt 24, 3) := by decide +kernel
theorem dX7_digest_56 : decode cX7_digest 56 = .ok (.lload_n 1, 1) := by decide +kernel
theorem dX7_digest_57 : decode cX7_digest 57 = .ok (.ldc2_w 184, 3) := by decide +kernel
theorem dX7_digest_60 : decode cX7_digest 60 = .ok (.lmul, 1) := by decide +kernel
theorem dX7_digest_61 : decode cX7_digest 61 = .ok (.aload_n 0, 1) := by decide +kernel
theorem dX7_digest_62 : decode cX7_digest 62 = .ok (.iload_n 3, 1) := by decide +kernel
theorem dX7_digest_63 : decode cX7_digest 63 = .ok (.iload 4, 2) := by decide +kernel
theorem dX7_digest_65 : decode cX7_digest 65 = .ok (.invokevirtual 111, 3) := by decide +kernel
theorem dX7_digest_68 : decode cX7_digest 68 = .ok (.i2l, 1) := by decide +kernel
theorem dX7_digest_69 : decode cX7_digest 69 = .ok (.ladd, 1) := by decide +kernel
theorem dX7_digest_70 : decode cX7_digest 70 = .ok (.lstore_n 1, 1) := by decide +kernel
theorem dX7_digest_71 : decode cX7_digest 71 = .ok (.iinc 4 1, 3) := by decide +kernel
theorem dX7_digest_74 : decode cX7_digest 74 = .ok (.goto (-25), 3) := by decide +kernel
theorem dX7_digest_77 : decode cX7_digest 77 = .ok (.iconst 0, 1) := by decide +kernel
theorem dX7_digest_78 : decode cX7_digest 78 = .ok (.istore 4, 2) := by decide +kernel
theorem dX7_digest_80 : decode cX7_digest 80 = .ok (.iload 4, 2) := by decide +kernel
theorem dX7_digest_82 : decode cX7_digest 82 = .ok (.iconst 2, 1) := by decide +kernel
theorem dX7_digest_83 : decode cX7_digest 83 = .ok (.if_icmp .ge 24, 3) := by decide +kernel
theorem dX7_digest_86 : decode cX7_digest 86 = .ok (.lload_n 1, 1) := by decide +kernel
theorem dX7_digest_87 : decode cX7_digest 87 = .ok (.ldc2_w 184, 3) := by decide +kernel
theorem dX7_digest_90 : decode cX7_digest 90 = .ok (.lmul, 1) := by decide +kernel
theorem dX7_digest_91 : decode cX7_digest 91 = .ok (.aload_n 0, 1) := by decide +kernel
theorem dX7_digest_92 : decode cX7_digest 92 = .ok (.iload_n 3, 1) := by decide +kernel
theorem dX7_digest_93 : decode cX7_digest 93 = .ok (.iload 4, 2) := by decide +kernel
theorem dX7_digest_95 : decode cX7_digest 95 = .ok (.invokevirtual 90, 3) := by decide +kernel
theorem dX7_digest_98 : decode cX7_digest 98 = .ok (.i2l, 1) := by decide +kernel
theorem dX7_digest_99 : decode cX7_digest 99 = .ok (.ladd, 1) := by decide +kernel
theorem dX7_digest_100 : decode cX7_digest 100 = .ok (.lstore_n 1, 1) := by decide +kernel
theorem dX7_digest_101 : decode cX7_digest 101 = .ok (.iinc 4 1, 3) := by decide +kernel
theorem dX7_digest_104 : decode cX7_digest 104 = .ok (.goto (-24), 3) := by decide +kernel
theorem dX7_digest_107 : decode cX7_digest 107 = .ok (.iinc 3 1, 3) := by decide +kernel
theorem dX7_digest_110 : decode cX7_digest 110 = .ok (.goto (-69), 3) := by decide +kernel
theorem dX7_digest_113 : decode cX7_digest 113 = .ok (.iconst 0, 1) := by decide +kernel
theorem dX7_digest_114 : decode cX7_digest 114 = .ok (.istore_n 3, 1) := by decide +kernel
theorem dX7_digest_115 : decode cX7_digest 115 = .ok (.iload_n 3, 1) := by decide +kernel
theorem dX7_digest_116 : decode cX7_digest 116 = .ok (.aload_n 0, 1) := by decide +kernel
theorem dX7_digest_117 : decode cX7_digest 117 = .ok (.getfield 48, 3) := by decide +kernel
theorem dX7_digest_120 : decode cX7_digest 120 = .ok (.if_icmp .ge 39, 3) := by decide +kernel
theorem dX7_digest_123 : decode cX7_digest 123 = .ok (.iconst 0, 1) := by decide +kernel
theorem dX7_digest_124 : decode cX7_digest 124 = .ok (.istore 4, 2) := by decide +kernel
theorem dX7_digest_126 : decode cX7_digest 126 = .ok (.iload 4, 2) := by decide +kernel
theorem dX7_digest_128 : decode cX7_digest 128 = .ok (.iconst 4, 1) := by decide +kernel
theorem dX7_digest_129 : decode cX7_digest 129 = .ok (.if_icmp .gt 24, 3) := by decide +kernel
theorem dX7_digest_132 : decode cX7_digest 132 = .ok (.lload_n 1, 1) := by decide +kernel
theorem dX7_digest_133 : decode cX7_digest 133 = .ok (.ldc2_w 184, 3) := by decide +kernel
theorem dX7_digest_136 : decode cX7_digest 136 = .ok (.lmul, 1) := by decide +kernel
theorem dX7_digest_137 : decode cX7_digest 137 = .ok (.aload_n 0, 1) := by decide +kernel
theorem dX7_digest_138 : decode cX7_digest 138 = .ok (.iload_n 3, 1) := by decide +kernel
theorem dX7_digest_139 : decode cX7_digest 139 = .ok (.iload 4, 2) := by decide +kernel
theorem dX7_digest_141 : decode cX7_digest 141 = .ok (.invokevirtual 129, 3) := by decide +kernel
theorem dX7_digest_144 : decode cX7_digest 144 = .ok (.i2l, 1) := by decide +kernel
theorem dX7_digest_145 : decode cX7_digest 145 = .ok (.ladd, 1) := by decide +kernel
theorem dX7_digest_146 : decode cX7_digest 146 = .ok (.lstore_n 1, 1) := by decide +kernel
theorem dX7_digest_147 : decode cX7_digest 147 = .ok (.iinc 4 1, 3) := by decide +kernel
theorem dX7_digest_150 : decode cX7_digest 150 = .ok (.goto (-24), 3) := by decide +kernel
theorem dX7_digest_153 : decode cX7_digest 153 = .ok (.iinc 3 1, 3) := by decide +kernel
theorem dX7_digest_156 : decode cX7_digest 156 = .ok (.goto (-41), 3) := by decide +kernel
theorem dX7_digest_159 : decode cX7_digest 159 = .ok (.iconst 0, 1) := by decide +kernel
theorem dX7_digest_160 : decode cX7_digest 160 = .ok (.istore_n 3, 1) := by decide +kernel
theorem dX7_digest_161 : decode cX7_digest 161 = .ok (.iload_n 3, 1) := by decide +kernel
theorem dX7_digest_162 : decode cX7_digest 162 = .ok (.aload_n 0, 1) := by decide +kernel
theorem dX7_digest_163 : decode cX7_digest 163 = .ok (.getfield 51, 3) := by decide +kernel
theorem dX7_digest_166 : decode cX7_digest 166 = .ok (.if_icmp .ge 72, 3) := by decide +kernel
theorem dX7_digest_169 : decode cX7_digest 169 = .ok (.iconst 0, 1) := by decide +kernel
theorem dX7_digest_170 : decode cX7_digest 170 = .ok (.istore 4, 2) := by decide +kernel
theorem dX7_digest_172 : decode cX7_digest 172 = .ok (.iload 4, 2) := by decide +kernel
theorem dX7_digest_174 : decode cX7_digest 174 = .ok (.bipush 8, 2) := by decide +kernel
theorem dX7_digest_176 : decode cX7_digest 176 = .ok (.if_icmp .gt 24, 3) := by decide +kernel
theorem dX7_digest_179 : decode cX7_digest 179 = .ok (.lload_n 1, 1) := by decide +kernel
theorem dX7_digest_180 : decode cX7_digest 180 = .ok (.ldc2_w 184, 3) := by decide +kernel
theorem dX7_digest_183 : decode cX7_digest 183 = .ok (.lmul, 1) := by decide +kernel
theorem dX7_digest_184 : decode cX7_digest 184 = .ok (.aload_n 0, 1) := by decide +kernel
theorem dX7_digest_185 : decode cX7_digest 185 = .ok (.iload_n 3, 1) := by decide +kernel
theorem dX7_digest_186 : decode cX7_digest 186 = .ok (.iload 4, 2) := by decide +kernel
theorem dX7_digest_188 : decode cX7_digest 188 = .ok (.invokevirtual 162, 3) := by decide +kernel
theorem dX7_digest_191 : decode cX7_digest 191 = .ok (.i2l, 1) := by decide +kernel
theorem dX7_digest_192 : decode cX7_digest 192 = .ok (.ladd, 1) := by decide +kernel
theorem dX7_digest_193 : decode cX7_digest 193 = .ok (.lstore_n 1, 1) := by decide +kernel
theorem dX7_digest_194 : decode cX7_digest 194 = .ok (.iinc 4 1, 3) := by decide +kernel
theorem dX7_digest_197 : decode cX7_digest 197 = .ok (.goto (-25), 3) := by decide +kernel
theorem dX7_digest_200 : decode cX7_digest 200 = .ok (.bipush 10, 2) := by decide +kernel
theorem dX7_digest_202 : decode cX7_digest 202 = .ok (.istore 4, 2) := by decide +kernel
theorem dX7_digest_204 : decode cX7_digest 204 = .ok (.iload 4, 2) := by decide +kernel
theorem dX7_digest_206 : decode cX7_digest 206 = .ok (.bipush 90, 2) := by decide +kernel
theorem dX7_digest_208 : decode cX7_digest 208 = .ok (.if_icmp .gt 24, 3) := by decide +kernel
theorem dX7_digest_211 : decode cX7_digest 211 = .ok (.lload_n 1, 1) := by decide +kernel
theorem dX7_digest_212 : decode cX7_digest 212 = .ok (.ldc2_w 184, 3) := by decide +kernel
theorem dX7_digest_215 : decode cX7_digest 215 = .ok (.lmul, 1) := by decide +kernel
theorem dX7_digest_216 : decode cX7_digest 216 = .ok (.aload_n 0, 1) := by decide +kernel
theorem dX7_digest_217 : decode cX7_digest 217 = .ok (.iload_n 3, 1) := by decide +kernel
theorem dX7_digest_218 : decode cX7_digest 218 = .ok (.iload 4, 2) := by decide +kernel
theorem dX7_digest_220 : decode cX7_digest 220 = .ok (.invokevirtual 165, 3) := by decide +kernel
theorem dX7_digest_223 : decode cX7_digest 223 = .ok (.i2l, 1) := by decide +kernel
theorem dX7_digest_224 : decode cX7_digest 224 = .ok (.ladd, 1) := by decide +kernel
theorem dX7_digest_225 : decode cX7_digest 225 = .ok (.lstore_n 1, 1) := by decide +kernel
theorem dX7_digest_226 : decode cX7_digest 226 = .ok (.iinc 4 10, 3) := by decide +kernel
theorem dX7_digest_229 : decode cX7_digest 229 = .ok (.goto (-25), 3) := by decide +kernel
theorem dX7_digest_232 : decode cX7_digest 232 = .ok (.iinc 3 1, 3) := by decide +kernel
theorem dX7_digest_235 : decode cX7_digest 235 = .ok (.goto (-74), 3) := by decide +kernel
theorem dX7_digest_238 : decode cX7_digest 238 = .ok (.lload_n 1, 1) := by decide +kernel
theorem dX7_digest_239 : decode cX7_digest 239 = .ok (.lreturn, 1) := by decide +kernel
theorem dL_weigh_0 : decode cL_weigh 0 = .ok (.aload_n 3, 1) := by decide +kernel
theorem dL_weigh_1 : decode cL_weigh 1 = .ok (.iconst 0, 1) := by decide +kernel
theorem dL_weigh_2 : decode cL_weigh 2 = .ok (.aload_n 0, 1) := by decide +kernel
theorem dL_weigh_3 : decode cL_weigh 3 = .ok (.iload_n 1, 1) := by decide +kernel
theorem dL_weigh_4 : decode cL_weigh 4 = .ok (.iload_n 2, 1) := by decide +kernel
theorem dL_weigh_5 : decode cL_weigh 5 = .ok (.invokevirtual 7, 3) := by decide +kernel
theorem dL_weigh_8 : decode cL_weigh 8 = .ok (.i2l, 1) := by decide +kernel
theorem dL_weigh_9 : decode cL_weigh 9 = .ok (.lastore, 1) := by decide +kernel
theorem dL_weigh_10 : decode cL_weigh 10 = .ok (.goto 11, 3) := by decide +kernel
theorem dL_weigh_13 : decode cL_weigh 13 = .ok (.astore 4, 2) := by decide +kernel
theorem dL_weigh_15 : decode cL_weigh 15 = .ok (.iconst 1, 1) := by decide +kernel
theorem dL_weigh_16 : decode cL_weigh 16 = .ok (.ireturn, 1) := by decide +kernel
theorem dL_weigh_17 : decode cL_weigh 17 = .ok (.astore 4, 2) := by decide +kernel
theorem dL_weigh_19 : decode cL_weigh 19 = .ok (.iconst 2, 1) := by decide +kernel
theorem dL_weigh_20 : decode cL_weigh 20 = .ok (.ireturn, 1) := by decide +kernel
theorem dL_weigh_21 : decode cL_weigh 21 = .ok (.iconst 0, 1) := by decide +kernel
theorem dL_weigh_22 : decode cL_weigh 22 = .ok (.ireturn, 1) := by decide +kernel
theorem dL_fit_0 : decode cL_fit 0 = .ok (.aload 4, 2) := by decide +kernel
theorem dL_fit_2 : decode cL_fit 2 = .ok (.iconst 0, 1) := by decide +kernel
theorem dL_fit_3 : decode cL_fit 3 = .ok (.aload_n 0, 1) := by decide +kernel
theorem dL_fit_4 : decode cL_fit 4 = .ok (.iload_n 1, 1) := by decide +kernel
theorem dL_fit_5 : decode cL_fit 5 = .ok (.iload_n 2, 1) := by decide +kernel
theorem dL_fit_6 : decode cL_fit 6 = .ok (.iload_n 3, 1) := by decide +kernel
theorem dL_fit_7 : decode cL_fit 7 = .ok (.invokevirtual 17, 3) := by decide +kernel
theorem dL_fit_10 : decode cL_fit 10 = .ok (.i2l, 1) := by decide +kernel
theorem dL_fit_11 : decode cL_fit 11 = .ok (.lastore, 1) := by decide +kernel
theorem dL_fit_12 : decode cL_fit 12 = .ok (.goto 15, 3) := by decide +kernel
theorem dL_fit_15 : decode cL_fit 15 = .ok (.astore 5, 2) := by decide +kernel
theorem dL_fit_17 : decode cL_fit 17 = .ok (.iconst 1, 1) := by decide +kernel
theorem dL_fit_18 : decode cL_fit 18 = .ok (.ireturn, 1) := by decide +kernel
theorem dL_fit_19 : decode cL_fit 19 = .ok (.astore 5, 2) := by decide +kernel
theorem dL_fit_21 : decode cL_fit 21 = .ok (.iconst 2, 1) := by decide +kernel
theorem dL_fit_22 : decode cL_fit 22 = .ok (.ireturn, 1) := by decide +kernel
theorem dL_fit_23 : decode cL_fit 23 = .ok (.astore 5, 2) := by decide +kernel
theorem dL_fit_25 : decode cL_fit 25 = .ok (.iconst 3, 1) := by decide +kernel
theorem dL_fit_26 : decode cL_fit 26 = .ok (.ireturn, 1) := by decide +kernel
theorem dL_fit_27 : decode cL_fit 27 = .ok (.iconst 0, 1) := by decide +kernel
theorem dL_fit_28 : decode cL_fit 28 = .ok (.ireturn, 1) := by decide +kernel
theorem dL_store_0 : decode cL_store 0 = .ok (.aload_n 2, 1) := by decide +kernel
theorem dL_store_1 : decode cL_store 1 = .ok (.iconst 0, 1) := by decide +kernel
theorem dL_store_2 : decode cL_store 2 = .ok (.aload_n 0, 1) := by decide +kernel
theorem dL_store_3 : decode cL_store 3 = .ok (.iload_n 1, 1) := by decide +kernel
theorem dL_store_4 : decode cL_store 4 = .ok (.invokevirtual 23, 3) := by decide +kernel
theorem dL_store_7 : decode cL_store 7 = .ok (.i2l, 1) := by decide +kernel
theorem dL_store_8 : decode cL_store 8 = .ok (.lastore, 1) := by decide +kernel
theorem dL_store_9 : decode cL_store 9 = .ok (.goto 6, 3) := by decide +kernel
theorem dL_store_12 : decode cL_store 12 = .ok (.astore_n 3, 1) := by decide +kernel
theorem dL_store_13 : decode cL_store 13 = .ok (.iconst 1, 1) := by decide +kernel
theorem dL_store_14 : decode cL_store 14 = .ok (.ireturn, 1) := by decide +kernel
theorem dL_store_15 : decode cL_store 15 = .ok (.iconst 0, 1) := by decide +kernel
theorem dL_store_16 : decode cL_store 16 = .ok (.ireturn, 1) := by decide +kernel
theorem dL_lasts_0 : decode cL_lasts 0 = .ok (.aload_n 3, 1) := by decide +kernel
theorem dL_lasts_1 : decode cL_lasts 1 = .ok (.iconst 0, 1) := by decide +kernel
theorem dL_lasts_2 : decode cL_lasts 2 = .ok (.aload_n 0, 1) := by decide +kernel
theorem dL_lasts_3 : decode cL_lasts 3 = .ok (.iload_n 1, 1) := by decide +kernel
theorem dL_lasts_4 : decode cL_lasts 4 = .ok (.iload_n 2, 1) := by decide +kernel
theorem dL_lasts_5 : decode cL_lasts 5 = .ok (.invokevirtual 27, 3) := by decide +kernel
theorem dL_lasts_8 : decode cL_lasts 8 = .ok (.i2l, 1) := by decide +kernel
theorem dL_lasts_9 : decode cL_lasts 9 = .ok (.lastore, 1) := by decide +kernel
theorem dL_lasts_10 : decode cL_lasts 10 = .ok (.goto 7, 3) := by decide +kernel
theorem dL_lasts_13 : decode cL_lasts 13 = .ok (.astore 4, 2) := by decide +kernel
theorem dL_lasts_15 : decode cL_lasts 15 = .ok (.iconst 1, 1) := by decide +kernel
theorem dL_lasts_16 : decode cL_lasts 16 = .ok (.ireturn, 1) := by decide +kernel
theorem dL_lasts_17 : decode cL_lasts 17 = .ok (.iconst 0, 1) := by decide +kernel
theorem dL_lasts_18 : decode cL_lasts 18 = .ok (.ireturn, 1) := by decide +kernel
theorem dL_bell_0 : decode cL_bell 0 = .ok (.aload_n 3, 1) := by decide +kernel
theorem dL_bell_1 : decode cL_bell 1 = .ok (.iconst 0, 1) := by decide +kernel
theorem dL_bell_2 : decode cL_bell 2 = .ok (.aload_n 0, 1) := by decide +kernel
theorem dL_bell_3 : decode cL_bell 3 = .ok (.iload_n 1, 1) := by decide +kernel
theorem dL_bell_4 : decode cL_bell 4 = .ok (.iload_n 2, 1) := by decide +kernel
theorem dL_bell_5 : decode cL_bell 5 = .ok (.invokevirtual 30, 3) := by decide +kernel
theorem dL_bell_8 : decode cL_bell 8 = .ok (.i2l, 1) := by decide +kernel
theorem dL_bell_9 : decode cL_bell 9 = .ok (.lastore, 1) := by decide +kernel
theorem dL_bell_10 : decode cL_bell 10 = .ok (.goto 7, 3) := by decide +kernel
theorem dL_bell_13 : decode cL_bell 13 = .ok (.astore 4, 2) := by decide +kernel
theorem dL_bell_15 : decode cL_bell 15 = .ok (.iconst 1, 1) := by decide +kernel
theorem dL_bell_16 : decode cL_bell 16 = .ok (.ireturn, 1) := by decide +kernel
theorem dL_bell_17 : decode cL_bell 17 = .ok (.iconst 0, 1) := by decide +kernel
theorem dL_bell_18 : decode cL_bell 18 = .ok (.ireturn, 1) := by decide +kernel
theorem dL_ringer_0 : decode cL_ringer 0 = .ok (.aload_n 2, 1) := by decide +kernel
theorem dL_ringer_1 : decode cL_ringer 1 = .ok (.iconst 0, 1) := by decide +kernel
theorem dL_ringer_2 : decode cL_ringer 2 = .ok (.aload_n 0, 1) := by decide +kernel
theorem dL_ringer_3 : decode cL_ringer 3 = .ok (.iload_n 1, 1) := by decide +kernel
theorem dL_ringer_4 : decode cL_ringer 4 = .ok (.invokevirtual 33, 3) := by decide +kernel
theorem dL_ringer_7 : decode cL_ringer 7 = .ok (.i2l, 1) := by decide +kernel
theorem dL_ringer_8 : decode cL_ringer 8 = .ok (.lastore, 1) := by decide +kernel
theorem dL_ringer_9 : decode cL_ringer 9 = .ok (.goto 9, 3) := by decide +kernel
theorem dL_ringer_12 : decode cL_ringer 12 = .ok (.astore_n 3, 1) := by decide +kernel
theorem dL_ringer_13 : decode cL_ringer 13 = .ok (.iconst 1, 1) := by decide +kernel
theorem dL_ringer_14 : decode cL_ringer 14 = .ok (.ireturn, 1) := by decide +kernel
theorem dL_ringer_15 : decode cL_ringer 15 = .ok (.astore_n 3, 1) := by decide +kernel
theorem dL_ringer_16 : decode cL_ringer 16 = .ok (.iconst 2, 1) := by decide +kernel
theorem dL_ringer_17 : decode cL_ringer 17 = .ok (.ireturn, 1) := by decide +kernel
theorem dL_ringer_18 : decode cL_ringer 18 = .ok (.iconst 0, 1) := by decide +kernel
theorem dL_ringer_19 : decode cL_ringer 19 = .ok (.ireturn, 1) := by decide +kernel
theorem dL_send_0 : decode cL_send 0 = .ok (.aload_n 3, 1) := by decide +kernel
theorem dL_send_1 : decode cL_send 1 = .ok (.iconst 0, 1) := by decide +kernel
theorem dL_send_2 : decode cL_send 2 = .ok (.aload_n 0, 1) := by decide +kernel
theorem dL_send_3 : decode cL_send 3 = .ok (.iload_n 1, 1) := by decide +kernel
theorem dL_send_4 : decode cL_send 4 = .ok (.iload_n 2, 1) := by decide +kernel
theorem dL_send_5 : decode cL_send 5 = .ok (.invokevirtual 36, 3) := by decide +kernel
theorem dL_send_8 : decode cL_send 8 = .ok (.i2l, 1) := by decide +kernel
theorem dL_send_9 : decode cL_send 9 = .ok (.lastore, 1) := by decide +kernel
theorem dL_send_10 : decode cL_send 10 = .ok (.goto 11, 3) := by decide +kernel
theorem dL_send_13 : decode cL_send 13 = .ok (.astore 4, 2) := by decide +kernel
theorem dL_send_15 : decode cL_send 15 = .ok (.iconst 1, 1) := by decide +kernel
theorem dL_send_16 : decode cL_send 16 = .ok (.ireturn, 1) := by decide +kernel
theorem dL_send_17 : decode cL_send 17 = .ok (.astore 4, 2) := by decide +kernel
theorem dL_send_19 : decode cL_send 19 = .ok (.iconst 2, 1) := by decide +kernel
theorem dL_send_20 : decode cL_send 20 = .ok (.ireturn, 1) := by decide +kernel
theorem dL_send_21 : decode cL_send 21 = .ok (.iconst 0, 1) := by decide +kernel
theorem dL_send_22 : decode cL_send 22 = .ok (.ireturn, 1) := by decide +kernel
theorem dL_told_0 : decode cL_told 0 = .ok (.aload_n 3, 1) := by decide +kernel
theorem dL_told_1 : decode cL_told 1 = .ok (.iconst 0, 1) := by decide +kernel
theorem dL_told_2 : decode cL_told 2 = .ok (.aload_n 0, 1) := by decide +kernel
theorem dL_told_3 : decode cL_told 3 = .ok (.iload_n 1, 1) := by decide +kernel
theorem dL_told_4 : decode cL_told 4 = .ok (.iload_n 2, 1) := by decide +kernel
theorem dL_told_5 : decode cL_told 5 = .ok (.invokevirtual 39, 3) := by decide +kernel
theorem dL_told_8 : decode cL_told 8 = .ok (.i2l, 1) := by decide +kernel
theorem dL_told_9 : decode cL_told 9 = .ok (.lastore, 1) := by decide +kernel
theorem dL_told_10 : decode cL_told 10 = .ok (.goto 7, 3) := by decide +kernel
theorem dL_told_13 : decode cL_told 13 = .ok (.astore 4, 2) := by decide +kernel
theorem dL_told_15 : decode cL_told 15 = .ok (.iconst 1, 1) := by decide +kernel
theorem dL_told_16 : decode cL_told 16 = .ok (.ireturn, 1) := by decide +kernel
theorem dL_told_17 : decode cL_told 17 = .ok (.iconst 0, 1) := by decide +kernel
theorem dL_told_18 : decode cL_told 18 = .ok (.ireturn, 1) := by decide +kernel
theorem dL_toll_0 : decode cL_toll 0 = .ok (.aload 5, 2) := by decide +kernel
theorem dL_toll_2 : decode cL_toll 2 = .ok (.iconst 0, 1) := by decide +kernel
theorem dL_toll_3 : decode cL_toll 3 = .ok (.aload_n 0, 1) := by decide +kernel
theorem dL_toll_4 : decode cL_toll 4 = .ok (.iload_n 1, 1) := by decide +kernel
theorem dL_toll_5 : decode cL_toll 5 = .ok (.iload_n 2, 1) := by decide +kernel
theorem dL_toll_6 : decode cL_toll 6 = .ok (.iload_n 3, 1) := by decide +kernel
theorem dL_toll_7 : decode cL_toll 7 = .ok (.iload 4, 2) := by decide +kernel
theorem dL_toll_9 : decode cL_toll 9 = .ok (.invokevirtual 42, 3) := by decide +kernel
theorem dL_toll_12 : decode cL_toll 12 = .ok (.i2l, 1) := by decide +kernel
theorem dL_toll_13 : decode cL_toll 13 = .ok (.lastore, 1) := by decide +kernel
theorem dL_toll_14 : decode cL_toll 14 = .ok (.goto 15, 3) := by decide +kernel
theorem dL_toll_17 : decode cL_toll 17 = .ok (.astore 6, 2) := by decide +kernel
theorem dL_toll_19 : decode cL_toll 19 = .ok (.iconst 1, 1) := by decide +kernel
theorem dL_toll_20 : decode cL_toll 20 = .ok (.ireturn, 1) := by decide +kernel
theorem dL_toll_21 : decode cL_toll 21 = .ok (.astore 6, 2) := by decide +kernel
theorem dL_toll_23 : decode cL_toll 23 = .ok (.iconst 2, 1) := by decide +kernel
theorem dL_toll_24 : decode cL_toll 24 = .ok (.ireturn, 1) := by decide +kernel
theorem dL_toll_25 : decode cL_toll 25 = .ok (.astore 6, 2) := by decide +kernel
theorem dL_toll_27 : decode cL_toll 27 = .ok (.iconst 3, 1) := by decide +kernel
theorem dL_toll_28 : decode cL_toll 28 = .ok (.ireturn, 1) := by decide +kernel
theorem dL_toll_29 : decode cL_toll 29 = .ok (.iconst 0, 1) := by decide +kernel
theorem dL_toll_30 : decode cL_toll 30 = .ok (.ireturn, 1) := by decide +kernel
theorem dL_stop_0 : decode cL_stop 0 = .ok (.aload_n 2, 1) := by decide +kernel
theorem dL_stop_1 : decode cL_stop 1 = .ok (.iconst 0, 1) := by decide +kernel
theorem dL_stop_2 : decode cL_stop 2 = .ok (.aload_n 0, 1) := by decide +kernel
theorem dL_stop_3 : decode cL_stop 3 = .ok (.iload_n 1, 1) := by decide +kernel
theorem dL_stop_4 : decode cL_stop 4 = .ok (.invokevirtual 46, 3) := by decide +kernel
theorem dL_stop_7 : decode cL_stop 7 = .ok (.i2l, 1) := by decide +kernel
theorem dL_stop_8 : decode cL_stop 8 = .ok (.lastore, 1) := by decide +kernel
theorem dL_stop_9 : decode cL_stop 9 = .ok (.goto 9, 3) := by decide +kernel
theorem dL_stop_12 : decode cL_stop 12 = .ok (.astore_n 3, 1) := by decide +kernel
theorem dL_stop_13 : decode cL_stop 13 = .ok (.iconst 1, 1) := by decide +kernel
theorem dL_stop_14 : decode cL_stop 14 = .ok (.ireturn, 1) := by decide +kernel
theorem dL_stop_15 : decode cL_stop 15 = .ok (.astore_n 3, 1) := by decide +kernel
theorem dL_stop_16 : decode cL_stop 16 = .ok (.iconst 2, 1) := by decide +kernel
theorem dL_stop_17 : decode cL_stop 17 = .ok (.ireturn, 1) := by decide +kernel
theorem dL_stop_18 : decode cL_stop 18 = .ok (.iconst 0, 1) := by decide +kernel
theorem dL_stop_19 : decode cL_stop 19 = .ok (.ireturn, 1) := by decide +kernel
theorem dL_about_0 : decode cL_about 0 = .ok (.aload_n 3, 1) := by decide +kernel
theorem dL_about_1 : decode cL_about 1 = .ok (.iconst 0, 1) := by decide +kernel
theorem dL_about_2 : decode cL_about 2 = .ok (.aload_n 0, 1) := by decide +kernel
theorem dL_about_3 : decode cL_about 3 = .ok (.iload_n 1, 1) := by decide +kernel
theorem dL_about_4 : decode cL_about 4 = .ok (.iload_n 2, 1) := by decide +kernel
theorem dL_about_5 : decode cL_about 5 = .ok (.invokevirtual 49, 3) := by decide +kernel
theorem dL_about_8 : decode cL_about 8 = .ok (.i2l, 1) := by decide +kernel
theorem dL_about_9 : decode cL_about 9 = .ok (.lastore, 1) := by decide +kernel
theorem dL_about_10 : decode cL_about 10 = .ok (.goto 7, 3) := by decide +kernel
theorem dL_about_13 : decode cL_about 13 = .ok (.astore 4, 2) := by decide +kernel
theorem dL_about_15 : decode cL_about 15 = .ok (.iconst 1, 1) := by decide +kernel
theorem dL_about_16 : decode cL_about 16 = .ok (.ireturn, 1) := by decide +kernel
theorem dL_about_17 : decode cL_about 17 = .ok (.iconst 0, 1) := by decide +kernel
theorem dL_about_18 : decode cL_about 18 = .ok (.ireturn, 1) := by decide +kernel
theorem dL_heard_0 : decode cL_heard 0 = .ok (.aload_n 3, 1) := by decide +kernel
theorem dL_heard_1 : decode cL_heard 1 = .ok (.iconst 0, 1) := by decide +kernel
theorem dL_heard_2 : decode cL_heard 2 = .ok (.aload_n 0, 1) := by decide +kernel
theorem dL_heard_3 : decode cL_heard 3 = .ok (.iload_n 1, 1) := by decide +kernel
theorem dL_heard_4 : decode cL_heard 4 = .ok (.iload_n 2, 1) := by decide +kernel
theorem dL_heard_5 : decode cL_heard 5 = .ok (.invokevirtual 52, 3) := by decide +kernel
theorem dL_heard_8 : decode cL_heard 8 = .ok (.i2l, 1) := by decide +kernel
theorem dL_heard_9 : decode cL_heard 9 = .ok (.lastore, 1) := by decide +kernel
theorem dL_heard_10 : decode cL_heard 10 = .ok (.goto 11, 3) := by decide +kernel
theorem dL_heard_13 : decode cL_heard 13 = .ok (.astore 4, 2) := by decide +kernel
theorem dL_heard_15 : decode cL_heard 15 = .ok (.iconst 1, 1) := by decide +kernel
theorem dL_heard_16 : decode cL_heard 16 = .ok (.ireturn, 1) := by decide +kernel
theorem dL_heard_17 : decode cL_heard 17 = .ok (.astore 4, 2) := by decide +kernel
theorem dL_heard_19 : decode cL_heard 19 = .ok (.iconst 2, 1) := by decide +kernel
theorem dL_heard_20 : decode cL_heard 20 = .ok (.ireturn, 1) := by decide +kernel
theorem dL_heard_21 : decode cL_heard 21 = .ok (.iconst 0, 1) := by decide +kernel
theorem dL_heard_22 : decode cL_heard 22 = .ok (.ireturn, 1) := by decide +kernel
theorem dL_count_0 : decode cL_count 0 = .ok (.aload_n 2, 1) := by decide +kernel
theorem dL_count_1 : decode cL_count 1 = .ok (.iconst 0, 1) := by decide +kernel
theorem dL_count_2 : decode cL_count 2 = .ok (.aload_n 0, 1) := by decide +kernel
theorem dL_count_3 : decode cL_count 3 = .ok (.iload_n 1, 1) := by decide +kernel
theorem dL_count_4 : decode cL_count 4 = .ok (.invokevirtual 55, 3) := by decide +kernel
theorem dL_count_7 : decode cL_count 7 = .ok (.i2l, 1) := by decide +kernel
theorem dL_count_8 : decode cL_count 8 = .ok (.lastore, 1) := by decide +kernel
theorem dL_count_9 : decode cL_count 9 = .ok (.goto 6, 3) := by decide +kernel
theorem dL_count_12 : decode cL_count 12 = .ok (.astore_n 3, 1) := by decide +kernel
theorem dL_count_13 : decode cL_count 13 = .ok (.iconst 1, 1) := by decide +kernel
theorem dL_count_14 : decode cL_count 14 = .ok (.ireturn, 1) := by decide +kernel
theorem dL_count_15 : decode cL_count 15 = .ok (.iconst 0, 1) := by decide +kernel
theorem dL_count_16 : decode cL_count 16 = .ok (.ireturn, 1) := by decide +kernel
theorem dL_pass_0 : decode cL_pass 0 = .ok (.aload_n 2, 1) := by decide +kernel
theorem dL_pass_1 : decode cL_pass 1 = .ok (.iconst 0, 1) := by decide +kernel
theorem dL_pass_2 : decode cL_pass 2 = .ok (.aload_n 0, 1) := by decide +kernel
theorem dL_pass_3 : decode cL_pass 3 = .ok (.iload_n 1, 1) := by decide +kernel
theorem dL_pass_4 : decode cL_pass 4 = .ok (.invokevirtual 58, 3) := by decide +kernel
theorem dL_pass_7 : decode cL_pass 7 = .ok (.i2l, 1) := by decide +kernel
theorem dL_pass_8 : decode cL_pass 8 = .ok (.lastore, 1) := by decide +kernel
theorem dL_pass_9 : decode cL_pass 9 = .ok (.goto 6, 3) := by decide +kernel
theorem dL_pass_12 : decode cL_pass 12 = .ok (.astore_n 3, 1) := by decide +kernel
theorem dL_pass_13 : decode cL_pass 13 = .ok (.iconst 1, 1) := by decide +kernel
theorem dL_pass_14 : decode cL_pass 14 = .ok (.ireturn, 1) := by decide +kernel
theorem dL_pass_15 : decode cL_pass 15 = .ok (.iconst 0, 1) := by decide +kernel
theorem dL_pass_16 : decode cL_pass 16 = .ok (.ireturn, 1) := by decide +kernel
theorem dL_ends_0 : decode cL_ends 0 = .ok (.aload_n 2, 1) := by decide +kernel
theorem dL_ends_1 : decode cL_ends 1 = .ok (.iconst 0, 1) := by decide +kernel
theorem dL_ends_2 : decode cL_ends 2 = .ok (.aload_n 0, 1) := by decide +kernel
theorem dL_ends_3 : decode cL_ends 3 = .ok (.iload_n 1, 1) := by decide +kernel
theorem dL_ends_4 : decode cL_ends 4 = .ok (.invokevirtual 61, 3) := by decide +kernel
theorem dL_ends_7 : decode cL_ends 7 = .ok (.i2l, 1) := by decide +kernel
theorem dL_ends_8 : decode cL_ends 8 = .ok (.lastore, 1) := by decide +kernel
theorem dL_ends_9 : decode cL_ends 9 = .ok (.goto 6, 3) := by decide +kernel
theorem dL_ends_12 : decode cL_ends 12 = .ok (.astore_n 3, 1) := by decide +kernel
theorem dL_ends_13 : decode cL_ends 13 = .ok (.iconst 1, 1) := by decide +kernel
theorem dL_ends_14 : decode cL_ends 14 = .ok (.ireturn, 1) := by decide +kernel
theorem dL_ends_15 : decode cL_ends 15 = .ok (.iconst 0, 1) := by decide +kernel
theorem dL_ends_16 : decode cL_ends 16 = .ok (.ireturn, 1) := by decide +kernel
theorem dL_foresee_0 : decode cL_foresee 0 = .ok (.aload_n 3, 1) := by decide +kernel
theorem dL_foresee_1 : decode cL_foresee 1 = .ok (.iconst 0, 1) := by decide +kernel
theorem dL_foresee_2 : decode cL_foresee 2 = .ok (.aload_n 0, 1) := by decide +kernel
theorem dL_foresee_3 : decode cL_foresee 3 = .ok (.iload_n 1, 1) := by decide +kernel
theorem dL_foresee_4 : decode cL_foresee 4 = .ok (.iload_n 2, 1) := by decide +kernel
theorem dL_foresee_5 : decode cL_foresee 5 = .ok (.invokevirtual 64, 3) := by decide +kernel
theorem dL_foresee_8 : decode cL_foresee 8 = .ok (.i2l, 1) := by decide +kernel
theorem dL_foresee_9 : decode cL_foresee 9 = .ok (.lastore, 1) := by decide +kernel
theorem dL_foresee_10 : decode cL_foresee 10 = .ok (.goto 11, 3) := by decide +kernel
theorem dL_foresee_13 : decode cL_foresee 13 = .ok (.astore 4, 2) := by decide +kernel
theorem dL_foresee_15 : decode cL_foresee 15 = .ok (.iconst 1, 1) := by decide +kernel
theorem dL_foresee_16 : decode cL_foresee 16 = .ok (.ireturn, 1) := by decide +kernel
theorem dL_foresee_17 : decode cL_foresee 17 = .ok (.astore 4, 2) := by decide +kernel
theorem dL_foresee_19 : decode cL_foresee 19 = .ok (.iconst 2, 1) := by decide +kernel
theorem dL_foresee_20 : decode cL_foresee 20 = .ok (.ireturn, 1) := by decide +kernel
theorem dL_foresee_21 : decode cL_foresee 21 = .ok (.iconst 0, 1) := by decide +kernel
theorem dL_foresee_22 : decode cL_foresee 22 = .ok (.ireturn, 1) := by decide +kernel
theorem dL_choose_0 : decode cL_choose 0 = .ok (.aload 4, 2) := by decide +kernel
theorem dL_choose_2 : decode cL_choose 2 = .ok (.iconst 0, 1) := by decide +kernel
theorem dL_choose_3 : decode cL_choose 3 = .ok (.aload_n 0, 1) := by decide +kernel
theorem dL_choose_4 : decode cL_choose 4 = .ok (.iload_n 1, 1) := by decide +kernel
theorem dL_choose_5 : decode cL_choose 5 = .ok (.iload_n 2, 1) := by decide +kernel
theorem dL_choose_6 : decode cL_choose 6 = .ok (.iload_n 3, 1) := by decide +kernel
theorem dL_choose_7 : decode cL_choose 7 = .ok (.invokevirtual 67, 3) := by decide +kernel
theorem dL_choose_10 : decode cL_choose 10 = .ok (.i2l, 1) := by decide +kernel
theorem dL_choose_11 : decode cL_choose 11 = .ok (.lastore, 1) := by decide +kernel
theorem dL_choose_12 : decode cL_choose 12 = .ok (.goto 7, 3) := by decide +kernel
theorem dL_choose_15 : decode cL_choose 15 = .ok (.astore 5, 2) := by decide +kernel
theorem dL_choose_17 : decode cL_choose 17 = .ok (.iconst 1, 1) := by decide +kernel
theorem dL_choose_18 : decode cL_choose 18 = .ok (.ireturn, 1) := by decide +kernel
theorem dL_choose_19 : decode cL_choose 19 = .ok (.iconst 0, 1) := by decide +kernel
theorem dL_choose_20 : decode cL_choose 20 = .ok (.ireturn, 1) := by decide +kernel
theorem dL_law_0 : decode cL_law 0 = .ok (.new 8, 3) := by decide +kernel
theorem dL_law_3 : decode cL_law 3 = .ok (.dup, 1) := by decide +kernel
theorem dL_law_4 : decode cL_law 4 = .ok (.invokespecial 70, 3) := by decide +kernel
theorem dL_law_7 : decode cL_law 7 = .ok (.astore_n 1, 1) := by decide +kernel
theorem dL_law_8 : decode cL_law 8 = .ok (.new 71, 3) := by decide +kernel
theorem dL_law_11 : decode cL_law 11 = .ok (.dup, 1) := by decide +kernel
theorem dL_law_12 : decode cL_law 12 = .ok (.invokespecial 73, 3) := by decide +kernel
theorem dL_law_15 : decode cL_law 15 = .ok (.astore_n 2, 1) := by decide +kernel
theorem dL_law_16 : decode cL_law 16 = .ok (.iconst 1, 1) := by decide +kernel
theorem dL_law_17 : decode cL_law 17 = .ok (.newarray .long, 2) := by decide +kernel
theorem dL_law_19 : decode cL_law 19 = .ok (.astore_n 3, 1) := by decide +kernel
theorem dL_law_20 : decode cL_law 20 = .ok (.iconst 0, 1) := by decide +kernel
theorem dL_law_21 : decode cL_law 21 = .ok (.istore 4, 2) := by decide +kernel
theorem dL_law_23 : decode cL_law 23 = .ok (.iload 4, 2) := by decide +kernel
theorem dL_law_25 : decode cL_law 25 = .ok (.aload_n 0, 1) := by decide +kernel
theorem dL_law_26 : decode cL_law 26 = .ok (.arraylength, 1) := by decide +kernel
theorem dL_law_27 : decode cL_law 27 = .ok (.iconst 5, 1) := by decide +kernel
theorem dL_law_28 : decode cL_law 28 = .ok (.isub, 1) := by decide +kernel
theorem dL_law_29 : decode cL_law 29 = .ok (.if_icmp .gt 1292, 3) := by decide +kernel
theorem dL_law_32 : decode cL_law 32 = .ok (.aload_n 0, 1) := by decide +kernel
theorem dL_law_33 : decode cL_law 33 = .ok (.iload 4, 2) := by decide +kernel
theorem dL_law_35 : decode cL_law 35 = .ok (.iaload, 1) := by decide +kernel
theorem dL_law_36 : decode cL_law 36 = .ok (.bipush 31, 2) := by decide +kernel
theorem dL_law_38 : decode cL_law 38 = .ok (.iand, 1) := by decide +kernel
theorem dL_law_39 : decode cL_law 39 = .ok (.tableswitch 1276 0 18 #[89, 157, 237, 293, 361, 429, 485, 553, 621, 713, 769, 837, 905, 961, 1017, 1073, 1141, 1221, 1262], 89) := by decide +kernel
theorem dL_law_128 : decode cL_law 128 = .ok (.aload_n 1, 1) := by decide +kernel
theorem dL_law_129 : decode cL_law 129 = .ok (.aload_n 0, 1) := by decide +kernel
theorem dL_law_130 : decode cL_law 130 = .ok (.iload 4, 2) := by decide +kernel
theorem dL_law_132 : decode cL_law 132 = .ok (.iconst 1, 1) := by decide +kernel
theorem dL_law_133 : decode cL_law 133 = .ok (.iadd, 1) := by decide +kernel
theorem dL_law_134 : decode cL_law 134 = .ok (.iaload, 1) := by decide +kernel
theorem dL_law_135 : decode cL_law 135 = .ok (.aload_n 0, 1) := by decide +kernel
theorem dL_law_136 : decode cL_law 136 = .ok (.iload 4, 2) := by decide +kernel
theorem dL_law_138 : decode cL_law 138 = .ok (.iconst 2, 1) := by decide +kernel
theorem dL_law_139 : decode cL_law 139 = .ok (.iadd, 1) := by decide +kernel
theorem dL_law_140 : decode cL_law 140 = .ok (.iaload, 1) := by decide +kernel
theorem dL_law_141 : decode cL_law 141 = .ok (.aload_n 3, 1) := by decide +kernel
theorem dL_law_142 : decode cL_law 142 = .ok (.invokestatic 74, 3) := by decide +kernel
theorem dL_law_145 : decode cL_law 145 = .ok (.istore 5, 2) := by decide +kernel
theorem dL_law_147 : decode cL_law 147 = .ok (.aload_n 2, 1) := by decide +kernel
theorem dL_law_148 : decode cL_law 148 = .ok (.aload_n 0, 1) := by decide +kernel
theorem dL_law_149 : decode cL_law 149 = .ok (.iload 4, 2) := by decide +kernel
theorem dL_law_151 : decode cL_law 151 = .ok (.iconst 1, 1) := by decide +kernel
theorem dL_law_152 : decode cL_law 152 = .ok (.iadd, 1) := by decide +kernel
theorem dL_law_153 : decode cL_law 153 = .ok (.iaload, 1) := by decide +kernel
theorem dL_law_154 : decode cL_law 154 = .ok (.aload_n 0, 1) := by decide +kernel
theorem dL_law_155 : decode cL_law 155 = .ok (.iload 4, 2) := by decide +kernel
theorem dL_law_157 : decode cL_law 157 = .ok (.iconst 2, 1) := by decide +kernel
theorem dL_law_158 : decode cL_law 158 = .ok (.iadd, 1) := by decide +kernel
theorem dL_law_159 : decode cL_law 159 = .ok (.iaload, 1) := by decide +kernel
theorem dL_law_160 : decode cL_law 160 = .ok (.invokevirtual 79, 3) := by decide +kernel
theorem dL_law_163 : decode cL_law 163 = .ok (.istore 6, 2) := by decide +kernel
theorem dL_law_165 : decode cL_law 165 = .ok (.aload_n 2, 1) := by decide +kernel
theorem dL_law_166 : decode cL_law 166 = .ok (.invokevirtual 80, 3) := by decide +kernel
theorem dL_law_169 : decode cL_law 169 = .ok (.iload 5, 2) := by decide +kernel
theorem dL_law_171 : decode cL_law 171 = .ok (.if_icmp .eq 5, 3) := by decide +kernel
theorem dL_law_174 : decode cL_law 174 = .ok (.iconst 0, 1) := by decide +kernel
theorem dL_law_175 : decode cL_law 175 = .ok (.ireturn, 1) := by decide +kernel
theorem dL_law_176 : decode cL_law 176 = .ok (.iload 5, 2) := by decide +kernel
theorem dL_law_178 : decode cL_law 178 = .ok (.ifCond .ne 15, 3) := by decide +kernel
theorem dL_law_181 : decode cL_law 181 = .ok (.aload_n 3, 1) := by decide +kernel
theorem dL_law_182 : decode cL_law 182 = .ok (.iconst 0, 1) := by decide +kernel
theorem dL_law_183 : decode cL_law 183 = .ok (.laload, 1) := by decide +kernel
theorem dL_law_184 : decode cL_law 184 = .ok (.iload 6, 2) := by decide +kernel
theorem dL_law_186 : decode cL_law 186 = .ok (.i2l, 1) := by decide +kernel
theorem dL_law_187 : decode cL_law 187 = .ok (.lcmp, 1) := by decide +kernel
theorem dL_law_188 : decode cL_law 188 = .ok (.ifCond .eq 5, 3) := by decide +kernel
theorem dL_law_191 : decode cL_law 191 = .ok (.iconst 0, 1) := by decide +kernel
theorem dL_law_192 : decode cL_law 192 = .ok (.ireturn, 1) := by decide +kernel
theorem dL_law_193 : decode cL_law 193 = .ok (.goto 1122, 3) := by decide +kernel
theorem dL_law_196 : decode cL_law 196 = .ok (.aload_n 1, 1) := by decide +kernel
theorem dL_law_197 : decode cL_law 197 = .ok (.aload_n 0, 1) := by decide +kernel
theorem dL_law_198 : decode cL_law 198 = .ok (.iload 4, 2) := by decide +kernel
theorem dL_law_200 : decode cL_law 200 = .ok (.iconst 1, 1) := by decide +kernel
theorem dL_law_201 : decode cL_law 201 = .ok (.iadd, 1) := by decide +kernel
theorem dL_law_202 : decode cL_law 202 = .ok (.iaload, 1) := by decide +kernel
theorem dL_law_203 : decode cL_law 203 = .ok (.aload_n 0, 1) := by decide +kernel
theorem dL_law_204 : decode cL_law 204 = .ok (.iload 4, 2) := by decide +kernel
theorem dL_law_206 : decode cL_law 206 = .ok (.iconst 2, 1) := by decide +kernel
theorem dL_law_207 : decode cL_law 207 = .ok (.iadd, 1) := by decide +kernel
theorem dL_law_208 : decode cL_law 208 = .ok (.iaload, 1) := by decide +kernel
theorem dL_law_209 : decode cL_law 209 = .ok (.aload_n 0, 1) := by decide +kernel
theorem dL_law_210 : decode cL_law 210 = .ok (.iload 4, 2) := by decide +kernel
theorem dL_law_212 : decode cL_law 212 = .ok (.iconst 3, 1) := by decide +kernel
theorem dL_law_213 : decode cL_law 213 = .ok (.iadd, 1) := by decide +kernel
theorem dL_law_214 : decode cL_law 214 = .ok (.iaload, 1) := by decide +kernel
theorem dL_law_215 : decode cL_law 215 = .ok (.aload_n 3, 1) := by decide +kernel
theorem dL_law_216 : decode cL_law 216 = .ok (.invokestatic 84, 3) := by decide +kernel
theorem dL_law_219 : decode cL_law 219 = .ok (.istore 5, 2) := by decide +kernel
theorem dL_law_221 : decode cL_law 221 = .ok (.aload_n 2, 1) := by decide +kernel
theorem dL_law_222 : decode cL_law 222 = .ok (.aload_n 0, 1) := by decide +kernel
theorem dL_law_223 : decode cL_law 223 = .ok (.iload 4, 2) := by decide +kernel
theorem dL_law_225 : decode cL_law 225 = .ok (.iconst 1, 1) := by decide +kernel
theorem dL_law_226 : decode cL_law 226 = .ok (.iadd, 1) := by decide +kernel
theorem dL_law_227 : decode cL_law 227 = .ok (.iaload, 1) := by decide +kernel
theorem dL_law_228 : decode cL_law 228 = .ok (.aload_n 0, 1) := by decide +kernel
theorem dL_law_229 : decode cL_law 229 = .ok (.iload 4, 2) := by decide +kernel
theorem dL_law_231 : decode cL_law 231 = .ok (.iconst 2, 1) := by decide +kernel
theorem dL_law_232 : decode cL_law 232 = .ok (.iadd, 1) := by decide +kernel
theorem dL_law_233 : decode cL_law 233 = .ok (.iaload, 1) := by decide +kernel
theorem dL_law_234 : decode cL_law 234 = .ok (.aload_n 0, 1) := by decide +kernel
theorem dL_law_235 : decode cL_law 235 = .ok (.iload 4, 2) := by decide +kernel
theorem dL_law_237 : decode cL_law 237 = .ok (.iconst 3, 1) := by decide +kernel
theorem dL_law_238 : decode cL_law 238 = .ok (.iadd, 1) := by decide +kernel
theorem dL_law_239 : decode cL_law 239 = .ok (.iaload, 1) := by decide +kernel
theorem dL_law_240 : decode cL_law 240 = .ok (.invokevirtual 87, 3) := by decide +kernel
theorem dL_law_243 : decode cL_law 243 = .ok (.istore 6, 2) := by decide +kernel
theorem dL_law_245 : decode cL_law 245 = .ok (.aload_n 2, 1) := by decide +kernel
theorem dL_law_246 : decode cL_law 246 = .ok (.invokevirtual 80, 3) := by decide +kernel
theorem dL_law_249 : decode cL_law 249 = .ok (.iload 5, 2) := by decide +kernel
theorem dL_law_251 : decode cL_law 251 = .ok (.if_icmp .eq 5, 3) := by decide +kernel
theorem dL_law_254 : decode cL_law 254 = .ok (.iconst 0, 1) := by decide +kernel
theorem dL_law_255 : decode cL_law 255 = .ok (.ireturn, 1) := by decide +kernel
theorem dL_law_256 : decode cL_law 256 = .ok (.iload 5, 2) := by decide +kernel
theorem dL_law_258 : decode cL_law 258 = .ok (.ifCond .ne 15, 3) := by decide +kernel
theorem dL_law_261 : decode cL_law 261 = .ok (.aload_n 3, 1) := by decide +kernel
theorem dL_law_262 : decode cL_law 262 = .ok (.iconst 0, 1) := by decide +kernel
theorem dL_law_263 : decode cL_law 263 = .ok (.laload, 1) := by decide +kernel
theorem dL_law_264 : decode cL_law 264 = .ok (.iload 6, 2) := by decide +kernel
theorem dL_law_266 : decode cL_law 266 = .ok (.i2l, 1) := by decide +kernel
theorem dL_law_267 : decode cL_law 267 = .ok (.lcmp, 1) := by decide +kernel
theorem dL_law_268 : decode cL_law 268 = .ok (.ifCond .eq 5, 3) := by decide +kernel
theorem dL_law_271 : decode cL_law 271 = .ok (.iconst 0, 1) := by decide +kernel
theorem dL_law_272 : decode cL_law 272 = .ok (.ireturn, 1) := by decide +kernel
theorem dL_law_273 : decode cL_law 273 = .ok (.goto 1042, 3) := by decide +kernel
theorem dL_law_276 : decode cL_law 276 = .ok (.aload_n 1, 1) := by decide +kernel
theorem dL_law_277 : decode cL_law 277 = .ok (.aload_n 0, 1) := by decide +kernel
theorem dL_law_278 : decode cL_law 278 = .ok (.iload 4, 2) := by decide +kernel
theorem dL_law_280 : decode cL_law 280 = .ok (.iconst 1, 1) := by decide +kernel
theorem dL_law_281 : decode cL_law 281 = .ok (.iadd, 1) := by decide +kernel
theorem dL_law_282 : decode cL_law 282 = .ok (.iaload, 1) := by decide +kernel
theorem dL_law_283 : decode cL_law 283 = .ok (.aload_n 3, 1) := by decide +kernel
theorem dL_law_284 : decode cL_law 284 = .ok (.invokestatic 88, 3) := by decide +kernel
theorem dL_law_287 : decode cL_law 287 = .ok (.istore 5, 2) := by decide +kernel
theorem dL_law_289 : decode cL_law 289 = .ok (.aload_n 2, 1) := by decide +kernel
theorem dL_law_290 : decode cL_law 290 = .ok (.aload_n 0, 1) := by decide +kernel
theorem dL_law_291 : decode cL_law 291 = .ok (.iload 4, 2) := by decide +kernel
theorem dL_law_293 : decode cL_law 293 = .ok (.iconst 1, 1) := by decide +kernel
theorem dL_law_294 : decode cL_law 294 = .ok (.iadd, 1) := by decide +kernel
theorem dL_law_295 : decode cL_law 295 = .ok (.iaload, 1) := by decide +kernel
theorem dL_law_296 : decode cL_law 296 = .ok (.invokevirtual 91, 3) := by decide +kernel
theorem dL_law_299 : decode cL_law 299 = .ok (.istore 6, 2) := by decide +kernel
theorem dL_law_301 : decode cL_law 301 = .ok (.aload_n 2, 1) := by decide +kernel
theorem dL_law_302 : decode cL_law 302 = .ok (.invokevirtual 80, 3) := by decide +kernel
theorem dL_law_305 : decode cL_law 305 = .ok (.iload 5, 2) := by decide +kernel
theorem dL_law_307 : decode cL_law 307 = .ok (.if_icmp .eq 5, 3) := by decide +kernel
theorem dL_law_310 : decode cL_law 310 = .ok (.iconst 0, 1) := by decide +kernel
theorem dL_law_311 : decode cL_law 311 = .ok (.ireturn, 1) := by decide +kernel
theorem dL_law_312 : decode cL_law 312 = .ok (.iload 5, 2) := by decide +kernel
theorem dL_law_314 : decode cL_law 314 = .ok (.ifCond .ne 15, 3) := by decide +kernel
theorem dL_law_317 : decode cL_law 317 = .ok (.aload_n 3, 1) := by decide +kernel
theorem dL_law_318 : decode cL_law 318 = .ok (.iconst 0, 1) := by decide +kernel
theorem dL_law_319 : decode cL_law 319 = .ok (.laload, 1) := by decide +kernel
theorem dL_law_320 : decode cL_law 320 = .ok (.iload 6, 2) := by decide +kernel
theorem dL_law_322 : decode cL_law 322 = .ok (.i2l, 1) := by decide +kernel
theorem dL_law_323 : decode cL_law 323 = .ok (.lcmp, 1) := by decide +kernel
theorem dL_law_324 : decode cL_law 324 = .ok (.ifCond .eq 5, 3) := by decide +kernel
theorem dL_law_327 : decode cL_law 327 = .ok (.iconst 0, 1) := by decide +kernel
theorem dL_law_328 : decode cL_law 328 = .ok (.ireturn, 1) := by decide +kernel
theorem dL_law_329 : decode cL_law 329 = .ok (.goto 986, 3) := by decide +kernel
theorem dL_law_332 : decode cL_law 332 = .ok (.aload_n 1, 1) := by decide +kernel
theorem dL_law_333 : decode cL_law 333 = .ok (.aload_n 0, 1) := by decide +kernel
theorem dL_law_334 : decode cL_law 334 = .ok (.iload 4, 2) := by decide +kernel
theorem dL_law_336 : decode cL_law 336 = .ok (.iconst 1, 1) := by decide +kernel
theorem dL_law_337 : decode cL_law 337 = .ok (.iadd, 1) := by decide +kernel
theorem dL_law_338 : decode cL_law 338 = .ok (.iaload, 1) := by decide +kernel
theorem dL_law_339 : decode cL_law 339 = .ok (.aload_n 0, 1) := by decide +kernel
theorem dL_law_340 : decode cL_law 340 = .ok (.iload 4, 2) := by decide +kernel
theorem dL_law_342 : decode cL_law 342 = .ok (.iconst 2, 1) := by decide +kernel
theorem dL_law_343 : decode cL_law 343 = .ok (.iadd, 1) := by decide +kernel
theorem dL_law_344 : decode cL_law 344 = .ok (.iaload, 1) := by decide +kernel
theorem dL_law_345 : decode cL_law 345 = .ok (.aload_n 3, 1) := by decide +kernel
theorem dL_law_346 : decode cL_law 346 = .ok (.invokestatic 92, 3) := by decide +kernel
theorem dL_law_349 : decode cL_law 349 = .ok (.istore 5, 2) := by decide +kernel
theorem dL_law_351 : decode cL_law 351 = .ok (.aload_n 2, 1) := by decide +kernel
theorem dL_law_352 : decode cL_law 352 = .ok (.aload_n 0, 1) := by decide +kernel
theorem dL_law_353 : decode cL_law 353 = .ok (.iload 4, 2) := by decide +kernel
theorem dL_law_355 : decode cL_law 355 = .ok (.iconst 1, 1) := by decide +kernel
theorem dL_law_356 : decode cL_law 356 = .ok (.iadd, 1) := by decide +kernel
theorem dL_law_357 : decode cL_law 357 = .ok (.iaload, 1) := by decide +kernel
theorem dL_law_358 : decode cL_law 358 = .ok (.aload_n 0, 1) := by decide +kernel
theorem dL_law_359 : decode cL_law 359 = .ok (.iload 4, 2) := by decide +kernel
theorem dL_law_361 : decode cL_law 361 = .ok (.iconst 2, 1) := by decide +kernel
theorem dL_law_362 : decode cL_law 362 = .ok (.iadd, 1) := by decide +kernel
theorem dL_law_363 : decode cL_law 363 = .ok (.iaload, 1) := by decide +kernel
theorem dL_law_364 : decode cL_law 364 = .ok (.invokevirtual 94, 3) := by decide +kernel
theorem dL_law_367 : decode cL_law 367 = .ok (.istore 6, 2) := by decide +kernel
theorem dL_law_369 : decode cL_law 369 = .ok (.aload_n 2, 1) := by decide +kernel
theorem dL_law_370 : decode cL_law 370 = .ok (.invokevirtual 80, 3) := by decide +kernel
theorem dL_law_373 : decode cL_law 373 = .ok (.iload 5, 2) := by decide +kernel
theorem dL_law_375 : decode cL_law 375 = .ok (.if_icmp .eq 5, 3) := by decide +kernel
theorem dL_law_378 : decode cL_law 378 = .ok (.iconst 0, 1) := by decide +kernel
theorem dL_law_379 : decode cL_law 379 = .ok (.ireturn, 1) := by decide +kernel
theorem dL_law_380 : decode cL_law 380 = .ok (.iload 5, 2) := by decide +kernel
theorem dL_law_382 : decode cL_law 382 = .ok (.ifCond .ne 15, 3) := by decide +kernel
theorem dL_law_385 : decode cL_law 385 = .ok (.aload_n 3, 1) := by decide +kernel
theorem dL_law_386 : decode cL_law 386 = .ok (.iconst 0, 1) := by decide +kernel
theorem dL_law_387 : decode cL_law 387 = .ok (.laload, 1) := by decide +kernel
theorem dL_law_388 : decode cL_law 388 = .ok (.iload 6, 2) := by decide +kernel
theorem dL_law_390 : decode cL_law 390 = .ok (.i2l, 1) := by decide +kernel
theorem dL_law_391 : decode cL_law 391 = .ok (.lcmp, 1) := by decide +kernel
theorem dL_law_392 : decode cL_law 392 = .ok (.ifCond .eq 5, 3) := by decide +kernel
theorem dL_law_395 : decode cL_law 395 = .ok (.iconst 0, 1) := by decide +kernel
theorem dL_law_396 : decode cL_law 396 = .ok (.ireturn, 1) := by decide +kernel
theorem dL_law_397 : decode cL_law 397 = .ok (.goto 918, 3) := by decide +kernel
theorem dL_law_400 : decode cL_law 400 = .ok (.aload_n 1, 1) := by decide +kernel
theorem dL_law_401 : decode cL_law 401 = .ok (.aload_n 0, 1) := by decide +kernel
theorem dL_law_402 : decode cL_law 402 = .ok (.iload 4, 2) := by decide +kernel
theorem dL_law_404 : decode cL_law 404 = .ok (.iconst 1, 1) := by decide +kernel
theorem dL_law_405 : decode cL_law 405 = .ok (.iadd, 1) := by decide +kernel
theorem dL_law_406 : decode cL_law 406 = .ok (.iaload, 1) := by decide +kernel
theorem dL_law_407 : decode cL_law 407 = .ok (.aload_n 0, 1) := by decide +kernel
theorem dL_law_408 : decode cL_law 408 = .ok (.iload 4, 2) := by decide +kernel
theorem dL_law_410 : decode cL_law 410 = .ok (.iconst 2, 1) := by decide +kernel
theorem dL_law_411 : decode cL_law 411 = .ok (.iadd, 1) := by decide +kernel
theorem dL_law_412 : decode cL_law 412 = .ok (.iaload, 1) := by decide +kernel
theorem dL_law_413 : decode cL_law 413 = .ok (.aload_n 3, 1) := by decide +kernel
theorem dL_law_414 : decode cL_law 414 = .ok (.invokestatic 95, 3) := by decide +kernel
theorem dL_law_417 : decode cL_law 417 = .ok (.istore 5, 2) := by decide +kernel
theorem dL_law_419 : decode cL_law 419 = .ok (.aload_n 2, 1) := by decide +kernel
theorem dL_law_420 : decode cL_law 420 = .ok (.aload_n 0, 1) := by decide +kernel
theorem dL_law_421 : decode cL_law 421 = .ok (.iload 4, 2) := by decide +kernel
theorem dL_law_423 : decode cL_law 423 = .ok (.iconst 1, 1) := by decide +kernel
theorem dL_law_424 : decode cL_law 424 = .ok (.iadd, 1) := by decide +kernel
theorem dL_law_425 : decode cL_law 425 = .ok (.iaload, 1) := by decide +kernel
theorem dL_law_426 : decode cL_law 426 = .ok (.aload_n 0, 1) := by decide +kernel
theorem dL_law_427 : decode cL_law 427 = .ok (.iload 4, 2) := by decide +kernel
theorem dL_law_429 : decode cL_law 429 = .ok (.iconst 2, 1) := by decide +kernel
theorem dL_law_430 : decode cL_law 430 = .ok (.iadd, 1) := by decide +kernel
theorem dL_law_431 : decode cL_law 431 = .ok (.iaload, 1) := by decide +kernel
theorem dL_law_432 : decode cL_law 432 = .ok (.invokevirtual 97, 3) := by decide +kernel
theorem dL_law_435 : decode cL_law 435 = .ok (.istore 6, 2) := by decide +kernel
theorem dL_law_437 : decode cL_law 437 = .ok (.aload_n 2, 1) := by decide +kernel
theorem dL_law_438 : decode cL_law 438 = .ok (.invokevirtual 80, 3) := by decide +kernel
theorem dL_law_441 : decode cL_law 441 = .ok (.iload 5, 2) := by decide +kernel
theorem dL_law_443 : decode cL_law 443 = .ok (.if_icmp .eq 5, 3) := by decide +kernel
theorem dL_law_446 : decode cL_law 446 = .ok (.iconst 0, 1) := by decide +kernel
theorem dL_law_447 : decode cL_law 447 = .ok (.ireturn, 1) := by decide +kernel
theorem dL_law_448 : decode cL_law 448 = .ok (.iload 5, 2) := by decide +kernel
theorem dL_law_450 : decode cL_law 450 = .ok (.ifCond .ne 15, 3) := by decide +kernel
theorem dL_law_453 : decode cL_law 453 = .ok (.aload_n 3, 1) := by decide +kernel
theorem dL_law_454 : decode cL_law 454 = .ok (.iconst 0, 1) := by decide +kernel
theorem dL_law_455 : decode cL_law 455 = .ok (.laload, 1) := by decide +kernel
theorem dL_law_456 : decode cL_law 456 = .ok (.iload 6, 2) := by decide +kernel
theorem dL_law_458 : decode cL_law 458 = .ok (.i2l, 1) := by decide +kernel
theorem dL_law_459 : decode cL_law 459 = .ok (.lcmp, 1) := by decide +kernel
theorem dL_law_460 : decode cL_law 460 = .ok (.ifCond .eq 5, 3) := by decide +kernel
theorem dL_law_463 : decode cL_law 463 = .ok (.iconst 0, 1) := by decide +kernel
theorem dL_law_464 : decode cL_law 464 = .ok (.ireturn, 1) := by decide +kernel
theorem dL_law_465 : decode cL_law 465 = .ok (.goto 850, 3) := by decide +kernel
theorem dL_law_468 : decode cL_law 468 = .ok (.aload_n 1, 1) := by decide +kernel
theorem dL_law_469 : decode cL_law 469 = .ok (.aload_n 0, 1) := by decide +kernel
theorem dL_law_470 : decode cL_law 470 = .ok (.iload 4, 2) := by decide +kernel
theorem dL_law_472 : decode cL_law 472 = .ok (.iconst 1, 1) := by decide +kernel
theorem dL_law_473 : decode cL_law 473 = .ok (.iadd, 1) := by decide +kernel
theorem dL_law_474 : decode cL_law 474 = .ok (.iaload, 1) := by decide +kernel
theorem dL_law_475 : decode cL_law 475 = .ok (.aload_n 3, 1) := by decide +kernel
theorem dL_law_476 : decode cL_law 476 = .ok (.invokestatic 98, 3) := by decide +kernel
theorem dL_law_479 : decode cL_law 479 = .ok (.istore 5, 2) := by decide +kernel
theorem dL_law_481 : decode cL_law 481 = .ok (.aload_n 2, 1) := by decide +kernel
theorem dL_law_482 : decode cL_law 482 = .ok (.aload_n 0, 1) := by decide +kernel
theorem dL_law_483 : decode cL_law 483 = .ok (.iload 4, 2) := by decide +kernel
theorem dL_law_485 : decode cL_law 485 = .ok (.iconst 1, 1) := by decide +kernel
theorem dL_law_486 : decode cL_law 486 = .ok (.iadd, 1) := by decide +kernel
theorem dL_law_487 : decode cL_law 487 = .ok (.iaload, 1) := by decide +kernel
theorem dL_law_488 : decode cL_law 488 = .ok (.invokevirtual 100, 3) := by decide +kernel
theorem dL_law_491 : decode cL_law 491 = .ok (.istore 6, 2) := by decide +kernel
theorem dL_law_493 : decode cL_law 493 = .ok (.aload_n 2, 1) := by decide +kernel
theorem dL_law_494 : decode cL_law 494 = .ok (.invokevirtual 80, 3) := by decide +kernel
theorem dL_law_497 : decode cL_law 497 = .ok (.iload 5, 2) := by decide +kernel
theorem dL_law_499 : decode cL_law 499 = .ok (.if_icmp .eq 5, 3) := by decide +kernel
theorem dL_law_502 : decode cL_law 502 = .ok (.iconst 0, 1) := by decide +kernel
theorem dL_law_503 : decode cL_law 503 = .ok (.ireturn, 1) := by decide +kernel
theorem dL_law_504 : decode cL_law 504 = .ok (.iload 5, 2) := by decide +kernel
theorem dL_law_506 : decode cL_law 506 = .ok (.ifCond .ne 15, 3) := by decide +kernel
theorem dL_law_509 : decode cL_law 509 = .ok (.aload_n 3, 1) := by decide +kernel
theorem dL_law_510 : decode cL_law 510 = .ok (.iconst 0, 1) := by decide +kernel
theorem dL_law_511 : decode cL_law 511 = .ok (.laload, 1) := by decide +kernel
theorem dL_law_512 : decode cL_law 512 = .ok (.iload 6, 2) := by decide +kernel
theorem dL_law_514 : decode cL_law 514 = .ok (.i2l, 1) := by decide +kernel
theorem dL_law_515 : decode cL_law 515 = .ok (.lcmp, 1) := by decide +kernel
theorem dL_law_516 : decode cL_law 516 = .ok (.ifCond .eq 5, 3) := by decide +kernel
theorem dL_law_519 : decode cL_law 519 = .ok (.iconst 0, 1) := by decide +kernel
theorem dL_law_520 : decode cL_law 520 = .ok (.ireturn, 1) := by decide +kernel
theorem dL_law_521 : decode cL_law 521 = .ok (.goto 794, 3) := by decide +kernel
theorem dL_law_524 : decode cL_law 524 = .ok (.aload_n 1, 1) := by decide +kernel
theorem dL_law_525 : decode cL_law 525 = .ok (.aload_n 0, 1) := by decide +kernel
theorem dL_law_526 : decode cL_law 526 = .ok (.iload 4, 2) := by decide +kernel
theorem dL_law_528 : decode cL_law 528 = .ok (.iconst 1, 1) := by decide +kernel
theorem dL_law_529 : decode cL_law 529 = .ok (.iadd, 1) := by decide +kernel
theorem dL_law_530 : decode cL_law 530 = .ok (.iaload, 1) := by decide +kernel
theorem dL_law_531 : decode cL_law 531 = .ok (.aload_n 0, 1) := by decide +kernel
theorem dL_law_532 : decode cL_law 532 = .ok (.iload 4, 2) := by decide +kernel
theorem dL_law_534 : decode cL_law 534 = .ok (.iconst 2, 1) := by decide +kernel
theorem dL_law_535 : decode cL_law 535 = .ok (.iadd, 1) := by decide +kernel
theorem dL_law_536 : decode cL_law 536 = .ok (.iaload, 1) := by decide +kernel
theorem dL_law_537 : decode cL_law 537 = .ok (.aload_n 3, 1) := by decide +kernel
theorem dL_law_538 : decode cL_law 538 = .ok (.invokestatic 101, 3) := by decide +kernel
theorem dL_law_541 : decode cL_law 541 = .ok (.istore 5, 2) := by decide +kernel
theorem dL_law_543 : decode cL_law 543 = .ok (.aload_n 2, 1) := by decide +kernel
theorem dL_law_544 : decode cL_law 544 = .ok (.aload_n 0, 1) := by decide +kernel
theorem dL_law_545 : decode cL_law 545 = .ok (.iload 4, 2) := by decide +kernel
theorem dL_law_547 : decode cL_law 547 = .ok (.iconst 1, 1) := by decide +kernel
theorem dL_law_548 : decode cL_law 548 = .ok (.iadd, 1) := by decide +kernel
theorem dL_law_549 : decode cL_law 549 = .ok (.iaload, 1) := by decide +kernel
theorem dL_law_550 : decode cL_law 550 = .ok (.aload_n 0, 1) := by decide +kernel
theorem dL_law_551 : decode cL_law 551 = .ok (.iload 4, 2) := by decide +kernel
theorem dL_law_553 : decode cL_law 553 = .ok (.iconst 2, 1) := by decide +kernel
theorem dL_law_554 : decode cL_law 554 = .ok (.iadd, 1) := by decide +kernel
theorem dL_law_555 : decode cL_law 555 = .ok (.iaload, 1) := by decide +kernel
theorem dL_law_556 : decode cL_law 556 = .ok (.invokevirtual 103, 3) := by decide +kernel
theorem dL_law_559 : decode cL_law 559 = .ok (.istore 6, 2) := by decide +kernel
theorem dL_law_561 : decode cL_law 561 = .ok (.aload_n 2, 1) := by decide +kernel
theorem dL_law_562 : decode cL_law 562 = .ok (.invokevirtual 80, 3) := by decide +kernel
theorem dL_law_565 : decode cL_law 565 = .ok (.iload 5, 2) := by decide +kernel
theorem dL_law_567 : decode cL_law 567 = .ok (.if_icmp .eq 5, 3) := by decide +kernel
theorem dL_law_570 : decode cL_law 570 = .ok (.iconst 0, 1) := by decide +kernel
theorem dL_law_571 : decode cL_law 571 = .ok (.ireturn, 1) := by decide +kernel
theorem dL_law_572 : decode cL_law 572 = .ok (.iload 5, 2) := by decide +kernel
theorem dL_law_574 : decode cL_law 574 = .ok (.ifCond .ne 15, 3) := by decide +kernel
theorem dL_law_577 : decode cL_law 577 = .ok (.aload_n 3, 1) := by decide +kernel
theorem dL_law_578 : decode cL_law 578 = .ok (.iconst 0, 1) := by decide +kernel
theorem dL_law_579 : decode cL_law 579 = .ok (.laload, 1) := by decide +kernel
theorem dL_law_580 : decode cL_law 580 = .ok (.iload 6, 2) := by decide +kernel
theorem dL_law_582 : decode cL_law 582 = .ok (.i2l, 1) := by decide +kernel
theorem dL_law_583 : decode cL_law 583 = .ok (.lcmp, 1) := by decide +kernel
theorem dL_law_584 : decode cL_law 584 = .ok (.ifCond .eq 5, 3) := by decide +kernel
theorem dL_law_587 : decode cL_law 587 = .ok (.iconst 0, 1) := by decide +kernel
theorem dL_law_588 : decode cL_law 588 = .ok (.ireturn, 1) := by decide +kernel
theorem dL_law_589 : decode cL_law 589 = .ok (.goto 726, 3) := by decide +kernel
theorem dL_law_592 : decode cL_law 592 = .ok (.aload_n 1, 1) := by decide +kernel
theorem dL_law_593 : decode cL_law 593 = .ok (.aload_n 0, 1) := by decide +kernel
theorem dL_law_594 : decode cL_law 594 = .ok (.iload 4, 2) := by decide +kernel
theorem dL_law_596 : decode cL_law 596 = .ok (.iconst 1, 1) := by decide +kernel
theorem dL_law_597 : decode cL_law 597 = .ok (.iadd, 1) := by decide +kernel
theorem dL_law_598 : decode cL_law 598 = .ok (.iaload, 1) := by decide +kernel
theorem dL_law_599 : decode cL_law 599 = .ok (.aload_n 0, 1) := by decide +kernel
theorem dL_law_600 : decode cL_law 600 = .ok (.iload 4, 2) := by decide +kernel
theorem dL_law_602 : decode cL_law 602 = .ok (.iconst 2, 1) := by decide +kernel
theorem dL_law_603 : decode cL_law 603 = .ok (.iadd, 1) := by decide +kernel
theorem dL_law_604 : decode cL_law 604 = .ok (.iaload, 1) := by decide +kernel
theorem dL_law_605 : decode cL_law 605 = .ok (.aload_n 3, 1) := by decide +kernel
theorem dL_law_606 : decode cL_law 606 = .ok (.invokestatic 104, 3) := by decide +kernel
theorem dL_law_609 : decode cL_law 609 = .ok (.istore 5, 2) := by decide +kernel
theorem dL_law_611 : decode cL_law 611 = .ok (.aload_n 2, 1) := by decide +kernel
theorem dL_law_612 : decode cL_law 612 = .ok (.aload_n 0, 1) := by decide +kernel
theorem dL_law_613 : decode cL_law 613 = .ok (.iload 4, 2) := by decide +kernel
theorem dL_law_615 : decode cL_law 615 = .ok (.iconst 1, 1) := by decide +kernel
theorem dL_law_616 : decode cL_law 616 = .ok (.iadd, 1) := by decide +kernel
theorem dL_law_617 : decode cL_law 617 = .ok (.iaload, 1) := by decide +kernel
theorem dL_law_618 : decode cL_law 618 = .ok (.aload_n 0, 1) := by decide +kernel
theorem dL_law_619 : decode cL_law 619 = .ok (.iload 4, 2) := by decide +kernel
theorem dL_law_621 : decode cL_law 621 = .ok (.iconst 2, 1) := by decide +kernel
theorem dL_law_622 : decode cL_law 622 = .ok (.iadd, 1) := by decide +kernel
theorem dL_law_623 : decode cL_law 623 = .ok (.iaload, 1) := by decide +kernel
theorem dL_law_624 : decode cL_law 624 = .ok (.invokevirtual 106, 3) := by decide +kernel
theorem dL_law_627 : decode cL_law 627 = .ok (.istore 6, 2) := by decide +kernel
theorem dL_law_629 : decode cL_law 629 = .ok (.aload_n 2, 1) := by decide +kernel
theorem dL_law_630 : decode cL_law 630 = .ok (.invokevirtual 80, 3) := by decide +kernel
theorem dL_law_633 : decode cL_law 633 = .ok (.iload 5, 2) := by decide +kernel
theorem dL_law_635 : decode cL_law 635 = .ok (.if_icmp .eq 5, 3) := by decide +kernel
theorem dL_law_638 : decode cL_law 638 = .ok (.iconst 0, 1) := by decide +kernel
theorem dL_law_639 : decode cL_law 639 = .ok (.ireturn, 1) := by decide +kernel
theorem dL_law_640 : decode cL_law 640 = .ok (.iload 5, 2) := by decide +kernel
theorem dL_law_642 : decode cL_law 642 = .ok (.ifCond .ne 15, 3) := by decide +kernel
theorem dL_law_645 : decode cL_law 645 = .ok (.aload_n 3, 1) := by decide +kernel
theorem dL_law_646 : decode cL_law 646 = .ok (.iconst 0, 1) := by decide +kernel
theorem dL_law_647 : decode cL_law 647 = .ok (.laload, 1) := by decide +kernel
theorem dL_law_648 : decode cL_law 648 = .ok (.iload 6, 2) := by decide +kernel
theorem dL_law_650 : decode cL_law 650 = .ok (.i2l, 1) := by decide +kernel
theorem dL_law_651 : decode cL_law 651 = .ok (.lcmp, 1) := by decide +kernel
theorem dL_law_652 : decode cL_law 652 = .ok (.ifCond .eq 5, 3) := by decide +kernel
theorem dL_law_655 : decode cL_law 655 = .ok (.iconst 0, 1) := by decide +kernel
theorem dL_law_656 : decode cL_law 656 = .ok (.ireturn, 1) := by decide +kernel
theorem dL_law_657 : decode cL_law 657 = .ok (.goto 658, 3) := by decide +kernel
theorem dL_law_660 : decode cL_law 660 = .ok (.aload_n 1, 1) := by decide +kernel
theorem dL_law_661 : decode cL_law 661 = .ok (.aload_n 0, 1) := by decide +kernel
theorem dL_law_662 : decode cL_law 662 = .ok (.iload 4, 2) := by decide +kernel
theorem dL_law_664 : decode cL_law 664 = .ok (.iconst 1, 1) := by decide +kernel
theorem dL_law_665 : decode cL_law 665 = .ok (.iadd, 1) := by decide +kernel
theorem dL_law_666 : decode cL_law 666 = .ok (.iaload, 1) := by decide +kernel
theorem dL_law_667 : decode cL_law 667 = .ok (.aload_n 0, 1) := by decide +kernel
theorem dL_law_668 : decode cL_law 668 = .ok (.iload 4, 2) := by decide +kernel
theorem dL_law_670 : decode cL_law 670 = .ok (.iconst 2, 1) := by decide +kernel
theorem dL_law_671 : decode cL_law 671 = .ok (.iadd, 1) := by decide +kernel
theorem dL_law_672 : decode cL_law 672 = .ok (.iaload, 1) := by decide +kernel
theorem dL_law_673 : decode cL_law 673 = .ok (.aload_n 0, 1) := by decide +kernel
theorem dL_law_674 : decode cL_law 674 = .ok (.iload 4, 2) := by decide +kernel
theorem dL_law_676 : decode cL_law 676 = .ok (.iconst 3, 1) := by decide +kernel
theorem dL_law_677 : decode cL_law 677 = .ok (.iadd, 1) := by decide +kernel
theorem dL_law_678 : decode cL_law 678 = .ok (.iaload, 1) := by decide +kernel
theorem dL_law_679 : decode cL_law 679 = .ok (.aload_n 0, 1) := by decide +kernel
theorem dL_law_680 : decode cL_law 680 = .ok (.iload 4, 2) := by decide +kernel
theorem dL_law_682 : decode cL_law 682 = .ok (.iconst 4, 1) := by decide +kernel
theorem dL_law_683 : decode cL_law 683 = .ok (.iadd, 1) := by decide +kernel
theorem dL_law_684 : decode cL_law 684 = .ok (.iaload, 1) := by decide +kernel
theorem dL_law_685 : decode cL_law 685 = .ok (.aload_n 3, 1) := by decide +kernel
theorem dL_law_686 : decode cL_law 686 = .ok (.invokestatic 107, 3) := by decide +kernel
theorem dL_law_689 : decode cL_law 689 = .ok (.istore 5, 2) := by decide +kernel
theorem dL_law_691 : decode cL_law 691 = .ok (.aload_n 2, 1) := by decide +kernel
theorem dL_law_692 : decode cL_law 692 = .ok (.aload_n 0, 1) := by decide +kernel
theorem dL_law_693 : decode cL_law 693 = .ok (.iload 4, 2) := by decide +kernel
theorem dL_law_695 : decode cL_law 695 = .ok (.iconst 1, 1) := by decide +kernel
theorem dL_law_696 : decode cL_law 696 = .ok (.iadd, 1) := by decide +kernel
theorem dL_law_697 : decode cL_law 697 = .ok (.iaload, 1) := by decide +kernel
theorem dL_law_698 : decode cL_law 698 = .ok (.aload_n 0, 1) := by decide +kernel
theorem dL_law_699 : decode cL_law 699 = .ok (.iload 4, 2) := by decide +kernel
theorem dL_law_701 : decode cL_law 701 = .ok (.iconst 2, 1) := by decide +kernel
theorem dL_law_702 : decode cL_law 702 = .ok (.iadd, 1) := by decide +kernel
theorem dL_law_703 : decode cL_law 703 = .ok (.iaload, 1) := by decide +kernel
theorem dL_law_704 : decode cL_law 704 = .ok (.aload_n 0, 1) := by decide +kernel
theorem dL_law_705 : decode cL_law 705 = .ok (.iload 4, 2) := by decide +kernel
theorem dL_law_707 : decode cL_law 707 = .ok (.iconst 3, 1) := by decide +kernel
theorem dL_law_708 : decode cL_law 708 = .ok (.iadd, 1) := by decide +kernel
theorem dL_law_709 : decode cL_law 709 = .ok (.iaload, 1) := by decide +kernel
theorem dL_law_710 : decode cL_law 710 = .ok (.aload_n 0, 1) := by decide +kernel
theorem dL_law_711 : decode cL_law 711 = .ok (.iload 4, 2) := by decide +kernel
theorem dL_law_713 : decode cL_law 713 = .ok (.iconst 4, 1) := by decide +kernel
theorem dL_law_714 : decode cL_law 714 = .ok (.iadd, 1) := by decide +kernel
theorem dL_law_715 : decode cL_law 715 = .ok (.iaload, 1) := by decide +kernel
theorem dL_law_716 : decode cL_law 716 = .ok (.invokevirtual 110, 3) := by decide +kernel
theorem dL_law_719 : decode cL_law 719 = .ok (.istore 6, 2) := by decide +kernel
theorem dL_law_721 : decode cL_law 721 = .ok (.aload_n 2, 1) := by decide +kernel
theorem dL_law_722 : decode cL_law 722 = .ok (.invokevirtual 80, 3) := by decide +kernel
theorem dL_law_725 : decode cL_law 725 = .ok (.iload 5, 2) := by decide +kernel
theorem dL_law_727 : decode cL_law 727 = .ok (.if_icmp .eq 5, 3) := by decide +kernel
theorem dL_law_730 : decode cL_law 730 = .ok (.iconst 0, 1) := by decide +kernel
theorem dL_law_731 : decode cL_law 731 = .ok (.ireturn, 1) := by decide +kernel
theorem dL_law_732 : decode cL_law 732 = .ok (.iload 5, 2) := by decide +kernel
theorem dL_law_734 : decode cL_law 734 = .ok (.ifCond .ne 15, 3) := by decide +kernel
theorem dL_law_737 : decode cL_law 737 = .ok (.aload_n 3, 1) := by decide +kernel
theorem dL_law_738 : decode cL_law 738 = .ok (.iconst 0, 1) := by decide +kernel
theorem dL_law_739 : decode cL_law 739 = .ok (.laload, 1) := by decide +kernel
theorem dL_law_740 : decode cL_law 740 = .ok (.iload 6, 2) := by decide +kernel
theorem dL_law_742 : decode cL_law 742 = .ok (.i2l, 1) := by decide +kernel
theorem dL_law_743 : decode cL_law 743 = .ok (.lcmp, 1) := by decide +kernel
theorem dL_law_744 : decode cL_law 744 = .ok (.ifCond .eq 5, 3) := by decide +kernel
theorem dL_law_747 : decode cL_law 747 = .ok (.iconst 0, 1) := by decide +kernel
theorem dL_law_748 : decode cL_law 748 = .ok (.ireturn, 1) := by decide +kernel
theorem dL_law_749 : decode cL_law 749 = .ok (.goto 566, 3) := by decide +kernel
theorem dL_law_752 : decode cL_law 752 = .ok (.aload_n 1, 1) := by decide +kernel
theorem dL_law_753 : decode cL_law 753 = .ok (.aload_n 0, 1) := by decide +kernel
theorem dL_law_754 : decode cL_law 754 = .ok (.iload 4, 2) := by decide +kernel
theorem dL_law_756 : decode cL_law 756 = .ok (.iconst 1, 1) := by decide +kernel
theorem dL_law_757 : decode cL_law 757 = .ok (.iadd, 1) := by decide +kernel
theorem dL_law_758 : decode cL_law 758 = .ok (.iaload, 1) := by decide +kernel
theorem dL_law_759 : decode cL_law 759 = .ok (.aload_n 3, 1) := by decide +kernel
theorem dL_law_760 : decode cL_law 760 = .ok (.invokestatic 111, 3) := by decide +kernel
theorem dL_law_763 : decode cL_law 763 = .ok (.istore 5, 2) := by decide +kernel
theorem dL_law_765 : decode cL_law 765 = .ok (.aload_n 2, 1) := by decide +kernel
theorem dL_law_766 : decode cL_law 766 = .ok (.aload_n 0, 1) := by decide +kernel
theorem dL_law_767 : decode cL_law 767 = .ok (.iload 4, 2) := by decide +kernel
theorem dL_law_769 : decode cL_law 769 = .ok (.iconst 1, 1) := by decide +kernel
theorem dL_law_770 : decode cL_law 770 = .ok (.iadd, 1) := by decide +kernel
theorem dL_law_771 : decode cL_law 771 = .ok (.iaload, 1) := by decide +kernel
theorem dL_law_772 : decode cL_law 772 = .ok (.invokevirtual 113, 3) := by decide +kernel
theorem dL_law_775 : decode cL_law 775 = .ok (.istore 6, 2) := by decide +kernel
theorem dL_law_777 : decode cL_law 777 = .ok (.aload_n 2, 1) := by decide +kernel
theorem dL_law_778 : decode cL_law 778 = .ok (.invokevirtual 80, 3) := by decide +kernel
theorem dL_law_781 : decode cL_law 781 = .ok (.iload 5, 2) := by decide +kernel
theorem dL_law_783 : decode cL_law 783 = .ok (.if_icmp .eq 5, 3) := by decide +kernel
theorem dL_law_786 : decode cL_law 786 = .ok (.iconst 0, 1) := by decide +kernel
theorem dL_law_787 : decode cL_law 787 = .ok (.ireturn, 1) := by decide +kernel
theorem dL_law_788 : decode cL_law 788 = .ok (.iload 5, 2) := by decide +kernel
theorem dL_law_790 : decode cL_law 790 = .ok (.ifCond .ne 15, 3) := by decide +kernel
theorem dL_law_793 : decode cL_law 793 = .ok (.aload_n 3, 1) := by decide +kernel
theorem dL_law_794 : decode cL_law 794 = .ok (.iconst 0, 1) := by decide +kernel
theorem dL_law_795 : decode cL_law 795 = .ok (.laload, 1) := by decide +kernel
theorem dL_law_796 : decode cL_law 796 = .ok (.iload 6, 2) := by decide +kernel
theorem dL_law_798 : decode cL_law 798 = .ok (.i2l, 1) := by decide +kernel
theorem dL_law_799 : decode cL_law 799 = .ok (.lcmp, 1) := by decide +kernel
theorem dL_law_800 : decode cL_law 800 = .ok (.ifCond .eq 5, 3) := by decide +kernel
theorem dL_law_803 : decode cL_law 803 = .ok (.iconst 0, 1) := by decide +kernel
theorem dL_law_804 : decode cL_law 804 = .ok (.ireturn, 1) := by decide +kernel
theorem dL_law_805 : decode cL_law 805 = .ok (.goto 510, 3) := by decide +kernel
theorem dL_law_808 : decode cL_law 808 = .ok (.aload_n 1, 1) := by decide +kernel
theorem dL_law_809 : decode cL_law 809 = .ok (.aload_n 0, 1) := by decide +kernel
theorem dL_law_810 : decode cL_law 810 = .ok (.iload 4, 2) := by decide +kernel
theorem dL_law_812 : decode cL_law 812 = .ok (.iconst 1, 1) := by decide +kernel
theorem dL_law_813 : decode cL_law 813 = .ok (.iadd, 1) := by decide +kernel
theorem dL_law_814 : decode cL_law 814 = .ok (.iaload, 1) := by decide +kernel
theorem dL_law_815 : decode cL_law 815 = .ok (.aload_n 0, 1) := by decide +kernel
theorem dL_law_816 : decode cL_law 816 = .ok (.iload 4, 2) := by decide +kernel
theorem dL_law_818 : decode cL_law 818 = .ok (.iconst 2, 1) := by decide +kernel
theorem dL_law_819 : decode cL_law 819 = .ok (.iadd, 1) := by decide +kernel
theorem dL_law_820 : decode cL_law 820 = .ok (.iaload, 1) := by decide +kernel
theorem dL_law_821 : decode cL_law 821 = .ok (.aload_n 3, 1) := by decide +kernel
theorem dL_law_822 : decode cL_law 822 = .ok (.invokestatic 114, 3) := by decide +kernel
theorem dL_law_825 : decode cL_law 825 = .ok (.istore 5, 2) := by decide +kernel
theorem dL_law_827 : decode cL_law 827 = .ok (.aload_n 2, 1) := by decide +kernel
theorem dL_law_828 : decode cL_law 828 = .ok (.aload_n 0, 1) := by decide +kernel
theorem dL_law_829 : decode cL_law 829 = .ok (.iload 4, 2) := by decide +kernel
theorem dL_law_831 : decode cL_law 831 = .ok (.iconst 1, 1) := by decide +kernel
theorem dL_law_832 : decode cL_law 832 = .ok (.iadd, 1) := by decide +kernel
theorem dL_law_833 : decode cL_law 833 = .ok (.iaload, 1) := by decide +kernel
theorem dL_law_834 : decode cL_law 834 = .ok (.aload_n 0, 1) := by decide +kernel
theorem dL_law_835 : decode cL_law 835 = .ok (.iload 4, 2) := by decide +kernel
theorem dL_law_837 : decode cL_law 837 = .ok (.iconst 2, 1) := by decide +kernel
theorem dL_law_838 : decode cL_law 838 = .ok (.iadd, 1) := by decide +kernel
theorem dL_law_839 : decode cL_law 839 = .ok (.iaload, 1) := by decide +kernel
theorem dL_law_840 : decode cL_law 840 = .ok (.invokevirtual 116, 3) := by decide +kernel
theorem dL_law_843 : decode cL_law 843 = .ok (.istore 6, 2) := by decide +kernel
theorem dL_law_845 : decode cL_law 845 = .ok (.aload_n 2, 1) := by decide +kernel
theorem dL_law_846 : decode cL_law 846 = .ok (.invokevirtual 80, 3) := by decide +kernel
theorem dL_law_849 : decode cL_law 849 = .ok (.iload 5, 2) := by decide +kernel
theorem dL_law_851 : decode cL_law 851 = .ok (.if_icmp .eq 5, 3) := by decide +kernel
theorem dL_law_854 : decode cL_law 854 = .ok (.iconst 0, 1) := by decide +kernel
theorem dL_law_855 : decode cL_law 855 = .ok (.ireturn, 1) := by decide +kernel
theorem dL_law_856 : decode cL_law 856 = .ok (.iload 5, 2) := by decide +kernel
theorem dL_law_858 : decode cL_law 858 = .ok (.ifCond .ne 15, 3) := by decide +kernel
theorem dL_law_861 : decode cL_law 861 = .ok (.aload_n 3, 1) := by decide +kernel
theorem dL_law_862 : decode cL_law 862 = .ok (.iconst 0, 1) := by decide +kernel
theorem dL_law_863 : decode cL_law 863 = .ok (.laload, 1) := by decide +kernel
theorem dL_law_864 : decode cL_law 864 = .ok (.iload 6, 2) := by decide +kernel
theorem dL_law_866 : decode cL_law 866 = .ok (.i2l, 1) := by decide +kernel
theorem dL_law_867 : decode cL_law 867 = .ok (.lcmp, 1) := by decide +kernel
theorem dL_law_868 : decode cL_law 868 = .ok (.ifCond .eq 5, 3) := by decide +kernel
theorem dL_law_871 : decode cL_law 871 = .ok (.iconst 0, 1) := by decide +kernel
theorem dL_law_872 : decode cL_law 872 = .ok (.ireturn, 1) := by decide +kernel
theorem dL_law_873 : decode cL_law 873 = .ok (.goto 442, 3) := by decide +kernel
theorem dL_law_876 : decode cL_law 876 = .ok (.aload_n 1, 1) := by decide +kernel
theorem dL_law_877 : decode cL_law 877 = .ok (.aload_n 0, 1) := by decide +kernel
theorem dL_law_878 : decode cL_law 878 = .ok (.iload 4, 2) := by decide +kernel
theorem dL_law_880 : decode cL_law 880 = .ok (.iconst 1, 1) := by decide +kernel
theorem dL_law_881 : decode cL_law 881 = .ok (.iadd, 1) := by decide +kernel
theorem dL_law_882 : decode cL_law 882 = .ok (.iaload, 1) := by decide +kernel
theorem dL_law_883 : decode cL_law 883 = .ok (.aload_n 0, 1) := by decide +kernel
theorem dL_law_884 : decode cL_law 884 = .ok (.iload 4, 2) := by decide +kernel
theorem dL_law_886 : decode cL_law 886 = .ok (.iconst 2, 1) := by decide +kernel
theorem dL_law_887 : decode cL_law 887 = .ok (.iadd, 1) := by decide +kernel
theorem dL_law_888 : decode cL_law 888 = .ok (.iaload, 1) := by decide +kernel
theorem dL_law_889 : decode cL_law 889 = .ok (.aload_n 3, 1) := by decide +kernel
theorem dL_law_890 : decode cL_law 890 = .ok (.invokestatic 117, 3) := by decide +kernel
theorem dL_law_893 : decode cL_law 893 = .ok (.istore 5, 2) := by decide +kernel
theorem dL_law_895 : decode cL_law 895 = .ok (.aload_n 2, 1) := by decide +kernel
theorem dL_law_896 : decode cL_law 896 = .ok (.aload_n 0, 1) := by decide +kernel
theorem dL_law_897 : decode cL_law 897 = .ok (.iload 4, 2) := by decide +kernel
theorem dL_law_899 : decode cL_law 899 = .ok (.iconst 1, 1) := by decide +kernel
theorem dL_law_900 : decode cL_law 900 = .ok (.iadd, 1) := by decide +kernel
theorem dL_law_901 : decode cL_law 901 = .ok (.iaload, 1) := by decide +kernel
theorem dL_law_902 : decode cL_law 902 = .ok (.aload_n 0, 1) := by decide +kernel
theorem dL_law_903 : decode cL_law 903 = .ok (.iload 4, 2) := by decide +kernel
theorem dL_law_905 : decode cL_law 905 = .ok (.iconst 2, 1) := by decide +kernel
theorem dL_law_906 : decode cL_law 906 = .ok (.iadd, 1) := by decide +kernel
theorem dL_law_907 : decode cL_law 907 = .ok (.iaload, 1) := by decide +kernel
theorem dL_law_908 : decode cL_law 908 = .ok (.invokevirtual 119, 3) := by decide +kernel
theorem dL_law_911 : decode cL_law 911 = .ok (.istore 6, 2) := by decide +kernel
theorem dL_law_913 : decode cL_law 913 = .ok (.aload_n 2, 1) := by decide +kernel
theorem dL_law_914 : decode cL_law 914 = .ok (.invokevirtual 80, 3) := by decide +kernel
theorem dL_law_917 : decode cL_law 917 = .ok (.iload 5, 2) := by decide +kernel
theorem dL_law_919 : decode cL_law 919 = .ok (.if_icmp .eq 5, 3) := by decide +kernel
theorem dL_law_922 : decode cL_law 922 = .ok (.iconst 0, 1) := by decide +kernel
theorem dL_law_923 : decode cL_law 923 = .ok (.ireturn, 1) := by decide +kernel
theorem dL_law_924 : decode cL_law 924 = .ok (.iload 5, 2) := by decide +kernel
theorem dL_law_926 : decode cL_law 926 = .ok (.ifCond .ne 15, 3) := by decide +kernel
theorem dL_law_929 : decode cL_law 929 = .ok (.aload_n 3, 1) := by decide +kernel
theorem dL_law_930 : decode cL_law 930 = .ok (.iconst 0, 1) := by decide +kernel
theorem dL_law_931 : decode cL_law 931 = .ok (.laload, 1) := by decide +kernel
theorem dL_law_932 : decode cL_law 932 = .ok (.iload 6, 2) := by decide +kernel
theorem dL_law_934 : decode cL_law 934 = .ok (.i2l, 1) := by decide +kernel
theorem dL_law_935 : decode cL_law 935 = .ok (.lcmp, 1) := by decide +kernel
theorem dL_law_936 : decode cL_law 936 = .ok (.ifCond .eq 5, 3) := by decide +kernel
theorem dL_law_939 : decode cL_law 939 = .ok (.iconst 0, 1) := by decide +kernel
theorem dL_law_940 : decode cL_law 940 = .ok (.ireturn, 1) := by decide +kernel
theorem dL_law_941 : decode cL_law 941 = .ok (.goto 374, 3) := by decide +kernel
theorem dL_law_944 : decode cL_law 944 = .ok (.aload_n 1, 1) := by decide +kernel
theorem dL_law_945 : decode cL_law 945 = .ok (.aload_n 0, 1) := by decide +kernel
theorem dL_law_946 : decode cL_law 946 = .ok (.iload 4, 2) := by decide +kernel
theorem dL_law_948 : decode cL_law 948 = .ok (.iconst 1, 1) := by decide +kernel
theorem dL_law_949 : decode cL_law 949 = .ok (.iadd, 1) := by decide +kernel
theorem dL_law_950 : decode cL_law 950 = .ok (.iaload, 1) := by decide +kernel
theorem dL_law_951 : decode cL_law 951 = .ok (.aload_n 3, 1) := by decide +kernel
theorem dL_law_952 : decode cL_law 952 = .ok (.invokestatic 120, 3) := by decide +kernel
theorem dL_law_955 : decode cL_law 955 = .ok (.istore 5, 2) := by decide +kernel
theorem dL_law_957 : decode cL_law 957 = .ok (.aload_n 2, 1) := by decide +kernel
theorem dL_law_958 : decode cL_law 958 = .ok (.aload_n 0, 1) := by decide +kernel
theorem dL_law_959 : decode cL_law 959 = .ok (.iload 4, 2) := by decide +kernel
theorem dL_law_961 : decode cL_law 961 = .ok (.iconst 1, 1) := by decide +kernel
theorem dL_law_962 : decode cL_law 962 = .ok (.iadd, 1) := by decide +kernel
theorem dL_law_963 : decode cL_law 963 = .ok (.iaload, 1) := by decide +kernel
theorem dL_law_964 : decode cL_law 964 = .ok (.invokevirtual 122, 3) := by decide +kernel
theorem dL_law_967 : decode cL_law 967 = .ok (.istore 6, 2) := by decide +kernel
theorem dL_law_969 : decode cL_law 969 = .ok (.aload_n 2, 1) := by decide +kernel
theorem dL_law_970 : decode cL_law 970 = .ok (.invokevirtual 80, 3) := by decide +kernel
theorem dL_law_973 : decode cL_law 973 = .ok (.iload 5, 2) := by decide +kernel
theorem dL_law_975 : decode cL_law 975 = .ok (.if_icmp .eq 5, 3) := by decide +kernel
theorem dL_law_978 : decode cL_law 978 = .ok (.iconst 0, 1) := by decide +kernel
theorem dL_law_979 : decode cL_law 979 = .ok (.ireturn, 1) := by decide +kernel
theorem dL_law_980 : decode cL_law 980 = .ok (.iload 5, 2) := by decide +kernel
theorem dL_law_982 : decode cL_law 982 = .ok (.ifCond .ne 15, 3) := by decide +kernel
theorem dL_law_985 : decode cL_law 985 = .ok (.aload_n 3, 1) := by decide +kernel
theorem dL_law_986 : decode cL_law 986 = .ok (.iconst 0, 1) := by decide +kernel
theorem dL_law_987 : decode cL_law 987 = .ok (.laload, 1) := by decide +kernel
theorem dL_law_988 : decode cL_law 988 = .ok (.iload 6, 2) := by decide +kernel
theorem dL_law_990 : decode cL_law 990 = .ok (.i2l, 1) := by decide +kernel
theorem dL_law_991 : decode cL_law 991 = .ok (.lcmp, 1) := by decide +kernel
theorem dL_law_992 : decode cL_law 992 = .ok (.ifCond .eq 5, 3) := by decide +kernel
theorem dL_law_995 : decode cL_law 995 = .ok (.iconst 0, 1) := by decide +kernel
theorem dL_law_996 : decode cL_law 996 = .ok (.ireturn, 1) := by decide +kernel
theorem dL_law_997 : decode cL_law 997 = .ok (.goto 318, 3) := by decide +kernel
theorem dL_law_1000 : decode cL_law 1000 = .ok (.aload_n 1, 1) := by decide +kernel
theorem dL_law_1001 : decode cL_law 1001 = .ok (.aload_n 0, 1) := by decide +kernel
theorem dL_law_1002 : decode cL_law 1002 = .ok (.iload 4, 2) := by decide +kernel
theorem dL_law_1004 : decode cL_law 1004 = .ok (.iconst 1, 1) := by decide +kernel
theorem dL_law_1005 : decode cL_law 1005 = .ok (.iadd, 1) := by decide +kernel
theorem dL_law_1006 : decode cL_law 1006 = .ok (.iaload, 1) := by decide +kernel
theorem dL_law_1007 : decode cL_law 1007 = .ok (.aload_n 3, 1) := by decide +kernel
theorem dL_law_1008 : decode cL_law 1008 = .ok (.invokestatic 123, 3) := by decide +kernel
theorem dL_law_1011 : decode cL_law 1011 = .ok (.istore 5, 2) := by decide +kernel
theorem dL_law_1013 : decode cL_law 1013 = .ok (.aload_n 2, 1) := by decide +kernel
theorem dL_law_1014 : decode cL_law 1014 = .ok (.aload_n 0, 1) := by decide +kernel
theorem dL_law_1015 : decode cL_law 1015 = .ok (.iload 4, 2) := by decide +kernel
theorem dL_law_1017 : decode cL_law 1017 = .ok (.iconst 1, 1) := by decide +kernel
theorem dL_law_1018 : decode cL_law 1018 = .ok (.iadd, 1) := by decide +kernel
theorem dL_law_1019 : decode cL_law 1019 = .ok (.iaload, 1) := by decide +kernel
theorem dL_law_1020 : decode cL_law 1020 = .ok (.invokevirtual 125, 3) := by decide +kernel
theorem dL_law_1023 : decode cL_law 1023 = .ok (.istore 6, 2) := by decide +kernel
theorem dL_law_1025 : decode cL_law 1025 = .ok (.aload_n 2, 1) := by decide +kernel
theorem dL_law_1026 : decode cL_law 1026 = .ok (.invokevirtual 80, 3) := by decide +kernel
theorem dL_law_1029 : decode cL_law 1029 = .ok (.iload 5, 2) := by decide +kernel
theorem dL_law_1031 : decode cL_law 1031 = .ok (.if_icmp .eq 5, 3) := by decide +kernel
theorem dL_law_1034 : decode cL_law 1034 = .ok (.iconst 0, 1) := by decide +kernel
theorem dL_law_1035 : decode cL_law 1035 = .ok (.ireturn, 1) := by decide +kernel
theorem dL_law_1036 : decode cL_law 1036 = .ok (.iload 5, 2) := by decide +kernel
theorem dL_law_1038 : decode cL_law 1038 = .ok (.ifCond .ne 15, 3) := by decide +kernel
theorem dL_law_1041 : decode cL_law 1041 = .ok (.aload_n 3, 1) := by decide +kernel
theorem dL_law_1042 : decode cL_law 1042 = .ok (.iconst 0, 1) := by decide +kernel
theorem dL_law_1043 : decode cL_law 1043 = .ok (.laload, 1) := by decide +kernel
theorem dL_law_1044 : decode cL_law 1044 = .ok (.iload 6, 2) := by decide +kernel
theorem dL_law_1046 : decode cL_law 1046 = .ok (.i2l, 1) := by decide +kernel
theorem dL_law_1047 : decode cL_law 1047 = .ok (.lcmp, 1) := by decide +kernel
theorem dL_law_1048 : decode cL_law 1048 = .ok (.ifCond .eq 5, 3) := by decide +kernel
theorem dL_law_1051 : decode cL_law 1051 = .ok (.iconst 0, 1) := by decide +kernel
theorem dL_law_1052 : decode cL_law 1052 = .ok (.ireturn, 1) := by decide +kernel
theorem dL_law_1053 : decode cL_law 1053 = .ok (.goto 262, 3) := by decide +kernel
theorem dL_law_1056 : decode cL_law 1056 = .ok (.aload_n 1, 1) := by decide +kernel
theorem dL_law_1057 : decode cL_law 1057 = .ok (.aload_n 0, 1) := by decide +kernel
theorem dL_law_1058 : decode cL_law 1058 = .ok (.iload 4, 2) := by decide +kernel
theorem dL_law_1060 : decode cL_law 1060 = .ok (.iconst 1, 1) := by decide +kernel
theorem dL_law_1061 : decode cL_law 1061 = .ok (.iadd, 1) := by decide +kernel
theorem dL_law_1062 : decode cL_law 1062 = .ok (.iaload, 1) := by decide +kernel
theorem dL_law_1063 : decode cL_law 1063 = .ok (.aload_n 3, 1) := by decide +kernel
theorem dL_law_1064 : decode cL_law 1064 = .ok (.invokestatic 126, 3) := by decide +kernel
theorem dL_law_1067 : decode cL_law 1067 = .ok (.istore 5, 2) := by decide +kernel
theorem dL_law_1069 : decode cL_law 1069 = .ok (.aload_n 2, 1) := by decide +kernel
theorem dL_law_1070 : decode cL_law 1070 = .ok (.aload_n 0, 1) := by decide +kernel
theorem dL_law_1071 : decode cL_law 1071 = .ok (.iload 4, 2) := by decide +kernel
theorem dL_law_1073 : decode cL_law 1073 = .ok (.iconst 1, 1) := by decide +kernel
theorem dL_law_1074 : decode cL_law 1074 = .ok (.iadd, 1) := by decide +kernel
theorem dL_law_1075 : decode cL_law 1075 = .ok (.iaload, 1) := by decide +kernel
theorem dL_law_1076 : decode cL_law 1076 = .ok (.invokevirtual 128, 3) := by decide +kernel
theorem dL_law_1079 : decode cL_law 1079 = .ok (.istore 6, 2) := by decide +kernel
theorem dL_law_1081 : decode cL_law 1081 = .ok (.aload_n 2, 1) := by decide +kernel
theorem dL_law_1082 : decode cL_law 1082 = .ok (.invokevirtual 80, 3) := by decide +kernel
theorem dL_law_1085 : decode cL_law 1085 = .ok (.iload 5, 2) := by decide +kernel
theorem dL_law_1087 : decode cL_law 1087 = .ok (.if_icmp .eq 5, 3) := by decide +kernel
theorem dL_law_1090 : decode cL_law 1090 = .ok (.iconst 0, 1) := by decide +kernel
theorem dL_law_1091 : decode cL_law 1091 = .ok (.ireturn, 1) := by decide +kernel
theorem dL_law_1092 : decode cL_law 1092 = .ok (.iload 5, 2) := by decide +kernel
theorem dL_law_1094 : decode cL_law 1094 = .ok (.ifCond .ne 15, 3) := by decide +kernel
theorem dL_law_1097 : decode cL_law 1097 = .ok (.aload_n 3, 1) := by decide +kernel
theorem dL_law_1098 : decode cL_law 1098 = .ok (.iconst 0, 1) := by decide +kernel
theorem dL_law_1099 : decode cL_law 1099 = .ok (.laload, 1) := by decide +kernel
theorem dL_law_1100 : decode cL_law 1100 = .ok (.iload 6, 2) := by decide +kernel
theorem dL_law_1102 : decode cL_law 1102 = .ok (.i2l, 1) := by decide +kernel
theorem dL_law_1103 : decode cL_law 1103 = .ok (.lcmp, 1) := by decide +kernel
theorem dL_law_1104 : decode cL_law 1104 = .ok (.ifCond .eq 5, 3) := by decide +kernel
theorem dL_law_1107 : decode cL_law 1107 = .ok (.iconst 0, 1) := by decide +kernel
theorem dL_law_1108 : decode cL_law 1108 = .ok (.ireturn, 1) := by decide +kernel
theorem dL_law_1109 : decode cL_law 1109 = .ok (.goto 206, 3) := by decide +kernel
theorem dL_law_1112 : decode cL_law 1112 = .ok (.aload_n 1, 1) := by decide +kernel
theorem dL_law_1113 : decode cL_law 1113 = .ok (.aload_n 0, 1) := by decide +kernel
theorem dL_law_1114 : decode cL_law 1114 = .ok (.iload 4, 2) := by decide +kernel
theorem dL_law_1116 : decode cL_law 1116 = .ok (.iconst 1, 1) := by decide +kernel
theorem dL_law_1117 : decode cL_law 1117 = .ok (.iadd, 1) := by decide +kernel
theorem dL_law_1118 : decode cL_law 1118 = .ok (.iaload, 1) := by decide +kernel
theorem dL_law_1119 : decode cL_law 1119 = .ok (.aload_n 0, 1) := by decide +kernel
theorem dL_law_1120 : decode cL_law 1120 = .ok (.iload 4, 2) := by decide +kernel
theorem dL_law_1122 : decode cL_law 1122 = .ok (.iconst 2, 1) := by decide +kernel
theorem dL_law_1123 : decode cL_law 1123 = .ok (.iadd, 1) := by decide +kernel
theorem dL_law_1124 : decode cL_law 1124 = .ok (.iaload, 1) := by decide +kernel
theorem dL_law_1125 : decode cL_law 1125 = .ok (.aload_n 3, 1) := by decide +kernel
theorem dL_law_1126 : decode cL_law 1126 = .ok (.invokestatic 129, 3) := by decide +kernel
theorem dL_law_1129 : decode cL_law 1129 = .ok (.istore 5, 2) := by decide +kernel
theorem dL_law_1131 : decode cL_law 1131 = .ok (.aload_n 2, 1) := by decide +kernel
theorem dL_law_1132 : decode cL_law 1132 = .ok (.aload_n 0, 1) := by decide +kernel
theorem dL_law_1133 : decode cL_law 1133 = .ok (.iload 4, 2) := by decide +kernel
theorem dL_law_1135 : decode cL_law 1135 = .ok (.iconst 1, 1) := by decide +kernel
theorem dL_law_1136 : decode cL_law 1136 = .ok (.iadd, 1) := by decide +kernel
theorem dL_law_1137 : decode cL_law 1137 = .ok (.iaload, 1) := by decide +kernel
theorem dL_law_1138 : decode cL_law 1138 = .ok (.aload_n 0, 1) := by decide +kernel
theorem dL_law_1139 : decode cL_law 1139 = .ok (.iload 4, 2) := by decide +kernel
theorem dL_law_1141 : decode cL_law 1141 = .ok (.iconst 2, 1) := by decide +kernel
theorem dL_law_1142 : decode cL_law 1142 = .ok (.iadd, 1) := by decide +kernel
theorem dL_law_1143 : decode cL_law 1143 = .ok (.iaload, 1) := by decide +kernel
theorem dL_law_1144 : decode cL_law 1144 = .ok (.invokevirtual 131, 3) := by decide +kernel
theorem dL_law_1147 : decode cL_law 1147 = .ok (.istore 6, 2) := by decide +kernel
theorem dL_law_1149 : decode cL_law 1149 = .ok (.aload_n 2, 1) := by decide +kernel
theorem dL_law_1150 : decode cL_law 1150 = .ok (.invokevirtual 80, 3) := by decide +kernel
theorem dL_law_1153 : decode cL_law 1153 = .ok (.iload 5, 2) := by decide +kernel
theorem dL_law_1155 : decode cL_law 1155 = .ok (.if_icmp .eq 5, 3) := by decide +kernel
theorem dL_law_1158 : decode cL_law 1158 = .ok (.iconst 0, 1) := by decide +kernel
theorem dL_law_1159 : decode cL_law 1159 = .ok (.ireturn, 1) := by decide +kernel
theorem dL_law_1160 : decode cL_law 1160 = .ok (.iload 5, 2) := by decide +kernel
theorem dL_law_1162 : decode cL_law 1162 = .ok (.ifCond .ne 15, 3) := by decide +kernel
theorem dL_law_1165 : decode cL_law 1165 = .ok (.aload_n 3, 1) := by decide +kernel
theorem dL_law_1166 : decode cL_law 1166 = .ok (.iconst 0, 1) := by decide +kernel
theorem dL_law_1167 : decode cL_law 1167 = .ok (.laload, 1) := by decide +kernel
theorem dL_law_1168 : decode cL_law 1168 = .ok (.iload 6, 2) := by decide +kernel
theorem dL_law_1170 : decode cL_law 1170 = .ok (.i2l, 1) := by decide +kernel
theorem dL_law_1171 : decode cL_law 1171 = .ok (.lcmp, 1) := by decide +kernel
theorem dL_law_1172 : decode cL_law 1172 = .ok (.ifCond .eq 5, 3) := by decide +kernel
theorem dL_law_1175 : decode cL_law 1175 = .ok (.iconst 0, 1) := by decide +kernel
theorem dL_law_1176 : decode cL_law 1176 = .ok (.ireturn, 1) := by decide +kernel
theorem dL_law_1177 : decode cL_law 1177 = .ok (.goto 138, 3) := by decide +kernel
theorem dL_law_1180 : decode cL_law 1180 = .ok (.aload_n 1, 1) := by decide +kernel
theorem dL_law_1181 : decode cL_law 1181 = .ok (.aload_n 0, 1) := by decide +kernel
theorem dL_law_1182 : decode cL_law 1182 = .ok (.iload 4, 2) := by decide +kernel
theorem dL_law_1184 : decode cL_law 1184 = .ok (.iconst 1, 1) := by decide +kernel
theorem dL_law_1185 : decode cL_law 1185 = .ok (.iadd, 1) := by decide +kernel
theorem dL_law_1186 : decode cL_law 1186 = .ok (.iaload, 1) := by decide +kernel
theorem dL_law_1187 : decode cL_law 1187 = .ok (.aload_n 0, 1) := by decide +kernel
theorem dL_law_1188 : decode cL_law 1188 = .ok (.iload 4, 2) := by decide +kernel
theorem dL_law_1190 : decode cL_law 1190 = .ok (.iconst 2, 1) := by decide +kernel
theorem dL_law_1191 : decode cL_law 1191 = .ok (.iadd, 1) := by decide +kernel
theorem dL_law_1192 : decode cL_law 1192 = .ok (.iaload, 1) := by decide +kernel
theorem dL_law_1193 : decode cL_law 1193 = .ok (.aload_n 0, 1) := by decide +kernel
theorem dL_law_1194 : decode cL_law 1194 = .ok (.iload 4, 2) := by decide +kernel
theorem dL_law_1196 : decode cL_law 1196 = .ok (.iconst 3, 1) := by decide +kernel
theorem dL_law_1197 : decode cL_law 1197 = .ok (.iadd, 1) := by decide +kernel
theorem dL_law_1198 : decode cL_law 1198 = .ok (.iaload, 1) := by decide +kernel
theorem dL_law_1199 : decode cL_law 1199 = .ok (.aload_n 3, 1) := by decide +kernel
theorem dL_law_1200 : decode cL_law 1200 = .ok (.invokestatic 132, 3) := by decide +kernel
theorem dL_law_1203 : decode cL_law 1203 = .ok (.istore 5, 2) := by decide +kernel
theorem dL_law_1205 : decode cL_law 1205 = .ok (.aload_n 2, 1) := by decide +kernel
theorem dL_law_1206 : decode cL_law 1206 = .ok (.aload_n 0, 1) := by decide +kernel
theorem dL_law_1207 : decode cL_law 1207 = .ok (.iload 4, 2) := by decide +kernel
theorem dL_law_1209 : decode cL_law 1209 = .ok (.iconst 1, 1) := by decide +kernel
theorem dL_law_1210 : decode cL_law 1210 = .ok (.iadd, 1) := by decide +kernel
theorem dL_law_1211 : decode cL_law 1211 = .ok (.iaload, 1) := by decide +kernel
theorem dL_law_1212 : decode cL_law 1212 = .ok (.aload_n 0, 1) := by decide +kernel
theorem dL_law_1213 : decode cL_law 1213 = .ok (.iload 4, 2) := by decide +kernel
theorem dL_law_1215 : decode cL_law 1215 = .ok (.iconst 2, 1) := by decide +kernel
theorem dL_law_1216 : decode cL_law 1216 = .ok (.iadd, 1) := by decide +kernel
theorem dL_law_1217 : decode cL_law 1217 = .ok (.iaload, 1) := by decide +kernel
theorem dL_law_1218 : decode cL_law 1218 = .ok (.aload_n 0, 1) := by decide +kernel
theorem dL_law_1219 : decode cL_law 1219 = .ok (.iload 4, 2) := by decide +kernel
theorem dL_law_1221 : decode cL_law 1221 = .ok (.iconst 3, 1) := by decide +kernel
theorem dL_law_1222 : decode cL_law 1222 = .ok (.iadd, 1) := by decide +kernel
theorem dL_law_1223 : decode cL_law 1223 = .ok (.iaload, 1) := by decide +kernel
theorem dL_law_1224 : decode cL_law 1224 = .ok (.invokevirtual 134, 3) := by decide +kernel
theorem dL_law_1227 : decode cL_law 1227 = .ok (.istore 6, 2) := by decide +kernel
theorem dL_law_1229 : decode cL_law 1229 = .ok (.aload_n 2, 1) := by decide +kernel
theorem dL_law_1230 : decode cL_law 1230 = .ok (.invokevirtual 80, 3) := by decide +kernel
theorem dL_law_1233 : decode cL_law 1233 = .ok (.iload 5, 2) := by decide +kernel
theorem dL_law_1235 : decode cL_law 1235 = .ok (.if_icmp .eq 5, 3) := by decide +kernel
theorem dL_law_1238 : decode cL_law 1238 = .ok (.iconst 0, 1) := by decide +kernel
theorem dL_law_1239 : decode cL_law 1239 = .ok (.ireturn, 1) := by decide +kernel
theorem dL_law_1240 : decode cL_law 1240 = .ok (.iload 5, 2) := by decide +kernel
theorem dL_law_1242 : decode cL_law 1242 = .ok (.ifCond .ne 15, 3) := by decide +kernel
theorem dL_law_1245 : decode cL_law 1245 = .ok (.aload_n 3, 1) := by decide +kernel
theorem dL_law_1246 : decode cL_law 1246 = .ok (.iconst 0, 1) := by decide +kernel
theorem dL_law_1247 : decode cL_law 1247 = .ok (.laload, 1) := by decide +kernel
theorem dL_law_1248 : decode cL_law 1248 = .ok (.iload 6, 2) := by decide +kernel
theorem dL_law_1250 : decode cL_law 1250 = .ok (.i2l, 1) := by decide +kernel
theorem dL_law_1251 : decode cL_law 1251 = .ok (.lcmp, 1) := by decide +kernel
theorem dL_law_1252 : decode cL_law 1252 = .ok (.ifCond .eq 5, 3) := by decide +kernel
theorem dL_law_1255 : decode cL_law 1255 = .ok (.iconst 0, 1) := by decide +kernel
theorem dL_law_1256 : decode cL_law 1256 = .ok (.ireturn, 1) := by decide +kernel
theorem dL_law_1257 : decode cL_law 1257 = .ok (.goto 58, 3) := by decide +kernel
theorem dL_law_1260 : decode cL_law 1260 = .ok (.aload_n 1, 1) := by decide +kernel
theorem dL_law_1261 : decode cL_law 1261 = .ok (.invokevirtual 135, 3) := by decide +kernel
theorem dL_law_1264 : decode cL_law 1264 = .ok (.dstore 5, 2) := by decide +kernel
theorem dL_law_1266 : decode cL_law 1266 = .ok (.aload_n 2, 1) := by decide +kernel
theorem dL_law_1267 : decode cL_law 1267 = .ok (.invokevirtual 139, 3) := by decide +kernel
theorem dL_law_1270 : decode cL_law 1270 = .ok (.dstore 7, 2) := by decide +kernel
theorem dL_law_1272 : decode cL_law 1272 = .ok (.dload 5, 2) := by decide +kernel
theorem dL_law_1274 : decode cL_law 1274 = .ok (.dload 7, 2) := by decide +kernel
theorem dL_law_1276 : decode cL_law 1276 = .ok (.dcmp .l, 1) := by decide +kernel
theorem dL_law_1277 : decode cL_law 1277 = .ok (.ifCond .eq 21, 3) := by decide +kernel
theorem dL_law_1280 : decode cL_law 1280 = .ok (.dload 5, 2) := by decide +kernel
theorem dL_law_1282 : decode cL_law 1282 = .ok (.dload 5, 2) := by decide +kernel
theorem dL_law_1284 : decode cL_law 1284 = .ok (.dcmp .l, 1) := by decide +kernel
theorem dL_law_1285 : decode cL_law 1285 = .ok (.ifCond .eq 11, 3) := by decide +kernel
theorem dL_law_1288 : decode cL_law 1288 = .ok (.dload 7, 2) := by decide +kernel
theorem dL_law_1290 : decode cL_law 1290 = .ok (.dload 7, 2) := by decide +kernel
theorem dL_law_1292 : decode cL_law 1292 = .ok (.dcmp .l, 1) := by decide +kernel
theorem dL_law_1293 : decode cL_law 1293 = .ok (.ifCond .ne 5, 3) := by decide +kernel
theorem dL_law_1296 : decode cL_law 1296 = .ok (.iconst 0, 1) := by decide +kernel
theorem dL_law_1297 : decode cL_law 1297 = .ok (.ireturn, 1) := by decide +kernel
theorem dL_law_1298 : decode cL_law 1298 = .ok (.goto 17, 3) := by decide +kernel
theorem dL_law_1301 : decode cL_law 1301 = .ok (.aload_n 1, 1) := by decide +kernel
theorem dL_law_1302 : decode cL_law 1302 = .ok (.invokevirtual 140, 3) := by decide +kernel
theorem dL_law_1305 : decode cL_law 1305 = .ok (.aload_n 2, 1) := by decide +kernel
theorem dL_law_1306 : decode cL_law 1306 = .ok (.invokevirtual 144, 3) := by decide +kernel
theorem dL_law_1309 : decode cL_law 1309 = .ok (.lcmp, 1) := by decide +kernel
theorem dL_law_1310 : decode cL_law 1310 = .ok (.ifCond .eq 5, 3) := by decide +kernel
theorem dL_law_1313 : decode cL_law 1313 = .ok (.iconst 0, 1) := by decide +kernel
theorem dL_law_1314 : decode cL_law 1314 = .ok (.ireturn, 1) := by decide +kernel
theorem dL_law_1315 : decode cL_law 1315 = .ok (.iinc 4 5, 3) := by decide +kernel
theorem dL_law_1318 : decode cL_law 1318 = .ok (.goto (-1295), 3) := by decide +kernel
theorem dL_law_1321 : decode cL_law 1321 = .ok (.iconst 1, 1) := by decide +kernel
theorem dL_law_1322 : decode cL_law 1322 = .ok (.ireturn, 1) := by decide +kernel
end
section
/-! the words that a method may need, all in one list; the memory: ints by the number of the object and the place -/
def AL : List Cond := lw_tbl.filter goodWord
theorem AL_tbl {w : Cond} (h : w ∈ AL) : w ∈ lw_tbl := (List.mem_filter.mp h).1
theorem AL_in {w : Cond} (h : w ∈ lw_tbl) (g : goodWord w = true) : w ∈ AL := List.mem_filter.mpr ⟨h, g⟩
theorem AL_good : GoodIn AL AL := fun _ h => ⟨h, good_of_word (List.mem_filter.mp h).2⟩
def wsy (y : MethodName) (b : ByteArray) (n : Nat) (r : Option FieldType) : List Cond := .code y b n r :: AL
theorem wsy_good {y : MethodName} {b : ByteArray} {n : Nat} {r : Option FieldType} (h : Cond.code y b n r ∈ AL) : GoodIn AL (wsy y b n r) := by
  intro w hw
  rcases List.mem_cons.mp hw with e | hw
  · rw [e]; exact AL_good _ h
  · exact AL_good _ hw
theorem tq0 {w : Cond} (h : w ∈ k2_sels lw_privs) : w ∈ lw_tbl := List.mem_append_left _ h
theorem tq {w : Cond} (h : w ∈ tables_1) : w ∈ lw_tbl := List.mem_append_right _ h
theorem tq1 {w : Cond} (h : w ∈ tables_1_1) : w ∈ lw_tbl := tq (List.mem_append_left _ h)
theorem tq2 {w : Cond} (h : w ∈ tables_1_2) : w ∈ lw_tbl := tq (List.mem_append_right _ (List.mem_append_left _ h))
theorem tq3 {w : Cond} (h : w ∈ tables_1_3) : w ∈ lw_tbl := tq (List.mem_append_right _ (List.mem_append_right _ (List.mem_append_left _ h)))
theorem tq4 {w : Cond} (h : w ∈ tables_1_4) : w ∈ lw_tbl := tq (List.mem_append_right _ (List.mem_append_right _ (List.mem_append_right _ (List.mem_append_left _ h))))
theorem tq5 {w : Cond} (h : w ∈ tables_1_5) : w ∈ lw_tbl := tq (List.mem_append_right _ (List.mem_append_right _ (List.mem_append_right _ (List.mem_append_right _ h))))
/-! pure: what a method answers, as long as no machine's own throw is near -/
abbrev Mem : Type := Nat → Nat → Int32
def gd {α : Type} (b : Bool) (x : Option α) : Option α := if b = true then x else none
def b1 {α β : Type} (x : Option α) (K : α → Option β) : Option β := match x with
  | none => none
  | some a => K a
def b2 {α β γ : Type} (x : Option (α × β)) (K : α → β → Option γ) : Option γ := match x with
  | none => none
  | some a => K a.1 a.2
def nm {α β : Type} (a : α) (K : α → Option β) : Option β := K a
def sI (σ : Mem) (j k : Nat) (x : Int32) : Mem := fun a => if a = j then upd (σ j) k x else σ a
def inb (i : Int32) (n : Nat) : Bool := decide (¬ (i < 0 ∨ n ≤ i.toNatClampNeg))
theorem og {α : Type} {b : Bool} {x : Option α} {y : α} (h : gd b x = some y) : b = true ∧ x = some y := by
  cases b with
  | false => exact absurd h (by simp [gd])
  | true => exact ⟨rfl, h⟩
theorem ob {α β : Type} {x : Option α} {K : α → Option β} {y : β} (h : b1 x K = some y) : ∃ a, x = some a ∧ K a = some y := by
  cases x with
  | none => exact absurd h (by simp [b1])
  | some a => exact ⟨a, rfl, h⟩
theorem ob2 {α β γ : Type} {x : Option (α × β)} {K : α → β → Option γ} {y : γ} (h : b2 x K = some y) : ∃ a b, x = some (a, b) ∧ K a b = some y := by
  cases x with
  | none => exact absurd h (by simp [b2])
  | some a => exact ⟨a.1, a.2, rfl, h⟩
/-! the objects, by the order of their making: 0 the class; 1 and 71 its towers; 141 the reference; 148 and 162 its states -/
def tbs (j : Nat) : Nat := if j < 71 then j - 1 else j - 71
def sbs (j : Nat) : Nat := if j < 162 then j - 148 else j - 162
def sk (j : Nat) : Nat := if j = 0 then 5 else if j < 141 then (if tbs j = 0 then 4 else if tbs j = 1 then 9 else if tbs j < 14 then (if (tbs j - 2) % 3 = 0 then 0 else 1) else if tbs j = 14 then 10 else if tbs j < 27 then 2 else if tbs j = 27 then 11 else if (tbs j - 28) % 2 = 0 then 3 else 8) else if j = 141 then 7 else if j = 148 then 6 else if j = 162 then 6 else 8
def sl (j : Nat) : Nat := if j < 141 then (if tbs j = 1 then 4 else if tbs j = 14 then 12 else if tbs j = 27 then 21 else if j < 71 then 91 else 0) else if j = 142 then 12 else if j < 147 then 21 else if j = 147 then 1911 else if sbs j = 1 then 4 else if sbs j < 4 then 8 else if sbs j < 8 then 4 else if sbs j < 11 then 12 else 21
def sr (j k : Nat) : Option Nat := match sk j with
  | 5 => if k = 0 then some 1 else some 71
  | 4 => if k = 0 then some (j + 1) else if k = 1 then some (j + 14) else if k = 2 then some (j + 27) else none
  | 9 => if k < 4 then some (j + 1 + 3 * k) else none
  | 0 => if k = 0 then some (j + 1) else if k = 1 then some (j + 2) else none
  | 10 => if k < 12 then some (j + 1 + k) else none
  | 11 => if k < 21 then some (j + 1 + 2 * k) else none
  | 3 => if k = 0 then some (j + 1) else none
  | 7 => if k = 2 then some 142 else if k < 4 then none else if k < 9 then some (k + 139) else if k = 9 then some 148 else some 162
  | 6 => if k < 3 then none else if k < 16 then some (j + (k - 2)) else some 141
  | _ => none
def ck (j c : Nat) : Bool := decide (j < 176) && decide (sk j = c)
def rf (j c k : Nat) : Option Nat := if ck j c = true then sr j k else none
def ia (j : Nat) (i : Int32) : Bool := ck j 8 && inb i (sl j)
def ea (j c : Nat) (i : Int32) : Option Nat := if (ck j c && inb i (sl j)) = true then sr j i.toNatClampNeg else none
theorem ck_of {j c : Nat} (h : ck j c = true) : j < 176 ∧ sk j = c := by simpa [ck] using h
theorem rf_of {j c k r : Nat} (h : rf j c k = some r) : j < 176 ∧ sk j = c ∧ sr j k = some r := by
  unfold rf at h
  split at h
  · rename_i h1; exact ⟨(ck_of h1).1, (ck_of h1).2, h⟩
  · cases h
theorem ia_of {j : Nat} {i : Int32} (h : ia j i = true) : j < 176 ∧ sk j = 8 ∧ vp_in i (sl j) := by
  unfold ia at h
  simp only [Bool.and_eq_true] at h
  exact ⟨(ck_of h.1).1, (ck_of h.1).2, (of_decide_eq_true (p := ¬ (i < 0 ∨ sl j ≤ i.toNatClampNeg)) h.2)⟩
theorem ea_of {j c r : Nat} {i : Int32} (h : ea j c i = some r) : j < 176 ∧ sk j = c ∧ vp_in i (sl j) ∧ sr j i.toNatClampNeg = some r := by
  unfold ea at h
  split at h
  · rename_i h1
    simp only [Bool.and_eq_true] at h1
    exact ⟨(ck_of h1.1).1, (ck_of h1.1).2, (of_decide_eq_true (p := ¬ (i < 0 ∨ sl j ≤ i.toNatClampNeg)) h1.2), h⟩
  · cases h
/-! the cells -/
def ce (cA : Nat → ClassId) (ad : Nat → Nat) (row : Nat → Int32) (j : Nat) : va_E := match sk j with
  | 0 => .inr (0, [va_re ad (sr j 0), va_re ad (sr j 1), .int (row 2), .int (row 3), .int (row 4), .int (row 5), .int (row 6), .int (row 7)])
  | 1 => .inr (1, [.int (row 0), .int (row 1)])
  | 2 => .inr (2, [.int (row 0), .int (row 1), .int (row 2), .int (row 3), .int (row 4)])
  | 3 => .inr (3, [va_re ad (sr j 0), .int (row 1), .int (row 2), .int (row 3), .int (row 4), .int (row 5), .int (row 6), .int (row 7)])
  | 4 => .inr (4, [va_re ad (sr j 0), va_re ad (sr j 1), va_re ad (sr j 2), .int (row 3), .int (row 4), .int (row 5), .int (row 6)])
  | 5 => .inr (5, [va_re ad (sr j 0), va_re ad (sr j 1)])
  | 6 => .inr (6, [.int (row 0), .int (row 1), .int (row 2), va_re ad (sr j 3), va_re ad (sr j 4), va_re ad (sr j 5), va_re ad (sr j 6), va_re ad (sr j 7), va_re ad (sr j 8), va_re ad (sr j 9), va_re ad (sr j 10), va_re ad (sr j 11), va_re ad (sr j 12), va_re ad (sr j 13), va_re ad (sr j 14), va_re ad (sr j 15), va_re ad (sr j 16)])
  | 7 => .inr (7, [.int (row 0), .int (row 1), va_re ad (sr j 2), .int (row 3), va_re ad (sr j 4), va_re ad (sr j 5), va_re ad (sr j 6), va_re ad (sr j 7), va_re ad (sr j 8), va_re ad (sr j 9), va_re ad (sr j 10)])
  | 9 => .inl (cA 1, sl j, .inr (.inr (.inr (.inr (fun i => (sr j i).map ad)))))
  | 10 => .inl (cA 2, sl j, .inr (.inr (.inr (.inr (fun i => (sr j i).map ad)))))
  | 11 => .inl (cA 3, sl j, .inr (.inr (.inr (.inr (fun i => (sr j i).map ad)))))
  | _ => .inl (cA 0, sl j, .inl row)
def wl (cA : Nat → ClassId) (ad : Nat → Nat) (σ : Mem) : va_W := (List.range 176).map (fun j => (ad j, ce cA ad (σ j) j))
theorem wl_get {cA : Nat → ClassId} {ad : Nat → Nat} {σ : Mem} {j : Nat} (h : j < 176) : (wl cA ad σ)[j]? = some (ad j, ce cA ad (σ j) j) := by
  simp [wl, List.getElem?_map, List.getElem?_range h]
theorem wl_of {cA : Nat → ClassId} {ad : Nat → Nat} {σ : Mem} {j : Nat} {q : Nat × va_E} (h : (wl cA ad σ)[j]? = some q) : j < 176 ∧ q = (ad j, ce cA ad (σ j) j) := by
  by_cases hj : j < 176
  · rw [wl_get hj] at h; cases h; exact ⟨hj, rfl⟩
  · rw [List.getElem?_eq_none (by simp [wl]; omega)] at h; cases h
theorem wl_set {cA : Nat → ClassId} {ad : Nat → Nat} {σ σ' : Mem} {j : Nat} {e : va_E} (hj : j < 176) (he : e = ce cA ad (σ' j) j) (ho : ∀ i, i ≠ j → σ' i = σ i) : (wl cA ad σ).set j (ad j, e) = wl cA ad σ' := by
  subst he
  apply List.ext_getElem?
  intro i
  by_cases hi : i = j
  · subst hi
    rw [List.getElem?_set_self (by simp [wl]; omega), wl_get hj]
  · rw [List.getElem?_set_ne (Ne.symm hi)]
    by_cases h : i < 176
    · rw [wl_get h, wl_get h, ho i hi]
    · rw [List.getElem?_eq_none (by simp [wl]; omega), List.getElem?_eq_none (by simp [wl]; omega)]
theorem sI_self {σ : Mem} {j k : Nat} {x : Int32} : sI σ j k x j = upd (σ j) k x := by simp [sI]
theorem sI_other {σ : Mem} {j k : Nat} {x : Int32} : ∀ i, i ≠ j → sI σ j k x i = σ i := fun i h => by simp [sI, h]
/-! the world -/
abbrev GT : Type := (Nat → ClassId) × (Nat → Nat → Nat) × (Nat → ClassId) × Nat
def tyG (g : GT) : List (ClassId × FieldType) := [(g.2.2.1 0, .int), (g.2.2.1 1, .object RX0), (g.2.2.1 2, .object RX2), (g.2.2.1 3, .object RX3), (g.2.2.1 4, .long)]
def ZQ (g : GT) (U : State) (H : Heap) : Prop := vx_Zq Bundle.tN "UNASSIGNED_STACK" Bundle.steD (fun q => g.2.2.2 ≤ q) U H ∧ vx_Zq Bundle.tN "SUPPRESSED_SENTINEL" Bundle.listD (fun q => g.2.2.2 ≤ q) U H
def AA (g : GT) (ad : Nat → Nat) (w : Bool) (b : Nat) : Nat → Prop := fun q => (w = true ∧ ∃ j, j < 176 ∧ q = ad j) ∨ b ≤ q
def GW (g : GT) (ad : Nat → Nat) (σ : Mem) (U : State) : Prop := va_P (g.1, g.2.1) vwCl (wl g.2.2.1 ad σ) U.heap ∧ va_K (g.1, g.2.1) vwCl (tyG g) U ∧ va_D (fun q => g.2.2.2 ≤ q) (wl g.2.2.1 ad σ) ∧ ZQ g U U.heap
def PB (g : GT) (ad : Nat → Nat) (σ : Mem) (b : Nat) (U : State) : Prop := GW g ad σ U ∧ g.2.2.2 ≤ b ∧ b ≤ U.heap.size
def GA (g : GT) (ad : Nat → Nat) (σ : Mem) (w : Bool) (b : Nat) (s : State) (H : Heap) (locs : List Loc) : Prop := va_P (g.1, g.2.1) vwCl (wl g.2.2.1 ad σ) H ∧ va_K (g.1, g.2.1) vwCl (tyG g) s ∧ va_D (fun q => g.2.2.2 ≤ q) (wl g.2.2.1 ad σ) ∧ va_S (AA g ad w b) s.heap H locs ∧ ZQ g s s.heap ∧ g.2.2.2 ≤ b ∧ b ≤ s.heap.size
theorem AA_base {g : GT} {ad : Nat → Nat} {w : Bool} {b : Nat} {σ : Mem} (hD : va_D (fun q => g.2.2.2 ≤ q) (wl g.2.2.1 ad σ)) (hb : g.2.2.2 ≤ b) {q : Nat} (h : AA g ad w b q) : g.2.2.2 ≤ q := by
  rcases h with ⟨-, j, hj, rfl⟩ | h
  · exact hD.2 j (ad j, ce g.2.2.1 ad (σ j) j) (wl_get hj)
  · exact Nat.le_trans hb h
theorem wl_D {g : GT} {ad : Nat → Nat} {σ σ' : Mem} {A : Nat → Prop} (hD : va_D A (wl g.2.2.1 ad σ)) : va_D A (wl g.2.2.1 ad σ') := by
  refine ⟨fun i j p q hp hq e => ?_, fun k q hk => ?_⟩
  · obtain ⟨hi, rfl⟩ := wl_of hp
    obtain ⟨hj, rfl⟩ := wl_of hq
    exact hD.1 i j _ _ (wl_get hi) (wl_get hj) e
  · obtain ⟨hi, rfl⟩ := wl_of hk
    exact hD.2 k (ad k, ce g.2.2.1 ad (σ k) k) (wl_get hi)
theorem GA_start {g : GT} {ad : Nat → Nat} {σ : Mem} {w : Bool} {b : Nat} {s : State} (h : PB g ad σ b s) : GA g ad σ w b s s.heap [] := ⟨h.1.1, h.1.2.1, h.1.2.2.1, va_S.rf, h.1.2.2.2, h.2.1, h.2.2⟩
theorem GA_go {g : GT} {ad : Nat → Nat} {σ : Mem} {w : Bool} {b : Nat} {s U : State} {H : Heap} {locs : List Loc} (h : GA g ad σ w b s H locs) (hU : U.heap = H) (hvm : s.vm.Alike U.vm) : ZQ g U U.heap := by
  obtain ⟨hP, hK, hD, hS, hZ, hb, hbs⟩ := h
  have hk : ∀ a : Nat, a < s.heap.size → ¬ (fun q => g.2.2.2 ≤ q) a → H[a]? = s.heap[a]? := fun a h1 h2 => hS.2.1 a h1 (fun z => h2 (AA_base hD hb z))
  rw [hU]
  exact ⟨(hZ.1.kept hk).moved hvm, (hZ.2.kept hk).moved hvm⟩
theorem GA_world {g : GT} {ad : Nat → Nat} {σ : Mem} {w : Bool} {b : Nat} {s U : State} {H : Heap} {locs : List Loc} (h : GA g ad σ w b s H locs) (hU : U.heap = H) (hvm : s.vm.Alike U.vm) : GW g ad σ U :=
  ⟨by rw [hU]; exact h.1, va_K.moved hvm h.2.1, h.2.2.1, GA_go h hU hvm⟩
theorem GA_pre {g : GT} {ad : Nat → Nat} {σ : Mem} {w : Bool} {b : Nat} {s U : State} {H : Heap} {locs : List Loc} (h : GA g ad σ w b s H locs) (hU : U.heap = H) (hvm : s.vm.Alike U.vm) : PB g ad σ b U :=
  ⟨GA_world h hU hvm, h.2.2.2.2.2.1, by rw [hU]; exact Nat.le_trans h.2.2.2.2.2.2 h.2.2.2.1.1⟩
theorem GA_next {g : GT} {ad : Nat → Nat} {σ σ1 : Mem} {w : Bool} {b : Nat} {s t : State} {H H1 : Heap} {locs locs1 : List Loc} (h : GA g ad σ w b s H locs) (ht : t.heap = H1) (hB : GW g ad σ1 t) (hS : va_S (AA g ad w b) s.heap H1 locs1) : GA g ad σ1 w b s H1 locs1 :=
  ⟨by rw [← ht]; exact hB.1, h.2.1, hB.2.2.1, hS, h.2.2.2.2.1, h.2.2.2.2.2.1, h.2.2.2.2.2.2⟩
theorem GA_Dw {g : GT} {ad : Nat → Nat} {σ : Mem} {b : Nat} {s : State} {H : Heap} {locs : List Loc} (h : GA g ad σ true b s H locs) : va_D (AA g ad true b) (wl g.2.2.1 ad σ) :=
  h.2.2.1.weaken (fun k q hk _ => by obtain ⟨hj, rfl⟩ := wl_of hk; exact Or.inl ⟨rfl, k, hj, rfl⟩)
theorem GA_wrote {g : GT} {ad : Nat → Nat} {σ σ1 : Mem} {b : Nat} {s : State} {H H1 : Heap} {locs locs1 : List Loc} {j : Nat} {e : va_E} (h : GA g ad σ true b s H locs) (hj : j < 176) (he : e = ce g.2.2.1 ad (σ1 j) j) (ho : ∀ i, i ≠ j → σ1 i = σ i) (hP : va_P (g.1, g.2.1) vwCl ((wl g.2.2.1 ad σ).set j (ad j, e)) H1) (hS : va_S (AA g ad true b) s.heap H1 locs1) : GA g ad σ1 true b s H1 locs1 :=
  ⟨by rw [← wl_set hj he ho]; exact hP, h.2.1, wl_D h.2.2.1, hS, h.2.2.2.2.1, h.2.2.2.2.2.1, h.2.2.2.2.2.2⟩
theorem blind {g : GT} {ad : Nat → Nat} {σ : Mem} {b : Nat} {av : List Value} : FrameBlind (va_Pc av (PB g ad σ b)) := by
  intro a U f mk q
  obtain ⟨e, ⟨h1, h2, h3, h4⟩, h5, h6⟩ := q
  exact ⟨e, ⟨h1, va_K.moved (u := U) (U := U.calling f mk a) (Vm.Alike.refl U.vm) h2, h3, ⟨vx_Zq.moved (u := U) (U := U.calling f mk a) (Vm.Alike.refl U.vm) h4.1, vx_Zq.moved (u := U) (U := U.calling f mk a) (Vm.Alike.refl U.vm) h4.2⟩⟩, h5, h6⟩

theorem ce_hd {cA : Nat → ClassId} {ad : Nat → Nat} {row : Nat → Int32} {j ci : Nat} (h : sk j = ci) (h8 : ci < 8) : ∃ fs, ce cA ad row j = .inr (ci, fs) := by
  unfold ce
  rw [h]
  match ci, h8 with
  | 0, _ => exact ⟨_, rfl⟩
  | 1, _ => exact ⟨_, rfl⟩
  | 2, _ => exact ⟨_, rfl⟩
  | 3, _ => exact ⟨_, rfl⟩
  | 4, _ => exact ⟨_, rfl⟩
  | 5, _ => exact ⟨_, rfl⟩
  | 6, _ => exact ⟨_, rfl⟩
  | 7, _ => exact ⟨_, rfl⟩
theorem ce_0 {cA : Nat → ClassId} {ad : Nat → Nat} {row : Nat → Int32} {j : Nat} (h : sk j = 0) : ce cA ad row j = .inr (0, [va_re ad (sr j 0), va_re ad (sr j 1), .int (row 2), .int (row 3), .int (row 4), .int (row 5), .int (row 6), .int (row 7)]) := by unfold ce; simp only [h]
theorem ce_1 {cA : Nat → ClassId} {ad : Nat → Nat} {row : Nat → Int32} {j : Nat} (h : sk j = 1) : ce cA ad row j = .inr (1, [.int (row 0), .int (row 1)]) := by unfold ce; simp only [h]
theorem ce_2 {cA : Nat → ClassId} {ad : Nat → Nat} {row : Nat → Int32} {j : Nat} (h : sk j = 2) : ce cA ad row j = .inr (2, [.int (row 0), .int (row 1), .int (row 2), .int (row 3), .int (row 4)]) := by unfold ce; simp only [h]
theorem ce_3 {cA : Nat → ClassId} {ad : Nat → Nat} {row : Nat → Int32} {j : Nat} (h : sk j = 3) : ce cA ad row j = .inr (3, [va_re ad (sr j 0), .int (row 1), .int (row 2), .int (row 3), .int (row 4), .int (row 5), .int (row 6), .int (row 7)]) := by unfold ce; simp only [h]
theorem ce_4 {cA : Nat → ClassId} {ad : Nat → Nat} {row : Nat → Int32} {j : Nat} (h : sk j = 4) : ce cA ad row j = .inr (4, [va_re ad (sr j 0), va_re ad (sr j 1), va_re ad (sr j 2), .int (row 3), .int (row 4), .int (row 5), .int (row 6)]) := by unfold ce; simp only [h]
theorem ce_5 {cA : Nat → ClassId} {ad : Nat → Nat} {row : Nat → Int32} {j : Nat} (h : sk j = 5) : ce cA ad row j = .inr (5, [va_re ad (sr j 0), va_re ad (sr j 1)]) := by unfold ce; simp only [h]
theorem ce_6 {cA : Nat → ClassId} {ad : Nat → Nat} {row : Nat → Int32} {j : Nat} (h : sk j = 6) : ce cA ad row j = .inr (6, [.int (row 0), .int (row 1), .int (row 2), va_re ad (sr j 3), va_re ad (sr j 4), va_re ad (sr j 5), va_re ad (sr j 6), va_re ad (sr j 7), va_re ad (sr j 8), va_re ad (sr j 9), va_re ad (sr j 10), va_re ad (sr j 11), va_re ad (sr j 12), va_re ad (sr j 13), va_re ad (sr j 14), va_re ad (sr j 15), va_re ad (sr j 16)]) := by unfold ce; simp only [h]
theorem ce_7 {cA : Nat → ClassId} {ad : Nat → Nat} {row : Nat → Int32} {j : Nat} (h : sk j = 7) : ce cA ad row j = .inr (7, [.int (row 0), .int (row 1), va_re ad (sr j 2), .int (row 3), va_re ad (sr j 4), va_re ad (sr j 5), va_re ad (sr j 6), va_re ad (sr j 7), va_re ad (sr j 8), va_re ad (sr j 9), va_re ad (sr j 10)]) := by unfold ce; simp only [h]
theorem ce_8 {cA : Nat → ClassId} {ad : Nat → Nat} {row : Nat → Int32} {j : Nat} (h : sk j = 8) : ce cA ad row j = .inl (cA 0, sl j, .inl row) := by unfold ce; simp only [h]
theorem ce_9 {cA : Nat → ClassId} {ad : Nat → Nat} {row : Nat → Int32} {j : Nat} (h : sk j = 9) : ce cA ad row j = .inl (cA 1, sl j, .inr (.inr (.inr (.inr (fun i => (sr j i).map ad))))) := by unfold ce; simp only [h]
theorem ce_10 {cA : Nat → ClassId} {ad : Nat → Nat} {row : Nat → Int32} {j : Nat} (h : sk j = 10) : ce cA ad row j = .inl (cA 2, sl j, .inr (.inr (.inr (.inr (fun i => (sr j i).map ad))))) := by unfold ce; simp only [h]
theorem ce_11 {cA : Nat → ClassId} {ad : Nat → Nat} {row : Nat → Int32} {j : Nat} (h : sk j = 11) : ce cA ad row j = .inl (cA 3, sl j, .inr (.inr (.inr (.inr (fun i => (sr j i).map ad))))) := by unfold ce; simp only [h]
theorem wg_0 {cA : Nat → ClassId} {ad : Nat → Nat} {σ : Mem} {j : Nat} (h : j < 176 ∧ sk j = 0) : (wl cA ad σ)[j]? = some (ad j, .inr (0, [va_re ad (sr j 0), va_re ad (sr j 1), .int (σ j 2), .int (σ j 3), .int (σ j 4), .int (σ j 5), .int (σ j 6), .int (σ j 7)])) := (wl_get h.1).trans (congrArg (fun z => some (ad j, z)) (ce_0 h.2))
theorem wg_1 {cA : Nat → ClassId} {ad : Nat → Nat} {σ : Mem} {j : Nat} (h : j < 176 ∧ sk j = 1) : (wl cA ad σ)[j]? = some (ad j, .inr (1, [.int (σ j 0), .int (σ j 1)])) := (wl_get h.1).trans (congrArg (fun z => some (ad j, z)) (ce_1 h.2))
theorem wg_2 {cA : Nat → ClassId} {ad : Nat → Nat} {σ : Mem} {j : Nat} (h : j < 176 ∧ sk j = 2) : (wl cA ad σ)[j]? = some (ad j, .inr (2, [.int (σ j 0), .int (σ j 1), .int (σ j 2), .int (σ j 3), .int (σ j 4)])) := (wl_get h.1).trans (congrArg (fun z => some (ad j, z)) (ce_2 h.2))
theorem wg_3 {cA : Nat → ClassId} {ad : Nat → Nat} {σ : Mem} {j : Nat} (h : j < 176 ∧ sk j = 3) : (wl cA ad σ)[j]? = some (ad j, .inr (3, [va_re ad (sr j 0), .int (σ j 1), .int (σ j 2), .int (σ j 3), .int (σ j 4), .int (σ j 5), .int (σ j 6), .int (σ j 7)])) := (wl_get h.1).trans (congrArg (fun z => some (ad j, z)) (ce_3 h.2))
theorem wg_4 {cA : Nat → ClassId} {ad : Nat → Nat} {σ : Mem} {j : Nat} (h : j < 176 ∧ sk j = 4) : (wl cA ad σ)[j]? = some (ad j, .inr (4, [va_re ad (sr j 0), va_re ad (sr j 1), va_re ad (sr j 2), .int (σ j 3), .int (σ j 4), .int (σ j 5), .int (σ j 6)])) := (wl_get h.1).trans (congrArg (fun z => some (ad j, z)) (ce_4 h.2))
theorem wg_5 {cA : Nat → ClassId} {ad : Nat → Nat} {σ : Mem} {j : Nat} (h : j < 176 ∧ sk j = 5) : (wl cA ad σ)[j]? = some (ad j, .inr (5, [va_re ad (sr j 0), va_re ad (sr j 1)])) := (wl_get h.1).trans (congrArg (fun z => some (ad j, z)) (ce_5 h.2))
theorem wg_6 {cA : Nat → ClassId} {ad : Nat → Nat} {σ : Mem} {j : Nat} (h : j < 176 ∧ sk j = 6) : (wl cA ad σ)[j]? = some (ad j, .inr (6, [.int (σ j 0), .int (σ j 1), .int (σ j 2), va_re ad (sr j 3), va_re ad (sr j 4), va_re ad (sr j 5), va_re ad (sr j 6), va_re ad (sr j 7), va_re ad (sr j 8), va_re ad (sr j 9), va_re ad (sr j 10), va_re ad (sr j 11), va_re ad (sr j 12), va_re ad (sr j 13), va_re ad (sr j 14), va_re ad (sr j 15), va_re ad (sr j 16)])) := (wl_get h.1).trans (congrArg (fun z => some (ad j, z)) (ce_6 h.2))
theorem wg_7 {cA : Nat → ClassId} {ad : Nat → Nat} {σ : Mem} {j : Nat} (h : j < 176 ∧ sk j = 7) : (wl cA ad σ)[j]? = some (ad j, .inr (7, [.int (σ j 0), .int (σ j 1), va_re ad (sr j 2), .int (σ j 3), va_re ad (sr j 4), va_re ad (sr j 5), va_re ad (sr j 6), va_re ad (sr j 7), va_re ad (sr j 8), va_re ad (sr j 9), va_re ad (sr j 10)])) := (wl_get h.1).trans (congrArg (fun z => some (ad j, z)) (ce_7 h.2))
theorem wg_8 {cA : Nat → ClassId} {ad : Nat → Nat} {σ : Mem} {j : Nat} (h : j < 176 ∧ sk j = 8) : (wl cA ad σ)[j]? = some (ad j, .inl (cA 0, sl j, .inl (σ j))) := (wl_get h.1).trans (congrArg (fun z => some (ad j, z)) (ce_8 h.2))
theorem wg_9 {cA : Nat → ClassId} {ad : Nat → Nat} {σ : Mem} {j : Nat} (h : j < 176 ∧ sk j = 9) : (wl cA ad σ)[j]? = some (ad j, .inl (cA 1, sl j, .inr (.inr (.inr (.inr (fun i => (sr j i).map ad)))))) := (wl_get h.1).trans (congrArg (fun z => some (ad j, z)) (ce_9 h.2))
theorem wg_10 {cA : Nat → ClassId} {ad : Nat → Nat} {σ : Mem} {j : Nat} (h : j < 176 ∧ sk j = 10) : (wl cA ad σ)[j]? = some (ad j, .inl (cA 2, sl j, .inr (.inr (.inr (.inr (fun i => (sr j i).map ad)))))) := (wl_get h.1).trans (congrArg (fun z => some (ad j, z)) (ce_10 h.2))
theorem wg_11 {cA : Nat → ClassId} {ad : Nat → Nat} {σ : Mem} {j : Nat} (h : j < 176 ∧ sk j = 11) : (wl cA ad σ)[j]? = some (ad j, .inl (cA 3, sl j, .inr (.inr (.inr (.inr (fun i => (sr j i).map ad)))))) := (wl_get h.1).trans (congrArg (fun z => some (ad j, z)) (ce_11 h.2))
theorem inX0t : ∀ w ∈ wsX00, w ∈ lw_tbl := by
  show ∀ w ∈ [u_lay RX0 TX0 0, u_lay RX0 TX0 1, u_lay RX0 TX0 2, u_lay RX0 TX0 3, u_lay RX0 TX0 4, u_lay RX0 TX0 5, u_lay RX0 TX0 6, u_lay RX0 TX0 7], w ∈ lw_tbl
  exact List.forall_mem_cons.mpr ⟨tq1 (List.mem_of_getElem? (i := 71) rfl), List.forall_mem_cons.mpr ⟨tq1 (List.mem_of_getElem? (i := 73) rfl), List.forall_mem_cons.mpr ⟨tq1 (List.mem_of_getElem? (i := 75) rfl), List.forall_mem_cons.mpr ⟨tq1 (List.mem_of_getElem? (i := 77) rfl), List.forall_mem_cons.mpr ⟨tq1 (List.mem_of_getElem? (i := 79) rfl), List.forall_mem_cons.mpr ⟨tq1 (List.mem_of_getElem? (i := 81) rfl), List.forall_mem_cons.mpr ⟨tq1 (List.mem_of_getElem? (i := 83) rfl), List.forall_mem_cons.mpr ⟨tq1 (List.mem_of_getElem? (i := 85) rfl), fun _ h => absurd h List.not_mem_nil⟩⟩⟩⟩⟩⟩⟩⟩
theorem inX1t : ∀ w ∈ wsX10, w ∈ lw_tbl := by
  show ∀ w ∈ [u_lay RX1 TX1 0, u_lay RX1 TX1 1], w ∈ lw_tbl
  exact List.forall_mem_cons.mpr ⟨tq1 (List.mem_of_getElem? (i := 48) rfl), List.forall_mem_cons.mpr ⟨tq1 (List.mem_of_getElem? (i := 50) rfl), fun _ h => absurd h List.not_mem_nil⟩⟩
theorem inX2t : ∀ w ∈ wsX20, w ∈ lw_tbl := by
  show ∀ w ∈ [u_lay RX2 TX2 0, u_lay RX2 TX2 1, u_lay RX2 TX2 2, u_lay RX2 TX2 3, u_lay RX2 TX2 4], w ∈ lw_tbl
  exact List.forall_mem_cons.mpr ⟨tq1 (List.mem_of_getElem? (i := 105) rfl), List.forall_mem_cons.mpr ⟨tq1 (List.mem_of_getElem? (i := 107) rfl), List.forall_mem_cons.mpr ⟨tq1 (List.mem_of_getElem? (i := 109) rfl), List.forall_mem_cons.mpr ⟨tq1 (List.mem_of_getElem? (i := 111) rfl), List.forall_mem_cons.mpr ⟨tq1 (List.mem_of_getElem? (i := 113) rfl), fun _ h => absurd h List.not_mem_nil⟩⟩⟩⟩⟩
theorem inX3t : ∀ w ∈ wsX30, w ∈ lw_tbl := by
  show ∀ w ∈ [u_lay RX3 TX3 0, u_lay RX3 TX3 1, u_lay RX3 TX3 2, u_lay RX3 TX3 3, u_lay RX3 TX3 4, u_lay RX3 TX3 5, u_lay RX3 TX3 6, u_lay RX3 TX3 7], w ∈ lw_tbl
  exact List.forall_mem_cons.mpr ⟨tq1 (List.mem_of_getElem? (i := 136) rfl), List.forall_mem_cons.mpr ⟨tq1 (List.mem_of_getElem? (i := 138) rfl), List.forall_mem_cons.mpr ⟨tq1 (List.mem_of_getElem? (i := 140) rfl), List.forall_mem_cons.mpr ⟨tq1 (List.mem_of_getElem? (i := 142) rfl), List.forall_mem_cons.mpr ⟨tq1 (List.mem_of_getElem? (i := 144) rfl), List.forall_mem_cons.mpr ⟨tq1 (List.mem_of_getElem? (i := 146) rfl), List.forall_mem_cons.mpr ⟨tq1 (List.mem_of_getElem? (i := 148) rfl), List.forall_mem_cons.mpr ⟨tq1 (List.mem_of_getElem? (i := 150) rfl), fun _ h => absurd h List.not_mem_nil⟩⟩⟩⟩⟩⟩⟩⟩
theorem inX4t : ∀ w ∈ wsX40, w ∈ lw_tbl := by
  show ∀ w ∈ [u_lay RX4 TX4 0, u_lay RX4 TX4 1, u_lay RX4 TX4 2, u_lay RX4 TX4 3, u_lay RX4 TX4 4, u_lay RX4 TX4 5, u_lay RX4 TX4 6], w ∈ lw_tbl
  exact List.forall_mem_cons.mpr ⟨tq1 (List.mem_of_getElem? (i := 167) rfl), List.forall_mem_cons.mpr ⟨tq1 (List.mem_of_getElem? (i := 169) rfl), List.forall_mem_cons.mpr ⟨tq1 (List.mem_of_getElem? (i := 171) rfl), List.forall_mem_cons.mpr ⟨tq1 (List.mem_of_getElem? (i := 173) rfl), List.forall_mem_cons.mpr ⟨tq1 (List.mem_of_getElem? (i := 175) rfl), List.forall_mem_cons.mpr ⟨tq1 (List.mem_of_getElem? (i := 177) rfl), List.forall_mem_cons.mpr ⟨tq1 (List.mem_of_getElem? (i := 179) rfl), fun _ h => absurd h List.not_mem_nil⟩⟩⟩⟩⟩⟩⟩
theorem inX5t : ∀ w ∈ wsX50, w ∈ lw_tbl := by
  show ∀ w ∈ [u_lay RX5 TX5 0, u_lay RX5 TX5 1], w ∈ lw_tbl
  exact List.forall_mem_cons.mpr ⟨tq1 (List.mem_of_getElem? (i := 184) rfl), List.forall_mem_cons.mpr ⟨tq1 (List.mem_of_getElem? (i := 186) rfl), fun _ h => absurd h List.not_mem_nil⟩⟩
theorem inX6t : ∀ w ∈ wsX60, w ∈ lw_tbl := by
  show ∀ w ∈ [u_lay RX6 TX6 0, u_lay RX6 TX6 1, u_lay RX6 TX6 2, u_lay RX6 TX6 3, u_lay RX6 TX6 4, u_lay RX6 TX6 5, u_lay RX6 TX6 6, u_lay RX6 TX6 7, u_lay RX6 TX6 8, u_lay RX6 TX6 9, u_lay RX6 TX6 10, u_lay RX6 TX6 11, u_lay RX6 TX6 12, u_lay RX6 TX6 13, u_lay RX6 TX6 14, u_lay RX6 TX6 15, u_lay RX6 TX6 16], w ∈ lw_tbl
  exact List.forall_mem_cons.mpr ⟨tq3 (List.mem_of_getElem? (i := 220) rfl), List.forall_mem_cons.mpr ⟨tq3 (List.mem_of_getElem? (i := 222) rfl), List.forall_mem_cons.mpr ⟨tq3 (List.mem_of_getElem? (i := 224) rfl), List.forall_mem_cons.mpr ⟨tq3 (List.mem_of_getElem? (i := 226) rfl), List.forall_mem_cons.mpr ⟨tq3 (List.mem_of_getElem? (i := 228) rfl), List.forall_mem_cons.mpr ⟨tq3 (List.mem_of_getElem? (i := 230) rfl), List.forall_mem_cons.mpr ⟨tq3 (List.mem_of_getElem? (i := 232) rfl), List.forall_mem_cons.mpr ⟨tq3 (List.mem_of_getElem? (i := 234) rfl), List.forall_mem_cons.mpr ⟨tq3 (List.mem_of_getElem? (i := 236) rfl), List.forall_mem_cons.mpr ⟨tq3 (List.mem_of_getElem? (i := 238) rfl), List.forall_mem_cons.mpr ⟨tq4 (List.mem_of_getElem? (i := 0) rfl), List.forall_mem_cons.mpr ⟨tq4 (List.mem_of_getElem? (i := 2) rfl), List.forall_mem_cons.mpr ⟨tq4 (List.mem_of_getElem? (i := 4) rfl), List.forall_mem_cons.mpr ⟨tq4 (List.mem_of_getElem? (i := 6) rfl), List.forall_mem_cons.mpr ⟨tq4 (List.mem_of_getElem? (i := 8) rfl), List.forall_mem_cons.mpr ⟨tq4 (List.mem_of_getElem? (i := 10) rfl), List.forall_mem_cons.mpr ⟨tq4 (List.mem_of_getElem? (i := 12) rfl), fun _ h => absurd h List.not_mem_nil⟩⟩⟩⟩⟩⟩⟩⟩⟩⟩⟩⟩⟩⟩⟩⟩⟩
theorem inX7t : ∀ w ∈ wsX70, w ∈ lw_tbl := by
  show ∀ w ∈ [u_lay RX7 TX7 0, u_lay RX7 TX7 1, u_lay RX7 TX7 2, u_lay RX7 TX7 3, u_lay RX7 TX7 4, u_lay RX7 TX7 5, u_lay RX7 TX7 6, u_lay RX7 TX7 7, u_lay RX7 TX7 8, u_lay RX7 TX7 9, u_lay RX7 TX7 10], w ∈ lw_tbl
  exact List.forall_mem_cons.mpr ⟨tq4 (List.mem_of_getElem? (i := 32) rfl), List.forall_mem_cons.mpr ⟨tq4 (List.mem_of_getElem? (i := 34) rfl), List.forall_mem_cons.mpr ⟨tq4 (List.mem_of_getElem? (i := 36) rfl), List.forall_mem_cons.mpr ⟨tq4 (List.mem_of_getElem? (i := 38) rfl), List.forall_mem_cons.mpr ⟨tq4 (List.mem_of_getElem? (i := 40) rfl), List.forall_mem_cons.mpr ⟨tq4 (List.mem_of_getElem? (i := 42) rfl), List.forall_mem_cons.mpr ⟨tq4 (List.mem_of_getElem? (i := 44) rfl), List.forall_mem_cons.mpr ⟨tq4 (List.mem_of_getElem? (i := 46) rfl), List.forall_mem_cons.mpr ⟨tq4 (List.mem_of_getElem? (i := 48) rfl), List.forall_mem_cons.mpr ⟨tq4 (List.mem_of_getElem? (i := 50) rfl), List.forall_mem_cons.mpr ⟨tq4 (List.mem_of_getElem? (i := 52) rfl), fun _ h => absurd h List.not_mem_nil⟩⟩⟩⟩⟩⟩⟩⟩⟩⟩⟩
theorem inX0 : ∀ w ∈ wsX00, w ∈ AL := fun w h => AL_in (inX0t w h) (List.all_eq_true.mp (show wsX00.all goodWord = true by decide +kernel) w h)
theorem inX1 : ∀ w ∈ wsX10, w ∈ AL := fun w h => AL_in (inX1t w h) (List.all_eq_true.mp (show wsX10.all goodWord = true by decide +kernel) w h)
theorem inX2 : ∀ w ∈ wsX20, w ∈ AL := fun w h => AL_in (inX2t w h) (List.all_eq_true.mp (show wsX20.all goodWord = true by decide +kernel) w h)
theorem inX3 : ∀ w ∈ wsX30, w ∈ AL := fun w h => AL_in (inX3t w h) (List.all_eq_true.mp (show wsX30.all goodWord = true by decide +kernel) w h)
theorem inX4 : ∀ w ∈ wsX40, w ∈ AL := fun w h => AL_in (inX4t w h) (List.all_eq_true.mp (show wsX40.all goodWord = true by decide +kernel) w h)
theorem inX5 : ∀ w ∈ wsX50, w ∈ AL := fun w h => AL_in (inX5t w h) (List.all_eq_true.mp (show wsX50.all goodWord = true by decide +kernel) w h)
theorem inX6 : ∀ w ∈ wsX60, w ∈ AL := fun w h => AL_in (inX6t w h) (List.all_eq_true.mp (show wsX60.all goodWord = true by decide +kernel) w h)
theorem inX7 : ∀ w ∈ wsX70, w ∈ AL := fun w h => AL_in (inX7t w h) (List.all_eq_true.mp (show wsX70.all goodWord = true by decide +kernel) w h)
section RW
variable {p : Program} {l : Launch} {e : Env} {R : Room} {s : State} {m : MethodId} {args : Array Value} {below : List Frame} {meth : Method} {c : Code} {H : Heap} {locs : List Loc} {cells slots : Nat} {Q : State → Prop} {P : Prop} {cc : ByteArray} {nL : Nat} {Ts : List Cond} {own : String} {pc : Nat} {ls : Array Slot} {rest : List Value} {lv lv' : List (Nat × Value)} {α : Type} {X Y : Option α} {res : α} {g : GT} {ad : Nat → Nat} {σ : Mem} {w : Bool} {b : Nat}
theorem v_iload_n {k : Fin 4} {i : Nat} {x : Int32} (S : CallFix p m c cc nL s args Ts own) (hl : lv_has ls nL lv) (n : Nat) (hk : lv[n]? = some (i, .int x)) (hi : (k : Nat) = i) (hdg : decode cc pc = .ok (.iload_n k, 1)) (kk : P → W p l e R s m args below meth c H locs cells slots Q (F0 m (pc + 1) ls (.int x :: rest))) : P → W p l e R s m args below meth c H locs cells slots Q (F0 m pc ls rest) := fun h => lv_iload_n S.1 S.2.1 hdg hi (lv_at hl n hk) (kk h)
theorem v_iload {i : Nat} {x : Int32} (S : CallFix p m c cc nL s args Ts own) (hl : lv_has ls nL lv) (n : Nat) (hk : lv[n]? = some (i, .int x)) (hdg : decode cc pc = .ok (.iload i, 2)) (kk : P → W p l e R s m args below meth c H locs cells slots Q (F0 m (pc + 2) ls (.int x :: rest))) : P → W p l e R s m args below meth c H locs cells slots Q (F0 m pc ls rest) := fun h => lv_iload S.1 S.2.1 hdg (lv_at hl n hk) (kk h)
theorem v_lload_n {k : Fin 4} {i : Nat} {x : Int64} (S : CallFix p m c cc nL s args Ts own) (hl : lv_has ls nL lv) (n : Nat) (hk : lv[n]? = some (i, .long x)) (hi : (k : Nat) = i) (hdg : decode cc pc = .ok (.lload_n k, 1)) (kk : P → W p l e R s m args below meth c H locs cells slots Q (F0 m (pc + 1) ls (.long x :: rest))) : P → W p l e R s m args below meth c H locs cells slots Q (F0 m pc ls rest) := fun h => lv_lload_n S.1 S.2.1 hdg hi (lv_at hl n hk) (kk h)
theorem v_lload {i : Nat} {x : Int64} (S : CallFix p m c cc nL s args Ts own) (hl : lv_has ls nL lv) (n : Nat) (hk : lv[n]? = some (i, .long x)) (hdg : decode cc pc = .ok (.lload i, 2)) (kk : P → W p l e R s m args below meth c H locs cells slots Q (F0 m (pc + 2) ls (.long x :: rest))) : P → W p l e R s m args below meth c H locs cells slots Q (F0 m pc ls rest) := fun h => lv_lload S.1 S.2.1 hdg (lv_at hl n hk) (kk h)
theorem v_aload_n {k : Fin 4} {i : Nat} {x : Nat} (S : CallFix p m c cc nL s args Ts own) (hl : lv_has ls nL lv) (n : Nat) (hk : lv[n]? = some (i, .ref x)) (hi : (k : Nat) = i) (hdg : decode cc pc = .ok (.aload_n k, 1)) (kk : P → W p l e R s m args below meth c H locs cells slots Q (F0 m (pc + 1) ls (.ref x :: rest))) : P → W p l e R s m args below meth c H locs cells slots Q (F0 m pc ls rest) := fun h => lv_aload_n S.1 S.2.1 hdg hi (lv_at hl n hk) (kk h)
theorem v_aload {i : Nat} {x : Nat} (S : CallFix p m c cc nL s args Ts own) (hl : lv_has ls nL lv) (n : Nat) (hk : lv[n]? = some (i, .ref x)) (hdg : decode cc pc = .ok (.aload i, 2)) (kk : P → W p l e R s m args below meth c H locs cells slots Q (F0 m (pc + 2) ls (.ref x :: rest))) : P → W p l e R s m args below meth c H locs cells slots Q (F0 m pc ls rest) := fun h => lv_aload S.1 S.2.1 hdg (lv_at hl n hk) (kk h)
theorem v_dload_n {k : Fin 4} {i : Nat} {x : UInt64} (S : CallFix p m c cc nL s args Ts own) (hl : lv_has ls nL lv) (n : Nat) (hk : lv[n]? = some (i, .double x)) (hi : (k : Nat) = i) (hdg : decode cc pc = .ok (.dload_n k, 1)) (kk : P → W p l e R s m args below meth c H locs cells slots Q (F0 m (pc + 1) ls (.double x :: rest))) : P → W p l e R s m args below meth c H locs cells slots Q (F0 m pc ls rest) := fun h => lv_dload_n S.1 S.2.1 hdg hi (lv_at hl n hk) (kk h)
theorem v_dload {i : Nat} {x : UInt64} (S : CallFix p m c cc nL s args Ts own) (hl : lv_has ls nL lv) (n : Nat) (hk : lv[n]? = some (i, .double x)) (hdg : decode cc pc = .ok (.dload i, 2)) (kk : P → W p l e R s m args below meth c H locs cells slots Q (F0 m (pc + 2) ls (.double x :: rest))) : P → W p l e R s m args below meth c H locs cells slots Q (F0 m pc ls rest) := fun h => lv_dload S.1 S.2.1 hdg (lv_at hl n hk) (kk h)
theorem v_istore_n {k : Fin 4} {i : Nat} {x : Int32} (S : CallFix p m c cc nL s args Ts own) (hl : lv_has ls nL lv) (lv' : List (Nat × Value)) (hi : (k : Nat) = i) (hdg : decode cc pc = .ok (.istore_n k, 1)) (hn : i < nL) (hf : (i, Value.int x) :: lv.filter (fun q => !(q.1 == i) && !(q.1 + 1 == i && q.2.category == 2)) = lv') (kk : ∀ ls, lv_has ls nL lv' → P → W p l e R s m args below meth c H locs cells slots Q (F0 m (pc + 1) ls rest)) : P → W p l e R s m args below meth c H locs cells slots Q (F0 m pc ls (.int x :: rest)) := fun h => lv_istore_n S.1 S.2.1 hdg hi hl hn hf (fun ls hl => kk ls hl h)
theorem v_istore {i : Nat} {x : Int32} (S : CallFix p m c cc nL s args Ts own) (hl : lv_has ls nL lv) (lv' : List (Nat × Value)) (hdg : decode cc pc = .ok (.istore i, 2)) (hn : i < nL) (hf : (i, Value.int x) :: lv.filter (fun q => !(q.1 == i) && !(q.1 + 1 == i && q.2.category == 2)) = lv') (kk : ∀ ls, lv_has ls nL lv' → P → W p l e R s m args below meth c H locs cells slots Q (F0 m (pc + 2) ls rest)) : P → W p l e R s m args below meth c H locs cells slots Q (F0 m pc ls (.int x :: rest)) := fun h => lv_istore S.1 S.2.1 hdg hl hn hf (fun ls hl => kk ls hl h)
theorem v_lstore_n {k : Fin 4} {i : Nat} {x : Int64} (S : CallFix p m c cc nL s args Ts own) (hl : lv_has ls nL lv) (lv' : List (Nat × Value)) (hi : (k : Nat) = i) (hdg : decode cc pc = .ok (.lstore_n k, 1)) (hn : i + 1 < nL) (hf : (i, Value.long x) :: lv.filter (fun q => !(q.1 == i) && (!(q.1 == i + 1) && !(q.1 + 1 == i && q.2.category == 2))) = lv') (kk : ∀ ls, lv_has ls nL lv' → P → W p l e R s m args below meth c H locs cells slots Q (F0 m (pc + 1) ls rest)) : P → W p l e R s m args below meth c H locs cells slots Q (F0 m pc ls (.long x :: rest)) := fun h => lv_lstore_n S.1 S.2.1 hdg hi hl hn hf (fun ls hl => kk ls hl h)
theorem v_lstore {i : Nat} {x : Int64} (S : CallFix p m c cc nL s args Ts own) (hl : lv_has ls nL lv) (lv' : List (Nat × Value)) (hdg : decode cc pc = .ok (.lstore i, 2)) (hn : i + 1 < nL) (hf : (i, Value.long x) :: lv.filter (fun q => !(q.1 == i) && (!(q.1 == i + 1) && !(q.1 + 1 == i && q.2.category == 2))) = lv') (kk : ∀ ls, lv_has ls nL lv' → P → W p l e R s m args below meth c H locs cells slots Q (F0 m (pc + 2) ls rest)) : P → W p l e R s m args below meth c H locs cells slots Q (F0 m pc ls (.long x :: rest)) := fun h => lv_lstore S.1 S.2.1 hdg hl hn hf (fun ls hl => kk ls hl h)
theorem v_astore_n {k : Fin 4} {i : Nat} {x : Nat} (S : CallFix p m c cc nL s args Ts own) (hl : lv_has ls nL lv) (lv' : List (Nat × Value)) (hi : (k : Nat) = i) (hdg : decode cc pc = .ok (.astore_n k, 1)) (hn : i < nL) (hf : (i, Value.ref x) :: lv.filter (fun q => !(q.1 == i) && !(q.1 + 1 == i && q.2.category == 2)) = lv') (kk : ∀ ls, lv_has ls nL lv' → P → W p l e R s m args below meth c H locs cells slots Q (F0 m (pc + 1) ls rest)) : P → W p l e R s m args below meth c H locs cells slots Q (F0 m pc ls (.ref x :: rest)) := fun h => lv_astore_n S.1 S.2.1 hdg hi hl hn hf (fun ls hl => kk ls hl h)
theorem v_astore {i : Nat} {x : Nat} (S : CallFix p m c cc nL s args Ts own) (hl : lv_has ls nL lv) (lv' : List (Nat × Value)) (hdg : decode cc pc = .ok (.astore i, 2)) (hn : i < nL) (hf : (i, Value.ref x) :: lv.filter (fun q => !(q.1 == i) && !(q.1 + 1 == i && q.2.category == 2)) = lv') (kk : ∀ ls, lv_has ls nL lv' → P → W p l e R s m args below meth c H locs cells slots Q (F0 m (pc + 2) ls rest)) : P → W p l e R s m args below meth c H locs cells slots Q (F0 m pc ls (.ref x :: rest)) := fun h => lv_astore S.1 S.2.1 hdg hl hn hf (fun ls hl => kk ls hl h)
theorem v_dstore {i : Nat} {x : UInt64} (S : CallFix p m c cc nL s args Ts own) (hl : lv_has ls nL lv) (lv' : List (Nat × Value)) (hdg : decode cc pc = .ok (.dstore i, 2)) (hn : i + 1 < nL) (hf : (i, Value.double x) :: lv.filter (fun q => !(q.1 == i) && (!(q.1 == i + 1) && !(q.1 + 1 == i && q.2.category == 2))) = lv') (kk : ∀ ls, lv_has ls nL lv' → P → W p l e R s m args below meth c H locs cells slots Q (F0 m (pc + 2) ls rest)) : P → W p l e R s m args below meth c H locs cells slots Q (F0 m pc ls (.double x :: rest)) := fun h => lv_dstore S.1 S.2.1 hdg hl hn hf (fun ls hl => kk ls hl h)
theorem v_iinc {i : Nat} {n : Int} {x v : Int32} {K : Int32 → Option α} (S : CallFix p m c cc nL s args Ts own) (hl : lv_has ls nL lv) (k : Nat) (hk : lv[k]? = some (i, .int x)) (hdg : decode cc pc = .ok (.iinc i n, 3)) (hv : Int32.ofInt n = v) (hn : i < nL) (L : Int32 → List (Nat × Value)) (hf : ∀ z : Int32, (i, Value.int z) :: lv.filter (fun q => !(q.1 == i) && !(q.1 + 1 == i && q.2.category == 2)) = L z) (kk : ∀ (z : Int32) (ls : Array Slot), lv_has ls nL (L z) → K z = some res → W p l e R s m args below meth c H locs cells slots Q (F0 m (pc + 3) ls rest)) : nm (x + v) K = some res → W p l e R s m args below meth c H locs cells slots Q (F0 m pc ls rest) := fun h => lv_iinc S.1 S.2.1 hdg hl hk (by rw [hv]) hn (hf _) (fun ls hl => kk _ ls hl h)
theorem v_iconst  (S : CallFix p m c cc nL s args Ts own) {n : Int} (v : Int32) (hdg : decode cc pc = .ok (.iconst n, 1)) (hv : Int32.ofInt n = v) (kk : P → W p l e R s m args below meth c H locs cells slots Q (F0 m (pc + 1) ls (.int v :: rest))) : P → W p l e R s m args below meth c H locs cells slots Q (F0 m pc ls rest) := fun h => lv_iconst S.1 S.2.1 hdg hv (kk h)
theorem v_bipush  (S : CallFix p m c cc nL s args Ts own) {n : Int} (v : Int32) (hdg : decode cc pc = .ok (.bipush n, 2)) (hv : (Int8.ofInt n).toInt32 = v) (kk : P → W p l e R s m args below meth c H locs cells slots Q (F0 m (pc + 2) ls (.int v :: rest))) : P → W p l e R s m args below meth c H locs cells slots Q (F0 m pc ls rest) := fun h => lv_bipush S.1 S.2.1 hdg hv (kk h)
theorem v_sipush  (S : CallFix p m c cc nL s args Ts own) {n : Int} (v : Int32) (hdg : decode cc pc = .ok (.sipush n, 3)) (hv : (Int16.ofInt n).toInt32 = v) (kk : P → W p l e R s m args below meth c H locs cells slots Q (F0 m (pc + 3) ls (.int v :: rest))) : P → W p l e R s m args below meth c H locs cells slots Q (F0 m pc ls rest) := fun h => lv_sipush S.1 S.2.1 hdg hv (kk h)
theorem v_ldc2  (S : CallFix p m c cc nL s args AL own) {index : Nat} (v : Int64) (hl : Cond.constantLong own index v ∈ AL) (hdg : decode cc pc = .ok (.ldc2_w index, 3)) (kk : P → W p l e R s m args below meth c H locs cells slots Q (F0 m (pc + 3) ls (.long v :: rest))) : P → W p l e R s m args below meth c H locs cells slots Q (F0 m pc ls rest) := fun h => lv_ldc2 S.1 S.2.1 S.2.2.2.1 (S.2.2.2.2 _ hl) hdg (kk h)
theorem v_iadd  (S : CallFix p m c cc nL s args Ts own) {x y : Int32} (hdg : decode cc pc = .ok (.iadd, 1)) (kk : P → W p l e R s m args below meth c H locs cells slots Q (F0 m (pc + 1) ls (.int (x + y) :: rest))) : P → W p l e R s m args below meth c H locs cells slots Q (F0 m pc ls (.int y :: .int x :: rest)) := fun h => lv_iadd S.1 S.2.1 hdg (kk h)
theorem v_isub  (S : CallFix p m c cc nL s args Ts own) {x y : Int32} (hdg : decode cc pc = .ok (.isub, 1)) (kk : P → W p l e R s m args below meth c H locs cells slots Q (F0 m (pc + 1) ls (.int (x - y) :: rest))) : P → W p l e R s m args below meth c H locs cells slots Q (F0 m pc ls (.int y :: .int x :: rest)) := fun h => lv_isub S.1 S.2.1 hdg (kk h)
theorem v_imul  (S : CallFix p m c cc nL s args Ts own) {x y : Int32} (hdg : decode cc pc = .ok (.imul, 1)) (kk : P → W p l e R s m args below meth c H locs cells slots Q (F0 m (pc + 1) ls (.int (x * y) :: rest))) : P → W p l e R s m args below meth c H locs cells slots Q (F0 m pc ls (.int y :: .int x :: rest)) := fun h => lv_imul S.1 S.2.1 hdg (kk h)
theorem v_iand  (S : CallFix p m c cc nL s args Ts own) {x y : Int32} (hdg : decode cc pc = .ok (.iand, 1)) (kk : P → W p l e R s m args below meth c H locs cells slots Q (F0 m (pc + 1) ls (.int (x &&& y) :: rest))) : P → W p l e R s m args below meth c H locs cells slots Q (F0 m pc ls (.int y :: .int x :: rest)) := fun h => lv_iand S.1 S.2.1 hdg (kk h)
theorem v_ladd  (S : CallFix p m c cc nL s args Ts own) {x y : Int64} (hdg : decode cc pc = .ok (.ladd, 1)) (kk : P → W p l e R s m args below meth c H locs cells slots Q (F0 m (pc + 1) ls (.long (x + y) :: rest))) : P → W p l e R s m args below meth c H locs cells slots Q (F0 m pc ls (.long y :: .long x :: rest)) := fun h => lv_ladd S.1 S.2.1 hdg (kk h)
theorem v_lmul  (S : CallFix p m c cc nL s args Ts own) {x y : Int64} (hdg : decode cc pc = .ok (.lmul, 1)) (kk : P → W p l e R s m args below meth c H locs cells slots Q (F0 m (pc + 1) ls (.long (x * y) :: rest))) : P → W p l e R s m args below meth c H locs cells slots Q (F0 m pc ls (.long y :: .long x :: rest)) := fun h => lv_lmul S.1 S.2.1 hdg (kk h)
theorem v_idiv (S : CallFix p m c cc nL s args Ts own) {x y : Int32} (hdg : decode cc pc = .ok (.idiv, 1)) (kk : X = some res → W p l e R s m args below meth c H locs cells slots Q (F0 m (pc + 1) ls (.int (x / y) :: rest))) : gd (decide (¬ y = 0)) X = some res → W p l e R s m args below meth c H locs cells slots Q (F0 m pc ls (.int y :: .int x :: rest)) := fun h => lv_idiv S.1 S.2.1 hdg (of_decide_eq_true (og h).1) (kk (og h).2)
theorem v_irem (S : CallFix p m c cc nL s args Ts own) {x y : Int32} (hdg : decode cc pc = .ok (.irem, 1)) (kk : X = some res → W p l e R s m args below meth c H locs cells slots Q (F0 m (pc + 1) ls (.int (x - x / y * y) :: rest))) : gd (decide (¬ y = 0)) X = some res → W p l e R s m args below meth c H locs cells slots Q (F0 m pc ls (.int y :: .int x :: rest)) := fun h => lv_irem S.1 S.2.1 hdg (of_decide_eq_true (og h).1) (kk (og h).2)
theorem v_i2l  (S : CallFix p m c cc nL s args Ts own) {x : Int32} (hdg : decode cc pc = .ok (.i2l, 1)) (kk : P → W p l e R s m args below meth c H locs cells slots Q (F0 m (pc + 1) ls (.long x.toInt64 :: rest))) : P → W p l e R s m args below meth c H locs cells slots Q (F0 m pc ls (.int x :: rest)) := fun h => lv_i2l S.1 S.2.1 hdg rfl (kk h)
theorem v_i2d  (S : CallFix p m c cc nL s args Ts own) {x : Int32} (hdg : decode cc pc = .ok (.i2d, 1)) (kk : P → W p l e R s m args below meth c H locs cells slots Q (F0 m (pc + 1) ls (.double (FP.i2d x) :: rest))) : P → W p l e R s m args below meth c H locs cells slots Q (F0 m pc ls (.int x :: rest)) := fun h => lv_i2d S.1 S.2.1 hdg (kk h)
theorem v_lcmp  (S : CallFix p m c cc nL s args Ts own) {x y : Int64} (hdg : decode cc pc = .ok (.lcmp, 1)) (kk : P → W p l e R s m args below meth c H locs cells slots Q (F0 m (pc + 1) ls (.int (lg_cmp x y) :: rest))) : P → W p l e R s m args below meth c H locs cells slots Q (F0 m pc ls (.long y :: .long x :: rest)) := fun h => W.lcmp S.1 S.2.1 hdg (kk h)
theorem v_dup  (S : CallFix p m c cc nL s args Ts own) {va : Value} (hdg : decode cc pc = .ok (.dup, 1)) (hva : va.category = 1) (kk : P → W p l e R s m args below meth c H locs cells slots Q (F0 m (pc + 1) ls (va :: va :: rest))) : P → W p l e R s m args below meth c H locs cells slots Q (F0 m pc ls (va :: rest)) := fun h => lv_dup S.1 S.2.1 hdg hva (kk h)
theorem v_pop  (S : CallFix p m c cc nL s args Ts own) {va : Value} (hdg : decode cc pc = .ok (.pop, 1)) (hva : va.category = 1) (kk : P → W p l e R s m args below meth c H locs cells slots Q (F0 m (pc + 1) ls rest)) : P → W p l e R s m args below meth c H locs cells slots Q (F0 m pc ls (va :: rest)) := fun h => lv_pop S.1 S.2.1 hdg hva (kk h)
theorem v_dup2  (S : CallFix p m c cc nL s args Ts own) {va vb : Value} (hdg : decode cc pc = .ok (.dup2, 1)) (hva : va.category = 1) (hvb : vb.category = 1) (kk : P → W p l e R s m args below meth c H locs cells slots Q (F0 m (pc + 1) ls (va :: vb :: va :: vb :: rest))) : P → W p l e R s m args below meth c H locs cells slots Q (F0 m pc ls (va :: vb :: rest)) := fun h => lv_dup2_11 S.1 S.2.1 hdg hva hvb (kk h)
theorem v_goto  (S : CallFix p m c cc nL s args Ts own) {off : Int} (tgt : Nat) (hdg : decode cc pc = .ok (.goto off, 3)) (ht : (pc : Int) + off = (tgt : Int)) (kk : P → W p l e R s m args below meth c H locs cells slots Q (F0 m tgt ls rest)) : P → W p l e R s m args below meth c H locs cells slots Q (F0 m pc ls rest) := fun h => lv_goto S.1 S.2.1 hdg ht (kk h)
theorem v_if_eq (S : CallFix p m c cc nL s args Ts own) {x : Int32} {inst : Decidable (x = 0)} {off : Int} (tgt : Nat) (hdg : decode cc pc = .ok (.ifCond .eq off, 3)) (ht : (pc : Int) + off = (tgt : Int)) (kt : X = some res → W p l e R s m args below meth c H locs cells slots Q (F0 m tgt ls rest)) (kf : Y = some res → W p l e R s m args below meth c H locs cells slots Q (F0 m (pc + 3) ls rest)) : (@ite _ (x = 0) inst X Y) = some res → W p l e R s m args below meth c H locs cells slots Q (F0 m pc ls (.int x :: rest)) := fun h => lv_if_eq S.1 S.2.1 hdg ht (fun q => kt (by rw [if_pos q] at h; exact h)) (fun q => kf (by rw [if_neg q] at h; exact h))
theorem v_if_eq_t (S : CallFix p m c cc nL s args Ts own) {x : Int32} {off : Int} (tgt : Nat) (hc : x = 0) (hdg : decode cc pc = .ok (.ifCond .eq off, 3)) (ht : (pc : Int) + off = (tgt : Int)) (kk : P → W p l e R s m args below meth c H locs cells slots Q (F0 m tgt ls rest)) : P → W p l e R s m args below meth c H locs cells slots Q (F0 m pc ls (.int x :: rest)) := fun h => lv_if_eq S.1 S.2.1 hdg ht (fun _ => kk h) (fun q => absurd hc q)
theorem v_if_eq_f (S : CallFix p m c cc nL s args Ts own) {x : Int32} {off : Int} (tgt : Nat) (hc : ¬ x = 0) (hdg : decode cc pc = .ok (.ifCond .eq off, 3)) (ht : (pc : Int) + off = (tgt : Int)) (kk : P → W p l e R s m args below meth c H locs cells slots Q (F0 m (pc + 3) ls rest)) : P → W p l e R s m args below meth c H locs cells slots Q (F0 m pc ls (.int x :: rest)) := fun h => lv_if_eq S.1 S.2.1 hdg ht (fun q => absurd q hc) (fun _ => kk h)
theorem v_icmp_eq (S : CallFix p m c cc nL s args Ts own) {x y : Int32} {inst : Decidable (x = y)} {off : Int} (tgt : Nat) (hdg : decode cc pc = .ok (.if_icmp .eq off, 3)) (ht : (pc : Int) + off = (tgt : Int)) (kt : X = some res → W p l e R s m args below meth c H locs cells slots Q (F0 m tgt ls rest)) (kf : Y = some res → W p l e R s m args below meth c H locs cells slots Q (F0 m (pc + 3) ls rest)) : (@ite _ (x = y) inst X Y) = some res → W p l e R s m args below meth c H locs cells slots Q (F0 m pc ls (.int y :: .int x :: rest)) := fun h => lv_icmp_eq S.1 S.2.1 hdg ht (fun q => kt (by rw [if_pos q] at h; exact h)) (fun q => kf (by rw [if_neg q] at h; exact h))
theorem v_icmp_eq_t (S : CallFix p m c cc nL s args Ts own) {x y : Int32} {off : Int} (tgt : Nat) (hc : x = y) (hdg : decode cc pc = .ok (.if_icmp .eq off, 3)) (ht : (pc : Int) + off = (tgt : Int)) (kk : P → W p l e R s m args below meth c H locs cells slots Q (F0 m tgt ls rest)) : P → W p l e R s m args below meth c H locs cells slots Q (F0 m pc ls (.int y :: .int x :: rest)) := fun h => lv_icmp_eq S.1 S.2.1 hdg ht (fun _ => kk h) (fun q => absurd hc q)
theorem v_icmp_eq_f (S : CallFix p m c cc nL s args Ts own) {x y : Int32} {off : Int} (tgt : Nat) (hc : ¬ x = y) (hdg : decode cc pc = .ok (.if_icmp .eq off, 3)) (ht : (pc : Int) + off = (tgt : Int)) (kk : P → W p l e R s m args below meth c H locs cells slots Q (F0 m (pc + 3) ls rest)) : P → W p l e R s m args below meth c H locs cells slots Q (F0 m pc ls (.int y :: .int x :: rest)) := fun h => lv_icmp_eq S.1 S.2.1 hdg ht (fun q => absurd q hc) (fun _ => kk h)
theorem v_if_ne (S : CallFix p m c cc nL s args Ts own) {x : Int32} {inst : Decidable (x = 0)} {off : Int} (tgt : Nat) (hdg : decode cc pc = .ok (.ifCond .ne off, 3)) (ht : (pc : Int) + off = (tgt : Int)) (kt : Y = some res → W p l e R s m args below meth c H locs cells slots Q (F0 m tgt ls rest)) (kf : X = some res → W p l e R s m args below meth c H locs cells slots Q (F0 m (pc + 3) ls rest)) : (@ite _ (x = 0) inst X Y) = some res → W p l e R s m args below meth c H locs cells slots Q (F0 m pc ls (.int x :: rest)) := fun h => lv_if_ne S.1 S.2.1 hdg ht (fun q => kt (by rw [if_neg q] at h; exact h)) (fun q => kf (by rw [if_pos q] at h; exact h))
theorem v_if_ne_t (S : CallFix p m c cc nL s args Ts own) {x : Int32} {off : Int} (tgt : Nat) (hc : ¬ x = 0) (hdg : decode cc pc = .ok (.ifCond .ne off, 3)) (ht : (pc : Int) + off = (tgt : Int)) (kk : P → W p l e R s m args below meth c H locs cells slots Q (F0 m tgt ls rest)) : P → W p l e R s m args below meth c H locs cells slots Q (F0 m pc ls (.int x :: rest)) := fun h => lv_if_ne S.1 S.2.1 hdg ht (fun _ => kk h) (fun q => absurd q hc)
theorem v_if_ne_f (S : CallFix p m c cc nL s args Ts own) {x : Int32} {off : Int} (tgt : Nat) (hc : x = 0) (hdg : decode cc pc = .ok (.ifCond .ne off, 3)) (ht : (pc : Int) + off = (tgt : Int)) (kk : P → W p l e R s m args below meth c H locs cells slots Q (F0 m (pc + 3) ls rest)) : P → W p l e R s m args below meth c H locs cells slots Q (F0 m pc ls (.int x :: rest)) := fun h => lv_if_ne S.1 S.2.1 hdg ht (fun q => absurd hc q) (fun _ => kk h)
theorem v_icmp_ne (S : CallFix p m c cc nL s args Ts own) {x y : Int32} {inst : Decidable (x = y)} {off : Int} (tgt : Nat) (hdg : decode cc pc = .ok (.if_icmp .ne off, 3)) (ht : (pc : Int) + off = (tgt : Int)) (kt : Y = some res → W p l e R s m args below meth c H locs cells slots Q (F0 m tgt ls rest)) (kf : X = some res → W p l e R s m args below meth c H locs cells slots Q (F0 m (pc + 3) ls rest)) : (@ite _ (x = y) inst X Y) = some res → W p l e R s m args below meth c H locs cells slots Q (F0 m pc ls (.int y :: .int x :: rest)) := fun h => lv_icmp_ne S.1 S.2.1 hdg ht (fun q => kt (by rw [if_neg q] at h; exact h)) (fun q => kf (by rw [if_pos q] at h; exact h))
theorem v_icmp_ne_t (S : CallFix p m c cc nL s args Ts own) {x y : Int32} {off : Int} (tgt : Nat) (hc : ¬ x = y) (hdg : decode cc pc = .ok (.if_icmp .ne off, 3)) (ht : (pc : Int) + off = (tgt : Int)) (kk : P → W p l e R s m args below meth c H locs cells slots Q (F0 m tgt ls rest)) : P → W p l e R s m args below meth c H locs cells slots Q (F0 m pc ls (.int y :: .int x :: rest)) := fun h => lv_icmp_ne S.1 S.2.1 hdg ht (fun _ => kk h) (fun q => absurd q hc)
theorem v_icmp_ne_f (S : CallFix p m c cc nL s args Ts own) {x y : Int32} {off : Int} (tgt : Nat) (hc : x = y) (hdg : decode cc pc = .ok (.if_icmp .ne off, 3)) (ht : (pc : Int) + off = (tgt : Int)) (kk : P → W p l e R s m args below meth c H locs cells slots Q (F0 m (pc + 3) ls rest)) : P → W p l e R s m args below meth c H locs cells slots Q (F0 m pc ls (.int y :: .int x :: rest)) := fun h => lv_icmp_ne S.1 S.2.1 hdg ht (fun q => absurd hc q) (fun _ => kk h)
theorem v_if_lt (S : CallFix p m c cc nL s args Ts own) {x : Int32} {inst : Decidable (x < 0)} {off : Int} (tgt : Nat) (hdg : decode cc pc = .ok (.ifCond .lt off, 3)) (ht : (pc : Int) + off = (tgt : Int)) (kt : X = some res → W p l e R s m args below meth c H locs cells slots Q (F0 m tgt ls rest)) (kf : Y = some res → W p l e R s m args below meth c H locs cells slots Q (F0 m (pc + 3) ls rest)) : (@ite _ (x < 0) inst X Y) = some res → W p l e R s m args below meth c H locs cells slots Q (F0 m pc ls (.int x :: rest)) := fun h => lv_if_lt S.1 S.2.1 hdg ht (fun q => kt (by rw [if_pos q] at h; exact h)) (fun q => kf (by rw [if_neg q] at h; exact h))
theorem v_if_lt_t (S : CallFix p m c cc nL s args Ts own) {x : Int32} {off : Int} (tgt : Nat) (hc : x < 0) (hdg : decode cc pc = .ok (.ifCond .lt off, 3)) (ht : (pc : Int) + off = (tgt : Int)) (kk : P → W p l e R s m args below meth c H locs cells slots Q (F0 m tgt ls rest)) : P → W p l e R s m args below meth c H locs cells slots Q (F0 m pc ls (.int x :: rest)) := fun h => lv_if_lt S.1 S.2.1 hdg ht (fun _ => kk h) (fun q => absurd hc q)
theorem v_if_lt_f (S : CallFix p m c cc nL s args Ts own) {x : Int32} {off : Int} (tgt : Nat) (hc : ¬ x < 0) (hdg : decode cc pc = .ok (.ifCond .lt off, 3)) (ht : (pc : Int) + off = (tgt : Int)) (kk : P → W p l e R s m args below meth c H locs cells slots Q (F0 m (pc + 3) ls rest)) : P → W p l e R s m args below meth c H locs cells slots Q (F0 m pc ls (.int x :: rest)) := fun h => lv_if_lt S.1 S.2.1 hdg ht (fun q => absurd q hc) (fun _ => kk h)
theorem v_icmp_lt (S : CallFix p m c cc nL s args Ts own) {x y : Int32} {inst : Decidable (x < y)} {off : Int} (tgt : Nat) (hdg : decode cc pc = .ok (.if_icmp .lt off, 3)) (ht : (pc : Int) + off = (tgt : Int)) (kt : X = some res → W p l e R s m args below meth c H locs cells slots Q (F0 m tgt ls rest)) (kf : Y = some res → W p l e R s m args below meth c H locs cells slots Q (F0 m (pc + 3) ls rest)) : (@ite _ (x < y) inst X Y) = some res → W p l e R s m args below meth c H locs cells slots Q (F0 m pc ls (.int y :: .int x :: rest)) := fun h => lv_icmp_lt S.1 S.2.1 hdg ht (fun q => kt (by rw [if_pos q] at h; exact h)) (fun q => kf (by rw [if_neg q] at h; exact h))
theorem v_icmp_lt_t (S : CallFix p m c cc nL s args Ts own) {x y : Int32} {off : Int} (tgt : Nat) (hc : x < y) (hdg : decode cc pc = .ok (.if_icmp .lt off, 3)) (ht : (pc : Int) + off = (tgt : Int)) (kk : P → W p l e R s m args below meth c H locs cells slots Q (F0 m tgt ls rest)) : P → W p l e R s m args below meth c H locs cells slots Q (F0 m pc ls (.int y :: .int x :: rest)) := fun h => lv_icmp_lt S.1 S.2.1 hdg ht (fun _ => kk h) (fun q => absurd hc q)
theorem v_icmp_lt_f (S : CallFix p m c cc nL s args Ts own) {x y : Int32} {off : Int} (tgt : Nat) (hc : ¬ x < y) (hdg : decode cc pc = .ok (.if_icmp .lt off, 3)) (ht : (pc : Int) + off = (tgt : Int)) (kk : P → W p l e R s m args below meth c H locs cells slots Q (F0 m (pc + 3) ls rest)) : P → W p l e R s m args below meth c H locs cells slots Q (F0 m pc ls (.int y :: .int x :: rest)) := fun h => lv_icmp_lt S.1 S.2.1 hdg ht (fun q => absurd q hc) (fun _ => kk h)
theorem v_if_ge (S : CallFix p m c cc nL s args Ts own) {x : Int32} {inst : Decidable (0 ≤ x)} {off : Int} (tgt : Nat) (hdg : decode cc pc = .ok (.ifCond .ge off, 3)) (ht : (pc : Int) + off = (tgt : Int)) (kt : X = some res → W p l e R s m args below meth c H locs cells slots Q (F0 m tgt ls rest)) (kf : Y = some res → W p l e R s m args below meth c H locs cells slots Q (F0 m (pc + 3) ls rest)) : (@ite _ (0 ≤ x) inst X Y) = some res → W p l e R s m args below meth c H locs cells slots Q (F0 m pc ls (.int x :: rest)) := fun h => lv_if_ge S.1 S.2.1 hdg ht (fun q => kt (by rw [if_pos q] at h; exact h)) (fun q => kf (by rw [if_neg q] at h; exact h))
theorem v_if_ge_t (S : CallFix p m c cc nL s args Ts own) {x : Int32} {off : Int} (tgt : Nat) (hc : 0 ≤ x) (hdg : decode cc pc = .ok (.ifCond .ge off, 3)) (ht : (pc : Int) + off = (tgt : Int)) (kk : P → W p l e R s m args below meth c H locs cells slots Q (F0 m tgt ls rest)) : P → W p l e R s m args below meth c H locs cells slots Q (F0 m pc ls (.int x :: rest)) := fun h => lv_if_ge S.1 S.2.1 hdg ht (fun _ => kk h) (fun q => absurd hc q)
theorem v_if_ge_f (S : CallFix p m c cc nL s args Ts own) {x : Int32} {off : Int} (tgt : Nat) (hc : ¬ 0 ≤ x) (hdg : decode cc pc = .ok (.ifCond .ge off, 3)) (ht : (pc : Int) + off = (tgt : Int)) (kk : P → W p l e R s m args below meth c H locs cells slots Q (F0 m (pc + 3) ls rest)) : P → W p l e R s m args below meth c H locs cells slots Q (F0 m pc ls (.int x :: rest)) := fun h => lv_if_ge S.1 S.2.1 hdg ht (fun q => absurd q hc) (fun _ => kk h)
theorem v_icmp_ge (S : CallFix p m c cc nL s args Ts own) {x y : Int32} {inst : Decidable (y ≤ x)} {off : Int} (tgt : Nat) (hdg : decode cc pc = .ok (.if_icmp .ge off, 3)) (ht : (pc : Int) + off = (tgt : Int)) (kt : X = some res → W p l e R s m args below meth c H locs cells slots Q (F0 m tgt ls rest)) (kf : Y = some res → W p l e R s m args below meth c H locs cells slots Q (F0 m (pc + 3) ls rest)) : (@ite _ (y ≤ x) inst X Y) = some res → W p l e R s m args below meth c H locs cells slots Q (F0 m pc ls (.int y :: .int x :: rest)) := fun h => lv_icmp_ge S.1 S.2.1 hdg ht (fun q => kt (by rw [if_pos q] at h; exact h)) (fun q => kf (by rw [if_neg q] at h; exact h))
theorem v_icmp_ge_t (S : CallFix p m c cc nL s args Ts own) {x y : Int32} {off : Int} (tgt : Nat) (hc : y ≤ x) (hdg : decode cc pc = .ok (.if_icmp .ge off, 3)) (ht : (pc : Int) + off = (tgt : Int)) (kk : P → W p l e R s m args below meth c H locs cells slots Q (F0 m tgt ls rest)) : P → W p l e R s m args below meth c H locs cells slots Q (F0 m pc ls (.int y :: .int x :: rest)) := fun h => lv_icmp_ge S.1 S.2.1 hdg ht (fun _ => kk h) (fun q => absurd hc q)
theorem v_icmp_ge_f (S : CallFix p m c cc nL s args Ts own) {x y : Int32} {off : Int} (tgt : Nat) (hc : ¬ y ≤ x) (hdg : decode cc pc = .ok (.if_icmp .ge off, 3)) (ht : (pc : Int) + off = (tgt : Int)) (kk : P → W p l e R s m args below meth c H locs cells slots Q (F0 m (pc + 3) ls rest)) : P → W p l e R s m args below meth c H locs cells slots Q (F0 m pc ls (.int y :: .int x :: rest)) := fun h => lv_icmp_ge S.1 S.2.1 hdg ht (fun q => absurd q hc) (fun _ => kk h)
theorem v_if_gt (S : CallFix p m c cc nL s args Ts own) {x : Int32} {inst : Decidable (0 < x)} {off : Int} (tgt : Nat) (hdg : decode cc pc = .ok (.ifCond .gt off, 3)) (ht : (pc : Int) + off = (tgt : Int)) (kt : X = some res → W p l e R s m args below meth c H locs cells slots Q (F0 m tgt ls rest)) (kf : Y = some res → W p l e R s m args below meth c H locs cells slots Q (F0 m (pc + 3) ls rest)) : (@ite _ (0 < x) inst X Y) = some res → W p l e R s m args below meth c H locs cells slots Q (F0 m pc ls (.int x :: rest)) := fun h => lv_if_gt S.1 S.2.1 hdg ht (fun q => kt (by rw [if_pos q] at h; exact h)) (fun q => kf (by rw [if_neg q] at h; exact h))
theorem v_if_gt_t (S : CallFix p m c cc nL s args Ts own) {x : Int32} {off : Int} (tgt : Nat) (hc : 0 < x) (hdg : decode cc pc = .ok (.ifCond .gt off, 3)) (ht : (pc : Int) + off = (tgt : Int)) (kk : P → W p l e R s m args below meth c H locs cells slots Q (F0 m tgt ls rest)) : P → W p l e R s m args below meth c H locs cells slots Q (F0 m pc ls (.int x :: rest)) := fun h => lv_if_gt S.1 S.2.1 hdg ht (fun _ => kk h) (fun q => absurd hc q)
theorem v_if_gt_f (S : CallFix p m c cc nL s args Ts own) {x : Int32} {off : Int} (tgt : Nat) (hc : ¬ 0 < x) (hdg : decode cc pc = .ok (.ifCond .gt off, 3)) (ht : (pc : Int) + off = (tgt : Int)) (kk : P → W p l e R s m args below meth c H locs cells slots Q (F0 m (pc + 3) ls rest)) : P → W p l e R s m args below meth c H locs cells slots Q (F0 m pc ls (.int x :: rest)) := fun h => lv_if_gt S.1 S.2.1 hdg ht (fun q => absurd q hc) (fun _ => kk h)
theorem v_icmp_gt (S : CallFix p m c cc nL s args Ts own) {x y : Int32} {inst : Decidable (y < x)} {off : Int} (tgt : Nat) (hdg : decode cc pc = .ok (.if_icmp .gt off, 3)) (ht : (pc : Int) + off = (tgt : Int)) (kt : X = some res → W p l e R s m args below meth c H locs cells slots Q (F0 m tgt ls rest)) (kf : Y = some res → W p l e R s m args below meth c H locs cells slots Q (F0 m (pc + 3) ls rest)) : (@ite _ (y < x) inst X Y) = some res → W p l e R s m args below meth c H locs cells slots Q (F0 m pc ls (.int y :: .int x :: rest)) := fun h => lv_icmp_gt S.1 S.2.1 hdg ht (fun q => kt (by rw [if_pos q] at h; exact h)) (fun q => kf (by rw [if_neg q] at h; exact h))
theorem v_icmp_gt_t (S : CallFix p m c cc nL s args Ts own) {x y : Int32} {off : Int} (tgt : Nat) (hc : y < x) (hdg : decode cc pc = .ok (.if_icmp .gt off, 3)) (ht : (pc : Int) + off = (tgt : Int)) (kk : P → W p l e R s m args below meth c H locs cells slots Q (F0 m tgt ls rest)) : P → W p l e R s m args below meth c H locs cells slots Q (F0 m pc ls (.int y :: .int x :: rest)) := fun h => lv_icmp_gt S.1 S.2.1 hdg ht (fun _ => kk h) (fun q => absurd hc q)
theorem v_icmp_gt_f (S : CallFix p m c cc nL s args Ts own) {x y : Int32} {off : Int} (tgt : Nat) (hc : ¬ y < x) (hdg : decode cc pc = .ok (.if_icmp .gt off, 3)) (ht : (pc : Int) + off = (tgt : Int)) (kk : P → W p l e R s m args below meth c H locs cells slots Q (F0 m (pc + 3) ls rest)) : P → W p l e R s m args below meth c H locs cells slots Q (F0 m pc ls (.int y :: .int x :: rest)) := fun h => lv_icmp_gt S.1 S.2.1 hdg ht (fun q => absurd q hc) (fun _ => kk h)
theorem v_if_le (S : CallFix p m c cc nL s args Ts own) {x : Int32} {inst : Decidable (x ≤ 0)} {off : Int} (tgt : Nat) (hdg : decode cc pc = .ok (.ifCond .le off, 3)) (ht : (pc : Int) + off = (tgt : Int)) (kt : X = some res → W p l e R s m args below meth c H locs cells slots Q (F0 m tgt ls rest)) (kf : Y = some res → W p l e R s m args below meth c H locs cells slots Q (F0 m (pc + 3) ls rest)) : (@ite _ (x ≤ 0) inst X Y) = some res → W p l e R s m args below meth c H locs cells slots Q (F0 m pc ls (.int x :: rest)) := fun h => lv_if_le S.1 S.2.1 hdg ht (fun q => kt (by rw [if_pos q] at h; exact h)) (fun q => kf (by rw [if_neg q] at h; exact h))
theorem v_if_le_t (S : CallFix p m c cc nL s args Ts own) {x : Int32} {off : Int} (tgt : Nat) (hc : x ≤ 0) (hdg : decode cc pc = .ok (.ifCond .le off, 3)) (ht : (pc : Int) + off = (tgt : Int)) (kk : P → W p l e R s m args below meth c H locs cells slots Q (F0 m tgt ls rest)) : P → W p l e R s m args below meth c H locs cells slots Q (F0 m pc ls (.int x :: rest)) := fun h => lv_if_le S.1 S.2.1 hdg ht (fun _ => kk h) (fun q => absurd hc q)
theorem v_if_le_f (S : CallFix p m c cc nL s args Ts own) {x : Int32} {off : Int} (tgt : Nat) (hc : ¬ x ≤ 0) (hdg : decode cc pc = .ok (.ifCond .le off, 3)) (ht : (pc : Int) + off = (tgt : Int)) (kk : P → W p l e R s m args below meth c H locs cells slots Q (F0 m (pc + 3) ls rest)) : P → W p l e R s m args below meth c H locs cells slots Q (F0 m pc ls (.int x :: rest)) := fun h => lv_if_le S.1 S.2.1 hdg ht (fun q => absurd q hc) (fun _ => kk h)
theorem v_icmp_le (S : CallFix p m c cc nL s args Ts own) {x y : Int32} {inst : Decidable (x ≤ y)} {off : Int} (tgt : Nat) (hdg : decode cc pc = .ok (.if_icmp .le off, 3)) (ht : (pc : Int) + off = (tgt : Int)) (kt : X = some res → W p l e R s m args below meth c H locs cells slots Q (F0 m tgt ls rest)) (kf : Y = some res → W p l e R s m args below meth c H locs cells slots Q (F0 m (pc + 3) ls rest)) : (@ite _ (x ≤ y) inst X Y) = some res → W p l e R s m args below meth c H locs cells slots Q (F0 m pc ls (.int y :: .int x :: rest)) := fun h => lv_icmp_le S.1 S.2.1 hdg ht (fun q => kt (by rw [if_pos q] at h; exact h)) (fun q => kf (by rw [if_neg q] at h; exact h))
theorem v_icmp_le_t (S : CallFix p m c cc nL s args Ts own) {x y : Int32} {off : Int} (tgt : Nat) (hc : x ≤ y) (hdg : decode cc pc = .ok (.if_icmp .le off, 3)) (ht : (pc : Int) + off = (tgt : Int)) (kk : P → W p l e R s m args below meth c H locs cells slots Q (F0 m tgt ls rest)) : P → W p l e R s m args below meth c H locs cells slots Q (F0 m pc ls (.int y :: .int x :: rest)) := fun h => lv_icmp_le S.1 S.2.1 hdg ht (fun _ => kk h) (fun q => absurd hc q)
theorem v_icmp_le_f (S : CallFix p m c cc nL s args Ts own) {x y : Int32} {off : Int} (tgt : Nat) (hc : ¬ x ≤ y) (hdg : decode cc pc = .ok (.if_icmp .le off, 3)) (ht : (pc : Int) + off = (tgt : Int)) (kk : P → W p l e R s m args below meth c H locs cells slots Q (F0 m (pc + 3) ls rest)) : P → W p l e R s m args below meth c H locs cells slots Q (F0 m pc ls (.int y :: .int x :: rest)) := fun h => lv_icmp_le S.1 S.2.1 hdg ht (fun q => absurd q hc) (fun _ => kk h)
theorem v_nm {K : Int32 → Option α} {x : Int32} (kk : ∀ z : Int32, K z = some res → W p l e R s m args below meth c H locs cells slots Q (F0 m pc ls (.int z :: rest))) : nm x K = some res → W p l e R s m args below meth c H locs cells slots Q (F0 m pc ls (.int x :: rest)) := fun h => kk x h
theorem v_nml {K : Int64 → Option α} {x : Int64} (kk : ∀ z : Int64, K z = some res → W p l e R s m args below meth c H locs cells slots Q (F0 m pc ls (.long z :: rest))) : nm x K = some res → W p l e R s m args below meth c H locs cells slots Q (F0 m pc ls (.long x :: rest)) := fun h => kk x h
theorem t_out {x : Int32} (n : Nat) (h : ∀ k : Nat, k < n → ¬ x = Int32.ofInt k) (hn : n < 1000) : x.toInt < 0 ∨ ((n : Int) - 1) < x.toInt := by
  rcases Int.lt_or_le x.toInt 0 with h0 | h0
  · exact Or.inl h0
  · rcases Int.lt_or_le ((n : Int) - 1) x.toInt with h1 | h1
    · exact Or.inr h1
    · have hk := h x.toInt.toNat (by omega)
      exact absurd (by rw [Int.toNat_of_nonneg h0]; exact (Int32.ofInt_toInt x).symm) hk
theorem v_tcase {x k : Int32} {inst : Decidable (x = k)} (kt : x = k → X = some res → W p l e R s m args below meth c H locs cells slots Q (F0 m pc ls (.int x :: rest))) (kf : ¬ x = k → Y = some res → W p l e R s m args below meth c H locs cells slots Q (F0 m pc ls (.int x :: rest))) : (@ite _ (x = k) inst X Y) = some res → W p l e R s m args below meth c H locs cells slots Q (F0 m pc ls (.int x :: rest)) := fun h => by
  by_cases q : x = k
  · rw [if_pos q] at h; exact kt q h
  · rw [if_neg q] at h; exact kf q h
theorem v_tin (S : CallFix p m c cc nL s args Ts own) {x k : Int32} {dflt lo hi : Int} {offs : Array Int} {len : Nat} {off : Int} (tgt : Nat) (q : x = k) (hdg : decode cc pc = .ok (.tableswitch dflt lo hi offs, len)) (h1 : ¬ k.toInt < lo) (h2 : ¬ hi < k.toInt) (ho : offs[(k.toInt - lo).toNat]? = some off) (ht : (pc : Int) + off = (tgt : Int)) (kk : P → W p l e R s m args below meth c H locs cells slots Q (F0 m tgt ls rest)) : P → W p l e R s m args below meth c H locs cells slots Q (F0 m pc ls (.int x :: rest)) := fun h => by subst q; exact lv_tableIn S.1 S.2.1 hdg h1 h2 ho ht (kk h)
theorem v_tout (S : CallFix p m c cc nL s args Ts own) {x : Int32} {dflt lo hi : Int} {offs : Array Int} {len : Nat} (tgt : Nat) (hq : x.toInt < lo ∨ hi < x.toInt) (hdg : decode cc pc = .ok (.tableswitch dflt lo hi offs, len)) (ht : (pc : Int) + dflt = (tgt : Int)) (kk : P → W p l e R s m args below meth c H locs cells slots Q (F0 m tgt ls rest)) : P → W p l e R s m args below meth c H locs cells slots Q (F0 m pc ls (.int x :: rest)) := fun h => lv_tableOut S.1 S.2.1 hdg hq ht (kk h)
theorem gr_0_0 (S : CallFix p m c cc nL s args AL own) (hG : GA g ad σ w b s H locs) {j : Nat} {K : Nat → Option α} {index : Nat} (hl : Cond.fieldLink own index "MuffledTolls$Bell" "hand" "LMuffledTolls$Leather;" ∈ AL) (hdg : decode cc pc = .ok (.getfield index, 3)) (kk : ∀ r : Nat, K r = some res → W p l e R s m args below meth c H locs cells slots Q (F0 m (pc + 3) ls (.ref (ad r) :: rest))) : b1 (rf j 0 0) K = some res → W p l e R s m args below meth c H locs cells slots Q (F0 m pc ls (.ref (ad j) :: rest)) := fun h => by
  obtain ⟨r, e1, h⟩ := ob h
  have e2 := rf_of e1
  exact va_get S.1 S.2.1 S.2.2.2.2 inX0 S.2.2.2.1 hG.2.1 hG.1 j (wg_0 ⟨e2.1, e2.2.1⟩) rfl 0 (by decide) (S.2.2.2.2 _ hl) (fun _ h9 => h9) (v := .ref (ad r)) (by simp [va_re, va_rf, e2.2.2]) hdg (kk r h)
theorem gr_0_1 (S : CallFix p m c cc nL s args AL own) (hG : GA g ad σ w b s H locs) {j : Nat} {K : Nat → Option α} {index : Nat} (hl : Cond.fieldLink own index "MuffledTolls$Bell" "back" "LMuffledTolls$Leather;" ∈ AL) (hdg : decode cc pc = .ok (.getfield index, 3)) (kk : ∀ r : Nat, K r = some res → W p l e R s m args below meth c H locs cells slots Q (F0 m (pc + 3) ls (.ref (ad r) :: rest))) : b1 (rf j 0 1) K = some res → W p l e R s m args below meth c H locs cells slots Q (F0 m pc ls (.ref (ad j) :: rest)) := fun h => by
  obtain ⟨r, e1, h⟩ := ob h
  have e2 := rf_of e1
  exact va_get S.1 S.2.1 S.2.2.2.2 inX0 S.2.2.2.1 hG.2.1 hG.1 j (wg_0 ⟨e2.1, e2.2.1⟩) rfl 1 (by decide) (S.2.2.2.2 _ hl) (fun _ h9 => h9) (v := .ref (ad r)) (by simp [va_re, va_rf, e2.2.2]) hdg (kk r h)
theorem gf_0_2 (S : CallFix p m c cc nL s args AL own) (hG : GA g ad σ w b s H locs) {j : Nat} {index : Nat} (hl : Cond.fieldLink own index "MuffledTolls$Bell" "weight" "I" ∈ AL) (hdg : decode cc pc = .ok (.getfield index, 3)) (kk : X = some res → W p l e R s m args below meth c H locs cells slots Q (F0 m (pc + 3) ls (.int (σ j 2) :: rest))) : gd (ck j 0) X = some res → W p l e R s m args below meth c H locs cells slots Q (F0 m pc ls (.ref (ad j) :: rest)) := fun h => va_get S.1 S.2.1 S.2.2.2.2 inX0 S.2.2.2.1 hG.2.1 hG.1 j (wg_0 (ck_of (og h).1)) rfl 2 (by decide) (S.2.2.2.2 _ hl) (fun _ h9 => h9) rfl hdg (kk (og h).2)
theorem pf_0_2 (S : CallFix p m c cc nL s args AL own) (hG : GA g ad σ true b s H locs) {j : Nat} {v : Int32} {K : Mem → Option α} {index : Nat} (hl : Cond.fieldLink own index "MuffledTolls$Bell" "weight" "I" ∈ AL) (hdg : decode cc pc = .ok (.putfield index, 3)) (kk : ∀ (σ1 : Mem) (H1 : Heap) (locs1 : List Loc), GA g ad σ1 true b s H1 locs1 → K σ1 = some res → W p l e R s m args below meth c H1 locs1 cells slots Q (F0 m (pc + 3) ls rest)) : gd (ck j 0) (nm (sI σ j 2 v) K) = some res → W p l e R s m args below meth c H locs cells slots Q (F0 m pc ls (.int v :: .ref (ad j) :: rest)) := fun h => va_put S.1 S.2.1 S.2.2.2.2 inX0 tyX0 tyX0_ok nmX0 S.2.2.2.1 hG.2.1 hG.1 (GA_Dw hG) hG.2.2.2.1 j (wg_0 (ck_of (og h).1)) rfl 2 (by decide) (S.2.2.2.2 _ hl) (fun _ h9 => h9) rfl (ty := .int) (v := .int v) (tyX0_ok 2 (by decide)) rfl rfl (Nat.le_of_ble_eq_true rfl) hdg (fun H1 locs1 hP1 hD1 hS1 => kk _ H1 locs1 (GA_wrote hG (ck_of (og h).1).1 (by rw [sI_self, ce_0 (ck_of (og h).1).2]; rfl) sI_other hP1 hS1) (og h).2)
theorem gf_0_3 (S : CallFix p m c cc nL s args AL own) (hG : GA g ad σ w b s H locs) {j : Nat} {index : Nat} (hl : Cond.fieldLink own index "MuffledTolls$Bell" "side" "I" ∈ AL) (hdg : decode cc pc = .ok (.getfield index, 3)) (kk : X = some res → W p l e R s m args below meth c H locs cells slots Q (F0 m (pc + 3) ls (.int (σ j 3) :: rest))) : gd (ck j 0) X = some res → W p l e R s m args below meth c H locs cells slots Q (F0 m pc ls (.ref (ad j) :: rest)) := fun h => va_get S.1 S.2.1 S.2.2.2.2 inX0 S.2.2.2.1 hG.2.1 hG.1 j (wg_0 (ck_of (og h).1)) rfl 3 (by decide) (S.2.2.2.2 _ hl) (fun _ h9 => h9) rfl hdg (kk (og h).2)
theorem pf_0_3 (S : CallFix p m c cc nL s args AL own) (hG : GA g ad σ true b s H locs) {j : Nat} {v : Int32} {K : Mem → Option α} {index : Nat} (hl : Cond.fieldLink own index "MuffledTolls$Bell" "side" "I" ∈ AL) (hdg : decode cc pc = .ok (.putfield index, 3)) (kk : ∀ (σ1 : Mem) (H1 : Heap) (locs1 : List Loc), GA g ad σ1 true b s H1 locs1 → K σ1 = some res → W p l e R s m args below meth c H1 locs1 cells slots Q (F0 m (pc + 3) ls rest)) : gd (ck j 0) (nm (sI σ j 3 v) K) = some res → W p l e R s m args below meth c H locs cells slots Q (F0 m pc ls (.int v :: .ref (ad j) :: rest)) := fun h => va_put S.1 S.2.1 S.2.2.2.2 inX0 tyX0 tyX0_ok nmX0 S.2.2.2.1 hG.2.1 hG.1 (GA_Dw hG) hG.2.2.2.1 j (wg_0 (ck_of (og h).1)) rfl 3 (by decide) (S.2.2.2.2 _ hl) (fun _ h9 => h9) rfl (ty := .int) (v := .int v) (tyX0_ok 3 (by decide)) rfl rfl (Nat.le_of_ble_eq_true rfl) hdg (fun H1 locs1 hP1 hD1 hS1 => kk _ H1 locs1 (GA_wrote hG (ck_of (og h).1).1 (by rw [sI_self, ce_0 (ck_of (og h).1).2]; rfl) sI_other hP1 hS1) (og h).2)
theorem gf_0_4 (S : CallFix p m c cc nL s args AL own) (hG : GA g ad σ w b s H locs) {j : Nat} {index : Nat} (hl : Cond.fieldLink own index "MuffledTolls$Bell" "rope" "I" ∈ AL) (hdg : decode cc pc = .ok (.getfield index, 3)) (kk : X = some res → W p l e R s m args below meth c H locs cells slots Q (F0 m (pc + 3) ls (.int (σ j 4) :: rest))) : gd (ck j 0) X = some res → W p l e R s m args below meth c H locs cells slots Q (F0 m pc ls (.ref (ad j) :: rest)) := fun h => va_get S.1 S.2.1 S.2.2.2.2 inX0 S.2.2.2.1 hG.2.1 hG.1 j (wg_0 (ck_of (og h).1)) rfl 4 (by decide) (S.2.2.2.2 _ hl) (fun _ h9 => h9) rfl hdg (kk (og h).2)
theorem pf_0_4 (S : CallFix p m c cc nL s args AL own) (hG : GA g ad σ true b s H locs) {j : Nat} {v : Int32} {K : Mem → Option α} {index : Nat} (hl : Cond.fieldLink own index "MuffledTolls$Bell" "rope" "I" ∈ AL) (hdg : decode cc pc = .ok (.putfield index, 3)) (kk : ∀ (σ1 : Mem) (H1 : Heap) (locs1 : List Loc), GA g ad σ1 true b s H1 locs1 → K σ1 = some res → W p l e R s m args below meth c H1 locs1 cells slots Q (F0 m (pc + 3) ls rest)) : gd (ck j 0) (nm (sI σ j 4 v) K) = some res → W p l e R s m args below meth c H locs cells slots Q (F0 m pc ls (.int v :: .ref (ad j) :: rest)) := fun h => va_put S.1 S.2.1 S.2.2.2.2 inX0 tyX0 tyX0_ok nmX0 S.2.2.2.1 hG.2.1 hG.1 (GA_Dw hG) hG.2.2.2.1 j (wg_0 (ck_of (og h).1)) rfl 4 (by decide) (S.2.2.2.2 _ hl) (fun _ h9 => h9) rfl (ty := .int) (v := .int v) (tyX0_ok 4 (by decide)) rfl rfl (Nat.le_of_ble_eq_true rfl) hdg (fun H1 locs1 hP1 hD1 hS1 => kk _ H1 locs1 (GA_wrote hG (ck_of (og h).1).1 (by rw [sI_self, ce_0 (ck_of (og h).1).2]; rfl) sI_other hP1 hS1) (og h).2)
theorem gf_0_5 (S : CallFix p m c cc nL s args AL own) (hG : GA g ad σ w b s H locs) {j : Nat} {index : Nat} (hl : Cond.fieldLink own index "MuffledTolls$Bell" "goesOnWith" "I" ∈ AL) (hdg : decode cc pc = .ok (.getfield index, 3)) (kk : X = some res → W p l e R s m args below meth c H locs cells slots Q (F0 m (pc + 3) ls (.int (σ j 5) :: rest))) : gd (ck j 0) X = some res → W p l e R s m args below meth c H locs cells slots Q (F0 m pc ls (.ref (ad j) :: rest)) := fun h => va_get S.1 S.2.1 S.2.2.2.2 inX0 S.2.2.2.1 hG.2.1 hG.1 j (wg_0 (ck_of (og h).1)) rfl 5 (by decide) (S.2.2.2.2 _ hl) (fun _ h9 => h9) rfl hdg (kk (og h).2)
theorem pf_0_5 (S : CallFix p m c cc nL s args AL own) (hG : GA g ad σ true b s H locs) {j : Nat} {v : Int32} {K : Mem → Option α} {index : Nat} (hl : Cond.fieldLink own index "MuffledTolls$Bell" "goesOnWith" "I" ∈ AL) (hdg : decode cc pc = .ok (.putfield index, 3)) (kk : ∀ (σ1 : Mem) (H1 : Heap) (locs1 : List Loc), GA g ad σ1 true b s H1 locs1 → K σ1 = some res → W p l e R s m args below meth c H1 locs1 cells slots Q (F0 m (pc + 3) ls rest)) : gd (ck j 0) (nm (sI σ j 5 v) K) = some res → W p l e R s m args below meth c H locs cells slots Q (F0 m pc ls (.int v :: .ref (ad j) :: rest)) := fun h => va_put S.1 S.2.1 S.2.2.2.2 inX0 tyX0 tyX0_ok nmX0 S.2.2.2.1 hG.2.1 hG.1 (GA_Dw hG) hG.2.2.2.1 j (wg_0 (ck_of (og h).1)) rfl 5 (by decide) (S.2.2.2.2 _ hl) (fun _ h9 => h9) rfl (ty := .int) (v := .int v) (tyX0_ok 5 (by decide)) rfl rfl (Nat.le_of_ble_eq_true rfl) hdg (fun H1 locs1 hP1 hD1 hS1 => kk _ H1 locs1 (GA_wrote hG (ck_of (og h).1).1 (by rw [sI_self, ce_0 (ck_of (og h).1).2]; rfl) sI_other hP1 hS1) (og h).2)
theorem gf_0_6 (S : CallFix p m c cc nL s args AL own) (hG : GA g ad σ w b s H locs) {j : Nat} {index : Nat} (hl : Cond.fieldLink own index "MuffledTolls$Bell" "pause" "I" ∈ AL) (hdg : decode cc pc = .ok (.getfield index, 3)) (kk : X = some res → W p l e R s m args below meth c H locs cells slots Q (F0 m (pc + 3) ls (.int (σ j 6) :: rest))) : gd (ck j 0) X = some res → W p l e R s m args below meth c H locs cells slots Q (F0 m pc ls (.ref (ad j) :: rest)) := fun h => va_get S.1 S.2.1 S.2.2.2.2 inX0 S.2.2.2.1 hG.2.1 hG.1 j (wg_0 (ck_of (og h).1)) rfl 6 (by decide) (S.2.2.2.2 _ hl) (fun _ h9 => h9) rfl hdg (kk (og h).2)
theorem pf_0_6 (S : CallFix p m c cc nL s args AL own) (hG : GA g ad σ true b s H locs) {j : Nat} {v : Int32} {K : Mem → Option α} {index : Nat} (hl : Cond.fieldLink own index "MuffledTolls$Bell" "pause" "I" ∈ AL) (hdg : decode cc pc = .ok (.putfield index, 3)) (kk : ∀ (σ1 : Mem) (H1 : Heap) (locs1 : List Loc), GA g ad σ1 true b s H1 locs1 → K σ1 = some res → W p l e R s m args below meth c H1 locs1 cells slots Q (F0 m (pc + 3) ls rest)) : gd (ck j 0) (nm (sI σ j 6 v) K) = some res → W p l e R s m args below meth c H locs cells slots Q (F0 m pc ls (.int v :: .ref (ad j) :: rest)) := fun h => va_put S.1 S.2.1 S.2.2.2.2 inX0 tyX0 tyX0_ok nmX0 S.2.2.2.1 hG.2.1 hG.1 (GA_Dw hG) hG.2.2.2.1 j (wg_0 (ck_of (og h).1)) rfl 6 (by decide) (S.2.2.2.2 _ hl) (fun _ h9 => h9) rfl (ty := .int) (v := .int v) (tyX0_ok 6 (by decide)) rfl rfl (Nat.le_of_ble_eq_true rfl) hdg (fun H1 locs1 hP1 hD1 hS1 => kk _ H1 locs1 (GA_wrote hG (ck_of (og h).1).1 (by rw [sI_self, ce_0 (ck_of (og h).1).2]; rfl) sI_other hP1 hS1) (og h).2)
theorem gf_0_7 (S : CallFix p m c cc nL s args AL own) (hG : GA g ad σ w b s H locs) {j : Nat} {index : Nat} (hl : Cond.fieldLink own index "MuffledTolls$Bell" "strokes" "I" ∈ AL) (hdg : decode cc pc = .ok (.getfield index, 3)) (kk : X = some res → W p l e R s m args below meth c H locs cells slots Q (F0 m (pc + 3) ls (.int (σ j 7) :: rest))) : gd (ck j 0) X = some res → W p l e R s m args below meth c H locs cells slots Q (F0 m pc ls (.ref (ad j) :: rest)) := fun h => va_get S.1 S.2.1 S.2.2.2.2 inX0 S.2.2.2.1 hG.2.1 hG.1 j (wg_0 (ck_of (og h).1)) rfl 7 (by decide) (S.2.2.2.2 _ hl) (fun _ h9 => h9) rfl hdg (kk (og h).2)
theorem pf_0_7 (S : CallFix p m c cc nL s args AL own) (hG : GA g ad σ true b s H locs) {j : Nat} {v : Int32} {K : Mem → Option α} {index : Nat} (hl : Cond.fieldLink own index "MuffledTolls$Bell" "strokes" "I" ∈ AL) (hdg : decode cc pc = .ok (.putfield index, 3)) (kk : ∀ (σ1 : Mem) (H1 : Heap) (locs1 : List Loc), GA g ad σ1 true b s H1 locs1 → K σ1 = some res → W p l e R s m args below meth c H1 locs1 cells slots Q (F0 m (pc + 3) ls rest)) : gd (ck j 0) (nm (sI σ j 7 v) K) = some res → W p l e R s m args below meth c H locs cells slots Q (F0 m pc ls (.int v :: .ref (ad j) :: rest)) := fun h => va_put S.1 S.2.1 S.2.2.2.2 inX0 tyX0 tyX0_ok nmX0 S.2.2.2.1 hG.2.1 hG.1 (GA_Dw hG) hG.2.2.2.1 j (wg_0 (ck_of (og h).1)) rfl 7 (by decide) (S.2.2.2.2 _ hl) (fun _ h9 => h9) rfl (ty := .int) (v := .int v) (tyX0_ok 7 (by decide)) rfl rfl (Nat.le_of_ble_eq_true rfl) hdg (fun H1 locs1 hP1 hD1 hS1 => kk _ H1 locs1 (GA_wrote hG (ck_of (og h).1).1 (by rw [sI_self, ce_0 (ck_of (og h).1).2]; rfl) sI_other hP1 hS1) (og h).2)
theorem gf_1_0 (S : CallFix p m c cc nL s args AL own) (hG : GA g ad σ w b s H locs) {j : Nat} {index : Nat} (hl : Cond.fieldLink own index "MuffledTolls$Leather" "thick" "I" ∈ AL) (hdg : decode cc pc = .ok (.getfield index, 3)) (kk : X = some res → W p l e R s m args below meth c H locs cells slots Q (F0 m (pc + 3) ls (.int (σ j 0) :: rest))) : gd (ck j 1) X = some res → W p l e R s m args below meth c H locs cells slots Q (F0 m pc ls (.ref (ad j) :: rest)) := fun h => va_get S.1 S.2.1 S.2.2.2.2 inX1 S.2.2.2.1 hG.2.1 hG.1 j (wg_1 (ck_of (og h).1)) rfl 0 (by decide) (S.2.2.2.2 _ hl) (fun _ h9 => h9) rfl hdg (kk (og h).2)
theorem pf_1_0 (S : CallFix p m c cc nL s args AL own) (hG : GA g ad σ true b s H locs) {j : Nat} {v : Int32} {K : Mem → Option α} {index : Nat} (hl : Cond.fieldLink own index "MuffledTolls$Leather" "thick" "I" ∈ AL) (hdg : decode cc pc = .ok (.putfield index, 3)) (kk : ∀ (σ1 : Mem) (H1 : Heap) (locs1 : List Loc), GA g ad σ1 true b s H1 locs1 → K σ1 = some res → W p l e R s m args below meth c H1 locs1 cells slots Q (F0 m (pc + 3) ls rest)) : gd (ck j 1) (nm (sI σ j 0 v) K) = some res → W p l e R s m args below meth c H locs cells slots Q (F0 m pc ls (.int v :: .ref (ad j) :: rest)) := fun h => va_put S.1 S.2.1 S.2.2.2.2 inX1 tyX1 tyX1_ok nmX1 S.2.2.2.1 hG.2.1 hG.1 (GA_Dw hG) hG.2.2.2.1 j (wg_1 (ck_of (og h).1)) rfl 0 (by decide) (S.2.2.2.2 _ hl) (fun _ h9 => h9) rfl (ty := .int) (v := .int v) (tyX1_ok 0 (by decide)) rfl rfl (Nat.le_of_ble_eq_true rfl) hdg (fun H1 locs1 hP1 hD1 hS1 => kk _ H1 locs1 (GA_wrote hG (ck_of (og h).1).1 (by rw [sI_self, ce_1 (ck_of (og h).1).2]; rfl) sI_other hP1 hS1) (og h).2)
theorem gf_1_1 (S : CallFix p m c cc nL s args AL own) (hG : GA g ad σ w b s H locs) {j : Nat} {index : Nat} (hl : Cond.fieldLink own index "MuffledTolls$Leather" "worn" "I" ∈ AL) (hdg : decode cc pc = .ok (.getfield index, 3)) (kk : X = some res → W p l e R s m args below meth c H locs cells slots Q (F0 m (pc + 3) ls (.int (σ j 1) :: rest))) : gd (ck j 1) X = some res → W p l e R s m args below meth c H locs cells slots Q (F0 m pc ls (.ref (ad j) :: rest)) := fun h => va_get S.1 S.2.1 S.2.2.2.2 inX1 S.2.2.2.1 hG.2.1 hG.1 j (wg_1 (ck_of (og h).1)) rfl 1 (by decide) (S.2.2.2.2 _ hl) (fun _ h9 => h9) rfl hdg (kk (og h).2)
theorem pf_1_1 (S : CallFix p m c cc nL s args AL own) (hG : GA g ad σ true b s H locs) {j : Nat} {v : Int32} {K : Mem → Option α} {index : Nat} (hl : Cond.fieldLink own index "MuffledTolls$Leather" "worn" "I" ∈ AL) (hdg : decode cc pc = .ok (.putfield index, 3)) (kk : ∀ (σ1 : Mem) (H1 : Heap) (locs1 : List Loc), GA g ad σ1 true b s H1 locs1 → K σ1 = some res → W p l e R s m args below meth c H1 locs1 cells slots Q (F0 m (pc + 3) ls rest)) : gd (ck j 1) (nm (sI σ j 1 v) K) = some res → W p l e R s m args below meth c H locs cells slots Q (F0 m pc ls (.int v :: .ref (ad j) :: rest)) := fun h => va_put S.1 S.2.1 S.2.2.2.2 inX1 tyX1 tyX1_ok nmX1 S.2.2.2.1 hG.2.1 hG.1 (GA_Dw hG) hG.2.2.2.1 j (wg_1 (ck_of (og h).1)) rfl 1 (by decide) (S.2.2.2.2 _ hl) (fun _ h9 => h9) rfl (ty := .int) (v := .int v) (tyX1_ok 1 (by decide)) rfl rfl (Nat.le_of_ble_eq_true rfl) hdg (fun H1 locs1 hP1 hD1 hS1 => kk _ H1 locs1 (GA_wrote hG (ck_of (og h).1).1 (by rw [sI_self, ce_1 (ck_of (og h).1).2]; rfl) sI_other hP1 hS1) (og h).2)
theorem gf_2_0 (S : CallFix p m c cc nL s args AL own) (hG : GA g ad σ w b s H locs) {j : Nat} {index : Nat} (hl : Cond.fieldLink own index "MuffledTolls$Ringer" "strength" "I" ∈ AL) (hdg : decode cc pc = .ok (.getfield index, 3)) (kk : X = some res → W p l e R s m args below meth c H locs cells slots Q (F0 m (pc + 3) ls (.int (σ j 0) :: rest))) : gd (ck j 2) X = some res → W p l e R s m args below meth c H locs cells slots Q (F0 m pc ls (.ref (ad j) :: rest)) := fun h => va_get S.1 S.2.1 S.2.2.2.2 inX2 S.2.2.2.1 hG.2.1 hG.1 j (wg_2 (ck_of (og h).1)) rfl 0 (by decide) (S.2.2.2.2 _ hl) (fun _ h9 => h9) rfl hdg (kk (og h).2)
theorem pf_2_0 (S : CallFix p m c cc nL s args AL own) (hG : GA g ad σ true b s H locs) {j : Nat} {v : Int32} {K : Mem → Option α} {index : Nat} (hl : Cond.fieldLink own index "MuffledTolls$Ringer" "strength" "I" ∈ AL) (hdg : decode cc pc = .ok (.putfield index, 3)) (kk : ∀ (σ1 : Mem) (H1 : Heap) (locs1 : List Loc), GA g ad σ1 true b s H1 locs1 → K σ1 = some res → W p l e R s m args below meth c H1 locs1 cells slots Q (F0 m (pc + 3) ls rest)) : gd (ck j 2) (nm (sI σ j 0 v) K) = some res → W p l e R s m args below meth c H locs cells slots Q (F0 m pc ls (.int v :: .ref (ad j) :: rest)) := fun h => va_put S.1 S.2.1 S.2.2.2.2 inX2 tyX2 tyX2_ok nmX2 S.2.2.2.1 hG.2.1 hG.1 (GA_Dw hG) hG.2.2.2.1 j (wg_2 (ck_of (og h).1)) rfl 0 (by decide) (S.2.2.2.2 _ hl) (fun _ h9 => h9) rfl (ty := .int) (v := .int v) (tyX2_ok 0 (by decide)) rfl rfl (Nat.le_of_ble_eq_true rfl) hdg (fun H1 locs1 hP1 hD1 hS1 => kk _ H1 locs1 (GA_wrote hG (ck_of (og h).1).1 (by rw [sI_self, ce_2 (ck_of (og h).1).2]; rfl) sI_other hP1 hS1) (og h).2)
theorem gf_2_1 (S : CallFix p m c cc nL s args AL own) (hG : GA g ad σ w b s H locs) {j : Nat} {index : Nat} (hl : Cond.fieldLink own index "MuffledTolls$Ringer" "tired" "I" ∈ AL) (hdg : decode cc pc = .ok (.getfield index, 3)) (kk : X = some res → W p l e R s m args below meth c H locs cells slots Q (F0 m (pc + 3) ls (.int (σ j 1) :: rest))) : gd (ck j 2) X = some res → W p l e R s m args below meth c H locs cells slots Q (F0 m pc ls (.ref (ad j) :: rest)) := fun h => va_get S.1 S.2.1 S.2.2.2.2 inX2 S.2.2.2.1 hG.2.1 hG.1 j (wg_2 (ck_of (og h).1)) rfl 1 (by decide) (S.2.2.2.2 _ hl) (fun _ h9 => h9) rfl hdg (kk (og h).2)
theorem pf_2_1 (S : CallFix p m c cc nL s args AL own) (hG : GA g ad σ true b s H locs) {j : Nat} {v : Int32} {K : Mem → Option α} {index : Nat} (hl : Cond.fieldLink own index "MuffledTolls$Ringer" "tired" "I" ∈ AL) (hdg : decode cc pc = .ok (.putfield index, 3)) (kk : ∀ (σ1 : Mem) (H1 : Heap) (locs1 : List Loc), GA g ad σ1 true b s H1 locs1 → K σ1 = some res → W p l e R s m args below meth c H1 locs1 cells slots Q (F0 m (pc + 3) ls rest)) : gd (ck j 2) (nm (sI σ j 1 v) K) = some res → W p l e R s m args below meth c H locs cells slots Q (F0 m pc ls (.int v :: .ref (ad j) :: rest)) := fun h => va_put S.1 S.2.1 S.2.2.2.2 inX2 tyX2 tyX2_ok nmX2 S.2.2.2.1 hG.2.1 hG.1 (GA_Dw hG) hG.2.2.2.1 j (wg_2 (ck_of (og h).1)) rfl 1 (by decide) (S.2.2.2.2 _ hl) (fun _ h9 => h9) rfl (ty := .int) (v := .int v) (tyX2_ok 1 (by decide)) rfl rfl (Nat.le_of_ble_eq_true rfl) hdg (fun H1 locs1 hP1 hD1 hS1 => kk _ H1 locs1 (GA_wrote hG (ck_of (og h).1).1 (by rw [sI_self, ce_2 (ck_of (og h).1).2]; rfl) sI_other hP1 hS1) (og h).2)
theorem gf_2_2 (S : CallFix p m c cc nL s args AL own) (hG : GA g ad σ w b s H locs) {j : Nat} {index : Nat} (hl : Cond.fieldLink own index "MuffledTolls$Ringer" "bell" "I" ∈ AL) (hdg : decode cc pc = .ok (.getfield index, 3)) (kk : X = some res → W p l e R s m args below meth c H locs cells slots Q (F0 m (pc + 3) ls (.int (σ j 2) :: rest))) : gd (ck j 2) X = some res → W p l e R s m args below meth c H locs cells slots Q (F0 m pc ls (.ref (ad j) :: rest)) := fun h => va_get S.1 S.2.1 S.2.2.2.2 inX2 S.2.2.2.1 hG.2.1 hG.1 j (wg_2 (ck_of (og h).1)) rfl 2 (by decide) (S.2.2.2.2 _ hl) (fun _ h9 => h9) rfl hdg (kk (og h).2)
theorem pf_2_2 (S : CallFix p m c cc nL s args AL own) (hG : GA g ad σ true b s H locs) {j : Nat} {v : Int32} {K : Mem → Option α} {index : Nat} (hl : Cond.fieldLink own index "MuffledTolls$Ringer" "bell" "I" ∈ AL) (hdg : decode cc pc = .ok (.putfield index, 3)) (kk : ∀ (σ1 : Mem) (H1 : Heap) (locs1 : List Loc), GA g ad σ1 true b s H1 locs1 → K σ1 = some res → W p l e R s m args below meth c H1 locs1 cells slots Q (F0 m (pc + 3) ls rest)) : gd (ck j 2) (nm (sI σ j 2 v) K) = some res → W p l e R s m args below meth c H locs cells slots Q (F0 m pc ls (.int v :: .ref (ad j) :: rest)) := fun h => va_put S.1 S.2.1 S.2.2.2.2 inX2 tyX2 tyX2_ok nmX2 S.2.2.2.1 hG.2.1 hG.1 (GA_Dw hG) hG.2.2.2.1 j (wg_2 (ck_of (og h).1)) rfl 2 (by decide) (S.2.2.2.2 _ hl) (fun _ h9 => h9) rfl (ty := .int) (v := .int v) (tyX2_ok 2 (by decide)) rfl rfl (Nat.le_of_ble_eq_true rfl) hdg (fun H1 locs1 hP1 hD1 hS1 => kk _ H1 locs1 (GA_wrote hG (ck_of (og h).1).1 (by rw [sI_self, ce_2 (ck_of (og h).1).2]; rfl) sI_other hP1 hS1) (og h).2)
theorem gf_2_3 (S : CallFix p m c cc nL s args AL own) (hG : GA g ad σ w b s H locs) {j : Nat} {index : Nat} (hl : Cond.fieldLink own index "MuffledTolls$Ringer" "strokes" "I" ∈ AL) (hdg : decode cc pc = .ok (.getfield index, 3)) (kk : X = some res → W p l e R s m args below meth c H locs cells slots Q (F0 m (pc + 3) ls (.int (σ j 3) :: rest))) : gd (ck j 2) X = some res → W p l e R s m args below meth c H locs cells slots Q (F0 m pc ls (.ref (ad j) :: rest)) := fun h => va_get S.1 S.2.1 S.2.2.2.2 inX2 S.2.2.2.1 hG.2.1 hG.1 j (wg_2 (ck_of (og h).1)) rfl 3 (by decide) (S.2.2.2.2 _ hl) (fun _ h9 => h9) rfl hdg (kk (og h).2)
theorem pf_2_3 (S : CallFix p m c cc nL s args AL own) (hG : GA g ad σ true b s H locs) {j : Nat} {v : Int32} {K : Mem → Option α} {index : Nat} (hl : Cond.fieldLink own index "MuffledTolls$Ringer" "strokes" "I" ∈ AL) (hdg : decode cc pc = .ok (.putfield index, 3)) (kk : ∀ (σ1 : Mem) (H1 : Heap) (locs1 : List Loc), GA g ad σ1 true b s H1 locs1 → K σ1 = some res → W p l e R s m args below meth c H1 locs1 cells slots Q (F0 m (pc + 3) ls rest)) : gd (ck j 2) (nm (sI σ j 3 v) K) = some res → W p l e R s m args below meth c H locs cells slots Q (F0 m pc ls (.int v :: .ref (ad j) :: rest)) := fun h => va_put S.1 S.2.1 S.2.2.2.2 inX2 tyX2 tyX2_ok nmX2 S.2.2.2.1 hG.2.1 hG.1 (GA_Dw hG) hG.2.2.2.1 j (wg_2 (ck_of (og h).1)) rfl 3 (by decide) (S.2.2.2.2 _ hl) (fun _ h9 => h9) rfl (ty := .int) (v := .int v) (tyX2_ok 3 (by decide)) rfl rfl (Nat.le_of_ble_eq_true rfl) hdg (fun H1 locs1 hP1 hD1 hS1 => kk _ H1 locs1 (GA_wrote hG (ck_of (og h).1).1 (by rw [sI_self, ce_2 (ck_of (og h).1).2]; rfl) sI_other hP1 hS1) (og h).2)
theorem gf_2_4 (S : CallFix p m c cc nL s args AL own) (hG : GA g ad σ w b s H locs) {j : Nat} {index : Nat} (hl : Cond.fieldLink own index "MuffledTolls$Ringer" "reliefs" "I" ∈ AL) (hdg : decode cc pc = .ok (.getfield index, 3)) (kk : X = some res → W p l e R s m args below meth c H locs cells slots Q (F0 m (pc + 3) ls (.int (σ j 4) :: rest))) : gd (ck j 2) X = some res → W p l e R s m args below meth c H locs cells slots Q (F0 m pc ls (.ref (ad j) :: rest)) := fun h => va_get S.1 S.2.1 S.2.2.2.2 inX2 S.2.2.2.1 hG.2.1 hG.1 j (wg_2 (ck_of (og h).1)) rfl 4 (by decide) (S.2.2.2.2 _ hl) (fun _ h9 => h9) rfl hdg (kk (og h).2)
theorem pf_2_4 (S : CallFix p m c cc nL s args AL own) (hG : GA g ad σ true b s H locs) {j : Nat} {v : Int32} {K : Mem → Option α} {index : Nat} (hl : Cond.fieldLink own index "MuffledTolls$Ringer" "reliefs" "I" ∈ AL) (hdg : decode cc pc = .ok (.putfield index, 3)) (kk : ∀ (σ1 : Mem) (H1 : Heap) (locs1 : List Loc), GA g ad σ1 true b s H1 locs1 → K σ1 = some res → W p l e R s m args below meth c H1 locs1 cells slots Q (F0 m (pc + 3) ls rest)) : gd (ck j 2) (nm (sI σ j 4 v) K) = some res → W p l e R s m args below meth c H locs cells slots Q (F0 m pc ls (.int v :: .ref (ad j) :: rest)) := fun h => va_put S.1 S.2.1 S.2.2.2.2 inX2 tyX2 tyX2_ok nmX2 S.2.2.2.1 hG.2.1 hG.1 (GA_Dw hG) hG.2.2.2.1 j (wg_2 (ck_of (og h).1)) rfl 4 (by decide) (S.2.2.2.2 _ hl) (fun _ h9 => h9) rfl (ty := .int) (v := .int v) (tyX2_ok 4 (by decide)) rfl rfl (Nat.le_of_ble_eq_true rfl) hdg (fun H1 locs1 hP1 hD1 hS1 => kk _ H1 locs1 (GA_wrote hG (ck_of (og h).1).1 (by rw [sI_self, ce_2 (ck_of (og h).1).2]; rfl) sI_other hP1 hS1) (og h).2)
theorem gr_3_0 (S : CallFix p m c cc nL s args AL own) (hG : GA g ad σ w b s H locs) {j : Nat} {K : Nat → Option α} {index : Nat} (hl : Cond.fieldLink own index "MuffledTolls$Toll" "yearsByReach" "[I" ∈ AL) (hdg : decode cc pc = .ok (.getfield index, 3)) (kk : ∀ r : Nat, K r = some res → W p l e R s m args below meth c H locs cells slots Q (F0 m (pc + 3) ls (.ref (ad r) :: rest))) : b1 (rf j 3 0) K = some res → W p l e R s m args below meth c H locs cells slots Q (F0 m pc ls (.ref (ad j) :: rest)) := fun h => by
  obtain ⟨r, e1, h⟩ := ob h
  have e2 := rf_of e1
  exact va_get S.1 S.2.1 S.2.2.2.2 inX3 S.2.2.2.1 hG.2.1 hG.1 j (wg_3 ⟨e2.1, e2.2.1⟩) rfl 0 (by decide) (S.2.2.2.2 _ hl) (fun _ h9 => h9) (v := .ref (ad r)) (by simp [va_re, va_rf, e2.2.2]) hdg (kk r h)
theorem gf_3_1 (S : CallFix p m c cc nL s args AL own) (hG : GA g ad σ w b s H locs) {j : Nat} {index : Nat} (hl : Cond.fieldLink own index "MuffledTolls$Toll" "bell" "I" ∈ AL) (hdg : decode cc pc = .ok (.getfield index, 3)) (kk : X = some res → W p l e R s m args below meth c H locs cells slots Q (F0 m (pc + 3) ls (.int (σ j 1) :: rest))) : gd (ck j 3) X = some res → W p l e R s m args below meth c H locs cells slots Q (F0 m pc ls (.ref (ad j) :: rest)) := fun h => va_get S.1 S.2.1 S.2.2.2.2 inX3 S.2.2.2.1 hG.2.1 hG.1 j (wg_3 (ck_of (og h).1)) rfl 1 (by decide) (S.2.2.2.2 _ hl) (fun _ h9 => h9) rfl hdg (kk (og h).2)
theorem pf_3_1 (S : CallFix p m c cc nL s args AL own) (hG : GA g ad σ true b s H locs) {j : Nat} {v : Int32} {K : Mem → Option α} {index : Nat} (hl : Cond.fieldLink own index "MuffledTolls$Toll" "bell" "I" ∈ AL) (hdg : decode cc pc = .ok (.putfield index, 3)) (kk : ∀ (σ1 : Mem) (H1 : Heap) (locs1 : List Loc), GA g ad σ1 true b s H1 locs1 → K σ1 = some res → W p l e R s m args below meth c H1 locs1 cells slots Q (F0 m (pc + 3) ls rest)) : gd (ck j 3) (nm (sI σ j 1 v) K) = some res → W p l e R s m args below meth c H locs cells slots Q (F0 m pc ls (.int v :: .ref (ad j) :: rest)) := fun h => va_put S.1 S.2.1 S.2.2.2.2 inX3 tyX3 tyX3_ok nmX3 S.2.2.2.1 hG.2.1 hG.1 (GA_Dw hG) hG.2.2.2.1 j (wg_3 (ck_of (og h).1)) rfl 1 (by decide) (S.2.2.2.2 _ hl) (fun _ h9 => h9) rfl (ty := .int) (v := .int v) (tyX3_ok 1 (by decide)) rfl rfl (Nat.le_of_ble_eq_true rfl) hdg (fun H1 locs1 hP1 hD1 hS1 => kk _ H1 locs1 (GA_wrote hG (ck_of (og h).1).1 (by rw [sI_self, ce_3 (ck_of (og h).1).2]; rfl) sI_other hP1 hS1) (og h).2)
theorem gf_3_2 (S : CallFix p m c cc nL s args AL own) (hG : GA g ad σ w b s H locs) {j : Nat} {index : Nat} (hl : Cond.fieldLink own index "MuffledTolls$Toll" "kind" "I" ∈ AL) (hdg : decode cc pc = .ok (.getfield index, 3)) (kk : X = some res → W p l e R s m args below meth c H locs cells slots Q (F0 m (pc + 3) ls (.int (σ j 2) :: rest))) : gd (ck j 3) X = some res → W p l e R s m args below meth c H locs cells slots Q (F0 m pc ls (.ref (ad j) :: rest)) := fun h => va_get S.1 S.2.1 S.2.2.2.2 inX3 S.2.2.2.1 hG.2.1 hG.1 j (wg_3 (ck_of (og h).1)) rfl 2 (by decide) (S.2.2.2.2 _ hl) (fun _ h9 => h9) rfl hdg (kk (og h).2)
theorem pf_3_2 (S : CallFix p m c cc nL s args AL own) (hG : GA g ad σ true b s H locs) {j : Nat} {v : Int32} {K : Mem → Option α} {index : Nat} (hl : Cond.fieldLink own index "MuffledTolls$Toll" "kind" "I" ∈ AL) (hdg : decode cc pc = .ok (.putfield index, 3)) (kk : ∀ (σ1 : Mem) (H1 : Heap) (locs1 : List Loc), GA g ad σ1 true b s H1 locs1 → K σ1 = some res → W p l e R s m args below meth c H1 locs1 cells slots Q (F0 m (pc + 3) ls rest)) : gd (ck j 3) (nm (sI σ j 2 v) K) = some res → W p l e R s m args below meth c H locs cells slots Q (F0 m pc ls (.int v :: .ref (ad j) :: rest)) := fun h => va_put S.1 S.2.1 S.2.2.2.2 inX3 tyX3 tyX3_ok nmX3 S.2.2.2.1 hG.2.1 hG.1 (GA_Dw hG) hG.2.2.2.1 j (wg_3 (ck_of (og h).1)) rfl 2 (by decide) (S.2.2.2.2 _ hl) (fun _ h9 => h9) rfl (ty := .int) (v := .int v) (tyX3_ok 2 (by decide)) rfl rfl (Nat.le_of_ble_eq_true rfl) hdg (fun H1 locs1 hP1 hD1 hS1 => kk _ H1 locs1 (GA_wrote hG (ck_of (og h).1).1 (by rw [sI_self, ce_3 (ck_of (og h).1).2]; rfl) sI_other hP1 hS1) (og h).2)
theorem gf_3_3 (S : CallFix p m c cc nL s args AL own) (hG : GA g ad σ w b s H locs) {j : Nat} {index : Nat} (hl : Cond.fieldLink own index "MuffledTolls$Toll" "age" "I" ∈ AL) (hdg : decode cc pc = .ok (.getfield index, 3)) (kk : X = some res → W p l e R s m args below meth c H locs cells slots Q (F0 m (pc + 3) ls (.int (σ j 3) :: rest))) : gd (ck j 3) X = some res → W p l e R s m args below meth c H locs cells slots Q (F0 m pc ls (.ref (ad j) :: rest)) := fun h => va_get S.1 S.2.1 S.2.2.2.2 inX3 S.2.2.2.1 hG.2.1 hG.1 j (wg_3 (ck_of (og h).1)) rfl 3 (by decide) (S.2.2.2.2 _ hl) (fun _ h9 => h9) rfl hdg (kk (og h).2)
theorem pf_3_3 (S : CallFix p m c cc nL s args AL own) (hG : GA g ad σ true b s H locs) {j : Nat} {v : Int32} {K : Mem → Option α} {index : Nat} (hl : Cond.fieldLink own index "MuffledTolls$Toll" "age" "I" ∈ AL) (hdg : decode cc pc = .ok (.putfield index, 3)) (kk : ∀ (σ1 : Mem) (H1 : Heap) (locs1 : List Loc), GA g ad σ1 true b s H1 locs1 → K σ1 = some res → W p l e R s m args below meth c H1 locs1 cells slots Q (F0 m (pc + 3) ls rest)) : gd (ck j 3) (nm (sI σ j 3 v) K) = some res → W p l e R s m args below meth c H locs cells slots Q (F0 m pc ls (.int v :: .ref (ad j) :: rest)) := fun h => va_put S.1 S.2.1 S.2.2.2.2 inX3 tyX3 tyX3_ok nmX3 S.2.2.2.1 hG.2.1 hG.1 (GA_Dw hG) hG.2.2.2.1 j (wg_3 (ck_of (og h).1)) rfl 3 (by decide) (S.2.2.2.2 _ hl) (fun _ h9 => h9) rfl (ty := .int) (v := .int v) (tyX3_ok 3 (by decide)) rfl rfl (Nat.le_of_ble_eq_true rfl) hdg (fun H1 locs1 hP1 hD1 hS1 => kk _ H1 locs1 (GA_wrote hG (ck_of (og h).1).1 (by rw [sI_self, ce_3 (ck_of (og h).1).2]; rfl) sI_other hP1 hS1) (og h).2)
theorem gf_3_4 (S : CallFix p m c cc nL s args AL own) (hG : GA g ad σ w b s H locs) {j : Nat} {index : Nat} (hl : Cond.fieldLink own index "MuffledTolls$Toll" "pace" "I" ∈ AL) (hdg : decode cc pc = .ok (.getfield index, 3)) (kk : X = some res → W p l e R s m args below meth c H locs cells slots Q (F0 m (pc + 3) ls (.int (σ j 4) :: rest))) : gd (ck j 3) X = some res → W p l e R s m args below meth c H locs cells slots Q (F0 m pc ls (.ref (ad j) :: rest)) := fun h => va_get S.1 S.2.1 S.2.2.2.2 inX3 S.2.2.2.1 hG.2.1 hG.1 j (wg_3 (ck_of (og h).1)) rfl 4 (by decide) (S.2.2.2.2 _ hl) (fun _ h9 => h9) rfl hdg (kk (og h).2)
theorem pf_3_4 (S : CallFix p m c cc nL s args AL own) (hG : GA g ad σ true b s H locs) {j : Nat} {v : Int32} {K : Mem → Option α} {index : Nat} (hl : Cond.fieldLink own index "MuffledTolls$Toll" "pace" "I" ∈ AL) (hdg : decode cc pc = .ok (.putfield index, 3)) (kk : ∀ (σ1 : Mem) (H1 : Heap) (locs1 : List Loc), GA g ad σ1 true b s H1 locs1 → K σ1 = some res → W p l e R s m args below meth c H1 locs1 cells slots Q (F0 m (pc + 3) ls rest)) : gd (ck j 3) (nm (sI σ j 4 v) K) = some res → W p l e R s m args below meth c H locs cells slots Q (F0 m pc ls (.int v :: .ref (ad j) :: rest)) := fun h => va_put S.1 S.2.1 S.2.2.2.2 inX3 tyX3 tyX3_ok nmX3 S.2.2.2.1 hG.2.1 hG.1 (GA_Dw hG) hG.2.2.2.1 j (wg_3 (ck_of (og h).1)) rfl 4 (by decide) (S.2.2.2.2 _ hl) (fun _ h9 => h9) rfl (ty := .int) (v := .int v) (tyX3_ok 4 (by decide)) rfl rfl (Nat.le_of_ble_eq_true rfl) hdg (fun H1 locs1 hP1 hD1 hS1 => kk _ H1 locs1 (GA_wrote hG (ck_of (og h).1).1 (by rw [sI_self, ce_3 (ck_of (og h).1).2]; rfl) sI_other hP1 hS1) (og h).2)
theorem gf_3_5 (S : CallFix p m c cc nL s args AL own) (hG : GA g ad σ w b s H locs) {j : Nat} {index : Nat} (hl : Cond.fieldLink own index "MuffledTolls$Toll" "strokes" "I" ∈ AL) (hdg : decode cc pc = .ok (.getfield index, 3)) (kk : X = some res → W p l e R s m args below meth c H locs cells slots Q (F0 m (pc + 3) ls (.int (σ j 5) :: rest))) : gd (ck j 3) X = some res → W p l e R s m args below meth c H locs cells slots Q (F0 m pc ls (.ref (ad j) :: rest)) := fun h => va_get S.1 S.2.1 S.2.2.2.2 inX3 S.2.2.2.1 hG.2.1 hG.1 j (wg_3 (ck_of (og h).1)) rfl 5 (by decide) (S.2.2.2.2 _ hl) (fun _ h9 => h9) rfl hdg (kk (og h).2)
theorem pf_3_5 (S : CallFix p m c cc nL s args AL own) (hG : GA g ad σ true b s H locs) {j : Nat} {v : Int32} {K : Mem → Option α} {index : Nat} (hl : Cond.fieldLink own index "MuffledTolls$Toll" "strokes" "I" ∈ AL) (hdg : decode cc pc = .ok (.putfield index, 3)) (kk : ∀ (σ1 : Mem) (H1 : Heap) (locs1 : List Loc), GA g ad σ1 true b s H1 locs1 → K σ1 = some res → W p l e R s m args below meth c H1 locs1 cells slots Q (F0 m (pc + 3) ls rest)) : gd (ck j 3) (nm (sI σ j 5 v) K) = some res → W p l e R s m args below meth c H locs cells slots Q (F0 m pc ls (.int v :: .ref (ad j) :: rest)) := fun h => va_put S.1 S.2.1 S.2.2.2.2 inX3 tyX3 tyX3_ok nmX3 S.2.2.2.1 hG.2.1 hG.1 (GA_Dw hG) hG.2.2.2.1 j (wg_3 (ck_of (og h).1)) rfl 5 (by decide) (S.2.2.2.2 _ hl) (fun _ h9 => h9) rfl (ty := .int) (v := .int v) (tyX3_ok 5 (by decide)) rfl rfl (Nat.le_of_ble_eq_true rfl) hdg (fun H1 locs1 hP1 hD1 hS1 => kk _ H1 locs1 (GA_wrote hG (ck_of (og h).1).1 (by rw [sI_self, ce_3 (ck_of (og h).1).2]; rfl) sI_other hP1 hS1) (og h).2)
theorem gf_3_6 (S : CallFix p m c cc nL s args AL own) (hG : GA g ad σ w b s H locs) {j : Nat} {index : Nat} (hl : Cond.fieldLink own index "MuffledTolls$Toll" "loud" "I" ∈ AL) (hdg : decode cc pc = .ok (.getfield index, 3)) (kk : X = some res → W p l e R s m args below meth c H locs cells slots Q (F0 m (pc + 3) ls (.int (σ j 6) :: rest))) : gd (ck j 3) X = some res → W p l e R s m args below meth c H locs cells slots Q (F0 m pc ls (.ref (ad j) :: rest)) := fun h => va_get S.1 S.2.1 S.2.2.2.2 inX3 S.2.2.2.1 hG.2.1 hG.1 j (wg_3 (ck_of (og h).1)) rfl 6 (by decide) (S.2.2.2.2 _ hl) (fun _ h9 => h9) rfl hdg (kk (og h).2)
theorem pf_3_6 (S : CallFix p m c cc nL s args AL own) (hG : GA g ad σ true b s H locs) {j : Nat} {v : Int32} {K : Mem → Option α} {index : Nat} (hl : Cond.fieldLink own index "MuffledTolls$Toll" "loud" "I" ∈ AL) (hdg : decode cc pc = .ok (.putfield index, 3)) (kk : ∀ (σ1 : Mem) (H1 : Heap) (locs1 : List Loc), GA g ad σ1 true b s H1 locs1 → K σ1 = some res → W p l e R s m args below meth c H1 locs1 cells slots Q (F0 m (pc + 3) ls rest)) : gd (ck j 3) (nm (sI σ j 6 v) K) = some res → W p l e R s m args below meth c H locs cells slots Q (F0 m pc ls (.int v :: .ref (ad j) :: rest)) := fun h => va_put S.1 S.2.1 S.2.2.2.2 inX3 tyX3 tyX3_ok nmX3 S.2.2.2.1 hG.2.1 hG.1 (GA_Dw hG) hG.2.2.2.1 j (wg_3 (ck_of (og h).1)) rfl 6 (by decide) (S.2.2.2.2 _ hl) (fun _ h9 => h9) rfl (ty := .int) (v := .int v) (tyX3_ok 6 (by decide)) rfl rfl (Nat.le_of_ble_eq_true rfl) hdg (fun H1 locs1 hP1 hD1 hS1 => kk _ H1 locs1 (GA_wrote hG (ck_of (og h).1).1 (by rw [sI_self, ce_3 (ck_of (og h).1).2]; rfl) sI_other hP1 hS1) (og h).2)
theorem gf_3_7 (S : CallFix p m c cc nL s args AL own) (hG : GA g ad σ w b s H locs) {j : Nat} {index : Nat} (hl : Cond.fieldLink own index "MuffledTolls$Toll" "doneIn" "I" ∈ AL) (hdg : decode cc pc = .ok (.getfield index, 3)) (kk : X = some res → W p l e R s m args below meth c H locs cells slots Q (F0 m (pc + 3) ls (.int (σ j 7) :: rest))) : gd (ck j 3) X = some res → W p l e R s m args below meth c H locs cells slots Q (F0 m pc ls (.ref (ad j) :: rest)) := fun h => va_get S.1 S.2.1 S.2.2.2.2 inX3 S.2.2.2.1 hG.2.1 hG.1 j (wg_3 (ck_of (og h).1)) rfl 7 (by decide) (S.2.2.2.2 _ hl) (fun _ h9 => h9) rfl hdg (kk (og h).2)
theorem pf_3_7 (S : CallFix p m c cc nL s args AL own) (hG : GA g ad σ true b s H locs) {j : Nat} {v : Int32} {K : Mem → Option α} {index : Nat} (hl : Cond.fieldLink own index "MuffledTolls$Toll" "doneIn" "I" ∈ AL) (hdg : decode cc pc = .ok (.putfield index, 3)) (kk : ∀ (σ1 : Mem) (H1 : Heap) (locs1 : List Loc), GA g ad σ1 true b s H1 locs1 → K σ1 = some res → W p l e R s m args below meth c H1 locs1 cells slots Q (F0 m (pc + 3) ls rest)) : gd (ck j 3) (nm (sI σ j 7 v) K) = some res → W p l e R s m args below meth c H locs cells slots Q (F0 m pc ls (.int v :: .ref (ad j) :: rest)) := fun h => va_put S.1 S.2.1 S.2.2.2.2 inX3 tyX3 tyX3_ok nmX3 S.2.2.2.1 hG.2.1 hG.1 (GA_Dw hG) hG.2.2.2.1 j (wg_3 (ck_of (og h).1)) rfl 7 (by decide) (S.2.2.2.2 _ hl) (fun _ h9 => h9) rfl (ty := .int) (v := .int v) (tyX3_ok 7 (by decide)) rfl rfl (Nat.le_of_ble_eq_true rfl) hdg (fun H1 locs1 hP1 hD1 hS1 => kk _ H1 locs1 (GA_wrote hG (ck_of (og h).1).1 (by rw [sI_self, ce_3 (ck_of (og h).1).2]; rfl) sI_other hP1 hS1) (og h).2)
theorem gr_4_0 (S : CallFix p m c cc nL s args AL own) (hG : GA g ad σ w b s H locs) {j : Nat} {K : Nat → Option α} {index : Nat} (hl : Cond.fieldLink own index "MuffledTolls$Tower" "bells" "[LMuffledTolls$Bell;" ∈ AL) (hdg : decode cc pc = .ok (.getfield index, 3)) (kk : ∀ r : Nat, K r = some res → W p l e R s m args below meth c H locs cells slots Q (F0 m (pc + 3) ls (.ref (ad r) :: rest))) : b1 (rf j 4 0) K = some res → W p l e R s m args below meth c H locs cells slots Q (F0 m pc ls (.ref (ad j) :: rest)) := fun h => by
  obtain ⟨r, e1, h⟩ := ob h
  have e2 := rf_of e1
  exact va_get S.1 S.2.1 S.2.2.2.2 inX4 S.2.2.2.1 hG.2.1 hG.1 j (wg_4 ⟨e2.1, e2.2.1⟩) rfl 0 (by decide) (S.2.2.2.2 _ hl) (fun _ h9 => h9) (v := .ref (ad r)) (by simp [va_re, va_rf, e2.2.2]) hdg (kk r h)
theorem gr_4_1 (S : CallFix p m c cc nL s args AL own) (hG : GA g ad σ w b s H locs) {j : Nat} {K : Nat → Option α} {index : Nat} (hl : Cond.fieldLink own index "MuffledTolls$Tower" "ringers" "[LMuffledTolls$Ringer;" ∈ AL) (hdg : decode cc pc = .ok (.getfield index, 3)) (kk : ∀ r : Nat, K r = some res → W p l e R s m args below meth c H locs cells slots Q (F0 m (pc + 3) ls (.ref (ad r) :: rest))) : b1 (rf j 4 1) K = some res → W p l e R s m args below meth c H locs cells slots Q (F0 m pc ls (.ref (ad j) :: rest)) := fun h => by
  obtain ⟨r, e1, h⟩ := ob h
  have e2 := rf_of e1
  exact va_get S.1 S.2.1 S.2.2.2.2 inX4 S.2.2.2.1 hG.2.1 hG.1 j (wg_4 ⟨e2.1, e2.2.1⟩) rfl 1 (by decide) (S.2.2.2.2 _ hl) (fun _ h9 => h9) (v := .ref (ad r)) (by simp [va_re, va_rf, e2.2.2]) hdg (kk r h)
theorem gr_4_2 (S : CallFix p m c cc nL s args AL own) (hG : GA g ad σ w b s H locs) {j : Nat} {K : Nat → Option α} {index : Nat} (hl : Cond.fieldLink own index "MuffledTolls$Tower" "tolls" "[LMuffledTolls$Toll;" ∈ AL) (hdg : decode cc pc = .ok (.getfield index, 3)) (kk : ∀ r : Nat, K r = some res → W p l e R s m args below meth c H locs cells slots Q (F0 m (pc + 3) ls (.ref (ad r) :: rest))) : b1 (rf j 4 2) K = some res → W p l e R s m args below meth c H locs cells slots Q (F0 m pc ls (.ref (ad j) :: rest)) := fun h => by
  obtain ⟨r, e1, h⟩ := ob h
  have e2 := rf_of e1
  exact va_get S.1 S.2.1 S.2.2.2.2 inX4 S.2.2.2.1 hG.2.1 hG.1 j (wg_4 ⟨e2.1, e2.2.1⟩) rfl 2 (by decide) (S.2.2.2.2 _ hl) (fun _ h9 => h9) (v := .ref (ad r)) (by simp [va_re, va_rf, e2.2.2]) hdg (kk r h)
theorem gf_4_3 (S : CallFix p m c cc nL s args AL own) (hG : GA g ad σ w b s H locs) {j : Nat} {index : Nat} (hl : Cond.fieldLink own index "MuffledTolls$Tower" "minute" "I" ∈ AL) (hdg : decode cc pc = .ok (.getfield index, 3)) (kk : X = some res → W p l e R s m args below meth c H locs cells slots Q (F0 m (pc + 3) ls (.int (σ j 3) :: rest))) : gd (ck j 4) X = some res → W p l e R s m args below meth c H locs cells slots Q (F0 m pc ls (.ref (ad j) :: rest)) := fun h => va_get S.1 S.2.1 S.2.2.2.2 inX4 S.2.2.2.1 hG.2.1 hG.1 j (wg_4 (ck_of (og h).1)) rfl 3 (by decide) (S.2.2.2.2 _ hl) (fun _ h9 => h9) rfl hdg (kk (og h).2)
theorem pf_4_3 (S : CallFix p m c cc nL s args AL own) (hG : GA g ad σ true b s H locs) {j : Nat} {v : Int32} {K : Mem → Option α} {index : Nat} (hl : Cond.fieldLink own index "MuffledTolls$Tower" "minute" "I" ∈ AL) (hdg : decode cc pc = .ok (.putfield index, 3)) (kk : ∀ (σ1 : Mem) (H1 : Heap) (locs1 : List Loc), GA g ad σ1 true b s H1 locs1 → K σ1 = some res → W p l e R s m args below meth c H1 locs1 cells slots Q (F0 m (pc + 3) ls rest)) : gd (ck j 4) (nm (sI σ j 3 v) K) = some res → W p l e R s m args below meth c H locs cells slots Q (F0 m pc ls (.int v :: .ref (ad j) :: rest)) := fun h => va_put S.1 S.2.1 S.2.2.2.2 inX4 tyX4 tyX4_ok nmX4 S.2.2.2.1 hG.2.1 hG.1 (GA_Dw hG) hG.2.2.2.1 j (wg_4 (ck_of (og h).1)) rfl 3 (by decide) (S.2.2.2.2 _ hl) (fun _ h9 => h9) rfl (ty := .int) (v := .int v) (tyX4_ok 3 (by decide)) rfl rfl (Nat.le_of_ble_eq_true rfl) hdg (fun H1 locs1 hP1 hD1 hS1 => kk _ H1 locs1 (GA_wrote hG (ck_of (og h).1).1 (by rw [sI_self, ce_4 (ck_of (og h).1).2]; rfl) sI_other hP1 hS1) (og h).2)
theorem gf_4_4 (S : CallFix p m c cc nL s args AL own) (hG : GA g ad σ w b s H locs) {j : Nat} {index : Nat} (hl : Cond.fieldLink own index "MuffledTolls$Tower" "ringerCount" "I" ∈ AL) (hdg : decode cc pc = .ok (.getfield index, 3)) (kk : X = some res → W p l e R s m args below meth c H locs cells slots Q (F0 m (pc + 3) ls (.int (σ j 4) :: rest))) : gd (ck j 4) X = some res → W p l e R s m args below meth c H locs cells slots Q (F0 m pc ls (.ref (ad j) :: rest)) := fun h => va_get S.1 S.2.1 S.2.2.2.2 inX4 S.2.2.2.1 hG.2.1 hG.1 j (wg_4 (ck_of (og h).1)) rfl 4 (by decide) (S.2.2.2.2 _ hl) (fun _ h9 => h9) rfl hdg (kk (og h).2)
theorem pf_4_4 (S : CallFix p m c cc nL s args AL own) (hG : GA g ad σ true b s H locs) {j : Nat} {v : Int32} {K : Mem → Option α} {index : Nat} (hl : Cond.fieldLink own index "MuffledTolls$Tower" "ringerCount" "I" ∈ AL) (hdg : decode cc pc = .ok (.putfield index, 3)) (kk : ∀ (σ1 : Mem) (H1 : Heap) (locs1 : List Loc), GA g ad σ1 true b s H1 locs1 → K σ1 = some res → W p l e R s m args below meth c H1 locs1 cells slots Q (F0 m (pc + 3) ls rest)) : gd (ck j 4) (nm (sI σ j 4 v) K) = some res → W p l e R s m args below meth c H locs cells slots Q (F0 m pc ls (.int v :: .ref (ad j) :: rest)) := fun h => va_put S.1 S.2.1 S.2.2.2.2 inX4 tyX4 tyX4_ok nmX4 S.2.2.2.1 hG.2.1 hG.1 (GA_Dw hG) hG.2.2.2.1 j (wg_4 (ck_of (og h).1)) rfl 4 (by decide) (S.2.2.2.2 _ hl) (fun _ h9 => h9) rfl (ty := .int) (v := .int v) (tyX4_ok 4 (by decide)) rfl rfl (Nat.le_of_ble_eq_true rfl) hdg (fun H1 locs1 hP1 hD1 hS1 => kk _ H1 locs1 (GA_wrote hG (ck_of (og h).1).1 (by rw [sI_self, ce_4 (ck_of (og h).1).2]; rfl) sI_other hP1 hS1) (og h).2)
theorem gf_4_5 (S : CallFix p m c cc nL s args AL own) (hG : GA g ad σ w b s H locs) {j : Nat} {index : Nat} (hl : Cond.fieldLink own index "MuffledTolls$Tower" "tollCount" "I" ∈ AL) (hdg : decode cc pc = .ok (.getfield index, 3)) (kk : X = some res → W p l e R s m args below meth c H locs cells slots Q (F0 m (pc + 3) ls (.int (σ j 5) :: rest))) : gd (ck j 4) X = some res → W p l e R s m args below meth c H locs cells slots Q (F0 m pc ls (.ref (ad j) :: rest)) := fun h => va_get S.1 S.2.1 S.2.2.2.2 inX4 S.2.2.2.1 hG.2.1 hG.1 j (wg_4 (ck_of (og h).1)) rfl 5 (by decide) (S.2.2.2.2 _ hl) (fun _ h9 => h9) rfl hdg (kk (og h).2)
theorem pf_4_5 (S : CallFix p m c cc nL s args AL own) (hG : GA g ad σ true b s H locs) {j : Nat} {v : Int32} {K : Mem → Option α} {index : Nat} (hl : Cond.fieldLink own index "MuffledTolls$Tower" "tollCount" "I" ∈ AL) (hdg : decode cc pc = .ok (.putfield index, 3)) (kk : ∀ (σ1 : Mem) (H1 : Heap) (locs1 : List Loc), GA g ad σ1 true b s H1 locs1 → K σ1 = some res → W p l e R s m args below meth c H1 locs1 cells slots Q (F0 m (pc + 3) ls rest)) : gd (ck j 4) (nm (sI σ j 5 v) K) = some res → W p l e R s m args below meth c H locs cells slots Q (F0 m pc ls (.int v :: .ref (ad j) :: rest)) := fun h => va_put S.1 S.2.1 S.2.2.2.2 inX4 tyX4 tyX4_ok nmX4 S.2.2.2.1 hG.2.1 hG.1 (GA_Dw hG) hG.2.2.2.1 j (wg_4 (ck_of (og h).1)) rfl 5 (by decide) (S.2.2.2.2 _ hl) (fun _ h9 => h9) rfl (ty := .int) (v := .int v) (tyX4_ok 5 (by decide)) rfl rfl (Nat.le_of_ble_eq_true rfl) hdg (fun H1 locs1 hP1 hD1 hS1 => kk _ H1 locs1 (GA_wrote hG (ck_of (og h).1).1 (by rw [sI_self, ce_4 (ck_of (og h).1).2]; rfl) sI_other hP1 hS1) (og h).2)
theorem gf_4_6 (S : CallFix p m c cc nL s args AL own) (hG : GA g ad σ w b s H locs) {j : Nat} {index : Nat} (hl : Cond.fieldLink own index "MuffledTolls$Tower" "store" "I" ∈ AL) (hdg : decode cc pc = .ok (.getfield index, 3)) (kk : X = some res → W p l e R s m args below meth c H locs cells slots Q (F0 m (pc + 3) ls (.int (σ j 6) :: rest))) : gd (ck j 4) X = some res → W p l e R s m args below meth c H locs cells slots Q (F0 m pc ls (.ref (ad j) :: rest)) := fun h => va_get S.1 S.2.1 S.2.2.2.2 inX4 S.2.2.2.1 hG.2.1 hG.1 j (wg_4 (ck_of (og h).1)) rfl 6 (by decide) (S.2.2.2.2 _ hl) (fun _ h9 => h9) rfl hdg (kk (og h).2)
theorem pf_4_6 (S : CallFix p m c cc nL s args AL own) (hG : GA g ad σ true b s H locs) {j : Nat} {v : Int32} {K : Mem → Option α} {index : Nat} (hl : Cond.fieldLink own index "MuffledTolls$Tower" "store" "I" ∈ AL) (hdg : decode cc pc = .ok (.putfield index, 3)) (kk : ∀ (σ1 : Mem) (H1 : Heap) (locs1 : List Loc), GA g ad σ1 true b s H1 locs1 → K σ1 = some res → W p l e R s m args below meth c H1 locs1 cells slots Q (F0 m (pc + 3) ls rest)) : gd (ck j 4) (nm (sI σ j 6 v) K) = some res → W p l e R s m args below meth c H locs cells slots Q (F0 m pc ls (.int v :: .ref (ad j) :: rest)) := fun h => va_put S.1 S.2.1 S.2.2.2.2 inX4 tyX4 tyX4_ok nmX4 S.2.2.2.1 hG.2.1 hG.1 (GA_Dw hG) hG.2.2.2.1 j (wg_4 (ck_of (og h).1)) rfl 6 (by decide) (S.2.2.2.2 _ hl) (fun _ h9 => h9) rfl (ty := .int) (v := .int v) (tyX4_ok 6 (by decide)) rfl rfl (Nat.le_of_ble_eq_true rfl) hdg (fun H1 locs1 hP1 hD1 hS1 => kk _ H1 locs1 (GA_wrote hG (ck_of (og h).1).1 (by rw [sI_self, ce_4 (ck_of (og h).1).2]; rfl) sI_other hP1 hS1) (og h).2)
theorem gr_5_0 (S : CallFix p m c cc nL s args AL own) (hG : GA g ad σ w b s H locs) {j : Nat} {K : Nat → Option α} {index : Nat} (hl : Cond.fieldLink own index "MuffledTolls" "tower" "LMuffledTolls$Tower;" ∈ AL) (hdg : decode cc pc = .ok (.getfield index, 3)) (kk : ∀ r : Nat, K r = some res → W p l e R s m args below meth c H locs cells slots Q (F0 m (pc + 3) ls (.ref (ad r) :: rest))) : b1 (rf j 5 0) K = some res → W p l e R s m args below meth c H locs cells slots Q (F0 m pc ls (.ref (ad j) :: rest)) := fun h => by
  obtain ⟨r, e1, h⟩ := ob h
  have e2 := rf_of e1
  exact va_get S.1 S.2.1 S.2.2.2.2 inX5 S.2.2.2.1 hG.2.1 hG.1 j (wg_5 ⟨e2.1, e2.2.1⟩) rfl 0 (by decide) (S.2.2.2.2 _ hl) (fun _ h9 => h9) (v := .ref (ad r)) (by simp [va_re, va_rf, e2.2.2]) hdg (kk r h)
theorem gr_5_1 (S : CallFix p m c cc nL s args AL own) (hG : GA g ad σ w b s H locs) {j : Nat} {K : Nat → Option α} {index : Nat} (hl : Cond.fieldLink own index "MuffledTolls" "ahead" "LMuffledTolls$Tower;" ∈ AL) (hdg : decode cc pc = .ok (.getfield index, 3)) (kk : ∀ r : Nat, K r = some res → W p l e R s m args below meth c H locs cells slots Q (F0 m (pc + 3) ls (.ref (ad r) :: rest))) : b1 (rf j 5 1) K = some res → W p l e R s m args below meth c H locs cells slots Q (F0 m pc ls (.ref (ad j) :: rest)) := fun h => by
  obtain ⟨r, e1, h⟩ := ob h
  have e2 := rf_of e1
  exact va_get S.1 S.2.1 S.2.2.2.2 inX5 S.2.2.2.1 hG.2.1 hG.1 j (wg_5 ⟨e2.1, e2.2.1⟩) rfl 1 (by decide) (S.2.2.2.2 _ hl) (fun _ h9 => h9) (v := .ref (ad r)) (by simp [va_re, va_rf, e2.2.2]) hdg (kk r h)
theorem gf_6_0 (S : CallFix p m c cc nL s args AL own) (hG : GA g ad σ w b s H locs) {j : Nat} {index : Nat} (hl : Cond.fieldLink own index "MuffledTollsModel$State" "minute" "I" ∈ AL) (hdg : decode cc pc = .ok (.getfield index, 3)) (kk : X = some res → W p l e R s m args below meth c H locs cells slots Q (F0 m (pc + 3) ls (.int (σ j 0) :: rest))) : gd (ck j 6) X = some res → W p l e R s m args below meth c H locs cells slots Q (F0 m pc ls (.ref (ad j) :: rest)) := fun h => va_get S.1 S.2.1 S.2.2.2.2 inX6 S.2.2.2.1 hG.2.1 hG.1 j (wg_6 (ck_of (og h).1)) rfl 0 (by decide) (S.2.2.2.2 _ hl) (fun _ h9 => h9) rfl hdg (kk (og h).2)
theorem pf_6_0 (S : CallFix p m c cc nL s args AL own) (hG : GA g ad σ true b s H locs) {j : Nat} {v : Int32} {K : Mem → Option α} {index : Nat} (hl : Cond.fieldLink own index "MuffledTollsModel$State" "minute" "I" ∈ AL) (hdg : decode cc pc = .ok (.putfield index, 3)) (kk : ∀ (σ1 : Mem) (H1 : Heap) (locs1 : List Loc), GA g ad σ1 true b s H1 locs1 → K σ1 = some res → W p l e R s m args below meth c H1 locs1 cells slots Q (F0 m (pc + 3) ls rest)) : gd (ck j 6) (nm (sI σ j 0 v) K) = some res → W p l e R s m args below meth c H locs cells slots Q (F0 m pc ls (.int v :: .ref (ad j) :: rest)) := fun h => va_put S.1 S.2.1 S.2.2.2.2 inX6 tyX6 tyX6_ok nmX6 S.2.2.2.1 hG.2.1 hG.1 (GA_Dw hG) hG.2.2.2.1 j (wg_6 (ck_of (og h).1)) rfl 0 (by decide) (S.2.2.2.2 _ hl) (fun _ h9 => h9) rfl (ty := .int) (v := .int v) (tyX6_ok 0 (by decide)) rfl rfl (Nat.le_of_ble_eq_true rfl) hdg (fun H1 locs1 hP1 hD1 hS1 => kk _ H1 locs1 (GA_wrote hG (ck_of (og h).1).1 (by rw [sI_self, ce_6 (ck_of (og h).1).2]; rfl) sI_other hP1 hS1) (og h).2)
theorem gfN_6_0 (S : CallFix p m c cc nL s args AL own) (hG : GA g ad σ w b s H locs) {j : Nat} {index : Nat} {host : String} (hl : Cond.fieldLinkNest own index "MuffledTollsModel$State" "minute" "I" host ∈ AL) (hdg : decode cc pc = .ok (.getfield index, 3)) (kk : X = some res → W p l e R s m args below meth c H locs cells slots Q (F0 m (pc + 3) ls (.int (σ j 0) :: rest))) : gd (ck j 6) X = some res → W p l e R s m args below meth c H locs cells slots Q (F0 m pc ls (.ref (ad j) :: rest)) := fun h => va_getN S.1 S.2.1 S.2.2.2.2 inX6 S.2.2.2.1 hG.2.1 hG.1 j (wg_6 (ck_of (og h).1)) rfl 0 (by decide) (S.2.2.2.2 _ hl) (fun _ h9 => h9) rfl hdg (kk (og h).2)
theorem pfN_6_0 (S : CallFix p m c cc nL s args AL own) (hG : GA g ad σ true b s H locs) {j : Nat} {v : Int32} {K : Mem → Option α} {index : Nat} {host : String} (hl : Cond.fieldLinkNest own index "MuffledTollsModel$State" "minute" "I" host ∈ AL) (hdg : decode cc pc = .ok (.putfield index, 3)) (kk : ∀ (σ1 : Mem) (H1 : Heap) (locs1 : List Loc), GA g ad σ1 true b s H1 locs1 → K σ1 = some res → W p l e R s m args below meth c H1 locs1 cells slots Q (F0 m (pc + 3) ls rest)) : gd (ck j 6) (nm (sI σ j 0 v) K) = some res → W p l e R s m args below meth c H locs cells slots Q (F0 m pc ls (.int v :: .ref (ad j) :: rest)) := fun h => va_putN S.1 S.2.1 S.2.2.2.2 inX6 tyX6 tyX6_ok nmX6 S.2.2.2.1 hG.2.1 hG.1 (GA_Dw hG) hG.2.2.2.1 j (wg_6 (ck_of (og h).1)) rfl 0 (by decide) (S.2.2.2.2 _ hl) (fun _ h9 => h9) rfl (ty := .int) (v := .int v) (tyX6_ok 0 (by decide)) rfl rfl (Nat.le_of_ble_eq_true rfl) hdg (fun H1 locs1 hP1 hD1 hS1 => kk _ H1 locs1 (GA_wrote hG (ck_of (og h).1).1 (by rw [sI_self, ce_6 (ck_of (og h).1).2]; rfl) sI_other hP1 hS1) (og h).2)
theorem gf_6_1 (S : CallFix p m c cc nL s args AL own) (hG : GA g ad σ w b s H locs) {j : Nat} {index : Nat} (hl : Cond.fieldLink own index "MuffledTollsModel$State" "store" "I" ∈ AL) (hdg : decode cc pc = .ok (.getfield index, 3)) (kk : X = some res → W p l e R s m args below meth c H locs cells slots Q (F0 m (pc + 3) ls (.int (σ j 1) :: rest))) : gd (ck j 6) X = some res → W p l e R s m args below meth c H locs cells slots Q (F0 m pc ls (.ref (ad j) :: rest)) := fun h => va_get S.1 S.2.1 S.2.2.2.2 inX6 S.2.2.2.1 hG.2.1 hG.1 j (wg_6 (ck_of (og h).1)) rfl 1 (by decide) (S.2.2.2.2 _ hl) (fun _ h9 => h9) rfl hdg (kk (og h).2)
theorem pf_6_1 (S : CallFix p m c cc nL s args AL own) (hG : GA g ad σ true b s H locs) {j : Nat} {v : Int32} {K : Mem → Option α} {index : Nat} (hl : Cond.fieldLink own index "MuffledTollsModel$State" "store" "I" ∈ AL) (hdg : decode cc pc = .ok (.putfield index, 3)) (kk : ∀ (σ1 : Mem) (H1 : Heap) (locs1 : List Loc), GA g ad σ1 true b s H1 locs1 → K σ1 = some res → W p l e R s m args below meth c H1 locs1 cells slots Q (F0 m (pc + 3) ls rest)) : gd (ck j 6) (nm (sI σ j 1 v) K) = some res → W p l e R s m args below meth c H locs cells slots Q (F0 m pc ls (.int v :: .ref (ad j) :: rest)) := fun h => va_put S.1 S.2.1 S.2.2.2.2 inX6 tyX6 tyX6_ok nmX6 S.2.2.2.1 hG.2.1 hG.1 (GA_Dw hG) hG.2.2.2.1 j (wg_6 (ck_of (og h).1)) rfl 1 (by decide) (S.2.2.2.2 _ hl) (fun _ h9 => h9) rfl (ty := .int) (v := .int v) (tyX6_ok 1 (by decide)) rfl rfl (Nat.le_of_ble_eq_true rfl) hdg (fun H1 locs1 hP1 hD1 hS1 => kk _ H1 locs1 (GA_wrote hG (ck_of (og h).1).1 (by rw [sI_self, ce_6 (ck_of (og h).1).2]; rfl) sI_other hP1 hS1) (og h).2)
theorem gfN_6_1 (S : CallFix p m c cc nL s args AL own) (hG : GA g ad σ w b s H locs) {j : Nat} {index : Nat} {host : String} (hl : Cond.fieldLinkNest own index "MuffledTollsModel$State" "store" "I" host ∈ AL) (hdg : decode cc pc = .ok (.getfield index, 3)) (kk : X = some res → W p l e R s m args below meth c H locs cells slots Q (F0 m (pc + 3) ls (.int (σ j 1) :: rest))) : gd (ck j 6) X = some res → W p l e R s m args below meth c H locs cells slots Q (F0 m pc ls (.ref (ad j) :: rest)) := fun h => va_getN S.1 S.2.1 S.2.2.2.2 inX6 S.2.2.2.1 hG.2.1 hG.1 j (wg_6 (ck_of (og h).1)) rfl 1 (by decide) (S.2.2.2.2 _ hl) (fun _ h9 => h9) rfl hdg (kk (og h).2)
theorem pfN_6_1 (S : CallFix p m c cc nL s args AL own) (hG : GA g ad σ true b s H locs) {j : Nat} {v : Int32} {K : Mem → Option α} {index : Nat} {host : String} (hl : Cond.fieldLinkNest own index "MuffledTollsModel$State" "store" "I" host ∈ AL) (hdg : decode cc pc = .ok (.putfield index, 3)) (kk : ∀ (σ1 : Mem) (H1 : Heap) (locs1 : List Loc), GA g ad σ1 true b s H1 locs1 → K σ1 = some res → W p l e R s m args below meth c H1 locs1 cells slots Q (F0 m (pc + 3) ls rest)) : gd (ck j 6) (nm (sI σ j 1 v) K) = some res → W p l e R s m args below meth c H locs cells slots Q (F0 m pc ls (.int v :: .ref (ad j) :: rest)) := fun h => va_putN S.1 S.2.1 S.2.2.2.2 inX6 tyX6 tyX6_ok nmX6 S.2.2.2.1 hG.2.1 hG.1 (GA_Dw hG) hG.2.2.2.1 j (wg_6 (ck_of (og h).1)) rfl 1 (by decide) (S.2.2.2.2 _ hl) (fun _ h9 => h9) rfl (ty := .int) (v := .int v) (tyX6_ok 1 (by decide)) rfl rfl (Nat.le_of_ble_eq_true rfl) hdg (fun H1 locs1 hP1 hD1 hS1 => kk _ H1 locs1 (GA_wrote hG (ck_of (og h).1).1 (by rw [sI_self, ce_6 (ck_of (og h).1).2]; rfl) sI_other hP1 hS1) (og h).2)
theorem gf_6_2 (S : CallFix p m c cc nL s args AL own) (hG : GA g ad σ w b s H locs) {j : Nat} {index : Nat} (hl : Cond.fieldLink own index "MuffledTollsModel$State" "known" "I" ∈ AL) (hdg : decode cc pc = .ok (.getfield index, 3)) (kk : X = some res → W p l e R s m args below meth c H locs cells slots Q (F0 m (pc + 3) ls (.int (σ j 2) :: rest))) : gd (ck j 6) X = some res → W p l e R s m args below meth c H locs cells slots Q (F0 m pc ls (.ref (ad j) :: rest)) := fun h => va_get S.1 S.2.1 S.2.2.2.2 inX6 S.2.2.2.1 hG.2.1 hG.1 j (wg_6 (ck_of (og h).1)) rfl 2 (by decide) (S.2.2.2.2 _ hl) (fun _ h9 => h9) rfl hdg (kk (og h).2)
theorem pf_6_2 (S : CallFix p m c cc nL s args AL own) (hG : GA g ad σ true b s H locs) {j : Nat} {v : Int32} {K : Mem → Option α} {index : Nat} (hl : Cond.fieldLink own index "MuffledTollsModel$State" "known" "I" ∈ AL) (hdg : decode cc pc = .ok (.putfield index, 3)) (kk : ∀ (σ1 : Mem) (H1 : Heap) (locs1 : List Loc), GA g ad σ1 true b s H1 locs1 → K σ1 = some res → W p l e R s m args below meth c H1 locs1 cells slots Q (F0 m (pc + 3) ls rest)) : gd (ck j 6) (nm (sI σ j 2 v) K) = some res → W p l e R s m args below meth c H locs cells slots Q (F0 m pc ls (.int v :: .ref (ad j) :: rest)) := fun h => va_put S.1 S.2.1 S.2.2.2.2 inX6 tyX6 tyX6_ok nmX6 S.2.2.2.1 hG.2.1 hG.1 (GA_Dw hG) hG.2.2.2.1 j (wg_6 (ck_of (og h).1)) rfl 2 (by decide) (S.2.2.2.2 _ hl) (fun _ h9 => h9) rfl (ty := .int) (v := .int v) (tyX6_ok 2 (by decide)) rfl rfl (Nat.le_of_ble_eq_true rfl) hdg (fun H1 locs1 hP1 hD1 hS1 => kk _ H1 locs1 (GA_wrote hG (ck_of (og h).1).1 (by rw [sI_self, ce_6 (ck_of (og h).1).2]; rfl) sI_other hP1 hS1) (og h).2)
theorem gfN_6_2 (S : CallFix p m c cc nL s args AL own) (hG : GA g ad σ w b s H locs) {j : Nat} {index : Nat} {host : String} (hl : Cond.fieldLinkNest own index "MuffledTollsModel$State" "known" "I" host ∈ AL) (hdg : decode cc pc = .ok (.getfield index, 3)) (kk : X = some res → W p l e R s m args below meth c H locs cells slots Q (F0 m (pc + 3) ls (.int (σ j 2) :: rest))) : gd (ck j 6) X = some res → W p l e R s m args below meth c H locs cells slots Q (F0 m pc ls (.ref (ad j) :: rest)) := fun h => va_getN S.1 S.2.1 S.2.2.2.2 inX6 S.2.2.2.1 hG.2.1 hG.1 j (wg_6 (ck_of (og h).1)) rfl 2 (by decide) (S.2.2.2.2 _ hl) (fun _ h9 => h9) rfl hdg (kk (og h).2)
theorem pfN_6_2 (S : CallFix p m c cc nL s args AL own) (hG : GA g ad σ true b s H locs) {j : Nat} {v : Int32} {K : Mem → Option α} {index : Nat} {host : String} (hl : Cond.fieldLinkNest own index "MuffledTollsModel$State" "known" "I" host ∈ AL) (hdg : decode cc pc = .ok (.putfield index, 3)) (kk : ∀ (σ1 : Mem) (H1 : Heap) (locs1 : List Loc), GA g ad σ1 true b s H1 locs1 → K σ1 = some res → W p l e R s m args below meth c H1 locs1 cells slots Q (F0 m (pc + 3) ls rest)) : gd (ck j 6) (nm (sI σ j 2 v) K) = some res → W p l e R s m args below meth c H locs cells slots Q (F0 m pc ls (.int v :: .ref (ad j) :: rest)) := fun h => va_putN S.1 S.2.1 S.2.2.2.2 inX6 tyX6 tyX6_ok nmX6 S.2.2.2.1 hG.2.1 hG.1 (GA_Dw hG) hG.2.2.2.1 j (wg_6 (ck_of (og h).1)) rfl 2 (by decide) (S.2.2.2.2 _ hl) (fun _ h9 => h9) rfl (ty := .int) (v := .int v) (tyX6_ok 2 (by decide)) rfl rfl (Nat.le_of_ble_eq_true rfl) hdg (fun H1 locs1 hP1 hD1 hS1 => kk _ H1 locs1 (GA_wrote hG (ck_of (og h).1).1 (by rw [sI_self, ce_6 (ck_of (og h).1).2]; rfl) sI_other hP1 hS1) (og h).2)
theorem gr_6_3 (S : CallFix p m c cc nL s args AL own) (hG : GA g ad σ w b s H locs) {j : Nat} {K : Nat → Option α} {index : Nat} (hl : Cond.fieldLink own index "MuffledTollsModel$State" "weight" "[I" ∈ AL) (hdg : decode cc pc = .ok (.getfield index, 3)) (kk : ∀ r : Nat, K r = some res → W p l e R s m args below meth c H locs cells slots Q (F0 m (pc + 3) ls (.ref (ad r) :: rest))) : b1 (rf j 6 3) K = some res → W p l e R s m args below meth c H locs cells slots Q (F0 m pc ls (.ref (ad j) :: rest)) := fun h => by
  obtain ⟨r, e1, h⟩ := ob h
  have e2 := rf_of e1
  exact va_get S.1 S.2.1 S.2.2.2.2 inX6 S.2.2.2.1 hG.2.1 hG.1 j (wg_6 ⟨e2.1, e2.2.1⟩) rfl 3 (by decide) (S.2.2.2.2 _ hl) (fun _ h9 => h9) (v := .ref (ad r)) (by simp [va_re, va_rf, e2.2.2]) hdg (kk r h)
theorem grN_6_3 (S : CallFix p m c cc nL s args AL own) (hG : GA g ad σ w b s H locs) {j : Nat} {K : Nat → Option α} {index : Nat} {host : String} (hl : Cond.fieldLinkNest own index "MuffledTollsModel$State" "weight" "[I" host ∈ AL) (hdg : decode cc pc = .ok (.getfield index, 3)) (kk : ∀ r : Nat, K r = some res → W p l e R s m args below meth c H locs cells slots Q (F0 m (pc + 3) ls (.ref (ad r) :: rest))) : b1 (rf j 6 3) K = some res → W p l e R s m args below meth c H locs cells slots Q (F0 m pc ls (.ref (ad j) :: rest)) := fun h => by
  obtain ⟨r, e1, h⟩ := ob h
  have e2 := rf_of e1
  exact va_getN S.1 S.2.1 S.2.2.2.2 inX6 S.2.2.2.1 hG.2.1 hG.1 j (wg_6 ⟨e2.1, e2.2.1⟩) rfl 3 (by decide) (S.2.2.2.2 _ hl) (fun _ h9 => h9) (v := .ref (ad r)) (by simp [va_re, va_rf, e2.2.2]) hdg (kk r h)
theorem gr_6_4 (S : CallFix p m c cc nL s args AL own) (hG : GA g ad σ w b s H locs) {j : Nat} {K : Nat → Option α} {index : Nat} (hl : Cond.fieldLink own index "MuffledTollsModel$State" "thick" "[I" ∈ AL) (hdg : decode cc pc = .ok (.getfield index, 3)) (kk : ∀ r : Nat, K r = some res → W p l e R s m args below meth c H locs cells slots Q (F0 m (pc + 3) ls (.ref (ad r) :: rest))) : b1 (rf j 6 4) K = some res → W p l e R s m args below meth c H locs cells slots Q (F0 m pc ls (.ref (ad j) :: rest)) := fun h => by
  obtain ⟨r, e1, h⟩ := ob h
  have e2 := rf_of e1
  exact va_get S.1 S.2.1 S.2.2.2.2 inX6 S.2.2.2.1 hG.2.1 hG.1 j (wg_6 ⟨e2.1, e2.2.1⟩) rfl 4 (by decide) (S.2.2.2.2 _ hl) (fun _ h9 => h9) (v := .ref (ad r)) (by simp [va_re, va_rf, e2.2.2]) hdg (kk r h)
theorem grN_6_4 (S : CallFix p m c cc nL s args AL own) (hG : GA g ad σ w b s H locs) {j : Nat} {K : Nat → Option α} {index : Nat} {host : String} (hl : Cond.fieldLinkNest own index "MuffledTollsModel$State" "thick" "[I" host ∈ AL) (hdg : decode cc pc = .ok (.getfield index, 3)) (kk : ∀ r : Nat, K r = some res → W p l e R s m args below meth c H locs cells slots Q (F0 m (pc + 3) ls (.ref (ad r) :: rest))) : b1 (rf j 6 4) K = some res → W p l e R s m args below meth c H locs cells slots Q (F0 m pc ls (.ref (ad j) :: rest)) := fun h => by
  obtain ⟨r, e1, h⟩ := ob h
  have e2 := rf_of e1
  exact va_getN S.1 S.2.1 S.2.2.2.2 inX6 S.2.2.2.1 hG.2.1 hG.1 j (wg_6 ⟨e2.1, e2.2.1⟩) rfl 4 (by decide) (S.2.2.2.2 _ hl) (fun _ h9 => h9) (v := .ref (ad r)) (by simp [va_re, va_rf, e2.2.2]) hdg (kk r h)
theorem gr_6_5 (S : CallFix p m c cc nL s args AL own) (hG : GA g ad σ w b s H locs) {j : Nat} {K : Nat → Option α} {index : Nat} (hl : Cond.fieldLink own index "MuffledTollsModel$State" "worn" "[I" ∈ AL) (hdg : decode cc pc = .ok (.getfield index, 3)) (kk : ∀ r : Nat, K r = some res → W p l e R s m args below meth c H locs cells slots Q (F0 m (pc + 3) ls (.ref (ad r) :: rest))) : b1 (rf j 6 5) K = some res → W p l e R s m args below meth c H locs cells slots Q (F0 m pc ls (.ref (ad j) :: rest)) := fun h => by
  obtain ⟨r, e1, h⟩ := ob h
  have e2 := rf_of e1
  exact va_get S.1 S.2.1 S.2.2.2.2 inX6 S.2.2.2.1 hG.2.1 hG.1 j (wg_6 ⟨e2.1, e2.2.1⟩) rfl 5 (by decide) (S.2.2.2.2 _ hl) (fun _ h9 => h9) (v := .ref (ad r)) (by simp [va_re, va_rf, e2.2.2]) hdg (kk r h)
theorem grN_6_5 (S : CallFix p m c cc nL s args AL own) (hG : GA g ad σ w b s H locs) {j : Nat} {K : Nat → Option α} {index : Nat} {host : String} (hl : Cond.fieldLinkNest own index "MuffledTollsModel$State" "worn" "[I" host ∈ AL) (hdg : decode cc pc = .ok (.getfield index, 3)) (kk : ∀ r : Nat, K r = some res → W p l e R s m args below meth c H locs cells slots Q (F0 m (pc + 3) ls (.ref (ad r) :: rest))) : b1 (rf j 6 5) K = some res → W p l e R s m args below meth c H locs cells slots Q (F0 m pc ls (.ref (ad j) :: rest)) := fun h => by
  obtain ⟨r, e1, h⟩ := ob h
  have e2 := rf_of e1
  exact va_getN S.1 S.2.1 S.2.2.2.2 inX6 S.2.2.2.1 hG.2.1 hG.1 j (wg_6 ⟨e2.1, e2.2.1⟩) rfl 5 (by decide) (S.2.2.2.2 _ hl) (fun _ h9 => h9) (v := .ref (ad r)) (by simp [va_re, va_rf, e2.2.2]) hdg (kk r h)
theorem gr_6_6 (S : CallFix p m c cc nL s args AL own) (hG : GA g ad σ w b s H locs) {j : Nat} {K : Nat → Option α} {index : Nat} (hl : Cond.fieldLink own index "MuffledTollsModel$State" "side" "[I" ∈ AL) (hdg : decode cc pc = .ok (.getfield index, 3)) (kk : ∀ r : Nat, K r = some res → W p l e R s m args below meth c H locs cells slots Q (F0 m (pc + 3) ls (.ref (ad r) :: rest))) : b1 (rf j 6 6) K = some res → W p l e R s m args below meth c H locs cells slots Q (F0 m pc ls (.ref (ad j) :: rest)) := fun h => by
  obtain ⟨r, e1, h⟩ := ob h
  have e2 := rf_of e1
  exact va_get S.1 S.2.1 S.2.2.2.2 inX6 S.2.2.2.1 hG.2.1 hG.1 j (wg_6 ⟨e2.1, e2.2.1⟩) rfl 6 (by decide) (S.2.2.2.2 _ hl) (fun _ h9 => h9) (v := .ref (ad r)) (by simp [va_re, va_rf, e2.2.2]) hdg (kk r h)
theorem grN_6_6 (S : CallFix p m c cc nL s args AL own) (hG : GA g ad σ w b s H locs) {j : Nat} {K : Nat → Option α} {index : Nat} {host : String} (hl : Cond.fieldLinkNest own index "MuffledTollsModel$State" "side" "[I" host ∈ AL) (hdg : decode cc pc = .ok (.getfield index, 3)) (kk : ∀ r : Nat, K r = some res → W p l e R s m args below meth c H locs cells slots Q (F0 m (pc + 3) ls (.ref (ad r) :: rest))) : b1 (rf j 6 6) K = some res → W p l e R s m args below meth c H locs cells slots Q (F0 m pc ls (.ref (ad j) :: rest)) := fun h => by
  obtain ⟨r, e1, h⟩ := ob h
  have e2 := rf_of e1
  exact va_getN S.1 S.2.1 S.2.2.2.2 inX6 S.2.2.2.1 hG.2.1 hG.1 j (wg_6 ⟨e2.1, e2.2.1⟩) rfl 6 (by decide) (S.2.2.2.2 _ hl) (fun _ h9 => h9) (v := .ref (ad r)) (by simp [va_re, va_rf, e2.2.2]) hdg (kk r h)
theorem gr_6_7 (S : CallFix p m c cc nL s args AL own) (hG : GA g ad σ w b s H locs) {j : Nat} {K : Nat → Option α} {index : Nat} (hl : Cond.fieldLink own index "MuffledTollsModel$State" "rope" "[I" ∈ AL) (hdg : decode cc pc = .ok (.getfield index, 3)) (kk : ∀ r : Nat, K r = some res → W p l e R s m args below meth c H locs cells slots Q (F0 m (pc + 3) ls (.ref (ad r) :: rest))) : b1 (rf j 6 7) K = some res → W p l e R s m args below meth c H locs cells slots Q (F0 m pc ls (.ref (ad j) :: rest)) := fun h => by
  obtain ⟨r, e1, h⟩ := ob h
  have e2 := rf_of e1
  exact va_get S.1 S.2.1 S.2.2.2.2 inX6 S.2.2.2.1 hG.2.1 hG.1 j (wg_6 ⟨e2.1, e2.2.1⟩) rfl 7 (by decide) (S.2.2.2.2 _ hl) (fun _ h9 => h9) (v := .ref (ad r)) (by simp [va_re, va_rf, e2.2.2]) hdg (kk r h)
theorem grN_6_7 (S : CallFix p m c cc nL s args AL own) (hG : GA g ad σ w b s H locs) {j : Nat} {K : Nat → Option α} {index : Nat} {host : String} (hl : Cond.fieldLinkNest own index "MuffledTollsModel$State" "rope" "[I" host ∈ AL) (hdg : decode cc pc = .ok (.getfield index, 3)) (kk : ∀ r : Nat, K r = some res → W p l e R s m args below meth c H locs cells slots Q (F0 m (pc + 3) ls (.ref (ad r) :: rest))) : b1 (rf j 6 7) K = some res → W p l e R s m args below meth c H locs cells slots Q (F0 m pc ls (.ref (ad j) :: rest)) := fun h => by
  obtain ⟨r, e1, h⟩ := ob h
  have e2 := rf_of e1
  exact va_getN S.1 S.2.1 S.2.2.2.2 inX6 S.2.2.2.1 hG.2.1 hG.1 j (wg_6 ⟨e2.1, e2.2.1⟩) rfl 7 (by decide) (S.2.2.2.2 _ hl) (fun _ h9 => h9) (v := .ref (ad r)) (by simp [va_re, va_rf, e2.2.2]) hdg (kk r h)
theorem gr_6_8 (S : CallFix p m c cc nL s args AL own) (hG : GA g ad σ w b s H locs) {j : Nat} {K : Nat → Option α} {index : Nat} (hl : Cond.fieldLink own index "MuffledTollsModel$State" "pause" "[I" ∈ AL) (hdg : decode cc pc = .ok (.getfield index, 3)) (kk : ∀ r : Nat, K r = some res → W p l e R s m args below meth c H locs cells slots Q (F0 m (pc + 3) ls (.ref (ad r) :: rest))) : b1 (rf j 6 8) K = some res → W p l e R s m args below meth c H locs cells slots Q (F0 m pc ls (.ref (ad j) :: rest)) := fun h => by
  obtain ⟨r, e1, h⟩ := ob h
  have e2 := rf_of e1
  exact va_get S.1 S.2.1 S.2.2.2.2 inX6 S.2.2.2.1 hG.2.1 hG.1 j (wg_6 ⟨e2.1, e2.2.1⟩) rfl 8 (by decide) (S.2.2.2.2 _ hl) (fun _ h9 => h9) (v := .ref (ad r)) (by simp [va_re, va_rf, e2.2.2]) hdg (kk r h)
theorem grN_6_8 (S : CallFix p m c cc nL s args AL own) (hG : GA g ad σ w b s H locs) {j : Nat} {K : Nat → Option α} {index : Nat} {host : String} (hl : Cond.fieldLinkNest own index "MuffledTollsModel$State" "pause" "[I" host ∈ AL) (hdg : decode cc pc = .ok (.getfield index, 3)) (kk : ∀ r : Nat, K r = some res → W p l e R s m args below meth c H locs cells slots Q (F0 m (pc + 3) ls (.ref (ad r) :: rest))) : b1 (rf j 6 8) K = some res → W p l e R s m args below meth c H locs cells slots Q (F0 m pc ls (.ref (ad j) :: rest)) := fun h => by
  obtain ⟨r, e1, h⟩ := ob h
  have e2 := rf_of e1
  exact va_getN S.1 S.2.1 S.2.2.2.2 inX6 S.2.2.2.1 hG.2.1 hG.1 j (wg_6 ⟨e2.1, e2.2.1⟩) rfl 8 (by decide) (S.2.2.2.2 _ hl) (fun _ h9 => h9) (v := .ref (ad r)) (by simp [va_re, va_rf, e2.2.2]) hdg (kk r h)
theorem gr_6_9 (S : CallFix p m c cc nL s args AL own) (hG : GA g ad σ w b s H locs) {j : Nat} {K : Nat → Option α} {index : Nat} (hl : Cond.fieldLink own index "MuffledTollsModel$State" "rung" "[I" ∈ AL) (hdg : decode cc pc = .ok (.getfield index, 3)) (kk : ∀ r : Nat, K r = some res → W p l e R s m args below meth c H locs cells slots Q (F0 m (pc + 3) ls (.ref (ad r) :: rest))) : b1 (rf j 6 9) K = some res → W p l e R s m args below meth c H locs cells slots Q (F0 m pc ls (.ref (ad j) :: rest)) := fun h => by
  obtain ⟨r, e1, h⟩ := ob h
  have e2 := rf_of e1
  exact va_get S.1 S.2.1 S.2.2.2.2 inX6 S.2.2.2.1 hG.2.1 hG.1 j (wg_6 ⟨e2.1, e2.2.1⟩) rfl 9 (by decide) (S.2.2.2.2 _ hl) (fun _ h9 => h9) (v := .ref (ad r)) (by simp [va_re, va_rf, e2.2.2]) hdg (kk r h)
theorem grN_6_9 (S : CallFix p m c cc nL s args AL own) (hG : GA g ad σ w b s H locs) {j : Nat} {K : Nat → Option α} {index : Nat} {host : String} (hl : Cond.fieldLinkNest own index "MuffledTollsModel$State" "rung" "[I" host ∈ AL) (hdg : decode cc pc = .ok (.getfield index, 3)) (kk : ∀ r : Nat, K r = some res → W p l e R s m args below meth c H locs cells slots Q (F0 m (pc + 3) ls (.ref (ad r) :: rest))) : b1 (rf j 6 9) K = some res → W p l e R s m args below meth c H locs cells slots Q (F0 m pc ls (.ref (ad j) :: rest)) := fun h => by
  obtain ⟨r, e1, h⟩ := ob h
  have e2 := rf_of e1
  exact va_getN S.1 S.2.1 S.2.2.2.2 inX6 S.2.2.2.1 hG.2.1 hG.1 j (wg_6 ⟨e2.1, e2.2.1⟩) rfl 9 (by decide) (S.2.2.2.2 _ hl) (fun _ h9 => h9) (v := .ref (ad r)) (by simp [va_re, va_rf, e2.2.2]) hdg (kk r h)
theorem gr_6_10 (S : CallFix p m c cc nL s args AL own) (hG : GA g ad σ w b s H locs) {j : Nat} {K : Nat → Option α} {index : Nat} (hl : Cond.fieldLink own index "MuffledTollsModel$State" "tired" "[I" ∈ AL) (hdg : decode cc pc = .ok (.getfield index, 3)) (kk : ∀ r : Nat, K r = some res → W p l e R s m args below meth c H locs cells slots Q (F0 m (pc + 3) ls (.ref (ad r) :: rest))) : b1 (rf j 6 10) K = some res → W p l e R s m args below meth c H locs cells slots Q (F0 m pc ls (.ref (ad j) :: rest)) := fun h => by
  obtain ⟨r, e1, h⟩ := ob h
  have e2 := rf_of e1
  exact va_get S.1 S.2.1 S.2.2.2.2 inX6 S.2.2.2.1 hG.2.1 hG.1 j (wg_6 ⟨e2.1, e2.2.1⟩) rfl 10 (by decide) (S.2.2.2.2 _ hl) (fun _ h9 => h9) (v := .ref (ad r)) (by simp [va_re, va_rf, e2.2.2]) hdg (kk r h)
theorem grN_6_10 (S : CallFix p m c cc nL s args AL own) (hG : GA g ad σ w b s H locs) {j : Nat} {K : Nat → Option α} {index : Nat} {host : String} (hl : Cond.fieldLinkNest own index "MuffledTollsModel$State" "tired" "[I" host ∈ AL) (hdg : decode cc pc = .ok (.getfield index, 3)) (kk : ∀ r : Nat, K r = some res → W p l e R s m args below meth c H locs cells slots Q (F0 m (pc + 3) ls (.ref (ad r) :: rest))) : b1 (rf j 6 10) K = some res → W p l e R s m args below meth c H locs cells slots Q (F0 m pc ls (.ref (ad j) :: rest)) := fun h => by
  obtain ⟨r, e1, h⟩ := ob h
  have e2 := rf_of e1
  exact va_getN S.1 S.2.1 S.2.2.2.2 inX6 S.2.2.2.1 hG.2.1 hG.1 j (wg_6 ⟨e2.1, e2.2.1⟩) rfl 10 (by decide) (S.2.2.2.2 _ hl) (fun _ h9 => h9) (v := .ref (ad r)) (by simp [va_re, va_rf, e2.2.2]) hdg (kk r h)
theorem gr_6_11 (S : CallFix p m c cc nL s args AL own) (hG : GA g ad σ w b s H locs) {j : Nat} {K : Nat → Option α} {index : Nat} (hl : Cond.fieldLink own index "MuffledTollsModel$State" "pulls" "[I" ∈ AL) (hdg : decode cc pc = .ok (.getfield index, 3)) (kk : ∀ r : Nat, K r = some res → W p l e R s m args below meth c H locs cells slots Q (F0 m (pc + 3) ls (.ref (ad r) :: rest))) : b1 (rf j 6 11) K = some res → W p l e R s m args below meth c H locs cells slots Q (F0 m pc ls (.ref (ad j) :: rest)) := fun h => by
  obtain ⟨r, e1, h⟩ := ob h
  have e2 := rf_of e1
  exact va_get S.1 S.2.1 S.2.2.2.2 inX6 S.2.2.2.1 hG.2.1 hG.1 j (wg_6 ⟨e2.1, e2.2.1⟩) rfl 11 (by decide) (S.2.2.2.2 _ hl) (fun _ h9 => h9) (v := .ref (ad r)) (by simp [va_re, va_rf, e2.2.2]) hdg (kk r h)
theorem grN_6_11 (S : CallFix p m c cc nL s args AL own) (hG : GA g ad σ w b s H locs) {j : Nat} {K : Nat → Option α} {index : Nat} {host : String} (hl : Cond.fieldLinkNest own index "MuffledTollsModel$State" "pulls" "[I" host ∈ AL) (hdg : decode cc pc = .ok (.getfield index, 3)) (kk : ∀ r : Nat, K r = some res → W p l e R s m args below meth c H locs cells slots Q (F0 m (pc + 3) ls (.ref (ad r) :: rest))) : b1 (rf j 6 11) K = some res → W p l e R s m args below meth c H locs cells slots Q (F0 m pc ls (.ref (ad j) :: rest)) := fun h => by
  obtain ⟨r, e1, h⟩ := ob h
  have e2 := rf_of e1
  exact va_getN S.1 S.2.1 S.2.2.2.2 inX6 S.2.2.2.1 hG.2.1 hG.1 j (wg_6 ⟨e2.1, e2.2.1⟩) rfl 11 (by decide) (S.2.2.2.2 _ hl) (fun _ h9 => h9) (v := .ref (ad r)) (by simp [va_re, va_rf, e2.2.2]) hdg (kk r h)
theorem gr_6_12 (S : CallFix p m c cc nL s args AL own) (hG : GA g ad σ w b s H locs) {j : Nat} {K : Nat → Option α} {index : Nat} (hl : Cond.fieldLink own index "MuffledTollsModel$State" "reliefs" "[I" ∈ AL) (hdg : decode cc pc = .ok (.getfield index, 3)) (kk : ∀ r : Nat, K r = some res → W p l e R s m args below meth c H locs cells slots Q (F0 m (pc + 3) ls (.ref (ad r) :: rest))) : b1 (rf j 6 12) K = some res → W p l e R s m args below meth c H locs cells slots Q (F0 m pc ls (.ref (ad j) :: rest)) := fun h => by
  obtain ⟨r, e1, h⟩ := ob h
  have e2 := rf_of e1
  exact va_get S.1 S.2.1 S.2.2.2.2 inX6 S.2.2.2.1 hG.2.1 hG.1 j (wg_6 ⟨e2.1, e2.2.1⟩) rfl 12 (by decide) (S.2.2.2.2 _ hl) (fun _ h9 => h9) (v := .ref (ad r)) (by simp [va_re, va_rf, e2.2.2]) hdg (kk r h)
theorem grN_6_12 (S : CallFix p m c cc nL s args AL own) (hG : GA g ad σ w b s H locs) {j : Nat} {K : Nat → Option α} {index : Nat} {host : String} (hl : Cond.fieldLinkNest own index "MuffledTollsModel$State" "reliefs" "[I" host ∈ AL) (hdg : decode cc pc = .ok (.getfield index, 3)) (kk : ∀ r : Nat, K r = some res → W p l e R s m args below meth c H locs cells slots Q (F0 m (pc + 3) ls (.ref (ad r) :: rest))) : b1 (rf j 6 12) K = some res → W p l e R s m args below meth c H locs cells slots Q (F0 m pc ls (.ref (ad j) :: rest)) := fun h => by
  obtain ⟨r, e1, h⟩ := ob h
  have e2 := rf_of e1
  exact va_getN S.1 S.2.1 S.2.2.2.2 inX6 S.2.2.2.1 hG.2.1 hG.1 j (wg_6 ⟨e2.1, e2.2.1⟩) rfl 12 (by decide) (S.2.2.2.2 _ hl) (fun _ h9 => h9) (v := .ref (ad r)) (by simp [va_re, va_rf, e2.2.2]) hdg (kk r h)
theorem gr_6_13 (S : CallFix p m c cc nL s args AL own) (hG : GA g ad σ w b s H locs) {j : Nat} {K : Nat → Option α} {index : Nat} (hl : Cond.fieldLink own index "MuffledTollsModel$State" "strokes" "[I" ∈ AL) (hdg : decode cc pc = .ok (.getfield index, 3)) (kk : ∀ r : Nat, K r = some res → W p l e R s m args below meth c H locs cells slots Q (F0 m (pc + 3) ls (.ref (ad r) :: rest))) : b1 (rf j 6 13) K = some res → W p l e R s m args below meth c H locs cells slots Q (F0 m pc ls (.ref (ad j) :: rest)) := fun h => by
  obtain ⟨r, e1, h⟩ := ob h
  have e2 := rf_of e1
  exact va_get S.1 S.2.1 S.2.2.2.2 inX6 S.2.2.2.1 hG.2.1 hG.1 j (wg_6 ⟨e2.1, e2.2.1⟩) rfl 13 (by decide) (S.2.2.2.2 _ hl) (fun _ h9 => h9) (v := .ref (ad r)) (by simp [va_re, va_rf, e2.2.2]) hdg (kk r h)
theorem grN_6_13 (S : CallFix p m c cc nL s args AL own) (hG : GA g ad σ w b s H locs) {j : Nat} {K : Nat → Option α} {index : Nat} {host : String} (hl : Cond.fieldLinkNest own index "MuffledTollsModel$State" "strokes" "[I" host ∈ AL) (hdg : decode cc pc = .ok (.getfield index, 3)) (kk : ∀ r : Nat, K r = some res → W p l e R s m args below meth c H locs cells slots Q (F0 m (pc + 3) ls (.ref (ad r) :: rest))) : b1 (rf j 6 13) K = some res → W p l e R s m args below meth c H locs cells slots Q (F0 m pc ls (.ref (ad j) :: rest)) := fun h => by
  obtain ⟨r, e1, h⟩ := ob h
  have e2 := rf_of e1
  exact va_getN S.1 S.2.1 S.2.2.2.2 inX6 S.2.2.2.1 hG.2.1 hG.1 j (wg_6 ⟨e2.1, e2.2.1⟩) rfl 13 (by decide) (S.2.2.2.2 _ hl) (fun _ h9 => h9) (v := .ref (ad r)) (by simp [va_re, va_rf, e2.2.2]) hdg (kk r h)
theorem gr_6_14 (S : CallFix p m c cc nL s args AL own) (hG : GA g ad σ w b s H locs) {j : Nat} {K : Nat → Option α} {index : Nat} (hl : Cond.fieldLink own index "MuffledTollsModel$State" "loud" "[I" ∈ AL) (hdg : decode cc pc = .ok (.getfield index, 3)) (kk : ∀ r : Nat, K r = some res → W p l e R s m args below meth c H locs cells slots Q (F0 m (pc + 3) ls (.ref (ad r) :: rest))) : b1 (rf j 6 14) K = some res → W p l e R s m args below meth c H locs cells slots Q (F0 m pc ls (.ref (ad j) :: rest)) := fun h => by
  obtain ⟨r, e1, h⟩ := ob h
  have e2 := rf_of e1
  exact va_get S.1 S.2.1 S.2.2.2.2 inX6 S.2.2.2.1 hG.2.1 hG.1 j (wg_6 ⟨e2.1, e2.2.1⟩) rfl 14 (by decide) (S.2.2.2.2 _ hl) (fun _ h9 => h9) (v := .ref (ad r)) (by simp [va_re, va_rf, e2.2.2]) hdg (kk r h)
theorem grN_6_14 (S : CallFix p m c cc nL s args AL own) (hG : GA g ad σ w b s H locs) {j : Nat} {K : Nat → Option α} {index : Nat} {host : String} (hl : Cond.fieldLinkNest own index "MuffledTollsModel$State" "loud" "[I" host ∈ AL) (hdg : decode cc pc = .ok (.getfield index, 3)) (kk : ∀ r : Nat, K r = some res → W p l e R s m args below meth c H locs cells slots Q (F0 m (pc + 3) ls (.ref (ad r) :: rest))) : b1 (rf j 6 14) K = some res → W p l e R s m args below meth c H locs cells slots Q (F0 m pc ls (.ref (ad j) :: rest)) := fun h => by
  obtain ⟨r, e1, h⟩ := ob h
  have e2 := rf_of e1
  exact va_getN S.1 S.2.1 S.2.2.2.2 inX6 S.2.2.2.1 hG.2.1 hG.1 j (wg_6 ⟨e2.1, e2.2.1⟩) rfl 14 (by decide) (S.2.2.2.2 _ hl) (fun _ h9 => h9) (v := .ref (ad r)) (by simp [va_re, va_rf, e2.2.2]) hdg (kk r h)
theorem gr_6_15 (S : CallFix p m c cc nL s args AL own) (hG : GA g ad σ w b s H locs) {j : Nat} {K : Nat → Option α} {index : Nat} (hl : Cond.fieldLink own index "MuffledTollsModel$State" "done" "[I" ∈ AL) (hdg : decode cc pc = .ok (.getfield index, 3)) (kk : ∀ r : Nat, K r = some res → W p l e R s m args below meth c H locs cells slots Q (F0 m (pc + 3) ls (.ref (ad r) :: rest))) : b1 (rf j 6 15) K = some res → W p l e R s m args below meth c H locs cells slots Q (F0 m pc ls (.ref (ad j) :: rest)) := fun h => by
  obtain ⟨r, e1, h⟩ := ob h
  have e2 := rf_of e1
  exact va_get S.1 S.2.1 S.2.2.2.2 inX6 S.2.2.2.1 hG.2.1 hG.1 j (wg_6 ⟨e2.1, e2.2.1⟩) rfl 15 (by decide) (S.2.2.2.2 _ hl) (fun _ h9 => h9) (v := .ref (ad r)) (by simp [va_re, va_rf, e2.2.2]) hdg (kk r h)
theorem grN_6_15 (S : CallFix p m c cc nL s args AL own) (hG : GA g ad σ w b s H locs) {j : Nat} {K : Nat → Option α} {index : Nat} {host : String} (hl : Cond.fieldLinkNest own index "MuffledTollsModel$State" "done" "[I" host ∈ AL) (hdg : decode cc pc = .ok (.getfield index, 3)) (kk : ∀ r : Nat, K r = some res → W p l e R s m args below meth c H locs cells slots Q (F0 m (pc + 3) ls (.ref (ad r) :: rest))) : b1 (rf j 6 15) K = some res → W p l e R s m args below meth c H locs cells slots Q (F0 m pc ls (.ref (ad j) :: rest)) := fun h => by
  obtain ⟨r, e1, h⟩ := ob h
  have e2 := rf_of e1
  exact va_getN S.1 S.2.1 S.2.2.2.2 inX6 S.2.2.2.1 hG.2.1 hG.1 j (wg_6 ⟨e2.1, e2.2.1⟩) rfl 15 (by decide) (S.2.2.2.2 _ hl) (fun _ h9 => h9) (v := .ref (ad r)) (by simp [va_re, va_rf, e2.2.2]) hdg (kk r h)
theorem gr_6_16 (S : CallFix p m c cc nL s args AL own) (hG : GA g ad σ w b s H locs) {j : Nat} {K : Nat → Option α} {index : Nat} (hl : Cond.fieldLink own index "MuffledTollsModel$State" "this$0" "LMuffledTollsModel;" ∈ AL) (hdg : decode cc pc = .ok (.getfield index, 3)) (kk : ∀ r : Nat, K r = some res → W p l e R s m args below meth c H locs cells slots Q (F0 m (pc + 3) ls (.ref (ad r) :: rest))) : b1 (rf j 6 16) K = some res → W p l e R s m args below meth c H locs cells slots Q (F0 m pc ls (.ref (ad j) :: rest)) := fun h => by
  obtain ⟨r, e1, h⟩ := ob h
  have e2 := rf_of e1
  exact va_get S.1 S.2.1 S.2.2.2.2 inX6 S.2.2.2.1 hG.2.1 hG.1 j (wg_6 ⟨e2.1, e2.2.1⟩) rfl 16 (by decide) (S.2.2.2.2 _ hl) (fun _ h9 => h9) (v := .ref (ad r)) (by simp [va_re, va_rf, e2.2.2]) hdg (kk r h)
theorem grN_6_16 (S : CallFix p m c cc nL s args AL own) (hG : GA g ad σ w b s H locs) {j : Nat} {K : Nat → Option α} {index : Nat} {host : String} (hl : Cond.fieldLinkNest own index "MuffledTollsModel$State" "this$0" "LMuffledTollsModel;" host ∈ AL) (hdg : decode cc pc = .ok (.getfield index, 3)) (kk : ∀ r : Nat, K r = some res → W p l e R s m args below meth c H locs cells slots Q (F0 m (pc + 3) ls (.ref (ad r) :: rest))) : b1 (rf j 6 16) K = some res → W p l e R s m args below meth c H locs cells slots Q (F0 m pc ls (.ref (ad j) :: rest)) := fun h => by
  obtain ⟨r, e1, h⟩ := ob h
  have e2 := rf_of e1
  exact va_getN S.1 S.2.1 S.2.2.2.2 inX6 S.2.2.2.1 hG.2.1 hG.1 j (wg_6 ⟨e2.1, e2.2.1⟩) rfl 16 (by decide) (S.2.2.2.2 _ hl) (fun _ h9 => h9) (v := .ref (ad r)) (by simp [va_re, va_rf, e2.2.2]) hdg (kk r h)
theorem gf_7_0 (S : CallFix p m c cc nL s args AL own) (hG : GA g ad σ w b s H locs) {j : Nat} {index : Nat} (hl : Cond.fieldLink own index "MuffledTollsModel" "thrown" "I" ∈ AL) (hdg : decode cc pc = .ok (.getfield index, 3)) (kk : X = some res → W p l e R s m args below meth c H locs cells slots Q (F0 m (pc + 3) ls (.int (σ j 0) :: rest))) : gd (ck j 7) X = some res → W p l e R s m args below meth c H locs cells slots Q (F0 m pc ls (.ref (ad j) :: rest)) := fun h => va_get S.1 S.2.1 S.2.2.2.2 inX7 S.2.2.2.1 hG.2.1 hG.1 j (wg_7 (ck_of (og h).1)) rfl 0 (by decide) (S.2.2.2.2 _ hl) (fun _ h9 => h9) rfl hdg (kk (og h).2)
theorem pf_7_0 (S : CallFix p m c cc nL s args AL own) (hG : GA g ad σ true b s H locs) {j : Nat} {v : Int32} {K : Mem → Option α} {index : Nat} (hl : Cond.fieldLink own index "MuffledTollsModel" "thrown" "I" ∈ AL) (hdg : decode cc pc = .ok (.putfield index, 3)) (kk : ∀ (σ1 : Mem) (H1 : Heap) (locs1 : List Loc), GA g ad σ1 true b s H1 locs1 → K σ1 = some res → W p l e R s m args below meth c H1 locs1 cells slots Q (F0 m (pc + 3) ls rest)) : gd (ck j 7) (nm (sI σ j 0 v) K) = some res → W p l e R s m args below meth c H locs cells slots Q (F0 m pc ls (.int v :: .ref (ad j) :: rest)) := fun h => va_put S.1 S.2.1 S.2.2.2.2 inX7 tyX7 tyX7_ok nmX7 S.2.2.2.1 hG.2.1 hG.1 (GA_Dw hG) hG.2.2.2.1 j (wg_7 (ck_of (og h).1)) rfl 0 (by decide) (S.2.2.2.2 _ hl) (fun _ h9 => h9) rfl (ty := .int) (v := .int v) (tyX7_ok 0 (by decide)) rfl rfl (Nat.le_of_ble_eq_true rfl) hdg (fun H1 locs1 hP1 hD1 hS1 => kk _ H1 locs1 (GA_wrote hG (ck_of (og h).1).1 (by rw [sI_self, ce_7 (ck_of (og h).1).2]; rfl) sI_other hP1 hS1) (og h).2)
theorem gfN_7_0 (S : CallFix p m c cc nL s args AL own) (hG : GA g ad σ w b s H locs) {j : Nat} {index : Nat} {host : String} (hl : Cond.fieldLinkNest own index "MuffledTollsModel" "thrown" "I" host ∈ AL) (hdg : decode cc pc = .ok (.getfield index, 3)) (kk : X = some res → W p l e R s m args below meth c H locs cells slots Q (F0 m (pc + 3) ls (.int (σ j 0) :: rest))) : gd (ck j 7) X = some res → W p l e R s m args below meth c H locs cells slots Q (F0 m pc ls (.ref (ad j) :: rest)) := fun h => va_getN S.1 S.2.1 S.2.2.2.2 inX7 S.2.2.2.1 hG.2.1 hG.1 j (wg_7 (ck_of (og h).1)) rfl 0 (by decide) (S.2.2.2.2 _ hl) (fun _ h9 => h9) rfl hdg (kk (og h).2)
theorem pfN_7_0 (S : CallFix p m c cc nL s args AL own) (hG : GA g ad σ true b s H locs) {j : Nat} {v : Int32} {K : Mem → Option α} {index : Nat} {host : String} (hl : Cond.fieldLinkNest own index "MuffledTollsModel" "thrown" "I" host ∈ AL) (hdg : decode cc pc = .ok (.putfield index, 3)) (kk : ∀ (σ1 : Mem) (H1 : Heap) (locs1 : List Loc), GA g ad σ1 true b s H1 locs1 → K σ1 = some res → W p l e R s m args below meth c H1 locs1 cells slots Q (F0 m (pc + 3) ls rest)) : gd (ck j 7) (nm (sI σ j 0 v) K) = some res → W p l e R s m args below meth c H locs cells slots Q (F0 m pc ls (.int v :: .ref (ad j) :: rest)) := fun h => va_putN S.1 S.2.1 S.2.2.2.2 inX7 tyX7 tyX7_ok nmX7 S.2.2.2.1 hG.2.1 hG.1 (GA_Dw hG) hG.2.2.2.1 j (wg_7 (ck_of (og h).1)) rfl 0 (by decide) (S.2.2.2.2 _ hl) (fun _ h9 => h9) rfl (ty := .int) (v := .int v) (tyX7_ok 0 (by decide)) rfl rfl (Nat.le_of_ble_eq_true rfl) hdg (fun H1 locs1 hP1 hD1 hS1 => kk _ H1 locs1 (GA_wrote hG (ck_of (og h).1).1 (by rw [sI_self, ce_7 (ck_of (og h).1).2]; rfl) sI_other hP1 hS1) (og h).2)
theorem gf_7_1 (S : CallFix p m c cc nL s args AL own) (hG : GA g ad σ w b s H locs) {j : Nat} {index : Nat} (hl : Cond.fieldLink own index "MuffledTollsModel" "ringers" "I" ∈ AL) (hdg : decode cc pc = .ok (.getfield index, 3)) (kk : X = some res → W p l e R s m args below meth c H locs cells slots Q (F0 m (pc + 3) ls (.int (σ j 1) :: rest))) : gd (ck j 7) X = some res → W p l e R s m args below meth c H locs cells slots Q (F0 m pc ls (.ref (ad j) :: rest)) := fun h => va_get S.1 S.2.1 S.2.2.2.2 inX7 S.2.2.2.1 hG.2.1 hG.1 j (wg_7 (ck_of (og h).1)) rfl 1 (by decide) (S.2.2.2.2 _ hl) (fun _ h9 => h9) rfl hdg (kk (og h).2)
theorem pf_7_1 (S : CallFix p m c cc nL s args AL own) (hG : GA g ad σ true b s H locs) {j : Nat} {v : Int32} {K : Mem → Option α} {index : Nat} (hl : Cond.fieldLink own index "MuffledTollsModel" "ringers" "I" ∈ AL) (hdg : decode cc pc = .ok (.putfield index, 3)) (kk : ∀ (σ1 : Mem) (H1 : Heap) (locs1 : List Loc), GA g ad σ1 true b s H1 locs1 → K σ1 = some res → W p l e R s m args below meth c H1 locs1 cells slots Q (F0 m (pc + 3) ls rest)) : gd (ck j 7) (nm (sI σ j 1 v) K) = some res → W p l e R s m args below meth c H locs cells slots Q (F0 m pc ls (.int v :: .ref (ad j) :: rest)) := fun h => va_put S.1 S.2.1 S.2.2.2.2 inX7 tyX7 tyX7_ok nmX7 S.2.2.2.1 hG.2.1 hG.1 (GA_Dw hG) hG.2.2.2.1 j (wg_7 (ck_of (og h).1)) rfl 1 (by decide) (S.2.2.2.2 _ hl) (fun _ h9 => h9) rfl (ty := .int) (v := .int v) (tyX7_ok 1 (by decide)) rfl rfl (Nat.le_of_ble_eq_true rfl) hdg (fun H1 locs1 hP1 hD1 hS1 => kk _ H1 locs1 (GA_wrote hG (ck_of (og h).1).1 (by rw [sI_self, ce_7 (ck_of (og h).1).2]; rfl) sI_other hP1 hS1) (og h).2)
theorem gfN_7_1 (S : CallFix p m c cc nL s args AL own) (hG : GA g ad σ w b s H locs) {j : Nat} {index : Nat} {host : String} (hl : Cond.fieldLinkNest own index "MuffledTollsModel" "ringers" "I" host ∈ AL) (hdg : decode cc pc = .ok (.getfield index, 3)) (kk : X = some res → W p l e R s m args below meth c H locs cells slots Q (F0 m (pc + 3) ls (.int (σ j 1) :: rest))) : gd (ck j 7) X = some res → W p l e R s m args below meth c H locs cells slots Q (F0 m pc ls (.ref (ad j) :: rest)) := fun h => va_getN S.1 S.2.1 S.2.2.2.2 inX7 S.2.2.2.1 hG.2.1 hG.1 j (wg_7 (ck_of (og h).1)) rfl 1 (by decide) (S.2.2.2.2 _ hl) (fun _ h9 => h9) rfl hdg (kk (og h).2)
theorem pfN_7_1 (S : CallFix p m c cc nL s args AL own) (hG : GA g ad σ true b s H locs) {j : Nat} {v : Int32} {K : Mem → Option α} {index : Nat} {host : String} (hl : Cond.fieldLinkNest own index "MuffledTollsModel" "ringers" "I" host ∈ AL) (hdg : decode cc pc = .ok (.putfield index, 3)) (kk : ∀ (σ1 : Mem) (H1 : Heap) (locs1 : List Loc), GA g ad σ1 true b s H1 locs1 → K σ1 = some res → W p l e R s m args below meth c H1 locs1 cells slots Q (F0 m (pc + 3) ls rest)) : gd (ck j 7) (nm (sI σ j 1 v) K) = some res → W p l e R s m args below meth c H locs cells slots Q (F0 m pc ls (.int v :: .ref (ad j) :: rest)) := fun h => va_putN S.1 S.2.1 S.2.2.2.2 inX7 tyX7 tyX7_ok nmX7 S.2.2.2.1 hG.2.1 hG.1 (GA_Dw hG) hG.2.2.2.1 j (wg_7 (ck_of (og h).1)) rfl 1 (by decide) (S.2.2.2.2 _ hl) (fun _ h9 => h9) rfl (ty := .int) (v := .int v) (tyX7_ok 1 (by decide)) rfl rfl (Nat.le_of_ble_eq_true rfl) hdg (fun H1 locs1 hP1 hD1 hS1 => kk _ H1 locs1 (GA_wrote hG (ck_of (og h).1).1 (by rw [sI_self, ce_7 (ck_of (og h).1).2]; rfl) sI_other hP1 hS1) (og h).2)
theorem gr_7_2 (S : CallFix p m c cc nL s args AL own) (hG : GA g ad σ w b s H locs) {j : Nat} {K : Nat → Option α} {index : Nat} (hl : Cond.fieldLink own index "MuffledTollsModel" "strength" "[I" ∈ AL) (hdg : decode cc pc = .ok (.getfield index, 3)) (kk : ∀ r : Nat, K r = some res → W p l e R s m args below meth c H locs cells slots Q (F0 m (pc + 3) ls (.ref (ad r) :: rest))) : b1 (rf j 7 2) K = some res → W p l e R s m args below meth c H locs cells slots Q (F0 m pc ls (.ref (ad j) :: rest)) := fun h => by
  obtain ⟨r, e1, h⟩ := ob h
  have e2 := rf_of e1
  exact va_get S.1 S.2.1 S.2.2.2.2 inX7 S.2.2.2.1 hG.2.1 hG.1 j (wg_7 ⟨e2.1, e2.2.1⟩) rfl 2 (by decide) (S.2.2.2.2 _ hl) (fun _ h9 => h9) (v := .ref (ad r)) (by simp [va_re, va_rf, e2.2.2]) hdg (kk r h)
theorem grN_7_2 (S : CallFix p m c cc nL s args AL own) (hG : GA g ad σ w b s H locs) {j : Nat} {K : Nat → Option α} {index : Nat} {host : String} (hl : Cond.fieldLinkNest own index "MuffledTollsModel" "strength" "[I" host ∈ AL) (hdg : decode cc pc = .ok (.getfield index, 3)) (kk : ∀ r : Nat, K r = some res → W p l e R s m args below meth c H locs cells slots Q (F0 m (pc + 3) ls (.ref (ad r) :: rest))) : b1 (rf j 7 2) K = some res → W p l e R s m args below meth c H locs cells slots Q (F0 m pc ls (.ref (ad j) :: rest)) := fun h => by
  obtain ⟨r, e1, h⟩ := ob h
  have e2 := rf_of e1
  exact va_getN S.1 S.2.1 S.2.2.2.2 inX7 S.2.2.2.1 hG.2.1 hG.1 j (wg_7 ⟨e2.1, e2.2.1⟩) rfl 2 (by decide) (S.2.2.2.2 _ hl) (fun _ h9 => h9) (v := .ref (ad r)) (by simp [va_re, va_rf, e2.2.2]) hdg (kk r h)
theorem gf_7_3 (S : CallFix p m c cc nL s args AL own) (hG : GA g ad σ w b s H locs) {j : Nat} {index : Nat} (hl : Cond.fieldLink own index "MuffledTollsModel" "tolls" "I" ∈ AL) (hdg : decode cc pc = .ok (.getfield index, 3)) (kk : X = some res → W p l e R s m args below meth c H locs cells slots Q (F0 m (pc + 3) ls (.int (σ j 3) :: rest))) : gd (ck j 7) X = some res → W p l e R s m args below meth c H locs cells slots Q (F0 m pc ls (.ref (ad j) :: rest)) := fun h => va_get S.1 S.2.1 S.2.2.2.2 inX7 S.2.2.2.1 hG.2.1 hG.1 j (wg_7 (ck_of (og h).1)) rfl 3 (by decide) (S.2.2.2.2 _ hl) (fun _ h9 => h9) rfl hdg (kk (og h).2)
theorem pf_7_3 (S : CallFix p m c cc nL s args AL own) (hG : GA g ad σ true b s H locs) {j : Nat} {v : Int32} {K : Mem → Option α} {index : Nat} (hl : Cond.fieldLink own index "MuffledTollsModel" "tolls" "I" ∈ AL) (hdg : decode cc pc = .ok (.putfield index, 3)) (kk : ∀ (σ1 : Mem) (H1 : Heap) (locs1 : List Loc), GA g ad σ1 true b s H1 locs1 → K σ1 = some res → W p l e R s m args below meth c H1 locs1 cells slots Q (F0 m (pc + 3) ls rest)) : gd (ck j 7) (nm (sI σ j 3 v) K) = some res → W p l e R s m args below meth c H locs cells slots Q (F0 m pc ls (.int v :: .ref (ad j) :: rest)) := fun h => va_put S.1 S.2.1 S.2.2.2.2 inX7 tyX7 tyX7_ok nmX7 S.2.2.2.1 hG.2.1 hG.1 (GA_Dw hG) hG.2.2.2.1 j (wg_7 (ck_of (og h).1)) rfl 3 (by decide) (S.2.2.2.2 _ hl) (fun _ h9 => h9) rfl (ty := .int) (v := .int v) (tyX7_ok 3 (by decide)) rfl rfl (Nat.le_of_ble_eq_true rfl) hdg (fun H1 locs1 hP1 hD1 hS1 => kk _ H1 locs1 (GA_wrote hG (ck_of (og h).1).1 (by rw [sI_self, ce_7 (ck_of (og h).1).2]; rfl) sI_other hP1 hS1) (og h).2)
theorem gfN_7_3 (S : CallFix p m c cc nL s args AL own) (hG : GA g ad σ w b s H locs) {j : Nat} {index : Nat} {host : String} (hl : Cond.fieldLinkNest own index "MuffledTollsModel" "tolls" "I" host ∈ AL) (hdg : decode cc pc = .ok (.getfield index, 3)) (kk : X = some res → W p l e R s m args below meth c H locs cells slots Q (F0 m (pc + 3) ls (.int (σ j 3) :: rest))) : gd (ck j 7) X = some res → W p l e R s m args below meth c H locs cells slots Q (F0 m pc ls (.ref (ad j) :: rest)) := fun h => va_getN S.1 S.2.1 S.2.2.2.2 inX7 S.2.2.2.1 hG.2.1 hG.1 j (wg_7 (ck_of (og h).1)) rfl 3 (by decide) (S.2.2.2.2 _ hl) (fun _ h9 => h9) rfl hdg (kk (og h).2)
theorem pfN_7_3 (S : CallFix p m c cc nL s args AL own) (hG : GA g ad σ true b s H locs) {j : Nat} {v : Int32} {K : Mem → Option α} {index : Nat} {host : String} (hl : Cond.fieldLinkNest own index "MuffledTollsModel" "tolls" "I" host ∈ AL) (hdg : decode cc pc = .ok (.putfield index, 3)) (kk : ∀ (σ1 : Mem) (H1 : Heap) (locs1 : List Loc), GA g ad σ1 true b s H1 locs1 → K σ1 = some res → W p l e R s m args below meth c H1 locs1 cells slots Q (F0 m (pc + 3) ls rest)) : gd (ck j 7) (nm (sI σ j 3 v) K) = some res → W p l e R s m args below meth c H locs cells slots Q (F0 m pc ls (.int v :: .ref (ad j) :: rest)) := fun h => va_putN S.1 S.2.1 S.2.2.2.2 inX7 tyX7 tyX7_ok nmX7 S.2.2.2.1 hG.2.1 hG.1 (GA_Dw hG) hG.2.2.2.1 j (wg_7 (ck_of (og h).1)) rfl 3 (by decide) (S.2.2.2.2 _ hl) (fun _ h9 => h9) rfl (ty := .int) (v := .int v) (tyX7_ok 3 (by decide)) rfl rfl (Nat.le_of_ble_eq_true rfl) hdg (fun H1 locs1 hP1 hD1 hS1 => kk _ H1 locs1 (GA_wrote hG (ck_of (og h).1).1 (by rw [sI_self, ce_7 (ck_of (og h).1).2]; rfl) sI_other hP1 hS1) (og h).2)
theorem gr_7_4 (S : CallFix p m c cc nL s args AL own) (hG : GA g ad σ w b s H locs) {j : Nat} {K : Nat → Option α} {index : Nat} (hl : Cond.fieldLink own index "MuffledTollsModel" "belongs" "[I" ∈ AL) (hdg : decode cc pc = .ok (.getfield index, 3)) (kk : ∀ r : Nat, K r = some res → W p l e R s m args below meth c H locs cells slots Q (F0 m (pc + 3) ls (.ref (ad r) :: rest))) : b1 (rf j 7 4) K = some res → W p l e R s m args below meth c H locs cells slots Q (F0 m pc ls (.ref (ad j) :: rest)) := fun h => by
  obtain ⟨r, e1, h⟩ := ob h
  have e2 := rf_of e1
  exact va_get S.1 S.2.1 S.2.2.2.2 inX7 S.2.2.2.1 hG.2.1 hG.1 j (wg_7 ⟨e2.1, e2.2.1⟩) rfl 4 (by decide) (S.2.2.2.2 _ hl) (fun _ h9 => h9) (v := .ref (ad r)) (by simp [va_re, va_rf, e2.2.2]) hdg (kk r h)
theorem grN_7_4 (S : CallFix p m c cc nL s args AL own) (hG : GA g ad σ w b s H locs) {j : Nat} {K : Nat → Option α} {index : Nat} {host : String} (hl : Cond.fieldLinkNest own index "MuffledTollsModel" "belongs" "[I" host ∈ AL) (hdg : decode cc pc = .ok (.getfield index, 3)) (kk : ∀ r : Nat, K r = some res → W p l e R s m args below meth c H locs cells slots Q (F0 m (pc + 3) ls (.ref (ad r) :: rest))) : b1 (rf j 7 4) K = some res → W p l e R s m args below meth c H locs cells slots Q (F0 m pc ls (.ref (ad j) :: rest)) := fun h => by
  obtain ⟨r, e1, h⟩ := ob h
  have e2 := rf_of e1
  exact va_getN S.1 S.2.1 S.2.2.2.2 inX7 S.2.2.2.1 hG.2.1 hG.1 j (wg_7 ⟨e2.1, e2.2.1⟩) rfl 4 (by decide) (S.2.2.2.2 _ hl) (fun _ h9 => h9) (v := .ref (ad r)) (by simp [va_re, va_rf, e2.2.2]) hdg (kk r h)
theorem gr_7_5 (S : CallFix p m c cc nL s args AL own) (hG : GA g ad σ w b s H locs) {j : Nat} {K : Nat → Option α} {index : Nat} (hl : Cond.fieldLink own index "MuffledTollsModel" "kind" "[I" ∈ AL) (hdg : decode cc pc = .ok (.getfield index, 3)) (kk : ∀ r : Nat, K r = some res → W p l e R s m args below meth c H locs cells slots Q (F0 m (pc + 3) ls (.ref (ad r) :: rest))) : b1 (rf j 7 5) K = some res → W p l e R s m args below meth c H locs cells slots Q (F0 m pc ls (.ref (ad j) :: rest)) := fun h => by
  obtain ⟨r, e1, h⟩ := ob h
  have e2 := rf_of e1
  exact va_get S.1 S.2.1 S.2.2.2.2 inX7 S.2.2.2.1 hG.2.1 hG.1 j (wg_7 ⟨e2.1, e2.2.1⟩) rfl 5 (by decide) (S.2.2.2.2 _ hl) (fun _ h9 => h9) (v := .ref (ad r)) (by simp [va_re, va_rf, e2.2.2]) hdg (kk r h)
theorem grN_7_5 (S : CallFix p m c cc nL s args AL own) (hG : GA g ad σ w b s H locs) {j : Nat} {K : Nat → Option α} {index : Nat} {host : String} (hl : Cond.fieldLinkNest own index "MuffledTollsModel" "kind" "[I" host ∈ AL) (hdg : decode cc pc = .ok (.getfield index, 3)) (kk : ∀ r : Nat, K r = some res → W p l e R s m args below meth c H locs cells slots Q (F0 m (pc + 3) ls (.ref (ad r) :: rest))) : b1 (rf j 7 5) K = some res → W p l e R s m args below meth c H locs cells slots Q (F0 m pc ls (.ref (ad j) :: rest)) := fun h => by
  obtain ⟨r, e1, h⟩ := ob h
  have e2 := rf_of e1
  exact va_getN S.1 S.2.1 S.2.2.2.2 inX7 S.2.2.2.1 hG.2.1 hG.1 j (wg_7 ⟨e2.1, e2.2.1⟩) rfl 5 (by decide) (S.2.2.2.2 _ hl) (fun _ h9 => h9) (v := .ref (ad r)) (by simp [va_re, va_rf, e2.2.2]) hdg (kk r h)
theorem gr_7_6 (S : CallFix p m c cc nL s args AL own) (hG : GA g ad σ w b s H locs) {j : Nat} {K : Nat → Option α} {index : Nat} (hl : Cond.fieldLink own index "MuffledTollsModel" "age" "[I" ∈ AL) (hdg : decode cc pc = .ok (.getfield index, 3)) (kk : ∀ r : Nat, K r = some res → W p l e R s m args below meth c H locs cells slots Q (F0 m (pc + 3) ls (.ref (ad r) :: rest))) : b1 (rf j 7 6) K = some res → W p l e R s m args below meth c H locs cells slots Q (F0 m pc ls (.ref (ad j) :: rest)) := fun h => by
  obtain ⟨r, e1, h⟩ := ob h
  have e2 := rf_of e1
  exact va_get S.1 S.2.1 S.2.2.2.2 inX7 S.2.2.2.1 hG.2.1 hG.1 j (wg_7 ⟨e2.1, e2.2.1⟩) rfl 6 (by decide) (S.2.2.2.2 _ hl) (fun _ h9 => h9) (v := .ref (ad r)) (by simp [va_re, va_rf, e2.2.2]) hdg (kk r h)
theorem grN_7_6 (S : CallFix p m c cc nL s args AL own) (hG : GA g ad σ w b s H locs) {j : Nat} {K : Nat → Option α} {index : Nat} {host : String} (hl : Cond.fieldLinkNest own index "MuffledTollsModel" "age" "[I" host ∈ AL) (hdg : decode cc pc = .ok (.getfield index, 3)) (kk : ∀ r : Nat, K r = some res → W p l e R s m args below meth c H locs cells slots Q (F0 m (pc + 3) ls (.ref (ad r) :: rest))) : b1 (rf j 7 6) K = some res → W p l e R s m args below meth c H locs cells slots Q (F0 m pc ls (.ref (ad j) :: rest)) := fun h => by
  obtain ⟨r, e1, h⟩ := ob h
  have e2 := rf_of e1
  exact va_getN S.1 S.2.1 S.2.2.2.2 inX7 S.2.2.2.1 hG.2.1 hG.1 j (wg_7 ⟨e2.1, e2.2.1⟩) rfl 6 (by decide) (S.2.2.2.2 _ hl) (fun _ h9 => h9) (v := .ref (ad r)) (by simp [va_re, va_rf, e2.2.2]) hdg (kk r h)
theorem gr_7_7 (S : CallFix p m c cc nL s args AL own) (hG : GA g ad σ w b s H locs) {j : Nat} {K : Nat → Option α} {index : Nat} (hl : Cond.fieldLink own index "MuffledTollsModel" "pace" "[I" ∈ AL) (hdg : decode cc pc = .ok (.getfield index, 3)) (kk : ∀ r : Nat, K r = some res → W p l e R s m args below meth c H locs cells slots Q (F0 m (pc + 3) ls (.ref (ad r) :: rest))) : b1 (rf j 7 7) K = some res → W p l e R s m args below meth c H locs cells slots Q (F0 m pc ls (.ref (ad j) :: rest)) := fun h => by
  obtain ⟨r, e1, h⟩ := ob h
  have e2 := rf_of e1
  exact va_get S.1 S.2.1 S.2.2.2.2 inX7 S.2.2.2.1 hG.2.1 hG.1 j (wg_7 ⟨e2.1, e2.2.1⟩) rfl 7 (by decide) (S.2.2.2.2 _ hl) (fun _ h9 => h9) (v := .ref (ad r)) (by simp [va_re, va_rf, e2.2.2]) hdg (kk r h)
theorem grN_7_7 (S : CallFix p m c cc nL s args AL own) (hG : GA g ad σ w b s H locs) {j : Nat} {K : Nat → Option α} {index : Nat} {host : String} (hl : Cond.fieldLinkNest own index "MuffledTollsModel" "pace" "[I" host ∈ AL) (hdg : decode cc pc = .ok (.getfield index, 3)) (kk : ∀ r : Nat, K r = some res → W p l e R s m args below meth c H locs cells slots Q (F0 m (pc + 3) ls (.ref (ad r) :: rest))) : b1 (rf j 7 7) K = some res → W p l e R s m args below meth c H locs cells slots Q (F0 m pc ls (.ref (ad j) :: rest)) := fun h => by
  obtain ⟨r, e1, h⟩ := ob h
  have e2 := rf_of e1
  exact va_getN S.1 S.2.1 S.2.2.2.2 inX7 S.2.2.2.1 hG.2.1 hG.1 j (wg_7 ⟨e2.1, e2.2.1⟩) rfl 7 (by decide) (S.2.2.2.2 _ hl) (fun _ h9 => h9) (v := .ref (ad r)) (by simp [va_re, va_rf, e2.2.2]) hdg (kk r h)
theorem gr_7_8 (S : CallFix p m c cc nL s args AL own) (hG : GA g ad σ w b s H locs) {j : Nat} {K : Nat → Option α} {index : Nat} (hl : Cond.fieldLink own index "MuffledTollsModel" "reached" "[I" ∈ AL) (hdg : decode cc pc = .ok (.getfield index, 3)) (kk : ∀ r : Nat, K r = some res → W p l e R s m args below meth c H locs cells slots Q (F0 m (pc + 3) ls (.ref (ad r) :: rest))) : b1 (rf j 7 8) K = some res → W p l e R s m args below meth c H locs cells slots Q (F0 m pc ls (.ref (ad j) :: rest)) := fun h => by
  obtain ⟨r, e1, h⟩ := ob h
  have e2 := rf_of e1
  exact va_get S.1 S.2.1 S.2.2.2.2 inX7 S.2.2.2.1 hG.2.1 hG.1 j (wg_7 ⟨e2.1, e2.2.1⟩) rfl 8 (by decide) (S.2.2.2.2 _ hl) (fun _ h9 => h9) (v := .ref (ad r)) (by simp [va_re, va_rf, e2.2.2]) hdg (kk r h)
theorem grN_7_8 (S : CallFix p m c cc nL s args AL own) (hG : GA g ad σ w b s H locs) {j : Nat} {K : Nat → Option α} {index : Nat} {host : String} (hl : Cond.fieldLinkNest own index "MuffledTollsModel" "reached" "[I" host ∈ AL) (hdg : decode cc pc = .ok (.getfield index, 3)) (kk : ∀ r : Nat, K r = some res → W p l e R s m args below meth c H locs cells slots Q (F0 m (pc + 3) ls (.ref (ad r) :: rest))) : b1 (rf j 7 8) K = some res → W p l e R s m args below meth c H locs cells slots Q (F0 m pc ls (.ref (ad j) :: rest)) := fun h => by
  obtain ⟨r, e1, h⟩ := ob h
  have e2 := rf_of e1
  exact va_getN S.1 S.2.1 S.2.2.2.2 inX7 S.2.2.2.1 hG.2.1 hG.1 j (wg_7 ⟨e2.1, e2.2.1⟩) rfl 8 (by decide) (S.2.2.2.2 _ hl) (fun _ h9 => h9) (v := .ref (ad r)) (by simp [va_re, va_rf, e2.2.2]) hdg (kk r h)
theorem gr_7_9 (S : CallFix p m c cc nL s args AL own) (hG : GA g ad σ w b s H locs) {j : Nat} {K : Nat → Option α} {index : Nat} (hl : Cond.fieldLink own index "MuffledTollsModel" "s" "LMuffledTollsModel$State;" ∈ AL) (hdg : decode cc pc = .ok (.getfield index, 3)) (kk : ∀ r : Nat, K r = some res → W p l e R s m args below meth c H locs cells slots Q (F0 m (pc + 3) ls (.ref (ad r) :: rest))) : b1 (rf j 7 9) K = some res → W p l e R s m args below meth c H locs cells slots Q (F0 m pc ls (.ref (ad j) :: rest)) := fun h => by
  obtain ⟨r, e1, h⟩ := ob h
  have e2 := rf_of e1
  exact va_get S.1 S.2.1 S.2.2.2.2 inX7 S.2.2.2.1 hG.2.1 hG.1 j (wg_7 ⟨e2.1, e2.2.1⟩) rfl 9 (by decide) (S.2.2.2.2 _ hl) (fun _ h9 => h9) (v := .ref (ad r)) (by simp [va_re, va_rf, e2.2.2]) hdg (kk r h)
theorem grN_7_9 (S : CallFix p m c cc nL s args AL own) (hG : GA g ad σ w b s H locs) {j : Nat} {K : Nat → Option α} {index : Nat} {host : String} (hl : Cond.fieldLinkNest own index "MuffledTollsModel" "s" "LMuffledTollsModel$State;" host ∈ AL) (hdg : decode cc pc = .ok (.getfield index, 3)) (kk : ∀ r : Nat, K r = some res → W p l e R s m args below meth c H locs cells slots Q (F0 m (pc + 3) ls (.ref (ad r) :: rest))) : b1 (rf j 7 9) K = some res → W p l e R s m args below meth c H locs cells slots Q (F0 m pc ls (.ref (ad j) :: rest)) := fun h => by
  obtain ⟨r, e1, h⟩ := ob h
  have e2 := rf_of e1
  exact va_getN S.1 S.2.1 S.2.2.2.2 inX7 S.2.2.2.1 hG.2.1 hG.1 j (wg_7 ⟨e2.1, e2.2.1⟩) rfl 9 (by decide) (S.2.2.2.2 _ hl) (fun _ h9 => h9) (v := .ref (ad r)) (by simp [va_re, va_rf, e2.2.2]) hdg (kk r h)
theorem gr_7_10 (S : CallFix p m c cc nL s args AL own) (hG : GA g ad σ w b s H locs) {j : Nat} {K : Nat → Option α} {index : Nat} (hl : Cond.fieldLink own index "MuffledTollsModel" "ahead" "LMuffledTollsModel$State;" ∈ AL) (hdg : decode cc pc = .ok (.getfield index, 3)) (kk : ∀ r : Nat, K r = some res → W p l e R s m args below meth c H locs cells slots Q (F0 m (pc + 3) ls (.ref (ad r) :: rest))) : b1 (rf j 7 10) K = some res → W p l e R s m args below meth c H locs cells slots Q (F0 m pc ls (.ref (ad j) :: rest)) := fun h => by
  obtain ⟨r, e1, h⟩ := ob h
  have e2 := rf_of e1
  exact va_get S.1 S.2.1 S.2.2.2.2 inX7 S.2.2.2.1 hG.2.1 hG.1 j (wg_7 ⟨e2.1, e2.2.1⟩) rfl 10 (by decide) (S.2.2.2.2 _ hl) (fun _ h9 => h9) (v := .ref (ad r)) (by simp [va_re, va_rf, e2.2.2]) hdg (kk r h)
theorem grN_7_10 (S : CallFix p m c cc nL s args AL own) (hG : GA g ad σ w b s H locs) {j : Nat} {K : Nat → Option α} {index : Nat} {host : String} (hl : Cond.fieldLinkNest own index "MuffledTollsModel" "ahead" "LMuffledTollsModel$State;" host ∈ AL) (hdg : decode cc pc = .ok (.getfield index, 3)) (kk : ∀ r : Nat, K r = some res → W p l e R s m args below meth c H locs cells slots Q (F0 m (pc + 3) ls (.ref (ad r) :: rest))) : b1 (rf j 7 10) K = some res → W p l e R s m args below meth c H locs cells slots Q (F0 m pc ls (.ref (ad j) :: rest)) := fun h => by
  obtain ⟨r, e1, h⟩ := ob h
  have e2 := rf_of e1
  exact va_getN S.1 S.2.1 S.2.2.2.2 inX7 S.2.2.2.1 hG.2.1 hG.1 j (wg_7 ⟨e2.1, e2.2.1⟩) rfl 10 (by decide) (S.2.2.2.2 _ hl) (fun _ h9 => h9) (v := .ref (ad r)) (by simp [va_re, va_rf, e2.2.2]) hdg (kk r h)
theorem v_iald (S : CallFix p m c cc nL s args AL own) (hG : GA g ad σ w b s H locs) {j : Nat} {i : Int32} (hdg : decode cc pc = .ok (.iaload, 1)) (kk : X = some res → W p l e R s m args below meth c H locs cells slots Q (F0 m (pc + 1) ls (.int (σ j i.toNatClampNeg) :: rest))) : gd (ia j i) X = some res → W p l e R s m args below meth c H locs cells slots Q (F0 m pc ls (.int i :: .ref (ad j) :: rest)) := fun h => by
  obtain ⟨h1, h2, h3⟩ := ia_of (og h).1
  exact va_iald S.1 S.2.1 hG.2.1 hG.1 j 0 (wg_8 ⟨h1, h2⟩) rfl h3 hdg (kk (og h).2)
theorem v_iast (S : CallFix p m c cc nL s args AL own) (hG : GA g ad σ true b s H locs) {j : Nat} {i v : Int32} {K : Mem → Option α} (hdg : decode cc pc = .ok (.iastore, 1)) (kk : ∀ (σ1 : Mem) (H1 : Heap) (locs1 : List Loc), GA g ad σ1 true b s H1 locs1 → K σ1 = some res → W p l e R s m args below meth c H1 locs1 cells slots Q (F0 m (pc + 1) ls rest)) : gd (ia j i) (nm (sI σ j i.toNatClampNeg v) K) = some res → W p l e R s m args below meth c H locs cells slots Q (F0 m pc ls (.int v :: .int i :: .ref (ad j) :: rest)) := fun h => by
  obtain ⟨h1, h2, h3⟩ := ia_of (og h).1
  exact va_iast S.1 S.2.1 hG.2.1 hG.1 (GA_Dw hG) hG.2.2.2.1 j 0 (wg_8 ⟨h1, h2⟩) rfl h3 hdg (fun H1 locs1 hP1 hD1 hS1 => kk _ H1 locs1 (GA_wrote hG h1 (by rw [sI_self, ce_8 h2]) sI_other hP1 hS1) (og h).2)
theorem v_aald_9 (S : CallFix p m c cc nL s args AL own) (hG : GA g ad σ w b s H locs) {j : Nat} {i : Int32} {K : Nat → Option α} (hdg : decode cc pc = .ok (.aaload, 1)) (kk : ∀ r : Nat, K r = some res → W p l e R s m args below meth c H locs cells slots Q (F0 m (pc + 1) ls (.ref (ad r) :: rest))) : b1 (ea j 9 i) K = some res → W p l e R s m args below meth c H locs cells slots Q (F0 m pc ls (.int i :: .ref (ad j) :: rest)) := fun h => by
  obtain ⟨r, e1, h⟩ := ob h
  obtain ⟨h1, h2, h3, h4⟩ := ea_of e1
  have k9 := kk r h
  refine va_aldq S.1 S.2.1 hG.2.1 hG.1 j 1 (wg_9 ⟨h1, h2⟩) rfl h3 hdg ?_
  show W p l e R s m args below meth c H locs cells slots Q (F0 m (pc + 1) ls (va_rf ((sr j i.toNatClampNeg).map ad) :: rest))
  rw [h4]
  exact k9
theorem v_alen_9 (S : CallFix p m c cc nL s args AL own) (hG : GA g ad σ w b s H locs) {j : Nat} (hdg : decode cc pc = .ok (.arraylength, 1)) (kk : X = some res → W p l e R s m args below meth c H locs cells slots Q (F0 m (pc + 1) ls (.int (nI (sl j)) :: rest))) : gd (ck j 9) X = some res → W p l e R s m args below meth c H locs cells slots Q (F0 m pc ls (.ref (ad j) :: rest)) := fun h => va_alen S.1 S.2.1 hG.2.1 hG.1 j 1 (wg_9 (ck_of (og h).1)) rfl (v := nI (sl j)) rfl hdg (kk (og h).2)
theorem v_aald_10 (S : CallFix p m c cc nL s args AL own) (hG : GA g ad σ w b s H locs) {j : Nat} {i : Int32} {K : Nat → Option α} (hdg : decode cc pc = .ok (.aaload, 1)) (kk : ∀ r : Nat, K r = some res → W p l e R s m args below meth c H locs cells slots Q (F0 m (pc + 1) ls (.ref (ad r) :: rest))) : b1 (ea j 10 i) K = some res → W p l e R s m args below meth c H locs cells slots Q (F0 m pc ls (.int i :: .ref (ad j) :: rest)) := fun h => by
  obtain ⟨r, e1, h⟩ := ob h
  obtain ⟨h1, h2, h3, h4⟩ := ea_of e1
  have k9 := kk r h
  refine va_aldq S.1 S.2.1 hG.2.1 hG.1 j 2 (wg_10 ⟨h1, h2⟩) rfl h3 hdg ?_
  show W p l e R s m args below meth c H locs cells slots Q (F0 m (pc + 1) ls (va_rf ((sr j i.toNatClampNeg).map ad) :: rest))
  rw [h4]
  exact k9
theorem v_alen_10 (S : CallFix p m c cc nL s args AL own) (hG : GA g ad σ w b s H locs) {j : Nat} (hdg : decode cc pc = .ok (.arraylength, 1)) (kk : X = some res → W p l e R s m args below meth c H locs cells slots Q (F0 m (pc + 1) ls (.int (nI (sl j)) :: rest))) : gd (ck j 10) X = some res → W p l e R s m args below meth c H locs cells slots Q (F0 m pc ls (.ref (ad j) :: rest)) := fun h => va_alen S.1 S.2.1 hG.2.1 hG.1 j 2 (wg_10 (ck_of (og h).1)) rfl (v := nI (sl j)) rfl hdg (kk (og h).2)
theorem v_aald_11 (S : CallFix p m c cc nL s args AL own) (hG : GA g ad σ w b s H locs) {j : Nat} {i : Int32} {K : Nat → Option α} (hdg : decode cc pc = .ok (.aaload, 1)) (kk : ∀ r : Nat, K r = some res → W p l e R s m args below meth c H locs cells slots Q (F0 m (pc + 1) ls (.ref (ad r) :: rest))) : b1 (ea j 11 i) K = some res → W p l e R s m args below meth c H locs cells slots Q (F0 m pc ls (.int i :: .ref (ad j) :: rest)) := fun h => by
  obtain ⟨r, e1, h⟩ := ob h
  obtain ⟨h1, h2, h3, h4⟩ := ea_of e1
  have k9 := kk r h
  refine va_aldq S.1 S.2.1 hG.2.1 hG.1 j 3 (wg_11 ⟨h1, h2⟩) rfl h3 hdg ?_
  show W p l e R s m args below meth c H locs cells slots Q (F0 m (pc + 1) ls (va_rf ((sr j i.toNatClampNeg).map ad) :: rest))
  rw [h4]
  exact k9
theorem v_alen_11 (S : CallFix p m c cc nL s args AL own) (hG : GA g ad σ w b s H locs) {j : Nat} (hdg : decode cc pc = .ok (.arraylength, 1)) (kk : X = some res → W p l e R s m args below meth c H locs cells slots Q (F0 m (pc + 1) ls (.int (nI (sl j)) :: rest))) : gd (ck j 11) X = some res → W p l e R s m args below meth c H locs cells slots Q (F0 m pc ls (.ref (ad j) :: rest)) := fun h => va_alen S.1 S.2.1 hG.2.1 hG.1 j 3 (wg_11 (ck_of (og h).1)) rfl (v := nI (sl j)) rfl hdg (kk (og h).2)
theorem v_alen_8 (S : CallFix p m c cc nL s args AL own) (hG : GA g ad σ w b s H locs) {j : Nat} (hdg : decode cc pc = .ok (.arraylength, 1)) (kk : X = some res → W p l e R s m args below meth c H locs cells slots Q (F0 m (pc + 1) ls (.int (nI (sl j)) :: rest))) : gd (ck j 8) X = some res → W p l e R s m args below meth c H locs cells slots Q (F0 m pc ls (.ref (ad j) :: rest)) := fun h => va_alen S.1 S.2.1 hG.2.1 hG.1 j 0 (wg_8 (ck_of (og h).1)) rfl (v := nI (sl j)) rfl hdg (kk (og h).2)
def MW (y : MethodName) (bytes : ByteArray) (maxL : Nat) (ret : Option FieldType) (n : Nat) : Prop := Cond.instanceMethod y ∈ AL ∧ Cond.selects y.cls y y ∈ AL ∧ Cond.initialized y.cls ∈ AL ∧ Cond.code y bytes maxL ret ∈ AL ∧ (y.cls ≠ "java/lang/invoke/MethodHandle" ∧ y.cls ≠ "java/lang/invoke/VarHandle" ∧ (parseMethodDescriptor y.desc).map (fun d => d.parameters.length) = some n)
def MS (y : MethodName) (bytes : ByteArray) (maxL : Nat) (ret : Option FieldType) (n : Nat) : Prop := Cond.static y ∈ AL ∧ Cond.initialized y.cls ∈ AL ∧ Cond.code y bytes maxL ret ∈ AL ∧ (y.cls ≠ "java/lang/invoke/MethodHandle" ∧ y.cls ≠ "java/lang/invoke/VarHandle" ∧ (parseMethodDescriptor y.desc).map (fun d => d.parameters.length) = some n)
theorem gV {y : MethodName} {bytes : ByteArray} {maxL n idx : Nat} {ret : Option FieldType} (hl : Cond.methodLink own idx y ∈ AL) (h : MW y bytes maxL ret n) : GoodIn AL (wsV own idx y.cls y (wsy y bytes maxL ret)) := by
  intro w hw
  unfold wsV at hw
  rcases List.mem_append.mp hw with hw | hw
  · simp only [List.mem_cons, List.not_mem_nil, or_false] at hw
    rcases hw with rfl | rfl | rfl | rfl
    · exact AL_good _ hl
    · exact AL_good _ h.1
    · exact AL_good _ h.2.1
    · exact AL_good _ h.2.2.1
  · exact wsy_good h.2.2.2.1 w hw
theorem gS {y : MethodName} {bytes : ByteArray} {maxL n idx : Nat} {ret : Option FieldType} (hl : Cond.methodLink own idx y ∈ AL) (h : MS y bytes maxL ret n) : GoodIn AL (va_wsS own idx y (wsy y bytes maxL ret)) := by
  intro w hw
  unfold va_wsS at hw
  rcases List.mem_append.mp hw with hw | hw
  · simp only [List.mem_cons, List.not_mem_nil, or_false] at hw
    rcases hw with rfl | rfl | rfl
    · exact AL_good _ hl
    · exact AL_good _ h.1
    · exact AL_good _ h.2.1
  · exact wsy_good h.2.2.1 w hw
theorem recvOf {ci j : Nat} {q : vw_C} (hG : GA g ad σ w b s H locs) (hc : j < 176 ∧ sk j = ci) (hci : vwCl[ci]? = some q) (h8 : ci < 8) : ∃ cell : Cell, H[ad j]? = some cell ∧ cell.vm.isStatics = false ∧ s.vm.findClass q.1 = some cell.cls := by
  obtain ⟨fs, hfs⟩ := ce_hd (cA := g.2.2.1) (ad := ad) (row := σ j) hc.2 h8
  exact va_recv hG.2.1 hG.1 hci (q0 := j) ((wl_get hc.1).trans (congrArg (fun z => some (ad j, z)) hfs))
theorem v_cV_im (S : CallFix p m c cc nL s args AL own) (hG : GA g ad σ w b s H locs) {y : MethodName} {bytes : ByteArray} {ret : Option FieldType} {maxL n idx mc ms : Nat} {rm : Room} {st0 : List Value} (As : List Value) {f : Option (Int32 × Mem)} {K : Int32 → Mem → Option α} {j ci : Nat} {q : vw_C} (hci : vwCl[ci]? = some q) (hq : q.1 = y.cls) (h8 : ci < 8) (hM : ∀ (r : Int32) (σ1 : Mem), f = some (r, σ1) → Met l y (wsy y bytes maxL ret) rm (va_Pc (.ref (ad j) :: As) (PB g ad σ b)) (va_Qi (fun (r' : Int32) (u : Mem) => r' = r ∧ u = σ1) (GW g ad) (AA g ad w b)) mc ms (AA g ad w b)) (mw : MW y bytes maxL ret n) (hl : Cond.methodLink own idx y ∈ AL) (hdg : decode cc pc = .ok (.invokevirtual idx, 3)) (hst : st0 = As.reverse ++ .ref (ad j) :: rest) (hn : As.length = n) (hls : ls.size = nL) (hW : (rest.map fun v => v.category).sum ≤ 8) (hR : rm.frames + 1 ≤ R.frames ∧ 8 + (maxL + 11) + rm.locals ≤ R.locals) (hrc : rm.cells = mc) (hrs : rm.slots = ms) (hf : cells + mc ≤ R.cells ∧ slots + ms ≤ R.slots) (kk : ∀ (r : Int32) (σ1 : Mem) (H1 : Heap) (locs1 : List Loc), GA g ad σ1 w b s H1 locs1 → K r σ1 = some res → W p l e R s m args below meth c H1 locs1 (cells + mc) (slots + ms) Q (F0 m (pc + 3) ls (.int r :: rest))) : gd (ck j ci) (b2 f K) = some res → W p l e R s m args below meth c H locs cells slots Q (F0 m pc ls st0) := fun h => by
  obtain ⟨hc, h⟩ := og h
  obtain ⟨r, σ1, e1, h⟩ := ob2 h
  refine va_calli (va_runV (As := As) (rest := rest) (b := ad j) (C := y.cls) S (hM r σ1 e1) (cwV n S.2.2.2.2 (gV hl mw) rfl hrc hrs ⟨rfl, mw.2.2.2.2⟩ hR) ⟨blind, by rw [← hq]; exact recvOf hG (ck_of hc) hci h8, fun U hU hW => ⟨rfl, GA_pre hG hU hW.alike⟩⟩ rfl hn hls hst (lv_room hW) hdg hf) hG.2.2.2.1 (fun q _ h => h) (fun q h => h) (fun r2 u t H1 locs1 ht hvm hw hB hz hk hS => ?_)
  obtain ⟨rfl, rfl⟩ := hw
  exact kk _ _ H1 locs1 (GA_next hG ht hB hS) h
theorem v_cV_iR (S : CallFix p m c cc nL s args AL own) (hG : GA g ad σ w b s H locs) {y : MethodName} {bytes : ByteArray} {ret : Option FieldType} {maxL n idx mc ms : Nat} {rm : Room} {st0 : List Value} (As : List Value) {f : Option Int32} {K : Int32 → Option α} {j ci : Nat} {q : vw_C} (hci : vwCl[ci]? = some q) (hq : q.1 = y.cls) (h8 : ci < 8) (hM : ∀ (r : Int32), f = some r → Met l y (wsy y bytes maxL ret) rm (va_Pc (.ref (ad j) :: As) (PB g ad σ b)) (va_Qi (fun (r' : Int32) (u : Mem) => r' = r ∧ u = σ) (GW g ad) (AA g ad w b)) mc ms (AA g ad w b)) (mw : MW y bytes maxL ret n) (hl : Cond.methodLink own idx y ∈ AL) (hdg : decode cc pc = .ok (.invokevirtual idx, 3)) (hst : st0 = As.reverse ++ .ref (ad j) :: rest) (hn : As.length = n) (hls : ls.size = nL) (hW : (rest.map fun v => v.category).sum ≤ 8) (hR : rm.frames + 1 ≤ R.frames ∧ 8 + (maxL + 11) + rm.locals ≤ R.locals) (hrc : rm.cells = mc) (hrs : rm.slots = ms) (hf : cells + mc ≤ R.cells ∧ slots + ms ≤ R.slots) (kk : ∀ (r : Int32) (H1 : Heap) (locs1 : List Loc), GA g ad σ w b s H1 locs1 → K r = some res → W p l e R s m args below meth c H1 locs1 (cells + mc) (slots + ms) Q (F0 m (pc + 3) ls (.int r :: rest))) : gd (ck j ci) (b1 f K) = some res → W p l e R s m args below meth c H locs cells slots Q (F0 m pc ls st0) := fun h => by
  obtain ⟨hc, h⟩ := og h
  obtain ⟨r, e1, h⟩ := ob h
  refine va_calli (va_runV (As := As) (rest := rest) (b := ad j) (C := y.cls) S (hM r e1) (cwV n S.2.2.2.2 (gV hl mw) rfl hrc hrs ⟨rfl, mw.2.2.2.2⟩ hR) ⟨blind, by rw [← hq]; exact recvOf hG (ck_of hc) hci h8, fun U hU hW => ⟨rfl, GA_pre hG hU hW.alike⟩⟩ rfl hn hls hst (lv_room hW) hdg hf) hG.2.2.2.1 (fun q _ h => h) (fun q h => h) (fun r2 u t H1 locs1 ht hvm hw hB hz hk hS => ?_)
  obtain ⟨rfl, rfl⟩ := hw
  exact kk _ H1 locs1 (GA_next hG ht hB hS) h
theorem v_cV_lm (S : CallFix p m c cc nL s args AL own) (hG : GA g ad σ w b s H locs) {y : MethodName} {bytes : ByteArray} {ret : Option FieldType} {maxL n idx mc ms : Nat} {rm : Room} {st0 : List Value} (As : List Value) {f : Option (Int64 × Mem)} {K : Int64 → Mem → Option α} {j ci : Nat} {q : vw_C} (hci : vwCl[ci]? = some q) (hq : q.1 = y.cls) (h8 : ci < 8) (hM : ∀ (r : Int64) (σ1 : Mem), f = some (r, σ1) → Met l y (wsy y bytes maxL ret) rm (va_Pc (.ref (ad j) :: As) (PB g ad σ b)) (va_Ql (fun (r' : Int64) (u : Mem) => r' = r ∧ u = σ1) (GW g ad) (AA g ad w b)) mc ms (AA g ad w b)) (mw : MW y bytes maxL ret n) (hl : Cond.methodLink own idx y ∈ AL) (hdg : decode cc pc = .ok (.invokevirtual idx, 3)) (hst : st0 = As.reverse ++ .ref (ad j) :: rest) (hn : As.length = n) (hls : ls.size = nL) (hW : (rest.map fun v => v.category).sum ≤ 8) (hR : rm.frames + 1 ≤ R.frames ∧ 8 + (maxL + 11) + rm.locals ≤ R.locals) (hrc : rm.cells = mc) (hrs : rm.slots = ms) (hf : cells + mc ≤ R.cells ∧ slots + ms ≤ R.slots) (kk : ∀ (r : Int64) (σ1 : Mem) (H1 : Heap) (locs1 : List Loc), GA g ad σ1 w b s H1 locs1 → K r σ1 = some res → W p l e R s m args below meth c H1 locs1 (cells + mc) (slots + ms) Q (F0 m (pc + 3) ls (.long r :: rest))) : gd (ck j ci) (b2 f K) = some res → W p l e R s m args below meth c H locs cells slots Q (F0 m pc ls st0) := fun h => by
  obtain ⟨hc, h⟩ := og h
  obtain ⟨r, σ1, e1, h⟩ := ob2 h
  refine va_calll (va_runV (As := As) (rest := rest) (b := ad j) (C := y.cls) S (hM r σ1 e1) (cwV n S.2.2.2.2 (gV hl mw) rfl hrc hrs ⟨rfl, mw.2.2.2.2⟩ hR) ⟨blind, by rw [← hq]; exact recvOf hG (ck_of hc) hci h8, fun U hU hW => ⟨rfl, GA_pre hG hU hW.alike⟩⟩ rfl hn hls hst (lv_room hW) hdg hf) hG.2.2.2.1 (fun q _ h => h) (fun q h => h) (fun r2 u t H1 locs1 ht hvm hw hB hz hk hS => ?_)
  obtain ⟨rfl, rfl⟩ := hw
  exact kk _ _ H1 locs1 (GA_next hG ht hB hS) h
theorem v_cV_lR (S : CallFix p m c cc nL s args AL own) (hG : GA g ad σ w b s H locs) {y : MethodName} {bytes : ByteArray} {ret : Option FieldType} {maxL n idx mc ms : Nat} {rm : Room} {st0 : List Value} (As : List Value) {f : Option Int64} {K : Int64 → Option α} {j ci : Nat} {q : vw_C} (hci : vwCl[ci]? = some q) (hq : q.1 = y.cls) (h8 : ci < 8) (hM : ∀ (r : Int64), f = some r → Met l y (wsy y bytes maxL ret) rm (va_Pc (.ref (ad j) :: As) (PB g ad σ b)) (va_Ql (fun (r' : Int64) (u : Mem) => r' = r ∧ u = σ) (GW g ad) (AA g ad w b)) mc ms (AA g ad w b)) (mw : MW y bytes maxL ret n) (hl : Cond.methodLink own idx y ∈ AL) (hdg : decode cc pc = .ok (.invokevirtual idx, 3)) (hst : st0 = As.reverse ++ .ref (ad j) :: rest) (hn : As.length = n) (hls : ls.size = nL) (hW : (rest.map fun v => v.category).sum ≤ 8) (hR : rm.frames + 1 ≤ R.frames ∧ 8 + (maxL + 11) + rm.locals ≤ R.locals) (hrc : rm.cells = mc) (hrs : rm.slots = ms) (hf : cells + mc ≤ R.cells ∧ slots + ms ≤ R.slots) (kk : ∀ (r : Int64) (H1 : Heap) (locs1 : List Loc), GA g ad σ w b s H1 locs1 → K r = some res → W p l e R s m args below meth c H1 locs1 (cells + mc) (slots + ms) Q (F0 m (pc + 3) ls (.long r :: rest))) : gd (ck j ci) (b1 f K) = some res → W p l e R s m args below meth c H locs cells slots Q (F0 m pc ls st0) := fun h => by
  obtain ⟨hc, h⟩ := og h
  obtain ⟨r, e1, h⟩ := ob h
  refine va_calll (va_runV (As := As) (rest := rest) (b := ad j) (C := y.cls) S (hM r e1) (cwV n S.2.2.2.2 (gV hl mw) rfl hrc hrs ⟨rfl, mw.2.2.2.2⟩ hR) ⟨blind, by rw [← hq]; exact recvOf hG (ck_of hc) hci h8, fun U hU hW => ⟨rfl, GA_pre hG hU hW.alike⟩⟩ rfl hn hls hst (lv_room hW) hdg hf) hG.2.2.2.1 (fun q _ h => h) (fun q h => h) (fun r2 u t H1 locs1 ht hvm hw hB hz hk hS => ?_)
  obtain ⟨rfl, rfl⟩ := hw
  exact kk _ H1 locs1 (GA_next hG ht hB hS) h
theorem v_cV_vm (S : CallFix p m c cc nL s args AL own) (hG : GA g ad σ w b s H locs) {y : MethodName} {bytes : ByteArray} {ret : Option FieldType} {maxL n idx mc ms : Nat} {rm : Room} {st0 : List Value} (As : List Value) {f : Option Mem} {K : Mem → Option α} {j ci : Nat} {q : vw_C} (hci : vwCl[ci]? = some q) (hq : q.1 = y.cls) (h8 : ci < 8) (hM : ∀ (σ1 : Mem), f = some σ1 → Met l y (wsy y bytes maxL ret) rm (va_Pc (.ref (ad j) :: As) (PB g ad σ b)) (va_Qv (fun (u : Mem) => u = σ1) (GW g ad) (AA g ad w b)) mc ms (AA g ad w b)) (mw : MW y bytes maxL ret n) (hl : Cond.methodLink own idx y ∈ AL) (hdg : decode cc pc = .ok (.invokevirtual idx, 3)) (hst : st0 = As.reverse ++ .ref (ad j) :: rest) (hn : As.length = n) (hls : ls.size = nL) (hW : (rest.map fun v => v.category).sum ≤ 8) (hR : rm.frames + 1 ≤ R.frames ∧ 8 + (maxL + 11) + rm.locals ≤ R.locals) (hrc : rm.cells = mc) (hrs : rm.slots = ms) (hf : cells + mc ≤ R.cells ∧ slots + ms ≤ R.slots) (kk : ∀ (σ1 : Mem) (H1 : Heap) (locs1 : List Loc), GA g ad σ1 w b s H1 locs1 → K σ1 = some res → W p l e R s m args below meth c H1 locs1 (cells + mc) (slots + ms) Q (F0 m (pc + 3) ls (rest))) : gd (ck j ci) (b1 f K) = some res → W p l e R s m args below meth c H locs cells slots Q (F0 m pc ls st0) := fun h => by
  obtain ⟨hc, h⟩ := og h
  obtain ⟨σ1, e1, h⟩ := ob h
  refine va_callv (va_runV (As := As) (rest := rest) (b := ad j) (C := y.cls) S (hM σ1 e1) (cwV n S.2.2.2.2 (gV hl mw) rfl hrc hrs ⟨rfl, mw.2.2.2.2⟩ hR) ⟨blind, by rw [← hq]; exact recvOf hG (ck_of hc) hci h8, fun U hU hW => ⟨rfl, GA_pre hG hU hW.alike⟩⟩ rfl hn hls hst (lv_room hW) hdg hf) hG.2.2.2.1 (fun q _ h => h) (fun q h => h) (fun u t H1 locs1 ht hvm hw hB hz hk hS => ?_)
  subst hw
  exact kk _ H1 locs1 (GA_next hG ht hB hS) h
theorem v_cV_rR (S : CallFix p m c cc nL s args AL own) (hG : GA g ad σ w b s H locs) {y : MethodName} {bytes : ByteArray} {ret : Option FieldType} {maxL n idx mc ms : Nat} {rm : Room} {st0 : List Value} (As : List Value) {f : Option Nat} {K : Nat → Option α} {j ci : Nat} {q : vw_C} (hci : vwCl[ci]? = some q) (hq : q.1 = y.cls) (h8 : ci < 8) (hM : ∀ (r : Nat), f = some r → Met l y (wsy y bytes maxL ret) rm (va_Pc (.ref (ad j) :: As) (PB g ad σ b)) (va_Qr (fun (u : Mem) => u = σ) (fun u a t => a = ad r ∧ GW g ad u t) (AA g ad w b)) mc ms (AA g ad w b)) (mw : MW y bytes maxL ret n) (hl : Cond.methodLink own idx y ∈ AL) (hdg : decode cc pc = .ok (.invokevirtual idx, 3)) (hst : st0 = As.reverse ++ .ref (ad j) :: rest) (hn : As.length = n) (hls : ls.size = nL) (hW : (rest.map fun v => v.category).sum ≤ 8) (hR : rm.frames + 1 ≤ R.frames ∧ 8 + (maxL + 11) + rm.locals ≤ R.locals) (hrc : rm.cells = mc) (hrs : rm.slots = ms) (hf : cells + mc ≤ R.cells ∧ slots + ms ≤ R.slots) (kk : ∀ (r : Nat) (H1 : Heap) (locs1 : List Loc), GA g ad σ w b s H1 locs1 → K r = some res → W p l e R s m args below meth c H1 locs1 (cells + mc) (slots + ms) Q (F0 m (pc + 3) ls (.ref (ad r) :: rest))) : gd (ck j ci) (b1 f K) = some res → W p l e R s m args below meth c H locs cells slots Q (F0 m pc ls st0) := fun h => by
  obtain ⟨hc, h⟩ := og h
  obtain ⟨r, e1, h⟩ := ob h
  refine va_callr (va_runV (As := As) (rest := rest) (b := ad j) (C := y.cls) S (hM r e1) (cwV n S.2.2.2.2 (gV hl mw) rfl hrc hrs ⟨rfl, mw.2.2.2.2⟩ hR) ⟨blind, by rw [← hq]; exact recvOf hG (ck_of hc) hci h8, fun U hU hW => ⟨rfl, GA_pre hG hU hW.alike⟩⟩ rfl hn hls hst (lv_room hW) hdg hf) hG.2.2.2.1 (fun q _ h => h) (fun q h => h) (fun u ra t H1 locs1 ht hvm hw hB hz hk hS => ?_)
  subst hw
  obtain ⟨rfl, hB⟩ := hB
  exact kk _ H1 locs1 (GA_next hG ht hB hS) h
theorem v_cN_im (S : CallFix p m c cc nL s args AL own) (hG : GA g ad σ w b s H locs) {host : String} {y : MethodName} {bytes : ByteArray} {ret : Option FieldType} {maxL n idx mc ms : Nat} {rm : Room} {st0 : List Value} (As : List Value) {f : Option (Int32 × Mem)} {K : Int32 → Mem → Option α} {j ci : Nat} {q : vw_C} (hci : vwCl[ci]? = some q) (hq : q.1 = y.cls) (h8 : ci < 8) (hM : ∀ (r : Int32) (σ1 : Mem), f = some (r, σ1) → Met l y (wsy y bytes maxL ret) rm (va_Pc (.ref (ad j) :: As) (PB g ad σ b)) (va_Qi (fun (r' : Int32) (u : Mem) => r' = r ∧ u = σ1) (GW g ad) (AA g ad w b)) mc ms (AA g ad w b)) (mw : MW y bytes maxL ret n) (hl : Cond.methodLinkNest own idx y host ∈ AL) (hdg : decode cc pc = .ok (.invokevirtual idx, 3)) (hst : st0 = As.reverse ++ .ref (ad j) :: rest) (hn : As.length = n) (hls : ls.size = nL) (hW : (rest.map fun v => v.category).sum ≤ 8) (hR : rm.frames + 1 ≤ R.frames ∧ 8 + (maxL + 11) + rm.locals ≤ R.locals) (hrc : rm.cells = mc) (hrs : rm.slots = ms) (hf : cells + mc ≤ R.cells ∧ slots + ms ≤ R.slots) (kk : ∀ (r : Int32) (σ1 : Mem) (H1 : Heap) (locs1 : List Loc), GA g ad σ1 w b s H1 locs1 → K r σ1 = some res → W p l e R s m args below meth c H1 locs1 (cells + mc) (slots + ms) Q (F0 m (pc + 3) ls (.int r :: rest))) : gd (ck j ci) (b2 f K) = some res → W p l e R s m args below meth c H locs cells slots Q (F0 m pc ls st0) := fun h => by
  obtain ⟨hc, h⟩ := og h
  obtain ⟨r, σ1, e1, h⟩ := ob2 h
  refine va_calli (va_runVN (As := As) (rest := rest) (b := ad j) (C := y.cls) S (hM r σ1 e1) ⟨va_cnB n S.2.2.2.2 (wsy_good mw.2.2.2.1) rfl hrc hrs (va_Nw.of (w := Cond.methodLinkNest own idx y host) rfl (S.2.2.2.2 _ hl)) (S.2.2.2.2 _ mw.2.2.1) mw.2.2.2.2 hR, S.2.2.2.2 _ mw.1, S.2.2.2.2 _ mw.2.1⟩ ⟨blind, by rw [← hq]; exact recvOf hG (ck_of hc) hci h8, fun U hU hW => ⟨rfl, GA_pre hG hU hW.alike⟩⟩ rfl hn hls hst (lv_room hW) hdg hf) hG.2.2.2.1 (fun q _ h => h) (fun q h => h) (fun r2 u t H1 locs1 ht hvm hw hB hz hk hS => ?_)
  obtain ⟨rfl, rfl⟩ := hw
  exact kk _ _ H1 locs1 (GA_next hG ht hB hS) h
theorem v_cN_iR (S : CallFix p m c cc nL s args AL own) (hG : GA g ad σ w b s H locs) {host : String} {y : MethodName} {bytes : ByteArray} {ret : Option FieldType} {maxL n idx mc ms : Nat} {rm : Room} {st0 : List Value} (As : List Value) {f : Option Int32} {K : Int32 → Option α} {j ci : Nat} {q : vw_C} (hci : vwCl[ci]? = some q) (hq : q.1 = y.cls) (h8 : ci < 8) (hM : ∀ (r : Int32), f = some r → Met l y (wsy y bytes maxL ret) rm (va_Pc (.ref (ad j) :: As) (PB g ad σ b)) (va_Qi (fun (r' : Int32) (u : Mem) => r' = r ∧ u = σ) (GW g ad) (AA g ad w b)) mc ms (AA g ad w b)) (mw : MW y bytes maxL ret n) (hl : Cond.methodLinkNest own idx y host ∈ AL) (hdg : decode cc pc = .ok (.invokevirtual idx, 3)) (hst : st0 = As.reverse ++ .ref (ad j) :: rest) (hn : As.length = n) (hls : ls.size = nL) (hW : (rest.map fun v => v.category).sum ≤ 8) (hR : rm.frames + 1 ≤ R.frames ∧ 8 + (maxL + 11) + rm.locals ≤ R.locals) (hrc : rm.cells = mc) (hrs : rm.slots = ms) (hf : cells + mc ≤ R.cells ∧ slots + ms ≤ R.slots) (kk : ∀ (r : Int32) (H1 : Heap) (locs1 : List Loc), GA g ad σ w b s H1 locs1 → K r = some res → W p l e R s m args below meth c H1 locs1 (cells + mc) (slots + ms) Q (F0 m (pc + 3) ls (.int r :: rest))) : gd (ck j ci) (b1 f K) = some res → W p l e R s m args below meth c H locs cells slots Q (F0 m pc ls st0) := fun h => by
  obtain ⟨hc, h⟩ := og h
  obtain ⟨r, e1, h⟩ := ob h
  refine va_calli (va_runVN (As := As) (rest := rest) (b := ad j) (C := y.cls) S (hM r e1) ⟨va_cnB n S.2.2.2.2 (wsy_good mw.2.2.2.1) rfl hrc hrs (va_Nw.of (w := Cond.methodLinkNest own idx y host) rfl (S.2.2.2.2 _ hl)) (S.2.2.2.2 _ mw.2.2.1) mw.2.2.2.2 hR, S.2.2.2.2 _ mw.1, S.2.2.2.2 _ mw.2.1⟩ ⟨blind, by rw [← hq]; exact recvOf hG (ck_of hc) hci h8, fun U hU hW => ⟨rfl, GA_pre hG hU hW.alike⟩⟩ rfl hn hls hst (lv_room hW) hdg hf) hG.2.2.2.1 (fun q _ h => h) (fun q h => h) (fun r2 u t H1 locs1 ht hvm hw hB hz hk hS => ?_)
  obtain ⟨rfl, rfl⟩ := hw
  exact kk _ H1 locs1 (GA_next hG ht hB hS) h
theorem v_cN_lm (S : CallFix p m c cc nL s args AL own) (hG : GA g ad σ w b s H locs) {host : String} {y : MethodName} {bytes : ByteArray} {ret : Option FieldType} {maxL n idx mc ms : Nat} {rm : Room} {st0 : List Value} (As : List Value) {f : Option (Int64 × Mem)} {K : Int64 → Mem → Option α} {j ci : Nat} {q : vw_C} (hci : vwCl[ci]? = some q) (hq : q.1 = y.cls) (h8 : ci < 8) (hM : ∀ (r : Int64) (σ1 : Mem), f = some (r, σ1) → Met l y (wsy y bytes maxL ret) rm (va_Pc (.ref (ad j) :: As) (PB g ad σ b)) (va_Ql (fun (r' : Int64) (u : Mem) => r' = r ∧ u = σ1) (GW g ad) (AA g ad w b)) mc ms (AA g ad w b)) (mw : MW y bytes maxL ret n) (hl : Cond.methodLinkNest own idx y host ∈ AL) (hdg : decode cc pc = .ok (.invokevirtual idx, 3)) (hst : st0 = As.reverse ++ .ref (ad j) :: rest) (hn : As.length = n) (hls : ls.size = nL) (hW : (rest.map fun v => v.category).sum ≤ 8) (hR : rm.frames + 1 ≤ R.frames ∧ 8 + (maxL + 11) + rm.locals ≤ R.locals) (hrc : rm.cells = mc) (hrs : rm.slots = ms) (hf : cells + mc ≤ R.cells ∧ slots + ms ≤ R.slots) (kk : ∀ (r : Int64) (σ1 : Mem) (H1 : Heap) (locs1 : List Loc), GA g ad σ1 w b s H1 locs1 → K r σ1 = some res → W p l e R s m args below meth c H1 locs1 (cells + mc) (slots + ms) Q (F0 m (pc + 3) ls (.long r :: rest))) : gd (ck j ci) (b2 f K) = some res → W p l e R s m args below meth c H locs cells slots Q (F0 m pc ls st0) := fun h => by
  obtain ⟨hc, h⟩ := og h
  obtain ⟨r, σ1, e1, h⟩ := ob2 h
  refine va_calll (va_runVN (As := As) (rest := rest) (b := ad j) (C := y.cls) S (hM r σ1 e1) ⟨va_cnB n S.2.2.2.2 (wsy_good mw.2.2.2.1) rfl hrc hrs (va_Nw.of (w := Cond.methodLinkNest own idx y host) rfl (S.2.2.2.2 _ hl)) (S.2.2.2.2 _ mw.2.2.1) mw.2.2.2.2 hR, S.2.2.2.2 _ mw.1, S.2.2.2.2 _ mw.2.1⟩ ⟨blind, by rw [← hq]; exact recvOf hG (ck_of hc) hci h8, fun U hU hW => ⟨rfl, GA_pre hG hU hW.alike⟩⟩ rfl hn hls hst (lv_room hW) hdg hf) hG.2.2.2.1 (fun q _ h => h) (fun q h => h) (fun r2 u t H1 locs1 ht hvm hw hB hz hk hS => ?_)
  obtain ⟨rfl, rfl⟩ := hw
  exact kk _ _ H1 locs1 (GA_next hG ht hB hS) h
theorem v_cN_lR (S : CallFix p m c cc nL s args AL own) (hG : GA g ad σ w b s H locs) {host : String} {y : MethodName} {bytes : ByteArray} {ret : Option FieldType} {maxL n idx mc ms : Nat} {rm : Room} {st0 : List Value} (As : List Value) {f : Option Int64} {K : Int64 → Option α} {j ci : Nat} {q : vw_C} (hci : vwCl[ci]? = some q) (hq : q.1 = y.cls) (h8 : ci < 8) (hM : ∀ (r : Int64), f = some r → Met l y (wsy y bytes maxL ret) rm (va_Pc (.ref (ad j) :: As) (PB g ad σ b)) (va_Ql (fun (r' : Int64) (u : Mem) => r' = r ∧ u = σ) (GW g ad) (AA g ad w b)) mc ms (AA g ad w b)) (mw : MW y bytes maxL ret n) (hl : Cond.methodLinkNest own idx y host ∈ AL) (hdg : decode cc pc = .ok (.invokevirtual idx, 3)) (hst : st0 = As.reverse ++ .ref (ad j) :: rest) (hn : As.length = n) (hls : ls.size = nL) (hW : (rest.map fun v => v.category).sum ≤ 8) (hR : rm.frames + 1 ≤ R.frames ∧ 8 + (maxL + 11) + rm.locals ≤ R.locals) (hrc : rm.cells = mc) (hrs : rm.slots = ms) (hf : cells + mc ≤ R.cells ∧ slots + ms ≤ R.slots) (kk : ∀ (r : Int64) (H1 : Heap) (locs1 : List Loc), GA g ad σ w b s H1 locs1 → K r = some res → W p l e R s m args below meth c H1 locs1 (cells + mc) (slots + ms) Q (F0 m (pc + 3) ls (.long r :: rest))) : gd (ck j ci) (b1 f K) = some res → W p l e R s m args below meth c H locs cells slots Q (F0 m pc ls st0) := fun h => by
  obtain ⟨hc, h⟩ := og h
  obtain ⟨r, e1, h⟩ := ob h
  refine va_calll (va_runVN (As := As) (rest := rest) (b := ad j) (C := y.cls) S (hM r e1) ⟨va_cnB n S.2.2.2.2 (wsy_good mw.2.2.2.1) rfl hrc hrs (va_Nw.of (w := Cond.methodLinkNest own idx y host) rfl (S.2.2.2.2 _ hl)) (S.2.2.2.2 _ mw.2.2.1) mw.2.2.2.2 hR, S.2.2.2.2 _ mw.1, S.2.2.2.2 _ mw.2.1⟩ ⟨blind, by rw [← hq]; exact recvOf hG (ck_of hc) hci h8, fun U hU hW => ⟨rfl, GA_pre hG hU hW.alike⟩⟩ rfl hn hls hst (lv_room hW) hdg hf) hG.2.2.2.1 (fun q _ h => h) (fun q h => h) (fun r2 u t H1 locs1 ht hvm hw hB hz hk hS => ?_)
  obtain ⟨rfl, rfl⟩ := hw
  exact kk _ H1 locs1 (GA_next hG ht hB hS) h
theorem v_cN_vm (S : CallFix p m c cc nL s args AL own) (hG : GA g ad σ w b s H locs) {host : String} {y : MethodName} {bytes : ByteArray} {ret : Option FieldType} {maxL n idx mc ms : Nat} {rm : Room} {st0 : List Value} (As : List Value) {f : Option Mem} {K : Mem → Option α} {j ci : Nat} {q : vw_C} (hci : vwCl[ci]? = some q) (hq : q.1 = y.cls) (h8 : ci < 8) (hM : ∀ (σ1 : Mem), f = some σ1 → Met l y (wsy y bytes maxL ret) rm (va_Pc (.ref (ad j) :: As) (PB g ad σ b)) (va_Qv (fun (u : Mem) => u = σ1) (GW g ad) (AA g ad w b)) mc ms (AA g ad w b)) (mw : MW y bytes maxL ret n) (hl : Cond.methodLinkNest own idx y host ∈ AL) (hdg : decode cc pc = .ok (.invokevirtual idx, 3)) (hst : st0 = As.reverse ++ .ref (ad j) :: rest) (hn : As.length = n) (hls : ls.size = nL) (hW : (rest.map fun v => v.category).sum ≤ 8) (hR : rm.frames + 1 ≤ R.frames ∧ 8 + (maxL + 11) + rm.locals ≤ R.locals) (hrc : rm.cells = mc) (hrs : rm.slots = ms) (hf : cells + mc ≤ R.cells ∧ slots + ms ≤ R.slots) (kk : ∀ (σ1 : Mem) (H1 : Heap) (locs1 : List Loc), GA g ad σ1 w b s H1 locs1 → K σ1 = some res → W p l e R s m args below meth c H1 locs1 (cells + mc) (slots + ms) Q (F0 m (pc + 3) ls (rest))) : gd (ck j ci) (b1 f K) = some res → W p l e R s m args below meth c H locs cells slots Q (F0 m pc ls st0) := fun h => by
  obtain ⟨hc, h⟩ := og h
  obtain ⟨σ1, e1, h⟩ := ob h
  refine va_callv (va_runVN (As := As) (rest := rest) (b := ad j) (C := y.cls) S (hM σ1 e1) ⟨va_cnB n S.2.2.2.2 (wsy_good mw.2.2.2.1) rfl hrc hrs (va_Nw.of (w := Cond.methodLinkNest own idx y host) rfl (S.2.2.2.2 _ hl)) (S.2.2.2.2 _ mw.2.2.1) mw.2.2.2.2 hR, S.2.2.2.2 _ mw.1, S.2.2.2.2 _ mw.2.1⟩ ⟨blind, by rw [← hq]; exact recvOf hG (ck_of hc) hci h8, fun U hU hW => ⟨rfl, GA_pre hG hU hW.alike⟩⟩ rfl hn hls hst (lv_room hW) hdg hf) hG.2.2.2.1 (fun q _ h => h) (fun q h => h) (fun u t H1 locs1 ht hvm hw hB hz hk hS => ?_)
  subst hw
  exact kk _ H1 locs1 (GA_next hG ht hB hS) h
theorem v_cN_rR (S : CallFix p m c cc nL s args AL own) (hG : GA g ad σ w b s H locs) {host : String} {y : MethodName} {bytes : ByteArray} {ret : Option FieldType} {maxL n idx mc ms : Nat} {rm : Room} {st0 : List Value} (As : List Value) {f : Option Nat} {K : Nat → Option α} {j ci : Nat} {q : vw_C} (hci : vwCl[ci]? = some q) (hq : q.1 = y.cls) (h8 : ci < 8) (hM : ∀ (r : Nat), f = some r → Met l y (wsy y bytes maxL ret) rm (va_Pc (.ref (ad j) :: As) (PB g ad σ b)) (va_Qr (fun (u : Mem) => u = σ) (fun u a t => a = ad r ∧ GW g ad u t) (AA g ad w b)) mc ms (AA g ad w b)) (mw : MW y bytes maxL ret n) (hl : Cond.methodLinkNest own idx y host ∈ AL) (hdg : decode cc pc = .ok (.invokevirtual idx, 3)) (hst : st0 = As.reverse ++ .ref (ad j) :: rest) (hn : As.length = n) (hls : ls.size = nL) (hW : (rest.map fun v => v.category).sum ≤ 8) (hR : rm.frames + 1 ≤ R.frames ∧ 8 + (maxL + 11) + rm.locals ≤ R.locals) (hrc : rm.cells = mc) (hrs : rm.slots = ms) (hf : cells + mc ≤ R.cells ∧ slots + ms ≤ R.slots) (kk : ∀ (r : Nat) (H1 : Heap) (locs1 : List Loc), GA g ad σ w b s H1 locs1 → K r = some res → W p l e R s m args below meth c H1 locs1 (cells + mc) (slots + ms) Q (F0 m (pc + 3) ls (.ref (ad r) :: rest))) : gd (ck j ci) (b1 f K) = some res → W p l e R s m args below meth c H locs cells slots Q (F0 m pc ls st0) := fun h => by
  obtain ⟨hc, h⟩ := og h
  obtain ⟨r, e1, h⟩ := ob h
  refine va_callr (va_runVN (As := As) (rest := rest) (b := ad j) (C := y.cls) S (hM r e1) ⟨va_cnB n S.2.2.2.2 (wsy_good mw.2.2.2.1) rfl hrc hrs (va_Nw.of (w := Cond.methodLinkNest own idx y host) rfl (S.2.2.2.2 _ hl)) (S.2.2.2.2 _ mw.2.2.1) mw.2.2.2.2 hR, S.2.2.2.2 _ mw.1, S.2.2.2.2 _ mw.2.1⟩ ⟨blind, by rw [← hq]; exact recvOf hG (ck_of hc) hci h8, fun U hU hW => ⟨rfl, GA_pre hG hU hW.alike⟩⟩ rfl hn hls hst (lv_room hW) hdg hf) hG.2.2.2.1 (fun q _ h => h) (fun q h => h) (fun u ra t H1 locs1 ht hvm hw hB hz hk hS => ?_)
  subst hw
  obtain ⟨rfl, hB⟩ := hB
  exact kk _ H1 locs1 (GA_next hG ht hB hS) h
theorem v_cS_im (S : CallFix p m c cc nL s args AL own) (hG : GA g ad σ w b s H locs) {y : MethodName} {bytes : ByteArray} {ret : Option FieldType} {maxL n idx mc ms : Nat} {rm : Room} {st0 : List Value} (As : List Value) {f : Option (Int32 × Mem)} {K : Int32 → Mem → Option α} (hM : ∀ (r : Int32) (σ1 : Mem), f = some (r, σ1) → Met l y (wsy y bytes maxL ret) rm (va_Pc As (PB g ad σ b)) (va_Qi (fun (r' : Int32) (u : Mem) => r' = r ∧ u = σ1) (GW g ad) (AA g ad w b)) mc ms (AA g ad w b)) (mw : MS y bytes maxL ret n) (hl : Cond.methodLink own idx y ∈ AL) (hdg : decode cc pc = .ok (.invokestatic idx, 3)) (hst : st0 = As.reverse ++ rest) (hn : As.length = n) (hls : ls.size = nL) (hW : (rest.map fun v => v.category).sum ≤ 8) (hR : rm.frames + 1 ≤ R.frames ∧ 8 + (maxL + 11) + rm.locals ≤ R.locals) (hrc : rm.cells = mc) (hrs : rm.slots = ms) (hf : cells + mc ≤ R.cells ∧ slots + ms ≤ R.slots) (kk : ∀ (r : Int32) (σ1 : Mem) (H1 : Heap) (locs1 : List Loc), GA g ad σ1 w b s H1 locs1 → K r σ1 = some res → W p l e R s m args below meth c H1 locs1 (cells + mc) (slots + ms) Q (F0 m (pc + 3) ls (.int r :: rest))) : (b2 f K) = some res → W p l e R s m args below meth c H locs cells slots Q (F0 m pc ls st0) := fun h => by
  obtain ⟨r, σ1, e1, h⟩ := ob2 h
  refine va_calli (va_runS (As := As) (rest := rest) S (hM r σ1 e1) (va_cwS n S.2.2.2.2 (gS hl mw) rfl hrc hrs mw.2.2.2 hR) ⟨blind, fun U hU hW => ⟨rfl, GA_pre hG hU hW.alike⟩⟩ rfl hn hls hst (lv_room hW) hdg hf) hG.2.2.2.1 (fun q _ h => h) (fun q h => h) (fun r2 u t H1 locs1 ht hvm hw hB hz hk hS => ?_)
  obtain ⟨rfl, rfl⟩ := hw
  exact kk _ _ H1 locs1 (GA_next hG ht hB hS) h
theorem v_cS_iR (S : CallFix p m c cc nL s args AL own) (hG : GA g ad σ w b s H locs) {y : MethodName} {bytes : ByteArray} {ret : Option FieldType} {maxL n idx mc ms : Nat} {rm : Room} {st0 : List Value} (As : List Value) {f : Option Int32} {K : Int32 → Option α} (hM : ∀ (r : Int32), f = some r → Met l y (wsy y bytes maxL ret) rm (va_Pc As (PB g ad σ b)) (va_Qi (fun (r' : Int32) (u : Mem) => r' = r ∧ u = σ) (GW g ad) (AA g ad w b)) mc ms (AA g ad w b)) (mw : MS y bytes maxL ret n) (hl : Cond.methodLink own idx y ∈ AL) (hdg : decode cc pc = .ok (.invokestatic idx, 3)) (hst : st0 = As.reverse ++ rest) (hn : As.length = n) (hls : ls.size = nL) (hW : (rest.map fun v => v.category).sum ≤ 8) (hR : rm.frames + 1 ≤ R.frames ∧ 8 + (maxL + 11) + rm.locals ≤ R.locals) (hrc : rm.cells = mc) (hrs : rm.slots = ms) (hf : cells + mc ≤ R.cells ∧ slots + ms ≤ R.slots) (kk : ∀ (r : Int32) (H1 : Heap) (locs1 : List Loc), GA g ad σ w b s H1 locs1 → K r = some res → W p l e R s m args below meth c H1 locs1 (cells + mc) (slots + ms) Q (F0 m (pc + 3) ls (.int r :: rest))) : (b1 f K) = some res → W p l e R s m args below meth c H locs cells slots Q (F0 m pc ls st0) := fun h => by
  obtain ⟨r, e1, h⟩ := ob h
  refine va_calli (va_runS (As := As) (rest := rest) S (hM r e1) (va_cwS n S.2.2.2.2 (gS hl mw) rfl hrc hrs mw.2.2.2 hR) ⟨blind, fun U hU hW => ⟨rfl, GA_pre hG hU hW.alike⟩⟩ rfl hn hls hst (lv_room hW) hdg hf) hG.2.2.2.1 (fun q _ h => h) (fun q h => h) (fun r2 u t H1 locs1 ht hvm hw hB hz hk hS => ?_)
  obtain ⟨rfl, rfl⟩ := hw
  exact kk _ H1 locs1 (GA_next hG ht hB hS) h
theorem v_cS_lm (S : CallFix p m c cc nL s args AL own) (hG : GA g ad σ w b s H locs) {y : MethodName} {bytes : ByteArray} {ret : Option FieldType} {maxL n idx mc ms : Nat} {rm : Room} {st0 : List Value} (As : List Value) {f : Option (Int64 × Mem)} {K : Int64 → Mem → Option α} (hM : ∀ (r : Int64) (σ1 : Mem), f = some (r, σ1) → Met l y (wsy y bytes maxL ret) rm (va_Pc As (PB g ad σ b)) (va_Ql (fun (r' : Int64) (u : Mem) => r' = r ∧ u = σ1) (GW g ad) (AA g ad w b)) mc ms (AA g ad w b)) (mw : MS y bytes maxL ret n) (hl : Cond.methodLink own idx y ∈ AL) (hdg : decode cc pc = .ok (.invokestatic idx, 3)) (hst : st0 = As.reverse ++ rest) (hn : As.length = n) (hls : ls.size = nL) (hW : (rest.map fun v => v.category).sum ≤ 8) (hR : rm.frames + 1 ≤ R.frames ∧ 8 + (maxL + 11) + rm.locals ≤ R.locals) (hrc : rm.cells = mc) (hrs : rm.slots = ms) (hf : cells + mc ≤ R.cells ∧ slots + ms ≤ R.slots) (kk : ∀ (r : Int64) (σ1 : Mem) (H1 : Heap) (locs1 : List Loc), GA g ad σ1 w b s H1 locs1 → K r σ1 = some res → W p l e R s m args below meth c H1 locs1 (cells + mc) (slots + ms) Q (F0 m (pc + 3) ls (.long r :: rest))) : (b2 f K) = some res → W p l e R s m args below meth c H locs cells slots Q (F0 m pc ls st0) := fun h => by
  obtain ⟨r, σ1, e1, h⟩ := ob2 h
  refine va_calll (va_runS (As := As) (rest := rest) S (hM r σ1 e1) (va_cwS n S.2.2.2.2 (gS hl mw) rfl hrc hrs mw.2.2.2 hR) ⟨blind, fun U hU hW => ⟨rfl, GA_pre hG hU hW.alike⟩⟩ rfl hn hls hst (lv_room hW) hdg hf) hG.2.2.2.1 (fun q _ h => h) (fun q h => h) (fun r2 u t H1 locs1 ht hvm hw hB hz hk hS => ?_)
  obtain ⟨rfl, rfl⟩ := hw
  exact kk _ _ H1 locs1 (GA_next hG ht hB hS) h
theorem v_cS_lR (S : CallFix p m c cc nL s args AL own) (hG : GA g ad σ w b s H locs) {y : MethodName} {bytes : ByteArray} {ret : Option FieldType} {maxL n idx mc ms : Nat} {rm : Room} {st0 : List Value} (As : List Value) {f : Option Int64} {K : Int64 → Option α} (hM : ∀ (r : Int64), f = some r → Met l y (wsy y bytes maxL ret) rm (va_Pc As (PB g ad σ b)) (va_Ql (fun (r' : Int64) (u : Mem) => r' = r ∧ u = σ) (GW g ad) (AA g ad w b)) mc ms (AA g ad w b)) (mw : MS y bytes maxL ret n) (hl : Cond.methodLink own idx y ∈ AL) (hdg : decode cc pc = .ok (.invokestatic idx, 3)) (hst : st0 = As.reverse ++ rest) (hn : As.length = n) (hls : ls.size = nL) (hW : (rest.map fun v => v.category).sum ≤ 8) (hR : rm.frames + 1 ≤ R.frames ∧ 8 + (maxL + 11) + rm.locals ≤ R.locals) (hrc : rm.cells = mc) (hrs : rm.slots = ms) (hf : cells + mc ≤ R.cells ∧ slots + ms ≤ R.slots) (kk : ∀ (r : Int64) (H1 : Heap) (locs1 : List Loc), GA g ad σ w b s H1 locs1 → K r = some res → W p l e R s m args below meth c H1 locs1 (cells + mc) (slots + ms) Q (F0 m (pc + 3) ls (.long r :: rest))) : (b1 f K) = some res → W p l e R s m args below meth c H locs cells slots Q (F0 m pc ls st0) := fun h => by
  obtain ⟨r, e1, h⟩ := ob h
  refine va_calll (va_runS (As := As) (rest := rest) S (hM r e1) (va_cwS n S.2.2.2.2 (gS hl mw) rfl hrc hrs mw.2.2.2 hR) ⟨blind, fun U hU hW => ⟨rfl, GA_pre hG hU hW.alike⟩⟩ rfl hn hls hst (lv_room hW) hdg hf) hG.2.2.2.1 (fun q _ h => h) (fun q h => h) (fun r2 u t H1 locs1 ht hvm hw hB hz hk hS => ?_)
  obtain ⟨rfl, rfl⟩ := hw
  exact kk _ H1 locs1 (GA_next hG ht hB hS) h
theorem v_cS_vm (S : CallFix p m c cc nL s args AL own) (hG : GA g ad σ w b s H locs) {y : MethodName} {bytes : ByteArray} {ret : Option FieldType} {maxL n idx mc ms : Nat} {rm : Room} {st0 : List Value} (As : List Value) {f : Option Mem} {K : Mem → Option α} (hM : ∀ (σ1 : Mem), f = some σ1 → Met l y (wsy y bytes maxL ret) rm (va_Pc As (PB g ad σ b)) (va_Qv (fun (u : Mem) => u = σ1) (GW g ad) (AA g ad w b)) mc ms (AA g ad w b)) (mw : MS y bytes maxL ret n) (hl : Cond.methodLink own idx y ∈ AL) (hdg : decode cc pc = .ok (.invokestatic idx, 3)) (hst : st0 = As.reverse ++ rest) (hn : As.length = n) (hls : ls.size = nL) (hW : (rest.map fun v => v.category).sum ≤ 8) (hR : rm.frames + 1 ≤ R.frames ∧ 8 + (maxL + 11) + rm.locals ≤ R.locals) (hrc : rm.cells = mc) (hrs : rm.slots = ms) (hf : cells + mc ≤ R.cells ∧ slots + ms ≤ R.slots) (kk : ∀ (σ1 : Mem) (H1 : Heap) (locs1 : List Loc), GA g ad σ1 w b s H1 locs1 → K σ1 = some res → W p l e R s m args below meth c H1 locs1 (cells + mc) (slots + ms) Q (F0 m (pc + 3) ls (rest))) : (b1 f K) = some res → W p l e R s m args below meth c H locs cells slots Q (F0 m pc ls st0) := fun h => by
  obtain ⟨σ1, e1, h⟩ := ob h
  refine va_callv (va_runS (As := As) (rest := rest) S (hM σ1 e1) (va_cwS n S.2.2.2.2 (gS hl mw) rfl hrc hrs mw.2.2.2 hR) ⟨blind, fun U hU hW => ⟨rfl, GA_pre hG hU hW.alike⟩⟩ rfl hn hls hst (lv_room hW) hdg hf) hG.2.2.2.1 (fun q _ h => h) (fun q h => h) (fun u t H1 locs1 ht hvm hw hB hz hk hS => ?_)
  subst hw
  exact kk _ H1 locs1 (GA_next hG ht hB hS) h
theorem v_cS_rR (S : CallFix p m c cc nL s args AL own) (hG : GA g ad σ w b s H locs) {y : MethodName} {bytes : ByteArray} {ret : Option FieldType} {maxL n idx mc ms : Nat} {rm : Room} {st0 : List Value} (As : List Value) {f : Option Nat} {K : Nat → Option α} (hM : ∀ (r : Nat), f = some r → Met l y (wsy y bytes maxL ret) rm (va_Pc As (PB g ad σ b)) (va_Qr (fun (u : Mem) => u = σ) (fun u a t => a = ad r ∧ GW g ad u t) (AA g ad w b)) mc ms (AA g ad w b)) (mw : MS y bytes maxL ret n) (hl : Cond.methodLink own idx y ∈ AL) (hdg : decode cc pc = .ok (.invokestatic idx, 3)) (hst : st0 = As.reverse ++ rest) (hn : As.length = n) (hls : ls.size = nL) (hW : (rest.map fun v => v.category).sum ≤ 8) (hR : rm.frames + 1 ≤ R.frames ∧ 8 + (maxL + 11) + rm.locals ≤ R.locals) (hrc : rm.cells = mc) (hrs : rm.slots = ms) (hf : cells + mc ≤ R.cells ∧ slots + ms ≤ R.slots) (kk : ∀ (r : Nat) (H1 : Heap) (locs1 : List Loc), GA g ad σ w b s H1 locs1 → K r = some res → W p l e R s m args below meth c H1 locs1 (cells + mc) (slots + ms) Q (F0 m (pc + 3) ls (.ref (ad r) :: rest))) : (b1 f K) = some res → W p l e R s m args below meth c H locs cells slots Q (F0 m pc ls st0) := fun h => by
  obtain ⟨r, e1, h⟩ := ob h
  refine va_callr (va_runS (As := As) (rest := rest) S (hM r e1) (va_cwS n S.2.2.2.2 (gS hl mw) rfl hrc hrs mw.2.2.2 hR) ⟨blind, fun U hU hW => ⟨rfl, GA_pre hG hU hW.alike⟩⟩ rfl hn hls hst (lv_room hW) hdg hf) hG.2.2.2.1 (fun q _ h => h) (fun q h => h) (fun u ra t H1 locs1 ht hvm hw hB hz hk hS => ?_)
  subst hw
  obtain ⟨rfl, hB⟩ := hB
  exact kk _ H1 locs1 (GA_next hG ht hB hS) h
theorem v_iretm (S : CallFix p m c cc nL s args AL own) (hG : GA g ad σ w b s H locs) {v r : Int32} {σ1 : Mem} {mc ms : Nat} (hr : meth.sig.returnType = some .int) (hlk : meth.locks = false) (hc : cells ≤ mc) (hs : slots ≤ ms) (hdg : decode cc pc = .ok (.ireturn, 1)) : some (v, σ) = some (r, σ1) → W p l e R s m args below meth c H locs cells slots (MQ below (va_Qi (fun (r' : Int32) (u : Mem) => r' = r ∧ u = σ1) (GW g ad) (AA g ad w b)) args s mc ms (AA g ad w b)) (F0 m pc ls [.int v]) := fun h => by
  cases h
  exact W.widen hc hs (W.iret S.1 S.2.1 hr (fun t ht hW => ⟨⟨v, σ, rfl, ⟨rfl, rfl⟩, GA_world hG ht hW.alike⟩, hG.2.2.2.1.F ht⟩) hG.2.2.2.1.2.2 hdg)
theorem v_iretR (S : CallFix p m c cc nL s args AL own) (hG : GA g ad σ w b s H locs) {v r : Int32} {mc ms : Nat} (hr : meth.sig.returnType = some .int) (hlk : meth.locks = false) (hc : cells ≤ mc) (hs : slots ≤ ms) (hdg : decode cc pc = .ok (.ireturn, 1)) : some v = some r → W p l e R s m args below meth c H locs cells slots (MQ below (va_Qi (fun (r' : Int32) (u : Mem) => r' = r ∧ u = σ) (GW g ad) (AA g ad w b)) args s mc ms (AA g ad w b)) (F0 m pc ls [.int v]) := fun h => by
  cases h
  exact W.widen hc hs (W.iret S.1 S.2.1 hr (fun t ht hW => ⟨⟨v, σ, rfl, ⟨rfl, rfl⟩, GA_world hG ht hW.alike⟩, hG.2.2.2.1.F ht⟩) hG.2.2.2.1.2.2 hdg)
theorem v_lretm (S : CallFix p m c cc nL s args AL own) (hG : GA g ad σ w b s H locs) {v r : Int64} {σ1 : Mem} {mc ms : Nat} (hr : meth.sig.returnType = some .long) (hlk : meth.locks = false) (hc : cells ≤ mc) (hs : slots ≤ ms) (hdg : decode cc pc = .ok (.lreturn, 1)) : some (v, σ) = some (r, σ1) → W p l e R s m args below meth c H locs cells slots (MQ below (va_Ql (fun (r' : Int64) (u : Mem) => r' = r ∧ u = σ1) (GW g ad) (AA g ad w b)) args s mc ms (AA g ad w b)) (F0 m pc ls [.long v]) := fun h => by
  cases h
  exact W.widen hc hs (W.lret S.1 S.2.1 hr (fun t ht hW => ⟨⟨v, σ, rfl, ⟨rfl, rfl⟩, GA_world hG ht hW.alike⟩, hG.2.2.2.1.F ht⟩) hG.2.2.2.1.2.2 hdg)
theorem v_lretR (S : CallFix p m c cc nL s args AL own) (hG : GA g ad σ w b s H locs) {v r : Int64} {mc ms : Nat} (hr : meth.sig.returnType = some .long) (hlk : meth.locks = false) (hc : cells ≤ mc) (hs : slots ≤ ms) (hdg : decode cc pc = .ok (.lreturn, 1)) : some v = some r → W p l e R s m args below meth c H locs cells slots (MQ below (va_Ql (fun (r' : Int64) (u : Mem) => r' = r ∧ u = σ) (GW g ad) (AA g ad w b)) args s mc ms (AA g ad w b)) (F0 m pc ls [.long v]) := fun h => by
  cases h
  exact W.widen hc hs (W.lret S.1 S.2.1 hr (fun t ht hW => ⟨⟨v, σ, rfl, ⟨rfl, rfl⟩, GA_world hG ht hW.alike⟩, hG.2.2.2.1.F ht⟩) hG.2.2.2.1.2.2 hdg)
theorem v_zretm (S : CallFix p m c cc nL s args AL own) (hG : GA g ad σ w b s H locs) {v r : Int32} {σ1 : Mem} {mc ms : Nat} (hr : meth.sig.returnType = some .boolean) (hlk : meth.locks = false) (hz : narrow .boolean (.int v) = .int v) (hc : cells ≤ mc) (hs : slots ≤ ms) (hdg : decode cc pc = .ok (.ireturn, 1)) : some (v, σ) = some (r, σ1) → W p l e R s m args below meth c H locs cells slots (MQ below (va_Qi (fun (r' : Int32) (u : Mem) => r' = r ∧ u = σ1) (GW g ad) (AA g ad w b)) args s mc ms (AA g ad w b)) (F0 m pc ls [.int v]) := fun h => by
  cases h
  exact W.widen hc hs (W.zret S.1 S.2.1 hr hz (fun t ht hW => ⟨⟨v, σ, rfl, ⟨rfl, rfl⟩, GA_world hG ht hW.alike⟩, hG.2.2.2.1.F ht⟩) hG.2.2.2.1.2.2 hdg)
theorem v_zretR (S : CallFix p m c cc nL s args AL own) (hG : GA g ad σ w b s H locs) {v r : Int32} {mc ms : Nat} (hr : meth.sig.returnType = some .boolean) (hlk : meth.locks = false) (hz : narrow .boolean (.int v) = .int v) (hc : cells ≤ mc) (hs : slots ≤ ms) (hdg : decode cc pc = .ok (.ireturn, 1)) : some v = some r → W p l e R s m args below meth c H locs cells slots (MQ below (va_Qi (fun (r' : Int32) (u : Mem) => r' = r ∧ u = σ) (GW g ad) (AA g ad w b)) args s mc ms (AA g ad w b)) (F0 m pc ls [.int v]) := fun h => by
  cases h
  exact W.widen hc hs (W.zret S.1 S.2.1 hr hz (fun t ht hW => ⟨⟨v, σ, rfl, ⟨rfl, rfl⟩, GA_world hG ht hW.alike⟩, hG.2.2.2.1.F ht⟩) hG.2.2.2.1.2.2 hdg)
theorem v_vretm (S : CallFix p m c cc nL s args AL own) (hG : GA g ad σ w b s H locs) {σ1 : Mem} {mc ms : Nat} (hr : meth.sig.returnType = none) (hlk : meth.locks = false) (hc : cells ≤ mc) (hs : slots ≤ ms) (hdg : decode cc pc = .ok (.return_, 1)) : some σ = some σ1 → W p l e R s m args below meth c H locs cells slots (MQ below (va_Qv (fun (u : Mem) => u = σ1) (GW g ad) (AA g ad w b)) args s mc ms (AA g ad w b)) (F0 m pc ls []) := fun h => by
  cases h
  exact W.widen hc hs (W.vret S.1 S.2.1 hr (fun t ht hW => ⟨⟨σ, rfl, rfl, GA_world hG ht hW.alike⟩, hG.2.2.2.1.F ht⟩) hG.2.2.2.1.2.2 hdg)
theorem v_rretR (S : CallFix p m c cc nL s args AL own) (hG : GA g ad σ w b s H locs) {o rt : FieldType} {v r : Nat} {mc ms : Nat} (hr : meth.sig.returnType = some rt) (hrt : (∃ n, rt = .object n) ∨ ∃ t, rt = .array t) (hlk : meth.locks = false) (hc : cells ≤ mc) (hs : slots ≤ ms) (hdg : decode cc pc = .ok (.areturn, 1)) : some v = some r → W p l e R s m args below meth c H locs cells slots (MQ below (va_Qr (fun (u : Mem) => u = σ) (fun u a t => a = ad r ∧ GW g ad u t) (AA g ad w b)) args s mc ms (AA g ad w b)) (F0 m pc ls [.ref (ad v)]) := fun h => by
  cases h
  exact W.widen hc hs (W.aret S.1 S.2.1 hr hrt (Or.inr ⟨_, rfl⟩) (fun t ht hW => ⟨⟨σ, ad v, rfl, rfl, rfl, GA_world hG ht hW.alike⟩, hG.2.2.2.1.F ht⟩) hG.2.2.2.1.2.2 hdg)
def bz (v : Int32) : Bool := decide (v = 0) || decide (v = 1)
theorem bz_n {v : Int32} (h : bz v = true) : narrow .boolean (.int v) = .int v := by
  unfold bz at h
  rcases Bool.or_eq_true _ _ |>.mp h with h | h
  · rw [of_decide_eq_true h]; rfl
  · rw [of_decide_eq_true h]; rfl
theorem v_zretgm (S : CallFix p m c cc nL s args AL own) (hG : GA g ad σ w b s H locs) {v r : Int32} {σ1 : Mem} {mc ms : Nat} (hr : meth.sig.returnType = some .boolean) (hlk : meth.locks = false) (hc : cells ≤ mc) (hs : slots ≤ ms) (hdg : decode cc pc = .ok (.ireturn, 1)) : gd (bz v) (some (v, σ)) = some (r, σ1) → W p l e R s m args below meth c H locs cells slots (MQ below (va_Qi (fun (r' : Int32) (u : Mem) => r' = r ∧ u = σ1) (GW g ad) (AA g ad w b)) args s mc ms (AA g ad w b)) (F0 m pc ls [.int v]) := fun h => v_zretm S hG hr hlk (bz_n (og h).1) hc hs hdg (og h).2
theorem v_zretgR (S : CallFix p m c cc nL s args AL own) (hG : GA g ad σ w b s H locs) {v r : Int32} {mc ms : Nat} (hr : meth.sig.returnType = some .boolean) (hlk : meth.locks = false) (hc : cells ≤ mc) (hs : slots ≤ ms) (hdg : decode cc pc = .ok (.ireturn, 1)) : gd (bz v) (some v) = some r → W p l e R s m args below meth c H locs cells slots (MQ below (va_Qi (fun (r' : Int32) (u : Mem) => r' = r ∧ u = σ) (GW g ad) (AA g ad w b)) args s mc ms (AA g ad w b)) (F0 m pc ls [.int v]) := fun h => v_zretR S hG hr hlk (bz_n (og h).1) hc hs hdg (og h).2
theorem v_mmax (S : CallFix p m c cc nL s args AL own) {idx : Nat} {x y : Int32} (hl : Cond.methodLink own idx Lib.Math.max.name ∈ AL) (hw : Cond.static Lib.Math.max.name ∈ AL ∧ Cond.initialized "java/lang/Math" ∈ AL ∧ Cond.code Lib.Math.max.name Lib.Math.max.code 2 (some .int) ∈ AL) (hls : ls.size = nL) (hR : 1 ≤ R.frames) (hL : (rest.map fun v => v.category).sum + 13 ≤ R.locals) (hc : cells ≤ R.cells) (hs : slots ≤ R.slots) (hdg : decode cc pc = .ok (.invokestatic idx, 3)) (kk : P → W p l e R s m args below meth c H locs cells slots Q (F0 m (pc + 3) ls (.int (if x < y then y else x) :: rest))) : P → W p l e R s m args below meth c H locs cells slots Q (F0 m pc ls (.int y :: .int x :: rest)) := fun h => va_mmax S.1 S.2.1 (S.2.2.1.trans hls.symm) S.2.2.2.1 (S.2.2.2.2 _ hl) (S.2.2.2.2 _ hw.1) (S.2.2.2.2 _ hw.2.1) (S.2.2.2.2 _ hw.2.2) hR hL hc hs hdg (kk h)
theorem v_mmin (S : CallFix p m c cc nL s args AL own) {idx : Nat} {x y : Int32} (hl : Cond.methodLink own idx Lib.Math.min.name ∈ AL) (hw : Cond.static Lib.Math.min.name ∈ AL ∧ Cond.initialized "java/lang/Math" ∈ AL ∧ Cond.code Lib.Math.min.name Lib.Math.min.code 2 (some .int) ∈ AL) (hls : ls.size = nL) (hR : 1 ≤ R.frames) (hL : (rest.map fun v => v.category).sum + 13 ≤ R.locals) (hc : cells ≤ R.cells) (hs : slots ≤ R.slots) (hdg : decode cc pc = .ok (.invokestatic idx, 3)) (kk : P → W p l e R s m args below meth c H locs cells slots Q (F0 m (pc + 3) ls (.int (if y < x then y else x) :: rest))) : P → W p l e R s m args below meth c H locs cells slots Q (F0 m pc ls (.int y :: .int x :: rest)) := fun h => va_mmin S.1 S.2.1 (S.2.2.1.trans hls.symm) S.2.2.2.1 (S.2.2.2.2 _ hl) (S.2.2.2.2 _ hw.1) (S.2.2.2.2 _ hw.2.1) (S.2.2.2.2 _ hw.2.2) hR hL hc hs hdg (kk h)
end RW
end
section
theorem q0 : Cond.static Lib.Math.max.name ∈ AL := AL_in (tq2 (List.mem_of_getElem? (i := 39) rfl)) rfl
theorem q1 : Cond.initialized "java/lang/Math" ∈ AL := AL_in (tq1 (List.mem_of_getElem? (i := 15) rfl)) rfl
theorem q2 : Cond.code Lib.Math.max.name Lib.Math.max.code 2 (some .int) ∈ AL := AL_in (tq2 (List.mem_of_getElem? (i := 40) rfl)) rfl
theorem q3 : Cond.static Lib.Math.min.name ∈ AL := AL_in (tq2 (List.mem_of_getElem? (i := 189) rfl)) rfl
theorem q4 : Cond.code Lib.Math.min.name Lib.Math.min.code 2 (some .int) ∈ AL := AL_in (tq2 (List.mem_of_getElem? (i := 190) rfl)) rfl
theorem mw_max : Cond.static Lib.Math.max.name ∈ AL ∧ Cond.initialized "java/lang/Math" ∈ AL ∧ Cond.code Lib.Math.max.name Lib.Math.max.code 2 (some .int) ∈ AL := ⟨q0, q1, q2⟩
theorem mw_min : Cond.static Lib.Math.min.name ∈ AL ∧ Cond.initialized "java/lang/Math" ∈ AL ∧ Cond.code Lib.Math.min.name Lib.Math.min.code 2 (some .int) ∈ AL := ⟨q3, q1, q4⟩
theorem q5 : Cond.fieldLink RX1 7 "MuffledTolls$Leather" "thick" "I" ∈ AL := AL_in (tq1 (List.mem_of_getElem? (i := 44) rfl)) rfl
theorem q6 : Cond.fieldLink RX1 13 "MuffledTolls$Leather" "worn" "I" ∈ AL := AL_in (tq1 (List.mem_of_getElem? (i := 47) rfl)) rfl
theorem q7 : Cond.methodLink RX1 16 yX1_renew ∈ AL := AL_in (tq3 (List.mem_of_getElem? (i := 114) rfl)) rfl
theorem q8 : Cond.code yX1_renew cX1_renew 2 none ∈ AL := AL_in (tq2 (List.mem_of_getElem? (i := 180) rfl)) rfl
theorem q9 : Cond.initialized "MuffledTolls$Leather" ∈ AL := AL_in (tq1 (List.mem_of_getElem? (i := 4) rfl)) rfl
theorem q10 : Cond.instanceMethod yX1_renew ∈ AL := AL_in (tq2 (List.mem_of_getElem? (i := 178) rfl)) rfl
theorem q11 : Cond.selects yX1_renew.cls yX1_renew yX1_renew ∈ AL := AL_in (tq2 (List.mem_of_getElem? (i := 179) rfl)) rfl
theorem mw_X1_renew : MW yX1_renew cX1_renew 2 none 1 := ⟨q10, q11, q9, q8, by decide +kernel⟩
theorem q12 : Cond.fieldLink RX2 15 "MuffledTolls$Ringer" "strength" "I" ∈ AL := AL_in (tq1 (List.mem_of_getElem? (i := 95) rfl)) rfl
theorem q13 : Cond.fieldLink RX2 18 "MuffledTolls$Ringer" "tired" "I" ∈ AL := AL_in (tq1 (List.mem_of_getElem? (i := 97) rfl)) rfl
theorem q14 : Cond.fieldLink RX2 9 "MuffledTolls$Ringer" "bell" "I" ∈ AL := AL_in (tq1 (List.mem_of_getElem? (i := 100) rfl)) rfl
theorem q15 : Cond.fieldLink RX2 21 "MuffledTolls$Ringer" "strokes" "I" ∈ AL := AL_in (tq1 (List.mem_of_getElem? (i := 102) rfl)) rfl
theorem q16 : Cond.fieldLink RX2 24 "MuffledTolls$Ringer" "reliefs" "I" ∈ AL := AL_in (tq1 (List.mem_of_getElem? (i := 103) rfl)) rfl
theorem q17 : Cond.methodLink RX2 27 yX2_rests ∈ AL := AL_in (tq3 (List.mem_of_getElem? (i := 129) rfl)) rfl
theorem q18 : Cond.code yX2_rests cX2_rests 1 (some .boolean) ∈ AL := AL_in (tq1 (List.mem_of_getElem? (i := 210) rfl)) rfl
theorem q19 : Cond.initialized "MuffledTolls$Ringer" ∈ AL := AL_in (tq1 (List.mem_of_getElem? (i := 5) rfl)) rfl
theorem q20 : Cond.instanceMethod yX2_rests ∈ AL := AL_in (tq1 (List.mem_of_getElem? (i := 208) rfl)) rfl
theorem q21 : Cond.selects yX2_rests.cls yX2_rests yX2_rests ∈ AL := AL_in (tq1 (List.mem_of_getElem? (i := 209) rfl)) rfl
theorem mw_X2_rests : MW yX2_rests cX2_rests 1 (some .boolean) 0 := ⟨q20, q21, q19, q18, by decide +kernel⟩
theorem q22 : Cond.methodLink RX2 31 Lib.Math.max.name ∈ AL := AL_in (tq3 (List.mem_of_getElem? (i := 130) rfl)) rfl
end
section
def fn_X1_becomeLike (σ : Mem) (t : Nat) (p0 : Nat) : Option Mem := gd (ck p0 1) (gd (ck t 1) (nm (sI σ t 0 (σ p0 0)) (fun σ1 => gd (ck p0 1) (gd (ck t 1) (nm (sI σ1 t 1 (σ1 p0 1)) (fun σ2 => (some σ2)))))))
set_option maxHeartbeats 4000000 in
set_option maxRecDepth 100000 in
theorem met_X1_becomeLike (l : Launch) (g : GT) (ad : Nat → Nat) (_ : Bool) (b : Nat) (σ : Mem) (t : Nat) (p0 : Nat) (σr : Mem) (h : fn_X1_becomeLike σ t p0 = some σr) : Met l yX1_becomeLike (wsy yX1_becomeLike cX1_becomeLike 2 none) ({ frames := 0, cells := 0, slots := 0, locals := 0 } : Room) (va_Pc [.ref (ad t), .ref (ad p0)] (PB g ad σ b)) (va_Qv (fun (u : Mem) => u = σr) (GW g ad) (AA g ad true b)) 0 0 (AA g ad true b) := by
  refine Met.ofW (cc := cX1_becomeLike) (maxL := 2) (ret := none) (by decide) rfl ?_
  intro p e s m args below meth c s₁ B hml hv
  obtain ⟨rfl, hv⟩ := hv
  have S : CallFix p m c cX1_becomeLike 2 s _ AL RX1 := ⟨B.exec, B.bytes, hml, findClass_of_methodNamed B.named, fun w h => atoms_spec (ws := wsy yX1_becomeLike cX1_becomeLike 2 none) B.pre w (List.mem_cons_of_mem _ h)⟩
  have hr := B.returns
  have hlk := B.notSynchronized
  have hG : GA g ad σ true b s s.heap [] := GA_start hv
  have hl := lv_entry ([.ref (ad t), .ref (ad p0)]) (n := 2) (Nat.le_of_ble_eq_true rfl)
  rw [lg_entry_eq]
  generalize (lg_sl ([.ref (ad t), .ref (ad p0)]) ++ List.replicate (2 - (lg_sl ([.ref (ad t), .ref (ad p0)])).length) Slot.unset).toArray = ls at hl ⊢
  have hl : lv_has ls 2 [(0, .ref (ad t)), (1, .ref (ad p0))] := hl
  revert h
  unfold fn_X1_becomeLike
  refine v_aload_n S hl 0 rfl rfl dX1_becomeLike_0 ?_
  refine v_aload_n S hl 1 rfl rfl dX1_becomeLike_1 ?_
  refine gf_1_0 S hG q5 dX1_becomeLike_2 ?_
  refine pf_1_0 S hG q5 dX1_becomeLike_5 (fun σ1 H locs hG => ?_)
  refine v_aload_n S hl 0 rfl rfl dX1_becomeLike_8 ?_
  refine v_aload_n S hl 1 rfl rfl dX1_becomeLike_9 ?_
  refine gf_1_1 S hG q6 dX1_becomeLike_10 ?_
  refine pf_1_1 S hG q6 dX1_becomeLike_13 (fun σ2 H locs hG => ?_)
  exact v_vretm S hG hr hlk (Nat.le_of_ble_eq_true rfl) (Nat.le_of_ble_eq_true rfl) dX1_becomeLike_16
def fn_X1_renew (σ : Mem) (t : Nat) (p0 : Int32) : Option Mem := gd (ck t 1) (nm (sI σ t 0 p0) (fun σ1 => gd (ck t 1) (nm (sI σ1 t 1 0) (fun σ2 => (some σ2)))))
set_option maxHeartbeats 4000000 in
set_option maxRecDepth 100000 in
theorem met_X1_renew (l : Launch) (g : GT) (ad : Nat → Nat) (_ : Bool) (b : Nat) (σ : Mem) (t : Nat) (p0 : Int32) (σr : Mem) (h : fn_X1_renew σ t p0 = some σr) : Met l yX1_renew (wsy yX1_renew cX1_renew 2 none) ({ frames := 0, cells := 0, slots := 0, locals := 0 } : Room) (va_Pc [.ref (ad t), .int p0] (PB g ad σ b)) (va_Qv (fun (u : Mem) => u = σr) (GW g ad) (AA g ad true b)) 0 0 (AA g ad true b) := by
  refine Met.ofW (cc := cX1_renew) (maxL := 2) (ret := none) (by decide) rfl ?_
  intro p e s m args below meth c s₁ B hml hv
  obtain ⟨rfl, hv⟩ := hv
  have S : CallFix p m c cX1_renew 2 s _ AL RX1 := ⟨B.exec, B.bytes, hml, findClass_of_methodNamed B.named, fun w h => atoms_spec (ws := wsy yX1_renew cX1_renew 2 none) B.pre w (List.mem_cons_of_mem _ h)⟩
  have hr := B.returns
  have hlk := B.notSynchronized
  have hG : GA g ad σ true b s s.heap [] := GA_start hv
  have hl := lv_entry ([.ref (ad t), .int p0]) (n := 2) (Nat.le_of_ble_eq_true rfl)
  rw [lg_entry_eq]
  generalize (lg_sl ([.ref (ad t), .int p0]) ++ List.replicate (2 - (lg_sl ([.ref (ad t), .int p0])).length) Slot.unset).toArray = ls at hl ⊢
  have hl : lv_has ls 2 [(0, .ref (ad t)), (1, .int p0)] := hl
  revert h
  unfold fn_X1_renew
  refine v_aload_n S hl 0 rfl rfl dX1_renew_0 ?_
  refine v_iload_n S hl 1 rfl rfl dX1_renew_1 ?_
  refine pf_1_0 S hG q5 dX1_renew_2 (fun σ1 H locs hG => ?_)
  refine v_aload_n S hl 0 rfl rfl dX1_renew_5 ?_
  refine v_iconst S 0 dX1_renew_6 rfl ?_
  refine pf_1_1 S hG q6 dX1_renew_7 (fun σ2 H locs hG => ?_)
  exact v_vretm S hG hr hlk (Nat.le_of_ble_eq_true rfl) (Nat.le_of_ble_eq_true rfl) dX1_renew_10
def fn_X1_reach (σ : Mem) (t : Nat) (p0 : Int32) : Option Int32 := gd (ck t 1) ((if (σ t 0) ≤ (0 : Int32) then (some (10 * p0)) else gd (ck t 1) (gd (decide (¬ (1 + (σ t 0)) = (0 : Int32))) ((some ((10 * p0) / (1 + (σ t 0))))))))
set_option maxHeartbeats 4000000 in
set_option maxRecDepth 100000 in
theorem met_X1_reach (l : Launch) (g : GT) (ad : Nat → Nat) (w : Bool) (b : Nat) (σ : Mem) (t : Nat) (p0 : Int32) (rr : Int32) (h : fn_X1_reach σ t p0 = some rr) : Met l yX1_reach (wsy yX1_reach cX1_reach 2 (some .int)) ({ frames := 0, cells := 0, slots := 0, locals := 0 } : Room) (va_Pc [.ref (ad t), .int p0] (PB g ad σ b)) (va_Qi (fun (r' : Int32) (u : Mem) => r' = rr ∧ u = σ) (GW g ad) (AA g ad w b)) 0 0 (AA g ad w b) := by
  refine Met.ofW (cc := cX1_reach) (maxL := 2) (ret := (some .int)) (by decide) rfl ?_
  intro p e s m args below meth c s₁ B hml hv
  obtain ⟨rfl, hv⟩ := hv
  have S : CallFix p m c cX1_reach 2 s _ AL RX1 := ⟨B.exec, B.bytes, hml, findClass_of_methodNamed B.named, fun w h => atoms_spec (ws := wsy yX1_reach cX1_reach 2 (some .int)) B.pre w (List.mem_cons_of_mem _ h)⟩
  have hr := B.returns
  have hlk := B.notSynchronized
  have hG : GA g ad σ w b s s.heap [] := GA_start hv
  have hl := lv_entry ([.ref (ad t), .int p0]) (n := 2) (Nat.le_of_ble_eq_true rfl)
  rw [lg_entry_eq]
  generalize (lg_sl ([.ref (ad t), .int p0]) ++ List.replicate (2 - (lg_sl ([.ref (ad t), .int p0])).length) Slot.unset).toArray = ls at hl ⊢
  have hl : lv_has ls 2 [(0, .ref (ad t)), (1, .int p0)] := hl
  revert h
  unfold fn_X1_reach
  refine v_aload_n S hl 0 rfl rfl dX1_reach_0 ?_
  refine gf_1_0 S hG q5 dX1_reach_1 ?_
  refine v_if_le S 21 dX1_reach_4 (by decide) ?_ ?_
  · refine v_bipush S 10 dX1_reach_21 (by decide) ?_
    refine v_iload_n S hl 1 rfl rfl dX1_reach_23 ?_
    refine v_imul S dX1_reach_24 ?_
    exact v_iretR S hG hr hlk (Nat.le_of_ble_eq_true rfl) (Nat.le_of_ble_eq_true rfl) dX1_reach_25
  · refine v_bipush S 10 dX1_reach_7 (by decide) ?_
    refine v_iload_n S hl 1 rfl rfl dX1_reach_9 ?_
    refine v_imul S dX1_reach_10 ?_
    refine v_iconst S 1 dX1_reach_11 rfl ?_
    refine v_aload_n S hl 0 rfl rfl dX1_reach_12 ?_
    refine gf_1_0 S hG q5 dX1_reach_13 ?_
    refine v_iadd S dX1_reach_16 ?_
    refine v_idiv S dX1_reach_17 ?_
    refine v_goto S 25 dX1_reach_18 (by decide) ?_
    exact v_iretR S hG hr hlk (Nat.le_of_ble_eq_true rfl) (Nat.le_of_ble_eq_true rfl) dX1_reach_25
def fn_X1_wear (σ : Mem) (t : Nat) (p0 : Int32) : Option Mem := gd (ck t 1) ((if (σ t 0) = (0 : Int32) then (some σ) else gd (ck t 1) (gd (ck t 1) (nm (sI σ t 1 ((σ t 1) + p0)) (fun σ1 => gd (ck t 1) (gd (ck t 1) ((if (σ1 t 1) < (10 * (σ1 t 0)) then (some σ1) else gd (ck t 1) (b1 (fn_X1_renew σ1 t 0) (fun σ2 => (some σ2)))))))))))
set_option maxHeartbeats 4000000 in
set_option maxRecDepth 100000 in
theorem met_X1_wear (l : Launch) (g : GT) (ad : Nat → Nat) (_ : Bool) (b : Nat) (σ : Mem) (t : Nat) (p0 : Int32) (σr : Mem) (h : fn_X1_wear σ t p0 = some σr) : Met l yX1_wear (wsy yX1_wear cX1_wear 2 none) ({ frames := 1, cells := 0, slots := 0, locals := 21 } : Room) (va_Pc [.ref (ad t), .int p0] (PB g ad σ b)) (va_Qv (fun (u : Mem) => u = σr) (GW g ad) (AA g ad true b)) 0 0 (AA g ad true b) := by
  refine Met.ofW (cc := cX1_wear) (maxL := 2) (ret := none) (by decide) rfl ?_
  intro p e s m args below meth c s₁ B hml hv
  obtain ⟨rfl, hv⟩ := hv
  have S : CallFix p m c cX1_wear 2 s _ AL RX1 := ⟨B.exec, B.bytes, hml, findClass_of_methodNamed B.named, fun w h => atoms_spec (ws := wsy yX1_wear cX1_wear 2 none) B.pre w (List.mem_cons_of_mem _ h)⟩
  have hr := B.returns
  have hlk := B.notSynchronized
  have hG : GA g ad σ true b s s.heap [] := GA_start hv
  have hl := lv_entry ([.ref (ad t), .int p0]) (n := 2) (Nat.le_of_ble_eq_true rfl)
  rw [lg_entry_eq]
  generalize (lg_sl ([.ref (ad t), .int p0]) ++ List.replicate (2 - (lg_sl ([.ref (ad t), .int p0])).length) Slot.unset).toArray = ls at hl ⊢
  have hl : lv_has ls 2 [(0, .ref (ad t)), (1, .int p0)] := hl
  revert h
  unfold fn_X1_wear
  refine v_aload_n S hl 0 rfl rfl dX1_wear_0 ?_
  refine gf_1_0 S hG q5 dX1_wear_1 ?_
  refine v_if_ne S 8 dX1_wear_4 (by decide) ?_ ?_
  · refine v_aload_n S hl 0 rfl rfl dX1_wear_8 ?_
    refine v_dup S dX1_wear_9 rfl ?_
    refine gf_1_1 S hG q6 dX1_wear_10 ?_
    refine v_iload_n S hl 1 rfl rfl dX1_wear_13 ?_
    refine v_iadd S dX1_wear_14 ?_
    refine pf_1_1 S hG q6 dX1_wear_15 (fun σ1 H locs hG => ?_)
    refine v_aload_n S hl 0 rfl rfl dX1_wear_18 ?_
    refine gf_1_1 S hG q6 dX1_wear_19 ?_
    refine v_bipush S 10 dX1_wear_22 (by decide) ?_
    refine v_aload_n S hl 0 rfl rfl dX1_wear_24 ?_
    refine gf_1_0 S hG q5 dX1_wear_25 ?_
    refine v_imul S dX1_wear_28 ?_
    refine v_icmp_lt S 37 dX1_wear_29 (by decide) ?_ ?_
    · exact v_vretm S hG hr hlk (Nat.le_of_ble_eq_true rfl) (Nat.le_of_ble_eq_true rfl) dX1_wear_37
    · refine v_aload_n S hl 0 rfl rfl dX1_wear_32 ?_
      refine v_iconst S 0 dX1_wear_33 rfl ?_
      refine v_cV_vm S hG [.int 0] rfl rfl (by decide) (met_X1_renew l g ad true b σ1 t 0) mw_X1_renew q7 dX1_wear_34 rfl rfl hl.1 (Nat.le_of_ble_eq_true rfl) ⟨Nat.le_of_ble_eq_true rfl, Nat.le_of_ble_eq_true rfl⟩ rfl rfl ⟨Nat.le_of_ble_eq_true rfl, Nat.le_of_ble_eq_true rfl⟩ (fun σ2 H locs hG => ?_)
      exact v_vretm S hG hr hlk (Nat.le_of_ble_eq_true rfl) (Nat.le_of_ble_eq_true rfl) dX1_wear_37
  · exact v_vretm S hG hr hlk (Nat.le_of_ble_eq_true rfl) (Nat.le_of_ble_eq_true rfl) dX1_wear_7
def fn_X1_strokesLeft (σ : Mem) (t : Nat) (p0 : Int32) : Option Int32 := gd (ck t 1) ((if (σ t 0) = (0 : Int32) then (some 0) else (if (0 : Int32) < p0 then gd (ck t 1) (gd (ck t 1) (gd (decide (¬ p0 = (0 : Int32))) ((some (((((10 * (σ t 0)) - (σ t 1)) + p0) - 1) / p0))))) else (some 0))))
set_option maxHeartbeats 4000000 in
set_option maxRecDepth 100000 in
theorem met_X1_strokesLeft (l : Launch) (g : GT) (ad : Nat → Nat) (w : Bool) (b : Nat) (σ : Mem) (t : Nat) (p0 : Int32) (rr : Int32) (h : fn_X1_strokesLeft σ t p0 = some rr) : Met l yX1_strokesLeft (wsy yX1_strokesLeft cX1_strokesLeft 2 (some .int)) ({ frames := 0, cells := 0, slots := 0, locals := 0 } : Room) (va_Pc [.ref (ad t), .int p0] (PB g ad σ b)) (va_Qi (fun (r' : Int32) (u : Mem) => r' = rr ∧ u = σ) (GW g ad) (AA g ad w b)) 0 0 (AA g ad w b) := by
  refine Met.ofW (cc := cX1_strokesLeft) (maxL := 2) (ret := (some .int)) (by decide) rfl ?_
  intro p e s m args below meth c s₁ B hml hv
  obtain ⟨rfl, hv⟩ := hv
  have S : CallFix p m c cX1_strokesLeft 2 s _ AL RX1 := ⟨B.exec, B.bytes, hml, findClass_of_methodNamed B.named, fun w h => atoms_spec (ws := wsy yX1_strokesLeft cX1_strokesLeft 2 (some .int)) B.pre w (List.mem_cons_of_mem _ h)⟩
  have hr := B.returns
  have hlk := B.notSynchronized
  have hG : GA g ad σ w b s s.heap [] := GA_start hv
  have hl := lv_entry ([.ref (ad t), .int p0]) (n := 2) (Nat.le_of_ble_eq_true rfl)
  rw [lg_entry_eq]
  generalize (lg_sl ([.ref (ad t), .int p0]) ++ List.replicate (2 - (lg_sl ([.ref (ad t), .int p0])).length) Slot.unset).toArray = ls at hl ⊢
  have hl : lv_has ls 2 [(0, .ref (ad t)), (1, .int p0)] := hl
  revert h
  unfold fn_X1_strokesLeft
  refine v_aload_n S hl 0 rfl rfl dX1_strokesLeft_0 ?_
  refine gf_1_0 S hG q5 dX1_strokesLeft_1 ?_
  refine v_if_eq S 11 dX1_strokesLeft_4 (by decide) ?_ ?_
  · refine v_iconst S 0 dX1_strokesLeft_11 rfl ?_
    exact v_iretR S hG hr hlk (Nat.le_of_ble_eq_true rfl) (Nat.le_of_ble_eq_true rfl) dX1_strokesLeft_12
  · refine v_iload_n S hl 1 rfl rfl dX1_strokesLeft_7 ?_
    refine v_if_gt S 13 dX1_strokesLeft_8 (by decide) ?_ ?_
    · refine v_bipush S 10 dX1_strokesLeft_13 (by decide) ?_
      refine v_aload_n S hl 0 rfl rfl dX1_strokesLeft_15 ?_
      refine gf_1_0 S hG q5 dX1_strokesLeft_16 ?_
      refine v_imul S dX1_strokesLeft_19 ?_
      refine v_aload_n S hl 0 rfl rfl dX1_strokesLeft_20 ?_
      refine gf_1_1 S hG q6 dX1_strokesLeft_21 ?_
      refine v_isub S dX1_strokesLeft_24 ?_
      refine v_iload_n S hl 1 rfl rfl dX1_strokesLeft_25 ?_
      refine v_iadd S dX1_strokesLeft_26 ?_
      refine v_iconst S 1 dX1_strokesLeft_27 rfl ?_
      refine v_isub S dX1_strokesLeft_28 ?_
      refine v_iload_n S hl 1 rfl rfl dX1_strokesLeft_29 ?_
      refine v_idiv S dX1_strokesLeft_30 ?_
      exact v_iretR S hG hr hlk (Nat.le_of_ble_eq_true rfl) (Nat.le_of_ble_eq_true rfl) dX1_strokesLeft_31
    · refine v_iconst S 0 dX1_strokesLeft_11 rfl ?_
      exact v_iretR S hG hr hlk (Nat.le_of_ble_eq_true rfl) (Nat.le_of_ble_eq_true rfl) dX1_strokesLeft_12
def fn_X2_becomeLike (σ : Mem) (t : Nat) (p0 : Nat) : Option Mem := gd (ck p0 2) (gd (ck t 2) (nm (sI σ t 0 (σ p0 0)) (fun σ1 => gd (ck p0 2) (gd (ck t 2) (nm (sI σ1 t 1 (σ1 p0 1)) (fun σ2 => gd (ck p0 2) (gd (ck t 2) (nm (sI σ2 t 2 (σ2 p0 2)) (fun σ3 => gd (ck p0 2) (gd (ck t 2) (nm (sI σ3 t 3 (σ3 p0 3)) (fun σ4 => gd (ck p0 2) (gd (ck t 2) (nm (sI σ4 t 4 (σ4 p0 4)) (fun σ5 => (some σ5))))))))))))))))
set_option maxHeartbeats 4000000 in
set_option maxRecDepth 100000 in
theorem met_X2_becomeLike (l : Launch) (g : GT) (ad : Nat → Nat) (_ : Bool) (b : Nat) (σ : Mem) (t : Nat) (p0 : Nat) (σr : Mem) (h : fn_X2_becomeLike σ t p0 = some σr) : Met l yX2_becomeLike (wsy yX2_becomeLike cX2_becomeLike 2 none) ({ frames := 0, cells := 0, slots := 0, locals := 0 } : Room) (va_Pc [.ref (ad t), .ref (ad p0)] (PB g ad σ b)) (va_Qv (fun (u : Mem) => u = σr) (GW g ad) (AA g ad true b)) 0 0 (AA g ad true b) := by
  refine Met.ofW (cc := cX2_becomeLike) (maxL := 2) (ret := none) (by decide) rfl ?_
  intro p e s m args below meth c s₁ B hml hv
  obtain ⟨rfl, hv⟩ := hv
  have S : CallFix p m c cX2_becomeLike 2 s _ AL RX2 := ⟨B.exec, B.bytes, hml, findClass_of_methodNamed B.named, fun w h => atoms_spec (ws := wsy yX2_becomeLike cX2_becomeLike 2 none) B.pre w (List.mem_cons_of_mem _ h)⟩
  have hr := B.returns
  have hlk := B.notSynchronized
  have hG : GA g ad σ true b s s.heap [] := GA_start hv
  have hl := lv_entry ([.ref (ad t), .ref (ad p0)]) (n := 2) (Nat.le_of_ble_eq_true rfl)
  rw [lg_entry_eq]
  generalize (lg_sl ([.ref (ad t), .ref (ad p0)]) ++ List.replicate (2 - (lg_sl ([.ref (ad t), .ref (ad p0)])).length) Slot.unset).toArray = ls at hl ⊢
  have hl : lv_has ls 2 [(0, .ref (ad t)), (1, .ref (ad p0))] := hl
  revert h
  unfold fn_X2_becomeLike
  refine v_aload_n S hl 0 rfl rfl dX2_becomeLike_0 ?_
  refine v_aload_n S hl 1 rfl rfl dX2_becomeLike_1 ?_
  refine gf_2_0 S hG q12 dX2_becomeLike_2 ?_
  refine pf_2_0 S hG q12 dX2_becomeLike_5 (fun σ1 H locs hG => ?_)
  refine v_aload_n S hl 0 rfl rfl dX2_becomeLike_8 ?_
  refine v_aload_n S hl 1 rfl rfl dX2_becomeLike_9 ?_
  refine gf_2_1 S hG q13 dX2_becomeLike_10 ?_
  refine pf_2_1 S hG q13 dX2_becomeLike_13 (fun σ2 H locs hG => ?_)
  refine v_aload_n S hl 0 rfl rfl dX2_becomeLike_16 ?_
  refine v_aload_n S hl 1 rfl rfl dX2_becomeLike_17 ?_
  refine gf_2_2 S hG q14 dX2_becomeLike_18 ?_
  refine pf_2_2 S hG q14 dX2_becomeLike_21 (fun σ3 H locs hG => ?_)
  refine v_aload_n S hl 0 rfl rfl dX2_becomeLike_24 ?_
  refine v_aload_n S hl 1 rfl rfl dX2_becomeLike_25 ?_
  refine gf_2_3 S hG q15 dX2_becomeLike_26 ?_
  refine pf_2_3 S hG q15 dX2_becomeLike_29 (fun σ4 H locs hG => ?_)
  refine v_aload_n S hl 0 rfl rfl dX2_becomeLike_32 ?_
  refine v_aload_n S hl 1 rfl rfl dX2_becomeLike_33 ?_
  refine gf_2_4 S hG q16 dX2_becomeLike_34 ?_
  refine pf_2_4 S hG q16 dX2_becomeLike_37 (fun σ5 H locs hG => ?_)
  exact v_vretm S hG hr hlk (Nat.le_of_ble_eq_true rfl) (Nat.le_of_ble_eq_true rfl) dX2_becomeLike_40
def fn_X2_rests (σ : Mem) (t : Nat) : Option Int32 := gd (ck t 2) ((if (σ t 2) = (-1) then (some 1) else (some 0)))
set_option maxHeartbeats 4000000 in
set_option maxRecDepth 100000 in
theorem met_X2_rests (l : Launch) (g : GT) (ad : Nat → Nat) (w : Bool) (b : Nat) (σ : Mem) (t : Nat) (rr : Int32) (h : fn_X2_rests σ t = some rr) : Met l yX2_rests (wsy yX2_rests cX2_rests 1 (some .boolean)) ({ frames := 0, cells := 0, slots := 0, locals := 0 } : Room) (va_Pc [.ref (ad t)] (PB g ad σ b)) (va_Qi (fun (r' : Int32) (u : Mem) => r' = rr ∧ u = σ) (GW g ad) (AA g ad w b)) 0 0 (AA g ad w b) := by
  refine Met.ofW (cc := cX2_rests) (maxL := 1) (ret := (some .boolean)) (by decide) rfl ?_
  intro p e s m args below meth c s₁ B hml hv
  obtain ⟨rfl, hv⟩ := hv
  have S : CallFix p m c cX2_rests 1 s _ AL RX2 := ⟨B.exec, B.bytes, hml, findClass_of_methodNamed B.named, fun w h => atoms_spec (ws := wsy yX2_rests cX2_rests 1 (some .boolean)) B.pre w (List.mem_cons_of_mem _ h)⟩
  have hr := B.returns
  have hlk := B.notSynchronized
  have hG : GA g ad σ w b s s.heap [] := GA_start hv
  have hl := lv_entry ([.ref (ad t)]) (n := 1) (Nat.le_of_ble_eq_true rfl)
  rw [lg_entry_eq]
  generalize (lg_sl ([.ref (ad t)]) ++ List.replicate (1 - (lg_sl ([.ref (ad t)])).length) Slot.unset).toArray = ls at hl ⊢
  have hl : lv_has ls 1 [(0, .ref (ad t))] := hl
  revert h
  unfold fn_X2_rests
  refine v_aload_n S hl 0 rfl rfl dX2_rests_0 ?_
  refine gf_2_2 S hG q14 dX2_rests_1 ?_
  refine v_iconst S (-1) dX2_rests_4 rfl ?_
  refine v_icmp_ne S 12 dX2_rests_5 (by decide) ?_ ?_
  · refine v_iconst S 0 dX2_rests_12 rfl ?_
    exact v_zretR S hG hr hlk rfl (Nat.le_of_ble_eq_true rfl) (Nat.le_of_ble_eq_true rfl) dX2_rests_13
  · refine v_iconst S 1 dX2_rests_8 rfl ?_
    refine v_goto S 13 dX2_rests_9 (by decide) ?_
    exact v_zretR S hG hr hlk rfl (Nat.le_of_ble_eq_true rfl) (Nat.le_of_ble_eq_true rfl) dX2_rests_13
def fn_X2_canPull (σ : Mem) (t : Nat) (p0 : Int32) : Option Int32 := gd (ck t 2) (gd (ck t 2) ((if (10 * (σ t 0)) < ((σ t 1) + p0) then (some 0) else (some 1))))
set_option maxHeartbeats 4000000 in
set_option maxRecDepth 100000 in
theorem met_X2_canPull (l : Launch) (g : GT) (ad : Nat → Nat) (w : Bool) (b : Nat) (σ : Mem) (t : Nat) (p0 : Int32) (rr : Int32) (h : fn_X2_canPull σ t p0 = some rr) : Met l yX2_canPull (wsy yX2_canPull cX2_canPull 2 (some .boolean)) ({ frames := 0, cells := 0, slots := 0, locals := 0 } : Room) (va_Pc [.ref (ad t), .int p0] (PB g ad σ b)) (va_Qi (fun (r' : Int32) (u : Mem) => r' = rr ∧ u = σ) (GW g ad) (AA g ad w b)) 0 0 (AA g ad w b) := by
  refine Met.ofW (cc := cX2_canPull) (maxL := 2) (ret := (some .boolean)) (by decide) rfl ?_
  intro p e s m args below meth c s₁ B hml hv
  obtain ⟨rfl, hv⟩ := hv
  have S : CallFix p m c cX2_canPull 2 s _ AL RX2 := ⟨B.exec, B.bytes, hml, findClass_of_methodNamed B.named, fun w h => atoms_spec (ws := wsy yX2_canPull cX2_canPull 2 (some .boolean)) B.pre w (List.mem_cons_of_mem _ h)⟩
  have hr := B.returns
  have hlk := B.notSynchronized
  have hG : GA g ad σ w b s s.heap [] := GA_start hv
  have hl := lv_entry ([.ref (ad t), .int p0]) (n := 2) (Nat.le_of_ble_eq_true rfl)
  rw [lg_entry_eq]
  generalize (lg_sl ([.ref (ad t), .int p0]) ++ List.replicate (2 - (lg_sl ([.ref (ad t), .int p0])).length) Slot.unset).toArray = ls at hl ⊢
  have hl : lv_has ls 2 [(0, .ref (ad t)), (1, .int p0)] := hl
  revert h
  unfold fn_X2_canPull
  refine v_aload_n S hl 0 rfl rfl dX2_canPull_0 ?_
  refine gf_2_1 S hG q13 dX2_canPull_1 ?_
  refine v_iload_n S hl 1 rfl rfl dX2_canPull_4 ?_
  refine v_iadd S dX2_canPull_5 ?_
  refine v_bipush S 10 dX2_canPull_6 (by decide) ?_
  refine v_aload_n S hl 0 rfl rfl dX2_canPull_8 ?_
  refine gf_2_0 S hG q12 dX2_canPull_9 ?_
  refine v_imul S dX2_canPull_12 ?_
  refine v_icmp_gt S 20 dX2_canPull_13 (by decide) ?_ ?_
  · refine v_iconst S 0 dX2_canPull_20 rfl ?_
    exact v_zretR S hG hr hlk rfl (Nat.le_of_ble_eq_true rfl) (Nat.le_of_ble_eq_true rfl) dX2_canPull_21
  · refine v_iconst S 1 dX2_canPull_16 rfl ?_
    refine v_goto S 21 dX2_canPull_17 (by decide) ?_
    exact v_zretR S hG hr hlk rfl (Nat.le_of_ble_eq_true rfl) (Nat.le_of_ble_eq_true rfl) dX2_canPull_21
def fn_X2_pull (σ : Mem) (t : Nat) (p0 : Int32) : Option Mem := gd (ck t 2) (gd (ck t 2) (nm (sI σ t 1 ((σ t 1) + p0)) (fun σ1 => gd (ck t 2) (gd (ck t 2) (nm (sI σ1 t 3 ((σ1 t 3) + 1)) (fun σ2 => (some σ2)))))))
set_option maxHeartbeats 4000000 in
set_option maxRecDepth 100000 in
theorem met_X2_pull (l : Launch) (g : GT) (ad : Nat → Nat) (_ : Bool) (b : Nat) (σ : Mem) (t : Nat) (p0 : Int32) (σr : Mem) (h : fn_X2_pull σ t p0 = some σr) : Met l yX2_pull (wsy yX2_pull cX2_pull 2 none) ({ frames := 0, cells := 0, slots := 0, locals := 0 } : Room) (va_Pc [.ref (ad t), .int p0] (PB g ad σ b)) (va_Qv (fun (u : Mem) => u = σr) (GW g ad) (AA g ad true b)) 0 0 (AA g ad true b) := by
  refine Met.ofW (cc := cX2_pull) (maxL := 2) (ret := none) (by decide) rfl ?_
  intro p e s m args below meth c s₁ B hml hv
  obtain ⟨rfl, hv⟩ := hv
  have S : CallFix p m c cX2_pull 2 s _ AL RX2 := ⟨B.exec, B.bytes, hml, findClass_of_methodNamed B.named, fun w h => atoms_spec (ws := wsy yX2_pull cX2_pull 2 none) B.pre w (List.mem_cons_of_mem _ h)⟩
  have hr := B.returns
  have hlk := B.notSynchronized
  have hG : GA g ad σ true b s s.heap [] := GA_start hv
  have hl := lv_entry ([.ref (ad t), .int p0]) (n := 2) (Nat.le_of_ble_eq_true rfl)
  rw [lg_entry_eq]
  generalize (lg_sl ([.ref (ad t), .int p0]) ++ List.replicate (2 - (lg_sl ([.ref (ad t), .int p0])).length) Slot.unset).toArray = ls at hl ⊢
  have hl : lv_has ls 2 [(0, .ref (ad t)), (1, .int p0)] := hl
  revert h
  unfold fn_X2_pull
  refine v_aload_n S hl 0 rfl rfl dX2_pull_0 ?_
  refine v_dup S dX2_pull_1 rfl ?_
  refine gf_2_1 S hG q13 dX2_pull_2 ?_
  refine v_iload_n S hl 1 rfl rfl dX2_pull_5 ?_
  refine v_iadd S dX2_pull_6 ?_
  refine pf_2_1 S hG q13 dX2_pull_7 (fun σ1 H locs hG => ?_)
  refine v_aload_n S hl 0 rfl rfl dX2_pull_10 ?_
  refine v_dup S dX2_pull_11 rfl ?_
  refine gf_2_3 S hG q15 dX2_pull_12 ?_
  refine v_iconst S 1 dX2_pull_15 rfl ?_
  refine v_iadd S dX2_pull_16 ?_
  refine pf_2_3 S hG q15 dX2_pull_17 (fun σ2 H locs hG => ?_)
  exact v_vretm S hG hr hlk (Nat.le_of_ble_eq_true rfl) (Nat.le_of_ble_eq_true rfl) dX2_pull_20
def fn_X2_restIfFree (σ : Mem) (t : Nat) : Option Mem := gd (ck t 2) (b1 (fn_X2_rests σ t) (fun r1 => (if r1 = (0 : Int32) then (some σ) else gd (ck t 2) (gd (ck t 2) (nm (sI σ t 1 (if 0 < ((σ t 1) - 2) then ((σ t 1) - 2) else 0)) (fun σ2 => (some σ2)))))))
set_option maxHeartbeats 4000000 in
set_option maxRecDepth 100000 in
theorem met_X2_restIfFree (l : Launch) (g : GT) (ad : Nat → Nat) (_ : Bool) (b : Nat) (σ : Mem) (t : Nat) (σr : Mem) (h : fn_X2_restIfFree σ t = some σr) : Met l yX2_restIfFree (wsy yX2_restIfFree cX2_restIfFree 1 none) ({ frames := 1, cells := 0, slots := 0, locals := 21 } : Room) (va_Pc [.ref (ad t)] (PB g ad σ b)) (va_Qv (fun (u : Mem) => u = σr) (GW g ad) (AA g ad true b)) 0 0 (AA g ad true b) := by
  refine Met.ofW (cc := cX2_restIfFree) (maxL := 1) (ret := none) (by decide) rfl ?_
  intro p e s m args below meth c s₁ B hml hv
  obtain ⟨rfl, hv⟩ := hv
  have S : CallFix p m c cX2_restIfFree 1 s _ AL RX2 := ⟨B.exec, B.bytes, hml, findClass_of_methodNamed B.named, fun w h => atoms_spec (ws := wsy yX2_restIfFree cX2_restIfFree 1 none) B.pre w (List.mem_cons_of_mem _ h)⟩
  have hr := B.returns
  have hlk := B.notSynchronized
  have hG : GA g ad σ true b s s.heap [] := GA_start hv
  have hl := lv_entry ([.ref (ad t)]) (n := 1) (Nat.le_of_ble_eq_true rfl)
  rw [lg_entry_eq]
  generalize (lg_sl ([.ref (ad t)]) ++ List.replicate (1 - (lg_sl ([.ref (ad t)])).length) Slot.unset).toArray = ls at hl ⊢
  have hl : lv_has ls 1 [(0, .ref (ad t))] := hl
  revert h
  unfold fn_X2_restIfFree
  refine v_aload_n S hl 0 rfl rfl dX2_restIfFree_0 ?_
  refine v_cV_iR S hG [] rfl rfl (by decide) (met_X2_rests l g ad true b σ t) mw_X2_rests q17 dX2_restIfFree_1 rfl rfl hl.1 (Nat.le_of_ble_eq_true rfl) ⟨Nat.le_of_ble_eq_true rfl, Nat.le_of_ble_eq_true rfl⟩ rfl rfl ⟨Nat.le_of_ble_eq_true rfl, Nat.le_of_ble_eq_true rfl⟩ (fun r1 H locs hG => ?_)
  refine v_if_eq S 21 dX2_restIfFree_4 (by decide) ?_ ?_
  · exact v_vretm S hG hr hlk (Nat.le_of_ble_eq_true rfl) (Nat.le_of_ble_eq_true rfl) dX2_restIfFree_21
  · refine v_aload_n S hl 0 rfl rfl dX2_restIfFree_7 ?_
    refine v_iconst S 0 dX2_restIfFree_8 rfl ?_
    refine v_aload_n S hl 0 rfl rfl dX2_restIfFree_9 ?_
    refine gf_2_1 S hG q13 dX2_restIfFree_10 ?_
    refine v_iconst S 2 dX2_restIfFree_13 rfl ?_
    refine v_isub S dX2_restIfFree_14 ?_
    refine v_mmax S q22 mw_max hl.1 (Nat.le_of_ble_eq_true rfl) (Nat.le_of_ble_eq_true rfl) (Nat.le_of_ble_eq_true rfl) (Nat.le_of_ble_eq_true rfl) dX2_restIfFree_15 ?_
    refine pf_2_1 S hG q13 dX2_restIfFree_18 (fun σ2 H locs hG => ?_)
    exact v_vretm S hG hr hlk (Nat.le_of_ble_eq_true rfl) (Nat.le_of_ble_eq_true rfl) dX2_restIfFree_21
def fn_X2_fact (σ : Mem) (t : Nat) (p0 : Int32) : Option Int32 := (if p0 = (0 : Int32) then gd (ck t 2) ((some (σ t 0))) else (if p0 = (1 : Int32) then gd (ck t 2) ((some (σ t 1))) else (if p0 = (2 : Int32) then gd (ck t 2) ((some (σ t 2))) else (if p0 = (3 : Int32) then gd (ck t 2) ((some (σ t 3))) else gd (ck t 2) ((some (σ t 4)))))))
set_option maxHeartbeats 4000000 in
set_option maxRecDepth 100000 in
theorem met_X2_fact (l : Launch) (g : GT) (ad : Nat → Nat) (w : Bool) (b : Nat) (σ : Mem) (t : Nat) (p0 : Int32) (rr : Int32) (h : fn_X2_fact σ t p0 = some rr) : Met l yX2_fact (wsy yX2_fact cX2_fact 2 (some .int)) ({ frames := 0, cells := 0, slots := 0, locals := 0 } : Room) (va_Pc [.ref (ad t), .int p0] (PB g ad σ b)) (va_Qi (fun (r' : Int32) (u : Mem) => r' = rr ∧ u = σ) (GW g ad) (AA g ad w b)) 0 0 (AA g ad w b) := by
  refine Met.ofW (cc := cX2_fact) (maxL := 2) (ret := (some .int)) (by decide) rfl ?_
  intro p e s m args below meth c s₁ B hml hv
  obtain ⟨rfl, hv⟩ := hv
  have S : CallFix p m c cX2_fact 2 s _ AL RX2 := ⟨B.exec, B.bytes, hml, findClass_of_methodNamed B.named, fun w h => atoms_spec (ws := wsy yX2_fact cX2_fact 2 (some .int)) B.pre w (List.mem_cons_of_mem _ h)⟩
  have hr := B.returns
  have hlk := B.notSynchronized
  have hG : GA g ad σ w b s s.heap [] := GA_start hv
  have hl := lv_entry ([.ref (ad t), .int p0]) (n := 2) (Nat.le_of_ble_eq_true rfl)
  rw [lg_entry_eq]
  generalize (lg_sl ([.ref (ad t), .int p0]) ++ List.replicate (2 - (lg_sl ([.ref (ad t), .int p0])).length) Slot.unset).toArray = ls at hl ⊢
  have hl : lv_has ls 2 [(0, .ref (ad t)), (1, .int p0)] := hl
  revert h
  unfold fn_X2_fact
  refine v_iload_n S hl 1 rfl rfl dX2_fact_0 ?_
  refine v_tcase (fun e1 => ?_) (fun c2 => ?_)
  · refine v_tin S 32 e1 dX2_fact_1 (by decide) (by decide) rfl (by decide) ?_
    refine v_aload_n S hl 0 rfl rfl dX2_fact_32 ?_
    refine gf_2_0 S hG q12 dX2_fact_33 ?_
    exact v_iretR S hG hr hlk (Nat.le_of_ble_eq_true rfl) (Nat.le_of_ble_eq_true rfl) dX2_fact_36
  refine v_tcase (fun e3 => ?_) (fun c4 => ?_)
  · refine v_tin S 37 e3 dX2_fact_1 (by decide) (by decide) rfl (by decide) ?_
    refine v_aload_n S hl 0 rfl rfl dX2_fact_37 ?_
    refine gf_2_1 S hG q13 dX2_fact_38 ?_
    exact v_iretR S hG hr hlk (Nat.le_of_ble_eq_true rfl) (Nat.le_of_ble_eq_true rfl) dX2_fact_41
  refine v_tcase (fun e5 => ?_) (fun c6 => ?_)
  · refine v_tin S 42 e5 dX2_fact_1 (by decide) (by decide) rfl (by decide) ?_
    refine v_aload_n S hl 0 rfl rfl dX2_fact_42 ?_
    refine gf_2_2 S hG q14 dX2_fact_43 ?_
    exact v_iretR S hG hr hlk (Nat.le_of_ble_eq_true rfl) (Nat.le_of_ble_eq_true rfl) dX2_fact_46
  refine v_tcase (fun e7 => ?_) (fun c8 => ?_)
  · refine v_tin S 47 e7 dX2_fact_1 (by decide) (by decide) rfl (by decide) ?_
    refine v_aload_n S hl 0 rfl rfl dX2_fact_47 ?_
    refine gf_2_3 S hG q15 dX2_fact_48 ?_
    exact v_iretR S hG hr hlk (Nat.le_of_ble_eq_true rfl) (Nat.le_of_ble_eq_true rfl) dX2_fact_51
  refine v_tout S 52 (t_out 4 (fun k hk => match k, hk with | 0, _ => c2 | 1, _ => c4 | 2, _ => c6 | 3, _ => c8 | k + 4, hk => absurd hk (by omega)) (by decide)) dX2_fact_1 (by decide) ?_
  refine v_aload_n S hl 0 rfl rfl dX2_fact_52 ?_
  refine gf_2_4 S hG q16 dX2_fact_53 ?_
  exact v_iretR S hG hr hlk (Nat.le_of_ble_eq_true rfl) (Nat.le_of_ble_eq_true rfl) dX2_fact_56
end
