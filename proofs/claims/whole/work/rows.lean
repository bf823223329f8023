section
-- ===== PART A: goes FIRST, ahead of the names: the tables' words, and 'selects' of the private methods out of them =====
/-- a private method of a class that the tables say can be made, by its rows of tables_1 -/
def lw_okq (q : MethodName × Nat) : Prop := (q.1.cls ≠ "java/lang/invoke/MethodHandle" ∧ q.1.cls ≠ "java/lang/invoke/VarHandle") ∧ Cond.instantiable q.1.cls q.2 ∈ tables_1 ∧ Cond.privateMethod q.1 ∈ tables_1 ∧ Cond.instanceMethod q.1 ∈ tables_1
theorem lw_p0 : lw_okq (⟨"LopsidedRanks", "inLine", "(I)LLopsidedRanks$Soldier;"⟩, 6) := ⟨⟨by decide +kernel, by decide +kernel⟩, List.mem_of_getElem? (i := 12) (by decide +kernel), List.mem_of_getElem? (i := 45) (by decide +kernel), List.mem_of_getElem? (i := 46) (by decide +kernel)⟩
theorem lw_p1 : lw_okq (⟨"LopsidedRanks", "tally", "(I)I"⟩, 6) := ⟨⟨by decide +kernel, by decide +kernel⟩, List.mem_of_getElem? (i := 12) (by decide +kernel), List.mem_of_getElem? (i := 62) (by decide +kernel), List.mem_of_getElem? (i := 63) (by decide +kernel)⟩
theorem lw_p2 : lw_okq (⟨"LopsidedRanks", "deepestBelow", "(LLopsidedRanks$Soldier;)I"⟩, 6) := ⟨⟨by decide +kernel, by decide +kernel⟩, List.mem_of_getElem? (i := 12) (by decide +kernel), List.mem_of_getElem? (i := 69) (by decide +kernel), List.mem_of_getElem? (i := 70) (by decide +kernel)⟩
theorem lw_p3 : lw_okq (⟨"LopsidedRanks", "smallerThan", "(I)I"⟩, 6) := ⟨⟨by decide +kernel, by decide +kernel⟩, List.mem_of_getElem? (i := 12) (by decide +kernel), List.mem_of_getElem? (i := 73) (by decide +kernel), List.mem_of_getElem? (i := 74) (by decide +kernel)⟩
theorem lw_p4 : lw_okq (⟨"LopsidedRanks", "crookedCompanies", "()I"⟩, 6) := ⟨⟨by decide +kernel, by decide +kernel⟩, List.mem_of_getElem? (i := 12) (by decide +kernel), List.mem_of_getElem? (i := 95) (by decide +kernel), List.mem_of_getElem? (i := 96) (by decide +kernel)⟩
theorem lw_p5 : lw_okq (⟨"LopsidedRanks", "tell", "(LLopsidedRanks$Soldier;I)I"⟩, 6) := ⟨⟨by decide +kernel, by decide +kernel⟩, List.mem_of_getElem? (i := 12) (by decide +kernel), List.mem_of_getElem? (i := 107) (by decide +kernel), List.mem_of_getElem? (i := 108) (by decide +kernel)⟩
theorem lw_p6 : lw_okq (⟨"java/lang/Throwable", "fillInStackTrace", "(I)Ljava/lang/Throwable;"⟩, 6) := ⟨⟨by decide +kernel, by decide +kernel⟩, List.mem_of_getElem? (i := 161) (by decide +kernel), List.mem_of_getElem? (i := 159) (by decide +kernel), List.mem_of_getElem? (i := 160) (by decide +kernel)⟩
theorem lw_p7 : lw_okq (⟨"LopsidedRanks", "find", "(I)LLopsidedRanks$Soldier;"⟩, 6) := ⟨⟨by decide +kernel, by decide +kernel⟩, List.mem_of_getElem? (i := 12) (by decide +kernel), List.mem_of_getElem? (i := 191) (by decide +kernel), List.mem_of_getElem? (i := 192) (by decide +kernel)⟩
theorem lw_p8 : lw_okq (⟨"LopsidedRanks", "insertIntoLine", "(LLopsidedRanks$Soldier;)V"⟩, 6) := ⟨⟨by decide +kernel, by decide +kernel⟩, List.mem_of_getElem? (i := 12) (by decide +kernel), List.mem_of_getElem? (i := 237) (by decide +kernel), List.mem_of_getElem? (i := 238) (by decide +kernel)⟩
theorem lw_p9 : lw_okq (⟨"LopsidedRanks", "lastOnTheWayTo", "(I)LLopsidedRanks$Soldier;"⟩, 6) := ⟨⟨by decide +kernel, by decide +kernel⟩, List.mem_of_getElem? (i := 12) (by decide +kernel), List.mem_of_getElem? (i := 241) (by decide +kernel), List.mem_of_getElem? (i := 242) (by decide +kernel)⟩
theorem lw_p10 : lw_okq (⟨"LopsidedRanks", "standBelow", "(LLopsidedRanks$Soldier;ILLopsidedRanks$Soldier;)V"⟩, 6) := ⟨⟨by decide +kernel, by decide +kernel⟩, List.mem_of_getElem? (i := 12) (by decide +kernel), List.mem_of_getElem? (i := 245) (by decide +kernel), List.mem_of_getElem? (i := 246) (by decide +kernel)⟩
theorem lw_p11 : lw_okq (⟨"LopsidedRanks", "drawUp", "(LLopsidedRanks$Soldier;)LLopsidedRanks$Soldier;"⟩, 6) := ⟨⟨by decide +kernel, by decide +kernel⟩, List.mem_of_getElem? (i := 12) (by decide +kernel), List.mem_of_getElem? (i := 259) (by decide +kernel), List.mem_of_getElem? (i := 260) (by decide +kernel)⟩
theorem lw_p12 : lw_okq (⟨"LopsidedRanks", "removeFromLine", "(LLopsidedRanks$Soldier;)V"⟩, 6) := ⟨⟨by decide +kernel, by decide +kernel⟩, List.mem_of_getElem? (i := 12) (by decide +kernel), List.mem_of_getElem? (i := 277) (by decide +kernel), List.mem_of_getElem? (i := 278) (by decide +kernel)⟩
theorem lw_p13 : lw_okq (⟨"LopsidedRanks", "removeFromRanks", "(LLopsidedRanks$Soldier;)V"⟩, 6) := ⟨⟨by decide +kernel, by decide +kernel⟩, List.mem_of_getElem? (i := 12) (by decide +kernel), List.mem_of_getElem? (i := 281) (by decide +kernel), List.mem_of_getElem? (i := 282) (by decide +kernel)⟩
theorem lw_p14 : lw_okq (⟨"LopsidedRanks", "removeWithOneSide", "(LLopsidedRanks$Soldier;)V"⟩, 6) := ⟨⟨by decide +kernel, by decide +kernel⟩, List.mem_of_getElem? (i := 12) (by decide +kernel), List.mem_of_getElem? (i := 285) (by decide +kernel), List.mem_of_getElem? (i := 286) (by decide +kernel)⟩
theorem lw_p15 : lw_okq (⟨"LopsidedRanksModel", "no", "(I)I"⟩, 13) := ⟨⟨by decide +kernel, by decide +kernel⟩, List.mem_of_getElem? (i := 391) (by decide +kernel), List.mem_of_getElem? (i := 450) (by decide +kernel), List.mem_of_getElem? (i := 451) (by decide +kernel)⟩
def lw_privs_1 : List (MethodName × Nat) := [(⟨"LopsidedRanks", "inLine", "(I)LLopsidedRanks$Soldier;"⟩, 6), (⟨"LopsidedRanks", "tally", "(I)I"⟩, 6), (⟨"LopsidedRanks", "deepestBelow", "(LLopsidedRanks$Soldier;)I"⟩, 6), (⟨"LopsidedRanks", "smallerThan", "(I)I"⟩, 6), (⟨"LopsidedRanks", "crookedCompanies", "()I"⟩, 6), (⟨"LopsidedRanks", "tell", "(LLopsidedRanks$Soldier;I)I"⟩, 6), (⟨"java/lang/Throwable", "fillInStackTrace", "(I)Ljava/lang/Throwable;"⟩, 6), (⟨"LopsidedRanks", "find", "(I)LLopsidedRanks$Soldier;"⟩, 6), (⟨"LopsidedRanks", "insertIntoLine", "(LLopsidedRanks$Soldier;)V"⟩, 6), (⟨"LopsidedRanks", "lastOnTheWayTo", "(I)LLopsidedRanks$Soldier;"⟩, 6), (⟨"LopsidedRanks", "standBelow", "(LLopsidedRanks$Soldier;ILLopsidedRanks$Soldier;)V"⟩, 6), (⟨"LopsidedRanks", "drawUp", "(LLopsidedRanks$Soldier;)LLopsidedRanks$Soldier;"⟩, 6), (⟨"LopsidedRanks", "removeFromLine", "(LLopsidedRanks$Soldier;)V"⟩, 6), (⟨"LopsidedRanks", "removeFromRanks", "(LLopsidedRanks$Soldier;)V"⟩, 6), (⟨"LopsidedRanks", "removeWithOneSide", "(LLopsidedRanks$Soldier;)V"⟩, 6), (⟨"LopsidedRanksModel", "no", "(I)I"⟩, 13)]
theorem lw_r1 : ∀ q ∈ lw_privs_1, lw_okq q := List.forall_mem_cons.mpr ⟨lw_p0, List.forall_mem_cons.mpr ⟨lw_p1, List.forall_mem_cons.mpr ⟨lw_p2, List.forall_mem_cons.mpr ⟨lw_p3, List.forall_mem_cons.mpr ⟨lw_p4, List.forall_mem_cons.mpr ⟨lw_p5, List.forall_mem_cons.mpr ⟨lw_p6, List.forall_mem_cons.mpr ⟨lw_p7, List.forall_mem_cons.mpr ⟨lw_p8, List.forall_mem_cons.mpr ⟨lw_p9, List.forall_mem_cons.mpr ⟨lw_p10, List.forall_mem_cons.mpr ⟨lw_p11, List.forall_mem_cons.mpr ⟨lw_p12, List.forall_mem_cons.mpr ⟨lw_p13, List.forall_mem_cons.mpr ⟨lw_p14, List.forall_mem_cons.mpr ⟨lw_p15, fun _ h => absurd h List.not_mem_nil⟩⟩⟩⟩⟩⟩⟩⟩⟩⟩⟩⟩⟩⟩⟩⟩
theorem lw_p16 : lw_okq (⟨"LopsidedRanksModel", "goTo", "(I)V"⟩, 13) := ⟨⟨by decide +kernel, by decide +kernel⟩, List.mem_of_getElem? (i := 391) (by decide +kernel), List.mem_of_getElem? (i := 454) (by decide +kernel), List.mem_of_getElem? (i := 455) (by decide +kernel)⟩
theorem lw_p17 : lw_okq (⟨"LopsidedRanksModel", "crookedWith", "(I)I"⟩, 13) := ⟨⟨by decide +kernel, by decide +kernel⟩, List.mem_of_getElem? (i := 391) (by decide +kernel), List.mem_of_getElem? (i := 463) (by decide +kernel), List.mem_of_getElem? (i := 464) (by decide +kernel)⟩
theorem lw_p18 : lw_okq (⟨"LopsidedRanksModel", "size", "(I)I"⟩, 13) := ⟨⟨by decide +kernel, by decide +kernel⟩, List.mem_of_getElem? (i := 391) (by decide +kernel), List.mem_of_getElem? (i := 467) (by decide +kernel), List.mem_of_getElem? (i := 468) (by decide +kernel)⟩
theorem lw_p19 : lw_okq (⟨"LopsidedRanksModel", "hang", "(III)V"⟩, 13) := ⟨⟨by decide +kernel, by decide +kernel⟩, List.mem_of_getElem? (i := 391) (by decide +kernel), List.mem_of_getElem? (i := 475) (by decide +kernel), List.mem_of_getElem? (i := 476) (by decide +kernel)⟩
theorem lw_p20 : lw_okq (⟨"LopsidedRanksModel", "drawUp", "(I)I"⟩, 13) := ⟨⟨by decide +kernel, by decide +kernel⟩, List.mem_of_getElem? (i := 391) (by decide +kernel), List.mem_of_getElem? (i := 479) (by decide +kernel), List.mem_of_getElem? (i := 480) (by decide +kernel)⟩
theorem lw_p21 : lw_okq (⟨"LopsidedRanksModel", "collect", "(I)V"⟩, 13) := ⟨⟨by decide +kernel, by decide +kernel⟩, List.mem_of_getElem? (i := 391) (by decide +kernel), List.mem_of_getElem? (i := 483) (by decide +kernel), List.mem_of_getElem? (i := 484) (by decide +kernel)⟩
theorem lw_p22 : lw_okq (⟨"LopsidedRanksModel", "halve", "(II)I"⟩, 13) := ⟨⟨by decide +kernel, by decide +kernel⟩, List.mem_of_getElem? (i := 391) (by decide +kernel), List.mem_of_getElem? (i := 487) (by decide +kernel), List.mem_of_getElem? (i := 488) (by decide +kernel)⟩
theorem lw_p23 : lw_okq (⟨"LopsidedRanksModel", "next", "(I)I"⟩, 13) := ⟨⟨by decide +kernel, by decide +kernel⟩, List.mem_of_getElem? (i := 391) (by decide +kernel), List.mem_of_getElem? (i := 495) (by decide +kernel), List.mem_of_getElem? (i := 496) (by decide +kernel)⟩
theorem lw_p24 : lw_okq (⟨"LopsidedRanksModel", "toldOf", "(II)I"⟩, 13) := ⟨⟨by decide +kernel, by decide +kernel⟩, List.mem_of_getElem? (i := 391) (by decide +kernel), List.mem_of_getElem? (i := 511) (by decide +kernel), List.mem_of_getElem? (i := 512) (by decide +kernel)⟩
theorem lw_p25 : lw_okq (⟨"LopsidedRanksModel", "deep", "(I)I"⟩, 13) := ⟨⟨by decide +kernel, by decide +kernel⟩, List.mem_of_getElem? (i := 391) (by decide +kernel), List.mem_of_getElem? (i := 515) (by decide +kernel), List.mem_of_getElem? (i := 516) (by decide +kernel)⟩
theorem lw_p26 : lw_okq (⟨"LopsidedRanksModel", "isCrooked", "(I)Z"⟩, 13) := ⟨⟨by decide +kernel, by decide +kernel⟩, List.mem_of_getElem? (i := 391) (by decide +kernel), List.mem_of_getElem? (i := 519) (by decide +kernel), List.mem_of_getElem? (i := 520) (by decide +kernel)⟩
theorem lw_p27 : lw_okq (⟨"LopsidedRanksModel", "smaller", "(I)I"⟩, 13) := ⟨⟨by decide +kernel, by decide +kernel⟩, List.mem_of_getElem? (i := 391) (by decide +kernel), List.mem_of_getElem? (i := 523) (by decide +kernel), List.mem_of_getElem? (i := 524) (by decide +kernel)⟩
theorem lw_p28 : lw_okq (⟨"LopsidedRanksModel", "counted", "(I)I"⟩, 13) := ⟨⟨by decide +kernel, by decide +kernel⟩, List.mem_of_getElem? (i := 391) (by decide +kernel), List.mem_of_getElem? (i := 548) (by decide +kernel), List.mem_of_getElem? (i := 549) (by decide +kernel)⟩
theorem lw_p29 : lw_okq (⟨"LopsidedRanksModel", "crookedIn", "(I)I"⟩, 13) := ⟨⟨by decide +kernel, by decide +kernel⟩, List.mem_of_getElem? (i := 391) (by decide +kernel), List.mem_of_getElem? (i := 552) (by decide +kernel), List.mem_of_getElem? (i := 553) (by decide +kernel)⟩
theorem lw_p30 : lw_okq (⟨"LopsidedRanksModel", "depthsIn", "(II)J"⟩, 13) := ⟨⟨by decide +kernel, by decide +kernel⟩, List.mem_of_getElem? (i := 391) (by decide +kernel), List.mem_of_getElem? (i := 568) (by decide +kernel), List.mem_of_getElem? (i := 569) (by decide +kernel)⟩
def lw_privs_2 : List (MethodName × Nat) := [(⟨"LopsidedRanksModel", "goTo", "(I)V"⟩, 13), (⟨"LopsidedRanksModel", "crookedWith", "(I)I"⟩, 13), (⟨"LopsidedRanksModel", "size", "(I)I"⟩, 13), (⟨"LopsidedRanksModel", "hang", "(III)V"⟩, 13), (⟨"LopsidedRanksModel", "drawUp", "(I)I"⟩, 13), (⟨"LopsidedRanksModel", "collect", "(I)V"⟩, 13), (⟨"LopsidedRanksModel", "halve", "(II)I"⟩, 13), (⟨"LopsidedRanksModel", "next", "(I)I"⟩, 13), (⟨"LopsidedRanksModel", "toldOf", "(II)I"⟩, 13), (⟨"LopsidedRanksModel", "deep", "(I)I"⟩, 13), (⟨"LopsidedRanksModel", "isCrooked", "(I)Z"⟩, 13), (⟨"LopsidedRanksModel", "smaller", "(I)I"⟩, 13), (⟨"LopsidedRanksModel", "counted", "(I)I"⟩, 13), (⟨"LopsidedRanksModel", "crookedIn", "(I)I"⟩, 13), (⟨"LopsidedRanksModel", "depthsIn", "(II)J"⟩, 13)]
theorem lw_r2 : ∀ q ∈ lw_privs_2, lw_okq q := List.forall_mem_cons.mpr ⟨lw_p16, List.forall_mem_cons.mpr ⟨lw_p17, List.forall_mem_cons.mpr ⟨lw_p18, List.forall_mem_cons.mpr ⟨lw_p19, List.forall_mem_cons.mpr ⟨lw_p20, List.forall_mem_cons.mpr ⟨lw_p21, List.forall_mem_cons.mpr ⟨lw_p22, List.forall_mem_cons.mpr ⟨lw_p23, List.forall_mem_cons.mpr ⟨lw_p24, List.forall_mem_cons.mpr ⟨lw_p25, List.forall_mem_cons.mpr ⟨lw_p26, List.forall_mem_cons.mpr ⟨lw_p27, List.forall_mem_cons.mpr ⟨lw_p28, List.forall_mem_cons.mpr ⟨lw_p29, List.forall_mem_cons.mpr ⟨lw_p30, fun _ h => absurd h List.not_mem_nil⟩⟩⟩⟩⟩⟩⟩⟩⟩⟩⟩⟩⟩⟩⟩
def lw_privs : List (MethodName × Nat) := lw_privs_1 ++ (lw_privs_2)
def lw_tbl : List Cond := k2_sels lw_privs ++ tables_1
theorem lw_privs_ok : ∀ q ∈ lw_privs, lw_okq q := by
  show ∀ q ∈ lw_privs_1 ++ (lw_privs_2), lw_okq q
  exact List.forall_mem_append.mpr ⟨lw_r1, lw_r2⟩
/-- the streams that the claim lets the run draw from -/
abbrev lw_cs : List Choice := [Jvm.Choice.named "NaN.bits"]
theorem lw_bits : nanBits ∈ lw_cs := by first | decide | exact List.mem_cons_self | simp [lw_cs, nanBits]
end
section
/-! ===== BEGIN words of one list among another's, by their places ===== -/
theorem goodIn_r {big : List Cond} (ws : List Cond) (ps : List Nat) (hp : ws = ps.filterMap (fun i => big[i]?)) (h : ws.all goodWord = true) : GoodIn big ws := by
  intro w hw
  have h1 := List.all_eq_true.mp h w hw
  rw [hp] at hw
  obtain ⟨i, -, hi⟩ := List.mem_filterMap.mp hw
  have hm : w ∈ big := by first | exact List.mem_of_getElem? hi | exact List.getElem?_mem hi
  exact ⟨hm, good_of_word h1⟩
theorem goodIn_app {big a b : List Cond} (ha : GoodIn big a) (hb : GoodIn big b) : GoodIn big (a ++ b) := fun w h => (List.mem_append.mp h).elim (ha w) (hb w)
theorem goodIn_ca {big a b : List Cond} {c : Cond} (ha : GoodIn big (c :: a)) (hb : GoodIn big b) : GoodIn big (c :: (a ++ b)) := fun w h => (List.mem_cons.mp h).elim (fun e => ha w (List.mem_cons.mpr (Or.inl e))) (fun h => (List.mem_append.mp h).elim (fun h => ha w (List.mem_cons.mpr (Or.inr h))) (hb w))
theorem goodIn_sub {big ws : List Cond} (hm : ∀ w ∈ ws, w ∈ big) (h : ws.all goodWord = true) : GoodIn big ws := fun w hw => ⟨hm w hw, good_of_word (List.all_eq_true.mp h w hw)⟩
/-! ===== END ===== -/

/-! ===== BEGIN exceptions that leave a method, and their catching by the caller (launches without stack traces) ===== -/
section VXA
/-! The laws vx_back, vx_callV, vx_callS, vx_callSW, vx_throw0, vx_throwS follow proofs of the library, with one case more: JvmDerived/Free/Laws.lean (Back.of_free), Shelf42/LK1.lean (callV, callS), Shelf/KitTraced.lean (throwNew0V, throwNewS). -/
/-- where a method has thrown q: the class by its name, the cell, what was written, the world -/
def vx_T (XC : String → State → State → Prop) (st : State) (q : Addr) (t : State) (mc ms : Nat) (free : Addr → Prop) : Prop :=
  ∃ (E : String) (ce : Cell) (L : List Loc), XC E st t ∧ t.heap[q]? = some ce ∧ ce.vm = .none ∧ st.vm.findClass E = some ce.cls ∧ st.WarmedH t.vm ∧ st.sameButNew ({ t with vm := st.vm } : State) L mc ms ∧ ∀ z ∈ L, free z.base
def vx_Q (Qc : Array Value → State → Outcome → State → Prop) (XC : String → State → State → Prop) (mc ms : Nat) (free : Addr → Prop) : Array Value → State → Outcome → State → Prop := fun a st o t =>
  (Qc a st o t ∧ ∃ L, FrameEnd st o t L mc ms ∧ ∀ q ∈ L, free q.base) ∨ ∃ q, o = .threw q ∧ vx_T XC st q t mc ms free
/-- a callee that returns or throws -/
def vx_Met (l : Launch) (y : MethodName) (ws : List Cond) (rm : Room) (Pc : Array Value → State → Prop) (Qc : Array Value → State → Outcome → State → Prop) (XC : String → State → State → Prop) (mc ms : Nat) (free : Addr → Prop) : Prop :=
  MetFree l y (headSpec ws rm) Pc (fun _ _ _ _ _ => True) (vx_Q Qc XC mc ms free)
def vx_Post (XC : String → State → State → Prop) (mc ms : Nat) (free : Addr → Prop) : Pt → Array Value → Addr → Pt → Prop := fun A a q B =>
  ∃ (g : JFrame) (mk : MethodId) (t : State) (L : List Loc) (E : String) (ce : Cell), B.U.heap = t.heap ∧ B.U.vm = t.vm ∧ XC E (A.U.calling g mk a) t ∧ t.heap[q]? = some ce ∧ ce.vm = .none ∧ A.U.vm.findClass E = some ce.cls ∧ B.locs = A.locs ++ L ∧ (∀ z ∈ L, free z.base) ∧ B.cells = A.cells + mc ∧ B.slots = A.slots + ms
def vx_Back (l : Launch) (R : Room) (p : Program) (e : Env) (below : List Frame) (s : State) (sargs : Array Value) (y : MethodName) (len W9 : Nat)
    (Pre : Pt → Array Value → Prop) (Post : Pt → Array Value → Option Value → Pt → Prop) (PostX : Pt → Array Value → Addr → Pt → Prop) : Prop :=
  ∀ (m : MethodId) (meth : Method) (c : Code) (A : Pt) (g : JFrame) (ig : Instr) (mk : MethodId) (a : Array Value),
    Stand p l e R s m sargs below meth c A.U A.locs A.cells A.slots → g.method = m → g.locals.size = c.maxLocals → decode c.code g.pc = .ok (ig, len) →
    2 * g.monitorRoom + (g.stack.map fun v => v.category).sum ≤ W9 → A.U.methodNamed? y = some mk → Pre A a →
    (∃ (v : Option Value) (B : Pt), Stand p l e R s m sargs below meth c B.U B.locs B.cells B.slots ∧ Post A a v B ∧
      Steps p.tables e below (doInvoke e (A.U.setTop g) [] mk a).1 (B.U.setTop { g with pc := g.pc + len, stack := v.toList ++ g.stack })) ∨
    (∃ (q : Addr) (B : Pt), Stand p l e R s m sargs below meth c B.U B.locs B.cells B.slots ∧ PostX A a q B ∧
      Steps p.tables e below (doInvoke e (A.U.setTop g) [] mk a).1 ((B.U.setTop g).pushFrame (.throwing q)))
section Payer
variable {l : Launch} {R : Room} {p : Program} {e : Env} {below : List Frame} {s : State} {sargs : Array Value} {y : MethodName} {len W9 : Nat}
theorem vx_back {ws : List Cond} {rm : Room} {Pc : Array Value → State → Prop} {Qc : Array Value → State → Outcome → State → Prop} {XC : String → State → State → Prop} {mc ms : Nat} {free : Addr → Prop} {bytes : ByteArray} {maxL : Nat} {ret : Option FieldType}
    (hM : vx_Met l y ws rm Pc Qc XC mc ms free) (hblind : FrameBlind Pc) (hrc : rm.cells = mc) (hrs : rm.slots = ms)
    (hframes : rm.frames + 1 ≤ R.frames) (hlocals : W9 + (maxL + 11) + rm.locals ≤ R.locals)
    (hws : ∀ w ∈ ws, ∀ a' U, s.WarmedH U.vm → w.before a' U = true) (hcode : Cond.code y bytes maxL ret ∈ ws) (hinit : ∀ a' U, s.WarmedH U.vm → (Cond.initialized y.cls).before a' U = true) :
    vx_Back l R p e below s sargs y len W9 (PreOf R mc ms Pc) (PostOf Qc mc ms free) (vx_Post XC mc ms free) := by
  intro m meth c A g ig mk a X hg hsize hdg hW hn hp
  have h1 : (headSpec ws rm).pre.before a A.U = true := atoms_intro fun w hw => hws w hw _ _ X.warmed
  have h2 : (Cond.code y bytes maxL ret).before a A.U = true := hws _ hcode _ _ X.warmed
  have h3 : (Cond.initialized y.cls).before a A.U = true := hinit _ _ X.warmed
  have h4 : A.cells + (headSpec ws rm).room.cells ≤ R.cells := by rw [show (headSpec ws rm).room.cells = mc from hrc]; exact hp.1
  have h5 : A.slots + (headSpec ws rm).room.slots ≤ R.slots := by rw [show (headSpec ws rm).room.slots = ms from hrs]; exact hp.2.1
  have hPc : Pc a (A.U.calling g mk a) := hblind _ _ _ _ hp.2.2
  obtain ⟨U, Ls, c0, s0⟩ := A
  dsimp only [Pt.U, Pt.locs, Pt.cells, Pt.slots] at h1 h2 h3 h4 h5 X hn hPc ⊢
  obtain ⟨methY, cY, hmY, hcY, -, hlY, -, -, -, -⟩ := Cond.code_spec hn h2
  obtain ⟨kY, hkY, -⟩ := className_of_methodNamed hn
  have hinitY : kY.init = .initialized := Cond.initialized_spec (findClass_of_methodNamed hn) hkY h3
  have h : At U g.method c below := by rw [hg]; exact X.here
  have hlocals9 : W9 + (maxL + 11) + (headSpec ws rm).room.locals ≤ R.locals := hlocals
  have happ : (headSpec ws rm).appliesLoose y e.platform (U.calling g mk a) = true :=
    Spec.appliesLoose_calling (g := g) h hdg hn hkY hinitY
      (X.room_calling (g := g) (R' := (headSpec ws rm).room) hsize hmY hcY hframes (by rw [hlY]; omega) h4 h5) h1
  obtain ⟨mid, hmid⟩ := h.above
  have hfr : (U.setTop g).frames = (.java g :: mid) ++ below := by rw [State.frames_setTop' g h.top, hmid]; rfl
  obtain ⟨o, s₂, hsteps, -, hend, hq⟩ := Steps.callFree hM p X.admits X.cas X.clock (acts := []) hfr happ hPc trivial
  have hq' : vx_Q Qc XC mc ms free a (U.calling g mk a) o s₂ := hq
  rw [State.frames_setTop' g h.top] at hend
  obtain ⟨g₀, hg0⟩ := Option.isSome_iff_exists.mp h.top
  obtain ⟨r, hr⟩ := State.topJava?_eq_some.mp hg0
  have hr' : (({ U with heap := s₂.heap, slotsUsed := s₂.slotsUsed } : State).setVm s₂.vm).frames = .java g₀ :: r := hr
  rcases hq' with ⟨hqc, L, hfe, hL⟩ | ⟨q, rfl, E, ce, L, hx, hce, hcv, hcl, hW₂, hsm, hL⟩
  · obtain ⟨⟨v, rfl⟩, hW₂, e2, q2, q3, q4, q5, q6⟩ := id hfe
    have e3 : s₂ = ({ (U.calling g mk a).setFrames s₂.frames with heap := s₂.heap, slotsUsed := s₂.slotsUsed } : State).setVm s₂.vm := by
      have : s₂ = ({ s₂ with vm := (U.calling g mk a).vm } : State).setVm s₂.vm := rfl
      rw [e2] at this
      exact this
    obtain ⟨c₂, i₂, len₂, hc₂, hd₂, hf₂⟩ := hend
    have hW' : U.WarmedH s₂.vm := hW₂
    have hcc : c₂ = c := by
      have h1 : s₂.code? g.method = U.code? g.method := by
        rw [State.code?_eq, State.code?_eq, hW'.alike.method?]
      exact Option.some.inj (hc₂.symm.trans (h1.trans h.code))
    subst hcc
    have hlen : len₂ = len := by rw [hdg] at hd₂; cases hd₂; rfl
    subst hlen
    have hs₂ : s₂ = (({ U with heap := s₂.heap, slotsUsed := s₂.slotsUsed } : State).setVm s₂.vm).setTop { g with pc := g.pc + len₂, stack := v.toList ++ g.stack } := by
      refine e3.trans ?_
      rw [hf₂, State.calling_eq h.top, State.setFrames_setFrames, State.setTop_of_frames _ hr', hr]
      rfl
    have hsame : U.sameButNew ({ U with heap := s₂.heap, slotsUsed := s₂.slotsUsed } : State) L mc ms := by
      refine ⟨?_, q2, q3, q4, q5, q6⟩
      obtain ⟨t, ht, -⟩ := State.frames_cons hr
      show ({ U with heap := s₂.heap, slotsUsed := s₂.slotsUsed } : State) = { U.setFrames U.frames with heap := s₂.heap, slotsUsed := s₂.slotsUsed }
      rw [State.setFrames_self ht]
    subst hg
    refine Or.inl ⟨v, ⟨(({ U with heap := s₂.heap, slotsUsed := s₂.slotsUsed } : State).setVm s₂.vm), Ls ++ L, c0 + mc, s0 + ms⟩,
      ⟨X.admits, X.cas, X.clock, X.frames, X.room, X.hears, X.method, X.code, (X.here.setHeapUsed s₂.heap s₂.slotsUsed).setVm hW'.alike, X.tail, State.WarmedH.trans X.warmed hW', X.limits, X.bytes, X.same.trans (hsame.setVm s.vm)⟩,
      ⟨g, mk, s₂, L, rfl, rfl, hqc, rfl, hL, rfl, rfl⟩, ?_⟩
    show Steps p.tables e below _ ((({ U with heap := s₂.heap, slotsUsed := s₂.slotsUsed } : State).setVm s₂.vm).setTop { g with pc := g.pc + len₂, stack := v.toList ++ g.stack })
    rw [← hs₂]
    exact hsteps
  · obtain ⟨e2, q2, q3, q4, q5, q6⟩ := id hsm
    have e3 : s₂ = ({ (U.calling g mk a).setFrames s₂.frames with heap := s₂.heap, slotsUsed := s₂.slotsUsed } : State).setVm s₂.vm := by
      have : s₂ = ({ s₂ with vm := (U.calling g mk a).vm } : State).setVm s₂.vm := rfl
      rw [e2] at this
      exact this
    have hf₂ : s₂.frames = .throwing q :: .java g :: U.frames.tail := hend
    have hW' : U.WarmedH s₂.vm := hW₂
    have hs₂ : s₂ = ((({ U with heap := s₂.heap, slotsUsed := s₂.slotsUsed } : State).setVm s₂.vm).setTop g).pushFrame (.throwing q) := by
      refine e3.trans ?_
      rw [hf₂, State.calling_eq h.top, State.setFrames_setFrames, State.pushFrame, State.frames_setTop _ hr', State.setTop_of_frames _ hr', State.setFrames_setFrames, hr]
      rfl
    have hsame : U.sameButNew ({ U with heap := s₂.heap, slotsUsed := s₂.slotsUsed } : State) L mc ms := by
      refine ⟨?_, q2, q3, q4, q5, q6⟩
      obtain ⟨t, ht, -⟩ := State.frames_cons hr
      show ({ U with heap := s₂.heap, slotsUsed := s₂.slotsUsed } : State) = { U.setFrames U.frames with heap := s₂.heap, slotsUsed := s₂.slotsUsed }
      rw [State.setFrames_self ht]
    subst hg
    refine Or.inr ⟨q, ⟨(({ U with heap := s₂.heap, slotsUsed := s₂.slotsUsed } : State).setVm s₂.vm), Ls ++ L, c0 + mc, s0 + ms⟩,
      ⟨X.admits, X.cas, X.clock, X.frames, X.room, X.hears, X.method, X.code, (X.here.setHeapUsed s₂.heap s₂.slotsUsed).setVm hW'.alike, X.tail, State.WarmedH.trans X.warmed hW', X.limits, X.bytes, X.same.trans (hsame.setVm s.vm)⟩,
      ⟨g, mk, s₂, L, E, ce, rfl, rfl, hx, hce, hcv, hcl, rfl, hL, rfl, rfl⟩, ?_⟩
    show Steps p.tables e below _ (((({ U with heap := s₂.heap, slotsUsed := s₂.slotsUsed } : State).setVm s₂.vm).setTop g).pushFrame (.throwing q))
    rw [← hs₂]
    exact hsteps
end Payer
section Calls
variable {p : Program} {l : Launch} {e : Env} {R : Room} {s : State} {m : MethodId} {args : Array Value} {below : List Frame} {meth : Method} {c : Code} {T : State} {locs : List Loc} {cells slots : Nat}
theorem vx_callV (X : Stand p l e R s m args below meth c T locs cells slots) (hexec : p.tables.exec = Jvm.exec) {own C : String} {index : Nat} {y : MethodName} {bytes : ByteArray} {maxL : Nat} {ret : Option FieldType}
    (hown : s.vm.findClass own = some m.cls) (hlink : (Cond.methodLink own index y).before args s = true) (hinst : (Cond.instanceMethod y).before args s = true) (hsel : (Cond.selects C y y).before args s = true)
    (hcode : (Cond.code y bytes maxL ret).before args s = true) (hy : y.cls ≠ "java/lang/invoke/MethodHandle" ∧ y.cls ≠ "java/lang/invoke/VarHandle")
    {W9 : Nat} {Pre : Pt → Array Value → Prop} {Post : Pt → Array Value → Option Value → Pt → Prop} {PostX : Pt → Array Value → Addr → Pt → Prop} (hK : vx_Back l R p e below s args y 3 W9 Pre Post PostX)
    {b : Addr} {cellB : Cell} (hcell : T.heap[b]? = some cellB) (hobj : cellB.vm.isStatics = false) (hcls : s.vm.findClass C = some cellB.cls)
    {g : JFrame} (hg : g.method = m) (hsize : g.locals.size = c.maxLocals) {argsL rest : List Value} (hlen : ∀ sig, parseMethodDescriptor y.desc = some sig → argsL.length = sig.parameters.length)
    (hstack : g.stack = argsL.reverse ++ .ref b :: rest) (hW : 2 * g.monitorRoom + (rest.map fun v => v.category).sum ≤ W9) (hdg : decode c.code g.pc = .ok (.invokevirtual index, 3))
    (hpre : ∀ vm₁, s.WarmedH vm₁ → Pre ⟨T.setVm vm₁, locs, cells, slots⟩ (Value.ref b :: argsL).toArray) :
    (∃ (v : Option Value) (vm₁ : Vm) (B : Pt), s.WarmedH vm₁ ∧ Stand p l e R s m args below meth c B.U B.locs B.cells B.slots ∧ Post ⟨T.setVm vm₁, locs, cells, slots⟩ (Value.ref b :: argsL).toArray v B ∧
      ∀ target, Steps p.tables e below (B.U.setTop { g with pc := g.pc + 3, stack := v.toList ++ rest }) target → Steps p.tables e below (T.setTop g) target) ∨
    (∃ (q : Addr) (vm₁ : Vm) (B : Pt), s.WarmedH vm₁ ∧ Stand p l e R s m args below meth c B.U B.locs B.cells B.slots ∧ PostX ⟨T.setVm vm₁, locs, cells, slots⟩ (Value.ref b :: argsL).toArray q B ∧
      Steps p.tables e below (T.setTop g) ((B.U.setTop { g with stack := rest }).pushFrame (.throwing q))) := by
  obtain ⟨mk, methM, hnamed, hmethM, hstM, habM⟩ := Cond.instanceMethod_spec hinst
  obtain ⟨methM', cM, hmethM', -, -, -, -, -, -, hsigM⟩ := Cond.code_spec hnamed hcode
  cases hmethM.symm.trans hmethM'
  obtain ⟨c2, r2, m2, q1, q2, q3, q4, kP, hkP, hkPi⟩ := Cond.selects_spec hsel
  cases hcls.symm.trans q1
  cases (State.methodFound?_of_named hnamed hy).symm.trans q2
  cases hnamed.symm.trans q3
  have hselP : selectMethod e.platform s.vm cellB.cls mk = .method mk := by rw [Launch.admits_selectMethod X.admits]; exact q4
  obtain ⟨vm₁, X₁, hstep₁⟩ := X.invokevirtual hexec hown hlink hnamed hmethM hstM hkP hkPi hy (a := b) (cell := cellB) hcell
    (fun z h => by rw [h] at hobj; cases hobj) hselP hmethM habM hkP hkPi (g := g) hg (argsL := argsL) (rest := rest) (hlen _ hsigM) hstack hdg
  rcases hK m meth c ⟨T.setVm vm₁, locs, cells, slots⟩ { g with stack := rest } (.invokevirtual index) mk (Value.ref b :: argsL).toArray X₁ hg hsize hdg hW (X₁.named hnamed) (hpre vm₁ X₁.warmed) with ⟨v, B, X', hpost, hsteps⟩ | ⟨q, B, X', hpost, hsteps⟩
  · exact Or.inl ⟨v, vm₁, B, X₁.warmed, X', hpost, fun target h => hstep₁ _ fun acts => by rw [doInvoke_state]; exact hsteps.trans h⟩
  · exact Or.inr ⟨q, vm₁, B, X₁.warmed, X', hpost, hstep₁ _ fun acts => by rw [doInvoke_state]; exact hsteps⟩
theorem vx_callS (X : Stand p l e R s m args below meth c T locs cells slots) (hexec : p.tables.exec = Jvm.exec) {own : String} {index : Nat} {y : MethodName} {bytes : ByteArray} {maxL : Nat} {ret : Option FieldType}
    (hown : s.vm.findClass own = some m.cls) (hlink : (Cond.methodLink own index y).before args s = true) (hstat : (Cond.static y).before args s = true) (hinit : (Cond.initialized y.cls).before args s = true)
    (hcode : (Cond.code y bytes maxL ret).before args s = true) (hy : y.cls ≠ "java/lang/invoke/MethodHandle" ∧ y.cls ≠ "java/lang/invoke/VarHandle")
    {W9 : Nat} {Pre : Pt → Array Value → Prop} {Post : Pt → Array Value → Option Value → Pt → Prop} {PostX : Pt → Array Value → Addr → Pt → Prop} (hK : vx_Back l R p e below s args y 3 W9 Pre Post PostX)
    {g : JFrame} (hg : g.method = m) (hsize : g.locals.size = c.maxLocals) {argsL rest : List Value} (hlen : ∀ sig, parseMethodDescriptor y.desc = some sig → argsL.length = sig.parameters.length)
    (hstack : g.stack = argsL.reverse ++ rest) (hW : 2 * g.monitorRoom + (rest.map fun v => v.category).sum ≤ W9) (hdg : decode c.code g.pc = .ok (.invokestatic index, 3))
    (hpre : ∀ vm₁, s.WarmedH vm₁ → Pre ⟨T.setVm vm₁, locs, cells, slots⟩ argsL.toArray) :
    (∃ (v : Option Value) (vm₁ : Vm) (B : Pt), s.WarmedH vm₁ ∧ Stand p l e R s m args below meth c B.U B.locs B.cells B.slots ∧ Post ⟨T.setVm vm₁, locs, cells, slots⟩ argsL.toArray v B ∧
      ∀ target, Steps p.tables e below (B.U.setTop { g with pc := g.pc + 3, stack := v.toList ++ rest }) target → Steps p.tables e below (T.setTop g) target) ∨
    (∃ (q : Addr) (vm₁ : Vm) (B : Pt), s.WarmedH vm₁ ∧ Stand p l e R s m args below meth c B.U B.locs B.cells B.slots ∧ PostX ⟨T.setVm vm₁, locs, cells, slots⟩ argsL.toArray q B ∧
      Steps p.tables e below (T.setTop g) ((B.U.setTop { g with stack := rest }).pushFrame (.throwing q))) := by
  obtain ⟨mk, hnamed⟩ := Cond.code_named hcode
  obtain ⟨methM, cM, hmethM, -, -, -, -, -, -, hsigM⟩ := Cond.code_spec hnamed hcode
  have hstatic : methM.isStatic = true := Cond.static_spec hnamed hmethM hstat
  obtain ⟨kP, hkP, -⟩ := className_of_methodNamed hnamed
  have hinitP : kP.init = .initialized := Cond.initialized_spec (findClass_of_methodNamed hnamed) hkP hinit
  obtain ⟨vm₁, X₁, hstep₁⟩ := X.invokestatic hexec hown hlink hnamed hmethM hstatic hkP hinitP hy (g := g) hg (argsL := argsL) (rest := rest) (hlen _ hsigM) hstack hdg
  rcases hK m meth c ⟨T.setVm vm₁, locs, cells, slots⟩ { g with stack := rest } (.invokestatic index) mk argsL.toArray X₁ hg hsize hdg hW (X₁.named hnamed) (hpre vm₁ X₁.warmed) with ⟨v, B, X', hpost, hsteps⟩ | ⟨q, B, X', hpost, hsteps⟩
  · exact Or.inl ⟨v, vm₁, B, X₁.warmed, X', hpost, fun target h => hstep₁ _ fun acts => by rw [doInvoke_state]; exact hsteps.trans h⟩
  · exact Or.inr ⟨q, vm₁, B, X₁.warmed, X', hpost, hstep₁ _ fun acts => by rw [doInvoke_state]; exact hsteps⟩
end Calls
theorem vx_cls {s : State} {T : State} {vm₁ : Vm} {E : String} {k : ClassId} (hW : s.WarmedH vm₁) (h : (T.setVm vm₁).vm.findClass E = some k) : s.vm.findClass E = some k := by
  have h1 : vm₁.findClass E = some k := h
  rw [hW.alike.findClass] at h1
  exact h1
/-- the method's frame g, with q thrown over it -/
def vx_W (p : Program) (l : Launch) (e : Env) (R : Room) (s : State) (m : MethodId) (args : Array Value) (below : List Frame) (meth : Method) (c : Code) (H : Heap) (locs : List Loc) (cells slots : Nat) (Q : State → Prop) (g : JFrame) (q : Addr) : Prop :=
  ∀ T : State, T.heap = H → Stand p l e R s m args below meth c T locs cells slots → ∃ t, Steps p.tables e below ((T.setTop g).pushFrame (.throwing q)) t ∧ Q t
def vx_Run (p : Program) (l : Launch) (e : Env) (R : Room) (s : State) (m : MethodId) (args : Array Value) (below : List Frame) (meth : Method) (c : Code) (H : Heap) (locs : List Loc) (cells slots mc ms : Nat) (g : JFrame) (rest : List Value) (Qa : State → Outcome → State → Prop) (XC : String → State → State → Prop) (free : Addr → Prop) : Prop :=
  ∀ T : State, T.heap = H → Stand p l e R s m args below meth c T locs cells slots →
    (∃ (v : Option Value) (st₀ t T' : State) (L : List Loc), st₀.heap = H ∧ Stand p l e R s m args below meth c T' (locs ++ L) (cells + mc) (slots + ms) ∧ (∀ q ∈ L, free q.base) ∧ T'.heap = t.heap ∧ T'.vm = t.vm ∧ Qa st₀ (.returned v) t ∧
      Goes p e below T g T' { g with pc := g.pc + 3, stack := v.toList ++ rest }) ∨
    (∃ (q : Addr) (st₀ t T' : State) (L : List Loc) (E : String) (ce : Cell), st₀.heap = H ∧ Stand p l e R s m args below meth c T' (locs ++ L) (cells + mc) (slots + ms) ∧ (∀ z ∈ L, free z.base) ∧ T'.heap = t.heap ∧ T'.vm = t.vm ∧ XC E st₀ t ∧ t.heap[q]? = some ce ∧ ce.vm = .none ∧ s.vm.findClass E = some ce.cls ∧
      Steps p.tables e below (T.setTop g) ((T'.setTop { g with stack := rest }).pushFrame (.throwing q)))
def vx_X {S : Type} (px : S → Prop) (B : String → S → State → Prop) (A : Nat → Prop) : String → State → State → Prop := fun E st t => ∃ u : S, px u ∧ B E u t ∧ va_F A st t
section Runs
variable {p : Program} {l : Launch} {e : Env} {R : Room} {s : State} {m : MethodId} {args : Array Value} {below : List Frame} {meth : Method} {c : Code} {H : Heap} {locs : List Loc} {cells slots : Nat}
variable {y : MethodName} {bytes cc : ByteArray} {maxL nL mc ms n index : Nat} {ret : Option FieldType} {ws : List Cond} {rm : Room} {Pc : Array Value → State → Prop} {Qc : Array Value → State → Outcome → State → Prop} {XC : String → State → State → Prop} {free : Addr → Prop} {Ts : List Cond} {own C : String} {b : Addr} {As rest : List Value} {g : JFrame}
theorem vx_callBack (cb : CallB R s args own index y bytes maxL ret ws rm mc ms n) (hM : vx_Met l y ws rm Pc Qc XC mc ms free) (hbl : FrameBlind Pc) : vx_Back l R p e below s args y 3 8 (PreOf R mc ms Pc) (PostOf Qc mc ms free) (vx_Post XC mc ms free) := by
  obtain ⟨hrc, hrs, hfr, hlo, hws, hcw, -, hini, -⟩ := cb
  exact vx_back (bytes := bytes) (maxL := maxL) (ret := ret) hM hbl hrc hrs hfr hlo hws hcw (fun a' U hW => word_at hW (Or.inl (by first | rfl | simp [Cond.onTables, Cond.keeps, Cond.steady])) hini)
theorem vx_runV (S : CallFix p m c cc nL s args Ts own) (hM : vx_Met l y ws rm Pc Qc XC mc ms free) (cw : CallW R s args own C index y bytes maxL ret ws rm mc ms n) (hp : PreV s H C b Pc As)
    (hg : g.method = m) (hn : As.length = n) (hsize : g.locals.size = nL) (hstack : g.stack = As.reverse ++ .ref b :: rest) (hW : 2 * g.monitorRoom + (rest.map fun v => v.category).sum ≤ 8) (hdg : decode cc g.pc = .ok (.invokevirtual index, 3)) (hf : cells + mc ≤ R.cells ∧ slots + ms ≤ R.slots) :
    vx_Run p l e R s m args below meth c H locs cells slots mc ms g rest (Qc (Value.ref b :: As).toArray) XC free := by
  have hK : vx_Back l R p e below s args y 3 8 (PreOf R mc ms Pc) (PostOf Qc mc ms free) (vx_Post XC mc ms free) := vx_callBack cw.1 hM hp.1
  obtain ⟨⟨-, -, -, -, -, -, hcode, -, hy, hlen, hl⟩, hin, hse⟩ := cw
  obtain ⟨hx, hb, hml, ho, -⟩ := S
  obtain ⟨-, ⟨cellB, hcB, hoB, hclB⟩, hPc⟩ := hp
  intro T hT X
  rcases vx_callV X hx (C := C) (bytes := bytes) (maxL := maxL) (ret := ret) ho hl hin hse hcode hy hK (by rw [hT]; exact hcB) hoB hclB hg (hsize.trans hml.symm) (argsL := As) (rest := rest) (fun sig h => hn.trans (hlen sig h)) hstack hW (by rw [hb]; exact hdg)
    (fun vm₁ hW₁ => ⟨hf.1, hf.2, hPc (T.setVm vm₁) hT hW₁⟩) with ⟨v, vm₁, ⟨U', l2, c2, s2⟩, hW₁, X', ⟨g', mk, t, L, e1, e2, hq, h1, hL, h2, h3⟩, st⟩ | ⟨q, vm₁, ⟨U', l2, c2, s2⟩, hW₁, X', ⟨g', mk, t, L, E, ce, e1, e2, hq, hce, hcv, hcl, h1, hL, h2, h3⟩, st⟩
  · dsimp only [Pt.U, Pt.locs, Pt.cells, Pt.slots] at X' e1 e2 h1 h2 h3 st
    subst h1; subst h2; subst h3
    exact Or.inl ⟨v, (T.setVm vm₁).calling g' mk (Value.ref b :: As).toArray, t, U', L, hT, X', hL, e1, e2, hq, st⟩
  · dsimp only [Pt.U, Pt.locs, Pt.cells, Pt.slots] at X' e1 e2 h1 h2 h3 st hcl
    subst h1; subst h2; subst h3
    exact Or.inr ⟨q, (T.setVm vm₁).calling g' mk (Value.ref b :: As).toArray, t, U', L, E, ce, hT, X', hL, e1, e2, hq, hce, hcv, vx_cls hW₁ hcl, st⟩
theorem vx_runS (S : CallFix p m c cc nL s args Ts own) (hM : vx_Met l y ws rm Pc Qc XC mc ms free) (cw : CallB R s args own index y bytes maxL ret ws rm mc ms n ∧ (Cond.static y).before args s = true) (hp : PreS s H Pc As)
    (hg : g.method = m) (hn : As.length = n) (hsize : g.locals.size = nL) (hstack : g.stack = As.reverse ++ rest) (hW : 2 * g.monitorRoom + (rest.map fun v => v.category).sum ≤ 8) (hdg : decode cc g.pc = .ok (.invokestatic index, 3)) (hf : cells + mc ≤ R.cells ∧ slots + ms ≤ R.slots) :
    vx_Run p l e R s m args below meth c H locs cells slots mc ms g rest (Qc As.toArray) XC free := by
  have hK : vx_Back l R p e below s args y 3 8 (PreOf R mc ms Pc) (PostOf Qc mc ms free) (vx_Post XC mc ms free) := vx_callBack cw.1 hM hp.1
  obtain ⟨⟨-, -, -, -, -, -, hcode, hini, hy, hlen, hl⟩, hstt⟩ := cw
  obtain ⟨hx, hb, hml, ho, -⟩ := S
  intro T hT X
  rcases vx_callS X hx (bytes := bytes) (maxL := maxL) (ret := ret) ho hl hstt hini hcode hy hK hg (hsize.trans hml.symm) (argsL := As) (rest := rest) (fun sig h => hn.trans (hlen sig h)) hstack hW (by rw [hb]; exact hdg)
    (fun vm₁ hW₁ => ⟨hf.1, hf.2, hp.2 (T.setVm vm₁) hT hW₁⟩) with ⟨v, vm₁, ⟨U', l2, c2, s2⟩, hW₁, X', ⟨g', mk, t, L, e1, e2, hq, h1, hL, h2, h3⟩, st⟩ | ⟨q, vm₁, ⟨U', l2, c2, s2⟩, hW₁, X', ⟨g', mk, t, L, E, ce, e1, e2, hq, hce, hcv, hcl, h1, hL, h2, h3⟩, st⟩
  · dsimp only [Pt.U, Pt.locs, Pt.cells, Pt.slots] at X' e1 e2 h1 h2 h3 st
    subst h1; subst h2; subst h3
    exact Or.inl ⟨v, (T.setVm vm₁).calling g' mk As.toArray, t, U', L, hT, X', hL, e1, e2, hq, st⟩
  · dsimp only [Pt.U, Pt.locs, Pt.cells, Pt.slots] at X' e1 e2 h1 h2 h3 st hcl
    subst h1; subst h2; subst h3
    exact Or.inr ⟨q, (T.setVm vm₁).calling g' mk As.toArray, t, U', L, E, ce, hT, X', hL, e1, e2, hq, hce, hcv, vx_cls hW₁ hcl, st⟩
end Runs
section Rows
variable {p : Program} {l : Launch} {e : Env} {R : Room} {s : State} {m : MethodId} {args : Array Value} {below : List Frame} {meth : Method} {c : Code} {H : Heap} {locs : List Loc} {cells slots : Nat} {Q : State → Prop}
variable {mc ms : Nat} {free : Addr → Prop} {A0 A1 : Nat → Prop} {H0 : Heap} {a : Array Value} {pc : Nat} {ls : Array Slot} {st0 rest : List Value}
theorem vx_keep {st₀ t T' : State} {L : List Loc} (h0 : st₀.heap = H) (e1 : T'.heap = t.heap) (hS : va_S A0 H0 H locs) (hA : ∀ q, q < H.size → A1 q → A0 q) (hf : ∀ q, free q → A0 q) (hL : ∀ q ∈ L, free q.base) (hF : va_F A1 st₀ t) :
    H.size ≤ T'.heap.size ∧ (∀ q : Nat, q < H.size → ¬ A1 q → T'.heap[q]? = H[q]?) ∧ va_S A0 H0 T'.heap (locs ++ L) := by
  obtain ⟨hz, hk⟩ := hF
  rw [h0] at hz hk
  exact ⟨by rw [e1]; exact hz, fun q h1 h2 => by rw [e1]; exact hk q h1 h2,
    ⟨Nat.le_trans hS.1 (by rw [e1]; exact hz), fun q h1 h2 => by rw [e1, hk q (Nat.lt_of_lt_of_le h1 hS.1) (fun z => h2 (hA q (Nat.lt_of_lt_of_le h1 hS.1) z))]; exact hS.2.1 q h1 h2, fun q hq => by
      rcases List.mem_append.mp hq with h | h
      · exact hS.2.2 q h
      · exact hf _ (hL q h)⟩⟩
theorem vx_calli {S SX : Type} {post : Int32 → S → Prop} {px : SX → Prop} {B : S → State → Prop} {BX : String → SX → State → Prop} {AX : Nat → Prop} (hr : vx_Run p l e R s m args below meth c H locs cells slots mc ms (F0 m pc ls st0) rest (va_Qi post B A1 a) (vx_X px BX AX) free) (hS : va_S A0 H0 H locs) (hA : ∀ q, q < H.size → A1 q → A0 q) (hf : ∀ q, free q → A0 q) (hAX : ∀ q, q < H.size → AX q → A0 q)
    (kx : ∀ (E : String) (ce : Cell) (q9 : Addr) (u : SX) (t : State) (H1 : Heap) (locs1 : List Loc), t.heap = H1 → s.vm.Alike t.vm → px u → BX E u t → H.size ≤ H1.size → (∀ q : Nat, q < H.size → ¬ AX q → H1[q]? = H[q]?) → va_S A0 H0 H1 locs1 → H1[q9]? = some ce → ce.vm = .none → s.vm.findClass E = some ce.cls → vx_W p l e R s m args below meth c H1 locs1 (cells + mc) (slots + ms) Q (F0 m pc ls rest) q9)
    (kk : ∀ (r : Int32) (u : S) (t : State) (H1 : Heap) (locs1 : List Loc), t.heap = H1 → s.vm.Alike t.vm → post r u → B u t → H.size ≤ H1.size → (∀ q : Nat, q < H.size → ¬ A1 q → H1[q]? = H[q]?) → va_S A0 H0 H1 locs1 → W p l e R s m args below meth c H1 locs1 (cells + mc) (slots + ms) Q (F0 m (pc + 3) ls (.int r :: rest))) : W p l e R s m args below meth c H locs cells slots Q (F0 m pc ls st0) := by
  intro T hT X
  rcases hr T hT X with ⟨v, st₀, t, T', L, h0, X', hL, e1, e2, ⟨⟨r, u, hv, hp, hb⟩, hF⟩, st⟩ | ⟨q, st₀, t, T', L, E, ce, h0, X', hL, e1, e2, ⟨u, hp, hb, hF⟩, hce, hcv, hcl, st⟩
  · cases hv
    obtain ⟨k1, k2, k3⟩ := vx_keep h0 e1 hS hA hf hL hF
    obtain ⟨t2, a1, b1⟩ := kk r u t T'.heap (locs ++ L) e1.symm (by rw [← e2]; exact X'.warmed.alike) hp hb k1 k2 k3 T' rfl X'
    exact ⟨t2, st t2 a1, b1⟩
  · obtain ⟨k1, k2, k3⟩ := vx_keep h0 e1 hS hAX hf hL hF
    obtain ⟨t2, a1, b1⟩ := kx E ce q u t T'.heap (locs ++ L) e1.symm (by rw [← e2]; exact X'.warmed.alike) hp hb k1 k2 k3 (by rw [e1]; exact hce) hcv hcl T' rfl X'
    exact ⟨t2, st.trans a1, b1⟩
theorem vx_calll {S SX : Type} {post : Int64 → S → Prop} {px : SX → Prop} {B : S → State → Prop} {BX : String → SX → State → Prop} {AX : Nat → Prop} (hr : vx_Run p l e R s m args below meth c H locs cells slots mc ms (F0 m pc ls st0) rest (va_Ql post B A1 a) (vx_X px BX AX) free) (hS : va_S A0 H0 H locs) (hA : ∀ q, q < H.size → A1 q → A0 q) (hf : ∀ q, free q → A0 q) (hAX : ∀ q, q < H.size → AX q → A0 q)
    (kx : ∀ (E : String) (ce : Cell) (q9 : Addr) (u : SX) (t : State) (H1 : Heap) (locs1 : List Loc), t.heap = H1 → s.vm.Alike t.vm → px u → BX E u t → H.size ≤ H1.size → (∀ q : Nat, q < H.size → ¬ AX q → H1[q]? = H[q]?) → va_S A0 H0 H1 locs1 → H1[q9]? = some ce → ce.vm = .none → s.vm.findClass E = some ce.cls → vx_W p l e R s m args below meth c H1 locs1 (cells + mc) (slots + ms) Q (F0 m pc ls rest) q9)
    (kk : ∀ (r : Int64) (u : S) (t : State) (H1 : Heap) (locs1 : List Loc), t.heap = H1 → s.vm.Alike t.vm → post r u → B u t → H.size ≤ H1.size → (∀ q : Nat, q < H.size → ¬ A1 q → H1[q]? = H[q]?) → va_S A0 H0 H1 locs1 → W p l e R s m args below meth c H1 locs1 (cells + mc) (slots + ms) Q (F0 m (pc + 3) ls (.long r :: rest))) : W p l e R s m args below meth c H locs cells slots Q (F0 m pc ls st0) := by
  intro T hT X
  rcases hr T hT X with ⟨v, st₀, t, T', L, h0, X', hL, e1, e2, ⟨⟨r, u, hv, hp, hb⟩, hF⟩, st⟩ | ⟨q, st₀, t, T', L, E, ce, h0, X', hL, e1, e2, ⟨u, hp, hb, hF⟩, hce, hcv, hcl, st⟩
  · cases hv
    obtain ⟨k1, k2, k3⟩ := vx_keep h0 e1 hS hA hf hL hF
    obtain ⟨t2, a1, b1⟩ := kk r u t T'.heap (locs ++ L) e1.symm (by rw [← e2]; exact X'.warmed.alike) hp hb k1 k2 k3 T' rfl X'
    exact ⟨t2, st t2 a1, b1⟩
  · obtain ⟨k1, k2, k3⟩ := vx_keep h0 e1 hS hAX hf hL hF
    obtain ⟨t2, a1, b1⟩ := kx E ce q u t T'.heap (locs ++ L) e1.symm (by rw [← e2]; exact X'.warmed.alike) hp hb k1 k2 k3 (by rw [e1]; exact hce) hcv hcl T' rfl X'
    exact ⟨t2, st.trans a1, b1⟩
theorem vx_callf {S SX : Type} {post : UInt32 → S → Prop} {px : SX → Prop} {B : S → State → Prop} {BX : String → SX → State → Prop} {AX : Nat → Prop} (hr : vx_Run p l e R s m args below meth c H locs cells slots mc ms (F0 m pc ls st0) rest (va_Qf post B A1 a) (vx_X px BX AX) free) (hS : va_S A0 H0 H locs) (hA : ∀ q, q < H.size → A1 q → A0 q) (hf : ∀ q, free q → A0 q) (hAX : ∀ q, q < H.size → AX q → A0 q)
    (kx : ∀ (E : String) (ce : Cell) (q9 : Addr) (u : SX) (t : State) (H1 : Heap) (locs1 : List Loc), t.heap = H1 → s.vm.Alike t.vm → px u → BX E u t → H.size ≤ H1.size → (∀ q : Nat, q < H.size → ¬ AX q → H1[q]? = H[q]?) → va_S A0 H0 H1 locs1 → H1[q9]? = some ce → ce.vm = .none → s.vm.findClass E = some ce.cls → vx_W p l e R s m args below meth c H1 locs1 (cells + mc) (slots + ms) Q (F0 m pc ls rest) q9)
    (kk : ∀ (r : UInt32) (u : S) (t : State) (H1 : Heap) (locs1 : List Loc), t.heap = H1 → s.vm.Alike t.vm → post r u → B u t → H.size ≤ H1.size → (∀ q : Nat, q < H.size → ¬ A1 q → H1[q]? = H[q]?) → va_S A0 H0 H1 locs1 → W p l e R s m args below meth c H1 locs1 (cells + mc) (slots + ms) Q (F0 m (pc + 3) ls (.float r :: rest))) : W p l e R s m args below meth c H locs cells slots Q (F0 m pc ls st0) := by
  intro T hT X
  rcases hr T hT X with ⟨v, st₀, t, T', L, h0, X', hL, e1, e2, ⟨⟨r, u, hv, hp, hb⟩, hF⟩, st⟩ | ⟨q, st₀, t, T', L, E, ce, h0, X', hL, e1, e2, ⟨u, hp, hb, hF⟩, hce, hcv, hcl, st⟩
  · cases hv
    obtain ⟨k1, k2, k3⟩ := vx_keep h0 e1 hS hA hf hL hF
    obtain ⟨t2, a1, b1⟩ := kk r u t T'.heap (locs ++ L) e1.symm (by rw [← e2]; exact X'.warmed.alike) hp hb k1 k2 k3 T' rfl X'
    exact ⟨t2, st t2 a1, b1⟩
  · obtain ⟨k1, k2, k3⟩ := vx_keep h0 e1 hS hAX hf hL hF
    obtain ⟨t2, a1, b1⟩ := kx E ce q u t T'.heap (locs ++ L) e1.symm (by rw [← e2]; exact X'.warmed.alike) hp hb k1 k2 k3 (by rw [e1]; exact hce) hcv hcl T' rfl X'
    exact ⟨t2, st.trans a1, b1⟩
theorem vx_calld {S SX : Type} {post : UInt64 → S → Prop} {px : SX → Prop} {B : S → State → Prop} {BX : String → SX → State → Prop} {AX : Nat → Prop} (hr : vx_Run p l e R s m args below meth c H locs cells slots mc ms (F0 m pc ls st0) rest (va_Qd post B A1 a) (vx_X px BX AX) free) (hS : va_S A0 H0 H locs) (hA : ∀ q, q < H.size → A1 q → A0 q) (hf : ∀ q, free q → A0 q) (hAX : ∀ q, q < H.size → AX q → A0 q)
    (kx : ∀ (E : String) (ce : Cell) (q9 : Addr) (u : SX) (t : State) (H1 : Heap) (locs1 : List Loc), t.heap = H1 → s.vm.Alike t.vm → px u → BX E u t → H.size ≤ H1.size → (∀ q : Nat, q < H.size → ¬ AX q → H1[q]? = H[q]?) → va_S A0 H0 H1 locs1 → H1[q9]? = some ce → ce.vm = .none → s.vm.findClass E = some ce.cls → vx_W p l e R s m args below meth c H1 locs1 (cells + mc) (slots + ms) Q (F0 m pc ls rest) q9)
    (kk : ∀ (r : UInt64) (u : S) (t : State) (H1 : Heap) (locs1 : List Loc), t.heap = H1 → s.vm.Alike t.vm → post r u → B u t → H.size ≤ H1.size → (∀ q : Nat, q < H.size → ¬ A1 q → H1[q]? = H[q]?) → va_S A0 H0 H1 locs1 → W p l e R s m args below meth c H1 locs1 (cells + mc) (slots + ms) Q (F0 m (pc + 3) ls (.double r :: rest))) : W p l e R s m args below meth c H locs cells slots Q (F0 m pc ls st0) := by
  intro T hT X
  rcases hr T hT X with ⟨v, st₀, t, T', L, h0, X', hL, e1, e2, ⟨⟨r, u, hv, hp, hb⟩, hF⟩, st⟩ | ⟨q, st₀, t, T', L, E, ce, h0, X', hL, e1, e2, ⟨u, hp, hb, hF⟩, hce, hcv, hcl, st⟩
  · cases hv
    obtain ⟨k1, k2, k3⟩ := vx_keep h0 e1 hS hA hf hL hF
    obtain ⟨t2, a1, b1⟩ := kk r u t T'.heap (locs ++ L) e1.symm (by rw [← e2]; exact X'.warmed.alike) hp hb k1 k2 k3 T' rfl X'
    exact ⟨t2, st t2 a1, b1⟩
  · obtain ⟨k1, k2, k3⟩ := vx_keep h0 e1 hS hAX hf hL hF
    obtain ⟨t2, a1, b1⟩ := kx E ce q u t T'.heap (locs ++ L) e1.symm (by rw [← e2]; exact X'.warmed.alike) hp hb k1 k2 k3 (by rw [e1]; exact hce) hcv hcl T' rfl X'
    exact ⟨t2, st.trans a1, b1⟩
theorem vx_callv {S SX : Type} {post : S → Prop} {px : SX → Prop} {B : S → State → Prop} {BX : String → SX → State → Prop} {AX : Nat → Prop} (hr : vx_Run p l e R s m args below meth c H locs cells slots mc ms (F0 m pc ls st0) rest (va_Qv post B A1 a) (vx_X px BX AX) free) (hS : va_S A0 H0 H locs) (hA : ∀ q, q < H.size → A1 q → A0 q) (hf : ∀ q, free q → A0 q) (hAX : ∀ q, q < H.size → AX q → A0 q)
    (kx : ∀ (E : String) (ce : Cell) (q9 : Addr) (u : SX) (t : State) (H1 : Heap) (locs1 : List Loc), t.heap = H1 → s.vm.Alike t.vm → px u → BX E u t → H.size ≤ H1.size → (∀ q : Nat, q < H.size → ¬ AX q → H1[q]? = H[q]?) → va_S A0 H0 H1 locs1 → H1[q9]? = some ce → ce.vm = .none → s.vm.findClass E = some ce.cls → vx_W p l e R s m args below meth c H1 locs1 (cells + mc) (slots + ms) Q (F0 m pc ls rest) q9)
    (kk : ∀ (u : S) (t : State) (H1 : Heap) (locs1 : List Loc), t.heap = H1 → s.vm.Alike t.vm → post u → B u t → H.size ≤ H1.size → (∀ q : Nat, q < H.size → ¬ A1 q → H1[q]? = H[q]?) → va_S A0 H0 H1 locs1 → W p l e R s m args below meth c H1 locs1 (cells + mc) (slots + ms) Q (F0 m (pc + 3) ls (rest))) : W p l e R s m args below meth c H locs cells slots Q (F0 m pc ls st0) := by
  intro T hT X
  rcases hr T hT X with ⟨v, st₀, t, T', L, h0, X', hL, e1, e2, ⟨⟨u, hv, hp, hb⟩, hF⟩, st⟩ | ⟨q, st₀, t, T', L, E, ce, h0, X', hL, e1, e2, ⟨u, hp, hb, hF⟩, hce, hcv, hcl, st⟩
  · cases hv
    obtain ⟨k1, k2, k3⟩ := vx_keep h0 e1 hS hA hf hL hF
    obtain ⟨t2, a1, b1⟩ := kk u t T'.heap (locs ++ L) e1.symm (by rw [← e2]; exact X'.warmed.alike) hp hb k1 k2 k3 T' rfl X'
    exact ⟨t2, st t2 a1, b1⟩
  · obtain ⟨k1, k2, k3⟩ := vx_keep h0 e1 hS hAX hf hL hF
    obtain ⟨t2, a1, b1⟩ := kx E ce q u t T'.heap (locs ++ L) e1.symm (by rw [← e2]; exact X'.warmed.alike) hp hb k1 k2 k3 (by rw [e1]; exact hce) hcv hcl T' rfl X'
    exact ⟨t2, st.trans a1, b1⟩
/-- caught by the row x of this method's table; the rows ahead don't take it -/
theorem vx_catch {own name : String} {E : String} {ce : Cell} {q : Addr} (hown : s.vm.findClass own = some m.cls) (pre : List ExceptionTableEntry) (x : ExceptionTableEntry) (suf : List ExceptionTableEntry) (hsplit : c.exceptionTable.toList = pre ++ x :: suf)
    (hpass : ∀ z ∈ pre, covers z pc = false ∨ (z.catchType ≠ 0 ∧ ∃ nm : String, (Cond.classLink own z.catchType nm).before args s = true ∧ va_Nc E nm s)) (hx : covers x pc = true) (h0 : x.catchType ≠ 0)
    (hlink : (Cond.classLink own x.catchType name).before args s = true) (hcast : (Cond.castable E name).before args s = true) (hcell : H[q]? = some ce) (hv : ce.vm = .none) (hcl : s.vm.findClass E = some ce.cls)
    (kk : W p l e R s m args below meth c H locs cells slots Q (F0 m x.handlerPc ls [.ref q])) : vx_W p l e R s m args below meth c H locs cells slots Q (F0 m pc ls rest) q := by
  intro T hT X
  have hpl : e.platform.magicAccessors = ({} : Platform).magicAccessors := by rw [X.admits.platform]
  obtain ⟨c3, c4, hc3, hc4, hasg⟩ := Cond.castable_spec hcast
  cases Option.some.inj (hc3.symm.trans hcl)
  obtain ⟨c5, hc5, hcl5⟩ := Cond.classLink_spec hown hlink e.platform hpl
  cases Option.some.inj (hc4.symm.trans hc5)
  obtain ⟨vm', X', st⟩ := X.thenCaughtThrough q (g := F0 m pc ls rest) rfl (Steps.refl _) (by rw [hT]; exact hcell) (by rw [hv]; rfl) (by obtain ⟨k9, h9, -⟩ := Vm.findClass_spec hcl; exact ⟨k9, h9⟩) pre x suf hsplit
    (fun z hz => by
      rcases hpass z hz with h | ⟨hz0, nm, hl1, hn1⟩
      · exact Or.inl h
      · obtain ⟨c6, hc6, hcl6⟩ := Cond.classLink_spec hown hl1 e.platform hpl
        obtain ⟨a8, b8, h1, h2, h3⟩ := hn1
        cases Option.some.inj (h1.symm.trans hcl)
        cases Option.some.inj (h2.symm.trans hc6)
        exact Or.inr ⟨hz0, _, hcl6, h3⟩) hx (Or.inr ⟨h0, c4, hcl5, hasg⟩)
  obtain ⟨t, a1, b1⟩ := kk (T.setVm vm') hT X'
  exact ⟨t, st.trans a1, b1⟩
end Rows
section Ends
variable {p : Program} {l : Launch} {e : Env} {R : Room} {s : State} {m : MethodId} {args : Array Value} {below : List Frame} {meth : Method} {c : Code} {H : Heap} {locs : List Loc} {cells slots : Nat} {Q : State → Prop}
variable {mc ms : Nat} {free : Addr → Prop} {A0 A1 : Nat → Prop} {H0 : Heap} {a : Array Value} {ls : Array Slot} {st0 rest : List Value}
variable {Qc : Array Value → State → Outcome → State → Prop} {XC : String → State → State → Prop}
/-- what a body that may throw owes at its end -/
def vx_MQ (below : List Frame) (Qc : Array Value → State → Outcome → State → Prop) (XC : String → State → State → Prop) (a : Array Value) (s : State) (mc ms : Nat) (free : Addr → Prop) : State → Prop := fun t =>
  ∃ o, t.status = .running ∧ Ended t below o ∧ vx_Q Qc XC mc ms free a s o t
theorem vx_ret {g : JFrame} {mc ms : Nat} (k : W p l e R s m args below meth c H locs cells slots (MQ below Qc args s mc ms free) g) : W p l e R s m args below meth c H locs cells slots (vx_MQ below Qc XC args s mc ms free) g := by
  intro T hT X
  obtain ⟨t, a1, o, b1, b2, b3, b4⟩ := k T hT X
  exact ⟨t, a1, o, b1, b2, Or.inl ⟨b3, b4⟩⟩
/-- not caught here: it goes on to the caller -/
theorem vx_widen {g : JFrame} {q : Addr} {k n : Nat} (h1 : cells ≤ k) (h2 : slots ≤ n) (kk : vx_W p l e R s m args below meth c H locs k n Q g q) : vx_W p l e R s m args below meth c H locs cells slots Q g q := fun T hT X => kk T hT (stand_widen X h1 h2)
theorem vx_out {pc : Nat} {E : String} {ce : Cell} {q : Addr} {mc ms : Nat} (hout : ∀ x ∈ c.exceptionTable.toList, covers x pc = false) (hlocks : meth.locks = false) (hcell : H[q]? = some ce) (hv : ce.vm = .none) (hcl : s.vm.findClass E = some ce.cls)
    (hx : ∀ t : State, t.heap = H → s.vm.Alike t.vm → XC E s t) (hf : ∀ z ∈ locs, free z.base) (hc : cells ≤ mc) (hs : slots ≤ ms) :
    vx_W p l e R s m args below meth c H locs cells slots (vx_MQ below Qc XC args s mc ms free) (F0 m pc ls rest) q := by
  intro T hT X
  obtain ⟨st1, hrun, hend, hW, hsm⟩ := X.leaveThrown q (g := F0 m pc ls rest) rfl rfl rfl hout hlocks
  have hcell9 : (T.setFrames (.throwing q :: below)).heap[q]? = some ce := by
    show T.heap[q]? = some ce
    rw [hT]; exact hcell
  exact ⟨_, st1, .threw q, hrun, hend, Or.inr ⟨q, rfl, E, ce, locs, hx _ hT hW.alike, hcell9, hv, hcl, hW, hsm.mono hc hs, hf⟩⟩
theorem vx_frame {U : State} {k n : Nat} (h : s.sameButNew ({ U with vm := s.vm } : State) locs k n) : s.heap.size ≤ U.heap.size ∧ ∀ q : Nat, q < s.heap.size → (∀ z ∈ locs, z.base ≠ q) → U.heap[q]? = s.heap[q]? := by
  obtain ⟨-, h2, -, -, -, h6⟩ := h
  refine ⟨h2, fun q hq hz => ?_⟩
  obtain ⟨c9, e1, e2, e3, e4⟩ := h6 q _ (Array.getElem?_eq_getElem hq)
  have hs : c9.slots = (s.heap[q]).slots := Array.ext_getElem? fun i => e4 i fun hm => hz _ hm rfl
  have h9 : c9 = s.heap[q] := by
    rw [hs] at e2
    exact e2
  have e5 : U.heap[q]? = some c9 := e1
  rw [e5, h9, Array.getElem?_eq_getElem hq]
/-- the words of a throw but the four that speak of the heap -/
def vx_no (w : Cond) : Bool := decide (w ≠ .isRef (.static Bundle.tN "UNASSIGNED_STACK" Bundle.steD)) && decide (w ≠ .isRef (.static Bundle.tN "SUPPRESSED_SENTINEL" Bundle.listD)) && decide (w ≠ .laysStatic Bundle.tN "UNASSIGNED_STACK" Bundle.steD) && decide (w ≠ .laysStatic Bundle.tN "SUPPRESSED_SENTINEL" Bundle.listD)
def vx_at0 (own : String) (ic : Nat) (X : String) (names : List String) : List Cond := (Bundle.ownAtoms0 own ic X names).filter vx_no
def vx_atS (own : String) (ic : Nat) (X : String) (names : List String) : List Cond := (Bundle.ownAtoms own ic X names).filter vx_no
/-- a word that the tables alone decide, or a good one -/
def vx_ot (w : Cond) : Bool := w.onTables || goodWord w
theorem vx_ot_at {args a' : Array Value} {s U : State} {w : Cond} (hW : s.WarmedH U.vm) (hvm : s.vm = U.vm) (hg : vx_ot w = true) (h : w.before args s = true) : w.before a' U = true := by
  simp only [vx_ot, Bool.or_eq_true] at hg
  rcases hg with hg | hg
  · exact va_tabs hg hvm h
  · exact word_at hW (good_of_word hg) h
/-- a list's words: the good ones out of the method's own list, the others by premises of their own -/
theorem vx_hat {args : Array Value} {s : State} {L B : List Cond} (h1 : ∀ w ∈ L.filter goodWord, w.before args s = true) (h2 : ∀ w ∈ L.filter (fun w => !goodWord w), w ∈ B) (h3 : ∀ w ∈ B, w.before args s = true) : ∀ w ∈ L, w.before args s = true := by
  intro w hw
  by_cases g : goodWord w = true
  · exact h1 w (List.mem_filter.mpr ⟨hw, g⟩)
  · refine h3 w (h2 w (List.mem_filter.mpr ⟨hw, ?_⟩))
    show (!goodWord w) = true
    cases hgw : goodWord w
    · rfl
    · exact absurd hgw g
theorem vx_c {args : Array Value} {s : State} {w : Cond} {B : List Cond} (h : w.before args s = true) (t : ∀ w ∈ B, w.before args s = true) : ∀ w' ∈ w :: B, w'.before args s = true := fun w' h' => (List.mem_cons.mp h').elim (fun e => by rw [e]; exact h) (t w')
theorem vx_n {args : Array Value} {s : State} : ∀ w ∈ ([] : List Cond), w.before args s = true := fun _ h => nomatch h
theorem vx_own {args : Array Value} {s : State} {L : List Cond} (h1 : ∀ w ∈ L.filter vx_no, w.before args s = true)
    (hU : (Cond.isRef (.static Bundle.tN "UNASSIGNED_STACK" Bundle.steD)).before args s = true) (hN : (Cond.isRef (.static Bundle.tN "SUPPRESSED_SENTINEL" Bundle.listD)).before args s = true)
    (lU : (Cond.laysStatic Bundle.tN "UNASSIGNED_STACK" Bundle.steD).before args s = true) (lN : (Cond.laysStatic Bundle.tN "SUPPRESSED_SENTINEL" Bundle.listD).before args s = true) : ∀ w ∈ L, w.before args s = true := by
  intro w hw
  by_cases e1 : w = .isRef (.static Bundle.tN "UNASSIGNED_STACK" Bundle.steD)
  · rw [e1]; exact hU
  · by_cases e2 : w = .isRef (.static Bundle.tN "SUPPRESSED_SENTINEL" Bundle.listD)
    · rw [e2]; exact hN
    · by_cases e3 : w = .laysStatic Bundle.tN "UNASSIGNED_STACK" Bundle.steD
      · rw [e3]; exact lU
      · by_cases e4 : w = .laysStatic Bundle.tN "SUPPRESSED_SENTINEL" Bundle.listD
        · rw [e4]; exact lN
        · exact h1 w (List.mem_filter.mpr ⟨hw, by unfold vx_no; rw [decide_eq_true e1, decide_eq_true e2, decide_eq_true e3, decide_eq_true e4]; rfl⟩)
/-- where a static field lies, its class's statics cell in H -/
def vx_L (C n d : String) (A : Nat → Prop) (U : State) (H : Heap) : Prop := ∃ (c : ClassId) (k : Class) (i : Nat) (f : Field) (a : Nat) (cell : Cell), U.vm.findClass C = some c ∧ U.fieldFound? C n d = some (c, k, i, f) ∧ f.isStatic = true ∧ k.statics = some a ∧ H[a]? = some cell ∧ cell.vm.isStatics = true ∧ cell.cls = c ∧ f.slot < cell.slots.size ∧ k.staticTypes[f.slot]? = some f.type ∧ ¬ A a
theorem vx_L.moved {C n d : String} {A : Nat → Prop} {u U : State} {H : Heap} (hvm : u.vm.Alike U.vm) (h : vx_L C n d A u H) : vx_L C n d A U H := by
  obtain ⟨c, k, i, f, a, cell, h1, h2, h3, h4, h5, h6, h7, h8, h9, h10⟩ := h
  obtain ⟨k', hi', he⟩ := State.fieldFound?_setVm hvm h2
  exact ⟨c, k', i, f, a, cell, by rw [hvm.findClass]; exact h1, hi', h3, by rw [he]; exact h4, h5, h6, h7, h8, by rw [he]; exact h9, h10⟩
theorem vx_L.kept {C n d : String} {A : Nat → Prop} {U : State} {H H1 : Heap} (h : vx_L C n d A U H) (hq : ∀ a : Nat, a < H.size → ¬ A a → H1[a]? = H[a]?) : vx_L C n d A U H1 := by
  obtain ⟨c, k, i, f, a, cell, h1, h2, h3, h4, h5, h6, h7, h8, h9, h10⟩ := h
  exact ⟨c, k, i, f, a, cell, h1, h2, h3, h4, by rw [hq a (Array.getElem?_eq_some_iff.mp h5).1 h10]; exact h5, h6, h7, h8, h9, h10⟩
theorem vx_L.narrow {C n d : String} {A B : Nat → Prop} {U : State} {H : Heap} (h : vx_L C n d A U H) (hAB : ∀ q, B q → A q) : vx_L C n d B U H := by
  obtain ⟨c, k, i, f, a, cell, h1, h2, h3, h4, h5, h6, h7, h8, h9, h10⟩ := h
  exact ⟨c, k, i, f, a, cell, h1, h2, h3, h4, h5, h6, h7, h8, h9, fun z => h10 (hAB _ z)⟩
theorem vx_L.word {C n d : String} {A : Nat → Prop} {s : State} {args : Array Value} (h : vx_L C n d A s s.heap) : (Cond.laysStatic C n d).before args s = true := by
  obtain ⟨c, k, i, f, a, cell, h1, h2, h3, h4, h5, h6, h7, h8, h9, -⟩ := h
  show (Cond.laysStatic C n d).holds args s none s [] = true
  exact Cond.laysStatic_of h1 h2 h3 h4 h5 h6 h7 h8 h9
/-- .. and what it holds: null or some reference -/
def vx_Zq (C n d : String) (A : Nat → Prop) (U : State) (H : Heap) : Prop := va_Zq C n d A U H ∧ vx_L C n d A U H
theorem vx_Zq.moved {C n d : String} {A : Nat → Prop} {u U : State} {H : Heap} (hvm : u.vm.Alike U.vm) (h : vx_Zq C n d A u H) : vx_Zq C n d A U H := ⟨va_Zq.moved hvm h.1, vx_L.moved hvm h.2⟩
theorem vx_Zq.kept {C n d : String} {A : Nat → Prop} {U : State} {H H1 : Heap} (h : vx_Zq C n d A U H) (hq : ∀ a : Nat, a < H.size → ¬ A a → H1[a]? = H[a]?) : vx_Zq C n d A U H1 := ⟨va_Zq.kept h.1 hq, vx_L.kept h.2 hq⟩
theorem vx_Zq.narrow {C n d : String} {A B : Nat → Prop} {U : State} {H : Heap} (h : vx_Zq C n d A U H) (hAB : ∀ q, B q → A q) : vx_Zq C n d B U H := ⟨va_Zq.narrow h.1 hAB, vx_L.narrow h.2 hAB⟩
theorem vx_Zqof {args : Array Value} {s : State} {C n d : String} {A : Nat → Prop} (hl : (Cond.laysStatic C n d).before args s = true) (hini : (Cond.initialized C).before args s = true) (h : (Cond.isRef (.static C n d)).before args s = true) (hA : ∀ a : Nat, a < s.heap.size → ¬ A a) : vx_Zq C n d A s s.heap := by
  refine ⟨va_Zqof hl hini h hA, ?_⟩
  obtain ⟨c, k, i, f, a, cell, h1, h2, h3, h4, h5, h6, h7, h8, h9⟩ := Cond.laysStatic_spec hl
  exact ⟨c, k, i, f, a, cell, h1, h2, h3, h4, h5, h6, h7, h8, h9, hA a (Array.getElem?_eq_some_iff.mp h5).1⟩
theorem vx_isRef {C n d : String} {v : Value} {A : Nat → Prop} {s : State} {args : Array Value} (h : va_Z C n d v A s s.heap) (hv : v.isRef = true) : (Cond.isRef (.static C n d)).before args s = true := by
  obtain ⟨cf, kf, fi, f, a, cell, h1, h2, h3, h4, h5, h6, h7, -⟩ := h
  have he : (Term.static C n d).eval args s none [] s = some v := by
    simp [Term.eval, State.fieldNamed?, h1, h2, h4, h5, h6, h7]
  simp only [Cond.before, Cond.holds, Cond.value, he]
  cases v <;> simp_all [Value.isRef]
theorem vx_isRefq {C n d : String} {A : Nat → Prop} {s : State} {args : Array Value} (h : va_Zq C n d A s s.heap) : (Cond.isRef (.static C n d)).before args s = true := by
  rcases h with h | ⟨t, h⟩
  · exact vx_isRef h rfl
  · exact vx_isRef h rfl
/-- the same frame, seen from here: as if the method were called anew in this heap -/
theorem vx_rebase {T : State} (X : Stand p l e R s m args below meth c T locs cells slots) {R' : Room} (hf : R'.frames ≤ R.frames) (hl : R'.locals ≤ R.locals) (hc : cells + R'.cells ≤ R.cells) (hs : slots + R'.slots ≤ R.slots) :
    Stand p l e R' ((T.setVm s.vm).setFrames (.invoking m args :: below)) m args below meth c T [] 0 0 := by
  have htop : (T.setVm s.vm).topJava?.isSome := X.here.top
  have hF : ((T.setVm s.vm).setFrames (.invoking m args :: below)).frames = .invoking m args :: below := State.frames_setFrames _ (State.cur_lt_of_top htop)
  obtain ⟨g₀, hg0⟩ := Option.isSome_iff_exists.mp htop
  obtain ⟨r, hr⟩ := State.topJava?_eq_some.mp hg0
  have hl9 : e.platform.stackLimits (T.setVm s.vm).me = e.platform.stackLimits s.me := X.limits
  have hb9 : (T.setVm s.vm).me.stackBytes = s.me.stackBytes := X.bytes
  refine ⟨X.admits, X.cas, X.clock, hF, ?_, X.hears, X.method, X.code, X.here, X.tail, X.warmed, ?_, ?_, ?_⟩
  · have h := X.room
    have hU : ((T.setVm s.vm).setFrames (.invoking m args :: below)).localsInUse = s.localsInUse := by
      rw [State.localsInUse_invoking hF (meth := meth) (c := c) X.method X.code, State.localsInUse_invoking X.frames X.method X.code]
    simp only [State.hasRoom, Bool.and_eq_true, decide_eq_true_eq] at h ⊢
    obtain ⟨⟨⟨⟨h1, h2, h3, h4, h5, h6⟩, h7⟩, h8⟩, h9⟩ := h
    rw [X.frames, List.length_cons] at h2 h3
    have q1 := X.heapSize
    have q2 := X.used
    simp only [hF, hU, List.length_cons, State.stackLimits_setFrames, State.stackBytes_setFrames, hl9, hb9]
    refine ⟨⟨⟨⟨by omega, by omega, by omega, by omega, by omega, h6⟩, ?_⟩, ?_⟩, X.book⟩
    · show T.heap.size + R'.cells ≤ e.platform.maxCells
      omega
    · show T.slotsUsed + R'.slots ≤ e.platform.maxSlots
      omega
  · rw [State.stackLimits_setFrames]; rfl
  · rw [State.stackBytes_setFrames]; rfl
  · refine ⟨?_, Nat.le_refl _, Nat.le_refl _, ?_, ?_, fun a c9 h9 => ⟨c9, h9, rfl, rfl, fun _ _ => rfl⟩⟩
    · obtain ⟨t, ht, -⟩ := State.frames_cons hr
      show T.setVm s.vm = { ((T.setVm s.vm).setFrames (.invoking m args :: below)).setFrames (T.setVm s.vm).frames with heap := T.heap, slotsUsed := T.slotsUsed }
      rw [State.setFrames_setFrames, State.setFrames_self ht]
      rfl
    · show T.slotsUsed = T.slotsUsed + ((T.heap.toList.drop T.heap.size).map (·.slots.size)).sum
      rw [List.drop_eq_nil_of_le (Nat.le_of_eq Array.length_toList)]
      rfl
    · show ((T.heap.toList.drop T.heap.size).map (·.slots.size)).sum ≤ 0
      rw [List.drop_eq_nil_of_le (Nat.le_of_eq Array.length_toList)]
      exact Nat.le_refl _
/-- 'throw new E()': new; dup; invokespecial; athrow -/
theorem vx_throw0 {cc : ByteArray} {pc : Nat} (hexec : p.tables.exec = Jvm.exec) (hb : c.code = cc) (hl : l.stackTraces = false) {own cls : String} {names : List String} {ik ic mc ms : Nat} {A : Nat → Prop}
    (hown : s.vm.findClass own = some m.cls) (hcls : Bundle.fit cls = true) (hnames : ∀ n ∈ names, Bundle.fit n = true)
    (hk : (Cond.classLink own ik cls).before args s = true) (hini : (Cond.initialized cls).before args s = true) (hat : ∀ w ∈ vx_at0 own ic cls names, w.before args s = true)
    (hgood : ∀ w ∈ Cond.classLink own ik cls :: Cond.initialized cls :: vx_at0 own ic cls names, vx_ot w = true)
    (hU : vx_Zq Bundle.tN "UNASSIGNED_STACK" Bundle.steD A s s.heap) (hN : vx_Zq Bundle.tN "SUPPRESSED_SENTINEL" Bundle.listD A s s.heap) (hS : va_S A s.heap H locs) (hsize : ls.size = c.maxLocals)
    (d0 : decode cc pc = .ok (.new ik, 3)) (d3 : decode cc (pc + 3) = .ok (.dup, 1)) (d4 : decode cc (pc + 4) = .ok (.invokespecial ic, 3)) (d7 : decode cc (pc + 7) = .ok (.athrow, 1))
    (hout : ∀ x ∈ c.exceptionTable.toList, covers x (pc + 7) = false)
    (hRframes : names.length + 3 < R.frames) (hRlocals : (rest.map fun v => v.category).sum + (13 * (names.length + 1) + 42) ≤ R.locals) (hRcells : cells + 1 ≤ R.cells) (hRslots : slots + 6 ≤ R.slots) (hlocks : meth.locks = false)
    (hx : ∀ t : State, s.vm.Alike t.vm → H.size ≤ t.heap.size → (∀ q : Nat, q < H.size → t.heap[q]? = H[q]?) → XC cls s t)
    (hf : ∀ z ∈ locs, free z.base) (hc : cells + 1 ≤ mc) (hs : slots + 6 ≤ ms) :
    W p l e R s m args below meth c H locs cells slots (vx_MQ below Qc XC args s mc ms free) (F0 m pc ls rest) := by
  intro T hT X
  have htr : e.platform.stackTraces = false := (show e.platform.stackTraces = l.stackTraces by rw [X.admits.platform]).trans hl
  have Y := vx_rebase X (R' := { frames := R.frames, locals := R.locals, cells := 1, slots := 6 }) (Nat.le_refl _) (Nat.le_refl _) hRcells hRslots
  obtain ⟨s', hA⟩ : ∃ z, z = (T.setVm s.vm).setFrames (.invoking m args :: below) := ⟨_, rfl⟩
  rw [← hA] at Y
  have hvm : s'.vm = s.vm := by rw [hA]; rfl
  have hhp : s'.heap = H := by rw [hA]; exact hT
  have hW0 : s.WarmedH s'.vm := by rw [hvm]; exact State.WarmedH.refl s
  have hat' : ∀ w ∈ vx_at0 own ic cls names, w.before args s' = true := fun w hw => vx_ot_at hW0 hvm.symm (hgood w (List.mem_cons_of_mem _ (List.mem_cons_of_mem _ hw))) (hat w hw)
  have hk' : (Cond.classLink own ik cls).before args s' = true := vx_ot_at hW0 hvm.symm (hgood _ List.mem_cons_self) hk
  have hini' : (Cond.initialized cls).before args s' = true := vx_ot_at hW0 hvm.symm (hgood _ (List.mem_cons_of_mem _ List.mem_cons_self)) hini
  have hU' : vx_Zq Bundle.tN "UNASSIGNED_STACK" Bundle.steD A s' s'.heap := by rw [hhp]; exact vx_Zq.moved hW0.alike (hU.kept hS.2.1)
  have hN' : vx_Zq Bundle.tN "SUPPRESSED_SENTINEL" Bundle.listD A s' s'.heap := by rw [hhp]; exact vx_Zq.moved hW0.alike (hN.kept hS.2.1)
  have h : ∀ w ∈ Bundle.ownAtoms0 own ic cls names, w.before args s' = true := vx_own hat' (vx_isRefq hU'.1) (vx_isRefq hN'.1) hU'.2.word hN'.2.word
  have hown' : s'.vm.findClass own = some m.cls := by rw [hvm]; exact hown
  have hins : (Cond.instantiable cls 6).before args s' = true := h _ (by simp [Bundle.ownAtoms0])
  obtain ⟨vm₁, cX, kX, hfX, hkX, -, -, X₁, st1⟩ := Y.newCold hexec (own := own) (C := cls) (index := ik) (n := 6) hown' hk' hins hini'
    (g := F0 m pc ls rest) rfl (by rw [hb]; exact d0) (Nat.le_refl _) (Nat.le_refl _)
  generalize hT1 : (T.setVm vm₁).pushCell { cls := cX, slots := kX.instanceTypes.map defaultValue, vm := .none } = T1 at X₁ st1
  have hcat : (Value.ref T.heap.size).category = 1 := rfl
  have hcellA : T1.heap[T.heap.size]? = some (freshCell cX kX) := by rw [← hT1]; exact State.heap_pushCell_size _ _
  have d3' : decode c.code (pc + 3) = .ok (.dup, 1) := by rw [hb]; exact d3
  obtain ⟨U, hsteps, hrun, hend, hW, hsame, ce, hce, hO⟩ := X₁.ctorThrow0 hexec htr (own := own) (cls := cls) (names := names) (ic := ic) hown' hcls hnames h (fun x hx => nomatch hx) hfX hkX hcellA (by rw [hhp, hT]; exact Nat.le_refl _)
    (g := { method := m, pc := pc + 4, locals := ls, stack := .ref T.heap.size :: .ref T.heap.size :: rest, locked := none }) rfl hsize rfl rfl (rest := rest) rfl
    (by rw [hb]; exact d4) (by rw [hb]; exact d7) hout hRframes (by simp only [List.map_cons, List.sum_cons, hcat]; omega) hlocks
  obtain ⟨f1, f2⟩ := vx_frame hsame
  rw [hhp] at f1 f2
  have hWs : s.WarmedH U.vm := State.WarmedH.trans hW0 hW
  have hcl : s.vm.findClass cls = some ce.cls := by
    have h9 := hO.cls
    rw [hvm] at h9
    exact h9
  have hall : s.sameButNew ({ U with vm := s.vm } : State) locs mc ms := by
    subst hA
    obtain ⟨e1, e2⟩ := hsame
    rw [State.setFrames_setFrames] at e1
    have h2 : (T.setVm s.vm).sameButNew ({ U with vm := s.vm } : State) [] (0 + 1) (0 + 6) := ⟨e1, e2⟩
    have h3 := X.same.trans h2
    rw [List.append_nil] at h3
    exact h3.mono hc hs
  refine ⟨U, ?_, .threw T.heap.size, hrun, hend, Or.inr ⟨T.heap.size, rfl, cls, ce, locs, hx U hWs.alike f1 (fun q hq => f2 q hq (fun z hz => nomatch hz)), hce, hO.vm, hcl, hWs, hall, hf⟩⟩
  refine st1 _ ?_
  show Steps p.tables e below (T1.setTop { method := m, pc := pc + 3, locals := ls, stack := .ref T.heap.size :: rest, locked := none }) _
  jvm_step X₁.here [X₁.here.top, hexec, d3', Value.category]
  exact hsteps
/-- 'throw new E("text")': new; dup; ldc; invokespecial; athrow -/
theorem vx_throwS {cc : ByteArray} {pc : Nat} (hexec : p.tables.exec = Jvm.exec) (hb : c.code = cc) (hl : l.stackTraces = false) {own cls text : String} {names : List String} {ik is ic mc ms sa : Nat} {A : Nat → Prop}
    (hown : s.vm.findClass own = some m.cls) (hcls : Bundle.fit cls = true) (hnames : ∀ n ∈ names, Bundle.fit n = true)
    (hk : (Cond.classLink own ik cls).before args s = true) (hini : (Cond.initialized cls).before args s = true) (hstr : vk_R own is text sa s) (hat : ∀ w ∈ vx_atS own ic cls names, w.before args s = true)
    (hgood : ∀ w ∈ Cond.classLink own ik cls :: Cond.initialized cls :: vx_atS own ic cls names, vx_ot w = true)
    (hU : vx_Zq Bundle.tN "UNASSIGNED_STACK" Bundle.steD A s s.heap) (hN : vx_Zq Bundle.tN "SUPPRESSED_SENTINEL" Bundle.listD A s s.heap) (hS : va_S A s.heap H locs) (hsize : ls.size = c.maxLocals)
    (d0 : decode cc pc = .ok (.new ik, 3)) (d3 : decode cc (pc + 3) = .ok (.dup, 1)) (d4 : decode cc (pc + 4) = .ok (.ldc is, 2)) (d6 : decode cc (pc + 6) = .ok (.invokespecial ic, 3)) (d9 : decode cc (pc + 9) = .ok (.athrow, 1))
    (hout : ∀ x ∈ c.exceptionTable.toList, covers x (pc + 9) = false)
    (hRframes : names.length + 3 < R.frames) (hRlocals : (rest.map fun v => v.category).sum + (13 * (names.length + 1) + 43) ≤ R.locals) (hRcells : cells + 1 ≤ R.cells) (hRslots : slots + 6 ≤ R.slots) (hlocks : meth.locks = false)
    (hx : ∀ t : State, s.vm.Alike t.vm → H.size ≤ t.heap.size → (∀ q : Nat, q < H.size → t.heap[q]? = H[q]?) → XC cls s t)
    (hf : ∀ z ∈ locs, free z.base) (hc : cells + 1 ≤ mc) (hs : slots + 6 ≤ ms) :
    W p l e R s m args below meth c H locs cells slots (vx_MQ below Qc XC args s mc ms free) (F0 m pc ls rest) := by
  intro T hT X
  have htr : e.platform.stackTraces = false := (show e.platform.stackTraces = l.stackTraces by rw [X.admits.platform]).trans hl
  have Y := vx_rebase X (R' := { frames := R.frames, locals := R.locals, cells := 1, slots := 6 }) (Nat.le_refl _) (Nat.le_refl _) hRcells hRslots
  obtain ⟨s', hA⟩ : ∃ z, z = (T.setVm s.vm).setFrames (.invoking m args :: below) := ⟨_, rfl⟩
  rw [← hA] at Y
  have hvm : s'.vm = s.vm := by rw [hA]; rfl
  have hhp : s'.heap = H := by rw [hA]; exact hT
  have hW0 : s.WarmedH s'.vm := by rw [hvm]; exact State.WarmedH.refl s
  have hat' : ∀ w ∈ vx_atS own ic cls names, w.before args s' = true := fun w hw => vx_ot_at hW0 hvm.symm (hgood w (List.mem_cons_of_mem _ (List.mem_cons_of_mem _ hw))) (hat w hw)
  have hk' : (Cond.classLink own ik cls).before args s' = true := vx_ot_at hW0 hvm.symm (hgood _ List.mem_cons_self) hk
  have hini' : (Cond.initialized cls).before args s' = true := vx_ot_at hW0 hvm.symm (hgood _ (List.mem_cons_of_mem _ List.mem_cons_self)) hini
  have hU' : vx_Zq Bundle.tN "UNASSIGNED_STACK" Bundle.steD A s' s'.heap := by rw [hhp]; exact vx_Zq.moved hW0.alike (hU.kept hS.2.1)
  have hN' : vx_Zq Bundle.tN "SUPPRESSED_SENTINEL" Bundle.listD A s' s'.heap := by rw [hhp]; exact vx_Zq.moved hW0.alike (hN.kept hS.2.1)
  have h : ∀ w ∈ Bundle.ownAtoms own ic cls names, w.before args s' = true := vx_own hat' (vx_isRefq hU'.1) (vx_isRefq hN'.1) hU'.2.word hN'.2.word
  have hown' : s'.vm.findClass own = some m.cls := by rw [hvm]; exact hown
  have hins : (Cond.instantiable cls 6).before args s' = true := h _ (by simp [Bundle.ownAtoms])
  obtain ⟨vm₁, cX, kX, hfX, hkX, -, -, X₁, st1⟩ := Y.newCold hexec (own := own) (C := cls) (index := ik) (n := 6) hown' hk' hins hini'
    (g := F0 m pc ls rest) rfl (by rw [hb]; exact d0) (Nat.le_refl _) (Nat.le_refl _)
  generalize hT1 : (T.setVm vm₁).pushCell { cls := cX, slots := kX.instanceTypes.map defaultValue, vm := .none } = T1 at X₁ st1
  have hcat : (Value.ref T.heap.size).category = 1 := rfl
  have hcellA : T1.heap[T.heap.size]? = some (freshCell cX kX) := by rw [← hT1]; exact State.heap_pushCell_size _ _
  have d3' : decode c.code (pc + 3) = .ok (.dup, 1) := by rw [hb]; exact d3
  have d4' : decode c.code (pc + 4) = .ok (.ldc is, 2) := by rw [hb]; exact d4
  have hstr' : vk_R own is text sa s' := vk_R.warm hW0 hstr
  obtain ⟨U, hsteps, hrun, hend, hW, hsame, ce, hce, hO⟩ := X₁.ctorThrowS hexec htr (own := own) (cls := cls) (names := names) (ic := ic) hown' hcls hnames h (fun x hx => nomatch hx) hfX hkX hcellA (by rw [hhp, hT]; exact Nat.le_refl _) (msg := .ref sa) rfl
    (g := { method := m, pc := pc + 6, locals := ls, stack := .ref sa :: .ref T.heap.size :: .ref T.heap.size :: rest, locked := none }) rfl hsize rfl rfl (rest := rest) rfl
    (by rw [hb]; exact d6) (by rw [hb]; exact d9) hout hRframes (by simp only [List.map_cons, List.sum_cons, hcat]; omega) hlocks
  obtain ⟨f1, f2⟩ := vx_frame hsame
  rw [hhp] at f1 f2
  have hWs : s.WarmedH U.vm := State.WarmedH.trans hW0 hW
  have hcl : s.vm.findClass cls = some ce.cls := by
    have h9 := hO.cls
    rw [hvm] at h9
    exact h9
  have hall : s.sameButNew ({ U with vm := s.vm } : State) locs mc ms := by
    subst hA
    obtain ⟨e1, e2⟩ := hsame
    rw [State.setFrames_setFrames] at e1
    have h2 : (T.setVm s.vm).sameButNew ({ U with vm := s.vm } : State) [] (0 + 1) (0 + 6) := ⟨e1, e2⟩
    have h3 := X.same.trans h2
    rw [List.append_nil] at h3
    exact h3.mono hc hs
  refine ⟨U, ?_, .threw T.heap.size, hrun, hend, Or.inr ⟨T.heap.size, rfl, cls, ce, locs, hx U hWs.alike f1 (fun q hq => f2 q hq (fun z hz => nomatch hz)), hce, hO.vm, hcl, hWs, hall, hf⟩⟩
  refine st1 _ ?_
  show Steps p.tables e below (T1.setTop { method := m, pc := pc + 3, locals := ls, stack := .ref T.heap.size :: rest, locked := none }) _
  jvm_step X₁.here [X₁.here.top, hexec, d3', Value.category]
  exact X₁.ldcString hexec (own := own) (text := text) (index := is) (a := sa) hown' hstr'.1 hstr'.2
    (g := { method := m, pc := pc + 4, locals := ls, stack := .ref T.heap.size :: .ref T.heap.size :: rest, locked := none }) rfl d4' _ hsteps
/-- 'throw new E("text")', the text by a wide index -/
theorem vx_throwSW {cc : ByteArray} {pc : Nat} (hexec : p.tables.exec = Jvm.exec) (hb : c.code = cc) (hl : l.stackTraces = false) {own cls text : String} {names : List String} {ik is ic mc ms sa : Nat} {A : Nat → Prop}
    (hown : s.vm.findClass own = some m.cls) (hcls : Bundle.fit cls = true) (hnames : ∀ n ∈ names, Bundle.fit n = true)
    (hk : (Cond.classLink own ik cls).before args s = true) (hini : (Cond.initialized cls).before args s = true) (hstr : vk_R own is text sa s) (hat : ∀ w ∈ vx_atS own ic cls names, w.before args s = true)
    (hgood : ∀ w ∈ Cond.classLink own ik cls :: Cond.initialized cls :: vx_atS own ic cls names, vx_ot w = true)
    (hU : vx_Zq Bundle.tN "UNASSIGNED_STACK" Bundle.steD A s s.heap) (hN : vx_Zq Bundle.tN "SUPPRESSED_SENTINEL" Bundle.listD A s s.heap) (hS : va_S A s.heap H locs) (hsize : ls.size = c.maxLocals)
    (d0 : decode cc pc = .ok (.new ik, 3)) (d3 : decode cc (pc + 3) = .ok (.dup, 1)) (d4 : decode cc (pc + 4) = .ok (.ldc_w is, 3)) (d7 : decode cc (pc + 7) = .ok (.invokespecial ic, 3)) (d10 : decode cc (pc + 10) = .ok (.athrow, 1))
    (hout : ∀ x ∈ c.exceptionTable.toList, covers x (pc + 10) = false)
    (hRframes : names.length + 3 < R.frames) (hRlocals : (rest.map fun v => v.category).sum + (13 * (names.length + 1) + 43) ≤ R.locals) (hRcells : cells + 1 ≤ R.cells) (hRslots : slots + 6 ≤ R.slots) (hlocks : meth.locks = false)
    (hx : ∀ t : State, s.vm.Alike t.vm → H.size ≤ t.heap.size → (∀ q : Nat, q < H.size → t.heap[q]? = H[q]?) → XC cls s t)
    (hf : ∀ z ∈ locs, free z.base) (hc : cells + 1 ≤ mc) (hs : slots + 6 ≤ ms) :
    W p l e R s m args below meth c H locs cells slots (vx_MQ below Qc XC args s mc ms free) (F0 m pc ls rest) := by
  intro T hT X
  have htr : e.platform.stackTraces = false := (show e.platform.stackTraces = l.stackTraces by rw [X.admits.platform]).trans hl
  have Y := vx_rebase X (R' := { frames := R.frames, locals := R.locals, cells := 1, slots := 6 }) (Nat.le_refl _) (Nat.le_refl _) hRcells hRslots
  obtain ⟨s', hA⟩ : ∃ z, z = (T.setVm s.vm).setFrames (.invoking m args :: below) := ⟨_, rfl⟩
  rw [← hA] at Y
  have hvm : s'.vm = s.vm := by rw [hA]; rfl
  have hhp : s'.heap = H := by rw [hA]; exact hT
  have hW0 : s.WarmedH s'.vm := by rw [hvm]; exact State.WarmedH.refl s
  have hat' : ∀ w ∈ vx_atS own ic cls names, w.before args s' = true := fun w hw => vx_ot_at hW0 hvm.symm (hgood w (List.mem_cons_of_mem _ (List.mem_cons_of_mem _ hw))) (hat w hw)
  have hk' : (Cond.classLink own ik cls).before args s' = true := vx_ot_at hW0 hvm.symm (hgood _ List.mem_cons_self) hk
  have hini' : (Cond.initialized cls).before args s' = true := vx_ot_at hW0 hvm.symm (hgood _ (List.mem_cons_of_mem _ List.mem_cons_self)) hini
  have hU' : vx_Zq Bundle.tN "UNASSIGNED_STACK" Bundle.steD A s' s'.heap := by rw [hhp]; exact vx_Zq.moved hW0.alike (hU.kept hS.2.1)
  have hN' : vx_Zq Bundle.tN "SUPPRESSED_SENTINEL" Bundle.listD A s' s'.heap := by rw [hhp]; exact vx_Zq.moved hW0.alike (hN.kept hS.2.1)
  have h : ∀ w ∈ Bundle.ownAtoms own ic cls names, w.before args s' = true := vx_own hat' (vx_isRefq hU'.1) (vx_isRefq hN'.1) hU'.2.word hN'.2.word
  have hown' : s'.vm.findClass own = some m.cls := by rw [hvm]; exact hown
  have hins : (Cond.instantiable cls 6).before args s' = true := h _ (by simp [Bundle.ownAtoms])
  obtain ⟨vm₁, cX, kX, hfX, hkX, -, -, X₁, st1⟩ := Y.newCold hexec (own := own) (C := cls) (index := ik) (n := 6) hown' hk' hins hini'
    (g := F0 m pc ls rest) rfl (by rw [hb]; exact d0) (Nat.le_refl _) (Nat.le_refl _)
  generalize hT1 : (T.setVm vm₁).pushCell { cls := cX, slots := kX.instanceTypes.map defaultValue, vm := .none } = T1 at X₁ st1
  have hcat : (Value.ref T.heap.size).category = 1 := rfl
  have hcellA : T1.heap[T.heap.size]? = some (freshCell cX kX) := by rw [← hT1]; exact State.heap_pushCell_size _ _
  have d3' : decode c.code (pc + 3) = .ok (.dup, 1) := by rw [hb]; exact d3
  have d4' : decode c.code (pc + 4) = .ok (.ldc_w is, 3) := by rw [hb]; exact d4
  have hstr' : vk_R own is text sa s' := vk_R.warm hW0 hstr
  obtain ⟨U, hsteps, hrun, hend, hW, hsame, ce, hce, hO⟩ := X₁.ctorThrowS hexec htr (own := own) (cls := cls) (names := names) (ic := ic) hown' hcls hnames h (fun x hx => nomatch hx) hfX hkX hcellA (by rw [hhp, hT]; exact Nat.le_refl _) (msg := .ref sa) rfl
    (g := { method := m, pc := pc + 7, locals := ls, stack := .ref sa :: .ref T.heap.size :: .ref T.heap.size :: rest, locked := none }) rfl hsize rfl rfl (rest := rest) rfl
    (by rw [hb]; exact d7) (by rw [hb]; exact d10) hout hRframes (by simp only [List.map_cons, List.sum_cons, hcat]; omega) hlocks
  obtain ⟨f1, f2⟩ := vx_frame hsame
  rw [hhp] at f1 f2
  have hWs : s.WarmedH U.vm := State.WarmedH.trans hW0 hW
  have hcl : s.vm.findClass cls = some ce.cls := by
    have h9 := hO.cls
    rw [hvm] at h9
    exact h9
  have hall : s.sameButNew ({ U with vm := s.vm } : State) locs mc ms := by
    subst hA
    obtain ⟨e1, e2⟩ := hsame
    rw [State.setFrames_setFrames] at e1
    have h2 : (T.setVm s.vm).sameButNew ({ U with vm := s.vm } : State) [] (0 + 1) (0 + 6) := ⟨e1, e2⟩
    have h3 := X.same.trans h2
    rw [List.append_nil] at h3
    exact h3.mono hc hs
  refine ⟨U, ?_, .threw T.heap.size, hrun, hend, Or.inr ⟨T.heap.size, rfl, cls, ce, locs, hx U hWs.alike f1 (fun q hq => f2 q hq (fun z hz => nomatch hz)), hce, hO.vm, hcl, hWs, hall, hf⟩⟩
  refine st1 _ ?_
  show Steps p.tables e below (T1.setTop { method := m, pc := pc + 3, locals := ls, stack := .ref T.heap.size :: rest, locked := none }) _
  jvm_step X₁.here [X₁.here.top, hexec, d3', Value.category]
  exact X₁.ldcStringW hexec (own := own) (text := text) (index := is) (a := sa) hown' hstr'.1 hstr'.2
    (g := { method := m, pc := pc + 4, locals := ls, stack := .ref T.heap.size :: .ref T.heap.size :: rest, locked := none }) rfl d4' _ hsteps
end Ends
section Bodies
variable {l : Launch}
theorem vx_ofW {y : MethodName} {ws ws' : List Cond} {rm : Room} {Pc : Array Value → State → Prop} {Qc : Array Value → State → Outcome → State → Prop} {XC : String → State → State → Prop} {mc ms : Nat} {free : Addr → Prop} {cc : ByteArray} {maxL : Nat} {ret : Option FieldType}
    (hy : plainName y.cls = true) (hw : ws = Cond.code y cc maxL ret :: ws')
    (body : ∀ p e s m args below meth c s₁, BodyLoose p l y (headSpec ws rm) cc maxL ret e s m args below meth c s₁ → c.maxLocals = maxL → (∀ x ∈ c.exceptionTable.toList, False) → Pc args s →
      W p l e (headSpec ws rm).room s m args below meth c s.heap [] 0 0 (vx_MQ below Qc XC args s mc ms free) (entryFrame m args maxL)) : vx_Met l y ws rm Pc Qc XC mc ms free := by
  refine MetFree.of_bodyS (code := cc) (maxLocals := maxL) (ret := ret) hy ?_ ?_
  · intro args s m h hn
    obtain ⟨meth, c, h1, h2, h3, h4, h5, h6, -, -⟩ := Cond.code_spec hn (atoms_spec (ws := ws) h _ (by rw [hw]; exact List.mem_cons_self))
    exact ⟨meth, c, h1, h2, h3, h4, h5, h6⟩
  · intro p e s m args below meth c s₁ B hml hP _
    have hh0 : s₁.heap = s.heap := by rw [B.state]; rfl
    have ht : ∀ x ∈ c.exceptionTable.toList, False := by
      obtain ⟨meth9, c9, h1, h2, -, -, -, -, h7, -⟩ := Cond.code_spec B.named (atoms_spec (ws := ws) B.pre _ (by rw [hw]; exact List.mem_cons_self))
      cases Option.some.inj (h1.symm.trans B.method)
      cases Option.some.inj (h2.symm.trans (Stand.of_body B).code)
      intro x hx
      rw [Array.isEmpty_iff.mp h7] at hx
      cases hx
    obtain ⟨t, a1, o, b1, b2, b3⟩ := body p e s m args below meth c s₁ B hml ht hP s₁ hh0 (Stand.of_body B)
    exact ⟨t, o, a1, b1, b2, b3⟩
/-- the table of a body with handlers -/
theorem vx_table {p : Program} {x y : MethodName} {S : Spec} {cc bytes : ByteArray} {maxL maxL' : Nat} {ret ret' : Option FieldType} {e : Env} {s s₁ : State} {m : MethodId} {args : Array Value} {below : List Frame} {meth : Method} {c : Code} {hh : List (Nat × Nat × Nat × Nat)}
    (B : BodyLoose p l y S cc maxL ret e s m args below meth c s₁) (h : (Cond.codeWith y bytes maxL' ret' hh).before args s = true) : c.exceptionTable.toList = tableOf hh := by
  obtain ⟨m9, meth9, c9, hn9, h1, h2, -, -, h6, -⟩ := Cond.codeWith_spec h
  cases Option.some.inj (hn9.symm.trans B.named)
  cases Option.some.inj (h1.symm.trans B.method)
  cases Option.some.inj (h2.symm.trans (Stand.of_body B).code)
  rw [← h6, table_eq]
end Bodies
end VXA
/-! ===== END ===== -/
/-! ===== BEGIN a static call of a method with an exception table ===== -/
section VXS
variable {p : Program} {l : Launch} {e : Env} {R : Room} {s : State} {m : MethodId} {args : Array Value} {below : List Frame} {meth : Method} {c : Code} {T : State} {H : Heap} {locs : List Loc} {cells slots : Nat}
abbrev vx_CSW (R : Room) (s : State) (args : Array Value) (own : String) (index : Nat) (y : MethodName) (bytes : ByteArray) (maxL : Nat) (ret : Option FieldType) (hh : List (Nat × Nat × Nat × Nat)) (ws : List Cond) (rm : Room) (mc ms n : Nat) : Prop :=
  (rm.cells = mc ∧ rm.slots = ms ∧ rm.frames + 1 ≤ R.frames ∧ 8 + (maxL + 11) + rm.locals ≤ R.locals ∧ (∀ w ∈ ws, ∀ (a' : Array Value) (U : State), s.WarmedH U.vm → w.before a' U = true) ∧ Cond.codeWith y bytes maxL ret hh ∈ ws) ∧
  (Cond.codeWith y bytes maxL ret hh).before args s = true ∧ (Cond.initialized y.cls).before args s = true ∧ (y.cls ≠ "java/lang/invoke/MethodHandle" ∧ y.cls ≠ "java/lang/invoke/VarHandle") ∧
  (∀ sig, parseMethodDescriptor y.desc = some sig → n = sig.parameters.length) ∧ (Cond.methodLink own index y).before args s = true ∧ (Cond.static y).before args s = true
theorem vx_cwSW {own : String} {index maxL mc ms : Nat} {y : MethodName} {bytes : ByteArray} {ret : Option FieldType} {hh : List (Nat × Nat × Nat × Nat)} {Ts ws ws' : List Cond} {rm : Room} (n : Nat) (ht : ∀ w ∈ Ts, w.before args s = true) (hT : GoodIn Ts (va_wsS own index y ws)) (hw : ws = Cond.codeWith y bytes maxL ret hh :: ws') (hrc : rm.cells = mc) (hrs : rm.slots = ms)
    (hd : y.cls ≠ "java/lang/invoke/MethodHandle" ∧ y.cls ≠ "java/lang/invoke/VarHandle" ∧ (parseMethodDescriptor y.desc).map (fun d => d.parameters.length) = some n) (hR : rm.frames + 1 ≤ R.frames ∧ 8 + (maxL + 11) + rm.locals ≤ R.locals) :
    vx_CSW R s args own index y bytes maxL ret hh ws rm mc ms n := by
  have ok : ∀ w ∈ va_wsS own index y ws, w.before args s = true := fun w h => ht w (hT w h).1
  have hG : GoodIn Ts ws := fun w h => hT w (by unfold va_wsS; exact List.mem_append_right _ h)
  have hc : Cond.codeWith y bytes maxL ret hh ∈ ws := by rw [hw]; exact List.mem_cons_self
  refine ⟨⟨hrc, hrs, hR.1, hR.2, pay_in ht hG, hc⟩, ht _ (hG _ hc).1, ok _ (by simp [va_wsS]), ⟨hd.1, hd.2.1⟩, fun sig h => ?_, ok _ (by simp [va_wsS]), ok _ (by simp [va_wsS])⟩
  have h2 := hd.2.2
  rw [h] at h2
  exact (Option.some.inj h2).symm
theorem vx_callSW (X : Stand p l e R s m args below meth c T locs cells slots) (hexec : p.tables.exec = Jvm.exec) {own : String} {index : Nat} {y : MethodName} {bytes : ByteArray} {maxL : Nat} {ret : Option FieldType} {hh : List (Nat × Nat × Nat × Nat)}
    (hown : s.vm.findClass own = some m.cls) (hlink : (Cond.methodLink own index y).before args s = true) (hstat : (Cond.static y).before args s = true) (hinit : (Cond.initialized y.cls).before args s = true)
    (hcode : (Cond.codeWith y bytes maxL ret hh).before args s = true) (hy : y.cls ≠ "java/lang/invoke/MethodHandle" ∧ y.cls ≠ "java/lang/invoke/VarHandle")
    {W9 : Nat} {Pre : Pt → Array Value → Prop} {Post : Pt → Array Value → Option Value → Pt → Prop} (hK : Back l R p e below s args y 3 W9 Pre Post)
    {g : JFrame} (hg : g.method = m) (hsize : g.locals.size = c.maxLocals) {argsL rest : List Value} (hlen : ∀ sig, parseMethodDescriptor y.desc = some sig → argsL.length = sig.parameters.length)
    (hstack : g.stack = argsL.reverse ++ rest) (hW : 2 * g.monitorRoom + (rest.map fun v => v.category).sum ≤ W9) (hdg : decode c.code g.pc = .ok (.invokestatic index, 3))
    (hpre : ∀ vm₁, s.WarmedH vm₁ → Pre ⟨T.setVm vm₁, locs, cells, slots⟩ argsL.toArray) :
    ∃ (v : Option Value) (vm₁ : Vm) (B : Pt), s.WarmedH vm₁ ∧ Stand p l e R s m args below meth c B.U B.locs B.cells B.slots ∧ Post ⟨T.setVm vm₁, locs, cells, slots⟩ argsL.toArray v B ∧
      ∀ target, Steps p.tables e below (B.U.setTop { g with pc := g.pc + 3, stack := v.toList ++ rest }) target → Steps p.tables e below (T.setTop g) target := by
  obtain ⟨mk, methM, cM, hnamed, hmethM, -, -, -, -, -, -, hsigM⟩ := Cond.codeWith_spec hcode
  have hstatic : methM.isStatic = true := Cond.static_spec hnamed hmethM hstat
  obtain ⟨kP, hkP, -⟩ := className_of_methodNamed hnamed
  have hinitP : kP.init = .initialized := Cond.initialized_spec (findClass_of_methodNamed hnamed) hkP hinit
  obtain ⟨vm₁, X₁, hstep₁⟩ := X.invokestatic hexec hown hlink hnamed hmethM hstatic hkP hinitP hy (g := g) hg (argsL := argsL) (rest := rest) (hlen _ hsigM) hstack hdg
  obtain ⟨v, B, X', hpost, hsteps⟩ := hK m meth c ⟨T.setVm vm₁, locs, cells, slots⟩ { g with stack := rest } (.invokestatic index) mk argsL.toArray X₁ hg hsize hdg hW (X₁.named hnamed) (hpre vm₁ X₁.warmed)
  exact ⟨v, vm₁, B, X₁.warmed, X', hpost, fun target h => hstep₁ _ fun acts => by rw [doInvoke_state]; exact hsteps.trans h⟩
theorem vx_runSW {y : MethodName} {bytes cc : ByteArray} {maxL nL mc ms n index : Nat} {ret : Option FieldType} {hh : List (Nat × Nat × Nat × Nat)} {ws : List Cond} {rm : Room} {Pc : Array Value → State → Prop} {Qc : Array Value → State → Outcome → State → Prop} {free : Addr → Prop} {Ts : List Cond} {own : String} {As rest : List Value} {g : JFrame}
    (S : CallFix p m c cc nL s args Ts own) (hM : Met l y ws rm Pc Qc mc ms free) (cw : vx_CSW R s args own index y bytes maxL ret hh ws rm mc ms n) (hp : PreS s H Pc As)
    (hg : g.method = m) (hn : As.length = n) (hsize : g.locals.size = nL) (hstack : g.stack = As.reverse ++ rest) (hW : 2 * g.monitorRoom + (rest.map fun v => v.category).sum ≤ 8) (hdg : decode cc g.pc = .ok (.invokestatic index, 3)) (hf : cells + mc ≤ R.cells ∧ slots + ms ≤ R.slots) :
    va_Run p l e R s m args below meth c H locs cells slots mc ms g rest (Qc As.toArray) (free) := by
  obtain ⟨⟨hrc, hrs, hfr, hlo, hws, hcw⟩, hcode, hini, hy, hlen, hl, hstt⟩ := cw
  have hK : Back l R p e below s args y 3 8 (PreOf R mc ms Pc) (PostOf Qc mc ms free) := va_backW (hh := hh) (bytes := bytes) (maxL := maxL) (ret := ret) hM hp.1 hrc hrs hfr hlo hws hcw (fun a' U hW => word_at hW (Or.inl (by first | rfl | simp [Cond.onTables, Cond.keeps, Cond.steady])) hini)
  obtain ⟨hx, hb, hml, ho, -⟩ := S
  intro T hT X
  obtain ⟨v, vm₁, ⟨U', l2, c2, s2⟩, hW₁, X', ⟨g', mk, t, L, e1, e2, hq, h1, hL, h2, h3⟩, st⟩ := vx_callSW X hx (hh := hh) (bytes := bytes) (maxL := maxL) (ret := ret) ho hl hstt hini hcode hy hK hg (hsize.trans hml.symm) (argsL := As) (rest := rest) (fun sig h => hn.trans (hlen sig h)) hstack hW (by rw [hb]; exact hdg)
    (fun vm₁ hW₁ => ⟨hf.1, hf.2, hp.2 (T.setVm vm₁) hT hW₁⟩)
  dsimp only [Pt.U, Pt.locs, Pt.cells, Pt.slots] at X' e1 e2 h1 h2 h3 st
  subst h1; subst h2; subst h3
  exact ⟨v, (T.setVm vm₁).calling g' mk As.toArray, t, U', L, hT, X', hL, e1, e2, hq, st⟩
/-- not caught here, past rows that name other classes: it goes on to the caller -/
theorem vx_outP {p : Program} {l : Launch} {e : Env} {R : Room} {s : State} {m : MethodId} {args : Array Value} {below : List Frame} {meth : Method} {c : Code} {H : Heap} {locs : List Loc} {cells slots : Nat} {free : Addr → Prop} {ls : Array Slot} {rest : List Value} {Qc : Array Value → State → Outcome → State → Prop} {XC : String → State → State → Prop}
    {pc : Nat} {own E : String} {ce : Cell} {q : Addr} {mc ms : Nat} (hown : s.vm.findClass own = some m.cls) (hlocks : meth.locks = false)
    (hpass : ∀ z ∈ c.exceptionTable.toList, covers z pc = false ∨ (z.catchType ≠ 0 ∧ ∃ nm : String, (Cond.classLink own z.catchType nm).before args s = true ∧ va_Nc E nm s)) (hcell : H[q]? = some ce) (hv : ce.vm = .none) (hcl : s.vm.findClass E = some ce.cls)
    (hx : ∀ t : State, t.heap = H → s.vm.Alike t.vm → XC E s t) (hf : ∀ z ∈ locs, free z.base) (hc : cells ≤ mc) (hs : slots ≤ ms) :
    vx_W p l e R s m args below meth c H locs cells slots (vx_MQ below Qc XC args s mc ms free) (F0 m pc ls rest) q := by
  intro T hT X
  have hpl : e.platform.magicAccessors = ({} : Platform).magicAccessors := by rw [X.admits.platform]
  obtain ⟨vm', hW', X', st⟩ := X.outThrough hlocks q (g := F0 m pc ls rest) rfl rfl rfl (cell := ce) (by rw [hT]; exact hcell) (by rw [hv]; rfl)
    (by obtain ⟨k9, h9, -⟩ := Vm.findClass_spec hcl; exact ⟨k9, h9⟩) (fun z hz => by
      rcases hpass z hz with h | ⟨hz0, nm, hl1, hn1⟩
      · exact Or.inl h
      · obtain ⟨c6, hc6, hcl6⟩ := Cond.classLink_spec hown hl1 e.platform hpl
        obtain ⟨a8, b8, h1, h2, h3⟩ := hn1
        cases Option.some.inj (h1.symm.trans hcl)
        cases Option.some.inj (h2.symm.trans hc6)
        exact Or.inr ⟨hz0, _, hcl6, h3⟩)
  obtain ⟨g₀, hfr⟩ := X'.frames_eq
  have hcell9 : ((T.setVm vm').setFrames (.throwing q :: below)).heap[q]? = some ce := by
    show T.heap[q]? = some ce
    rw [hT]; exact hcell
  have hend : Ended ((T.setVm vm').setFrames (.throwing q :: below)) below (.threw q) := State.frames_setFrames _ (State.cur_lt_of_frames hfr)
  refine ⟨(T.setVm vm').setFrames (.throwing q :: below), ?_, .threw q, X'.here.running, hend, Or.inr ⟨q, rfl, E, ce, locs, hx _ hT (X'.ends _).1.alike, hcell9, hv, hcl, (X'.ends _).1, (X'.ends _).2.mono hc hs, hf⟩⟩
  rw [X.pushThrowing_eq]
  exact st
/-- a thing of a world lies in the heap -/
theorem vx_lt {D : va_G} {cl : List vw_C} {ws : va_W} {H1 : Heap} (h : va_P D cl ws H1) {k : Nat} {q : Nat × va_E} (hk : ws[k]? = some q) : q.1 < H1.size := (h k q hk).lt
end VXS
/-! ===== END ===== -/
/-! ===== BEGIN methods with a table of their own: called by a name, returning or throwing ===== -/
section VXH
/-! vx_backW, vx_callVX, vx_callSX, vx_callVW, vx_runVW, vx_runVX, vx_runSX, vx_ofWH follow the same proofs as their sisters above (Free/Laws.lean, Shelf42/LK1.lean); vx_outP calls Shelf42/NT130.lean (outThrough). -/
section
variable {l : Launch} {R : Room} {p : Program} {e : Env} {below : List Frame} {s : State} {sargs : Array Value} {y : MethodName} {len W9 : Nat}
theorem vx_backW {ws : List Cond} {rm : Room} {Pc : Array Value → State → Prop} {Qc : Array Value → State → Outcome → State → Prop} {XC : String → State → State → Prop} {mc ms : Nat} {free : Addr → Prop} {bytes : ByteArray} {maxL : Nat} {ret : Option FieldType} {hh : List (Nat × Nat × Nat × Nat)}
    (hM : vx_Met l y ws rm Pc Qc XC mc ms free) (hblind : FrameBlind Pc) (hrc : rm.cells = mc) (hrs : rm.slots = ms)
    (hframes : rm.frames + 1 ≤ R.frames) (hlocals : W9 + (maxL + 11) + rm.locals ≤ R.locals)
    (hws : ∀ w ∈ ws, ∀ a' U, s.WarmedH U.vm → w.before a' U = true) (hcode : Cond.codeWith y bytes maxL ret hh ∈ ws) (hinit : ∀ a' U, s.WarmedH U.vm → (Cond.initialized y.cls).before a' U = true) :
    vx_Back l R p e below s sargs y len W9 (PreOf R mc ms Pc) (PostOf Qc mc ms free) (vx_Post XC mc ms free) := by
  intro m meth c A g ig mk a X hg hsize hdg hW hn hp
  have h1 : (headSpec ws rm).pre.before a A.U = true := atoms_intro fun w hw => hws w hw _ _ X.warmed
  have h2 : (Cond.codeWith y bytes maxL ret hh).before a A.U = true := hws _ hcode _ _ X.warmed
  have h3 : (Cond.initialized y.cls).before a A.U = true := hinit _ _ X.warmed
  have h4 : A.cells + (headSpec ws rm).room.cells ≤ R.cells := by rw [show (headSpec ws rm).room.cells = mc from hrc]; exact hp.1
  have h5 : A.slots + (headSpec ws rm).room.slots ≤ R.slots := by rw [show (headSpec ws rm).room.slots = ms from hrs]; exact hp.2.1
  have hPc : Pc a (A.U.calling g mk a) := hblind _ _ _ _ hp.2.2
  obtain ⟨U, Ls, c0, s0⟩ := A
  dsimp only [Pt.U, Pt.locs, Pt.cells, Pt.slots] at h1 h2 h3 h4 h5 X hn hPc ⊢
  obtain ⟨m9, methY, cY, hn9, hmY, hcY, -, hlY, -⟩ := Cond.codeWith_spec h2
  cases Option.some.inj (hn9.symm.trans hn)
  obtain ⟨kY, hkY, -⟩ := className_of_methodNamed hn
  have hinitY : kY.init = .initialized := Cond.initialized_spec (findClass_of_methodNamed hn) hkY h3
  have h : At U g.method c below := by rw [hg]; exact X.here
  have hlocals9 : W9 + (maxL + 11) + (headSpec ws rm).room.locals ≤ R.locals := hlocals
  have happ : (headSpec ws rm).appliesLoose y e.platform (U.calling g mk a) = true :=
    Spec.appliesLoose_calling (g := g) h hdg hn hkY hinitY
      (X.room_calling (g := g) (R' := (headSpec ws rm).room) hsize hmY hcY hframes (by rw [hlY]; omega) h4 h5) h1
  obtain ⟨mid, hmid⟩ := h.above
  have hfr : (U.setTop g).frames = (.java g :: mid) ++ below := by rw [State.frames_setTop' g h.top, hmid]; rfl
  obtain ⟨o, s₂, hsteps, -, hend, hq⟩ := Steps.callFree hM p X.admits X.cas X.clock (acts := []) hfr happ hPc trivial
  have hq' : vx_Q Qc XC mc ms free a (U.calling g mk a) o s₂ := hq
  rw [State.frames_setTop' g h.top] at hend
  obtain ⟨g₀, hg0⟩ := Option.isSome_iff_exists.mp h.top
  obtain ⟨r, hr⟩ := State.topJava?_eq_some.mp hg0
  have hr' : (({ U with heap := s₂.heap, slotsUsed := s₂.slotsUsed } : State).setVm s₂.vm).frames = .java g₀ :: r := hr
  rcases hq' with ⟨hqc, L, hfe, hL⟩ | ⟨q, rfl, E, ce, L, hx, hce, hcv, hcl, hW₂, hsm, hL⟩
  · obtain ⟨⟨v, rfl⟩, hW₂, e2, q2, q3, q4, q5, q6⟩ := id hfe
    have e3 : s₂ = ({ (U.calling g mk a).setFrames s₂.frames with heap := s₂.heap, slotsUsed := s₂.slotsUsed } : State).setVm s₂.vm := by
      have : s₂ = ({ s₂ with vm := (U.calling g mk a).vm } : State).setVm s₂.vm := rfl
      rw [e2] at this
      exact this
    obtain ⟨c₂, i₂, len₂, hc₂, hd₂, hf₂⟩ := hend
    have hW' : U.WarmedH s₂.vm := hW₂
    have hcc : c₂ = c := by
      have h1 : s₂.code? g.method = U.code? g.method := by
        rw [State.code?_eq, State.code?_eq, hW'.alike.method?]
      exact Option.some.inj (hc₂.symm.trans (h1.trans h.code))
    subst hcc
    have hlen : len₂ = len := by rw [hdg] at hd₂; cases hd₂; rfl
    subst hlen
    have hs₂ : s₂ = (({ U with heap := s₂.heap, slotsUsed := s₂.slotsUsed } : State).setVm s₂.vm).setTop { g with pc := g.pc + len₂, stack := v.toList ++ g.stack } := by
      refine e3.trans ?_
      rw [hf₂, State.calling_eq h.top, State.setFrames_setFrames, State.setTop_of_frames _ hr', hr]
      rfl
    have hsame : U.sameButNew ({ U with heap := s₂.heap, slotsUsed := s₂.slotsUsed } : State) L mc ms := by
      refine ⟨?_, q2, q3, q4, q5, q6⟩
      obtain ⟨t, ht, -⟩ := State.frames_cons hr
      show ({ U with heap := s₂.heap, slotsUsed := s₂.slotsUsed } : State) = { U.setFrames U.frames with heap := s₂.heap, slotsUsed := s₂.slotsUsed }
      rw [State.setFrames_self ht]
    subst hg
    refine Or.inl ⟨v, ⟨(({ U with heap := s₂.heap, slotsUsed := s₂.slotsUsed } : State).setVm s₂.vm), Ls ++ L, c0 + mc, s0 + ms⟩,
      ⟨X.admits, X.cas, X.clock, X.frames, X.room, X.hears, X.method, X.code, (X.here.setHeapUsed s₂.heap s₂.slotsUsed).setVm hW'.alike, X.tail, State.WarmedH.trans X.warmed hW', X.limits, X.bytes, X.same.trans (hsame.setVm s.vm)⟩,
      ⟨g, mk, s₂, L, rfl, rfl, hqc, rfl, hL, rfl, rfl⟩, ?_⟩
    show Steps p.tables e below _ ((({ U with heap := s₂.heap, slotsUsed := s₂.slotsUsed } : State).setVm s₂.vm).setTop { g with pc := g.pc + len₂, stack := v.toList ++ g.stack })
    rw [← hs₂]
    exact hsteps
  · obtain ⟨e2, q2, q3, q4, q5, q6⟩ := id hsm
    have e3 : s₂ = ({ (U.calling g mk a).setFrames s₂.frames with heap := s₂.heap, slotsUsed := s₂.slotsUsed } : State).setVm s₂.vm := by
      have : s₂ = ({ s₂ with vm := (U.calling g mk a).vm } : State).setVm s₂.vm := rfl
      rw [e2] at this
      exact this
    have hf₂ : s₂.frames = .throwing q :: .java g :: U.frames.tail := hend
    have hW' : U.WarmedH s₂.vm := hW₂
    have hs₂ : s₂ = ((({ U with heap := s₂.heap, slotsUsed := s₂.slotsUsed } : State).setVm s₂.vm).setTop g).pushFrame (.throwing q) := by
      refine e3.trans ?_
      rw [hf₂, State.calling_eq h.top, State.setFrames_setFrames, State.pushFrame, State.frames_setTop _ hr', State.setTop_of_frames _ hr', State.setFrames_setFrames, hr]
      rfl
    have hsame : U.sameButNew ({ U with heap := s₂.heap, slotsUsed := s₂.slotsUsed } : State) L mc ms := by
      refine ⟨?_, q2, q3, q4, q5, q6⟩
      obtain ⟨t, ht, -⟩ := State.frames_cons hr
      show ({ U with heap := s₂.heap, slotsUsed := s₂.slotsUsed } : State) = { U.setFrames U.frames with heap := s₂.heap, slotsUsed := s₂.slotsUsed }
      rw [State.setFrames_self ht]
    subst hg
    refine Or.inr ⟨q, ⟨(({ U with heap := s₂.heap, slotsUsed := s₂.slotsUsed } : State).setVm s₂.vm), Ls ++ L, c0 + mc, s0 + ms⟩,
      ⟨X.admits, X.cas, X.clock, X.frames, X.room, X.hears, X.method, X.code, (X.here.setHeapUsed s₂.heap s₂.slotsUsed).setVm hW'.alike, X.tail, State.WarmedH.trans X.warmed hW', X.limits, X.bytes, X.same.trans (hsame.setVm s.vm)⟩,
      ⟨g, mk, s₂, L, E, ce, rfl, rfl, hx, hce, hcv, hcl, rfl, hL, rfl, rfl⟩, ?_⟩
    show Steps p.tables e below _ (((({ U with heap := s₂.heap, slotsUsed := s₂.slotsUsed } : State).setVm s₂.vm).setTop g).pushFrame (.throwing q))
    rw [← hs₂]
    exact hsteps
end
variable {p : Program} {l : Launch} {e : Env} {R : Room} {s : State} {m : MethodId} {args : Array Value} {below : List Frame} {meth : Method} {c : Code} {T : State} {H : Heap} {locs : List Loc} {cells slots : Nat}
theorem vx_callVX (X : Stand p l e R s m args below meth c T locs cells slots) (hexec : p.tables.exec = Jvm.exec) {own C : String} {index : Nat} {y : MethodName} {bytes : ByteArray} {maxL : Nat} {ret : Option FieldType} {hh : List (Nat × Nat × Nat × Nat)}
    (hown : s.vm.findClass own = some m.cls) (hlink : (Cond.methodLink own index y).before args s = true) (hinst : (Cond.instanceMethod y).before args s = true) (hsel : (Cond.selects C y y).before args s = true)
    (hcode : (Cond.codeWith y bytes maxL ret hh).before args s = true) (hy : y.cls ≠ "java/lang/invoke/MethodHandle" ∧ y.cls ≠ "java/lang/invoke/VarHandle")
    {W9 : Nat} {Pre : Pt → Array Value → Prop} {Post : Pt → Array Value → Option Value → Pt → Prop} {PostX : Pt → Array Value → Addr → Pt → Prop} (hK : vx_Back l R p e below s args y 3 W9 Pre Post PostX)
    {b : Addr} {cellB : Cell} (hcell : T.heap[b]? = some cellB) (hobj : cellB.vm.isStatics = false) (hcls : s.vm.findClass C = some cellB.cls)
    {g : JFrame} (hg : g.method = m) (hsize : g.locals.size = c.maxLocals) {argsL rest : List Value} (hlen : ∀ sig, parseMethodDescriptor y.desc = some sig → argsL.length = sig.parameters.length)
    (hstack : g.stack = argsL.reverse ++ .ref b :: rest) (hW : 2 * g.monitorRoom + (rest.map fun v => v.category).sum ≤ W9) (hdg : decode c.code g.pc = .ok (.invokevirtual index, 3))
    (hpre : ∀ vm₁, s.WarmedH vm₁ → Pre ⟨T.setVm vm₁, locs, cells, slots⟩ (Value.ref b :: argsL).toArray) :
    (∃ (v : Option Value) (vm₁ : Vm) (B : Pt), s.WarmedH vm₁ ∧ Stand p l e R s m args below meth c B.U B.locs B.cells B.slots ∧ Post ⟨T.setVm vm₁, locs, cells, slots⟩ (Value.ref b :: argsL).toArray v B ∧
      ∀ target, Steps p.tables e below (B.U.setTop { g with pc := g.pc + 3, stack := v.toList ++ rest }) target → Steps p.tables e below (T.setTop g) target) ∨
    (∃ (q : Addr) (vm₁ : Vm) (B : Pt), s.WarmedH vm₁ ∧ Stand p l e R s m args below meth c B.U B.locs B.cells B.slots ∧ PostX ⟨T.setVm vm₁, locs, cells, slots⟩ (Value.ref b :: argsL).toArray q B ∧
      Steps p.tables e below (T.setTop g) ((B.U.setTop { g with stack := rest }).pushFrame (.throwing q))) := by
  obtain ⟨mk, methM, hnamed, hmethM, hstM, habM⟩ := Cond.instanceMethod_spec hinst
  obtain ⟨m8, methM', cM, hn8, hmethM', -, -, -, -, -, -, hsigM⟩ := Cond.codeWith_spec hcode
  cases Option.some.inj (hn8.symm.trans hnamed)
  cases hmethM.symm.trans hmethM'
  obtain ⟨c2, r2, m2, q1, q2, q3, q4, kP, hkP, hkPi⟩ := Cond.selects_spec hsel
  cases hcls.symm.trans q1
  cases (State.methodFound?_of_named hnamed hy).symm.trans q2
  cases hnamed.symm.trans q3
  have hselP : selectMethod e.platform s.vm cellB.cls mk = .method mk := by rw [Launch.admits_selectMethod X.admits]; exact q4
  obtain ⟨vm₁, X₁, hstep₁⟩ := X.invokevirtual hexec hown hlink hnamed hmethM hstM hkP hkPi hy (a := b) (cell := cellB) hcell
    (fun z h => by rw [h] at hobj; cases hobj) hselP hmethM habM hkP hkPi (g := g) hg (argsL := argsL) (rest := rest) (hlen _ hsigM) hstack hdg
  rcases hK m meth c ⟨T.setVm vm₁, locs, cells, slots⟩ { g with stack := rest } (.invokevirtual index) mk (Value.ref b :: argsL).toArray X₁ hg hsize hdg hW (X₁.named hnamed) (hpre vm₁ X₁.warmed) with ⟨v, B, X', hpost, hsteps⟩ | ⟨q, B, X', hpost, hsteps⟩
  · exact Or.inl ⟨v, vm₁, B, X₁.warmed, X', hpost, fun target h => hstep₁ _ fun acts => by rw [doInvoke_state]; exact hsteps.trans h⟩
  · exact Or.inr ⟨q, vm₁, B, X₁.warmed, X', hpost, hstep₁ _ fun acts => by rw [doInvoke_state]; exact hsteps⟩
theorem vx_callSX (X : Stand p l e R s m args below meth c T locs cells slots) (hexec : p.tables.exec = Jvm.exec) {own : String} {index : Nat} {y : MethodName} {bytes : ByteArray} {maxL : Nat} {ret : Option FieldType} {hh : List (Nat × Nat × Nat × Nat)}
    (hown : s.vm.findClass own = some m.cls) (hlink : (Cond.methodLink own index y).before args s = true) (hstat : (Cond.static y).before args s = true) (hinit : (Cond.initialized y.cls).before args s = true)
    (hcode : (Cond.codeWith y bytes maxL ret hh).before args s = true) (hy : y.cls ≠ "java/lang/invoke/MethodHandle" ∧ y.cls ≠ "java/lang/invoke/VarHandle")
    {W9 : Nat} {Pre : Pt → Array Value → Prop} {Post : Pt → Array Value → Option Value → Pt → Prop} {PostX : Pt → Array Value → Addr → Pt → Prop} (hK : vx_Back l R p e below s args y 3 W9 Pre Post PostX)
    {g : JFrame} (hg : g.method = m) (hsize : g.locals.size = c.maxLocals) {argsL rest : List Value} (hlen : ∀ sig, parseMethodDescriptor y.desc = some sig → argsL.length = sig.parameters.length)
    (hstack : g.stack = argsL.reverse ++ rest) (hW : 2 * g.monitorRoom + (rest.map fun v => v.category).sum ≤ W9) (hdg : decode c.code g.pc = .ok (.invokestatic index, 3))
    (hpre : ∀ vm₁, s.WarmedH vm₁ → Pre ⟨T.setVm vm₁, locs, cells, slots⟩ argsL.toArray) :
    (∃ (v : Option Value) (vm₁ : Vm) (B : Pt), s.WarmedH vm₁ ∧ Stand p l e R s m args below meth c B.U B.locs B.cells B.slots ∧ Post ⟨T.setVm vm₁, locs, cells, slots⟩ argsL.toArray v B ∧
      ∀ target, Steps p.tables e below (B.U.setTop { g with pc := g.pc + 3, stack := v.toList ++ rest }) target → Steps p.tables e below (T.setTop g) target) ∨
    (∃ (q : Addr) (vm₁ : Vm) (B : Pt), s.WarmedH vm₁ ∧ Stand p l e R s m args below meth c B.U B.locs B.cells B.slots ∧ PostX ⟨T.setVm vm₁, locs, cells, slots⟩ argsL.toArray q B ∧
      Steps p.tables e below (T.setTop g) ((B.U.setTop { g with stack := rest }).pushFrame (.throwing q))) := by
  obtain ⟨mk, methM, cM, hnamed, hmethM, -, -, -, -, -, -, hsigM⟩ := Cond.codeWith_spec hcode
  have hstatic : methM.isStatic = true := Cond.static_spec hnamed hmethM hstat
  obtain ⟨kP, hkP, -⟩ := className_of_methodNamed hnamed
  have hinitP : kP.init = .initialized := Cond.initialized_spec (findClass_of_methodNamed hnamed) hkP hinit
  obtain ⟨vm₁, X₁, hstep₁⟩ := X.invokestatic hexec hown hlink hnamed hmethM hstatic hkP hinitP hy (g := g) hg (argsL := argsL) (rest := rest) (hlen _ hsigM) hstack hdg
  rcases hK m meth c ⟨T.setVm vm₁, locs, cells, slots⟩ { g with stack := rest } (.invokestatic index) mk argsL.toArray X₁ hg hsize hdg hW (X₁.named hnamed) (hpre vm₁ X₁.warmed) with ⟨v, B, X', hpost, hsteps⟩ | ⟨q, B, X', hpost, hsteps⟩
  · exact Or.inl ⟨v, vm₁, B, X₁.warmed, X', hpost, fun target h => hstep₁ _ fun acts => by rw [doInvoke_state]; exact hsteps.trans h⟩
  · exact Or.inr ⟨q, vm₁, B, X₁.warmed, X', hpost, hstep₁ _ fun acts => by rw [doInvoke_state]; exact hsteps⟩
theorem vx_callVW (X : Stand p l e R s m args below meth c T locs cells slots) (hexec : p.tables.exec = Jvm.exec) {own C : String} {index : Nat} {y : MethodName} {bytes : ByteArray} {maxL : Nat} {ret : Option FieldType} {hh : List (Nat × Nat × Nat × Nat)}
    (hown : s.vm.findClass own = some m.cls) (hlink : (Cond.methodLink own index y).before args s = true) (hinst : (Cond.instanceMethod y).before args s = true) (hsel : (Cond.selects C y y).before args s = true)
    (hcode : (Cond.codeWith y bytes maxL ret hh).before args s = true) (hy : y.cls ≠ "java/lang/invoke/MethodHandle" ∧ y.cls ≠ "java/lang/invoke/VarHandle")
    {W9 : Nat} {Pre : Pt → Array Value → Prop} {Post : Pt → Array Value → Option Value → Pt → Prop} (hK : Back l R p e below s args y 3 W9 Pre Post)
    {b : Addr} {cellB : Cell} (hcell : T.heap[b]? = some cellB) (hobj : cellB.vm.isStatics = false) (hcls : s.vm.findClass C = some cellB.cls)
    {g : JFrame} (hg : g.method = m) (hsize : g.locals.size = c.maxLocals) {argsL rest : List Value} (hlen : ∀ sig, parseMethodDescriptor y.desc = some sig → argsL.length = sig.parameters.length)
    (hstack : g.stack = argsL.reverse ++ .ref b :: rest) (hW : 2 * g.monitorRoom + (rest.map fun v => v.category).sum ≤ W9) (hdg : decode c.code g.pc = .ok (.invokevirtual index, 3))
    (hpre : ∀ vm₁, s.WarmedH vm₁ → Pre ⟨T.setVm vm₁, locs, cells, slots⟩ (Value.ref b :: argsL).toArray) :
    ∃ (v : Option Value) (vm₁ : Vm) (B : Pt), s.WarmedH vm₁ ∧ Stand p l e R s m args below meth c B.U B.locs B.cells B.slots ∧ Post ⟨T.setVm vm₁, locs, cells, slots⟩ (Value.ref b :: argsL).toArray v B ∧
      ∀ target, Steps p.tables e below (B.U.setTop { g with pc := g.pc + 3, stack := v.toList ++ rest }) target → Steps p.tables e below (T.setTop g) target := by
  obtain ⟨mk, methM, hnamed, hmethM, hstM, habM⟩ := Cond.instanceMethod_spec hinst
  obtain ⟨m8, methM', cM, hn8, hmethM', -, -, -, -, -, -, hsigM⟩ := Cond.codeWith_spec hcode
  cases Option.some.inj (hn8.symm.trans hnamed)
  cases hmethM.symm.trans hmethM'
  obtain ⟨c2, r2, m2, q1, q2, q3, q4, kP, hkP, hkPi⟩ := Cond.selects_spec hsel
  cases hcls.symm.trans q1
  cases (State.methodFound?_of_named hnamed hy).symm.trans q2
  cases hnamed.symm.trans q3
  have hselP : selectMethod e.platform s.vm cellB.cls mk = .method mk := by rw [Launch.admits_selectMethod X.admits]; exact q4
  obtain ⟨vm₁, X₁, hstep₁⟩ := X.invokevirtual hexec hown hlink hnamed hmethM hstM hkP hkPi hy (a := b) (cell := cellB) hcell
    (fun z h => by rw [h] at hobj; cases hobj) hselP hmethM habM hkP hkPi (g := g) hg (argsL := argsL) (rest := rest) (hlen _ hsigM) hstack hdg
  obtain ⟨v, B, X', hpost, hsteps⟩ := hK m meth c ⟨T.setVm vm₁, locs, cells, slots⟩ { g with stack := rest } (.invokevirtual index) mk (Value.ref b :: argsL).toArray X₁ hg hsize hdg hW (X₁.named hnamed) (hpre vm₁ X₁.warmed)
  exact ⟨v, vm₁, B, X₁.warmed, X', hpost, fun target h => hstep₁ _ fun acts => by rw [doInvoke_state]; exact hsteps.trans h⟩
abbrev vx_CVW (R : Room) (s : State) (args : Array Value) (own C : String) (index : Nat) (y : MethodName) (bytes : ByteArray) (maxL : Nat) (ret : Option FieldType) (hh : List (Nat × Nat × Nat × Nat)) (ws : List Cond) (rm : Room) (mc ms n : Nat) : Prop :=
  (rm.cells = mc ∧ rm.slots = ms ∧ rm.frames + 1 ≤ R.frames ∧ 8 + (maxL + 11) + rm.locals ≤ R.locals ∧ (∀ w ∈ ws, ∀ (a' : Array Value) (U : State), s.WarmedH U.vm → w.before a' U = true) ∧ Cond.codeWith y bytes maxL ret hh ∈ ws) ∧
  (Cond.codeWith y bytes maxL ret hh).before args s = true ∧ (Cond.initialized y.cls).before args s = true ∧ (y.cls ≠ "java/lang/invoke/MethodHandle" ∧ y.cls ≠ "java/lang/invoke/VarHandle") ∧
  (∀ sig, parseMethodDescriptor y.desc = some sig → n = sig.parameters.length) ∧ (Cond.methodLink own index y).before args s = true ∧ (Cond.instanceMethod y).before args s = true ∧ (Cond.selects C y y).before args s = true
theorem vx_cwVW {own C : String} {index maxL mc ms : Nat} {y : MethodName} {bytes : ByteArray} {ret : Option FieldType} {hh : List (Nat × Nat × Nat × Nat)} {Ts ws ws' : List Cond} {rm : Room} (n : Nat) (ht : ∀ w ∈ Ts, w.before args s = true) (hT : GoodIn Ts (wsV own index C y ws)) (hw : ws = Cond.codeWith y bytes maxL ret hh :: ws') (hrc : rm.cells = mc) (hrs : rm.slots = ms)
    (hd : y.cls = C ∧ y.cls ≠ "java/lang/invoke/MethodHandle" ∧ y.cls ≠ "java/lang/invoke/VarHandle" ∧ (parseMethodDescriptor y.desc).map (fun d => d.parameters.length) = some n) (hR : rm.frames + 1 ≤ R.frames ∧ 8 + (maxL + 11) + rm.locals ≤ R.locals) :
    vx_CVW R s args own C index y bytes maxL ret hh ws rm mc ms n := by
  obtain ⟨hC, hd⟩ := hd
  subst hC
  have ok : ∀ w ∈ wsV own index y.cls y ws, w.before args s = true := fun w h => ht w (hT w h).1
  have hG : GoodIn Ts ws := fun w h => hT w (by unfold wsV; exact List.mem_append_right _ h)
  have hc : Cond.codeWith y bytes maxL ret hh ∈ ws := by rw [hw]; exact List.mem_cons_self
  refine ⟨⟨hrc, hrs, hR.1, hR.2, pay_in ht hG, hc⟩, ht _ (hG _ hc).1, ok _ (by simp [wsV]), ⟨hd.1, hd.2.1⟩, fun sig h => ?_, ok _ (by simp [wsV]), ok _ (by simp [wsV]), ok _ (by simp [wsV])⟩
  have h2 := hd.2.2
  rw [h] at h2
  exact (Option.some.inj h2).symm
theorem vx_runVW {y : MethodName} {bytes cc : ByteArray} {maxL nL mc ms n index : Nat} {ret : Option FieldType} {hh : List (Nat × Nat × Nat × Nat)} {ws : List Cond} {rm : Room} {Pc : Array Value → State → Prop} {Qc : Array Value → State → Outcome → State → Prop} {free : Addr → Prop} {Ts : List Cond} {own C : String} {b : Addr} {As rest : List Value} {g : JFrame}
    (S : CallFix p m c cc nL s args Ts own) (hM : Met l y ws rm Pc Qc mc ms free) (cw : vx_CVW R s args own C index y bytes maxL ret hh ws rm mc ms n) (hp : PreV s H C b Pc As)
    (hg : g.method = m) (hn : As.length = n) (hsize : g.locals.size = nL) (hstack : g.stack = As.reverse ++ .ref b :: rest) (hW : 2 * g.monitorRoom + (rest.map fun v => v.category).sum ≤ 8) (hdg : decode cc g.pc = .ok (.invokevirtual index, 3)) (hf : cells + mc ≤ R.cells ∧ slots + ms ≤ R.slots) :
    va_Run p l e R s m args below meth c H locs cells slots mc ms g rest (Qc (Value.ref b :: As).toArray) free := by
  obtain ⟨⟨hrc, hrs, hfr, hlo, hws, hcw⟩, hcode, hini, hy, hlen, hl, hin, hse⟩ := cw
  have hK : Back l R p e below s args y 3 8 (PreOf R mc ms Pc) (PostOf Qc mc ms free) := va_backW (hh := hh) (bytes := bytes) (maxL := maxL) (ret := ret) hM hp.1 hrc hrs hfr hlo hws hcw (fun a' U hW => word_at hW (Or.inl (by first | rfl | simp [Cond.onTables, Cond.keeps, Cond.steady])) hini)
  obtain ⟨hx, hb, hml, ho, -⟩ := S
  obtain ⟨-, ⟨cellB, hcB, hoB, hclB⟩, hPc⟩ := hp
  intro T hT X
  obtain ⟨v, vm₁, ⟨U', l2, c2, s2⟩, hW₁, X', ⟨g', mk, t, L, e1, e2, hq, h1, hL, h2, h3⟩, st⟩ := vx_callVW X hx (C := C) (hh := hh) (bytes := bytes) (maxL := maxL) (ret := ret) ho hl hin hse hcode hy hK (by rw [hT]; exact hcB) hoB hclB hg (hsize.trans hml.symm) (argsL := As) (rest := rest) (fun sig h => hn.trans (hlen sig h)) hstack hW (by rw [hb]; exact hdg)
    (fun vm₁ hW₁ => ⟨hf.1, hf.2, hPc (T.setVm vm₁) hT hW₁⟩)
  dsimp only [Pt.U, Pt.locs, Pt.cells, Pt.slots] at X' e1 e2 h1 h2 h3 st
  subst h1; subst h2; subst h3
  exact ⟨v, (T.setVm vm₁).calling g' mk (Value.ref b :: As).toArray, t, U', L, hT, X', hL, e1, e2, hq, st⟩
section
variable {y : MethodName} {bytes cc : ByteArray} {maxL nL mc ms n index : Nat} {ret : Option FieldType} {ws : List Cond} {rm : Room} {Pc : Array Value → State → Prop} {Qc : Array Value → State → Outcome → State → Prop} {XC : String → State → State → Prop} {free : Addr → Prop} {Ts : List Cond} {own C : String} {b : Addr} {As rest : List Value} {g : JFrame}
theorem vx_runVX {hh : List (Nat × Nat × Nat × Nat)} (S : CallFix p m c cc nL s args Ts own) (hM : vx_Met l y ws rm Pc Qc XC mc ms free) (cw : vx_CVW R s args own C index y bytes maxL ret hh ws rm mc ms n) (hp : PreV s H C b Pc As)
    (hg : g.method = m) (hn : As.length = n) (hsize : g.locals.size = nL) (hstack : g.stack = As.reverse ++ .ref b :: rest) (hW : 2 * g.monitorRoom + (rest.map fun v => v.category).sum ≤ 8) (hdg : decode cc g.pc = .ok (.invokevirtual index, 3)) (hf : cells + mc ≤ R.cells ∧ slots + ms ≤ R.slots) :
    vx_Run p l e R s m args below meth c H locs cells slots mc ms g rest (Qc (Value.ref b :: As).toArray) XC free := by
  obtain ⟨⟨hrc, hrs, hfr, hlo, hws, hcw⟩, hcode, hini, hy, hlen, hl, hin, hse⟩ := cw
  have hK : vx_Back l R p e below s args y 3 8 (PreOf R mc ms Pc) (PostOf Qc mc ms free) (vx_Post XC mc ms free) := vx_backW (hh := hh) (bytes := bytes) (maxL := maxL) (ret := ret) hM hp.1 hrc hrs hfr hlo hws hcw (fun a' U hW => word_at hW (Or.inl (by first | rfl | simp [Cond.onTables, Cond.keeps, Cond.steady])) hini)
  obtain ⟨hx, hb, hml, ho, -⟩ := S
  obtain ⟨-, ⟨cellB, hcB, hoB, hclB⟩, hPc⟩ := hp
  intro T hT X
  rcases vx_callVX X hx (C := C) (hh := hh) (bytes := bytes) (maxL := maxL) (ret := ret) ho hl hin hse hcode hy hK (by rw [hT]; exact hcB) hoB hclB hg (hsize.trans hml.symm) (argsL := As) (rest := rest) (fun sig h => hn.trans (hlen sig h)) hstack hW (by rw [hb]; exact hdg)
    (fun vm₁ hW₁ => ⟨hf.1, hf.2, hPc (T.setVm vm₁) hT hW₁⟩) with ⟨v, vm₁, ⟨U', l2, c2, s2⟩, hW₁, X', ⟨g', mk, t, L, e1, e2, hq, h1, hL, h2, h3⟩, st⟩ | ⟨q, vm₁, ⟨U', l2, c2, s2⟩, hW₁, X', ⟨g', mk, t, L, E, ce, e1, e2, hq, hce, hcv, hcl, h1, hL, h2, h3⟩, st⟩
  · dsimp only [Pt.U, Pt.locs, Pt.cells, Pt.slots] at X' e1 e2 h1 h2 h3 st
    subst h1; subst h2; subst h3
    exact Or.inl ⟨v, (T.setVm vm₁).calling g' mk (Value.ref b :: As).toArray, t, U', L, hT, X', hL, e1, e2, hq, st⟩
  · dsimp only [Pt.U, Pt.locs, Pt.cells, Pt.slots] at X' e1 e2 h1 h2 h3 st hcl
    subst h1; subst h2; subst h3
    exact Or.inr ⟨q, (T.setVm vm₁).calling g' mk (Value.ref b :: As).toArray, t, U', L, E, ce, hT, X', hL, e1, e2, hq, hce, hcv, vx_cls hW₁ hcl, st⟩
theorem vx_runSX {hh : List (Nat × Nat × Nat × Nat)} (S : CallFix p m c cc nL s args Ts own) (hM : vx_Met l y ws rm Pc Qc XC mc ms free) (cw : vx_CSW R s args own index y bytes maxL ret hh ws rm mc ms n) (hp : PreS s H Pc As)
    (hg : g.method = m) (hn : As.length = n) (hsize : g.locals.size = nL) (hstack : g.stack = As.reverse ++ rest) (hW : 2 * g.monitorRoom + (rest.map fun v => v.category).sum ≤ 8) (hdg : decode cc g.pc = .ok (.invokestatic index, 3)) (hf : cells + mc ≤ R.cells ∧ slots + ms ≤ R.slots) :
    vx_Run p l e R s m args below meth c H locs cells slots mc ms g rest (Qc As.toArray) XC free := by
  obtain ⟨⟨hrc, hrs, hfr, hlo, hws, hcw⟩, hcode, hini, hy, hlen, hl, hstt⟩ := cw
  have hK : vx_Back l R p e below s args y 3 8 (PreOf R mc ms Pc) (PostOf Qc mc ms free) (vx_Post XC mc ms free) := vx_backW (hh := hh) (bytes := bytes) (maxL := maxL) (ret := ret) hM hp.1 hrc hrs hfr hlo hws hcw (fun a' U hW => word_at hW (Or.inl (by first | rfl | simp [Cond.onTables, Cond.keeps, Cond.steady])) hini)
  obtain ⟨hx, hb, hml, ho, -⟩ := S
  intro T hT X
  rcases vx_callSX X hx (hh := hh) (bytes := bytes) (maxL := maxL) (ret := ret) ho hl hstt hini hcode hy hK hg (hsize.trans hml.symm) (argsL := As) (rest := rest) (fun sig h => hn.trans (hlen sig h)) hstack hW (by rw [hb]; exact hdg)
    (fun vm₁ hW₁ => ⟨hf.1, hf.2, hp.2 (T.setVm vm₁) hT hW₁⟩) with ⟨v, vm₁, ⟨U', l2, c2, s2⟩, hW₁, X', ⟨g', mk, t, L, e1, e2, hq, h1, hL, h2, h3⟩, st⟩ | ⟨q, vm₁, ⟨U', l2, c2, s2⟩, hW₁, X', ⟨g', mk, t, L, E, ce, e1, e2, hq, hce, hcv, hcl, h1, hL, h2, h3⟩, st⟩
  · dsimp only [Pt.U, Pt.locs, Pt.cells, Pt.slots] at X' e1 e2 h1 h2 h3 st
    subst h1; subst h2; subst h3
    exact Or.inl ⟨v, (T.setVm vm₁).calling g' mk As.toArray, t, U', L, hT, X', hL, e1, e2, hq, st⟩
  · dsimp only [Pt.U, Pt.locs, Pt.cells, Pt.slots] at X' e1 e2 h1 h2 h3 st hcl
    subst h1; subst h2; subst h3
    exact Or.inr ⟨q, (T.setVm vm₁).calling g' mk As.toArray, t, U', L, E, ce, hT, X', hL, e1, e2, hq, hce, hcv, vx_cls hW₁ hcl, st⟩
end
end VXH
theorem vx_ofWH {l : Launch} {y : MethodName} {ws ws' : List Cond} {rm : Room} {Pc : Array Value → State → Prop} {Qc : Array Value → State → Outcome → State → Prop} {XC : String → State → State → Prop} {mc ms : Nat} {free : Addr → Prop} {cc : ByteArray} {maxL : Nat} {ret : Option FieldType} {hh : List (Nat × Nat × Nat × Nat)}
    (hy : plainName y.cls = true) (hw : ws = Cond.codeWith y cc maxL ret hh :: ws')
    (body : ∀ p e s m args below meth c s₁, BodyLoose p l y (headSpec ws rm) cc maxL ret e s m args below meth c s₁ → c.maxLocals = maxL → Pc args s →
      W p l e (headSpec ws rm).room s m args below meth c s.heap [] 0 0 (vx_MQ below Qc XC args s mc ms free) (entryFrame m args maxL)) : vx_Met l y ws rm Pc Qc XC mc ms free := by
  refine MetFree.of_bodyS (code := cc) (maxLocals := maxL) (ret := ret) hy ?_ ?_
  · intro args s m h hn
    obtain ⟨m9, meth, c, hn9, h1, h2, h3, h4, -, h5, h6, -⟩ := Cond.codeWith_spec (atoms_spec (ws := ws) h _ (by rw [hw]; exact List.mem_cons_self))
    cases hn.symm.trans hn9
    exact ⟨meth, c, h1, h2, h3, h4, h5, h6⟩
  · intro p e s m args below meth c s₁ B hml hP _
    have hh0 : s₁.heap = s.heap := by rw [B.state]; rfl
    obtain ⟨t, a1, o, b1, b2, b3⟩ := body p e s m args below meth c s₁ B hml hP s₁ hh0 (Stand.of_body B)
    exact ⟨t, o, a1, b1, b2, b3⟩
/-! ===== END ===== -/
end
section
/-! ===== BEGIN printed: names, fields, word lists, decode rows ===== -/
def RX0 : String := "LopsidedRanks$Soldier"
def TX0 : u_T := fun k => match k with
  | 0 => ("LopsidedRanks$Soldier", "height", "I", true)
  | 1 => ("LopsidedRanks$Soldier", "above", "LLopsidedRanks$Soldier;", false)
  | 2 => ("LopsidedRanks$Soldier", "left", "LLopsidedRanks$Soldier;", false)
  | 3 => ("LopsidedRanks$Soldier", "right", "LLopsidedRanks$Soldier;", false)
  | _ => ("LopsidedRanks$Soldier", "company", "I", false)
def tyX0 : Nat → FieldType := fun k => match k with
  | 0 => .int
  | 1 => .object "LopsidedRanks$Soldier"
  | 2 => .object "LopsidedRanks$Soldier"
  | 3 => .object "LopsidedRanks$Soldier"
  | _ => .int
abbrev wsX00 : List Cond := u_ws RX0 TX0 5
theorem nmX0 : ∀ a, a < 5 → ∀ b, b < 5 → a ≠ b → (TX0 a).2.1 ≠ (TX0 b).2.1 := by decide +kernel
theorem tyX0_ok : ∀ k, k < 5 → parseFieldDescriptor (TX0 k).2.2.1 = some (tyX0 k) := by decide +kernel
abbrev cX0_init : ByteArray := prog_2_method_1_code
def yX0_init : MethodName := ⟨RX0, "<init>", "(I)V"⟩
abbrev cX0_towards : ByteArray := prog_2_method_2_code
def yX0_towards : MethodName := ⟨RX0, "towards", "(I)LLopsidedRanks$Soldier;"⟩
abbrev cX0_setTowards : ByteArray := prog_2_method_3_code
def yX0_setTowards : MethodName := ⟨RX0, "setTowards", "(ILLopsidedRanks$Soldier;)V"⟩
abbrev cX0_depth : ByteArray := prog_2_method_4_code
def yX0_depth : MethodName := ⟨RX0, "depth", "()I"⟩
abbrev cX0_hasCrookedCompany : ByteArray := prog_2_method_5_code
def yX0_hasCrookedCompany : MethodName := ⟨RX0, "hasCrookedCompany", "()Z"⟩
abbrev cX0_wouldBeCrookedWith : ByteArray := prog_2_method_6_code
def yX0_wouldBeCrookedWith : MethodName := ⟨RX0, "wouldBeCrookedWith", "(I)Z"⟩
def RX1 : String := "LopsidedRanks"
def TX1 : u_T := fun k => match k with
  | 0 => ("LopsidedRanks", "line", "[LLopsidedRanks$Soldier;", true)
  | 1 => ("LopsidedRanks", "soldiers", "I", false)
  | 2 => ("LopsidedRanks", "top", "LLopsidedRanks$Soldier;", false)
  | 3 => ("LopsidedRanks", "most", "I", false)
  | 4 => ("LopsidedRanks", "drawings", "I", false)
  | _ => ("LopsidedRanks", "drawnSoldiers", "I", false)
def tyX1 : Nat → FieldType := fun k => match k with
  | 0 => .array (.object "LopsidedRanks$Soldier")
  | 1 => .int
  | 2 => .object "LopsidedRanks$Soldier"
  | 3 => .int
  | 4 => .int
  | _ => .int
abbrev wsX10 : List Cond := u_ws RX1 TX1 6
theorem nmX1 : ∀ a, a < 6 → ∀ b, b < 6 → a ≠ b → (TX1 a).2.1 ≠ (TX1 b).2.1 := by decide +kernel
theorem tyX1_ok : ∀ k, k < 6 → parseFieldDescriptor (TX1 k).2.2.1 = some (tyX1 k) := by decide +kernel
abbrev cX1_init : ByteArray := prog_1_method_1_code
def yX1_init : MethodName := ⟨RX1, "<init>", "()V"⟩
abbrev cX1_muster : ByteArray := prog_1_method_2_code
def yX1_muster : MethodName := ⟨RX1, "muster", "(I)I"⟩
abbrev cX1_discharge : ByteArray := prog_1_method_3_code
def yX1_discharge : MethodName := ⟨RX1, "discharge", "(I)Z"⟩
abbrev cX1_draw : ByteArray := prog_1_method_4_code
def yX1_draw : MethodName := ⟨RX1, "draw", "(I)I"⟩
abbrev cX1_isThere : ByteArray := prog_1_method_5_code
def yX1_isThere : MethodName := ⟨RX1, "isThere", "(I)Z"⟩
abbrev cX1_told : ByteArray := prog_1_method_6_code
def yX1_told : MethodName := ⟨RX1, "told", "(II)I"⟩
abbrev cX1_at : ByteArray := prog_1_method_7_code
def yX1_at : MethodName := ⟨RX1, "at", "(I)I"⟩
abbrev cX1_between : ByteArray := prog_1_method_8_code
def yX1_between : MethodName := ⟨RX1, "between", "(II)I"⟩
abbrev cX1_captain : ByteArray := prog_1_method_9_code
def yX1_captain : MethodName := ⟨RX1, "captain", "(II)I"⟩
abbrev cX1_taller : ByteArray := prog_1_method_10_code
def yX1_taller : MethodName := ⟨RX1, "taller", "(I)I"⟩
abbrev cX1_count : ByteArray := prog_1_method_11_code
def yX1_count : MethodName := ⟨RX1, "count", "(I)I"⟩
abbrev cX1_would : ByteArray := prog_1_method_12_code
def yX1_would : MethodName := ⟨RX1, "would", "(I)I"⟩
abbrev cX1_moves : ByteArray := prog_1_method_13_code
def yX1_moves : MethodName := ⟨RX1, "moves", "(I)I"⟩
abbrev cX1_mean : ByteArray := prog_1_method_14_code
def yX1_mean : MethodName := ⟨RX1, "mean", "()D"⟩
abbrev cX1_digest : ByteArray := prog_1_method_15_code
def yX1_digest : MethodName := ⟨RX1, "digest", "()J"⟩
abbrev cX1_refuseOddHeight : ByteArray := prog_1_method_16_code
def yX1_refuseOddHeight : MethodName := ⟨RX1, "refuseOddHeight", "(I)V"⟩
abbrev cX1_refuseOddQuestion : ByteArray := prog_1_method_17_code
def yX1_refuseOddQuestion : MethodName := ⟨RX1, "refuseOddQuestion", "(I)V"⟩
abbrev cX1_heightOf : ByteArray := prog_1_method_18_code
def yX1_heightOf : MethodName := ⟨RX1, "heightOf", "(LLopsidedRanks$Soldier;)I"⟩
abbrev cX1_companyOf : ByteArray := prog_1_method_19_code
def yX1_companyOf : MethodName := ⟨RX1, "companyOf", "(LLopsidedRanks$Soldier;)I"⟩
abbrev cX1_depthOf : ByteArray := prog_1_method_20_code
def yX1_depthOf : MethodName := ⟨RX1, "depthOf", "(LLopsidedRanks$Soldier;)I"⟩
abbrev cX1_newDepth : ByteArray := prog_1_method_21_code
def yX1_newDepth : MethodName := ⟨RX1, "newDepth", "(LLopsidedRanks$Soldier;)I"⟩
abbrev cX1_find : ByteArray := prog_1_method_22_code
def yX1_find : MethodName := ⟨RX1, "find", "(I)LLopsidedRanks$Soldier;"⟩
abbrev cX1_lastOnTheWayTo : ByteArray := prog_1_method_23_code
def yX1_lastOnTheWayTo : MethodName := ⟨RX1, "lastOnTheWayTo", "(I)LLopsidedRanks$Soldier;"⟩
abbrev cX1_smallerThan : ByteArray := prog_1_method_24_code
def yX1_smallerThan : MethodName := ⟨RX1, "smallerThan", "(I)I"⟩
abbrev cX1_inLine : ByteArray := prog_1_method_25_code
def yX1_inLine : MethodName := ⟨RX1, "inLine", "(I)LLopsidedRanks$Soldier;"⟩
abbrev cX1_insertIntoLine : ByteArray := prog_1_method_26_code
def yX1_insertIntoLine : MethodName := ⟨RX1, "insertIntoLine", "(LLopsidedRanks$Soldier;)V"⟩
abbrev cX1_removeFromLine : ByteArray := prog_1_method_27_code
def yX1_removeFromLine : MethodName := ⟨RX1, "removeFromLine", "(LLopsidedRanks$Soldier;)V"⟩
abbrev cX1_standBelow : ByteArray := prog_1_method_28_code
def yX1_standBelow : MethodName := ⟨RX1, "standBelow", "(LLopsidedRanks$Soldier;ILLopsidedRanks$Soldier;)V"⟩
abbrev cX1_addToCompaniesAbove : ByteArray := prog_1_method_29_code
def yX1_addToCompaniesAbove : MethodName := ⟨RX1, "addToCompaniesAbove", "(LLopsidedRanks$Soldier;I)V"⟩
abbrev cX1_removeFromRanks : ByteArray := prog_1_method_30_code
def yX1_removeFromRanks : MethodName := ⟨RX1, "removeFromRanks", "(LLopsidedRanks$Soldier;)V"⟩
abbrev cX1_removeWithOneSide : ByteArray := prog_1_method_31_code
def yX1_removeWithOneSide : MethodName := ⟨RX1, "removeWithOneSide", "(LLopsidedRanks$Soldier;)V"⟩
abbrev cX1_handOver : ByteArray := prog_1_method_32_code
def yX1_handOver : MethodName := ⟨RX1, "handOver", "(LLopsidedRanks$Soldier;LLopsidedRanks$Soldier;)V"⟩
abbrev cX1_isCrooked : ByteArray := prog_1_method_33_code
def yX1_isCrooked : MethodName := ⟨RX1, "isCrooked", "(II)Z"⟩
abbrev cX1_allowedDepth : ByteArray := prog_1_method_34_code
def yX1_allowedDepth : MethodName := ⟨RX1, "allowedDepth", "(I)I"⟩
abbrev cX1_firstCrookedFrom : ByteArray := prog_1_method_35_code
def yX1_firstCrookedFrom : MethodName := ⟨RX1, "firstCrookedFrom", "(LLopsidedRanks$Soldier;)LLopsidedRanks$Soldier;"⟩
abbrev cX1_drawUp : ByteArray := prog_1_method_36_code
def yX1_drawUp : MethodName := ⟨RX1, "drawUp", "(LLopsidedRanks$Soldier;)LLopsidedRanks$Soldier;"⟩
abbrev cX1_halve : ByteArray := prog_1_method_37_code
def yX1_halve : MethodName := ⟨RX1, "halve", "([LLopsidedRanks$Soldier;III)LLopsidedRanks$Soldier;"⟩
abbrev cX1_tell : ByteArray := prog_1_method_38_code
def yX1_tell : MethodName := ⟨RX1, "tell", "(LLopsidedRanks$Soldier;I)I"⟩
abbrev cX1_tally : ByteArray := prog_1_method_39_code
def yX1_tally : MethodName := ⟨RX1, "tally", "(I)I"⟩
abbrev cX1_deepestBelow : ByteArray := prog_1_method_40_code
def yX1_deepestBelow : MethodName := ⟨RX1, "deepestBelow", "(LLopsidedRanks$Soldier;)I"⟩
abbrev cX1_stepsUp : ByteArray := prog_1_method_41_code
def yX1_stepsUp : MethodName := ⟨RX1, "stepsUp", "(LLopsidedRanks$Soldier;LLopsidedRanks$Soldier;)I"⟩
abbrev cX1_crookedCompanies : ByteArray := prog_1_method_42_code
def yX1_crookedCompanies : MethodName := ⟨RX1, "crookedCompanies", "()I"⟩
def RX2 : String := "LopsidedRanksModel"
def TX2 : u_T := fun k => match k with
  | 0 => ("LopsidedRanksModel", "thrown", "I", false)
  | 1 => ("LopsidedRanksModel", "top", "I", false)
  | 2 => ("LopsidedRanksModel", "soldiers", "I", false)
  | 3 => ("LopsidedRanksModel", "most", "I", false)
  | 4 => ("LopsidedRanksModel", "times", "I", false)
  | 5 => ("LopsidedRanksModel", "drawn", "I", false)
  | 6 => ("LopsidedRanksModel", "isIn", "[Z", true)
  | 7 => ("LopsidedRanksModel", "left", "[I", true)
  | 8 => ("LopsidedRanksModel", "right", "[I", true)
  | 9 => ("LopsidedRanksModel", "way", "[I", true)
  | 10 => ("LopsidedRanksModel", "steps", "I", false)
  | 11 => ("LopsidedRanksModel", "row", "[I", true)
  | _ => ("LopsidedRanksModel", "many", "I", false)
def tyX2 : Nat → FieldType := fun k => match k with
  | 0 => .int
  | 1 => .int
  | 2 => .int
  | 3 => .int
  | 4 => .int
  | 5 => .int
  | 6 => .array .boolean
  | 7 => .array .int
  | 8 => .array .int
  | 9 => .array .int
  | 10 => .int
  | 11 => .array .int
  | _ => .int
abbrev wsX20 : List Cond := u_ws RX2 TX2 13
theorem nmX2 : ∀ a, a < 13 → ∀ b, b < 13 → a ≠ b → (TX2 a).2.1 ≠ (TX2 b).2.1 := by decide +kernel
theorem tyX2_ok : ∀ k, k < 13 → parseFieldDescriptor (TX2 k).2.2.1 = some (tyX2 k) := by decide +kernel
abbrev cX2_init : ByteArray := prog_4_method_1_code
def yX2_init : MethodName := ⟨RX2, "<init>", "()V"⟩
abbrev cX2_thrown : ByteArray := prog_4_method_2_code
def yX2_thrown : MethodName := ⟨RX2, "thrown", "()I"⟩
abbrev cX2_no : ByteArray := prog_4_method_3_code
def yX2_no : MethodName := ⟨RX2, "no", "(I)I"⟩
abbrev cX2_isHeight : ByteArray := prog_4_method_4_code
def yX2_isHeight : MethodName := ⟨RX2, "isHeight", "(I)Z"⟩
abbrev cX2_goTo : ByteArray := prog_4_method_5_code
def yX2_goTo : MethodName := ⟨RX2, "goTo", "(I)V"⟩
abbrev cX2_size : ByteArray := prog_4_method_6_code
def yX2_size : MethodName := ⟨RX2, "size", "(I)I"⟩
abbrev cX2_deep : ByteArray := prog_4_method_7_code
def yX2_deep : MethodName := ⟨RX2, "deep", "(I)I"⟩
abbrev cX2_isCrooked : ByteArray := prog_4_method_8_code
def yX2_isCrooked : MethodName := ⟨RX2, "isCrooked", "(II)Z"⟩
abbrev cX2_isCrooked_ : ByteArray := prog_4_method_9_code
def yX2_isCrooked_ : MethodName := ⟨RX2, "isCrooked", "(I)Z"⟩
abbrev cX2_crookedIn : ByteArray := prog_4_method_10_code
def yX2_crookedIn : MethodName := ⟨RX2, "crookedIn", "(I)I"⟩
abbrev cX2_depthsIn : ByteArray := prog_4_method_11_code
def yX2_depthsIn : MethodName := ⟨RX2, "depthsIn", "(II)J"⟩
abbrev cX2_allowed : ByteArray := prog_4_method_12_code
def yX2_allowed : MethodName := ⟨RX2, "allowed", "(I)I"⟩
abbrev cX2_collect : ByteArray := prog_4_method_13_code
def yX2_collect : MethodName := ⟨RX2, "collect", "(I)V"⟩
abbrev cX2_halve : ByteArray := prog_4_method_14_code
def yX2_halve : MethodName := ⟨RX2, "halve", "(II)I"⟩
abbrev cX2_hang : ByteArray := prog_4_method_15_code
def yX2_hang : MethodName := ⟨RX2, "hang", "(III)V"⟩
abbrev cX2_drawUp : ByteArray := prog_4_method_16_code
def yX2_drawUp : MethodName := ⟨RX2, "drawUp", "(I)I"⟩
abbrev cX2_crookedWith : ByteArray := prog_4_method_17_code
def yX2_crookedWith : MethodName := ⟨RX2, "crookedWith", "(I)I"⟩
abbrev cX2_muster : ByteArray := prog_4_method_18_code
def yX2_muster : MethodName := ⟨RX2, "muster", "(I)I"⟩
abbrev cX2_discharge : ByteArray := prog_4_method_19_code
def yX2_discharge : MethodName := ⟨RX2, "discharge", "(I)Z"⟩
abbrev cX2_next : ByteArray := prog_4_method_20_code
def yX2_next : MethodName := ⟨RX2, "next", "(I)I"⟩
abbrev cX2_draw : ByteArray := prog_4_method_21_code
def yX2_draw : MethodName := ⟨RX2, "draw", "(I)I"⟩
abbrev cX2_isThere : ByteArray := prog_4_method_22_code
def yX2_isThere : MethodName := ⟨RX2, "isThere", "(I)Z"⟩
abbrev cX2_smaller : ByteArray := prog_4_method_23_code
def yX2_smaller : MethodName := ⟨RX2, "smaller", "(I)I"⟩
abbrev cX2_toldOf : ByteArray := prog_4_method_24_code
def yX2_toldOf : MethodName := ⟨RX2, "toldOf", "(II)I"⟩
abbrev cX2_told : ByteArray := prog_4_method_25_code
def yX2_told : MethodName := ⟨RX2, "told", "(II)I"⟩
abbrev cX2_at : ByteArray := prog_4_method_26_code
def yX2_at : MethodName := ⟨RX2, "at", "(I)I"⟩
abbrev cX2_between : ByteArray := prog_4_method_27_code
def yX2_between : MethodName := ⟨RX2, "between", "(II)I"⟩
abbrev cX2_captain : ByteArray := prog_4_method_28_code
def yX2_captain : MethodName := ⟨RX2, "captain", "(II)I"⟩
abbrev cX2_taller : ByteArray := prog_4_method_29_code
def yX2_taller : MethodName := ⟨RX2, "taller", "(I)I"⟩
abbrev cX2_counted : ByteArray := prog_4_method_30_code
def yX2_counted : MethodName := ⟨RX2, "counted", "(I)I"⟩
abbrev cX2_count : ByteArray := prog_4_method_31_code
def yX2_count : MethodName := ⟨RX2, "count", "(I)I"⟩
abbrev cX2_would : ByteArray := prog_4_method_32_code
def yX2_would : MethodName := ⟨RX2, "would", "(I)I"⟩
abbrev cX2_moves : ByteArray := prog_4_method_33_code
def yX2_moves : MethodName := ⟨RX2, "moves", "(I)I"⟩
abbrev cX2_mean : ByteArray := prog_4_method_34_code
def yX2_mean : MethodName := ⟨RX2, "mean", "()D"⟩
abbrev cX2_digest : ByteArray := prog_4_method_35_code
def yX2_digest : MethodName := ⟨RX2, "digest", "()J"⟩
def RJ9 : String := "java/lang/Math"
def TJ9 : u_T := fun k => match k with
  | _ => ("", "", "", false)
def tyJ9 : Nat → FieldType := fun k => match k with
  | _ => .int
abbrev wsJ90 : List Cond := u_ws RJ9 TJ9 0
theorem nmJ9 : ∀ a, a < 0 → ∀ b, b < 0 → a ≠ b → (TJ9 a).2.1 ≠ (TJ9 b).2.1 := by decide +kernel
theorem tyJ9_ok : ∀ k, k < 0 → parseFieldDescriptor (TJ9 k).2.2.1 = some (tyJ9 k) := by decide +kernel
abbrev cJ9_max_7cf53 : ByteArray := prog_9_method_65_code
def yJ9_max_7cf53 : MethodName := ⟨RJ9, "max", "(II)I"⟩
abbrev cJ9_min_7cf53 : ByteArray := prog_9_method_69_code
def yJ9_min_7cf53 : MethodName := ⟨RJ9, "min", "(II)I"⟩
def RJ0 : String := "java/lang/String"
def TJ0 : u_T := fun k => match k with
  | _ => ("", "", "", false)
def tyJ0 : Nat → FieldType := fun k => match k with
  | _ => .int
abbrev wsJ00 : List Cond := u_ws RJ0 TJ0 0
theorem nmJ0 : ∀ a, a < 0 → ∀ b, b < 0 → a ≠ b → (TJ0 a).2.1 ≠ (TJ0 b).2.1 := by decide +kernel
theorem tyJ0_ok : ∀ k, k < 0 → parseFieldDescriptor (TJ0 k).2.2.1 = some (tyJ0 k) := by decide +kernel
def RL : String := "LopsidedRanksLaw"
abbrev cL_muster : ByteArray := method_3_code
def yL_muster : MethodName := ⟨RL, "muster", "(LLopsidedRanks;I[J)I"⟩
abbrev cL_discharge : ByteArray := method_4_code
def yL_discharge : MethodName := ⟨RL, "discharge", "(LLopsidedRanks;I[J)I"⟩
abbrev cL_draw : ByteArray := method_5_code
def yL_draw : MethodName := ⟨RL, "draw", "(LLopsidedRanks;I[J)I"⟩
abbrev cL_isThere : ByteArray := method_6_code
def yL_isThere : MethodName := ⟨RL, "isThere", "(LLopsidedRanks;I[J)I"⟩
abbrev cL_told : ByteArray := method_7_code
def yL_told : MethodName := ⟨RL, "told", "(LLopsidedRanks;II[J)I"⟩
abbrev cL_at : ByteArray := method_8_code
def yL_at : MethodName := ⟨RL, "at", "(LLopsidedRanks;I[J)I"⟩
abbrev cL_between : ByteArray := method_9_code
def yL_between : MethodName := ⟨RL, "between", "(LLopsidedRanks;II[J)I"⟩
abbrev cL_captain : ByteArray := method_10_code
def yL_captain : MethodName := ⟨RL, "captain", "(LLopsidedRanks;II[J)I"⟩
abbrev cL_taller : ByteArray := method_11_code
def yL_taller : MethodName := ⟨RL, "taller", "(LLopsidedRanks;I[J)I"⟩
abbrev cL_count : ByteArray := method_12_code
def yL_count : MethodName := ⟨RL, "count", "(LLopsidedRanks;I[J)I"⟩
abbrev cL_would : ByteArray := method_13_code
def yL_would : MethodName := ⟨RL, "would", "(LLopsidedRanks;I[J)I"⟩
abbrev cL_moves : ByteArray := method_14_code
def yL_moves : MethodName := ⟨RL, "moves", "(LLopsidedRanks;I[J)I"⟩
abbrev cL_law : ByteArray := code
def yL_law : MethodName := ⟨RL, "law", "([I)Z"⟩
def wsX0_init : List Cond := .code yX0_init cX0_init 2 none :: ([.methodLink RX0 1 objectInit, .instanceMethod objectInit, .code objectInit ⟨#[0xb1]⟩ 1 none, .fieldLink RX0 7 "LopsidedRanks$Soldier" "height" "I", .fieldLink RX0 13 "LopsidedRanks$Soldier" "company" "I"] ++ wsX00)
def wsX0_towards : List Cond := .code yX0_towards cX0_towards 2 (some (.object "LopsidedRanks$Soldier")) :: ([.fieldLink RX0 7 "LopsidedRanks$Soldier" "height" "I", .fieldLink RX0 16 "LopsidedRanks$Soldier" "left" "LLopsidedRanks$Soldier;", .fieldLink RX0 20 "LopsidedRanks$Soldier" "right" "LLopsidedRanks$Soldier;"] ++ wsX00)
def wsX0_setTowards : List Cond := .code yX0_setTowards cX0_setTowards 3 none :: ([.fieldLink RX0 7 "LopsidedRanks$Soldier" "height" "I", .fieldLink RX0 16 "LopsidedRanks$Soldier" "left" "LLopsidedRanks$Soldier;", .fieldLink RX0 20 "LopsidedRanks$Soldier" "right" "LLopsidedRanks$Soldier;", .fieldLink RX0 23 "LopsidedRanks$Soldier" "above" "LLopsidedRanks$Soldier;"] ++ wsX00)
def wsX0_depth : List Cond := .code yX0_depth cX0_depth 3 (some .int) :: ([.fieldLink RX0 23 "LopsidedRanks$Soldier" "above" "LLopsidedRanks$Soldier;"] ++ wsX00)
def wsX1_companyOf : List Cond := .code yX1_companyOf cX1_companyOf 1 (some .int) :: ([.fieldLink RX1 147 "LopsidedRanks$Soldier" "company" "I"] ++ wsX00)
def wsX1_isCrooked : List Cond := .code yX1_isCrooked cX1_isCrooked 3 (some .boolean) :: ([])
def wsX0_hasCrookedCompany : List Cond := .code yX0_hasCrookedCompany cX0_hasCrookedCompany 1 (some .boolean) :: ([.fieldLink RX0 16 "LopsidedRanks$Soldier" "left" "LLopsidedRanks$Soldier;", .fieldLink RX0 20 "LopsidedRanks$Soldier" "right" "LLopsidedRanks$Soldier;", .static yX1_companyOf, .initialized RX1, .code yX1_companyOf cX1_companyOf 1 (some .int), .fieldLink RX1 147 "LopsidedRanks$Soldier" "company" "I", .static yX1_isCrooked, .code yX1_isCrooked cX1_isCrooked 3 (some .boolean)] ++ wsX00)
def wsX0_wouldBeCrookedWith : List Cond := .code yX0_wouldBeCrookedWith cX0_wouldBeCrookedWith 3 (some .boolean) :: ([.fieldLink RX0 7 "LopsidedRanks$Soldier" "height" "I", .fieldLink RX0 16 "LopsidedRanks$Soldier" "left" "LLopsidedRanks$Soldier;", .fieldLink RX0 20 "LopsidedRanks$Soldier" "right" "LLopsidedRanks$Soldier;", .static yX1_companyOf, .initialized RX1, .code yX1_companyOf cX1_companyOf 1 (some .int), .fieldLink RX1 147 "LopsidedRanks$Soldier" "company" "I", .static yX1_isCrooked, .code yX1_isCrooked cX1_isCrooked 3 (some .boolean)] ++ wsX00)
def wsX1_init : List Cond := .code yX1_init cX1_init 1 none :: ([.methodLink RX1 1 objectInit, .instanceMethod objectInit, .code objectInit ⟨#[0xb1]⟩ 1 none, .classLink RX1 9 RX0, .fieldLink RX1 11 "LopsidedRanks" "line" "[LLopsidedRanks$Soldier;"] ++ wsX10)
def wsX1_refuseOddHeight : List Cond := .code yX1_refuseOddHeight cX1_refuseOddHeight 1 none :: ([.classLink RX1 140 "java/lang/IllegalArgumentException", .initialized "java/lang/IllegalArgumentException"] ++ (vx_atS RX1 144 "java/lang/IllegalArgumentException" ["java/lang/RuntimeException", "java/lang/Exception"]).filter goodWord)
def wsX1_find : List Cond := .code yX1_find cX1_find 3 (some (.object "LopsidedRanks$Soldier")) :: ([.fieldLink RX1 77 "LopsidedRanks" "top" "LLopsidedRanks$Soldier;", .fieldLink RX1 100 "LopsidedRanks$Soldier" "height" "I", .methodLink RX1 117 yX0_towards, .instanceMethod yX0_towards, .selects RX0 yX0_towards yX0_towards, .initialized RX0, .code yX0_towards cX0_towards 2 (some (.object "LopsidedRanks$Soldier")), .fieldLink RX0 7 "LopsidedRanks$Soldier" "height" "I", .fieldLink RX0 16 "LopsidedRanks$Soldier" "left" "LLopsidedRanks$Soldier;", .fieldLink RX0 20 "LopsidedRanks$Soldier" "right" "LLopsidedRanks$Soldier;"] ++ wsX10 ++ wsX00)
def wsX1_heightOf : List Cond := .code yX1_heightOf cX1_heightOf 1 (some .int) :: ([.fieldLink RX1 100 "LopsidedRanks$Soldier" "height" "I"] ++ wsX00)
def wsX1_insertIntoLine : List Cond := .code yX1_insertIntoLine cX1_insertIntoLine 3 none :: ([.fieldLink RX1 19 "LopsidedRanks" "soldiers" "I", .fieldLink RX1 11 "LopsidedRanks" "line" "[LLopsidedRanks$Soldier;", .fieldLink RX1 100 "LopsidedRanks$Soldier" "height" "I", .methodLink RX1 81 yX1_heightOf, .static yX1_heightOf, .initialized RX1, .code yX1_heightOf cX1_heightOf 1 (some .int)] ++ wsX10 ++ wsX00)
def wsX1_lastOnTheWayTo : List Cond := .code yX1_lastOnTheWayTo cX1_lastOnTheWayTo 4 (some (.object "LopsidedRanks$Soldier")) :: ([.fieldLink RX1 77 "LopsidedRanks" "top" "LLopsidedRanks$Soldier;", .methodLink RX1 117 yX0_towards, .instanceMethod yX0_towards, .selects RX0 yX0_towards yX0_towards, .initialized RX0, .code yX0_towards cX0_towards 2 (some (.object "LopsidedRanks$Soldier")), .fieldLink RX0 7 "LopsidedRanks$Soldier" "height" "I", .fieldLink RX0 16 "LopsidedRanks$Soldier" "left" "LLopsidedRanks$Soldier;", .fieldLink RX0 20 "LopsidedRanks$Soldier" "right" "LLopsidedRanks$Soldier;"] ++ wsX10 ++ wsX00)
def wsX1_standBelow : List Cond := .code yX1_standBelow cX1_standBelow 4 none :: ([.fieldLink RX1 77 "LopsidedRanks" "top" "LLopsidedRanks$Soldier;", .fieldLink RX1 130 "LopsidedRanks$Soldier" "above" "LLopsidedRanks$Soldier;", .methodLink RX1 156 yX0_setTowards, .instanceMethod yX0_setTowards, .selects RX0 yX0_setTowards yX0_setTowards, .initialized RX0, .code yX0_setTowards cX0_setTowards 3 none, .fieldLink RX0 7 "LopsidedRanks$Soldier" "height" "I", .fieldLink RX0 16 "LopsidedRanks$Soldier" "left" "LLopsidedRanks$Soldier;", .fieldLink RX0 20 "LopsidedRanks$Soldier" "right" "LLopsidedRanks$Soldier;", .fieldLink RX0 23 "LopsidedRanks$Soldier" "above" "LLopsidedRanks$Soldier;"] ++ wsX10 ++ wsX00)
def wsX1_addToCompaniesAbove : List Cond := .code yX1_addToCompaniesAbove cX1_addToCompaniesAbove 3 none :: ([.fieldLink RX1 130 "LopsidedRanks$Soldier" "above" "LLopsidedRanks$Soldier;", .fieldLink RX1 147 "LopsidedRanks$Soldier" "company" "I"] ++ wsX00)
def wsX1_allowedDepth : List Cond := .code yX1_allowedDepth cX1_allowedDepth 6 (some .int) :: ([.constantLong RX1 170 (3), .constantLong RX1 172 (2)])
def wsX1_firstCrookedFrom : List Cond := .code yX1_firstCrookedFrom cX1_firstCrookedFrom 2 (some (.object "LopsidedRanks$Soldier")) :: ([.fieldLink RX1 130 "LopsidedRanks$Soldier" "above" "LLopsidedRanks$Soldier;", .methodLink RX1 174 yX0_hasCrookedCompany, .instanceMethod yX0_hasCrookedCompany, .selects RX0 yX0_hasCrookedCompany yX0_hasCrookedCompany, .initialized RX0, .code yX0_hasCrookedCompany cX0_hasCrookedCompany 1 (some .boolean), .fieldLink RX0 16 "LopsidedRanks$Soldier" "left" "LLopsidedRanks$Soldier;", .fieldLink RX0 20 "LopsidedRanks$Soldier" "right" "LLopsidedRanks$Soldier;", .static yX1_companyOf, .initialized RX1, .code yX1_companyOf cX1_companyOf 1 (some .int), .fieldLink RX1 147 "LopsidedRanks$Soldier" "company" "I", .static yX1_isCrooked, .code yX1_isCrooked cX1_isCrooked 3 (some .boolean)] ++ wsX00)
def wsX1_smallerThan : List Cond := .code yX1_smallerThan cX1_smallerThan 4 (some .int) :: ([.fieldLink RX1 77 "LopsidedRanks" "top" "LLopsidedRanks$Soldier;", .fieldLink RX1 100 "LopsidedRanks$Soldier" "height" "I", .fieldLink RX1 150 "LopsidedRanks$Soldier" "left" "LLopsidedRanks$Soldier;", .methodLink RX1 153 yX1_companyOf, .static yX1_companyOf, .initialized RX1, .code yX1_companyOf cX1_companyOf 1 (some .int), .fieldLink RX1 147 "LopsidedRanks$Soldier" "company" "I", .methodLink RX1 117 yX0_towards, .instanceMethod yX0_towards, .selects RX0 yX0_towards yX0_towards, .initialized RX0, .code yX0_towards cX0_towards 2 (some (.object "LopsidedRanks$Soldier")), .fieldLink RX0 7 "LopsidedRanks$Soldier" "height" "I", .fieldLink RX0 16 "LopsidedRanks$Soldier" "left" "LLopsidedRanks$Soldier;", .fieldLink RX0 20 "LopsidedRanks$Soldier" "right" "LLopsidedRanks$Soldier;"] ++ wsX10 ++ wsX00)
def wsX1_handOver : List Cond := .code yX1_handOver cX1_handOver 2 none :: ([.fieldLink RX1 100 "LopsidedRanks$Soldier" "height" "I", .methodLink RX1 156 yX0_setTowards, .instanceMethod yX0_setTowards, .selects RX0 yX0_setTowards yX0_setTowards, .initialized RX0, .code yX0_setTowards cX0_setTowards 3 none, .fieldLink RX0 7 "LopsidedRanks$Soldier" "height" "I", .fieldLink RX0 16 "LopsidedRanks$Soldier" "left" "LLopsidedRanks$Soldier;", .fieldLink RX0 20 "LopsidedRanks$Soldier" "right" "LLopsidedRanks$Soldier;", .fieldLink RX0 23 "LopsidedRanks$Soldier" "above" "LLopsidedRanks$Soldier;"] ++ wsX00)
def wsX1_halve : List Cond := .code yX1_halve cX1_halve 7 (some (.object "LopsidedRanks$Soldier")) :: ([.fieldLink RX1 147 "LopsidedRanks$Soldier" "company" "I", .fieldLink RX1 150 "LopsidedRanks$Soldier" "left" "LLopsidedRanks$Soldier;", .fieldLink RX1 160 "LopsidedRanks$Soldier" "right" "LLopsidedRanks$Soldier;", .methodLink RX1 178 yX1_halve, .static yX1_halve, .initialized RX1, .methodLink RX1 166 yX1_handOver, .static yX1_handOver, .code yX1_handOver cX1_handOver 2 none, .fieldLink RX1 100 "LopsidedRanks$Soldier" "height" "I", .methodLink RX1 156 yX0_setTowards, .instanceMethod yX0_setTowards, .selects RX0 yX0_setTowards yX0_setTowards, .initialized RX0, .code yX0_setTowards cX0_setTowards 3 none, .fieldLink RX0 7 "LopsidedRanks$Soldier" "height" "I", .fieldLink RX0 16 "LopsidedRanks$Soldier" "left" "LLopsidedRanks$Soldier;", .fieldLink RX0 20 "LopsidedRanks$Soldier" "right" "LLopsidedRanks$Soldier;", .fieldLink RX0 23 "LopsidedRanks$Soldier" "above" "LLopsidedRanks$Soldier;"] ++ wsX00)
def wsX1_drawUp_r1 : List Cond := [Cond.fieldLink RX1 130 "LopsidedRanks$Soldier" "above" "LLopsidedRanks$Soldier;", Cond.fieldLink RX1 100 "LopsidedRanks$Soldier" "height" "I", Cond.fieldLink RX1 147 "LopsidedRanks$Soldier" "company" "I", Cond.fieldLink RX1 150 "LopsidedRanks$Soldier" "left" "LLopsidedRanks$Soldier;", Cond.fieldLink RX1 11 "LopsidedRanks" "line" "[LLopsidedRanks$Soldier;", Cond.fieldLink RX1 182 "LopsidedRanks" "drawings" "I", Cond.fieldLink RX1 185 "LopsidedRanks" "drawnSoldiers" "I", Cond.fieldLink RX1 19 "LopsidedRanks" "soldiers" "I", Cond.fieldLink RX1 51 "LopsidedRanks" "most" "I", Cond.methodLink RX1 103 yX1_smallerThan, Cond.instanceMethod yX1_smallerThan, Cond.selects RX1 yX1_smallerThan yX1_smallerThan, Cond.initialized RX1, Cond.code yX1_smallerThan cX1_smallerThan 4 (some .int), Cond.fieldLink RX1 77 "LopsidedRanks" "top" "LLopsidedRanks$Soldier;", Cond.methodLink RX1 153 yX1_companyOf, Cond.static yX1_companyOf, Cond.code yX1_companyOf cX1_companyOf 1 (some .int), Cond.methodLink RX1 117 yX0_towards, Cond.instanceMethod yX0_towards, Cond.selects RX0 yX0_towards yX0_towards, Cond.initialized RX0, Cond.code yX0_towards cX0_towards 2 (some (.object "LopsidedRanks$Soldier")), Cond.fieldLink RX0 7 "LopsidedRanks$Soldier" "height" "I"]
def wsX1_drawUp_r2 : List Cond := [Cond.fieldLink RX0 16 "LopsidedRanks$Soldier" "left" "LLopsidedRanks$Soldier;", Cond.fieldLink RX0 20 "LopsidedRanks$Soldier" "right" "LLopsidedRanks$Soldier;", Cond.methodLink RX1 178 yX1_halve, Cond.static yX1_halve, Cond.code yX1_halve cX1_halve 7 (some (.object "LopsidedRanks$Soldier")), Cond.fieldLink RX1 160 "LopsidedRanks$Soldier" "right" "LLopsidedRanks$Soldier;", Cond.methodLink RX1 166 yX1_handOver, Cond.static yX1_handOver, Cond.code yX1_handOver cX1_handOver 2 none, Cond.methodLink RX1 156 yX0_setTowards, Cond.instanceMethod yX0_setTowards, Cond.selects RX0 yX0_setTowards yX0_setTowards, Cond.code yX0_setTowards cX0_setTowards 3 none, Cond.fieldLink RX0 23 "LopsidedRanks$Soldier" "above" "LLopsidedRanks$Soldier;", Cond.methodLink RX1 43 yX1_standBelow, Cond.instanceMethod yX1_standBelow, Cond.selects RX1 yX1_standBelow yX1_standBelow, Cond.code yX1_standBelow cX1_standBelow 4 none]
def wsX1_drawUp : List Cond := .code yX1_drawUp cX1_drawUp 7 (some (.object "LopsidedRanks$Soldier")) :: ((wsX1_drawUp_r1 ++ wsX1_drawUp_r2) ++ wsX00 ++ wsX10)
def wsX1_muster_r1 : List Cond := [Cond.classLink RX1 27 "java/lang/IllegalStateException", Cond.initialized "java/lang/IllegalStateException", Cond.fieldLink RX1 19 "LopsidedRanks" "soldiers" "I", Cond.classLink RX1 9 RX0, Cond.instantiable RX0 5, Cond.initialized RX0, Cond.fieldLink RX1 51 "LopsidedRanks" "most" "I", Cond.methodLink RX1 15 yX1_refuseOddHeight, Cond.static yX1_refuseOddHeight, Cond.initialized RX1, Cond.code yX1_refuseOddHeight cX1_refuseOddHeight 1 none, Cond.classLink RX1 140 "java/lang/IllegalArgumentException", Cond.initialized "java/lang/IllegalArgumentException", Cond.methodLink RX1 23 yX1_find, Cond.instanceMethod yX1_find, Cond.selects RX1 yX1_find yX1_find, Cond.code yX1_find cX1_find 3 (some (.object "LopsidedRanks$Soldier")), Cond.fieldLink RX1 77 "LopsidedRanks" "top" "LLopsidedRanks$Soldier;", Cond.fieldLink RX1 100 "LopsidedRanks$Soldier" "height" "I", Cond.methodLink RX1 117 yX0_towards, Cond.instanceMethod yX0_towards, Cond.selects RX0 yX0_towards yX0_towards, Cond.code yX0_towards cX0_towards 2 (some (.object "LopsidedRanks$Soldier")), Cond.fieldLink RX0 7 "LopsidedRanks$Soldier" "height" "I"]
def wsX1_muster_r2 : List Cond := [Cond.fieldLink RX0 16 "LopsidedRanks$Soldier" "left" "LLopsidedRanks$Soldier;", Cond.fieldLink RX0 20 "LopsidedRanks$Soldier" "right" "LLopsidedRanks$Soldier;", Cond.methodLink RX1 34 yX0_init, Cond.instanceMethod yX0_init, Cond.code yX0_init cX0_init 2 none, Cond.methodLink RX0 1 objectInit, Cond.instanceMethod objectInit, Cond.code objectInit ⟨#[0xb1]⟩ 1 none, Cond.fieldLink RX0 13 "LopsidedRanks$Soldier" "company" "I", Cond.methodLink RX1 36 yX1_insertIntoLine, Cond.instanceMethod yX1_insertIntoLine, Cond.selects RX1 yX1_insertIntoLine yX1_insertIntoLine, Cond.code yX1_insertIntoLine cX1_insertIntoLine 3 none, Cond.fieldLink RX1 11 "LopsidedRanks" "line" "[LLopsidedRanks$Soldier;", Cond.methodLink RX1 81 yX1_heightOf, Cond.static yX1_heightOf, Cond.code yX1_heightOf cX1_heightOf 1 (some .int), Cond.methodLink RX1 40 yX1_lastOnTheWayTo, Cond.instanceMethod yX1_lastOnTheWayTo, Cond.selects RX1 yX1_lastOnTheWayTo yX1_lastOnTheWayTo, Cond.code yX1_lastOnTheWayTo cX1_lastOnTheWayTo 4 (some (.object "LopsidedRanks$Soldier")), Cond.methodLink RX1 43 yX1_standBelow, Cond.instanceMethod yX1_standBelow, Cond.selects RX1 yX1_standBelow yX1_standBelow]
def wsX1_muster_r3 : List Cond := [Cond.code yX1_standBelow cX1_standBelow 4 none, Cond.fieldLink RX1 130 "LopsidedRanks$Soldier" "above" "LLopsidedRanks$Soldier;", Cond.methodLink RX1 156 yX0_setTowards, Cond.instanceMethod yX0_setTowards, Cond.selects RX0 yX0_setTowards yX0_setTowards, Cond.code yX0_setTowards cX0_setTowards 3 none, Cond.fieldLink RX0 23 "LopsidedRanks$Soldier" "above" "LLopsidedRanks$Soldier;", Cond.methodLink RX1 47 yX1_addToCompaniesAbove, Cond.static yX1_addToCompaniesAbove, Cond.code yX1_addToCompaniesAbove cX1_addToCompaniesAbove 3 none, Cond.fieldLink RX1 147 "LopsidedRanks$Soldier" "company" "I", Cond.methodLink RX1 54 yX0_depth, Cond.instanceMethod yX0_depth, Cond.selects RX0 yX0_depth yX0_depth, Cond.code yX0_depth cX0_depth 3 (some .int), Cond.methodLink RX1 58 yX1_allowedDepth, Cond.static yX1_allowedDepth, Cond.code yX1_allowedDepth cX1_allowedDepth 6 (some .int), Cond.constantLong RX1 170 (3), Cond.constantLong RX1 172 (2), Cond.methodLink RX1 62 yX1_firstCrookedFrom, Cond.static yX1_firstCrookedFrom, Cond.code yX1_firstCrookedFrom cX1_firstCrookedFrom 2 (some (.object "LopsidedRanks$Soldier")), Cond.methodLink RX1 174 yX0_hasCrookedCompany]
def wsX1_muster_r4 : List Cond := [Cond.instanceMethod yX0_hasCrookedCompany, Cond.selects RX0 yX0_hasCrookedCompany yX0_hasCrookedCompany, Cond.code yX0_hasCrookedCompany cX0_hasCrookedCompany 1 (some .boolean), Cond.static yX1_companyOf, Cond.code yX1_companyOf cX1_companyOf 1 (some .int), Cond.static yX1_isCrooked, Cond.code yX1_isCrooked cX1_isCrooked 3 (some .boolean), Cond.methodLink RX1 66 yX1_drawUp, Cond.instanceMethod yX1_drawUp, Cond.selects RX1 yX1_drawUp yX1_drawUp, Cond.code yX1_drawUp cX1_drawUp 7 (some (.object "LopsidedRanks$Soldier")), Cond.fieldLink RX1 150 "LopsidedRanks$Soldier" "left" "LLopsidedRanks$Soldier;", Cond.fieldLink RX1 182 "LopsidedRanks" "drawings" "I", Cond.fieldLink RX1 185 "LopsidedRanks" "drawnSoldiers" "I", Cond.methodLink RX1 103 yX1_smallerThan, Cond.instanceMethod yX1_smallerThan, Cond.selects RX1 yX1_smallerThan yX1_smallerThan, Cond.code yX1_smallerThan cX1_smallerThan 4 (some .int), Cond.methodLink RX1 153 yX1_companyOf, Cond.methodLink RX1 178 yX1_halve, Cond.static yX1_halve, Cond.code yX1_halve cX1_halve 7 (some (.object "LopsidedRanks$Soldier")), Cond.fieldLink RX1 160 "LopsidedRanks$Soldier" "right" "LLopsidedRanks$Soldier;", Cond.methodLink RX1 166 yX1_handOver]
def wsX1_muster_r5 : List Cond := [Cond.static yX1_handOver, Cond.code yX1_handOver cX1_handOver 2 none]
def wsX1_muster : List Cond := .code yX1_muster cX1_muster 3 (some .int) :: ((wsX1_muster_r1 ++ (wsX1_muster_r2 ++ (wsX1_muster_r3 ++ (wsX1_muster_r4 ++ wsX1_muster_r5)))) ++ wsX10 ++ wsX00 ++ (vx_atS RX1 31 "java/lang/IllegalStateException" ["java/lang/RuntimeException", "java/lang/Exception"]).filter goodWord ++ (vx_atS RX1 144 "java/lang/IllegalArgumentException" ["java/lang/RuntimeException", "java/lang/Exception"]).filter goodWord)
def wsX1_removeFromLine : List Cond := .code yX1_removeFromLine cX1_removeFromLine 3 none :: ([.fieldLink RX1 100 "LopsidedRanks$Soldier" "height" "I", .fieldLink RX1 19 "LopsidedRanks" "soldiers" "I", .fieldLink RX1 11 "LopsidedRanks" "line" "[LLopsidedRanks$Soldier;", .methodLink RX1 103 yX1_smallerThan, .instanceMethod yX1_smallerThan, .selects RX1 yX1_smallerThan yX1_smallerThan, .initialized RX1, .code yX1_smallerThan cX1_smallerThan 4 (some .int), .fieldLink RX1 77 "LopsidedRanks" "top" "LLopsidedRanks$Soldier;", .fieldLink RX1 150 "LopsidedRanks$Soldier" "left" "LLopsidedRanks$Soldier;", .methodLink RX1 153 yX1_companyOf, .static yX1_companyOf, .code yX1_companyOf cX1_companyOf 1 (some .int), .fieldLink RX1 147 "LopsidedRanks$Soldier" "company" "I", .methodLink RX1 117 yX0_towards, .instanceMethod yX0_towards, .selects RX0 yX0_towards yX0_towards, .initialized RX0, .code yX0_towards cX0_towards 2 (some (.object "LopsidedRanks$Soldier")), .fieldLink RX0 7 "LopsidedRanks$Soldier" "height" "I", .fieldLink RX0 16 "LopsidedRanks$Soldier" "left" "LLopsidedRanks$Soldier;", .fieldLink RX0 20 "LopsidedRanks$Soldier" "right" "LLopsidedRanks$Soldier;"] ++ wsX00 ++ wsX10)
def wsX1_removeWithOneSide : List Cond := .code yX1_removeWithOneSide cX1_removeWithOneSide 3 none :: ([.fieldLink RX1 150 "LopsidedRanks$Soldier" "left" "LLopsidedRanks$Soldier;", .fieldLink RX1 160 "LopsidedRanks$Soldier" "right" "LLopsidedRanks$Soldier;", .fieldLink RX1 130 "LopsidedRanks$Soldier" "above" "LLopsidedRanks$Soldier;", .fieldLink RX1 100 "LopsidedRanks$Soldier" "height" "I", .methodLink RX1 47 yX1_addToCompaniesAbove, .static yX1_addToCompaniesAbove, .initialized RX1, .code yX1_addToCompaniesAbove cX1_addToCompaniesAbove 3 none, .fieldLink RX1 147 "LopsidedRanks$Soldier" "company" "I", .methodLink RX1 43 yX1_standBelow, .instanceMethod yX1_standBelow, .selects RX1 yX1_standBelow yX1_standBelow, .code yX1_standBelow cX1_standBelow 4 none, .fieldLink RX1 77 "LopsidedRanks" "top" "LLopsidedRanks$Soldier;", .methodLink RX1 156 yX0_setTowards, .instanceMethod yX0_setTowards, .selects RX0 yX0_setTowards yX0_setTowards, .initialized RX0, .code yX0_setTowards cX0_setTowards 3 none, .fieldLink RX0 7 "LopsidedRanks$Soldier" "height" "I", .fieldLink RX0 16 "LopsidedRanks$Soldier" "left" "LLopsidedRanks$Soldier;", .fieldLink RX0 20 "LopsidedRanks$Soldier" "right" "LLopsidedRanks$Soldier;", .fieldLink RX0 23 "LopsidedRanks$Soldier" "above" "LLopsidedRanks$Soldier;"] ++ wsX00 ++ wsX10)
def wsX1_removeFromRanks_r1 : List Cond := [Cond.fieldLink RX1 150 "LopsidedRanks$Soldier" "left" "LLopsidedRanks$Soldier;", Cond.fieldLink RX1 160 "LopsidedRanks$Soldier" "right" "LLopsidedRanks$Soldier;", Cond.fieldLink RX1 147 "LopsidedRanks$Soldier" "company" "I", Cond.fieldLink RX1 130 "LopsidedRanks$Soldier" "above" "LLopsidedRanks$Soldier;", Cond.fieldLink RX1 100 "LopsidedRanks$Soldier" "height" "I", Cond.methodLink RX1 163 yX1_removeWithOneSide, Cond.instanceMethod yX1_removeWithOneSide, Cond.selects RX1 yX1_removeWithOneSide yX1_removeWithOneSide, Cond.initialized RX1, Cond.code yX1_removeWithOneSide cX1_removeWithOneSide 3 none, Cond.methodLink RX1 47 yX1_addToCompaniesAbove, Cond.static yX1_addToCompaniesAbove, Cond.code yX1_addToCompaniesAbove cX1_addToCompaniesAbove 3 none, Cond.methodLink RX1 43 yX1_standBelow, Cond.instanceMethod yX1_standBelow, Cond.selects RX1 yX1_standBelow yX1_standBelow, Cond.code yX1_standBelow cX1_standBelow 4 none, Cond.fieldLink RX1 77 "LopsidedRanks" "top" "LLopsidedRanks$Soldier;", Cond.methodLink RX1 156 yX0_setTowards, Cond.instanceMethod yX0_setTowards, Cond.selects RX0 yX0_setTowards yX0_setTowards, Cond.initialized RX0, Cond.code yX0_setTowards cX0_setTowards 3 none, Cond.fieldLink RX0 7 "LopsidedRanks$Soldier" "height" "I"]
def wsX1_removeFromRanks_r2 : List Cond := [Cond.fieldLink RX0 16 "LopsidedRanks$Soldier" "left" "LLopsidedRanks$Soldier;", Cond.fieldLink RX0 20 "LopsidedRanks$Soldier" "right" "LLopsidedRanks$Soldier;", Cond.fieldLink RX0 23 "LopsidedRanks$Soldier" "above" "LLopsidedRanks$Soldier;", Cond.methodLink RX1 166 yX1_handOver, Cond.static yX1_handOver, Cond.code yX1_handOver cX1_handOver 2 none]
def wsX1_removeFromRanks : List Cond := .code yX1_removeFromRanks cX1_removeFromRanks 3 none :: ((wsX1_removeFromRanks_r1 ++ wsX1_removeFromRanks_r2) ++ wsX00 ++ wsX10)
def wsX1_discharge_r1 : List Cond := [Cond.classLink RX1 27 "java/lang/IllegalStateException", Cond.initialized "java/lang/IllegalStateException", Cond.fieldLink RX1 19 "LopsidedRanks" "soldiers" "I", Cond.fieldLink RX1 51 "LopsidedRanks" "most" "I", Cond.fieldLink RX1 77 "LopsidedRanks" "top" "LLopsidedRanks$Soldier;", Cond.methodLink RX1 15 yX1_refuseOddHeight, Cond.static yX1_refuseOddHeight, Cond.initialized RX1, Cond.code yX1_refuseOddHeight cX1_refuseOddHeight 1 none, Cond.classLink RX1 140 "java/lang/IllegalArgumentException", Cond.initialized "java/lang/IllegalArgumentException", Cond.methodLink RX1 23 yX1_find, Cond.instanceMethod yX1_find, Cond.selects RX1 yX1_find yX1_find, Cond.code yX1_find cX1_find 3 (some (.object "LopsidedRanks$Soldier")), Cond.fieldLink RX1 100 "LopsidedRanks$Soldier" "height" "I", Cond.methodLink RX1 117 yX0_towards, Cond.instanceMethod yX0_towards, Cond.selects RX0 yX0_towards yX0_towards, Cond.initialized RX0, Cond.code yX0_towards cX0_towards 2 (some (.object "LopsidedRanks$Soldier")), Cond.fieldLink RX0 7 "LopsidedRanks$Soldier" "height" "I", Cond.fieldLink RX0 16 "LopsidedRanks$Soldier" "left" "LLopsidedRanks$Soldier;", Cond.fieldLink RX0 20 "LopsidedRanks$Soldier" "right" "LLopsidedRanks$Soldier;"]
def wsX1_discharge_r2 : List Cond := [Cond.methodLink RX1 71 yX1_removeFromLine, Cond.instanceMethod yX1_removeFromLine, Cond.selects RX1 yX1_removeFromLine yX1_removeFromLine, Cond.code yX1_removeFromLine cX1_removeFromLine 3 none, Cond.fieldLink RX1 11 "LopsidedRanks" "line" "[LLopsidedRanks$Soldier;", Cond.methodLink RX1 103 yX1_smallerThan, Cond.instanceMethod yX1_smallerThan, Cond.selects RX1 yX1_smallerThan yX1_smallerThan, Cond.code yX1_smallerThan cX1_smallerThan 4 (some .int), Cond.fieldLink RX1 150 "LopsidedRanks$Soldier" "left" "LLopsidedRanks$Soldier;", Cond.methodLink RX1 153 yX1_companyOf, Cond.static yX1_companyOf, Cond.code yX1_companyOf cX1_companyOf 1 (some .int), Cond.fieldLink RX1 147 "LopsidedRanks$Soldier" "company" "I", Cond.methodLink RX1 74 yX1_removeFromRanks, Cond.instanceMethod yX1_removeFromRanks, Cond.selects RX1 yX1_removeFromRanks yX1_removeFromRanks, Cond.code yX1_removeFromRanks cX1_removeFromRanks 3 none, Cond.fieldLink RX1 160 "LopsidedRanks$Soldier" "right" "LLopsidedRanks$Soldier;", Cond.fieldLink RX1 130 "LopsidedRanks$Soldier" "above" "LLopsidedRanks$Soldier;", Cond.methodLink RX1 163 yX1_removeWithOneSide, Cond.instanceMethod yX1_removeWithOneSide, Cond.selects RX1 yX1_removeWithOneSide yX1_removeWithOneSide, Cond.code yX1_removeWithOneSide cX1_removeWithOneSide 3 none]
def wsX1_discharge_r3 : List Cond := [Cond.methodLink RX1 47 yX1_addToCompaniesAbove, Cond.static yX1_addToCompaniesAbove, Cond.code yX1_addToCompaniesAbove cX1_addToCompaniesAbove 3 none, Cond.methodLink RX1 43 yX1_standBelow, Cond.instanceMethod yX1_standBelow, Cond.selects RX1 yX1_standBelow yX1_standBelow, Cond.code yX1_standBelow cX1_standBelow 4 none, Cond.methodLink RX1 156 yX0_setTowards, Cond.instanceMethod yX0_setTowards, Cond.selects RX0 yX0_setTowards yX0_setTowards, Cond.code yX0_setTowards cX0_setTowards 3 none, Cond.fieldLink RX0 23 "LopsidedRanks$Soldier" "above" "LLopsidedRanks$Soldier;", Cond.methodLink RX1 166 yX1_handOver, Cond.static yX1_handOver, Cond.code yX1_handOver cX1_handOver 2 none, Cond.methodLink RX1 66 yX1_drawUp, Cond.instanceMethod yX1_drawUp, Cond.selects RX1 yX1_drawUp yX1_drawUp, Cond.code yX1_drawUp cX1_drawUp 7 (some (.object "LopsidedRanks$Soldier")), Cond.fieldLink RX1 182 "LopsidedRanks" "drawings" "I", Cond.fieldLink RX1 185 "LopsidedRanks" "drawnSoldiers" "I", Cond.methodLink RX1 178 yX1_halve, Cond.static yX1_halve, Cond.code yX1_halve cX1_halve 7 (some (.object "LopsidedRanks$Soldier"))]
def wsX1_discharge : List Cond := .code yX1_discharge cX1_discharge 3 (some .boolean) :: ((wsX1_discharge_r1 ++ (wsX1_discharge_r2 ++ wsX1_discharge_r3)) ++ wsX10 ++ wsX00 ++ (vx_atS RX1 31 "java/lang/IllegalStateException" ["java/lang/RuntimeException", "java/lang/Exception"]).filter goodWord ++ (vx_atS RX1 144 "java/lang/IllegalArgumentException" ["java/lang/RuntimeException", "java/lang/Exception"]).filter goodWord)
def wsX1_draw_r1 : List Cond := [Cond.classLink RX1 27 "java/lang/IllegalStateException", Cond.initialized "java/lang/IllegalStateException", Cond.methodLink RX1 15 yX1_refuseOddHeight, Cond.static yX1_refuseOddHeight, Cond.initialized RX1, Cond.code yX1_refuseOddHeight cX1_refuseOddHeight 1 none, Cond.classLink RX1 140 "java/lang/IllegalArgumentException", Cond.initialized "java/lang/IllegalArgumentException", Cond.methodLink RX1 23 yX1_find, Cond.instanceMethod yX1_find, Cond.selects RX1 yX1_find yX1_find, Cond.code yX1_find cX1_find 3 (some (.object "LopsidedRanks$Soldier")), Cond.fieldLink RX1 77 "LopsidedRanks" "top" "LLopsidedRanks$Soldier;", Cond.fieldLink RX1 100 "LopsidedRanks$Soldier" "height" "I", Cond.methodLink RX1 117 yX0_towards, Cond.instanceMethod yX0_towards, Cond.selects RX0 yX0_towards yX0_towards, Cond.initialized RX0, Cond.code yX0_towards cX0_towards 2 (some (.object "LopsidedRanks$Soldier")), Cond.fieldLink RX0 7 "LopsidedRanks$Soldier" "height" "I", Cond.fieldLink RX0 16 "LopsidedRanks$Soldier" "left" "LLopsidedRanks$Soldier;", Cond.fieldLink RX0 20 "LopsidedRanks$Soldier" "right" "LLopsidedRanks$Soldier;", Cond.methodLink RX1 66 yX1_drawUp, Cond.instanceMethod yX1_drawUp]
def wsX1_draw_r2 : List Cond := [Cond.selects RX1 yX1_drawUp yX1_drawUp, Cond.code yX1_drawUp cX1_drawUp 7 (some (.object "LopsidedRanks$Soldier")), Cond.fieldLink RX1 130 "LopsidedRanks$Soldier" "above" "LLopsidedRanks$Soldier;", Cond.fieldLink RX1 147 "LopsidedRanks$Soldier" "company" "I", Cond.fieldLink RX1 150 "LopsidedRanks$Soldier" "left" "LLopsidedRanks$Soldier;", Cond.fieldLink RX1 11 "LopsidedRanks" "line" "[LLopsidedRanks$Soldier;", Cond.fieldLink RX1 182 "LopsidedRanks" "drawings" "I", Cond.fieldLink RX1 185 "LopsidedRanks" "drawnSoldiers" "I", Cond.fieldLink RX1 19 "LopsidedRanks" "soldiers" "I", Cond.fieldLink RX1 51 "LopsidedRanks" "most" "I", Cond.methodLink RX1 103 yX1_smallerThan, Cond.instanceMethod yX1_smallerThan, Cond.selects RX1 yX1_smallerThan yX1_smallerThan, Cond.code yX1_smallerThan cX1_smallerThan 4 (some .int), Cond.methodLink RX1 153 yX1_companyOf, Cond.static yX1_companyOf, Cond.code yX1_companyOf cX1_companyOf 1 (some .int), Cond.methodLink RX1 178 yX1_halve, Cond.static yX1_halve, Cond.code yX1_halve cX1_halve 7 (some (.object "LopsidedRanks$Soldier")), Cond.fieldLink RX1 160 "LopsidedRanks$Soldier" "right" "LLopsidedRanks$Soldier;", Cond.methodLink RX1 166 yX1_handOver, Cond.static yX1_handOver, Cond.code yX1_handOver cX1_handOver 2 none]
def wsX1_draw_r3 : List Cond := [Cond.methodLink RX1 156 yX0_setTowards, Cond.instanceMethod yX0_setTowards, Cond.selects RX0 yX0_setTowards yX0_setTowards, Cond.code yX0_setTowards cX0_setTowards 3 none, Cond.fieldLink RX0 23 "LopsidedRanks$Soldier" "above" "LLopsidedRanks$Soldier;", Cond.methodLink RX1 43 yX1_standBelow, Cond.instanceMethod yX1_standBelow, Cond.selects RX1 yX1_standBelow yX1_standBelow, Cond.code yX1_standBelow cX1_standBelow 4 none, Cond.methodLink RX1 81 yX1_heightOf, Cond.static yX1_heightOf, Cond.code yX1_heightOf cX1_heightOf 1 (some .int)]
def wsX1_draw : List Cond := .code yX1_draw cX1_draw 3 (some .int) :: ((wsX1_draw_r1 ++ (wsX1_draw_r2 ++ wsX1_draw_r3)) ++ wsX10 ++ wsX00 ++ (vx_atS RX1 31 "java/lang/IllegalStateException" ["java/lang/RuntimeException", "java/lang/Exception"]).filter goodWord ++ (vx_atS RX1 144 "java/lang/IllegalArgumentException" ["java/lang/RuntimeException", "java/lang/Exception"]).filter goodWord)
def wsX1_isThere : List Cond := .code yX1_isThere cX1_isThere 2 (some .boolean) :: ([.methodLink RX1 15 yX1_refuseOddHeight, .static yX1_refuseOddHeight, .initialized RX1, .code yX1_refuseOddHeight cX1_refuseOddHeight 1 none, .classLink RX1 140 "java/lang/IllegalArgumentException", .initialized "java/lang/IllegalArgumentException", .methodLink RX1 23 yX1_find, .instanceMethod yX1_find, .selects RX1 yX1_find yX1_find, .code yX1_find cX1_find 3 (some (.object "LopsidedRanks$Soldier")), .fieldLink RX1 77 "LopsidedRanks" "top" "LLopsidedRanks$Soldier;", .fieldLink RX1 100 "LopsidedRanks$Soldier" "height" "I", .methodLink RX1 117 yX0_towards, .instanceMethod yX0_towards, .selects RX0 yX0_towards yX0_towards, .initialized RX0, .code yX0_towards cX0_towards 2 (some (.object "LopsidedRanks$Soldier")), .fieldLink RX0 7 "LopsidedRanks$Soldier" "height" "I", .fieldLink RX0 16 "LopsidedRanks$Soldier" "left" "LLopsidedRanks$Soldier;", .fieldLink RX0 20 "LopsidedRanks$Soldier" "right" "LLopsidedRanks$Soldier;"] ++ wsX10 ++ wsX00 ++ (vx_atS RX1 144 "java/lang/IllegalArgumentException" ["java/lang/RuntimeException", "java/lang/Exception"]).filter goodWord)
def wsX1_refuseOddQuestion : List Cond := .code yX1_refuseOddQuestion cX1_refuseOddQuestion 1 none :: ([.classLink RX1 95 "java/lang/IndexOutOfBoundsException", .initialized "java/lang/IndexOutOfBoundsException"] ++ (vx_atS RX1 99 "java/lang/IndexOutOfBoundsException" ["java/lang/RuntimeException", "java/lang/Exception"]).filter goodWord)
def wsX1_inLine : List Cond := .code yX1_inLine cX1_inLine 2 (some (.object "LopsidedRanks$Soldier")) :: ([.fieldLink RX1 19 "LopsidedRanks" "soldiers" "I", .fieldLink RX1 11 "LopsidedRanks" "line" "[LLopsidedRanks$Soldier;"] ++ wsX10)
def wsX1_stepsUp : List Cond := .code yX1_stepsUp cX1_stepsUp 4 (some .int) :: ([.fieldLink RX1 130 "LopsidedRanks$Soldier" "above" "LLopsidedRanks$Soldier;"] ++ wsX00)
def wsX1_deepestBelow_r1 : List Cond := [Cond.fieldLink RX1 100 "LopsidedRanks$Soldier" "height" "I", Cond.fieldLink RX1 150 "LopsidedRanks$Soldier" "left" "LLopsidedRanks$Soldier;", Cond.fieldLink RX1 147 "LopsidedRanks$Soldier" "company" "I", Cond.methodLink RX1 114 Lib.Math.max.name, Cond.static Lib.Math.max.name, Cond.initialized "java/lang/Math", Cond.code Lib.Math.max.name Lib.Math.max.code 2 (some .int), Cond.methodLink RX1 103 yX1_smallerThan, Cond.instanceMethod yX1_smallerThan, Cond.selects RX1 yX1_smallerThan yX1_smallerThan, Cond.initialized RX1, Cond.code yX1_smallerThan cX1_smallerThan 4 (some .int), Cond.fieldLink RX1 77 "LopsidedRanks" "top" "LLopsidedRanks$Soldier;", Cond.methodLink RX1 153 yX1_companyOf, Cond.static yX1_companyOf, Cond.code yX1_companyOf cX1_companyOf 1 (some .int), Cond.methodLink RX1 117 yX0_towards, Cond.instanceMethod yX0_towards, Cond.selects RX0 yX0_towards yX0_towards, Cond.initialized RX0, Cond.code yX0_towards cX0_towards 2 (some (.object "LopsidedRanks$Soldier")), Cond.fieldLink RX0 7 "LopsidedRanks$Soldier" "height" "I", Cond.fieldLink RX0 16 "LopsidedRanks$Soldier" "left" "LLopsidedRanks$Soldier;", Cond.fieldLink RX0 20 "LopsidedRanks$Soldier" "right" "LLopsidedRanks$Soldier;"]
def wsX1_deepestBelow_r2 : List Cond := [Cond.methodLink RX1 92 yX1_inLine, Cond.instanceMethod yX1_inLine, Cond.selects RX1 yX1_inLine yX1_inLine, Cond.code yX1_inLine cX1_inLine 2 (some (.object "LopsidedRanks$Soldier")), Cond.fieldLink RX1 19 "LopsidedRanks" "soldiers" "I", Cond.fieldLink RX1 11 "LopsidedRanks" "line" "[LLopsidedRanks$Soldier;", Cond.methodLink RX1 194 yX1_stepsUp, Cond.static yX1_stepsUp, Cond.code yX1_stepsUp cX1_stepsUp 4 (some .int), Cond.fieldLink RX1 130 "LopsidedRanks$Soldier" "above" "LLopsidedRanks$Soldier;"]
def wsX1_deepestBelow : List Cond := .code yX1_deepestBelow cX1_deepestBelow 5 (some .int) :: ((wsX1_deepestBelow_r1 ++ wsX1_deepestBelow_r2) ++ wsX00 ++ wsX10)
def wsX1_tell_r1 : List Cond := [Cond.fieldLink RX1 130 "LopsidedRanks$Soldier" "above" "LLopsidedRanks$Soldier;", Cond.fieldLink RX1 150 "LopsidedRanks$Soldier" "left" "LLopsidedRanks$Soldier;", Cond.fieldLink RX1 160 "LopsidedRanks$Soldier" "right" "LLopsidedRanks$Soldier;", Cond.fieldLink RX1 147 "LopsidedRanks$Soldier" "company" "I", Cond.fieldLink RX1 100 "LopsidedRanks$Soldier" "height" "I", Cond.methodLink RX1 54 yX0_depth, Cond.instanceMethod yX0_depth, Cond.selects RX0 yX0_depth yX0_depth, Cond.initialized RX0, Cond.code yX0_depth cX0_depth 3 (some .int), Cond.fieldLink RX0 23 "LopsidedRanks$Soldier" "above" "LLopsidedRanks$Soldier;", Cond.methodLink RX1 81 yX1_heightOf, Cond.static yX1_heightOf, Cond.initialized RX1, Cond.code yX1_heightOf cX1_heightOf 1 (some .int), Cond.methodLink RX1 188 yX1_deepestBelow, Cond.instanceMethod yX1_deepestBelow, Cond.selects RX1 yX1_deepestBelow yX1_deepestBelow, Cond.code yX1_deepestBelow cX1_deepestBelow 5 (some .int), Cond.methodLink RX1 114 Lib.Math.max.name, Cond.static Lib.Math.max.name, Cond.initialized "java/lang/Math", Cond.code Lib.Math.max.name Lib.Math.max.code 2 (some .int), Cond.methodLink RX1 103 yX1_smallerThan]
def wsX1_tell_r2 : List Cond := [Cond.instanceMethod yX1_smallerThan, Cond.selects RX1 yX1_smallerThan yX1_smallerThan, Cond.code yX1_smallerThan cX1_smallerThan 4 (some .int), Cond.fieldLink RX1 77 "LopsidedRanks" "top" "LLopsidedRanks$Soldier;", Cond.methodLink RX1 153 yX1_companyOf, Cond.static yX1_companyOf, Cond.code yX1_companyOf cX1_companyOf 1 (some .int), Cond.methodLink RX1 117 yX0_towards, Cond.instanceMethod yX0_towards, Cond.selects RX0 yX0_towards yX0_towards, Cond.code yX0_towards cX0_towards 2 (some (.object "LopsidedRanks$Soldier")), Cond.fieldLink RX0 7 "LopsidedRanks$Soldier" "height" "I", Cond.fieldLink RX0 16 "LopsidedRanks$Soldier" "left" "LLopsidedRanks$Soldier;", Cond.fieldLink RX0 20 "LopsidedRanks$Soldier" "right" "LLopsidedRanks$Soldier;", Cond.methodLink RX1 92 yX1_inLine, Cond.instanceMethod yX1_inLine, Cond.selects RX1 yX1_inLine yX1_inLine, Cond.code yX1_inLine cX1_inLine 2 (some (.object "LopsidedRanks$Soldier")), Cond.fieldLink RX1 19 "LopsidedRanks" "soldiers" "I", Cond.fieldLink RX1 11 "LopsidedRanks" "line" "[LLopsidedRanks$Soldier;", Cond.methodLink RX1 194 yX1_stepsUp, Cond.static yX1_stepsUp, Cond.code yX1_stepsUp cX1_stepsUp 4 (some .int), Cond.methodLink RX1 174 yX0_hasCrookedCompany]
def wsX1_tell_r3 : List Cond := [Cond.instanceMethod yX0_hasCrookedCompany, Cond.selects RX0 yX0_hasCrookedCompany yX0_hasCrookedCompany, Cond.code yX0_hasCrookedCompany cX0_hasCrookedCompany 1 (some .boolean), Cond.static yX1_isCrooked, Cond.code yX1_isCrooked cX1_isCrooked 3 (some .boolean)]
def wsX1_tell : List Cond := .code yX1_tell cX1_tell 3 (some .int) :: ((wsX1_tell_r1 ++ (wsX1_tell_r2 ++ wsX1_tell_r3)) ++ wsX00 ++ wsX10)
def wsX1_told_r1 : List Cond := [Cond.classLink RX1 27 "java/lang/IllegalStateException", Cond.initialized "java/lang/IllegalStateException", Cond.methodLink RX1 15 yX1_refuseOddHeight, Cond.static yX1_refuseOddHeight, Cond.initialized RX1, Cond.code yX1_refuseOddHeight cX1_refuseOddHeight 1 none, Cond.classLink RX1 140 "java/lang/IllegalArgumentException", Cond.initialized "java/lang/IllegalArgumentException", Cond.methodLink RX1 85 yX1_refuseOddQuestion, Cond.static yX1_refuseOddQuestion, Cond.code yX1_refuseOddQuestion cX1_refuseOddQuestion 1 none, Cond.classLink RX1 95 "java/lang/IndexOutOfBoundsException", Cond.initialized "java/lang/IndexOutOfBoundsException", Cond.methodLink RX1 23 yX1_find, Cond.instanceMethod yX1_find, Cond.selects RX1 yX1_find yX1_find, Cond.code yX1_find cX1_find 3 (some (.object "LopsidedRanks$Soldier")), Cond.fieldLink RX1 77 "LopsidedRanks" "top" "LLopsidedRanks$Soldier;", Cond.fieldLink RX1 100 "LopsidedRanks$Soldier" "height" "I", Cond.methodLink RX1 117 yX0_towards, Cond.instanceMethod yX0_towards, Cond.selects RX0 yX0_towards yX0_towards, Cond.initialized RX0, Cond.code yX0_towards cX0_towards 2 (some (.object "LopsidedRanks$Soldier"))]
def wsX1_told_r2 : List Cond := [Cond.fieldLink RX0 7 "LopsidedRanks$Soldier" "height" "I", Cond.fieldLink RX0 16 "LopsidedRanks$Soldier" "left" "LLopsidedRanks$Soldier;", Cond.fieldLink RX0 20 "LopsidedRanks$Soldier" "right" "LLopsidedRanks$Soldier;", Cond.methodLink RX1 88 yX1_tell, Cond.instanceMethod yX1_tell, Cond.selects RX1 yX1_tell yX1_tell, Cond.code yX1_tell cX1_tell 3 (some .int), Cond.fieldLink RX1 130 "LopsidedRanks$Soldier" "above" "LLopsidedRanks$Soldier;", Cond.fieldLink RX1 150 "LopsidedRanks$Soldier" "left" "LLopsidedRanks$Soldier;", Cond.fieldLink RX1 160 "LopsidedRanks$Soldier" "right" "LLopsidedRanks$Soldier;", Cond.fieldLink RX1 147 "LopsidedRanks$Soldier" "company" "I", Cond.methodLink RX1 54 yX0_depth, Cond.instanceMethod yX0_depth, Cond.selects RX0 yX0_depth yX0_depth, Cond.code yX0_depth cX0_depth 3 (some .int), Cond.fieldLink RX0 23 "LopsidedRanks$Soldier" "above" "LLopsidedRanks$Soldier;", Cond.methodLink RX1 81 yX1_heightOf, Cond.static yX1_heightOf, Cond.code yX1_heightOf cX1_heightOf 1 (some .int), Cond.methodLink RX1 188 yX1_deepestBelow, Cond.instanceMethod yX1_deepestBelow, Cond.selects RX1 yX1_deepestBelow yX1_deepestBelow, Cond.code yX1_deepestBelow cX1_deepestBelow 5 (some .int), Cond.methodLink RX1 114 Lib.Math.max.name]
def wsX1_told_r3 : List Cond := [Cond.static Lib.Math.max.name, Cond.initialized "java/lang/Math", Cond.code Lib.Math.max.name Lib.Math.max.code 2 (some .int), Cond.methodLink RX1 103 yX1_smallerThan, Cond.instanceMethod yX1_smallerThan, Cond.selects RX1 yX1_smallerThan yX1_smallerThan, Cond.code yX1_smallerThan cX1_smallerThan 4 (some .int), Cond.methodLink RX1 153 yX1_companyOf, Cond.static yX1_companyOf, Cond.code yX1_companyOf cX1_companyOf 1 (some .int), Cond.methodLink RX1 92 yX1_inLine, Cond.instanceMethod yX1_inLine, Cond.selects RX1 yX1_inLine yX1_inLine, Cond.code yX1_inLine cX1_inLine 2 (some (.object "LopsidedRanks$Soldier")), Cond.fieldLink RX1 19 "LopsidedRanks" "soldiers" "I", Cond.fieldLink RX1 11 "LopsidedRanks" "line" "[LLopsidedRanks$Soldier;", Cond.methodLink RX1 194 yX1_stepsUp, Cond.static yX1_stepsUp, Cond.code yX1_stepsUp cX1_stepsUp 4 (some .int), Cond.methodLink RX1 174 yX0_hasCrookedCompany, Cond.instanceMethod yX0_hasCrookedCompany, Cond.selects RX0 yX0_hasCrookedCompany yX0_hasCrookedCompany, Cond.code yX0_hasCrookedCompany cX0_hasCrookedCompany 1 (some .boolean), Cond.static yX1_isCrooked]
def wsX1_told_r4 : List Cond := [Cond.code yX1_isCrooked cX1_isCrooked 3 (some .boolean)]
def wsX1_told : List Cond := .code yX1_told cX1_told 4 (some .int) :: ((wsX1_told_r1 ++ (wsX1_told_r2 ++ (wsX1_told_r3 ++ wsX1_told_r4))) ++ wsX10 ++ wsX00 ++ (vx_atS RX1 31 "java/lang/IllegalStateException" ["java/lang/RuntimeException", "java/lang/Exception"]).filter goodWord ++ (vx_atS RX1 144 "java/lang/IllegalArgumentException" ["java/lang/RuntimeException", "java/lang/Exception"]).filter goodWord ++ (vx_atS RX1 99 "java/lang/IndexOutOfBoundsException" ["java/lang/RuntimeException", "java/lang/Exception"]).filter goodWord)
def wsX1_at : List Cond := .code yX1_at cX1_at 3 (some .int) :: ([.classLink RX1 95 "java/lang/IndexOutOfBoundsException", .initialized "java/lang/IndexOutOfBoundsException", .fieldLink RX1 100 "LopsidedRanks$Soldier" "height" "I", .methodLink RX1 92 yX1_inLine, .instanceMethod yX1_inLine, .selects RX1 yX1_inLine yX1_inLine, .initialized RX1, .code yX1_inLine cX1_inLine 2 (some (.object "LopsidedRanks$Soldier")), .fieldLink RX1 19 "LopsidedRanks" "soldiers" "I", .fieldLink RX1 11 "LopsidedRanks" "line" "[LLopsidedRanks$Soldier;"] ++ wsX00 ++ wsX10 ++ (vx_atS RX1 99 "java/lang/IndexOutOfBoundsException" ["java/lang/RuntimeException", "java/lang/Exception"]).filter goodWord)
def wsX1_between_r1 : List Cond := [Cond.methodLink RX1 15 yX1_refuseOddHeight, Cond.static yX1_refuseOddHeight, Cond.initialized RX1, Cond.code yX1_refuseOddHeight cX1_refuseOddHeight 1 none, Cond.classLink RX1 140 "java/lang/IllegalArgumentException", Cond.initialized "java/lang/IllegalArgumentException", Cond.methodLink RX1 103 yX1_smallerThan, Cond.instanceMethod yX1_smallerThan, Cond.selects RX1 yX1_smallerThan yX1_smallerThan, Cond.code yX1_smallerThan cX1_smallerThan 4 (some .int), Cond.fieldLink RX1 77 "LopsidedRanks" "top" "LLopsidedRanks$Soldier;", Cond.fieldLink RX1 100 "LopsidedRanks$Soldier" "height" "I", Cond.fieldLink RX1 150 "LopsidedRanks$Soldier" "left" "LLopsidedRanks$Soldier;", Cond.methodLink RX1 153 yX1_companyOf, Cond.static yX1_companyOf, Cond.code yX1_companyOf cX1_companyOf 1 (some .int), Cond.fieldLink RX1 147 "LopsidedRanks$Soldier" "company" "I", Cond.methodLink RX1 117 yX0_towards, Cond.instanceMethod yX0_towards, Cond.selects RX0 yX0_towards yX0_towards, Cond.initialized RX0, Cond.code yX0_towards cX0_towards 2 (some (.object "LopsidedRanks$Soldier")), Cond.fieldLink RX0 7 "LopsidedRanks$Soldier" "height" "I", Cond.fieldLink RX0 16 "LopsidedRanks$Soldier" "left" "LLopsidedRanks$Soldier;"]
def wsX1_between_r2 : List Cond := [Cond.fieldLink RX0 20 "LopsidedRanks$Soldier" "right" "LLopsidedRanks$Soldier;"]
def wsX1_between : List Cond := .code yX1_between cX1_between 3 (some .int) :: ((wsX1_between_r1 ++ wsX1_between_r2) ++ wsX10 ++ wsX00 ++ (vx_atS RX1 144 "java/lang/IllegalArgumentException" ["java/lang/RuntimeException", "java/lang/Exception"]).filter goodWord)
def wsX1_captain_r1 : List Cond := [Cond.classLink RX1 27 "java/lang/IllegalStateException", Cond.initialized "java/lang/IllegalStateException", Cond.methodLink RX1 108 Lib.Math.min.name, Cond.static Lib.Math.min.name, Cond.initialized "java/lang/Math", Cond.code Lib.Math.min.name Lib.Math.min.code 2 (some .int), Cond.methodLink RX1 114 Lib.Math.max.name, Cond.static Lib.Math.max.name, Cond.code Lib.Math.max.name Lib.Math.max.code 2 (some .int), Cond.fieldLink RX1 77 "LopsidedRanks" "top" "LLopsidedRanks$Soldier;", Cond.fieldLink RX1 100 "LopsidedRanks$Soldier" "height" "I", Cond.methodLink RX1 15 yX1_refuseOddHeight, Cond.static yX1_refuseOddHeight, Cond.initialized RX1, Cond.code yX1_refuseOddHeight cX1_refuseOddHeight 1 none, Cond.classLink RX1 140 "java/lang/IllegalArgumentException", Cond.initialized "java/lang/IllegalArgumentException", Cond.methodLink RX1 23 yX1_find, Cond.instanceMethod yX1_find, Cond.selects RX1 yX1_find yX1_find, Cond.code yX1_find cX1_find 3 (some (.object "LopsidedRanks$Soldier")), Cond.methodLink RX1 117 yX0_towards, Cond.instanceMethod yX0_towards, Cond.selects RX0 yX0_towards yX0_towards]
def wsX1_captain_r2 : List Cond := [Cond.initialized RX0, Cond.code yX0_towards cX0_towards 2 (some (.object "LopsidedRanks$Soldier")), Cond.fieldLink RX0 7 "LopsidedRanks$Soldier" "height" "I", Cond.fieldLink RX0 16 "LopsidedRanks$Soldier" "left" "LLopsidedRanks$Soldier;", Cond.fieldLink RX0 20 "LopsidedRanks$Soldier" "right" "LLopsidedRanks$Soldier;", Cond.methodLink RX1 81 yX1_heightOf, Cond.static yX1_heightOf, Cond.code yX1_heightOf cX1_heightOf 1 (some .int)]
def wsX1_captain : List Cond := .code yX1_captain cX1_captain 6 (some .int) :: ((wsX1_captain_r1 ++ wsX1_captain_r2) ++ wsX10 ++ wsX00 ++ (vx_atS RX1 31 "java/lang/IllegalStateException" ["java/lang/RuntimeException", "java/lang/Exception"]).filter goodWord ++ (vx_atS RX1 144 "java/lang/IllegalArgumentException" ["java/lang/RuntimeException", "java/lang/Exception"]).filter goodWord)
def wsX1_taller_r1 : List Cond := [Cond.methodLink RX1 15 yX1_refuseOddHeight, Cond.static yX1_refuseOddHeight, Cond.initialized RX1, Cond.code yX1_refuseOddHeight cX1_refuseOddHeight 1 none, Cond.classLink RX1 140 "java/lang/IllegalArgumentException", Cond.initialized "java/lang/IllegalArgumentException", Cond.methodLink RX1 103 yX1_smallerThan, Cond.instanceMethod yX1_smallerThan, Cond.selects RX1 yX1_smallerThan yX1_smallerThan, Cond.code yX1_smallerThan cX1_smallerThan 4 (some .int), Cond.fieldLink RX1 77 "LopsidedRanks" "top" "LLopsidedRanks$Soldier;", Cond.fieldLink RX1 100 "LopsidedRanks$Soldier" "height" "I", Cond.fieldLink RX1 150 "LopsidedRanks$Soldier" "left" "LLopsidedRanks$Soldier;", Cond.methodLink RX1 153 yX1_companyOf, Cond.static yX1_companyOf, Cond.code yX1_companyOf cX1_companyOf 1 (some .int), Cond.fieldLink RX1 147 "LopsidedRanks$Soldier" "company" "I", Cond.methodLink RX1 117 yX0_towards, Cond.instanceMethod yX0_towards, Cond.selects RX0 yX0_towards yX0_towards, Cond.initialized RX0, Cond.code yX0_towards cX0_towards 2 (some (.object "LopsidedRanks$Soldier")), Cond.fieldLink RX0 7 "LopsidedRanks$Soldier" "height" "I", Cond.fieldLink RX0 16 "LopsidedRanks$Soldier" "left" "LLopsidedRanks$Soldier;"]
def wsX1_taller_r2 : List Cond := [Cond.fieldLink RX0 20 "LopsidedRanks$Soldier" "right" "LLopsidedRanks$Soldier;", Cond.methodLink RX1 92 yX1_inLine, Cond.instanceMethod yX1_inLine, Cond.selects RX1 yX1_inLine yX1_inLine, Cond.code yX1_inLine cX1_inLine 2 (some (.object "LopsidedRanks$Soldier")), Cond.fieldLink RX1 19 "LopsidedRanks" "soldiers" "I", Cond.fieldLink RX1 11 "LopsidedRanks" "line" "[LLopsidedRanks$Soldier;", Cond.methodLink RX1 81 yX1_heightOf, Cond.static yX1_heightOf, Cond.code yX1_heightOf cX1_heightOf 1 (some .int)]
def wsX1_taller : List Cond := .code yX1_taller cX1_taller 2 (some .int) :: ((wsX1_taller_r1 ++ wsX1_taller_r2) ++ wsX10 ++ wsX00 ++ (vx_atS RX1 144 "java/lang/IllegalArgumentException" ["java/lang/RuntimeException", "java/lang/Exception"]).filter goodWord)
def wsX1_crookedCompanies : List Cond := .code yX1_crookedCompanies cX1_crookedCompanies 4 (some .int) :: ([.fieldLink RX1 19 "LopsidedRanks" "soldiers" "I", .methodLink RX1 92 yX1_inLine, .instanceMethod yX1_inLine, .selects RX1 yX1_inLine yX1_inLine, .initialized RX1, .code yX1_inLine cX1_inLine 2 (some (.object "LopsidedRanks$Soldier")), .fieldLink RX1 11 "LopsidedRanks" "line" "[LLopsidedRanks$Soldier;", .methodLink RX1 174 yX0_hasCrookedCompany, .instanceMethod yX0_hasCrookedCompany, .selects RX0 yX0_hasCrookedCompany yX0_hasCrookedCompany, .initialized RX0, .code yX0_hasCrookedCompany cX0_hasCrookedCompany 1 (some .boolean), .fieldLink RX0 16 "LopsidedRanks$Soldier" "left" "LLopsidedRanks$Soldier;", .fieldLink RX0 20 "LopsidedRanks$Soldier" "right" "LLopsidedRanks$Soldier;", .static yX1_companyOf, .code yX1_companyOf cX1_companyOf 1 (some .int), .fieldLink RX1 147 "LopsidedRanks$Soldier" "company" "I", .static yX1_isCrooked, .code yX1_isCrooked cX1_isCrooked 3 (some .boolean)] ++ wsX10 ++ wsX00)
def wsX1_tally_r1 : List Cond := [Cond.fieldLink RX1 19 "LopsidedRanks" "soldiers" "I", Cond.fieldLink RX1 77 "LopsidedRanks" "top" "LLopsidedRanks$Soldier;", Cond.fieldLink RX1 182 "LopsidedRanks" "drawings" "I", Cond.fieldLink RX1 185 "LopsidedRanks" "drawnSoldiers" "I", Cond.fieldLink RX1 51 "LopsidedRanks" "most" "I", Cond.methodLink RX1 81 yX1_heightOf, Cond.static yX1_heightOf, Cond.initialized RX1, Cond.code yX1_heightOf cX1_heightOf 1 (some .int), Cond.fieldLink RX1 100 "LopsidedRanks$Soldier" "height" "I", Cond.methodLink RX1 188 yX1_deepestBelow, Cond.instanceMethod yX1_deepestBelow, Cond.selects RX1 yX1_deepestBelow yX1_deepestBelow, Cond.code yX1_deepestBelow cX1_deepestBelow 5 (some .int), Cond.fieldLink RX1 150 "LopsidedRanks$Soldier" "left" "LLopsidedRanks$Soldier;", Cond.fieldLink RX1 147 "LopsidedRanks$Soldier" "company" "I", Cond.methodLink RX1 114 Lib.Math.max.name, Cond.static Lib.Math.max.name, Cond.initialized "java/lang/Math", Cond.code Lib.Math.max.name Lib.Math.max.code 2 (some .int), Cond.methodLink RX1 103 yX1_smallerThan, Cond.instanceMethod yX1_smallerThan, Cond.selects RX1 yX1_smallerThan yX1_smallerThan, Cond.code yX1_smallerThan cX1_smallerThan 4 (some .int)]
def wsX1_tally_r2 : List Cond := [Cond.methodLink RX1 153 yX1_companyOf, Cond.static yX1_companyOf, Cond.code yX1_companyOf cX1_companyOf 1 (some .int), Cond.methodLink RX1 117 yX0_towards, Cond.instanceMethod yX0_towards, Cond.selects RX0 yX0_towards yX0_towards, Cond.initialized RX0, Cond.code yX0_towards cX0_towards 2 (some (.object "LopsidedRanks$Soldier")), Cond.fieldLink RX0 7 "LopsidedRanks$Soldier" "height" "I", Cond.fieldLink RX0 16 "LopsidedRanks$Soldier" "left" "LLopsidedRanks$Soldier;", Cond.fieldLink RX0 20 "LopsidedRanks$Soldier" "right" "LLopsidedRanks$Soldier;", Cond.methodLink RX1 92 yX1_inLine, Cond.instanceMethod yX1_inLine, Cond.selects RX1 yX1_inLine yX1_inLine, Cond.code yX1_inLine cX1_inLine 2 (some (.object "LopsidedRanks$Soldier")), Cond.fieldLink RX1 11 "LopsidedRanks" "line" "[LLopsidedRanks$Soldier;", Cond.methodLink RX1 194 yX1_stepsUp, Cond.static yX1_stepsUp, Cond.code yX1_stepsUp cX1_stepsUp 4 (some .int), Cond.fieldLink RX1 130 "LopsidedRanks$Soldier" "above" "LLopsidedRanks$Soldier;", Cond.methodLink RX1 58 yX1_allowedDepth, Cond.static yX1_allowedDepth, Cond.code yX1_allowedDepth cX1_allowedDepth 6 (some .int), Cond.constantLong RX1 170 (3)]
def wsX1_tally_r3 : List Cond := [Cond.constantLong RX1 172 (2), Cond.methodLink RX1 191 yX1_crookedCompanies, Cond.instanceMethod yX1_crookedCompanies, Cond.selects RX1 yX1_crookedCompanies yX1_crookedCompanies, Cond.code yX1_crookedCompanies cX1_crookedCompanies 4 (some .int), Cond.methodLink RX1 174 yX0_hasCrookedCompany, Cond.instanceMethod yX0_hasCrookedCompany, Cond.selects RX0 yX0_hasCrookedCompany yX0_hasCrookedCompany, Cond.code yX0_hasCrookedCompany cX0_hasCrookedCompany 1 (some .boolean), Cond.static yX1_isCrooked, Cond.code yX1_isCrooked cX1_isCrooked 3 (some .boolean)]
def wsX1_tally : List Cond := .code yX1_tally cX1_tally 2 (some .int) :: ((wsX1_tally_r1 ++ (wsX1_tally_r2 ++ wsX1_tally_r3)) ++ wsX10 ++ wsX00)
def wsX1_count_r1 : List Cond := [Cond.methodLink RX1 85 yX1_refuseOddQuestion, Cond.static yX1_refuseOddQuestion, Cond.initialized RX1, Cond.code yX1_refuseOddQuestion cX1_refuseOddQuestion 1 none, Cond.classLink RX1 95 "java/lang/IndexOutOfBoundsException", Cond.initialized "java/lang/IndexOutOfBoundsException", Cond.methodLink RX1 120 yX1_tally, Cond.instanceMethod yX1_tally, Cond.selects RX1 yX1_tally yX1_tally, Cond.code yX1_tally cX1_tally 2 (some .int), Cond.fieldLink RX1 19 "LopsidedRanks" "soldiers" "I", Cond.fieldLink RX1 77 "LopsidedRanks" "top" "LLopsidedRanks$Soldier;", Cond.fieldLink RX1 182 "LopsidedRanks" "drawings" "I", Cond.fieldLink RX1 185 "LopsidedRanks" "drawnSoldiers" "I", Cond.fieldLink RX1 51 "LopsidedRanks" "most" "I", Cond.methodLink RX1 81 yX1_heightOf, Cond.static yX1_heightOf, Cond.code yX1_heightOf cX1_heightOf 1 (some .int), Cond.fieldLink RX1 100 "LopsidedRanks$Soldier" "height" "I", Cond.methodLink RX1 188 yX1_deepestBelow, Cond.instanceMethod yX1_deepestBelow, Cond.selects RX1 yX1_deepestBelow yX1_deepestBelow, Cond.code yX1_deepestBelow cX1_deepestBelow 5 (some .int), Cond.fieldLink RX1 150 "LopsidedRanks$Soldier" "left" "LLopsidedRanks$Soldier;"]
def wsX1_count_r2 : List Cond := [Cond.fieldLink RX1 147 "LopsidedRanks$Soldier" "company" "I", Cond.methodLink RX1 114 Lib.Math.max.name, Cond.static Lib.Math.max.name, Cond.initialized "java/lang/Math", Cond.code Lib.Math.max.name Lib.Math.max.code 2 (some .int), Cond.methodLink RX1 103 yX1_smallerThan, Cond.instanceMethod yX1_smallerThan, Cond.selects RX1 yX1_smallerThan yX1_smallerThan, Cond.code yX1_smallerThan cX1_smallerThan 4 (some .int), Cond.methodLink RX1 153 yX1_companyOf, Cond.static yX1_companyOf, Cond.code yX1_companyOf cX1_companyOf 1 (some .int), Cond.methodLink RX1 117 yX0_towards, Cond.instanceMethod yX0_towards, Cond.selects RX0 yX0_towards yX0_towards, Cond.initialized RX0, Cond.code yX0_towards cX0_towards 2 (some (.object "LopsidedRanks$Soldier")), Cond.fieldLink RX0 7 "LopsidedRanks$Soldier" "height" "I", Cond.fieldLink RX0 16 "LopsidedRanks$Soldier" "left" "LLopsidedRanks$Soldier;", Cond.fieldLink RX0 20 "LopsidedRanks$Soldier" "right" "LLopsidedRanks$Soldier;", Cond.methodLink RX1 92 yX1_inLine, Cond.instanceMethod yX1_inLine, Cond.selects RX1 yX1_inLine yX1_inLine, Cond.code yX1_inLine cX1_inLine 2 (some (.object "LopsidedRanks$Soldier"))]
def wsX1_count_r3 : List Cond := [Cond.fieldLink RX1 11 "LopsidedRanks" "line" "[LLopsidedRanks$Soldier;", Cond.methodLink RX1 194 yX1_stepsUp, Cond.static yX1_stepsUp, Cond.code yX1_stepsUp cX1_stepsUp 4 (some .int), Cond.fieldLink RX1 130 "LopsidedRanks$Soldier" "above" "LLopsidedRanks$Soldier;", Cond.methodLink RX1 58 yX1_allowedDepth, Cond.static yX1_allowedDepth, Cond.code yX1_allowedDepth cX1_allowedDepth 6 (some .int), Cond.constantLong RX1 170 (3), Cond.constantLong RX1 172 (2), Cond.methodLink RX1 191 yX1_crookedCompanies, Cond.instanceMethod yX1_crookedCompanies, Cond.selects RX1 yX1_crookedCompanies yX1_crookedCompanies, Cond.code yX1_crookedCompanies cX1_crookedCompanies 4 (some .int), Cond.methodLink RX1 174 yX0_hasCrookedCompany, Cond.instanceMethod yX0_hasCrookedCompany, Cond.selects RX0 yX0_hasCrookedCompany yX0_hasCrookedCompany, Cond.code yX0_hasCrookedCompany cX0_hasCrookedCompany 1 (some .boolean), Cond.static yX1_isCrooked, Cond.code yX1_isCrooked cX1_isCrooked 3 (some .boolean)]
def wsX1_count : List Cond := .code yX1_count cX1_count 2 (some .int) :: ((wsX1_count_r1 ++ (wsX1_count_r2 ++ wsX1_count_r3)) ++ wsX10 ++ wsX00 ++ (vx_atS RX1 99 "java/lang/IndexOutOfBoundsException" ["java/lang/RuntimeException", "java/lang/Exception"]).filter goodWord)
def wsX1_depthOf : List Cond := .code yX1_depthOf cX1_depthOf 1 (some .int) :: ([.methodLink RX1 54 yX0_depth, .instanceMethod yX0_depth, .selects RX0 yX0_depth yX0_depth, .initialized RX0, .code yX0_depth cX0_depth 3 (some .int), .fieldLink RX0 23 "LopsidedRanks$Soldier" "above" "LLopsidedRanks$Soldier;"] ++ wsX00)
def wsX1_newDepth : List Cond := .code yX1_newDepth cX1_newDepth 1 (some .int) :: ([.methodLink RX1 133 yX1_depthOf, .static yX1_depthOf, .initialized RX1, .code yX1_depthOf cX1_depthOf 1 (some .int), .methodLink RX1 54 yX0_depth, .instanceMethod yX0_depth, .selects RX0 yX0_depth yX0_depth, .initialized RX0, .code yX0_depth cX0_depth 3 (some .int), .fieldLink RX0 23 "LopsidedRanks$Soldier" "above" "LLopsidedRanks$Soldier;"] ++ wsX00)
def wsX1_would_r1 : List Cond := [Cond.methodLink RX1 15 yX1_refuseOddHeight, Cond.static yX1_refuseOddHeight, Cond.initialized RX1, Cond.code yX1_refuseOddHeight cX1_refuseOddHeight 1 none, Cond.classLink RX1 140 "java/lang/IllegalArgumentException", Cond.initialized "java/lang/IllegalArgumentException", Cond.methodLink RX1 23 yX1_find, Cond.instanceMethod yX1_find, Cond.selects RX1 yX1_find yX1_find, Cond.code yX1_find cX1_find 3 (some (.object "LopsidedRanks$Soldier")), Cond.fieldLink RX1 77 "LopsidedRanks" "top" "LLopsidedRanks$Soldier;", Cond.fieldLink RX1 100 "LopsidedRanks$Soldier" "height" "I", Cond.methodLink RX1 117 yX0_towards, Cond.instanceMethod yX0_towards, Cond.selects RX0 yX0_towards yX0_towards, Cond.initialized RX0, Cond.code yX0_towards cX0_towards 2 (some (.object "LopsidedRanks$Soldier")), Cond.fieldLink RX0 7 "LopsidedRanks$Soldier" "height" "I", Cond.fieldLink RX0 16 "LopsidedRanks$Soldier" "left" "LLopsidedRanks$Soldier;", Cond.fieldLink RX0 20 "LopsidedRanks$Soldier" "right" "LLopsidedRanks$Soldier;", Cond.methodLink RX1 40 yX1_lastOnTheWayTo, Cond.instanceMethod yX1_lastOnTheWayTo, Cond.selects RX1 yX1_lastOnTheWayTo yX1_lastOnTheWayTo, Cond.code yX1_lastOnTheWayTo cX1_lastOnTheWayTo 4 (some (.object "LopsidedRanks$Soldier"))]
def wsX1_would_r2 : List Cond := [Cond.methodLink RX1 123 yX1_newDepth, Cond.static yX1_newDepth, Cond.code yX1_newDepth cX1_newDepth 1 (some .int), Cond.methodLink RX1 133 yX1_depthOf, Cond.static yX1_depthOf, Cond.code yX1_depthOf cX1_depthOf 1 (some .int), Cond.methodLink RX1 54 yX0_depth, Cond.instanceMethod yX0_depth, Cond.selects RX0 yX0_depth yX0_depth, Cond.code yX0_depth cX0_depth 3 (some .int), Cond.fieldLink RX0 23 "LopsidedRanks$Soldier" "above" "LLopsidedRanks$Soldier;"]
def wsX1_would : List Cond := .code yX1_would cX1_would 2 (some .int) :: ((wsX1_would_r1 ++ wsX1_would_r2) ++ wsX10 ++ wsX00 ++ (vx_atS RX1 144 "java/lang/IllegalArgumentException" ["java/lang/RuntimeException", "java/lang/Exception"]).filter goodWord)
def wsX1_moves_r1 : List Cond := [Cond.fieldLink RX1 19 "LopsidedRanks" "soldiers" "I", Cond.fieldLink RX1 100 "LopsidedRanks$Soldier" "height" "I", Cond.fieldLink RX1 130 "LopsidedRanks$Soldier" "above" "LLopsidedRanks$Soldier;", Cond.methodLink RX1 15 yX1_refuseOddHeight, Cond.static yX1_refuseOddHeight, Cond.initialized RX1, Cond.code yX1_refuseOddHeight cX1_refuseOddHeight 1 none, Cond.classLink RX1 140 "java/lang/IllegalArgumentException", Cond.initialized "java/lang/IllegalArgumentException", Cond.methodLink RX1 23 yX1_find, Cond.instanceMethod yX1_find, Cond.selects RX1 yX1_find yX1_find, Cond.code yX1_find cX1_find 3 (some (.object "LopsidedRanks$Soldier")), Cond.fieldLink RX1 77 "LopsidedRanks" "top" "LLopsidedRanks$Soldier;", Cond.methodLink RX1 117 yX0_towards, Cond.instanceMethod yX0_towards, Cond.selects RX0 yX0_towards yX0_towards, Cond.initialized RX0, Cond.code yX0_towards cX0_towards 2 (some (.object "LopsidedRanks$Soldier")), Cond.fieldLink RX0 7 "LopsidedRanks$Soldier" "height" "I", Cond.fieldLink RX0 16 "LopsidedRanks$Soldier" "left" "LLopsidedRanks$Soldier;", Cond.fieldLink RX0 20 "LopsidedRanks$Soldier" "right" "LLopsidedRanks$Soldier;", Cond.methodLink RX1 40 yX1_lastOnTheWayTo, Cond.instanceMethod yX1_lastOnTheWayTo]
def wsX1_moves_r2 : List Cond := [Cond.selects RX1 yX1_lastOnTheWayTo yX1_lastOnTheWayTo, Cond.code yX1_lastOnTheWayTo cX1_lastOnTheWayTo 4 (some (.object "LopsidedRanks$Soldier")), Cond.methodLink RX1 123 yX1_newDepth, Cond.static yX1_newDepth, Cond.code yX1_newDepth cX1_newDepth 1 (some .int), Cond.methodLink RX1 133 yX1_depthOf, Cond.static yX1_depthOf, Cond.code yX1_depthOf cX1_depthOf 1 (some .int), Cond.methodLink RX1 54 yX0_depth, Cond.instanceMethod yX0_depth, Cond.selects RX0 yX0_depth yX0_depth, Cond.code yX0_depth cX0_depth 3 (some .int), Cond.fieldLink RX0 23 "LopsidedRanks$Soldier" "above" "LLopsidedRanks$Soldier;", Cond.methodLink RX1 58 yX1_allowedDepth, Cond.static yX1_allowedDepth, Cond.code yX1_allowedDepth cX1_allowedDepth 6 (some .int), Cond.constantLong RX1 170 (3), Cond.constantLong RX1 172 (2), Cond.methodLink RX1 126 yX0_wouldBeCrookedWith, Cond.instanceMethod yX0_wouldBeCrookedWith, Cond.selects RX0 yX0_wouldBeCrookedWith yX0_wouldBeCrookedWith, Cond.code yX0_wouldBeCrookedWith cX0_wouldBeCrookedWith 3 (some .boolean), Cond.static yX1_companyOf, Cond.code yX1_companyOf cX1_companyOf 1 (some .int)]
def wsX1_moves_r3 : List Cond := [Cond.fieldLink RX1 147 "LopsidedRanks$Soldier" "company" "I", Cond.static yX1_isCrooked, Cond.code yX1_isCrooked cX1_isCrooked 3 (some .boolean)]
def wsX1_moves : List Cond := .code yX1_moves cX1_moves 4 (some .int) :: ((wsX1_moves_r1 ++ (wsX1_moves_r2 ++ wsX1_moves_r3)) ++ wsX10 ++ wsX00 ++ (vx_atS RX1 144 "java/lang/IllegalArgumentException" ["java/lang/RuntimeException", "java/lang/Exception"]).filter goodWord)
def wsX1_mean : List Cond := .code yX1_mean cX1_mean 3 (some .double) :: ([.fieldLink RX1 19 "LopsidedRanks" "soldiers" "I", .methodLink RX1 92 yX1_inLine, .instanceMethod yX1_inLine, .selects RX1 yX1_inLine yX1_inLine, .initialized RX1, .code yX1_inLine cX1_inLine 2 (some (.object "LopsidedRanks$Soldier")), .fieldLink RX1 11 "LopsidedRanks" "line" "[LLopsidedRanks$Soldier;", .methodLink RX1 133 yX1_depthOf, .static yX1_depthOf, .code yX1_depthOf cX1_depthOf 1 (some .int), .methodLink RX1 54 yX0_depth, .instanceMethod yX0_depth, .selects RX0 yX0_depth yX0_depth, .initialized RX0, .code yX0_depth cX0_depth 3 (some .int), .fieldLink RX0 23 "LopsidedRanks$Soldier" "above" "LLopsidedRanks$Soldier;"] ++ wsX10 ++ wsX00)
def wsX1_digest_r1 : List Cond := [Cond.constantLong RX1 136 (1289), Cond.constantLong RX1 138 (31), Cond.fieldLink RX1 19 "LopsidedRanks" "soldiers" "I", Cond.methodLink RX1 120 yX1_tally, Cond.instanceMethod yX1_tally, Cond.selects RX1 yX1_tally yX1_tally, Cond.initialized RX1, Cond.code yX1_tally cX1_tally 2 (some .int), Cond.fieldLink RX1 77 "LopsidedRanks" "top" "LLopsidedRanks$Soldier;", Cond.fieldLink RX1 182 "LopsidedRanks" "drawings" "I", Cond.fieldLink RX1 185 "LopsidedRanks" "drawnSoldiers" "I", Cond.fieldLink RX1 51 "LopsidedRanks" "most" "I", Cond.methodLink RX1 81 yX1_heightOf, Cond.static yX1_heightOf, Cond.code yX1_heightOf cX1_heightOf 1 (some .int), Cond.fieldLink RX1 100 "LopsidedRanks$Soldier" "height" "I", Cond.methodLink RX1 188 yX1_deepestBelow, Cond.instanceMethod yX1_deepestBelow, Cond.selects RX1 yX1_deepestBelow yX1_deepestBelow, Cond.code yX1_deepestBelow cX1_deepestBelow 5 (some .int), Cond.fieldLink RX1 150 "LopsidedRanks$Soldier" "left" "LLopsidedRanks$Soldier;", Cond.fieldLink RX1 147 "LopsidedRanks$Soldier" "company" "I", Cond.methodLink RX1 114 Lib.Math.max.name, Cond.static Lib.Math.max.name]
def wsX1_digest_r2 : List Cond := [Cond.initialized "java/lang/Math", Cond.code Lib.Math.max.name Lib.Math.max.code 2 (some .int), Cond.methodLink RX1 103 yX1_smallerThan, Cond.instanceMethod yX1_smallerThan, Cond.selects RX1 yX1_smallerThan yX1_smallerThan, Cond.code yX1_smallerThan cX1_smallerThan 4 (some .int), Cond.methodLink RX1 153 yX1_companyOf, Cond.static yX1_companyOf, Cond.code yX1_companyOf cX1_companyOf 1 (some .int), Cond.methodLink RX1 117 yX0_towards, Cond.instanceMethod yX0_towards, Cond.selects RX0 yX0_towards yX0_towards, Cond.initialized RX0, Cond.code yX0_towards cX0_towards 2 (some (.object "LopsidedRanks$Soldier")), Cond.fieldLink RX0 7 "LopsidedRanks$Soldier" "height" "I", Cond.fieldLink RX0 16 "LopsidedRanks$Soldier" "left" "LLopsidedRanks$Soldier;", Cond.fieldLink RX0 20 "LopsidedRanks$Soldier" "right" "LLopsidedRanks$Soldier;", Cond.methodLink RX1 92 yX1_inLine, Cond.instanceMethod yX1_inLine, Cond.selects RX1 yX1_inLine yX1_inLine, Cond.code yX1_inLine cX1_inLine 2 (some (.object "LopsidedRanks$Soldier")), Cond.fieldLink RX1 11 "LopsidedRanks" "line" "[LLopsidedRanks$Soldier;", Cond.methodLink RX1 194 yX1_stepsUp, Cond.static yX1_stepsUp]
def wsX1_digest_r3 : List Cond := [Cond.code yX1_stepsUp cX1_stepsUp 4 (some .int), Cond.fieldLink RX1 130 "LopsidedRanks$Soldier" "above" "LLopsidedRanks$Soldier;", Cond.methodLink RX1 58 yX1_allowedDepth, Cond.static yX1_allowedDepth, Cond.code yX1_allowedDepth cX1_allowedDepth 6 (some .int), Cond.constantLong RX1 170 (3), Cond.constantLong RX1 172 (2), Cond.methodLink RX1 191 yX1_crookedCompanies, Cond.instanceMethod yX1_crookedCompanies, Cond.selects RX1 yX1_crookedCompanies yX1_crookedCompanies, Cond.code yX1_crookedCompanies cX1_crookedCompanies 4 (some .int), Cond.methodLink RX1 174 yX0_hasCrookedCompany, Cond.instanceMethod yX0_hasCrookedCompany, Cond.selects RX0 yX0_hasCrookedCompany yX0_hasCrookedCompany, Cond.code yX0_hasCrookedCompany cX0_hasCrookedCompany 1 (some .boolean), Cond.static yX1_isCrooked, Cond.code yX1_isCrooked cX1_isCrooked 3 (some .boolean), Cond.methodLink RX1 88 yX1_tell, Cond.instanceMethod yX1_tell, Cond.selects RX1 yX1_tell yX1_tell, Cond.code yX1_tell cX1_tell 3 (some .int), Cond.fieldLink RX1 160 "LopsidedRanks$Soldier" "right" "LLopsidedRanks$Soldier;", Cond.methodLink RX1 54 yX0_depth, Cond.instanceMethod yX0_depth]
def wsX1_digest_r4 : List Cond := [Cond.selects RX0 yX0_depth yX0_depth, Cond.code yX0_depth cX0_depth 3 (some .int), Cond.fieldLink RX0 23 "LopsidedRanks$Soldier" "above" "LLopsidedRanks$Soldier;"]
def wsX1_digest : List Cond := .code yX1_digest cX1_digest 6 (some .long) :: ((wsX1_digest_r1 ++ (wsX1_digest_r2 ++ (wsX1_digest_r3 ++ wsX1_digest_r4))) ++ wsX10 ++ wsX00)
def wsX2_init : List Cond := .code yX2_init cX2_init 1 none :: ([.methodLink RX2 1 objectInit, .instanceMethod objectInit, .code objectInit ⟨#[0xb1]⟩ 1 none, .fieldLink RX2 9 "LopsidedRanksModel" "top" "I", .arrayClass .boolean, .fieldLink RX2 13 "LopsidedRanksModel" "isIn" "[Z", .arrayClass .int, .fieldLink RX2 17 "LopsidedRanksModel" "left" "[I", .fieldLink RX2 21 "LopsidedRanksModel" "right" "[I", .fieldLink RX2 24 "LopsidedRanksModel" "way" "[I", .fieldLink RX2 27 "LopsidedRanksModel" "row" "[I"] ++ wsX20)
def wsX2_thrown : List Cond := .code yX2_thrown cX2_thrown 1 (some .int) :: ([.fieldLink RX2 30 "LopsidedRanksModel" "thrown" "I"] ++ wsX20)
def wsX2_no : List Cond := .code yX2_no cX2_no 2 (some .int) :: ([.fieldLink RX2 30 "LopsidedRanksModel" "thrown" "I"] ++ wsX20)
def wsX2_isHeight : List Cond := .code yX2_isHeight cX2_isHeight 1 (some .boolean) :: ([])
def wsX2_goTo : List Cond := .code yX2_goTo cX2_goTo 3 none :: ([.fieldLink RX2 33 "LopsidedRanksModel" "steps" "I", .fieldLink RX2 9 "LopsidedRanksModel" "top" "I", .fieldLink RX2 24 "LopsidedRanksModel" "way" "[I", .fieldLink RX2 17 "LopsidedRanksModel" "left" "[I", .fieldLink RX2 21 "LopsidedRanksModel" "right" "[I"] ++ wsX20)
def wsX2_size : List Cond := .code yX2_size cX2_size 2 (some .int) :: ([.fieldLink RX2 17 "LopsidedRanksModel" "left" "[I", .fieldLink RX2 21 "LopsidedRanksModel" "right" "[I", .methodLink RX2 36 yX2_size, .instanceMethod yX2_size, .selects RX2 yX2_size yX2_size, .initialized RX2] ++ wsX20)
def wsX2_deep : List Cond := .code yX2_deep cX2_deep 2 (some .int) :: ([.fieldLink RX2 17 "LopsidedRanksModel" "left" "[I", .fieldLink RX2 21 "LopsidedRanksModel" "right" "[I", .methodLink RX2 43 Lib.Math.max.name, .static Lib.Math.max.name, .initialized "java/lang/Math", .code Lib.Math.max.name Lib.Math.max.code 2 (some .int), .methodLink RX2 40 yX2_deep, .instanceMethod yX2_deep, .selects RX2 yX2_deep yX2_deep, .initialized RX2] ++ wsX20)
def wsX2_isCrooked : List Cond := .code yX2_isCrooked cX2_isCrooked 2 (some .boolean) :: ([.methodLink RX2 43 Lib.Math.max.name, .static Lib.Math.max.name, .initialized "java/lang/Math", .code Lib.Math.max.name Lib.Math.max.code 2 (some .int)])
def wsX2_isCrooked_ : List Cond := .code yX2_isCrooked_ cX2_isCrooked_ 2 (some .boolean) :: ([.fieldLink RX2 17 "LopsidedRanksModel" "left" "[I", .fieldLink RX2 21 "LopsidedRanksModel" "right" "[I", .methodLink RX2 36 yX2_size, .instanceMethod yX2_size, .selects RX2 yX2_size yX2_size, .initialized RX2, .code yX2_size cX2_size 2 (some .int), .methodLink RX2 49 yX2_isCrooked, .static yX2_isCrooked, .code yX2_isCrooked cX2_isCrooked 2 (some .boolean), .methodLink RX2 43 Lib.Math.max.name, .static Lib.Math.max.name, .initialized "java/lang/Math", .code Lib.Math.max.name Lib.Math.max.code 2 (some .int)] ++ wsX20)
def wsX2_crookedIn : List Cond := .code yX2_crookedIn cX2_crookedIn 2 (some .int) :: ([.fieldLink RX2 17 "LopsidedRanksModel" "left" "[I", .fieldLink RX2 21 "LopsidedRanksModel" "right" "[I", .methodLink RX2 53 yX2_isCrooked_, .instanceMethod yX2_isCrooked_, .selects RX2 yX2_isCrooked_ yX2_isCrooked_, .initialized RX2, .code yX2_isCrooked_ cX2_isCrooked_ 2 (some .boolean), .methodLink RX2 36 yX2_size, .instanceMethod yX2_size, .selects RX2 yX2_size yX2_size, .code yX2_size cX2_size 2 (some .int), .methodLink RX2 49 yX2_isCrooked, .static yX2_isCrooked, .code yX2_isCrooked cX2_isCrooked 2 (some .boolean), .methodLink RX2 43 Lib.Math.max.name, .static Lib.Math.max.name, .initialized "java/lang/Math", .code Lib.Math.max.name Lib.Math.max.code 2 (some .int), .methodLink RX2 56 yX2_crookedIn, .instanceMethod yX2_crookedIn, .selects RX2 yX2_crookedIn yX2_crookedIn] ++ wsX20)
def wsX2_depthsIn : List Cond := .code yX2_depthsIn cX2_depthsIn 3 (some .long) :: ([.fieldLink RX2 17 "LopsidedRanksModel" "left" "[I", .fieldLink RX2 21 "LopsidedRanksModel" "right" "[I", .methodLink RX2 59 yX2_depthsIn, .instanceMethod yX2_depthsIn, .selects RX2 yX2_depthsIn yX2_depthsIn, .initialized RX2] ++ wsX20)
def wsX2_allowed : List Cond := .code yX2_allowed cX2_allowed 6 (some .int) :: ([.constantLong RX2 63 (3), .constantLong RX2 65 (2)])
def wsX2_collect : List Cond := .code yX2_collect cX2_collect 2 none :: ([.fieldLink RX2 17 "LopsidedRanksModel" "left" "[I", .fieldLink RX2 27 "LopsidedRanksModel" "row" "[I", .fieldLink RX2 71 "LopsidedRanksModel" "many" "I", .fieldLink RX2 21 "LopsidedRanksModel" "right" "[I", .methodLink RX2 67 yX2_collect, .instanceMethod yX2_collect, .selects RX2 yX2_collect yX2_collect, .initialized RX2] ++ wsX20)
def wsX2_halve : List Cond := .code yX2_halve cX2_halve 4 (some .int) :: ([.fieldLink RX2 17 "LopsidedRanksModel" "left" "[I", .fieldLink RX2 27 "LopsidedRanksModel" "row" "[I", .fieldLink RX2 21 "LopsidedRanksModel" "right" "[I", .methodLink RX2 74 yX2_halve, .instanceMethod yX2_halve, .selects RX2 yX2_halve yX2_halve, .initialized RX2] ++ wsX20)
def wsX2_hang : List Cond := .code yX2_hang cX2_hang 4 none :: ([.fieldLink RX2 9 "LopsidedRanksModel" "top" "I", .fieldLink RX2 17 "LopsidedRanksModel" "left" "[I", .fieldLink RX2 21 "LopsidedRanksModel" "right" "[I"] ++ wsX20)
def wsX2_drawUp_r1 : List Cond := [Cond.fieldLink RX2 33 "LopsidedRanksModel" "steps" "I", Cond.fieldLink RX2 24 "LopsidedRanksModel" "way" "[I", Cond.fieldLink RX2 71 "LopsidedRanksModel" "many" "I", Cond.fieldLink RX2 84 "LopsidedRanksModel" "times" "I", Cond.fieldLink RX2 87 "LopsidedRanksModel" "drawn" "I", Cond.fieldLink RX2 90 "LopsidedRanksModel" "soldiers" "I", Cond.fieldLink RX2 93 "LopsidedRanksModel" "most" "I", Cond.methodLink RX2 77 yX2_goTo, Cond.instanceMethod yX2_goTo, Cond.selects RX2 yX2_goTo yX2_goTo, Cond.initialized RX2, Cond.code yX2_goTo cX2_goTo 3 none, Cond.fieldLink RX2 9 "LopsidedRanksModel" "top" "I", Cond.fieldLink RX2 17 "LopsidedRanksModel" "left" "[I", Cond.fieldLink RX2 21 "LopsidedRanksModel" "right" "[I", Cond.methodLink RX2 67 yX2_collect, Cond.instanceMethod yX2_collect, Cond.selects RX2 yX2_collect yX2_collect, Cond.code yX2_collect cX2_collect 2 none, Cond.fieldLink RX2 27 "LopsidedRanksModel" "row" "[I", Cond.methodLink RX2 74 yX2_halve, Cond.instanceMethod yX2_halve, Cond.selects RX2 yX2_halve yX2_halve, Cond.code yX2_halve cX2_halve 4 (some .int)]
def wsX2_drawUp_r2 : List Cond := [Cond.methodLink RX2 80 yX2_hang, Cond.instanceMethod yX2_hang, Cond.selects RX2 yX2_hang yX2_hang, Cond.code yX2_hang cX2_hang 4 none]
def wsX2_drawUp : List Cond := .code yX2_drawUp cX2_drawUp 4 (some .int) :: ((wsX2_drawUp_r1 ++ wsX2_drawUp_r2) ++ wsX20)
def wsX2_crookedWith : List Cond := .code yX2_crookedWith cX2_crookedWith 5 (some .int) :: ([.fieldLink RX2 33 "LopsidedRanksModel" "steps" "I", .fieldLink RX2 24 "LopsidedRanksModel" "way" "[I", .fieldLink RX2 21 "LopsidedRanksModel" "right" "[I", .fieldLink RX2 17 "LopsidedRanksModel" "left" "[I", .methodLink RX2 36 yX2_size, .instanceMethod yX2_size, .selects RX2 yX2_size yX2_size, .initialized RX2, .code yX2_size cX2_size 2 (some .int), .methodLink RX2 49 yX2_isCrooked, .static yX2_isCrooked, .code yX2_isCrooked cX2_isCrooked 2 (some .boolean), .methodLink RX2 43 Lib.Math.max.name, .static Lib.Math.max.name, .initialized "java/lang/Math", .code Lib.Math.max.name Lib.Math.max.code 2 (some .int)] ++ wsX20)
def wsX2_muster_r1 : List Cond := [Cond.fieldLink RX2 30 "LopsidedRanksModel" "thrown" "I", Cond.fieldLink RX2 13 "LopsidedRanksModel" "isIn" "[Z", Cond.fieldLink RX2 90 "LopsidedRanksModel" "soldiers" "I", Cond.fieldLink RX2 33 "LopsidedRanksModel" "steps" "I", Cond.fieldLink RX2 24 "LopsidedRanksModel" "way" "[I", Cond.fieldLink RX2 17 "LopsidedRanksModel" "left" "[I", Cond.fieldLink RX2 21 "LopsidedRanksModel" "right" "[I", Cond.fieldLink RX2 93 "LopsidedRanksModel" "most" "I", Cond.methodLink RX2 43 Lib.Math.max.name, Cond.static Lib.Math.max.name, Cond.initialized "java/lang/Math", Cond.code Lib.Math.max.name Lib.Math.max.code 2 (some .int), Cond.methodLink RX2 96 yX2_isHeight, Cond.static yX2_isHeight, Cond.initialized RX2, Cond.code yX2_isHeight cX2_isHeight 1 (some .boolean), Cond.methodLink RX2 99 yX2_no, Cond.instanceMethod yX2_no, Cond.selects RX2 yX2_no yX2_no, Cond.code yX2_no cX2_no 2 (some .int), Cond.methodLink RX2 77 yX2_goTo, Cond.instanceMethod yX2_goTo, Cond.selects RX2 yX2_goTo yX2_goTo, Cond.code yX2_goTo cX2_goTo 3 none]
def wsX2_muster_r2 : List Cond := [Cond.fieldLink RX2 9 "LopsidedRanksModel" "top" "I", Cond.methodLink RX2 102 yX2_allowed, Cond.static yX2_allowed, Cond.code yX2_allowed cX2_allowed 6 (some .int), Cond.constantLong RX2 63 (3), Cond.constantLong RX2 65 (2), Cond.methodLink RX2 105 yX2_crookedWith, Cond.instanceMethod yX2_crookedWith, Cond.selects RX2 yX2_crookedWith yX2_crookedWith, Cond.code yX2_crookedWith cX2_crookedWith 5 (some .int), Cond.methodLink RX2 36 yX2_size, Cond.instanceMethod yX2_size, Cond.selects RX2 yX2_size yX2_size, Cond.code yX2_size cX2_size 2 (some .int), Cond.methodLink RX2 49 yX2_isCrooked, Cond.static yX2_isCrooked, Cond.code yX2_isCrooked cX2_isCrooked 2 (some .boolean), Cond.methodLink RX2 80 yX2_hang, Cond.instanceMethod yX2_hang, Cond.selects RX2 yX2_hang yX2_hang, Cond.code yX2_hang cX2_hang 4 none, Cond.methodLink RX2 108 yX2_drawUp, Cond.instanceMethod yX2_drawUp, Cond.selects RX2 yX2_drawUp yX2_drawUp]
def wsX2_muster_r3 : List Cond := [Cond.code yX2_drawUp cX2_drawUp 4 (some .int), Cond.fieldLink RX2 71 "LopsidedRanksModel" "many" "I", Cond.fieldLink RX2 84 "LopsidedRanksModel" "times" "I", Cond.fieldLink RX2 87 "LopsidedRanksModel" "drawn" "I", Cond.methodLink RX2 67 yX2_collect, Cond.instanceMethod yX2_collect, Cond.selects RX2 yX2_collect yX2_collect, Cond.code yX2_collect cX2_collect 2 none, Cond.fieldLink RX2 27 "LopsidedRanksModel" "row" "[I", Cond.methodLink RX2 74 yX2_halve, Cond.instanceMethod yX2_halve, Cond.selects RX2 yX2_halve yX2_halve, Cond.code yX2_halve cX2_halve 4 (some .int)]
def wsX2_muster : List Cond := .code yX2_muster cX2_muster 3 (some .int) :: ((wsX2_muster_r1 ++ (wsX2_muster_r2 ++ wsX2_muster_r3)) ++ wsX20)
def wsX2_next : List Cond := .code yX2_next cX2_next 4 (some .int) :: ([.fieldLink RX2 21 "LopsidedRanksModel" "right" "[I", .fieldLink RX2 17 "LopsidedRanksModel" "left" "[I"] ++ wsX20)
def wsX2_discharge_r1 : List Cond := [Cond.fieldLink RX2 13 "LopsidedRanksModel" "isIn" "[Z", Cond.fieldLink RX2 30 "LopsidedRanksModel" "thrown" "I", Cond.fieldLink RX2 33 "LopsidedRanksModel" "steps" "I", Cond.fieldLink RX2 24 "LopsidedRanksModel" "way" "[I", Cond.fieldLink RX2 17 "LopsidedRanksModel" "left" "[I", Cond.fieldLink RX2 21 "LopsidedRanksModel" "right" "[I", Cond.fieldLink RX2 90 "LopsidedRanksModel" "soldiers" "I", Cond.fieldLink RX2 93 "LopsidedRanksModel" "most" "I", Cond.fieldLink RX2 9 "LopsidedRanksModel" "top" "I", Cond.methodLink RX2 96 yX2_isHeight, Cond.static yX2_isHeight, Cond.initialized RX2, Cond.code yX2_isHeight cX2_isHeight 1 (some .boolean), Cond.methodLink RX2 77 yX2_goTo, Cond.instanceMethod yX2_goTo, Cond.selects RX2 yX2_goTo yX2_goTo, Cond.code yX2_goTo cX2_goTo 3 none, Cond.methodLink RX2 111 yX2_next, Cond.instanceMethod yX2_next, Cond.selects RX2 yX2_next yX2_next, Cond.code yX2_next cX2_next 4 (some .int), Cond.methodLink RX2 80 yX2_hang, Cond.instanceMethod yX2_hang, Cond.selects RX2 yX2_hang yX2_hang]
def wsX2_discharge_r2 : List Cond := [Cond.code yX2_hang cX2_hang 4 none, Cond.methodLink RX2 108 yX2_drawUp, Cond.instanceMethod yX2_drawUp, Cond.selects RX2 yX2_drawUp yX2_drawUp, Cond.code yX2_drawUp cX2_drawUp 4 (some .int), Cond.fieldLink RX2 71 "LopsidedRanksModel" "many" "I", Cond.fieldLink RX2 84 "LopsidedRanksModel" "times" "I", Cond.fieldLink RX2 87 "LopsidedRanksModel" "drawn" "I", Cond.methodLink RX2 67 yX2_collect, Cond.instanceMethod yX2_collect, Cond.selects RX2 yX2_collect yX2_collect, Cond.code yX2_collect cX2_collect 2 none, Cond.fieldLink RX2 27 "LopsidedRanksModel" "row" "[I", Cond.methodLink RX2 74 yX2_halve, Cond.instanceMethod yX2_halve, Cond.selects RX2 yX2_halve yX2_halve, Cond.code yX2_halve cX2_halve 4 (some .int)]
def wsX2_discharge : List Cond := .code yX2_discharge cX2_discharge 4 (some .boolean) :: ((wsX2_discharge_r1 ++ wsX2_discharge_r2) ++ wsX20)
def wsX2_draw_r1 : List Cond := [Cond.fieldLink RX2 13 "LopsidedRanksModel" "isIn" "[Z", Cond.fieldLink RX2 30 "LopsidedRanksModel" "thrown" "I", Cond.methodLink RX2 96 yX2_isHeight, Cond.static yX2_isHeight, Cond.initialized RX2, Cond.code yX2_isHeight cX2_isHeight 1 (some .boolean), Cond.methodLink RX2 108 yX2_drawUp, Cond.instanceMethod yX2_drawUp, Cond.selects RX2 yX2_drawUp yX2_drawUp, Cond.code yX2_drawUp cX2_drawUp 4 (some .int), Cond.fieldLink RX2 33 "LopsidedRanksModel" "steps" "I", Cond.fieldLink RX2 24 "LopsidedRanksModel" "way" "[I", Cond.fieldLink RX2 71 "LopsidedRanksModel" "many" "I", Cond.fieldLink RX2 84 "LopsidedRanksModel" "times" "I", Cond.fieldLink RX2 87 "LopsidedRanksModel" "drawn" "I", Cond.fieldLink RX2 90 "LopsidedRanksModel" "soldiers" "I", Cond.fieldLink RX2 93 "LopsidedRanksModel" "most" "I", Cond.methodLink RX2 77 yX2_goTo, Cond.instanceMethod yX2_goTo, Cond.selects RX2 yX2_goTo yX2_goTo, Cond.code yX2_goTo cX2_goTo 3 none, Cond.fieldLink RX2 9 "LopsidedRanksModel" "top" "I", Cond.fieldLink RX2 17 "LopsidedRanksModel" "left" "[I", Cond.fieldLink RX2 21 "LopsidedRanksModel" "right" "[I"]
def wsX2_draw_r2 : List Cond := [Cond.methodLink RX2 67 yX2_collect, Cond.instanceMethod yX2_collect, Cond.selects RX2 yX2_collect yX2_collect, Cond.code yX2_collect cX2_collect 2 none, Cond.fieldLink RX2 27 "LopsidedRanksModel" "row" "[I", Cond.methodLink RX2 74 yX2_halve, Cond.instanceMethod yX2_halve, Cond.selects RX2 yX2_halve yX2_halve, Cond.code yX2_halve cX2_halve 4 (some .int), Cond.methodLink RX2 80 yX2_hang, Cond.instanceMethod yX2_hang, Cond.selects RX2 yX2_hang yX2_hang, Cond.code yX2_hang cX2_hang 4 none]
def wsX2_draw : List Cond := .code yX2_draw cX2_draw 2 (some .int) :: ((wsX2_draw_r1 ++ wsX2_draw_r2) ++ wsX20)
def wsX2_isThere : List Cond := .code yX2_isThere cX2_isThere 2 (some .boolean) :: ([.fieldLink RX2 30 "LopsidedRanksModel" "thrown" "I", .fieldLink RX2 13 "LopsidedRanksModel" "isIn" "[Z", .methodLink RX2 96 yX2_isHeight, .static yX2_isHeight, .initialized RX2, .code yX2_isHeight cX2_isHeight 1 (some .boolean)] ++ wsX20)
def wsX2_smaller : List Cond := .code yX2_smaller cX2_smaller 4 (some .int) :: ([.fieldLink RX2 13 "LopsidedRanksModel" "isIn" "[Z"] ++ wsX20)
def wsX2_toldOf_r1 : List Cond := [Cond.fieldLink RX2 33 "LopsidedRanksModel" "steps" "I", Cond.fieldLink RX2 24 "LopsidedRanksModel" "way" "[I", Cond.fieldLink RX2 17 "LopsidedRanksModel" "left" "[I", Cond.fieldLink RX2 21 "LopsidedRanksModel" "right" "[I", Cond.methodLink RX2 77 yX2_goTo, Cond.instanceMethod yX2_goTo, Cond.selects RX2 yX2_goTo yX2_goTo, Cond.initialized RX2, Cond.code yX2_goTo cX2_goTo 3 none, Cond.fieldLink RX2 9 "LopsidedRanksModel" "top" "I", Cond.methodLink RX2 36 yX2_size, Cond.instanceMethod yX2_size, Cond.selects RX2 yX2_size yX2_size, Cond.code yX2_size cX2_size 2 (some .int), Cond.methodLink RX2 40 yX2_deep, Cond.instanceMethod yX2_deep, Cond.selects RX2 yX2_deep yX2_deep, Cond.code yX2_deep cX2_deep 2 (some .int), Cond.methodLink RX2 43 Lib.Math.max.name, Cond.static Lib.Math.max.name, Cond.initialized "java/lang/Math", Cond.code Lib.Math.max.name Lib.Math.max.code 2 (some .int), Cond.methodLink RX2 53 yX2_isCrooked_, Cond.instanceMethod yX2_isCrooked_]
def wsX2_toldOf_r2 : List Cond := [Cond.selects RX2 yX2_isCrooked_ yX2_isCrooked_, Cond.code yX2_isCrooked_ cX2_isCrooked_ 2 (some .boolean), Cond.methodLink RX2 49 yX2_isCrooked, Cond.static yX2_isCrooked, Cond.code yX2_isCrooked cX2_isCrooked 2 (some .boolean), Cond.methodLink RX2 114 yX2_smaller, Cond.instanceMethod yX2_smaller, Cond.selects RX2 yX2_smaller yX2_smaller, Cond.code yX2_smaller cX2_smaller 4 (some .int), Cond.fieldLink RX2 13 "LopsidedRanksModel" "isIn" "[Z"]
def wsX2_toldOf : List Cond := .code yX2_toldOf cX2_toldOf 3 (some .int) :: ((wsX2_toldOf_r1 ++ wsX2_toldOf_r2) ++ wsX20)
def wsX2_told_r1 : List Cond := [Cond.fieldLink RX2 30 "LopsidedRanksModel" "thrown" "I", Cond.fieldLink RX2 13 "LopsidedRanksModel" "isIn" "[Z", Cond.methodLink RX2 96 yX2_isHeight, Cond.static yX2_isHeight, Cond.initialized RX2, Cond.code yX2_isHeight cX2_isHeight 1 (some .boolean), Cond.methodLink RX2 99 yX2_no, Cond.instanceMethod yX2_no, Cond.selects RX2 yX2_no yX2_no, Cond.code yX2_no cX2_no 2 (some .int), Cond.methodLink RX2 117 yX2_toldOf, Cond.instanceMethod yX2_toldOf, Cond.selects RX2 yX2_toldOf yX2_toldOf, Cond.code yX2_toldOf cX2_toldOf 3 (some .int), Cond.fieldLink RX2 33 "LopsidedRanksModel" "steps" "I", Cond.fieldLink RX2 24 "LopsidedRanksModel" "way" "[I", Cond.fieldLink RX2 17 "LopsidedRanksModel" "left" "[I", Cond.fieldLink RX2 21 "LopsidedRanksModel" "right" "[I", Cond.methodLink RX2 77 yX2_goTo, Cond.instanceMethod yX2_goTo, Cond.selects RX2 yX2_goTo yX2_goTo, Cond.code yX2_goTo cX2_goTo 3 none, Cond.fieldLink RX2 9 "LopsidedRanksModel" "top" "I", Cond.methodLink RX2 36 yX2_size]
def wsX2_told_r2 : List Cond := [Cond.instanceMethod yX2_size, Cond.selects RX2 yX2_size yX2_size, Cond.code yX2_size cX2_size 2 (some .int), Cond.methodLink RX2 40 yX2_deep, Cond.instanceMethod yX2_deep, Cond.selects RX2 yX2_deep yX2_deep, Cond.code yX2_deep cX2_deep 2 (some .int), Cond.methodLink RX2 43 Lib.Math.max.name, Cond.static Lib.Math.max.name, Cond.initialized "java/lang/Math", Cond.code Lib.Math.max.name Lib.Math.max.code 2 (some .int), Cond.methodLink RX2 53 yX2_isCrooked_, Cond.instanceMethod yX2_isCrooked_, Cond.selects RX2 yX2_isCrooked_ yX2_isCrooked_, Cond.code yX2_isCrooked_ cX2_isCrooked_ 2 (some .boolean), Cond.methodLink RX2 49 yX2_isCrooked, Cond.static yX2_isCrooked, Cond.code yX2_isCrooked cX2_isCrooked 2 (some .boolean), Cond.methodLink RX2 114 yX2_smaller, Cond.instanceMethod yX2_smaller, Cond.selects RX2 yX2_smaller yX2_smaller, Cond.code yX2_smaller cX2_smaller 4 (some .int)]
def wsX2_told : List Cond := .code yX2_told cX2_told 3 (some .int) :: ((wsX2_told_r1 ++ wsX2_told_r2) ++ wsX20)
def wsX2_at : List Cond := .code yX2_at cX2_at 4 (some .int) :: ([.fieldLink RX2 30 "LopsidedRanksModel" "thrown" "I", .fieldLink RX2 90 "LopsidedRanksModel" "soldiers" "I", .fieldLink RX2 13 "LopsidedRanksModel" "isIn" "[Z", .methodLink RX2 99 yX2_no, .instanceMethod yX2_no, .selects RX2 yX2_no yX2_no, .initialized RX2, .code yX2_no cX2_no 2 (some .int)] ++ wsX20)
def wsX2_between : List Cond := .code yX2_between cX2_between 5 (some .int) :: ([.fieldLink RX2 30 "LopsidedRanksModel" "thrown" "I", .fieldLink RX2 13 "LopsidedRanksModel" "isIn" "[Z", .methodLink RX2 96 yX2_isHeight, .static yX2_isHeight, .initialized RX2, .code yX2_isHeight cX2_isHeight 1 (some .boolean), .methodLink RX2 99 yX2_no, .instanceMethod yX2_no, .selects RX2 yX2_no yX2_no, .code yX2_no cX2_no 2 (some .int)] ++ wsX20)
def wsX2_captain : List Cond := .code yX2_captain cX2_captain 4 (some .int) :: ([.fieldLink RX2 30 "LopsidedRanksModel" "thrown" "I", .fieldLink RX2 13 "LopsidedRanksModel" "isIn" "[Z", .fieldLink RX2 9 "LopsidedRanksModel" "top" "I", .methodLink RX2 120 Lib.Math.min.name, .static Lib.Math.min.name, .initialized "java/lang/Math", .code Lib.Math.min.name Lib.Math.min.code 2 (some .int), .methodLink RX2 43 Lib.Math.max.name, .static Lib.Math.max.name, .code Lib.Math.max.name Lib.Math.max.code 2 (some .int), .fieldLink RX2 21 "LopsidedRanksModel" "right" "[I", .fieldLink RX2 17 "LopsidedRanksModel" "left" "[I", .methodLink RX2 96 yX2_isHeight, .static yX2_isHeight, .initialized RX2, .code yX2_isHeight cX2_isHeight 1 (some .boolean), .methodLink RX2 99 yX2_no, .instanceMethod yX2_no, .selects RX2 yX2_no yX2_no, .code yX2_no cX2_no 2 (some .int)] ++ wsX20)
def wsX2_taller : List Cond := .code yX2_taller cX2_taller 3 (some .int) :: ([.fieldLink RX2 30 "LopsidedRanksModel" "thrown" "I", .fieldLink RX2 13 "LopsidedRanksModel" "isIn" "[Z", .methodLink RX2 96 yX2_isHeight, .static yX2_isHeight, .initialized RX2, .code yX2_isHeight cX2_isHeight 1 (some .boolean), .methodLink RX2 99 yX2_no, .instanceMethod yX2_no, .selects RX2 yX2_no yX2_no, .code yX2_no cX2_no 2 (some .int)] ++ wsX20)
def wsX2_counted_r1 : List Cond := [Cond.arrayClass .int, Cond.fieldLink RX2 90 "LopsidedRanksModel" "soldiers" "I", Cond.fieldLink RX2 9 "LopsidedRanksModel" "top" "I", Cond.fieldLink RX2 84 "LopsidedRanksModel" "times" "I", Cond.fieldLink RX2 87 "LopsidedRanksModel" "drawn" "I", Cond.fieldLink RX2 93 "LopsidedRanksModel" "most" "I", Cond.methodLink RX2 40 yX2_deep, Cond.instanceMethod yX2_deep, Cond.selects RX2 yX2_deep yX2_deep, Cond.initialized RX2, Cond.code yX2_deep cX2_deep 2 (some .int), Cond.fieldLink RX2 17 "LopsidedRanksModel" "left" "[I", Cond.fieldLink RX2 21 "LopsidedRanksModel" "right" "[I", Cond.methodLink RX2 43 Lib.Math.max.name, Cond.static Lib.Math.max.name, Cond.initialized "java/lang/Math", Cond.code Lib.Math.max.name Lib.Math.max.code 2 (some .int), Cond.methodLink RX2 102 yX2_allowed, Cond.static yX2_allowed, Cond.code yX2_allowed cX2_allowed 6 (some .int), Cond.constantLong RX2 63 (3), Cond.constantLong RX2 65 (2), Cond.methodLink RX2 56 yX2_crookedIn, Cond.instanceMethod yX2_crookedIn]
def wsX2_counted_r2 : List Cond := [Cond.selects RX2 yX2_crookedIn yX2_crookedIn, Cond.code yX2_crookedIn cX2_crookedIn 2 (some .int), Cond.methodLink RX2 53 yX2_isCrooked_, Cond.instanceMethod yX2_isCrooked_, Cond.selects RX2 yX2_isCrooked_ yX2_isCrooked_, Cond.code yX2_isCrooked_ cX2_isCrooked_ 2 (some .boolean), Cond.methodLink RX2 36 yX2_size, Cond.instanceMethod yX2_size, Cond.selects RX2 yX2_size yX2_size, Cond.code yX2_size cX2_size 2 (some .int), Cond.methodLink RX2 49 yX2_isCrooked, Cond.static yX2_isCrooked, Cond.code yX2_isCrooked cX2_isCrooked 2 (some .boolean)]
def wsX2_counted : List Cond := .code yX2_counted cX2_counted 3 (some .int) :: ((wsX2_counted_r1 ++ wsX2_counted_r2) ++ wsX20)
def wsX2_count_r1 : List Cond := [Cond.fieldLink RX2 30 "LopsidedRanksModel" "thrown" "I", Cond.methodLink RX2 123 yX2_counted, Cond.instanceMethod yX2_counted, Cond.selects RX2 yX2_counted yX2_counted, Cond.initialized RX2, Cond.code yX2_counted cX2_counted 3 (some .int), Cond.arrayClass .int, Cond.fieldLink RX2 90 "LopsidedRanksModel" "soldiers" "I", Cond.fieldLink RX2 9 "LopsidedRanksModel" "top" "I", Cond.fieldLink RX2 84 "LopsidedRanksModel" "times" "I", Cond.fieldLink RX2 87 "LopsidedRanksModel" "drawn" "I", Cond.fieldLink RX2 93 "LopsidedRanksModel" "most" "I", Cond.methodLink RX2 40 yX2_deep, Cond.instanceMethod yX2_deep, Cond.selects RX2 yX2_deep yX2_deep, Cond.code yX2_deep cX2_deep 2 (some .int), Cond.fieldLink RX2 17 "LopsidedRanksModel" "left" "[I", Cond.fieldLink RX2 21 "LopsidedRanksModel" "right" "[I", Cond.methodLink RX2 43 Lib.Math.max.name, Cond.static Lib.Math.max.name, Cond.initialized "java/lang/Math", Cond.code Lib.Math.max.name Lib.Math.max.code 2 (some .int), Cond.methodLink RX2 102 yX2_allowed, Cond.static yX2_allowed]
def wsX2_count_r2 : List Cond := [Cond.code yX2_allowed cX2_allowed 6 (some .int), Cond.constantLong RX2 63 (3), Cond.constantLong RX2 65 (2), Cond.methodLink RX2 56 yX2_crookedIn, Cond.instanceMethod yX2_crookedIn, Cond.selects RX2 yX2_crookedIn yX2_crookedIn, Cond.code yX2_crookedIn cX2_crookedIn 2 (some .int), Cond.methodLink RX2 53 yX2_isCrooked_, Cond.instanceMethod yX2_isCrooked_, Cond.selects RX2 yX2_isCrooked_ yX2_isCrooked_, Cond.code yX2_isCrooked_ cX2_isCrooked_ 2 (some .boolean), Cond.methodLink RX2 36 yX2_size, Cond.instanceMethod yX2_size, Cond.selects RX2 yX2_size yX2_size, Cond.code yX2_size cX2_size 2 (some .int), Cond.methodLink RX2 49 yX2_isCrooked, Cond.static yX2_isCrooked, Cond.code yX2_isCrooked cX2_isCrooked 2 (some .boolean), Cond.methodLink RX2 99 yX2_no, Cond.instanceMethod yX2_no, Cond.selects RX2 yX2_no yX2_no, Cond.code yX2_no cX2_no 2 (some .int)]
def wsX2_count : List Cond := .code yX2_count cX2_count 2 (some .int) :: ((wsX2_count_r1 ++ wsX2_count_r2) ++ wsX20)
def wsX2_would : List Cond := .code yX2_would cX2_would 2 (some .int) :: ([.fieldLink RX2 30 "LopsidedRanksModel" "thrown" "I", .fieldLink RX2 13 "LopsidedRanksModel" "isIn" "[Z", .fieldLink RX2 33 "LopsidedRanksModel" "steps" "I", .methodLink RX2 96 yX2_isHeight, .static yX2_isHeight, .initialized RX2, .code yX2_isHeight cX2_isHeight 1 (some .boolean), .methodLink RX2 99 yX2_no, .instanceMethod yX2_no, .selects RX2 yX2_no yX2_no, .code yX2_no cX2_no 2 (some .int), .methodLink RX2 77 yX2_goTo, .instanceMethod yX2_goTo, .selects RX2 yX2_goTo yX2_goTo, .code yX2_goTo cX2_goTo 3 none, .fieldLink RX2 9 "LopsidedRanksModel" "top" "I", .fieldLink RX2 24 "LopsidedRanksModel" "way" "[I", .fieldLink RX2 17 "LopsidedRanksModel" "left" "[I", .fieldLink RX2 21 "LopsidedRanksModel" "right" "[I"] ++ wsX20)
def wsX2_moves_r1 : List Cond := [Cond.fieldLink RX2 30 "LopsidedRanksModel" "thrown" "I", Cond.fieldLink RX2 13 "LopsidedRanksModel" "isIn" "[Z", Cond.fieldLink RX2 33 "LopsidedRanksModel" "steps" "I", Cond.fieldLink RX2 90 "LopsidedRanksModel" "soldiers" "I", Cond.methodLink RX2 96 yX2_isHeight, Cond.static yX2_isHeight, Cond.initialized RX2, Cond.code yX2_isHeight cX2_isHeight 1 (some .boolean), Cond.methodLink RX2 99 yX2_no, Cond.instanceMethod yX2_no, Cond.selects RX2 yX2_no yX2_no, Cond.code yX2_no cX2_no 2 (some .int), Cond.methodLink RX2 77 yX2_goTo, Cond.instanceMethod yX2_goTo, Cond.selects RX2 yX2_goTo yX2_goTo, Cond.code yX2_goTo cX2_goTo 3 none, Cond.fieldLink RX2 9 "LopsidedRanksModel" "top" "I", Cond.fieldLink RX2 24 "LopsidedRanksModel" "way" "[I", Cond.fieldLink RX2 17 "LopsidedRanksModel" "left" "[I", Cond.fieldLink RX2 21 "LopsidedRanksModel" "right" "[I", Cond.methodLink RX2 102 yX2_allowed, Cond.static yX2_allowed, Cond.code yX2_allowed cX2_allowed 6 (some .int), Cond.constantLong RX2 63 (3)]
def wsX2_moves_r2 : List Cond := [Cond.constantLong RX2 65 (2), Cond.methodLink RX2 105 yX2_crookedWith, Cond.instanceMethod yX2_crookedWith, Cond.selects RX2 yX2_crookedWith yX2_crookedWith, Cond.code yX2_crookedWith cX2_crookedWith 5 (some .int), Cond.methodLink RX2 36 yX2_size, Cond.instanceMethod yX2_size, Cond.selects RX2 yX2_size yX2_size, Cond.code yX2_size cX2_size 2 (some .int), Cond.methodLink RX2 49 yX2_isCrooked, Cond.static yX2_isCrooked, Cond.code yX2_isCrooked cX2_isCrooked 2 (some .boolean), Cond.methodLink RX2 43 Lib.Math.max.name, Cond.static Lib.Math.max.name, Cond.initialized "java/lang/Math", Cond.code Lib.Math.max.name Lib.Math.max.code 2 (some .int)]
def wsX2_moves : List Cond := .code yX2_moves cX2_moves 2 (some .int) :: ((wsX2_moves_r1 ++ wsX2_moves_r2) ++ wsX20)
def wsX2_mean : List Cond := .code yX2_mean cX2_mean 1 (some .double) :: ([.fieldLink RX2 30 "LopsidedRanksModel" "thrown" "I", .fieldLink RX2 90 "LopsidedRanksModel" "soldiers" "I", .fieldLink RX2 9 "LopsidedRanksModel" "top" "I", .methodLink RX2 59 yX2_depthsIn, .instanceMethod yX2_depthsIn, .selects RX2 yX2_depthsIn yX2_depthsIn, .initialized RX2, .code yX2_depthsIn cX2_depthsIn 3 (some .long), .fieldLink RX2 17 "LopsidedRanksModel" "left" "[I", .fieldLink RX2 21 "LopsidedRanksModel" "right" "[I"] ++ wsX20)
def wsX2_digest_r1 : List Cond := [Cond.fieldLink RX2 30 "LopsidedRanksModel" "thrown" "I", Cond.constantLong RX2 126 (1289), Cond.constantLong RX2 128 (31), Cond.fieldLink RX2 13 "LopsidedRanksModel" "isIn" "[Z", Cond.methodLink RX2 123 yX2_counted, Cond.instanceMethod yX2_counted, Cond.selects RX2 yX2_counted yX2_counted, Cond.initialized RX2, Cond.code yX2_counted cX2_counted 3 (some .int), Cond.arrayClass .int, Cond.fieldLink RX2 90 "LopsidedRanksModel" "soldiers" "I", Cond.fieldLink RX2 9 "LopsidedRanksModel" "top" "I", Cond.fieldLink RX2 84 "LopsidedRanksModel" "times" "I", Cond.fieldLink RX2 87 "LopsidedRanksModel" "drawn" "I", Cond.fieldLink RX2 93 "LopsidedRanksModel" "most" "I", Cond.methodLink RX2 40 yX2_deep, Cond.instanceMethod yX2_deep, Cond.selects RX2 yX2_deep yX2_deep, Cond.code yX2_deep cX2_deep 2 (some .int), Cond.fieldLink RX2 17 "LopsidedRanksModel" "left" "[I", Cond.fieldLink RX2 21 "LopsidedRanksModel" "right" "[I", Cond.methodLink RX2 43 Lib.Math.max.name, Cond.static Lib.Math.max.name, Cond.initialized "java/lang/Math"]
def wsX2_digest_r2 : List Cond := [Cond.code Lib.Math.max.name Lib.Math.max.code 2 (some .int), Cond.methodLink RX2 102 yX2_allowed, Cond.static yX2_allowed, Cond.code yX2_allowed cX2_allowed 6 (some .int), Cond.constantLong RX2 63 (3), Cond.constantLong RX2 65 (2), Cond.methodLink RX2 56 yX2_crookedIn, Cond.instanceMethod yX2_crookedIn, Cond.selects RX2 yX2_crookedIn yX2_crookedIn, Cond.code yX2_crookedIn cX2_crookedIn 2 (some .int), Cond.methodLink RX2 53 yX2_isCrooked_, Cond.instanceMethod yX2_isCrooked_, Cond.selects RX2 yX2_isCrooked_ yX2_isCrooked_, Cond.code yX2_isCrooked_ cX2_isCrooked_ 2 (some .boolean), Cond.methodLink RX2 36 yX2_size, Cond.instanceMethod yX2_size, Cond.selects RX2 yX2_size yX2_size, Cond.code yX2_size cX2_size 2 (some .int), Cond.methodLink RX2 49 yX2_isCrooked, Cond.static yX2_isCrooked, Cond.code yX2_isCrooked cX2_isCrooked 2 (some .boolean), Cond.methodLink RX2 117 yX2_toldOf, Cond.instanceMethod yX2_toldOf, Cond.selects RX2 yX2_toldOf yX2_toldOf]
def wsX2_digest_r3 : List Cond := [Cond.code yX2_toldOf cX2_toldOf 3 (some .int), Cond.fieldLink RX2 33 "LopsidedRanksModel" "steps" "I", Cond.fieldLink RX2 24 "LopsidedRanksModel" "way" "[I", Cond.methodLink RX2 77 yX2_goTo, Cond.instanceMethod yX2_goTo, Cond.selects RX2 yX2_goTo yX2_goTo, Cond.code yX2_goTo cX2_goTo 3 none, Cond.methodLink RX2 114 yX2_smaller, Cond.instanceMethod yX2_smaller, Cond.selects RX2 yX2_smaller yX2_smaller, Cond.code yX2_smaller cX2_smaller 4 (some .int)]
def wsX2_digest : List Cond := .code yX2_digest cX2_digest 5 (some .long) :: ((wsX2_digest_r1 ++ (wsX2_digest_r2 ++ wsX2_digest_r3)) ++ wsX20)
def wsJ9_max_7cf53 : List Cond := .code yJ9_max_7cf53 cJ9_max_7cf53 2 (some .int) :: ([])
def wsJ9_min_7cf53 : List Cond := .code yJ9_min_7cf53 cJ9_min_7cf53 2 (some .int) :: ([])
def wsL_muster_r1 : List Cond := [Cond.classLink RL 13 "java/lang/IllegalArgumentException", Cond.classLink RL 15 "java/lang/IllegalStateException", Cond.methodLink RL 7 yX1_muster, Cond.instanceMethod yX1_muster, Cond.selects RX1 yX1_muster yX1_muster, Cond.initialized RX1, Cond.code yX1_muster cX1_muster 3 (some .int), Cond.classLink RX1 27 "java/lang/IllegalStateException", Cond.initialized "java/lang/IllegalStateException", Cond.fieldLink RX1 19 "LopsidedRanks" "soldiers" "I", Cond.classLink RX1 9 RX0, Cond.instantiable RX0 5, Cond.initialized RX0, Cond.fieldLink RX1 51 "LopsidedRanks" "most" "I", Cond.methodLink RX1 15 yX1_refuseOddHeight, Cond.static yX1_refuseOddHeight, Cond.code yX1_refuseOddHeight cX1_refuseOddHeight 1 none, Cond.classLink RX1 140 "java/lang/IllegalArgumentException", Cond.initialized "java/lang/IllegalArgumentException", Cond.methodLink RX1 23 yX1_find, Cond.instanceMethod yX1_find, Cond.selects RX1 yX1_find yX1_find, Cond.code yX1_find cX1_find 3 (some (.object "LopsidedRanks$Soldier")), Cond.fieldLink RX1 77 "LopsidedRanks" "top" "LLopsidedRanks$Soldier;"]
def wsL_muster_r2 : List Cond := [Cond.fieldLink RX1 100 "LopsidedRanks$Soldier" "height" "I", Cond.methodLink RX1 117 yX0_towards, Cond.instanceMethod yX0_towards, Cond.selects RX0 yX0_towards yX0_towards, Cond.code yX0_towards cX0_towards 2 (some (.object "LopsidedRanks$Soldier")), Cond.fieldLink RX0 7 "LopsidedRanks$Soldier" "height" "I", Cond.fieldLink RX0 16 "LopsidedRanks$Soldier" "left" "LLopsidedRanks$Soldier;", Cond.fieldLink RX0 20 "LopsidedRanks$Soldier" "right" "LLopsidedRanks$Soldier;", Cond.methodLink RX1 34 yX0_init, Cond.instanceMethod yX0_init, Cond.code yX0_init cX0_init 2 none, Cond.methodLink RX0 1 objectInit, Cond.instanceMethod objectInit, Cond.code objectInit ⟨#[0xb1]⟩ 1 none, Cond.fieldLink RX0 13 "LopsidedRanks$Soldier" "company" "I", Cond.methodLink RX1 36 yX1_insertIntoLine, Cond.instanceMethod yX1_insertIntoLine, Cond.selects RX1 yX1_insertIntoLine yX1_insertIntoLine, Cond.code yX1_insertIntoLine cX1_insertIntoLine 3 none, Cond.fieldLink RX1 11 "LopsidedRanks" "line" "[LLopsidedRanks$Soldier;", Cond.methodLink RX1 81 yX1_heightOf, Cond.static yX1_heightOf, Cond.code yX1_heightOf cX1_heightOf 1 (some .int), Cond.methodLink RX1 40 yX1_lastOnTheWayTo]
def wsL_muster_r3 : List Cond := [Cond.instanceMethod yX1_lastOnTheWayTo, Cond.selects RX1 yX1_lastOnTheWayTo yX1_lastOnTheWayTo, Cond.code yX1_lastOnTheWayTo cX1_lastOnTheWayTo 4 (some (.object "LopsidedRanks$Soldier")), Cond.methodLink RX1 43 yX1_standBelow, Cond.instanceMethod yX1_standBelow, Cond.selects RX1 yX1_standBelow yX1_standBelow, Cond.code yX1_standBelow cX1_standBelow 4 none, Cond.fieldLink RX1 130 "LopsidedRanks$Soldier" "above" "LLopsidedRanks$Soldier;", Cond.methodLink RX1 156 yX0_setTowards, Cond.instanceMethod yX0_setTowards, Cond.selects RX0 yX0_setTowards yX0_setTowards, Cond.code yX0_setTowards cX0_setTowards 3 none, Cond.fieldLink RX0 23 "LopsidedRanks$Soldier" "above" "LLopsidedRanks$Soldier;", Cond.methodLink RX1 47 yX1_addToCompaniesAbove, Cond.static yX1_addToCompaniesAbove, Cond.code yX1_addToCompaniesAbove cX1_addToCompaniesAbove 3 none, Cond.fieldLink RX1 147 "LopsidedRanks$Soldier" "company" "I", Cond.methodLink RX1 54 yX0_depth, Cond.instanceMethod yX0_depth, Cond.selects RX0 yX0_depth yX0_depth, Cond.code yX0_depth cX0_depth 3 (some .int), Cond.methodLink RX1 58 yX1_allowedDepth, Cond.static yX1_allowedDepth, Cond.code yX1_allowedDepth cX1_allowedDepth 6 (some .int)]
def wsL_muster_r4 : List Cond := [Cond.constantLong RX1 170 (3), Cond.constantLong RX1 172 (2), Cond.methodLink RX1 62 yX1_firstCrookedFrom, Cond.static yX1_firstCrookedFrom, Cond.code yX1_firstCrookedFrom cX1_firstCrookedFrom 2 (some (.object "LopsidedRanks$Soldier")), Cond.methodLink RX1 174 yX0_hasCrookedCompany, Cond.instanceMethod yX0_hasCrookedCompany, Cond.selects RX0 yX0_hasCrookedCompany yX0_hasCrookedCompany, Cond.code yX0_hasCrookedCompany cX0_hasCrookedCompany 1 (some .boolean), Cond.static yX1_companyOf, Cond.code yX1_companyOf cX1_companyOf 1 (some .int), Cond.static yX1_isCrooked, Cond.code yX1_isCrooked cX1_isCrooked 3 (some .boolean), Cond.methodLink RX1 66 yX1_drawUp, Cond.instanceMethod yX1_drawUp, Cond.selects RX1 yX1_drawUp yX1_drawUp, Cond.code yX1_drawUp cX1_drawUp 7 (some (.object "LopsidedRanks$Soldier")), Cond.fieldLink RX1 150 "LopsidedRanks$Soldier" "left" "LLopsidedRanks$Soldier;", Cond.fieldLink RX1 182 "LopsidedRanks" "drawings" "I", Cond.fieldLink RX1 185 "LopsidedRanks" "drawnSoldiers" "I", Cond.methodLink RX1 103 yX1_smallerThan, Cond.instanceMethod yX1_smallerThan, Cond.selects RX1 yX1_smallerThan yX1_smallerThan, Cond.code yX1_smallerThan cX1_smallerThan 4 (some .int)]
def wsL_muster_r5 : List Cond := [Cond.methodLink RX1 153 yX1_companyOf, Cond.methodLink RX1 178 yX1_halve, Cond.static yX1_halve, Cond.code yX1_halve cX1_halve 7 (some (.object "LopsidedRanks$Soldier")), Cond.fieldLink RX1 160 "LopsidedRanks$Soldier" "right" "LLopsidedRanks$Soldier;", Cond.methodLink RX1 166 yX1_handOver, Cond.static yX1_handOver, Cond.code yX1_handOver cX1_handOver 2 none]
def wsL_muster : List Cond := .codeWith yL_muster cL_muster 4 (some .int) [(0, 9, 12, 13), (0, 9, 15, 15)] :: ((wsL_muster_r1 ++ (wsL_muster_r2 ++ (wsL_muster_r3 ++ (wsL_muster_r4 ++ wsL_muster_r5)))) ++ wsX10 ++ wsX00 ++ (vx_atS RX1 31 "java/lang/IllegalStateException" ["java/lang/RuntimeException", "java/lang/Exception"]).filter goodWord ++ (vx_atS RX1 144 "java/lang/IllegalArgumentException" ["java/lang/RuntimeException", "java/lang/Exception"]).filter goodWord)
def wsL_discharge_r1 : List Cond := [Cond.classLink RL 13 "java/lang/IllegalArgumentException", Cond.classLink RL 15 "java/lang/IllegalStateException", Cond.methodLink RL 17 yX1_discharge, Cond.instanceMethod yX1_discharge, Cond.selects RX1 yX1_discharge yX1_discharge, Cond.initialized RX1, Cond.code yX1_discharge cX1_discharge 3 (some .boolean), Cond.classLink RX1 27 "java/lang/IllegalStateException", Cond.initialized "java/lang/IllegalStateException", Cond.fieldLink RX1 19 "LopsidedRanks" "soldiers" "I", Cond.fieldLink RX1 51 "LopsidedRanks" "most" "I", Cond.fieldLink RX1 77 "LopsidedRanks" "top" "LLopsidedRanks$Soldier;", Cond.methodLink RX1 15 yX1_refuseOddHeight, Cond.static yX1_refuseOddHeight, Cond.code yX1_refuseOddHeight cX1_refuseOddHeight 1 none, Cond.classLink RX1 140 "java/lang/IllegalArgumentException", Cond.initialized "java/lang/IllegalArgumentException", Cond.methodLink RX1 23 yX1_find, Cond.instanceMethod yX1_find, Cond.selects RX1 yX1_find yX1_find, Cond.code yX1_find cX1_find 3 (some (.object "LopsidedRanks$Soldier")), Cond.fieldLink RX1 100 "LopsidedRanks$Soldier" "height" "I", Cond.methodLink RX1 117 yX0_towards, Cond.instanceMethod yX0_towards]
def wsL_discharge_r2 : List Cond := [Cond.selects RX0 yX0_towards yX0_towards, Cond.initialized RX0, Cond.code yX0_towards cX0_towards 2 (some (.object "LopsidedRanks$Soldier")), Cond.fieldLink RX0 7 "LopsidedRanks$Soldier" "height" "I", Cond.fieldLink RX0 16 "LopsidedRanks$Soldier" "left" "LLopsidedRanks$Soldier;", Cond.fieldLink RX0 20 "LopsidedRanks$Soldier" "right" "LLopsidedRanks$Soldier;", Cond.methodLink RX1 71 yX1_removeFromLine, Cond.instanceMethod yX1_removeFromLine, Cond.selects RX1 yX1_removeFromLine yX1_removeFromLine, Cond.code yX1_removeFromLine cX1_removeFromLine 3 none, Cond.fieldLink RX1 11 "LopsidedRanks" "line" "[LLopsidedRanks$Soldier;", Cond.methodLink RX1 103 yX1_smallerThan, Cond.instanceMethod yX1_smallerThan, Cond.selects RX1 yX1_smallerThan yX1_smallerThan, Cond.code yX1_smallerThan cX1_smallerThan 4 (some .int), Cond.fieldLink RX1 150 "LopsidedRanks$Soldier" "left" "LLopsidedRanks$Soldier;", Cond.methodLink RX1 153 yX1_companyOf, Cond.static yX1_companyOf, Cond.code yX1_companyOf cX1_companyOf 1 (some .int), Cond.fieldLink RX1 147 "LopsidedRanks$Soldier" "company" "I", Cond.methodLink RX1 74 yX1_removeFromRanks, Cond.instanceMethod yX1_removeFromRanks, Cond.selects RX1 yX1_removeFromRanks yX1_removeFromRanks, Cond.code yX1_removeFromRanks cX1_removeFromRanks 3 none]
def wsL_discharge_r3 : List Cond := [Cond.fieldLink RX1 160 "LopsidedRanks$Soldier" "right" "LLopsidedRanks$Soldier;", Cond.fieldLink RX1 130 "LopsidedRanks$Soldier" "above" "LLopsidedRanks$Soldier;", Cond.methodLink RX1 163 yX1_removeWithOneSide, Cond.instanceMethod yX1_removeWithOneSide, Cond.selects RX1 yX1_removeWithOneSide yX1_removeWithOneSide, Cond.code yX1_removeWithOneSide cX1_removeWithOneSide 3 none, Cond.methodLink RX1 47 yX1_addToCompaniesAbove, Cond.static yX1_addToCompaniesAbove, Cond.code yX1_addToCompaniesAbove cX1_addToCompaniesAbove 3 none, Cond.methodLink RX1 43 yX1_standBelow, Cond.instanceMethod yX1_standBelow, Cond.selects RX1 yX1_standBelow yX1_standBelow, Cond.code yX1_standBelow cX1_standBelow 4 none, Cond.methodLink RX1 156 yX0_setTowards, Cond.instanceMethod yX0_setTowards, Cond.selects RX0 yX0_setTowards yX0_setTowards, Cond.code yX0_setTowards cX0_setTowards 3 none, Cond.fieldLink RX0 23 "LopsidedRanks$Soldier" "above" "LLopsidedRanks$Soldier;", Cond.methodLink RX1 166 yX1_handOver, Cond.static yX1_handOver, Cond.code yX1_handOver cX1_handOver 2 none, Cond.methodLink RX1 66 yX1_drawUp, Cond.instanceMethod yX1_drawUp, Cond.selects RX1 yX1_drawUp yX1_drawUp]
def wsL_discharge_r4 : List Cond := [Cond.code yX1_drawUp cX1_drawUp 7 (some (.object "LopsidedRanks$Soldier")), Cond.fieldLink RX1 182 "LopsidedRanks" "drawings" "I", Cond.fieldLink RX1 185 "LopsidedRanks" "drawnSoldiers" "I", Cond.methodLink RX1 178 yX1_halve, Cond.static yX1_halve, Cond.code yX1_halve cX1_halve 7 (some (.object "LopsidedRanks$Soldier"))]
def wsL_discharge : List Cond := .codeWith yL_discharge cL_discharge 4 (some .int) [(0, 16, 19, 13), (0, 16, 22, 15)] :: ((wsL_discharge_r1 ++ (wsL_discharge_r2 ++ (wsL_discharge_r3 ++ wsL_discharge_r4))) ++ wsX10 ++ wsX00 ++ (vx_atS RX1 31 "java/lang/IllegalStateException" ["java/lang/RuntimeException", "java/lang/Exception"]).filter goodWord ++ (vx_atS RX1 144 "java/lang/IllegalArgumentException" ["java/lang/RuntimeException", "java/lang/Exception"]).filter goodWord)
def wsL_draw_r1 : List Cond := [Cond.classLink RL 13 "java/lang/IllegalArgumentException", Cond.classLink RL 15 "java/lang/IllegalStateException", Cond.methodLink RL 21 yX1_draw, Cond.instanceMethod yX1_draw, Cond.selects RX1 yX1_draw yX1_draw, Cond.initialized RX1, Cond.code yX1_draw cX1_draw 3 (some .int), Cond.classLink RX1 27 "java/lang/IllegalStateException", Cond.initialized "java/lang/IllegalStateException", Cond.methodLink RX1 15 yX1_refuseOddHeight, Cond.static yX1_refuseOddHeight, Cond.code yX1_refuseOddHeight cX1_refuseOddHeight 1 none, Cond.classLink RX1 140 "java/lang/IllegalArgumentException", Cond.initialized "java/lang/IllegalArgumentException", Cond.methodLink RX1 23 yX1_find, Cond.instanceMethod yX1_find, Cond.selects RX1 yX1_find yX1_find, Cond.code yX1_find cX1_find 3 (some (.object "LopsidedRanks$Soldier")), Cond.fieldLink RX1 77 "LopsidedRanks" "top" "LLopsidedRanks$Soldier;", Cond.fieldLink RX1 100 "LopsidedRanks$Soldier" "height" "I", Cond.methodLink RX1 117 yX0_towards, Cond.instanceMethod yX0_towards, Cond.selects RX0 yX0_towards yX0_towards, Cond.initialized RX0]
def wsL_draw_r2 : List Cond := [Cond.code yX0_towards cX0_towards 2 (some (.object "LopsidedRanks$Soldier")), Cond.fieldLink RX0 7 "LopsidedRanks$Soldier" "height" "I", Cond.fieldLink RX0 16 "LopsidedRanks$Soldier" "left" "LLopsidedRanks$Soldier;", Cond.fieldLink RX0 20 "LopsidedRanks$Soldier" "right" "LLopsidedRanks$Soldier;", Cond.methodLink RX1 66 yX1_drawUp, Cond.instanceMethod yX1_drawUp, Cond.selects RX1 yX1_drawUp yX1_drawUp, Cond.code yX1_drawUp cX1_drawUp 7 (some (.object "LopsidedRanks$Soldier")), Cond.fieldLink RX1 130 "LopsidedRanks$Soldier" "above" "LLopsidedRanks$Soldier;", Cond.fieldLink RX1 147 "LopsidedRanks$Soldier" "company" "I", Cond.fieldLink RX1 150 "LopsidedRanks$Soldier" "left" "LLopsidedRanks$Soldier;", Cond.fieldLink RX1 11 "LopsidedRanks" "line" "[LLopsidedRanks$Soldier;", Cond.fieldLink RX1 182 "LopsidedRanks" "drawings" "I", Cond.fieldLink RX1 185 "LopsidedRanks" "drawnSoldiers" "I", Cond.fieldLink RX1 19 "LopsidedRanks" "soldiers" "I", Cond.fieldLink RX1 51 "LopsidedRanks" "most" "I", Cond.methodLink RX1 103 yX1_smallerThan, Cond.instanceMethod yX1_smallerThan, Cond.selects RX1 yX1_smallerThan yX1_smallerThan, Cond.code yX1_smallerThan cX1_smallerThan 4 (some .int), Cond.methodLink RX1 153 yX1_companyOf, Cond.static yX1_companyOf, Cond.code yX1_companyOf cX1_companyOf 1 (some .int), Cond.methodLink RX1 178 yX1_halve]
def wsL_draw_r3 : List Cond := [Cond.static yX1_halve, Cond.code yX1_halve cX1_halve 7 (some (.object "LopsidedRanks$Soldier")), Cond.fieldLink RX1 160 "LopsidedRanks$Soldier" "right" "LLopsidedRanks$Soldier;", Cond.methodLink RX1 166 yX1_handOver, Cond.static yX1_handOver, Cond.code yX1_handOver cX1_handOver 2 none, Cond.methodLink RX1 156 yX0_setTowards, Cond.instanceMethod yX0_setTowards, Cond.selects RX0 yX0_setTowards yX0_setTowards, Cond.code yX0_setTowards cX0_setTowards 3 none, Cond.fieldLink RX0 23 "LopsidedRanks$Soldier" "above" "LLopsidedRanks$Soldier;", Cond.methodLink RX1 43 yX1_standBelow, Cond.instanceMethod yX1_standBelow, Cond.selects RX1 yX1_standBelow yX1_standBelow, Cond.code yX1_standBelow cX1_standBelow 4 none, Cond.methodLink RX1 81 yX1_heightOf, Cond.static yX1_heightOf, Cond.code yX1_heightOf cX1_heightOf 1 (some .int)]
def wsL_draw : List Cond := .codeWith yL_draw cL_draw 4 (some .int) [(0, 9, 12, 13), (0, 9, 15, 15)] :: ((wsL_draw_r1 ++ (wsL_draw_r2 ++ wsL_draw_r3)) ++ wsX10 ++ wsX00 ++ (vx_atS RX1 31 "java/lang/IllegalStateException" ["java/lang/RuntimeException", "java/lang/Exception"]).filter goodWord ++ (vx_atS RX1 144 "java/lang/IllegalArgumentException" ["java/lang/RuntimeException", "java/lang/Exception"]).filter goodWord)
def wsL_isThere_r1 : List Cond := [Cond.classLink RL 13 "java/lang/IllegalArgumentException", Cond.methodLink RL 24 yX1_isThere, Cond.instanceMethod yX1_isThere, Cond.selects RX1 yX1_isThere yX1_isThere, Cond.initialized RX1, Cond.code yX1_isThere cX1_isThere 2 (some .boolean), Cond.methodLink RX1 15 yX1_refuseOddHeight, Cond.static yX1_refuseOddHeight, Cond.code yX1_refuseOddHeight cX1_refuseOddHeight 1 none, Cond.classLink RX1 140 "java/lang/IllegalArgumentException", Cond.initialized "java/lang/IllegalArgumentException", Cond.methodLink RX1 23 yX1_find, Cond.instanceMethod yX1_find, Cond.selects RX1 yX1_find yX1_find, Cond.code yX1_find cX1_find 3 (some (.object "LopsidedRanks$Soldier")), Cond.fieldLink RX1 77 "LopsidedRanks" "top" "LLopsidedRanks$Soldier;", Cond.fieldLink RX1 100 "LopsidedRanks$Soldier" "height" "I", Cond.methodLink RX1 117 yX0_towards, Cond.instanceMethod yX0_towards, Cond.selects RX0 yX0_towards yX0_towards, Cond.initialized RX0, Cond.code yX0_towards cX0_towards 2 (some (.object "LopsidedRanks$Soldier")), Cond.fieldLink RX0 7 "LopsidedRanks$Soldier" "height" "I", Cond.fieldLink RX0 16 "LopsidedRanks$Soldier" "left" "LLopsidedRanks$Soldier;"]
def wsL_isThere_r2 : List Cond := [Cond.fieldLink RX0 20 "LopsidedRanks$Soldier" "right" "LLopsidedRanks$Soldier;"]
def wsL_isThere : List Cond := .codeWith yL_isThere cL_isThere 4 (some .int) [(0, 16, 19, 13)] :: ((wsL_isThere_r1 ++ wsL_isThere_r2) ++ wsX10 ++ wsX00 ++ (vx_atS RX1 144 "java/lang/IllegalArgumentException" ["java/lang/RuntimeException", "java/lang/Exception"]).filter goodWord)
def wsL_told_r1 : List Cond := [Cond.classLink RL 13 "java/lang/IllegalArgumentException", Cond.classLink RL 31 "java/lang/IndexOutOfBoundsException", Cond.classLink RL 15 "java/lang/IllegalStateException", Cond.methodLink RL 27 yX1_told, Cond.instanceMethod yX1_told, Cond.selects RX1 yX1_told yX1_told, Cond.initialized RX1, Cond.code yX1_told cX1_told 4 (some .int), Cond.classLink RX1 27 "java/lang/IllegalStateException", Cond.initialized "java/lang/IllegalStateException", Cond.methodLink RX1 15 yX1_refuseOddHeight, Cond.static yX1_refuseOddHeight, Cond.code yX1_refuseOddHeight cX1_refuseOddHeight 1 none, Cond.classLink RX1 140 "java/lang/IllegalArgumentException", Cond.initialized "java/lang/IllegalArgumentException", Cond.methodLink RX1 85 yX1_refuseOddQuestion, Cond.static yX1_refuseOddQuestion, Cond.code yX1_refuseOddQuestion cX1_refuseOddQuestion 1 none, Cond.classLink RX1 95 "java/lang/IndexOutOfBoundsException", Cond.initialized "java/lang/IndexOutOfBoundsException", Cond.methodLink RX1 23 yX1_find, Cond.instanceMethod yX1_find, Cond.selects RX1 yX1_find yX1_find, Cond.code yX1_find cX1_find 3 (some (.object "LopsidedRanks$Soldier"))]
def wsL_told_r2 : List Cond := [Cond.fieldLink RX1 77 "LopsidedRanks" "top" "LLopsidedRanks$Soldier;", Cond.fieldLink RX1 100 "LopsidedRanks$Soldier" "height" "I", Cond.methodLink RX1 117 yX0_towards, Cond.instanceMethod yX0_towards, Cond.selects RX0 yX0_towards yX0_towards, Cond.initialized RX0, Cond.code yX0_towards cX0_towards 2 (some (.object "LopsidedRanks$Soldier")), Cond.fieldLink RX0 7 "LopsidedRanks$Soldier" "height" "I", Cond.fieldLink RX0 16 "LopsidedRanks$Soldier" "left" "LLopsidedRanks$Soldier;", Cond.fieldLink RX0 20 "LopsidedRanks$Soldier" "right" "LLopsidedRanks$Soldier;", Cond.methodLink RX1 88 yX1_tell, Cond.instanceMethod yX1_tell, Cond.selects RX1 yX1_tell yX1_tell, Cond.code yX1_tell cX1_tell 3 (some .int), Cond.fieldLink RX1 130 "LopsidedRanks$Soldier" "above" "LLopsidedRanks$Soldier;", Cond.fieldLink RX1 150 "LopsidedRanks$Soldier" "left" "LLopsidedRanks$Soldier;", Cond.fieldLink RX1 160 "LopsidedRanks$Soldier" "right" "LLopsidedRanks$Soldier;", Cond.fieldLink RX1 147 "LopsidedRanks$Soldier" "company" "I", Cond.methodLink RX1 54 yX0_depth, Cond.instanceMethod yX0_depth, Cond.selects RX0 yX0_depth yX0_depth, Cond.code yX0_depth cX0_depth 3 (some .int), Cond.fieldLink RX0 23 "LopsidedRanks$Soldier" "above" "LLopsidedRanks$Soldier;", Cond.methodLink RX1 81 yX1_heightOf]
def wsL_told_r3 : List Cond := [Cond.static yX1_heightOf, Cond.code yX1_heightOf cX1_heightOf 1 (some .int), Cond.methodLink RX1 188 yX1_deepestBelow, Cond.instanceMethod yX1_deepestBelow, Cond.selects RX1 yX1_deepestBelow yX1_deepestBelow, Cond.code yX1_deepestBelow cX1_deepestBelow 5 (some .int), Cond.methodLink RX1 114 Lib.Math.max.name, Cond.static Lib.Math.max.name, Cond.initialized "java/lang/Math", Cond.code Lib.Math.max.name Lib.Math.max.code 2 (some .int), Cond.methodLink RX1 103 yX1_smallerThan, Cond.instanceMethod yX1_smallerThan, Cond.selects RX1 yX1_smallerThan yX1_smallerThan, Cond.code yX1_smallerThan cX1_smallerThan 4 (some .int), Cond.methodLink RX1 153 yX1_companyOf, Cond.static yX1_companyOf, Cond.code yX1_companyOf cX1_companyOf 1 (some .int), Cond.methodLink RX1 92 yX1_inLine, Cond.instanceMethod yX1_inLine, Cond.selects RX1 yX1_inLine yX1_inLine, Cond.code yX1_inLine cX1_inLine 2 (some (.object "LopsidedRanks$Soldier")), Cond.fieldLink RX1 19 "LopsidedRanks" "soldiers" "I", Cond.fieldLink RX1 11 "LopsidedRanks" "line" "[LLopsidedRanks$Soldier;", Cond.methodLink RX1 194 yX1_stepsUp]
def wsL_told_r4 : List Cond := [Cond.static yX1_stepsUp, Cond.code yX1_stepsUp cX1_stepsUp 4 (some .int), Cond.methodLink RX1 174 yX0_hasCrookedCompany, Cond.instanceMethod yX0_hasCrookedCompany, Cond.selects RX0 yX0_hasCrookedCompany yX0_hasCrookedCompany, Cond.code yX0_hasCrookedCompany cX0_hasCrookedCompany 1 (some .boolean), Cond.static yX1_isCrooked, Cond.code yX1_isCrooked cX1_isCrooked 3 (some .boolean)]
def wsL_told : List Cond := .codeWith yL_told cL_told 5 (some .int) [(0, 10, 13, 13), (0, 10, 17, 31), (0, 10, 21, 15)] :: ((wsL_told_r1 ++ (wsL_told_r2 ++ (wsL_told_r3 ++ wsL_told_r4))) ++ wsX10 ++ wsX00 ++ (vx_atS RX1 31 "java/lang/IllegalStateException" ["java/lang/RuntimeException", "java/lang/Exception"]).filter goodWord ++ (vx_atS RX1 144 "java/lang/IllegalArgumentException" ["java/lang/RuntimeException", "java/lang/Exception"]).filter goodWord ++ (vx_atS RX1 99 "java/lang/IndexOutOfBoundsException" ["java/lang/RuntimeException", "java/lang/Exception"]).filter goodWord)
def wsL_at : List Cond := .codeWith yL_at cL_at 4 (some .int) [(0, 9, 12, 31)] :: ([.classLink RL 31 "java/lang/IndexOutOfBoundsException", .methodLink RL 33 yX1_at, .instanceMethod yX1_at, .selects RX1 yX1_at yX1_at, .initialized RX1, .code yX1_at cX1_at 3 (some .int), .classLink RX1 95 "java/lang/IndexOutOfBoundsException", .initialized "java/lang/IndexOutOfBoundsException", .fieldLink RX1 100 "LopsidedRanks$Soldier" "height" "I", .methodLink RX1 92 yX1_inLine, .instanceMethod yX1_inLine, .selects RX1 yX1_inLine yX1_inLine, .code yX1_inLine cX1_inLine 2 (some (.object "LopsidedRanks$Soldier")), .fieldLink RX1 19 "LopsidedRanks" "soldiers" "I", .fieldLink RX1 11 "LopsidedRanks" "line" "[LLopsidedRanks$Soldier;"] ++ wsX00 ++ wsX10 ++ (vx_atS RX1 99 "java/lang/IndexOutOfBoundsException" ["java/lang/RuntimeException", "java/lang/Exception"]).filter goodWord)
def wsL_between_r1 : List Cond := [Cond.classLink RL 13 "java/lang/IllegalArgumentException", Cond.methodLink RL 36 yX1_between, Cond.instanceMethod yX1_between, Cond.selects RX1 yX1_between yX1_between, Cond.initialized RX1, Cond.code yX1_between cX1_between 3 (some .int), Cond.methodLink RX1 15 yX1_refuseOddHeight, Cond.static yX1_refuseOddHeight, Cond.code yX1_refuseOddHeight cX1_refuseOddHeight 1 none, Cond.classLink RX1 140 "java/lang/IllegalArgumentException", Cond.initialized "java/lang/IllegalArgumentException", Cond.methodLink RX1 103 yX1_smallerThan, Cond.instanceMethod yX1_smallerThan, Cond.selects RX1 yX1_smallerThan yX1_smallerThan, Cond.code yX1_smallerThan cX1_smallerThan 4 (some .int), Cond.fieldLink RX1 77 "LopsidedRanks" "top" "LLopsidedRanks$Soldier;", Cond.fieldLink RX1 100 "LopsidedRanks$Soldier" "height" "I", Cond.fieldLink RX1 150 "LopsidedRanks$Soldier" "left" "LLopsidedRanks$Soldier;", Cond.methodLink RX1 153 yX1_companyOf, Cond.static yX1_companyOf, Cond.code yX1_companyOf cX1_companyOf 1 (some .int), Cond.fieldLink RX1 147 "LopsidedRanks$Soldier" "company" "I", Cond.methodLink RX1 117 yX0_towards, Cond.instanceMethod yX0_towards]
def wsL_between_r2 : List Cond := [Cond.selects RX0 yX0_towards yX0_towards, Cond.initialized RX0, Cond.code yX0_towards cX0_towards 2 (some (.object "LopsidedRanks$Soldier")), Cond.fieldLink RX0 7 "LopsidedRanks$Soldier" "height" "I", Cond.fieldLink RX0 16 "LopsidedRanks$Soldier" "left" "LLopsidedRanks$Soldier;", Cond.fieldLink RX0 20 "LopsidedRanks$Soldier" "right" "LLopsidedRanks$Soldier;"]
def wsL_between : List Cond := .codeWith yL_between cL_between 5 (some .int) [(0, 10, 13, 13)] :: ((wsL_between_r1 ++ wsL_between_r2) ++ wsX10 ++ wsX00 ++ (vx_atS RX1 144 "java/lang/IllegalArgumentException" ["java/lang/RuntimeException", "java/lang/Exception"]).filter goodWord)
def wsL_captain_r1 : List Cond := [Cond.classLink RL 13 "java/lang/IllegalArgumentException", Cond.classLink RL 15 "java/lang/IllegalStateException", Cond.methodLink RL 39 yX1_captain, Cond.instanceMethod yX1_captain, Cond.selects RX1 yX1_captain yX1_captain, Cond.initialized RX1, Cond.code yX1_captain cX1_captain 6 (some .int), Cond.classLink RX1 27 "java/lang/IllegalStateException", Cond.initialized "java/lang/IllegalStateException", Cond.methodLink RX1 108 Lib.Math.min.name, Cond.static Lib.Math.min.name, Cond.initialized "java/lang/Math", Cond.code Lib.Math.min.name Lib.Math.min.code 2 (some .int), Cond.methodLink RX1 114 Lib.Math.max.name, Cond.static Lib.Math.max.name, Cond.code Lib.Math.max.name Lib.Math.max.code 2 (some .int), Cond.fieldLink RX1 77 "LopsidedRanks" "top" "LLopsidedRanks$Soldier;", Cond.fieldLink RX1 100 "LopsidedRanks$Soldier" "height" "I", Cond.methodLink RX1 15 yX1_refuseOddHeight, Cond.static yX1_refuseOddHeight, Cond.code yX1_refuseOddHeight cX1_refuseOddHeight 1 none, Cond.classLink RX1 140 "java/lang/IllegalArgumentException", Cond.initialized "java/lang/IllegalArgumentException", Cond.methodLink RX1 23 yX1_find]
def wsL_captain_r2 : List Cond := [Cond.instanceMethod yX1_find, Cond.selects RX1 yX1_find yX1_find, Cond.code yX1_find cX1_find 3 (some (.object "LopsidedRanks$Soldier")), Cond.methodLink RX1 117 yX0_towards, Cond.instanceMethod yX0_towards, Cond.selects RX0 yX0_towards yX0_towards, Cond.initialized RX0, Cond.code yX0_towards cX0_towards 2 (some (.object "LopsidedRanks$Soldier")), Cond.fieldLink RX0 7 "LopsidedRanks$Soldier" "height" "I", Cond.fieldLink RX0 16 "LopsidedRanks$Soldier" "left" "LLopsidedRanks$Soldier;", Cond.fieldLink RX0 20 "LopsidedRanks$Soldier" "right" "LLopsidedRanks$Soldier;", Cond.methodLink RX1 81 yX1_heightOf, Cond.static yX1_heightOf, Cond.code yX1_heightOf cX1_heightOf 1 (some .int)]
def wsL_captain : List Cond := .codeWith yL_captain cL_captain 5 (some .int) [(0, 10, 13, 13), (0, 10, 17, 15)] :: ((wsL_captain_r1 ++ wsL_captain_r2) ++ wsX10 ++ wsX00 ++ (vx_atS RX1 31 "java/lang/IllegalStateException" ["java/lang/RuntimeException", "java/lang/Exception"]).filter goodWord ++ (vx_atS RX1 144 "java/lang/IllegalArgumentException" ["java/lang/RuntimeException", "java/lang/Exception"]).filter goodWord)
def wsL_taller_r1 : List Cond := [Cond.classLink RL 13 "java/lang/IllegalArgumentException", Cond.methodLink RL 42 yX1_taller, Cond.instanceMethod yX1_taller, Cond.selects RX1 yX1_taller yX1_taller, Cond.initialized RX1, Cond.code yX1_taller cX1_taller 2 (some .int), Cond.methodLink RX1 15 yX1_refuseOddHeight, Cond.static yX1_refuseOddHeight, Cond.code yX1_refuseOddHeight cX1_refuseOddHeight 1 none, Cond.classLink RX1 140 "java/lang/IllegalArgumentException", Cond.initialized "java/lang/IllegalArgumentException", Cond.methodLink RX1 103 yX1_smallerThan, Cond.instanceMethod yX1_smallerThan, Cond.selects RX1 yX1_smallerThan yX1_smallerThan, Cond.code yX1_smallerThan cX1_smallerThan 4 (some .int), Cond.fieldLink RX1 77 "LopsidedRanks" "top" "LLopsidedRanks$Soldier;", Cond.fieldLink RX1 100 "LopsidedRanks$Soldier" "height" "I", Cond.fieldLink RX1 150 "LopsidedRanks$Soldier" "left" "LLopsidedRanks$Soldier;", Cond.methodLink RX1 153 yX1_companyOf, Cond.static yX1_companyOf, Cond.code yX1_companyOf cX1_companyOf 1 (some .int), Cond.fieldLink RX1 147 "LopsidedRanks$Soldier" "company" "I", Cond.methodLink RX1 117 yX0_towards, Cond.instanceMethod yX0_towards]
def wsL_taller_r2 : List Cond := [Cond.selects RX0 yX0_towards yX0_towards, Cond.initialized RX0, Cond.code yX0_towards cX0_towards 2 (some (.object "LopsidedRanks$Soldier")), Cond.fieldLink RX0 7 "LopsidedRanks$Soldier" "height" "I", Cond.fieldLink RX0 16 "LopsidedRanks$Soldier" "left" "LLopsidedRanks$Soldier;", Cond.fieldLink RX0 20 "LopsidedRanks$Soldier" "right" "LLopsidedRanks$Soldier;", Cond.methodLink RX1 92 yX1_inLine, Cond.instanceMethod yX1_inLine, Cond.selects RX1 yX1_inLine yX1_inLine, Cond.code yX1_inLine cX1_inLine 2 (some (.object "LopsidedRanks$Soldier")), Cond.fieldLink RX1 19 "LopsidedRanks" "soldiers" "I", Cond.fieldLink RX1 11 "LopsidedRanks" "line" "[LLopsidedRanks$Soldier;", Cond.methodLink RX1 81 yX1_heightOf, Cond.static yX1_heightOf, Cond.code yX1_heightOf cX1_heightOf 1 (some .int)]
def wsL_taller : List Cond := .codeWith yL_taller cL_taller 4 (some .int) [(0, 9, 12, 13)] :: ((wsL_taller_r1 ++ wsL_taller_r2) ++ wsX10 ++ wsX00 ++ (vx_atS RX1 144 "java/lang/IllegalArgumentException" ["java/lang/RuntimeException", "java/lang/Exception"]).filter goodWord)
def wsL_count_r1 : List Cond := [Cond.classLink RL 31 "java/lang/IndexOutOfBoundsException", Cond.methodLink RL 45 yX1_count, Cond.instanceMethod yX1_count, Cond.selects RX1 yX1_count yX1_count, Cond.initialized RX1, Cond.code yX1_count cX1_count 2 (some .int), Cond.methodLink RX1 85 yX1_refuseOddQuestion, Cond.static yX1_refuseOddQuestion, Cond.code yX1_refuseOddQuestion cX1_refuseOddQuestion 1 none, Cond.classLink RX1 95 "java/lang/IndexOutOfBoundsException", Cond.initialized "java/lang/IndexOutOfBoundsException", Cond.methodLink RX1 120 yX1_tally, Cond.instanceMethod yX1_tally, Cond.selects RX1 yX1_tally yX1_tally, Cond.code yX1_tally cX1_tally 2 (some .int), Cond.fieldLink RX1 19 "LopsidedRanks" "soldiers" "I", Cond.fieldLink RX1 77 "LopsidedRanks" "top" "LLopsidedRanks$Soldier;", Cond.fieldLink RX1 182 "LopsidedRanks" "drawings" "I", Cond.fieldLink RX1 185 "LopsidedRanks" "drawnSoldiers" "I", Cond.fieldLink RX1 51 "LopsidedRanks" "most" "I", Cond.methodLink RX1 81 yX1_heightOf, Cond.static yX1_heightOf, Cond.code yX1_heightOf cX1_heightOf 1 (some .int), Cond.fieldLink RX1 100 "LopsidedRanks$Soldier" "height" "I"]
def wsL_count_r2 : List Cond := [Cond.methodLink RX1 188 yX1_deepestBelow, Cond.instanceMethod yX1_deepestBelow, Cond.selects RX1 yX1_deepestBelow yX1_deepestBelow, Cond.code yX1_deepestBelow cX1_deepestBelow 5 (some .int), Cond.fieldLink RX1 150 "LopsidedRanks$Soldier" "left" "LLopsidedRanks$Soldier;", Cond.fieldLink RX1 147 "LopsidedRanks$Soldier" "company" "I", Cond.methodLink RX1 114 Lib.Math.max.name, Cond.static Lib.Math.max.name, Cond.initialized "java/lang/Math", Cond.code Lib.Math.max.name Lib.Math.max.code 2 (some .int), Cond.methodLink RX1 103 yX1_smallerThan, Cond.instanceMethod yX1_smallerThan, Cond.selects RX1 yX1_smallerThan yX1_smallerThan, Cond.code yX1_smallerThan cX1_smallerThan 4 (some .int), Cond.methodLink RX1 153 yX1_companyOf, Cond.static yX1_companyOf, Cond.code yX1_companyOf cX1_companyOf 1 (some .int), Cond.methodLink RX1 117 yX0_towards, Cond.instanceMethod yX0_towards, Cond.selects RX0 yX0_towards yX0_towards, Cond.initialized RX0, Cond.code yX0_towards cX0_towards 2 (some (.object "LopsidedRanks$Soldier")), Cond.fieldLink RX0 7 "LopsidedRanks$Soldier" "height" "I", Cond.fieldLink RX0 16 "LopsidedRanks$Soldier" "left" "LLopsidedRanks$Soldier;"]
def wsL_count_r3 : List Cond := [Cond.fieldLink RX0 20 "LopsidedRanks$Soldier" "right" "LLopsidedRanks$Soldier;", Cond.methodLink RX1 92 yX1_inLine, Cond.instanceMethod yX1_inLine, Cond.selects RX1 yX1_inLine yX1_inLine, Cond.code yX1_inLine cX1_inLine 2 (some (.object "LopsidedRanks$Soldier")), Cond.fieldLink RX1 11 "LopsidedRanks" "line" "[LLopsidedRanks$Soldier;", Cond.methodLink RX1 194 yX1_stepsUp, Cond.static yX1_stepsUp, Cond.code yX1_stepsUp cX1_stepsUp 4 (some .int), Cond.fieldLink RX1 130 "LopsidedRanks$Soldier" "above" "LLopsidedRanks$Soldier;", Cond.methodLink RX1 58 yX1_allowedDepth, Cond.static yX1_allowedDepth, Cond.code yX1_allowedDepth cX1_allowedDepth 6 (some .int), Cond.constantLong RX1 170 (3), Cond.constantLong RX1 172 (2), Cond.methodLink RX1 191 yX1_crookedCompanies, Cond.instanceMethod yX1_crookedCompanies, Cond.selects RX1 yX1_crookedCompanies yX1_crookedCompanies, Cond.code yX1_crookedCompanies cX1_crookedCompanies 4 (some .int), Cond.methodLink RX1 174 yX0_hasCrookedCompany, Cond.instanceMethod yX0_hasCrookedCompany, Cond.selects RX0 yX0_hasCrookedCompany yX0_hasCrookedCompany, Cond.code yX0_hasCrookedCompany cX0_hasCrookedCompany 1 (some .boolean), Cond.static yX1_isCrooked]
def wsL_count_r4 : List Cond := [Cond.code yX1_isCrooked cX1_isCrooked 3 (some .boolean)]
def wsL_count : List Cond := .codeWith yL_count cL_count 4 (some .int) [(0, 9, 12, 31)] :: ((wsL_count_r1 ++ (wsL_count_r2 ++ (wsL_count_r3 ++ wsL_count_r4))) ++ wsX10 ++ wsX00 ++ (vx_atS RX1 99 "java/lang/IndexOutOfBoundsException" ["java/lang/RuntimeException", "java/lang/Exception"]).filter goodWord)
def wsL_would_r1 : List Cond := [Cond.classLink RL 13 "java/lang/IllegalArgumentException", Cond.methodLink RL 48 yX1_would, Cond.instanceMethod yX1_would, Cond.selects RX1 yX1_would yX1_would, Cond.initialized RX1, Cond.code yX1_would cX1_would 2 (some .int), Cond.methodLink RX1 15 yX1_refuseOddHeight, Cond.static yX1_refuseOddHeight, Cond.code yX1_refuseOddHeight cX1_refuseOddHeight 1 none, Cond.classLink RX1 140 "java/lang/IllegalArgumentException", Cond.initialized "java/lang/IllegalArgumentException", Cond.methodLink RX1 23 yX1_find, Cond.instanceMethod yX1_find, Cond.selects RX1 yX1_find yX1_find, Cond.code yX1_find cX1_find 3 (some (.object "LopsidedRanks$Soldier")), Cond.fieldLink RX1 77 "LopsidedRanks" "top" "LLopsidedRanks$Soldier;", Cond.fieldLink RX1 100 "LopsidedRanks$Soldier" "height" "I", Cond.methodLink RX1 117 yX0_towards, Cond.instanceMethod yX0_towards, Cond.selects RX0 yX0_towards yX0_towards, Cond.initialized RX0, Cond.code yX0_towards cX0_towards 2 (some (.object "LopsidedRanks$Soldier")), Cond.fieldLink RX0 7 "LopsidedRanks$Soldier" "height" "I", Cond.fieldLink RX0 16 "LopsidedRanks$Soldier" "left" "LLopsidedRanks$Soldier;"]
def wsL_would_r2 : List Cond := [Cond.fieldLink RX0 20 "LopsidedRanks$Soldier" "right" "LLopsidedRanks$Soldier;", Cond.methodLink RX1 40 yX1_lastOnTheWayTo, Cond.instanceMethod yX1_lastOnTheWayTo, Cond.selects RX1 yX1_lastOnTheWayTo yX1_lastOnTheWayTo, Cond.code yX1_lastOnTheWayTo cX1_lastOnTheWayTo 4 (some (.object "LopsidedRanks$Soldier")), Cond.methodLink RX1 123 yX1_newDepth, Cond.static yX1_newDepth, Cond.code yX1_newDepth cX1_newDepth 1 (some .int), Cond.methodLink RX1 133 yX1_depthOf, Cond.static yX1_depthOf, Cond.code yX1_depthOf cX1_depthOf 1 (some .int), Cond.methodLink RX1 54 yX0_depth, Cond.instanceMethod yX0_depth, Cond.selects RX0 yX0_depth yX0_depth, Cond.code yX0_depth cX0_depth 3 (some .int), Cond.fieldLink RX0 23 "LopsidedRanks$Soldier" "above" "LLopsidedRanks$Soldier;"]
def wsL_would : List Cond := .codeWith yL_would cL_would 4 (some .int) [(0, 9, 12, 13)] :: ((wsL_would_r1 ++ wsL_would_r2) ++ wsX10 ++ wsX00 ++ (vx_atS RX1 144 "java/lang/IllegalArgumentException" ["java/lang/RuntimeException", "java/lang/Exception"]).filter goodWord)
def wsL_moves_r1 : List Cond := [Cond.classLink RL 13 "java/lang/IllegalArgumentException", Cond.methodLink RL 51 yX1_moves, Cond.instanceMethod yX1_moves, Cond.selects RX1 yX1_moves yX1_moves, Cond.initialized RX1, Cond.code yX1_moves cX1_moves 4 (some .int), Cond.fieldLink RX1 19 "LopsidedRanks" "soldiers" "I", Cond.fieldLink RX1 100 "LopsidedRanks$Soldier" "height" "I", Cond.fieldLink RX1 130 "LopsidedRanks$Soldier" "above" "LLopsidedRanks$Soldier;", Cond.methodLink RX1 15 yX1_refuseOddHeight, Cond.static yX1_refuseOddHeight, Cond.code yX1_refuseOddHeight cX1_refuseOddHeight 1 none, Cond.classLink RX1 140 "java/lang/IllegalArgumentException", Cond.initialized "java/lang/IllegalArgumentException", Cond.methodLink RX1 23 yX1_find, Cond.instanceMethod yX1_find, Cond.selects RX1 yX1_find yX1_find, Cond.code yX1_find cX1_find 3 (some (.object "LopsidedRanks$Soldier")), Cond.fieldLink RX1 77 "LopsidedRanks" "top" "LLopsidedRanks$Soldier;", Cond.methodLink RX1 117 yX0_towards, Cond.instanceMethod yX0_towards, Cond.selects RX0 yX0_towards yX0_towards, Cond.initialized RX0, Cond.code yX0_towards cX0_towards 2 (some (.object "LopsidedRanks$Soldier"))]
def wsL_moves_r2 : List Cond := [Cond.fieldLink RX0 7 "LopsidedRanks$Soldier" "height" "I", Cond.fieldLink RX0 16 "LopsidedRanks$Soldier" "left" "LLopsidedRanks$Soldier;", Cond.fieldLink RX0 20 "LopsidedRanks$Soldier" "right" "LLopsidedRanks$Soldier;", Cond.methodLink RX1 40 yX1_lastOnTheWayTo, Cond.instanceMethod yX1_lastOnTheWayTo, Cond.selects RX1 yX1_lastOnTheWayTo yX1_lastOnTheWayTo, Cond.code yX1_lastOnTheWayTo cX1_lastOnTheWayTo 4 (some (.object "LopsidedRanks$Soldier")), Cond.methodLink RX1 123 yX1_newDepth, Cond.static yX1_newDepth, Cond.code yX1_newDepth cX1_newDepth 1 (some .int), Cond.methodLink RX1 133 yX1_depthOf, Cond.static yX1_depthOf, Cond.code yX1_depthOf cX1_depthOf 1 (some .int), Cond.methodLink RX1 54 yX0_depth, Cond.instanceMethod yX0_depth, Cond.selects RX0 yX0_depth yX0_depth, Cond.code yX0_depth cX0_depth 3 (some .int), Cond.fieldLink RX0 23 "LopsidedRanks$Soldier" "above" "LLopsidedRanks$Soldier;", Cond.methodLink RX1 58 yX1_allowedDepth, Cond.static yX1_allowedDepth, Cond.code yX1_allowedDepth cX1_allowedDepth 6 (some .int), Cond.constantLong RX1 170 (3), Cond.constantLong RX1 172 (2), Cond.methodLink RX1 126 yX0_wouldBeCrookedWith]
def wsL_moves_r3 : List Cond := [Cond.instanceMethod yX0_wouldBeCrookedWith, Cond.selects RX0 yX0_wouldBeCrookedWith yX0_wouldBeCrookedWith, Cond.code yX0_wouldBeCrookedWith cX0_wouldBeCrookedWith 3 (some .boolean), Cond.static yX1_companyOf, Cond.code yX1_companyOf cX1_companyOf 1 (some .int), Cond.fieldLink RX1 147 "LopsidedRanks$Soldier" "company" "I", Cond.static yX1_isCrooked, Cond.code yX1_isCrooked cX1_isCrooked 3 (some .boolean)]
def wsL_moves : List Cond := .codeWith yL_moves cL_moves 4 (some .int) [(0, 9, 12, 13)] :: ((wsL_moves_r1 ++ (wsL_moves_r2 ++ wsL_moves_r3)) ++ wsX10 ++ wsX00 ++ (vx_atS RX1 144 "java/lang/IllegalArgumentException" ["java/lang/RuntimeException", "java/lang/Exception"]).filter goodWord)
def wsL_law0_r1 : List Cond := [Cond.classLink RL 8 RX1, Cond.instantiable RX1 6, Cond.initialized RX1, Cond.classLink RL 55 RX2, Cond.instantiable RX2 13, Cond.initialized RX2, Cond.arrayClass .long, Cond.methodLink RL 54 yX1_init, Cond.instanceMethod yX1_init, Cond.code yX1_init cX1_init 1 none, Cond.methodLink RX1 1 objectInit, Cond.instanceMethod objectInit, Cond.code objectInit ⟨#[0xb1]⟩ 1 none, Cond.classLink RX1 9 RX0, Cond.fieldLink RX1 11 "LopsidedRanks" "line" "[LLopsidedRanks$Soldier;", Cond.methodLink RL 57 yX2_init, Cond.instanceMethod yX2_init, Cond.code yX2_init cX2_init 1 none, Cond.methodLink RX2 1 objectInit, Cond.fieldLink RX2 9 "LopsidedRanksModel" "top" "I", Cond.arrayClass .boolean, Cond.fieldLink RX2 13 "LopsidedRanksModel" "isIn" "[Z", Cond.arrayClass .int, Cond.fieldLink RX2 17 "LopsidedRanksModel" "left" "[I"]
def wsL_law0_r2 : List Cond := [Cond.fieldLink RX2 21 "LopsidedRanksModel" "right" "[I", Cond.fieldLink RX2 24 "LopsidedRanksModel" "way" "[I", Cond.fieldLink RX2 27 "LopsidedRanksModel" "row" "[I", Cond.methodLink RL 58 yL_muster, Cond.static yL_muster, Cond.initialized RL, Cond.codeWith yL_muster cL_muster 4 (some .int) [(0, 9, 12, 13), (0, 9, 15, 15)], Cond.classLink RL 13 "java/lang/IllegalArgumentException", Cond.classLink RL 15 "java/lang/IllegalStateException", Cond.methodLink RL 7 yX1_muster, Cond.instanceMethod yX1_muster, Cond.selects RX1 yX1_muster yX1_muster, Cond.code yX1_muster cX1_muster 3 (some .int), Cond.classLink RX1 27 "java/lang/IllegalStateException", Cond.initialized "java/lang/IllegalStateException", Cond.fieldLink RX1 19 "LopsidedRanks" "soldiers" "I", Cond.instantiable RX0 5, Cond.initialized RX0, Cond.fieldLink RX1 51 "LopsidedRanks" "most" "I", Cond.methodLink RX1 15 yX1_refuseOddHeight, Cond.static yX1_refuseOddHeight, Cond.code yX1_refuseOddHeight cX1_refuseOddHeight 1 none, Cond.classLink RX1 140 "java/lang/IllegalArgumentException", Cond.initialized "java/lang/IllegalArgumentException"]
def wsL_law0_r3 : List Cond := [Cond.methodLink RX1 23 yX1_find, Cond.instanceMethod yX1_find, Cond.selects RX1 yX1_find yX1_find, Cond.code yX1_find cX1_find 3 (some (.object "LopsidedRanks$Soldier")), Cond.fieldLink RX1 77 "LopsidedRanks" "top" "LLopsidedRanks$Soldier;", Cond.fieldLink RX1 100 "LopsidedRanks$Soldier" "height" "I", Cond.methodLink RX1 117 yX0_towards, Cond.instanceMethod yX0_towards, Cond.selects RX0 yX0_towards yX0_towards, Cond.code yX0_towards cX0_towards 2 (some (.object "LopsidedRanks$Soldier")), Cond.fieldLink RX0 7 "LopsidedRanks$Soldier" "height" "I", Cond.fieldLink RX0 16 "LopsidedRanks$Soldier" "left" "LLopsidedRanks$Soldier;", Cond.fieldLink RX0 20 "LopsidedRanks$Soldier" "right" "LLopsidedRanks$Soldier;", Cond.methodLink RX1 34 yX0_init, Cond.instanceMethod yX0_init, Cond.code yX0_init cX0_init 2 none, Cond.methodLink RX0 1 objectInit, Cond.fieldLink RX0 13 "LopsidedRanks$Soldier" "company" "I", Cond.methodLink RX1 36 yX1_insertIntoLine, Cond.instanceMethod yX1_insertIntoLine, Cond.selects RX1 yX1_insertIntoLine yX1_insertIntoLine, Cond.code yX1_insertIntoLine cX1_insertIntoLine 3 none, Cond.methodLink RX1 81 yX1_heightOf, Cond.static yX1_heightOf]
def wsL_law0_r4 : List Cond := [Cond.code yX1_heightOf cX1_heightOf 1 (some .int), Cond.methodLink RX1 40 yX1_lastOnTheWayTo, Cond.instanceMethod yX1_lastOnTheWayTo, Cond.selects RX1 yX1_lastOnTheWayTo yX1_lastOnTheWayTo, Cond.code yX1_lastOnTheWayTo cX1_lastOnTheWayTo 4 (some (.object "LopsidedRanks$Soldier")), Cond.methodLink RX1 43 yX1_standBelow, Cond.instanceMethod yX1_standBelow, Cond.selects RX1 yX1_standBelow yX1_standBelow, Cond.code yX1_standBelow cX1_standBelow 4 none, Cond.fieldLink RX1 130 "LopsidedRanks$Soldier" "above" "LLopsidedRanks$Soldier;", Cond.methodLink RX1 156 yX0_setTowards, Cond.instanceMethod yX0_setTowards, Cond.selects RX0 yX0_setTowards yX0_setTowards, Cond.code yX0_setTowards cX0_setTowards 3 none, Cond.fieldLink RX0 23 "LopsidedRanks$Soldier" "above" "LLopsidedRanks$Soldier;", Cond.methodLink RX1 47 yX1_addToCompaniesAbove, Cond.static yX1_addToCompaniesAbove, Cond.code yX1_addToCompaniesAbove cX1_addToCompaniesAbove 3 none, Cond.fieldLink RX1 147 "LopsidedRanks$Soldier" "company" "I", Cond.methodLink RX1 54 yX0_depth, Cond.instanceMethod yX0_depth, Cond.selects RX0 yX0_depth yX0_depth, Cond.code yX0_depth cX0_depth 3 (some .int), Cond.methodLink RX1 58 yX1_allowedDepth]
def wsL_law0_r5 : List Cond := [Cond.static yX1_allowedDepth, Cond.code yX1_allowedDepth cX1_allowedDepth 6 (some .int), Cond.constantLong RX1 170 (3), Cond.constantLong RX1 172 (2), Cond.methodLink RX1 62 yX1_firstCrookedFrom, Cond.static yX1_firstCrookedFrom, Cond.code yX1_firstCrookedFrom cX1_firstCrookedFrom 2 (some (.object "LopsidedRanks$Soldier")), Cond.methodLink RX1 174 yX0_hasCrookedCompany, Cond.instanceMethod yX0_hasCrookedCompany, Cond.selects RX0 yX0_hasCrookedCompany yX0_hasCrookedCompany, Cond.code yX0_hasCrookedCompany cX0_hasCrookedCompany 1 (some .boolean), Cond.static yX1_companyOf, Cond.code yX1_companyOf cX1_companyOf 1 (some .int), Cond.static yX1_isCrooked, Cond.code yX1_isCrooked cX1_isCrooked 3 (some .boolean), Cond.methodLink RX1 66 yX1_drawUp, Cond.instanceMethod yX1_drawUp, Cond.selects RX1 yX1_drawUp yX1_drawUp, Cond.code yX1_drawUp cX1_drawUp 7 (some (.object "LopsidedRanks$Soldier")), Cond.fieldLink RX1 150 "LopsidedRanks$Soldier" "left" "LLopsidedRanks$Soldier;", Cond.fieldLink RX1 182 "LopsidedRanks" "drawings" "I", Cond.fieldLink RX1 185 "LopsidedRanks" "drawnSoldiers" "I", Cond.methodLink RX1 103 yX1_smallerThan, Cond.instanceMethod yX1_smallerThan]
def wsL_law0_r6 : List Cond := [Cond.selects RX1 yX1_smallerThan yX1_smallerThan, Cond.code yX1_smallerThan cX1_smallerThan 4 (some .int), Cond.methodLink RX1 153 yX1_companyOf, Cond.methodLink RX1 178 yX1_halve, Cond.static yX1_halve, Cond.code yX1_halve cX1_halve 7 (some (.object "LopsidedRanks$Soldier")), Cond.fieldLink RX1 160 "LopsidedRanks$Soldier" "right" "LLopsidedRanks$Soldier;", Cond.methodLink RX1 166 yX1_handOver, Cond.static yX1_handOver, Cond.code yX1_handOver cX1_handOver 2 none, Cond.methodLink RL 63 yX2_muster, Cond.instanceMethod yX2_muster, Cond.selects RX2 yX2_muster yX2_muster, Cond.code yX2_muster cX2_muster 3 (some .int), Cond.fieldLink RX2 30 "LopsidedRanksModel" "thrown" "I", Cond.fieldLink RX2 90 "LopsidedRanksModel" "soldiers" "I", Cond.fieldLink RX2 33 "LopsidedRanksModel" "steps" "I", Cond.fieldLink RX2 93 "LopsidedRanksModel" "most" "I", Cond.methodLink RX2 43 Lib.Math.max.name, Cond.static Lib.Math.max.name, Cond.initialized "java/lang/Math", Cond.code Lib.Math.max.name Lib.Math.max.code 2 (some .int), Cond.methodLink RX2 96 yX2_isHeight, Cond.static yX2_isHeight]
def wsL_law0_r7 : List Cond := [Cond.code yX2_isHeight cX2_isHeight 1 (some .boolean), Cond.methodLink RX2 99 yX2_no, Cond.instanceMethod yX2_no, Cond.selects RX2 yX2_no yX2_no, Cond.code yX2_no cX2_no 2 (some .int), Cond.methodLink RX2 77 yX2_goTo, Cond.instanceMethod yX2_goTo, Cond.selects RX2 yX2_goTo yX2_goTo, Cond.code yX2_goTo cX2_goTo 3 none, Cond.methodLink RX2 102 yX2_allowed, Cond.static yX2_allowed, Cond.code yX2_allowed cX2_allowed 6 (some .int), Cond.constantLong RX2 63 (3), Cond.constantLong RX2 65 (2), Cond.methodLink RX2 105 yX2_crookedWith, Cond.instanceMethod yX2_crookedWith, Cond.selects RX2 yX2_crookedWith yX2_crookedWith, Cond.code yX2_crookedWith cX2_crookedWith 5 (some .int), Cond.methodLink RX2 36 yX2_size, Cond.instanceMethod yX2_size, Cond.selects RX2 yX2_size yX2_size, Cond.code yX2_size cX2_size 2 (some .int), Cond.methodLink RX2 49 yX2_isCrooked, Cond.static yX2_isCrooked]
def wsL_law0_r8 : List Cond := [Cond.code yX2_isCrooked cX2_isCrooked 2 (some .boolean), Cond.methodLink RX2 80 yX2_hang, Cond.instanceMethod yX2_hang, Cond.selects RX2 yX2_hang yX2_hang, Cond.code yX2_hang cX2_hang 4 none, Cond.methodLink RX2 108 yX2_drawUp, Cond.instanceMethod yX2_drawUp, Cond.selects RX2 yX2_drawUp yX2_drawUp, Cond.code yX2_drawUp cX2_drawUp 4 (some .int), Cond.fieldLink RX2 71 "LopsidedRanksModel" "many" "I", Cond.fieldLink RX2 84 "LopsidedRanksModel" "times" "I", Cond.fieldLink RX2 87 "LopsidedRanksModel" "drawn" "I", Cond.methodLink RX2 67 yX2_collect, Cond.instanceMethod yX2_collect, Cond.selects RX2 yX2_collect yX2_collect, Cond.code yX2_collect cX2_collect 2 none, Cond.methodLink RX2 74 yX2_halve, Cond.instanceMethod yX2_halve, Cond.selects RX2 yX2_halve yX2_halve, Cond.code yX2_halve cX2_halve 4 (some .int), Cond.methodLink RL 64 yX2_thrown, Cond.instanceMethod yX2_thrown, Cond.selects RX2 yX2_thrown yX2_thrown, Cond.code yX2_thrown cX2_thrown 1 (some .int)]
def wsL_law0_r9 : List Cond := [Cond.methodLink RL 68 yL_discharge, Cond.static yL_discharge, Cond.codeWith yL_discharge cL_discharge 4 (some .int) [(0, 16, 19, 13), (0, 16, 22, 15)], Cond.methodLink RL 17 yX1_discharge, Cond.instanceMethod yX1_discharge, Cond.selects RX1 yX1_discharge yX1_discharge, Cond.code yX1_discharge cX1_discharge 3 (some .boolean), Cond.methodLink RX1 71 yX1_removeFromLine, Cond.instanceMethod yX1_removeFromLine, Cond.selects RX1 yX1_removeFromLine yX1_removeFromLine, Cond.code yX1_removeFromLine cX1_removeFromLine 3 none, Cond.methodLink RX1 74 yX1_removeFromRanks, Cond.instanceMethod yX1_removeFromRanks, Cond.selects RX1 yX1_removeFromRanks yX1_removeFromRanks, Cond.code yX1_removeFromRanks cX1_removeFromRanks 3 none, Cond.methodLink RX1 163 yX1_removeWithOneSide, Cond.instanceMethod yX1_removeWithOneSide, Cond.selects RX1 yX1_removeWithOneSide yX1_removeWithOneSide, Cond.code yX1_removeWithOneSide cX1_removeWithOneSide 3 none, Cond.methodLink RL 70 yX2_discharge, Cond.instanceMethod yX2_discharge, Cond.selects RX2 yX2_discharge yX2_discharge, Cond.code yX2_discharge cX2_discharge 4 (some .boolean), Cond.methodLink RX2 111 yX2_next]
def wsL_law0_r10 : List Cond := [Cond.instanceMethod yX2_next, Cond.selects RX2 yX2_next yX2_next, Cond.code yX2_next cX2_next 4 (some .int), Cond.methodLink RL 71 yL_draw, Cond.static yL_draw, Cond.codeWith yL_draw cL_draw 4 (some .int) [(0, 9, 12, 13), (0, 9, 15, 15)], Cond.methodLink RL 21 yX1_draw, Cond.instanceMethod yX1_draw, Cond.selects RX1 yX1_draw yX1_draw, Cond.code yX1_draw cX1_draw 3 (some .int), Cond.methodLink RL 73 yX2_draw, Cond.instanceMethod yX2_draw, Cond.selects RX2 yX2_draw yX2_draw, Cond.code yX2_draw cX2_draw 2 (some .int), Cond.methodLink RL 74 yL_isThere, Cond.static yL_isThere, Cond.codeWith yL_isThere cL_isThere 4 (some .int) [(0, 16, 19, 13)], Cond.methodLink RL 24 yX1_isThere, Cond.instanceMethod yX1_isThere, Cond.selects RX1 yX1_isThere yX1_isThere, Cond.code yX1_isThere cX1_isThere 2 (some .boolean), Cond.methodLink RL 76 yX2_isThere, Cond.instanceMethod yX2_isThere, Cond.selects RX2 yX2_isThere yX2_isThere]
def wsL_law0_r11 : List Cond := [Cond.code yX2_isThere cX2_isThere 2 (some .boolean), Cond.methodLink RL 77 yL_told, Cond.static yL_told, Cond.codeWith yL_told cL_told 5 (some .int) [(0, 10, 13, 13), (0, 10, 17, 31), (0, 10, 21, 15)], Cond.classLink RL 31 "java/lang/IndexOutOfBoundsException", Cond.methodLink RL 27 yX1_told, Cond.instanceMethod yX1_told, Cond.selects RX1 yX1_told yX1_told, Cond.code yX1_told cX1_told 4 (some .int), Cond.methodLink RX1 85 yX1_refuseOddQuestion, Cond.static yX1_refuseOddQuestion, Cond.code yX1_refuseOddQuestion cX1_refuseOddQuestion 1 none, Cond.classLink RX1 95 "java/lang/IndexOutOfBoundsException", Cond.initialized "java/lang/IndexOutOfBoundsException", Cond.methodLink RX1 88 yX1_tell, Cond.instanceMethod yX1_tell, Cond.selects RX1 yX1_tell yX1_tell, Cond.code yX1_tell cX1_tell 3 (some .int), Cond.methodLink RX1 188 yX1_deepestBelow, Cond.instanceMethod yX1_deepestBelow, Cond.selects RX1 yX1_deepestBelow yX1_deepestBelow, Cond.code yX1_deepestBelow cX1_deepestBelow 5 (some .int), Cond.methodLink RX1 114 Lib.Math.max.name, Cond.methodLink RX1 92 yX1_inLine]
def wsL_law0_r12 : List Cond := [Cond.instanceMethod yX1_inLine, Cond.selects RX1 yX1_inLine yX1_inLine, Cond.code yX1_inLine cX1_inLine 2 (some (.object "LopsidedRanks$Soldier")), Cond.methodLink RX1 194 yX1_stepsUp, Cond.static yX1_stepsUp, Cond.code yX1_stepsUp cX1_stepsUp 4 (some .int), Cond.methodLink RL 80 yX2_told, Cond.instanceMethod yX2_told, Cond.selects RX2 yX2_told yX2_told, Cond.code yX2_told cX2_told 3 (some .int), Cond.methodLink RX2 117 yX2_toldOf, Cond.instanceMethod yX2_toldOf, Cond.selects RX2 yX2_toldOf yX2_toldOf, Cond.code yX2_toldOf cX2_toldOf 3 (some .int), Cond.methodLink RX2 40 yX2_deep, Cond.instanceMethod yX2_deep, Cond.selects RX2 yX2_deep yX2_deep, Cond.code yX2_deep cX2_deep 2 (some .int), Cond.methodLink RX2 53 yX2_isCrooked_, Cond.instanceMethod yX2_isCrooked_, Cond.selects RX2 yX2_isCrooked_ yX2_isCrooked_, Cond.code yX2_isCrooked_ cX2_isCrooked_ 2 (some .boolean), Cond.methodLink RX2 114 yX2_smaller, Cond.instanceMethod yX2_smaller]
def wsL_law0_r13 : List Cond := [Cond.selects RX2 yX2_smaller yX2_smaller, Cond.code yX2_smaller cX2_smaller 4 (some .int), Cond.methodLink RL 81 yL_at, Cond.static yL_at, Cond.codeWith yL_at cL_at 4 (some .int) [(0, 9, 12, 31)], Cond.methodLink RL 33 yX1_at, Cond.instanceMethod yX1_at, Cond.selects RX1 yX1_at yX1_at, Cond.code yX1_at cX1_at 3 (some .int), Cond.methodLink RL 83 yX2_at, Cond.instanceMethod yX2_at, Cond.selects RX2 yX2_at yX2_at, Cond.code yX2_at cX2_at 4 (some .int), Cond.methodLink RL 84 yL_between, Cond.static yL_between, Cond.codeWith yL_between cL_between 5 (some .int) [(0, 10, 13, 13)], Cond.methodLink RL 36 yX1_between, Cond.instanceMethod yX1_between, Cond.selects RX1 yX1_between yX1_between, Cond.code yX1_between cX1_between 3 (some .int), Cond.methodLink RL 86 yX2_between, Cond.instanceMethod yX2_between, Cond.selects RX2 yX2_between yX2_between, Cond.code yX2_between cX2_between 5 (some .int)]
def wsL_law0_r14 : List Cond := [Cond.methodLink RL 87 yL_captain, Cond.static yL_captain, Cond.codeWith yL_captain cL_captain 5 (some .int) [(0, 10, 13, 13), (0, 10, 17, 15)], Cond.methodLink RL 39 yX1_captain, Cond.instanceMethod yX1_captain, Cond.selects RX1 yX1_captain yX1_captain, Cond.code yX1_captain cX1_captain 6 (some .int), Cond.methodLink RX1 108 Lib.Math.min.name, Cond.static Lib.Math.min.name, Cond.code Lib.Math.min.name Lib.Math.min.code 2 (some .int), Cond.methodLink RL 89 yX2_captain, Cond.instanceMethod yX2_captain, Cond.selects RX2 yX2_captain yX2_captain, Cond.code yX2_captain cX2_captain 4 (some .int), Cond.methodLink RX2 120 Lib.Math.min.name, Cond.methodLink RL 90 yL_taller, Cond.static yL_taller, Cond.codeWith yL_taller cL_taller 4 (some .int) [(0, 9, 12, 13)], Cond.methodLink RL 42 yX1_taller, Cond.instanceMethod yX1_taller, Cond.selects RX1 yX1_taller yX1_taller, Cond.code yX1_taller cX1_taller 2 (some .int), Cond.methodLink RL 92 yX2_taller, Cond.instanceMethod yX2_taller]
def wsL_law0_r15 : List Cond := [Cond.selects RX2 yX2_taller yX2_taller, Cond.code yX2_taller cX2_taller 3 (some .int), Cond.methodLink RL 93 yL_count, Cond.static yL_count, Cond.codeWith yL_count cL_count 4 (some .int) [(0, 9, 12, 31)], Cond.methodLink RL 45 yX1_count, Cond.instanceMethod yX1_count, Cond.selects RX1 yX1_count yX1_count, Cond.code yX1_count cX1_count 2 (some .int), Cond.methodLink RX1 120 yX1_tally, Cond.instanceMethod yX1_tally, Cond.selects RX1 yX1_tally yX1_tally, Cond.code yX1_tally cX1_tally 2 (some .int), Cond.methodLink RX1 191 yX1_crookedCompanies, Cond.instanceMethod yX1_crookedCompanies, Cond.selects RX1 yX1_crookedCompanies yX1_crookedCompanies, Cond.code yX1_crookedCompanies cX1_crookedCompanies 4 (some .int), Cond.methodLink RL 95 yX2_count, Cond.instanceMethod yX2_count, Cond.selects RX2 yX2_count yX2_count, Cond.code yX2_count cX2_count 2 (some .int), Cond.methodLink RX2 123 yX2_counted, Cond.instanceMethod yX2_counted, Cond.selects RX2 yX2_counted yX2_counted]
def wsL_law0_r16 : List Cond := [Cond.code yX2_counted cX2_counted 3 (some .int), Cond.methodLink RX2 56 yX2_crookedIn, Cond.instanceMethod yX2_crookedIn, Cond.selects RX2 yX2_crookedIn yX2_crookedIn, Cond.code yX2_crookedIn cX2_crookedIn 2 (some .int), Cond.methodLink RL 96 yL_would, Cond.static yL_would, Cond.codeWith yL_would cL_would 4 (some .int) [(0, 9, 12, 13)], Cond.methodLink RL 48 yX1_would, Cond.instanceMethod yX1_would, Cond.selects RX1 yX1_would yX1_would, Cond.code yX1_would cX1_would 2 (some .int), Cond.methodLink RX1 123 yX1_newDepth, Cond.static yX1_newDepth, Cond.code yX1_newDepth cX1_newDepth 1 (some .int), Cond.methodLink RX1 133 yX1_depthOf, Cond.static yX1_depthOf, Cond.code yX1_depthOf cX1_depthOf 1 (some .int), Cond.methodLink RL 98 yX2_would, Cond.instanceMethod yX2_would, Cond.selects RX2 yX2_would yX2_would, Cond.code yX2_would cX2_would 2 (some .int), Cond.methodLink RL 99 yL_moves, Cond.static yL_moves]
def wsL_law0_r17 : List Cond := [Cond.codeWith yL_moves cL_moves 4 (some .int) [(0, 9, 12, 13)], Cond.methodLink RL 51 yX1_moves, Cond.instanceMethod yX1_moves, Cond.selects RX1 yX1_moves yX1_moves, Cond.code yX1_moves cX1_moves 4 (some .int), Cond.methodLink RX1 126 yX0_wouldBeCrookedWith, Cond.instanceMethod yX0_wouldBeCrookedWith, Cond.selects RX0 yX0_wouldBeCrookedWith yX0_wouldBeCrookedWith, Cond.code yX0_wouldBeCrookedWith cX0_wouldBeCrookedWith 3 (some .boolean), Cond.methodLink RL 101 yX2_moves, Cond.instanceMethod yX2_moves, Cond.selects RX2 yX2_moves yX2_moves, Cond.code yX2_moves cX2_moves 2 (some .int), Cond.methodLink RL 102 yX1_mean, Cond.instanceMethod yX1_mean, Cond.selects RX1 yX1_mean yX1_mean, Cond.code yX1_mean cX1_mean 3 (some .double), Cond.methodLink RL 106 yX2_mean, Cond.instanceMethod yX2_mean, Cond.selects RX2 yX2_mean yX2_mean, Cond.code yX2_mean cX2_mean 1 (some .double), Cond.methodLink RX2 59 yX2_depthsIn, Cond.instanceMethod yX2_depthsIn, Cond.selects RX2 yX2_depthsIn yX2_depthsIn]
def wsL_law0_r18 : List Cond := [Cond.code yX2_depthsIn cX2_depthsIn 3 (some .long), Cond.methodLink RL 107 yX1_digest, Cond.instanceMethod yX1_digest, Cond.selects RX1 yX1_digest yX1_digest, Cond.code yX1_digest cX1_digest 6 (some .long), Cond.constantLong RX1 136 (1289), Cond.constantLong RX1 138 (31), Cond.methodLink RL 111 yX2_digest, Cond.instanceMethod yX2_digest, Cond.selects RX2 yX2_digest yX2_digest, Cond.code yX2_digest cX2_digest 5 (some .long), Cond.constantLong RX2 126 (1289), Cond.constantLong RX2 128 (31)]
def wsL_law0 : List Cond := (wsL_law0_r1 ++ (wsL_law0_r2 ++ (wsL_law0_r3 ++ (wsL_law0_r4 ++ (wsL_law0_r5 ++ (wsL_law0_r6 ++ (wsL_law0_r7 ++ (wsL_law0_r8 ++ (wsL_law0_r9 ++ (wsL_law0_r10 ++ (wsL_law0_r11 ++ (wsL_law0_r12 ++ (wsL_law0_r13 ++ (wsL_law0_r14 ++ (wsL_law0_r15 ++ (wsL_law0_r16 ++ (wsL_law0_r17 ++ wsL_law0_r18))))))))))))))))) ++ wsX10 ++ wsX20 ++ wsX00 ++ ([] : List Cond)
def wsL_law : List Cond := wsL_law0 ++ (vx_atS RX1 31 "java/lang/IllegalStateException" ["java/lang/RuntimeException", "java/lang/Exception"]).filter goodWord ++ (vx_atS RX1 144 "java/lang/IllegalArgumentException" ["java/lang/RuntimeException", "java/lang/Exception"]).filter goodWord ++ (vx_atS RX1 99 "java/lang/IndexOutOfBoundsException" ["java/lang/RuntimeException", "java/lang/Exception"]).filter goodWord
end
section
set_option maxRecDepth 20000 in
theorem wsL_law_in0_1 : ∀ w ∈ wsL_law0_r1, w ∈ lw_tbl := fun w h => (goodIn_p wsL_law0_r1 [46, 49, 425] (by decide +kernel) (by decide +kernel) w h).1
set_option maxRecDepth 20000 in
theorem wsL_law_in0_2 : ∀ w ∈ wsL_law0_r2, w ∈ lw_tbl := fun w h => (goodIn_p wsL_law0_r2 [149, 152] (by decide +kernel) (by decide +kernel) w h).1
set_option maxRecDepth 20000 in
theorem wsL_law_in0_3 : ∀ w ∈ wsL_law0_r3, w ∈ lw_tbl := fun w h => (goodIn_p wsL_law0_r3 [224, 113, 244, 270] (by decide +kernel) (by decide +kernel) w h).1
set_option maxRecDepth 20000 in
theorem wsL_law_in0_4 : ∀ w ∈ wsL_law0_r4, w ∈ lw_tbl := fun w h => (goodIn_p wsL_law0_r4 [98, 274, 278, 282, 285, 85] (by decide +kernel) (by decide +kernel) w h).1
set_option maxRecDepth 20000 in
theorem wsL_law_in0_5 : ∀ w ∈ wsL_law0_r5, w ∈ lw_tbl := fun w h => (goodIn_p wsL_law0_r5 [122, 288, 132, 109, 136, 292] (by decide +kernel) (by decide +kernel) w h).1
set_option maxRecDepth 20000 in
theorem wsL_law_in0_6 : ∀ w ∈ wsL_law0_r6, w ∈ lw_tbl := fun w h => (goodIn_p wsL_law0_r6 [106, 295, 298, 476, 119] (by decide +kernel) (by decide +kernel) w h).1
set_option maxRecDepth 20000 in
theorem wsL_law_in0_7 : ∀ w ∈ wsL_law0_r7, w ∈ lw_tbl := fun w h => (goodIn_p wsL_law0_r7 [479, 483, 487, 490, 496, 500] (by decide +kernel) (by decide +kernel) w h).1
set_option maxRecDepth 20000 in
theorem wsL_law_in0_8 : ∀ w ∈ wsL_law0_r8, w ∈ lw_tbl := fun w h => (goodIn_p wsL_law0_r8 [503, 508, 512, 516, 520, 472] (by decide +kernel) (by decide +kernel) w h).1
set_option maxRecDepth 20000 in
theorem wsL_law_in0_9 : ∀ w ∈ wsL_law0_r9, w ∈ lw_tbl := fun w h => (goodIn_p wsL_law0_r9 [305, 310, 314, 318, 524] (by decide +kernel) (by decide +kernel) w h).1
set_option maxRecDepth 20000 in
theorem wsL_law_in0_10 : ∀ w ∈ wsL_law0_r10, w ∈ lw_tbl := fun w h => (goodIn_p wsL_law0_r10 [528, 325, 532, 332] (by decide +kernel) (by decide +kernel) w h).1
set_option maxRecDepth 20000 in
theorem wsL_law_in0_11 : ∀ w ∈ wsL_law0_r11, w ∈ lw_tbl := fun w h => (goodIn_p wsL_law0_r11 [536, 340, 343, 140, 102] (by decide +kernel) (by decide +kernel) w h).1
set_option maxRecDepth 20000 in
theorem wsL_law_in0_12 : ∀ w ∈ wsL_law0_r12, w ∈ lw_tbl := fun w h => (goodIn_p wsL_law0_r12 [78, 116, 540, 544, 548, 552] (by decide +kernel) (by decide +kernel) w h).1
set_option maxRecDepth 20000 in
theorem wsL_law_in0_13 : ∀ w ∈ wsL_law0_r13, w ∈ lw_tbl := fun w h => (goodIn_p wsL_law0_r13 [556, 366, 560, 374, 564] (by decide +kernel) (by decide +kernel) w h).1
set_option maxRecDepth 20000 in
theorem wsL_law_in0_14 : ∀ w ∈ wsL_law0_r14, w ∈ lw_tbl := fun w h => (goodIn_p wsL_law0_r14 [381, 385, 568, 392] (by decide +kernel) (by decide +kernel) w h).1
set_option maxRecDepth 20000 in
theorem wsL_law_in0_15 : ∀ w ∈ wsL_law0_r15, w ∈ lw_tbl := fun w h => (goodIn_p wsL_law0_r15 [573, 399, 95, 128, 577] (by decide +kernel) (by decide +kernel) w h).1
set_option maxRecDepth 20000 in
theorem wsL_law_in0_16 : ∀ w ∈ wsL_law0_r16, w ∈ lw_tbl := fun w h => (goodIn_p wsL_law0_r16 [581, 585, 406, 409, 81, 589] (by decide +kernel) (by decide +kernel) w h).1
set_option maxRecDepth 20000 in
theorem wsL_law_in0_17 : ∀ w ∈ wsL_law0_r17, w ∈ lw_tbl := fun w h => (goodIn_p wsL_law0_r17 [416, 420, 593, 74, 597] (by decide +kernel) (by decide +kernel) w h).1
set_option maxRecDepth 20000 in
theorem wsL_law_in0_18 : ∀ w ∈ wsL_law0_r18, w ∈ lw_tbl := fun w h => (goodIn_p wsL_law0_r18 [601, 89, 605] (by decide +kernel) (by decide +kernel) w h).1
set_option maxRecDepth 20000 in
theorem wsL_law_in0_X1 : ∀ w ∈ wsX10, w ∈ lw_tbl := by decide +kernel
set_option maxRecDepth 20000 in
theorem wsL_law_in0_X2 : ∀ w ∈ wsX20, w ∈ lw_tbl := by decide +kernel
set_option maxRecDepth 20000 in
theorem wsL_law_in0_X0 : ∀ w ∈ wsX00, w ∈ lw_tbl := by decide +kernel
theorem wsL_law_in0 : ∀ w ∈ wsL_law0, w ∈ lw_tbl := fun w h => (List.mem_append.mp h).elim (fun h => (List.mem_append.mp h).elim (fun h => (List.mem_append.mp h).elim (fun h => (List.mem_append.mp h).elim (fun h => (List.mem_append.mp h).elim (fun h => wsL_law_in0_1 w h) (fun h => (List.mem_append.mp h).elim (fun h => wsL_law_in0_2 w h) (fun h => (List.mem_append.mp h).elim (fun h => wsL_law_in0_3 w h) (fun h => (List.mem_append.mp h).elim (fun h => wsL_law_in0_4 w h) (fun h => (List.mem_append.mp h).elim (fun h => wsL_law_in0_5 w h) (fun h => (List.mem_append.mp h).elim (fun h => wsL_law_in0_6 w h) (fun h => (List.mem_append.mp h).elim (fun h => wsL_law_in0_7 w h) (fun h => (List.mem_append.mp h).elim (fun h => wsL_law_in0_8 w h) (fun h => (List.mem_append.mp h).elim (fun h => wsL_law_in0_9 w h) (fun h => (List.mem_append.mp h).elim (fun h => wsL_law_in0_10 w h) (fun h => (List.mem_append.mp h).elim (fun h => wsL_law_in0_11 w h) (fun h => (List.mem_append.mp h).elim (fun h => wsL_law_in0_12 w h) (fun h => (List.mem_append.mp h).elim (fun h => wsL_law_in0_13 w h) (fun h => (List.mem_append.mp h).elim (fun h => wsL_law_in0_14 w h) (fun h => (List.mem_append.mp h).elim (fun h => wsL_law_in0_15 w h) (fun h => (List.mem_append.mp h).elim (fun h => wsL_law_in0_16 w h) (fun h => (List.mem_append.mp h).elim (fun h => wsL_law_in0_17 w h) (fun h => wsL_law_in0_18 w h)))))))))))))))))) (fun h => wsL_law_in0_X1 w h)) (fun h => wsL_law_in0_X2 w h)) (fun h => wsL_law_in0_X0 w h)) (fun h => absurd h List.not_mem_nil)
end
section
theorem wsL_law_x0 : ∀ w ∈ (vx_atS RX1 31 "java/lang/IllegalStateException" ["java/lang/RuntimeException", "java/lang/Exception"]).filter goodWord, w ∈ lw_tbl := by decide +kernel
theorem wsL_law_x1 : ∀ w ∈ (vx_atS RX1 144 "java/lang/IllegalArgumentException" ["java/lang/RuntimeException", "java/lang/Exception"]).filter goodWord, w ∈ lw_tbl := by decide +kernel
theorem wsL_law_x2 : ∀ w ∈ (vx_atS RX1 99 "java/lang/IndexOutOfBoundsException" ["java/lang/RuntimeException", "java/lang/Exception"]).filter goodWord, w ∈ lw_tbl := by decide +kernel
theorem wsL_law_in : ∀ w ∈ wsL_law, w ∈ lw_tbl := fun w h => (List.mem_append.mp h).elim (fun h => (List.mem_append.mp h).elim (fun h => (List.mem_append.mp h).elim (fun h => wsL_law_in0 w h) (fun h => wsL_law_x0 w h)) (fun h => wsL_law_x1 w h)) (fun h => wsL_law_x2 w h)
theorem inlX0 : ∀ w ∈ wsX00, w ∈ wsL_law := fun _ h => List.mem_append_left _ (List.mem_append_left _ (List.mem_append_left _ (List.mem_append_left _ (List.mem_append_right _ h))))
theorem inX0 : ∀ w ∈ wsX00, w ∈ lw_tbl := fun w h => wsL_law_in w (inlX0 w h)
theorem inlX1 : ∀ w ∈ wsX10, w ∈ wsL_law := fun _ h => List.mem_append_left _ (List.mem_append_left _ (List.mem_append_left _ (List.mem_append_left _ (List.mem_append_left _ (List.mem_append_left _ (List.mem_append_right _ h))))))
theorem inX1 : ∀ w ∈ wsX10, w ∈ lw_tbl := fun w h => wsL_law_in w (inlX1 w h)
theorem inlX2 : ∀ w ∈ wsX20, w ∈ wsL_law := fun _ h => List.mem_append_left _ (List.mem_append_left _ (List.mem_append_left _ (List.mem_append_left _ (List.mem_append_left _ (List.mem_append_right _ h)))))
theorem inX2 : ∀ w ∈ wsX20, w ∈ lw_tbl := fun w h => wsL_law_in w (inlX2 w h)
theorem inJ9 : ∀ w ∈ wsJ90, w ∈ lw_tbl := by decide +kernel
theorem inJ0 : ∀ w ∈ wsJ00, w ∈ lw_tbl := by decide +kernel
theorem dX0_init_0 : decode cX0_init 0 = .ok (.aload_n 0, 1) := by decide +kernel
theorem dX0_init_1 : decode cX0_init 1 = .ok (.invokespecial 1, 3) := by decide +kernel
theorem dX0_init_4 : decode cX0_init 4 = .ok (.aload_n 0, 1) := by decide +kernel
theorem dX0_init_5 : decode cX0_init 5 = .ok (.iload_n 1, 1) := by decide +kernel
theorem dX0_init_6 : decode cX0_init 6 = .ok (.putfield 7, 3) := by decide +kernel
theorem dX0_init_9 : decode cX0_init 9 = .ok (.aload_n 0, 1) := by decide +kernel
theorem dX0_init_10 : decode cX0_init 10 = .ok (.iconst 1, 1) := by decide +kernel
theorem dX0_init_11 : decode cX0_init 11 = .ok (.putfield 13, 3) := by decide +kernel
theorem dX0_init_14 : decode cX0_init 14 = .ok (.return_, 1) := by decide +kernel
theorem dX0_towards_0 : decode cX0_towards 0 = .ok (.iload_n 1, 1) := by decide +kernel
theorem dX0_towards_1 : decode cX0_towards 1 = .ok (.aload_n 0, 1) := by decide +kernel
theorem dX0_towards_2 : decode cX0_towards 2 = .ok (.getfield 7, 3) := by decide +kernel
theorem dX0_towards_5 : decode cX0_towards 5 = .ok (.if_icmp .ge 10, 3) := by decide +kernel
theorem dX0_towards_8 : decode cX0_towards 8 = .ok (.aload_n 0, 1) := by decide +kernel
theorem dX0_towards_9 : decode cX0_towards 9 = .ok (.getfield 16, 3) := by decide +kernel
theorem dX0_towards_12 : decode cX0_towards 12 = .ok (.goto 7, 3) := by decide +kernel
theorem dX0_towards_15 : decode cX0_towards 15 = .ok (.aload_n 0, 1) := by decide +kernel
theorem dX0_towards_16 : decode cX0_towards 16 = .ok (.getfield 20, 3) := by decide +kernel
theorem dX0_towards_19 : decode cX0_towards 19 = .ok (.areturn, 1) := by decide +kernel
theorem dX0_setTowards_0 : decode cX0_setTowards 0 = .ok (.iload_n 1, 1) := by decide +kernel
theorem dX0_setTowards_1 : decode cX0_setTowards 1 = .ok (.aload_n 0, 1) := by decide +kernel
theorem dX0_setTowards_2 : decode cX0_setTowards 2 = .ok (.getfield 7, 3) := by decide +kernel
theorem dX0_setTowards_5 : decode cX0_setTowards 5 = .ok (.if_icmp .ge 11, 3) := by decide +kernel
theorem dX0_setTowards_8 : decode cX0_setTowards 8 = .ok (.aload_n 0, 1) := by decide +kernel
theorem dX0_setTowards_9 : decode cX0_setTowards 9 = .ok (.aload_n 2, 1) := by decide +kernel
theorem dX0_setTowards_10 : decode cX0_setTowards 10 = .ok (.putfield 16, 3) := by decide +kernel
theorem dX0_setTowards_13 : decode cX0_setTowards 13 = .ok (.goto 8, 3) := by decide +kernel
theorem dX0_setTowards_16 : decode cX0_setTowards 16 = .ok (.aload_n 0, 1) := by decide +kernel
theorem dX0_setTowards_17 : decode cX0_setTowards 17 = .ok (.aload_n 2, 1) := by decide +kernel
theorem dX0_setTowards_18 : decode cX0_setTowards 18 = .ok (.putfield 20, 3) := by decide +kernel
theorem dX0_setTowards_21 : decode cX0_setTowards 21 = .ok (.aload_n 2, 1) := by decide +kernel
theorem dX0_setTowards_22 : decode cX0_setTowards 22 = .ok (.ifnull 8, 3) := by decide +kernel
theorem dX0_setTowards_25 : decode cX0_setTowards 25 = .ok (.aload_n 2, 1) := by decide +kernel
theorem dX0_setTowards_26 : decode cX0_setTowards 26 = .ok (.aload_n 0, 1) := by decide +kernel
theorem dX0_setTowards_27 : decode cX0_setTowards 27 = .ok (.putfield 23, 3) := by decide +kernel
theorem dX0_setTowards_30 : decode cX0_setTowards 30 = .ok (.return_, 1) := by decide +kernel
theorem dX0_depth_0 : decode cX0_depth 0 = .ok (.iconst 0, 1) := by decide +kernel
theorem dX0_depth_1 : decode cX0_depth 1 = .ok (.istore_n 1, 1) := by decide +kernel
theorem dX0_depth_2 : decode cX0_depth 2 = .ok (.aload_n 0, 1) := by decide +kernel
theorem dX0_depth_3 : decode cX0_depth 3 = .ok (.getfield 23, 3) := by decide +kernel
theorem dX0_depth_6 : decode cX0_depth 6 = .ok (.astore_n 2, 1) := by decide +kernel
theorem dX0_depth_7 : decode cX0_depth 7 = .ok (.aload_n 2, 1) := by decide +kernel
theorem dX0_depth_8 : decode cX0_depth 8 = .ok (.ifnull 14, 3) := by decide +kernel
theorem dX0_depth_11 : decode cX0_depth 11 = .ok (.iinc 1 1, 3) := by decide +kernel
theorem dX0_depth_14 : decode cX0_depth 14 = .ok (.aload_n 2, 1) := by decide +kernel
theorem dX0_depth_15 : decode cX0_depth 15 = .ok (.getfield 23, 3) := by decide +kernel
theorem dX0_depth_18 : decode cX0_depth 18 = .ok (.astore_n 2, 1) := by decide +kernel
theorem dX0_depth_19 : decode cX0_depth 19 = .ok (.goto (-12), 3) := by decide +kernel
theorem dX0_depth_22 : decode cX0_depth 22 = .ok (.iload_n 1, 1) := by decide +kernel
theorem dX0_depth_23 : decode cX0_depth 23 = .ok (.ireturn, 1) := by decide +kernel
set_option maxRecDepth 20000 in
theorem ggX0_hasCrookedCompany_X1_companyOf : GoodIn wsX0_hasCrookedCompany wsX1_companyOf := goodIn_r _ [5, 6, 9, 10, 11, 12, 13] (by decide +kernel) (by decide +kernel)
set_option maxRecDepth 20000 in
theorem gX0_hasCrookedCompany_X1_companyOf_n26 : GoodIn wsX0_hasCrookedCompany (wsX1_companyOf) := ggX0_hasCrookedCompany_X1_companyOf
set_option maxRecDepth 20000 in
theorem ggX0_hasCrookedCompany_X1_isCrooked : GoodIn wsX0_hasCrookedCompany wsX1_isCrooked := goodIn_r _ [8] (by decide +kernel) (by decide +kernel)
set_option maxRecDepth 20000 in
theorem gX0_hasCrookedCompany_X1_isCrooked_n32 : GoodIn wsX0_hasCrookedCompany (wsX1_isCrooked) := ggX0_hasCrookedCompany_X1_isCrooked
theorem dX0_hasCrookedCompany_0 : decode cX0_hasCrookedCompany 0 = .ok (.aload_n 0, 1) := by decide +kernel
theorem dX0_hasCrookedCompany_1 : decode cX0_hasCrookedCompany 1 = .ok (.getfield 16, 3) := by decide +kernel
theorem dX0_hasCrookedCompany_4 : decode cX0_hasCrookedCompany 4 = .ok (.invokestatic 26, 3) := by decide +kernel
theorem dX0_hasCrookedCompany_7 : decode cX0_hasCrookedCompany 7 = .ok (.aload_n 0, 1) := by decide +kernel
theorem dX0_hasCrookedCompany_8 : decode cX0_hasCrookedCompany 8 = .ok (.getfield 20, 3) := by decide +kernel
theorem dX0_hasCrookedCompany_11 : decode cX0_hasCrookedCompany 11 = .ok (.invokestatic 26, 3) := by decide +kernel
theorem dX0_hasCrookedCompany_14 : decode cX0_hasCrookedCompany 14 = .ok (.invokestatic 32, 3) := by decide +kernel
theorem dX0_hasCrookedCompany_17 : decode cX0_hasCrookedCompany 17 = .ok (.ireturn, 1) := by decide +kernel
set_option maxRecDepth 20000 in
theorem ggX0_wouldBeCrookedWith_X1_companyOf : GoodIn wsX0_wouldBeCrookedWith wsX1_companyOf := goodIn_r _ [6, 7, 10, 11, 12, 13, 14] (by decide +kernel) (by decide +kernel)
set_option maxRecDepth 20000 in
theorem gX0_wouldBeCrookedWith_X1_companyOf_n26 : GoodIn wsX0_wouldBeCrookedWith (wsX1_companyOf) := ggX0_wouldBeCrookedWith_X1_companyOf
set_option maxRecDepth 20000 in
theorem ggX0_wouldBeCrookedWith_X1_isCrooked : GoodIn wsX0_wouldBeCrookedWith wsX1_isCrooked := goodIn_r _ [9] (by decide +kernel) (by decide +kernel)
set_option maxRecDepth 20000 in
theorem gX0_wouldBeCrookedWith_X1_isCrooked_n32 : GoodIn wsX0_wouldBeCrookedWith (wsX1_isCrooked) := ggX0_wouldBeCrookedWith_X1_isCrooked
theorem dX0_wouldBeCrookedWith_0 : decode cX0_wouldBeCrookedWith 0 = .ok (.iload_n 1, 1) := by decide +kernel
theorem dX0_wouldBeCrookedWith_1 : decode cX0_wouldBeCrookedWith 1 = .ok (.aload_n 0, 1) := by decide +kernel
theorem dX0_wouldBeCrookedWith_2 : decode cX0_wouldBeCrookedWith 2 = .ok (.getfield 7, 3) := by decide +kernel
theorem dX0_wouldBeCrookedWith_5 : decode cX0_wouldBeCrookedWith 5 = .ok (.if_icmp .ge 7, 3) := by decide +kernel
theorem dX0_wouldBeCrookedWith_8 : decode cX0_wouldBeCrookedWith 8 = .ok (.iconst 1, 1) := by decide +kernel
theorem dX0_wouldBeCrookedWith_9 : decode cX0_wouldBeCrookedWith 9 = .ok (.goto 4, 3) := by decide +kernel
theorem dX0_wouldBeCrookedWith_12 : decode cX0_wouldBeCrookedWith 12 = .ok (.iconst 0, 1) := by decide +kernel
theorem dX0_wouldBeCrookedWith_13 : decode cX0_wouldBeCrookedWith 13 = .ok (.istore_n 2, 1) := by decide +kernel
theorem dX0_wouldBeCrookedWith_14 : decode cX0_wouldBeCrookedWith 14 = .ok (.aload_n 0, 1) := by decide +kernel
theorem dX0_wouldBeCrookedWith_15 : decode cX0_wouldBeCrookedWith 15 = .ok (.getfield 16, 3) := by decide +kernel
theorem dX0_wouldBeCrookedWith_18 : decode cX0_wouldBeCrookedWith 18 = .ok (.invokestatic 26, 3) := by decide +kernel
theorem dX0_wouldBeCrookedWith_21 : decode cX0_wouldBeCrookedWith 21 = .ok (.iload_n 2, 1) := by decide +kernel
theorem dX0_wouldBeCrookedWith_22 : decode cX0_wouldBeCrookedWith 22 = .ok (.iadd, 1) := by decide +kernel
theorem dX0_wouldBeCrookedWith_23 : decode cX0_wouldBeCrookedWith 23 = .ok (.aload_n 0, 1) := by decide +kernel
theorem dX0_wouldBeCrookedWith_24 : decode cX0_wouldBeCrookedWith 24 = .ok (.getfield 20, 3) := by decide +kernel
theorem dX0_wouldBeCrookedWith_27 : decode cX0_wouldBeCrookedWith 27 = .ok (.invokestatic 26, 3) := by decide +kernel
theorem dX0_wouldBeCrookedWith_30 : decode cX0_wouldBeCrookedWith 30 = .ok (.iconst 1, 1) := by decide +kernel
theorem dX0_wouldBeCrookedWith_31 : decode cX0_wouldBeCrookedWith 31 = .ok (.iadd, 1) := by decide +kernel
theorem dX0_wouldBeCrookedWith_32 : decode cX0_wouldBeCrookedWith 32 = .ok (.iload_n 2, 1) := by decide +kernel
theorem dX0_wouldBeCrookedWith_33 : decode cX0_wouldBeCrookedWith 33 = .ok (.isub, 1) := by decide +kernel
theorem dX0_wouldBeCrookedWith_34 : decode cX0_wouldBeCrookedWith 34 = .ok (.invokestatic 32, 3) := by decide +kernel
theorem dX0_wouldBeCrookedWith_37 : decode cX0_wouldBeCrookedWith 37 = .ok (.ireturn, 1) := by decide +kernel
theorem dX1_init_0 : decode cX1_init 0 = .ok (.aload_n 0, 1) := by decide +kernel
theorem dX1_init_1 : decode cX1_init 1 = .ok (.invokespecial 1, 3) := by decide +kernel
theorem dX1_init_4 : decode cX1_init 4 = .ok (.aload_n 0, 1) := by decide +kernel
theorem dX1_init_5 : decode cX1_init 5 = .ok (.sipush 150, 3) := by decide +kernel
theorem dX1_init_8 : decode cX1_init 8 = .ok (.anewarray 9, 3) := by decide +kernel
theorem dX1_init_11 : decode cX1_init 11 = .ok (.putfield 11, 3) := by decide +kernel
theorem dX1_init_14 : decode cX1_init 14 = .ok (.return_, 1) := by decide +kernel
set_option maxRecDepth 20000 in
theorem ggX1_muster_X1_refuseOddHeight : GoodIn wsX1_muster wsX1_refuseOddHeight := goodIn_ca (goodIn_r _ [11, 12, 13] (by decide +kernel) (by decide +kernel)) (goodIn_sub (fun _ h => List.mem_cons_of_mem _ (List.mem_append_right _ h)) (by decide +kernel))
set_option maxRecDepth 20000 in
theorem gX1_muster_X1_refuseOddHeight : GoodIn wsX1_muster (va_wsS RX1 15 yX1_refuseOddHeight wsX1_refuseOddHeight) := goodIn_app (goodIn_of _ (by decide +kernel)) ggX1_muster_X1_refuseOddHeight
set_option maxRecDepth 20000 in
theorem ggX1_muster_X1_find : GoodIn wsX1_muster wsX1_find := goodIn_r _ [17, 18, 19, 20, 21, 22, 6, 23, 24, 25, 26, 99, 100, 101, 102, 103, 104, 105, 106, 107, 108, 109] (by decide +kernel) (by decide +kernel)
set_option maxRecDepth 20000 in
theorem gX1_muster_X1_find : GoodIn wsX1_muster (wsV RX1 23 RX1 yX1_find wsX1_find) := goodIn_app (goodIn_of _ (by decide +kernel)) ggX1_muster_X1_find
set_option maxRecDepth 20000 in
theorem ggX1_muster_X0_init : GoodIn wsX1_muster wsX0_init := goodIn_r _ [29, 30, 31, 32, 24, 33, 105, 106, 107, 108, 109] (by decide +kernel) (by decide +kernel)
set_option maxRecDepth 20000 in
theorem gX1_muster_X0_init : GoodIn wsX1_muster (wsX0_init) := ggX1_muster_X0_init
set_option maxRecDepth 20000 in
theorem ggX1_muster_X1_insertIntoLine : GoodIn wsX1_muster wsX1_insertIntoLine := goodIn_r _ [37, 3, 38, 19, 39, 40, 10, 41, 99, 100, 101, 102, 103, 104, 105, 106, 107, 108, 109] (by decide +kernel) (by decide +kernel)
set_option maxRecDepth 20000 in
theorem gX1_muster_X1_insertIntoLine : GoodIn wsX1_muster (wsV RX1 36 RX1 yX1_insertIntoLine wsX1_insertIntoLine) := goodIn_app (goodIn_of _ (by decide +kernel)) ggX1_muster_X1_insertIntoLine
set_option maxRecDepth 20000 in
theorem ggX1_muster_X1_lastOnTheWayTo : GoodIn wsX1_muster wsX1_lastOnTheWayTo := goodIn_r _ [45, 18, 20, 21, 22, 6, 23, 24, 25, 26, 99, 100, 101, 102, 103, 104, 105, 106, 107, 108, 109] (by decide +kernel) (by decide +kernel)
set_option maxRecDepth 20000 in
theorem gX1_muster_X1_lastOnTheWayTo : GoodIn wsX1_muster (wsV RX1 40 RX1 yX1_lastOnTheWayTo wsX1_lastOnTheWayTo) := goodIn_app (goodIn_of _ (by decide +kernel)) ggX1_muster_X1_lastOnTheWayTo
set_option maxRecDepth 20000 in
theorem ggX1_muster_X1_standBelow : GoodIn wsX1_muster wsX1_standBelow := goodIn_r _ [49, 18, 50, 51, 52, 53, 6, 54, 24, 25, 26, 55, 99, 100, 101, 102, 103, 104, 105, 106, 107, 108, 109] (by decide +kernel) (by decide +kernel)
set_option maxRecDepth 20000 in
theorem gX1_muster_X1_standBelow : GoodIn wsX1_muster (wsV RX1 43 RX1 yX1_standBelow wsX1_standBelow) := goodIn_app (goodIn_of _ (by decide +kernel)) ggX1_muster_X1_standBelow
set_option maxRecDepth 20000 in
theorem ggX1_muster_X1_addToCompaniesAbove : GoodIn wsX1_muster wsX1_addToCompaniesAbove := goodIn_r _ [58, 50, 59, 105, 106, 107, 108, 109] (by decide +kernel) (by decide +kernel)
set_option maxRecDepth 20000 in
theorem gX1_muster_X1_addToCompaniesAbove : GoodIn wsX1_muster (va_wsS RX1 47 yX1_addToCompaniesAbove wsX1_addToCompaniesAbove) := goodIn_app (goodIn_of _ (by decide +kernel)) ggX1_muster_X1_addToCompaniesAbove
set_option maxRecDepth 20000 in
theorem ggX1_muster_X0_depth : GoodIn wsX1_muster wsX0_depth := goodIn_r _ [63, 55, 105, 106, 107, 108, 109] (by decide +kernel) (by decide +kernel)
set_option maxRecDepth 20000 in
theorem gX1_muster_X0_depth : GoodIn wsX1_muster (wsV RX1 54 RX0 yX0_depth wsX0_depth) := goodIn_app (goodIn_of _ (by decide +kernel)) ggX1_muster_X0_depth
set_option maxRecDepth 20000 in
theorem ggX1_muster_X1_allowedDepth : GoodIn wsX1_muster wsX1_allowedDepth := goodIn_r _ [66, 67, 68] (by decide +kernel) (by decide +kernel)
set_option maxRecDepth 20000 in
theorem gX1_muster_X1_allowedDepth : GoodIn wsX1_muster (va_wsS RX1 58 yX1_allowedDepth wsX1_allowedDepth) := goodIn_app (goodIn_of _ (by decide +kernel)) ggX1_muster_X1_allowedDepth
set_option maxRecDepth 20000 in
theorem ggX1_muster_X1_firstCrookedFrom : GoodIn wsX1_muster wsX1_firstCrookedFrom := goodIn_r _ [71, 50, 72, 73, 74, 6, 75, 25, 26, 76, 10, 77, 59, 78, 79, 105, 106, 107, 108, 109] (by decide +kernel) (by decide +kernel)
set_option maxRecDepth 20000 in
theorem gX1_muster_X1_firstCrookedFrom : GoodIn wsX1_muster (va_wsS RX1 62 yX1_firstCrookedFrom wsX1_firstCrookedFrom) := goodIn_app (goodIn_of _ (by decide +kernel)) ggX1_muster_X1_firstCrookedFrom
set_option maxRecDepth 20000 in
theorem ggX1_muster_X1_drawUp : GoodIn wsX1_muster wsX1_drawUp := goodIn_r _ [83, 50, 19, 59, 84, 38, 85, 86, 3, 7, 87, 88, 89, 10, 90, 18, 91, 76, 77, 20, 21, 22, 6, 23, 24, 25, 26, 92, 93, 94, 95, 96, 97, 98, 51, 52, 53, 54, 55, 46, 47, 48, 49, 105, 106, 107, 108, 109, 99, 100, 101, 102, 103, 104] (by decide +kernel) (by decide +kernel)
set_option maxRecDepth 20000 in
theorem gX1_muster_X1_drawUp : GoodIn wsX1_muster (wsV RX1 66 RX1 yX1_drawUp wsX1_drawUp) := goodIn_app (goodIn_of _ (by decide +kernel)) ggX1_muster_X1_drawUp
theorem dX1_muster_0 : decode cX1_muster 0 = .ok (.iload_n 1, 1) := by decide +kernel
theorem dX1_muster_1 : decode cX1_muster 1 = .ok (.invokestatic 15, 3) := by decide +kernel
theorem dX1_muster_4 : decode cX1_muster 4 = .ok (.aload_n 0, 1) := by decide +kernel
theorem dX1_muster_5 : decode cX1_muster 5 = .ok (.getfield 19, 3) := by decide +kernel
theorem dX1_muster_8 : decode cX1_muster 8 = .ok (.sipush 150, 3) := by decide +kernel
theorem dX1_muster_11 : decode cX1_muster 11 = .ok (.if_icmp .ge 11, 3) := by decide +kernel
theorem dX1_muster_14 : decode cX1_muster 14 = .ok (.aload_n 0, 1) := by decide +kernel
theorem dX1_muster_15 : decode cX1_muster 15 = .ok (.iload_n 1, 1) := by decide +kernel
theorem dX1_muster_16 : decode cX1_muster 16 = .ok (.invokevirtual 23, 3) := by decide +kernel
theorem dX1_muster_19 : decode cX1_muster 19 = .ok (.ifnull 13, 3) := by decide +kernel
theorem dX1_muster_22 : decode cX1_muster 22 = .ok (.new 27, 3) := by decide +kernel
theorem dX1_muster_25 : decode cX1_muster 25 = .ok (.dup, 1) := by decide +kernel
theorem dX1_muster_26 : decode cX1_muster 26 = .ok (.ldc 29, 2) := by decide +kernel
theorem dX1_muster_28 : decode cX1_muster 28 = .ok (.invokespecial 31, 3) := by decide +kernel
theorem dX1_muster_31 : decode cX1_muster 31 = .ok (.athrow, 1) := by decide +kernel
theorem dX1_muster_32 : decode cX1_muster 32 = .ok (.new 9, 3) := by decide +kernel
theorem dX1_muster_35 : decode cX1_muster 35 = .ok (.dup, 1) := by decide +kernel
theorem dX1_muster_36 : decode cX1_muster 36 = .ok (.iload_n 1, 1) := by decide +kernel
theorem dX1_muster_37 : decode cX1_muster 37 = .ok (.invokespecial 34, 3) := by decide +kernel
theorem dX1_muster_40 : decode cX1_muster 40 = .ok (.astore_n 2, 1) := by decide +kernel
theorem dX1_muster_41 : decode cX1_muster 41 = .ok (.aload_n 0, 1) := by decide +kernel
theorem dX1_muster_42 : decode cX1_muster 42 = .ok (.aload_n 2, 1) := by decide +kernel
theorem dX1_muster_43 : decode cX1_muster 43 = .ok (.invokevirtual 36, 3) := by decide +kernel
theorem dX1_muster_46 : decode cX1_muster 46 = .ok (.aload_n 0, 1) := by decide +kernel
theorem dX1_muster_47 : decode cX1_muster 47 = .ok (.aload_n 0, 1) := by decide +kernel
theorem dX1_muster_48 : decode cX1_muster 48 = .ok (.iload_n 1, 1) := by decide +kernel
theorem dX1_muster_49 : decode cX1_muster 49 = .ok (.invokevirtual 40, 3) := by decide +kernel
theorem dX1_muster_52 : decode cX1_muster 52 = .ok (.iload_n 1, 1) := by decide +kernel
theorem dX1_muster_53 : decode cX1_muster 53 = .ok (.aload_n 2, 1) := by decide +kernel
theorem dX1_muster_54 : decode cX1_muster 54 = .ok (.invokevirtual 43, 3) := by decide +kernel
theorem dX1_muster_57 : decode cX1_muster 57 = .ok (.aload_n 2, 1) := by decide +kernel
theorem dX1_muster_58 : decode cX1_muster 58 = .ok (.iconst 1, 1) := by decide +kernel
theorem dX1_muster_59 : decode cX1_muster 59 = .ok (.invokestatic 47, 3) := by decide +kernel
theorem dX1_muster_62 : decode cX1_muster 62 = .ok (.aload_n 0, 1) := by decide +kernel
theorem dX1_muster_63 : decode cX1_muster 63 = .ok (.getfield 19, 3) := by decide +kernel
theorem dX1_muster_66 : decode cX1_muster 66 = .ok (.aload_n 0, 1) := by decide +kernel
theorem dX1_muster_67 : decode cX1_muster 67 = .ok (.getfield 51, 3) := by decide +kernel
theorem dX1_muster_70 : decode cX1_muster 70 = .ok (.if_icmp .le 11, 3) := by decide +kernel
theorem dX1_muster_73 : decode cX1_muster 73 = .ok (.aload_n 0, 1) := by decide +kernel
theorem dX1_muster_74 : decode cX1_muster 74 = .ok (.aload_n 0, 1) := by decide +kernel
theorem dX1_muster_75 : decode cX1_muster 75 = .ok (.getfield 19, 3) := by decide +kernel
theorem dX1_muster_78 : decode cX1_muster 78 = .ok (.putfield 51, 3) := by decide +kernel
theorem dX1_muster_81 : decode cX1_muster 81 = .ok (.aload_n 2, 1) := by decide +kernel
theorem dX1_muster_82 : decode cX1_muster 82 = .ok (.invokevirtual 54, 3) := by decide +kernel
theorem dX1_muster_85 : decode cX1_muster 85 = .ok (.aload_n 0, 1) := by decide +kernel
theorem dX1_muster_86 : decode cX1_muster 86 = .ok (.getfield 19, 3) := by decide +kernel
theorem dX1_muster_89 : decode cX1_muster 89 = .ok (.invokestatic 58, 3) := by decide +kernel
theorem dX1_muster_92 : decode cX1_muster 92 = .ok (.if_icmp .le 12, 3) := by decide +kernel
theorem dX1_muster_95 : decode cX1_muster 95 = .ok (.aload_n 0, 1) := by decide +kernel
theorem dX1_muster_96 : decode cX1_muster 96 = .ok (.aload_n 2, 1) := by decide +kernel
theorem dX1_muster_97 : decode cX1_muster 97 = .ok (.invokestatic 62, 3) := by decide +kernel
theorem dX1_muster_100 : decode cX1_muster 100 = .ok (.invokevirtual 66, 3) := by decide +kernel
theorem dX1_muster_103 : decode cX1_muster 103 = .ok (.pop, 1) := by decide +kernel
theorem dX1_muster_104 : decode cX1_muster 104 = .ok (.aload_n 2, 1) := by decide +kernel
theorem dX1_muster_105 : decode cX1_muster 105 = .ok (.invokevirtual 54, 3) := by decide +kernel
theorem dX1_muster_108 : decode cX1_muster 108 = .ok (.ireturn, 1) := by decide +kernel
set_option maxRecDepth 20000 in
theorem ggX1_discharge_X1_refuseOddHeight : GoodIn wsX1_discharge wsX1_refuseOddHeight := goodIn_ca (goodIn_r _ [9, 10, 11] (by decide +kernel) (by decide +kernel)) (goodIn_sub (fun _ h => List.mem_cons_of_mem _ (List.mem_append_right _ h)) (by decide +kernel))
set_option maxRecDepth 20000 in
theorem gX1_discharge_X1_refuseOddHeight : GoodIn wsX1_discharge (va_wsS RX1 15 yX1_refuseOddHeight wsX1_refuseOddHeight) := goodIn_app (goodIn_of _ (by decide +kernel)) ggX1_discharge_X1_refuseOddHeight
set_option maxRecDepth 20000 in
theorem ggX1_discharge_X1_find : GoodIn wsX1_discharge wsX1_find := goodIn_r _ [15, 5, 16, 17, 18, 19, 20, 21, 22, 23, 24, 73, 74, 75, 76, 77, 78, 79, 80, 81, 82, 83] (by decide +kernel) (by decide +kernel)
set_option maxRecDepth 20000 in
theorem gX1_discharge_X1_find : GoodIn wsX1_discharge (wsV RX1 23 RX1 yX1_find wsX1_find) := goodIn_app (goodIn_of _ (by decide +kernel)) ggX1_discharge_X1_find
set_option maxRecDepth 20000 in
theorem ggX1_discharge_X1_removeFromLine : GoodIn wsX1_discharge wsX1_removeFromLine := goodIn_r _ [28, 16, 3, 29, 30, 31, 32, 8, 33, 5, 34, 35, 36, 37, 38, 17, 18, 19, 20, 21, 22, 23, 24, 79, 80, 81, 82, 83, 73, 74, 75, 76, 77, 78] (by decide +kernel) (by decide +kernel)
set_option maxRecDepth 20000 in
theorem gX1_discharge_X1_removeFromLine : GoodIn wsX1_discharge (wsV RX1 71 RX1 yX1_removeFromLine wsX1_removeFromLine) := goodIn_app (goodIn_of _ (by decide +kernel)) ggX1_discharge_X1_removeFromLine
set_option maxRecDepth 20000 in
theorem ggX1_discharge_X1_removeFromRanks : GoodIn wsX1_discharge wsX1_removeFromRanks := goodIn_r _ [42, 34, 43, 38, 44, 16, 45, 46, 47, 8, 48, 49, 50, 51, 52, 53, 54, 55, 5, 56, 57, 58, 20, 59, 22, 23, 24, 60, 61, 62, 63, 79, 80, 81, 82, 83, 73, 74, 75, 76, 77, 78] (by decide +kernel) (by decide +kernel)
set_option maxRecDepth 20000 in
theorem gX1_discharge_X1_removeFromRanks : GoodIn wsX1_discharge (wsV RX1 74 RX1 yX1_removeFromRanks wsX1_removeFromRanks) := goodIn_app (goodIn_of _ (by decide +kernel)) ggX1_discharge_X1_removeFromRanks
set_option maxRecDepth 20000 in
theorem ggX1_discharge_X1_drawUp : GoodIn wsX1_discharge wsX1_drawUp := goodIn_r _ [67, 44, 16, 38, 34, 29, 68, 69, 3, 4, 30, 31, 32, 8, 33, 5, 35, 36, 37, 17, 18, 19, 20, 21, 22, 23, 24, 70, 71, 72, 43, 61, 62, 63, 56, 57, 58, 59, 60, 52, 53, 54, 55, 79, 80, 81, 82, 83, 73, 74, 75, 76, 77, 78] (by decide +kernel) (by decide +kernel)
set_option maxRecDepth 20000 in
theorem gX1_discharge_X1_drawUp : GoodIn wsX1_discharge (wsV RX1 66 RX1 yX1_drawUp wsX1_drawUp) := goodIn_app (goodIn_of _ (by decide +kernel)) ggX1_discharge_X1_drawUp
theorem dX1_discharge_0 : decode cX1_discharge 0 = .ok (.iload_n 1, 1) := by decide +kernel
theorem dX1_discharge_1 : decode cX1_discharge 1 = .ok (.invokestatic 15, 3) := by decide +kernel
theorem dX1_discharge_4 : decode cX1_discharge 4 = .ok (.aload_n 0, 1) := by decide +kernel
theorem dX1_discharge_5 : decode cX1_discharge 5 = .ok (.iload_n 1, 1) := by decide +kernel
theorem dX1_discharge_6 : decode cX1_discharge 6 = .ok (.invokevirtual 23, 3) := by decide +kernel
theorem dX1_discharge_9 : decode cX1_discharge 9 = .ok (.astore_n 2, 1) := by decide +kernel
theorem dX1_discharge_10 : decode cX1_discharge 10 = .ok (.aload_n 2, 1) := by decide +kernel
theorem dX1_discharge_11 : decode cX1_discharge 11 = .ok (.ifnonnull 13, 3) := by decide +kernel
theorem dX1_discharge_14 : decode cX1_discharge 14 = .ok (.new 27, 3) := by decide +kernel
theorem dX1_discharge_17 : decode cX1_discharge 17 = .ok (.dup, 1) := by decide +kernel
theorem dX1_discharge_18 : decode cX1_discharge 18 = .ok (.ldc 69, 2) := by decide +kernel
theorem dX1_discharge_20 : decode cX1_discharge 20 = .ok (.invokespecial 31, 3) := by decide +kernel
theorem dX1_discharge_23 : decode cX1_discharge 23 = .ok (.athrow, 1) := by decide +kernel
theorem dX1_discharge_24 : decode cX1_discharge 24 = .ok (.aload_n 0, 1) := by decide +kernel
theorem dX1_discharge_25 : decode cX1_discharge 25 = .ok (.aload_n 2, 1) := by decide +kernel
theorem dX1_discharge_26 : decode cX1_discharge 26 = .ok (.invokevirtual 71, 3) := by decide +kernel
theorem dX1_discharge_29 : decode cX1_discharge 29 = .ok (.aload_n 0, 1) := by decide +kernel
theorem dX1_discharge_30 : decode cX1_discharge 30 = .ok (.aload_n 2, 1) := by decide +kernel
theorem dX1_discharge_31 : decode cX1_discharge 31 = .ok (.invokevirtual 74, 3) := by decide +kernel
theorem dX1_discharge_34 : decode cX1_discharge 34 = .ok (.aload_n 0, 1) := by decide +kernel
theorem dX1_discharge_35 : decode cX1_discharge 35 = .ok (.getfield 19, 3) := by decide +kernel
theorem dX1_discharge_38 : decode cX1_discharge 38 = .ok (.ifCond .ne 10, 3) := by decide +kernel
theorem dX1_discharge_41 : decode cX1_discharge 41 = .ok (.aload_n 0, 1) := by decide +kernel
theorem dX1_discharge_42 : decode cX1_discharge 42 = .ok (.iconst 0, 1) := by decide +kernel
theorem dX1_discharge_43 : decode cX1_discharge 43 = .ok (.putfield 51, 3) := by decide +kernel
theorem dX1_discharge_46 : decode cX1_discharge 46 = .ok (.iconst 0, 1) := by decide +kernel
theorem dX1_discharge_47 : decode cX1_discharge 47 = .ok (.ireturn, 1) := by decide +kernel
theorem dX1_discharge_48 : decode cX1_discharge 48 = .ok (.iconst 3, 1) := by decide +kernel
theorem dX1_discharge_49 : decode cX1_discharge 49 = .ok (.aload_n 0, 1) := by decide +kernel
theorem dX1_discharge_50 : decode cX1_discharge 50 = .ok (.getfield 19, 3) := by decide +kernel
theorem dX1_discharge_53 : decode cX1_discharge 53 = .ok (.imul, 1) := by decide +kernel
theorem dX1_discharge_54 : decode cX1_discharge 54 = .ok (.iconst 2, 1) := by decide +kernel
theorem dX1_discharge_55 : decode cX1_discharge 55 = .ok (.aload_n 0, 1) := by decide +kernel
theorem dX1_discharge_56 : decode cX1_discharge 56 = .ok (.getfield 51, 3) := by decide +kernel
theorem dX1_discharge_59 : decode cX1_discharge 59 = .ok (.imul, 1) := by decide +kernel
theorem dX1_discharge_60 : decode cX1_discharge 60 = .ok (.if_icmp .ge 14, 3) := by decide +kernel
theorem dX1_discharge_63 : decode cX1_discharge 63 = .ok (.aload_n 0, 1) := by decide +kernel
theorem dX1_discharge_64 : decode cX1_discharge 64 = .ok (.aload_n 0, 1) := by decide +kernel
theorem dX1_discharge_65 : decode cX1_discharge 65 = .ok (.getfield 77, 3) := by decide +kernel
theorem dX1_discharge_68 : decode cX1_discharge 68 = .ok (.invokevirtual 66, 3) := by decide +kernel
theorem dX1_discharge_71 : decode cX1_discharge 71 = .ok (.pop, 1) := by decide +kernel
theorem dX1_discharge_72 : decode cX1_discharge 72 = .ok (.iconst 1, 1) := by decide +kernel
theorem dX1_discharge_73 : decode cX1_discharge 73 = .ok (.ireturn, 1) := by decide +kernel
theorem dX1_discharge_74 : decode cX1_discharge 74 = .ok (.iconst 0, 1) := by decide +kernel
theorem dX1_discharge_75 : decode cX1_discharge 75 = .ok (.ireturn, 1) := by decide +kernel
set_option maxRecDepth 20000 in
theorem ggX1_draw_X1_refuseOddHeight : GoodIn wsX1_draw wsX1_refuseOddHeight := goodIn_ca (goodIn_r _ [6, 7, 8] (by decide +kernel) (by decide +kernel)) (goodIn_sub (fun _ h => List.mem_cons_of_mem _ (List.mem_append_right _ h)) (by decide +kernel))
set_option maxRecDepth 20000 in
theorem gX1_draw_X1_refuseOddHeight : GoodIn wsX1_draw (va_wsS RX1 15 yX1_refuseOddHeight wsX1_refuseOddHeight) := goodIn_app (goodIn_of _ (by decide +kernel)) ggX1_draw_X1_refuseOddHeight
set_option maxRecDepth 20000 in
theorem ggX1_draw_X1_find : GoodIn wsX1_draw wsX1_find := goodIn_r _ [12, 13, 14, 15, 16, 17, 18, 19, 20, 21, 22, 61, 62, 63, 64, 65, 66, 67, 68, 69, 70, 71] (by decide +kernel) (by decide +kernel)
set_option maxRecDepth 20000 in
theorem gX1_draw_X1_find : GoodIn wsX1_draw (wsV RX1 23 RX1 yX1_find wsX1_find) := goodIn_app (goodIn_of _ (by decide +kernel)) ggX1_draw_X1_find
set_option maxRecDepth 20000 in
theorem ggX1_draw_X1_drawUp : GoodIn wsX1_draw wsX1_drawUp := goodIn_r _ [26, 27, 14, 28, 29, 30, 31, 32, 33, 34, 35, 36, 37, 5, 38, 13, 39, 40, 41, 15, 16, 17, 18, 19, 20, 21, 22, 42, 43, 44, 45, 46, 47, 48, 49, 50, 51, 52, 53, 54, 55, 56, 57, 67, 68, 69, 70, 71, 61, 62, 63, 64, 65, 66] (by decide +kernel) (by decide +kernel)
set_option maxRecDepth 20000 in
theorem gX1_draw_X1_drawUp : GoodIn wsX1_draw (wsV RX1 66 RX1 yX1_drawUp wsX1_drawUp) := goodIn_app (goodIn_of _ (by decide +kernel)) ggX1_draw_X1_drawUp
set_option maxRecDepth 20000 in
theorem ggX1_draw_X1_heightOf : GoodIn wsX1_draw wsX1_heightOf := goodIn_r _ [60, 14, 67, 68, 69, 70, 71] (by decide +kernel) (by decide +kernel)
set_option maxRecDepth 20000 in
theorem gX1_draw_X1_heightOf : GoodIn wsX1_draw (va_wsS RX1 81 yX1_heightOf wsX1_heightOf) := goodIn_app (goodIn_of _ (by decide +kernel)) ggX1_draw_X1_heightOf
theorem dX1_draw_0 : decode cX1_draw 0 = .ok (.iload_n 1, 1) := by decide +kernel
theorem dX1_draw_1 : decode cX1_draw 1 = .ok (.invokestatic 15, 3) := by decide +kernel
theorem dX1_draw_4 : decode cX1_draw 4 = .ok (.aload_n 0, 1) := by decide +kernel
theorem dX1_draw_5 : decode cX1_draw 5 = .ok (.iload_n 1, 1) := by decide +kernel
theorem dX1_draw_6 : decode cX1_draw 6 = .ok (.invokevirtual 23, 3) := by decide +kernel
theorem dX1_draw_9 : decode cX1_draw 9 = .ok (.astore_n 2, 1) := by decide +kernel
theorem dX1_draw_10 : decode cX1_draw 10 = .ok (.aload_n 2, 1) := by decide +kernel
theorem dX1_draw_11 : decode cX1_draw 11 = .ok (.ifnonnull 13, 3) := by decide +kernel
theorem dX1_draw_14 : decode cX1_draw 14 = .ok (.new 27, 3) := by decide +kernel
theorem dX1_draw_17 : decode cX1_draw 17 = .ok (.dup, 1) := by decide +kernel
theorem dX1_draw_18 : decode cX1_draw 18 = .ok (.ldc 69, 2) := by decide +kernel
theorem dX1_draw_20 : decode cX1_draw 20 = .ok (.invokespecial 31, 3) := by decide +kernel
theorem dX1_draw_23 : decode cX1_draw 23 = .ok (.athrow, 1) := by decide +kernel
theorem dX1_draw_24 : decode cX1_draw 24 = .ok (.aload_n 0, 1) := by decide +kernel
theorem dX1_draw_25 : decode cX1_draw 25 = .ok (.aload_n 2, 1) := by decide +kernel
theorem dX1_draw_26 : decode cX1_draw 26 = .ok (.invokevirtual 66, 3) := by decide +kernel
theorem dX1_draw_29 : decode cX1_draw 29 = .ok (.invokestatic 81, 3) := by decide +kernel
theorem dX1_draw_32 : decode cX1_draw 32 = .ok (.ireturn, 1) := by decide +kernel
set_option maxRecDepth 20000 in
theorem ggX1_isThere_X1_refuseOddHeight : GoodIn wsX1_isThere wsX1_refuseOddHeight := goodIn_ca (goodIn_r _ [4, 5, 6] (by decide +kernel) (by decide +kernel)) (goodIn_sub (fun _ h => List.mem_cons_of_mem _ (List.mem_append_right _ h)) (by decide +kernel))
set_option maxRecDepth 20000 in
theorem gX1_isThere_X1_refuseOddHeight : GoodIn wsX1_isThere (va_wsS RX1 15 yX1_refuseOddHeight wsX1_refuseOddHeight) := goodIn_app (goodIn_of _ (by decide +kernel)) ggX1_isThere_X1_refuseOddHeight
set_option maxRecDepth 20000 in
theorem ggX1_isThere_X1_find : GoodIn wsX1_isThere wsX1_find := goodIn_r _ [10, 11, 12, 13, 14, 15, 16, 17, 18, 19, 20, 21, 22, 23, 24, 25, 26, 27, 28, 29, 30, 31] (by decide +kernel) (by decide +kernel)
set_option maxRecDepth 20000 in
theorem gX1_isThere_X1_find : GoodIn wsX1_isThere (wsV RX1 23 RX1 yX1_find wsX1_find) := goodIn_app (goodIn_of _ (by decide +kernel)) ggX1_isThere_X1_find
theorem dX1_isThere_0 : decode cX1_isThere 0 = .ok (.iload_n 1, 1) := by decide +kernel
theorem dX1_isThere_1 : decode cX1_isThere 1 = .ok (.invokestatic 15, 3) := by decide +kernel
theorem dX1_isThere_4 : decode cX1_isThere 4 = .ok (.aload_n 0, 1) := by decide +kernel
theorem dX1_isThere_5 : decode cX1_isThere 5 = .ok (.iload_n 1, 1) := by decide +kernel
theorem dX1_isThere_6 : decode cX1_isThere 6 = .ok (.invokevirtual 23, 3) := by decide +kernel
theorem dX1_isThere_9 : decode cX1_isThere 9 = .ok (.ifnull 7, 3) := by decide +kernel
theorem dX1_isThere_12 : decode cX1_isThere 12 = .ok (.iconst 1, 1) := by decide +kernel
theorem dX1_isThere_13 : decode cX1_isThere 13 = .ok (.goto 4, 3) := by decide +kernel
theorem dX1_isThere_16 : decode cX1_isThere 16 = .ok (.iconst 0, 1) := by decide +kernel
theorem dX1_isThere_17 : decode cX1_isThere 17 = .ok (.ireturn, 1) := by decide +kernel
set_option maxRecDepth 20000 in
theorem ggX1_told_X1_refuseOddHeight : GoodIn wsX1_told wsX1_refuseOddHeight := goodIn_ca (goodIn_r _ [6, 7, 8] (by decide +kernel) (by decide +kernel)) (goodIn_sub (fun _ h => List.mem_cons_of_mem _ (List.mem_append_left _ (List.mem_append_right _ h))) (by decide +kernel))
set_option maxRecDepth 20000 in
theorem gX1_told_X1_refuseOddHeight : GoodIn wsX1_told (va_wsS RX1 15 yX1_refuseOddHeight wsX1_refuseOddHeight) := goodIn_app (goodIn_of _ (by decide +kernel)) ggX1_told_X1_refuseOddHeight
set_option maxRecDepth 20000 in
theorem ggX1_told_X1_refuseOddQuestion : GoodIn wsX1_told wsX1_refuseOddQuestion := goodIn_ca (goodIn_r _ [11, 12, 13] (by decide +kernel) (by decide +kernel)) (goodIn_sub (fun _ h => List.mem_cons_of_mem _ (List.mem_append_right _ h)) (by decide +kernel))
set_option maxRecDepth 20000 in
theorem gX1_told_X1_refuseOddQuestion : GoodIn wsX1_told (va_wsS RX1 85 yX1_refuseOddQuestion wsX1_refuseOddQuestion) := goodIn_app (goodIn_of _ (by decide +kernel)) ggX1_told_X1_refuseOddQuestion
set_option maxRecDepth 20000 in
theorem ggX1_told_X1_find : GoodIn wsX1_told wsX1_find := goodIn_r _ [17, 18, 19, 20, 21, 22, 23, 24, 25, 26, 27, 74, 75, 76, 77, 78, 79, 80, 81, 82, 83, 84] (by decide +kernel) (by decide +kernel)
set_option maxRecDepth 20000 in
theorem gX1_told_X1_find : GoodIn wsX1_told (wsV RX1 23 RX1 yX1_find wsX1_find) := goodIn_app (goodIn_of _ (by decide +kernel)) ggX1_told_X1_find
set_option maxRecDepth 20000 in
theorem ggX1_told_X1_tell : GoodIn wsX1_told wsX1_tell := goodIn_r _ [31, 32, 33, 34, 35, 19, 36, 37, 38, 23, 39, 40, 41, 42, 5, 43, 44, 45, 46, 47, 48, 49, 50, 51, 52, 53, 54, 55, 18, 56, 57, 58, 20, 21, 22, 24, 25, 26, 27, 59, 60, 61, 62, 63, 64, 65, 66, 67, 68, 69, 70, 71, 72, 73, 80, 81, 82, 83, 84, 74, 75, 76, 77, 78, 79] (by decide +kernel) (by decide +kernel)
set_option maxRecDepth 20000 in
theorem gX1_told_X1_tell : GoodIn wsX1_told (wsV RX1 88 RX1 yX1_tell wsX1_tell) := goodIn_app (goodIn_of _ (by decide +kernel)) ggX1_told_X1_tell
theorem dX1_told_0 : decode cX1_told 0 = .ok (.iload_n 1, 1) := by decide +kernel
theorem dX1_told_1 : decode cX1_told 1 = .ok (.invokestatic 15, 3) := by decide +kernel
theorem dX1_told_4 : decode cX1_told 4 = .ok (.iload_n 2, 1) := by decide +kernel
theorem dX1_told_5 : decode cX1_told 5 = .ok (.invokestatic 85, 3) := by decide +kernel
theorem dX1_told_8 : decode cX1_told 8 = .ok (.aload_n 0, 1) := by decide +kernel
theorem dX1_told_9 : decode cX1_told 9 = .ok (.iload_n 1, 1) := by decide +kernel
theorem dX1_told_10 : decode cX1_told 10 = .ok (.invokevirtual 23, 3) := by decide +kernel
theorem dX1_told_13 : decode cX1_told 13 = .ok (.astore_n 3, 1) := by decide +kernel
theorem dX1_told_14 : decode cX1_told 14 = .ok (.aload_n 3, 1) := by decide +kernel
theorem dX1_told_15 : decode cX1_told 15 = .ok (.ifnonnull 13, 3) := by decide +kernel
theorem dX1_told_18 : decode cX1_told 18 = .ok (.new 27, 3) := by decide +kernel
theorem dX1_told_21 : decode cX1_told 21 = .ok (.dup, 1) := by decide +kernel
theorem dX1_told_22 : decode cX1_told 22 = .ok (.ldc 69, 2) := by decide +kernel
theorem dX1_told_24 : decode cX1_told 24 = .ok (.invokespecial 31, 3) := by decide +kernel
theorem dX1_told_27 : decode cX1_told 27 = .ok (.athrow, 1) := by decide +kernel
theorem dX1_told_28 : decode cX1_told 28 = .ok (.aload_n 0, 1) := by decide +kernel
theorem dX1_told_29 : decode cX1_told 29 = .ok (.aload_n 3, 1) := by decide +kernel
theorem dX1_told_30 : decode cX1_told 30 = .ok (.iload_n 2, 1) := by decide +kernel
theorem dX1_told_31 : decode cX1_told 31 = .ok (.invokevirtual 88, 3) := by decide +kernel
theorem dX1_told_34 : decode cX1_told 34 = .ok (.ireturn, 1) := by decide +kernel
set_option maxRecDepth 20000 in
theorem ggX1_at_X1_inLine : GoodIn wsX1_at wsX1_inLine := goodIn_r _ [8, 9, 10, 16, 17, 18, 19, 20, 21] (by decide +kernel) (by decide +kernel)
set_option maxRecDepth 20000 in
theorem gX1_at_X1_inLine : GoodIn wsX1_at (wsV RX1 92 RX1 yX1_inLine wsX1_inLine) := goodIn_app (goodIn_of _ (by decide +kernel)) ggX1_at_X1_inLine
theorem dX1_at_0 : decode cX1_at 0 = .ok (.aload_n 0, 1) := by decide +kernel
theorem dX1_at_1 : decode cX1_at 1 = .ok (.iload_n 1, 1) := by decide +kernel
theorem dX1_at_2 : decode cX1_at 2 = .ok (.invokevirtual 92, 3) := by decide +kernel
theorem dX1_at_5 : decode cX1_at 5 = .ok (.astore_n 2, 1) := by decide +kernel
theorem dX1_at_6 : decode cX1_at 6 = .ok (.aload_n 2, 1) := by decide +kernel
theorem dX1_at_7 : decode cX1_at 7 = .ok (.ifnonnull 13, 3) := by decide +kernel
theorem dX1_at_10 : decode cX1_at 10 = .ok (.new 95, 3) := by decide +kernel
theorem dX1_at_13 : decode cX1_at 13 = .ok (.dup, 1) := by decide +kernel
theorem dX1_at_14 : decode cX1_at 14 = .ok (.ldc 97, 2) := by decide +kernel
theorem dX1_at_16 : decode cX1_at 16 = .ok (.invokespecial 99, 3) := by decide +kernel
theorem dX1_at_19 : decode cX1_at 19 = .ok (.athrow, 1) := by decide +kernel
theorem dX1_at_20 : decode cX1_at 20 = .ok (.aload_n 2, 1) := by decide +kernel
theorem dX1_at_21 : decode cX1_at 21 = .ok (.getfield 100, 3) := by decide +kernel
theorem dX1_at_24 : decode cX1_at 24 = .ok (.ireturn, 1) := by decide +kernel
set_option maxRecDepth 20000 in
theorem ggX1_between_X1_refuseOddHeight : GoodIn wsX1_between wsX1_refuseOddHeight := goodIn_ca (goodIn_r _ [4, 5, 6] (by decide +kernel) (by decide +kernel)) (goodIn_sub (fun _ h => List.mem_cons_of_mem _ (List.mem_append_right _ h)) (by decide +kernel))
set_option maxRecDepth 20000 in
theorem gX1_between_X1_refuseOddHeight : GoodIn wsX1_between (va_wsS RX1 15 yX1_refuseOddHeight wsX1_refuseOddHeight) := goodIn_app (goodIn_of _ (by decide +kernel)) ggX1_between_X1_refuseOddHeight
set_option maxRecDepth 20000 in
theorem ggX1_between_X1_smallerThan : GoodIn wsX1_between wsX1_smallerThan := goodIn_r _ [10, 11, 12, 13, 14, 15, 3, 16, 17, 18, 19, 20, 21, 22, 23, 24, 25, 26, 27, 28, 29, 30, 31, 32, 33, 34, 35, 36] (by decide +kernel) (by decide +kernel)
set_option maxRecDepth 20000 in
theorem gX1_between_X1_smallerThan : GoodIn wsX1_between (wsV RX1 103 RX1 yX1_smallerThan wsX1_smallerThan) := goodIn_app (goodIn_of _ (by decide +kernel)) ggX1_between_X1_smallerThan
theorem dX1_between_0 : decode cX1_between 0 = .ok (.iload_n 1, 1) := by decide +kernel
theorem dX1_between_1 : decode cX1_between 1 = .ok (.invokestatic 15, 3) := by decide +kernel
theorem dX1_between_4 : decode cX1_between 4 = .ok (.iload_n 2, 1) := by decide +kernel
theorem dX1_between_5 : decode cX1_between 5 = .ok (.invokestatic 15, 3) := by decide +kernel
theorem dX1_between_8 : decode cX1_between 8 = .ok (.iload_n 1, 1) := by decide +kernel
theorem dX1_between_9 : decode cX1_between 9 = .ok (.iload_n 2, 1) := by decide +kernel
theorem dX1_between_10 : decode cX1_between 10 = .ok (.if_icmp .le 5, 3) := by decide +kernel
theorem dX1_between_13 : decode cX1_between 13 = .ok (.iconst 0, 1) := by decide +kernel
theorem dX1_between_14 : decode cX1_between 14 = .ok (.ireturn, 1) := by decide +kernel
theorem dX1_between_15 : decode cX1_between 15 = .ok (.aload_n 0, 1) := by decide +kernel
theorem dX1_between_16 : decode cX1_between 16 = .ok (.iload_n 2, 1) := by decide +kernel
theorem dX1_between_17 : decode cX1_between 17 = .ok (.iconst 1, 1) := by decide +kernel
theorem dX1_between_18 : decode cX1_between 18 = .ok (.iadd, 1) := by decide +kernel
theorem dX1_between_19 : decode cX1_between 19 = .ok (.invokevirtual 103, 3) := by decide +kernel
theorem dX1_between_22 : decode cX1_between 22 = .ok (.aload_n 0, 1) := by decide +kernel
theorem dX1_between_23 : decode cX1_between 23 = .ok (.iload_n 1, 1) := by decide +kernel
theorem dX1_between_24 : decode cX1_between 24 = .ok (.invokevirtual 103, 3) := by decide +kernel
theorem dX1_between_27 : decode cX1_between 27 = .ok (.isub, 1) := by decide +kernel
theorem dX1_between_28 : decode cX1_between 28 = .ok (.ireturn, 1) := by decide +kernel
set_option maxRecDepth 20000 in
theorem ggX1_captain_X1_refuseOddHeight : GoodIn wsX1_captain wsX1_refuseOddHeight := goodIn_ca (goodIn_r _ [15, 16, 17] (by decide +kernel) (by decide +kernel)) (goodIn_sub (fun _ h => List.mem_cons_of_mem _ (List.mem_append_right _ h)) (by decide +kernel))
set_option maxRecDepth 20000 in
theorem gX1_captain_X1_refuseOddHeight : GoodIn wsX1_captain (va_wsS RX1 15 yX1_refuseOddHeight wsX1_refuseOddHeight) := goodIn_app (goodIn_of _ (by decide +kernel)) ggX1_captain_X1_refuseOddHeight
set_option maxRecDepth 20000 in
theorem ggX1_captain_X1_find : GoodIn wsX1_captain wsX1_find := goodIn_r _ [21, 10, 11, 22, 23, 24, 25, 26, 27, 28, 29, 33, 34, 35, 36, 37, 38, 39, 40, 41, 42, 43] (by decide +kernel) (by decide +kernel)
set_option maxRecDepth 20000 in
theorem gX1_captain_X1_find : GoodIn wsX1_captain (wsV RX1 23 RX1 yX1_find wsX1_find) := goodIn_app (goodIn_of _ (by decide +kernel)) ggX1_captain_X1_find
set_option maxRecDepth 20000 in
theorem ggX1_captain_X0_towards : GoodIn wsX1_captain wsX0_towards := goodIn_r _ [26, 27, 28, 29, 39, 40, 41, 42, 43] (by decide +kernel) (by decide +kernel)
set_option maxRecDepth 20000 in
theorem gX1_captain_X0_towards : GoodIn wsX1_captain (wsV RX1 117 RX0 yX0_towards wsX0_towards) := goodIn_app (goodIn_of _ (by decide +kernel)) ggX1_captain_X0_towards
set_option maxRecDepth 20000 in
theorem ggX1_captain_X1_heightOf : GoodIn wsX1_captain wsX1_heightOf := goodIn_r _ [32, 11, 39, 40, 41, 42, 43] (by decide +kernel) (by decide +kernel)
set_option maxRecDepth 20000 in
theorem gX1_captain_X1_heightOf : GoodIn wsX1_captain (va_wsS RX1 81 yX1_heightOf wsX1_heightOf) := goodIn_app (goodIn_of _ (by decide +kernel)) ggX1_captain_X1_heightOf
theorem dX1_captain_0 : decode cX1_captain 0 = .ok (.iload_n 1, 1) := by decide +kernel
theorem dX1_captain_1 : decode cX1_captain 1 = .ok (.invokestatic 15, 3) := by decide +kernel
theorem dX1_captain_4 : decode cX1_captain 4 = .ok (.iload_n 2, 1) := by decide +kernel
theorem dX1_captain_5 : decode cX1_captain 5 = .ok (.invokestatic 15, 3) := by decide +kernel
theorem dX1_captain_8 : decode cX1_captain 8 = .ok (.aload_n 0, 1) := by decide +kernel
theorem dX1_captain_9 : decode cX1_captain 9 = .ok (.iload_n 1, 1) := by decide +kernel
theorem dX1_captain_10 : decode cX1_captain 10 = .ok (.invokevirtual 23, 3) := by decide +kernel
theorem dX1_captain_13 : decode cX1_captain 13 = .ok (.ifnull 11, 3) := by decide +kernel
theorem dX1_captain_16 : decode cX1_captain 16 = .ok (.aload_n 0, 1) := by decide +kernel
theorem dX1_captain_17 : decode cX1_captain 17 = .ok (.iload_n 2, 1) := by decide +kernel
theorem dX1_captain_18 : decode cX1_captain 18 = .ok (.invokevirtual 23, 3) := by decide +kernel
theorem dX1_captain_21 : decode cX1_captain 21 = .ok (.ifnonnull 13, 3) := by decide +kernel
theorem dX1_captain_24 : decode cX1_captain 24 = .ok (.new 27, 3) := by decide +kernel
theorem dX1_captain_27 : decode cX1_captain 27 = .ok (.dup, 1) := by decide +kernel
theorem dX1_captain_28 : decode cX1_captain 28 = .ok (.ldc 106, 2) := by decide +kernel
theorem dX1_captain_30 : decode cX1_captain 30 = .ok (.invokespecial 31, 3) := by decide +kernel
theorem dX1_captain_33 : decode cX1_captain 33 = .ok (.athrow, 1) := by decide +kernel
theorem dX1_captain_34 : decode cX1_captain 34 = .ok (.iload_n 1, 1) := by decide +kernel
theorem dX1_captain_35 : decode cX1_captain 35 = .ok (.iload_n 2, 1) := by decide +kernel
theorem dX1_captain_36 : decode cX1_captain 36 = .ok (.invokestatic 108, 3) := by decide +kernel
theorem dX1_captain_39 : decode cX1_captain 39 = .ok (.istore_n 3, 1) := by decide +kernel
theorem dX1_captain_40 : decode cX1_captain 40 = .ok (.iload_n 1, 1) := by decide +kernel
theorem dX1_captain_41 : decode cX1_captain 41 = .ok (.iload_n 2, 1) := by decide +kernel
theorem dX1_captain_42 : decode cX1_captain 42 = .ok (.invokestatic 114, 3) := by decide +kernel
theorem dX1_captain_45 : decode cX1_captain 45 = .ok (.istore 4, 2) := by decide +kernel
theorem dX1_captain_47 : decode cX1_captain 47 = .ok (.aload_n 0, 1) := by decide +kernel
theorem dX1_captain_48 : decode cX1_captain 48 = .ok (.getfield 77, 3) := by decide +kernel
theorem dX1_captain_51 : decode cX1_captain 51 = .ok (.astore 5, 2) := by decide +kernel
theorem dX1_captain_53 : decode cX1_captain 53 = .ok (.aload 5, 2) := by decide +kernel
theorem dX1_captain_55 : decode cX1_captain 55 = .ok (.ifnull 33, 3) := by decide +kernel
theorem dX1_captain_58 : decode cX1_captain 58 = .ok (.iload 4, 2) := by decide +kernel
theorem dX1_captain_60 : decode cX1_captain 60 = .ok (.aload 5, 2) := by decide +kernel
theorem dX1_captain_62 : decode cX1_captain 62 = .ok (.getfield 100, 3) := by decide +kernel
theorem dX1_captain_65 : decode cX1_captain 65 = .ok (.if_icmp .lt 12, 3) := by decide +kernel
theorem dX1_captain_68 : decode cX1_captain 68 = .ok (.iload_n 3, 1) := by decide +kernel
theorem dX1_captain_69 : decode cX1_captain 69 = .ok (.aload 5, 2) := by decide +kernel
theorem dX1_captain_71 : decode cX1_captain 71 = .ok (.getfield 100, 3) := by decide +kernel
theorem dX1_captain_74 : decode cX1_captain 74 = .ok (.if_icmp .le 14, 3) := by decide +kernel
theorem dX1_captain_77 : decode cX1_captain 77 = .ok (.aload 5, 2) := by decide +kernel
theorem dX1_captain_79 : decode cX1_captain 79 = .ok (.iload_n 3, 1) := by decide +kernel
theorem dX1_captain_80 : decode cX1_captain 80 = .ok (.invokevirtual 117, 3) := by decide +kernel
theorem dX1_captain_83 : decode cX1_captain 83 = .ok (.astore 5, 2) := by decide +kernel
theorem dX1_captain_85 : decode cX1_captain 85 = .ok (.goto (-32), 3) := by decide +kernel
theorem dX1_captain_88 : decode cX1_captain 88 = .ok (.aload 5, 2) := by decide +kernel
theorem dX1_captain_90 : decode cX1_captain 90 = .ok (.invokestatic 81, 3) := by decide +kernel
theorem dX1_captain_93 : decode cX1_captain 93 = .ok (.ireturn, 1) := by decide +kernel
set_option maxRecDepth 20000 in
theorem ggX1_taller_X1_refuseOddHeight : GoodIn wsX1_taller wsX1_refuseOddHeight := goodIn_ca (goodIn_r _ [4, 5, 6] (by decide +kernel) (by decide +kernel)) (goodIn_sub (fun _ h => List.mem_cons_of_mem _ (List.mem_append_right _ h)) (by decide +kernel))
set_option maxRecDepth 20000 in
theorem gX1_taller_X1_refuseOddHeight : GoodIn wsX1_taller (va_wsS RX1 15 yX1_refuseOddHeight wsX1_refuseOddHeight) := goodIn_app (goodIn_of _ (by decide +kernel)) ggX1_taller_X1_refuseOddHeight
set_option maxRecDepth 20000 in
theorem ggX1_taller_X1_smallerThan : GoodIn wsX1_taller wsX1_smallerThan := goodIn_r _ [10, 11, 12, 13, 14, 15, 3, 16, 17, 18, 19, 20, 21, 22, 23, 24, 25, 35, 36, 37, 38, 39, 40, 41, 42, 43, 44, 45] (by decide +kernel) (by decide +kernel)
set_option maxRecDepth 20000 in
theorem gX1_taller_X1_smallerThan : GoodIn wsX1_taller (wsV RX1 103 RX1 yX1_smallerThan wsX1_smallerThan) := goodIn_app (goodIn_of _ (by decide +kernel)) ggX1_taller_X1_smallerThan
set_option maxRecDepth 20000 in
theorem ggX1_taller_X1_inLine : GoodIn wsX1_taller wsX1_inLine := goodIn_r _ [29, 30, 31, 35, 36, 37, 38, 39, 40] (by decide +kernel) (by decide +kernel)
set_option maxRecDepth 20000 in
theorem gX1_taller_X1_inLine : GoodIn wsX1_taller (wsV RX1 92 RX1 yX1_inLine wsX1_inLine) := goodIn_app (goodIn_of _ (by decide +kernel)) ggX1_taller_X1_inLine
set_option maxRecDepth 20000 in
theorem ggX1_taller_X1_heightOf : GoodIn wsX1_taller wsX1_heightOf := goodIn_r _ [34, 12, 41, 42, 43, 44, 45] (by decide +kernel) (by decide +kernel)
set_option maxRecDepth 20000 in
theorem gX1_taller_X1_heightOf : GoodIn wsX1_taller (va_wsS RX1 81 yX1_heightOf wsX1_heightOf) := goodIn_app (goodIn_of _ (by decide +kernel)) ggX1_taller_X1_heightOf
theorem dX1_taller_0 : decode cX1_taller 0 = .ok (.iload_n 1, 1) := by decide +kernel
theorem dX1_taller_1 : decode cX1_taller 1 = .ok (.invokestatic 15, 3) := by decide +kernel
theorem dX1_taller_4 : decode cX1_taller 4 = .ok (.aload_n 0, 1) := by decide +kernel
theorem dX1_taller_5 : decode cX1_taller 5 = .ok (.aload_n 0, 1) := by decide +kernel
theorem dX1_taller_6 : decode cX1_taller 6 = .ok (.iload_n 1, 1) := by decide +kernel
theorem dX1_taller_7 : decode cX1_taller 7 = .ok (.iconst 1, 1) := by decide +kernel
theorem dX1_taller_8 : decode cX1_taller 8 = .ok (.iadd, 1) := by decide +kernel
theorem dX1_taller_9 : decode cX1_taller 9 = .ok (.invokevirtual 103, 3) := by decide +kernel
theorem dX1_taller_12 : decode cX1_taller 12 = .ok (.invokevirtual 92, 3) := by decide +kernel
theorem dX1_taller_15 : decode cX1_taller 15 = .ok (.invokestatic 81, 3) := by decide +kernel
theorem dX1_taller_18 : decode cX1_taller 18 = .ok (.ireturn, 1) := by decide +kernel
set_option maxRecDepth 20000 in
theorem ggX1_count_X1_refuseOddQuestion : GoodIn wsX1_count wsX1_refuseOddQuestion := goodIn_ca (goodIn_r _ [4, 5, 6] (by decide +kernel) (by decide +kernel)) (goodIn_sub (fun _ h => List.mem_cons_of_mem _ (List.mem_append_right _ h)) (by decide +kernel))
set_option maxRecDepth 20000 in
theorem gX1_count_X1_refuseOddQuestion : GoodIn wsX1_count (va_wsS RX1 85 yX1_refuseOddQuestion wsX1_refuseOddQuestion) := goodIn_app (goodIn_of _ (by decide +kernel)) ggX1_count_X1_refuseOddQuestion
set_option maxRecDepth 20000 in
theorem ggX1_count_X1_tally : GoodIn wsX1_count wsX1_tally := goodIn_r _ [10, 11, 12, 13, 14, 15, 16, 17, 3, 18, 19, 20, 21, 22, 23, 24, 25, 26, 27, 28, 29, 30, 31, 32, 33, 34, 35, 36, 37, 38, 39, 40, 41, 42, 43, 44, 45, 46, 47, 48, 49, 50, 51, 52, 53, 54, 55, 56, 57, 58, 59, 60, 61, 62, 63, 64, 65, 66, 67, 68, 69, 70, 71, 72, 73, 74, 75, 76, 77, 78, 79] (by decide +kernel) (by decide +kernel)
set_option maxRecDepth 20000 in
theorem gX1_count_X1_tally : GoodIn wsX1_count (wsV RX1 120 RX1 yX1_tally wsX1_tally) := goodIn_app (goodIn_of _ (by decide +kernel)) ggX1_count_X1_tally
theorem dX1_count_0 : decode cX1_count 0 = .ok (.iload_n 1, 1) := by decide +kernel
theorem dX1_count_1 : decode cX1_count 1 = .ok (.invokestatic 85, 3) := by decide +kernel
theorem dX1_count_4 : decode cX1_count 4 = .ok (.aload_n 0, 1) := by decide +kernel
theorem dX1_count_5 : decode cX1_count 5 = .ok (.iload_n 1, 1) := by decide +kernel
theorem dX1_count_6 : decode cX1_count 6 = .ok (.invokevirtual 120, 3) := by decide +kernel
theorem dX1_count_9 : decode cX1_count 9 = .ok (.ireturn, 1) := by decide +kernel
set_option maxRecDepth 20000 in
theorem ggX1_would_X1_refuseOddHeight : GoodIn wsX1_would wsX1_refuseOddHeight := goodIn_ca (goodIn_r _ [4, 5, 6] (by decide +kernel) (by decide +kernel)) (goodIn_sub (fun _ h => List.mem_cons_of_mem _ (List.mem_append_right _ h)) (by decide +kernel))
set_option maxRecDepth 20000 in
theorem gX1_would_X1_refuseOddHeight : GoodIn wsX1_would (va_wsS RX1 15 yX1_refuseOddHeight wsX1_refuseOddHeight) := goodIn_app (goodIn_of _ (by decide +kernel)) ggX1_would_X1_refuseOddHeight
set_option maxRecDepth 20000 in
theorem ggX1_would_X1_find : GoodIn wsX1_would wsX1_find := goodIn_r _ [10, 11, 12, 13, 14, 15, 16, 17, 18, 19, 20, 36, 37, 38, 39, 40, 41, 42, 43, 44, 45, 46] (by decide +kernel) (by decide +kernel)
set_option maxRecDepth 20000 in
theorem gX1_would_X1_find : GoodIn wsX1_would (wsV RX1 23 RX1 yX1_find wsX1_find) := goodIn_app (goodIn_of _ (by decide +kernel)) ggX1_would_X1_find
set_option maxRecDepth 20000 in
theorem ggX1_would_X1_lastOnTheWayTo : GoodIn wsX1_would wsX1_lastOnTheWayTo := goodIn_r _ [24, 11, 13, 14, 15, 16, 17, 18, 19, 20, 36, 37, 38, 39, 40, 41, 42, 43, 44, 45, 46] (by decide +kernel) (by decide +kernel)
set_option maxRecDepth 20000 in
theorem gX1_would_X1_lastOnTheWayTo : GoodIn wsX1_would (wsV RX1 40 RX1 yX1_lastOnTheWayTo wsX1_lastOnTheWayTo) := goodIn_app (goodIn_of _ (by decide +kernel)) ggX1_would_X1_lastOnTheWayTo
set_option maxRecDepth 20000 in
theorem ggX1_would_X1_newDepth : GoodIn wsX1_would wsX1_newDepth := goodIn_r _ [27, 28, 29, 3, 30, 31, 32, 33, 16, 34, 35, 42, 43, 44, 45, 46] (by decide +kernel) (by decide +kernel)
set_option maxRecDepth 20000 in
theorem gX1_would_X1_newDepth : GoodIn wsX1_would (va_wsS RX1 123 yX1_newDepth wsX1_newDepth) := goodIn_app (goodIn_of _ (by decide +kernel)) ggX1_would_X1_newDepth
theorem dX1_would_0 : decode cX1_would 0 = .ok (.iload_n 1, 1) := by decide +kernel
theorem dX1_would_1 : decode cX1_would 1 = .ok (.invokestatic 15, 3) := by decide +kernel
theorem dX1_would_4 : decode cX1_would 4 = .ok (.aload_n 0, 1) := by decide +kernel
theorem dX1_would_5 : decode cX1_would 5 = .ok (.iload_n 1, 1) := by decide +kernel
theorem dX1_would_6 : decode cX1_would 6 = .ok (.invokevirtual 23, 3) := by decide +kernel
theorem dX1_would_9 : decode cX1_would 9 = .ok (.ifnull 7, 3) := by decide +kernel
theorem dX1_would_12 : decode cX1_would 12 = .ok (.iconst (-1), 1) := by decide +kernel
theorem dX1_would_13 : decode cX1_would 13 = .ok (.goto 11, 3) := by decide +kernel
theorem dX1_would_16 : decode cX1_would 16 = .ok (.aload_n 0, 1) := by decide +kernel
theorem dX1_would_17 : decode cX1_would 17 = .ok (.iload_n 1, 1) := by decide +kernel
theorem dX1_would_18 : decode cX1_would 18 = .ok (.invokevirtual 40, 3) := by decide +kernel
theorem dX1_would_21 : decode cX1_would 21 = .ok (.invokestatic 123, 3) := by decide +kernel
theorem dX1_would_24 : decode cX1_would 24 = .ok (.ireturn, 1) := by decide +kernel
set_option maxRecDepth 20000 in
theorem ggX1_moves_X1_refuseOddHeight : GoodIn wsX1_moves wsX1_refuseOddHeight := goodIn_ca (goodIn_r _ [7, 8, 9] (by decide +kernel) (by decide +kernel)) (goodIn_sub (fun _ h => List.mem_cons_of_mem _ (List.mem_append_right _ h)) (by decide +kernel))
set_option maxRecDepth 20000 in
theorem gX1_moves_X1_refuseOddHeight : GoodIn wsX1_moves (va_wsS RX1 15 yX1_refuseOddHeight wsX1_refuseOddHeight) := goodIn_app (goodIn_of _ (by decide +kernel)) ggX1_moves_X1_refuseOddHeight
set_option maxRecDepth 20000 in
theorem ggX1_moves_X1_find : GoodIn wsX1_moves wsX1_find := goodIn_r _ [13, 14, 2, 15, 16, 17, 18, 19, 20, 21, 22, 52, 53, 54, 55, 56, 57, 58, 59, 60, 61, 62] (by decide +kernel) (by decide +kernel)
set_option maxRecDepth 20000 in
theorem gX1_moves_X1_find : GoodIn wsX1_moves (wsV RX1 23 RX1 yX1_find wsX1_find) := goodIn_app (goodIn_of _ (by decide +kernel)) ggX1_moves_X1_find
set_option maxRecDepth 20000 in
theorem ggX1_moves_X1_lastOnTheWayTo : GoodIn wsX1_moves wsX1_lastOnTheWayTo := goodIn_r _ [26, 14, 15, 16, 17, 18, 19, 20, 21, 22, 52, 53, 54, 55, 56, 57, 58, 59, 60, 61, 62] (by decide +kernel) (by decide +kernel)
set_option maxRecDepth 20000 in
theorem gX1_moves_X1_lastOnTheWayTo : GoodIn wsX1_moves (wsV RX1 40 RX1 yX1_lastOnTheWayTo wsX1_lastOnTheWayTo) := goodIn_app (goodIn_of _ (by decide +kernel)) ggX1_moves_X1_lastOnTheWayTo
set_option maxRecDepth 20000 in
theorem ggX1_moves_X1_newDepth : GoodIn wsX1_moves wsX1_newDepth := goodIn_r _ [29, 30, 31, 6, 32, 33, 34, 35, 18, 36, 37, 58, 59, 60, 61, 62] (by decide +kernel) (by decide +kernel)
set_option maxRecDepth 20000 in
theorem gX1_moves_X1_newDepth : GoodIn wsX1_moves (va_wsS RX1 123 yX1_newDepth wsX1_newDepth) := goodIn_app (goodIn_of _ (by decide +kernel)) ggX1_moves_X1_newDepth
set_option maxRecDepth 20000 in
theorem ggX1_moves_X1_allowedDepth : GoodIn wsX1_moves wsX1_allowedDepth := goodIn_r _ [40, 41, 42] (by decide +kernel) (by decide +kernel)
set_option maxRecDepth 20000 in
theorem gX1_moves_X1_allowedDepth : GoodIn wsX1_moves (va_wsS RX1 58 yX1_allowedDepth wsX1_allowedDepth) := goodIn_app (goodIn_of _ (by decide +kernel)) ggX1_moves_X1_allowedDepth
set_option maxRecDepth 20000 in
theorem ggX1_moves_X0_wouldBeCrookedWith : GoodIn wsX1_moves wsX0_wouldBeCrookedWith := goodIn_r _ [46, 20, 21, 22, 47, 6, 48, 49, 50, 51, 58, 59, 60, 61, 62] (by decide +kernel) (by decide +kernel)
set_option maxRecDepth 20000 in
theorem gX1_moves_X0_wouldBeCrookedWith : GoodIn wsX1_moves (wsV RX1 126 RX0 yX0_wouldBeCrookedWith wsX0_wouldBeCrookedWith) := goodIn_app (goodIn_of _ (by decide +kernel)) ggX1_moves_X0_wouldBeCrookedWith
theorem dX1_moves_0 : decode cX1_moves 0 = .ok (.iload_n 1, 1) := by decide +kernel
theorem dX1_moves_1 : decode cX1_moves 1 = .ok (.invokestatic 15, 3) := by decide +kernel
theorem dX1_moves_4 : decode cX1_moves 4 = .ok (.aload_n 0, 1) := by decide +kernel
theorem dX1_moves_5 : decode cX1_moves 5 = .ok (.iload_n 1, 1) := by decide +kernel
theorem dX1_moves_6 : decode cX1_moves 6 = .ok (.invokevirtual 23, 3) := by decide +kernel
theorem dX1_moves_9 : decode cX1_moves 9 = .ok (.ifnull 5, 3) := by decide +kernel
theorem dX1_moves_12 : decode cX1_moves 12 = .ok (.iconst (-1), 1) := by decide +kernel
theorem dX1_moves_13 : decode cX1_moves 13 = .ok (.ireturn, 1) := by decide +kernel
theorem dX1_moves_14 : decode cX1_moves 14 = .ok (.aload_n 0, 1) := by decide +kernel
theorem dX1_moves_15 : decode cX1_moves 15 = .ok (.iload_n 1, 1) := by decide +kernel
theorem dX1_moves_16 : decode cX1_moves 16 = .ok (.invokevirtual 40, 3) := by decide +kernel
theorem dX1_moves_19 : decode cX1_moves 19 = .ok (.astore_n 2, 1) := by decide +kernel
theorem dX1_moves_20 : decode cX1_moves 20 = .ok (.aload_n 2, 1) := by decide +kernel
theorem dX1_moves_21 : decode cX1_moves 21 = .ok (.invokestatic 123, 3) := by decide +kernel
theorem dX1_moves_24 : decode cX1_moves 24 = .ok (.aload_n 0, 1) := by decide +kernel
theorem dX1_moves_25 : decode cX1_moves 25 = .ok (.getfield 19, 3) := by decide +kernel
theorem dX1_moves_28 : decode cX1_moves 28 = .ok (.iconst 1, 1) := by decide +kernel
theorem dX1_moves_29 : decode cX1_moves 29 = .ok (.iadd, 1) := by decide +kernel
theorem dX1_moves_30 : decode cX1_moves 30 = .ok (.invokestatic 58, 3) := by decide +kernel
theorem dX1_moves_33 : decode cX1_moves 33 = .ok (.if_icmp .gt 5, 3) := by decide +kernel
theorem dX1_moves_36 : decode cX1_moves 36 = .ok (.iconst (-1), 1) := by decide +kernel
theorem dX1_moves_37 : decode cX1_moves 37 = .ok (.ireturn, 1) := by decide +kernel
theorem dX1_moves_38 : decode cX1_moves 38 = .ok (.aload_n 2, 1) := by decide +kernel
theorem dX1_moves_39 : decode cX1_moves 39 = .ok (.astore_n 3, 1) := by decide +kernel
theorem dX1_moves_40 : decode cX1_moves 40 = .ok (.aload_n 3, 1) := by decide +kernel
theorem dX1_moves_41 : decode cX1_moves 41 = .ok (.ifnull 24, 3) := by decide +kernel
theorem dX1_moves_44 : decode cX1_moves 44 = .ok (.aload_n 3, 1) := by decide +kernel
theorem dX1_moves_45 : decode cX1_moves 45 = .ok (.iload_n 1, 1) := by decide +kernel
theorem dX1_moves_46 : decode cX1_moves 46 = .ok (.invokevirtual 126, 3) := by decide +kernel
theorem dX1_moves_49 : decode cX1_moves 49 = .ok (.ifCond .eq 8, 3) := by decide +kernel
theorem dX1_moves_52 : decode cX1_moves 52 = .ok (.aload_n 3, 1) := by decide +kernel
theorem dX1_moves_53 : decode cX1_moves 53 = .ok (.getfield 100, 3) := by decide +kernel
theorem dX1_moves_56 : decode cX1_moves 56 = .ok (.ireturn, 1) := by decide +kernel
theorem dX1_moves_57 : decode cX1_moves 57 = .ok (.aload_n 3, 1) := by decide +kernel
theorem dX1_moves_58 : decode cX1_moves 58 = .ok (.getfield 130, 3) := by decide +kernel
theorem dX1_moves_61 : decode cX1_moves 61 = .ok (.astore_n 3, 1) := by decide +kernel
theorem dX1_moves_62 : decode cX1_moves 62 = .ok (.goto (-22), 3) := by decide +kernel
theorem dX1_moves_65 : decode cX1_moves 65 = .ok (.iconst (-1), 1) := by decide +kernel
theorem dX1_moves_66 : decode cX1_moves 66 = .ok (.ireturn, 1) := by decide +kernel
set_option maxRecDepth 20000 in
theorem ggX1_mean_X1_inLine : GoodIn wsX1_mean wsX1_inLine := goodIn_r _ [6, 1, 7, 17, 18, 19, 20, 21, 22] (by decide +kernel) (by decide +kernel)
set_option maxRecDepth 20000 in
theorem gX1_mean_X1_inLine : GoodIn wsX1_mean (wsV RX1 92 RX1 yX1_inLine wsX1_inLine) := goodIn_app (goodIn_of _ (by decide +kernel)) ggX1_mean_X1_inLine
set_option maxRecDepth 20000 in
theorem ggX1_mean_X1_depthOf : GoodIn wsX1_mean wsX1_depthOf := goodIn_r _ [10, 11, 12, 13, 14, 15, 16, 23, 24, 25, 26, 27] (by decide +kernel) (by decide +kernel)
set_option maxRecDepth 20000 in
theorem gX1_mean_X1_depthOf : GoodIn wsX1_mean (va_wsS RX1 133 yX1_depthOf wsX1_depthOf) := goodIn_app (goodIn_of _ (by decide +kernel)) ggX1_mean_X1_depthOf
theorem dX1_mean_0 : decode cX1_mean 0 = .ok (.aload_n 0, 1) := by decide +kernel
theorem dX1_mean_1 : decode cX1_mean 1 = .ok (.getfield 19, 3) := by decide +kernel
theorem dX1_mean_4 : decode cX1_mean 4 = .ok (.ifCond .ne 5, 3) := by decide +kernel
theorem dX1_mean_7 : decode cX1_mean 7 = .ok (.dconst 0, 1) := by decide +kernel
theorem dX1_mean_8 : decode cX1_mean 8 = .ok (.dreturn, 1) := by decide +kernel
theorem dX1_mean_9 : decode cX1_mean 9 = .ok (.iconst 0, 1) := by decide +kernel
theorem dX1_mean_10 : decode cX1_mean 10 = .ok (.istore_n 1, 1) := by decide +kernel
theorem dX1_mean_11 : decode cX1_mean 11 = .ok (.iconst 0, 1) := by decide +kernel
theorem dX1_mean_12 : decode cX1_mean 12 = .ok (.istore_n 2, 1) := by decide +kernel
theorem dX1_mean_13 : decode cX1_mean 13 = .ok (.iload_n 2, 1) := by decide +kernel
theorem dX1_mean_14 : decode cX1_mean 14 = .ok (.aload_n 0, 1) := by decide +kernel
theorem dX1_mean_15 : decode cX1_mean 15 = .ok (.getfield 19, 3) := by decide +kernel
theorem dX1_mean_18 : decode cX1_mean 18 = .ok (.if_icmp .ge 20, 3) := by decide +kernel
theorem dX1_mean_21 : decode cX1_mean 21 = .ok (.iload_n 1, 1) := by decide +kernel
theorem dX1_mean_22 : decode cX1_mean 22 = .ok (.aload_n 0, 1) := by decide +kernel
theorem dX1_mean_23 : decode cX1_mean 23 = .ok (.iload_n 2, 1) := by decide +kernel
theorem dX1_mean_24 : decode cX1_mean 24 = .ok (.invokevirtual 92, 3) := by decide +kernel
theorem dX1_mean_27 : decode cX1_mean 27 = .ok (.invokestatic 133, 3) := by decide +kernel
theorem dX1_mean_30 : decode cX1_mean 30 = .ok (.iadd, 1) := by decide +kernel
theorem dX1_mean_31 : decode cX1_mean 31 = .ok (.istore_n 1, 1) := by decide +kernel
theorem dX1_mean_32 : decode cX1_mean 32 = .ok (.iinc 2 1, 3) := by decide +kernel
theorem dX1_mean_35 : decode cX1_mean 35 = .ok (.goto (-22), 3) := by decide +kernel
theorem dX1_mean_38 : decode cX1_mean 38 = .ok (.iload_n 1, 1) := by decide +kernel
theorem dX1_mean_39 : decode cX1_mean 39 = .ok (.i2d, 1) := by decide +kernel
theorem dX1_mean_40 : decode cX1_mean 40 = .ok (.aload_n 0, 1) := by decide +kernel
theorem dX1_mean_41 : decode cX1_mean 41 = .ok (.getfield 19, 3) := by decide +kernel
theorem dX1_mean_44 : decode cX1_mean 44 = .ok (.i2d, 1) := by decide +kernel
theorem dX1_mean_45 : decode cX1_mean 45 = .ok (.ddiv, 1) := by decide +kernel
theorem dX1_mean_46 : decode cX1_mean 46 = .ok (.dreturn, 1) := by decide +kernel
set_option maxRecDepth 20000 in
theorem ggX1_digest_X1_tally : GoodIn wsX1_digest wsX1_tally := goodIn_r _ [8, 3, 9, 10, 11, 12, 13, 14, 7, 15, 16, 17, 18, 19, 20, 21, 22, 23, 24, 25, 26, 27, 28, 29, 30, 31, 32, 33, 34, 35, 36, 37, 38, 39, 40, 41, 42, 43, 44, 45, 46, 47, 48, 49, 50, 51, 52, 53, 54, 55, 56, 57, 58, 59, 60, 61, 62, 63, 64, 65, 76, 77, 78, 79, 80, 81, 82, 83, 84, 85, 86] (by decide +kernel) (by decide +kernel)
set_option maxRecDepth 20000 in
theorem gX1_digest_X1_tally : GoodIn wsX1_digest (wsV RX1 120 RX1 yX1_tally wsX1_tally) := goodIn_app (goodIn_of _ (by decide +kernel)) ggX1_digest_X1_tally
set_option maxRecDepth 20000 in
theorem ggX1_digest_X1_inLine : GoodIn wsX1_digest wsX1_inLine := goodIn_r _ [45, 3, 46, 76, 77, 78, 79, 80, 81] (by decide +kernel) (by decide +kernel)
set_option maxRecDepth 20000 in
theorem gX1_digest_X1_inLine : GoodIn wsX1_digest (wsV RX1 92 RX1 yX1_inLine wsX1_inLine) := goodIn_app (goodIn_of _ (by decide +kernel)) ggX1_digest_X1_inLine
set_option maxRecDepth 20000 in
theorem ggX1_digest_X1_heightOf : GoodIn wsX1_digest wsX1_heightOf := goodIn_r _ [15, 16, 82, 83, 84, 85, 86] (by decide +kernel) (by decide +kernel)
set_option maxRecDepth 20000 in
theorem gX1_digest_X1_heightOf : GoodIn wsX1_digest (va_wsS RX1 81 yX1_heightOf wsX1_heightOf) := goodIn_app (goodIn_of _ (by decide +kernel)) ggX1_digest_X1_heightOf
set_option maxRecDepth 20000 in
theorem ggX1_digest_X1_tell : GoodIn wsX1_digest wsX1_tell := goodIn_r _ [69, 50, 21, 70, 22, 16, 71, 72, 73, 37, 74, 75, 13, 14, 7, 15, 17, 18, 19, 20, 23, 24, 25, 26, 27, 28, 29, 30, 9, 31, 32, 33, 34, 35, 36, 38, 39, 40, 41, 42, 43, 44, 45, 3, 46, 47, 48, 49, 60, 61, 62, 63, 64, 65, 82, 83, 84, 85, 86, 76, 77, 78, 79, 80, 81] (by decide +kernel) (by decide +kernel)
set_option maxRecDepth 20000 in
theorem gX1_digest_X1_tell : GoodIn wsX1_digest (wsV RX1 88 RX1 yX1_tell wsX1_tell) := goodIn_app (goodIn_of _ (by decide +kernel)) ggX1_digest_X1_tell
theorem dX1_digest_0 : decode cX1_digest 0 = .ok (.ldc2_w 136, 3) := by decide +kernel
theorem dX1_digest_3 : decode cX1_digest 3 = .ok (.lstore_n 1, 1) := by decide +kernel
theorem dX1_digest_4 : decode cX1_digest 4 = .ok (.iconst 0, 1) := by decide +kernel
theorem dX1_digest_5 : decode cX1_digest 5 = .ok (.istore_n 3, 1) := by decide +kernel
theorem dX1_digest_6 : decode cX1_digest 6 = .ok (.iload_n 3, 1) := by decide +kernel
theorem dX1_digest_7 : decode cX1_digest 7 = .ok (.bipush 7, 2) := by decide +kernel
theorem dX1_digest_9 : decode cX1_digest 9 = .ok (.if_icmp .gt 22, 3) := by decide +kernel
theorem dX1_digest_12 : decode cX1_digest 12 = .ok (.lload_n 1, 1) := by decide +kernel
theorem dX1_digest_13 : decode cX1_digest 13 = .ok (.ldc2_w 138, 3) := by decide +kernel
theorem dX1_digest_16 : decode cX1_digest 16 = .ok (.lmul, 1) := by decide +kernel
theorem dX1_digest_17 : decode cX1_digest 17 = .ok (.aload_n 0, 1) := by decide +kernel
theorem dX1_digest_18 : decode cX1_digest 18 = .ok (.iload_n 3, 1) := by decide +kernel
theorem dX1_digest_19 : decode cX1_digest 19 = .ok (.invokevirtual 120, 3) := by decide +kernel
theorem dX1_digest_22 : decode cX1_digest 22 = .ok (.i2l, 1) := by decide +kernel
theorem dX1_digest_23 : decode cX1_digest 23 = .ok (.ladd, 1) := by decide +kernel
theorem dX1_digest_24 : decode cX1_digest 24 = .ok (.lstore_n 1, 1) := by decide +kernel
theorem dX1_digest_25 : decode cX1_digest 25 = .ok (.iinc 3 1, 3) := by decide +kernel
theorem dX1_digest_28 : decode cX1_digest 28 = .ok (.goto (-22), 3) := by decide +kernel
theorem dX1_digest_31 : decode cX1_digest 31 = .ok (.iconst 0, 1) := by decide +kernel
theorem dX1_digest_32 : decode cX1_digest 32 = .ok (.istore_n 3, 1) := by decide +kernel
theorem dX1_digest_33 : decode cX1_digest 33 = .ok (.iload_n 3, 1) := by decide +kernel
theorem dX1_digest_34 : decode cX1_digest 34 = .ok (.aload_n 0, 1) := by decide +kernel
theorem dX1_digest_35 : decode cX1_digest 35 = .ok (.getfield 19, 3) := by decide +kernel
theorem dX1_digest_38 : decode cX1_digest 38 = .ok (.if_icmp .ge 61, 3) := by decide +kernel
theorem dX1_digest_41 : decode cX1_digest 41 = .ok (.aload_n 0, 1) := by decide +kernel
theorem dX1_digest_42 : decode cX1_digest 42 = .ok (.iload_n 3, 1) := by decide +kernel
theorem dX1_digest_43 : decode cX1_digest 43 = .ok (.invokevirtual 92, 3) := by decide +kernel
theorem dX1_digest_46 : decode cX1_digest 46 = .ok (.astore 4, 2) := by decide +kernel
theorem dX1_digest_48 : decode cX1_digest 48 = .ok (.lload_n 1, 1) := by decide +kernel
theorem dX1_digest_49 : decode cX1_digest 49 = .ok (.ldc2_w 138, 3) := by decide +kernel
theorem dX1_digest_52 : decode cX1_digest 52 = .ok (.lmul, 1) := by decide +kernel
theorem dX1_digest_53 : decode cX1_digest 53 = .ok (.aload 4, 2) := by decide +kernel
theorem dX1_digest_55 : decode cX1_digest 55 = .ok (.invokestatic 81, 3) := by decide +kernel
theorem dX1_digest_58 : decode cX1_digest 58 = .ok (.i2l, 1) := by decide +kernel
theorem dX1_digest_59 : decode cX1_digest 59 = .ok (.ladd, 1) := by decide +kernel
theorem dX1_digest_60 : decode cX1_digest 60 = .ok (.lstore_n 1, 1) := by decide +kernel
theorem dX1_digest_61 : decode cX1_digest 61 = .ok (.iconst 0, 1) := by decide +kernel
theorem dX1_digest_62 : decode cX1_digest 62 = .ok (.istore 5, 2) := by decide +kernel
theorem dX1_digest_64 : decode cX1_digest 64 = .ok (.iload 5, 2) := by decide +kernel
end
section
theorem dX1_digest_66 : decode cX1_digest 66 = .ok (.bipush 7, 2) := by decide +kernel
theorem dX1_digest_68 : decode cX1_digest 68 = .ok (.if_icmp .gt 25, 3) := by decide +kernel
theorem dX1_digest_71 : decode cX1_digest 71 = .ok (.lload_n 1, 1) := by decide +kernel
theorem dX1_digest_72 : decode cX1_digest 72 = .ok (.ldc2_w 138, 3) := by decide +kernel
theorem dX1_digest_75 : decode cX1_digest 75 = .ok (.lmul, 1) := by decide +kernel
theorem dX1_digest_76 : decode cX1_digest 76 = .ok (.aload_n 0, 1) := by decide +kernel
theorem dX1_digest_77 : decode cX1_digest 77 = .ok (.aload 4, 2) := by decide +kernel
theorem dX1_digest_79 : decode cX1_digest 79 = .ok (.iload 5, 2) := by decide +kernel
theorem dX1_digest_81 : decode cX1_digest 81 = .ok (.invokevirtual 88, 3) := by decide +kernel
theorem dX1_digest_84 : decode cX1_digest 84 = .ok (.i2l, 1) := by decide +kernel
theorem dX1_digest_85 : decode cX1_digest 85 = .ok (.ladd, 1) := by decide +kernel
theorem dX1_digest_86 : decode cX1_digest 86 = .ok (.lstore_n 1, 1) := by decide +kernel
theorem dX1_digest_87 : decode cX1_digest 87 = .ok (.iinc 5 1, 3) := by decide +kernel
theorem dX1_digest_90 : decode cX1_digest 90 = .ok (.goto (-26), 3) := by decide +kernel
theorem dX1_digest_93 : decode cX1_digest 93 = .ok (.iinc 3 1, 3) := by decide +kernel
theorem dX1_digest_96 : decode cX1_digest 96 = .ok (.goto (-63), 3) := by decide +kernel
theorem dX1_digest_99 : decode cX1_digest 99 = .ok (.lload_n 1, 1) := by decide +kernel
theorem dX1_digest_100 : decode cX1_digest 100 = .ok (.lreturn, 1) := by decide +kernel
theorem dX1_refuseOddHeight_0 : decode cX1_refuseOddHeight 0 = .ok (.iload_n 0, 1) := by decide +kernel
theorem dX1_refuseOddHeight_1 : decode cX1_refuseOddHeight 1 = .ok (.ifCond .lt 10, 3) := by decide +kernel
theorem dX1_refuseOddHeight_4 : decode cX1_refuseOddHeight 4 = .ok (.iload_n 0, 1) := by decide +kernel
theorem dX1_refuseOddHeight_5 : decode cX1_refuseOddHeight 5 = .ok (.sipush 999, 3) := by decide +kernel
theorem dX1_refuseOddHeight_8 : decode cX1_refuseOddHeight 8 = .ok (.if_icmp .le 13, 3) := by decide +kernel
theorem dX1_refuseOddHeight_11 : decode cX1_refuseOddHeight 11 = .ok (.new 140, 3) := by decide +kernel
theorem dX1_refuseOddHeight_14 : decode cX1_refuseOddHeight 14 = .ok (.dup, 1) := by decide +kernel
theorem dX1_refuseOddHeight_15 : decode cX1_refuseOddHeight 15 = .ok (.ldc 142, 2) := by decide +kernel
theorem dX1_refuseOddHeight_17 : decode cX1_refuseOddHeight 17 = .ok (.invokespecial 144, 3) := by decide +kernel
theorem dX1_refuseOddHeight_20 : decode cX1_refuseOddHeight 20 = .ok (.athrow, 1) := by decide +kernel
theorem dX1_refuseOddHeight_21 : decode cX1_refuseOddHeight 21 = .ok (.return_, 1) := by decide +kernel
theorem dX1_refuseOddQuestion_0 : decode cX1_refuseOddQuestion 0 = .ok (.iload_n 0, 1) := by decide +kernel
theorem dX1_refuseOddQuestion_1 : decode cX1_refuseOddQuestion 1 = .ok (.ifCond .lt 9, 3) := by decide +kernel
theorem dX1_refuseOddQuestion_4 : decode cX1_refuseOddQuestion 4 = .ok (.iload_n 0, 1) := by decide +kernel
theorem dX1_refuseOddQuestion_5 : decode cX1_refuseOddQuestion 5 = .ok (.bipush 7, 2) := by decide +kernel
theorem dX1_refuseOddQuestion_7 : decode cX1_refuseOddQuestion 7 = .ok (.if_icmp .le 13, 3) := by decide +kernel
theorem dX1_refuseOddQuestion_10 : decode cX1_refuseOddQuestion 10 = .ok (.new 95, 3) := by decide +kernel
theorem dX1_refuseOddQuestion_13 : decode cX1_refuseOddQuestion 13 = .ok (.dup, 1) := by decide +kernel
theorem dX1_refuseOddQuestion_14 : decode cX1_refuseOddQuestion 14 = .ok (.ldc 145, 2) := by decide +kernel
theorem dX1_refuseOddQuestion_16 : decode cX1_refuseOddQuestion 16 = .ok (.invokespecial 99, 3) := by decide +kernel
theorem dX1_refuseOddQuestion_19 : decode cX1_refuseOddQuestion 19 = .ok (.athrow, 1) := by decide +kernel
theorem dX1_refuseOddQuestion_20 : decode cX1_refuseOddQuestion 20 = .ok (.return_, 1) := by decide +kernel
theorem dX1_heightOf_0 : decode cX1_heightOf 0 = .ok (.aload_n 0, 1) := by decide +kernel
theorem dX1_heightOf_1 : decode cX1_heightOf 1 = .ok (.ifnonnull 7, 3) := by decide +kernel
theorem dX1_heightOf_4 : decode cX1_heightOf 4 = .ok (.iconst (-1), 1) := by decide +kernel
theorem dX1_heightOf_5 : decode cX1_heightOf 5 = .ok (.goto 7, 3) := by decide +kernel
theorem dX1_heightOf_8 : decode cX1_heightOf 8 = .ok (.aload_n 0, 1) := by decide +kernel
theorem dX1_heightOf_9 : decode cX1_heightOf 9 = .ok (.getfield 100, 3) := by decide +kernel
theorem dX1_heightOf_12 : decode cX1_heightOf 12 = .ok (.ireturn, 1) := by decide +kernel
theorem dX1_companyOf_0 : decode cX1_companyOf 0 = .ok (.aload_n 0, 1) := by decide +kernel
theorem dX1_companyOf_1 : decode cX1_companyOf 1 = .ok (.ifnonnull 7, 3) := by decide +kernel
theorem dX1_companyOf_4 : decode cX1_companyOf 4 = .ok (.iconst 0, 1) := by decide +kernel
theorem dX1_companyOf_5 : decode cX1_companyOf 5 = .ok (.goto 7, 3) := by decide +kernel
theorem dX1_companyOf_8 : decode cX1_companyOf 8 = .ok (.aload_n 0, 1) := by decide +kernel
theorem dX1_companyOf_9 : decode cX1_companyOf 9 = .ok (.getfield 147, 3) := by decide +kernel
theorem dX1_companyOf_12 : decode cX1_companyOf 12 = .ok (.ireturn, 1) := by decide +kernel
set_option maxRecDepth 20000 in
theorem ggX1_depthOf_X0_depth : GoodIn wsX1_depthOf wsX0_depth := goodIn_r _ [5, 6, 7, 8, 9, 10, 11] (by decide +kernel) (by decide +kernel)
set_option maxRecDepth 20000 in
theorem gX1_depthOf_X0_depth : GoodIn wsX1_depthOf (wsV RX1 54 RX0 yX0_depth wsX0_depth) := goodIn_app (goodIn_of _ (by decide +kernel)) ggX1_depthOf_X0_depth
theorem dX1_depthOf_0 : decode cX1_depthOf 0 = .ok (.aload_n 0, 1) := by decide +kernel
theorem dX1_depthOf_1 : decode cX1_depthOf 1 = .ok (.ifnonnull 7, 3) := by decide +kernel
theorem dX1_depthOf_4 : decode cX1_depthOf 4 = .ok (.iconst (-1), 1) := by decide +kernel
theorem dX1_depthOf_5 : decode cX1_depthOf 5 = .ok (.goto 7, 3) := by decide +kernel
theorem dX1_depthOf_8 : decode cX1_depthOf 8 = .ok (.aload_n 0, 1) := by decide +kernel
theorem dX1_depthOf_9 : decode cX1_depthOf 9 = .ok (.invokevirtual 54, 3) := by decide +kernel
theorem dX1_depthOf_12 : decode cX1_depthOf 12 = .ok (.ireturn, 1) := by decide +kernel
set_option maxRecDepth 20000 in
theorem ggX1_newDepth_X1_depthOf : GoodIn wsX1_newDepth wsX1_depthOf := goodIn_r _ [4, 5, 6, 7, 8, 9, 10, 11, 12, 13, 14, 15] (by decide +kernel) (by decide +kernel)
set_option maxRecDepth 20000 in
theorem gX1_newDepth_X1_depthOf : GoodIn wsX1_newDepth (va_wsS RX1 133 yX1_depthOf wsX1_depthOf) := goodIn_app (goodIn_of _ (by decide +kernel)) ggX1_newDepth_X1_depthOf
theorem dX1_newDepth_0 : decode cX1_newDepth 0 = .ok (.aload_n 0, 1) := by decide +kernel
theorem dX1_newDepth_1 : decode cX1_newDepth 1 = .ok (.invokestatic 133, 3) := by decide +kernel
theorem dX1_newDepth_4 : decode cX1_newDepth 4 = .ok (.iconst 1, 1) := by decide +kernel
theorem dX1_newDepth_5 : decode cX1_newDepth 5 = .ok (.iadd, 1) := by decide +kernel
theorem dX1_newDepth_6 : decode cX1_newDepth 6 = .ok (.ireturn, 1) := by decide +kernel
set_option maxRecDepth 20000 in
theorem ggX1_find_X0_towards : GoodIn wsX1_find wsX0_towards := goodIn_r _ [7, 8, 9, 10, 17, 18, 19, 20, 21] (by decide +kernel) (by decide +kernel)
set_option maxRecDepth 20000 in
theorem gX1_find_X0_towards : GoodIn wsX1_find (wsV RX1 117 RX0 yX0_towards wsX0_towards) := goodIn_app (goodIn_of _ (by decide +kernel)) ggX1_find_X0_towards
theorem dX1_find_0 : decode cX1_find 0 = .ok (.aload_n 0, 1) := by decide +kernel
theorem dX1_find_1 : decode cX1_find 1 = .ok (.getfield 77, 3) := by decide +kernel
theorem dX1_find_4 : decode cX1_find 4 = .ok (.astore_n 2, 1) := by decide +kernel
theorem dX1_find_5 : decode cX1_find 5 = .ok (.aload_n 2, 1) := by decide +kernel
theorem dX1_find_6 : decode cX1_find 6 = .ok (.ifnull 20, 3) := by decide +kernel
theorem dX1_find_9 : decode cX1_find 9 = .ok (.aload_n 2, 1) := by decide +kernel
theorem dX1_find_10 : decode cX1_find 10 = .ok (.getfield 100, 3) := by decide +kernel
theorem dX1_find_13 : decode cX1_find 13 = .ok (.iload_n 1, 1) := by decide +kernel
theorem dX1_find_14 : decode cX1_find 14 = .ok (.if_icmp .eq 12, 3) := by decide +kernel
theorem dX1_find_17 : decode cX1_find 17 = .ok (.aload_n 2, 1) := by decide +kernel
theorem dX1_find_18 : decode cX1_find 18 = .ok (.iload_n 1, 1) := by decide +kernel
theorem dX1_find_19 : decode cX1_find 19 = .ok (.invokevirtual 117, 3) := by decide +kernel
theorem dX1_find_22 : decode cX1_find 22 = .ok (.astore_n 2, 1) := by decide +kernel
theorem dX1_find_23 : decode cX1_find 23 = .ok (.goto (-18), 3) := by decide +kernel
theorem dX1_find_26 : decode cX1_find 26 = .ok (.aload_n 2, 1) := by decide +kernel
theorem dX1_find_27 : decode cX1_find 27 = .ok (.areturn, 1) := by decide +kernel
set_option maxRecDepth 20000 in
theorem ggX1_lastOnTheWayTo_X0_towards : GoodIn wsX1_lastOnTheWayTo wsX0_towards := goodIn_r _ [6, 7, 8, 9, 16, 17, 18, 19, 20] (by decide +kernel) (by decide +kernel)
set_option maxRecDepth 20000 in
theorem gX1_lastOnTheWayTo_X0_towards : GoodIn wsX1_lastOnTheWayTo (wsV RX1 117 RX0 yX0_towards wsX0_towards) := goodIn_app (goodIn_of _ (by decide +kernel)) ggX1_lastOnTheWayTo_X0_towards
theorem dX1_lastOnTheWayTo_0 : decode cX1_lastOnTheWayTo 0 = .ok (.aconst_null, 1) := by decide +kernel
theorem dX1_lastOnTheWayTo_1 : decode cX1_lastOnTheWayTo 1 = .ok (.astore_n 2, 1) := by decide +kernel
theorem dX1_lastOnTheWayTo_2 : decode cX1_lastOnTheWayTo 2 = .ok (.aload_n 0, 1) := by decide +kernel
theorem dX1_lastOnTheWayTo_3 : decode cX1_lastOnTheWayTo 3 = .ok (.getfield 77, 3) := by decide +kernel
theorem dX1_lastOnTheWayTo_6 : decode cX1_lastOnTheWayTo 6 = .ok (.astore_n 3, 1) := by decide +kernel
theorem dX1_lastOnTheWayTo_7 : decode cX1_lastOnTheWayTo 7 = .ok (.aload_n 3, 1) := by decide +kernel
theorem dX1_lastOnTheWayTo_8 : decode cX1_lastOnTheWayTo 8 = .ok (.ifnull 14, 3) := by decide +kernel
theorem dX1_lastOnTheWayTo_11 : decode cX1_lastOnTheWayTo 11 = .ok (.aload_n 3, 1) := by decide +kernel
theorem dX1_lastOnTheWayTo_12 : decode cX1_lastOnTheWayTo 12 = .ok (.astore_n 2, 1) := by decide +kernel
theorem dX1_lastOnTheWayTo_13 : decode cX1_lastOnTheWayTo 13 = .ok (.aload_n 3, 1) := by decide +kernel
theorem dX1_lastOnTheWayTo_14 : decode cX1_lastOnTheWayTo 14 = .ok (.iload_n 1, 1) := by decide +kernel
theorem dX1_lastOnTheWayTo_15 : decode cX1_lastOnTheWayTo 15 = .ok (.invokevirtual 117, 3) := by decide +kernel
theorem dX1_lastOnTheWayTo_18 : decode cX1_lastOnTheWayTo 18 = .ok (.astore_n 3, 1) := by decide +kernel
theorem dX1_lastOnTheWayTo_19 : decode cX1_lastOnTheWayTo 19 = .ok (.goto (-12), 3) := by decide +kernel
theorem dX1_lastOnTheWayTo_22 : decode cX1_lastOnTheWayTo 22 = .ok (.aload_n 2, 1) := by decide +kernel
theorem dX1_lastOnTheWayTo_23 : decode cX1_lastOnTheWayTo 23 = .ok (.areturn, 1) := by decide +kernel
set_option maxRecDepth 20000 in
theorem ggX1_smallerThan_X1_companyOf : GoodIn wsX1_smallerThan wsX1_companyOf := goodIn_r _ [7, 8, 23, 24, 25, 26, 27] (by decide +kernel) (by decide +kernel)
set_option maxRecDepth 20000 in
theorem gX1_smallerThan_X1_companyOf : GoodIn wsX1_smallerThan (va_wsS RX1 153 yX1_companyOf wsX1_companyOf) := goodIn_app (goodIn_of _ (by decide +kernel)) ggX1_smallerThan_X1_companyOf
set_option maxRecDepth 20000 in
theorem ggX1_smallerThan_X0_towards : GoodIn wsX1_smallerThan wsX0_towards := goodIn_r _ [13, 14, 15, 16, 23, 24, 25, 26, 27] (by decide +kernel) (by decide +kernel)
set_option maxRecDepth 20000 in
theorem gX1_smallerThan_X0_towards : GoodIn wsX1_smallerThan (wsV RX1 117 RX0 yX0_towards wsX0_towards) := goodIn_app (goodIn_of _ (by decide +kernel)) ggX1_smallerThan_X0_towards
theorem dX1_smallerThan_0 : decode cX1_smallerThan 0 = .ok (.iconst 0, 1) := by decide +kernel
theorem dX1_smallerThan_1 : decode cX1_smallerThan 1 = .ok (.istore_n 2, 1) := by decide +kernel
theorem dX1_smallerThan_2 : decode cX1_smallerThan 2 = .ok (.aload_n 0, 1) := by decide +kernel
theorem dX1_smallerThan_3 : decode cX1_smallerThan 3 = .ok (.getfield 77, 3) := by decide +kernel
theorem dX1_smallerThan_6 : decode cX1_smallerThan 6 = .ok (.astore_n 3, 1) := by decide +kernel
theorem dX1_smallerThan_7 : decode cX1_smallerThan 7 = .ok (.aload_n 3, 1) := by decide +kernel
theorem dX1_smallerThan_8 : decode cX1_smallerThan 8 = .ok (.ifnull 50, 3) := by decide +kernel
theorem dX1_smallerThan_11 : decode cX1_smallerThan 11 = .ok (.aload_n 3, 1) := by decide +kernel
theorem dX1_smallerThan_12 : decode cX1_smallerThan 12 = .ok (.getfield 100, 3) := by decide +kernel
theorem dX1_smallerThan_15 : decode cX1_smallerThan 15 = .ok (.iload_n 1, 1) := by decide +kernel
theorem dX1_smallerThan_16 : decode cX1_smallerThan 16 = .ok (.if_icmp .ne 13, 3) := by decide +kernel
theorem dX1_smallerThan_19 : decode cX1_smallerThan 19 = .ok (.iload_n 2, 1) := by decide +kernel
theorem dX1_smallerThan_20 : decode cX1_smallerThan 20 = .ok (.aload_n 3, 1) := by decide +kernel
theorem dX1_smallerThan_21 : decode cX1_smallerThan 21 = .ok (.getfield 150, 3) := by decide +kernel
theorem dX1_smallerThan_24 : decode cX1_smallerThan 24 = .ok (.invokestatic 153, 3) := by decide +kernel
theorem dX1_smallerThan_27 : decode cX1_smallerThan 27 = .ok (.iadd, 1) := by decide +kernel
theorem dX1_smallerThan_28 : decode cX1_smallerThan 28 = .ok (.ireturn, 1) := by decide +kernel
theorem dX1_smallerThan_29 : decode cX1_smallerThan 29 = .ok (.aload_n 3, 1) := by decide +kernel
theorem dX1_smallerThan_30 : decode cX1_smallerThan 30 = .ok (.getfield 100, 3) := by decide +kernel
theorem dX1_smallerThan_33 : decode cX1_smallerThan 33 = .ok (.iload_n 1, 1) := by decide +kernel
theorem dX1_smallerThan_34 : decode cX1_smallerThan 34 = .ok (.if_icmp .ge 15, 3) := by decide +kernel
theorem dX1_smallerThan_37 : decode cX1_smallerThan 37 = .ok (.iload_n 2, 1) := by decide +kernel
theorem dX1_smallerThan_38 : decode cX1_smallerThan 38 = .ok (.aload_n 3, 1) := by decide +kernel
theorem dX1_smallerThan_39 : decode cX1_smallerThan 39 = .ok (.getfield 150, 3) := by decide +kernel
theorem dX1_smallerThan_42 : decode cX1_smallerThan 42 = .ok (.invokestatic 153, 3) := by decide +kernel
theorem dX1_smallerThan_45 : decode cX1_smallerThan 45 = .ok (.iconst 1, 1) := by decide +kernel
theorem dX1_smallerThan_46 : decode cX1_smallerThan 46 = .ok (.iadd, 1) := by decide +kernel
theorem dX1_smallerThan_47 : decode cX1_smallerThan 47 = .ok (.iadd, 1) := by decide +kernel
theorem dX1_smallerThan_48 : decode cX1_smallerThan 48 = .ok (.istore_n 2, 1) := by decide +kernel
theorem dX1_smallerThan_49 : decode cX1_smallerThan 49 = .ok (.aload_n 3, 1) := by decide +kernel
theorem dX1_smallerThan_50 : decode cX1_smallerThan 50 = .ok (.iload_n 1, 1) := by decide +kernel
theorem dX1_smallerThan_51 : decode cX1_smallerThan 51 = .ok (.invokevirtual 117, 3) := by decide +kernel
theorem dX1_smallerThan_54 : decode cX1_smallerThan 54 = .ok (.astore_n 3, 1) := by decide +kernel
theorem dX1_smallerThan_55 : decode cX1_smallerThan 55 = .ok (.goto (-48), 3) := by decide +kernel
theorem dX1_smallerThan_58 : decode cX1_smallerThan 58 = .ok (.iload_n 2, 1) := by decide +kernel
theorem dX1_smallerThan_59 : decode cX1_smallerThan 59 = .ok (.ireturn, 1) := by decide +kernel
theorem dX1_inLine_0 : decode cX1_inLine 0 = .ok (.iload_n 1, 1) := by decide +kernel
theorem dX1_inLine_1 : decode cX1_inLine 1 = .ok (.ifCond .lt 29, 3) := by decide +kernel
theorem dX1_inLine_4 : decode cX1_inLine 4 = .ok (.iload_n 1, 1) := by decide +kernel
theorem dX1_inLine_5 : decode cX1_inLine 5 = .ok (.aload_n 0, 1) := by decide +kernel
theorem dX1_inLine_6 : decode cX1_inLine 6 = .ok (.getfield 19, 3) := by decide +kernel
theorem dX1_inLine_9 : decode cX1_inLine 9 = .ok (.if_icmp .ge 21, 3) := by decide +kernel
theorem dX1_inLine_12 : decode cX1_inLine 12 = .ok (.iload_n 1, 1) := by decide +kernel
theorem dX1_inLine_13 : decode cX1_inLine 13 = .ok (.aload_n 0, 1) := by decide +kernel
theorem dX1_inLine_14 : decode cX1_inLine 14 = .ok (.getfield 11, 3) := by decide +kernel
theorem dX1_inLine_17 : decode cX1_inLine 17 = .ok (.arraylength, 1) := by decide +kernel
theorem dX1_inLine_18 : decode cX1_inLine 18 = .ok (.if_icmp .ge 12, 3) := by decide +kernel
theorem dX1_inLine_21 : decode cX1_inLine 21 = .ok (.aload_n 0, 1) := by decide +kernel
theorem dX1_inLine_22 : decode cX1_inLine 22 = .ok (.getfield 11, 3) := by decide +kernel
theorem dX1_inLine_25 : decode cX1_inLine 25 = .ok (.iload_n 1, 1) := by decide +kernel
theorem dX1_inLine_26 : decode cX1_inLine 26 = .ok (.aaload, 1) := by decide +kernel
theorem dX1_inLine_27 : decode cX1_inLine 27 = .ok (.goto 4, 3) := by decide +kernel
theorem dX1_inLine_30 : decode cX1_inLine 30 = .ok (.aconst_null, 1) := by decide +kernel
theorem dX1_inLine_31 : decode cX1_inLine 31 = .ok (.areturn, 1) := by decide +kernel
set_option maxRecDepth 20000 in
theorem ggX1_insertIntoLine_X1_heightOf : GoodIn wsX1_insertIntoLine wsX1_heightOf := goodIn_r _ [7, 3, 14, 15, 16, 17, 18] (by decide +kernel) (by decide +kernel)
set_option maxRecDepth 20000 in
theorem gX1_insertIntoLine_X1_heightOf : GoodIn wsX1_insertIntoLine (va_wsS RX1 81 yX1_heightOf wsX1_heightOf) := goodIn_app (goodIn_of _ (by decide +kernel)) ggX1_insertIntoLine_X1_heightOf
theorem dX1_insertIntoLine_0 : decode cX1_insertIntoLine 0 = .ok (.aload_n 0, 1) := by decide +kernel
theorem dX1_insertIntoLine_1 : decode cX1_insertIntoLine 1 = .ok (.getfield 19, 3) := by decide +kernel
theorem dX1_insertIntoLine_4 : decode cX1_insertIntoLine 4 = .ok (.istore_n 2, 1) := by decide +kernel
theorem dX1_insertIntoLine_5 : decode cX1_insertIntoLine 5 = .ok (.iload_n 2, 1) := by decide +kernel
theorem dX1_insertIntoLine_6 : decode cX1_insertIntoLine 6 = .ok (.aload_n 0, 1) := by decide +kernel
theorem dX1_insertIntoLine_7 : decode cX1_insertIntoLine 7 = .ok (.getfield 11, 3) := by decide +kernel
theorem dX1_insertIntoLine_10 : decode cX1_insertIntoLine 10 = .ok (.arraylength, 1) := by decide +kernel
theorem dX1_insertIntoLine_11 : decode cX1_insertIntoLine 11 = .ok (.if_icmp .lt 4, 3) := by decide +kernel
theorem dX1_insertIntoLine_14 : decode cX1_insertIntoLine 14 = .ok (.return_, 1) := by decide +kernel
theorem dX1_insertIntoLine_15 : decode cX1_insertIntoLine 15 = .ok (.iload_n 2, 1) := by decide +kernel
theorem dX1_insertIntoLine_16 : decode cX1_insertIntoLine 16 = .ok (.ifCond .le 41, 3) := by decide +kernel
theorem dX1_insertIntoLine_19 : decode cX1_insertIntoLine 19 = .ok (.aload_n 0, 1) := by decide +kernel
theorem dX1_insertIntoLine_20 : decode cX1_insertIntoLine 20 = .ok (.getfield 11, 3) := by decide +kernel
theorem dX1_insertIntoLine_23 : decode cX1_insertIntoLine 23 = .ok (.iload_n 2, 1) := by decide +kernel
theorem dX1_insertIntoLine_24 : decode cX1_insertIntoLine 24 = .ok (.iconst 1, 1) := by decide +kernel
theorem dX1_insertIntoLine_25 : decode cX1_insertIntoLine 25 = .ok (.isub, 1) := by decide +kernel
theorem dX1_insertIntoLine_26 : decode cX1_insertIntoLine 26 = .ok (.aaload, 1) := by decide +kernel
theorem dX1_insertIntoLine_27 : decode cX1_insertIntoLine 27 = .ok (.invokestatic 81, 3) := by decide +kernel
theorem dX1_insertIntoLine_30 : decode cX1_insertIntoLine 30 = .ok (.aload_n 1, 1) := by decide +kernel
theorem dX1_insertIntoLine_31 : decode cX1_insertIntoLine 31 = .ok (.getfield 100, 3) := by decide +kernel
theorem dX1_insertIntoLine_34 : decode cX1_insertIntoLine 34 = .ok (.if_icmp .le 23, 3) := by decide +kernel
theorem dX1_insertIntoLine_37 : decode cX1_insertIntoLine 37 = .ok (.aload_n 0, 1) := by decide +kernel
theorem dX1_insertIntoLine_38 : decode cX1_insertIntoLine 38 = .ok (.getfield 11, 3) := by decide +kernel
theorem dX1_insertIntoLine_41 : decode cX1_insertIntoLine 41 = .ok (.iload_n 2, 1) := by decide +kernel
theorem dX1_insertIntoLine_42 : decode cX1_insertIntoLine 42 = .ok (.aload_n 0, 1) := by decide +kernel
theorem dX1_insertIntoLine_43 : decode cX1_insertIntoLine 43 = .ok (.getfield 11, 3) := by decide +kernel
theorem dX1_insertIntoLine_46 : decode cX1_insertIntoLine 46 = .ok (.iload_n 2, 1) := by decide +kernel
theorem dX1_insertIntoLine_47 : decode cX1_insertIntoLine 47 = .ok (.iconst 1, 1) := by decide +kernel
theorem dX1_insertIntoLine_48 : decode cX1_insertIntoLine 48 = .ok (.isub, 1) := by decide +kernel
theorem dX1_insertIntoLine_49 : decode cX1_insertIntoLine 49 = .ok (.aaload, 1) := by decide +kernel
theorem dX1_insertIntoLine_50 : decode cX1_insertIntoLine 50 = .ok (.aastore, 1) := by decide +kernel
theorem dX1_insertIntoLine_51 : decode cX1_insertIntoLine 51 = .ok (.iinc 2 (-1), 3) := by decide +kernel
theorem dX1_insertIntoLine_54 : decode cX1_insertIntoLine 54 = .ok (.goto (-39), 3) := by decide +kernel
theorem dX1_insertIntoLine_57 : decode cX1_insertIntoLine 57 = .ok (.aload_n 0, 1) := by decide +kernel
theorem dX1_insertIntoLine_58 : decode cX1_insertIntoLine 58 = .ok (.getfield 11, 3) := by decide +kernel
theorem dX1_insertIntoLine_61 : decode cX1_insertIntoLine 61 = .ok (.iload_n 2, 1) := by decide +kernel
theorem dX1_insertIntoLine_62 : decode cX1_insertIntoLine 62 = .ok (.aload_n 1, 1) := by decide +kernel
theorem dX1_insertIntoLine_63 : decode cX1_insertIntoLine 63 = .ok (.aastore, 1) := by decide +kernel
theorem dX1_insertIntoLine_64 : decode cX1_insertIntoLine 64 = .ok (.aload_n 0, 1) := by decide +kernel
theorem dX1_insertIntoLine_65 : decode cX1_insertIntoLine 65 = .ok (.dup, 1) := by decide +kernel
theorem dX1_insertIntoLine_66 : decode cX1_insertIntoLine 66 = .ok (.getfield 19, 3) := by decide +kernel
theorem dX1_insertIntoLine_69 : decode cX1_insertIntoLine 69 = .ok (.iconst 1, 1) := by decide +kernel
theorem dX1_insertIntoLine_70 : decode cX1_insertIntoLine 70 = .ok (.iadd, 1) := by decide +kernel
theorem dX1_insertIntoLine_71 : decode cX1_insertIntoLine 71 = .ok (.putfield 19, 3) := by decide +kernel
theorem dX1_insertIntoLine_74 : decode cX1_insertIntoLine 74 = .ok (.return_, 1) := by decide +kernel
set_option maxRecDepth 20000 in
theorem ggX1_removeFromLine_X1_smallerThan : GoodIn wsX1_removeFromLine wsX1_smallerThan := goodIn_r _ [8, 9, 1, 10, 11, 12, 7, 13, 14, 15, 16, 17, 18, 19, 20, 21, 22, 28, 29, 30, 31, 32, 33, 23, 24, 25, 26, 27] (by decide +kernel) (by decide +kernel)
set_option maxRecDepth 20000 in
theorem gX1_removeFromLine_X1_smallerThan : GoodIn wsX1_removeFromLine (wsV RX1 103 RX1 yX1_smallerThan wsX1_smallerThan) := goodIn_app (goodIn_of _ (by decide +kernel)) ggX1_removeFromLine_X1_smallerThan
theorem dX1_removeFromLine_0 : decode cX1_removeFromLine 0 = .ok (.aload_n 0, 1) := by decide +kernel
theorem dX1_removeFromLine_1 : decode cX1_removeFromLine 1 = .ok (.aload_n 1, 1) := by decide +kernel
theorem dX1_removeFromLine_2 : decode cX1_removeFromLine 2 = .ok (.getfield 100, 3) := by decide +kernel
theorem dX1_removeFromLine_5 : decode cX1_removeFromLine 5 = .ok (.invokevirtual 103, 3) := by decide +kernel
theorem dX1_removeFromLine_8 : decode cX1_removeFromLine 8 = .ok (.istore_n 2, 1) := by decide +kernel
theorem dX1_removeFromLine_9 : decode cX1_removeFromLine 9 = .ok (.iload_n 2, 1) := by decide +kernel
theorem dX1_removeFromLine_10 : decode cX1_removeFromLine 10 = .ok (.iconst 1, 1) := by decide +kernel
theorem dX1_removeFromLine_11 : decode cX1_removeFromLine 11 = .ok (.iadd, 1) := by decide +kernel
theorem dX1_removeFromLine_12 : decode cX1_removeFromLine 12 = .ok (.aload_n 0, 1) := by decide +kernel
theorem dX1_removeFromLine_13 : decode cX1_removeFromLine 13 = .ok (.getfield 19, 3) := by decide +kernel
theorem dX1_removeFromLine_16 : decode cX1_removeFromLine 16 = .ok (.if_icmp .ge 34, 3) := by decide +kernel
theorem dX1_removeFromLine_19 : decode cX1_removeFromLine 19 = .ok (.iload_n 2, 1) := by decide +kernel
theorem dX1_removeFromLine_20 : decode cX1_removeFromLine 20 = .ok (.iconst 1, 1) := by decide +kernel
theorem dX1_removeFromLine_21 : decode cX1_removeFromLine 21 = .ok (.iadd, 1) := by decide +kernel
theorem dX1_removeFromLine_22 : decode cX1_removeFromLine 22 = .ok (.aload_n 0, 1) := by decide +kernel
theorem dX1_removeFromLine_23 : decode cX1_removeFromLine 23 = .ok (.getfield 11, 3) := by decide +kernel
theorem dX1_removeFromLine_26 : decode cX1_removeFromLine 26 = .ok (.arraylength, 1) := by decide +kernel
theorem dX1_removeFromLine_27 : decode cX1_removeFromLine 27 = .ok (.if_icmp .ge 23, 3) := by decide +kernel
theorem dX1_removeFromLine_30 : decode cX1_removeFromLine 30 = .ok (.aload_n 0, 1) := by decide +kernel
theorem dX1_removeFromLine_31 : decode cX1_removeFromLine 31 = .ok (.getfield 11, 3) := by decide +kernel
theorem dX1_removeFromLine_34 : decode cX1_removeFromLine 34 = .ok (.iload_n 2, 1) := by decide +kernel
theorem dX1_removeFromLine_35 : decode cX1_removeFromLine 35 = .ok (.aload_n 0, 1) := by decide +kernel
theorem dX1_removeFromLine_36 : decode cX1_removeFromLine 36 = .ok (.getfield 11, 3) := by decide +kernel
theorem dX1_removeFromLine_39 : decode cX1_removeFromLine 39 = .ok (.iload_n 2, 1) := by decide +kernel
theorem dX1_removeFromLine_40 : decode cX1_removeFromLine 40 = .ok (.iconst 1, 1) := by decide +kernel
theorem dX1_removeFromLine_41 : decode cX1_removeFromLine 41 = .ok (.iadd, 1) := by decide +kernel
theorem dX1_removeFromLine_42 : decode cX1_removeFromLine 42 = .ok (.aaload, 1) := by decide +kernel
theorem dX1_removeFromLine_43 : decode cX1_removeFromLine 43 = .ok (.aastore, 1) := by decide +kernel
theorem dX1_removeFromLine_44 : decode cX1_removeFromLine 44 = .ok (.iinc 2 1, 3) := by decide +kernel
theorem dX1_removeFromLine_47 : decode cX1_removeFromLine 47 = .ok (.goto (-38), 3) := by decide +kernel
theorem dX1_removeFromLine_50 : decode cX1_removeFromLine 50 = .ok (.aload_n 0, 1) := by decide +kernel
theorem dX1_removeFromLine_51 : decode cX1_removeFromLine 51 = .ok (.dup, 1) := by decide +kernel
theorem dX1_removeFromLine_52 : decode cX1_removeFromLine 52 = .ok (.getfield 19, 3) := by decide +kernel
theorem dX1_removeFromLine_55 : decode cX1_removeFromLine 55 = .ok (.iconst 1, 1) := by decide +kernel
theorem dX1_removeFromLine_56 : decode cX1_removeFromLine 56 = .ok (.isub, 1) := by decide +kernel
theorem dX1_removeFromLine_57 : decode cX1_removeFromLine 57 = .ok (.putfield 19, 3) := by decide +kernel
theorem dX1_removeFromLine_60 : decode cX1_removeFromLine 60 = .ok (.aload_n 0, 1) := by decide +kernel
theorem dX1_removeFromLine_61 : decode cX1_removeFromLine 61 = .ok (.getfield 19, 3) := by decide +kernel
theorem dX1_removeFromLine_64 : decode cX1_removeFromLine 64 = .ok (.ifCond .lt 25, 3) := by decide +kernel
theorem dX1_removeFromLine_67 : decode cX1_removeFromLine 67 = .ok (.aload_n 0, 1) := by decide +kernel
theorem dX1_removeFromLine_68 : decode cX1_removeFromLine 68 = .ok (.getfield 19, 3) := by decide +kernel
theorem dX1_removeFromLine_71 : decode cX1_removeFromLine 71 = .ok (.aload_n 0, 1) := by decide +kernel
theorem dX1_removeFromLine_72 : decode cX1_removeFromLine 72 = .ok (.getfield 11, 3) := by decide +kernel
theorem dX1_removeFromLine_75 : decode cX1_removeFromLine 75 = .ok (.arraylength, 1) := by decide +kernel
theorem dX1_removeFromLine_76 : decode cX1_removeFromLine 76 = .ok (.if_icmp .ge 13, 3) := by decide +kernel
theorem dX1_removeFromLine_79 : decode cX1_removeFromLine 79 = .ok (.aload_n 0, 1) := by decide +kernel
theorem dX1_removeFromLine_80 : decode cX1_removeFromLine 80 = .ok (.getfield 11, 3) := by decide +kernel
theorem dX1_removeFromLine_83 : decode cX1_removeFromLine 83 = .ok (.aload_n 0, 1) := by decide +kernel
theorem dX1_removeFromLine_84 : decode cX1_removeFromLine 84 = .ok (.getfield 19, 3) := by decide +kernel
theorem dX1_removeFromLine_87 : decode cX1_removeFromLine 87 = .ok (.aconst_null, 1) := by decide +kernel
theorem dX1_removeFromLine_88 : decode cX1_removeFromLine 88 = .ok (.aastore, 1) := by decide +kernel
theorem dX1_removeFromLine_89 : decode cX1_removeFromLine 89 = .ok (.return_, 1) := by decide +kernel
set_option maxRecDepth 20000 in
theorem ggX1_standBelow_X0_setTowards : GoodIn wsX1_standBelow wsX0_setTowards := goodIn_r _ [7, 8, 9, 10, 11, 18, 19, 20, 21, 22] (by decide +kernel) (by decide +kernel)
set_option maxRecDepth 20000 in
theorem gX1_standBelow_X0_setTowards : GoodIn wsX1_standBelow (wsV RX1 156 RX0 yX0_setTowards wsX0_setTowards) := goodIn_app (goodIn_of _ (by decide +kernel)) ggX1_standBelow_X0_setTowards
theorem dX1_standBelow_0 : decode cX1_standBelow 0 = .ok (.aload_n 1, 1) := by decide +kernel
theorem dX1_standBelow_1 : decode cX1_standBelow 1 = .ok (.ifnull 10, 3) := by decide +kernel
theorem dX1_standBelow_4 : decode cX1_standBelow 4 = .ok (.aload_n 1, 1) := by decide +kernel
theorem dX1_standBelow_5 : decode cX1_standBelow 5 = .ok (.iload_n 2, 1) := by decide +kernel
theorem dX1_standBelow_6 : decode cX1_standBelow 6 = .ok (.aload_n 3, 1) := by decide +kernel
theorem dX1_standBelow_7 : decode cX1_standBelow 7 = .ok (.invokevirtual 156, 3) := by decide +kernel
theorem dX1_standBelow_10 : decode cX1_standBelow 10 = .ok (.return_, 1) := by decide +kernel
theorem dX1_standBelow_11 : decode cX1_standBelow 11 = .ok (.aload_n 0, 1) := by decide +kernel
theorem dX1_standBelow_12 : decode cX1_standBelow 12 = .ok (.aload_n 3, 1) := by decide +kernel
theorem dX1_standBelow_13 : decode cX1_standBelow 13 = .ok (.putfield 77, 3) := by decide +kernel
theorem dX1_standBelow_16 : decode cX1_standBelow 16 = .ok (.aload_n 3, 1) := by decide +kernel
theorem dX1_standBelow_17 : decode cX1_standBelow 17 = .ok (.ifnull 8, 3) := by decide +kernel
theorem dX1_standBelow_20 : decode cX1_standBelow 20 = .ok (.aload_n 3, 1) := by decide +kernel
theorem dX1_standBelow_21 : decode cX1_standBelow 21 = .ok (.aconst_null, 1) := by decide +kernel
theorem dX1_standBelow_22 : decode cX1_standBelow 22 = .ok (.putfield 130, 3) := by decide +kernel
theorem dX1_standBelow_25 : decode cX1_standBelow 25 = .ok (.return_, 1) := by decide +kernel
theorem dX1_addToCompaniesAbove_0 : decode cX1_addToCompaniesAbove 0 = .ok (.aload_n 0, 1) := by decide +kernel
theorem dX1_addToCompaniesAbove_1 : decode cX1_addToCompaniesAbove 1 = .ok (.getfield 130, 3) := by decide +kernel
theorem dX1_addToCompaniesAbove_4 : decode cX1_addToCompaniesAbove 4 = .ok (.astore_n 2, 1) := by decide +kernel
theorem dX1_addToCompaniesAbove_5 : decode cX1_addToCompaniesAbove 5 = .ok (.aload_n 2, 1) := by decide +kernel
theorem dX1_addToCompaniesAbove_6 : decode cX1_addToCompaniesAbove 6 = .ok (.ifnull 21, 3) := by decide +kernel
theorem dX1_addToCompaniesAbove_9 : decode cX1_addToCompaniesAbove 9 = .ok (.aload_n 2, 1) := by decide +kernel
theorem dX1_addToCompaniesAbove_10 : decode cX1_addToCompaniesAbove 10 = .ok (.dup, 1) := by decide +kernel
theorem dX1_addToCompaniesAbove_11 : decode cX1_addToCompaniesAbove 11 = .ok (.getfield 147, 3) := by decide +kernel
theorem dX1_addToCompaniesAbove_14 : decode cX1_addToCompaniesAbove 14 = .ok (.iload_n 1, 1) := by decide +kernel
theorem dX1_addToCompaniesAbove_15 : decode cX1_addToCompaniesAbove 15 = .ok (.iadd, 1) := by decide +kernel
theorem dX1_addToCompaniesAbove_16 : decode cX1_addToCompaniesAbove 16 = .ok (.putfield 147, 3) := by decide +kernel
theorem dX1_addToCompaniesAbove_19 : decode cX1_addToCompaniesAbove 19 = .ok (.aload_n 2, 1) := by decide +kernel
theorem dX1_addToCompaniesAbove_20 : decode cX1_addToCompaniesAbove 20 = .ok (.getfield 130, 3) := by decide +kernel
theorem dX1_addToCompaniesAbove_23 : decode cX1_addToCompaniesAbove 23 = .ok (.astore_n 2, 1) := by decide +kernel
theorem dX1_addToCompaniesAbove_24 : decode cX1_addToCompaniesAbove 24 = .ok (.goto (-19), 3) := by decide +kernel
theorem dX1_addToCompaniesAbove_27 : decode cX1_addToCompaniesAbove 27 = .ok (.return_, 1) := by decide +kernel
set_option maxRecDepth 20000 in
theorem ggX1_removeFromRanks_X1_removeWithOneSide : GoodIn wsX1_removeFromRanks wsX1_removeWithOneSide := goodIn_r _ [10, 1, 2, 4, 5, 11, 12, 9, 13, 3, 14, 15, 16, 17, 18, 19, 20, 21, 22, 23, 24, 25, 26, 27, 31, 32, 33, 34, 35, 36, 37, 38, 39, 40, 41] (by decide +kernel) (by decide +kernel)
set_option maxRecDepth 20000 in
theorem gX1_removeFromRanks_X1_removeWithOneSide : GoodIn wsX1_removeFromRanks (wsV RX1 163 RX1 yX1_removeWithOneSide wsX1_removeWithOneSide) := goodIn_app (goodIn_of _ (by decide +kernel)) ggX1_removeFromRanks_X1_removeWithOneSide
set_option maxRecDepth 20000 in
theorem ggX1_removeFromRanks_X1_standBelow : GoodIn wsX1_removeFromRanks wsX1_standBelow := goodIn_r _ [17, 18, 4, 19, 20, 21, 22, 23, 24, 25, 26, 27, 36, 37, 38, 39, 40, 41, 31, 32, 33, 34, 35] (by decide +kernel) (by decide +kernel)
set_option maxRecDepth 20000 in
theorem gX1_removeFromRanks_X1_standBelow : GoodIn wsX1_removeFromRanks (wsV RX1 43 RX1 yX1_standBelow wsX1_standBelow) := goodIn_app (goodIn_of _ (by decide +kernel)) ggX1_removeFromRanks_X1_standBelow
set_option maxRecDepth 20000 in
theorem ggX1_removeFromRanks_X1_handOver : GoodIn wsX1_removeFromRanks wsX1_handOver := goodIn_r _ [30, 5, 19, 20, 21, 22, 23, 24, 25, 26, 27, 31, 32, 33, 34, 35] (by decide +kernel) (by decide +kernel)
set_option maxRecDepth 20000 in
theorem gX1_removeFromRanks_X1_handOver : GoodIn wsX1_removeFromRanks (va_wsS RX1 166 yX1_handOver wsX1_handOver) := goodIn_app (goodIn_of _ (by decide +kernel)) ggX1_removeFromRanks_X1_handOver
theorem dX1_removeFromRanks_0 : decode cX1_removeFromRanks 0 = .ok (.aload_n 1, 1) := by decide +kernel
theorem dX1_removeFromRanks_1 : decode cX1_removeFromRanks 1 = .ok (.getfield 150, 3) := by decide +kernel
theorem dX1_removeFromRanks_4 : decode cX1_removeFromRanks 4 = .ok (.ifnull 10, 3) := by decide +kernel
theorem dX1_removeFromRanks_7 : decode cX1_removeFromRanks 7 = .ok (.aload_n 1, 1) := by decide +kernel
theorem dX1_removeFromRanks_8 : decode cX1_removeFromRanks 8 = .ok (.getfield 160, 3) := by decide +kernel
theorem dX1_removeFromRanks_11 : decode cX1_removeFromRanks 11 = .ok (.ifnonnull 9, 3) := by decide +kernel
theorem dX1_removeFromRanks_14 : decode cX1_removeFromRanks 14 = .ok (.aload_n 0, 1) := by decide +kernel
theorem dX1_removeFromRanks_15 : decode cX1_removeFromRanks 15 = .ok (.aload_n 1, 1) := by decide +kernel
theorem dX1_removeFromRanks_16 : decode cX1_removeFromRanks 16 = .ok (.invokevirtual 163, 3) := by decide +kernel
theorem dX1_removeFromRanks_19 : decode cX1_removeFromRanks 19 = .ok (.return_, 1) := by decide +kernel
theorem dX1_removeFromRanks_20 : decode cX1_removeFromRanks 20 = .ok (.aload_n 1, 1) := by decide +kernel
theorem dX1_removeFromRanks_21 : decode cX1_removeFromRanks 21 = .ok (.getfield 160, 3) := by decide +kernel
theorem dX1_removeFromRanks_24 : decode cX1_removeFromRanks 24 = .ok (.astore_n 2, 1) := by decide +kernel
theorem dX1_removeFromRanks_25 : decode cX1_removeFromRanks 25 = .ok (.aload_n 2, 1) := by decide +kernel
theorem dX1_removeFromRanks_26 : decode cX1_removeFromRanks 26 = .ok (.getfield 150, 3) := by decide +kernel
theorem dX1_removeFromRanks_29 : decode cX1_removeFromRanks 29 = .ok (.ifnull 11, 3) := by decide +kernel
theorem dX1_removeFromRanks_32 : decode cX1_removeFromRanks 32 = .ok (.aload_n 2, 1) := by decide +kernel
theorem dX1_removeFromRanks_33 : decode cX1_removeFromRanks 33 = .ok (.getfield 150, 3) := by decide +kernel
theorem dX1_removeFromRanks_36 : decode cX1_removeFromRanks 36 = .ok (.astore_n 2, 1) := by decide +kernel
theorem dX1_removeFromRanks_37 : decode cX1_removeFromRanks 37 = .ok (.goto (-12), 3) := by decide +kernel
theorem dX1_removeFromRanks_40 : decode cX1_removeFromRanks 40 = .ok (.aload_n 0, 1) := by decide +kernel
theorem dX1_removeFromRanks_41 : decode cX1_removeFromRanks 41 = .ok (.aload_n 2, 1) := by decide +kernel
theorem dX1_removeFromRanks_42 : decode cX1_removeFromRanks 42 = .ok (.invokevirtual 163, 3) := by decide +kernel
theorem dX1_removeFromRanks_45 : decode cX1_removeFromRanks 45 = .ok (.aload_n 2, 1) := by decide +kernel
theorem dX1_removeFromRanks_46 : decode cX1_removeFromRanks 46 = .ok (.aload_n 1, 1) := by decide +kernel
theorem dX1_removeFromRanks_47 : decode cX1_removeFromRanks 47 = .ok (.getfield 147, 3) := by decide +kernel
theorem dX1_removeFromRanks_50 : decode cX1_removeFromRanks 50 = .ok (.putfield 147, 3) := by decide +kernel
theorem dX1_removeFromRanks_53 : decode cX1_removeFromRanks 53 = .ok (.aload_n 2, 1) := by decide +kernel
theorem dX1_removeFromRanks_54 : decode cX1_removeFromRanks 54 = .ok (.aconst_null, 1) := by decide +kernel
theorem dX1_removeFromRanks_55 : decode cX1_removeFromRanks 55 = .ok (.putfield 150, 3) := by decide +kernel
theorem dX1_removeFromRanks_58 : decode cX1_removeFromRanks 58 = .ok (.aload_n 2, 1) := by decide +kernel
theorem dX1_removeFromRanks_59 : decode cX1_removeFromRanks 59 = .ok (.aconst_null, 1) := by decide +kernel
theorem dX1_removeFromRanks_60 : decode cX1_removeFromRanks 60 = .ok (.putfield 160, 3) := by decide +kernel
theorem dX1_removeFromRanks_63 : decode cX1_removeFromRanks 63 = .ok (.aload_n 0, 1) := by decide +kernel
theorem dX1_removeFromRanks_64 : decode cX1_removeFromRanks 64 = .ok (.aload_n 1, 1) := by decide +kernel
theorem dX1_removeFromRanks_65 : decode cX1_removeFromRanks 65 = .ok (.getfield 130, 3) := by decide +kernel
theorem dX1_removeFromRanks_68 : decode cX1_removeFromRanks 68 = .ok (.aload_n 1, 1) := by decide +kernel
theorem dX1_removeFromRanks_69 : decode cX1_removeFromRanks 69 = .ok (.getfield 100, 3) := by decide +kernel
theorem dX1_removeFromRanks_72 : decode cX1_removeFromRanks 72 = .ok (.aload_n 2, 1) := by decide +kernel
theorem dX1_removeFromRanks_73 : decode cX1_removeFromRanks 73 = .ok (.invokevirtual 43, 3) := by decide +kernel
theorem dX1_removeFromRanks_76 : decode cX1_removeFromRanks 76 = .ok (.aload_n 1, 1) := by decide +kernel
theorem dX1_removeFromRanks_77 : decode cX1_removeFromRanks 77 = .ok (.getfield 150, 3) := by decide +kernel
theorem dX1_removeFromRanks_80 : decode cX1_removeFromRanks 80 = .ok (.aload_n 2, 1) := by decide +kernel
theorem dX1_removeFromRanks_81 : decode cX1_removeFromRanks 81 = .ok (.invokestatic 166, 3) := by decide +kernel
theorem dX1_removeFromRanks_84 : decode cX1_removeFromRanks 84 = .ok (.aload_n 1, 1) := by decide +kernel
theorem dX1_removeFromRanks_85 : decode cX1_removeFromRanks 85 = .ok (.getfield 160, 3) := by decide +kernel
theorem dX1_removeFromRanks_88 : decode cX1_removeFromRanks 88 = .ok (.aload_n 2, 1) := by decide +kernel
theorem dX1_removeFromRanks_89 : decode cX1_removeFromRanks 89 = .ok (.invokestatic 166, 3) := by decide +kernel
theorem dX1_removeFromRanks_92 : decode cX1_removeFromRanks 92 = .ok (.return_, 1) := by decide +kernel
set_option maxRecDepth 20000 in
theorem ggX1_removeWithOneSide_X1_addToCompaniesAbove : GoodIn wsX1_removeWithOneSide wsX1_addToCompaniesAbove := goodIn_r _ [8, 3, 9, 24, 25, 26, 27, 28] (by decide +kernel) (by decide +kernel)
set_option maxRecDepth 20000 in
theorem gX1_removeWithOneSide_X1_addToCompaniesAbove : GoodIn wsX1_removeWithOneSide (va_wsS RX1 47 yX1_addToCompaniesAbove wsX1_addToCompaniesAbove) := goodIn_app (goodIn_of _ (by decide +kernel)) ggX1_removeWithOneSide_X1_addToCompaniesAbove
set_option maxRecDepth 20000 in
theorem ggX1_removeWithOneSide_X1_standBelow : GoodIn wsX1_removeWithOneSide wsX1_standBelow := goodIn_r _ [13, 14, 3, 15, 16, 17, 18, 19, 20, 21, 22, 23, 29, 30, 31, 32, 33, 34, 24, 25, 26, 27, 28] (by decide +kernel) (by decide +kernel)
set_option maxRecDepth 20000 in
theorem gX1_removeWithOneSide_X1_standBelow : GoodIn wsX1_removeWithOneSide (wsV RX1 43 RX1 yX1_standBelow wsX1_standBelow) := goodIn_app (goodIn_of _ (by decide +kernel)) ggX1_removeWithOneSide_X1_standBelow
theorem dX1_removeWithOneSide_0 : decode cX1_removeWithOneSide 0 = .ok (.aload_n 1, 1) := by decide +kernel
theorem dX1_removeWithOneSide_1 : decode cX1_removeWithOneSide 1 = .ok (.getfield 150, 3) := by decide +kernel
theorem dX1_removeWithOneSide_4 : decode cX1_removeWithOneSide 4 = .ok (.ifnull 10, 3) := by decide +kernel
theorem dX1_removeWithOneSide_7 : decode cX1_removeWithOneSide 7 = .ok (.aload_n 1, 1) := by decide +kernel
theorem dX1_removeWithOneSide_8 : decode cX1_removeWithOneSide 8 = .ok (.getfield 150, 3) := by decide +kernel
theorem dX1_removeWithOneSide_11 : decode cX1_removeWithOneSide 11 = .ok (.goto 7, 3) := by decide +kernel
theorem dX1_removeWithOneSide_14 : decode cX1_removeWithOneSide 14 = .ok (.aload_n 1, 1) := by decide +kernel
theorem dX1_removeWithOneSide_15 : decode cX1_removeWithOneSide 15 = .ok (.getfield 160, 3) := by decide +kernel
theorem dX1_removeWithOneSide_18 : decode cX1_removeWithOneSide 18 = .ok (.astore_n 2, 1) := by decide +kernel
theorem dX1_removeWithOneSide_19 : decode cX1_removeWithOneSide 19 = .ok (.aload_n 1, 1) := by decide +kernel
theorem dX1_removeWithOneSide_20 : decode cX1_removeWithOneSide 20 = .ok (.iconst (-1), 1) := by decide +kernel
theorem dX1_removeWithOneSide_21 : decode cX1_removeWithOneSide 21 = .ok (.invokestatic 47, 3) := by decide +kernel
theorem dX1_removeWithOneSide_24 : decode cX1_removeWithOneSide 24 = .ok (.aload_n 0, 1) := by decide +kernel
theorem dX1_removeWithOneSide_25 : decode cX1_removeWithOneSide 25 = .ok (.aload_n 1, 1) := by decide +kernel
theorem dX1_removeWithOneSide_26 : decode cX1_removeWithOneSide 26 = .ok (.getfield 130, 3) := by decide +kernel
theorem dX1_removeWithOneSide_29 : decode cX1_removeWithOneSide 29 = .ok (.aload_n 1, 1) := by decide +kernel
theorem dX1_removeWithOneSide_30 : decode cX1_removeWithOneSide 30 = .ok (.getfield 100, 3) := by decide +kernel
theorem dX1_removeWithOneSide_33 : decode cX1_removeWithOneSide 33 = .ok (.aload_n 2, 1) := by decide +kernel
theorem dX1_removeWithOneSide_34 : decode cX1_removeWithOneSide 34 = .ok (.invokevirtual 43, 3) := by decide +kernel
theorem dX1_removeWithOneSide_37 : decode cX1_removeWithOneSide 37 = .ok (.return_, 1) := by decide +kernel
set_option maxRecDepth 20000 in
theorem ggX1_handOver_X0_setTowards : GoodIn wsX1_handOver wsX0_setTowards := goodIn_r _ [6, 7, 8, 9, 10, 11, 12, 13, 14, 15] (by decide +kernel) (by decide +kernel)
set_option maxRecDepth 20000 in
theorem gX1_handOver_X0_setTowards : GoodIn wsX1_handOver (wsV RX1 156 RX0 yX0_setTowards wsX0_setTowards) := goodIn_app (goodIn_of _ (by decide +kernel)) ggX1_handOver_X0_setTowards
theorem dX1_handOver_0 : decode cX1_handOver 0 = .ok (.aload_n 0, 1) := by decide +kernel
theorem dX1_handOver_1 : decode cX1_handOver 1 = .ok (.ifnull 12, 3) := by decide +kernel
theorem dX1_handOver_4 : decode cX1_handOver 4 = .ok (.aload_n 1, 1) := by decide +kernel
theorem dX1_handOver_5 : decode cX1_handOver 5 = .ok (.aload_n 0, 1) := by decide +kernel
theorem dX1_handOver_6 : decode cX1_handOver 6 = .ok (.getfield 100, 3) := by decide +kernel
theorem dX1_handOver_9 : decode cX1_handOver 9 = .ok (.aload_n 0, 1) := by decide +kernel
theorem dX1_handOver_10 : decode cX1_handOver 10 = .ok (.invokevirtual 156, 3) := by decide +kernel
theorem dX1_handOver_13 : decode cX1_handOver 13 = .ok (.return_, 1) := by decide +kernel
theorem dX1_isCrooked_0 : decode cX1_isCrooked 0 = .ok (.iload_n 0, 1) := by decide +kernel
theorem dX1_isCrooked_1 : decode cX1_isCrooked 1 = .ok (.iconst 1, 1) := by decide +kernel
theorem dX1_isCrooked_2 : decode cX1_isCrooked 2 = .ok (.iadd, 1) := by decide +kernel
theorem dX1_isCrooked_3 : decode cX1_isCrooked 3 = .ok (.iload_n 1, 1) := by decide +kernel
theorem dX1_isCrooked_4 : decode cX1_isCrooked 4 = .ok (.iadd, 1) := by decide +kernel
theorem dX1_isCrooked_5 : decode cX1_isCrooked 5 = .ok (.istore_n 2, 1) := by decide +kernel
theorem dX1_isCrooked_6 : decode cX1_isCrooked 6 = .ok (.iconst 3, 1) := by decide +kernel
theorem dX1_isCrooked_7 : decode cX1_isCrooked 7 = .ok (.iload_n 0, 1) := by decide +kernel
theorem dX1_isCrooked_8 : decode cX1_isCrooked 8 = .ok (.imul, 1) := by decide +kernel
theorem dX1_isCrooked_9 : decode cX1_isCrooked 9 = .ok (.iconst 2, 1) := by decide +kernel
theorem dX1_isCrooked_10 : decode cX1_isCrooked 10 = .ok (.iload_n 2, 1) := by decide +kernel
theorem dX1_isCrooked_11 : decode cX1_isCrooked 11 = .ok (.imul, 1) := by decide +kernel
theorem dX1_isCrooked_12 : decode cX1_isCrooked 12 = .ok (.if_icmp .gt 12, 3) := by decide +kernel
theorem dX1_isCrooked_15 : decode cX1_isCrooked 15 = .ok (.iconst 3, 1) := by decide +kernel
theorem dX1_isCrooked_16 : decode cX1_isCrooked 16 = .ok (.iload_n 1, 1) := by decide +kernel
theorem dX1_isCrooked_17 : decode cX1_isCrooked 17 = .ok (.imul, 1) := by decide +kernel
theorem dX1_isCrooked_18 : decode cX1_isCrooked 18 = .ok (.iconst 2, 1) := by decide +kernel
theorem dX1_isCrooked_19 : decode cX1_isCrooked 19 = .ok (.iload_n 2, 1) := by decide +kernel
theorem dX1_isCrooked_20 : decode cX1_isCrooked 20 = .ok (.imul, 1) := by decide +kernel
theorem dX1_isCrooked_21 : decode cX1_isCrooked 21 = .ok (.if_icmp .le 7, 3) := by decide +kernel
theorem dX1_isCrooked_24 : decode cX1_isCrooked 24 = .ok (.iconst 1, 1) := by decide +kernel
theorem dX1_isCrooked_25 : decode cX1_isCrooked 25 = .ok (.goto 4, 3) := by decide +kernel
theorem dX1_isCrooked_28 : decode cX1_isCrooked 28 = .ok (.iconst 0, 1) := by decide +kernel
theorem dX1_isCrooked_29 : decode cX1_isCrooked 29 = .ok (.ireturn, 1) := by decide +kernel
theorem dX1_allowedDepth_0 : decode cX1_allowedDepth 0 = .ok (.lconst 1, 1) := by decide +kernel
theorem dX1_allowedDepth_1 : decode cX1_allowedDepth 1 = .ok (.lstore_n 1, 1) := by decide +kernel
theorem dX1_allowedDepth_2 : decode cX1_allowedDepth 2 = .ok (.iload_n 0, 1) := by decide +kernel
theorem dX1_allowedDepth_3 : decode cX1_allowedDepth 3 = .ok (.i2l, 1) := by decide +kernel
theorem dX1_allowedDepth_4 : decode cX1_allowedDepth 4 = .ok (.lstore_n 3, 1) := by decide +kernel
theorem dX1_allowedDepth_5 : decode cX1_allowedDepth 5 = .ok (.iconst (-1), 1) := by decide +kernel
theorem dX1_allowedDepth_6 : decode cX1_allowedDepth 6 = .ok (.istore 5, 2) := by decide +kernel
theorem dX1_allowedDepth_8 : decode cX1_allowedDepth 8 = .ok (.iload 5, 2) := by decide +kernel
theorem dX1_allowedDepth_10 : decode cX1_allowedDepth 10 = .ok (.bipush 40, 2) := by decide +kernel
theorem dX1_allowedDepth_12 : decode cX1_allowedDepth 12 = .ok (.if_icmp .ge 27, 3) := by decide +kernel
theorem dX1_allowedDepth_15 : decode cX1_allowedDepth 15 = .ok (.lload_n 1, 1) := by decide +kernel
theorem dX1_allowedDepth_16 : decode cX1_allowedDepth 16 = .ok (.lload_n 3, 1) := by decide +kernel
theorem dX1_allowedDepth_17 : decode cX1_allowedDepth 17 = .ok (.lcmp, 1) := by decide +kernel
theorem dX1_allowedDepth_18 : decode cX1_allowedDepth 18 = .ok (.ifCond .gt 21, 3) := by decide +kernel
theorem dX1_allowedDepth_21 : decode cX1_allowedDepth 21 = .ok (.iinc 5 1, 3) := by decide +kernel
theorem dX1_allowedDepth_24 : decode cX1_allowedDepth 24 = .ok (.lload_n 1, 1) := by decide +kernel
theorem dX1_allowedDepth_25 : decode cX1_allowedDepth 25 = .ok (.ldc2_w 170, 3) := by decide +kernel
theorem dX1_allowedDepth_28 : decode cX1_allowedDepth 28 = .ok (.lmul, 1) := by decide +kernel
theorem dX1_allowedDepth_29 : decode cX1_allowedDepth 29 = .ok (.lstore_n 1, 1) := by decide +kernel
theorem dX1_allowedDepth_30 : decode cX1_allowedDepth 30 = .ok (.lload_n 3, 1) := by decide +kernel
theorem dX1_allowedDepth_31 : decode cX1_allowedDepth 31 = .ok (.ldc2_w 172, 3) := by decide +kernel
theorem dX1_allowedDepth_34 : decode cX1_allowedDepth 34 = .ok (.lmul, 1) := by decide +kernel
theorem dX1_allowedDepth_35 : decode cX1_allowedDepth 35 = .ok (.lstore_n 3, 1) := by decide +kernel
theorem dX1_allowedDepth_36 : decode cX1_allowedDepth 36 = .ok (.goto (-28), 3) := by decide +kernel
theorem dX1_allowedDepth_39 : decode cX1_allowedDepth 39 = .ok (.iload 5, 2) := by decide +kernel
theorem dX1_allowedDepth_41 : decode cX1_allowedDepth 41 = .ok (.ireturn, 1) := by decide +kernel
set_option maxRecDepth 20000 in
theorem ggX1_firstCrookedFrom_X0_hasCrookedCompany : GoodIn wsX1_firstCrookedFrom wsX0_hasCrookedCompany := goodIn_r _ [6, 7, 8, 9, 10, 11, 12, 13, 14, 15, 16, 17, 18, 19] (by decide +kernel) (by decide +kernel)
set_option maxRecDepth 20000 in
theorem gX1_firstCrookedFrom_X0_hasCrookedCompany : GoodIn wsX1_firstCrookedFrom (wsV RX1 174 RX0 yX0_hasCrookedCompany wsX0_hasCrookedCompany) := goodIn_app (goodIn_of _ (by decide +kernel)) ggX1_firstCrookedFrom_X0_hasCrookedCompany
theorem dX1_firstCrookedFrom_0 : decode cX1_firstCrookedFrom 0 = .ok (.aload_n 0, 1) := by decide +kernel
theorem dX1_firstCrookedFrom_1 : decode cX1_firstCrookedFrom 1 = .ok (.astore_n 1, 1) := by decide +kernel
theorem dX1_firstCrookedFrom_2 : decode cX1_firstCrookedFrom 2 = .ok (.aload_n 1, 1) := by decide +kernel
theorem dX1_firstCrookedFrom_3 : decode cX1_firstCrookedFrom 3 = .ok (.ifnull 18, 3) := by decide +kernel
theorem dX1_firstCrookedFrom_6 : decode cX1_firstCrookedFrom 6 = .ok (.aload_n 1, 1) := by decide +kernel
theorem dX1_firstCrookedFrom_7 : decode cX1_firstCrookedFrom 7 = .ok (.invokevirtual 174, 3) := by decide +kernel
theorem dX1_firstCrookedFrom_10 : decode cX1_firstCrookedFrom 10 = .ok (.ifCond .ne 11, 3) := by decide +kernel
theorem dX1_firstCrookedFrom_13 : decode cX1_firstCrookedFrom 13 = .ok (.aload_n 1, 1) := by decide +kernel
theorem dX1_firstCrookedFrom_14 : decode cX1_firstCrookedFrom 14 = .ok (.getfield 130, 3) := by decide +kernel
theorem dX1_firstCrookedFrom_17 : decode cX1_firstCrookedFrom 17 = .ok (.astore_n 1, 1) := by decide +kernel
theorem dX1_firstCrookedFrom_18 : decode cX1_firstCrookedFrom 18 = .ok (.goto (-16), 3) := by decide +kernel
theorem dX1_firstCrookedFrom_21 : decode cX1_firstCrookedFrom 21 = .ok (.aload_n 1, 1) := by decide +kernel
theorem dX1_firstCrookedFrom_22 : decode cX1_firstCrookedFrom 22 = .ok (.areturn, 1) := by decide +kernel
set_option maxRecDepth 20000 in
theorem ggX1_drawUp_X1_smallerThan : GoodIn wsX1_drawUp wsX1_smallerThan := goodIn_r _ [14, 15, 2, 4, 16, 17, 13, 18, 3, 19, 20, 21, 22, 23, 24, 25, 26, 48, 49, 50, 51, 52, 53, 43, 44, 45, 46, 47] (by decide +kernel) (by decide +kernel)
set_option maxRecDepth 20000 in
theorem gX1_drawUp_X1_smallerThan : GoodIn wsX1_drawUp (wsV RX1 103 RX1 yX1_smallerThan wsX1_smallerThan) := goodIn_app (goodIn_of _ (by decide +kernel)) ggX1_drawUp_X1_smallerThan
set_option maxRecDepth 20000 in
theorem ggX1_drawUp_X1_companyOf : GoodIn wsX1_drawUp wsX1_companyOf := goodIn_r _ [18, 3, 43, 44, 45, 46, 47] (by decide +kernel) (by decide +kernel)
set_option maxRecDepth 20000 in
theorem gX1_drawUp_X1_companyOf : GoodIn wsX1_drawUp (va_wsS RX1 153 yX1_companyOf wsX1_companyOf) := goodIn_app (goodIn_of _ (by decide +kernel)) ggX1_drawUp_X1_companyOf
set_option maxRecDepth 20000 in
theorem ggX1_drawUp_X1_halve : GoodIn wsX1_drawUp wsX1_halve := goodIn_r _ [29, 3, 4, 30, 27, 28, 13, 31, 32, 33, 2, 34, 35, 36, 22, 37, 24, 25, 26, 38, 43, 44, 45, 46, 47] (by decide +kernel) (by decide +kernel)
set_option maxRecDepth 20000 in
theorem gX1_drawUp_X1_halve : GoodIn wsX1_drawUp (va_wsS RX1 178 yX1_halve wsX1_halve) := goodIn_app (goodIn_of _ (by decide +kernel)) ggX1_drawUp_X1_halve
set_option maxRecDepth 20000 in
theorem ggX1_drawUp_X1_standBelow : GoodIn wsX1_drawUp wsX1_standBelow := goodIn_r _ [42, 15, 1, 34, 35, 36, 22, 37, 24, 25, 26, 38, 48, 49, 50, 51, 52, 53, 43, 44, 45, 46, 47] (by decide +kernel) (by decide +kernel)
set_option maxRecDepth 20000 in
theorem gX1_drawUp_X1_standBelow : GoodIn wsX1_drawUp (wsV RX1 43 RX1 yX1_standBelow wsX1_standBelow) := goodIn_app (goodIn_of _ (by decide +kernel)) ggX1_drawUp_X1_standBelow
theorem dX1_drawUp_0 : decode cX1_drawUp 0 = .ok (.aload_n 1, 1) := by decide +kernel
theorem dX1_drawUp_1 : decode cX1_drawUp 1 = .ok (.ifnonnull 5, 3) := by decide +kernel
theorem dX1_drawUp_4 : decode cX1_drawUp 4 = .ok (.aconst_null, 1) := by decide +kernel
theorem dX1_drawUp_5 : decode cX1_drawUp 5 = .ok (.areturn, 1) := by decide +kernel
theorem dX1_drawUp_6 : decode cX1_drawUp 6 = .ok (.aload_n 1, 1) := by decide +kernel
theorem dX1_drawUp_7 : decode cX1_drawUp 7 = .ok (.getfield 130, 3) := by decide +kernel
theorem dX1_drawUp_10 : decode cX1_drawUp 10 = .ok (.astore_n 2, 1) := by decide +kernel
theorem dX1_drawUp_11 : decode cX1_drawUp 11 = .ok (.aload_n 1, 1) := by decide +kernel
theorem dX1_drawUp_12 : decode cX1_drawUp 12 = .ok (.getfield 100, 3) := by decide +kernel
theorem dX1_drawUp_15 : decode cX1_drawUp 15 = .ok (.istore_n 3, 1) := by decide +kernel
theorem dX1_drawUp_16 : decode cX1_drawUp 16 = .ok (.aload_n 1, 1) := by decide +kernel
theorem dX1_drawUp_17 : decode cX1_drawUp 17 = .ok (.getfield 147, 3) := by decide +kernel
theorem dX1_drawUp_20 : decode cX1_drawUp 20 = .ok (.istore 4, 2) := by decide +kernel
theorem dX1_drawUp_22 : decode cX1_drawUp 22 = .ok (.aload_n 0, 1) := by decide +kernel
theorem dX1_drawUp_23 : decode cX1_drawUp 23 = .ok (.iload_n 3, 1) := by decide +kernel
theorem dX1_drawUp_24 : decode cX1_drawUp 24 = .ok (.invokevirtual 103, 3) := by decide +kernel
theorem dX1_drawUp_27 : decode cX1_drawUp 27 = .ok (.aload_n 1, 1) := by decide +kernel
theorem dX1_drawUp_28 : decode cX1_drawUp 28 = .ok (.getfield 150, 3) := by decide +kernel
theorem dX1_drawUp_31 : decode cX1_drawUp 31 = .ok (.invokestatic 153, 3) := by decide +kernel
theorem dX1_drawUp_34 : decode cX1_drawUp 34 = .ok (.isub, 1) := by decide +kernel
theorem dX1_drawUp_35 : decode cX1_drawUp 35 = .ok (.istore 5, 2) := by decide +kernel
theorem dX1_drawUp_37 : decode cX1_drawUp 37 = .ok (.aload_n 0, 1) := by decide +kernel
theorem dX1_drawUp_38 : decode cX1_drawUp 38 = .ok (.getfield 11, 3) := by decide +kernel
theorem dX1_drawUp_41 : decode cX1_drawUp 41 = .ok (.iload 5, 2) := by decide +kernel
theorem dX1_drawUp_43 : decode cX1_drawUp 43 = .ok (.iload 4, 2) := by decide +kernel
theorem dX1_drawUp_45 : decode cX1_drawUp 45 = .ok (.iconst 0, 1) := by decide +kernel
theorem dX1_drawUp_46 : decode cX1_drawUp 46 = .ok (.invokestatic 178, 3) := by decide +kernel
theorem dX1_drawUp_49 : decode cX1_drawUp 49 = .ok (.astore 6, 2) := by decide +kernel
theorem dX1_drawUp_51 : decode cX1_drawUp 51 = .ok (.aload_n 0, 1) := by decide +kernel
theorem dX1_drawUp_52 : decode cX1_drawUp 52 = .ok (.aload_n 2, 1) := by decide +kernel
theorem dX1_drawUp_53 : decode cX1_drawUp 53 = .ok (.iload_n 3, 1) := by decide +kernel
theorem dX1_drawUp_54 : decode cX1_drawUp 54 = .ok (.aload 6, 2) := by decide +kernel
theorem dX1_drawUp_56 : decode cX1_drawUp 56 = .ok (.invokevirtual 43, 3) := by decide +kernel
theorem dX1_drawUp_59 : decode cX1_drawUp 59 = .ok (.aload_n 0, 1) := by decide +kernel
theorem dX1_drawUp_60 : decode cX1_drawUp 60 = .ok (.dup, 1) := by decide +kernel
theorem dX1_drawUp_61 : decode cX1_drawUp 61 = .ok (.getfield 182, 3) := by decide +kernel
theorem dX1_drawUp_64 : decode cX1_drawUp 64 = .ok (.iconst 1, 1) := by decide +kernel
theorem dX1_drawUp_65 : decode cX1_drawUp 65 = .ok (.iadd, 1) := by decide +kernel
theorem dX1_drawUp_66 : decode cX1_drawUp 66 = .ok (.putfield 182, 3) := by decide +kernel
theorem dX1_drawUp_69 : decode cX1_drawUp 69 = .ok (.aload_n 0, 1) := by decide +kernel
theorem dX1_drawUp_70 : decode cX1_drawUp 70 = .ok (.dup, 1) := by decide +kernel
theorem dX1_drawUp_71 : decode cX1_drawUp 71 = .ok (.getfield 185, 3) := by decide +kernel
theorem dX1_drawUp_74 : decode cX1_drawUp 74 = .ok (.iload 4, 2) := by decide +kernel
theorem dX1_drawUp_76 : decode cX1_drawUp 76 = .ok (.iadd, 1) := by decide +kernel
theorem dX1_drawUp_77 : decode cX1_drawUp 77 = .ok (.putfield 185, 3) := by decide +kernel
theorem dX1_drawUp_80 : decode cX1_drawUp 80 = .ok (.aload_n 2, 1) := by decide +kernel
theorem dX1_drawUp_81 : decode cX1_drawUp 81 = .ok (.ifnonnull 11, 3) := by decide +kernel
theorem dX1_drawUp_84 : decode cX1_drawUp 84 = .ok (.aload_n 0, 1) := by decide +kernel
theorem dX1_drawUp_85 : decode cX1_drawUp 85 = .ok (.aload_n 0, 1) := by decide +kernel
theorem dX1_drawUp_86 : decode cX1_drawUp 86 = .ok (.getfield 19, 3) := by decide +kernel
theorem dX1_drawUp_89 : decode cX1_drawUp 89 = .ok (.putfield 51, 3) := by decide +kernel
theorem dX1_drawUp_92 : decode cX1_drawUp 92 = .ok (.aload 6, 2) := by decide +kernel
theorem dX1_drawUp_94 : decode cX1_drawUp 94 = .ok (.areturn, 1) := by decide +kernel
set_option maxRecDepth 20000 in
theorem ggX1_halve_X1_halve : GoodIn wsX1_halve wsX1_halve := goodIn_r _ [0, 1, 2, 3, 4, 5, 6, 7, 8, 9, 10, 11, 12, 13, 14, 15, 16, 17, 18, 19, 20, 21, 22, 23, 24] (by decide +kernel) (by decide +kernel)
set_option maxRecDepth 20000 in
theorem gX1_halve_X1_halve : GoodIn wsX1_halve (va_wsS RX1 178 yX1_halve wsX1_halve) := goodIn_app (goodIn_of _ (by decide +kernel)) ggX1_halve_X1_halve
set_option maxRecDepth 20000 in
theorem ggX1_halve_X1_handOver : GoodIn wsX1_halve wsX1_handOver := goodIn_r _ [9, 10, 11, 12, 13, 14, 15, 16, 17, 18, 19, 20, 21, 22, 23, 24] (by decide +kernel) (by decide +kernel)
set_option maxRecDepth 20000 in
theorem gX1_halve_X1_handOver : GoodIn wsX1_halve (va_wsS RX1 166 yX1_handOver wsX1_handOver) := goodIn_app (goodIn_of _ (by decide +kernel)) ggX1_halve_X1_handOver
theorem dX1_halve_0 : decode cX1_halve 0 = .ok (.iload_n 2, 1) := by decide +kernel
theorem dX1_halve_1 : decode cX1_halve 1 = .ok (.ifCond .le 9, 3) := by decide +kernel
theorem dX1_halve_4 : decode cX1_halve 4 = .ok (.iload_n 3, 1) := by decide +kernel
theorem dX1_halve_5 : decode cX1_halve 5 = .ok (.bipush 40, 2) := by decide +kernel
theorem dX1_halve_7 : decode cX1_halve 7 = .ok (.if_icmp .le 5, 3) := by decide +kernel
theorem dX1_halve_10 : decode cX1_halve 10 = .ok (.aconst_null, 1) := by decide +kernel
theorem dX1_halve_11 : decode cX1_halve 11 = .ok (.areturn, 1) := by decide +kernel
theorem dX1_halve_12 : decode cX1_halve 12 = .ok (.iload_n 2, 1) := by decide +kernel
theorem dX1_halve_13 : decode cX1_halve 13 = .ok (.iconst 1, 1) := by decide +kernel
theorem dX1_halve_14 : decode cX1_halve 14 = .ok (.isub, 1) := by decide +kernel
theorem dX1_halve_15 : decode cX1_halve 15 = .ok (.iconst 2, 1) := by decide +kernel
theorem dX1_halve_16 : decode cX1_halve 16 = .ok (.idiv, 1) := by decide +kernel
theorem dX1_halve_17 : decode cX1_halve 17 = .ok (.istore 4, 2) := by decide +kernel
theorem dX1_halve_19 : decode cX1_halve 19 = .ok (.iload_n 1, 1) := by decide +kernel
theorem dX1_halve_20 : decode cX1_halve 20 = .ok (.iload 4, 2) := by decide +kernel
theorem dX1_halve_22 : decode cX1_halve 22 = .ok (.iadd, 1) := by decide +kernel
theorem dX1_halve_23 : decode cX1_halve 23 = .ok (.istore 5, 2) := by decide +kernel
theorem dX1_halve_25 : decode cX1_halve 25 = .ok (.aload_n 0, 1) := by decide +kernel
theorem dX1_halve_26 : decode cX1_halve 26 = .ok (.ifnull 22, 3) := by decide +kernel
theorem dX1_halve_29 : decode cX1_halve 29 = .ok (.iload 5, 2) := by decide +kernel
theorem dX1_halve_31 : decode cX1_halve 31 = .ok (.ifCond .lt 17, 3) := by decide +kernel
theorem dX1_halve_34 : decode cX1_halve 34 = .ok (.iload 5, 2) := by decide +kernel
theorem dX1_halve_36 : decode cX1_halve 36 = .ok (.aload_n 0, 1) := by decide +kernel
theorem dX1_halve_37 : decode cX1_halve 37 = .ok (.arraylength, 1) := by decide +kernel
theorem dX1_halve_38 : decode cX1_halve 38 = .ok (.if_icmp .ge 10, 3) := by decide +kernel
theorem dX1_halve_41 : decode cX1_halve 41 = .ok (.aload_n 0, 1) := by decide +kernel
theorem dX1_halve_42 : decode cX1_halve 42 = .ok (.iload 5, 2) := by decide +kernel
theorem dX1_halve_44 : decode cX1_halve 44 = .ok (.aaload, 1) := by decide +kernel
theorem dX1_halve_45 : decode cX1_halve 45 = .ok (.ifnonnull 5, 3) := by decide +kernel
theorem dX1_halve_48 : decode cX1_halve 48 = .ok (.aconst_null, 1) := by decide +kernel
theorem dX1_halve_49 : decode cX1_halve 49 = .ok (.areturn, 1) := by decide +kernel
theorem dX1_halve_50 : decode cX1_halve 50 = .ok (.aload_n 0, 1) := by decide +kernel
theorem dX1_halve_51 : decode cX1_halve 51 = .ok (.iload 5, 2) := by decide +kernel
theorem dX1_halve_53 : decode cX1_halve 53 = .ok (.aaload, 1) := by decide +kernel
theorem dX1_halve_54 : decode cX1_halve 54 = .ok (.astore 6, 2) := by decide +kernel
theorem dX1_halve_56 : decode cX1_halve 56 = .ok (.aload 6, 2) := by decide +kernel
theorem dX1_halve_58 : decode cX1_halve 58 = .ok (.iload_n 2, 1) := by decide +kernel
theorem dX1_halve_59 : decode cX1_halve 59 = .ok (.putfield 147, 3) := by decide +kernel
theorem dX1_halve_62 : decode cX1_halve 62 = .ok (.aload 6, 2) := by decide +kernel
theorem dX1_halve_64 : decode cX1_halve 64 = .ok (.aconst_null, 1) := by decide +kernel
theorem dX1_halve_65 : decode cX1_halve 65 = .ok (.putfield 150, 3) := by decide +kernel
theorem dX1_halve_68 : decode cX1_halve 68 = .ok (.aload 6, 2) := by decide +kernel
theorem dX1_halve_70 : decode cX1_halve 70 = .ok (.aconst_null, 1) := by decide +kernel
theorem dX1_halve_71 : decode cX1_halve 71 = .ok (.putfield 160, 3) := by decide +kernel
theorem dX1_halve_74 : decode cX1_halve 74 = .ok (.aload_n 0, 1) := by decide +kernel
theorem dX1_halve_75 : decode cX1_halve 75 = .ok (.iload_n 1, 1) := by decide +kernel
theorem dX1_halve_76 : decode cX1_halve 76 = .ok (.iload 4, 2) := by decide +kernel
theorem dX1_halve_78 : decode cX1_halve 78 = .ok (.iload_n 3, 1) := by decide +kernel
theorem dX1_halve_79 : decode cX1_halve 79 = .ok (.iconst 1, 1) := by decide +kernel
theorem dX1_halve_80 : decode cX1_halve 80 = .ok (.iadd, 1) := by decide +kernel
theorem dX1_halve_81 : decode cX1_halve 81 = .ok (.invokestatic 178, 3) := by decide +kernel
theorem dX1_halve_84 : decode cX1_halve 84 = .ok (.aload 6, 2) := by decide +kernel
theorem dX1_halve_86 : decode cX1_halve 86 = .ok (.invokestatic 166, 3) := by decide +kernel
theorem dX1_halve_89 : decode cX1_halve 89 = .ok (.aload_n 0, 1) := by decide +kernel
theorem dX1_halve_90 : decode cX1_halve 90 = .ok (.iload 5, 2) := by decide +kernel
theorem dX1_halve_92 : decode cX1_halve 92 = .ok (.iconst 1, 1) := by decide +kernel
theorem dX1_halve_93 : decode cX1_halve 93 = .ok (.iadd, 1) := by decide +kernel
theorem dX1_halve_94 : decode cX1_halve 94 = .ok (.iload_n 2, 1) := by decide +kernel
theorem dX1_halve_95 : decode cX1_halve 95 = .ok (.iconst 1, 1) := by decide +kernel
theorem dX1_halve_96 : decode cX1_halve 96 = .ok (.isub, 1) := by decide +kernel
theorem dX1_halve_97 : decode cX1_halve 97 = .ok (.iload 4, 2) := by decide +kernel
theorem dX1_halve_99 : decode cX1_halve 99 = .ok (.isub, 1) := by decide +kernel
theorem dX1_halve_100 : decode cX1_halve 100 = .ok (.iload_n 3, 1) := by decide +kernel
theorem dX1_halve_101 : decode cX1_halve 101 = .ok (.iconst 1, 1) := by decide +kernel
theorem dX1_halve_102 : decode cX1_halve 102 = .ok (.iadd, 1) := by decide +kernel
theorem dX1_halve_103 : decode cX1_halve 103 = .ok (.invokestatic 178, 3) := by decide +kernel
theorem dX1_halve_106 : decode cX1_halve 106 = .ok (.aload 6, 2) := by decide +kernel
theorem dX1_halve_108 : decode cX1_halve 108 = .ok (.invokestatic 166, 3) := by decide +kernel
theorem dX1_halve_111 : decode cX1_halve 111 = .ok (.aload 6, 2) := by decide +kernel
theorem dX1_halve_113 : decode cX1_halve 113 = .ok (.areturn, 1) := by decide +kernel
set_option maxRecDepth 20000 in
theorem ggX1_tell_X0_depth : GoodIn wsX1_tell wsX0_depth := goodIn_r _ [10, 11, 54, 55, 56, 57, 58] (by decide +kernel) (by decide +kernel)
set_option maxRecDepth 20000 in
theorem gX1_tell_X0_depth : GoodIn wsX1_tell (wsV RX1 54 RX0 yX0_depth wsX0_depth) := goodIn_app (goodIn_of _ (by decide +kernel)) ggX1_tell_X0_depth
set_option maxRecDepth 20000 in
theorem ggX1_tell_X1_heightOf : GoodIn wsX1_tell wsX1_heightOf := goodIn_r _ [15, 5, 54, 55, 56, 57, 58] (by decide +kernel) (by decide +kernel)
set_option maxRecDepth 20000 in
theorem gX1_tell_X1_heightOf : GoodIn wsX1_tell (va_wsS RX1 81 yX1_heightOf wsX1_heightOf) := goodIn_app (goodIn_of _ (by decide +kernel)) ggX1_tell_X1_heightOf
set_option maxRecDepth 20000 in
theorem ggX1_tell_X1_deepestBelow : GoodIn wsX1_tell wsX1_deepestBelow := goodIn_r _ [19, 5, 2, 4, 20, 21, 22, 23, 24, 25, 26, 14, 27, 28, 29, 30, 31, 32, 33, 34, 9, 35, 36, 37, 38, 39, 40, 41, 42, 43, 44, 45, 46, 47, 1, 54, 55, 56, 57, 58, 59, 60, 61, 62, 63, 64] (by decide +kernel) (by decide +kernel)
set_option maxRecDepth 20000 in
theorem gX1_tell_X1_deepestBelow : GoodIn wsX1_tell (wsV RX1 188 RX1 yX1_deepestBelow wsX1_deepestBelow) := goodIn_app (goodIn_of _ (by decide +kernel)) ggX1_tell_X1_deepestBelow
set_option maxRecDepth 20000 in
theorem ggX1_tell_X0_hasCrookedCompany : GoodIn wsX1_tell wsX0_hasCrookedCompany := goodIn_r _ [51, 37, 38, 30, 14, 31, 4, 52, 53, 54, 55, 56, 57, 58] (by decide +kernel) (by decide +kernel)
set_option maxRecDepth 20000 in
theorem gX1_tell_X0_hasCrookedCompany : GoodIn wsX1_tell (wsV RX1 174 RX0 yX0_hasCrookedCompany wsX0_hasCrookedCompany) := goodIn_app (goodIn_of _ (by decide +kernel)) ggX1_tell_X0_hasCrookedCompany
set_option maxRecDepth 20000 in
theorem ggX1_tell_X1_smallerThan : GoodIn wsX1_tell wsX1_smallerThan := goodIn_r _ [27, 28, 5, 2, 29, 30, 14, 31, 4, 32, 33, 34, 9, 35, 36, 37, 38, 59, 60, 61, 62, 63, 64, 54, 55, 56, 57, 58] (by decide +kernel) (by decide +kernel)
set_option maxRecDepth 20000 in
theorem gX1_tell_X1_smallerThan : GoodIn wsX1_tell (wsV RX1 103 RX1 yX1_smallerThan wsX1_smallerThan) := goodIn_app (goodIn_of _ (by decide +kernel)) ggX1_tell_X1_smallerThan
theorem dX1_tell_0 : decode cX1_tell 0 = .ok (.aload_n 1, 1) := by decide +kernel
theorem dX1_tell_1 : decode cX1_tell 1 = .ok (.ifnonnull 5, 3) := by decide +kernel
theorem dX1_tell_4 : decode cX1_tell 4 = .ok (.iconst (-1), 1) := by decide +kernel
theorem dX1_tell_5 : decode cX1_tell 5 = .ok (.ireturn, 1) := by decide +kernel
theorem dX1_tell_6 : decode cX1_tell 6 = .ok (.iload_n 2, 1) := by decide +kernel
theorem dX1_tell_7 : decode cX1_tell 7 = .ok (.tableswitch 94 0 6 #[41, 46, 54, 62, 70, 75, 81], 41) := by decide +kernel
theorem dX1_tell_48 : decode cX1_tell 48 = .ok (.aload_n 1, 1) := by decide +kernel
theorem dX1_tell_49 : decode cX1_tell 49 = .ok (.invokevirtual 54, 3) := by decide +kernel
theorem dX1_tell_52 : decode cX1_tell 52 = .ok (.ireturn, 1) := by decide +kernel
theorem dX1_tell_53 : decode cX1_tell 53 = .ok (.aload_n 1, 1) := by decide +kernel
theorem dX1_tell_54 : decode cX1_tell 54 = .ok (.getfield 130, 3) := by decide +kernel
theorem dX1_tell_57 : decode cX1_tell 57 = .ok (.invokestatic 81, 3) := by decide +kernel
theorem dX1_tell_60 : decode cX1_tell 60 = .ok (.ireturn, 1) := by decide +kernel
theorem dX1_tell_61 : decode cX1_tell 61 = .ok (.aload_n 1, 1) := by decide +kernel
theorem dX1_tell_62 : decode cX1_tell 62 = .ok (.getfield 150, 3) := by decide +kernel
theorem dX1_tell_65 : decode cX1_tell 65 = .ok (.invokestatic 81, 3) := by decide +kernel
theorem dX1_tell_68 : decode cX1_tell 68 = .ok (.ireturn, 1) := by decide +kernel
theorem dX1_tell_69 : decode cX1_tell 69 = .ok (.aload_n 1, 1) := by decide +kernel
theorem dX1_tell_70 : decode cX1_tell 70 = .ok (.getfield 160, 3) := by decide +kernel
theorem dX1_tell_73 : decode cX1_tell 73 = .ok (.invokestatic 81, 3) := by decide +kernel
theorem dX1_tell_76 : decode cX1_tell 76 = .ok (.ireturn, 1) := by decide +kernel
theorem dX1_tell_77 : decode cX1_tell 77 = .ok (.aload_n 1, 1) := by decide +kernel
theorem dX1_tell_78 : decode cX1_tell 78 = .ok (.getfield 147, 3) := by decide +kernel
theorem dX1_tell_81 : decode cX1_tell 81 = .ok (.ireturn, 1) := by decide +kernel
theorem dX1_tell_82 : decode cX1_tell 82 = .ok (.aload_n 0, 1) := by decide +kernel
theorem dX1_tell_83 : decode cX1_tell 83 = .ok (.aload_n 1, 1) := by decide +kernel
theorem dX1_tell_84 : decode cX1_tell 84 = .ok (.invokevirtual 188, 3) := by decide +kernel
theorem dX1_tell_87 : decode cX1_tell 87 = .ok (.ireturn, 1) := by decide +kernel
theorem dX1_tell_88 : decode cX1_tell 88 = .ok (.aload_n 1, 1) := by decide +kernel
theorem dX1_tell_89 : decode cX1_tell 89 = .ok (.invokevirtual 174, 3) := by decide +kernel
theorem dX1_tell_92 : decode cX1_tell 92 = .ok (.ifCond .eq 7, 3) := by decide +kernel
theorem dX1_tell_95 : decode cX1_tell 95 = .ok (.iconst 1, 1) := by decide +kernel
theorem dX1_tell_96 : decode cX1_tell 96 = .ok (.goto 4, 3) := by decide +kernel
theorem dX1_tell_99 : decode cX1_tell 99 = .ok (.iconst 0, 1) := by decide +kernel
theorem dX1_tell_100 : decode cX1_tell 100 = .ok (.ireturn, 1) := by decide +kernel
theorem dX1_tell_101 : decode cX1_tell 101 = .ok (.aload_n 0, 1) := by decide +kernel
theorem dX1_tell_102 : decode cX1_tell 102 = .ok (.aload_n 1, 1) := by decide +kernel
theorem dX1_tell_103 : decode cX1_tell 103 = .ok (.getfield 100, 3) := by decide +kernel
theorem dX1_tell_106 : decode cX1_tell 106 = .ok (.invokevirtual 103, 3) := by decide +kernel
theorem dX1_tell_109 : decode cX1_tell 109 = .ok (.ireturn, 1) := by decide +kernel
set_option maxRecDepth 20000 in
theorem ggX1_tally_X1_heightOf : GoodIn wsX1_tally wsX1_heightOf := goodIn_r _ [9, 10, 66, 67, 68, 69, 70] (by decide +kernel) (by decide +kernel)
set_option maxRecDepth 20000 in
theorem gX1_tally_X1_heightOf : GoodIn wsX1_tally (va_wsS RX1 81 yX1_heightOf wsX1_heightOf) := goodIn_app (goodIn_of _ (by decide +kernel)) ggX1_tally_X1_heightOf
set_option maxRecDepth 20000 in
theorem ggX1_tally_X1_deepestBelow : GoodIn wsX1_tally wsX1_deepestBelow := goodIn_r _ [14, 10, 15, 16, 17, 18, 19, 20, 21, 22, 23, 8, 24, 2, 25, 26, 27, 28, 29, 30, 31, 32, 33, 34, 35, 36, 37, 38, 39, 1, 40, 41, 42, 43, 44, 66, 67, 68, 69, 70, 60, 61, 62, 63, 64, 65] (by decide +kernel) (by decide +kernel)
set_option maxRecDepth 20000 in
theorem gX1_tally_X1_deepestBelow : GoodIn wsX1_tally (wsV RX1 188 RX1 yX1_deepestBelow wsX1_deepestBelow) := goodIn_app (goodIn_of _ (by decide +kernel)) ggX1_tally_X1_deepestBelow
set_option maxRecDepth 20000 in
theorem ggX1_tally_X1_allowedDepth : GoodIn wsX1_tally wsX1_allowedDepth := goodIn_r _ [47, 48, 49] (by decide +kernel) (by decide +kernel)
set_option maxRecDepth 20000 in
theorem gX1_tally_X1_allowedDepth : GoodIn wsX1_tally (va_wsS RX1 58 yX1_allowedDepth wsX1_allowedDepth) := goodIn_app (goodIn_of _ (by decide +kernel)) ggX1_tally_X1_allowedDepth
set_option maxRecDepth 20000 in
theorem ggX1_tally_X1_crookedCompanies : GoodIn wsX1_tally wsX1_crookedCompanies := goodIn_r _ [53, 1, 36, 37, 38, 8, 39, 40, 54, 55, 56, 31, 57, 34, 35, 26, 27, 16, 58, 59, 60, 61, 62, 63, 64, 65, 66, 67, 68, 69, 70] (by decide +kernel) (by decide +kernel)
set_option maxRecDepth 20000 in
theorem gX1_tally_X1_crookedCompanies : GoodIn wsX1_tally (wsV RX1 191 RX1 yX1_crookedCompanies wsX1_crookedCompanies) := goodIn_app (goodIn_of _ (by decide +kernel)) ggX1_tally_X1_crookedCompanies
end
section
theorem dX1_tally_0 : decode cX1_tally 0 = .ok (.iload_n 1, 1) := by decide +kernel
theorem dX1_tally_1 : decode cX1_tally 1 = .ok (.tableswitch 88 0 6 #[43, 48, 56, 65, 73, 78, 83], 43) := by decide +kernel
theorem dX1_tally_44 : decode cX1_tally 44 = .ok (.aload_n 0, 1) := by decide +kernel
theorem dX1_tally_45 : decode cX1_tally 45 = .ok (.getfield 19, 3) := by decide +kernel
theorem dX1_tally_48 : decode cX1_tally 48 = .ok (.ireturn, 1) := by decide +kernel
theorem dX1_tally_49 : decode cX1_tally 49 = .ok (.aload_n 0, 1) := by decide +kernel
theorem dX1_tally_50 : decode cX1_tally 50 = .ok (.getfield 77, 3) := by decide +kernel
theorem dX1_tally_53 : decode cX1_tally 53 = .ok (.invokestatic 81, 3) := by decide +kernel
theorem dX1_tally_56 : decode cX1_tally 56 = .ok (.ireturn, 1) := by decide +kernel
theorem dX1_tally_57 : decode cX1_tally 57 = .ok (.aload_n 0, 1) := by decide +kernel
theorem dX1_tally_58 : decode cX1_tally 58 = .ok (.aload_n 0, 1) := by decide +kernel
theorem dX1_tally_59 : decode cX1_tally 59 = .ok (.getfield 77, 3) := by decide +kernel
theorem dX1_tally_62 : decode cX1_tally 62 = .ok (.invokevirtual 188, 3) := by decide +kernel
theorem dX1_tally_65 : decode cX1_tally 65 = .ok (.ireturn, 1) := by decide +kernel
theorem dX1_tally_66 : decode cX1_tally 66 = .ok (.aload_n 0, 1) := by decide +kernel
theorem dX1_tally_67 : decode cX1_tally 67 = .ok (.getfield 19, 3) := by decide +kernel
theorem dX1_tally_70 : decode cX1_tally 70 = .ok (.invokestatic 58, 3) := by decide +kernel
theorem dX1_tally_73 : decode cX1_tally 73 = .ok (.ireturn, 1) := by decide +kernel
theorem dX1_tally_74 : decode cX1_tally 74 = .ok (.aload_n 0, 1) := by decide +kernel
theorem dX1_tally_75 : decode cX1_tally 75 = .ok (.invokevirtual 191, 3) := by decide +kernel
theorem dX1_tally_78 : decode cX1_tally 78 = .ok (.ireturn, 1) := by decide +kernel
theorem dX1_tally_79 : decode cX1_tally 79 = .ok (.aload_n 0, 1) := by decide +kernel
theorem dX1_tally_80 : decode cX1_tally 80 = .ok (.getfield 182, 3) := by decide +kernel
theorem dX1_tally_83 : decode cX1_tally 83 = .ok (.ireturn, 1) := by decide +kernel
theorem dX1_tally_84 : decode cX1_tally 84 = .ok (.aload_n 0, 1) := by decide +kernel
theorem dX1_tally_85 : decode cX1_tally 85 = .ok (.getfield 185, 3) := by decide +kernel
theorem dX1_tally_88 : decode cX1_tally 88 = .ok (.ireturn, 1) := by decide +kernel
theorem dX1_tally_89 : decode cX1_tally 89 = .ok (.aload_n 0, 1) := by decide +kernel
theorem dX1_tally_90 : decode cX1_tally 90 = .ok (.getfield 51, 3) := by decide +kernel
theorem dX1_tally_93 : decode cX1_tally 93 = .ok (.ireturn, 1) := by decide +kernel
set_option maxRecDepth 20000 in
theorem ggX1_deepestBelow_X1_smallerThan : GoodIn wsX1_deepestBelow wsX1_smallerThan := goodIn_r _ [12, 13, 1, 2, 14, 15, 11, 16, 3, 17, 18, 19, 20, 21, 22, 23, 24, 40, 41, 42, 43, 44, 45, 35, 36, 37, 38, 39] (by decide +kernel) (by decide +kernel)
set_option maxRecDepth 20000 in
theorem gX1_deepestBelow_X1_smallerThan : GoodIn wsX1_deepestBelow (wsV RX1 103 RX1 yX1_smallerThan wsX1_smallerThan) := goodIn_app (goodIn_of _ (by decide +kernel)) ggX1_deepestBelow_X1_smallerThan
set_option maxRecDepth 20000 in
theorem ggX1_deepestBelow_X1_companyOf : GoodIn wsX1_deepestBelow wsX1_companyOf := goodIn_r _ [16, 3, 35, 36, 37, 38, 39] (by decide +kernel) (by decide +kernel)
set_option maxRecDepth 20000 in
theorem gX1_deepestBelow_X1_companyOf : GoodIn wsX1_deepestBelow (va_wsS RX1 153 yX1_companyOf wsX1_companyOf) := goodIn_app (goodIn_of _ (by decide +kernel)) ggX1_deepestBelow_X1_companyOf
set_option maxRecDepth 20000 in
theorem ggX1_deepestBelow_X1_inLine : GoodIn wsX1_deepestBelow wsX1_inLine := goodIn_r _ [28, 29, 30, 40, 41, 42, 43, 44, 45] (by decide +kernel) (by decide +kernel)
set_option maxRecDepth 20000 in
theorem gX1_deepestBelow_X1_inLine : GoodIn wsX1_deepestBelow (wsV RX1 92 RX1 yX1_inLine wsX1_inLine) := goodIn_app (goodIn_of _ (by decide +kernel)) ggX1_deepestBelow_X1_inLine
set_option maxRecDepth 20000 in
theorem ggX1_deepestBelow_X1_stepsUp : GoodIn wsX1_deepestBelow wsX1_stepsUp := goodIn_r _ [33, 34, 35, 36, 37, 38, 39] (by decide +kernel) (by decide +kernel)
set_option maxRecDepth 20000 in
theorem gX1_deepestBelow_X1_stepsUp : GoodIn wsX1_deepestBelow (va_wsS RX1 194 yX1_stepsUp wsX1_stepsUp) := goodIn_app (goodIn_of _ (by decide +kernel)) ggX1_deepestBelow_X1_stepsUp
theorem dX1_deepestBelow_0 : decode cX1_deepestBelow 0 = .ok (.aload_n 1, 1) := by decide +kernel
theorem dX1_deepestBelow_1 : decode cX1_deepestBelow 1 = .ok (.ifnonnull 5, 3) := by decide +kernel
theorem dX1_deepestBelow_4 : decode cX1_deepestBelow 4 = .ok (.iconst (-1), 1) := by decide +kernel
theorem dX1_deepestBelow_5 : decode cX1_deepestBelow 5 = .ok (.ireturn, 1) := by decide +kernel
theorem dX1_deepestBelow_6 : decode cX1_deepestBelow 6 = .ok (.aload_n 0, 1) := by decide +kernel
theorem dX1_deepestBelow_7 : decode cX1_deepestBelow 7 = .ok (.aload_n 1, 1) := by decide +kernel
theorem dX1_deepestBelow_8 : decode cX1_deepestBelow 8 = .ok (.getfield 100, 3) := by decide +kernel
theorem dX1_deepestBelow_11 : decode cX1_deepestBelow 11 = .ok (.invokevirtual 103, 3) := by decide +kernel
theorem dX1_deepestBelow_14 : decode cX1_deepestBelow 14 = .ok (.aload_n 1, 1) := by decide +kernel
theorem dX1_deepestBelow_15 : decode cX1_deepestBelow 15 = .ok (.getfield 150, 3) := by decide +kernel
theorem dX1_deepestBelow_18 : decode cX1_deepestBelow 18 = .ok (.invokestatic 153, 3) := by decide +kernel
theorem dX1_deepestBelow_21 : decode cX1_deepestBelow 21 = .ok (.isub, 1) := by decide +kernel
theorem dX1_deepestBelow_22 : decode cX1_deepestBelow 22 = .ok (.istore_n 2, 1) := by decide +kernel
theorem dX1_deepestBelow_23 : decode cX1_deepestBelow 23 = .ok (.iconst 0, 1) := by decide +kernel
theorem dX1_deepestBelow_24 : decode cX1_deepestBelow 24 = .ok (.istore_n 3, 1) := by decide +kernel
theorem dX1_deepestBelow_25 : decode cX1_deepestBelow 25 = .ok (.iconst 0, 1) := by decide +kernel
theorem dX1_deepestBelow_26 : decode cX1_deepestBelow 26 = .ok (.istore 4, 2) := by decide +kernel
theorem dX1_deepestBelow_28 : decode cX1_deepestBelow 28 = .ok (.iload 4, 2) := by decide +kernel
theorem dX1_deepestBelow_30 : decode cX1_deepestBelow 30 = .ok (.aload_n 1, 1) := by decide +kernel
theorem dX1_deepestBelow_31 : decode cX1_deepestBelow 31 = .ok (.getfield 147, 3) := by decide +kernel
theorem dX1_deepestBelow_34 : decode cX1_deepestBelow 34 = .ok (.if_icmp .ge 26, 3) := by decide +kernel
theorem dX1_deepestBelow_37 : decode cX1_deepestBelow 37 = .ok (.iload_n 3, 1) := by decide +kernel
theorem dX1_deepestBelow_38 : decode cX1_deepestBelow 38 = .ok (.aload_n 0, 1) := by decide +kernel
theorem dX1_deepestBelow_39 : decode cX1_deepestBelow 39 = .ok (.iload_n 2, 1) := by decide +kernel
theorem dX1_deepestBelow_40 : decode cX1_deepestBelow 40 = .ok (.iload 4, 2) := by decide +kernel
theorem dX1_deepestBelow_42 : decode cX1_deepestBelow 42 = .ok (.iadd, 1) := by decide +kernel
theorem dX1_deepestBelow_43 : decode cX1_deepestBelow 43 = .ok (.invokevirtual 92, 3) := by decide +kernel
theorem dX1_deepestBelow_46 : decode cX1_deepestBelow 46 = .ok (.aload_n 1, 1) := by decide +kernel
theorem dX1_deepestBelow_47 : decode cX1_deepestBelow 47 = .ok (.invokestatic 194, 3) := by decide +kernel
theorem dX1_deepestBelow_50 : decode cX1_deepestBelow 50 = .ok (.invokestatic 114, 3) := by decide +kernel
theorem dX1_deepestBelow_53 : decode cX1_deepestBelow 53 = .ok (.istore_n 3, 1) := by decide +kernel
theorem dX1_deepestBelow_54 : decode cX1_deepestBelow 54 = .ok (.iinc 4 1, 3) := by decide +kernel
theorem dX1_deepestBelow_57 : decode cX1_deepestBelow 57 = .ok (.goto (-29), 3) := by decide +kernel
theorem dX1_deepestBelow_60 : decode cX1_deepestBelow 60 = .ok (.iload_n 3, 1) := by decide +kernel
theorem dX1_deepestBelow_61 : decode cX1_deepestBelow 61 = .ok (.ireturn, 1) := by decide +kernel
theorem dX1_stepsUp_0 : decode cX1_stepsUp 0 = .ok (.iconst 0, 1) := by decide +kernel
theorem dX1_stepsUp_1 : decode cX1_stepsUp 1 = .ok (.istore_n 2, 1) := by decide +kernel
theorem dX1_stepsUp_2 : decode cX1_stepsUp 2 = .ok (.aload_n 0, 1) := by decide +kernel
theorem dX1_stepsUp_3 : decode cX1_stepsUp 3 = .ok (.astore_n 3, 1) := by decide +kernel
theorem dX1_stepsUp_4 : decode cX1_stepsUp 4 = .ok (.aload_n 3, 1) := by decide +kernel
theorem dX1_stepsUp_5 : decode cX1_stepsUp 5 = .ok (.ifnull 19, 3) := by decide +kernel
theorem dX1_stepsUp_8 : decode cX1_stepsUp 8 = .ok (.aload_n 3, 1) := by decide +kernel
theorem dX1_stepsUp_9 : decode cX1_stepsUp 9 = .ok (.aload_n 1, 1) := by decide +kernel
theorem dX1_stepsUp_10 : decode cX1_stepsUp 10 = .ok (.if_acmp .eq 14, 3) := by decide +kernel
theorem dX1_stepsUp_13 : decode cX1_stepsUp 13 = .ok (.iinc 2 1, 3) := by decide +kernel
theorem dX1_stepsUp_16 : decode cX1_stepsUp 16 = .ok (.aload_n 3, 1) := by decide +kernel
theorem dX1_stepsUp_17 : decode cX1_stepsUp 17 = .ok (.getfield 130, 3) := by decide +kernel
theorem dX1_stepsUp_20 : decode cX1_stepsUp 20 = .ok (.astore_n 3, 1) := by decide +kernel
theorem dX1_stepsUp_21 : decode cX1_stepsUp 21 = .ok (.goto (-17), 3) := by decide +kernel
theorem dX1_stepsUp_24 : decode cX1_stepsUp 24 = .ok (.iload_n 2, 1) := by decide +kernel
theorem dX1_stepsUp_25 : decode cX1_stepsUp 25 = .ok (.ireturn, 1) := by decide +kernel
set_option maxRecDepth 20000 in
theorem ggX1_crookedCompanies_X1_inLine : GoodIn wsX1_crookedCompanies wsX1_inLine := goodIn_r _ [6, 1, 7, 20, 21, 22, 23, 24, 25] (by decide +kernel) (by decide +kernel)
set_option maxRecDepth 20000 in
theorem gX1_crookedCompanies_X1_inLine : GoodIn wsX1_crookedCompanies (wsV RX1 92 RX1 yX1_inLine wsX1_inLine) := goodIn_app (goodIn_of _ (by decide +kernel)) ggX1_crookedCompanies_X1_inLine
set_option maxRecDepth 20000 in
theorem ggX1_crookedCompanies_X0_hasCrookedCompany : GoodIn wsX1_crookedCompanies wsX0_hasCrookedCompany := goodIn_r _ [12, 13, 14, 15, 5, 16, 17, 18, 19, 26, 27, 28, 29, 30] (by decide +kernel) (by decide +kernel)
set_option maxRecDepth 20000 in
theorem gX1_crookedCompanies_X0_hasCrookedCompany : GoodIn wsX1_crookedCompanies (wsV RX1 174 RX0 yX0_hasCrookedCompany wsX0_hasCrookedCompany) := goodIn_app (goodIn_of _ (by decide +kernel)) ggX1_crookedCompanies_X0_hasCrookedCompany
theorem dX1_crookedCompanies_0 : decode cX1_crookedCompanies 0 = .ok (.iconst 0, 1) := by decide +kernel
theorem dX1_crookedCompanies_1 : decode cX1_crookedCompanies 1 = .ok (.istore_n 1, 1) := by decide +kernel
theorem dX1_crookedCompanies_2 : decode cX1_crookedCompanies 2 = .ok (.iconst 0, 1) := by decide +kernel
theorem dX1_crookedCompanies_3 : decode cX1_crookedCompanies 3 = .ok (.istore_n 2, 1) := by decide +kernel
theorem dX1_crookedCompanies_4 : decode cX1_crookedCompanies 4 = .ok (.iload_n 2, 1) := by decide +kernel
theorem dX1_crookedCompanies_5 : decode cX1_crookedCompanies 5 = .ok (.aload_n 0, 1) := by decide +kernel
theorem dX1_crookedCompanies_6 : decode cX1_crookedCompanies 6 = .ok (.getfield 19, 3) := by decide +kernel
theorem dX1_crookedCompanies_9 : decode cX1_crookedCompanies 9 = .ok (.if_icmp .ge 29, 3) := by decide +kernel
theorem dX1_crookedCompanies_12 : decode cX1_crookedCompanies 12 = .ok (.aload_n 0, 1) := by decide +kernel
theorem dX1_crookedCompanies_13 : decode cX1_crookedCompanies 13 = .ok (.iload_n 2, 1) := by decide +kernel
theorem dX1_crookedCompanies_14 : decode cX1_crookedCompanies 14 = .ok (.invokevirtual 92, 3) := by decide +kernel
theorem dX1_crookedCompanies_17 : decode cX1_crookedCompanies 17 = .ok (.astore_n 3, 1) := by decide +kernel
theorem dX1_crookedCompanies_18 : decode cX1_crookedCompanies 18 = .ok (.aload_n 3, 1) := by decide +kernel
theorem dX1_crookedCompanies_19 : decode cX1_crookedCompanies 19 = .ok (.ifnull 13, 3) := by decide +kernel
theorem dX1_crookedCompanies_22 : decode cX1_crookedCompanies 22 = .ok (.aload_n 3, 1) := by decide +kernel
theorem dX1_crookedCompanies_23 : decode cX1_crookedCompanies 23 = .ok (.invokevirtual 174, 3) := by decide +kernel
theorem dX1_crookedCompanies_26 : decode cX1_crookedCompanies 26 = .ok (.ifCond .eq 6, 3) := by decide +kernel
theorem dX1_crookedCompanies_29 : decode cX1_crookedCompanies 29 = .ok (.iinc 1 1, 3) := by decide +kernel
theorem dX1_crookedCompanies_32 : decode cX1_crookedCompanies 32 = .ok (.iinc 2 1, 3) := by decide +kernel
theorem dX1_crookedCompanies_35 : decode cX1_crookedCompanies 35 = .ok (.goto (-31), 3) := by decide +kernel
theorem dX1_crookedCompanies_38 : decode cX1_crookedCompanies 38 = .ok (.iload_n 1, 1) := by decide +kernel
theorem dX1_crookedCompanies_39 : decode cX1_crookedCompanies 39 = .ok (.ireturn, 1) := by decide +kernel
theorem dX2_init_0 : decode cX2_init 0 = .ok (.aload_n 0, 1) := by decide +kernel
theorem dX2_init_1 : decode cX2_init 1 = .ok (.invokespecial 1, 3) := by decide +kernel
theorem dX2_init_4 : decode cX2_init 4 = .ok (.aload_n 0, 1) := by decide +kernel
theorem dX2_init_5 : decode cX2_init 5 = .ok (.iconst (-1), 1) := by decide +kernel
theorem dX2_init_6 : decode cX2_init 6 = .ok (.putfield 9, 3) := by decide +kernel
theorem dX2_init_9 : decode cX2_init 9 = .ok (.aload_n 0, 1) := by decide +kernel
theorem dX2_init_10 : decode cX2_init 10 = .ok (.sipush 1000, 3) := by decide +kernel
theorem dX2_init_13 : decode cX2_init 13 = .ok (.newarray .boolean, 2) := by decide +kernel
theorem dX2_init_15 : decode cX2_init 15 = .ok (.putfield 13, 3) := by decide +kernel
theorem dX2_init_18 : decode cX2_init 18 = .ok (.aload_n 0, 1) := by decide +kernel
theorem dX2_init_19 : decode cX2_init 19 = .ok (.sipush 1000, 3) := by decide +kernel
theorem dX2_init_22 : decode cX2_init 22 = .ok (.newarray .int, 2) := by decide +kernel
theorem dX2_init_24 : decode cX2_init 24 = .ok (.putfield 17, 3) := by decide +kernel
theorem dX2_init_27 : decode cX2_init 27 = .ok (.aload_n 0, 1) := by decide +kernel
theorem dX2_init_28 : decode cX2_init 28 = .ok (.sipush 1000, 3) := by decide +kernel
theorem dX2_init_31 : decode cX2_init 31 = .ok (.newarray .int, 2) := by decide +kernel
theorem dX2_init_33 : decode cX2_init 33 = .ok (.putfield 21, 3) := by decide +kernel
theorem dX2_init_36 : decode cX2_init 36 = .ok (.aload_n 0, 1) := by decide +kernel
theorem dX2_init_37 : decode cX2_init 37 = .ok (.sipush 151, 3) := by decide +kernel
theorem dX2_init_40 : decode cX2_init 40 = .ok (.newarray .int, 2) := by decide +kernel
theorem dX2_init_42 : decode cX2_init 42 = .ok (.putfield 24, 3) := by decide +kernel
theorem dX2_init_45 : decode cX2_init 45 = .ok (.aload_n 0, 1) := by decide +kernel
theorem dX2_init_46 : decode cX2_init 46 = .ok (.sipush 150, 3) := by decide +kernel
theorem dX2_init_49 : decode cX2_init 49 = .ok (.newarray .int, 2) := by decide +kernel
theorem dX2_init_51 : decode cX2_init 51 = .ok (.putfield 27, 3) := by decide +kernel
theorem dX2_init_54 : decode cX2_init 54 = .ok (.return_, 1) := by decide +kernel
theorem dX2_thrown_0 : decode cX2_thrown 0 = .ok (.aload_n 0, 1) := by decide +kernel
theorem dX2_thrown_1 : decode cX2_thrown 1 = .ok (.getfield 30, 3) := by decide +kernel
theorem dX2_thrown_4 : decode cX2_thrown 4 = .ok (.ireturn, 1) := by decide +kernel
theorem dX2_no_0 : decode cX2_no 0 = .ok (.aload_n 0, 1) := by decide +kernel
theorem dX2_no_1 : decode cX2_no 1 = .ok (.iload_n 1, 1) := by decide +kernel
theorem dX2_no_2 : decode cX2_no 2 = .ok (.putfield 30, 3) := by decide +kernel
theorem dX2_no_5 : decode cX2_no 5 = .ok (.iconst 0, 1) := by decide +kernel
theorem dX2_no_6 : decode cX2_no 6 = .ok (.ireturn, 1) := by decide +kernel
theorem dX2_isHeight_0 : decode cX2_isHeight 0 = .ok (.iload_n 0, 1) := by decide +kernel
theorem dX2_isHeight_1 : decode cX2_isHeight 1 = .ok (.ifCond .lt 14, 3) := by decide +kernel
theorem dX2_isHeight_4 : decode cX2_isHeight 4 = .ok (.iload_n 0, 1) := by decide +kernel
theorem dX2_isHeight_5 : decode cX2_isHeight 5 = .ok (.sipush 1000, 3) := by decide +kernel
theorem dX2_isHeight_8 : decode cX2_isHeight 8 = .ok (.if_icmp .ge 7, 3) := by decide +kernel
theorem dX2_isHeight_11 : decode cX2_isHeight 11 = .ok (.iconst 1, 1) := by decide +kernel
theorem dX2_isHeight_12 : decode cX2_isHeight 12 = .ok (.goto 4, 3) := by decide +kernel
theorem dX2_isHeight_15 : decode cX2_isHeight 15 = .ok (.iconst 0, 1) := by decide +kernel
theorem dX2_isHeight_16 : decode cX2_isHeight 16 = .ok (.ireturn, 1) := by decide +kernel
theorem dX2_goTo_0 : decode cX2_goTo 0 = .ok (.aload_n 0, 1) := by decide +kernel
theorem dX2_goTo_1 : decode cX2_goTo 1 = .ok (.iconst 0, 1) := by decide +kernel
theorem dX2_goTo_2 : decode cX2_goTo 2 = .ok (.putfield 33, 3) := by decide +kernel
theorem dX2_goTo_5 : decode cX2_goTo 5 = .ok (.aload_n 0, 1) := by decide +kernel
theorem dX2_goTo_6 : decode cX2_goTo 6 = .ok (.getfield 9, 3) := by decide +kernel
theorem dX2_goTo_9 : decode cX2_goTo 9 = .ok (.istore_n 2, 1) := by decide +kernel
theorem dX2_goTo_10 : decode cX2_goTo 10 = .ok (.iload_n 2, 1) := by decide +kernel
theorem dX2_goTo_11 : decode cX2_goTo 11 = .ok (.iconst (-1), 1) := by decide +kernel
theorem dX2_goTo_12 : decode cX2_goTo 12 = .ok (.if_icmp .eq 56, 3) := by decide +kernel
theorem dX2_goTo_15 : decode cX2_goTo 15 = .ok (.aload_n 0, 1) := by decide +kernel
theorem dX2_goTo_16 : decode cX2_goTo 16 = .ok (.getfield 24, 3) := by decide +kernel
theorem dX2_goTo_19 : decode cX2_goTo 19 = .ok (.aload_n 0, 1) := by decide +kernel
theorem dX2_goTo_20 : decode cX2_goTo 20 = .ok (.getfield 33, 3) := by decide +kernel
theorem dX2_goTo_23 : decode cX2_goTo 23 = .ok (.iload_n 2, 1) := by decide +kernel
theorem dX2_goTo_24 : decode cX2_goTo 24 = .ok (.iastore, 1) := by decide +kernel
theorem dX2_goTo_25 : decode cX2_goTo 25 = .ok (.aload_n 0, 1) := by decide +kernel
theorem dX2_goTo_26 : decode cX2_goTo 26 = .ok (.dup, 1) := by decide +kernel
theorem dX2_goTo_27 : decode cX2_goTo 27 = .ok (.getfield 33, 3) := by decide +kernel
theorem dX2_goTo_30 : decode cX2_goTo 30 = .ok (.iconst 1, 1) := by decide +kernel
theorem dX2_goTo_31 : decode cX2_goTo 31 = .ok (.iadd, 1) := by decide +kernel
theorem dX2_goTo_32 : decode cX2_goTo 32 = .ok (.putfield 33, 3) := by decide +kernel
theorem dX2_goTo_35 : decode cX2_goTo 35 = .ok (.iload_n 1, 1) := by decide +kernel
theorem dX2_goTo_36 : decode cX2_goTo 36 = .ok (.iload_n 2, 1) := by decide +kernel
theorem dX2_goTo_37 : decode cX2_goTo 37 = .ok (.if_icmp .ne 7, 3) := by decide +kernel
theorem dX2_goTo_40 : decode cX2_goTo 40 = .ok (.iconst (-1), 1) := by decide +kernel
theorem dX2_goTo_41 : decode cX2_goTo 41 = .ok (.goto 23, 3) := by decide +kernel
theorem dX2_goTo_44 : decode cX2_goTo 44 = .ok (.iload_n 1, 1) := by decide +kernel
theorem dX2_goTo_45 : decode cX2_goTo 45 = .ok (.iload_n 2, 1) := by decide +kernel
theorem dX2_goTo_46 : decode cX2_goTo 46 = .ok (.if_icmp .ge 12, 3) := by decide +kernel
theorem dX2_goTo_49 : decode cX2_goTo 49 = .ok (.aload_n 0, 1) := by decide +kernel
theorem dX2_goTo_50 : decode cX2_goTo 50 = .ok (.getfield 17, 3) := by decide +kernel
theorem dX2_goTo_53 : decode cX2_goTo 53 = .ok (.iload_n 2, 1) := by decide +kernel
theorem dX2_goTo_54 : decode cX2_goTo 54 = .ok (.iaload, 1) := by decide +kernel
theorem dX2_goTo_55 : decode cX2_goTo 55 = .ok (.goto 9, 3) := by decide +kernel
theorem dX2_goTo_58 : decode cX2_goTo 58 = .ok (.aload_n 0, 1) := by decide +kernel
theorem dX2_goTo_59 : decode cX2_goTo 59 = .ok (.getfield 21, 3) := by decide +kernel
theorem dX2_goTo_62 : decode cX2_goTo 62 = .ok (.iload_n 2, 1) := by decide +kernel
theorem dX2_goTo_63 : decode cX2_goTo 63 = .ok (.iaload, 1) := by decide +kernel
theorem dX2_goTo_64 : decode cX2_goTo 64 = .ok (.istore_n 2, 1) := by decide +kernel
theorem dX2_goTo_65 : decode cX2_goTo 65 = .ok (.goto (-55), 3) := by decide +kernel
theorem dX2_goTo_68 : decode cX2_goTo 68 = .ok (.return_, 1) := by decide +kernel
set_option maxRecDepth 20000 in
theorem ggX2_size_X2_size : GoodIn wsX2_size wsX2_size := goodIn_r _ [0, 1, 2, 3, 4, 5, 6, 7, 8, 9, 10, 11, 12, 13, 14, 15, 16, 17, 18, 19] (by decide +kernel) (by decide +kernel)
set_option maxRecDepth 20000 in
theorem gX2_size_X2_size : GoodIn wsX2_size (wsV RX2 36 RX2 yX2_size wsX2_size) := goodIn_app (goodIn_of _ (by decide +kernel)) ggX2_size_X2_size
theorem dX2_size_0 : decode cX2_size 0 = .ok (.iload_n 1, 1) := by decide +kernel
theorem dX2_size_1 : decode cX2_size 1 = .ok (.iconst (-1), 1) := by decide +kernel
theorem dX2_size_2 : decode cX2_size 2 = .ok (.if_icmp .ne 7, 3) := by decide +kernel
theorem dX2_size_5 : decode cX2_size 5 = .ok (.iconst 0, 1) := by decide +kernel
theorem dX2_size_6 : decode cX2_size 6 = .ok (.goto 26, 3) := by decide +kernel
theorem dX2_size_9 : decode cX2_size 9 = .ok (.iconst 1, 1) := by decide +kernel
theorem dX2_size_10 : decode cX2_size 10 = .ok (.aload_n 0, 1) := by decide +kernel
theorem dX2_size_11 : decode cX2_size 11 = .ok (.aload_n 0, 1) := by decide +kernel
theorem dX2_size_12 : decode cX2_size 12 = .ok (.getfield 17, 3) := by decide +kernel
theorem dX2_size_15 : decode cX2_size 15 = .ok (.iload_n 1, 1) := by decide +kernel
theorem dX2_size_16 : decode cX2_size 16 = .ok (.iaload, 1) := by decide +kernel
theorem dX2_size_17 : decode cX2_size 17 = .ok (.invokevirtual 36, 3) := by decide +kernel
theorem dX2_size_20 : decode cX2_size 20 = .ok (.iadd, 1) := by decide +kernel
theorem dX2_size_21 : decode cX2_size 21 = .ok (.aload_n 0, 1) := by decide +kernel
theorem dX2_size_22 : decode cX2_size 22 = .ok (.aload_n 0, 1) := by decide +kernel
theorem dX2_size_23 : decode cX2_size 23 = .ok (.getfield 21, 3) := by decide +kernel
theorem dX2_size_26 : decode cX2_size 26 = .ok (.iload_n 1, 1) := by decide +kernel
theorem dX2_size_27 : decode cX2_size 27 = .ok (.iaload, 1) := by decide +kernel
theorem dX2_size_28 : decode cX2_size 28 = .ok (.invokevirtual 36, 3) := by decide +kernel
theorem dX2_size_31 : decode cX2_size 31 = .ok (.iadd, 1) := by decide +kernel
theorem dX2_size_32 : decode cX2_size 32 = .ok (.ireturn, 1) := by decide +kernel
set_option maxRecDepth 20000 in
theorem ggX2_deep_X2_deep : GoodIn wsX2_deep wsX2_deep := goodIn_r _ [0, 1, 2, 3, 4, 5, 6, 7, 8, 9, 10, 11, 12, 13, 14, 15, 16, 17, 18, 19, 20, 21, 22, 23] (by decide +kernel) (by decide +kernel)
set_option maxRecDepth 20000 in
theorem gX2_deep_X2_deep : GoodIn wsX2_deep (wsV RX2 40 RX2 yX2_deep wsX2_deep) := goodIn_app (goodIn_of _ (by decide +kernel)) ggX2_deep_X2_deep
theorem dX2_deep_0 : decode cX2_deep 0 = .ok (.iload_n 1, 1) := by decide +kernel
theorem dX2_deep_1 : decode cX2_deep 1 = .ok (.iconst (-1), 1) := by decide +kernel
theorem dX2_deep_2 : decode cX2_deep 2 = .ok (.if_icmp .ne 7, 3) := by decide +kernel
theorem dX2_deep_5 : decode cX2_deep 5 = .ok (.iconst (-1), 1) := by decide +kernel
theorem dX2_deep_6 : decode cX2_deep 6 = .ok (.goto 28, 3) := by decide +kernel
theorem dX2_deep_9 : decode cX2_deep 9 = .ok (.iconst 1, 1) := by decide +kernel
theorem dX2_deep_10 : decode cX2_deep 10 = .ok (.aload_n 0, 1) := by decide +kernel
theorem dX2_deep_11 : decode cX2_deep 11 = .ok (.aload_n 0, 1) := by decide +kernel
theorem dX2_deep_12 : decode cX2_deep 12 = .ok (.getfield 17, 3) := by decide +kernel
theorem dX2_deep_15 : decode cX2_deep 15 = .ok (.iload_n 1, 1) := by decide +kernel
theorem dX2_deep_16 : decode cX2_deep 16 = .ok (.iaload, 1) := by decide +kernel
theorem dX2_deep_17 : decode cX2_deep 17 = .ok (.invokevirtual 40, 3) := by decide +kernel
theorem dX2_deep_20 : decode cX2_deep 20 = .ok (.aload_n 0, 1) := by decide +kernel
theorem dX2_deep_21 : decode cX2_deep 21 = .ok (.aload_n 0, 1) := by decide +kernel
theorem dX2_deep_22 : decode cX2_deep 22 = .ok (.getfield 21, 3) := by decide +kernel
theorem dX2_deep_25 : decode cX2_deep 25 = .ok (.iload_n 1, 1) := by decide +kernel
theorem dX2_deep_26 : decode cX2_deep 26 = .ok (.iaload, 1) := by decide +kernel
theorem dX2_deep_27 : decode cX2_deep 27 = .ok (.invokevirtual 40, 3) := by decide +kernel
theorem dX2_deep_30 : decode cX2_deep 30 = .ok (.invokestatic 43, 3) := by decide +kernel
theorem dX2_deep_33 : decode cX2_deep 33 = .ok (.iadd, 1) := by decide +kernel
theorem dX2_deep_34 : decode cX2_deep 34 = .ok (.ireturn, 1) := by decide +kernel
theorem dX2_isCrooked_0 : decode cX2_isCrooked 0 = .ok (.iconst 3, 1) := by decide +kernel
theorem dX2_isCrooked_1 : decode cX2_isCrooked 1 = .ok (.iload_n 0, 1) := by decide +kernel
theorem dX2_isCrooked_2 : decode cX2_isCrooked 2 = .ok (.iload_n 1, 1) := by decide +kernel
theorem dX2_isCrooked_3 : decode cX2_isCrooked 3 = .ok (.invokestatic 43, 3) := by decide +kernel
theorem dX2_isCrooked_6 : decode cX2_isCrooked 6 = .ok (.imul, 1) := by decide +kernel
theorem dX2_isCrooked_7 : decode cX2_isCrooked 7 = .ok (.iconst 2, 1) := by decide +kernel
theorem dX2_isCrooked_8 : decode cX2_isCrooked 8 = .ok (.iload_n 0, 1) := by decide +kernel
theorem dX2_isCrooked_9 : decode cX2_isCrooked 9 = .ok (.iload_n 1, 1) := by decide +kernel
theorem dX2_isCrooked_10 : decode cX2_isCrooked 10 = .ok (.iadd, 1) := by decide +kernel
theorem dX2_isCrooked_11 : decode cX2_isCrooked 11 = .ok (.iconst 1, 1) := by decide +kernel
theorem dX2_isCrooked_12 : decode cX2_isCrooked 12 = .ok (.iadd, 1) := by decide +kernel
theorem dX2_isCrooked_13 : decode cX2_isCrooked 13 = .ok (.imul, 1) := by decide +kernel
theorem dX2_isCrooked_14 : decode cX2_isCrooked 14 = .ok (.if_icmp .le 7, 3) := by decide +kernel
theorem dX2_isCrooked_17 : decode cX2_isCrooked 17 = .ok (.iconst 1, 1) := by decide +kernel
theorem dX2_isCrooked_18 : decode cX2_isCrooked 18 = .ok (.goto 4, 3) := by decide +kernel
theorem dX2_isCrooked_21 : decode cX2_isCrooked 21 = .ok (.iconst 0, 1) := by decide +kernel
theorem dX2_isCrooked_22 : decode cX2_isCrooked 22 = .ok (.ireturn, 1) := by decide +kernel
set_option maxRecDepth 20000 in
theorem ggX2_isCrooked__X2_size : GoodIn wsX2_isCrooked_ wsX2_size := goodIn_r _ [7, 1, 2, 3, 4, 5, 6, 15, 16, 17, 18, 19, 20, 21, 22, 23, 24, 25, 26, 27] (by decide +kernel) (by decide +kernel)
set_option maxRecDepth 20000 in
theorem gX2_isCrooked__X2_size : GoodIn wsX2_isCrooked_ (wsV RX2 36 RX2 yX2_size wsX2_size) := goodIn_app (goodIn_of _ (by decide +kernel)) ggX2_isCrooked__X2_size
set_option maxRecDepth 20000 in
theorem ggX2_isCrooked__X2_isCrooked : GoodIn wsX2_isCrooked_ wsX2_isCrooked := goodIn_r _ [10, 11, 12, 13, 14] (by decide +kernel) (by decide +kernel)
set_option maxRecDepth 20000 in
theorem gX2_isCrooked__X2_isCrooked : GoodIn wsX2_isCrooked_ (va_wsS RX2 49 yX2_isCrooked wsX2_isCrooked) := goodIn_app (goodIn_of _ (by decide +kernel)) ggX2_isCrooked__X2_isCrooked
theorem dX2_isCrooked__0 : decode cX2_isCrooked_ 0 = .ok (.aload_n 0, 1) := by decide +kernel
theorem dX2_isCrooked__1 : decode cX2_isCrooked_ 1 = .ok (.aload_n 0, 1) := by decide +kernel
theorem dX2_isCrooked__2 : decode cX2_isCrooked_ 2 = .ok (.getfield 17, 3) := by decide +kernel
theorem dX2_isCrooked__5 : decode cX2_isCrooked_ 5 = .ok (.iload_n 1, 1) := by decide +kernel
theorem dX2_isCrooked__6 : decode cX2_isCrooked_ 6 = .ok (.iaload, 1) := by decide +kernel
theorem dX2_isCrooked__7 : decode cX2_isCrooked_ 7 = .ok (.invokevirtual 36, 3) := by decide +kernel
theorem dX2_isCrooked__10 : decode cX2_isCrooked_ 10 = .ok (.aload_n 0, 1) := by decide +kernel
theorem dX2_isCrooked__11 : decode cX2_isCrooked_ 11 = .ok (.aload_n 0, 1) := by decide +kernel
theorem dX2_isCrooked__12 : decode cX2_isCrooked_ 12 = .ok (.getfield 21, 3) := by decide +kernel
theorem dX2_isCrooked__15 : decode cX2_isCrooked_ 15 = .ok (.iload_n 1, 1) := by decide +kernel
theorem dX2_isCrooked__16 : decode cX2_isCrooked_ 16 = .ok (.iaload, 1) := by decide +kernel
theorem dX2_isCrooked__17 : decode cX2_isCrooked_ 17 = .ok (.invokevirtual 36, 3) := by decide +kernel
theorem dX2_isCrooked__20 : decode cX2_isCrooked_ 20 = .ok (.invokestatic 49, 3) := by decide +kernel
theorem dX2_isCrooked__23 : decode cX2_isCrooked_ 23 = .ok (.ireturn, 1) := by decide +kernel
set_option maxRecDepth 20000 in
theorem ggX2_crookedIn_X2_isCrooked_ : GoodIn wsX2_crookedIn wsX2_isCrooked_ := goodIn_r _ [7, 1, 2, 8, 9, 10, 6, 11, 12, 13, 14, 15, 16, 17, 18, 22, 23, 24, 25, 26, 27, 28, 29, 30, 31, 32, 33, 34] (by decide +kernel) (by decide +kernel)
set_option maxRecDepth 20000 in
theorem gX2_crookedIn_X2_isCrooked_ : GoodIn wsX2_crookedIn (wsV RX2 53 RX2 yX2_isCrooked_ wsX2_isCrooked_) := goodIn_app (goodIn_of _ (by decide +kernel)) ggX2_crookedIn_X2_isCrooked_
set_option maxRecDepth 20000 in
theorem ggX2_crookedIn_X2_crookedIn : GoodIn wsX2_crookedIn wsX2_crookedIn := goodIn_r _ [0, 1, 2, 3, 4, 5, 6, 7, 8, 9, 10, 11, 12, 13, 14, 15, 16, 17, 18, 19, 20, 21, 22, 23, 24, 25, 26, 27, 28, 29, 30, 31, 32, 33, 34] (by decide +kernel) (by decide +kernel)
set_option maxRecDepth 20000 in
theorem gX2_crookedIn_X2_crookedIn : GoodIn wsX2_crookedIn (wsV RX2 56 RX2 yX2_crookedIn wsX2_crookedIn) := goodIn_app (goodIn_of _ (by decide +kernel)) ggX2_crookedIn_X2_crookedIn
theorem dX2_crookedIn_0 : decode cX2_crookedIn 0 = .ok (.iload_n 1, 1) := by decide +kernel
theorem dX2_crookedIn_1 : decode cX2_crookedIn 1 = .ok (.iconst (-1), 1) := by decide +kernel
theorem dX2_crookedIn_2 : decode cX2_crookedIn 2 = .ok (.if_icmp .ne 7, 3) := by decide +kernel
theorem dX2_crookedIn_5 : decode cX2_crookedIn 5 = .ok (.iconst 0, 1) := by decide +kernel
theorem dX2_crookedIn_6 : decode cX2_crookedIn 6 = .ok (.goto 38, 3) := by decide +kernel
theorem dX2_crookedIn_9 : decode cX2_crookedIn 9 = .ok (.aload_n 0, 1) := by decide +kernel
theorem dX2_crookedIn_10 : decode cX2_crookedIn 10 = .ok (.iload_n 1, 1) := by decide +kernel
theorem dX2_crookedIn_11 : decode cX2_crookedIn 11 = .ok (.invokevirtual 53, 3) := by decide +kernel
theorem dX2_crookedIn_14 : decode cX2_crookedIn 14 = .ok (.ifCond .eq 7, 3) := by decide +kernel
theorem dX2_crookedIn_17 : decode cX2_crookedIn 17 = .ok (.iconst 1, 1) := by decide +kernel
theorem dX2_crookedIn_18 : decode cX2_crookedIn 18 = .ok (.goto 4, 3) := by decide +kernel
theorem dX2_crookedIn_21 : decode cX2_crookedIn 21 = .ok (.iconst 0, 1) := by decide +kernel
theorem dX2_crookedIn_22 : decode cX2_crookedIn 22 = .ok (.aload_n 0, 1) := by decide +kernel
theorem dX2_crookedIn_23 : decode cX2_crookedIn 23 = .ok (.aload_n 0, 1) := by decide +kernel
theorem dX2_crookedIn_24 : decode cX2_crookedIn 24 = .ok (.getfield 17, 3) := by decide +kernel
theorem dX2_crookedIn_27 : decode cX2_crookedIn 27 = .ok (.iload_n 1, 1) := by decide +kernel
theorem dX2_crookedIn_28 : decode cX2_crookedIn 28 = .ok (.iaload, 1) := by decide +kernel
theorem dX2_crookedIn_29 : decode cX2_crookedIn 29 = .ok (.invokevirtual 56, 3) := by decide +kernel
theorem dX2_crookedIn_32 : decode cX2_crookedIn 32 = .ok (.iadd, 1) := by decide +kernel
theorem dX2_crookedIn_33 : decode cX2_crookedIn 33 = .ok (.aload_n 0, 1) := by decide +kernel
theorem dX2_crookedIn_34 : decode cX2_crookedIn 34 = .ok (.aload_n 0, 1) := by decide +kernel
theorem dX2_crookedIn_35 : decode cX2_crookedIn 35 = .ok (.getfield 21, 3) := by decide +kernel
theorem dX2_crookedIn_38 : decode cX2_crookedIn 38 = .ok (.iload_n 1, 1) := by decide +kernel
theorem dX2_crookedIn_39 : decode cX2_crookedIn 39 = .ok (.iaload, 1) := by decide +kernel
theorem dX2_crookedIn_40 : decode cX2_crookedIn 40 = .ok (.invokevirtual 56, 3) := by decide +kernel
theorem dX2_crookedIn_43 : decode cX2_crookedIn 43 = .ok (.iadd, 1) := by decide +kernel
theorem dX2_crookedIn_44 : decode cX2_crookedIn 44 = .ok (.ireturn, 1) := by decide +kernel
set_option maxRecDepth 20000 in
theorem ggX2_depthsIn_X2_depthsIn : GoodIn wsX2_depthsIn wsX2_depthsIn := goodIn_r _ [0, 1, 2, 3, 4, 5, 6, 7, 8, 9, 10, 11, 12, 13, 14, 15, 16, 17, 18, 19] (by decide +kernel) (by decide +kernel)
set_option maxRecDepth 20000 in
theorem gX2_depthsIn_X2_depthsIn : GoodIn wsX2_depthsIn (wsV RX2 59 RX2 yX2_depthsIn wsX2_depthsIn) := goodIn_app (goodIn_of _ (by decide +kernel)) ggX2_depthsIn_X2_depthsIn
theorem dX2_depthsIn_0 : decode cX2_depthsIn 0 = .ok (.iload_n 1, 1) := by decide +kernel
theorem dX2_depthsIn_1 : decode cX2_depthsIn 1 = .ok (.iconst (-1), 1) := by decide +kernel
theorem dX2_depthsIn_2 : decode cX2_depthsIn 2 = .ok (.if_icmp .ne 7, 3) := by decide +kernel
theorem dX2_depthsIn_5 : decode cX2_depthsIn 5 = .ok (.lconst 0, 1) := by decide +kernel
theorem dX2_depthsIn_6 : decode cX2_depthsIn 6 = .ok (.goto 33, 3) := by decide +kernel
theorem dX2_depthsIn_9 : decode cX2_depthsIn 9 = .ok (.iload_n 2, 1) := by decide +kernel
theorem dX2_depthsIn_10 : decode cX2_depthsIn 10 = .ok (.i2l, 1) := by decide +kernel
theorem dX2_depthsIn_11 : decode cX2_depthsIn 11 = .ok (.aload_n 0, 1) := by decide +kernel
theorem dX2_depthsIn_12 : decode cX2_depthsIn 12 = .ok (.aload_n 0, 1) := by decide +kernel
theorem dX2_depthsIn_13 : decode cX2_depthsIn 13 = .ok (.getfield 17, 3) := by decide +kernel
theorem dX2_depthsIn_16 : decode cX2_depthsIn 16 = .ok (.iload_n 1, 1) := by decide +kernel
theorem dX2_depthsIn_17 : decode cX2_depthsIn 17 = .ok (.iaload, 1) := by decide +kernel
theorem dX2_depthsIn_18 : decode cX2_depthsIn 18 = .ok (.iload_n 2, 1) := by decide +kernel
theorem dX2_depthsIn_19 : decode cX2_depthsIn 19 = .ok (.iconst 1, 1) := by decide +kernel
theorem dX2_depthsIn_20 : decode cX2_depthsIn 20 = .ok (.iadd, 1) := by decide +kernel
theorem dX2_depthsIn_21 : decode cX2_depthsIn 21 = .ok (.invokevirtual 59, 3) := by decide +kernel
theorem dX2_depthsIn_24 : decode cX2_depthsIn 24 = .ok (.ladd, 1) := by decide +kernel
theorem dX2_depthsIn_25 : decode cX2_depthsIn 25 = .ok (.aload_n 0, 1) := by decide +kernel
theorem dX2_depthsIn_26 : decode cX2_depthsIn 26 = .ok (.aload_n 0, 1) := by decide +kernel
theorem dX2_depthsIn_27 : decode cX2_depthsIn 27 = .ok (.getfield 21, 3) := by decide +kernel
theorem dX2_depthsIn_30 : decode cX2_depthsIn 30 = .ok (.iload_n 1, 1) := by decide +kernel
theorem dX2_depthsIn_31 : decode cX2_depthsIn 31 = .ok (.iaload, 1) := by decide +kernel
theorem dX2_depthsIn_32 : decode cX2_depthsIn 32 = .ok (.iload_n 2, 1) := by decide +kernel
theorem dX2_depthsIn_33 : decode cX2_depthsIn 33 = .ok (.iconst 1, 1) := by decide +kernel
theorem dX2_depthsIn_34 : decode cX2_depthsIn 34 = .ok (.iadd, 1) := by decide +kernel
theorem dX2_depthsIn_35 : decode cX2_depthsIn 35 = .ok (.invokevirtual 59, 3) := by decide +kernel
theorem dX2_depthsIn_38 : decode cX2_depthsIn 38 = .ok (.ladd, 1) := by decide +kernel
theorem dX2_depthsIn_39 : decode cX2_depthsIn 39 = .ok (.lreturn, 1) := by decide +kernel
theorem dX2_allowed_0 : decode cX2_allowed 0 = .ok (.iconst (-1), 1) := by decide +kernel
theorem dX2_allowed_1 : decode cX2_allowed 1 = .ok (.istore_n 1, 1) := by decide +kernel
theorem dX2_allowed_2 : decode cX2_allowed 2 = .ok (.lconst 1, 1) := by decide +kernel
theorem dX2_allowed_3 : decode cX2_allowed 3 = .ok (.lstore_n 2, 1) := by decide +kernel
theorem dX2_allowed_4 : decode cX2_allowed 4 = .ok (.iload_n 0, 1) := by decide +kernel
theorem dX2_allowed_5 : decode cX2_allowed 5 = .ok (.i2l, 1) := by decide +kernel
theorem dX2_allowed_6 : decode cX2_allowed 6 = .ok (.lstore 4, 2) := by decide +kernel
theorem dX2_allowed_8 : decode cX2_allowed 8 = .ok (.lload_n 2, 1) := by decide +kernel
theorem dX2_allowed_9 : decode cX2_allowed 9 = .ok (.lload 4, 2) := by decide +kernel
theorem dX2_allowed_11 : decode cX2_allowed 11 = .ok (.lcmp, 1) := by decide +kernel
theorem dX2_allowed_12 : decode cX2_allowed 12 = .ok (.ifCond .gt 23, 3) := by decide +kernel
theorem dX2_allowed_15 : decode cX2_allowed 15 = .ok (.iinc 1 1, 3) := by decide +kernel
theorem dX2_allowed_18 : decode cX2_allowed 18 = .ok (.lload_n 2, 1) := by decide +kernel
theorem dX2_allowed_19 : decode cX2_allowed 19 = .ok (.ldc2_w 63, 3) := by decide +kernel
theorem dX2_allowed_22 : decode cX2_allowed 22 = .ok (.lmul, 1) := by decide +kernel
theorem dX2_allowed_23 : decode cX2_allowed 23 = .ok (.lstore_n 2, 1) := by decide +kernel
theorem dX2_allowed_24 : decode cX2_allowed 24 = .ok (.lload 4, 2) := by decide +kernel
theorem dX2_allowed_26 : decode cX2_allowed 26 = .ok (.ldc2_w 65, 3) := by decide +kernel
theorem dX2_allowed_29 : decode cX2_allowed 29 = .ok (.lmul, 1) := by decide +kernel
theorem dX2_allowed_30 : decode cX2_allowed 30 = .ok (.lstore 4, 2) := by decide +kernel
theorem dX2_allowed_32 : decode cX2_allowed 32 = .ok (.goto (-24), 3) := by decide +kernel
theorem dX2_allowed_35 : decode cX2_allowed 35 = .ok (.iload_n 1, 1) := by decide +kernel
theorem dX2_allowed_36 : decode cX2_allowed 36 = .ok (.ireturn, 1) := by decide +kernel
set_option maxRecDepth 20000 in
theorem ggX2_collect_X2_collect : GoodIn wsX2_collect wsX2_collect := goodIn_r _ [0, 1, 2, 3, 4, 5, 6, 7, 8, 9, 10, 11, 12, 13, 14, 15, 16, 17, 18, 19, 20, 21] (by decide +kernel) (by decide +kernel)
set_option maxRecDepth 20000 in
theorem gX2_collect_X2_collect : GoodIn wsX2_collect (wsV RX2 67 RX2 yX2_collect wsX2_collect) := goodIn_app (goodIn_of _ (by decide +kernel)) ggX2_collect_X2_collect
theorem dX2_collect_0 : decode cX2_collect 0 = .ok (.iload_n 1, 1) := by decide +kernel
theorem dX2_collect_1 : decode cX2_collect 1 = .ok (.iconst (-1), 1) := by decide +kernel
theorem dX2_collect_2 : decode cX2_collect 2 = .ok (.if_icmp .ne 4, 3) := by decide +kernel
theorem dX2_collect_5 : decode cX2_collect 5 = .ok (.return_, 1) := by decide +kernel
theorem dX2_collect_6 : decode cX2_collect 6 = .ok (.aload_n 0, 1) := by decide +kernel
theorem dX2_collect_7 : decode cX2_collect 7 = .ok (.aload_n 0, 1) := by decide +kernel
theorem dX2_collect_8 : decode cX2_collect 8 = .ok (.getfield 17, 3) := by decide +kernel
theorem dX2_collect_11 : decode cX2_collect 11 = .ok (.iload_n 1, 1) := by decide +kernel
theorem dX2_collect_12 : decode cX2_collect 12 = .ok (.iaload, 1) := by decide +kernel
theorem dX2_collect_13 : decode cX2_collect 13 = .ok (.invokevirtual 67, 3) := by decide +kernel
theorem dX2_collect_16 : decode cX2_collect 16 = .ok (.aload_n 0, 1) := by decide +kernel
theorem dX2_collect_17 : decode cX2_collect 17 = .ok (.getfield 27, 3) := by decide +kernel
theorem dX2_collect_20 : decode cX2_collect 20 = .ok (.aload_n 0, 1) := by decide +kernel
theorem dX2_collect_21 : decode cX2_collect 21 = .ok (.getfield 71, 3) := by decide +kernel
theorem dX2_collect_24 : decode cX2_collect 24 = .ok (.iload_n 1, 1) := by decide +kernel
theorem dX2_collect_25 : decode cX2_collect 25 = .ok (.iastore, 1) := by decide +kernel
theorem dX2_collect_26 : decode cX2_collect 26 = .ok (.aload_n 0, 1) := by decide +kernel
theorem dX2_collect_27 : decode cX2_collect 27 = .ok (.dup, 1) := by decide +kernel
theorem dX2_collect_28 : decode cX2_collect 28 = .ok (.getfield 71, 3) := by decide +kernel
theorem dX2_collect_31 : decode cX2_collect 31 = .ok (.iconst 1, 1) := by decide +kernel
theorem dX2_collect_32 : decode cX2_collect 32 = .ok (.iadd, 1) := by decide +kernel
theorem dX2_collect_33 : decode cX2_collect 33 = .ok (.putfield 71, 3) := by decide +kernel
theorem dX2_collect_36 : decode cX2_collect 36 = .ok (.aload_n 0, 1) := by decide +kernel
theorem dX2_collect_37 : decode cX2_collect 37 = .ok (.aload_n 0, 1) := by decide +kernel
theorem dX2_collect_38 : decode cX2_collect 38 = .ok (.getfield 21, 3) := by decide +kernel
theorem dX2_collect_41 : decode cX2_collect 41 = .ok (.iload_n 1, 1) := by decide +kernel
theorem dX2_collect_42 : decode cX2_collect 42 = .ok (.iaload, 1) := by decide +kernel
theorem dX2_collect_43 : decode cX2_collect 43 = .ok (.invokevirtual 67, 3) := by decide +kernel
theorem dX2_collect_46 : decode cX2_collect 46 = .ok (.return_, 1) := by decide +kernel
set_option maxRecDepth 20000 in
theorem ggX2_halve_X2_halve : GoodIn wsX2_halve wsX2_halve := goodIn_r _ [0, 1, 2, 3, 4, 5, 6, 7, 8, 9, 10, 11, 12, 13, 14, 15, 16, 17, 18, 19, 20] (by decide +kernel) (by decide +kernel)
set_option maxRecDepth 20000 in
theorem gX2_halve_X2_halve : GoodIn wsX2_halve (wsV RX2 74 RX2 yX2_halve wsX2_halve) := goodIn_app (goodIn_of _ (by decide +kernel)) ggX2_halve_X2_halve
theorem dX2_halve_0 : decode cX2_halve 0 = .ok (.iload_n 1, 1) := by decide +kernel
theorem dX2_halve_1 : decode cX2_halve 1 = .ok (.iload_n 2, 1) := by decide +kernel
theorem dX2_halve_2 : decode cX2_halve 2 = .ok (.if_icmp .le 5, 3) := by decide +kernel
theorem dX2_halve_5 : decode cX2_halve 5 = .ok (.iconst (-1), 1) := by decide +kernel
theorem dX2_halve_6 : decode cX2_halve 6 = .ok (.ireturn, 1) := by decide +kernel
theorem dX2_halve_7 : decode cX2_halve 7 = .ok (.iload_n 1, 1) := by decide +kernel
theorem dX2_halve_8 : decode cX2_halve 8 = .ok (.iload_n 2, 1) := by decide +kernel
theorem dX2_halve_9 : decode cX2_halve 9 = .ok (.iload_n 1, 1) := by decide +kernel
theorem dX2_halve_10 : decode cX2_halve 10 = .ok (.isub, 1) := by decide +kernel
theorem dX2_halve_11 : decode cX2_halve 11 = .ok (.iconst 2, 1) := by decide +kernel
theorem dX2_halve_12 : decode cX2_halve 12 = .ok (.idiv, 1) := by decide +kernel
theorem dX2_halve_13 : decode cX2_halve 13 = .ok (.iadd, 1) := by decide +kernel
theorem dX2_halve_14 : decode cX2_halve 14 = .ok (.istore_n 3, 1) := by decide +kernel
theorem dX2_halve_15 : decode cX2_halve 15 = .ok (.aload_n 0, 1) := by decide +kernel
theorem dX2_halve_16 : decode cX2_halve 16 = .ok (.getfield 17, 3) := by decide +kernel
theorem dX2_halve_19 : decode cX2_halve 19 = .ok (.aload_n 0, 1) := by decide +kernel
theorem dX2_halve_20 : decode cX2_halve 20 = .ok (.getfield 27, 3) := by decide +kernel
theorem dX2_halve_23 : decode cX2_halve 23 = .ok (.iload_n 3, 1) := by decide +kernel
theorem dX2_halve_24 : decode cX2_halve 24 = .ok (.iaload, 1) := by decide +kernel
theorem dX2_halve_25 : decode cX2_halve 25 = .ok (.aload_n 0, 1) := by decide +kernel
theorem dX2_halve_26 : decode cX2_halve 26 = .ok (.iload_n 1, 1) := by decide +kernel
theorem dX2_halve_27 : decode cX2_halve 27 = .ok (.iload_n 3, 1) := by decide +kernel
theorem dX2_halve_28 : decode cX2_halve 28 = .ok (.iconst 1, 1) := by decide +kernel
theorem dX2_halve_29 : decode cX2_halve 29 = .ok (.isub, 1) := by decide +kernel
theorem dX2_halve_30 : decode cX2_halve 30 = .ok (.invokevirtual 74, 3) := by decide +kernel
theorem dX2_halve_33 : decode cX2_halve 33 = .ok (.iastore, 1) := by decide +kernel
theorem dX2_halve_34 : decode cX2_halve 34 = .ok (.aload_n 0, 1) := by decide +kernel
theorem dX2_halve_35 : decode cX2_halve 35 = .ok (.getfield 21, 3) := by decide +kernel
theorem dX2_halve_38 : decode cX2_halve 38 = .ok (.aload_n 0, 1) := by decide +kernel
theorem dX2_halve_39 : decode cX2_halve 39 = .ok (.getfield 27, 3) := by decide +kernel
theorem dX2_halve_42 : decode cX2_halve 42 = .ok (.iload_n 3, 1) := by decide +kernel
theorem dX2_halve_43 : decode cX2_halve 43 = .ok (.iaload, 1) := by decide +kernel
theorem dX2_halve_44 : decode cX2_halve 44 = .ok (.aload_n 0, 1) := by decide +kernel
theorem dX2_halve_45 : decode cX2_halve 45 = .ok (.iload_n 3, 1) := by decide +kernel
theorem dX2_halve_46 : decode cX2_halve 46 = .ok (.iconst 1, 1) := by decide +kernel
theorem dX2_halve_47 : decode cX2_halve 47 = .ok (.iadd, 1) := by decide +kernel
theorem dX2_halve_48 : decode cX2_halve 48 = .ok (.iload_n 2, 1) := by decide +kernel
theorem dX2_halve_49 : decode cX2_halve 49 = .ok (.invokevirtual 74, 3) := by decide +kernel
theorem dX2_halve_52 : decode cX2_halve 52 = .ok (.iastore, 1) := by decide +kernel
theorem dX2_halve_53 : decode cX2_halve 53 = .ok (.aload_n 0, 1) := by decide +kernel
theorem dX2_halve_54 : decode cX2_halve 54 = .ok (.getfield 27, 3) := by decide +kernel
theorem dX2_halve_57 : decode cX2_halve 57 = .ok (.iload_n 3, 1) := by decide +kernel
theorem dX2_halve_58 : decode cX2_halve 58 = .ok (.iaload, 1) := by decide +kernel
theorem dX2_halve_59 : decode cX2_halve 59 = .ok (.ireturn, 1) := by decide +kernel
theorem dX2_hang_0 : decode cX2_hang 0 = .ok (.iload_n 1, 1) := by decide +kernel
theorem dX2_hang_1 : decode cX2_hang 1 = .ok (.iconst (-1), 1) := by decide +kernel
theorem dX2_hang_2 : decode cX2_hang 2 = .ok (.if_icmp .ne 11, 3) := by decide +kernel
theorem dX2_hang_5 : decode cX2_hang 5 = .ok (.aload_n 0, 1) := by decide +kernel
theorem dX2_hang_6 : decode cX2_hang 6 = .ok (.iload_n 3, 1) := by decide +kernel
theorem dX2_hang_7 : decode cX2_hang 7 = .ok (.putfield 9, 3) := by decide +kernel
theorem dX2_hang_10 : decode cX2_hang 10 = .ok (.goto 25, 3) := by decide +kernel
theorem dX2_hang_13 : decode cX2_hang 13 = .ok (.iload_n 2, 1) := by decide +kernel
theorem dX2_hang_14 : decode cX2_hang 14 = .ok (.iload_n 1, 1) := by decide +kernel
theorem dX2_hang_15 : decode cX2_hang 15 = .ok (.if_icmp .ge 13, 3) := by decide +kernel
theorem dX2_hang_18 : decode cX2_hang 18 = .ok (.aload_n 0, 1) := by decide +kernel
theorem dX2_hang_19 : decode cX2_hang 19 = .ok (.getfield 17, 3) := by decide +kernel
theorem dX2_hang_22 : decode cX2_hang 22 = .ok (.iload_n 1, 1) := by decide +kernel
theorem dX2_hang_23 : decode cX2_hang 23 = .ok (.iload_n 3, 1) := by decide +kernel
theorem dX2_hang_24 : decode cX2_hang 24 = .ok (.iastore, 1) := by decide +kernel
theorem dX2_hang_25 : decode cX2_hang 25 = .ok (.goto 10, 3) := by decide +kernel
theorem dX2_hang_28 : decode cX2_hang 28 = .ok (.aload_n 0, 1) := by decide +kernel
theorem dX2_hang_29 : decode cX2_hang 29 = .ok (.getfield 21, 3) := by decide +kernel
theorem dX2_hang_32 : decode cX2_hang 32 = .ok (.iload_n 1, 1) := by decide +kernel
theorem dX2_hang_33 : decode cX2_hang 33 = .ok (.iload_n 3, 1) := by decide +kernel
theorem dX2_hang_34 : decode cX2_hang 34 = .ok (.iastore, 1) := by decide +kernel
theorem dX2_hang_35 : decode cX2_hang 35 = .ok (.return_, 1) := by decide +kernel
set_option maxRecDepth 20000 in
theorem ggX2_drawUp_X2_goTo : GoodIn wsX2_drawUp wsX2_goTo := goodIn_r _ [12, 1, 13, 2, 14, 15, 29, 30, 31, 32, 33, 34, 35, 36, 37, 38, 39, 40, 41] (by decide +kernel) (by decide +kernel)
set_option maxRecDepth 20000 in
theorem gX2_drawUp_X2_goTo : GoodIn wsX2_drawUp (wsV RX2 77 RX2 yX2_goTo wsX2_goTo) := goodIn_app (goodIn_of _ (by decide +kernel)) ggX2_drawUp_X2_goTo
set_option maxRecDepth 20000 in
theorem ggX2_drawUp_X2_collect : GoodIn wsX2_drawUp wsX2_collect := goodIn_r _ [19, 14, 20, 3, 15, 16, 17, 18, 11, 29, 30, 31, 32, 33, 34, 35, 36, 37, 38, 39, 40, 41] (by decide +kernel) (by decide +kernel)
set_option maxRecDepth 20000 in
theorem gX2_drawUp_X2_collect : GoodIn wsX2_drawUp (wsV RX2 67 RX2 yX2_collect wsX2_collect) := goodIn_app (goodIn_of _ (by decide +kernel)) ggX2_drawUp_X2_collect
set_option maxRecDepth 20000 in
theorem ggX2_drawUp_X2_halve : GoodIn wsX2_drawUp wsX2_halve := goodIn_r _ [24, 14, 20, 15, 21, 22, 23, 11, 29, 30, 31, 32, 33, 34, 35, 36, 37, 38, 39, 40, 41] (by decide +kernel) (by decide +kernel)
set_option maxRecDepth 20000 in
theorem gX2_drawUp_X2_halve : GoodIn wsX2_drawUp (wsV RX2 74 RX2 yX2_halve wsX2_halve) := goodIn_app (goodIn_of _ (by decide +kernel)) ggX2_drawUp_X2_halve
set_option maxRecDepth 20000 in
theorem ggX2_drawUp_X2_hang : GoodIn wsX2_drawUp wsX2_hang := goodIn_r _ [28, 13, 14, 15, 29, 30, 31, 32, 33, 34, 35, 36, 37, 38, 39, 40, 41] (by decide +kernel) (by decide +kernel)
set_option maxRecDepth 20000 in
theorem gX2_drawUp_X2_hang : GoodIn wsX2_drawUp (wsV RX2 80 RX2 yX2_hang wsX2_hang) := goodIn_app (goodIn_of _ (by decide +kernel)) ggX2_drawUp_X2_hang
theorem dX2_drawUp_0 : decode cX2_drawUp 0 = .ok (.aload_n 0, 1) := by decide +kernel
theorem dX2_drawUp_1 : decode cX2_drawUp 1 = .ok (.iload_n 1, 1) := by decide +kernel
theorem dX2_drawUp_2 : decode cX2_drawUp 2 = .ok (.invokevirtual 77, 3) := by decide +kernel
theorem dX2_drawUp_5 : decode cX2_drawUp 5 = .ok (.aload_n 0, 1) := by decide +kernel
theorem dX2_drawUp_6 : decode cX2_drawUp 6 = .ok (.getfield 33, 3) := by decide +kernel
theorem dX2_drawUp_9 : decode cX2_drawUp 9 = .ok (.iconst 1, 1) := by decide +kernel
theorem dX2_drawUp_10 : decode cX2_drawUp 10 = .ok (.if_icmp .le 17, 3) := by decide +kernel
theorem dX2_drawUp_13 : decode cX2_drawUp 13 = .ok (.aload_n 0, 1) := by decide +kernel
theorem dX2_drawUp_14 : decode cX2_drawUp 14 = .ok (.getfield 24, 3) := by decide +kernel
theorem dX2_drawUp_17 : decode cX2_drawUp 17 = .ok (.aload_n 0, 1) := by decide +kernel
theorem dX2_drawUp_18 : decode cX2_drawUp 18 = .ok (.getfield 33, 3) := by decide +kernel
theorem dX2_drawUp_21 : decode cX2_drawUp 21 = .ok (.iconst 2, 1) := by decide +kernel
theorem dX2_drawUp_22 : decode cX2_drawUp 22 = .ok (.isub, 1) := by decide +kernel
theorem dX2_drawUp_23 : decode cX2_drawUp 23 = .ok (.iaload, 1) := by decide +kernel
theorem dX2_drawUp_24 : decode cX2_drawUp 24 = .ok (.goto 4, 3) := by decide +kernel
theorem dX2_drawUp_27 : decode cX2_drawUp 27 = .ok (.iconst (-1), 1) := by decide +kernel
theorem dX2_drawUp_28 : decode cX2_drawUp 28 = .ok (.istore_n 2, 1) := by decide +kernel
theorem dX2_drawUp_29 : decode cX2_drawUp 29 = .ok (.aload_n 0, 1) := by decide +kernel
theorem dX2_drawUp_30 : decode cX2_drawUp 30 = .ok (.iconst 0, 1) := by decide +kernel
theorem dX2_drawUp_31 : decode cX2_drawUp 31 = .ok (.putfield 71, 3) := by decide +kernel
theorem dX2_drawUp_34 : decode cX2_drawUp 34 = .ok (.aload_n 0, 1) := by decide +kernel
theorem dX2_drawUp_35 : decode cX2_drawUp 35 = .ok (.iload_n 1, 1) := by decide +kernel
theorem dX2_drawUp_36 : decode cX2_drawUp 36 = .ok (.invokevirtual 67, 3) := by decide +kernel
theorem dX2_drawUp_39 : decode cX2_drawUp 39 = .ok (.aload_n 0, 1) := by decide +kernel
theorem dX2_drawUp_40 : decode cX2_drawUp 40 = .ok (.iconst 0, 1) := by decide +kernel
theorem dX2_drawUp_41 : decode cX2_drawUp 41 = .ok (.aload_n 0, 1) := by decide +kernel
theorem dX2_drawUp_42 : decode cX2_drawUp 42 = .ok (.getfield 71, 3) := by decide +kernel
theorem dX2_drawUp_45 : decode cX2_drawUp 45 = .ok (.iconst 1, 1) := by decide +kernel
theorem dX2_drawUp_46 : decode cX2_drawUp 46 = .ok (.isub, 1) := by decide +kernel
theorem dX2_drawUp_47 : decode cX2_drawUp 47 = .ok (.invokevirtual 74, 3) := by decide +kernel
theorem dX2_drawUp_50 : decode cX2_drawUp 50 = .ok (.istore_n 3, 1) := by decide +kernel
theorem dX2_drawUp_51 : decode cX2_drawUp 51 = .ok (.aload_n 0, 1) := by decide +kernel
theorem dX2_drawUp_52 : decode cX2_drawUp 52 = .ok (.iload_n 2, 1) := by decide +kernel
theorem dX2_drawUp_53 : decode cX2_drawUp 53 = .ok (.iload_n 1, 1) := by decide +kernel
theorem dX2_drawUp_54 : decode cX2_drawUp 54 = .ok (.iload_n 3, 1) := by decide +kernel
theorem dX2_drawUp_55 : decode cX2_drawUp 55 = .ok (.invokevirtual 80, 3) := by decide +kernel
theorem dX2_drawUp_58 : decode cX2_drawUp 58 = .ok (.aload_n 0, 1) := by decide +kernel
theorem dX2_drawUp_59 : decode cX2_drawUp 59 = .ok (.dup, 1) := by decide +kernel
theorem dX2_drawUp_60 : decode cX2_drawUp 60 = .ok (.getfield 84, 3) := by decide +kernel
theorem dX2_drawUp_63 : decode cX2_drawUp 63 = .ok (.iconst 1, 1) := by decide +kernel
theorem dX2_drawUp_64 : decode cX2_drawUp 64 = .ok (.iadd, 1) := by decide +kernel
theorem dX2_drawUp_65 : decode cX2_drawUp 65 = .ok (.putfield 84, 3) := by decide +kernel
theorem dX2_drawUp_68 : decode cX2_drawUp 68 = .ok (.aload_n 0, 1) := by decide +kernel
theorem dX2_drawUp_69 : decode cX2_drawUp 69 = .ok (.dup, 1) := by decide +kernel
theorem dX2_drawUp_70 : decode cX2_drawUp 70 = .ok (.getfield 87, 3) := by decide +kernel
theorem dX2_drawUp_73 : decode cX2_drawUp 73 = .ok (.aload_n 0, 1) := by decide +kernel
theorem dX2_drawUp_74 : decode cX2_drawUp 74 = .ok (.getfield 71, 3) := by decide +kernel
theorem dX2_drawUp_77 : decode cX2_drawUp 77 = .ok (.iadd, 1) := by decide +kernel
theorem dX2_drawUp_78 : decode cX2_drawUp 78 = .ok (.putfield 87, 3) := by decide +kernel
theorem dX2_drawUp_81 : decode cX2_drawUp 81 = .ok (.iload_n 2, 1) := by decide +kernel
theorem dX2_drawUp_82 : decode cX2_drawUp 82 = .ok (.iconst (-1), 1) := by decide +kernel
theorem dX2_drawUp_83 : decode cX2_drawUp 83 = .ok (.if_icmp .ne 11, 3) := by decide +kernel
theorem dX2_drawUp_86 : decode cX2_drawUp 86 = .ok (.aload_n 0, 1) := by decide +kernel
theorem dX2_drawUp_87 : decode cX2_drawUp 87 = .ok (.aload_n 0, 1) := by decide +kernel
theorem dX2_drawUp_88 : decode cX2_drawUp 88 = .ok (.getfield 90, 3) := by decide +kernel
theorem dX2_drawUp_91 : decode cX2_drawUp 91 = .ok (.putfield 93, 3) := by decide +kernel
theorem dX2_drawUp_94 : decode cX2_drawUp 94 = .ok (.iload_n 3, 1) := by decide +kernel
theorem dX2_drawUp_95 : decode cX2_drawUp 95 = .ok (.ireturn, 1) := by decide +kernel
set_option maxRecDepth 20000 in
theorem ggX2_crookedWith_X2_size : GoodIn wsX2_crookedWith wsX2_size := goodIn_r _ [9, 4, 3, 5, 6, 7, 8, 17, 18, 19, 20, 21, 22, 23, 24, 25, 26, 27, 28, 29] (by decide +kernel) (by decide +kernel)
set_option maxRecDepth 20000 in
theorem gX2_crookedWith_X2_size : GoodIn wsX2_crookedWith (wsV RX2 36 RX2 yX2_size wsX2_size) := goodIn_app (goodIn_of _ (by decide +kernel)) ggX2_crookedWith_X2_size
set_option maxRecDepth 20000 in
theorem ggX2_crookedWith_X2_isCrooked : GoodIn wsX2_crookedWith wsX2_isCrooked := goodIn_r _ [12, 13, 14, 15, 16] (by decide +kernel) (by decide +kernel)
set_option maxRecDepth 20000 in
theorem gX2_crookedWith_X2_isCrooked : GoodIn wsX2_crookedWith (va_wsS RX2 49 yX2_isCrooked wsX2_isCrooked) := goodIn_app (goodIn_of _ (by decide +kernel)) ggX2_crookedWith_X2_isCrooked
theorem dX2_crookedWith_0 : decode cX2_crookedWith 0 = .ok (.iconst 1, 1) := by decide +kernel
theorem dX2_crookedWith_1 : decode cX2_crookedWith 1 = .ok (.istore_n 2, 1) := by decide +kernel
theorem dX2_crookedWith_2 : decode cX2_crookedWith 2 = .ok (.aload_n 0, 1) := by decide +kernel
theorem dX2_crookedWith_3 : decode cX2_crookedWith 3 = .ok (.getfield 33, 3) := by decide +kernel
theorem dX2_crookedWith_6 : decode cX2_crookedWith 6 = .ok (.iconst 1, 1) := by decide +kernel
theorem dX2_crookedWith_7 : decode cX2_crookedWith 7 = .ok (.isub, 1) := by decide +kernel
theorem dX2_crookedWith_8 : decode cX2_crookedWith 8 = .ok (.istore_n 3, 1) := by decide +kernel
theorem dX2_crookedWith_9 : decode cX2_crookedWith 9 = .ok (.iload_n 3, 1) := by decide +kernel
theorem dX2_crookedWith_10 : decode cX2_crookedWith 10 = .ok (.ifCond .lt 73, 3) := by decide +kernel
theorem dX2_crookedWith_13 : decode cX2_crookedWith 13 = .ok (.aload_n 0, 1) := by decide +kernel
theorem dX2_crookedWith_14 : decode cX2_crookedWith 14 = .ok (.iload_n 1, 1) := by decide +kernel
theorem dX2_crookedWith_15 : decode cX2_crookedWith 15 = .ok (.aload_n 0, 1) := by decide +kernel
theorem dX2_crookedWith_16 : decode cX2_crookedWith 16 = .ok (.getfield 24, 3) := by decide +kernel
theorem dX2_crookedWith_19 : decode cX2_crookedWith 19 = .ok (.iload_n 3, 1) := by decide +kernel
theorem dX2_crookedWith_20 : decode cX2_crookedWith 20 = .ok (.iaload, 1) := by decide +kernel
theorem dX2_crookedWith_21 : decode cX2_crookedWith 21 = .ok (.if_icmp .ge 17, 3) := by decide +kernel
theorem dX2_crookedWith_24 : decode cX2_crookedWith 24 = .ok (.aload_n 0, 1) := by decide +kernel
theorem dX2_crookedWith_25 : decode cX2_crookedWith 25 = .ok (.getfield 21, 3) := by decide +kernel
theorem dX2_crookedWith_28 : decode cX2_crookedWith 28 = .ok (.aload_n 0, 1) := by decide +kernel
theorem dX2_crookedWith_29 : decode cX2_crookedWith 29 = .ok (.getfield 24, 3) := by decide +kernel
theorem dX2_crookedWith_32 : decode cX2_crookedWith 32 = .ok (.iload_n 3, 1) := by decide +kernel
theorem dX2_crookedWith_33 : decode cX2_crookedWith 33 = .ok (.iaload, 1) := by decide +kernel
theorem dX2_crookedWith_34 : decode cX2_crookedWith 34 = .ok (.iaload, 1) := by decide +kernel
theorem dX2_crookedWith_35 : decode cX2_crookedWith 35 = .ok (.goto 14, 3) := by decide +kernel
theorem dX2_crookedWith_38 : decode cX2_crookedWith 38 = .ok (.aload_n 0, 1) := by decide +kernel
theorem dX2_crookedWith_39 : decode cX2_crookedWith 39 = .ok (.getfield 17, 3) := by decide +kernel
theorem dX2_crookedWith_42 : decode cX2_crookedWith 42 = .ok (.aload_n 0, 1) := by decide +kernel
theorem dX2_crookedWith_43 : decode cX2_crookedWith 43 = .ok (.getfield 24, 3) := by decide +kernel
theorem dX2_crookedWith_46 : decode cX2_crookedWith 46 = .ok (.iload_n 3, 1) := by decide +kernel
theorem dX2_crookedWith_47 : decode cX2_crookedWith 47 = .ok (.iaload, 1) := by decide +kernel
theorem dX2_crookedWith_48 : decode cX2_crookedWith 48 = .ok (.iaload, 1) := by decide +kernel
theorem dX2_crookedWith_49 : decode cX2_crookedWith 49 = .ok (.invokevirtual 36, 3) := by decide +kernel
theorem dX2_crookedWith_52 : decode cX2_crookedWith 52 = .ok (.istore 4, 2) := by decide +kernel
theorem dX2_crookedWith_54 : decode cX2_crookedWith 54 = .ok (.iload_n 2, 1) := by decide +kernel
theorem dX2_crookedWith_55 : decode cX2_crookedWith 55 = .ok (.iload 4, 2) := by decide +kernel
theorem dX2_crookedWith_57 : decode cX2_crookedWith 57 = .ok (.invokestatic 49, 3) := by decide +kernel
theorem dX2_crookedWith_60 : decode cX2_crookedWith 60 = .ok (.ifCond .eq 10, 3) := by decide +kernel
theorem dX2_crookedWith_63 : decode cX2_crookedWith 63 = .ok (.aload_n 0, 1) := by decide +kernel
theorem dX2_crookedWith_64 : decode cX2_crookedWith 64 = .ok (.getfield 24, 3) := by decide +kernel
theorem dX2_crookedWith_67 : decode cX2_crookedWith 67 = .ok (.iload_n 3, 1) := by decide +kernel
theorem dX2_crookedWith_68 : decode cX2_crookedWith 68 = .ok (.iaload, 1) := by decide +kernel
theorem dX2_crookedWith_69 : decode cX2_crookedWith 69 = .ok (.ireturn, 1) := by decide +kernel
theorem dX2_crookedWith_70 : decode cX2_crookedWith 70 = .ok (.iload_n 2, 1) := by decide +kernel
theorem dX2_crookedWith_71 : decode cX2_crookedWith 71 = .ok (.iconst 1, 1) := by decide +kernel
theorem dX2_crookedWith_72 : decode cX2_crookedWith 72 = .ok (.iload 4, 2) := by decide +kernel
theorem dX2_crookedWith_74 : decode cX2_crookedWith 74 = .ok (.iadd, 1) := by decide +kernel
theorem dX2_crookedWith_75 : decode cX2_crookedWith 75 = .ok (.iadd, 1) := by decide +kernel
theorem dX2_crookedWith_76 : decode cX2_crookedWith 76 = .ok (.istore_n 2, 1) := by decide +kernel
theorem dX2_crookedWith_77 : decode cX2_crookedWith 77 = .ok (.iinc 3 (-1), 3) := by decide +kernel
theorem dX2_crookedWith_80 : decode cX2_crookedWith 80 = .ok (.goto (-71), 3) := by decide +kernel
theorem dX2_crookedWith_83 : decode cX2_crookedWith 83 = .ok (.iconst (-1), 1) := by decide +kernel
theorem dX2_crookedWith_84 : decode cX2_crookedWith 84 = .ok (.ireturn, 1) := by decide +kernel
set_option maxRecDepth 20000 in
theorem ggX2_muster_X2_isHeight : GoodIn wsX2_muster wsX2_isHeight := goodIn_r _ [16] (by decide +kernel) (by decide +kernel)
set_option maxRecDepth 20000 in
theorem gX2_muster_X2_isHeight : GoodIn wsX2_muster (va_wsS RX2 96 yX2_isHeight wsX2_isHeight) := goodIn_app (goodIn_of _ (by decide +kernel)) ggX2_muster_X2_isHeight
set_option maxRecDepth 20000 in
theorem ggX2_muster_X2_no : GoodIn wsX2_muster wsX2_no := goodIn_r _ [20, 1, 62, 63, 64, 65, 66, 67, 68, 69, 70, 71, 72, 73, 74] (by decide +kernel) (by decide +kernel)
set_option maxRecDepth 20000 in
theorem gX2_muster_X2_no : GoodIn wsX2_muster (wsV RX2 99 RX2 yX2_no wsX2_no) := goodIn_app (goodIn_of _ (by decide +kernel)) ggX2_muster_X2_no
set_option maxRecDepth 20000 in
theorem ggX2_muster_X2_goTo : GoodIn wsX2_muster wsX2_goTo := goodIn_r _ [24, 4, 25, 5, 6, 7, 62, 63, 64, 65, 66, 67, 68, 69, 70, 71, 72, 73, 74] (by decide +kernel) (by decide +kernel)
set_option maxRecDepth 20000 in
theorem gX2_muster_X2_goTo : GoodIn wsX2_muster (wsV RX2 77 RX2 yX2_goTo wsX2_goTo) := goodIn_app (goodIn_of _ (by decide +kernel)) ggX2_muster_X2_goTo
set_option maxRecDepth 20000 in
theorem ggX2_muster_X2_allowed : GoodIn wsX2_muster wsX2_allowed := goodIn_r _ [28, 29, 30] (by decide +kernel) (by decide +kernel)
set_option maxRecDepth 20000 in
theorem gX2_muster_X2_allowed : GoodIn wsX2_muster (va_wsS RX2 102 yX2_allowed wsX2_allowed) := goodIn_app (goodIn_of _ (by decide +kernel)) ggX2_muster_X2_allowed
set_option maxRecDepth 20000 in
theorem ggX2_muster_X2_crookedWith : GoodIn wsX2_muster wsX2_crookedWith := goodIn_r _ [34, 4, 5, 7, 6, 35, 36, 37, 15, 38, 39, 40, 41, 9, 10, 11, 12, 62, 63, 64, 65, 66, 67, 68, 69, 70, 71, 72, 73, 74] (by decide +kernel) (by decide +kernel)
set_option maxRecDepth 20000 in
theorem gX2_muster_X2_crookedWith : GoodIn wsX2_muster (wsV RX2 105 RX2 yX2_crookedWith wsX2_crookedWith) := goodIn_app (goodIn_of _ (by decide +kernel)) ggX2_muster_X2_crookedWith
set_option maxRecDepth 20000 in
theorem ggX2_muster_X2_hang : GoodIn wsX2_muster wsX2_hang := goodIn_r _ [45, 25, 6, 7, 62, 63, 64, 65, 66, 67, 68, 69, 70, 71, 72, 73, 74] (by decide +kernel) (by decide +kernel)
set_option maxRecDepth 20000 in
theorem gX2_muster_X2_hang : GoodIn wsX2_muster (wsV RX2 80 RX2 yX2_hang wsX2_hang) := goodIn_app (goodIn_of _ (by decide +kernel)) ggX2_muster_X2_hang
set_option maxRecDepth 20000 in
theorem ggX2_muster_X2_drawUp : GoodIn wsX2_muster wsX2_drawUp := goodIn_r _ [49, 4, 5, 50, 51, 52, 3, 8, 21, 22, 23, 15, 24, 25, 6, 7, 53, 54, 55, 56, 57, 58, 59, 60, 61, 42, 43, 44, 45, 62, 63, 64, 65, 66, 67, 68, 69, 70, 71, 72, 73, 74] (by decide +kernel) (by decide +kernel)
set_option maxRecDepth 20000 in
theorem gX2_muster_X2_drawUp : GoodIn wsX2_muster (wsV RX2 108 RX2 yX2_drawUp wsX2_drawUp) := goodIn_app (goodIn_of _ (by decide +kernel)) ggX2_muster_X2_drawUp
theorem dX2_muster_0 : decode cX2_muster 0 = .ok (.aload_n 0, 1) := by decide +kernel
theorem dX2_muster_1 : decode cX2_muster 1 = .ok (.iconst 0, 1) := by decide +kernel
theorem dX2_muster_2 : decode cX2_muster 2 = .ok (.putfield 30, 3) := by decide +kernel
theorem dX2_muster_5 : decode cX2_muster 5 = .ok (.iload_n 1, 1) := by decide +kernel
theorem dX2_muster_6 : decode cX2_muster 6 = .ok (.invokestatic 96, 3) := by decide +kernel
theorem dX2_muster_9 : decode cX2_muster 9 = .ok (.ifCond .ne 9, 3) := by decide +kernel
theorem dX2_muster_12 : decode cX2_muster 12 = .ok (.aload_n 0, 1) := by decide +kernel
theorem dX2_muster_13 : decode cX2_muster 13 = .ok (.iconst 1, 1) := by decide +kernel
theorem dX2_muster_14 : decode cX2_muster 14 = .ok (.invokevirtual 99, 3) := by decide +kernel
theorem dX2_muster_17 : decode cX2_muster 17 = .ok (.ireturn, 1) := by decide +kernel
theorem dX2_muster_18 : decode cX2_muster 18 = .ok (.aload_n 0, 1) := by decide +kernel
theorem dX2_muster_19 : decode cX2_muster 19 = .ok (.getfield 13, 3) := by decide +kernel
theorem dX2_muster_22 : decode cX2_muster 22 = .ok (.iload_n 1, 1) := by decide +kernel
theorem dX2_muster_23 : decode cX2_muster 23 = .ok (.baload, 1) := by decide +kernel
theorem dX2_muster_24 : decode cX2_muster 24 = .ok (.ifCond .ne 13, 3) := by decide +kernel
theorem dX2_muster_27 : decode cX2_muster 27 = .ok (.aload_n 0, 1) := by decide +kernel
theorem dX2_muster_28 : decode cX2_muster 28 = .ok (.getfield 90, 3) := by decide +kernel
theorem dX2_muster_31 : decode cX2_muster 31 = .ok (.sipush 150, 3) := by decide +kernel
theorem dX2_muster_34 : decode cX2_muster 34 = .ok (.if_icmp .ne 9, 3) := by decide +kernel
theorem dX2_muster_37 : decode cX2_muster 37 = .ok (.aload_n 0, 1) := by decide +kernel
theorem dX2_muster_38 : decode cX2_muster 38 = .ok (.iconst 2, 1) := by decide +kernel
theorem dX2_muster_39 : decode cX2_muster 39 = .ok (.invokevirtual 99, 3) := by decide +kernel
theorem dX2_muster_42 : decode cX2_muster 42 = .ok (.ireturn, 1) := by decide +kernel
theorem dX2_muster_43 : decode cX2_muster 43 = .ok (.aload_n 0, 1) := by decide +kernel
theorem dX2_muster_44 : decode cX2_muster 44 = .ok (.iload_n 1, 1) := by decide +kernel
theorem dX2_muster_45 : decode cX2_muster 45 = .ok (.invokevirtual 77, 3) := by decide +kernel
theorem dX2_muster_48 : decode cX2_muster 48 = .ok (.aload_n 0, 1) := by decide +kernel
theorem dX2_muster_49 : decode cX2_muster 49 = .ok (.getfield 33, 3) := by decide +kernel
theorem dX2_muster_52 : decode cX2_muster 52 = .ok (.aload_n 0, 1) := by decide +kernel
theorem dX2_muster_53 : decode cX2_muster 53 = .ok (.getfield 90, 3) := by decide +kernel
theorem dX2_muster_56 : decode cX2_muster 56 = .ok (.iconst 1, 1) := by decide +kernel
theorem dX2_muster_57 : decode cX2_muster 57 = .ok (.iadd, 1) := by decide +kernel
theorem dX2_muster_58 : decode cX2_muster 58 = .ok (.invokestatic 102, 3) := by decide +kernel
theorem dX2_muster_61 : decode cX2_muster 61 = .ok (.if_icmp .le 11, 3) := by decide +kernel
theorem dX2_muster_64 : decode cX2_muster 64 = .ok (.aload_n 0, 1) := by decide +kernel
theorem dX2_muster_65 : decode cX2_muster 65 = .ok (.iload_n 1, 1) := by decide +kernel
theorem dX2_muster_66 : decode cX2_muster 66 = .ok (.invokevirtual 105, 3) := by decide +kernel
end
section
theorem dX2_muster_69 : decode cX2_muster 69 = .ok (.goto 4, 3) := by decide +kernel
theorem dX2_muster_72 : decode cX2_muster 72 = .ok (.iconst (-1), 1) := by decide +kernel
theorem dX2_muster_73 : decode cX2_muster 73 = .ok (.istore_n 2, 1) := by decide +kernel
theorem dX2_muster_74 : decode cX2_muster 74 = .ok (.aload_n 0, 1) := by decide +kernel
theorem dX2_muster_75 : decode cX2_muster 75 = .ok (.aload_n 0, 1) := by decide +kernel
theorem dX2_muster_76 : decode cX2_muster 76 = .ok (.getfield 33, 3) := by decide +kernel
theorem dX2_muster_79 : decode cX2_muster 79 = .ok (.ifCond .ne 7, 3) := by decide +kernel
theorem dX2_muster_82 : decode cX2_muster 82 = .ok (.iconst (-1), 1) := by decide +kernel
theorem dX2_muster_83 : decode cX2_muster 83 = .ok (.goto 14, 3) := by decide +kernel
theorem dX2_muster_86 : decode cX2_muster 86 = .ok (.aload_n 0, 1) := by decide +kernel
theorem dX2_muster_87 : decode cX2_muster 87 = .ok (.getfield 24, 3) := by decide +kernel
theorem dX2_muster_90 : decode cX2_muster 90 = .ok (.aload_n 0, 1) := by decide +kernel
theorem dX2_muster_91 : decode cX2_muster 91 = .ok (.getfield 33, 3) := by decide +kernel
theorem dX2_muster_94 : decode cX2_muster 94 = .ok (.iconst 1, 1) := by decide +kernel
theorem dX2_muster_95 : decode cX2_muster 95 = .ok (.isub, 1) := by decide +kernel
theorem dX2_muster_96 : decode cX2_muster 96 = .ok (.iaload, 1) := by decide +kernel
theorem dX2_muster_97 : decode cX2_muster 97 = .ok (.iload_n 1, 1) := by decide +kernel
theorem dX2_muster_98 : decode cX2_muster 98 = .ok (.iload_n 1, 1) := by decide +kernel
theorem dX2_muster_99 : decode cX2_muster 99 = .ok (.invokevirtual 80, 3) := by decide +kernel
theorem dX2_muster_102 : decode cX2_muster 102 = .ok (.aload_n 0, 1) := by decide +kernel
theorem dX2_muster_103 : decode cX2_muster 103 = .ok (.getfield 13, 3) := by decide +kernel
theorem dX2_muster_106 : decode cX2_muster 106 = .ok (.iload_n 1, 1) := by decide +kernel
theorem dX2_muster_107 : decode cX2_muster 107 = .ok (.iconst 1, 1) := by decide +kernel
theorem dX2_muster_108 : decode cX2_muster 108 = .ok (.bastore, 1) := by decide +kernel
theorem dX2_muster_109 : decode cX2_muster 109 = .ok (.aload_n 0, 1) := by decide +kernel
theorem dX2_muster_110 : decode cX2_muster 110 = .ok (.getfield 17, 3) := by decide +kernel
theorem dX2_muster_113 : decode cX2_muster 113 = .ok (.iload_n 1, 1) := by decide +kernel
theorem dX2_muster_114 : decode cX2_muster 114 = .ok (.iconst (-1), 1) := by decide +kernel
theorem dX2_muster_115 : decode cX2_muster 115 = .ok (.iastore, 1) := by decide +kernel
theorem dX2_muster_116 : decode cX2_muster 116 = .ok (.aload_n 0, 1) := by decide +kernel
theorem dX2_muster_117 : decode cX2_muster 117 = .ok (.getfield 21, 3) := by decide +kernel
theorem dX2_muster_120 : decode cX2_muster 120 = .ok (.iload_n 1, 1) := by decide +kernel
theorem dX2_muster_121 : decode cX2_muster 121 = .ok (.iconst (-1), 1) := by decide +kernel
theorem dX2_muster_122 : decode cX2_muster 122 = .ok (.iastore, 1) := by decide +kernel
theorem dX2_muster_123 : decode cX2_muster 123 = .ok (.aload_n 0, 1) := by decide +kernel
theorem dX2_muster_124 : decode cX2_muster 124 = .ok (.dup, 1) := by decide +kernel
theorem dX2_muster_125 : decode cX2_muster 125 = .ok (.getfield 90, 3) := by decide +kernel
theorem dX2_muster_128 : decode cX2_muster 128 = .ok (.iconst 1, 1) := by decide +kernel
theorem dX2_muster_129 : decode cX2_muster 129 = .ok (.iadd, 1) := by decide +kernel
theorem dX2_muster_130 : decode cX2_muster 130 = .ok (.putfield 90, 3) := by decide +kernel
theorem dX2_muster_133 : decode cX2_muster 133 = .ok (.aload_n 0, 1) := by decide +kernel
theorem dX2_muster_134 : decode cX2_muster 134 = .ok (.aload_n 0, 1) := by decide +kernel
theorem dX2_muster_135 : decode cX2_muster 135 = .ok (.getfield 93, 3) := by decide +kernel
theorem dX2_muster_138 : decode cX2_muster 138 = .ok (.aload_n 0, 1) := by decide +kernel
theorem dX2_muster_139 : decode cX2_muster 139 = .ok (.getfield 90, 3) := by decide +kernel
theorem dX2_muster_142 : decode cX2_muster 142 = .ok (.invokestatic 43, 3) := by decide +kernel
theorem dX2_muster_145 : decode cX2_muster 145 = .ok (.putfield 93, 3) := by decide +kernel
theorem dX2_muster_148 : decode cX2_muster 148 = .ok (.iload_n 2, 1) := by decide +kernel
theorem dX2_muster_149 : decode cX2_muster 149 = .ok (.iconst (-1), 1) := by decide +kernel
theorem dX2_muster_150 : decode cX2_muster 150 = .ok (.if_icmp .eq 9, 3) := by decide +kernel
theorem dX2_muster_153 : decode cX2_muster 153 = .ok (.aload_n 0, 1) := by decide +kernel
theorem dX2_muster_154 : decode cX2_muster 154 = .ok (.iload_n 2, 1) := by decide +kernel
theorem dX2_muster_155 : decode cX2_muster 155 = .ok (.invokevirtual 108, 3) := by decide +kernel
theorem dX2_muster_158 : decode cX2_muster 158 = .ok (.pop, 1) := by decide +kernel
theorem dX2_muster_159 : decode cX2_muster 159 = .ok (.aload_n 0, 1) := by decide +kernel
theorem dX2_muster_160 : decode cX2_muster 160 = .ok (.iload_n 1, 1) := by decide +kernel
theorem dX2_muster_161 : decode cX2_muster 161 = .ok (.invokevirtual 77, 3) := by decide +kernel
theorem dX2_muster_164 : decode cX2_muster 164 = .ok (.aload_n 0, 1) := by decide +kernel
theorem dX2_muster_165 : decode cX2_muster 165 = .ok (.getfield 33, 3) := by decide +kernel
theorem dX2_muster_168 : decode cX2_muster 168 = .ok (.iconst 1, 1) := by decide +kernel
theorem dX2_muster_169 : decode cX2_muster 169 = .ok (.isub, 1) := by decide +kernel
theorem dX2_muster_170 : decode cX2_muster 170 = .ok (.ireturn, 1) := by decide +kernel
set_option maxRecDepth 20000 in
theorem ggX2_discharge_X2_isHeight : GoodIn wsX2_discharge wsX2_isHeight := goodIn_r _ [13] (by decide +kernel) (by decide +kernel)
set_option maxRecDepth 20000 in
theorem gX2_discharge_X2_isHeight : GoodIn wsX2_discharge (va_wsS RX2 96 yX2_isHeight wsX2_isHeight) := goodIn_app (goodIn_of _ (by decide +kernel)) ggX2_discharge_X2_isHeight
set_option maxRecDepth 20000 in
theorem ggX2_discharge_X2_goTo : GoodIn wsX2_discharge wsX2_goTo := goodIn_r _ [17, 3, 9, 4, 5, 6, 42, 43, 44, 45, 46, 47, 48, 49, 50, 51, 52, 53, 54] (by decide +kernel) (by decide +kernel)
set_option maxRecDepth 20000 in
theorem gX2_discharge_X2_goTo : GoodIn wsX2_discharge (wsV RX2 77 RX2 yX2_goTo wsX2_goTo) := goodIn_app (goodIn_of _ (by decide +kernel)) ggX2_discharge_X2_goTo
set_option maxRecDepth 20000 in
theorem ggX2_discharge_X2_next : GoodIn wsX2_discharge wsX2_next := goodIn_r _ [21, 6, 5, 42, 43, 44, 45, 46, 47, 48, 49, 50, 51, 52, 53, 54] (by decide +kernel) (by decide +kernel)
set_option maxRecDepth 20000 in
theorem gX2_discharge_X2_next : GoodIn wsX2_discharge (wsV RX2 111 RX2 yX2_next wsX2_next) := goodIn_app (goodIn_of _ (by decide +kernel)) ggX2_discharge_X2_next
set_option maxRecDepth 20000 in
theorem ggX2_discharge_X2_hang : GoodIn wsX2_discharge wsX2_hang := goodIn_r _ [25, 9, 5, 6, 42, 43, 44, 45, 46, 47, 48, 49, 50, 51, 52, 53, 54] (by decide +kernel) (by decide +kernel)
set_option maxRecDepth 20000 in
theorem gX2_discharge_X2_hang : GoodIn wsX2_discharge (wsV RX2 80 RX2 yX2_hang wsX2_hang) := goodIn_app (goodIn_of _ (by decide +kernel)) ggX2_discharge_X2_hang
set_option maxRecDepth 20000 in
theorem ggX2_discharge_X2_drawUp : GoodIn wsX2_discharge wsX2_drawUp := goodIn_r _ [29, 3, 4, 30, 31, 32, 7, 8, 14, 15, 16, 12, 17, 9, 5, 6, 33, 34, 35, 36, 37, 38, 39, 40, 41, 22, 23, 24, 25, 42, 43, 44, 45, 46, 47, 48, 49, 50, 51, 52, 53, 54] (by decide +kernel) (by decide +kernel)
set_option maxRecDepth 20000 in
theorem gX2_discharge_X2_drawUp : GoodIn wsX2_discharge (wsV RX2 108 RX2 yX2_drawUp wsX2_drawUp) := goodIn_app (goodIn_of _ (by decide +kernel)) ggX2_discharge_X2_drawUp
theorem dX2_discharge_0 : decode cX2_discharge 0 = .ok (.aload_n 0, 1) := by decide +kernel
theorem dX2_discharge_1 : decode cX2_discharge 1 = .ok (.iload_n 1, 1) := by decide +kernel
theorem dX2_discharge_2 : decode cX2_discharge 2 = .ok (.invokestatic 96, 3) := by decide +kernel
theorem dX2_discharge_5 : decode cX2_discharge 5 = .ok (.ifCond .ne 7, 3) := by decide +kernel
theorem dX2_discharge_8 : decode cX2_discharge 8 = .ok (.iconst 1, 1) := by decide +kernel
theorem dX2_discharge_9 : decode cX2_discharge 9 = .ok (.goto 17, 3) := by decide +kernel
theorem dX2_discharge_12 : decode cX2_discharge 12 = .ok (.aload_n 0, 1) := by decide +kernel
theorem dX2_discharge_13 : decode cX2_discharge 13 = .ok (.getfield 13, 3) := by decide +kernel
theorem dX2_discharge_16 : decode cX2_discharge 16 = .ok (.iload_n 1, 1) := by decide +kernel
theorem dX2_discharge_17 : decode cX2_discharge 17 = .ok (.baload, 1) := by decide +kernel
theorem dX2_discharge_18 : decode cX2_discharge 18 = .ok (.ifCond .eq 7, 3) := by decide +kernel
theorem dX2_discharge_21 : decode cX2_discharge 21 = .ok (.iconst 0, 1) := by decide +kernel
theorem dX2_discharge_22 : decode cX2_discharge 22 = .ok (.goto 4, 3) := by decide +kernel
theorem dX2_discharge_25 : decode cX2_discharge 25 = .ok (.iconst 2, 1) := by decide +kernel
theorem dX2_discharge_26 : decode cX2_discharge 26 = .ok (.putfield 30, 3) := by decide +kernel
theorem dX2_discharge_29 : decode cX2_discharge 29 = .ok (.aload_n 0, 1) := by decide +kernel
theorem dX2_discharge_30 : decode cX2_discharge 30 = .ok (.getfield 30, 3) := by decide +kernel
theorem dX2_discharge_33 : decode cX2_discharge 33 = .ok (.ifCond .eq 5, 3) := by decide +kernel
theorem dX2_discharge_36 : decode cX2_discharge 36 = .ok (.iconst 0, 1) := by decide +kernel
theorem dX2_discharge_37 : decode cX2_discharge 37 = .ok (.ireturn, 1) := by decide +kernel
theorem dX2_discharge_38 : decode cX2_discharge 38 = .ok (.aload_n 0, 1) := by decide +kernel
theorem dX2_discharge_39 : decode cX2_discharge 39 = .ok (.iload_n 1, 1) := by decide +kernel
theorem dX2_discharge_40 : decode cX2_discharge 40 = .ok (.invokevirtual 77, 3) := by decide +kernel
theorem dX2_discharge_43 : decode cX2_discharge 43 = .ok (.aload_n 0, 1) := by decide +kernel
theorem dX2_discharge_44 : decode cX2_discharge 44 = .ok (.getfield 33, 3) := by decide +kernel
theorem dX2_discharge_47 : decode cX2_discharge 47 = .ok (.iconst 1, 1) := by decide +kernel
theorem dX2_discharge_48 : decode cX2_discharge 48 = .ok (.if_icmp .le 17, 3) := by decide +kernel
theorem dX2_discharge_51 : decode cX2_discharge 51 = .ok (.aload_n 0, 1) := by decide +kernel
theorem dX2_discharge_52 : decode cX2_discharge 52 = .ok (.getfield 24, 3) := by decide +kernel
theorem dX2_discharge_55 : decode cX2_discharge 55 = .ok (.aload_n 0, 1) := by decide +kernel
theorem dX2_discharge_56 : decode cX2_discharge 56 = .ok (.getfield 33, 3) := by decide +kernel
theorem dX2_discharge_59 : decode cX2_discharge 59 = .ok (.iconst 2, 1) := by decide +kernel
theorem dX2_discharge_60 : decode cX2_discharge 60 = .ok (.isub, 1) := by decide +kernel
theorem dX2_discharge_61 : decode cX2_discharge 61 = .ok (.iaload, 1) := by decide +kernel
theorem dX2_discharge_62 : decode cX2_discharge 62 = .ok (.goto 4, 3) := by decide +kernel
theorem dX2_discharge_65 : decode cX2_discharge 65 = .ok (.iconst (-1), 1) := by decide +kernel
theorem dX2_discharge_66 : decode cX2_discharge 66 = .ok (.istore_n 2, 1) := by decide +kernel
theorem dX2_discharge_67 : decode cX2_discharge 67 = .ok (.aload_n 0, 1) := by decide +kernel
theorem dX2_discharge_68 : decode cX2_discharge 68 = .ok (.getfield 17, 3) := by decide +kernel
theorem dX2_discharge_71 : decode cX2_discharge 71 = .ok (.iload_n 1, 1) := by decide +kernel
theorem dX2_discharge_72 : decode cX2_discharge 72 = .ok (.iaload, 1) := by decide +kernel
theorem dX2_discharge_73 : decode cX2_discharge 73 = .ok (.iconst (-1), 1) := by decide +kernel
theorem dX2_discharge_74 : decode cX2_discharge 74 = .ok (.if_icmp .ne 12, 3) := by decide +kernel
theorem dX2_discharge_77 : decode cX2_discharge 77 = .ok (.aload_n 0, 1) := by decide +kernel
theorem dX2_discharge_78 : decode cX2_discharge 78 = .ok (.getfield 21, 3) := by decide +kernel
theorem dX2_discharge_81 : decode cX2_discharge 81 = .ok (.iload_n 1, 1) := by decide +kernel
theorem dX2_discharge_82 : decode cX2_discharge 82 = .ok (.iaload, 1) := by decide +kernel
theorem dX2_discharge_83 : decode cX2_discharge 83 = .ok (.goto 9, 3) := by decide +kernel
theorem dX2_discharge_86 : decode cX2_discharge 86 = .ok (.aload_n 0, 1) := by decide +kernel
theorem dX2_discharge_87 : decode cX2_discharge 87 = .ok (.getfield 17, 3) := by decide +kernel
theorem dX2_discharge_90 : decode cX2_discharge 90 = .ok (.iload_n 1, 1) := by decide +kernel
theorem dX2_discharge_91 : decode cX2_discharge 91 = .ok (.iaload, 1) := by decide +kernel
theorem dX2_discharge_92 : decode cX2_discharge 92 = .ok (.istore_n 3, 1) := by decide +kernel
theorem dX2_discharge_93 : decode cX2_discharge 93 = .ok (.aload_n 0, 1) := by decide +kernel
theorem dX2_discharge_94 : decode cX2_discharge 94 = .ok (.getfield 17, 3) := by decide +kernel
theorem dX2_discharge_97 : decode cX2_discharge 97 = .ok (.iload_n 1, 1) := by decide +kernel
theorem dX2_discharge_98 : decode cX2_discharge 98 = .ok (.iaload, 1) := by decide +kernel
theorem dX2_discharge_99 : decode cX2_discharge 99 = .ok (.iconst (-1), 1) := by decide +kernel
theorem dX2_discharge_100 : decode cX2_discharge 100 = .ok (.if_icmp .eq 19, 3) := by decide +kernel
theorem dX2_discharge_103 : decode cX2_discharge 103 = .ok (.aload_n 0, 1) := by decide +kernel
theorem dX2_discharge_104 : decode cX2_discharge 104 = .ok (.getfield 21, 3) := by decide +kernel
theorem dX2_discharge_107 : decode cX2_discharge 107 = .ok (.iload_n 1, 1) := by decide +kernel
theorem dX2_discharge_108 : decode cX2_discharge 108 = .ok (.iaload, 1) := by decide +kernel
theorem dX2_discharge_109 : decode cX2_discharge 109 = .ok (.iconst (-1), 1) := by decide +kernel
theorem dX2_discharge_110 : decode cX2_discharge 110 = .ok (.if_icmp .eq 9, 3) := by decide +kernel
theorem dX2_discharge_113 : decode cX2_discharge 113 = .ok (.aload_n 0, 1) := by decide +kernel
theorem dX2_discharge_114 : decode cX2_discharge 114 = .ok (.iload_n 1, 1) := by decide +kernel
theorem dX2_discharge_115 : decode cX2_discharge 115 = .ok (.invokevirtual 111, 3) := by decide +kernel
theorem dX2_discharge_118 : decode cX2_discharge 118 = .ok (.istore_n 3, 1) := by decide +kernel
theorem dX2_discharge_119 : decode cX2_discharge 119 = .ok (.aload_n 0, 1) := by decide +kernel
theorem dX2_discharge_120 : decode cX2_discharge 120 = .ok (.iload_n 2, 1) := by decide +kernel
theorem dX2_discharge_121 : decode cX2_discharge 121 = .ok (.iload_n 1, 1) := by decide +kernel
theorem dX2_discharge_122 : decode cX2_discharge 122 = .ok (.iload_n 3, 1) := by decide +kernel
theorem dX2_discharge_123 : decode cX2_discharge 123 = .ok (.invokevirtual 80, 3) := by decide +kernel
theorem dX2_discharge_126 : decode cX2_discharge 126 = .ok (.aload_n 0, 1) := by decide +kernel
theorem dX2_discharge_127 : decode cX2_discharge 127 = .ok (.getfield 13, 3) := by decide +kernel
theorem dX2_discharge_130 : decode cX2_discharge 130 = .ok (.iload_n 1, 1) := by decide +kernel
theorem dX2_discharge_131 : decode cX2_discharge 131 = .ok (.iconst 0, 1) := by decide +kernel
theorem dX2_discharge_132 : decode cX2_discharge 132 = .ok (.bastore, 1) := by decide +kernel
theorem dX2_discharge_133 : decode cX2_discharge 133 = .ok (.aload_n 0, 1) := by decide +kernel
theorem dX2_discharge_134 : decode cX2_discharge 134 = .ok (.dup, 1) := by decide +kernel
theorem dX2_discharge_135 : decode cX2_discharge 135 = .ok (.getfield 90, 3) := by decide +kernel
theorem dX2_discharge_138 : decode cX2_discharge 138 = .ok (.iconst 1, 1) := by decide +kernel
theorem dX2_discharge_139 : decode cX2_discharge 139 = .ok (.isub, 1) := by decide +kernel
theorem dX2_discharge_140 : decode cX2_discharge 140 = .ok (.putfield 90, 3) := by decide +kernel
theorem dX2_discharge_143 : decode cX2_discharge 143 = .ok (.aload_n 0, 1) := by decide +kernel
theorem dX2_discharge_144 : decode cX2_discharge 144 = .ok (.getfield 90, 3) := by decide +kernel
theorem dX2_discharge_147 : decode cX2_discharge 147 = .ok (.ifCond .ne 8, 3) := by decide +kernel
theorem dX2_discharge_150 : decode cX2_discharge 150 = .ok (.aload_n 0, 1) := by decide +kernel
theorem dX2_discharge_151 : decode cX2_discharge 151 = .ok (.iconst 0, 1) := by decide +kernel
theorem dX2_discharge_152 : decode cX2_discharge 152 = .ok (.putfield 93, 3) := by decide +kernel
theorem dX2_discharge_155 : decode cX2_discharge 155 = .ok (.iconst 3, 1) := by decide +kernel
theorem dX2_discharge_156 : decode cX2_discharge 156 = .ok (.aload_n 0, 1) := by decide +kernel
theorem dX2_discharge_157 : decode cX2_discharge 157 = .ok (.getfield 90, 3) := by decide +kernel
theorem dX2_discharge_160 : decode cX2_discharge 160 = .ok (.imul, 1) := by decide +kernel
theorem dX2_discharge_161 : decode cX2_discharge 161 = .ok (.iconst 2, 1) := by decide +kernel
theorem dX2_discharge_162 : decode cX2_discharge 162 = .ok (.aload_n 0, 1) := by decide +kernel
theorem dX2_discharge_163 : decode cX2_discharge 163 = .ok (.getfield 93, 3) := by decide +kernel
theorem dX2_discharge_166 : decode cX2_discharge 166 = .ok (.imul, 1) := by decide +kernel
theorem dX2_discharge_167 : decode cX2_discharge 167 = .ok (.if_icmp .lt 5, 3) := by decide +kernel
theorem dX2_discharge_170 : decode cX2_discharge 170 = .ok (.iconst 0, 1) := by decide +kernel
theorem dX2_discharge_171 : decode cX2_discharge 171 = .ok (.ireturn, 1) := by decide +kernel
theorem dX2_discharge_172 : decode cX2_discharge 172 = .ok (.aload_n 0, 1) := by decide +kernel
theorem dX2_discharge_173 : decode cX2_discharge 173 = .ok (.aload_n 0, 1) := by decide +kernel
theorem dX2_discharge_174 : decode cX2_discharge 174 = .ok (.getfield 9, 3) := by decide +kernel
theorem dX2_discharge_177 : decode cX2_discharge 177 = .ok (.invokevirtual 108, 3) := by decide +kernel
theorem dX2_discharge_180 : decode cX2_discharge 180 = .ok (.pop, 1) := by decide +kernel
theorem dX2_discharge_181 : decode cX2_discharge 181 = .ok (.iconst 1, 1) := by decide +kernel
theorem dX2_discharge_182 : decode cX2_discharge 182 = .ok (.ireturn, 1) := by decide +kernel
theorem dX2_next_0 : decode cX2_next 0 = .ok (.iload_n 1, 1) := by decide +kernel
theorem dX2_next_1 : decode cX2_next 1 = .ok (.istore_n 2, 1) := by decide +kernel
theorem dX2_next_2 : decode cX2_next 2 = .ok (.aload_n 0, 1) := by decide +kernel
theorem dX2_next_3 : decode cX2_next 3 = .ok (.getfield 21, 3) := by decide +kernel
theorem dX2_next_6 : decode cX2_next 6 = .ok (.iload_n 1, 1) := by decide +kernel
theorem dX2_next_7 : decode cX2_next 7 = .ok (.iaload, 1) := by decide +kernel
theorem dX2_next_8 : decode cX2_next 8 = .ok (.istore_n 3, 1) := by decide +kernel
theorem dX2_next_9 : decode cX2_next 9 = .ok (.aload_n 0, 1) := by decide +kernel
theorem dX2_next_10 : decode cX2_next 10 = .ok (.getfield 17, 3) := by decide +kernel
theorem dX2_next_13 : decode cX2_next 13 = .ok (.iload_n 3, 1) := by decide +kernel
theorem dX2_next_14 : decode cX2_next 14 = .ok (.iaload, 1) := by decide +kernel
theorem dX2_next_15 : decode cX2_next 15 = .ok (.iconst (-1), 1) := by decide +kernel
theorem dX2_next_16 : decode cX2_next 16 = .ok (.if_icmp .eq 15, 3) := by decide +kernel
theorem dX2_next_19 : decode cX2_next 19 = .ok (.iload_n 3, 1) := by decide +kernel
theorem dX2_next_20 : decode cX2_next 20 = .ok (.istore_n 2, 1) := by decide +kernel
theorem dX2_next_21 : decode cX2_next 21 = .ok (.aload_n 0, 1) := by decide +kernel
theorem dX2_next_22 : decode cX2_next 22 = .ok (.getfield 17, 3) := by decide +kernel
theorem dX2_next_25 : decode cX2_next 25 = .ok (.iload_n 3, 1) := by decide +kernel
theorem dX2_next_26 : decode cX2_next 26 = .ok (.iaload, 1) := by decide +kernel
theorem dX2_next_27 : decode cX2_next 27 = .ok (.istore_n 3, 1) := by decide +kernel
theorem dX2_next_28 : decode cX2_next 28 = .ok (.goto (-19), 3) := by decide +kernel
theorem dX2_next_31 : decode cX2_next 31 = .ok (.iload_n 2, 1) := by decide +kernel
theorem dX2_next_32 : decode cX2_next 32 = .ok (.iload_n 1, 1) := by decide +kernel
theorem dX2_next_33 : decode cX2_next 33 = .ok (.if_icmp .eq 27, 3) := by decide +kernel
theorem dX2_next_36 : decode cX2_next 36 = .ok (.aload_n 0, 1) := by decide +kernel
theorem dX2_next_37 : decode cX2_next 37 = .ok (.getfield 17, 3) := by decide +kernel
theorem dX2_next_40 : decode cX2_next 40 = .ok (.iload_n 2, 1) := by decide +kernel
theorem dX2_next_41 : decode cX2_next 41 = .ok (.aload_n 0, 1) := by decide +kernel
theorem dX2_next_42 : decode cX2_next 42 = .ok (.getfield 21, 3) := by decide +kernel
theorem dX2_next_45 : decode cX2_next 45 = .ok (.iload_n 3, 1) := by decide +kernel
theorem dX2_next_46 : decode cX2_next 46 = .ok (.iaload, 1) := by decide +kernel
theorem dX2_next_47 : decode cX2_next 47 = .ok (.iastore, 1) := by decide +kernel
theorem dX2_next_48 : decode cX2_next 48 = .ok (.aload_n 0, 1) := by decide +kernel
theorem dX2_next_49 : decode cX2_next 49 = .ok (.getfield 21, 3) := by decide +kernel
theorem dX2_next_52 : decode cX2_next 52 = .ok (.iload_n 3, 1) := by decide +kernel
theorem dX2_next_53 : decode cX2_next 53 = .ok (.aload_n 0, 1) := by decide +kernel
theorem dX2_next_54 : decode cX2_next 54 = .ok (.getfield 21, 3) := by decide +kernel
theorem dX2_next_57 : decode cX2_next 57 = .ok (.iload_n 1, 1) := by decide +kernel
theorem dX2_next_58 : decode cX2_next 58 = .ok (.iaload, 1) := by decide +kernel
theorem dX2_next_59 : decode cX2_next 59 = .ok (.iastore, 1) := by decide +kernel
theorem dX2_next_60 : decode cX2_next 60 = .ok (.aload_n 0, 1) := by decide +kernel
theorem dX2_next_61 : decode cX2_next 61 = .ok (.getfield 17, 3) := by decide +kernel
theorem dX2_next_64 : decode cX2_next 64 = .ok (.iload_n 3, 1) := by decide +kernel
theorem dX2_next_65 : decode cX2_next 65 = .ok (.aload_n 0, 1) := by decide +kernel
theorem dX2_next_66 : decode cX2_next 66 = .ok (.getfield 17, 3) := by decide +kernel
theorem dX2_next_69 : decode cX2_next 69 = .ok (.iload_n 1, 1) := by decide +kernel
theorem dX2_next_70 : decode cX2_next 70 = .ok (.iaload, 1) := by decide +kernel
theorem dX2_next_71 : decode cX2_next 71 = .ok (.iastore, 1) := by decide +kernel
theorem dX2_next_72 : decode cX2_next 72 = .ok (.iload_n 3, 1) := by decide +kernel
theorem dX2_next_73 : decode cX2_next 73 = .ok (.ireturn, 1) := by decide +kernel
set_option maxRecDepth 20000 in
theorem ggX2_draw_X2_isHeight : GoodIn wsX2_draw wsX2_isHeight := goodIn_r _ [6] (by decide +kernel) (by decide +kernel)
set_option maxRecDepth 20000 in
theorem gX2_draw_X2_isHeight : GoodIn wsX2_draw (va_wsS RX2 96 yX2_isHeight wsX2_isHeight) := goodIn_app (goodIn_of _ (by decide +kernel)) ggX2_draw_X2_isHeight
set_option maxRecDepth 20000 in
theorem ggX2_draw_X2_drawUp : GoodIn wsX2_draw wsX2_drawUp := goodIn_r _ [10, 11, 12, 13, 14, 15, 16, 17, 18, 19, 20, 5, 21, 22, 23, 24, 25, 26, 27, 28, 29, 30, 31, 32, 33, 34, 35, 36, 37, 38, 39, 40, 41, 42, 43, 44, 45, 46, 47, 48, 49, 50] (by decide +kernel) (by decide +kernel)
set_option maxRecDepth 20000 in
theorem gX2_draw_X2_drawUp : GoodIn wsX2_draw (wsV RX2 108 RX2 yX2_drawUp wsX2_drawUp) := goodIn_app (goodIn_of _ (by decide +kernel)) ggX2_draw_X2_drawUp
theorem dX2_draw_0 : decode cX2_draw 0 = .ok (.aload_n 0, 1) := by decide +kernel
theorem dX2_draw_1 : decode cX2_draw 1 = .ok (.iload_n 1, 1) := by decide +kernel
theorem dX2_draw_2 : decode cX2_draw 2 = .ok (.invokestatic 96, 3) := by decide +kernel
theorem dX2_draw_5 : decode cX2_draw 5 = .ok (.ifCond .ne 7, 3) := by decide +kernel
theorem dX2_draw_8 : decode cX2_draw 8 = .ok (.iconst 1, 1) := by decide +kernel
theorem dX2_draw_9 : decode cX2_draw 9 = .ok (.goto 17, 3) := by decide +kernel
theorem dX2_draw_12 : decode cX2_draw 12 = .ok (.aload_n 0, 1) := by decide +kernel
theorem dX2_draw_13 : decode cX2_draw 13 = .ok (.getfield 13, 3) := by decide +kernel
theorem dX2_draw_16 : decode cX2_draw 16 = .ok (.iload_n 1, 1) := by decide +kernel
theorem dX2_draw_17 : decode cX2_draw 17 = .ok (.baload, 1) := by decide +kernel
theorem dX2_draw_18 : decode cX2_draw 18 = .ok (.ifCond .eq 7, 3) := by decide +kernel
theorem dX2_draw_21 : decode cX2_draw 21 = .ok (.iconst 0, 1) := by decide +kernel
theorem dX2_draw_22 : decode cX2_draw 22 = .ok (.goto 4, 3) := by decide +kernel
theorem dX2_draw_25 : decode cX2_draw 25 = .ok (.iconst 2, 1) := by decide +kernel
theorem dX2_draw_26 : decode cX2_draw 26 = .ok (.putfield 30, 3) := by decide +kernel
theorem dX2_draw_29 : decode cX2_draw 29 = .ok (.aload_n 0, 1) := by decide +kernel
theorem dX2_draw_30 : decode cX2_draw 30 = .ok (.getfield 30, 3) := by decide +kernel
theorem dX2_draw_33 : decode cX2_draw 33 = .ok (.ifCond .ne 11, 3) := by decide +kernel
theorem dX2_draw_36 : decode cX2_draw 36 = .ok (.aload_n 0, 1) := by decide +kernel
theorem dX2_draw_37 : decode cX2_draw 37 = .ok (.iload_n 1, 1) := by decide +kernel
theorem dX2_draw_38 : decode cX2_draw 38 = .ok (.invokevirtual 108, 3) := by decide +kernel
theorem dX2_draw_41 : decode cX2_draw 41 = .ok (.goto 4, 3) := by decide +kernel
theorem dX2_draw_44 : decode cX2_draw 44 = .ok (.iconst 0, 1) := by decide +kernel
theorem dX2_draw_45 : decode cX2_draw 45 = .ok (.ireturn, 1) := by decide +kernel
set_option maxRecDepth 20000 in
theorem ggX2_isThere_X2_isHeight : GoodIn wsX2_isThere wsX2_isHeight := goodIn_r _ [6] (by decide +kernel) (by decide +kernel)
set_option maxRecDepth 20000 in
theorem gX2_isThere_X2_isHeight : GoodIn wsX2_isThere (va_wsS RX2 96 yX2_isHeight wsX2_isHeight) := goodIn_app (goodIn_of _ (by decide +kernel)) ggX2_isThere_X2_isHeight
theorem dX2_isThere_0 : decode cX2_isThere 0 = .ok (.aload_n 0, 1) := by decide +kernel
theorem dX2_isThere_1 : decode cX2_isThere 1 = .ok (.iload_n 1, 1) := by decide +kernel
theorem dX2_isThere_2 : decode cX2_isThere 2 = .ok (.invokestatic 96, 3) := by decide +kernel
theorem dX2_isThere_5 : decode cX2_isThere 5 = .ok (.ifCond .eq 7, 3) := by decide +kernel
theorem dX2_isThere_8 : decode cX2_isThere 8 = .ok (.iconst 0, 1) := by decide +kernel
theorem dX2_isThere_9 : decode cX2_isThere 9 = .ok (.goto 4, 3) := by decide +kernel
theorem dX2_isThere_12 : decode cX2_isThere 12 = .ok (.iconst 1, 1) := by decide +kernel
theorem dX2_isThere_13 : decode cX2_isThere 13 = .ok (.putfield 30, 3) := by decide +kernel
theorem dX2_isThere_16 : decode cX2_isThere 16 = .ok (.aload_n 0, 1) := by decide +kernel
theorem dX2_isThere_17 : decode cX2_isThere 17 = .ok (.getfield 30, 3) := by decide +kernel
theorem dX2_isThere_20 : decode cX2_isThere 20 = .ok (.ifCond .ne 16, 3) := by decide +kernel
theorem dX2_isThere_23 : decode cX2_isThere 23 = .ok (.aload_n 0, 1) := by decide +kernel
theorem dX2_isThere_24 : decode cX2_isThere 24 = .ok (.getfield 13, 3) := by decide +kernel
theorem dX2_isThere_27 : decode cX2_isThere 27 = .ok (.iload_n 1, 1) := by decide +kernel
theorem dX2_isThere_28 : decode cX2_isThere 28 = .ok (.baload, 1) := by decide +kernel
theorem dX2_isThere_29 : decode cX2_isThere 29 = .ok (.ifCond .eq 7, 3) := by decide +kernel
theorem dX2_isThere_32 : decode cX2_isThere 32 = .ok (.iconst 1, 1) := by decide +kernel
theorem dX2_isThere_33 : decode cX2_isThere 33 = .ok (.goto 4, 3) := by decide +kernel
theorem dX2_isThere_36 : decode cX2_isThere 36 = .ok (.iconst 0, 1) := by decide +kernel
theorem dX2_isThere_37 : decode cX2_isThere 37 = .ok (.ireturn, 1) := by decide +kernel
theorem dX2_smaller_0 : decode cX2_smaller 0 = .ok (.iconst 0, 1) := by decide +kernel
theorem dX2_smaller_1 : decode cX2_smaller 1 = .ok (.istore_n 2, 1) := by decide +kernel
theorem dX2_smaller_2 : decode cX2_smaller 2 = .ok (.iconst 0, 1) := by decide +kernel
theorem dX2_smaller_3 : decode cX2_smaller 3 = .ok (.istore_n 3, 1) := by decide +kernel
theorem dX2_smaller_4 : decode cX2_smaller 4 = .ok (.iload_n 3, 1) := by decide +kernel
theorem dX2_smaller_5 : decode cX2_smaller 5 = .ok (.iload_n 1, 1) := by decide +kernel
theorem dX2_smaller_6 : decode cX2_smaller 6 = .ok (.if_icmp .ge 26, 3) := by decide +kernel
theorem dX2_smaller_9 : decode cX2_smaller 9 = .ok (.iload_n 2, 1) := by decide +kernel
theorem dX2_smaller_10 : decode cX2_smaller 10 = .ok (.aload_n 0, 1) := by decide +kernel
theorem dX2_smaller_11 : decode cX2_smaller 11 = .ok (.getfield 13, 3) := by decide +kernel
theorem dX2_smaller_14 : decode cX2_smaller 14 = .ok (.iload_n 3, 1) := by decide +kernel
theorem dX2_smaller_15 : decode cX2_smaller 15 = .ok (.baload, 1) := by decide +kernel
theorem dX2_smaller_16 : decode cX2_smaller 16 = .ok (.ifCond .eq 7, 3) := by decide +kernel
theorem dX2_smaller_19 : decode cX2_smaller 19 = .ok (.iconst 1, 1) := by decide +kernel
theorem dX2_smaller_20 : decode cX2_smaller 20 = .ok (.goto 4, 3) := by decide +kernel
theorem dX2_smaller_23 : decode cX2_smaller 23 = .ok (.iconst 0, 1) := by decide +kernel
theorem dX2_smaller_24 : decode cX2_smaller 24 = .ok (.iadd, 1) := by decide +kernel
theorem dX2_smaller_25 : decode cX2_smaller 25 = .ok (.istore_n 2, 1) := by decide +kernel
theorem dX2_smaller_26 : decode cX2_smaller 26 = .ok (.iinc 3 1, 3) := by decide +kernel
theorem dX2_smaller_29 : decode cX2_smaller 29 = .ok (.goto (-25), 3) := by decide +kernel
theorem dX2_smaller_32 : decode cX2_smaller 32 = .ok (.iload_n 2, 1) := by decide +kernel
theorem dX2_smaller_33 : decode cX2_smaller 33 = .ok (.ireturn, 1) := by decide +kernel
set_option maxRecDepth 20000 in
theorem ggX2_toldOf_X2_goTo : GoodIn wsX2_toldOf wsX2_goTo := goodIn_r _ [9, 1, 10, 2, 3, 4, 35, 36, 37, 38, 39, 40, 41, 42, 43, 44, 45, 46, 47] (by decide +kernel) (by decide +kernel)
set_option maxRecDepth 20000 in
theorem gX2_toldOf_X2_goTo : GoodIn wsX2_toldOf (wsV RX2 77 RX2 yX2_goTo wsX2_goTo) := goodIn_app (goodIn_of _ (by decide +kernel)) ggX2_toldOf_X2_goTo
set_option maxRecDepth 20000 in
theorem ggX2_toldOf_X2_size : GoodIn wsX2_toldOf wsX2_size := goodIn_r _ [14, 3, 4, 11, 12, 13, 8, 35, 36, 37, 38, 39, 40, 41, 42, 43, 44, 45, 46, 47] (by decide +kernel) (by decide +kernel)
set_option maxRecDepth 20000 in
theorem gX2_toldOf_X2_size : GoodIn wsX2_toldOf (wsV RX2 36 RX2 yX2_size wsX2_size) := goodIn_app (goodIn_of _ (by decide +kernel)) ggX2_toldOf_X2_size
set_option maxRecDepth 20000 in
theorem ggX2_toldOf_X2_deep : GoodIn wsX2_toldOf wsX2_deep := goodIn_r _ [18, 3, 4, 19, 20, 21, 22, 15, 16, 17, 8, 35, 36, 37, 38, 39, 40, 41, 42, 43, 44, 45, 46, 47] (by decide +kernel) (by decide +kernel)
set_option maxRecDepth 20000 in
theorem gX2_toldOf_X2_deep : GoodIn wsX2_toldOf (wsV RX2 40 RX2 yX2_deep wsX2_deep) := goodIn_app (goodIn_of _ (by decide +kernel)) ggX2_toldOf_X2_deep
set_option maxRecDepth 20000 in
theorem ggX2_toldOf_X2_isCrooked_ : GoodIn wsX2_toldOf wsX2_isCrooked_ := goodIn_r _ [26, 3, 4, 11, 12, 13, 8, 14, 27, 28, 29, 19, 20, 21, 22, 35, 36, 37, 38, 39, 40, 41, 42, 43, 44, 45, 46, 47] (by decide +kernel) (by decide +kernel)
set_option maxRecDepth 20000 in
theorem gX2_toldOf_X2_isCrooked_ : GoodIn wsX2_toldOf (wsV RX2 53 RX2 yX2_isCrooked_ wsX2_isCrooked_) := goodIn_app (goodIn_of _ (by decide +kernel)) ggX2_toldOf_X2_isCrooked_
set_option maxRecDepth 20000 in
theorem ggX2_toldOf_X2_smaller : GoodIn wsX2_toldOf wsX2_smaller := goodIn_r _ [33, 34, 35, 36, 37, 38, 39, 40, 41, 42, 43, 44, 45, 46, 47] (by decide +kernel) (by decide +kernel)
set_option maxRecDepth 20000 in
theorem gX2_toldOf_X2_smaller : GoodIn wsX2_toldOf (wsV RX2 114 RX2 yX2_smaller wsX2_smaller) := goodIn_app (goodIn_of _ (by decide +kernel)) ggX2_toldOf_X2_smaller
theorem dX2_toldOf_0 : decode cX2_toldOf 0 = .ok (.aload_n 0, 1) := by decide +kernel
theorem dX2_toldOf_1 : decode cX2_toldOf 1 = .ok (.iload_n 1, 1) := by decide +kernel
theorem dX2_toldOf_2 : decode cX2_toldOf 2 = .ok (.invokevirtual 77, 3) := by decide +kernel
theorem dX2_toldOf_5 : decode cX2_toldOf 5 = .ok (.iload_n 2, 1) := by decide +kernel
theorem dX2_toldOf_6 : decode cX2_toldOf 6 = .ok (.tableswitch 113 0 6 #[42, 49, 73, 80, 87, 93, 99], 42) := by decide +kernel
theorem dX2_toldOf_48 : decode cX2_toldOf 48 = .ok (.aload_n 0, 1) := by decide +kernel
theorem dX2_toldOf_49 : decode cX2_toldOf 49 = .ok (.getfield 33, 3) := by decide +kernel
theorem dX2_toldOf_52 : decode cX2_toldOf 52 = .ok (.iconst 1, 1) := by decide +kernel
theorem dX2_toldOf_53 : decode cX2_toldOf 53 = .ok (.isub, 1) := by decide +kernel
theorem dX2_toldOf_54 : decode cX2_toldOf 54 = .ok (.ireturn, 1) := by decide +kernel
theorem dX2_toldOf_55 : decode cX2_toldOf 55 = .ok (.aload_n 0, 1) := by decide +kernel
theorem dX2_toldOf_56 : decode cX2_toldOf 56 = .ok (.getfield 33, 3) := by decide +kernel
theorem dX2_toldOf_59 : decode cX2_toldOf 59 = .ok (.iconst 1, 1) := by decide +kernel
theorem dX2_toldOf_60 : decode cX2_toldOf 60 = .ok (.if_icmp .le 17, 3) := by decide +kernel
theorem dX2_toldOf_63 : decode cX2_toldOf 63 = .ok (.aload_n 0, 1) := by decide +kernel
theorem dX2_toldOf_64 : decode cX2_toldOf 64 = .ok (.getfield 24, 3) := by decide +kernel
theorem dX2_toldOf_67 : decode cX2_toldOf 67 = .ok (.aload_n 0, 1) := by decide +kernel
theorem dX2_toldOf_68 : decode cX2_toldOf 68 = .ok (.getfield 33, 3) := by decide +kernel
theorem dX2_toldOf_71 : decode cX2_toldOf 71 = .ok (.iconst 2, 1) := by decide +kernel
theorem dX2_toldOf_72 : decode cX2_toldOf 72 = .ok (.isub, 1) := by decide +kernel
theorem dX2_toldOf_73 : decode cX2_toldOf 73 = .ok (.iaload, 1) := by decide +kernel
theorem dX2_toldOf_74 : decode cX2_toldOf 74 = .ok (.goto 4, 3) := by decide +kernel
theorem dX2_toldOf_77 : decode cX2_toldOf 77 = .ok (.iconst (-1), 1) := by decide +kernel
theorem dX2_toldOf_78 : decode cX2_toldOf 78 = .ok (.ireturn, 1) := by decide +kernel
theorem dX2_toldOf_79 : decode cX2_toldOf 79 = .ok (.aload_n 0, 1) := by decide +kernel
theorem dX2_toldOf_80 : decode cX2_toldOf 80 = .ok (.getfield 17, 3) := by decide +kernel
theorem dX2_toldOf_83 : decode cX2_toldOf 83 = .ok (.iload_n 1, 1) := by decide +kernel
theorem dX2_toldOf_84 : decode cX2_toldOf 84 = .ok (.iaload, 1) := by decide +kernel
theorem dX2_toldOf_85 : decode cX2_toldOf 85 = .ok (.ireturn, 1) := by decide +kernel
theorem dX2_toldOf_86 : decode cX2_toldOf 86 = .ok (.aload_n 0, 1) := by decide +kernel
theorem dX2_toldOf_87 : decode cX2_toldOf 87 = .ok (.getfield 21, 3) := by decide +kernel
theorem dX2_toldOf_90 : decode cX2_toldOf 90 = .ok (.iload_n 1, 1) := by decide +kernel
theorem dX2_toldOf_91 : decode cX2_toldOf 91 = .ok (.iaload, 1) := by decide +kernel
theorem dX2_toldOf_92 : decode cX2_toldOf 92 = .ok (.ireturn, 1) := by decide +kernel
theorem dX2_toldOf_93 : decode cX2_toldOf 93 = .ok (.aload_n 0, 1) := by decide +kernel
theorem dX2_toldOf_94 : decode cX2_toldOf 94 = .ok (.iload_n 1, 1) := by decide +kernel
theorem dX2_toldOf_95 : decode cX2_toldOf 95 = .ok (.invokevirtual 36, 3) := by decide +kernel
theorem dX2_toldOf_98 : decode cX2_toldOf 98 = .ok (.ireturn, 1) := by decide +kernel
theorem dX2_toldOf_99 : decode cX2_toldOf 99 = .ok (.aload_n 0, 1) := by decide +kernel
theorem dX2_toldOf_100 : decode cX2_toldOf 100 = .ok (.iload_n 1, 1) := by decide +kernel
theorem dX2_toldOf_101 : decode cX2_toldOf 101 = .ok (.invokevirtual 40, 3) := by decide +kernel
theorem dX2_toldOf_104 : decode cX2_toldOf 104 = .ok (.ireturn, 1) := by decide +kernel
theorem dX2_toldOf_105 : decode cX2_toldOf 105 = .ok (.aload_n 0, 1) := by decide +kernel
theorem dX2_toldOf_106 : decode cX2_toldOf 106 = .ok (.iload_n 1, 1) := by decide +kernel
theorem dX2_toldOf_107 : decode cX2_toldOf 107 = .ok (.invokevirtual 53, 3) := by decide +kernel
theorem dX2_toldOf_110 : decode cX2_toldOf 110 = .ok (.ifCond .eq 7, 3) := by decide +kernel
theorem dX2_toldOf_113 : decode cX2_toldOf 113 = .ok (.iconst 1, 1) := by decide +kernel
theorem dX2_toldOf_114 : decode cX2_toldOf 114 = .ok (.goto 4, 3) := by decide +kernel
theorem dX2_toldOf_117 : decode cX2_toldOf 117 = .ok (.iconst 0, 1) := by decide +kernel
theorem dX2_toldOf_118 : decode cX2_toldOf 118 = .ok (.ireturn, 1) := by decide +kernel
theorem dX2_toldOf_119 : decode cX2_toldOf 119 = .ok (.aload_n 0, 1) := by decide +kernel
theorem dX2_toldOf_120 : decode cX2_toldOf 120 = .ok (.iload_n 1, 1) := by decide +kernel
theorem dX2_toldOf_121 : decode cX2_toldOf 121 = .ok (.invokevirtual 114, 3) := by decide +kernel
theorem dX2_toldOf_124 : decode cX2_toldOf 124 = .ok (.ireturn, 1) := by decide +kernel
set_option maxRecDepth 20000 in
theorem ggX2_told_X2_isHeight : GoodIn wsX2_told wsX2_isHeight := goodIn_r _ [6] (by decide +kernel) (by decide +kernel)
set_option maxRecDepth 20000 in
theorem gX2_told_X2_isHeight : GoodIn wsX2_told (va_wsS RX2 96 yX2_isHeight wsX2_isHeight) := goodIn_app (goodIn_of _ (by decide +kernel)) ggX2_told_X2_isHeight
set_option maxRecDepth 20000 in
theorem ggX2_told_X2_no : GoodIn wsX2_told wsX2_no := goodIn_r _ [10, 1, 47, 48, 49, 50, 51, 52, 53, 54, 55, 56, 57, 58, 59] (by decide +kernel) (by decide +kernel)
set_option maxRecDepth 20000 in
theorem gX2_told_X2_no : GoodIn wsX2_told (wsV RX2 99 RX2 yX2_no wsX2_no) := goodIn_app (goodIn_of _ (by decide +kernel)) ggX2_told_X2_no
set_option maxRecDepth 20000 in
theorem ggX2_told_X2_toldOf : GoodIn wsX2_told wsX2_toldOf := goodIn_r _ [14, 15, 16, 17, 18, 19, 20, 21, 5, 22, 23, 24, 25, 26, 27, 28, 29, 30, 31, 32, 33, 34, 35, 36, 37, 38, 39, 40, 41, 42, 43, 44, 45, 46, 2, 47, 48, 49, 50, 51, 52, 53, 54, 55, 56, 57, 58, 59] (by decide +kernel) (by decide +kernel)
set_option maxRecDepth 20000 in
theorem gX2_told_X2_toldOf : GoodIn wsX2_told (wsV RX2 117 RX2 yX2_toldOf wsX2_toldOf) := goodIn_app (goodIn_of _ (by decide +kernel)) ggX2_told_X2_toldOf
theorem dX2_told_0 : decode cX2_told 0 = .ok (.aload_n 0, 1) := by decide +kernel
theorem dX2_told_1 : decode cX2_told 1 = .ok (.iconst 0, 1) := by decide +kernel
theorem dX2_told_2 : decode cX2_told 2 = .ok (.putfield 30, 3) := by decide +kernel
theorem dX2_told_5 : decode cX2_told 5 = .ok (.iload_n 1, 1) := by decide +kernel
theorem dX2_told_6 : decode cX2_told 6 = .ok (.invokestatic 96, 3) := by decide +kernel
theorem dX2_told_9 : decode cX2_told 9 = .ok (.ifCond .ne 9, 3) := by decide +kernel
theorem dX2_told_12 : decode cX2_told 12 = .ok (.aload_n 0, 1) := by decide +kernel
theorem dX2_told_13 : decode cX2_told 13 = .ok (.iconst 1, 1) := by decide +kernel
theorem dX2_told_14 : decode cX2_told 14 = .ok (.invokevirtual 99, 3) := by decide +kernel
theorem dX2_told_17 : decode cX2_told 17 = .ok (.ireturn, 1) := by decide +kernel
theorem dX2_told_18 : decode cX2_told 18 = .ok (.iload_n 2, 1) := by decide +kernel
theorem dX2_told_19 : decode cX2_told 19 = .ok (.ifCond .lt 9, 3) := by decide +kernel
theorem dX2_told_22 : decode cX2_told 22 = .ok (.iload_n 2, 1) := by decide +kernel
theorem dX2_told_23 : decode cX2_told 23 = .ok (.bipush 7, 2) := by decide +kernel
theorem dX2_told_25 : decode cX2_told 25 = .ok (.if_icmp .le 9, 3) := by decide +kernel
theorem dX2_told_28 : decode cX2_told 28 = .ok (.aload_n 0, 1) := by decide +kernel
theorem dX2_told_29 : decode cX2_told 29 = .ok (.iconst 2, 1) := by decide +kernel
theorem dX2_told_30 : decode cX2_told 30 = .ok (.invokevirtual 99, 3) := by decide +kernel
theorem dX2_told_33 : decode cX2_told 33 = .ok (.ireturn, 1) := by decide +kernel
theorem dX2_told_34 : decode cX2_told 34 = .ok (.aload_n 0, 1) := by decide +kernel
theorem dX2_told_35 : decode cX2_told 35 = .ok (.getfield 13, 3) := by decide +kernel
theorem dX2_told_38 : decode cX2_told 38 = .ok (.iload_n 1, 1) := by decide +kernel
theorem dX2_told_39 : decode cX2_told 39 = .ok (.baload, 1) := by decide +kernel
theorem dX2_told_40 : decode cX2_told 40 = .ok (.ifCond .eq 12, 3) := by decide +kernel
theorem dX2_told_43 : decode cX2_told 43 = .ok (.aload_n 0, 1) := by decide +kernel
theorem dX2_told_44 : decode cX2_told 44 = .ok (.iload_n 1, 1) := by decide +kernel
theorem dX2_told_45 : decode cX2_told 45 = .ok (.iload_n 2, 1) := by decide +kernel
theorem dX2_told_46 : decode cX2_told 46 = .ok (.invokevirtual 117, 3) := by decide +kernel
theorem dX2_told_49 : decode cX2_told 49 = .ok (.goto 8, 3) := by decide +kernel
theorem dX2_told_52 : decode cX2_told 52 = .ok (.aload_n 0, 1) := by decide +kernel
theorem dX2_told_53 : decode cX2_told 53 = .ok (.iconst 3, 1) := by decide +kernel
theorem dX2_told_54 : decode cX2_told 54 = .ok (.invokevirtual 99, 3) := by decide +kernel
theorem dX2_told_57 : decode cX2_told 57 = .ok (.ireturn, 1) := by decide +kernel
set_option maxRecDepth 20000 in
theorem ggX2_at_X2_no : GoodIn wsX2_at wsX2_no := goodIn_r _ [8, 1, 9, 10, 11, 12, 13, 14, 15, 16, 17, 18, 19, 20, 21] (by decide +kernel) (by decide +kernel)
set_option maxRecDepth 20000 in
theorem gX2_at_X2_no : GoodIn wsX2_at (wsV RX2 99 RX2 yX2_no wsX2_no) := goodIn_app (goodIn_of _ (by decide +kernel)) ggX2_at_X2_no
theorem dX2_at_0 : decode cX2_at 0 = .ok (.aload_n 0, 1) := by decide +kernel
theorem dX2_at_1 : decode cX2_at 1 = .ok (.iconst 0, 1) := by decide +kernel
theorem dX2_at_2 : decode cX2_at 2 = .ok (.putfield 30, 3) := by decide +kernel
theorem dX2_at_5 : decode cX2_at 5 = .ok (.iload_n 1, 1) := by decide +kernel
theorem dX2_at_6 : decode cX2_at 6 = .ok (.ifCond .lt 11, 3) := by decide +kernel
theorem dX2_at_9 : decode cX2_at 9 = .ok (.iload_n 1, 1) := by decide +kernel
theorem dX2_at_10 : decode cX2_at 10 = .ok (.aload_n 0, 1) := by decide +kernel
theorem dX2_at_11 : decode cX2_at 11 = .ok (.getfield 90, 3) := by decide +kernel
theorem dX2_at_14 : decode cX2_at 14 = .ok (.if_icmp .lt 9, 3) := by decide +kernel
theorem dX2_at_17 : decode cX2_at 17 = .ok (.aload_n 0, 1) := by decide +kernel
theorem dX2_at_18 : decode cX2_at 18 = .ok (.iconst 1, 1) := by decide +kernel
theorem dX2_at_19 : decode cX2_at 19 = .ok (.invokevirtual 99, 3) := by decide +kernel
theorem dX2_at_22 : decode cX2_at 22 = .ok (.ireturn, 1) := by decide +kernel
theorem dX2_at_23 : decode cX2_at 23 = .ok (.iconst 0, 1) := by decide +kernel
theorem dX2_at_24 : decode cX2_at 24 = .ok (.istore_n 2, 1) := by decide +kernel
theorem dX2_at_25 : decode cX2_at 25 = .ok (.iload_n 1, 1) := by decide +kernel
theorem dX2_at_26 : decode cX2_at 26 = .ok (.istore_n 3, 1) := by decide +kernel
theorem dX2_at_27 : decode cX2_at 27 = .ok (.iload_n 3, 1) := by decide +kernel
theorem dX2_at_28 : decode cX2_at 28 = .ok (.ifCond .gt 12, 3) := by decide +kernel
theorem dX2_at_31 : decode cX2_at 31 = .ok (.aload_n 0, 1) := by decide +kernel
theorem dX2_at_32 : decode cX2_at 32 = .ok (.getfield 13, 3) := by decide +kernel
theorem dX2_at_35 : decode cX2_at 35 = .ok (.iload_n 2, 1) := by decide +kernel
theorem dX2_at_36 : decode cX2_at 36 = .ok (.baload, 1) := by decide +kernel
theorem dX2_at_37 : decode cX2_at 37 = .ok (.ifCond .ne 26, 3) := by decide +kernel
theorem dX2_at_40 : decode cX2_at 40 = .ok (.iload_n 3, 1) := by decide +kernel
theorem dX2_at_41 : decode cX2_at 41 = .ok (.aload_n 0, 1) := by decide +kernel
theorem dX2_at_42 : decode cX2_at 42 = .ok (.getfield 13, 3) := by decide +kernel
theorem dX2_at_45 : decode cX2_at 45 = .ok (.iload_n 2, 1) := by decide +kernel
theorem dX2_at_46 : decode cX2_at 46 = .ok (.baload, 1) := by decide +kernel
theorem dX2_at_47 : decode cX2_at 47 = .ok (.ifCond .eq 7, 3) := by decide +kernel
theorem dX2_at_50 : decode cX2_at 50 = .ok (.iconst 1, 1) := by decide +kernel
theorem dX2_at_51 : decode cX2_at 51 = .ok (.goto 4, 3) := by decide +kernel
theorem dX2_at_54 : decode cX2_at 54 = .ok (.iconst 0, 1) := by decide +kernel
theorem dX2_at_55 : decode cX2_at 55 = .ok (.isub, 1) := by decide +kernel
theorem dX2_at_56 : decode cX2_at 56 = .ok (.istore_n 3, 1) := by decide +kernel
theorem dX2_at_57 : decode cX2_at 57 = .ok (.iinc 2 1, 3) := by decide +kernel
theorem dX2_at_60 : decode cX2_at 60 = .ok (.goto (-33), 3) := by decide +kernel
theorem dX2_at_63 : decode cX2_at 63 = .ok (.iload_n 2, 1) := by decide +kernel
theorem dX2_at_64 : decode cX2_at 64 = .ok (.ireturn, 1) := by decide +kernel
set_option maxRecDepth 20000 in
theorem ggX2_between_X2_isHeight : GoodIn wsX2_between wsX2_isHeight := goodIn_r _ [6] (by decide +kernel) (by decide +kernel)
set_option maxRecDepth 20000 in
theorem gX2_between_X2_isHeight : GoodIn wsX2_between (va_wsS RX2 96 yX2_isHeight wsX2_isHeight) := goodIn_app (goodIn_of _ (by decide +kernel)) ggX2_between_X2_isHeight
set_option maxRecDepth 20000 in
theorem ggX2_between_X2_no : GoodIn wsX2_between wsX2_no := goodIn_r _ [10, 1, 11, 12, 13, 14, 15, 16, 17, 18, 19, 20, 21, 22, 23] (by decide +kernel) (by decide +kernel)
set_option maxRecDepth 20000 in
theorem gX2_between_X2_no : GoodIn wsX2_between (wsV RX2 99 RX2 yX2_no wsX2_no) := goodIn_app (goodIn_of _ (by decide +kernel)) ggX2_between_X2_no
theorem dX2_between_0 : decode cX2_between 0 = .ok (.aload_n 0, 1) := by decide +kernel
theorem dX2_between_1 : decode cX2_between 1 = .ok (.iconst 0, 1) := by decide +kernel
theorem dX2_between_2 : decode cX2_between 2 = .ok (.putfield 30, 3) := by decide +kernel
theorem dX2_between_5 : decode cX2_between 5 = .ok (.iload_n 1, 1) := by decide +kernel
theorem dX2_between_6 : decode cX2_between 6 = .ok (.invokestatic 96, 3) := by decide +kernel
theorem dX2_between_9 : decode cX2_between 9 = .ok (.ifCond .eq 10, 3) := by decide +kernel
theorem dX2_between_12 : decode cX2_between 12 = .ok (.iload_n 2, 1) := by decide +kernel
theorem dX2_between_13 : decode cX2_between 13 = .ok (.invokestatic 96, 3) := by decide +kernel
theorem dX2_between_16 : decode cX2_between 16 = .ok (.ifCond .ne 9, 3) := by decide +kernel
theorem dX2_between_19 : decode cX2_between 19 = .ok (.aload_n 0, 1) := by decide +kernel
theorem dX2_between_20 : decode cX2_between 20 = .ok (.iconst 1, 1) := by decide +kernel
theorem dX2_between_21 : decode cX2_between 21 = .ok (.invokevirtual 99, 3) := by decide +kernel
theorem dX2_between_24 : decode cX2_between 24 = .ok (.ireturn, 1) := by decide +kernel
theorem dX2_between_25 : decode cX2_between 25 = .ok (.iconst 0, 1) := by decide +kernel
theorem dX2_between_26 : decode cX2_between 26 = .ok (.istore_n 3, 1) := by decide +kernel
theorem dX2_between_27 : decode cX2_between 27 = .ok (.iload_n 1, 1) := by decide +kernel
theorem dX2_between_28 : decode cX2_between 28 = .ok (.istore 4, 2) := by decide +kernel
theorem dX2_between_30 : decode cX2_between 30 = .ok (.iload 4, 2) := by decide +kernel
theorem dX2_between_32 : decode cX2_between 32 = .ok (.iload_n 2, 1) := by decide +kernel
theorem dX2_between_33 : decode cX2_between 33 = .ok (.if_icmp .gt 27, 3) := by decide +kernel
theorem dX2_between_36 : decode cX2_between 36 = .ok (.iload_n 3, 1) := by decide +kernel
theorem dX2_between_37 : decode cX2_between 37 = .ok (.aload_n 0, 1) := by decide +kernel
theorem dX2_between_38 : decode cX2_between 38 = .ok (.getfield 13, 3) := by decide +kernel
theorem dX2_between_41 : decode cX2_between 41 = .ok (.iload 4, 2) := by decide +kernel
theorem dX2_between_43 : decode cX2_between 43 = .ok (.baload, 1) := by decide +kernel
theorem dX2_between_44 : decode cX2_between 44 = .ok (.ifCond .eq 7, 3) := by decide +kernel
theorem dX2_between_47 : decode cX2_between 47 = .ok (.iconst 1, 1) := by decide +kernel
theorem dX2_between_48 : decode cX2_between 48 = .ok (.goto 4, 3) := by decide +kernel
theorem dX2_between_51 : decode cX2_between 51 = .ok (.iconst 0, 1) := by decide +kernel
theorem dX2_between_52 : decode cX2_between 52 = .ok (.iadd, 1) := by decide +kernel
theorem dX2_between_53 : decode cX2_between 53 = .ok (.istore_n 3, 1) := by decide +kernel
theorem dX2_between_54 : decode cX2_between 54 = .ok (.iinc 4 1, 3) := by decide +kernel
theorem dX2_between_57 : decode cX2_between 57 = .ok (.goto (-27), 3) := by decide +kernel
theorem dX2_between_60 : decode cX2_between 60 = .ok (.iload_n 3, 1) := by decide +kernel
theorem dX2_between_61 : decode cX2_between 61 = .ok (.ireturn, 1) := by decide +kernel
set_option maxRecDepth 20000 in
theorem ggX2_captain_X2_isHeight : GoodIn wsX2_captain wsX2_isHeight := goodIn_r _ [16] (by decide +kernel) (by decide +kernel)
set_option maxRecDepth 20000 in
theorem gX2_captain_X2_isHeight : GoodIn wsX2_captain (va_wsS RX2 96 yX2_isHeight wsX2_isHeight) := goodIn_app (goodIn_of _ (by decide +kernel)) ggX2_captain_X2_isHeight
set_option maxRecDepth 20000 in
theorem ggX2_captain_X2_no : GoodIn wsX2_captain wsX2_no := goodIn_r _ [20, 1, 21, 22, 23, 24, 25, 26, 27, 28, 29, 30, 31, 32, 33] (by decide +kernel) (by decide +kernel)
set_option maxRecDepth 20000 in
theorem gX2_captain_X2_no : GoodIn wsX2_captain (wsV RX2 99 RX2 yX2_no wsX2_no) := goodIn_app (goodIn_of _ (by decide +kernel)) ggX2_captain_X2_no
theorem dX2_captain_0 : decode cX2_captain 0 = .ok (.aload_n 0, 1) := by decide +kernel
theorem dX2_captain_1 : decode cX2_captain 1 = .ok (.iconst 0, 1) := by decide +kernel
theorem dX2_captain_2 : decode cX2_captain 2 = .ok (.putfield 30, 3) := by decide +kernel
theorem dX2_captain_5 : decode cX2_captain 5 = .ok (.iload_n 1, 1) := by decide +kernel
theorem dX2_captain_6 : decode cX2_captain 6 = .ok (.invokestatic 96, 3) := by decide +kernel
theorem dX2_captain_9 : decode cX2_captain 9 = .ok (.ifCond .eq 10, 3) := by decide +kernel
theorem dX2_captain_12 : decode cX2_captain 12 = .ok (.iload_n 2, 1) := by decide +kernel
theorem dX2_captain_13 : decode cX2_captain 13 = .ok (.invokestatic 96, 3) := by decide +kernel
theorem dX2_captain_16 : decode cX2_captain 16 = .ok (.ifCond .ne 9, 3) := by decide +kernel
theorem dX2_captain_19 : decode cX2_captain 19 = .ok (.aload_n 0, 1) := by decide +kernel
theorem dX2_captain_20 : decode cX2_captain 20 = .ok (.iconst 1, 1) := by decide +kernel
theorem dX2_captain_21 : decode cX2_captain 21 = .ok (.invokevirtual 99, 3) := by decide +kernel
theorem dX2_captain_24 : decode cX2_captain 24 = .ok (.ireturn, 1) := by decide +kernel
theorem dX2_captain_25 : decode cX2_captain 25 = .ok (.aload_n 0, 1) := by decide +kernel
theorem dX2_captain_26 : decode cX2_captain 26 = .ok (.getfield 13, 3) := by decide +kernel
theorem dX2_captain_29 : decode cX2_captain 29 = .ok (.iload_n 1, 1) := by decide +kernel
theorem dX2_captain_30 : decode cX2_captain 30 = .ok (.baload, 1) := by decide +kernel
theorem dX2_captain_31 : decode cX2_captain 31 = .ok (.ifCond .eq 12, 3) := by decide +kernel
theorem dX2_captain_34 : decode cX2_captain 34 = .ok (.aload_n 0, 1) := by decide +kernel
theorem dX2_captain_35 : decode cX2_captain 35 = .ok (.getfield 13, 3) := by decide +kernel
theorem dX2_captain_38 : decode cX2_captain 38 = .ok (.iload_n 2, 1) := by decide +kernel
theorem dX2_captain_39 : decode cX2_captain 39 = .ok (.baload, 1) := by decide +kernel
theorem dX2_captain_40 : decode cX2_captain 40 = .ok (.ifCond .ne 9, 3) := by decide +kernel
theorem dX2_captain_43 : decode cX2_captain 43 = .ok (.aload_n 0, 1) := by decide +kernel
theorem dX2_captain_44 : decode cX2_captain 44 = .ok (.iconst 2, 1) := by decide +kernel
theorem dX2_captain_45 : decode cX2_captain 45 = .ok (.invokevirtual 99, 3) := by decide +kernel
theorem dX2_captain_48 : decode cX2_captain 48 = .ok (.ireturn, 1) := by decide +kernel
theorem dX2_captain_49 : decode cX2_captain 49 = .ok (.aload_n 0, 1) := by decide +kernel
theorem dX2_captain_50 : decode cX2_captain 50 = .ok (.getfield 9, 3) := by decide +kernel
theorem dX2_captain_53 : decode cX2_captain 53 = .ok (.istore_n 3, 1) := by decide +kernel
theorem dX2_captain_54 : decode cX2_captain 54 = .ok (.iload_n 3, 1) := by decide +kernel
theorem dX2_captain_55 : decode cX2_captain 55 = .ok (.iload_n 1, 1) := by decide +kernel
theorem dX2_captain_56 : decode cX2_captain 56 = .ok (.iload_n 2, 1) := by decide +kernel
theorem dX2_captain_57 : decode cX2_captain 57 = .ok (.invokestatic 120, 3) := by decide +kernel
theorem dX2_captain_60 : decode cX2_captain 60 = .ok (.if_icmp .lt 12, 3) := by decide +kernel
theorem dX2_captain_63 : decode cX2_captain 63 = .ok (.iload_n 3, 1) := by decide +kernel
theorem dX2_captain_64 : decode cX2_captain 64 = .ok (.iload_n 1, 1) := by decide +kernel
theorem dX2_captain_65 : decode cX2_captain 65 = .ok (.iload_n 2, 1) := by decide +kernel
theorem dX2_captain_66 : decode cX2_captain 66 = .ok (.invokestatic 43, 3) := by decide +kernel
theorem dX2_captain_69 : decode cX2_captain 69 = .ok (.if_icmp .le 27, 3) := by decide +kernel
theorem dX2_captain_72 : decode cX2_captain 72 = .ok (.iload_n 3, 1) := by decide +kernel
theorem dX2_captain_73 : decode cX2_captain 73 = .ok (.iload_n 1, 1) := by decide +kernel
theorem dX2_captain_74 : decode cX2_captain 74 = .ok (.if_icmp .ge 12, 3) := by decide +kernel
theorem dX2_captain_77 : decode cX2_captain 77 = .ok (.aload_n 0, 1) := by decide +kernel
theorem dX2_captain_78 : decode cX2_captain 78 = .ok (.getfield 21, 3) := by decide +kernel
theorem dX2_captain_81 : decode cX2_captain 81 = .ok (.iload_n 3, 1) := by decide +kernel
theorem dX2_captain_82 : decode cX2_captain 82 = .ok (.iaload, 1) := by decide +kernel
theorem dX2_captain_83 : decode cX2_captain 83 = .ok (.goto 9, 3) := by decide +kernel
theorem dX2_captain_86 : decode cX2_captain 86 = .ok (.aload_n 0, 1) := by decide +kernel
theorem dX2_captain_87 : decode cX2_captain 87 = .ok (.getfield 17, 3) := by decide +kernel
theorem dX2_captain_90 : decode cX2_captain 90 = .ok (.iload_n 3, 1) := by decide +kernel
theorem dX2_captain_91 : decode cX2_captain 91 = .ok (.iaload, 1) := by decide +kernel
theorem dX2_captain_92 : decode cX2_captain 92 = .ok (.istore_n 3, 1) := by decide +kernel
theorem dX2_captain_93 : decode cX2_captain 93 = .ok (.goto (-39), 3) := by decide +kernel
theorem dX2_captain_96 : decode cX2_captain 96 = .ok (.iload_n 3, 1) := by decide +kernel
theorem dX2_captain_97 : decode cX2_captain 97 = .ok (.ireturn, 1) := by decide +kernel
set_option maxRecDepth 20000 in
theorem ggX2_taller_X2_isHeight : GoodIn wsX2_taller wsX2_isHeight := goodIn_r _ [6] (by decide +kernel) (by decide +kernel)
set_option maxRecDepth 20000 in
theorem gX2_taller_X2_isHeight : GoodIn wsX2_taller (va_wsS RX2 96 yX2_isHeight wsX2_isHeight) := goodIn_app (goodIn_of _ (by decide +kernel)) ggX2_taller_X2_isHeight
set_option maxRecDepth 20000 in
theorem ggX2_taller_X2_no : GoodIn wsX2_taller wsX2_no := goodIn_r _ [10, 1, 11, 12, 13, 14, 15, 16, 17, 18, 19, 20, 21, 22, 23] (by decide +kernel) (by decide +kernel)
set_option maxRecDepth 20000 in
theorem gX2_taller_X2_no : GoodIn wsX2_taller (wsV RX2 99 RX2 yX2_no wsX2_no) := goodIn_app (goodIn_of _ (by decide +kernel)) ggX2_taller_X2_no
theorem dX2_taller_0 : decode cX2_taller 0 = .ok (.aload_n 0, 1) := by decide +kernel
theorem dX2_taller_1 : decode cX2_taller 1 = .ok (.iconst 0, 1) := by decide +kernel
theorem dX2_taller_2 : decode cX2_taller 2 = .ok (.putfield 30, 3) := by decide +kernel
theorem dX2_taller_5 : decode cX2_taller 5 = .ok (.iload_n 1, 1) := by decide +kernel
theorem dX2_taller_6 : decode cX2_taller 6 = .ok (.invokestatic 96, 3) := by decide +kernel
theorem dX2_taller_9 : decode cX2_taller 9 = .ok (.ifCond .ne 9, 3) := by decide +kernel
theorem dX2_taller_12 : decode cX2_taller 12 = .ok (.aload_n 0, 1) := by decide +kernel
theorem dX2_taller_13 : decode cX2_taller 13 = .ok (.iconst 1, 1) := by decide +kernel
theorem dX2_taller_14 : decode cX2_taller 14 = .ok (.invokevirtual 99, 3) := by decide +kernel
theorem dX2_taller_17 : decode cX2_taller 17 = .ok (.ireturn, 1) := by decide +kernel
theorem dX2_taller_18 : decode cX2_taller 18 = .ok (.iload_n 1, 1) := by decide +kernel
theorem dX2_taller_19 : decode cX2_taller 19 = .ok (.iconst 1, 1) := by decide +kernel
theorem dX2_taller_20 : decode cX2_taller 20 = .ok (.iadd, 1) := by decide +kernel
theorem dX2_taller_21 : decode cX2_taller 21 = .ok (.istore_n 2, 1) := by decide +kernel
theorem dX2_taller_22 : decode cX2_taller 22 = .ok (.iload_n 2, 1) := by decide +kernel
theorem dX2_taller_23 : decode cX2_taller 23 = .ok (.sipush 1000, 3) := by decide +kernel
theorem dX2_taller_26 : decode cX2_taller 26 = .ok (.if_icmp .ge 20, 3) := by decide +kernel
theorem dX2_taller_29 : decode cX2_taller 29 = .ok (.aload_n 0, 1) := by decide +kernel
theorem dX2_taller_30 : decode cX2_taller 30 = .ok (.getfield 13, 3) := by decide +kernel
theorem dX2_taller_33 : decode cX2_taller 33 = .ok (.iload_n 2, 1) := by decide +kernel
theorem dX2_taller_34 : decode cX2_taller 34 = .ok (.baload, 1) := by decide +kernel
theorem dX2_taller_35 : decode cX2_taller 35 = .ok (.ifCond .eq 5, 3) := by decide +kernel
theorem dX2_taller_38 : decode cX2_taller 38 = .ok (.iload_n 2, 1) := by decide +kernel
theorem dX2_taller_39 : decode cX2_taller 39 = .ok (.ireturn, 1) := by decide +kernel
theorem dX2_taller_40 : decode cX2_taller 40 = .ok (.iinc 2 1, 3) := by decide +kernel
theorem dX2_taller_43 : decode cX2_taller 43 = .ok (.goto (-21), 3) := by decide +kernel
theorem dX2_taller_46 : decode cX2_taller 46 = .ok (.iconst (-1), 1) := by decide +kernel
theorem dX2_taller_47 : decode cX2_taller 47 = .ok (.ireturn, 1) := by decide +kernel
set_option maxRecDepth 20000 in
theorem ggX2_counted_X2_deep : GoodIn wsX2_counted wsX2_deep := goodIn_r _ [11, 12, 13, 14, 15, 16, 17, 7, 8, 9, 10, 38, 39, 40, 41, 42, 43, 44, 45, 46, 47, 48, 49, 50] (by decide +kernel) (by decide +kernel)
set_option maxRecDepth 20000 in
theorem gX2_counted_X2_deep : GoodIn wsX2_counted (wsV RX2 40 RX2 yX2_deep wsX2_deep) := goodIn_app (goodIn_of _ (by decide +kernel)) ggX2_counted_X2_deep
set_option maxRecDepth 20000 in
theorem ggX2_counted_X2_allowed : GoodIn wsX2_counted wsX2_allowed := goodIn_r _ [20, 21, 22] (by decide +kernel) (by decide +kernel)
set_option maxRecDepth 20000 in
theorem gX2_counted_X2_allowed : GoodIn wsX2_counted (va_wsS RX2 102 yX2_allowed wsX2_allowed) := goodIn_app (goodIn_of _ (by decide +kernel)) ggX2_counted_X2_allowed
set_option maxRecDepth 20000 in
theorem ggX2_counted_X2_crookedIn : GoodIn wsX2_counted wsX2_crookedIn := goodIn_r _ [26, 12, 13, 27, 28, 29, 10, 30, 31, 32, 33, 34, 35, 36, 37, 14, 15, 16, 17, 23, 24, 25, 38, 39, 40, 41, 42, 43, 44, 45, 46, 47, 48, 49, 50] (by decide +kernel) (by decide +kernel)
set_option maxRecDepth 20000 in
theorem gX2_counted_X2_crookedIn : GoodIn wsX2_counted (wsV RX2 56 RX2 yX2_crookedIn wsX2_crookedIn) := goodIn_app (goodIn_of _ (by decide +kernel)) ggX2_counted_X2_crookedIn
theorem dX2_counted_0 : decode cX2_counted 0 = .ok (.bipush 8, 2) := by decide +kernel
theorem dX2_counted_2 : decode cX2_counted 2 = .ok (.newarray .int, 2) := by decide +kernel
theorem dX2_counted_4 : decode cX2_counted 4 = .ok (.dup, 1) := by decide +kernel
theorem dX2_counted_5 : decode cX2_counted 5 = .ok (.iconst 0, 1) := by decide +kernel
theorem dX2_counted_6 : decode cX2_counted 6 = .ok (.aload_n 0, 1) := by decide +kernel
theorem dX2_counted_7 : decode cX2_counted 7 = .ok (.getfield 90, 3) := by decide +kernel
theorem dX2_counted_10 : decode cX2_counted 10 = .ok (.iastore, 1) := by decide +kernel
theorem dX2_counted_11 : decode cX2_counted 11 = .ok (.dup, 1) := by decide +kernel
theorem dX2_counted_12 : decode cX2_counted 12 = .ok (.iconst 1, 1) := by decide +kernel
theorem dX2_counted_13 : decode cX2_counted 13 = .ok (.aload_n 0, 1) := by decide +kernel
theorem dX2_counted_14 : decode cX2_counted 14 = .ok (.getfield 9, 3) := by decide +kernel
theorem dX2_counted_17 : decode cX2_counted 17 = .ok (.iastore, 1) := by decide +kernel
theorem dX2_counted_18 : decode cX2_counted 18 = .ok (.dup, 1) := by decide +kernel
theorem dX2_counted_19 : decode cX2_counted 19 = .ok (.iconst 2, 1) := by decide +kernel
theorem dX2_counted_20 : decode cX2_counted 20 = .ok (.aload_n 0, 1) := by decide +kernel
theorem dX2_counted_21 : decode cX2_counted 21 = .ok (.aload_n 0, 1) := by decide +kernel
theorem dX2_counted_22 : decode cX2_counted 22 = .ok (.getfield 9, 3) := by decide +kernel
theorem dX2_counted_25 : decode cX2_counted 25 = .ok (.invokevirtual 40, 3) := by decide +kernel
theorem dX2_counted_28 : decode cX2_counted 28 = .ok (.iastore, 1) := by decide +kernel
theorem dX2_counted_29 : decode cX2_counted 29 = .ok (.dup, 1) := by decide +kernel
theorem dX2_counted_30 : decode cX2_counted 30 = .ok (.iconst 3, 1) := by decide +kernel
theorem dX2_counted_31 : decode cX2_counted 31 = .ok (.aload_n 0, 1) := by decide +kernel
theorem dX2_counted_32 : decode cX2_counted 32 = .ok (.getfield 90, 3) := by decide +kernel
theorem dX2_counted_35 : decode cX2_counted 35 = .ok (.invokestatic 102, 3) := by decide +kernel
theorem dX2_counted_38 : decode cX2_counted 38 = .ok (.iastore, 1) := by decide +kernel
theorem dX2_counted_39 : decode cX2_counted 39 = .ok (.dup, 1) := by decide +kernel
theorem dX2_counted_40 : decode cX2_counted 40 = .ok (.iconst 4, 1) := by decide +kernel
theorem dX2_counted_41 : decode cX2_counted 41 = .ok (.aload_n 0, 1) := by decide +kernel
theorem dX2_counted_42 : decode cX2_counted 42 = .ok (.aload_n 0, 1) := by decide +kernel
theorem dX2_counted_43 : decode cX2_counted 43 = .ok (.getfield 9, 3) := by decide +kernel
theorem dX2_counted_46 : decode cX2_counted 46 = .ok (.invokevirtual 56, 3) := by decide +kernel
theorem dX2_counted_49 : decode cX2_counted 49 = .ok (.iastore, 1) := by decide +kernel
theorem dX2_counted_50 : decode cX2_counted 50 = .ok (.dup, 1) := by decide +kernel
theorem dX2_counted_51 : decode cX2_counted 51 = .ok (.iconst 5, 1) := by decide +kernel
theorem dX2_counted_52 : decode cX2_counted 52 = .ok (.aload_n 0, 1) := by decide +kernel
theorem dX2_counted_53 : decode cX2_counted 53 = .ok (.getfield 84, 3) := by decide +kernel
theorem dX2_counted_56 : decode cX2_counted 56 = .ok (.iastore, 1) := by decide +kernel
theorem dX2_counted_57 : decode cX2_counted 57 = .ok (.dup, 1) := by decide +kernel
theorem dX2_counted_58 : decode cX2_counted 58 = .ok (.bipush 6, 2) := by decide +kernel
theorem dX2_counted_60 : decode cX2_counted 60 = .ok (.aload_n 0, 1) := by decide +kernel
theorem dX2_counted_61 : decode cX2_counted 61 = .ok (.getfield 87, 3) := by decide +kernel
theorem dX2_counted_64 : decode cX2_counted 64 = .ok (.iastore, 1) := by decide +kernel
theorem dX2_counted_65 : decode cX2_counted 65 = .ok (.dup, 1) := by decide +kernel
theorem dX2_counted_66 : decode cX2_counted 66 = .ok (.bipush 7, 2) := by decide +kernel
theorem dX2_counted_68 : decode cX2_counted 68 = .ok (.aload_n 0, 1) := by decide +kernel
theorem dX2_counted_69 : decode cX2_counted 69 = .ok (.getfield 93, 3) := by decide +kernel
theorem dX2_counted_72 : decode cX2_counted 72 = .ok (.iastore, 1) := by decide +kernel
theorem dX2_counted_73 : decode cX2_counted 73 = .ok (.astore_n 2, 1) := by decide +kernel
theorem dX2_counted_74 : decode cX2_counted 74 = .ok (.aload_n 2, 1) := by decide +kernel
theorem dX2_counted_75 : decode cX2_counted 75 = .ok (.iload_n 1, 1) := by decide +kernel
theorem dX2_counted_76 : decode cX2_counted 76 = .ok (.iaload, 1) := by decide +kernel
theorem dX2_counted_77 : decode cX2_counted 77 = .ok (.ireturn, 1) := by decide +kernel
set_option maxRecDepth 20000 in
theorem ggX2_count_X2_counted : GoodIn wsX2_count wsX2_counted := goodIn_r _ [6, 7, 8, 9, 10, 11, 12, 13, 14, 15, 5, 16, 17, 18, 19, 20, 21, 22, 23, 24, 25, 26, 27, 28, 29, 30, 31, 32, 33, 34, 35, 36, 37, 38, 39, 40, 41, 42, 47, 48, 49, 50, 51, 52, 53, 54, 55, 56, 57, 58, 59] (by decide +kernel) (by decide +kernel)
set_option maxRecDepth 20000 in
theorem gX2_count_X2_counted : GoodIn wsX2_count (wsV RX2 123 RX2 yX2_counted wsX2_counted) := goodIn_app (goodIn_of _ (by decide +kernel)) ggX2_count_X2_counted
set_option maxRecDepth 20000 in
theorem ggX2_count_X2_no : GoodIn wsX2_count wsX2_no := goodIn_r _ [46, 1, 47, 48, 49, 50, 51, 52, 53, 54, 55, 56, 57, 58, 59] (by decide +kernel) (by decide +kernel)
set_option maxRecDepth 20000 in
theorem gX2_count_X2_no : GoodIn wsX2_count (wsV RX2 99 RX2 yX2_no wsX2_no) := goodIn_app (goodIn_of _ (by decide +kernel)) ggX2_count_X2_no
theorem dX2_count_0 : decode cX2_count 0 = .ok (.aload_n 0, 1) := by decide +kernel
theorem dX2_count_1 : decode cX2_count 1 = .ok (.iconst 0, 1) := by decide +kernel
theorem dX2_count_2 : decode cX2_count 2 = .ok (.putfield 30, 3) := by decide +kernel
theorem dX2_count_5 : decode cX2_count 5 = .ok (.iload_n 1, 1) := by decide +kernel
end
section
theorem dX2_count_6 : decode cX2_count 6 = .ok (.ifCond .lt 17, 3) := by decide +kernel
theorem dX2_count_9 : decode cX2_count 9 = .ok (.iload_n 1, 1) := by decide +kernel
theorem dX2_count_10 : decode cX2_count 10 = .ok (.bipush 7, 2) := by decide +kernel
theorem dX2_count_12 : decode cX2_count 12 = .ok (.if_icmp .gt 11, 3) := by decide +kernel
theorem dX2_count_15 : decode cX2_count 15 = .ok (.aload_n 0, 1) := by decide +kernel
theorem dX2_count_16 : decode cX2_count 16 = .ok (.iload_n 1, 1) := by decide +kernel
theorem dX2_count_17 : decode cX2_count 17 = .ok (.invokevirtual 123, 3) := by decide +kernel
theorem dX2_count_20 : decode cX2_count 20 = .ok (.goto 8, 3) := by decide +kernel
theorem dX2_count_23 : decode cX2_count 23 = .ok (.aload_n 0, 1) := by decide +kernel
theorem dX2_count_24 : decode cX2_count 24 = .ok (.iconst 1, 1) := by decide +kernel
theorem dX2_count_25 : decode cX2_count 25 = .ok (.invokevirtual 99, 3) := by decide +kernel
theorem dX2_count_28 : decode cX2_count 28 = .ok (.ireturn, 1) := by decide +kernel
set_option maxRecDepth 20000 in
theorem ggX2_would_X2_isHeight : GoodIn wsX2_would wsX2_isHeight := goodIn_r _ [7] (by decide +kernel) (by decide +kernel)
set_option maxRecDepth 20000 in
theorem gX2_would_X2_isHeight : GoodIn wsX2_would (va_wsS RX2 96 yX2_isHeight wsX2_isHeight) := goodIn_app (goodIn_of _ (by decide +kernel)) ggX2_would_X2_isHeight
set_option maxRecDepth 20000 in
theorem ggX2_would_X2_no : GoodIn wsX2_would wsX2_no := goodIn_r _ [11, 1, 20, 21, 22, 23, 24, 25, 26, 27, 28, 29, 30, 31, 32] (by decide +kernel) (by decide +kernel)
set_option maxRecDepth 20000 in
theorem gX2_would_X2_no : GoodIn wsX2_would (wsV RX2 99 RX2 yX2_no wsX2_no) := goodIn_app (goodIn_of _ (by decide +kernel)) ggX2_would_X2_no
set_option maxRecDepth 20000 in
theorem ggX2_would_X2_goTo : GoodIn wsX2_would wsX2_goTo := goodIn_r _ [15, 3, 16, 17, 18, 19, 20, 21, 22, 23, 24, 25, 26, 27, 28, 29, 30, 31, 32] (by decide +kernel) (by decide +kernel)
set_option maxRecDepth 20000 in
theorem gX2_would_X2_goTo : GoodIn wsX2_would (wsV RX2 77 RX2 yX2_goTo wsX2_goTo) := goodIn_app (goodIn_of _ (by decide +kernel)) ggX2_would_X2_goTo
theorem dX2_would_0 : decode cX2_would 0 = .ok (.aload_n 0, 1) := by decide +kernel
theorem dX2_would_1 : decode cX2_would 1 = .ok (.iconst 0, 1) := by decide +kernel
theorem dX2_would_2 : decode cX2_would 2 = .ok (.putfield 30, 3) := by decide +kernel
theorem dX2_would_5 : decode cX2_would 5 = .ok (.iload_n 1, 1) := by decide +kernel
theorem dX2_would_6 : decode cX2_would 6 = .ok (.invokestatic 96, 3) := by decide +kernel
theorem dX2_would_9 : decode cX2_would 9 = .ok (.ifCond .ne 9, 3) := by decide +kernel
theorem dX2_would_12 : decode cX2_would 12 = .ok (.aload_n 0, 1) := by decide +kernel
theorem dX2_would_13 : decode cX2_would 13 = .ok (.iconst 1, 1) := by decide +kernel
theorem dX2_would_14 : decode cX2_would 14 = .ok (.invokevirtual 99, 3) := by decide +kernel
theorem dX2_would_17 : decode cX2_would 17 = .ok (.ireturn, 1) := by decide +kernel
theorem dX2_would_18 : decode cX2_would 18 = .ok (.aload_n 0, 1) := by decide +kernel
theorem dX2_would_19 : decode cX2_would 19 = .ok (.iload_n 1, 1) := by decide +kernel
theorem dX2_would_20 : decode cX2_would 20 = .ok (.invokevirtual 77, 3) := by decide +kernel
theorem dX2_would_23 : decode cX2_would 23 = .ok (.aload_n 0, 1) := by decide +kernel
theorem dX2_would_24 : decode cX2_would 24 = .ok (.getfield 13, 3) := by decide +kernel
theorem dX2_would_27 : decode cX2_would 27 = .ok (.iload_n 1, 1) := by decide +kernel
theorem dX2_would_28 : decode cX2_would 28 = .ok (.baload, 1) := by decide +kernel
theorem dX2_would_29 : decode cX2_would 29 = .ok (.ifCond .eq 7, 3) := by decide +kernel
theorem dX2_would_32 : decode cX2_would 32 = .ok (.iconst (-1), 1) := by decide +kernel
theorem dX2_would_33 : decode cX2_would 33 = .ok (.goto 7, 3) := by decide +kernel
theorem dX2_would_36 : decode cX2_would 36 = .ok (.aload_n 0, 1) := by decide +kernel
theorem dX2_would_37 : decode cX2_would 37 = .ok (.getfield 33, 3) := by decide +kernel
theorem dX2_would_40 : decode cX2_would 40 = .ok (.ireturn, 1) := by decide +kernel
set_option maxRecDepth 20000 in
theorem ggX2_moves_X2_isHeight : GoodIn wsX2_moves wsX2_isHeight := goodIn_r _ [8] (by decide +kernel) (by decide +kernel)
set_option maxRecDepth 20000 in
theorem gX2_moves_X2_isHeight : GoodIn wsX2_moves (va_wsS RX2 96 yX2_isHeight wsX2_isHeight) := goodIn_app (goodIn_of _ (by decide +kernel)) ggX2_moves_X2_isHeight
set_option maxRecDepth 20000 in
theorem ggX2_moves_X2_no : GoodIn wsX2_moves wsX2_no := goodIn_r _ [12, 1, 41, 42, 43, 44, 45, 46, 47, 48, 49, 50, 51, 52, 53] (by decide +kernel) (by decide +kernel)
set_option maxRecDepth 20000 in
theorem gX2_moves_X2_no : GoodIn wsX2_moves (wsV RX2 99 RX2 yX2_no wsX2_no) := goodIn_app (goodIn_of _ (by decide +kernel)) ggX2_moves_X2_no
set_option maxRecDepth 20000 in
theorem ggX2_moves_X2_goTo : GoodIn wsX2_moves wsX2_goTo := goodIn_r _ [16, 3, 17, 18, 19, 20, 41, 42, 43, 44, 45, 46, 47, 48, 49, 50, 51, 52, 53] (by decide +kernel) (by decide +kernel)
set_option maxRecDepth 20000 in
theorem gX2_moves_X2_goTo : GoodIn wsX2_moves (wsV RX2 77 RX2 yX2_goTo wsX2_goTo) := goodIn_app (goodIn_of _ (by decide +kernel)) ggX2_moves_X2_goTo
set_option maxRecDepth 20000 in
theorem ggX2_moves_X2_allowed : GoodIn wsX2_moves wsX2_allowed := goodIn_r _ [23, 24, 25] (by decide +kernel) (by decide +kernel)
set_option maxRecDepth 20000 in
theorem gX2_moves_X2_allowed : GoodIn wsX2_moves (va_wsS RX2 102 yX2_allowed wsX2_allowed) := goodIn_app (goodIn_of _ (by decide +kernel)) ggX2_moves_X2_allowed
set_option maxRecDepth 20000 in
theorem ggX2_moves_X2_crookedWith : GoodIn wsX2_moves wsX2_crookedWith := goodIn_r _ [29, 3, 18, 20, 19, 30, 31, 32, 7, 33, 34, 35, 36, 37, 38, 39, 40, 41, 42, 43, 44, 45, 46, 47, 48, 49, 50, 51, 52, 53] (by decide +kernel) (by decide +kernel)
set_option maxRecDepth 20000 in
theorem gX2_moves_X2_crookedWith : GoodIn wsX2_moves (wsV RX2 105 RX2 yX2_crookedWith wsX2_crookedWith) := goodIn_app (goodIn_of _ (by decide +kernel)) ggX2_moves_X2_crookedWith
theorem dX2_moves_0 : decode cX2_moves 0 = .ok (.aload_n 0, 1) := by decide +kernel
theorem dX2_moves_1 : decode cX2_moves 1 = .ok (.iconst 0, 1) := by decide +kernel
theorem dX2_moves_2 : decode cX2_moves 2 = .ok (.putfield 30, 3) := by decide +kernel
theorem dX2_moves_5 : decode cX2_moves 5 = .ok (.iload_n 1, 1) := by decide +kernel
theorem dX2_moves_6 : decode cX2_moves 6 = .ok (.invokestatic 96, 3) := by decide +kernel
theorem dX2_moves_9 : decode cX2_moves 9 = .ok (.ifCond .ne 9, 3) := by decide +kernel
theorem dX2_moves_12 : decode cX2_moves 12 = .ok (.aload_n 0, 1) := by decide +kernel
theorem dX2_moves_13 : decode cX2_moves 13 = .ok (.iconst 1, 1) := by decide +kernel
theorem dX2_moves_14 : decode cX2_moves 14 = .ok (.invokevirtual 99, 3) := by decide +kernel
theorem dX2_moves_17 : decode cX2_moves 17 = .ok (.ireturn, 1) := by decide +kernel
theorem dX2_moves_18 : decode cX2_moves 18 = .ok (.aload_n 0, 1) := by decide +kernel
theorem dX2_moves_19 : decode cX2_moves 19 = .ok (.iload_n 1, 1) := by decide +kernel
theorem dX2_moves_20 : decode cX2_moves 20 = .ok (.invokevirtual 77, 3) := by decide +kernel
theorem dX2_moves_23 : decode cX2_moves 23 = .ok (.aload_n 0, 1) := by decide +kernel
theorem dX2_moves_24 : decode cX2_moves 24 = .ok (.getfield 13, 3) := by decide +kernel
theorem dX2_moves_27 : decode cX2_moves 27 = .ok (.iload_n 1, 1) := by decide +kernel
theorem dX2_moves_28 : decode cX2_moves 28 = .ok (.baload, 1) := by decide +kernel
theorem dX2_moves_29 : decode cX2_moves 29 = .ok (.ifCond .ne 19, 3) := by decide +kernel
theorem dX2_moves_32 : decode cX2_moves 32 = .ok (.aload_n 0, 1) := by decide +kernel
theorem dX2_moves_33 : decode cX2_moves 33 = .ok (.getfield 33, 3) := by decide +kernel
theorem dX2_moves_36 : decode cX2_moves 36 = .ok (.aload_n 0, 1) := by decide +kernel
theorem dX2_moves_37 : decode cX2_moves 37 = .ok (.getfield 90, 3) := by decide +kernel
theorem dX2_moves_40 : decode cX2_moves 40 = .ok (.iconst 1, 1) := by decide +kernel
theorem dX2_moves_41 : decode cX2_moves 41 = .ok (.iadd, 1) := by decide +kernel
theorem dX2_moves_42 : decode cX2_moves 42 = .ok (.invokestatic 102, 3) := by decide +kernel
theorem dX2_moves_45 : decode cX2_moves 45 = .ok (.if_icmp .gt 7, 3) := by decide +kernel
theorem dX2_moves_48 : decode cX2_moves 48 = .ok (.iconst (-1), 1) := by decide +kernel
theorem dX2_moves_49 : decode cX2_moves 49 = .ok (.goto 8, 3) := by decide +kernel
theorem dX2_moves_52 : decode cX2_moves 52 = .ok (.aload_n 0, 1) := by decide +kernel
theorem dX2_moves_53 : decode cX2_moves 53 = .ok (.iload_n 1, 1) := by decide +kernel
theorem dX2_moves_54 : decode cX2_moves 54 = .ok (.invokevirtual 105, 3) := by decide +kernel
theorem dX2_moves_57 : decode cX2_moves 57 = .ok (.ireturn, 1) := by decide +kernel
set_option maxRecDepth 20000 in
theorem ggX2_mean_X2_depthsIn : GoodIn wsX2_mean wsX2_depthsIn := goodIn_r _ [8, 9, 10, 4, 5, 6, 7, 11, 12, 13, 14, 15, 16, 17, 18, 19, 20, 21, 22, 23] (by decide +kernel) (by decide +kernel)
set_option maxRecDepth 20000 in
theorem gX2_mean_X2_depthsIn : GoodIn wsX2_mean (wsV RX2 59 RX2 yX2_depthsIn wsX2_depthsIn) := goodIn_app (goodIn_of _ (by decide +kernel)) ggX2_mean_X2_depthsIn
theorem dX2_mean_0 : decode cX2_mean 0 = .ok (.aload_n 0, 1) := by decide +kernel
theorem dX2_mean_1 : decode cX2_mean 1 = .ok (.iconst 0, 1) := by decide +kernel
theorem dX2_mean_2 : decode cX2_mean 2 = .ok (.putfield 30, 3) := by decide +kernel
theorem dX2_mean_5 : decode cX2_mean 5 = .ok (.aload_n 0, 1) := by decide +kernel
theorem dX2_mean_6 : decode cX2_mean 6 = .ok (.getfield 90, 3) := by decide +kernel
theorem dX2_mean_9 : decode cX2_mean 9 = .ok (.ifCond .ne 7, 3) := by decide +kernel
theorem dX2_mean_12 : decode cX2_mean 12 = .ok (.dconst 0, 1) := by decide +kernel
theorem dX2_mean_13 : decode cX2_mean 13 = .ok (.goto 19, 3) := by decide +kernel
theorem dX2_mean_16 : decode cX2_mean 16 = .ok (.aload_n 0, 1) := by decide +kernel
theorem dX2_mean_17 : decode cX2_mean 17 = .ok (.aload_n 0, 1) := by decide +kernel
theorem dX2_mean_18 : decode cX2_mean 18 = .ok (.getfield 9, 3) := by decide +kernel
theorem dX2_mean_21 : decode cX2_mean 21 = .ok (.iconst 0, 1) := by decide +kernel
theorem dX2_mean_22 : decode cX2_mean 22 = .ok (.invokevirtual 59, 3) := by decide +kernel
theorem dX2_mean_25 : decode cX2_mean 25 = .ok (.l2d, 1) := by decide +kernel
theorem dX2_mean_26 : decode cX2_mean 26 = .ok (.aload_n 0, 1) := by decide +kernel
theorem dX2_mean_27 : decode cX2_mean 27 = .ok (.getfield 90, 3) := by decide +kernel
theorem dX2_mean_30 : decode cX2_mean 30 = .ok (.i2d, 1) := by decide +kernel
theorem dX2_mean_31 : decode cX2_mean 31 = .ok (.ddiv, 1) := by decide +kernel
theorem dX2_mean_32 : decode cX2_mean 32 = .ok (.dreturn, 1) := by decide +kernel
set_option maxRecDepth 20000 in
theorem ggX2_digest_X2_counted : GoodIn wsX2_digest wsX2_counted := goodIn_r _ [9, 10, 11, 12, 13, 14, 15, 16, 17, 18, 8, 19, 20, 21, 22, 23, 24, 25, 26, 27, 28, 29, 30, 31, 32, 33, 34, 35, 36, 37, 38, 39, 40, 41, 42, 43, 44, 45, 60, 61, 62, 63, 64, 65, 66, 67, 68, 69, 70, 71, 72] (by decide +kernel) (by decide +kernel)
set_option maxRecDepth 20000 in
theorem gX2_digest_X2_counted : GoodIn wsX2_digest (wsV RX2 123 RX2 yX2_counted wsX2_counted) := goodIn_app (goodIn_of _ (by decide +kernel)) ggX2_digest_X2_counted
set_option maxRecDepth 20000 in
theorem ggX2_digest_X2_toldOf : GoodIn wsX2_digest wsX2_toldOf := goodIn_r _ [49, 50, 51, 20, 21, 52, 53, 54, 8, 55, 12, 39, 40, 41, 42, 16, 17, 18, 19, 22, 23, 24, 25, 35, 36, 37, 38, 43, 44, 45, 56, 57, 58, 59, 4, 60, 61, 62, 63, 64, 65, 66, 67, 68, 69, 70, 71, 72] (by decide +kernel) (by decide +kernel)
set_option maxRecDepth 20000 in
theorem gX2_digest_X2_toldOf : GoodIn wsX2_digest (wsV RX2 117 RX2 yX2_toldOf wsX2_toldOf) := goodIn_app (goodIn_of _ (by decide +kernel)) ggX2_digest_X2_toldOf
theorem dX2_digest_0 : decode cX2_digest 0 = .ok (.aload_n 0, 1) := by decide +kernel
theorem dX2_digest_1 : decode cX2_digest 1 = .ok (.iconst 0, 1) := by decide +kernel
theorem dX2_digest_2 : decode cX2_digest 2 = .ok (.putfield 30, 3) := by decide +kernel
theorem dX2_digest_5 : decode cX2_digest 5 = .ok (.ldc2_w 126, 3) := by decide +kernel
theorem dX2_digest_8 : decode cX2_digest 8 = .ok (.lstore_n 1, 1) := by decide +kernel
theorem dX2_digest_9 : decode cX2_digest 9 = .ok (.iconst 0, 1) := by decide +kernel
theorem dX2_digest_10 : decode cX2_digest 10 = .ok (.istore_n 3, 1) := by decide +kernel
theorem dX2_digest_11 : decode cX2_digest 11 = .ok (.iload_n 3, 1) := by decide +kernel
theorem dX2_digest_12 : decode cX2_digest 12 = .ok (.bipush 7, 2) := by decide +kernel
theorem dX2_digest_14 : decode cX2_digest 14 = .ok (.if_icmp .gt 22, 3) := by decide +kernel
theorem dX2_digest_17 : decode cX2_digest 17 = .ok (.lload_n 1, 1) := by decide +kernel
theorem dX2_digest_18 : decode cX2_digest 18 = .ok (.ldc2_w 128, 3) := by decide +kernel
theorem dX2_digest_21 : decode cX2_digest 21 = .ok (.lmul, 1) := by decide +kernel
theorem dX2_digest_22 : decode cX2_digest 22 = .ok (.aload_n 0, 1) := by decide +kernel
theorem dX2_digest_23 : decode cX2_digest 23 = .ok (.iload_n 3, 1) := by decide +kernel
theorem dX2_digest_24 : decode cX2_digest 24 = .ok (.invokevirtual 123, 3) := by decide +kernel
theorem dX2_digest_27 : decode cX2_digest 27 = .ok (.i2l, 1) := by decide +kernel
theorem dX2_digest_28 : decode cX2_digest 28 = .ok (.ladd, 1) := by decide +kernel
theorem dX2_digest_29 : decode cX2_digest 29 = .ok (.lstore_n 1, 1) := by decide +kernel
theorem dX2_digest_30 : decode cX2_digest 30 = .ok (.iinc 3 1, 3) := by decide +kernel
theorem dX2_digest_33 : decode cX2_digest 33 = .ok (.goto (-22), 3) := by decide +kernel
theorem dX2_digest_36 : decode cX2_digest 36 = .ok (.iconst 0, 1) := by decide +kernel
theorem dX2_digest_37 : decode cX2_digest 37 = .ok (.istore_n 3, 1) := by decide +kernel
theorem dX2_digest_38 : decode cX2_digest 38 = .ok (.iload_n 3, 1) := by decide +kernel
theorem dX2_digest_39 : decode cX2_digest 39 = .ok (.sipush 1000, 3) := by decide +kernel
theorem dX2_digest_42 : decode cX2_digest 42 = .ok (.if_icmp .ge 61, 3) := by decide +kernel
theorem dX2_digest_45 : decode cX2_digest 45 = .ok (.aload_n 0, 1) := by decide +kernel
theorem dX2_digest_46 : decode cX2_digest 46 = .ok (.getfield 13, 3) := by decide +kernel
theorem dX2_digest_49 : decode cX2_digest 49 = .ok (.iload_n 3, 1) := by decide +kernel
theorem dX2_digest_50 : decode cX2_digest 50 = .ok (.baload, 1) := by decide +kernel
theorem dX2_digest_51 : decode cX2_digest 51 = .ok (.ifCond .ne 6, 3) := by decide +kernel
theorem dX2_digest_54 : decode cX2_digest 54 = .ok (.goto 43, 3) := by decide +kernel
theorem dX2_digest_57 : decode cX2_digest 57 = .ok (.lload_n 1, 1) := by decide +kernel
theorem dX2_digest_58 : decode cX2_digest 58 = .ok (.ldc2_w 128, 3) := by decide +kernel
theorem dX2_digest_61 : decode cX2_digest 61 = .ok (.lmul, 1) := by decide +kernel
theorem dX2_digest_62 : decode cX2_digest 62 = .ok (.iload_n 3, 1) := by decide +kernel
theorem dX2_digest_63 : decode cX2_digest 63 = .ok (.i2l, 1) := by decide +kernel
theorem dX2_digest_64 : decode cX2_digest 64 = .ok (.ladd, 1) := by decide +kernel
theorem dX2_digest_65 : decode cX2_digest 65 = .ok (.lstore_n 1, 1) := by decide +kernel
theorem dX2_digest_66 : decode cX2_digest 66 = .ok (.iconst 0, 1) := by decide +kernel
theorem dX2_digest_67 : decode cX2_digest 67 = .ok (.istore 4, 2) := by decide +kernel
theorem dX2_digest_69 : decode cX2_digest 69 = .ok (.iload 4, 2) := by decide +kernel
theorem dX2_digest_71 : decode cX2_digest 71 = .ok (.bipush 7, 2) := by decide +kernel
theorem dX2_digest_73 : decode cX2_digest 73 = .ok (.if_icmp .gt 24, 3) := by decide +kernel
theorem dX2_digest_76 : decode cX2_digest 76 = .ok (.lload_n 1, 1) := by decide +kernel
theorem dX2_digest_77 : decode cX2_digest 77 = .ok (.ldc2_w 128, 3) := by decide +kernel
theorem dX2_digest_80 : decode cX2_digest 80 = .ok (.lmul, 1) := by decide +kernel
theorem dX2_digest_81 : decode cX2_digest 81 = .ok (.aload_n 0, 1) := by decide +kernel
theorem dX2_digest_82 : decode cX2_digest 82 = .ok (.iload_n 3, 1) := by decide +kernel
theorem dX2_digest_83 : decode cX2_digest 83 = .ok (.iload 4, 2) := by decide +kernel
theorem dX2_digest_85 : decode cX2_digest 85 = .ok (.invokevirtual 117, 3) := by decide +kernel
theorem dX2_digest_88 : decode cX2_digest 88 = .ok (.i2l, 1) := by decide +kernel
theorem dX2_digest_89 : decode cX2_digest 89 = .ok (.ladd, 1) := by decide +kernel
theorem dX2_digest_90 : decode cX2_digest 90 = .ok (.lstore_n 1, 1) := by decide +kernel
theorem dX2_digest_91 : decode cX2_digest 91 = .ok (.iinc 4 1, 3) := by decide +kernel
theorem dX2_digest_94 : decode cX2_digest 94 = .ok (.goto (-25), 3) := by decide +kernel
theorem dX2_digest_97 : decode cX2_digest 97 = .ok (.iinc 3 1, 3) := by decide +kernel
theorem dX2_digest_100 : decode cX2_digest 100 = .ok (.goto (-62), 3) := by decide +kernel
theorem dX2_digest_103 : decode cX2_digest 103 = .ok (.lload_n 1, 1) := by decide +kernel
theorem dX2_digest_104 : decode cX2_digest 104 = .ok (.lreturn, 1) := by decide +kernel
theorem dJ9_max_7cf53_0 : decode cJ9_max_7cf53 0 = .ok (.iload_n 0, 1) := by decide +kernel
theorem dJ9_max_7cf53_1 : decode cJ9_max_7cf53 1 = .ok (.iload_n 1, 1) := by decide +kernel
theorem dJ9_max_7cf53_2 : decode cJ9_max_7cf53 2 = .ok (.if_icmp .lt 7, 3) := by decide +kernel
theorem dJ9_max_7cf53_5 : decode cJ9_max_7cf53 5 = .ok (.iload_n 0, 1) := by decide +kernel
theorem dJ9_max_7cf53_6 : decode cJ9_max_7cf53 6 = .ok (.goto 4, 3) := by decide +kernel
theorem dJ9_max_7cf53_9 : decode cJ9_max_7cf53 9 = .ok (.iload_n 1, 1) := by decide +kernel
theorem dJ9_max_7cf53_10 : decode cJ9_max_7cf53 10 = .ok (.ireturn, 1) := by decide +kernel
theorem dJ9_min_7cf53_0 : decode cJ9_min_7cf53 0 = .ok (.iload_n 0, 1) := by decide +kernel
theorem dJ9_min_7cf53_1 : decode cJ9_min_7cf53 1 = .ok (.iload_n 1, 1) := by decide +kernel
theorem dJ9_min_7cf53_2 : decode cJ9_min_7cf53 2 = .ok (.if_icmp .gt 7, 3) := by decide +kernel
theorem dJ9_min_7cf53_5 : decode cJ9_min_7cf53 5 = .ok (.iload_n 0, 1) := by decide +kernel
theorem dJ9_min_7cf53_6 : decode cJ9_min_7cf53 6 = .ok (.goto 4, 3) := by decide +kernel
theorem dJ9_min_7cf53_9 : decode cJ9_min_7cf53 9 = .ok (.iload_n 1, 1) := by decide +kernel
theorem dJ9_min_7cf53_10 : decode cJ9_min_7cf53 10 = .ok (.ireturn, 1) := by decide +kernel
set_option maxRecDepth 20000 in
theorem ggL_muster_X1_muster : GoodIn wsL_muster wsX1_muster := goodIn_ca (goodIn_ca (goodIn_r _ [7, 8, 9, 10, 11, 12, 13, 14, 15, 16, 6, 17, 18, 19, 20, 21, 22, 23, 24, 25, 26, 27, 28, 29, 30, 31, 32, 33, 34, 35, 36, 37, 38, 39, 40, 41, 42, 43, 44, 45, 46, 47, 48, 49, 50, 51, 52, 53, 54, 55, 56, 57, 58, 59, 60, 61, 62, 63, 64, 65, 66, 67, 68, 69, 70, 71, 72, 73, 74, 75, 76, 77, 78, 79, 80, 81, 82, 83, 84, 85, 86, 87, 88, 89, 90, 91, 92, 93, 94, 95, 96, 97, 98, 99, 100, 101, 102, 103, 104, 105, 106, 107, 108, 109, 110, 111, 112, 113, 114, 115] (by decide +kernel) (by decide +kernel)) (goodIn_sub (fun _ h => List.mem_cons_of_mem _ (List.mem_append_left _ (List.mem_append_right _ h))) (by decide +kernel))) (goodIn_sub (fun _ h => List.mem_cons_of_mem _ (List.mem_append_right _ h)) (by decide +kernel))
set_option maxRecDepth 20000 in
theorem gL_muster_X1_muster : GoodIn wsL_muster (wsV RL 7 RX1 yX1_muster wsX1_muster) := goodIn_app (goodIn_of _ (by decide +kernel)) ggL_muster_X1_muster
theorem dL_muster_0 : decode cL_muster 0 = .ok (.aload_n 2, 1) := by decide +kernel
theorem dL_muster_1 : decode cL_muster 1 = .ok (.iconst 0, 1) := by decide +kernel
theorem dL_muster_2 : decode cL_muster 2 = .ok (.aload_n 0, 1) := by decide +kernel
theorem dL_muster_3 : decode cL_muster 3 = .ok (.iload_n 1, 1) := by decide +kernel
theorem dL_muster_4 : decode cL_muster 4 = .ok (.invokevirtual 7, 3) := by decide +kernel
theorem dL_muster_7 : decode cL_muster 7 = .ok (.i2l, 1) := by decide +kernel
theorem dL_muster_8 : decode cL_muster 8 = .ok (.lastore, 1) := by decide +kernel
theorem dL_muster_9 : decode cL_muster 9 = .ok (.goto 9, 3) := by decide +kernel
theorem dL_muster_12 : decode cL_muster 12 = .ok (.astore_n 3, 1) := by decide +kernel
theorem dL_muster_13 : decode cL_muster 13 = .ok (.iconst 1, 1) := by decide +kernel
theorem dL_muster_14 : decode cL_muster 14 = .ok (.ireturn, 1) := by decide +kernel
theorem dL_muster_15 : decode cL_muster 15 = .ok (.astore_n 3, 1) := by decide +kernel
theorem dL_muster_16 : decode cL_muster 16 = .ok (.iconst 2, 1) := by decide +kernel
theorem dL_muster_17 : decode cL_muster 17 = .ok (.ireturn, 1) := by decide +kernel
theorem dL_muster_18 : decode cL_muster 18 = .ok (.iconst 0, 1) := by decide +kernel
theorem dL_muster_19 : decode cL_muster 19 = .ok (.ireturn, 1) := by decide +kernel
set_option maxRecDepth 20000 in
theorem ggL_discharge_X1_discharge : GoodIn wsL_discharge wsX1_discharge := goodIn_ca (goodIn_ca (goodIn_r _ [7, 8, 9, 10, 11, 12, 13, 14, 6, 15, 16, 17, 18, 19, 20, 21, 22, 23, 24, 25, 26, 27, 28, 29, 30, 31, 32, 33, 34, 35, 36, 37, 38, 39, 40, 41, 42, 43, 44, 45, 46, 47, 48, 49, 50, 51, 52, 53, 54, 55, 56, 57, 58, 59, 60, 61, 62, 63, 64, 65, 66, 67, 68, 69, 70, 71, 72, 73, 74, 75, 76, 77, 78, 79, 80, 81, 82, 83, 84, 85, 86, 87, 88, 89] (by decide +kernel) (by decide +kernel)) (goodIn_sub (fun _ h => List.mem_cons_of_mem _ (List.mem_append_left _ (List.mem_append_right _ h))) (by decide +kernel))) (goodIn_sub (fun _ h => List.mem_cons_of_mem _ (List.mem_append_right _ h)) (by decide +kernel))
set_option maxRecDepth 20000 in
theorem gL_discharge_X1_discharge : GoodIn wsL_discharge (wsV RL 17 RX1 yX1_discharge wsX1_discharge) := goodIn_app (goodIn_of _ (by decide +kernel)) ggL_discharge_X1_discharge
theorem dL_discharge_0 : decode cL_discharge 0 = .ok (.aload_n 2, 1) := by decide +kernel
theorem dL_discharge_1 : decode cL_discharge 1 = .ok (.iconst 0, 1) := by decide +kernel
theorem dL_discharge_2 : decode cL_discharge 2 = .ok (.aload_n 0, 1) := by decide +kernel
theorem dL_discharge_3 : decode cL_discharge 3 = .ok (.iload_n 1, 1) := by decide +kernel
theorem dL_discharge_4 : decode cL_discharge 4 = .ok (.invokevirtual 17, 3) := by decide +kernel
theorem dL_discharge_7 : decode cL_discharge 7 = .ok (.ifCond .eq 7, 3) := by decide +kernel
theorem dL_discharge_10 : decode cL_discharge 10 = .ok (.lconst 1, 1) := by decide +kernel
theorem dL_discharge_11 : decode cL_discharge 11 = .ok (.goto 4, 3) := by decide +kernel
theorem dL_discharge_14 : decode cL_discharge 14 = .ok (.lconst 0, 1) := by decide +kernel
theorem dL_discharge_15 : decode cL_discharge 15 = .ok (.lastore, 1) := by decide +kernel
theorem dL_discharge_16 : decode cL_discharge 16 = .ok (.goto 9, 3) := by decide +kernel
theorem dL_discharge_19 : decode cL_discharge 19 = .ok (.astore_n 3, 1) := by decide +kernel
theorem dL_discharge_20 : decode cL_discharge 20 = .ok (.iconst 1, 1) := by decide +kernel
theorem dL_discharge_21 : decode cL_discharge 21 = .ok (.ireturn, 1) := by decide +kernel
theorem dL_discharge_22 : decode cL_discharge 22 = .ok (.astore_n 3, 1) := by decide +kernel
theorem dL_discharge_23 : decode cL_discharge 23 = .ok (.iconst 2, 1) := by decide +kernel
theorem dL_discharge_24 : decode cL_discharge 24 = .ok (.ireturn, 1) := by decide +kernel
theorem dL_discharge_25 : decode cL_discharge 25 = .ok (.iconst 0, 1) := by decide +kernel
theorem dL_discharge_26 : decode cL_discharge 26 = .ok (.ireturn, 1) := by decide +kernel
set_option maxRecDepth 20000 in
theorem ggL_draw_X1_draw : GoodIn wsL_draw wsX1_draw := goodIn_ca (goodIn_ca (goodIn_r _ [7, 8, 9, 10, 11, 6, 12, 13, 14, 15, 16, 17, 18, 19, 20, 21, 22, 23, 24, 25, 26, 27, 28, 29, 30, 31, 32, 33, 34, 35, 36, 37, 38, 39, 40, 41, 42, 43, 44, 45, 46, 47, 48, 49, 50, 51, 52, 53, 54, 55, 56, 57, 58, 59, 60, 61, 62, 63, 64, 65, 66, 67, 68, 69, 70, 71, 72, 73, 74, 75, 76, 77] (by decide +kernel) (by decide +kernel)) (goodIn_sub (fun _ h => List.mem_cons_of_mem _ (List.mem_append_left _ (List.mem_append_right _ h))) (by decide +kernel))) (goodIn_sub (fun _ h => List.mem_cons_of_mem _ (List.mem_append_right _ h)) (by decide +kernel))
set_option maxRecDepth 20000 in
theorem gL_draw_X1_draw : GoodIn wsL_draw (wsV RL 21 RX1 yX1_draw wsX1_draw) := goodIn_app (goodIn_of _ (by decide +kernel)) ggL_draw_X1_draw
theorem dL_draw_0 : decode cL_draw 0 = .ok (.aload_n 2, 1) := by decide +kernel
theorem dL_draw_1 : decode cL_draw 1 = .ok (.iconst 0, 1) := by decide +kernel
theorem dL_draw_2 : decode cL_draw 2 = .ok (.aload_n 0, 1) := by decide +kernel
theorem dL_draw_3 : decode cL_draw 3 = .ok (.iload_n 1, 1) := by decide +kernel
theorem dL_draw_4 : decode cL_draw 4 = .ok (.invokevirtual 21, 3) := by decide +kernel
theorem dL_draw_7 : decode cL_draw 7 = .ok (.i2l, 1) := by decide +kernel
theorem dL_draw_8 : decode cL_draw 8 = .ok (.lastore, 1) := by decide +kernel
theorem dL_draw_9 : decode cL_draw 9 = .ok (.goto 9, 3) := by decide +kernel
theorem dL_draw_12 : decode cL_draw 12 = .ok (.astore_n 3, 1) := by decide +kernel
theorem dL_draw_13 : decode cL_draw 13 = .ok (.iconst 1, 1) := by decide +kernel
theorem dL_draw_14 : decode cL_draw 14 = .ok (.ireturn, 1) := by decide +kernel
theorem dL_draw_15 : decode cL_draw 15 = .ok (.astore_n 3, 1) := by decide +kernel
theorem dL_draw_16 : decode cL_draw 16 = .ok (.iconst 2, 1) := by decide +kernel
theorem dL_draw_17 : decode cL_draw 17 = .ok (.ireturn, 1) := by decide +kernel
theorem dL_draw_18 : decode cL_draw 18 = .ok (.iconst 0, 1) := by decide +kernel
theorem dL_draw_19 : decode cL_draw 19 = .ok (.ireturn, 1) := by decide +kernel
set_option maxRecDepth 20000 in
theorem ggL_isThere_X1_isThere : GoodIn wsL_isThere wsX1_isThere := goodIn_ca (goodIn_r _ [6, 7, 8, 5, 9, 10, 11, 12, 13, 14, 15, 16, 17, 18, 19, 20, 21, 22, 23, 24, 25, 26, 27, 28, 29, 30, 31, 32, 33, 34, 35, 36] (by decide +kernel) (by decide +kernel)) (goodIn_sub (fun _ h => List.mem_cons_of_mem _ (List.mem_append_right _ h)) (by decide +kernel))
set_option maxRecDepth 20000 in
theorem gL_isThere_X1_isThere : GoodIn wsL_isThere (wsV RL 24 RX1 yX1_isThere wsX1_isThere) := goodIn_app (goodIn_of _ (by decide +kernel)) ggL_isThere_X1_isThere
theorem dL_isThere_0 : decode cL_isThere 0 = .ok (.aload_n 2, 1) := by decide +kernel
theorem dL_isThere_1 : decode cL_isThere 1 = .ok (.iconst 0, 1) := by decide +kernel
theorem dL_isThere_2 : decode cL_isThere 2 = .ok (.aload_n 0, 1) := by decide +kernel
theorem dL_isThere_3 : decode cL_isThere 3 = .ok (.iload_n 1, 1) := by decide +kernel
theorem dL_isThere_4 : decode cL_isThere 4 = .ok (.invokevirtual 24, 3) := by decide +kernel
theorem dL_isThere_7 : decode cL_isThere 7 = .ok (.ifCond .eq 7, 3) := by decide +kernel
theorem dL_isThere_10 : decode cL_isThere 10 = .ok (.lconst 1, 1) := by decide +kernel
theorem dL_isThere_11 : decode cL_isThere 11 = .ok (.goto 4, 3) := by decide +kernel
theorem dL_isThere_14 : decode cL_isThere 14 = .ok (.lconst 0, 1) := by decide +kernel
theorem dL_isThere_15 : decode cL_isThere 15 = .ok (.lastore, 1) := by decide +kernel
theorem dL_isThere_16 : decode cL_isThere 16 = .ok (.goto 6, 3) := by decide +kernel
theorem dL_isThere_19 : decode cL_isThere 19 = .ok (.astore_n 3, 1) := by decide +kernel
theorem dL_isThere_20 : decode cL_isThere 20 = .ok (.iconst 1, 1) := by decide +kernel
theorem dL_isThere_21 : decode cL_isThere 21 = .ok (.ireturn, 1) := by decide +kernel
theorem dL_isThere_22 : decode cL_isThere 22 = .ok (.iconst 0, 1) := by decide +kernel
theorem dL_isThere_23 : decode cL_isThere 23 = .ok (.ireturn, 1) := by decide +kernel
set_option maxRecDepth 20000 in
theorem ggL_told_X1_told : GoodIn wsL_told wsX1_told := goodIn_ca (goodIn_ca (goodIn_ca (goodIn_r _ [8, 9, 10, 11, 12, 7, 13, 14, 15, 16, 17, 18, 19, 20, 21, 22, 23, 24, 25, 26, 27, 28, 29, 30, 31, 32, 33, 34, 35, 36, 37, 38, 39, 40, 41, 42, 43, 44, 45, 46, 47, 48, 49, 50, 51, 52, 53, 54, 55, 56, 57, 58, 59, 60, 61, 62, 63, 64, 65, 66, 67, 68, 69, 70, 71, 72, 73, 74, 75, 76, 77, 78, 79, 80, 81, 82, 83, 84, 85, 86, 87, 88, 89, 90, 91] (by decide +kernel) (by decide +kernel)) (goodIn_sub (fun _ h => List.mem_cons_of_mem _ (List.mem_append_left _ (List.mem_append_left _ (List.mem_append_right _ h)))) (by decide +kernel))) (goodIn_sub (fun _ h => List.mem_cons_of_mem _ (List.mem_append_left _ (List.mem_append_right _ h))) (by decide +kernel))) (goodIn_sub (fun _ h => List.mem_cons_of_mem _ (List.mem_append_right _ h)) (by decide +kernel))
set_option maxRecDepth 20000 in
theorem gL_told_X1_told : GoodIn wsL_told (wsV RL 27 RX1 yX1_told wsX1_told) := goodIn_app (goodIn_of _ (by decide +kernel)) ggL_told_X1_told
theorem dL_told_0 : decode cL_told 0 = .ok (.aload_n 3, 1) := by decide +kernel
theorem dL_told_1 : decode cL_told 1 = .ok (.iconst 0, 1) := by decide +kernel
theorem dL_told_2 : decode cL_told 2 = .ok (.aload_n 0, 1) := by decide +kernel
theorem dL_told_3 : decode cL_told 3 = .ok (.iload_n 1, 1) := by decide +kernel
theorem dL_told_4 : decode cL_told 4 = .ok (.iload_n 2, 1) := by decide +kernel
theorem dL_told_5 : decode cL_told 5 = .ok (.invokevirtual 27, 3) := by decide +kernel
theorem dL_told_8 : decode cL_told 8 = .ok (.i2l, 1) := by decide +kernel
theorem dL_told_9 : decode cL_told 9 = .ok (.lastore, 1) := by decide +kernel
theorem dL_told_10 : decode cL_told 10 = .ok (.goto 15, 3) := by decide +kernel
theorem dL_told_13 : decode cL_told 13 = .ok (.astore 4, 2) := by decide +kernel
theorem dL_told_15 : decode cL_told 15 = .ok (.iconst 1, 1) := by decide +kernel
theorem dL_told_16 : decode cL_told 16 = .ok (.ireturn, 1) := by decide +kernel
theorem dL_told_17 : decode cL_told 17 = .ok (.astore 4, 2) := by decide +kernel
theorem dL_told_19 : decode cL_told 19 = .ok (.iconst 2, 1) := by decide +kernel
theorem dL_told_20 : decode cL_told 20 = .ok (.ireturn, 1) := by decide +kernel
theorem dL_told_21 : decode cL_told 21 = .ok (.astore 4, 2) := by decide +kernel
theorem dL_told_23 : decode cL_told 23 = .ok (.iconst 3, 1) := by decide +kernel
theorem dL_told_24 : decode cL_told 24 = .ok (.ireturn, 1) := by decide +kernel
theorem dL_told_25 : decode cL_told 25 = .ok (.iconst 0, 1) := by decide +kernel
theorem dL_told_26 : decode cL_told 26 = .ok (.ireturn, 1) := by decide +kernel
set_option maxRecDepth 20000 in
theorem ggL_at_X1_at : GoodIn wsL_at wsX1_at := goodIn_ca (goodIn_r _ [6, 7, 8, 9, 10, 11, 12, 5, 13, 14, 15, 16, 17, 18, 19, 20, 21, 22, 23, 24, 25, 26] (by decide +kernel) (by decide +kernel)) (goodIn_sub (fun _ h => List.mem_cons_of_mem _ (List.mem_append_right _ h)) (by decide +kernel))
set_option maxRecDepth 20000 in
theorem gL_at_X1_at : GoodIn wsL_at (wsV RL 33 RX1 yX1_at wsX1_at) := goodIn_app (goodIn_of _ (by decide +kernel)) ggL_at_X1_at
theorem dL_at_0 : decode cL_at 0 = .ok (.aload_n 2, 1) := by decide +kernel
theorem dL_at_1 : decode cL_at 1 = .ok (.iconst 0, 1) := by decide +kernel
theorem dL_at_2 : decode cL_at 2 = .ok (.aload_n 0, 1) := by decide +kernel
theorem dL_at_3 : decode cL_at 3 = .ok (.iload_n 1, 1) := by decide +kernel
theorem dL_at_4 : decode cL_at 4 = .ok (.invokevirtual 33, 3) := by decide +kernel
theorem dL_at_7 : decode cL_at 7 = .ok (.i2l, 1) := by decide +kernel
theorem dL_at_8 : decode cL_at 8 = .ok (.lastore, 1) := by decide +kernel
theorem dL_at_9 : decode cL_at 9 = .ok (.goto 6, 3) := by decide +kernel
theorem dL_at_12 : decode cL_at 12 = .ok (.astore_n 3, 1) := by decide +kernel
theorem dL_at_13 : decode cL_at 13 = .ok (.iconst 1, 1) := by decide +kernel
theorem dL_at_14 : decode cL_at 14 = .ok (.ireturn, 1) := by decide +kernel
theorem dL_at_15 : decode cL_at 15 = .ok (.iconst 0, 1) := by decide +kernel
theorem dL_at_16 : decode cL_at 16 = .ok (.ireturn, 1) := by decide +kernel
set_option maxRecDepth 20000 in
theorem ggL_between_X1_between : GoodIn wsL_between wsX1_between := goodIn_ca (goodIn_r _ [6, 7, 8, 5, 9, 10, 11, 12, 13, 14, 15, 16, 17, 18, 19, 20, 21, 22, 23, 24, 25, 26, 27, 28, 29, 30, 31, 32, 33, 34, 35, 36, 37, 38, 39, 40, 41] (by decide +kernel) (by decide +kernel)) (goodIn_sub (fun _ h => List.mem_cons_of_mem _ (List.mem_append_right _ h)) (by decide +kernel))
set_option maxRecDepth 20000 in
theorem gL_between_X1_between : GoodIn wsL_between (wsV RL 36 RX1 yX1_between wsX1_between) := goodIn_app (goodIn_of _ (by decide +kernel)) ggL_between_X1_between
theorem dL_between_0 : decode cL_between 0 = .ok (.aload_n 3, 1) := by decide +kernel
theorem dL_between_1 : decode cL_between 1 = .ok (.iconst 0, 1) := by decide +kernel
theorem dL_between_2 : decode cL_between 2 = .ok (.aload_n 0, 1) := by decide +kernel
theorem dL_between_3 : decode cL_between 3 = .ok (.iload_n 1, 1) := by decide +kernel
theorem dL_between_4 : decode cL_between 4 = .ok (.iload_n 2, 1) := by decide +kernel
theorem dL_between_5 : decode cL_between 5 = .ok (.invokevirtual 36, 3) := by decide +kernel
theorem dL_between_8 : decode cL_between 8 = .ok (.i2l, 1) := by decide +kernel
theorem dL_between_9 : decode cL_between 9 = .ok (.lastore, 1) := by decide +kernel
theorem dL_between_10 : decode cL_between 10 = .ok (.goto 7, 3) := by decide +kernel
theorem dL_between_13 : decode cL_between 13 = .ok (.astore 4, 2) := by decide +kernel
theorem dL_between_15 : decode cL_between 15 = .ok (.iconst 1, 1) := by decide +kernel
theorem dL_between_16 : decode cL_between 16 = .ok (.ireturn, 1) := by decide +kernel
theorem dL_between_17 : decode cL_between 17 = .ok (.iconst 0, 1) := by decide +kernel
theorem dL_between_18 : decode cL_between 18 = .ok (.ireturn, 1) := by decide +kernel
set_option maxRecDepth 20000 in
theorem ggL_captain_X1_captain : GoodIn wsL_captain wsX1_captain := goodIn_ca (goodIn_ca (goodIn_r _ [7, 8, 9, 10, 11, 12, 13, 14, 15, 16, 17, 18, 19, 20, 6, 21, 22, 23, 24, 25, 26, 27, 28, 29, 30, 31, 32, 33, 34, 35, 36, 37, 38, 39, 40, 41, 42, 43, 44, 45, 46, 47, 48, 49] (by decide +kernel) (by decide +kernel)) (goodIn_sub (fun _ h => List.mem_cons_of_mem _ (List.mem_append_left _ (List.mem_append_right _ h))) (by decide +kernel))) (goodIn_sub (fun _ h => List.mem_cons_of_mem _ (List.mem_append_right _ h)) (by decide +kernel))
set_option maxRecDepth 20000 in
theorem gL_captain_X1_captain : GoodIn wsL_captain (wsV RL 39 RX1 yX1_captain wsX1_captain) := goodIn_app (goodIn_of _ (by decide +kernel)) ggL_captain_X1_captain
theorem dL_captain_0 : decode cL_captain 0 = .ok (.aload_n 3, 1) := by decide +kernel
theorem dL_captain_1 : decode cL_captain 1 = .ok (.iconst 0, 1) := by decide +kernel
theorem dL_captain_2 : decode cL_captain 2 = .ok (.aload_n 0, 1) := by decide +kernel
theorem dL_captain_3 : decode cL_captain 3 = .ok (.iload_n 1, 1) := by decide +kernel
theorem dL_captain_4 : decode cL_captain 4 = .ok (.iload_n 2, 1) := by decide +kernel
theorem dL_captain_5 : decode cL_captain 5 = .ok (.invokevirtual 39, 3) := by decide +kernel
theorem dL_captain_8 : decode cL_captain 8 = .ok (.i2l, 1) := by decide +kernel
theorem dL_captain_9 : decode cL_captain 9 = .ok (.lastore, 1) := by decide +kernel
theorem dL_captain_10 : decode cL_captain 10 = .ok (.goto 11, 3) := by decide +kernel
theorem dL_captain_13 : decode cL_captain 13 = .ok (.astore 4, 2) := by decide +kernel
theorem dL_captain_15 : decode cL_captain 15 = .ok (.iconst 1, 1) := by decide +kernel
theorem dL_captain_16 : decode cL_captain 16 = .ok (.ireturn, 1) := by decide +kernel
theorem dL_captain_17 : decode cL_captain 17 = .ok (.astore 4, 2) := by decide +kernel
theorem dL_captain_19 : decode cL_captain 19 = .ok (.iconst 2, 1) := by decide +kernel
theorem dL_captain_20 : decode cL_captain 20 = .ok (.ireturn, 1) := by decide +kernel
theorem dL_captain_21 : decode cL_captain 21 = .ok (.iconst 0, 1) := by decide +kernel
theorem dL_captain_22 : decode cL_captain 22 = .ok (.ireturn, 1) := by decide +kernel
set_option maxRecDepth 20000 in
theorem ggL_taller_X1_taller : GoodIn wsL_taller wsX1_taller := goodIn_ca (goodIn_r _ [6, 7, 8, 5, 9, 10, 11, 12, 13, 14, 15, 16, 17, 18, 19, 20, 21, 22, 23, 24, 25, 26, 27, 28, 29, 30, 31, 32, 33, 34, 35, 36, 37, 38, 39, 40, 41, 42, 43, 44, 45, 46, 47, 48, 49, 50] (by decide +kernel) (by decide +kernel)) (goodIn_sub (fun _ h => List.mem_cons_of_mem _ (List.mem_append_right _ h)) (by decide +kernel))
set_option maxRecDepth 20000 in
theorem gL_taller_X1_taller : GoodIn wsL_taller (wsV RL 42 RX1 yX1_taller wsX1_taller) := goodIn_app (goodIn_of _ (by decide +kernel)) ggL_taller_X1_taller
theorem dL_taller_0 : decode cL_taller 0 = .ok (.aload_n 2, 1) := by decide +kernel
theorem dL_taller_1 : decode cL_taller 1 = .ok (.iconst 0, 1) := by decide +kernel
theorem dL_taller_2 : decode cL_taller 2 = .ok (.aload_n 0, 1) := by decide +kernel
theorem dL_taller_3 : decode cL_taller 3 = .ok (.iload_n 1, 1) := by decide +kernel
theorem dL_taller_4 : decode cL_taller 4 = .ok (.invokevirtual 42, 3) := by decide +kernel
theorem dL_taller_7 : decode cL_taller 7 = .ok (.i2l, 1) := by decide +kernel
theorem dL_taller_8 : decode cL_taller 8 = .ok (.lastore, 1) := by decide +kernel
theorem dL_taller_9 : decode cL_taller 9 = .ok (.goto 6, 3) := by decide +kernel
theorem dL_taller_12 : decode cL_taller 12 = .ok (.astore_n 3, 1) := by decide +kernel
theorem dL_taller_13 : decode cL_taller 13 = .ok (.iconst 1, 1) := by decide +kernel
theorem dL_taller_14 : decode cL_taller 14 = .ok (.ireturn, 1) := by decide +kernel
theorem dL_taller_15 : decode cL_taller 15 = .ok (.iconst 0, 1) := by decide +kernel
theorem dL_taller_16 : decode cL_taller 16 = .ok (.ireturn, 1) := by decide +kernel
set_option maxRecDepth 20000 in
theorem ggL_count_X1_count : GoodIn wsL_count wsX1_count := goodIn_ca (goodIn_r _ [6, 7, 8, 5, 9, 10, 11, 12, 13, 14, 15, 16, 17, 18, 19, 20, 21, 22, 23, 24, 25, 26, 27, 28, 29, 30, 31, 32, 33, 34, 35, 36, 37, 38, 39, 40, 41, 42, 43, 44, 45, 46, 47, 48, 49, 50, 51, 52, 53, 54, 55, 56, 57, 58, 59, 60, 61, 62, 63, 64, 65, 66, 67, 68, 69, 70, 71, 72, 73, 74, 75, 76, 77, 78, 79, 80, 81, 82, 83, 84] (by decide +kernel) (by decide +kernel)) (goodIn_sub (fun _ h => List.mem_cons_of_mem _ (List.mem_append_right _ h)) (by decide +kernel))
set_option maxRecDepth 20000 in
theorem gL_count_X1_count : GoodIn wsL_count (wsV RL 45 RX1 yX1_count wsX1_count) := goodIn_app (goodIn_of _ (by decide +kernel)) ggL_count_X1_count
theorem dL_count_0 : decode cL_count 0 = .ok (.aload_n 2, 1) := by decide +kernel
theorem dL_count_1 : decode cL_count 1 = .ok (.iconst 0, 1) := by decide +kernel
theorem dL_count_2 : decode cL_count 2 = .ok (.aload_n 0, 1) := by decide +kernel
theorem dL_count_3 : decode cL_count 3 = .ok (.iload_n 1, 1) := by decide +kernel
theorem dL_count_4 : decode cL_count 4 = .ok (.invokevirtual 45, 3) := by decide +kernel
theorem dL_count_7 : decode cL_count 7 = .ok (.i2l, 1) := by decide +kernel
theorem dL_count_8 : decode cL_count 8 = .ok (.lastore, 1) := by decide +kernel
theorem dL_count_9 : decode cL_count 9 = .ok (.goto 6, 3) := by decide +kernel
theorem dL_count_12 : decode cL_count 12 = .ok (.astore_n 3, 1) := by decide +kernel
theorem dL_count_13 : decode cL_count 13 = .ok (.iconst 1, 1) := by decide +kernel
theorem dL_count_14 : decode cL_count 14 = .ok (.ireturn, 1) := by decide +kernel
theorem dL_count_15 : decode cL_count 15 = .ok (.iconst 0, 1) := by decide +kernel
theorem dL_count_16 : decode cL_count 16 = .ok (.ireturn, 1) := by decide +kernel
set_option maxRecDepth 20000 in
theorem ggL_would_X1_would : GoodIn wsL_would wsX1_would := goodIn_ca (goodIn_r _ [6, 7, 8, 5, 9, 10, 11, 12, 13, 14, 15, 16, 17, 18, 19, 20, 21, 22, 23, 24, 25, 26, 27, 28, 29, 30, 31, 32, 33, 34, 35, 36, 37, 38, 39, 40, 41, 42, 43, 44, 45, 46, 47, 48, 49, 50, 51] (by decide +kernel) (by decide +kernel)) (goodIn_sub (fun _ h => List.mem_cons_of_mem _ (List.mem_append_right _ h)) (by decide +kernel))
set_option maxRecDepth 20000 in
theorem gL_would_X1_would : GoodIn wsL_would (wsV RL 48 RX1 yX1_would wsX1_would) := goodIn_app (goodIn_of _ (by decide +kernel)) ggL_would_X1_would
theorem dL_would_0 : decode cL_would 0 = .ok (.aload_n 2, 1) := by decide +kernel
theorem dL_would_1 : decode cL_would 1 = .ok (.iconst 0, 1) := by decide +kernel
theorem dL_would_2 : decode cL_would 2 = .ok (.aload_n 0, 1) := by decide +kernel
theorem dL_would_3 : decode cL_would 3 = .ok (.iload_n 1, 1) := by decide +kernel
theorem dL_would_4 : decode cL_would 4 = .ok (.invokevirtual 48, 3) := by decide +kernel
theorem dL_would_7 : decode cL_would 7 = .ok (.i2l, 1) := by decide +kernel
theorem dL_would_8 : decode cL_would 8 = .ok (.lastore, 1) := by decide +kernel
theorem dL_would_9 : decode cL_would 9 = .ok (.goto 6, 3) := by decide +kernel
theorem dL_would_12 : decode cL_would 12 = .ok (.astore_n 3, 1) := by decide +kernel
theorem dL_would_13 : decode cL_would 13 = .ok (.iconst 1, 1) := by decide +kernel
theorem dL_would_14 : decode cL_would 14 = .ok (.ireturn, 1) := by decide +kernel
theorem dL_would_15 : decode cL_would 15 = .ok (.iconst 0, 1) := by decide +kernel
theorem dL_would_16 : decode cL_would 16 = .ok (.ireturn, 1) := by decide +kernel
set_option maxRecDepth 20000 in
theorem ggL_moves_X1_moves : GoodIn wsL_moves wsX1_moves := goodIn_ca (goodIn_r _ [6, 7, 8, 9, 10, 11, 5, 12, 13, 14, 15, 16, 17, 18, 19, 20, 21, 22, 23, 24, 25, 26, 27, 28, 29, 30, 31, 32, 33, 34, 35, 36, 37, 38, 39, 40, 41, 42, 43, 44, 45, 46, 47, 48, 49, 50, 51, 52, 53, 54, 55, 56, 57, 58, 59, 60, 61, 62, 63, 64, 65, 66, 67] (by decide +kernel) (by decide +kernel)) (goodIn_sub (fun _ h => List.mem_cons_of_mem _ (List.mem_append_right _ h)) (by decide +kernel))
set_option maxRecDepth 20000 in
theorem gL_moves_X1_moves : GoodIn wsL_moves (wsV RL 51 RX1 yX1_moves wsX1_moves) := goodIn_app (goodIn_of _ (by decide +kernel)) ggL_moves_X1_moves
theorem dL_moves_0 : decode cL_moves 0 = .ok (.aload_n 2, 1) := by decide +kernel
theorem dL_moves_1 : decode cL_moves 1 = .ok (.iconst 0, 1) := by decide +kernel
theorem dL_moves_2 : decode cL_moves 2 = .ok (.aload_n 0, 1) := by decide +kernel
theorem dL_moves_3 : decode cL_moves 3 = .ok (.iload_n 1, 1) := by decide +kernel
theorem dL_moves_4 : decode cL_moves 4 = .ok (.invokevirtual 51, 3) := by decide +kernel
theorem dL_moves_7 : decode cL_moves 7 = .ok (.i2l, 1) := by decide +kernel
theorem dL_moves_8 : decode cL_moves 8 = .ok (.lastore, 1) := by decide +kernel
theorem dL_moves_9 : decode cL_moves 9 = .ok (.goto 6, 3) := by decide +kernel
theorem dL_moves_12 : decode cL_moves 12 = .ok (.astore_n 3, 1) := by decide +kernel
theorem dL_moves_13 : decode cL_moves 13 = .ok (.iconst 1, 1) := by decide +kernel
theorem dL_moves_14 : decode cL_moves 14 = .ok (.ireturn, 1) := by decide +kernel
theorem dL_moves_15 : decode cL_moves 15 = .ok (.iconst 0, 1) := by decide +kernel
theorem dL_moves_16 : decode cL_moves 16 = .ok (.ireturn, 1) := by decide +kernel
set_option maxRecDepth 20000 in
theorem ggL_law_X1_init : GoodIn wsL_law wsX1_init := goodIn_r _ [9, 10, 11, 12, 13, 14, 421, 422, 423, 424, 425, 426] (by decide +kernel) (by decide +kernel)
set_option maxRecDepth 20000 in
theorem gL_law_X1_init : GoodIn wsL_law (wsX1_init) := ggL_law_X1_init
set_option maxRecDepth 20000 in
theorem ggL_law_X2_init : GoodIn wsL_law wsX2_init := goodIn_r _ [17, 18, 11, 12, 19, 20, 21, 22, 23, 24, 25, 26, 427, 428, 429, 430, 431, 432, 433, 434, 435, 436, 437, 438, 439] (by decide +kernel) (by decide +kernel)
set_option maxRecDepth 20000 in
theorem gL_law_X2_init : GoodIn wsL_law (wsX2_init) := ggL_law_X2_init
set_option maxRecDepth 20000 in
theorem ggL_law_L_muster : GoodIn wsL_law wsL_muster := goodIn_ca (goodIn_ca (goodIn_r _ [30, 31, 32, 33, 34, 35, 2, 36, 37, 38, 39, 13, 40, 41, 42, 43, 44, 45, 46, 47, 48, 49, 50, 51, 52, 53, 54, 55, 56, 57, 58, 59, 60, 61, 62, 63, 64, 11, 12, 65, 66, 67, 68, 69, 14, 70, 71, 72, 73, 74, 75, 76, 77, 78, 79, 80, 81, 82, 83, 84, 85, 86, 87, 88, 89, 90, 91, 92, 93, 94, 95, 96, 97, 98, 99, 100, 101, 102, 103, 104, 105, 106, 107, 108, 109, 110, 111, 112, 113, 114, 115, 116, 117, 118, 119, 120, 121, 122, 123, 124, 125, 126, 127, 128, 129, 421, 422, 423, 424, 425, 426, 440, 441, 442, 443, 444] (by decide +kernel) (by decide +kernel)) (goodIn_sub (fun _ h => List.mem_append_left _ (List.mem_append_left _ (List.mem_append_right _ h))) (by decide +kernel))) (goodIn_sub (fun _ h => List.mem_append_left _ (List.mem_append_right _ h)) (by decide +kernel))
set_option maxRecDepth 20000 in
theorem gL_law_L_muster : GoodIn wsL_law (va_wsS RL 58 yL_muster wsL_muster) := goodIn_app (goodIn_of _ (by decide +kernel)) ggL_law_L_muster
set_option maxRecDepth 20000 in
theorem ggL_law_X2_muster : GoodIn wsL_law wsX2_muster := goodIn_r _ [133, 134, 21, 135, 136, 25, 23, 24, 137, 138, 139, 140, 141, 142, 143, 5, 144, 145, 146, 147, 148, 149, 150, 151, 152, 19, 153, 154, 155, 156, 157, 158, 159, 160, 161, 162, 163, 164, 165, 166, 167, 168, 169, 170, 171, 172, 173, 174, 175, 176, 177, 178, 179, 180, 181, 182, 183, 26, 184, 185, 186, 187, 427, 428, 429, 430, 431, 432, 433, 434, 435, 436, 437, 438, 439] (by decide +kernel) (by decide +kernel)
set_option maxRecDepth 20000 in
theorem gL_law_X2_muster : GoodIn wsL_law (wsV RL 63 RX2 yX2_muster wsX2_muster) := goodIn_app (goodIn_of _ (by decide +kernel)) ggL_law_X2_muster
set_option maxRecDepth 20000 in
theorem ggL_law_X2_thrown : GoodIn wsL_law wsX2_thrown := goodIn_r _ [191, 134, 427, 428, 429, 430, 431, 432, 433, 434, 435, 436, 437, 438, 439] (by decide +kernel) (by decide +kernel)
set_option maxRecDepth 20000 in
theorem gL_law_X2_thrown : GoodIn wsL_law (wsV RL 64 RX2 yX2_thrown wsX2_thrown) := goodIn_app (goodIn_of _ (by decide +kernel)) ggL_law_X2_thrown
set_option maxRecDepth 20000 in
theorem ggL_law_L_discharge : GoodIn wsL_law wsL_discharge := goodIn_ca (goodIn_ca (goodIn_r _ [194, 31, 32, 195, 196, 197, 2, 198, 37, 38, 39, 42, 52, 43, 44, 45, 46, 47, 48, 49, 50, 51, 53, 54, 55, 56, 41, 57, 58, 59, 60, 199, 200, 201, 202, 14, 118, 119, 120, 121, 115, 122, 107, 108, 90, 203, 204, 205, 206, 126, 81, 207, 208, 209, 210, 87, 88, 89, 77, 78, 79, 80, 82, 83, 84, 85, 86, 127, 128, 129, 111, 112, 113, 114, 116, 117, 123, 124, 125, 421, 422, 423, 424, 425, 426, 440, 441, 442, 443, 444] (by decide +kernel) (by decide +kernel)) (goodIn_sub (fun _ h => List.mem_append_left _ (List.mem_append_left _ (List.mem_append_right _ h))) (by decide +kernel))) (goodIn_sub (fun _ h => List.mem_append_left _ (List.mem_append_right _ h)) (by decide +kernel))
set_option maxRecDepth 20000 in
theorem gL_law_L_discharge : GoodIn wsL_law (va_wsS RL 68 yL_discharge wsL_discharge) := goodIn_app (goodIn_of _ (by decide +kernel)) ggL_law_L_discharge
set_option maxRecDepth 20000 in
theorem ggL_law_X2_discharge : GoodIn wsL_law wsX2_discharge := goodIn_r _ [214, 21, 134, 136, 25, 23, 24, 135, 137, 19, 142, 143, 5, 144, 149, 150, 151, 152, 215, 216, 217, 218, 169, 170, 171, 172, 173, 174, 175, 176, 177, 178, 179, 180, 181, 182, 183, 26, 184, 185, 186, 187, 427, 428, 429, 430, 431, 432, 433, 434, 435, 436, 437, 438, 439] (by decide +kernel) (by decide +kernel)
set_option maxRecDepth 20000 in
theorem gL_law_X2_discharge : GoodIn wsL_law (wsV RL 70 RX2 yX2_discharge wsX2_discharge) := goodIn_app (goodIn_of _ (by decide +kernel)) ggL_law_X2_discharge
set_option maxRecDepth 20000 in
theorem ggL_law_L_draw : GoodIn wsL_law wsL_draw := goodIn_ca (goodIn_ca (goodIn_r _ [221, 31, 32, 222, 223, 224, 2, 225, 37, 38, 43, 44, 45, 46, 47, 48, 49, 50, 51, 52, 53, 54, 55, 56, 41, 57, 58, 59, 60, 111, 112, 113, 114, 81, 90, 115, 14, 116, 117, 39, 42, 118, 119, 120, 121, 122, 107, 108, 123, 124, 125, 126, 127, 128, 129, 82, 83, 84, 85, 86, 77, 78, 79, 80, 70, 71, 72, 421, 422, 423, 424, 425, 426, 440, 441, 442, 443, 444] (by decide +kernel) (by decide +kernel)) (goodIn_sub (fun _ h => List.mem_append_left _ (List.mem_append_left _ (List.mem_append_right _ h))) (by decide +kernel))) (goodIn_sub (fun _ h => List.mem_append_left _ (List.mem_append_right _ h)) (by decide +kernel))
set_option maxRecDepth 20000 in
theorem gL_law_L_draw : GoodIn wsL_law (va_wsS RL 71 yL_draw wsL_draw) := goodIn_app (goodIn_of _ (by decide +kernel)) ggL_law_L_draw
set_option maxRecDepth 20000 in
theorem ggL_law_X2_draw : GoodIn wsL_law wsX2_draw := goodIn_r _ [229, 21, 134, 142, 143, 5, 144, 173, 174, 175, 176, 136, 25, 177, 178, 179, 135, 137, 149, 150, 151, 152, 19, 23, 24, 180, 181, 182, 183, 26, 184, 185, 186, 187, 169, 170, 171, 172, 427, 428, 429, 430, 431, 432, 433, 434, 435, 436, 437, 438, 439] (by decide +kernel) (by decide +kernel)
set_option maxRecDepth 20000 in
theorem gL_law_X2_draw : GoodIn wsL_law (wsV RL 73 RX2 yX2_draw wsX2_draw) := goodIn_app (goodIn_of _ (by decide +kernel)) ggL_law_X2_draw
set_option maxRecDepth 20000 in
theorem ggL_law_L_isThere : GoodIn wsL_law wsL_isThere := goodIn_ca (goodIn_r _ [232, 31, 233, 234, 235, 2, 236, 43, 44, 45, 46, 47, 48, 49, 50, 51, 52, 53, 54, 55, 56, 41, 57, 58, 59, 60, 421, 422, 423, 424, 425, 426, 440, 441, 442, 443, 444] (by decide +kernel) (by decide +kernel)) (goodIn_sub (fun _ h => List.mem_append_left _ (List.mem_append_right _ h)) (by decide +kernel))
set_option maxRecDepth 20000 in
theorem gL_law_L_isThere : GoodIn wsL_law (va_wsS RL 74 yL_isThere wsL_isThere) := goodIn_app (goodIn_of _ (by decide +kernel)) ggL_law_L_isThere
set_option maxRecDepth 20000 in
theorem ggL_law_X2_isThere : GoodIn wsL_law wsX2_isThere := goodIn_r _ [240, 134, 21, 142, 143, 5, 144, 427, 428, 429, 430, 431, 432, 433, 434, 435, 436, 437, 438, 439] (by decide +kernel) (by decide +kernel)
set_option maxRecDepth 20000 in
theorem gL_law_X2_isThere : GoodIn wsL_law (wsV RL 76 RX2 yX2_isThere wsX2_isThere) := goodIn_app (goodIn_of _ (by decide +kernel)) ggL_law_X2_isThere
set_option maxRecDepth 20000 in
theorem ggL_law_L_told : GoodIn wsL_law wsL_told := goodIn_ca (goodIn_ca (goodIn_ca (goodIn_r _ [243, 31, 244, 32, 245, 246, 247, 2, 248, 37, 38, 43, 44, 45, 46, 47, 249, 250, 251, 252, 253, 48, 49, 50, 51, 52, 53, 54, 55, 56, 41, 57, 58, 59, 60, 254, 255, 256, 257, 81, 115, 126, 90, 91, 92, 93, 94, 86, 70, 71, 72, 258, 259, 260, 261, 262, 139, 140, 141, 118, 119, 120, 121, 122, 107, 108, 263, 264, 265, 266, 39, 14, 267, 268, 269, 103, 104, 105, 106, 109, 110, 421, 422, 423, 424, 425, 426, 440, 441, 442, 443, 444] (by decide +kernel) (by decide +kernel)) (goodIn_sub (fun _ h => List.mem_append_left _ (List.mem_append_left _ (List.mem_append_right _ h))) (by decide +kernel))) (goodIn_sub (fun _ h => List.mem_append_left _ (List.mem_append_right _ h)) (by decide +kernel))) (goodIn_sub (fun _ h => List.mem_append_right _ h) (by decide +kernel))
set_option maxRecDepth 20000 in
theorem gL_law_L_told : GoodIn wsL_law (va_wsS RL 77 yL_told wsL_told) := goodIn_app (goodIn_of _ (by decide +kernel)) ggL_law_L_told
set_option maxRecDepth 20000 in
theorem ggL_law_X2_told : GoodIn wsL_law wsX2_told := goodIn_r _ [273, 134, 21, 142, 143, 5, 144, 145, 146, 147, 148, 274, 275, 276, 277, 136, 25, 23, 24, 149, 150, 151, 152, 19, 162, 163, 164, 165, 278, 279, 280, 281, 138, 139, 140, 141, 282, 283, 284, 285, 166, 167, 168, 286, 287, 288, 289, 427, 428, 429, 430, 431, 432, 433, 434, 435, 436, 437, 438, 439] (by decide +kernel) (by decide +kernel)
set_option maxRecDepth 20000 in
theorem gL_law_X2_told : GoodIn wsL_law (wsV RL 80 RX2 yX2_told wsX2_told) := goodIn_app (goodIn_of _ (by decide +kernel)) ggL_law_X2_told
set_option maxRecDepth 20000 in
theorem ggL_law_L_at : GoodIn wsL_law wsL_at := goodIn_ca (goodIn_r _ [292, 244, 293, 294, 295, 2, 296, 252, 253, 53, 263, 264, 265, 266, 39, 14, 440, 441, 442, 443, 444, 421, 422, 423, 424, 425, 426] (by decide +kernel) (by decide +kernel)) (goodIn_sub (fun _ h => List.mem_append_right _ h) (by decide +kernel))
set_option maxRecDepth 20000 in
theorem gL_law_L_at : GoodIn wsL_law (va_wsS RL 81 yL_at wsL_at) := goodIn_app (goodIn_of _ (by decide +kernel)) ggL_law_L_at
set_option maxRecDepth 20000 in
theorem ggL_law_X2_at : GoodIn wsL_law wsX2_at := goodIn_r _ [300, 134, 135, 21, 145, 146, 147, 5, 148, 427, 428, 429, 430, 431, 432, 433, 434, 435, 436, 437, 438, 439] (by decide +kernel) (by decide +kernel)
set_option maxRecDepth 20000 in
theorem gL_law_X2_at : GoodIn wsL_law (wsV RL 83 RX2 yX2_at wsX2_at) := goodIn_app (goodIn_of _ (by decide +kernel)) ggL_law_X2_at
set_option maxRecDepth 20000 in
theorem ggL_law_L_between : GoodIn wsL_law wsL_between := goodIn_ca (goodIn_r _ [303, 31, 304, 305, 306, 2, 307, 43, 44, 45, 46, 47, 118, 119, 120, 121, 52, 53, 115, 122, 107, 108, 90, 54, 55, 56, 41, 57, 58, 59, 60, 421, 422, 423, 424, 425, 426, 440, 441, 442, 443, 444] (by decide +kernel) (by decide +kernel)) (goodIn_sub (fun _ h => List.mem_append_left _ (List.mem_append_right _ h)) (by decide +kernel))
set_option maxRecDepth 20000 in
theorem gL_law_L_between : GoodIn wsL_law (va_wsS RL 84 yL_between wsL_between) := goodIn_app (goodIn_of _ (by decide +kernel)) ggL_law_L_between
set_option maxRecDepth 20000 in
theorem ggL_law_X2_between : GoodIn wsL_law wsX2_between := goodIn_r _ [311, 134, 21, 142, 143, 5, 144, 145, 146, 147, 148, 427, 428, 429, 430, 431, 432, 433, 434, 435, 436, 437, 438, 439] (by decide +kernel) (by decide +kernel)
set_option maxRecDepth 20000 in
theorem gL_law_X2_between : GoodIn wsL_law (wsV RL 86 RX2 yX2_between wsX2_between) := goodIn_app (goodIn_of _ (by decide +kernel)) ggL_law_X2_between
set_option maxRecDepth 20000 in
theorem ggL_law_L_captain : GoodIn wsL_law wsL_captain := goodIn_ca (goodIn_ca (goodIn_r _ [314, 31, 32, 315, 316, 317, 2, 318, 37, 38, 319, 320, 140, 321, 262, 139, 141, 52, 53, 43, 44, 45, 46, 47, 48, 49, 50, 51, 54, 55, 56, 41, 57, 58, 59, 60, 70, 71, 72, 421, 422, 423, 424, 425, 426, 440, 441, 442, 443, 444] (by decide +kernel) (by decide +kernel)) (goodIn_sub (fun _ h => List.mem_append_left _ (List.mem_append_left _ (List.mem_append_right _ h))) (by decide +kernel))) (goodIn_sub (fun _ h => List.mem_append_left _ (List.mem_append_right _ h)) (by decide +kernel))
set_option maxRecDepth 20000 in
theorem gL_law_L_captain : GoodIn wsL_law (va_wsS RL 87 yL_captain wsL_captain) := goodIn_app (goodIn_of _ (by decide +kernel)) ggL_law_L_captain
set_option maxRecDepth 20000 in
theorem ggL_law_X2_captain : GoodIn wsL_law wsX2_captain := goodIn_r _ [325, 134, 21, 19, 326, 320, 140, 321, 138, 139, 141, 24, 23, 142, 143, 5, 144, 145, 146, 147, 148, 427, 428, 429, 430, 431, 432, 433, 434, 435, 436, 437, 438, 439] (by decide +kernel) (by decide +kernel)
set_option maxRecDepth 20000 in
theorem gL_law_X2_captain : GoodIn wsL_law (wsV RL 89 RX2 yX2_captain wsX2_captain) := goodIn_app (goodIn_of _ (by decide +kernel)) ggL_law_X2_captain
set_option maxRecDepth 20000 in
theorem ggL_law_L_taller : GoodIn wsL_law wsL_taller := goodIn_ca (goodIn_r _ [329, 31, 330, 331, 332, 2, 333, 43, 44, 45, 46, 47, 118, 119, 120, 121, 52, 53, 115, 122, 107, 108, 90, 54, 55, 56, 41, 57, 58, 59, 60, 263, 264, 265, 266, 39, 14, 70, 71, 72, 421, 422, 423, 424, 425, 426, 440, 441, 442, 443, 444] (by decide +kernel) (by decide +kernel)) (goodIn_sub (fun _ h => List.mem_append_left _ (List.mem_append_right _ h)) (by decide +kernel))
set_option maxRecDepth 20000 in
theorem gL_law_L_taller : GoodIn wsL_law (va_wsS RL 90 yL_taller wsL_taller) := goodIn_app (goodIn_of _ (by decide +kernel)) ggL_law_L_taller
set_option maxRecDepth 20000 in
theorem ggL_law_X2_taller : GoodIn wsL_law wsX2_taller := goodIn_r _ [337, 134, 21, 142, 143, 5, 144, 145, 146, 147, 148, 427, 428, 429, 430, 431, 432, 433, 434, 435, 436, 437, 438, 439] (by decide +kernel) (by decide +kernel)
set_option maxRecDepth 20000 in
theorem gL_law_X2_taller : GoodIn wsL_law (wsV RL 92 RX2 yX2_taller wsX2_taller) := goodIn_app (goodIn_of _ (by decide +kernel)) ggL_law_X2_taller
set_option maxRecDepth 20000 in
theorem ggL_law_L_count : GoodIn wsL_law wsL_count := goodIn_ca (goodIn_r _ [340, 244, 341, 342, 343, 2, 344, 249, 250, 251, 252, 253, 345, 346, 347, 348, 39, 52, 116, 117, 42, 70, 71, 72, 53, 258, 259, 260, 261, 115, 90, 262, 139, 140, 141, 118, 119, 120, 121, 122, 107, 108, 54, 55, 56, 41, 57, 58, 59, 60, 263, 264, 265, 266, 14, 267, 268, 269, 81, 95, 96, 97, 98, 99, 349, 350, 351, 352, 103, 104, 105, 106, 109, 110, 421, 422, 423, 424, 425, 426, 440, 441, 442, 443, 444] (by decide +kernel) (by decide +kernel)) (goodIn_sub (fun _ h => List.mem_append_right _ h) (by decide +kernel))
set_option maxRecDepth 20000 in
theorem gL_law_L_count : GoodIn wsL_law (va_wsS RL 93 yL_count wsL_count) := goodIn_app (goodIn_of _ (by decide +kernel)) ggL_law_L_count
set_option maxRecDepth 20000 in
theorem ggL_law_X2_count : GoodIn wsL_law wsX2_count := goodIn_r _ [356, 134, 357, 358, 359, 5, 360, 22, 135, 19, 178, 179, 137, 278, 279, 280, 281, 23, 24, 138, 139, 140, 141, 153, 154, 155, 156, 157, 361, 362, 363, 364, 282, 283, 284, 285, 162, 163, 164, 165, 166, 167, 168, 145, 146, 147, 148, 427, 428, 429, 430, 431, 432, 433, 434, 435, 436, 437, 438, 439] (by decide +kernel) (by decide +kernel)
set_option maxRecDepth 20000 in
theorem gL_law_X2_count : GoodIn wsL_law (wsV RL 95 RX2 yX2_count wsX2_count) := goodIn_app (goodIn_of _ (by decide +kernel)) ggL_law_X2_count
set_option maxRecDepth 20000 in
theorem ggL_law_L_would : GoodIn wsL_law wsL_would := goodIn_ca (goodIn_r _ [367, 31, 368, 369, 370, 2, 371, 43, 44, 45, 46, 47, 48, 49, 50, 51, 52, 53, 54, 55, 56, 41, 57, 58, 59, 60, 73, 74, 75, 76, 372, 373, 374, 375, 376, 377, 91, 92, 93, 94, 86, 421, 422, 423, 424, 425, 426, 440, 441, 442, 443, 444] (by decide +kernel) (by decide +kernel)) (goodIn_sub (fun _ h => List.mem_append_left _ (List.mem_append_right _ h)) (by decide +kernel))
set_option maxRecDepth 20000 in
theorem gL_law_L_would : GoodIn wsL_law (va_wsS RL 96 yL_would wsL_would) := goodIn_app (goodIn_of _ (by decide +kernel)) ggL_law_L_would
set_option maxRecDepth 20000 in
theorem ggL_law_X2_would : GoodIn wsL_law wsX2_would := goodIn_r _ [381, 134, 21, 136, 142, 143, 5, 144, 145, 146, 147, 148, 149, 150, 151, 152, 19, 25, 23, 24, 427, 428, 429, 430, 431, 432, 433, 434, 435, 436, 437, 438, 439] (by decide +kernel) (by decide +kernel)
set_option maxRecDepth 20000 in
theorem gL_law_X2_would : GoodIn wsL_law (wsV RL 98 RX2 yX2_would wsX2_would) := goodIn_app (goodIn_of _ (by decide +kernel)) ggL_law_X2_would
set_option maxRecDepth 20000 in
theorem ggL_law_L_moves : GoodIn wsL_law wsL_moves := goodIn_ca (goodIn_r _ [384, 31, 385, 386, 387, 2, 388, 39, 53, 81, 43, 44, 45, 46, 47, 48, 49, 50, 51, 52, 54, 55, 56, 41, 57, 58, 59, 60, 73, 74, 75, 76, 372, 373, 374, 375, 376, 377, 91, 92, 93, 94, 86, 95, 96, 97, 98, 99, 389, 390, 391, 392, 107, 108, 90, 109, 110, 421, 422, 423, 424, 425, 426, 440, 441, 442, 443, 444] (by decide +kernel) (by decide +kernel)) (goodIn_sub (fun _ h => List.mem_append_left _ (List.mem_append_right _ h)) (by decide +kernel))
set_option maxRecDepth 20000 in
theorem gL_law_L_moves : GoodIn wsL_law (va_wsS RL 99 yL_moves wsL_moves) := goodIn_app (goodIn_of _ (by decide +kernel)) ggL_law_L_moves
set_option maxRecDepth 20000 in
theorem ggL_law_X2_moves : GoodIn wsL_law wsX2_moves := goodIn_r _ [396, 134, 21, 136, 135, 142, 143, 5, 144, 145, 146, 147, 148, 149, 150, 151, 152, 19, 25, 23, 24, 153, 154, 155, 156, 157, 158, 159, 160, 161, 162, 163, 164, 165, 166, 167, 168, 138, 139, 140, 141, 427, 428, 429, 430, 431, 432, 433, 434, 435, 436, 437, 438, 439] (by decide +kernel) (by decide +kernel)
set_option maxRecDepth 20000 in
theorem gL_law_X2_moves : GoodIn wsL_law (wsV RL 101 RX2 yX2_moves wsX2_moves) := goodIn_app (goodIn_of _ (by decide +kernel)) ggL_law_X2_moves
set_option maxRecDepth 20000 in
theorem ggL_law_X1_mean : GoodIn wsL_law wsX1_mean := goodIn_r _ [400, 39, 263, 264, 265, 2, 266, 14, 375, 376, 377, 91, 92, 93, 41, 94, 86, 421, 422, 423, 424, 425, 426, 440, 441, 442, 443, 444] (by decide +kernel) (by decide +kernel)
set_option maxRecDepth 20000 in
theorem gL_law_X1_mean : GoodIn wsL_law (wsV RL 102 RX1 yX1_mean wsX1_mean) := goodIn_app (goodIn_of _ (by decide +kernel)) ggL_law_X1_mean
set_option maxRecDepth 20000 in
theorem ggL_law_X2_mean : GoodIn wsL_law wsX2_mean := goodIn_r _ [404, 134, 135, 19, 405, 406, 407, 5, 408, 23, 24, 427, 428, 429, 430, 431, 432, 433, 434, 435, 436, 437, 438, 439] (by decide +kernel) (by decide +kernel)
set_option maxRecDepth 20000 in
theorem gL_law_X2_mean : GoodIn wsL_law (wsV RL 106 RX2 yX2_mean wsX2_mean) := goodIn_app (goodIn_of _ (by decide +kernel)) ggL_law_X2_mean
set_option maxRecDepth 20000 in
theorem ggL_law_X1_digest : GoodIn wsL_law wsX1_digest := goodIn_r _ [412, 413, 414, 39, 345, 346, 347, 2, 348, 52, 116, 117, 42, 70, 71, 72, 53, 258, 259, 260, 261, 115, 90, 262, 139, 140, 141, 118, 119, 120, 121, 122, 107, 108, 54, 55, 56, 41, 57, 58, 59, 60, 263, 264, 265, 266, 14, 267, 268, 269, 81, 95, 96, 97, 98, 99, 349, 350, 351, 352, 103, 104, 105, 106, 109, 110, 254, 255, 256, 257, 126, 91, 92, 93, 94, 86, 421, 422, 423, 424, 425, 426, 440, 441, 442, 443, 444] (by decide +kernel) (by decide +kernel)
set_option maxRecDepth 20000 in
theorem gL_law_X1_digest : GoodIn wsL_law (wsV RL 107 RX1 yX1_digest wsX1_digest) := goodIn_app (goodIn_of _ (by decide +kernel)) ggL_law_X1_digest
set_option maxRecDepth 20000 in
theorem ggL_law_X2_digest : GoodIn wsL_law wsX2_digest := goodIn_r _ [418, 134, 419, 420, 21, 357, 358, 359, 5, 360, 22, 135, 19, 178, 179, 137, 278, 279, 280, 281, 23, 24, 138, 139, 140, 141, 153, 154, 155, 156, 157, 361, 362, 363, 364, 282, 283, 284, 285, 162, 163, 164, 165, 166, 167, 168, 274, 275, 276, 277, 136, 25, 149, 150, 151, 152, 286, 287, 288, 289, 427, 428, 429, 430, 431, 432, 433, 434, 435, 436, 437, 438, 439] (by decide +kernel) (by decide +kernel)
set_option maxRecDepth 20000 in
theorem gL_law_X2_digest : GoodIn wsL_law (wsV RL 111 RX2 yX2_digest wsX2_digest) := goodIn_app (goodIn_of _ (by decide +kernel)) ggL_law_X2_digest
theorem dL_law_0 : decode cL_law 0 = .ok (.new 8, 3) := by decide +kernel
theorem dL_law_3 : decode cL_law 3 = .ok (.dup, 1) := by decide +kernel
theorem dL_law_4 : decode cL_law 4 = .ok (.invokespecial 54, 3) := by decide +kernel
theorem dL_law_7 : decode cL_law 7 = .ok (.astore_n 1, 1) := by decide +kernel
theorem dL_law_8 : decode cL_law 8 = .ok (.new 55, 3) := by decide +kernel
theorem dL_law_11 : decode cL_law 11 = .ok (.dup, 1) := by decide +kernel
theorem dL_law_12 : decode cL_law 12 = .ok (.invokespecial 57, 3) := by decide +kernel
theorem dL_law_15 : decode cL_law 15 = .ok (.astore_n 2, 1) := by decide +kernel
theorem dL_law_16 : decode cL_law 16 = .ok (.iconst 1, 1) := by decide +kernel
theorem dL_law_17 : decode cL_law 17 = .ok (.newarray .long, 2) := by decide +kernel
theorem dL_law_19 : decode cL_law 19 = .ok (.astore_n 3, 1) := by decide +kernel
theorem dL_law_20 : decode cL_law 20 = .ok (.iconst 0, 1) := by decide +kernel
theorem dL_law_21 : decode cL_law 21 = .ok (.istore 4, 2) := by decide +kernel
theorem dL_law_23 : decode cL_law 23 = .ok (.iload 4, 2) := by decide +kernel
theorem dL_law_25 : decode cL_law 25 = .ok (.aload_n 0, 1) := by decide +kernel
theorem dL_law_26 : decode cL_law 26 = .ok (.arraylength, 1) := by decide +kernel
theorem dL_law_27 : decode cL_law 27 = .ok (.iconst 3, 1) := by decide +kernel
theorem dL_law_28 : decode cL_law 28 = .ok (.isub, 1) := by decide +kernel
theorem dL_law_29 : decode cL_law 29 = .ok (.if_icmp .gt 862, 3) := by decide +kernel
theorem dL_law_32 : decode cL_law 32 = .ok (.aload_n 0, 1) := by decide +kernel
theorem dL_law_33 : decode cL_law 33 = .ok (.iload 4, 2) := by decide +kernel
theorem dL_law_35 : decode cL_law 35 = .ok (.iaload, 1) := by decide +kernel
theorem dL_law_36 : decode cL_law 36 = .ok (.bipush 15, 2) := by decide +kernel
theorem dL_law_38 : decode cL_law 38 = .ok (.iand, 1) := by decide +kernel
theorem dL_law_39 : decode cL_law 39 = .ok (.tableswitch 846 0 13 #[69, 125, 188, 244, 307, 375, 431, 499, 567, 623, 679, 735, 791, 832], 69) := by decide +kernel
theorem dL_law_108 : decode cL_law 108 = .ok (.aload_n 1, 1) := by decide +kernel
theorem dL_law_109 : decode cL_law 109 = .ok (.aload_n 0, 1) := by decide +kernel
theorem dL_law_110 : decode cL_law 110 = .ok (.iload 4, 2) := by decide +kernel
theorem dL_law_112 : decode cL_law 112 = .ok (.iconst 1, 1) := by decide +kernel
theorem dL_law_113 : decode cL_law 113 = .ok (.iadd, 1) := by decide +kernel
theorem dL_law_114 : decode cL_law 114 = .ok (.iaload, 1) := by decide +kernel
theorem dL_law_115 : decode cL_law 115 = .ok (.aload_n 3, 1) := by decide +kernel
theorem dL_law_116 : decode cL_law 116 = .ok (.invokestatic 58, 3) := by decide +kernel
theorem dL_law_119 : decode cL_law 119 = .ok (.istore 5, 2) := by decide +kernel
theorem dL_law_121 : decode cL_law 121 = .ok (.aload_n 2, 1) := by decide +kernel
theorem dL_law_122 : decode cL_law 122 = .ok (.aload_n 0, 1) := by decide +kernel
theorem dL_law_123 : decode cL_law 123 = .ok (.iload 4, 2) := by decide +kernel
theorem dL_law_125 : decode cL_law 125 = .ok (.iconst 1, 1) := by decide +kernel
theorem dL_law_126 : decode cL_law 126 = .ok (.iadd, 1) := by decide +kernel
theorem dL_law_127 : decode cL_law 127 = .ok (.iaload, 1) := by decide +kernel
theorem dL_law_128 : decode cL_law 128 = .ok (.invokevirtual 63, 3) := by decide +kernel
theorem dL_law_131 : decode cL_law 131 = .ok (.istore 6, 2) := by decide +kernel
theorem dL_law_133 : decode cL_law 133 = .ok (.aload_n 2, 1) := by decide +kernel
theorem dL_law_134 : decode cL_law 134 = .ok (.invokevirtual 64, 3) := by decide +kernel
theorem dL_law_137 : decode cL_law 137 = .ok (.iload 5, 2) := by decide +kernel
theorem dL_law_139 : decode cL_law 139 = .ok (.if_icmp .eq 5, 3) := by decide +kernel
theorem dL_law_142 : decode cL_law 142 = .ok (.iconst 0, 1) := by decide +kernel
theorem dL_law_143 : decode cL_law 143 = .ok (.ireturn, 1) := by decide +kernel
theorem dL_law_144 : decode cL_law 144 = .ok (.iload 5, 2) := by decide +kernel
theorem dL_law_146 : decode cL_law 146 = .ok (.ifCond .ne 15, 3) := by decide +kernel
theorem dL_law_149 : decode cL_law 149 = .ok (.aload_n 3, 1) := by decide +kernel
theorem dL_law_150 : decode cL_law 150 = .ok (.iconst 0, 1) := by decide +kernel
theorem dL_law_151 : decode cL_law 151 = .ok (.laload, 1) := by decide +kernel
theorem dL_law_152 : decode cL_law 152 = .ok (.iload 6, 2) := by decide +kernel
theorem dL_law_154 : decode cL_law 154 = .ok (.i2l, 1) := by decide +kernel
theorem dL_law_155 : decode cL_law 155 = .ok (.lcmp, 1) := by decide +kernel
theorem dL_law_156 : decode cL_law 156 = .ok (.ifCond .eq 5, 3) := by decide +kernel
theorem dL_law_159 : decode cL_law 159 = .ok (.iconst 0, 1) := by decide +kernel
theorem dL_law_160 : decode cL_law 160 = .ok (.ireturn, 1) := by decide +kernel
theorem dL_law_161 : decode cL_law 161 = .ok (.goto 724, 3) := by decide +kernel
theorem dL_law_164 : decode cL_law 164 = .ok (.aload_n 1, 1) := by decide +kernel
theorem dL_law_165 : decode cL_law 165 = .ok (.aload_n 0, 1) := by decide +kernel
theorem dL_law_166 : decode cL_law 166 = .ok (.iload 4, 2) := by decide +kernel
theorem dL_law_168 : decode cL_law 168 = .ok (.iconst 1, 1) := by decide +kernel
theorem dL_law_169 : decode cL_law 169 = .ok (.iadd, 1) := by decide +kernel
theorem dL_law_170 : decode cL_law 170 = .ok (.iaload, 1) := by decide +kernel
theorem dL_law_171 : decode cL_law 171 = .ok (.aload_n 3, 1) := by decide +kernel
theorem dL_law_172 : decode cL_law 172 = .ok (.invokestatic 68, 3) := by decide +kernel
theorem dL_law_175 : decode cL_law 175 = .ok (.istore 5, 2) := by decide +kernel
theorem dL_law_177 : decode cL_law 177 = .ok (.aload_n 2, 1) := by decide +kernel
theorem dL_law_178 : decode cL_law 178 = .ok (.aload_n 0, 1) := by decide +kernel
theorem dL_law_179 : decode cL_law 179 = .ok (.iload 4, 2) := by decide +kernel
theorem dL_law_181 : decode cL_law 181 = .ok (.iconst 1, 1) := by decide +kernel
theorem dL_law_182 : decode cL_law 182 = .ok (.iadd, 1) := by decide +kernel
theorem dL_law_183 : decode cL_law 183 = .ok (.iaload, 1) := by decide +kernel
theorem dL_law_184 : decode cL_law 184 = .ok (.invokevirtual 70, 3) := by decide +kernel
theorem dL_law_187 : decode cL_law 187 = .ok (.istore 6, 2) := by decide +kernel
theorem dL_law_189 : decode cL_law 189 = .ok (.aload_n 2, 1) := by decide +kernel
theorem dL_law_190 : decode cL_law 190 = .ok (.invokevirtual 64, 3) := by decide +kernel
theorem dL_law_193 : decode cL_law 193 = .ok (.iload 5, 2) := by decide +kernel
theorem dL_law_195 : decode cL_law 195 = .ok (.if_icmp .eq 5, 3) := by decide +kernel
theorem dL_law_198 : decode cL_law 198 = .ok (.iconst 0, 1) := by decide +kernel
theorem dL_law_199 : decode cL_law 199 = .ok (.ireturn, 1) := by decide +kernel
theorem dL_law_200 : decode cL_law 200 = .ok (.iload 5, 2) := by decide +kernel
theorem dL_law_202 : decode cL_law 202 = .ok (.ifCond .ne 22, 3) := by decide +kernel
theorem dL_law_205 : decode cL_law 205 = .ok (.aload_n 3, 1) := by decide +kernel
theorem dL_law_206 : decode cL_law 206 = .ok (.iconst 0, 1) := by decide +kernel
theorem dL_law_207 : decode cL_law 207 = .ok (.laload, 1) := by decide +kernel
theorem dL_law_208 : decode cL_law 208 = .ok (.iload 6, 2) := by decide +kernel
theorem dL_law_210 : decode cL_law 210 = .ok (.ifCond .eq 7, 3) := by decide +kernel
theorem dL_law_213 : decode cL_law 213 = .ok (.lconst 1, 1) := by decide +kernel
theorem dL_law_214 : decode cL_law 214 = .ok (.goto 4, 3) := by decide +kernel
theorem dL_law_217 : decode cL_law 217 = .ok (.lconst 0, 1) := by decide +kernel
theorem dL_law_218 : decode cL_law 218 = .ok (.lcmp, 1) := by decide +kernel
theorem dL_law_219 : decode cL_law 219 = .ok (.ifCond .eq 5, 3) := by decide +kernel
theorem dL_law_222 : decode cL_law 222 = .ok (.iconst 0, 1) := by decide +kernel
theorem dL_law_223 : decode cL_law 223 = .ok (.ireturn, 1) := by decide +kernel
theorem dL_law_224 : decode cL_law 224 = .ok (.goto 661, 3) := by decide +kernel
theorem dL_law_227 : decode cL_law 227 = .ok (.aload_n 1, 1) := by decide +kernel
theorem dL_law_228 : decode cL_law 228 = .ok (.aload_n 0, 1) := by decide +kernel
theorem dL_law_229 : decode cL_law 229 = .ok (.iload 4, 2) := by decide +kernel
theorem dL_law_231 : decode cL_law 231 = .ok (.iconst 1, 1) := by decide +kernel
theorem dL_law_232 : decode cL_law 232 = .ok (.iadd, 1) := by decide +kernel
theorem dL_law_233 : decode cL_law 233 = .ok (.iaload, 1) := by decide +kernel
theorem dL_law_234 : decode cL_law 234 = .ok (.aload_n 3, 1) := by decide +kernel
theorem dL_law_235 : decode cL_law 235 = .ok (.invokestatic 71, 3) := by decide +kernel
theorem dL_law_238 : decode cL_law 238 = .ok (.istore 5, 2) := by decide +kernel
theorem dL_law_240 : decode cL_law 240 = .ok (.aload_n 2, 1) := by decide +kernel
theorem dL_law_241 : decode cL_law 241 = .ok (.aload_n 0, 1) := by decide +kernel
theorem dL_law_242 : decode cL_law 242 = .ok (.iload 4, 2) := by decide +kernel
theorem dL_law_244 : decode cL_law 244 = .ok (.iconst 1, 1) := by decide +kernel
theorem dL_law_245 : decode cL_law 245 = .ok (.iadd, 1) := by decide +kernel
theorem dL_law_246 : decode cL_law 246 = .ok (.iaload, 1) := by decide +kernel
theorem dL_law_247 : decode cL_law 247 = .ok (.invokevirtual 73, 3) := by decide +kernel
theorem dL_law_250 : decode cL_law 250 = .ok (.istore 6, 2) := by decide +kernel
theorem dL_law_252 : decode cL_law 252 = .ok (.aload_n 2, 1) := by decide +kernel
theorem dL_law_253 : decode cL_law 253 = .ok (.invokevirtual 64, 3) := by decide +kernel
theorem dL_law_256 : decode cL_law 256 = .ok (.iload 5, 2) := by decide +kernel
theorem dL_law_258 : decode cL_law 258 = .ok (.if_icmp .eq 5, 3) := by decide +kernel
theorem dL_law_261 : decode cL_law 261 = .ok (.iconst 0, 1) := by decide +kernel
theorem dL_law_262 : decode cL_law 262 = .ok (.ireturn, 1) := by decide +kernel
theorem dL_law_263 : decode cL_law 263 = .ok (.iload 5, 2) := by decide +kernel
theorem dL_law_265 : decode cL_law 265 = .ok (.ifCond .ne 15, 3) := by decide +kernel
theorem dL_law_268 : decode cL_law 268 = .ok (.aload_n 3, 1) := by decide +kernel
theorem dL_law_269 : decode cL_law 269 = .ok (.iconst 0, 1) := by decide +kernel
theorem dL_law_270 : decode cL_law 270 = .ok (.laload, 1) := by decide +kernel
theorem dL_law_271 : decode cL_law 271 = .ok (.iload 6, 2) := by decide +kernel
theorem dL_law_273 : decode cL_law 273 = .ok (.i2l, 1) := by decide +kernel
theorem dL_law_274 : decode cL_law 274 = .ok (.lcmp, 1) := by decide +kernel
theorem dL_law_275 : decode cL_law 275 = .ok (.ifCond .eq 5, 3) := by decide +kernel
theorem dL_law_278 : decode cL_law 278 = .ok (.iconst 0, 1) := by decide +kernel
theorem dL_law_279 : decode cL_law 279 = .ok (.ireturn, 1) := by decide +kernel
theorem dL_law_280 : decode cL_law 280 = .ok (.goto 605, 3) := by decide +kernel
theorem dL_law_283 : decode cL_law 283 = .ok (.aload_n 1, 1) := by decide +kernel
theorem dL_law_284 : decode cL_law 284 = .ok (.aload_n 0, 1) := by decide +kernel
theorem dL_law_285 : decode cL_law 285 = .ok (.iload 4, 2) := by decide +kernel
theorem dL_law_287 : decode cL_law 287 = .ok (.iconst 1, 1) := by decide +kernel
theorem dL_law_288 : decode cL_law 288 = .ok (.iadd, 1) := by decide +kernel
theorem dL_law_289 : decode cL_law 289 = .ok (.iaload, 1) := by decide +kernel
theorem dL_law_290 : decode cL_law 290 = .ok (.aload_n 3, 1) := by decide +kernel
theorem dL_law_291 : decode cL_law 291 = .ok (.invokestatic 74, 3) := by decide +kernel
end
section
theorem dL_law_294 : decode cL_law 294 = .ok (.istore 5, 2) := by decide +kernel
theorem dL_law_296 : decode cL_law 296 = .ok (.aload_n 2, 1) := by decide +kernel
theorem dL_law_297 : decode cL_law 297 = .ok (.aload_n 0, 1) := by decide +kernel
theorem dL_law_298 : decode cL_law 298 = .ok (.iload 4, 2) := by decide +kernel
theorem dL_law_300 : decode cL_law 300 = .ok (.iconst 1, 1) := by decide +kernel
theorem dL_law_301 : decode cL_law 301 = .ok (.iadd, 1) := by decide +kernel
theorem dL_law_302 : decode cL_law 302 = .ok (.iaload, 1) := by decide +kernel
theorem dL_law_303 : decode cL_law 303 = .ok (.invokevirtual 76, 3) := by decide +kernel
theorem dL_law_306 : decode cL_law 306 = .ok (.istore 6, 2) := by decide +kernel
theorem dL_law_308 : decode cL_law 308 = .ok (.aload_n 2, 1) := by decide +kernel
theorem dL_law_309 : decode cL_law 309 = .ok (.invokevirtual 64, 3) := by decide +kernel
theorem dL_law_312 : decode cL_law 312 = .ok (.iload 5, 2) := by decide +kernel
theorem dL_law_314 : decode cL_law 314 = .ok (.if_icmp .eq 5, 3) := by decide +kernel
theorem dL_law_317 : decode cL_law 317 = .ok (.iconst 0, 1) := by decide +kernel
theorem dL_law_318 : decode cL_law 318 = .ok (.ireturn, 1) := by decide +kernel
theorem dL_law_319 : decode cL_law 319 = .ok (.iload 5, 2) := by decide +kernel
theorem dL_law_321 : decode cL_law 321 = .ok (.ifCond .ne 22, 3) := by decide +kernel
theorem dL_law_324 : decode cL_law 324 = .ok (.aload_n 3, 1) := by decide +kernel
theorem dL_law_325 : decode cL_law 325 = .ok (.iconst 0, 1) := by decide +kernel
theorem dL_law_326 : decode cL_law 326 = .ok (.laload, 1) := by decide +kernel
theorem dL_law_327 : decode cL_law 327 = .ok (.iload 6, 2) := by decide +kernel
theorem dL_law_329 : decode cL_law 329 = .ok (.ifCond .eq 7, 3) := by decide +kernel
theorem dL_law_332 : decode cL_law 332 = .ok (.lconst 1, 1) := by decide +kernel
theorem dL_law_333 : decode cL_law 333 = .ok (.goto 4, 3) := by decide +kernel
theorem dL_law_336 : decode cL_law 336 = .ok (.lconst 0, 1) := by decide +kernel
theorem dL_law_337 : decode cL_law 337 = .ok (.lcmp, 1) := by decide +kernel
theorem dL_law_338 : decode cL_law 338 = .ok (.ifCond .eq 5, 3) := by decide +kernel
theorem dL_law_341 : decode cL_law 341 = .ok (.iconst 0, 1) := by decide +kernel
theorem dL_law_342 : decode cL_law 342 = .ok (.ireturn, 1) := by decide +kernel
theorem dL_law_343 : decode cL_law 343 = .ok (.goto 542, 3) := by decide +kernel
theorem dL_law_346 : decode cL_law 346 = .ok (.aload_n 1, 1) := by decide +kernel
theorem dL_law_347 : decode cL_law 347 = .ok (.aload_n 0, 1) := by decide +kernel
theorem dL_law_348 : decode cL_law 348 = .ok (.iload 4, 2) := by decide +kernel
theorem dL_law_350 : decode cL_law 350 = .ok (.iconst 1, 1) := by decide +kernel
theorem dL_law_351 : decode cL_law 351 = .ok (.iadd, 1) := by decide +kernel
theorem dL_law_352 : decode cL_law 352 = .ok (.iaload, 1) := by decide +kernel
theorem dL_law_353 : decode cL_law 353 = .ok (.aload_n 0, 1) := by decide +kernel
theorem dL_law_354 : decode cL_law 354 = .ok (.iload 4, 2) := by decide +kernel
theorem dL_law_356 : decode cL_law 356 = .ok (.iconst 2, 1) := by decide +kernel
theorem dL_law_357 : decode cL_law 357 = .ok (.iadd, 1) := by decide +kernel
theorem dL_law_358 : decode cL_law 358 = .ok (.iaload, 1) := by decide +kernel
theorem dL_law_359 : decode cL_law 359 = .ok (.aload_n 3, 1) := by decide +kernel
theorem dL_law_360 : decode cL_law 360 = .ok (.invokestatic 77, 3) := by decide +kernel
theorem dL_law_363 : decode cL_law 363 = .ok (.istore 5, 2) := by decide +kernel
theorem dL_law_365 : decode cL_law 365 = .ok (.aload_n 2, 1) := by decide +kernel
theorem dL_law_366 : decode cL_law 366 = .ok (.aload_n 0, 1) := by decide +kernel
theorem dL_law_367 : decode cL_law 367 = .ok (.iload 4, 2) := by decide +kernel
theorem dL_law_369 : decode cL_law 369 = .ok (.iconst 1, 1) := by decide +kernel
theorem dL_law_370 : decode cL_law 370 = .ok (.iadd, 1) := by decide +kernel
theorem dL_law_371 : decode cL_law 371 = .ok (.iaload, 1) := by decide +kernel
theorem dL_law_372 : decode cL_law 372 = .ok (.aload_n 0, 1) := by decide +kernel
theorem dL_law_373 : decode cL_law 373 = .ok (.iload 4, 2) := by decide +kernel
theorem dL_law_375 : decode cL_law 375 = .ok (.iconst 2, 1) := by decide +kernel
theorem dL_law_376 : decode cL_law 376 = .ok (.iadd, 1) := by decide +kernel
theorem dL_law_377 : decode cL_law 377 = .ok (.iaload, 1) := by decide +kernel
theorem dL_law_378 : decode cL_law 378 = .ok (.invokevirtual 80, 3) := by decide +kernel
theorem dL_law_381 : decode cL_law 381 = .ok (.istore 6, 2) := by decide +kernel
theorem dL_law_383 : decode cL_law 383 = .ok (.aload_n 2, 1) := by decide +kernel
theorem dL_law_384 : decode cL_law 384 = .ok (.invokevirtual 64, 3) := by decide +kernel
theorem dL_law_387 : decode cL_law 387 = .ok (.iload 5, 2) := by decide +kernel
theorem dL_law_389 : decode cL_law 389 = .ok (.if_icmp .eq 5, 3) := by decide +kernel
theorem dL_law_392 : decode cL_law 392 = .ok (.iconst 0, 1) := by decide +kernel
theorem dL_law_393 : decode cL_law 393 = .ok (.ireturn, 1) := by decide +kernel
theorem dL_law_394 : decode cL_law 394 = .ok (.iload 5, 2) := by decide +kernel
theorem dL_law_396 : decode cL_law 396 = .ok (.ifCond .ne 15, 3) := by decide +kernel
theorem dL_law_399 : decode cL_law 399 = .ok (.aload_n 3, 1) := by decide +kernel
theorem dL_law_400 : decode cL_law 400 = .ok (.iconst 0, 1) := by decide +kernel
theorem dL_law_401 : decode cL_law 401 = .ok (.laload, 1) := by decide +kernel
theorem dL_law_402 : decode cL_law 402 = .ok (.iload 6, 2) := by decide +kernel
theorem dL_law_404 : decode cL_law 404 = .ok (.i2l, 1) := by decide +kernel
theorem dL_law_405 : decode cL_law 405 = .ok (.lcmp, 1) := by decide +kernel
theorem dL_law_406 : decode cL_law 406 = .ok (.ifCond .eq 5, 3) := by decide +kernel
theorem dL_law_409 : decode cL_law 409 = .ok (.iconst 0, 1) := by decide +kernel
theorem dL_law_410 : decode cL_law 410 = .ok (.ireturn, 1) := by decide +kernel
theorem dL_law_411 : decode cL_law 411 = .ok (.goto 474, 3) := by decide +kernel
theorem dL_law_414 : decode cL_law 414 = .ok (.aload_n 1, 1) := by decide +kernel
theorem dL_law_415 : decode cL_law 415 = .ok (.aload_n 0, 1) := by decide +kernel
theorem dL_law_416 : decode cL_law 416 = .ok (.iload 4, 2) := by decide +kernel
theorem dL_law_418 : decode cL_law 418 = .ok (.iconst 1, 1) := by decide +kernel
theorem dL_law_419 : decode cL_law 419 = .ok (.iadd, 1) := by decide +kernel
theorem dL_law_420 : decode cL_law 420 = .ok (.iaload, 1) := by decide +kernel
theorem dL_law_421 : decode cL_law 421 = .ok (.aload_n 3, 1) := by decide +kernel
theorem dL_law_422 : decode cL_law 422 = .ok (.invokestatic 81, 3) := by decide +kernel
theorem dL_law_425 : decode cL_law 425 = .ok (.istore 5, 2) := by decide +kernel
theorem dL_law_427 : decode cL_law 427 = .ok (.aload_n 2, 1) := by decide +kernel
theorem dL_law_428 : decode cL_law 428 = .ok (.aload_n 0, 1) := by decide +kernel
theorem dL_law_429 : decode cL_law 429 = .ok (.iload 4, 2) := by decide +kernel
theorem dL_law_431 : decode cL_law 431 = .ok (.iconst 1, 1) := by decide +kernel
theorem dL_law_432 : decode cL_law 432 = .ok (.iadd, 1) := by decide +kernel
theorem dL_law_433 : decode cL_law 433 = .ok (.iaload, 1) := by decide +kernel
theorem dL_law_434 : decode cL_law 434 = .ok (.invokevirtual 83, 3) := by decide +kernel
theorem dL_law_437 : decode cL_law 437 = .ok (.istore 6, 2) := by decide +kernel
theorem dL_law_439 : decode cL_law 439 = .ok (.aload_n 2, 1) := by decide +kernel
theorem dL_law_440 : decode cL_law 440 = .ok (.invokevirtual 64, 3) := by decide +kernel
theorem dL_law_443 : decode cL_law 443 = .ok (.iload 5, 2) := by decide +kernel
theorem dL_law_445 : decode cL_law 445 = .ok (.if_icmp .eq 5, 3) := by decide +kernel
theorem dL_law_448 : decode cL_law 448 = .ok (.iconst 0, 1) := by decide +kernel
theorem dL_law_449 : decode cL_law 449 = .ok (.ireturn, 1) := by decide +kernel
theorem dL_law_450 : decode cL_law 450 = .ok (.iload 5, 2) := by decide +kernel
theorem dL_law_452 : decode cL_law 452 = .ok (.ifCond .ne 15, 3) := by decide +kernel
theorem dL_law_455 : decode cL_law 455 = .ok (.aload_n 3, 1) := by decide +kernel
theorem dL_law_456 : decode cL_law 456 = .ok (.iconst 0, 1) := by decide +kernel
theorem dL_law_457 : decode cL_law 457 = .ok (.laload, 1) := by decide +kernel
theorem dL_law_458 : decode cL_law 458 = .ok (.iload 6, 2) := by decide +kernel
theorem dL_law_460 : decode cL_law 460 = .ok (.i2l, 1) := by decide +kernel
theorem dL_law_461 : decode cL_law 461 = .ok (.lcmp, 1) := by decide +kernel
theorem dL_law_462 : decode cL_law 462 = .ok (.ifCond .eq 5, 3) := by decide +kernel
theorem dL_law_465 : decode cL_law 465 = .ok (.iconst 0, 1) := by decide +kernel
theorem dL_law_466 : decode cL_law 466 = .ok (.ireturn, 1) := by decide +kernel
theorem dL_law_467 : decode cL_law 467 = .ok (.goto 418, 3) := by decide +kernel
theorem dL_law_470 : decode cL_law 470 = .ok (.aload_n 1, 1) := by decide +kernel
theorem dL_law_471 : decode cL_law 471 = .ok (.aload_n 0, 1) := by decide +kernel
theorem dL_law_472 : decode cL_law 472 = .ok (.iload 4, 2) := by decide +kernel
theorem dL_law_474 : decode cL_law 474 = .ok (.iconst 1, 1) := by decide +kernel
theorem dL_law_475 : decode cL_law 475 = .ok (.iadd, 1) := by decide +kernel
theorem dL_law_476 : decode cL_law 476 = .ok (.iaload, 1) := by decide +kernel
theorem dL_law_477 : decode cL_law 477 = .ok (.aload_n 0, 1) := by decide +kernel
theorem dL_law_478 : decode cL_law 478 = .ok (.iload 4, 2) := by decide +kernel
theorem dL_law_480 : decode cL_law 480 = .ok (.iconst 2, 1) := by decide +kernel
theorem dL_law_481 : decode cL_law 481 = .ok (.iadd, 1) := by decide +kernel
theorem dL_law_482 : decode cL_law 482 = .ok (.iaload, 1) := by decide +kernel
theorem dL_law_483 : decode cL_law 483 = .ok (.aload_n 3, 1) := by decide +kernel
theorem dL_law_484 : decode cL_law 484 = .ok (.invokestatic 84, 3) := by decide +kernel
theorem dL_law_487 : decode cL_law 487 = .ok (.istore 5, 2) := by decide +kernel
theorem dL_law_489 : decode cL_law 489 = .ok (.aload_n 2, 1) := by decide +kernel
theorem dL_law_490 : decode cL_law 490 = .ok (.aload_n 0, 1) := by decide +kernel
theorem dL_law_491 : decode cL_law 491 = .ok (.iload 4, 2) := by decide +kernel
theorem dL_law_493 : decode cL_law 493 = .ok (.iconst 1, 1) := by decide +kernel
theorem dL_law_494 : decode cL_law 494 = .ok (.iadd, 1) := by decide +kernel
theorem dL_law_495 : decode cL_law 495 = .ok (.iaload, 1) := by decide +kernel
theorem dL_law_496 : decode cL_law 496 = .ok (.aload_n 0, 1) := by decide +kernel
theorem dL_law_497 : decode cL_law 497 = .ok (.iload 4, 2) := by decide +kernel
theorem dL_law_499 : decode cL_law 499 = .ok (.iconst 2, 1) := by decide +kernel
theorem dL_law_500 : decode cL_law 500 = .ok (.iadd, 1) := by decide +kernel
theorem dL_law_501 : decode cL_law 501 = .ok (.iaload, 1) := by decide +kernel
theorem dL_law_502 : decode cL_law 502 = .ok (.invokevirtual 86, 3) := by decide +kernel
theorem dL_law_505 : decode cL_law 505 = .ok (.istore 6, 2) := by decide +kernel
theorem dL_law_507 : decode cL_law 507 = .ok (.aload_n 2, 1) := by decide +kernel
theorem dL_law_508 : decode cL_law 508 = .ok (.invokevirtual 64, 3) := by decide +kernel
theorem dL_law_511 : decode cL_law 511 = .ok (.iload 5, 2) := by decide +kernel
theorem dL_law_513 : decode cL_law 513 = .ok (.if_icmp .eq 5, 3) := by decide +kernel
theorem dL_law_516 : decode cL_law 516 = .ok (.iconst 0, 1) := by decide +kernel
theorem dL_law_517 : decode cL_law 517 = .ok (.ireturn, 1) := by decide +kernel
theorem dL_law_518 : decode cL_law 518 = .ok (.iload 5, 2) := by decide +kernel
theorem dL_law_520 : decode cL_law 520 = .ok (.ifCond .ne 15, 3) := by decide +kernel
theorem dL_law_523 : decode cL_law 523 = .ok (.aload_n 3, 1) := by decide +kernel
theorem dL_law_524 : decode cL_law 524 = .ok (.iconst 0, 1) := by decide +kernel
theorem dL_law_525 : decode cL_law 525 = .ok (.laload, 1) := by decide +kernel
theorem dL_law_526 : decode cL_law 526 = .ok (.iload 6, 2) := by decide +kernel
theorem dL_law_528 : decode cL_law 528 = .ok (.i2l, 1) := by decide +kernel
theorem dL_law_529 : decode cL_law 529 = .ok (.lcmp, 1) := by decide +kernel
theorem dL_law_530 : decode cL_law 530 = .ok (.ifCond .eq 5, 3) := by decide +kernel
theorem dL_law_533 : decode cL_law 533 = .ok (.iconst 0, 1) := by decide +kernel
theorem dL_law_534 : decode cL_law 534 = .ok (.ireturn, 1) := by decide +kernel
theorem dL_law_535 : decode cL_law 535 = .ok (.goto 350, 3) := by decide +kernel
theorem dL_law_538 : decode cL_law 538 = .ok (.aload_n 1, 1) := by decide +kernel
theorem dL_law_539 : decode cL_law 539 = .ok (.aload_n 0, 1) := by decide +kernel
theorem dL_law_540 : decode cL_law 540 = .ok (.iload 4, 2) := by decide +kernel
theorem dL_law_542 : decode cL_law 542 = .ok (.iconst 1, 1) := by decide +kernel
theorem dL_law_543 : decode cL_law 543 = .ok (.iadd, 1) := by decide +kernel
theorem dL_law_544 : decode cL_law 544 = .ok (.iaload, 1) := by decide +kernel
theorem dL_law_545 : decode cL_law 545 = .ok (.aload_n 0, 1) := by decide +kernel
theorem dL_law_546 : decode cL_law 546 = .ok (.iload 4, 2) := by decide +kernel
theorem dL_law_548 : decode cL_law 548 = .ok (.iconst 2, 1) := by decide +kernel
theorem dL_law_549 : decode cL_law 549 = .ok (.iadd, 1) := by decide +kernel
theorem dL_law_550 : decode cL_law 550 = .ok (.iaload, 1) := by decide +kernel
theorem dL_law_551 : decode cL_law 551 = .ok (.aload_n 3, 1) := by decide +kernel
theorem dL_law_552 : decode cL_law 552 = .ok (.invokestatic 87, 3) := by decide +kernel
theorem dL_law_555 : decode cL_law 555 = .ok (.istore 5, 2) := by decide +kernel
theorem dL_law_557 : decode cL_law 557 = .ok (.aload_n 2, 1) := by decide +kernel
theorem dL_law_558 : decode cL_law 558 = .ok (.aload_n 0, 1) := by decide +kernel
theorem dL_law_559 : decode cL_law 559 = .ok (.iload 4, 2) := by decide +kernel
theorem dL_law_561 : decode cL_law 561 = .ok (.iconst 1, 1) := by decide +kernel
theorem dL_law_562 : decode cL_law 562 = .ok (.iadd, 1) := by decide +kernel
theorem dL_law_563 : decode cL_law 563 = .ok (.iaload, 1) := by decide +kernel
theorem dL_law_564 : decode cL_law 564 = .ok (.aload_n 0, 1) := by decide +kernel
theorem dL_law_565 : decode cL_law 565 = .ok (.iload 4, 2) := by decide +kernel
theorem dL_law_567 : decode cL_law 567 = .ok (.iconst 2, 1) := by decide +kernel
theorem dL_law_568 : decode cL_law 568 = .ok (.iadd, 1) := by decide +kernel
theorem dL_law_569 : decode cL_law 569 = .ok (.iaload, 1) := by decide +kernel
theorem dL_law_570 : decode cL_law 570 = .ok (.invokevirtual 89, 3) := by decide +kernel
theorem dL_law_573 : decode cL_law 573 = .ok (.istore 6, 2) := by decide +kernel
theorem dL_law_575 : decode cL_law 575 = .ok (.aload_n 2, 1) := by decide +kernel
theorem dL_law_576 : decode cL_law 576 = .ok (.invokevirtual 64, 3) := by decide +kernel
theorem dL_law_579 : decode cL_law 579 = .ok (.iload 5, 2) := by decide +kernel
theorem dL_law_581 : decode cL_law 581 = .ok (.if_icmp .eq 5, 3) := by decide +kernel
theorem dL_law_584 : decode cL_law 584 = .ok (.iconst 0, 1) := by decide +kernel
theorem dL_law_585 : decode cL_law 585 = .ok (.ireturn, 1) := by decide +kernel
theorem dL_law_586 : decode cL_law 586 = .ok (.iload 5, 2) := by decide +kernel
theorem dL_law_588 : decode cL_law 588 = .ok (.ifCond .ne 15, 3) := by decide +kernel
theorem dL_law_591 : decode cL_law 591 = .ok (.aload_n 3, 1) := by decide +kernel
theorem dL_law_592 : decode cL_law 592 = .ok (.iconst 0, 1) := by decide +kernel
theorem dL_law_593 : decode cL_law 593 = .ok (.laload, 1) := by decide +kernel
theorem dL_law_594 : decode cL_law 594 = .ok (.iload 6, 2) := by decide +kernel
theorem dL_law_596 : decode cL_law 596 = .ok (.i2l, 1) := by decide +kernel
theorem dL_law_597 : decode cL_law 597 = .ok (.lcmp, 1) := by decide +kernel
theorem dL_law_598 : decode cL_law 598 = .ok (.ifCond .eq 5, 3) := by decide +kernel
theorem dL_law_601 : decode cL_law 601 = .ok (.iconst 0, 1) := by decide +kernel
theorem dL_law_602 : decode cL_law 602 = .ok (.ireturn, 1) := by decide +kernel
theorem dL_law_603 : decode cL_law 603 = .ok (.goto 282, 3) := by decide +kernel
theorem dL_law_606 : decode cL_law 606 = .ok (.aload_n 1, 1) := by decide +kernel
theorem dL_law_607 : decode cL_law 607 = .ok (.aload_n 0, 1) := by decide +kernel
theorem dL_law_608 : decode cL_law 608 = .ok (.iload 4, 2) := by decide +kernel
theorem dL_law_610 : decode cL_law 610 = .ok (.iconst 1, 1) := by decide +kernel
theorem dL_law_611 : decode cL_law 611 = .ok (.iadd, 1) := by decide +kernel
theorem dL_law_612 : decode cL_law 612 = .ok (.iaload, 1) := by decide +kernel
theorem dL_law_613 : decode cL_law 613 = .ok (.aload_n 3, 1) := by decide +kernel
theorem dL_law_614 : decode cL_law 614 = .ok (.invokestatic 90, 3) := by decide +kernel
theorem dL_law_617 : decode cL_law 617 = .ok (.istore 5, 2) := by decide +kernel
theorem dL_law_619 : decode cL_law 619 = .ok (.aload_n 2, 1) := by decide +kernel
theorem dL_law_620 : decode cL_law 620 = .ok (.aload_n 0, 1) := by decide +kernel
theorem dL_law_621 : decode cL_law 621 = .ok (.iload 4, 2) := by decide +kernel
theorem dL_law_623 : decode cL_law 623 = .ok (.iconst 1, 1) := by decide +kernel
theorem dL_law_624 : decode cL_law 624 = .ok (.iadd, 1) := by decide +kernel
theorem dL_law_625 : decode cL_law 625 = .ok (.iaload, 1) := by decide +kernel
theorem dL_law_626 : decode cL_law 626 = .ok (.invokevirtual 92, 3) := by decide +kernel
theorem dL_law_629 : decode cL_law 629 = .ok (.istore 6, 2) := by decide +kernel
theorem dL_law_631 : decode cL_law 631 = .ok (.aload_n 2, 1) := by decide +kernel
theorem dL_law_632 : decode cL_law 632 = .ok (.invokevirtual 64, 3) := by decide +kernel
theorem dL_law_635 : decode cL_law 635 = .ok (.iload 5, 2) := by decide +kernel
theorem dL_law_637 : decode cL_law 637 = .ok (.if_icmp .eq 5, 3) := by decide +kernel
theorem dL_law_640 : decode cL_law 640 = .ok (.iconst 0, 1) := by decide +kernel
theorem dL_law_641 : decode cL_law 641 = .ok (.ireturn, 1) := by decide +kernel
theorem dL_law_642 : decode cL_law 642 = .ok (.iload 5, 2) := by decide +kernel
theorem dL_law_644 : decode cL_law 644 = .ok (.ifCond .ne 15, 3) := by decide +kernel
theorem dL_law_647 : decode cL_law 647 = .ok (.aload_n 3, 1) := by decide +kernel
theorem dL_law_648 : decode cL_law 648 = .ok (.iconst 0, 1) := by decide +kernel
theorem dL_law_649 : decode cL_law 649 = .ok (.laload, 1) := by decide +kernel
theorem dL_law_650 : decode cL_law 650 = .ok (.iload 6, 2) := by decide +kernel
theorem dL_law_652 : decode cL_law 652 = .ok (.i2l, 1) := by decide +kernel
theorem dL_law_653 : decode cL_law 653 = .ok (.lcmp, 1) := by decide +kernel
theorem dL_law_654 : decode cL_law 654 = .ok (.ifCond .eq 5, 3) := by decide +kernel
theorem dL_law_657 : decode cL_law 657 = .ok (.iconst 0, 1) := by decide +kernel
theorem dL_law_658 : decode cL_law 658 = .ok (.ireturn, 1) := by decide +kernel
theorem dL_law_659 : decode cL_law 659 = .ok (.goto 226, 3) := by decide +kernel
theorem dL_law_662 : decode cL_law 662 = .ok (.aload_n 1, 1) := by decide +kernel
theorem dL_law_663 : decode cL_law 663 = .ok (.aload_n 0, 1) := by decide +kernel
theorem dL_law_664 : decode cL_law 664 = .ok (.iload 4, 2) := by decide +kernel
theorem dL_law_666 : decode cL_law 666 = .ok (.iconst 1, 1) := by decide +kernel
theorem dL_law_667 : decode cL_law 667 = .ok (.iadd, 1) := by decide +kernel
theorem dL_law_668 : decode cL_law 668 = .ok (.iaload, 1) := by decide +kernel
theorem dL_law_669 : decode cL_law 669 = .ok (.aload_n 3, 1) := by decide +kernel
theorem dL_law_670 : decode cL_law 670 = .ok (.invokestatic 93, 3) := by decide +kernel
theorem dL_law_673 : decode cL_law 673 = .ok (.istore 5, 2) := by decide +kernel
theorem dL_law_675 : decode cL_law 675 = .ok (.aload_n 2, 1) := by decide +kernel
theorem dL_law_676 : decode cL_law 676 = .ok (.aload_n 0, 1) := by decide +kernel
theorem dL_law_677 : decode cL_law 677 = .ok (.iload 4, 2) := by decide +kernel
theorem dL_law_679 : decode cL_law 679 = .ok (.iconst 1, 1) := by decide +kernel
theorem dL_law_680 : decode cL_law 680 = .ok (.iadd, 1) := by decide +kernel
theorem dL_law_681 : decode cL_law 681 = .ok (.iaload, 1) := by decide +kernel
theorem dL_law_682 : decode cL_law 682 = .ok (.invokevirtual 95, 3) := by decide +kernel
theorem dL_law_685 : decode cL_law 685 = .ok (.istore 6, 2) := by decide +kernel
theorem dL_law_687 : decode cL_law 687 = .ok (.aload_n 2, 1) := by decide +kernel
theorem dL_law_688 : decode cL_law 688 = .ok (.invokevirtual 64, 3) := by decide +kernel
theorem dL_law_691 : decode cL_law 691 = .ok (.iload 5, 2) := by decide +kernel
theorem dL_law_693 : decode cL_law 693 = .ok (.if_icmp .eq 5, 3) := by decide +kernel
theorem dL_law_696 : decode cL_law 696 = .ok (.iconst 0, 1) := by decide +kernel
theorem dL_law_697 : decode cL_law 697 = .ok (.ireturn, 1) := by decide +kernel
theorem dL_law_698 : decode cL_law 698 = .ok (.iload 5, 2) := by decide +kernel
theorem dL_law_700 : decode cL_law 700 = .ok (.ifCond .ne 15, 3) := by decide +kernel
theorem dL_law_703 : decode cL_law 703 = .ok (.aload_n 3, 1) := by decide +kernel
theorem dL_law_704 : decode cL_law 704 = .ok (.iconst 0, 1) := by decide +kernel
theorem dL_law_705 : decode cL_law 705 = .ok (.laload, 1) := by decide +kernel
theorem dL_law_706 : decode cL_law 706 = .ok (.iload 6, 2) := by decide +kernel
theorem dL_law_708 : decode cL_law 708 = .ok (.i2l, 1) := by decide +kernel
theorem dL_law_709 : decode cL_law 709 = .ok (.lcmp, 1) := by decide +kernel
theorem dL_law_710 : decode cL_law 710 = .ok (.ifCond .eq 5, 3) := by decide +kernel
theorem dL_law_713 : decode cL_law 713 = .ok (.iconst 0, 1) := by decide +kernel
theorem dL_law_714 : decode cL_law 714 = .ok (.ireturn, 1) := by decide +kernel
theorem dL_law_715 : decode cL_law 715 = .ok (.goto 170, 3) := by decide +kernel
theorem dL_law_718 : decode cL_law 718 = .ok (.aload_n 1, 1) := by decide +kernel
theorem dL_law_719 : decode cL_law 719 = .ok (.aload_n 0, 1) := by decide +kernel
theorem dL_law_720 : decode cL_law 720 = .ok (.iload 4, 2) := by decide +kernel
theorem dL_law_722 : decode cL_law 722 = .ok (.iconst 1, 1) := by decide +kernel
theorem dL_law_723 : decode cL_law 723 = .ok (.iadd, 1) := by decide +kernel
theorem dL_law_724 : decode cL_law 724 = .ok (.iaload, 1) := by decide +kernel
theorem dL_law_725 : decode cL_law 725 = .ok (.aload_n 3, 1) := by decide +kernel
theorem dL_law_726 : decode cL_law 726 = .ok (.invokestatic 96, 3) := by decide +kernel
theorem dL_law_729 : decode cL_law 729 = .ok (.istore 5, 2) := by decide +kernel
theorem dL_law_731 : decode cL_law 731 = .ok (.aload_n 2, 1) := by decide +kernel
theorem dL_law_732 : decode cL_law 732 = .ok (.aload_n 0, 1) := by decide +kernel
theorem dL_law_733 : decode cL_law 733 = .ok (.iload 4, 2) := by decide +kernel
theorem dL_law_735 : decode cL_law 735 = .ok (.iconst 1, 1) := by decide +kernel
theorem dL_law_736 : decode cL_law 736 = .ok (.iadd, 1) := by decide +kernel
theorem dL_law_737 : decode cL_law 737 = .ok (.iaload, 1) := by decide +kernel
theorem dL_law_738 : decode cL_law 738 = .ok (.invokevirtual 98, 3) := by decide +kernel
theorem dL_law_741 : decode cL_law 741 = .ok (.istore 6, 2) := by decide +kernel
theorem dL_law_743 : decode cL_law 743 = .ok (.aload_n 2, 1) := by decide +kernel
theorem dL_law_744 : decode cL_law 744 = .ok (.invokevirtual 64, 3) := by decide +kernel
theorem dL_law_747 : decode cL_law 747 = .ok (.iload 5, 2) := by decide +kernel
theorem dL_law_749 : decode cL_law 749 = .ok (.if_icmp .eq 5, 3) := by decide +kernel
theorem dL_law_752 : decode cL_law 752 = .ok (.iconst 0, 1) := by decide +kernel
theorem dL_law_753 : decode cL_law 753 = .ok (.ireturn, 1) := by decide +kernel
theorem dL_law_754 : decode cL_law 754 = .ok (.iload 5, 2) := by decide +kernel
theorem dL_law_756 : decode cL_law 756 = .ok (.ifCond .ne 15, 3) := by decide +kernel
theorem dL_law_759 : decode cL_law 759 = .ok (.aload_n 3, 1) := by decide +kernel
theorem dL_law_760 : decode cL_law 760 = .ok (.iconst 0, 1) := by decide +kernel
theorem dL_law_761 : decode cL_law 761 = .ok (.laload, 1) := by decide +kernel
theorem dL_law_762 : decode cL_law 762 = .ok (.iload 6, 2) := by decide +kernel
theorem dL_law_764 : decode cL_law 764 = .ok (.i2l, 1) := by decide +kernel
theorem dL_law_765 : decode cL_law 765 = .ok (.lcmp, 1) := by decide +kernel
theorem dL_law_766 : decode cL_law 766 = .ok (.ifCond .eq 5, 3) := by decide +kernel
theorem dL_law_769 : decode cL_law 769 = .ok (.iconst 0, 1) := by decide +kernel
theorem dL_law_770 : decode cL_law 770 = .ok (.ireturn, 1) := by decide +kernel
theorem dL_law_771 : decode cL_law 771 = .ok (.goto 114, 3) := by decide +kernel
theorem dL_law_774 : decode cL_law 774 = .ok (.aload_n 1, 1) := by decide +kernel
theorem dL_law_775 : decode cL_law 775 = .ok (.aload_n 0, 1) := by decide +kernel
theorem dL_law_776 : decode cL_law 776 = .ok (.iload 4, 2) := by decide +kernel
theorem dL_law_778 : decode cL_law 778 = .ok (.iconst 1, 1) := by decide +kernel
theorem dL_law_779 : decode cL_law 779 = .ok (.iadd, 1) := by decide +kernel
theorem dL_law_780 : decode cL_law 780 = .ok (.iaload, 1) := by decide +kernel
theorem dL_law_781 : decode cL_law 781 = .ok (.aload_n 3, 1) := by decide +kernel
theorem dL_law_782 : decode cL_law 782 = .ok (.invokestatic 99, 3) := by decide +kernel
theorem dL_law_785 : decode cL_law 785 = .ok (.istore 5, 2) := by decide +kernel
theorem dL_law_787 : decode cL_law 787 = .ok (.aload_n 2, 1) := by decide +kernel
theorem dL_law_788 : decode cL_law 788 = .ok (.aload_n 0, 1) := by decide +kernel
theorem dL_law_789 : decode cL_law 789 = .ok (.iload 4, 2) := by decide +kernel
theorem dL_law_791 : decode cL_law 791 = .ok (.iconst 1, 1) := by decide +kernel
theorem dL_law_792 : decode cL_law 792 = .ok (.iadd, 1) := by decide +kernel
theorem dL_law_793 : decode cL_law 793 = .ok (.iaload, 1) := by decide +kernel
theorem dL_law_794 : decode cL_law 794 = .ok (.invokevirtual 101, 3) := by decide +kernel
theorem dL_law_797 : decode cL_law 797 = .ok (.istore 6, 2) := by decide +kernel
theorem dL_law_799 : decode cL_law 799 = .ok (.aload_n 2, 1) := by decide +kernel
theorem dL_law_800 : decode cL_law 800 = .ok (.invokevirtual 64, 3) := by decide +kernel
theorem dL_law_803 : decode cL_law 803 = .ok (.iload 5, 2) := by decide +kernel
theorem dL_law_805 : decode cL_law 805 = .ok (.if_icmp .eq 5, 3) := by decide +kernel
theorem dL_law_808 : decode cL_law 808 = .ok (.iconst 0, 1) := by decide +kernel
theorem dL_law_809 : decode cL_law 809 = .ok (.ireturn, 1) := by decide +kernel
theorem dL_law_810 : decode cL_law 810 = .ok (.iload 5, 2) := by decide +kernel
theorem dL_law_812 : decode cL_law 812 = .ok (.ifCond .ne 15, 3) := by decide +kernel
theorem dL_law_815 : decode cL_law 815 = .ok (.aload_n 3, 1) := by decide +kernel
theorem dL_law_816 : decode cL_law 816 = .ok (.iconst 0, 1) := by decide +kernel
theorem dL_law_817 : decode cL_law 817 = .ok (.laload, 1) := by decide +kernel
theorem dL_law_818 : decode cL_law 818 = .ok (.iload 6, 2) := by decide +kernel
theorem dL_law_820 : decode cL_law 820 = .ok (.i2l, 1) := by decide +kernel
theorem dL_law_821 : decode cL_law 821 = .ok (.lcmp, 1) := by decide +kernel
theorem dL_law_822 : decode cL_law 822 = .ok (.ifCond .eq 5, 3) := by decide +kernel
theorem dL_law_825 : decode cL_law 825 = .ok (.iconst 0, 1) := by decide +kernel
theorem dL_law_826 : decode cL_law 826 = .ok (.ireturn, 1) := by decide +kernel
theorem dL_law_827 : decode cL_law 827 = .ok (.goto 58, 3) := by decide +kernel
theorem dL_law_830 : decode cL_law 830 = .ok (.aload_n 1, 1) := by decide +kernel
theorem dL_law_831 : decode cL_law 831 = .ok (.invokevirtual 102, 3) := by decide +kernel
theorem dL_law_834 : decode cL_law 834 = .ok (.dstore 5, 2) := by decide +kernel
theorem dL_law_836 : decode cL_law 836 = .ok (.aload_n 2, 1) := by decide +kernel
theorem dL_law_837 : decode cL_law 837 = .ok (.invokevirtual 106, 3) := by decide +kernel
theorem dL_law_840 : decode cL_law 840 = .ok (.dstore 7, 2) := by decide +kernel
theorem dL_law_842 : decode cL_law 842 = .ok (.dload 5, 2) := by decide +kernel
theorem dL_law_844 : decode cL_law 844 = .ok (.dload 7, 2) := by decide +kernel
theorem dL_law_846 : decode cL_law 846 = .ok (.dcmp .l, 1) := by decide +kernel
theorem dL_law_847 : decode cL_law 847 = .ok (.ifCond .eq 21, 3) := by decide +kernel
theorem dL_law_850 : decode cL_law 850 = .ok (.dload 5, 2) := by decide +kernel
theorem dL_law_852 : decode cL_law 852 = .ok (.dload 5, 2) := by decide +kernel
theorem dL_law_854 : decode cL_law 854 = .ok (.dcmp .l, 1) := by decide +kernel
theorem dL_law_855 : decode cL_law 855 = .ok (.ifCond .eq 11, 3) := by decide +kernel
theorem dL_law_858 : decode cL_law 858 = .ok (.dload 7, 2) := by decide +kernel
theorem dL_law_860 : decode cL_law 860 = .ok (.dload 7, 2) := by decide +kernel
theorem dL_law_862 : decode cL_law 862 = .ok (.dcmp .l, 1) := by decide +kernel
theorem dL_law_863 : decode cL_law 863 = .ok (.ifCond .ne 5, 3) := by decide +kernel
theorem dL_law_866 : decode cL_law 866 = .ok (.iconst 0, 1) := by decide +kernel
theorem dL_law_867 : decode cL_law 867 = .ok (.ireturn, 1) := by decide +kernel
theorem dL_law_868 : decode cL_law 868 = .ok (.goto 17, 3) := by decide +kernel
theorem dL_law_871 : decode cL_law 871 = .ok (.aload_n 1, 1) := by decide +kernel
theorem dL_law_872 : decode cL_law 872 = .ok (.invokevirtual 107, 3) := by decide +kernel
theorem dL_law_875 : decode cL_law 875 = .ok (.aload_n 2, 1) := by decide +kernel
theorem dL_law_876 : decode cL_law 876 = .ok (.invokevirtual 111, 3) := by decide +kernel
theorem dL_law_879 : decode cL_law 879 = .ok (.lcmp, 1) := by decide +kernel
theorem dL_law_880 : decode cL_law 880 = .ok (.ifCond .eq 5, 3) := by decide +kernel
theorem dL_law_883 : decode cL_law 883 = .ok (.iconst 0, 1) := by decide +kernel
theorem dL_law_884 : decode cL_law 884 = .ok (.ireturn, 1) := by decide +kernel
theorem dL_law_885 : decode cL_law 885 = .ok (.iinc 4 3, 3) := by decide +kernel
theorem dL_law_888 : decode cL_law 888 = .ok (.goto (-865), 3) := by decide +kernel
theorem dL_law_891 : decode cL_law 891 = .ok (.iconst 1, 1) := by decide +kernel
theorem dL_law_892 : decode cL_law 892 = .ok (.ireturn, 1) := by decide +kernel
abbrev vwCl : List vw_C := [(RX0, TX0, 5), (RX1, TX1, 6), (RX2, TX2, 13)]
end
section
/-! OWN ROWS: references that may be null as Option Nat, numbers as Nat -/
section ZR
variable {p : Program} {l : Launch} {e : Env} {R : Room} {s : State} {m : MethodId} {args : Array Value} {below : List Frame} {meth : Method} {c : Code} {H : Heap} {locs : List Loc} {cells slots : Nat} {Q : State → Prop}
variable {cc : ByteArray} {pc : Nat} {ls : Array Slot} {rest : List Value}
theorem zr_aload_n (hexec : p.tables.exec = Jvm.exec) (hb : c.code = cc) {k : Fin 4} {i : Nat} {r : Option Nat} (hdg : decode cc pc = .ok (.aload_n k, 1)) (hi : (k : Nat) = i) (hl : ls[i]? = some (.val (va_rf r)))
    (kk : W p l e R s m args below meth c H locs cells slots Q (F0 m (pc + 1) ls (va_rf r :: rest))) : W p l e R s m args below meth c H locs cells slots Q (F0 m pc ls (rest)) := by
  cases r with
  | none => exact lv_aload_nN hexec hb hdg hi hl kk
  | some a => exact lv_aload_n hexec hb hdg hi hl kk
theorem zr_aload (hexec : p.tables.exec = Jvm.exec) (hb : c.code = cc) {i : Nat} {r : Option Nat} (hdg : decode cc pc = .ok (.aload i, 2)) (hl : ls[i]? = some (.val (va_rf r)))
    (kk : W p l e R s m args below meth c H locs cells slots Q (F0 m (pc + 2) ls (va_rf r :: rest))) : W p l e R s m args below meth c H locs cells slots Q (F0 m pc ls (rest)) := by
  cases r with
  | none => exact lv_aloadN hexec hb hdg hl kk
  | some a => exact lv_aload hexec hb hdg hl kk
theorem zr_astore_n (hexec : p.tables.exec = Jvm.exec) (hb : c.code = cc) {k : Fin 4} {i nL : Nat} {r : Option Nat} {lv lv' : List (Nat × Value)} (hdg : decode cc pc = .ok (.astore_n k, 1)) (hi : (k : Nat) = i) (h : lv_has ls nL lv) (hn : i < nL) (hl : (i, va_rf r) :: lv.filter (fun q => !(q.1 == i) && !(q.1 + 1 == i && q.2.category == 2)) = lv')
    (kk : ∀ ls' : Array Slot, lv_has ls' nL lv' → W p l e R s m args below meth c H locs cells slots Q (F0 m (pc + 1) ls' rest)) : W p l e R s m args below meth c H locs cells slots Q (F0 m pc ls (va_rf r :: rest)) := by
  cases r with
  | none => exact lv_astore_nN hexec hb hdg hi h hn hl kk
  | some a => exact lv_astore_n hexec hb hdg hi h hn hl kk
theorem zr_astore (hexec : p.tables.exec = Jvm.exec) (hb : c.code = cc) {i nL : Nat} {r : Option Nat} {lv lv' : List (Nat × Value)} (hdg : decode cc pc = .ok (.astore i, 2)) (h : lv_has ls nL lv) (hn : i < nL) (hl : (i, va_rf r) :: lv.filter (fun q => !(q.1 == i) && !(q.1 + 1 == i && q.2.category == 2)) = lv')
    (kk : ∀ ls' : Array Slot, lv_has ls' nL lv' → W p l e R s m args below meth c H locs cells slots Q (F0 m (pc + 2) ls' rest)) : W p l e R s m args below meth c H locs cells slots Q (F0 m pc ls (va_rf r :: rest)) := by
  cases r with
  | none => exact lv_astoreN hexec hb hdg h hn hl kk
  | some a => exact lv_astore hexec hb hdg h hn hl kk
/-- ifnull, over a reference that a key names -/
theorem zr_ifnull (hexec : p.tables.exec = Jvm.exec) (hb : c.code = cc) {ad : Nat → Nat} {r : Option Nat} {off : Int} {tgt : Nat} (hdg : decode cc pc = .ok (.ifnull off, 3)) (ht : (pc : Int) + off = (tgt : Int))
    (kn : r = none → W p l e R s m args below meth c H locs cells slots Q (F0 m tgt ls rest)) (ks : ∀ k, r = some k → W p l e R s m args below meth c H locs cells slots Q (F0 m (pc + 3) ls rest)) : W p l e R s m args below meth c H locs cells slots Q (F0 m pc ls (va_rf (r.map ad) :: rest)) := by
  cases r with
  | none => exact lv_ifnullN hexec hb hdg ht (kn rfl)
  | some k => exact lv_ifnull hexec hb hdg (ks k rfl)
theorem zr_ifnonnull (hexec : p.tables.exec = Jvm.exec) (hb : c.code = cc) {ad : Nat → Nat} {r : Option Nat} {off : Int} {tgt : Nat} (hdg : decode cc pc = .ok (.ifnonnull off, 3)) (ht : (pc : Int) + off = (tgt : Int))
    (kn : r = none → W p l e R s m args below meth c H locs cells slots Q (F0 m (pc + 3) ls rest)) (ks : ∀ k, r = some k → W p l e R s m args below meth c H locs cells slots Q (F0 m tgt ls rest)) : W p l e R s m args below meth c H locs cells slots Q (F0 m pc ls (va_rf (r.map ad) :: rest)) := by
  cases r with
  | none => exact lv_ifnonnullN hexec hb hdg (kn rfl)
  | some k => exact lv_ifnonnull hexec hb hdg ht (ks k rfl)
/-- areturn of a reference that may be null -/
theorem zr_aret {Qc : Array Value → State → Outcome → State → Prop} {free : Addr → Prop} {r : Option Nat} {rt : FieldType} (hexec : p.tables.exec = Jvm.exec) (hb : c.code = cc) (hr : meth.sig.returnType = some rt)
    (hrt : (∃ n, rt = .object n) ∨ ∃ t, rt = .array t)
    (hq : ∀ t : State, t.heap = H → s.WarmedH t.vm → Qc args s (.returned (some (va_rf r))) t) (hf : ∀ q ∈ locs, free q.base)
    (hdg : decode cc pc = .ok (.areturn, 1)) (hlocks : meth.locks = false) : W p l e R s m args below meth c H locs cells slots (MQ below Qc args s cells slots free) (F0 m pc ls [va_rf r]) :=
  W.aret hexec hb hr hrt (va_rf_or r) hq hf hdg hlocks
/-- a number under a name, an equation kept -/
theorem zr_eqi {x y : Int32} (h : x = y) (k : W p l e R s m args below meth c H locs cells slots Q (F0 m pc ls (.int y :: rest))) : W p l e R s m args below meth c H locs cells slots Q (F0 m pc ls (.int x :: rest)) := by rw [h]; exact k
theorem zr_eql {x y : Int64} (h : x = y) (k : W p l e R s m args below meth c H locs cells slots Q (F0 m pc ls (.long y :: rest))) : W p l e R s m args below meth c H locs cells slots Q (F0 m pc ls (.long x :: rest)) := by rw [h]; exact k
theorem zr_eqr {x y : Option Nat} (h : x = y) (k : W p l e R s m args below meth c H locs cells slots Q (F0 m pc ls (va_rf y :: rest))) : W p l e R s m args below meth c H locs cells slots Q (F0 m pc ls (va_rf x :: rest)) := by rw [h]; exact k
/-- the stack under another name -/
theorem zr_st {st st' : List Value} (h : st = st') (k : W p l e R s m args below meth c H locs cells slots Q (F0 m pc ls st')) : W p l e R s m args below meth c H locs cells slots Q (F0 m pc ls st) := by rw [h]; exact k
theorem zr_lcmp (hexec : p.tables.exec = Jvm.exec) (hb : c.code = cc) {x y : Int64} (hdg : decode cc pc = .ok (.lcmp, 1))
    (k : W p l e R s m args below meth c H locs cells slots Q (F0 m (pc + 1) ls (.int (lg_cmp x y) :: rest))) : W p l e R s m args below meth c H locs cells slots Q (F0 m pc ls (.long y :: .long x :: rest)) := W.lcmp hexec hb hdg k
end ZR
/-- locals under other values -/
theorem lv_re {ls : Array Slot} {n : Nat} {l l' : List (Nat × Value)} (h : lv_has ls n l) (e : l = l') : lv_has ls n l' := e ▸ h
/-- a key or nobody, as the reference's number -/
def enc (r : Option Nat) : Int32 := match r with
  | none => -1
  | some k => nI k
theorem enc_none : enc none = -1 := rfl
theorem enc_some (k : Nat) : enc (some k) = nI k := rfl
theorem nI_ne_m1 {k : Nat} (h : k < 2 ^ 31) : nI k ≠ -1 := by
  intro q
  have h1 := congrArg Int32.toInt q
  rw [nI_toInt h] at h1
  have h2 : (-1 : Int32).toInt = -1 := by decide
  omega
theorem enc_m1 {r : Option Nat} (h : ∀ k, r = some k → k < 2 ^ 31) : enc r = -1 ↔ r = none := by
  cases r with
  | none => exact ⟨fun _ => rfl, fun _ => rfl⟩
  | some k => exact ⟨fun q => absurd q (nI_ne_m1 (h k rfl)), fun q => by cases q⟩
theorem nI_inj {a b : Nat} (ha : a < 2 ^ 31) (hb : b < 2 ^ 31) (h : nI a = nI b) : a = b := (nI_eq ha hb).mp h
/-- a height that is in range -/
theorem nI_height {x : Int32} (h0 : ¬ x < 0) (h1 : ¬ 999 < x) : ∃ j : Nat, j < 1000 ∧ x = nI j := by
  obtain ⟨j, hj, rfl⟩ := nI_of h0
  refine ⟨j, ?_, rfl⟩
  rcases Nat.lt_or_ge j 1000 with q | q
  · exact q
  · exact absurd (show (999 : Int32) < nI j from (nI_ltI (a := 999) (by decide) hj).mpr q) h1
end
section
/-! THE WORLDS: the class's cells by keys (heights), the reference's cells -/
/-- a soldier: who stands above, to the left, to the right; the company as it is kept -/
abbrev Nd : Type := Option Nat × Option Nat × Option Nat × Int32
def sF (ad : Nat → Nat) (k : Nat) (d : Nd) : List Value := [.int (nI k), va_rf (d.1.map ad), va_rf (d.2.1.map ad), va_rf (d.2.2.1.map ad), .int d.2.2.2]
def kp (K : List Nat) (ad : Nat → Nat) (F : Nat → va_E) : va_W := K.map (fun k => (ad k, F k))
theorem kp_get {X : va_W} {K : List Nat} {ad : Nat → Nat} {F : Nat → va_E} {k : Nat} (h : k ∈ K) : ∃ i : Nat, (X ++ kp K ad F)[i]? = some (ad k, F k) := by
  apply List.getElem?_of_mem
  exact List.mem_append_right _ (List.mem_map.mpr ⟨k, h, rfl⟩)
theorem kp_set {A : Nat → Prop} {X : va_W} {K : List Nat} {ad : Nat → Nat} {F : Nat → va_E} {k i : Nat} {e : va_E} (hD : va_D A (X ++ kp K ad F)) (hk : k ∈ K) (hi : (X ++ kp K ad F)[i]? = some (ad k, F k)) : (X ++ kp K ad F).set i (ad k, e) = X ++ kp K ad (va_up F k e) := by
  have hl := (List.getElem?_eq_some_iff.mp hi).1
  obtain ⟨j, hj⟩ := List.getElem?_of_mem hk
  have hjX : ∀ (j' k' : Nat), K[j']? = some k' → (X ++ kp K ad F)[X.length + j']? = some (ad k', F k') := by
    intro j' k' h'
    rw [List.getElem?_append_right (by omega), Nat.add_sub_cancel_left]
    simp [kp, h']
  have hij : i = X.length + j := hD.1 _ _ _ _ hi (hjX j k hj) rfl
  subst hij
  apply List.ext_getElem?
  intro q
  by_cases hq : q = X.length + j
  · subst hq
    rw [List.getElem?_set_self hl, List.getElem?_append_right (by omega), Nat.add_sub_cancel_left]
    simp [kp, hj, va_up]
  · rw [List.getElem?_set_ne (Ne.symm hq)]
    by_cases hqX : q < X.length
    · rw [List.getElem?_append_left hqX, List.getElem?_append_left hqX]
    · obtain ⟨j', rfl⟩ : ∃ j', q = X.length + j' := ⟨q - X.length, by omega⟩
      rw [List.getElem?_append_right (by omega), List.getElem?_append_right (by omega), Nat.add_sub_cancel_left]
      cases hk' : K[j']? with
      | none => simp [kp, hk']
      | some k' =>
        have hne : k' ≠ k := by
          intro z
          subst z
          exact hq (hD.1 _ _ _ _ (hjX j' k' hk') (hjX j k' hj) rfl)
        simp [kp, hk', va_up, hne]
/-- the class's world: the object x, its line, the soldiers -/
def cX (x ln : Nat) (cA : ClassId) (n : Int32) (tp : Option Nat) (mo dr ds : Int32) (li : Nat → Option Nat) (ad : Nat → Nat) : va_W := [(x, .inr (1, [.ref ln, .int n, va_rf (tp.map ad), .int mo, .int dr, .int ds])), (ln, .inl (cA, 150, .inr (.inr (.inr (.inr (fun i => (li i).map ad))))))]
def gF (ad : Nat → Nat) (g : Nat → Nd) : Nat → va_E := fun k => .inr (0, sF ad k (g k))
def cw (x ln : Nat) (cA : ClassId) (n : Int32) (tp : Option Nat) (mo dr ds : Int32) (li : Nat → Option Nat) (K : List Nat) (ad : Nat → Nat) (g : Nat → Nd) : va_W := cX x ln cA n tp mo dr ds li ad ++ kp K ad (gF ad g)
section CW
variable {x ln : Nat} {cA : ClassId} {n : Int32} {tp : Option Nat} {mo dr ds : Int32} {li : Nat → Option Nat} {K : List Nat} {ad : Nat → Nat} {g : Nat → Nd}
theorem cw_x : (cw x ln cA n tp mo dr ds li K ad g)[0]? = some (x, .inr (1, [.ref ln, .int n, va_rf (tp.map ad), .int mo, .int dr, .int ds])) := rfl
theorem cw_l : (cw x ln cA n tp mo dr ds li K ad g)[1]? = some (ln, .inl (cA, 150, .inr (.inr (.inr (.inr (fun i => (li i).map ad)))))) := rfl
theorem cw_s {k : Nat} (h : k ∈ K) : ∃ i : Nat, (cw x ln cA n tp mo dr ds li K ad g)[i]? = some (ad k, .inr (0, [.int (nI k), va_rf ((g k).1.map ad), va_rf ((g k).2.1.map ad), va_rf ((g k).2.2.1.map ad), .int (g k).2.2.2])) := kp_get (F := gF ad g) h
theorem gF_up {k : Nat} {d : Nd} : va_up (gF ad g) k (.inr (0, sF ad k d)) = gF ad (va_up g k d) := by
  funext j
  by_cases h : j = k
  · subst h; simp [va_up, gF]
  · simp [va_up, gF, h]
/-- a soldier's field is written -/
theorem cw_put {A : Nat → Prop} {k i : Nat} {e0 : va_E} (hD : va_D A (cw x ln cA n tp mo dr ds li K ad g)) (hk : k ∈ K) (hi : (cw x ln cA n tp mo dr ds li K ad g)[i]? = some (ad k, e0)) (d : Nd) {fs : List Value} (hfs : fs = sF ad k d) : (cw x ln cA n tp mo dr ds li K ad g).set i (ad k, .inr (0, fs)) = cw x ln cA n tp mo dr ds li K ad (va_up g k d) := by
  subst hfs
  have he : e0 = gF ad g k := by
    obtain ⟨j, hj⟩ := kp_get (X := cX x ln cA n tp mo dr ds li ad) (ad := ad) (F := gF ad g) hk
    have hij : i = j := hD.1 _ _ _ _ hi hj rfl
    subst hij
    have h1 := hi.symm.trans hj
    exact congrArg Prod.snd (Option.some.inj h1)
  subst he
  show (cX x ln cA n tp mo dr ds li ad ++ kp K ad (gF ad g)).set i _ = cX x ln cA n tp mo dr ds li ad ++ kp K ad (gF ad (va_up g k d))
  rw [kp_set hD hk hi, gF_up]
/-- a cell of the line is written -/
theorem cw_line {i : Nat} {v : Option Nat} : (fun j => (va_up (fun j => (li j).map ad) i (v.map ad)) j) = (fun j => ((va_up li i v) j).map ad) := by
  funext j
  by_cases h : j = i
  · subst h; simp [va_up]
  · simp [va_up, h]
theorem cw_setl {i : Nat} {v : Option Nat} {f : Nat → Option Nat} (hf : f = va_up (fun j => (li j).map ad) i (v.map ad)) : (cw x ln cA n tp mo dr ds li K ad g).set 1 (ln, .inl (cA, 150, .inr (.inr (.inr (.inr f))))) = cw x ln cA n tp mo dr ds (va_up li i v) K ad g := by
  subst hf
  have h : va_up (fun j => (li j).map ad) i (v.map ad) = fun j => ((va_up li i v) j).map ad := cw_line
  rw [h]
  rfl
end CW
/-- the reference's world -/
def mw (M : Nat × Nat × Nat × Nat × Nat × Nat) (cZ cI : ClassId) (th tp n mo ti dr st ma : Int32) (isIn lf rt wy rw : Nat → Int32) : va_W :=
  [(M.1, .inr (2, [.int th, .int tp, .int n, .int mo, .int ti, .int dr, .ref M.2.1, .ref M.2.2.1, .ref M.2.2.2.1, .ref M.2.2.2.2.1, .int st, .ref M.2.2.2.2.2, .int ma])),
   (M.2.1, .inl (cZ, 1000, .inl isIn)), (M.2.2.1, .inl (cI, 1000, .inl lf)), (M.2.2.2.1, .inl (cI, 1000, .inl rt)), (M.2.2.2.2.1, .inl (cI, 151, .inl wy)), (M.2.2.2.2.2, .inl (cI, 150, .inl rw))]
section MWS
variable {M : Nat × Nat × Nat × Nat × Nat × Nat} {cZ cI : ClassId} {th tp n mo ti dr st ma : Int32} {isIn lf rt wy rw : Nat → Int32}
theorem mw_m : (mw M cZ cI th tp n mo ti dr st ma isIn lf rt wy rw)[0]? = some (M.1, .inr (2, [.int th, .int tp, .int n, .int mo, .int ti, .int dr, .ref M.2.1, .ref M.2.2.1, .ref M.2.2.2.1, .ref M.2.2.2.2.1, .int st, .ref M.2.2.2.2.2, .int ma])) := rfl
theorem mw_i : (mw M cZ cI th tp n mo ti dr st ma isIn lf rt wy rw)[1]? = some (M.2.1, .inl (cZ, 1000, .inl isIn)) := rfl
theorem mw_l : (mw M cZ cI th tp n mo ti dr st ma isIn lf rt wy rw)[2]? = some (M.2.2.1, .inl (cI, 1000, .inl lf)) := rfl
theorem mw_r : (mw M cZ cI th tp n mo ti dr st ma isIn lf rt wy rw)[3]? = some (M.2.2.2.1, .inl (cI, 1000, .inl rt)) := rfl
theorem mw_w : (mw M cZ cI th tp n mo ti dr st ma isIn lf rt wy rw)[4]? = some (M.2.2.2.2.1, .inl (cI, 151, .inl wy)) := rfl
theorem mw_o : (mw M cZ cI th tp n mo ti dr st ma isIn lf rt wy rw)[5]? = some (M.2.2.2.2.2, .inl (cI, 150, .inl rw)) := rfl
end MWS
/-- what the tables say, for every method of both: classes, array classes, nest mates -/
abbrev w26 : Cond := .methodLinkNest RX0 26 yX1_companyOf RX1
abbrev w32 : Cond := .methodLinkNest RX0 32 yX1_isCrooked RX1
abbrev tysA (cA cZ cI : ClassId) : List (ClassId × FieldType) := [(cA, .object RX0), (cZ, .boolean), (cI, .int)]
def GK (D : va_G) (tys : List (ClassId × FieldType)) (U : State) : Prop := va_K D vwCl tys U ∧ va_Nw w26 U ∧ va_Nw w32 U
theorem GK.moved {D : va_G} {tys : List (ClassId × FieldType)} {u U : State} (hW : u.WarmedH U.vm) (h : GK D tys u) : GK D tys U := ⟨va_K.moved hW.alike h.1, va_Nw.warmM hW h.2.1, va_Nw.warmM hW h.2.2⟩
theorem va_K.eqvm {D : va_G} {tys : List (ClassId × FieldType)} {u U : State} (h : va_K D vwCl tys u) (e : U.vm = u.vm) : va_K D vwCl tys U := va_K.moved (by rw [e]; exact Vm.Alike.refl u.vm) h
/-- a start that reads a world -/
def PcR (D : va_G) (tys : List (ClassId × FieldType)) (ws : va_W) (av : List Value) : Array Value → State → Prop := va_Pc av (fun U => va_P D vwCl ws U.heap ∧ GK D tys U)
theorem GK.calling {D : va_G} {tys : List (ClassId × FieldType)} {U : State} {g : JFrame} {mk : MethodId} {a : Array Value} (h : GK D tys U) : GK D tys (U.calling g mk a) := GK.moved (U := U.calling g mk a) (State.WarmedH.refl U) h
theorem PcR.blind {D : va_G} {tys : List (ClassId × FieldType)} {ws : va_W} {av : List Value} : FrameBlind (PcR D tys ws av) := fun _ _ _ _ q => ⟨q.1, q.2.1, q.2.2.calling⟩
theorem PcR.at {D : va_G} {tys : List (ClassId × FieldType)} {ws : va_W} {av : List Value} {s : State} {H : Heap} (hP : va_P D vwCl ws H) (hG : GK D tys s) : ∀ U : State, U.heap = H → s.WarmedH U.vm → PcR D tys ws av av.toArray U := fun _ hU hW => ⟨rfl, by rw [hU]; exact hP, hG.moved hW⟩
/-- a start that may write a world -/
def PcM (D : va_G) (tys : List (ClassId × FieldType)) (A : Nat → Prop) (ws : va_W) (av : List Value) : Array Value → State → Prop := va_Pc av (fun U => (∀ q, U.heap.size ≤ q → A q) ∧ va_P D vwCl ws U.heap ∧ GK D tys U ∧ va_D A ws)
theorem PcM.blind {D : va_G} {tys : List (ClassId × FieldType)} {A : Nat → Prop} {ws : va_W} {av : List Value} : FrameBlind (PcM D tys A ws av) := fun _ _ _ _ q => ⟨q.1, q.2.1, q.2.2.1, q.2.2.2.1.calling, q.2.2.2.2⟩
theorem PcM.at {D : va_G} {tys : List (ClassId × FieldType)} {A : Nat → Prop} {ws : va_W} {av : List Value} {s : State} {H : Heap} (hA : ∀ q, H.size ≤ q → A q) (hP : va_P D vwCl ws H) (hG : GK D tys s) (hD : va_D A ws) : ∀ U : State, U.heap = H → s.WarmedH U.vm → PcM D tys A ws av av.toArray U := fun _ hU hW => ⟨rfl, by rw [hU]; exact hA, by rw [hU]; exact hP, hG.moved hW, hD⟩
/-- the world behind a method that writes -/
def BM (D : va_G) (tys : List (ClassId × FieldType)) (A : Nat → Prop) (ws : va_W) (t : State) : Prop := va_P D vwCl ws t.heap ∧ GK D tys t ∧ va_D A ws
end
section
/-! MORE OWN ROWS -/
theorem zr_cat (r : Option Nat) : (va_rf r).category = 1 := by cases r <;> rfl
theorem zr_nar (r : Option Nat) {C : String} : narrow (.object C) (va_rf r) = va_rf r := by cases r <;> rfl
theorem zr_fit (r : Option Nat) {C : String} : fits (.object C) (va_rf r) = true := by cases r <;> rfl
theorem zr_cat8 {v : Value} : v.category ≤ 2 := by cases v <;> simp [Value.category]
theorem zr_room1 {a : Value} : (([a] : List Value).map fun v => v.category).sum ≤ 8 := by
  have := @zr_cat8 a; simp; omega
theorem zr_room2 {a b : Value} : (([a, b] : List Value).map fun v => v.category).sum ≤ 8 := by
  have := @zr_cat8 a; have := @zr_cat8 b; simp; omega
theorem zr_room3 {a b d : Value} : (([a, b, d] : List Value).map fun v => v.category).sum ≤ 8 := by
  have := @zr_cat8 a; have := @zr_cat8 b; have := @zr_cat8 d; simp; omega
theorem zr_room4 {a b d f : Value} : (([a, b, d, f] : List Value).map fun v => v.category).sum ≤ 8 := by
  have := @zr_cat8 a; have := @zr_cat8 b; have := @zr_cat8 d; have := @zr_cat8 f; simp; omega
theorem zr_eq0 {a : Nat} (h : a < 2 ^ 31) : nI a = 0 ↔ a = 0 := nI_eq (b := 0) h (by decide)
theorem zr_lt0 {a : Nat} (h : a < 2 ^ 31) : nI a < 0 ↔ False := by
  constructor
  · intro q; exact nI_pos h q
  · intro q; exact q.elim
theorem zr_ge0 {a : Nat} (h : a < 2 ^ 31) : 0 ≤ nI a ↔ True := ⟨fun _ => trivial, fun _ => nI_pos' h⟩
theorem zr_gt0 {a : Nat} (h : a < 2 ^ 31) : 0 < nI a ↔ 0 < a := nI_ltI (a := 0) (by decide) h
theorem zr_le0 {a : Nat} (h : a < 2 ^ 31) : nI a ≤ 0 ↔ a = 0 := by
  rw [show (0 : Int32) = nI 0 from rfl, nI_leI h (by decide)]; omega
theorem zr_max {a b : Nat} (ha : a < 2 ^ 31) (hb : b < 2 ^ 31) : (if nI a < nI b then nI b else nI a) = nI (max a b) := by
  by_cases h : a < b
  · rw [if_pos ((nI_ltI ha hb).mpr h), Nat.max_eq_right (Nat.le_of_lt h)]
  · rw [if_neg (fun q => h ((nI_ltI ha hb).mp q)), Nat.max_eq_left (Nat.le_of_not_lt h)]
theorem zr_min {a b : Nat} (ha : a < 2 ^ 31) (hb : b < 2 ^ 31) : (if nI b < nI a then nI b else nI a) = nI (min a b) := by
  by_cases h : b < a
  · rw [if_pos ((nI_ltI hb ha).mpr h), Nat.min_eq_right (Nat.le_of_lt h)]
  · rw [if_neg (fun q => h ((nI_ltI hb ha).mp q)), Nat.min_eq_left (Nat.le_of_not_lt h)]
theorem zr_dec {a k : Nat} (h : k ≤ a) : nI a + Int32.ofInt (-(k : Int)) = nI (a - k) := by
  have h1 : nI a + Int32.ofInt (-(k : Int)) = nI a - nI k := by
    rw [Int32.ofInt_neg, Int32.sub_eq_add_neg]; rfl
  rw [h1, pk_sub h]
section ZS
variable {p : Program} {l : Launch} {e : Env} {R : Room} {s : State} {m : MethodId} {args : Array Value} {below : List Frame} {meth : Method} {c : Code} {H : Heap} {locs : List Loc} {cells slots : Nat} {Q : State → Prop}
variable {cc : ByteArray} {pc : Nat} {ls : Array Slot} {rest : List Value} {D : va_G} {cl : List vw_C} {A : Nat → Prop} {a : Nat} {tys : List (ClassId × FieldType)} {ws : va_W} {H0 : Heap}
theorem zr_eqk {ad : Nat → Nat} {x y : Option Nat} (h : x = y) (k : W p l e R s m args below meth c H locs cells slots Q (F0 m pc ls (va_rf (y.map ad) :: rest))) : W p l e R s m args below meth c H locs cells slots Q (F0 m pc ls (va_rf (x.map ad) :: rest)) := by rw [h]; exact k
theorem zr_iald (hexec : p.tables.exec = Jvm.exec) (hb : c.code = cc) (hK : va_K D cl tys s) (hP : va_P D cl ws H) (q0 t0 : Nat) {cA : ClassId} {n : Nat} {f : Nat → Int32} (ha : ws[q0]? = some (a, .inl (cA, n, .inl f))) (ht : tys[t0]? = some (cA, .int)) {k : Nat} (hin : k < n) (hn : n < 2 ^ 31) (hdg : decode cc pc = .ok (.iaload, 1))
    (kk : W p l e R s m args below meth c H locs cells slots Q (F0 m (pc + 1) ls (.int (f k) :: rest))) : W p l e R s m args below meth c H locs cells slots Q (F0 m pc ls (.int (nI k) :: .ref a :: rest)) := by
  refine va_iald hexec hb hK hP q0 t0 ha ht (nI_in hin hn) hdg ?_
  rw [nI_clamp (Nat.lt_trans hin hn)]; exact kk
theorem zr_zald (hexec : p.tables.exec = Jvm.exec) (hb : c.code = cc) (hK : va_K D cl tys s) (hP : va_P D cl ws H) (q0 t0 : Nat) {cA : ClassId} {n : Nat} {f : Nat → Int32} (ha : ws[q0]? = some (a, .inl (cA, n, .inl f))) (ht : tys[t0]? = some (cA, .boolean)) {k : Nat} (hin : k < n) (hn : n < 2 ^ 31) (hdg : decode cc pc = .ok (.baload, 1))
    (kk : W p l e R s m args below meth c H locs cells slots Q (F0 m (pc + 1) ls (.int (f k) :: rest))) : W p l e R s m args below meth c H locs cells slots Q (F0 m pc ls (.int (nI k) :: .ref a :: rest)) := by
  refine va_zald hexec hb hK hP q0 t0 ha ht (nI_in hin hn) hdg ?_
  rw [nI_clamp (Nat.lt_trans hin hn)]; exact kk
theorem zr_aldq (hexec : p.tables.exec = Jvm.exec) (hb : c.code = cc) (hK : va_K D cl tys s) (hP : va_P D cl ws H) (q0 t0 : Nat) {cA : ClassId} {C : String} {n : Nat} {f : Nat → Option Nat} (ha : ws[q0]? = some (a, .inl (cA, n, .inr (.inr (.inr (.inr f)))))) (ht : tys[t0]? = some (cA, .object C)) {k : Nat} (hin : k < n) (hn : n < 2 ^ 31) (hdg : decode cc pc = .ok (.aaload, 1))
    (kk : W p l e R s m args below meth c H locs cells slots Q (F0 m (pc + 1) ls (va_rf (f k) :: rest))) : W p l e R s m args below meth c H locs cells slots Q (F0 m pc ls (.int (nI k) :: .ref a :: rest)) := by
  refine va_aldq hexec hb hK hP q0 t0 ha ht (nI_in hin hn) hdg ?_
  rw [nI_clamp (Nat.lt_trans hin hn)]; exact kk
theorem zr_iast (hexec : p.tables.exec = Jvm.exec) (hb : c.code = cc) (hK : va_K D cl tys s) (hP : va_P D cl ws H) (hD : va_D A ws) (hS : va_S A H0 H locs) (q0 t0 : Nat) {cA : ClassId} {n : Nat} {f : Nat → Int32} (ha : ws[q0]? = some (a, .inl (cA, n, .inl f))) (ht : tys[t0]? = some (cA, .int)) {k : Nat} {x : Int32} (hin : k < n) (hn : n < 2 ^ 31) (hdg : decode cc pc = .ok (.iastore, 1))
    (kk : ∀ (H1 : Heap) (locs1 : List Loc), va_P D cl (ws.set q0 (a, .inl (cA, n, .inl (upd f k x)))) H1 → va_D A (ws.set q0 (a, .inl (cA, n, .inl (upd f k x)))) → va_S A H0 H1 locs1 → W p l e R s m args below meth c H1 locs1 cells slots Q (F0 m (pc + 1) ls rest)) : W p l e R s m args below meth c H locs cells slots Q (F0 m pc ls (.int x :: .int (nI k) :: .ref a :: rest)) := by
  refine va_iast hexec hb hK hP hD hS q0 t0 ha ht (nI_in hin hn) hdg ?_
  rw [nI_clamp (Nat.lt_trans hin hn)]; exact kk
theorem zr_zast (hexec : p.tables.exec = Jvm.exec) (hb : c.code = cc) (hK : va_K D cl tys s) (hP : va_P D cl ws H) (hD : va_D A ws) (hS : va_S A H0 H locs) (q0 t0 : Nat) {cA : ClassId} {n : Nat} {f : Nat → Int32} (ha : ws[q0]? = some (a, .inl (cA, n, .inl f))) (ht : tys[t0]? = some (cA, .boolean)) {k : Nat} {x : Int32} (hin : k < n) (hn : n < 2 ^ 31) (hz : vp_nar .boolean x = x) (hdg : decode cc pc = .ok (.bastore, 1))
    (kk : ∀ (H1 : Heap) (locs1 : List Loc), va_P D cl (ws.set q0 (a, .inl (cA, n, .inl (upd f k x)))) H1 → va_D A (ws.set q0 (a, .inl (cA, n, .inl (upd f k x)))) → va_S A H0 H1 locs1 → W p l e R s m args below meth c H1 locs1 cells slots Q (F0 m (pc + 1) ls rest)) : W p l e R s m args below meth c H locs cells slots Q (F0 m pc ls (.int x :: .int (nI k) :: .ref a :: rest)) := by
  refine va_zast hexec hb hK hP hD hS q0 t0 ha ht (nI_in hin hn) hdg ?_
  rw [nI_clamp (Nat.lt_trans hin hn), hz]; exact kk
end ZS
end
section
/-! TREES OF KEYS: the mathematical value of both sides -/
abbrev Tr : Type := Std.DTreeMap.Internal.Impl Nat (fun _ => Unit)
abbrev lf_ : Tr := Std.DTreeMap.Internal.Impl.leaf
abbrev nd_ (l : Tr) (k : Nat) (r : Tr) : Tr := Std.DTreeMap.Internal.Impl.inner 0 k () l r
def keysT : Tr → List Nat
  | .leaf => []
  | .inner _ k _ l r => keysT l ++ k :: keysT r
def root : Tr → Option Nat
  | .leaf => none
  | .inner _ k _ _ _ => some k
def siz : Tr → Nat
  | .leaf => 0
  | .inner _ _ _ l r => siz l + siz r + 1
def hgt : Tr → Nat
  | .leaf => 0
  | .inner _ _ _ l r => max (hgt l) (hgt r) + 1
/-- the part below the place of h: with h at its top, or empty -/
def subT (h : Nat) : Tr → Tr
  | .leaf => .leaf
  | .inner s k v l r => if h = k then .inner s k v l r else if h < k then subT h l else subT h r
/-- t hung into the place of h -/
def rep (h : Nat) (t : Tr) : Tr → Tr
  | .leaf => t
  | .inner _ k _ l r => if h = k then t else if h < k then nd_ (rep h t l) k r else nd_ l k (rep h t r)
/-- who stands above the place of h, from the top -/
def anc (h : Nat) : Tr → List Nat
  | .leaf => []
  | .inner _ k _ l r => if h = k then [] else k :: (if h < k then anc h l else anc h r)
def parF (h : Nat) : Option Nat → Tr → Option Nat
  | a, .leaf => a
  | a, .inner _ k _ l r => if h = k then a else if h < k then parF h (some k) l else parF h (some k) r
def cntLt (h : Nat) : Tr → Nat
  | .leaf => 0
  | .inner _ k _ l r => if h = k then siz l else if h < k then cntLt h l else siz l + 1 + cntLt h r
def bst (T : Tr) : Prop := (keysT T).Pairwise (· < ·)
/-- the soldiers' references, as the tree has them -/
def ShP (g : Nat → Nd) : Option Nat → Tr → Prop
  | _, .leaf => True
  | a, .inner _ k _ l r => (g k).1 = a ∧ (g k).2.1 = root l ∧ (g k).2.2.1 = root r ∧ ShP g (some k) l ∧ ShP g (some k) r
/-- the soldiers' companies, as the tree has them -/
def ShC (g : Nat → Nd) : Tr → Prop
  | .leaf => True
  | .inner _ k _ l r => (g k).2.2.2 = nI (siz l + siz r + 1) ∧ ShC g l ∧ ShC g r
/-- the way up -/
def UpC (g : Nat → Nd) : Option Nat → List Nat → Prop
  | p, [] => p = none
  | p, k :: ks => p = some k ∧ UpC g (g k).1 ks
def coOf (g : Nat → Nd) (o : Option Nat) : Int32 := match o with
  | none => 0
  | some k => (g k).2.2.2
theorem keys_in (s k : Nat) (v : Unit) (l r : Tr) (j : Nat) : j ∈ keysT (.inner s k v l r) ↔ j ∈ keysT l ∨ j = k ∨ j ∈ keysT r := by simp [keysT]
theorem keys_len (T : Tr) : (keysT T).length = siz T := by
  induction T with
  | leaf => rfl
  | inner s k v l r ihl ihr => simp [keysT, siz, ihl, ihr]; omega
theorem bst_in {s k : Nat} {v : Unit} {l r : Tr} : bst (.inner s k v l r) ↔ bst l ∧ bst r ∧ (∀ j ∈ keysT l, j < k) ∧ ∀ j ∈ keysT r, k < j := by
  simp only [bst, keysT, List.pairwise_append, List.pairwise_cons, List.mem_cons]
  constructor
  · rintro ⟨h1, ⟨h2, h3⟩, h4⟩
    exact ⟨h1, h3, fun j hj => h4 j hj k (Or.inl rfl), h2⟩
  · rintro ⟨h1, h2, h3, h4⟩
    refine ⟨h1, ⟨h4, h2⟩, fun a ha b hb => ?_⟩
    rcases hb with rfl | hb
    · exact h3 a ha
    · exact Nat.lt_trans (h3 a ha) (h4 b hb)
theorem root_in {T : Tr} {k : Nat} (h : root T = some k) : k ∈ keysT T := by
  cases T with
  | leaf => cases h
  | inner s j v l r => cases h; simp [keysT]
theorem subT_root {h : Nat} {T : Tr} : root (subT h T) = none ∨ root (subT h T) = some h := by
  induction T with
  | leaf => exact Or.inl rfl
  | inner s k v l r ihl ihr =>
    simp only [subT]
    split
    · rename_i e; subst e; exact Or.inr rfl
    · split
      · exact ihl
      · exact ihr
theorem subT_mem {h : Nat} {T : Tr} (hb : bst T) : root (subT h T) = some h ↔ h ∈ keysT T := by
  induction T with
  | leaf => simp [subT, root, keysT]
  | inner s k v l r ihl ihr =>
    obtain ⟨b1, b2, b3, b4⟩ := bst_in.mp hb
    rw [keys_in]
    simp only [subT]
    split
    · rename_i e; subst e; simp [root]
    · rename_i e
      split
      · rename_i e2
        rw [ihl b1]
        constructor
        · exact Or.inl
        · rintro (q | q | q)
          · exact q
          · exact absurd q e
          · have := b4 h q; omega
      · rename_i e2
        rw [ihr b2]
        constructor
        · exact fun q => Or.inr (Or.inr q)
        · rintro (q | q | q)
          · have := b3 h q; omega
          · exact absurd q e
          · exact q
theorem subT_sub {h j : Nat} {T : Tr} (hj : j ∈ keysT (subT h T)) : j ∈ keysT T := by
  induction T with
  | leaf => exact hj
  | inner s k v l r ihl ihr =>
    rw [keys_in]
    simp only [subT] at hj
    split at hj
    · rw [keys_in] at hj; exact hj
    · split at hj
      · exact Or.inl (ihl hj)
      · exact Or.inr (Or.inr (ihr hj))
theorem ShP_sub {g : Nat → Nd} {h : Nat} : ∀ {T : Tr} {a : Option Nat}, ShP g a T → ShP g (parF h a T) (subT h T)
  | .leaf, _, _ => trivial
  | .inner s k v l r, a, hs => by
    simp only [subT, parF]
    split
    · exact hs
    · obtain ⟨-, -, -, h4, h5⟩ := hs
      split
      · exact ShP_sub h4
      · exact ShP_sub h5
theorem ShC_sub {g : Nat → Nd} {h : Nat} {T : Tr} (hs : ShC g T) : ShC g (subT h T) := by
  induction T with
  | leaf => trivial
  | inner s k v l r ihl ihr =>
    simp only [subT]
    split
    · exact hs
    · split
      · exact ihl hs.2.1
      · exact ihr hs.2.2
theorem co_root {g : Nat → Nd} {T : Tr} (h : ShC g T) : coOf g (root T) = nI (siz T) := by
  cases T with
  | leaf => rfl
  | inner s k v l r => exact h.1
/-- the way up from the place of h -/
theorem UpC_anc {g : Nat → Nd} {h : Nat} : ∀ {T : Tr} {a : Option Nat} {up : List Nat}, ShP g a T → UpC g a up → UpC g (parF h a T) ((anc h T).reverse ++ up)
  | .leaf, _, _, _, hu => by simpa [anc, parF] using hu
  | .inner s k v l r, a, up, hs, hu => by
    obtain ⟨h1, -, -, h4, h5⟩ := hs
    have hk : UpC g (some k) (k :: up) := ⟨rfl, by rw [h1]; exact hu⟩
    simp only [parF, anc]
    split
    · simpa using hu
    · split
      · simpa using UpC_anc (h := h) h4 hk
      · simpa using UpC_anc (h := h) h5 hk
theorem anc_in {h j : Nat} {T : Tr} (hj : j ∈ anc h T) : j ∈ keysT T := by
  induction T with
  | leaf => cases hj
  | inner s k v l r ihl ihr =>
    rw [keys_in]
    simp only [anc] at hj
    split at hj
    · cases hj
    · rcases List.mem_cons.mp hj with q | q
      · exact Or.inr (Or.inl q)
      · split at q
        · exact Or.inl (ihl q)
        · exact Or.inr (Or.inr (ihr q))
theorem anc_len {h : Nat} {T : Tr} : (anc h T).length ≤ siz T := by
  induction T with
  | leaf => exact Nat.le_refl _
  | inner s k v l r ihl ihr =>
    simp only [anc, siz]
    split
    · simp
    · split <;> simp <;> omega
theorem UpC_top {g : Nat → Nd} {h : Nat} {T : Tr} (hs : ShP g none T) : UpC g (parF h none T) (anc h T).reverse := by
  have := UpC_anc (h := h) (up := []) hs rfl
  simpa using this
/-- who stands above one who is there -/
theorem above_eq {g : Nat → Nd} {h : Nat} {T : Tr} {a : Option Nat} (hs : ShP g a T) (hr : root (subT h T) = some h) : (g h).1 = parF h a T := by
  have h1 := ShP_sub (h := h) hs
  cases e : subT h T with
  | leaf => rw [e] at hr; cases hr
  | inner s k v l r =>
    rw [e] at hr h1
    cases hr
    exact h1.1
end
section
/-! WHAT IS TOLD OF A TREE -/
def crk (a b : Nat) : Bool := decide (2 * (a + 1 + b) < 3 * a) || decide (2 * (a + 1 + b) < 3 * b)
def b2i (b : Bool) : Int32 := if b then nI 1 else nI 0
def ckn : Tr → Nat
  | .leaf => 0
  | .inner _ _ _ l r => (if crk (siz l) (siz r) then 1 else 0) + ckn l + ckn r
def crT (T : Tr) (k : Nat) : Bool := match subT k T with
  | .leaf => false
  | .inner _ _ _ l r => crk (siz l) (siz r)
def mxl (f : Nat → Nat) (xs : List Nat) (d : Nat) : Nat := xs.foldl (fun m j => max m (f j)) d
theorem mxl_cong {f g : Nat → Nat} {xs : List Nat} (h : ∀ j ∈ xs, f j = g j) (d : Nat) : mxl f xs d = mxl g xs d := by
  induction xs generalizing d with
  | nil => rfl
  | cons a xs ih =>
    show mxl f xs (max d (f a)) = mxl g xs (max d (g a))
    rw [h a List.mem_cons_self]
    exact ih (fun j hj => h j (List.mem_cons_of_mem _ hj)) _
theorem mxl_app (f : Nat → Nat) (xs ys : List Nat) (d : Nat) : mxl f (xs ++ ys) d = mxl f ys (mxl f xs d) := by simp [mxl, List.foldl_append]
theorem mxl_cons (f : Nat → Nat) (a : Nat) (xs : List Nat) (d : Nat) : mxl f (a :: xs) d = mxl f xs (max d (f a)) := rfl
theorem anc_l {s k j : Nat} {v : Unit} {l r : Tr} (h : j < k) : anc j (.inner s k v l r) = k :: anc j l := by
  have : ¬ j = k := by omega
  simp [anc, h, this]
theorem anc_r {s k j : Nat} {v : Unit} {l r : Tr} (h : k < j) : anc j (.inner s k v l r) = k :: anc j r := by
  have h1 : ¬ j = k := by omega
  have h2 : ¬ j < k := by omega
  simp [anc, h1, h2]
theorem sub_l {s k j : Nat} {v : Unit} {l r : Tr} (h : j < k) : subT j (.inner s k v l r) = subT j l := by
  have : ¬ j = k := by omega
  simp [subT, h, this]
theorem sub_r {s k j : Nat} {v : Unit} {l r : Tr} (h : k < j) : subT j (.inner s k v l r) = subT j r := by
  have h1 : ¬ j = k := by omega
  have h2 : ¬ j < k := by omega
  simp [subT, h1, h2]
theorem sub_s {s k : Nat} {v : Unit} {l r : Tr} : subT k (.inner s k v l r) = .inner s k v l r := by simp [subT]
theorem hgt_mxl {T : Tr} (hb : bst T) (c d : Nat) : mxl (fun j => (anc j T).length + c) (keysT T) d = if siz T = 0 then d else max d (hgt T - 1 + c) := by
  induction T generalizing c d with
  | leaf => rfl
  | inner s k v l r ihl ihr =>
    obtain ⟨b1, b2, b3, b4⟩ := bst_in.mp hb
    have e1 : ∀ d, mxl (fun j => (anc j (.inner s k v l r : Tr)).length + c) (keysT l) d = mxl (fun j => (anc j l).length + (c + 1)) (keysT l) d := fun d => mxl_cong (fun j hj => by rw [anc_l (b3 j hj), List.length_cons]; omega) d
    have e2 : ∀ d, mxl (fun j => (anc j (.inner s k v l r : Tr)).length + c) (keysT r) d = mxl (fun j => (anc j r).length + (c + 1)) (keysT r) d := fun d => mxl_cong (fun j hj => by rw [anc_r (b4 j hj), List.length_cons]; omega) d
    have e3 : (anc k (.inner s k v l r : Tr)).length + c = c := by simp [anc]
    have z : ∀ t : Tr, siz t = 0 ↔ hgt t = 0 := by
      intro t; cases t <;> simp [siz, hgt]
    have zl := z l
    have zr := z r
    rw [show keysT (.inner s k v l r : Tr) = keysT l ++ k :: keysT r from rfl, mxl_app, mxl_cons, e1, e2, ihl b1, ihr b2]
    rw [if_neg (show ¬ siz (.inner s k v l r : Tr) = 0 by simp [siz]), e3]
    simp only [hgt]
    split <;> split <;> omega
theorem ckn_count {T : Tr} (hb : bst T) : (keysT T).countP (crT T) = ckn T := by
  induction T with
  | leaf => rfl
  | inner s k v l r ihl ihr =>
    obtain ⟨b1, b2, b3, b4⟩ := bst_in.mp hb
    have e1 : (keysT l).countP (crT (.inner s k v l r)) = (keysT l).countP (crT l) := List.countP_congr (fun j hj => by simp only [crT, sub_l (b3 j hj)])
    have e2 : (keysT r).countP (crT (.inner s k v l r)) = (keysT r).countP (crT r) := List.countP_congr (fun j hj => by simp only [crT, sub_r (b4 j hj)])
    have e3 : crT (.inner s k v l r) k = crk (siz l) (siz r) := by simp only [crT, sub_s]
    rw [show keysT (.inner s k v l r : Tr) = keysT l ++ k :: keysT r from rfl, List.countP_append, List.countP_cons, e1, e2, e3, ihl b1, ihr b2]
    simp only [ckn]
    omega
/-- how many stand ahead of the part at h, by height -/
def ofs (h : Nat) : Tr → Nat
  | .leaf => 0
  | .inner _ k _ l r => if h = k then 0 else if h < k then ofs h l else siz l + 1 + ofs h r
def sizL : Tr → Nat
  | .leaf => 0
  | .inner _ _ _ l _ => siz l
theorem cnt_ofs (h : Nat) (T : Tr) : cntLt h T = ofs h T + sizL (subT h T) := by
  induction T with
  | leaf => rfl
  | inner s k v l r ihl ihr =>
    simp only [cntLt, ofs, subT]
    split
    · simp [sizL]
    · split
      · exact ihl
      · rw [ihr]; omega
theorem ofs_key {h : Nat} {T : Tr} {i : Nat} (hi : i < siz (subT h T)) : (keysT T)[ofs h T + i]? = (keysT (subT h T))[i]? := by
  induction T with
  | leaf => simp [subT, siz] at hi
  | inner s k v l r ihl ihr =>
    simp only [ofs, subT] at hi ⊢
    split
    · simp
    · rename_i e
      rw [if_neg e] at hi
      split
      · rename_i e2
        rw [if_pos e2] at hi
        have h1 := ihl hi
        have hb : ofs h l + i < (keysT l).length := by
          have h3 : i < (keysT (subT h l)).length := by rw [keys_len]; exact hi
          have h2 : (keysT (subT h l))[i]? = some (keysT (subT h l))[i] := List.getElem?_eq_getElem h3
          rw [h2] at h1
          exact (List.getElem?_eq_some_iff.mp h1).1
        rw [show keysT (.inner s k v l r : Tr) = keysT l ++ k :: keysT r from rfl, List.getElem?_append_left hb]
        exact h1
      · rename_i e2
        rw [if_neg e2] at hi
        have h1 := ihr hi
        rw [show keysT (.inner s k v l r : Tr) = keysT l ++ k :: keysT r from rfl, List.getElem?_append_right (by rw [keys_len]; omega), keys_len, show siz l + 1 + ofs h r + i - siz l = (ofs h r + i) + 1 by omega, List.getElem?_cons_succ]
        exact h1
theorem sub_at {c : Nat} {T : Tr} (hr : root (subT c T) = some c) : ∃ s v l r, subT c T = .inner s c v l r := by
  cases e : subT c T with
  | leaf => rw [e] at hr; cases hr
  | inner s k v l r => rw [e] at hr; cases hr; exact ⟨s, v, l, r, rfl⟩
theorem anc_sub {c j : Nat} {T : Tr} (hb : bst T) (hj : j ∈ keysT (subT c T)) : anc j T = anc c T ++ anc j (subT c T) ∧ subT j T = subT j (subT c T) := by
  induction T with
  | leaf => cases hj
  | inner s k v l r ihl ihr =>
    obtain ⟨b1, b2, b3, b4⟩ := bst_in.mp hb
    by_cases e : c = k
    · subst e; simp [subT, anc]
    · by_cases e2 : c < k
      · rw [sub_l e2] at hj ⊢
        have h1 := b3 j (subT_sub hj)
        rw [anc_l h1, anc_l e2, sub_l h1, (ihl b1 hj).1, (ihl b1 hj).2]
        exact ⟨rfl, rfl⟩
      · have e3 : k < c := by omega
        rw [sub_r e3] at hj ⊢
        have h1 := b4 j (subT_sub hj)
        rw [anc_r h1, anc_r e3, sub_r h1, (ihr b2 hj).1, (ihr b2 hj).2]
        exact ⟨rfl, rfl⟩
theorem sub_bst {c : Nat} {T : Tr} (hb : bst T) : bst (subT c T) := by
  induction T with
  | leaf => exact hb
  | inner s k v l r ihl ihr =>
    obtain ⟨b1, b2, -, -⟩ := bst_in.mp hb
    simp only [subT]
    split
    · exact hb
    · split
      · exact ihl b1
      · exact ihr b2
/-- the way from j up to the captain c of its company -/
theorem way_split {c j s : Nat} {v : Unit} {l r : Tr} (hb : bst (.inner s c v l r)) (hj : j ∈ keysT (.inner s c v l r)) (up : List Nat) : ∃ pre rest, j :: ((anc j (.inner s c v l r)).reverse ++ up) = pre ++ c :: rest ∧ pre.length = (anc j (.inner s c v l r)).length ∧ c ∉ pre := by
  obtain ⟨b1, b2, b3, b4⟩ := bst_in.mp hb
  by_cases e : j = c
  · subst e
    exact ⟨[], up, by simp [anc], by simp [anc], by simp⟩
  · rw [keys_in] at hj
    rcases hj with q | q | q
    · refine ⟨j :: (anc j l).reverse, up, ?_, ?_, ?_⟩
      · rw [anc_l (b3 j q)]; simp
      · rw [anc_l (b3 j q)]; simp
      · intro z
        rcases List.mem_cons.mp z with z | z
        · exact e z.symm
        · have := b3 c (anc_in (List.mem_reverse.mp z)); omega
    · exact absurd q e
    · refine ⟨j :: (anc j r).reverse, up, ?_, ?_, ?_⟩
      · rw [anc_r (b4 j q)]; simp
      · rw [anc_r (b4 j q)]; simp
      · intro z
        rcases List.mem_cons.mp z with z | z
        · exact e z.symm
        · have := b4 c (anc_in (List.mem_reverse.mp z)); omega
/-- the allowed depth and one -/
def lim (n : Nat) : Nat := ((List.range 14).find? (fun d => decide (n * 2 ^ d < 3 ^ d))).getD 14
def lim_ok (n : Nat) : Bool := decide (lim n ≤ 13) && decide (n * 2 ^ lim n < 3 ^ lim n) && (List.range (lim n)).all (fun d => decide (3 ^ d ≤ n * 2 ^ d))
theorem lim_all : (List.range 152).all lim_ok = true := by decide +kernel
theorem lim_spec {n : Nat} (h : n ≤ 151) : lim n ≤ 13 ∧ n * 2 ^ lim n < 3 ^ lim n ∧ ∀ d, d < lim n → 3 ^ d ≤ n * 2 ^ d := by
  have h1 := List.all_eq_true.mp lim_all n (List.mem_range.mpr (by omega))
  simp only [lim_ok, Bool.and_eq_true, decide_eq_true_eq, List.all_eq_true, List.mem_range] at h1
  exact ⟨h1.1.1, h1.1.2, h1.2⟩
/-- one less, where 0 is -1 -/
def pd (d : Nat) : Int32 := nI d + (-1)
theorem pd_0 : pd 0 = -1 := rfl
theorem pd_s (d : Nat) : pd (d + 1) = nI d := pk_m1 d
theorem pd_1 (d : Nat) : pd d + nI 1 = pd (d + 1) := by
  rw [pd_s]; unfold pd
  rw [Int32.add_assoc]
  exact Int32.add_zero _
theorem pd_lt {d : Nat} (h : d ≤ 40) : ¬ nI 40 ≤ pd d := by
  cases d with
  | zero => decide
  | succ d => rw [pd_s]; exact fun q => absurd ((nI_leI (by decide) (by omega)).mp q) (by omega)
end
section
/-! LEAVES of the class -/
set_option maxHeartbeats 4000000 in
set_option maxRecDepth 100000 in
/-- Soldier.towards(h) -/
theorem c_X0_towards (l : Launch) {D : va_G} {cA cZ cI : ClassId} {x ln : Nat} {n : Int32} {tp : Option Nat} {mo dr ds : Int32} {li : Nat → Option Nat} {K : List Nat} {ad : Nat → Nat} {g : Nat → Nd} {k h : Nat} (hk : k ∈ K) (hkn : k < 2 ^ 31) (hh : h < 2 ^ 31) : Met l yX0_towards wsX0_towards ({ frames := 0, cells := 0, slots := 0, locals := 0 } : Room) (PcR D (tysA cA cZ cI) (cw x ln cA n tp mo dr ds li K ad g) [.ref (ad k), .int (nI h)]) (va_Sq (fun r => r = (if h < k then (g k).2.1 else (g k).2.2.1).map ad)) 0 0 (fun _ => False) := by
  refine Met.ofW (cc := cX0_towards) (maxL := 2) (ret := (some (.object "LopsidedRanks$Soldier"))) (by decide) rfl ?_
  intro p e s m args below meth c s₁ B hml hv
  obtain ⟨rfl, hP, hG⟩ := hv
  have hx := B.exec
  have hb := B.bytes
  have hr := B.returns
  have hts := atoms_spec (ws := wsX0_towards) B.pre
  have hown : s.vm.findClass RX0 = some m.cls := findClass_of_methodNamed B.named
  have hlocks := B.notSynchronized
  have hl := lv_entry ([.ref (ad k), .int (nI h)]) (n := 2) (Nat.le_of_ble_eq_true rfl)
  rw [lg_entry_eq]
  generalize (lg_sl ([.ref (ad k), .int (nI h)]) ++ List.replicate (2 - (lg_sl ([.ref (ad k), .int (nI h)])).length) Slot.unset).toArray = ls at hl ⊢
  have hl : lv_has ls 2 [(0, .ref (ad k)), (1, .int (nI h))] := hl
  refine lv_iload_n hx hb dX0_towards_0 rfl (lv_at hl 1 rfl) ?_
  refine lv_aload_n hx hb dX0_towards_1 rfl (lv_at hl 0 rfl) ?_
  obtain ⟨i0, hi0⟩ := cw_s (x := x) (ln := ln) (cA := cA) (n := n) (tp := tp) (mo := mo) (dr := dr) (ds := ds) (li := li) (ad := ad) (g := g) (hk : k ∈ K)
  refine va_get (D := D) (ci := 0) (v := .int (nI k)) (C := RX0) (T := TX0) (N := 5) hx hb hts (by decide +kernel) hown hG.1 hP i0 hi0 rfl 0 (by decide) (hts (.fieldLink RX0 7 "LopsidedRanks$Soldier" "height" "I") (by decide +kernel)) (fun _ h9 => h9) rfl dX0_towards_2 ?_
  refine lv_icmp_ge (tgt := 15) hx hb dX0_towards_5 (by decide) (fun c5 => ?_) (fun c5 => ?_)
  · rw [nI_leI (by omega) (by omega)] at c5
    refine lv_aload_n hx hb dX0_towards_15 rfl (lv_at hl 0 rfl) ?_
    obtain ⟨i1, hi1⟩ := cw_s (x := x) (ln := ln) (cA := cA) (n := n) (tp := tp) (mo := mo) (dr := dr) (ds := ds) (li := li) (ad := ad) (g := g) (hk : k ∈ K)
    refine va_get (D := D) (ci := 0) (v := va_rf ((g k).2.2.1.map ad)) (C := RX0) (T := TX0) (N := 5) hx hb hts (by decide +kernel) hown hG.1 hP i1 hi1 rfl 3 (by decide) (hts (.fieldLink RX0 20 "LopsidedRanks$Soldier" "right" "LLopsidedRanks$Soldier;") (by decide +kernel)) (fun _ h9 => h9) rfl dX0_towards_16 ?_
    exact zr_aret (r := (g k).2.2.1.map ad) hx hb hr (Or.inl ⟨_, rfl⟩) (fun t ht hW => ⟨_, rfl, by rw [if_neg (by omega)], ht⟩) (fun q hq => absurd hq List.not_mem_nil) dX0_towards_19 hlocks
  · rw [nI_leI (by omega) (by omega)] at c5
    refine lv_aload_n hx hb dX0_towards_8 rfl (lv_at hl 0 rfl) ?_
    obtain ⟨i2, hi2⟩ := cw_s (x := x) (ln := ln) (cA := cA) (n := n) (tp := tp) (mo := mo) (dr := dr) (ds := ds) (li := li) (ad := ad) (g := g) (hk : k ∈ K)
    refine va_get (D := D) (ci := 0) (v := va_rf ((g k).2.1.map ad)) (C := RX0) (T := TX0) (N := 5) hx hb hts (by decide +kernel) hown hG.1 hP i2 hi2 rfl 2 (by decide) (hts (.fieldLink RX0 16 "LopsidedRanks$Soldier" "left" "LLopsidedRanks$Soldier;") (by decide +kernel)) (fun _ h9 => h9) rfl dX0_towards_9 ?_
    refine lv_goto (tgt := 19) hx hb dX0_towards_12 (by decide) ?_
    exact zr_aret (r := (g k).2.1.map ad) hx hb hr (Or.inl ⟨_, rfl⟩) (fun t ht hW => ⟨_, rfl, by rw [if_pos (by omega)], ht⟩) (fun q hq => absurd hq List.not_mem_nil) dX0_towards_19 hlocks

set_option maxHeartbeats 4000000 in
set_option maxRecDepth 100000 in
/-- heightOf(o): the height, -1 for nobody -/
theorem c_X1_heightOf (l : Launch) {D : va_G} {cA cZ cI : ClassId} {x ln : Nat} {n : Int32} {tp : Option Nat} {mo dr ds : Int32} {li : Nat → Option Nat} {K : List Nat} {ad : Nat → Nat} {g : Nat → Nd} {o : Option Nat} (ho : ∀ k, o = some k → k ∈ K) : Met l yX1_heightOf wsX1_heightOf ({ frames := 0, cells := 0, slots := 0, locals := 0 } : Room) (PcR D (tysA cA cZ cI) (cw x ln cA n tp mo dr ds li K ad g) [va_rf (o.map ad)]) (vp_Si (fun r => r = enc o)) 0 0 (fun _ => False) := by
  refine Met.ofW (cc := cX1_heightOf) (maxL := 1) (ret := (some .int)) (by decide) rfl ?_
  intro p e s m args below meth c s₁ B hml hv
  obtain ⟨rfl, hP, hG⟩ := hv
  have hx := B.exec
  have hb := B.bytes
  have hr := B.returns
  have hts := atoms_spec (ws := wsX1_heightOf) B.pre
  have hown : s.vm.findClass RX1 = some m.cls := findClass_of_methodNamed B.named
  have hlocks := B.notSynchronized
  have hl : lv_has ((lg_sl ([va_rf (o.map ad)]) ++ List.replicate (1 - (lg_sl ([va_rf (o.map ad)])).length) Slot.unset).toArray) 1 [(0, va_rf (o.map ad))] := by cases o <;> exact lv_entry _ (Nat.le_of_ble_eq_true rfl)
  rw [lg_entry_eq]
  generalize (lg_sl ([va_rf (o.map ad)]) ++ List.replicate (1 - (lg_sl ([va_rf (o.map ad)])).length) Slot.unset).toArray = ls at hl ⊢
  have hl : lv_has ls 1 [(0, va_rf (o.map ad))] := hl
  refine zr_aload_n hx hb dX1_heightOf_0 rfl (lv_at hl 0 rfl) ?_
  refine zr_ifnonnull (tgt := 8) hx hb dX1_heightOf_1 (by decide) (fun c1 => ?_) (fun k1 c1 => ?_)
  · subst c1
    have hl : lv_has ls 1 [(0, .null)] := hl
    refine lv_iconst (v := (-1)) hx hb dX1_heightOf_4 (by decide) ?_
    refine lv_goto (tgt := 12) hx hb dX1_heightOf_5 (by decide) ?_
    exact W.iret (v := (-1)) hx hb hr (fun t ht hW => ⟨_, rfl, rfl, ht⟩) (fun q hq => absurd hq List.not_mem_nil) dX1_heightOf_12
  · subst c1
    have hl : lv_has ls 1 [(0, .ref (ad k1))] := hl
    refine lv_aload_n hx hb dX1_heightOf_8 rfl (lv_at hl 0 rfl) ?_
    obtain ⟨i0, hi0⟩ := cw_s (x := x) (ln := ln) (cA := cA) (n := n) (tp := tp) (mo := mo) (dr := dr) (ds := ds) (li := li) (ad := ad) (g := g) ((ho k1 rfl) : k1 ∈ K)
    refine va_get (D := D) (ci := 0) (v := .int (nI k1)) (C := RX0) (T := TX0) (N := 5) hx hb hts (by decide +kernel) hown hG.1 hP i0 hi0 rfl 0 (by decide) (hts (.fieldLink RX1 100 "LopsidedRanks$Soldier" "height" "I") (by decide +kernel)) (fun _ h9 => h9) rfl dX1_heightOf_9 ?_
    exact W.iret (v := (nI k1)) hx hb hr (fun t ht hW => ⟨_, rfl, rfl, ht⟩) (fun q hq => absurd hq List.not_mem_nil) dX1_heightOf_12

set_option maxHeartbeats 4000000 in
set_option maxRecDepth 100000 in
/-- companyOf(o) -/
theorem c_X1_companyOf (l : Launch) {D : va_G} {cA cZ cI : ClassId} {x ln : Nat} {n : Int32} {tp : Option Nat} {mo dr ds : Int32} {li : Nat → Option Nat} {K : List Nat} {ad : Nat → Nat} {g : Nat → Nd} {o : Option Nat} (ho : ∀ k, o = some k → k ∈ K) : Met l yX1_companyOf wsX1_companyOf ({ frames := 0, cells := 0, slots := 0, locals := 0 } : Room) (PcR D (tysA cA cZ cI) (cw x ln cA n tp mo dr ds li K ad g) [va_rf (o.map ad)]) (vp_Si (fun r => r = coOf g o)) 0 0 (fun _ => False) := by
  refine Met.ofW (cc := cX1_companyOf) (maxL := 1) (ret := (some .int)) (by decide) rfl ?_
  intro p e s m args below meth c s₁ B hml hv
  obtain ⟨rfl, hP, hG⟩ := hv
  have hx := B.exec
  have hb := B.bytes
  have hr := B.returns
  have hts := atoms_spec (ws := wsX1_companyOf) B.pre
  have hown : s.vm.findClass RX1 = some m.cls := findClass_of_methodNamed B.named
  have hlocks := B.notSynchronized
  have hl : lv_has ((lg_sl ([va_rf (o.map ad)]) ++ List.replicate (1 - (lg_sl ([va_rf (o.map ad)])).length) Slot.unset).toArray) 1 [(0, va_rf (o.map ad))] := by cases o <;> exact lv_entry _ (Nat.le_of_ble_eq_true rfl)
  rw [lg_entry_eq]
  generalize (lg_sl ([va_rf (o.map ad)]) ++ List.replicate (1 - (lg_sl ([va_rf (o.map ad)])).length) Slot.unset).toArray = ls at hl ⊢
  have hl : lv_has ls 1 [(0, va_rf (o.map ad))] := hl
  refine zr_aload_n hx hb dX1_companyOf_0 rfl (lv_at hl 0 rfl) ?_
  refine zr_ifnonnull (tgt := 8) hx hb dX1_companyOf_1 (by decide) (fun c1 => ?_) (fun k1 c1 => ?_)
  · subst c1
    have hl : lv_has ls 1 [(0, .null)] := hl
    refine lv_iconst (v := nI 0) hx hb dX1_companyOf_4 (by decide) ?_
    refine lv_goto (tgt := 12) hx hb dX1_companyOf_5 (by decide) ?_
    exact W.iret (v := (nI 0)) hx hb hr (fun t ht hW => ⟨_, rfl, rfl, ht⟩) (fun q hq => absurd hq List.not_mem_nil) dX1_companyOf_12
  · subst c1
    have hl : lv_has ls 1 [(0, .ref (ad k1))] := hl
    refine lv_aload_n hx hb dX1_companyOf_8 rfl (lv_at hl 0 rfl) ?_
    obtain ⟨i0, hi0⟩ := cw_s (x := x) (ln := ln) (cA := cA) (n := n) (tp := tp) (mo := mo) (dr := dr) (ds := ds) (li := li) (ad := ad) (g := g) ((ho k1 rfl) : k1 ∈ K)
    refine va_get (D := D) (ci := 0) (v := .int (g k1).2.2.2) (C := RX0) (T := TX0) (N := 5) hx hb hts (by decide +kernel) hown hG.1 hP i0 hi0 rfl 4 (by decide) (hts (.fieldLink RX1 147 "LopsidedRanks$Soldier" "company" "I") (by decide +kernel)) (fun _ h9 => h9) rfl dX1_companyOf_9 ?_
    exact W.iret (v := (g k1).2.2.2) hx hb hr (fun t ht hW => ⟨_, rfl, rfl, ht⟩) (fun q hq => absurd hq List.not_mem_nil) dX1_companyOf_12

set_option maxHeartbeats 4000000 in
set_option maxRecDepth 100000 in
/-- isCrooked(a, b) -/
theorem c_X1_isCrooked (l : Launch) {a b : Nat} (ha : a < 10000) (hb0 : b < 10000) : Met l yX1_isCrooked wsX1_isCrooked ({ frames := 0, cells := 0, slots := 0, locals := 0 } : Room) (va_Pc [.int (nI a), .int (nI b)] (fun _ => True)) (vp_Si (fun r => r = b2i (crk a b))) 0 0 (fun _ => False) := by
  refine Met.ofW (cc := cX1_isCrooked) (maxL := 3) (ret := (some .boolean)) (by decide) rfl ?_
  intro p e s m args below meth c s₁ B hml hv
  obtain ⟨rfl, -⟩ := hv
  have hx := B.exec
  have hb := B.bytes
  have hr := B.returns
  have hts := atoms_spec (ws := wsX1_isCrooked) B.pre
  have hown : s.vm.findClass RX1 = some m.cls := findClass_of_methodNamed B.named
  have hlocks := B.notSynchronized
  have hl := lv_entry ([.int (nI a), .int (nI b)]) (n := 3) (Nat.le_of_ble_eq_true rfl)
  rw [lg_entry_eq]
  generalize (lg_sl ([.int (nI a), .int (nI b)]) ++ List.replicate (3 - (lg_sl ([.int (nI a), .int (nI b)])).length) Slot.unset).toArray = ls at hl ⊢
  have hl : lv_has ls 3 [(0, .int (nI a)), (1, .int (nI b))] := hl
  refine lv_iload_n hx hb dX1_isCrooked_0 rfl (lv_at hl 0 rfl) ?_
  refine lv_iconst (v := nI 1) hx hb dX1_isCrooked_1 (by decide) ?_
  refine lv_iadd hx hb dX1_isCrooked_2 ?_
  refine zr_eqi (nI_add a 1) ?_
  refine lv_iload_n hx hb dX1_isCrooked_3 rfl (lv_at hl 1 rfl) ?_
  refine lv_iadd hx hb dX1_isCrooked_4 ?_
  refine zr_eqi (nI_add (a + 1) b) ?_
  refine lv_istore_n (lv' := [(2, .int (nI ((a + 1) + b))), (0, .int (nI a)), (1, .int (nI b))]) hx hb dX1_isCrooked_5 rfl hl (by decide) rfl (fun ls hl => ?_)
  refine lv_iconst (v := nI 3) hx hb dX1_isCrooked_6 (by decide) ?_
  refine lv_iload_n hx hb dX1_isCrooked_7 rfl (lv_at hl 1 rfl) ?_
  refine lv_imul hx hb dX1_isCrooked_8 ?_
  refine zr_eqi (pk_mul 3 a) ?_
  refine lv_iconst (v := nI 2) hx hb dX1_isCrooked_9 (by decide) ?_
  refine lv_iload_n hx hb dX1_isCrooked_10 rfl (lv_at hl 0 rfl) ?_
  refine lv_imul hx hb dX1_isCrooked_11 ?_
  refine zr_eqi (pk_mul 2 ((a + 1) + b)) ?_
  refine lv_icmp_gt (tgt := 24) hx hb dX1_isCrooked_12 (by decide) (fun c12 => ?_) (fun c12 => ?_)
  · rw [nI_ltI (by omega) (by omega)] at c12
    refine lv_iconst (v := nI 1) hx hb dX1_isCrooked_24 (by decide) ?_
    refine lv_goto (tgt := 29) hx hb dX1_isCrooked_25 (by decide) ?_
    exact W.zret (v := (nI 1)) hx hb hr rfl (fun t ht hW => ⟨_, rfl, by simp [crk, b2i]; omega, ht⟩) (fun q hq => absurd hq List.not_mem_nil) dX1_isCrooked_29
  · rw [nI_ltI (by omega) (by omega)] at c12
    refine lv_iconst (v := nI 3) hx hb dX1_isCrooked_15 (by decide) ?_
    refine lv_iload_n hx hb dX1_isCrooked_16 rfl (lv_at hl 2 rfl) ?_
    refine lv_imul hx hb dX1_isCrooked_17 ?_
    refine zr_eqi (pk_mul 3 b) ?_
    refine lv_iconst (v := nI 2) hx hb dX1_isCrooked_18 (by decide) ?_
    refine lv_iload_n hx hb dX1_isCrooked_19 rfl (lv_at hl 0 rfl) ?_
    refine lv_imul hx hb dX1_isCrooked_20 ?_
    refine zr_eqi (pk_mul 2 ((a + 1) + b)) ?_
    refine lv_icmp_le (tgt := 28) hx hb dX1_isCrooked_21 (by decide) (fun c21 => ?_) (fun c21 => ?_)
    · rw [nI_leI (by omega) (by omega)] at c21
      refine lv_iconst (v := nI 0) hx hb dX1_isCrooked_28 (by decide) ?_
      exact W.zret (v := (nI 0)) hx hb hr rfl (fun t ht hW => ⟨_, rfl, by simp [crk, b2i]; omega, ht⟩) (fun q hq => absurd hq List.not_mem_nil) dX1_isCrooked_29
    · rw [nI_leI (by omega) (by omega)] at c21
      refine lv_iconst (v := nI 1) hx hb dX1_isCrooked_24 (by decide) ?_
      refine lv_goto (tgt := 29) hx hb dX1_isCrooked_25 (by decide) ?_
      exact W.zret (v := (nI 1)) hx hb hr rfl (fun t ht hW => ⟨_, rfl, by simp [crk, b2i]; omega, ht⟩) (fun q hq => absurd hq List.not_mem_nil) dX1_isCrooked_29
end
section
/-! READERS of the class -/
/-- the keys are closed: whoever is named is there -/
def Cl (K : List Nat) (g : Nat → Nd) : Prop := ∀ k ∈ K, k < 1000 ∧ (∀ j, (g k).1 = some j → j ∈ K) ∧ (∀ j, (g k).2.1 = some j → j ∈ K) ∧ ∀ j, (g k).2.2.1 = some j → j ∈ K
theorem Cl.lt {K : List Nat} {g : Nat → Nd} (h : Cl K g) {k : Nat} (hk : k ∈ K) : k < 1000 := (h k hk).1
theorem Cl.up {K : List Nat} {g : Nat → Nd} (h : Cl K g) : ∀ {ks : List Nat} {p : Option Nat}, UpC g p ks → (∀ k, p = some k → k ∈ K) → ∀ j ∈ ks, j ∈ K
  | [], _, _, _ => fun j hj => by cases hj
  | k :: ks, p, hu, hp => fun j hj => by
    have hk := hp k hu.1
    rcases List.mem_cons.mp hj with q | q
    · rw [q]; exact hk
    · exact Cl.up h hu.2 (h k hk).2.1 j q
set_option maxHeartbeats 4000000 in
set_option maxRecDepth 100000 in
theorem L_X0_depth {D : va_G} {cA cZ cI : ClassId} {x ln : Nat} {n : Int32} {tp : Option Nat} {mo dr ds : Int32} {li : Nat → Option Nat} {K : List Nat} {ad : Nat → Nat} {g : Nat → Nd} {p : Program} {l : Launch} {e : Env} {R : Room} {s : State} {m : MethodId} {args : Array Value} {below : List Frame} {meth : Method} {c : Code} {Q : State → Prop} {cells slots : Nat} {H : Heap} {locs : List Loc} (hx : p.tables.exec = Jvm.exec) (hb : c.code = cX0_depth) (hml : c.maxLocals = 3) (hts : ∀ w ∈ wsX0_depth, w.before args s = true) (hown : s.vm.findClass RX0 = some m.cls) (hG : GK D (tysA cA cZ cI) s) (hP : va_P D vwCl (cw x ln cA n tp mo dr ds li K ad g) H) {q0 : Nat} : ∀ {ks : List Nat} {p0 : Option Nat} {d : Nat}, UpC g p0 ks → (∀ j ∈ ks, j ∈ K) → (∀ ls, lv_has ls 3 [(2, .null), (1, .int (nI (d + ks.length))), (0, .ref q0)] → W p l e R s m args below meth c H locs cells slots Q (F0 m 22 ls [])) → ∀ ls, lv_has ls 3 [(2, va_rf (p0.map ad)), (1, .int (nI d)), (0, .ref q0)] → W p l e R s m args below meth c H locs cells slots Q (F0 m 7 ls []) := by
  intro ks
  induction ks with
  | nil =>
    intro p0 d hu hin kk ls hl
    have hu : p0 = none := hu
    subst hu
    have hl : lv_has ls 3 [(2, .null), (1, .int (nI d)), (0, .ref q0)] := hl
    refine lv_aload_nN hx hb dX0_depth_7 rfl (lv_at hl 0 rfl) ?_
    refine lv_ifnullN (tgt := 22) hx hb dX0_depth_8 (by decide) ?_
    exact kk _ hl
  | cons k ks ih =>
    intro p0 d hu hin kk ls hl
    obtain ⟨rfl, hu2⟩ := id hu
    have hl : lv_has ls 3 [(2, .ref (ad k)), (1, .int (nI d)), (0, .ref q0)] := hl
    refine lv_aload_n hx hb dX0_depth_7 rfl (lv_at hl 0 rfl) ?_
    refine lv_ifnull hx hb dX0_depth_8 ?_
    refine lv_iinc (v := nI (d + 1)) (lv' := [(1, .int (nI (d + 1))), (2, .ref (ad k)), (0, .ref q0)]) hx hb dX0_depth_11 hl (k := 1) rfl (nI_add d 1) (by decide) rfl (fun ls hl => ?_)
    refine lv_aload_n hx hb dX0_depth_14 rfl (lv_at hl 1 rfl) ?_
    obtain ⟨i0, hi0⟩ := cw_s (x := x) (ln := ln) (cA := cA) (n := n) (tp := tp) (mo := mo) (dr := dr) (ds := ds) (li := li) (ad := ad) (g := g) ((hin k List.mem_cons_self) : k ∈ K)
    refine va_get (D := D) (ci := 0) (v := va_rf ((g k).1.map ad)) (C := RX0) (T := TX0) (N := 5) hx hb hts (by decide +kernel) hown hG.1 hP i0 hi0 rfl 1 (by decide) (hts (.fieldLink RX0 23 "LopsidedRanks$Soldier" "above" "LLopsidedRanks$Soldier;") (by decide +kernel)) (fun _ h9 => h9) rfl dX0_depth_15 ?_
    refine zr_astore_n (lv' := [(2, va_rf ((g k).1.map ad)), (1, .int (nI (d + 1))), (0, .ref q0)]) hx hb dX0_depth_18 rfl hl (by decide) rfl (fun ls hl => ?_)
    refine lv_goto (tgt := 7) hx hb dX0_depth_19 (by decide) ?_
    exact ih (d := d + 1) hu.2 (fun j hj => hin j (List.mem_cons_of_mem _ hj)) (by rw [show d + 1 + ks.length = d + (ks.length + 1) by omega]; exact kk) _ (lv_sub hl [0, 1, 2] rfl)
set_option maxHeartbeats 4000000 in
set_option maxRecDepth 100000 in
/-- Soldier.depth() -/
theorem c_X0_depth (l : Launch) {D : va_G} {cA cZ cI : ClassId} {x ln : Nat} {n : Int32} {tp : Option Nat} {mo dr ds : Int32} {li : Nat → Option Nat} {K : List Nat} {ad : Nat → Nat} {g : Nat → Nd} {k : Nat} {ks : List Nat} (hk : k ∈ K) (hu : UpC g (g k).1 ks) (hin : ∀ j ∈ ks, j ∈ K) : Met l yX0_depth wsX0_depth ({ frames := 0, cells := 0, slots := 0, locals := 0 } : Room) (PcR D (tysA cA cZ cI) (cw x ln cA n tp mo dr ds li K ad g) [.ref (ad k)]) (vp_Si (fun r => r = nI ks.length)) 0 0 (fun _ => False) := by
  refine Met.ofW (cc := cX0_depth) (maxL := 3) (ret := (some .int)) (by decide) rfl ?_
  intro p e s m args below meth c s₁ B hml hv
  obtain ⟨rfl, hP, hG⟩ := hv
  have hx := B.exec
  have hb := B.bytes
  have hr := B.returns
  have hts := atoms_spec (ws := wsX0_depth) B.pre
  have hown : s.vm.findClass RX0 = some m.cls := findClass_of_methodNamed B.named
  have hlocks := B.notSynchronized
  have hl := lv_entry ([.ref (ad k)]) (n := 3) (Nat.le_of_ble_eq_true rfl)
  rw [lg_entry_eq]
  generalize (lg_sl ([.ref (ad k)]) ++ List.replicate (3 - (lg_sl ([.ref (ad k)])).length) Slot.unset).toArray = ls at hl ⊢
  have hl : lv_has ls 3 [(0, .ref (ad k))] := hl
  refine lv_iconst (v := nI 0) hx hb dX0_depth_0 (by decide) ?_
  refine lv_istore_n (lv' := [(1, .int (nI 0)), (0, .ref (ad k))]) hx hb dX0_depth_1 rfl hl (by decide) rfl (fun ls hl => ?_)
  refine lv_aload_n hx hb dX0_depth_2 rfl (lv_at hl 1 rfl) ?_
  obtain ⟨i0, hi0⟩ := cw_s (x := x) (ln := ln) (cA := cA) (n := n) (tp := tp) (mo := mo) (dr := dr) (ds := ds) (li := li) (ad := ad) (g := g) (hk : k ∈ K)
  refine va_get (D := D) (ci := 0) (v := va_rf ((g k).1.map ad)) (C := RX0) (T := TX0) (N := 5) hx hb hts (by decide +kernel) hown hG.1 hP i0 hi0 rfl 1 (by decide) (hts (.fieldLink RX0 23 "LopsidedRanks$Soldier" "above" "LLopsidedRanks$Soldier;") (by decide +kernel)) (fun _ h9 => h9) rfl dX0_depth_3 ?_
  refine zr_astore_n (lv' := [(2, va_rf ((g k).1.map ad)), (1, .int (nI 0)), (0, .ref (ad k))]) hx hb dX0_depth_6 rfl hl (by decide) rfl (fun ls hl => ?_)
  refine L_X0_depth (ks := ks) (d := 0) hx hb hml hts hown hG hP hu hin (fun ls hl => ?_) _ (lv_sub hl [0, 1, 2] rfl)
  refine lv_iload_n hx hb dX0_depth_22 rfl (lv_at hl 1 rfl) ?_
  exact W.iret (v := (nI (0 + ks.length))) hx hb hr (fun t ht hW => ⟨_, rfl, by rw [Nat.zero_add], ht⟩) (fun q hq => absurd hq List.not_mem_nil) dX0_depth_23

theorem PcT.blind {av : List Value} : FrameBlind (va_Pc av (fun _ => True)) := fun _ _ _ _ q => ⟨q.1, trivial⟩
theorem PcT.at {av : List Value} {s : State} {H : Heap} : ∀ U : State, U.heap = H → s.WarmedH U.vm → va_Pc av (fun _ => True) av.toArray U := fun _ _ _ => ⟨rfl, trivial⟩
theorem b2i_nar (b : Bool) : narrow .boolean (.int (b2i b)) = .int (b2i b) := by cases b <;> rfl
set_option maxHeartbeats 4000000 in
set_option maxRecDepth 100000 in
/-- Soldier.hasCrookedCompany() -/
theorem c_X0_hasCrookedCompany (l : Launch) {D : va_G} {cA cZ cI : ClassId} {x ln : Nat} {n : Int32} {tp : Option Nat} {mo dr ds : Int32} {li : Nat → Option Nat} {K : List Nat} {ad : Nat → Nat} {g : Nat → Nd} {k a b : Nat} (hcl : Cl K g) (hk : k ∈ K) (ha : coOf g (g k).2.1 = nI a) (hb0 : coOf g (g k).2.2.1 = nI b) (ha1 : a < 10000) (hb1 : b < 10000) : Met l yX0_hasCrookedCompany wsX0_hasCrookedCompany ({ frames := 1, cells := 0, slots := 0, locals := 30 } : Room) (PcR D (tysA cA cZ cI) (cw x ln cA n tp mo dr ds li K ad g) [.ref (ad k)]) (vp_Si (fun r => r = b2i (crk a b))) 0 0 (fun _ => False) := by
  refine Met.ofW (cc := cX0_hasCrookedCompany) (maxL := 1) (ret := (some .boolean)) (by decide) rfl ?_
  intro p e s m args below meth c s₁ B hml hv
  obtain ⟨rfl, hP, hG⟩ := hv
  have hx := B.exec
  have hb := B.bytes
  have hr := B.returns
  have hts := atoms_spec (ws := wsX0_hasCrookedCompany) B.pre
  have hown : s.vm.findClass RX0 = some m.cls := findClass_of_methodNamed B.named
  have hlocks := B.notSynchronized
  have hl := lv_entry ([.ref (ad k)]) (n := 1) (Nat.le_of_ble_eq_true rfl)
  rw [lg_entry_eq]
  generalize (lg_sl ([.ref (ad k)]) ++ List.replicate (1 - (lg_sl ([.ref (ad k)])).length) Slot.unset).toArray = ls at hl ⊢
  have hl : lv_has ls 1 [(0, .ref (ad k))] := hl
  refine lv_aload_n hx hb dX0_hasCrookedCompany_0 rfl (lv_at hl 0 rfl) ?_
  obtain ⟨i0, hi0⟩ := cw_s (x := x) (ln := ln) (cA := cA) (n := n) (tp := tp) (mo := mo) (dr := dr) (ds := ds) (li := li) (ad := ad) (g := g) (hk : k ∈ K)
  refine va_get (D := D) (ci := 0) (v := va_rf ((g k).2.1.map ad)) (C := RX0) (T := TX0) (N := 5) hx hb hts (by decide +kernel) hown hG.1 hP i0 hi0 rfl 2 (by decide) (hts (.fieldLink RX0 16 "LopsidedRanks$Soldier" "left" "LLopsidedRanks$Soldier;") (by decide +kernel)) (fun _ h9 => h9) rfl dX0_hasCrookedCompany_1 ?_
  refine vp_callSi (va_Run.run (va_runSN (As := [va_rf ((g k).2.1.map ad)]) (rest := []) ⟨hx, hb, hml, hown, hts⟩ (c_X1_companyOf l (o := (g k).2.1) (hcl k hk).2.2.1) ⟨va_cnB 1 hts gX0_hasCrookedCompany_X1_companyOf_n26 rfl rfl rfl hG.2.1 (hts _ (by decide +kernel)) (by decide +kernel) ⟨Nat.le_of_ble_eq_true rfl, Nat.le_of_ble_eq_true rfl⟩, hts _ (by decide +kernel), trivial⟩ ⟨PcR.blind, PcR.at hP hG⟩ rfl rfl hl.1 rfl (lv_room (Nat.le_of_ble_eq_true rfl)) dX0_hasCrookedCompany_4 ⟨Nat.le_of_ble_eq_true rfl, Nat.le_of_ble_eq_true rfl⟩)) (fun r4 q4 => ?_)
  subst q4
  refine zr_eqi ha ?_
  refine lv_aload_n hx hb dX0_hasCrookedCompany_7 rfl (lv_at hl 0 rfl) ?_
  obtain ⟨i1, hi1⟩ := cw_s (x := x) (ln := ln) (cA := cA) (n := n) (tp := tp) (mo := mo) (dr := dr) (ds := ds) (li := li) (ad := ad) (g := g) (hk : k ∈ K)
  refine va_get (D := D) (ci := 0) (v := va_rf ((g k).2.2.1.map ad)) (C := RX0) (T := TX0) (N := 5) hx hb hts (by decide +kernel) hown hG.1 hP i1 hi1 rfl 3 (by decide) (hts (.fieldLink RX0 20 "LopsidedRanks$Soldier" "right" "LLopsidedRanks$Soldier;") (by decide +kernel)) (fun _ h9 => h9) rfl dX0_hasCrookedCompany_8 ?_
  refine vp_callSi (va_Run.run (va_runSN (As := [va_rf ((g k).2.2.1.map ad)]) (rest := [.int (nI a)]) ⟨hx, hb, hml, hown, hts⟩ (c_X1_companyOf l (o := (g k).2.2.1) (hcl k hk).2.2.2) ⟨va_cnB 1 hts gX0_hasCrookedCompany_X1_companyOf_n26 rfl rfl rfl hG.2.1 (hts _ (by decide +kernel)) (by decide +kernel) ⟨Nat.le_of_ble_eq_true rfl, Nat.le_of_ble_eq_true rfl⟩, hts _ (by decide +kernel), trivial⟩ ⟨PcR.blind, PcR.at hP hG⟩ rfl rfl hl.1 rfl (lv_room (Nat.le_of_ble_eq_true rfl)) dX0_hasCrookedCompany_11 ⟨Nat.le_of_ble_eq_true rfl, Nat.le_of_ble_eq_true rfl⟩)) (fun r11 q11 => ?_)
  subst q11
  refine zr_eqi hb0 ?_
  refine vp_callSi (va_Run.run (va_runSN (As := [.int (nI a), .int (nI b)]) (rest := []) ⟨hx, hb, hml, hown, hts⟩ (c_X1_isCrooked l ha1 hb1) ⟨va_cnB 2 hts gX0_hasCrookedCompany_X1_isCrooked_n32 rfl rfl rfl hG.2.2 (hts _ (by decide +kernel)) (by decide +kernel) ⟨Nat.le_of_ble_eq_true rfl, Nat.le_of_ble_eq_true rfl⟩, hts _ (by decide +kernel), trivial⟩ ⟨PcT.blind, PcT.at⟩ rfl rfl hl.1 rfl (lv_room (Nat.le_of_ble_eq_true rfl)) dX0_hasCrookedCompany_14 ⟨Nat.le_of_ble_eq_true rfl, Nat.le_of_ble_eq_true rfl⟩)) (fun r14 q14 => ?_)
  subst q14
  exact W.zret (v := (b2i (crk a b))) hx hb hr (b2i_nar _) (fun t ht hW => ⟨_, rfl, rfl, ht⟩) (fun q hq => absurd hq List.not_mem_nil) dX0_hasCrookedCompany_17

set_option maxHeartbeats 4000000 in
set_option maxRecDepth 100000 in
/-- Soldier.wouldBeCrookedWith(h) -/
theorem c_X0_wouldBeCrookedWith (l : Launch) {D : va_G} {cA cZ cI : ClassId} {x ln : Nat} {n : Int32} {tp : Option Nat} {mo dr ds : Int32} {li : Nat → Option Nat} {K : List Nat} {ad : Nat → Nat} {g : Nat → Nd} {k a b h : Nat} (hcl : Cl K g) (hk : k ∈ K) (hkn : k < 1000) (hh : h < 1000) (ha : coOf g (g k).2.1 = nI a) (hb0 : coOf g (g k).2.2.1 = nI b) (ha1 : a < 9000) (hb1 : b < 9000) : Met l yX0_wouldBeCrookedWith wsX0_wouldBeCrookedWith ({ frames := 1, cells := 0, slots := 0, locals := 30 } : Room) (PcR D (tysA cA cZ cI) (cw x ln cA n tp mo dr ds li K ad g) [.ref (ad k), .int (nI h)]) (vp_Si (fun r => r = b2i (if h < k then crk (a + 1) b else crk a (b + 1)))) 0 0 (fun _ => False) := by
  refine Met.ofW (cc := cX0_wouldBeCrookedWith) (maxL := 3) (ret := (some .boolean)) (by decide) rfl ?_
  intro p e s m args below meth c s₁ B hml hv
  obtain ⟨rfl, hP, hG⟩ := hv
  have hx := B.exec
  have hb := B.bytes
  have hr := B.returns
  have hts := atoms_spec (ws := wsX0_wouldBeCrookedWith) B.pre
  have hown : s.vm.findClass RX0 = some m.cls := findClass_of_methodNamed B.named
  have hlocks := B.notSynchronized
  have hl := lv_entry ([.ref (ad k), .int (nI h)]) (n := 3) (Nat.le_of_ble_eq_true rfl)
  rw [lg_entry_eq]
  generalize (lg_sl ([.ref (ad k), .int (nI h)]) ++ List.replicate (3 - (lg_sl ([.ref (ad k), .int (nI h)])).length) Slot.unset).toArray = ls at hl ⊢
  have hl : lv_has ls 3 [(0, .ref (ad k)), (1, .int (nI h))] := hl
  refine lv_iload_n hx hb dX0_wouldBeCrookedWith_0 rfl (lv_at hl 1 rfl) ?_
  refine lv_aload_n hx hb dX0_wouldBeCrookedWith_1 rfl (lv_at hl 0 rfl) ?_
  obtain ⟨i0, hi0⟩ := cw_s (x := x) (ln := ln) (cA := cA) (n := n) (tp := tp) (mo := mo) (dr := dr) (ds := ds) (li := li) (ad := ad) (g := g) (hk : k ∈ K)
  refine va_get (D := D) (ci := 0) (v := .int (nI k)) (C := RX0) (T := TX0) (N := 5) hx hb hts (by decide +kernel) hown hG.1 hP i0 hi0 rfl 0 (by decide) (hts (.fieldLink RX0 7 "LopsidedRanks$Soldier" "height" "I") (by decide +kernel)) (fun _ h9 => h9) rfl dX0_wouldBeCrookedWith_2 ?_
  refine lv_icmp_ge (tgt := 12) hx hb dX0_wouldBeCrookedWith_5 (by decide) (fun c5 => ?_) (fun c5 => ?_)
  · rw [nI_leI (by omega) (by omega)] at c5
    refine lv_iconst (v := nI 0) hx hb dX0_wouldBeCrookedWith_12 (by decide) ?_
    refine lv_istore_n (lv' := [(2, .int (nI 0)), (0, .ref (ad k)), (1, .int (nI h))]) hx hb dX0_wouldBeCrookedWith_13 rfl hl (by decide) rfl (fun ls hl => ?_)
    refine lv_aload_n hx hb dX0_wouldBeCrookedWith_14 rfl (lv_at hl 1 rfl) ?_
    obtain ⟨i1, hi1⟩ := cw_s (x := x) (ln := ln) (cA := cA) (n := n) (tp := tp) (mo := mo) (dr := dr) (ds := ds) (li := li) (ad := ad) (g := g) (hk : k ∈ K)
    refine va_get (D := D) (ci := 0) (v := va_rf ((g k).2.1.map ad)) (C := RX0) (T := TX0) (N := 5) hx hb hts (by decide +kernel) hown hG.1 hP i1 hi1 rfl 2 (by decide) (hts (.fieldLink RX0 16 "LopsidedRanks$Soldier" "left" "LLopsidedRanks$Soldier;") (by decide +kernel)) (fun _ h9 => h9) rfl dX0_wouldBeCrookedWith_15 ?_
    refine vp_callSi (va_Run.run (va_runSN (As := [va_rf ((g k).2.1.map ad)]) (rest := []) ⟨hx, hb, hml, hown, hts⟩ (c_X1_companyOf l (o := (g k).2.1) (hcl k hk).2.2.1) ⟨va_cnB 1 hts gX0_wouldBeCrookedWith_X1_companyOf_n26 rfl rfl rfl hG.2.1 (hts _ (by decide +kernel)) (by decide +kernel) ⟨Nat.le_of_ble_eq_true rfl, Nat.le_of_ble_eq_true rfl⟩, hts _ (by decide +kernel), trivial⟩ ⟨PcR.blind, PcR.at hP hG⟩ rfl rfl hl.1 rfl (lv_room (Nat.le_of_ble_eq_true rfl)) dX0_wouldBeCrookedWith_18 ⟨Nat.le_of_ble_eq_true rfl, Nat.le_of_ble_eq_true rfl⟩)) (fun r18 q18 => ?_)
    subst q18
    refine zr_eqi ha ?_
    refine lv_iload_n hx hb dX0_wouldBeCrookedWith_21 rfl (lv_at hl 0 rfl) ?_
    refine lv_iadd hx hb dX0_wouldBeCrookedWith_22 ?_
    refine zr_eqi (nI_add a 0) ?_
    refine lv_aload_n hx hb dX0_wouldBeCrookedWith_23 rfl (lv_at hl 1 rfl) ?_
    obtain ⟨i2, hi2⟩ := cw_s (x := x) (ln := ln) (cA := cA) (n := n) (tp := tp) (mo := mo) (dr := dr) (ds := ds) (li := li) (ad := ad) (g := g) (hk : k ∈ K)
    refine va_get (D := D) (ci := 0) (v := va_rf ((g k).2.2.1.map ad)) (C := RX0) (T := TX0) (N := 5) hx hb hts (by decide +kernel) hown hG.1 hP i2 hi2 rfl 3 (by decide) (hts (.fieldLink RX0 20 "LopsidedRanks$Soldier" "right" "LLopsidedRanks$Soldier;") (by decide +kernel)) (fun _ h9 => h9) rfl dX0_wouldBeCrookedWith_24 ?_
    refine vp_callSi (va_Run.run (va_runSN (As := [va_rf ((g k).2.2.1.map ad)]) (rest := [.int (nI (a + 0))]) ⟨hx, hb, hml, hown, hts⟩ (c_X1_companyOf l (o := (g k).2.2.1) (hcl k hk).2.2.2) ⟨va_cnB 1 hts gX0_wouldBeCrookedWith_X1_companyOf_n26 rfl rfl rfl hG.2.1 (hts _ (by decide +kernel)) (by decide +kernel) ⟨Nat.le_of_ble_eq_true rfl, Nat.le_of_ble_eq_true rfl⟩, hts _ (by decide +kernel), trivial⟩ ⟨PcR.blind, PcR.at hP hG⟩ rfl rfl hl.1 rfl (lv_room (Nat.le_of_ble_eq_true rfl)) dX0_wouldBeCrookedWith_27 ⟨Nat.le_of_ble_eq_true rfl, Nat.le_of_ble_eq_true rfl⟩)) (fun r27 q27 => ?_)
    subst q27
    refine zr_eqi hb0 ?_
    refine lv_iconst (v := nI 1) hx hb dX0_wouldBeCrookedWith_30 (by decide) ?_
    refine lv_iadd hx hb dX0_wouldBeCrookedWith_31 ?_
    refine zr_eqi (nI_add b 1) ?_
    refine lv_iload_n hx hb dX0_wouldBeCrookedWith_32 rfl (lv_at hl 0 rfl) ?_
    refine lv_isub hx hb dX0_wouldBeCrookedWith_33 ?_
    refine zr_eqi (pk_sub (a := b + 1) (b := 0) (by omega)) ?_
    refine vp_callSi (va_Run.run (va_runSN (As := [.int (nI (a + 0)), .int (nI ((b + 1) - 0))]) (rest := []) ⟨hx, hb, hml, hown, hts⟩ (c_X1_isCrooked l (a := a + 0) (b := (b + 1) - 0) (by omega) (by omega)) ⟨va_cnB 2 hts gX0_wouldBeCrookedWith_X1_isCrooked_n32 rfl rfl rfl hG.2.2 (hts _ (by decide +kernel)) (by decide +kernel) ⟨Nat.le_of_ble_eq_true rfl, Nat.le_of_ble_eq_true rfl⟩, hts _ (by decide +kernel), trivial⟩ ⟨PcT.blind, PcT.at⟩ rfl rfl hl.1 rfl (lv_room (Nat.le_of_ble_eq_true rfl)) dX0_wouldBeCrookedWith_34 ⟨Nat.le_of_ble_eq_true rfl, Nat.le_of_ble_eq_true rfl⟩)) (fun r34 q34 => ?_)
    subst q34
    exact W.zret (v := (b2i (crk (a + 0) ((b + 1) - 0)))) hx hb hr (b2i_nar _) (fun t ht hW => ⟨_, rfl, by rw [if_neg (by omega)]; rfl, ht⟩) (fun q hq => absurd hq List.not_mem_nil) dX0_wouldBeCrookedWith_37
  · rw [nI_leI (by omega) (by omega)] at c5
    refine lv_iconst (v := nI 1) hx hb dX0_wouldBeCrookedWith_8 (by decide) ?_
    refine lv_goto (tgt := 13) hx hb dX0_wouldBeCrookedWith_9 (by decide) ?_
    refine lv_istore_n (lv' := [(2, .int (nI 1)), (0, .ref (ad k)), (1, .int (nI h))]) hx hb dX0_wouldBeCrookedWith_13 rfl hl (by decide) rfl (fun ls hl => ?_)
    refine lv_aload_n hx hb dX0_wouldBeCrookedWith_14 rfl (lv_at hl 1 rfl) ?_
    obtain ⟨i3, hi3⟩ := cw_s (x := x) (ln := ln) (cA := cA) (n := n) (tp := tp) (mo := mo) (dr := dr) (ds := ds) (li := li) (ad := ad) (g := g) (hk : k ∈ K)
    refine va_get (D := D) (ci := 0) (v := va_rf ((g k).2.1.map ad)) (C := RX0) (T := TX0) (N := 5) hx hb hts (by decide +kernel) hown hG.1 hP i3 hi3 rfl 2 (by decide) (hts (.fieldLink RX0 16 "LopsidedRanks$Soldier" "left" "LLopsidedRanks$Soldier;") (by decide +kernel)) (fun _ h9 => h9) rfl dX0_wouldBeCrookedWith_15 ?_
    refine vp_callSi (va_Run.run (va_runSN (As := [va_rf ((g k).2.1.map ad)]) (rest := []) ⟨hx, hb, hml, hown, hts⟩ (c_X1_companyOf l (o := (g k).2.1) (hcl k hk).2.2.1) ⟨va_cnB 1 hts gX0_wouldBeCrookedWith_X1_companyOf_n26 rfl rfl rfl hG.2.1 (hts _ (by decide +kernel)) (by decide +kernel) ⟨Nat.le_of_ble_eq_true rfl, Nat.le_of_ble_eq_true rfl⟩, hts _ (by decide +kernel), trivial⟩ ⟨PcR.blind, PcR.at hP hG⟩ rfl rfl hl.1 rfl (lv_room (Nat.le_of_ble_eq_true rfl)) dX0_wouldBeCrookedWith_18 ⟨Nat.le_of_ble_eq_true rfl, Nat.le_of_ble_eq_true rfl⟩)) (fun r18 q18 => ?_)
    subst q18
    refine zr_eqi ha ?_
    refine lv_iload_n hx hb dX0_wouldBeCrookedWith_21 rfl (lv_at hl 0 rfl) ?_
    refine lv_iadd hx hb dX0_wouldBeCrookedWith_22 ?_
    refine zr_eqi (nI_add a 1) ?_
    refine lv_aload_n hx hb dX0_wouldBeCrookedWith_23 rfl (lv_at hl 1 rfl) ?_
    obtain ⟨i4, hi4⟩ := cw_s (x := x) (ln := ln) (cA := cA) (n := n) (tp := tp) (mo := mo) (dr := dr) (ds := ds) (li := li) (ad := ad) (g := g) (hk : k ∈ K)
    refine va_get (D := D) (ci := 0) (v := va_rf ((g k).2.2.1.map ad)) (C := RX0) (T := TX0) (N := 5) hx hb hts (by decide +kernel) hown hG.1 hP i4 hi4 rfl 3 (by decide) (hts (.fieldLink RX0 20 "LopsidedRanks$Soldier" "right" "LLopsidedRanks$Soldier;") (by decide +kernel)) (fun _ h9 => h9) rfl dX0_wouldBeCrookedWith_24 ?_
    refine vp_callSi (va_Run.run (va_runSN (As := [va_rf ((g k).2.2.1.map ad)]) (rest := [.int (nI (a + 1))]) ⟨hx, hb, hml, hown, hts⟩ (c_X1_companyOf l (o := (g k).2.2.1) (hcl k hk).2.2.2) ⟨va_cnB 1 hts gX0_wouldBeCrookedWith_X1_companyOf_n26 rfl rfl rfl hG.2.1 (hts _ (by decide +kernel)) (by decide +kernel) ⟨Nat.le_of_ble_eq_true rfl, Nat.le_of_ble_eq_true rfl⟩, hts _ (by decide +kernel), trivial⟩ ⟨PcR.blind, PcR.at hP hG⟩ rfl rfl hl.1 rfl (lv_room (Nat.le_of_ble_eq_true rfl)) dX0_wouldBeCrookedWith_27 ⟨Nat.le_of_ble_eq_true rfl, Nat.le_of_ble_eq_true rfl⟩)) (fun r27 q27 => ?_)
    subst q27
    refine zr_eqi hb0 ?_
    refine lv_iconst (v := nI 1) hx hb dX0_wouldBeCrookedWith_30 (by decide) ?_
    refine lv_iadd hx hb dX0_wouldBeCrookedWith_31 ?_
    refine zr_eqi (nI_add b 1) ?_
    refine lv_iload_n hx hb dX0_wouldBeCrookedWith_32 rfl (lv_at hl 0 rfl) ?_
    refine lv_isub hx hb dX0_wouldBeCrookedWith_33 ?_
    refine zr_eqi (pk_sub (a := b + 1) (b := 1) (by omega)) ?_
    refine vp_callSi (va_Run.run (va_runSN (As := [.int (nI (a + 1)), .int (nI ((b + 1) - 1))]) (rest := []) ⟨hx, hb, hml, hown, hts⟩ (c_X1_isCrooked l (a := a + 1) (b := (b + 1) - 1) (by omega) (by omega)) ⟨va_cnB 2 hts gX0_wouldBeCrookedWith_X1_isCrooked_n32 rfl rfl rfl hG.2.2 (hts _ (by decide +kernel)) (by decide +kernel) ⟨Nat.le_of_ble_eq_true rfl, Nat.le_of_ble_eq_true rfl⟩, hts _ (by decide +kernel), trivial⟩ ⟨PcT.blind, PcT.at⟩ rfl rfl hl.1 rfl (lv_room (Nat.le_of_ble_eq_true rfl)) dX0_wouldBeCrookedWith_34 ⟨Nat.le_of_ble_eq_true rfl, Nat.le_of_ble_eq_true rfl⟩)) (fun r34 q34 => ?_)
    subst q34
    exact W.zret (v := (b2i (crk (a + 1) ((b + 1) - 1)))) hx hb hr (b2i_nar _) (fun t ht hW => ⟨_, rfl, by rw [if_pos (by omega)]; rfl, ht⟩) (fun q hq => absurd hq List.not_mem_nil) dX0_wouldBeCrookedWith_37

def lnOf (p0 : Option Nat) (ks : List Nat) : Int32 := match p0 with
  | none => -1
  | some _ => nI (ks.length - 1)
set_option maxHeartbeats 4000000 in
set_option maxRecDepth 100000 in
/-- depthOf(p) -/
theorem c_X1_depthOf (l : Launch) {D : va_G} {cA cZ cI : ClassId} {x ln : Nat} {n : Int32} {tp : Option Nat} {mo dr ds : Int32} {li : Nat → Option Nat} {K : List Nat} {ad : Nat → Nat} {g : Nat → Nd} {p0 : Option Nat} {ks : List Nat} (hcl : Cl K g) (hp : ∀ k, p0 = some k → k ∈ K) (hu : UpC g p0 ks) : Met l yX1_depthOf wsX1_depthOf ({ frames := 1, cells := 0, slots := 0, locals := 30 } : Room) (PcR D (tysA cA cZ cI) (cw x ln cA n tp mo dr ds li K ad g) [va_rf (p0.map ad)]) (vp_Si (fun r => r = lnOf p0 ks)) 0 0 (fun _ => False) := by
  refine Met.ofW (cc := cX1_depthOf) (maxL := 1) (ret := (some .int)) (by decide) rfl ?_
  intro p e s m args below meth c s₁ B hml hv
  obtain ⟨rfl, hP, hG⟩ := hv
  have hx := B.exec
  have hb := B.bytes
  have hr := B.returns
  have hts := atoms_spec (ws := wsX1_depthOf) B.pre
  have hown : s.vm.findClass RX1 = some m.cls := findClass_of_methodNamed B.named
  have hlocks := B.notSynchronized
  have hl : lv_has ((lg_sl ([va_rf (p0.map ad)]) ++ List.replicate (1 - (lg_sl ([va_rf (p0.map ad)])).length) Slot.unset).toArray) 1 [(0, va_rf (p0.map ad))] := by cases p0 <;> exact lv_entry _ (Nat.le_of_ble_eq_true rfl)
  rw [lg_entry_eq]
  generalize (lg_sl ([va_rf (p0.map ad)]) ++ List.replicate (1 - (lg_sl ([va_rf (p0.map ad)])).length) Slot.unset).toArray = ls at hl ⊢
  have hl : lv_has ls 1 [(0, va_rf (p0.map ad))] := hl
  refine zr_aload_n hx hb dX1_depthOf_0 rfl (lv_at hl 0 rfl) ?_
  refine zr_ifnonnull (tgt := 8) hx hb dX1_depthOf_1 (by decide) (fun c1 => ?_) (fun k1 c1 => ?_)
  · subst c1
    have hl : lv_has ls 1 [(0, .null)] := hl
    refine lv_iconst (v := (-1)) hx hb dX1_depthOf_4 (by decide) ?_
    refine lv_goto (tgt := 12) hx hb dX1_depthOf_5 (by decide) ?_
    exact W.iret (v := (-1)) hx hb hr (fun t ht hW => ⟨_, rfl, rfl, ht⟩) (fun q hq => absurd hq List.not_mem_nil) dX1_depthOf_12
  · subst c1
    have hl : lv_has ls 1 [(0, .ref (ad k1))] := hl
    cases ks with
    | nil => cases hu
    | cons k9 ks =>
      obtain ⟨e9, hu2⟩ := hu
      cases e9
      refine lv_aload_n hx hb dX1_depthOf_8 rfl (lv_at hl 0 rfl) ?_
      obtain ⟨i0, hi0⟩ := cw_s (x := x) (ln := ln) (cA := cA) (n := n) (tp := tp) (mo := mo) (dr := dr) (ds := ds) (li := li) (ad := ad) (g := g) ((hp k1 rfl) : k1 ∈ K)
      refine vp_callSi (va_Run.run (va_runV (As := []) (rest := []) ⟨hx, hb, hml, hown, hts⟩ (c_X0_depth l (hp k1 rfl) hu2 (hcl.up hu2 (hcl k1 (hp k1 rfl)).2.1)) (cwV 0 hts gX1_depthOf_X0_depth rfl rfl rfl (by decide +kernel) ⟨Nat.le_of_ble_eq_true rfl, Nat.le_of_ble_eq_true rfl⟩) ⟨PcR.blind, va_recv hG.1 hP (ci := 0) (q0 := i0) rfl hi0, PcR.at hP hG⟩ rfl rfl hl.1 rfl (lv_room (Nat.le_of_ble_eq_true rfl)) dX1_depthOf_9 ⟨Nat.le_of_ble_eq_true rfl, Nat.le_of_ble_eq_true rfl⟩)) (fun r9 q9 => ?_)
      subst q9
      exact W.iret (v := (nI ks.length)) hx hb hr (fun t ht hW => ⟨_, rfl, rfl, ht⟩) (fun q hq => absurd hq List.not_mem_nil) dX1_depthOf_12

theorem lnOf_1 {g : Nat → Nd} {p0 : Option Nat} {ks : List Nat} (hu : UpC g p0 ks) : lnOf p0 ks + nI 1 = nI ks.length := by
  cases ks with
  | nil =>
    have hu : p0 = none := hu
    subst hu; rfl
  | cons k ks =>
    obtain ⟨rfl, -⟩ := hu
    show nI (ks.length + 1 - 1) + nI 1 = nI (ks.length + 1)
    rw [nI_add]; rfl
set_option maxHeartbeats 4000000 in
set_option maxRecDepth 100000 in
/-- newDepth(p) -/
theorem c_X1_newDepth (l : Launch) {D : va_G} {cA cZ cI : ClassId} {x ln : Nat} {n : Int32} {tp : Option Nat} {mo dr ds : Int32} {li : Nat → Option Nat} {K : List Nat} {ad : Nat → Nat} {g : Nat → Nd} {p0 : Option Nat} {ks : List Nat} (hcl : Cl K g) (hp : ∀ k, p0 = some k → k ∈ K) (hu : UpC g p0 ks) : Met l yX1_newDepth wsX1_newDepth ({ frames := 2, cells := 0, slots := 0, locals := 60 } : Room) (PcR D (tysA cA cZ cI) (cw x ln cA n tp mo dr ds li K ad g) [va_rf (p0.map ad)]) (vp_Si (fun r => r = nI ks.length)) 0 0 (fun _ => False) := by
  refine Met.ofW (cc := cX1_newDepth) (maxL := 1) (ret := (some .int)) (by decide) rfl ?_
  intro p e s m args below meth c s₁ B hml hv
  obtain ⟨rfl, hP, hG⟩ := hv
  have hx := B.exec
  have hb := B.bytes
  have hr := B.returns
  have hts := atoms_spec (ws := wsX1_newDepth) B.pre
  have hown : s.vm.findClass RX1 = some m.cls := findClass_of_methodNamed B.named
  have hlocks := B.notSynchronized
  have hl : lv_has ((lg_sl ([va_rf (p0.map ad)]) ++ List.replicate (1 - (lg_sl ([va_rf (p0.map ad)])).length) Slot.unset).toArray) 1 [(0, va_rf (p0.map ad))] := by cases p0 <;> exact lv_entry _ (Nat.le_of_ble_eq_true rfl)
  rw [lg_entry_eq]
  generalize (lg_sl ([va_rf (p0.map ad)]) ++ List.replicate (1 - (lg_sl ([va_rf (p0.map ad)])).length) Slot.unset).toArray = ls at hl ⊢
  have hl : lv_has ls 1 [(0, va_rf (p0.map ad))] := hl
  refine zr_aload_n hx hb dX1_newDepth_0 rfl (lv_at hl 0 rfl) ?_
  refine vp_callSi (va_Run.run (va_runS (As := [va_rf (p0.map ad)]) (rest := []) ⟨hx, hb, hml, hown, hts⟩ (c_X1_depthOf l hcl hp hu) (va_cwS 1 hts gX1_newDepth_X1_depthOf rfl rfl rfl (by decide +kernel) ⟨Nat.le_of_ble_eq_true rfl, Nat.le_of_ble_eq_true rfl⟩) ⟨PcR.blind, PcR.at hP hG⟩ rfl rfl hl.1 rfl (lv_room (Nat.le_of_ble_eq_true rfl)) dX1_newDepth_1 ⟨Nat.le_of_ble_eq_true rfl, Nat.le_of_ble_eq_true rfl⟩)) (fun r1 q1 => ?_)
  subst q1
  refine lv_iconst (v := nI 1) hx hb dX1_newDepth_4 (by decide) ?_
  refine lv_iadd hx hb dX1_newDepth_5 ?_
  exact W.iret (v := ((lnOf p0 ks) + (nI 1))) hx hb hr (fun t ht hW => ⟨_, rfl, lnOf_1 hu, ht⟩) (fun q hq => absurd hq List.not_mem_nil) dX1_newDepth_6

set_option maxHeartbeats 4000000 in
set_option maxRecDepth 100000 in
theorem L_X1_find {D : va_G} {cA cZ cI : ClassId} {x ln : Nat} {n : Int32} {tp : Option Nat} {mo dr ds : Int32} {li : Nat → Option Nat} {K : List Nat} {ad : Nat → Nat} {g : Nat → Nd} {p : Program} {l : Launch} {e : Env} {R : Room} {s : State} {m : MethodId} {args : Array Value} {below : List Frame} {meth : Method} {c : Code} {Q : State → Prop} {cells slots : Nat} {H : Heap} {locs : List Loc} (hx : p.tables.exec = Jvm.exec) (hb : c.code = cX1_find) (hml : c.maxLocals = 3) (hts : ∀ w ∈ wsX1_find, w.before args s = true) (hown : s.vm.findClass RX1 = some m.cls) (hG : GK D (tysA cA cZ cI) s) (hP : va_P D vwCl (cw x ln cA n tp mo dr ds li K ad g) H) (hR : 1 ≤ R.frames ∧ 40 ≤ R.locals) (hC : cells ≤ R.cells ∧ slots ≤ R.slots) {h : Nat} (hh : h < 1000) : ∀ {t : Tr} {a : Option Nat}, ShP g a t → (∀ j ∈ keysT t, j ∈ K ∧ j < 1000) → (∀ ls, lv_has ls 3 [(2, va_rf ((root (subT h t)).map ad)), (0, .ref x), (1, .int (nI h))] → W p l e R s m args below meth c H locs cells slots Q (F0 m 26 ls [])) → ∀ ls, lv_has ls 3 [(2, va_rf ((root t).map ad)), (0, .ref x), (1, .int (nI h))] → W p l e R s m args below meth c H locs cells slots Q (F0 m 5 ls []) := by
  intro t
  induction t with
  | leaf =>
    intro a _ hin kk ls hl
    have hl : lv_has ls 3 [(2, .null), (0, .ref x), (1, .int (nI h))] := hl
    refine lv_aload_nN hx hb dX1_find_5 rfl (lv_at hl 0 rfl) ?_
    refine lv_ifnullN (tgt := 26) hx hb dX1_find_6 (by decide) ?_
    exact kk _ hl
  | inner sz k v lt rt ihl ihr =>
    intro a hs hin kk ls hl
    obtain ⟨h1, h2, h3, h4, h5⟩ := hs
    obtain ⟨hk, hkn⟩ := hin k ((keys_in ..).mpr (Or.inr (Or.inl rfl)))
    have hl : lv_has ls 3 [(2, .ref (ad k)), (0, .ref x), (1, .int (nI h))] := hl
    refine lv_aload_n hx hb dX1_find_5 rfl (lv_at hl 0 rfl) ?_
    refine lv_ifnull hx hb dX1_find_6 ?_
    refine lv_aload_n hx hb dX1_find_9 rfl (lv_at hl 0 rfl) ?_
    obtain ⟨i0, hi0⟩ := cw_s (x := x) (ln := ln) (cA := cA) (n := n) (tp := tp) (mo := mo) (dr := dr) (ds := ds) (li := li) (ad := ad) (g := g) (hk : k ∈ K)
    refine va_get (D := D) (ci := 0) (v := .int (nI k)) (C := RX0) (T := TX0) (N := 5) hx hb hts (by decide +kernel) hown hG.1 hP i0 hi0 rfl 0 (by decide) (hts (.fieldLink RX1 100 "LopsidedRanks$Soldier" "height" "I") (by decide +kernel)) (fun _ h9 => h9) rfl dX1_find_10 ?_
    refine lv_iload_n hx hb dX1_find_13 rfl (lv_at hl 2 rfl) ?_
    refine lv_icmp_eq (tgt := 26) hx hb dX1_find_14 (by decide) (fun c14 => ?_) (fun c14 => ?_)
    · rw [nI_eq (by omega) (by omega)] at c14
      have e9 : subT h (.inner sz k v lt rt) = .inner sz k v lt rt := by simp [subT, c14]
      rw [e9] at kk
      exact kk _ hl
    · rw [nI_eq (by omega) (by omega)] at c14
      have c14s : ¬ h = k := fun q => c14 q.symm
      refine lv_aload_n hx hb dX1_find_17 rfl (lv_at hl 0 rfl) ?_
      refine lv_iload_n hx hb dX1_find_18 rfl (lv_at hl 2 rfl) ?_
      obtain ⟨i1, hi1⟩ := cw_s (x := x) (ln := ln) (cA := cA) (n := n) (tp := tp) (mo := mo) (dr := dr) (ds := ds) (li := li) (ad := ad) (g := g) (hk : k ∈ K)
      refine va_csq (va_Run.run (va_runV (As := [.int (nI h)]) (rest := []) ⟨hx, hb, hml, hown, hts⟩ (c_X0_towards l hk (by omega) (by omega)) (cwV 1 hts gX1_find_X0_towards rfl rfl rfl (by decide +kernel) ⟨hR.1, Nat.le_trans (Nat.le_of_ble_eq_true rfl) hR.2⟩) ⟨PcR.blind, va_recv hG.1 hP (ci := 0) (q0 := i1) rfl hi1, PcR.at hP hG⟩ rfl rfl hl.1 rfl (lv_room (Nat.le_of_ble_eq_true rfl)) dX1_find_19 ⟨hC.1, hC.2⟩)) (fun r19 q19 => ?_)
      subst q19
      refine zr_astore_n (lv' := [(2, va_rf ((if h < k then (g k).2.1 else (g k).2.2.1).map ad)), (0, .ref x), (1, .int (nI h))]) hx hb dX1_find_22 rfl hl (by decide) rfl (fun ls hl => ?_)
      refine lv_goto (tgt := 5) hx hb dX1_find_23 (by decide) ?_
      by_cases hlt : h < k
      · rw [if_pos hlt, h2] at hl
        have e9 : subT h (.inner sz k v lt rt) = subT h lt := by simp [subT, hlt, c14s]
        rw [e9] at kk
        exact ihl h4 (fun j hj => hin j ((keys_in ..).mpr (Or.inl hj))) kk _ (lv_sub hl [0, 1, 2] rfl)
      · rw [if_neg hlt, h3] at hl
        have e9 : subT h (.inner sz k v lt rt) = subT h rt := by simp [subT, hlt, c14s]
        rw [e9] at kk
        exact ihr h5 (fun j hj => hin j ((keys_in ..).mpr (Or.inr (Or.inr hj)))) kk _ (lv_sub hl [0, 1, 2] rfl)
set_option maxHeartbeats 4000000 in
set_option maxRecDepth 100000 in
/-- find(h) -/
theorem c_X1_find (l : Launch) {D : va_G} {cA cZ cI : ClassId} {x ln : Nat} {n : Int32} {mo dr ds : Int32} {li : Nat → Option Nat} {K : List Nat} {ad : Nat → Nat} {g : Nat → Nd} {T : Tr} {h : Nat} (hh : h < 1000) (hs : ShP g none T) (hin : ∀ j ∈ keysT T, j ∈ K ∧ j < 1000) : Met l yX1_find wsX1_find ({ frames := 1, cells := 0, slots := 0, locals := 40 } : Room) (PcR D (tysA cA cZ cI) (cw x ln cA n (root T) mo dr ds li K ad g) [.ref x, .int (nI h)]) (va_Sq (fun r => r = (root (subT h T)).map ad)) 0 0 (fun _ => False) := by
  refine Met.ofW (cc := cX1_find) (maxL := 3) (ret := (some (.object "LopsidedRanks$Soldier"))) (by decide) rfl ?_
  intro p e s m args below meth c s₁ B hml hv
  obtain ⟨rfl, hP, hG⟩ := hv
  have hx := B.exec
  have hb := B.bytes
  have hr := B.returns
  have hts := atoms_spec (ws := wsX1_find) B.pre
  have hown : s.vm.findClass RX1 = some m.cls := findClass_of_methodNamed B.named
  have hlocks := B.notSynchronized
  have hl := lv_entry ([.ref x, .int (nI h)]) (n := 3) (Nat.le_of_ble_eq_true rfl)
  rw [lg_entry_eq]
  generalize (lg_sl ([.ref x, .int (nI h)]) ++ List.replicate (3 - (lg_sl ([.ref x, .int (nI h)])).length) Slot.unset).toArray = ls at hl ⊢
  have hl : lv_has ls 3 [(0, .ref x), (1, .int (nI h))] := hl
  refine lv_aload_n hx hb dX1_find_0 rfl (lv_at hl 0 rfl) ?_
  refine va_get (D := D) (ci := 1) (v := va_rf ((root T).map ad)) (C := RX1) (T := TX1) (N := 6) hx hb hts (by decide +kernel) hown hG.1 hP 0 cw_x rfl 2 (by decide) (hts (.fieldLink RX1 77 "LopsidedRanks" "top" "LLopsidedRanks$Soldier;") (by decide +kernel)) (fun _ h9 => h9) rfl dX1_find_1 ?_
  refine zr_astore_n (lv' := [(2, va_rf ((root T).map ad)), (0, .ref x), (1, .int (nI h))]) hx hb dX1_find_4 rfl hl (by decide) rfl (fun ls hl => ?_)
  refine L_X1_find (t := T) hx hb hml hts hown hG hP ⟨Nat.le_of_ble_eq_true rfl, Nat.le_of_ble_eq_true rfl⟩ ⟨Nat.zero_le _, Nat.zero_le _⟩ hh hs hin (fun ls hl => ?_) _ (lv_sub hl [0, 1, 2] rfl)
  refine zr_aload_n hx hb dX1_find_26 rfl (lv_at hl 0 rfl) ?_
  exact zr_aret (r := (root (subT h T)).map ad) hx hb hr (Or.inl ⟨_, rfl⟩) (fun t ht hW => ⟨_, rfl, rfl, ht⟩) (fun q hq => absurd hq List.not_mem_nil) dX1_find_27 hlocks
end
section
/-! READERS of the class, second part -/
set_option maxHeartbeats 4000000 in
set_option maxRecDepth 100000 in
theorem L_X1_lastOnTheWayTo {D : va_G} {cA cZ cI : ClassId} {x ln : Nat} {n : Int32} {tp : Option Nat} {mo dr ds : Int32} {li : Nat → Option Nat} {K : List Nat} {ad : Nat → Nat} {g : Nat → Nd} {p : Program} {l : Launch} {e : Env} {R : Room} {s : State} {m : MethodId} {args : Array Value} {below : List Frame} {meth : Method} {c : Code} {Q : State → Prop} {cells slots : Nat} {H : Heap} {locs : List Loc} (hx : p.tables.exec = Jvm.exec) (hb : c.code = cX1_lastOnTheWayTo) (hml : c.maxLocals = 4) (hts : ∀ w ∈ wsX1_lastOnTheWayTo, w.before args s = true) (hown : s.vm.findClass RX1 = some m.cls) (hG : GK D (tysA cA cZ cI) s) (hP : va_P D vwCl (cw x ln cA n tp mo dr ds li K ad g) H) (hR : 1 ≤ R.frames ∧ 40 ≤ R.locals) (hC : cells ≤ R.cells ∧ slots ≤ R.slots) {h : Nat} (hh : h < 1000) : ∀ {t : Tr} {a : Option Nat}, ShP g a t → (∀ j ∈ keysT t, j ∈ K ∧ j < 1000) → root (subT h t) = none → (∀ ls, lv_has ls 4 [(3, .null), (2, va_rf ((parF h a t).map ad)), (0, .ref x), (1, .int (nI h))] → W p l e R s m args below meth c H locs cells slots Q (F0 m 22 ls [])) → ∀ ls, lv_has ls 4 [(3, va_rf ((root t).map ad)), (2, va_rf (a.map ad)), (0, .ref x), (1, .int (nI h))] → W p l e R s m args below meth c H locs cells slots Q (F0 m 7 ls []) := by
  intro t
  induction t with
  | leaf =>
    intro a _ hin hn kk ls hl
    have hl : lv_has ls 4 [(3, .null), (2, va_rf (a.map ad)), (0, .ref x), (1, .int (nI h))] := hl
    refine lv_aload_nN hx hb dX1_lastOnTheWayTo_7 rfl (lv_at hl 0 rfl) ?_
    refine lv_ifnullN (tgt := 22) hx hb dX1_lastOnTheWayTo_8 (by decide) ?_
    exact kk _ hl
  | inner sz k v lt rt ihl ihr =>
    intro a hs hin hn kk ls hl
    obtain ⟨h1, h2, h3, h4, h5⟩ := hs
    obtain ⟨hk, hkn⟩ := hin k ((keys_in ..).mpr (Or.inr (Or.inl rfl)))
    have hne : ¬ h = k := by
      intro q
      subst q
      rw [sub_s] at hn
      cases hn
    have hl : lv_has ls 4 [(3, .ref (ad k)), (2, va_rf (a.map ad)), (0, .ref x), (1, .int (nI h))] := hl
    refine lv_aload_n hx hb dX1_lastOnTheWayTo_7 rfl (lv_at hl 0 rfl) ?_
    refine lv_ifnull hx hb dX1_lastOnTheWayTo_8 ?_
    refine lv_aload_n hx hb dX1_lastOnTheWayTo_11 rfl (lv_at hl 0 rfl) ?_
    refine lv_astore_n (lv' := [(2, .ref (ad k)), (3, .ref (ad k)), (0, .ref x), (1, .int (nI h))]) hx hb dX1_lastOnTheWayTo_12 rfl hl (by decide) rfl (fun ls hl => ?_)
    refine lv_aload_n hx hb dX1_lastOnTheWayTo_13 rfl (lv_at hl 1 rfl) ?_
    refine lv_iload_n hx hb dX1_lastOnTheWayTo_14 rfl (lv_at hl 3 rfl) ?_
    obtain ⟨i0, hi0⟩ := cw_s (x := x) (ln := ln) (cA := cA) (n := n) (tp := tp) (mo := mo) (dr := dr) (ds := ds) (li := li) (ad := ad) (g := g) (hk : k ∈ K)
    refine va_csq (va_Run.run (va_runV (As := [.int (nI h)]) (rest := []) ⟨hx, hb, hml, hown, hts⟩ (c_X0_towards l hk (by omega) (by omega)) (cwV 1 hts gX1_lastOnTheWayTo_X0_towards rfl rfl rfl (by decide +kernel) ⟨Nat.le_trans (Nat.le_of_ble_eq_true rfl) hR.1, Nat.le_trans (Nat.le_of_ble_eq_true rfl) hR.2⟩) ⟨PcR.blind, va_recv hG.1 hP (ci := 0) (q0 := i0) rfl hi0, PcR.at hP hG⟩ rfl rfl hl.1 rfl (lv_room (Nat.le_of_ble_eq_true rfl)) dX1_lastOnTheWayTo_15 ⟨hC.1, hC.2⟩)) (fun r15 q15 => ?_)
    subst q15
    refine zr_astore_n (lv' := [(3, va_rf ((if h < k then (g k).2.1 else (g k).2.2.1).map ad)), (2, .ref (ad k)), (0, .ref x), (1, .int (nI h))]) hx hb dX1_lastOnTheWayTo_18 rfl hl (by decide) rfl (fun ls hl => ?_)
    refine lv_goto (tgt := 7) hx hb dX1_lastOnTheWayTo_19 (by decide) ?_
    by_cases hlt : h < k
    · rw [if_pos hlt, h2] at hl
      rw [sub_l hlt] at hn
      have e9 : parF h a (.inner sz k v lt rt) = parF h (some k) lt := by simp [parF, hlt, hne]
      rw [e9] at kk
      exact ihl (a := some k) h4 (fun j hj => hin j ((keys_in ..).mpr (Or.inl hj))) hn kk _ hl
    · rw [if_neg hlt, h3] at hl
      rw [sub_r (by omega)] at hn
      have e9 : parF h a (.inner sz k v lt rt) = parF h (some k) rt := by simp [parF, hlt, hne]
      rw [e9] at kk
      exact ihr (a := some k) h5 (fun j hj => hin j ((keys_in ..).mpr (Or.inr (Or.inr hj)))) hn kk _ hl
set_option maxHeartbeats 4000000 in
set_option maxRecDepth 100000 in
/-- lastOnTheWayTo(h), where h is not there -/
theorem c_X1_lastOnTheWayTo (l : Launch) {D : va_G} {cA cZ cI : ClassId} {x ln : Nat} {n : Int32} {mo dr ds : Int32} {li : Nat → Option Nat} {K : List Nat} {ad : Nat → Nat} {g : Nat → Nd} {T : Tr} {h : Nat} (hh : h < 1000) (hs : ShP g none T) (hin : ∀ j ∈ keysT T, j ∈ K ∧ j < 1000) (hn : root (subT h T) = none) : Met l yX1_lastOnTheWayTo wsX1_lastOnTheWayTo ({ frames := 1, cells := 0, slots := 0, locals := 40 } : Room) (PcR D (tysA cA cZ cI) (cw x ln cA n (root T) mo dr ds li K ad g) [.ref x, .int (nI h)]) (va_Sq (fun r => r = (parF h none T).map ad)) 0 0 (fun _ => False) := by
  refine Met.ofW (cc := cX1_lastOnTheWayTo) (maxL := 4) (ret := (some (.object "LopsidedRanks$Soldier"))) (by decide) rfl ?_
  intro p e s m args below meth c s₁ B hml hv
  obtain ⟨rfl, hP, hG⟩ := hv
  have hx := B.exec
  have hb := B.bytes
  have hr := B.returns
  have hts := atoms_spec (ws := wsX1_lastOnTheWayTo) B.pre
  have hown : s.vm.findClass RX1 = some m.cls := findClass_of_methodNamed B.named
  have hlocks := B.notSynchronized
  have hl := lv_entry ([.ref x, .int (nI h)]) (n := 4) (Nat.le_of_ble_eq_true rfl)
  rw [lg_entry_eq]
  generalize (lg_sl ([.ref x, .int (nI h)]) ++ List.replicate (4 - (lg_sl ([.ref x, .int (nI h)])).length) Slot.unset).toArray = ls at hl ⊢
  have hl : lv_has ls 4 [(0, .ref x), (1, .int (nI h))] := hl
  refine lv_null hx hb dX1_lastOnTheWayTo_0 ?_
  refine lv_astore_nN (lv' := [(2, .null), (0, .ref x), (1, .int (nI h))]) hx hb dX1_lastOnTheWayTo_1 rfl hl (by decide) rfl (fun ls hl => ?_)
  refine lv_aload_n hx hb dX1_lastOnTheWayTo_2 rfl (lv_at hl 1 rfl) ?_
  refine va_get (D := D) (ci := 1) (v := va_rf ((root T).map ad)) (C := RX1) (T := TX1) (N := 6) hx hb hts (by decide +kernel) hown hG.1 hP 0 cw_x rfl 2 (by decide) (hts (.fieldLink RX1 77 "LopsidedRanks" "top" "LLopsidedRanks$Soldier;") (by decide +kernel)) (fun _ h9 => h9) rfl dX1_lastOnTheWayTo_3 ?_
  refine zr_astore_n (lv' := [(3, va_rf ((root T).map ad)), (2, .null), (0, .ref x), (1, .int (nI h))]) hx hb dX1_lastOnTheWayTo_6 rfl hl (by decide) rfl (fun ls hl => ?_)
  refine L_X1_lastOnTheWayTo (t := T) (a := none) hx hb hml hts hown hG hP ⟨Nat.le_of_ble_eq_true rfl, Nat.le_of_ble_eq_true rfl⟩ ⟨Nat.zero_le _, Nat.zero_le _⟩ hh hs hin hn (fun ls hl => ?_) _ hl
  refine zr_aload_n hx hb dX1_lastOnTheWayTo_22 rfl (lv_at hl 1 rfl) ?_
  exact zr_aret (r := (parF h none T).map ad) hx hb hr (Or.inl ⟨_, rfl⟩) (fun t ht hW => ⟨_, rfl, rfl, ht⟩) (fun q hq => absurd hq List.not_mem_nil) dX1_lastOnTheWayTo_23 hlocks

set_option maxHeartbeats 4000000 in
set_option maxRecDepth 100000 in
theorem L_X1_smallerThan {D : va_G} {cA cZ cI : ClassId} {x ln : Nat} {n : Int32} {tp : Option Nat} {mo dr ds : Int32} {li : Nat → Option Nat} {K : List Nat} {ad : Nat → Nat} {g : Nat → Nd} {p : Program} {l : Launch} {e : Env} {R : Room} {s : State} {m : MethodId} {args : Array Value} {below : List Frame} {meth : Method} {c : Code} {Q : State → Prop} {cells slots : Nat} {H : Heap} {locs : List Loc} (hx : p.tables.exec = Jvm.exec) (hb : c.code = cX1_smallerThan) (hml : c.maxLocals = 4) (hts : ∀ w ∈ wsX1_smallerThan, w.before args s = true) (hown : s.vm.findClass RX1 = some m.cls) (hG : GK D (tysA cA cZ cI) s) (hP : va_P D vwCl (cw x ln cA n tp mo dr ds li K ad g) H) (hR : 1 ≤ R.frames ∧ 40 ≤ R.locals) (hC : cells ≤ R.cells ∧ slots ≤ R.slots) (hcl : Cl K g) {h : Nat} (hh : h ≤ 1000) : ∀ {t : Tr} {a : Option Nat} {d : Nat}, ShP g a t → ShC g t → (∀ j ∈ keysT t, j ∈ K ∧ j < 1000) → (∀ ls, W p l e R s m args below meth c H locs cells slots Q (F0 m 28 ls [.int (nI (d + cntLt h t))])) → (∀ ls, W p l e R s m args below meth c H locs cells slots Q (F0 m 59 ls [.int (nI (d + cntLt h t))])) → ∀ ls, lv_has ls 4 [(3, va_rf ((root t).map ad)), (2, .int (nI d)), (0, .ref x), (1, .int (nI h))] → W p l e R s m args below meth c H locs cells slots Q (F0 m 7 ls []) := by
  intro t
  induction t with
  | leaf =>
    intro a d _ _ hin k28 k59 ls hl
    have hl : lv_has ls 4 [(3, .null), (2, .int (nI d)), (0, .ref x), (1, .int (nI h))] := hl
    refine lv_aload_nN hx hb dX1_smallerThan_7 rfl (lv_at hl 0 rfl) ?_
    refine lv_ifnullN (tgt := 58) hx hb dX1_smallerThan_8 (by decide) ?_
    refine lv_iload_n hx hb dX1_smallerThan_58 rfl (lv_at hl 1 rfl) ?_
    exact k59 _
  | inner sz k v lt rt ihl ihr =>
    intro a d hs hc hin k28 k59 ls hl
    obtain ⟨h1, h2, h3, h4, h5⟩ := hs
    obtain ⟨hc1, hc4, hc5⟩ := hc
    obtain ⟨hk, hkn⟩ := hin k ((keys_in ..).mpr (Or.inr (Or.inl rfl)))
    have hco : coOf g (g k).2.1 = nI (siz lt) := by rw [h2]; exact co_root hc4
    have hl : lv_has ls 4 [(3, .ref (ad k)), (2, .int (nI d)), (0, .ref x), (1, .int (nI h))] := hl
    refine lv_aload_n hx hb dX1_smallerThan_7 rfl (lv_at hl 0 rfl) ?_
    refine lv_ifnull hx hb dX1_smallerThan_8 ?_
    refine lv_aload_n hx hb dX1_smallerThan_11 rfl (lv_at hl 0 rfl) ?_
    obtain ⟨i0, hi0⟩ := cw_s (x := x) (ln := ln) (cA := cA) (n := n) (tp := tp) (mo := mo) (dr := dr) (ds := ds) (li := li) (ad := ad) (g := g) (hk : k ∈ K)
    refine va_get (D := D) (ci := 0) (v := .int (nI k)) (C := RX0) (T := TX0) (N := 5) hx hb hts (by decide +kernel) hown hG.1 hP i0 hi0 rfl 0 (by decide) (hts (.fieldLink RX1 100 "LopsidedRanks$Soldier" "height" "I") (by decide +kernel)) (fun _ h9 => h9) rfl dX1_smallerThan_12 ?_
    refine lv_iload_n hx hb dX1_smallerThan_15 rfl (lv_at hl 3 rfl) ?_
    refine lv_icmp_ne (tgt := 29) hx hb dX1_smallerThan_16 (by decide) (fun c16 => ?_) (fun c16 => ?_)
    · rw [nI_eq (by omega) (by omega)] at c16
      have hne : ¬ h = k := fun q => c16 q.symm
      refine lv_aload_n hx hb dX1_smallerThan_29 rfl (lv_at hl 0 rfl) ?_
      obtain ⟨i1, hi1⟩ := cw_s (x := x) (ln := ln) (cA := cA) (n := n) (tp := tp) (mo := mo) (dr := dr) (ds := ds) (li := li) (ad := ad) (g := g) (hk : k ∈ K)
      refine va_get (D := D) (ci := 0) (v := .int (nI k)) (C := RX0) (T := TX0) (N := 5) hx hb hts (by decide +kernel) hown hG.1 hP i1 hi1 rfl 0 (by decide) (hts (.fieldLink RX1 100 "LopsidedRanks$Soldier" "height" "I") (by decide +kernel)) (fun _ h9 => h9) rfl dX1_smallerThan_30 ?_
      refine lv_iload_n hx hb dX1_smallerThan_33 rfl (lv_at hl 3 rfl) ?_
      refine lv_icmp_ge (tgt := 49) hx hb dX1_smallerThan_34 (by decide) (fun c34 => ?_) (fun c34 => ?_)
      · rw [nI_leI (by omega) (by omega)] at c34
        refine lv_aload_n hx hb dX1_smallerThan_49 rfl (lv_at hl 0 rfl) ?_
        refine lv_iload_n hx hb dX1_smallerThan_50 rfl (lv_at hl 3 rfl) ?_
        obtain ⟨i2, hi2⟩ := cw_s (x := x) (ln := ln) (cA := cA) (n := n) (tp := tp) (mo := mo) (dr := dr) (ds := ds) (li := li) (ad := ad) (g := g) (hk : k ∈ K)
        refine va_csq (va_Run.run (va_runV (As := [.int (nI h)]) (rest := []) ⟨hx, hb, hml, hown, hts⟩ (c_X0_towards l hk (by omega) (by omega)) (cwV 1 hts gX1_smallerThan_X0_towards rfl rfl rfl (by decide +kernel) ⟨Nat.le_trans (Nat.le_of_ble_eq_true rfl) hR.1, Nat.le_trans (Nat.le_of_ble_eq_true rfl) hR.2⟩) ⟨PcR.blind, va_recv hG.1 hP (ci := 0) (q0 := i2) rfl hi2, PcR.at hP hG⟩ rfl rfl hl.1 rfl (lv_room (Nat.le_of_ble_eq_true rfl)) dX1_smallerThan_51 ⟨hC.1, hC.2⟩)) (fun r51 q51 => ?_)
        subst q51
        refine zr_astore_n (lv' := [(3, va_rf ((if h < k then (g k).2.1 else (g k).2.2.1).map ad)), (2, .int (nI d)), (0, .ref x), (1, .int (nI h))]) hx hb dX1_smallerThan_54 rfl hl (by decide) rfl (fun ls hl => ?_)
        refine lv_goto (tgt := 7) hx hb dX1_smallerThan_55 (by decide) ?_
        have hlt : h < k := by omega
        rw [if_pos hlt, h2] at hl
        have e9 : cntLt h (.inner sz k v lt rt) = cntLt h lt := by simp [cntLt, hlt, hne]
        rw [e9] at k28 k59
        exact ihl h4 hc4 (fun j hj => hin j ((keys_in ..).mpr (Or.inl hj))) k28 k59 _ (lv_sub hl [0, 1, 2, 3] rfl)
      · rw [nI_leI (by omega) (by omega)] at c34
        refine lv_iload_n hx hb dX1_smallerThan_37 rfl (lv_at hl 1 rfl) ?_
        refine lv_aload_n hx hb dX1_smallerThan_38 rfl (lv_at hl 0 rfl) ?_
        obtain ⟨i3, hi3⟩ := cw_s (x := x) (ln := ln) (cA := cA) (n := n) (tp := tp) (mo := mo) (dr := dr) (ds := ds) (li := li) (ad := ad) (g := g) (hk : k ∈ K)
        refine va_get (D := D) (ci := 0) (v := va_rf ((g k).2.1.map ad)) (C := RX0) (T := TX0) (N := 5) hx hb hts (by decide +kernel) hown hG.1 hP i3 hi3 rfl 2 (by decide) (hts (.fieldLink RX1 150 "LopsidedRanks$Soldier" "left" "LLopsidedRanks$Soldier;") (by decide +kernel)) (fun _ h9 => h9) rfl dX1_smallerThan_39 ?_
        refine vp_callSi (va_Run.run (va_runS (As := [va_rf ((g k).2.1.map ad)]) (rest := [.int (nI d)]) ⟨hx, hb, hml, hown, hts⟩ (c_X1_companyOf l (o := (g k).2.1) (hcl k hk).2.2.1) (va_cwS 1 hts gX1_smallerThan_X1_companyOf rfl rfl rfl (by decide +kernel) ⟨Nat.le_trans (Nat.le_of_ble_eq_true rfl) hR.1, Nat.le_trans (Nat.le_of_ble_eq_true rfl) hR.2⟩) ⟨PcR.blind, PcR.at hP hG⟩ rfl rfl hl.1 rfl (lv_room (Nat.le_of_ble_eq_true rfl)) dX1_smallerThan_42 ⟨hC.1, hC.2⟩)) (fun r42 q42 => ?_)
        subst q42
        refine zr_eqi hco ?_
        refine lv_iconst (v := nI 1) hx hb dX1_smallerThan_45 (by decide) ?_
        refine lv_iadd hx hb dX1_smallerThan_46 ?_
        refine zr_eqi (nI_add (siz lt) 1) ?_
        refine lv_iadd hx hb dX1_smallerThan_47 ?_
        refine zr_eqi (nI_add d ((siz lt) + 1)) ?_
        refine lv_istore_n (lv' := [(2, .int (nI (d + ((siz lt) + 1)))), (3, .ref (ad k)), (0, .ref x), (1, .int (nI h))]) hx hb dX1_smallerThan_48 rfl hl (by decide) rfl (fun ls hl => ?_)
        refine lv_aload_n hx hb dX1_smallerThan_49 rfl (lv_at hl 1 rfl) ?_
        refine lv_iload_n hx hb dX1_smallerThan_50 rfl (lv_at hl 3 rfl) ?_
        obtain ⟨i4, hi4⟩ := cw_s (x := x) (ln := ln) (cA := cA) (n := n) (tp := tp) (mo := mo) (dr := dr) (ds := ds) (li := li) (ad := ad) (g := g) (hk : k ∈ K)
        refine va_csq (va_Run.run (va_runV (As := [.int (nI h)]) (rest := []) ⟨hx, hb, hml, hown, hts⟩ (c_X0_towards l hk (by omega) (by omega)) (cwV 1 hts gX1_smallerThan_X0_towards rfl rfl rfl (by decide +kernel) ⟨Nat.le_trans (Nat.le_of_ble_eq_true rfl) hR.1, Nat.le_trans (Nat.le_of_ble_eq_true rfl) hR.2⟩) ⟨PcR.blind, va_recv hG.1 hP (ci := 0) (q0 := i4) rfl hi4, PcR.at hP hG⟩ rfl rfl hl.1 rfl (lv_room (Nat.le_of_ble_eq_true rfl)) dX1_smallerThan_51 ⟨hC.1, hC.2⟩)) (fun r51 q51 => ?_)
        subst q51
        refine zr_astore_n (lv' := [(3, va_rf ((if h < k then (g k).2.1 else (g k).2.2.1).map ad)), (2, .int (nI (d + ((siz lt) + 1)))), (0, .ref x), (1, .int (nI h))]) hx hb dX1_smallerThan_54 rfl hl (by decide) rfl (fun ls hl => ?_)
        refine lv_goto (tgt := 7) hx hb dX1_smallerThan_55 (by decide) ?_
        have hlt : ¬ h < k := by omega
        rw [if_neg hlt, h3] at hl
        have e9 : d + cntLt h (.inner sz k v lt rt) = d + (siz lt + 1) + cntLt h rt := by simp [cntLt, hlt, hne]; omega
        rw [e9] at k28 k59
        exact ihr (d := d + (siz lt + 1)) h5 hc5 (fun j hj => hin j ((keys_in ..).mpr (Or.inr (Or.inr hj)))) k28 k59 _ (lv_sub hl [0, 1, 2, 3] rfl)
    · rw [nI_eq (by omega) (by omega)] at c16
      refine lv_iload_n hx hb dX1_smallerThan_19 rfl (lv_at hl 1 rfl) ?_
      refine lv_aload_n hx hb dX1_smallerThan_20 rfl (lv_at hl 0 rfl) ?_
      obtain ⟨i5, hi5⟩ := cw_s (x := x) (ln := ln) (cA := cA) (n := n) (tp := tp) (mo := mo) (dr := dr) (ds := ds) (li := li) (ad := ad) (g := g) (hk : k ∈ K)
      refine va_get (D := D) (ci := 0) (v := va_rf ((g k).2.1.map ad)) (C := RX0) (T := TX0) (N := 5) hx hb hts (by decide +kernel) hown hG.1 hP i5 hi5 rfl 2 (by decide) (hts (.fieldLink RX1 150 "LopsidedRanks$Soldier" "left" "LLopsidedRanks$Soldier;") (by decide +kernel)) (fun _ h9 => h9) rfl dX1_smallerThan_21 ?_
      refine vp_callSi (va_Run.run (va_runS (As := [va_rf ((g k).2.1.map ad)]) (rest := [.int (nI d)]) ⟨hx, hb, hml, hown, hts⟩ (c_X1_companyOf l (o := (g k).2.1) (hcl k hk).2.2.1) (va_cwS 1 hts gX1_smallerThan_X1_companyOf rfl rfl rfl (by decide +kernel) ⟨Nat.le_trans (Nat.le_of_ble_eq_true rfl) hR.1, Nat.le_trans (Nat.le_of_ble_eq_true rfl) hR.2⟩) ⟨PcR.blind, PcR.at hP hG⟩ rfl rfl hl.1 rfl (lv_room (Nat.le_of_ble_eq_true rfl)) dX1_smallerThan_24 ⟨hC.1, hC.2⟩)) (fun r24 q24 => ?_)
      subst q24
      refine zr_eqi hco ?_
      refine lv_iadd hx hb dX1_smallerThan_27 ?_
      refine zr_eqi (nI_add d (siz lt)) ?_
      rw [show d + siz lt = d + cntLt h (.inner sz k v lt rt) by simp [cntLt, c16]]
      exact k28 _
set_option maxHeartbeats 4000000 in
set_option maxRecDepth 100000 in
/-- smallerThan(h) -/
theorem c_X1_smallerThan (l : Launch) {D : va_G} {cA cZ cI : ClassId} {x ln : Nat} {n : Int32} {mo dr ds : Int32} {li : Nat → Option Nat} {K : List Nat} {ad : Nat → Nat} {g : Nat → Nd} {T : Tr} {h : Nat} (hcl : Cl K g) (hh : h ≤ 1000) (hs : ShP g none T) (hc : ShC g T) (hin : ∀ j ∈ keysT T, j ∈ K ∧ j < 1000) : Met l yX1_smallerThan wsX1_smallerThan ({ frames := 1, cells := 0, slots := 0, locals := 40 } : Room) (PcR D (tysA cA cZ cI) (cw x ln cA n (root T) mo dr ds li K ad g) [.ref x, .int (nI h)]) (vp_Si (fun r => r = nI (cntLt h T))) 0 0 (fun _ => False) := by
  refine Met.ofW (cc := cX1_smallerThan) (maxL := 4) (ret := (some .int)) (by decide) rfl ?_
  intro p e s m args below meth c s₁ B hml hv
  obtain ⟨rfl, hP, hG⟩ := hv
  have hx := B.exec
  have hb := B.bytes
  have hr := B.returns
  have hts := atoms_spec (ws := wsX1_smallerThan) B.pre
  have hown : s.vm.findClass RX1 = some m.cls := findClass_of_methodNamed B.named
  have hlocks := B.notSynchronized
  have hl := lv_entry ([.ref x, .int (nI h)]) (n := 4) (Nat.le_of_ble_eq_true rfl)
  rw [lg_entry_eq]
  generalize (lg_sl ([.ref x, .int (nI h)]) ++ List.replicate (4 - (lg_sl ([.ref x, .int (nI h)])).length) Slot.unset).toArray = ls at hl ⊢
  have hl : lv_has ls 4 [(0, .ref x), (1, .int (nI h))] := hl
  refine lv_iconst (v := nI 0) hx hb dX1_smallerThan_0 (by decide) ?_
  refine lv_istore_n (lv' := [(2, .int (nI 0)), (0, .ref x), (1, .int (nI h))]) hx hb dX1_smallerThan_1 rfl hl (by decide) rfl (fun ls hl => ?_)
  refine lv_aload_n hx hb dX1_smallerThan_2 rfl (lv_at hl 1 rfl) ?_
  refine va_get (D := D) (ci := 1) (v := va_rf ((root T).map ad)) (C := RX1) (T := TX1) (N := 6) hx hb hts (by decide +kernel) hown hG.1 hP 0 cw_x rfl 2 (by decide) (hts (.fieldLink RX1 77 "LopsidedRanks" "top" "LLopsidedRanks$Soldier;") (by decide +kernel)) (fun _ h9 => h9) rfl dX1_smallerThan_3 ?_
  refine zr_astore_n (lv' := [(3, va_rf ((root T).map ad)), (2, .int (nI 0)), (0, .ref x), (1, .int (nI h))]) hx hb dX1_smallerThan_6 rfl hl (by decide) rfl (fun ls hl => ?_)
  refine L_X1_smallerThan (t := T) (a := none) (d := 0) hx hb hml hts hown hG hP ⟨Nat.le_of_ble_eq_true rfl, Nat.le_of_ble_eq_true rfl⟩ ⟨Nat.zero_le _, Nat.zero_le _⟩ hcl hh hs hc hin (fun ls => ?_) (fun ls => ?_) _ (lv_sub hl [0, 1, 2, 3] rfl)
  · exact W.iret (v := (nI (0 + cntLt h T))) hx hb hr (fun t ht hW => ⟨_, rfl, by rw [Nat.zero_add], ht⟩) (fun q hq => absurd hq List.not_mem_nil) dX1_smallerThan_28
  · exact W.iret (v := (nI (0 + cntLt h T))) hx hb hr (fun t ht hW => ⟨_, rfl, by rw [Nat.zero_add], ht⟩) (fun q hq => absurd hq List.not_mem_nil) dX1_smallerThan_59

set_option maxHeartbeats 4000000 in
set_option maxRecDepth 100000 in
/-- inLine(j) -/
theorem c_X1_inLine (l : Launch) {D : va_G} {cA cZ cI : ClassId} {x ln : Nat} {tp : Option Nat} {mo dr ds : Int32} {li : Nat → Option Nat} {K : List Nat} {ad : Nat → Nat} {g : Nat → Nd} {N j : Nat} (hN : N ≤ 150) (hj : j < 2 ^ 31) : Met l yX1_inLine wsX1_inLine ({ frames := 0, cells := 0, slots := 0, locals := 0 } : Room) (PcR D (tysA cA cZ cI) (cw x ln cA (nI N) tp mo dr ds li K ad g) [.ref x, .int (nI j)]) (va_Sq (fun r => r = (if j < N then li j else none).map ad)) 0 0 (fun _ => False) := by
  refine Met.ofW (cc := cX1_inLine) (maxL := 2) (ret := (some (.object "LopsidedRanks$Soldier"))) (by decide) rfl ?_
  intro p e s m args below meth c s₁ B hml hv
  obtain ⟨rfl, hP, hG⟩ := hv
  have hx := B.exec
  have hb := B.bytes
  have hr := B.returns
  have hts := atoms_spec (ws := wsX1_inLine) B.pre
  have hown : s.vm.findClass RX1 = some m.cls := findClass_of_methodNamed B.named
  have hlocks := B.notSynchronized
  have hl := lv_entry ([.ref x, .int (nI j)]) (n := 2) (Nat.le_of_ble_eq_true rfl)
  rw [lg_entry_eq]
  generalize (lg_sl ([.ref x, .int (nI j)]) ++ List.replicate (2 - (lg_sl ([.ref x, .int (nI j)])).length) Slot.unset).toArray = ls at hl ⊢
  have hl : lv_has ls 2 [(0, .ref x), (1, .int (nI j))] := hl
  refine lv_iload_n hx hb dX1_inLine_0 rfl (lv_at hl 1 rfl) ?_
  refine lv_if_lt (tgt := 30) hx hb dX1_inLine_1 (by decide) (fun c1 => ?_) (fun c1 => ?_)
  · replace c1 := (zr_lt0 (by omega)).mp c1
    exact absurd c1 id
  · replace c1 := (not_congr (zr_lt0 (by omega))).mp c1
    refine lv_iload_n hx hb dX1_inLine_4 rfl (lv_at hl 1 rfl) ?_
    refine lv_aload_n hx hb dX1_inLine_5 rfl (lv_at hl 0 rfl) ?_
    refine va_get (D := D) (ci := 1) (v := .int (nI N)) (C := RX1) (T := TX1) (N := 6) hx hb hts (by decide +kernel) hown hG.1 hP 0 cw_x rfl 1 (by decide) (hts (.fieldLink RX1 19 "LopsidedRanks" "soldiers" "I") (by decide +kernel)) (fun _ h9 => h9) rfl dX1_inLine_6 ?_
    refine lv_icmp_ge (tgt := 30) hx hb dX1_inLine_9 (by decide) (fun c9 => ?_) (fun c9 => ?_)
    · rw [nI_leI (by omega) (by omega)] at c9
      refine lv_null hx hb dX1_inLine_30 ?_
      exact zr_aret (r := none) hx hb hr (Or.inl ⟨_, rfl⟩) (fun t ht hW => ⟨_, rfl, by rw [if_neg (by omega)]; rfl, ht⟩) (fun q hq => absurd hq List.not_mem_nil) dX1_inLine_31 hlocks
    · rw [nI_leI (by omega) (by omega)] at c9
      refine lv_iload_n hx hb dX1_inLine_12 rfl (lv_at hl 1 rfl) ?_
      refine lv_aload_n hx hb dX1_inLine_13 rfl (lv_at hl 0 rfl) ?_
      refine va_get (D := D) (ci := 1) (v := .ref ln) (C := RX1) (T := TX1) (N := 6) hx hb hts (by decide +kernel) hown hG.1 hP 0 cw_x rfl 0 (by decide) (hts (.fieldLink RX1 11 "LopsidedRanks" "line" "[LLopsidedRanks$Soldier;") (by decide +kernel)) (fun _ h9 => h9) rfl dX1_inLine_14 ?_
      refine va_alen hx hb hG.1 hP 1 0 cw_l (ty := .object RX0) rfl (v := nI 150) rfl dX1_inLine_17 ?_
      refine lv_icmp_ge (tgt := 30) hx hb dX1_inLine_18 (by decide) (fun c18 => ?_) (fun c18 => ?_)
      · rw [nI_leI (by omega) (by omega)] at c18
        refine lv_null hx hb dX1_inLine_30 ?_
        exact zr_aret (r := none) hx hb hr (Or.inl ⟨_, rfl⟩) (fun t ht hW => ⟨_, rfl, by rw [if_neg (by omega)]; rfl, ht⟩) (fun q hq => absurd hq List.not_mem_nil) dX1_inLine_31 hlocks
      · rw [nI_leI (by omega) (by omega)] at c18
        refine lv_aload_n hx hb dX1_inLine_21 rfl (lv_at hl 0 rfl) ?_
        refine va_get (D := D) (ci := 1) (v := .ref ln) (C := RX1) (T := TX1) (N := 6) hx hb hts (by decide +kernel) hown hG.1 hP 0 cw_x rfl 0 (by decide) (hts (.fieldLink RX1 11 "LopsidedRanks" "line" "[LLopsidedRanks$Soldier;") (by decide +kernel)) (fun _ h9 => h9) rfl dX1_inLine_22 ?_
        refine lv_iload_n hx hb dX1_inLine_25 rfl (lv_at hl 1 rfl) ?_
        refine zr_aldq hx hb hG.1 hP 1 0 cw_l rfl (k := j) (by omega) (Nat.le_of_ble_eq_true rfl) dX1_inLine_26 ?_
        refine lv_goto (tgt := 31) hx hb dX1_inLine_27 (by decide) ?_
        exact zr_aret (r := (li j).map ad) hx hb hr (Or.inl ⟨_, rfl⟩) (fun t ht hW => ⟨_, rfl, by rw [if_pos (by omega)], ht⟩) (fun q hq => absurd hq List.not_mem_nil) dX1_inLine_31 hlocks

set_option maxHeartbeats 4000000 in
set_option maxRecDepth 100000 in
/-- inLine(j) of a number below 0 -/
theorem c_X1_inLineN (l : Launch) {D : va_G} {cA cZ cI : ClassId} {x ln : Nat} {n : Int32} {tp : Option Nat} {mo dr ds : Int32} {li : Nat → Option Nat} {K : List Nat} {ad : Nat → Nat} {g : Nat → Nd} {pl : Int32} (hj : pl < 0) : Met l yX1_inLine wsX1_inLine ({ frames := 0, cells := 0, slots := 0, locals := 0 } : Room) (PcR D (tysA cA cZ cI) (cw x ln cA n tp mo dr ds li K ad g) [.ref x, .int pl]) (va_Sq (fun r => r = (none : Option Nat).map ad)) 0 0 (fun _ => False) := by
  refine Met.ofW (cc := cX1_inLine) (maxL := 2) (ret := (some (.object "LopsidedRanks$Soldier"))) (by decide) rfl ?_
  intro p e s m args below meth c s₁ B hml hv
  obtain ⟨rfl, hP, hG⟩ := hv
  have hx := B.exec
  have hb := B.bytes
  have hr := B.returns
  have hts := atoms_spec (ws := wsX1_inLine) B.pre
  have hown : s.vm.findClass RX1 = some m.cls := findClass_of_methodNamed B.named
  have hlocks := B.notSynchronized
  have hl := lv_entry ([.ref x, .int pl]) (n := 2) (Nat.le_of_ble_eq_true rfl)
  rw [lg_entry_eq]
  generalize (lg_sl ([.ref x, .int pl]) ++ List.replicate (2 - (lg_sl ([.ref x, .int pl])).length) Slot.unset).toArray = ls at hl ⊢
  have hl : lv_has ls 2 [(0, .ref x), (1, .int pl)] := hl
  refine lv_iload_n hx hb dX1_inLine_0 rfl (lv_at hl 1 rfl) ?_
  refine lv_if_lt (tgt := 30) hx hb dX1_inLine_1 (by decide) (fun c1 => ?_) (fun c1 => ?_)
  · refine lv_null hx hb dX1_inLine_30 ?_
    exact zr_aret (r := none) hx hb hr (Or.inl ⟨_, rfl⟩) (fun t ht hW => ⟨_, rfl, rfl, ht⟩) (fun q hq => absurd hq List.not_mem_nil) dX1_inLine_31 hlocks
  · exact absurd hj c1

theorem b2i_ne {b : Bool} (h : ¬ b2i b = 0) : b = true := by cases b with
  | true => rfl
  | false => exact absurd rfl h
theorem b2i_eq {b : Bool} (h : b2i b = 0) : ¬ b = true := by cases b with
  | true => exact absurd h (by decide)
  | false => decide
set_option maxHeartbeats 4000000 in
set_option maxRecDepth 100000 in
theorem L_X1_firstCrookedFrom {D : va_G} {cA cZ cI : ClassId} {x ln : Nat} {n : Int32} {tp : Option Nat} {mo dr ds : Int32} {li : Nat → Option Nat} {K : List Nat} {ad : Nat → Nat} {g : Nat → Nd} {p : Program} {l : Launch} {e : Env} {R : Room} {s : State} {m : MethodId} {args : Array Value} {below : List Frame} {meth : Method} {c : Code} {Q : State → Prop} {cells slots : Nat} {H : Heap} {locs : List Loc} (hx : p.tables.exec = Jvm.exec) (hb : c.code = cX1_firstCrookedFrom) (hml : c.maxLocals = 2) (hts : ∀ w ∈ wsX1_firstCrookedFrom, w.before args s = true) (hown : s.vm.findClass RX1 = some m.cls) (hG : GK D (tysA cA cZ cI) s) (hP : va_P D vwCl (cw x ln cA n tp mo dr ds li K ad g) H) (hR : 2 ≤ R.frames ∧ 80 ≤ R.locals) (hC : cells ≤ R.cells ∧ slots ≤ R.slots) (hcl : Cl K g) {pr : Nat → Bool} : ∀ {ks : List Nat} {p0 : Option Nat}, UpC g p0 ks → (∀ j ∈ ks, j ∈ K ∧ ∃ a b, coOf g (g j).2.1 = nI a ∧ coOf g (g j).2.2.1 = nI b ∧ a < 10000 ∧ b < 10000 ∧ pr j = crk a b) → (∀ ls, lv_has ls 2 [(1, va_rf ((ks.find? pr).map ad))] → W p l e R s m args below meth c H locs cells slots Q (F0 m 21 ls [])) → ∀ ls, lv_has ls 2 [(1, va_rf (p0.map ad))] → W p l e R s m args below meth c H locs cells slots Q (F0 m 2 ls []) := by
  intro ks
  induction ks with
  | nil =>
    intro p0 hu hin kk ls hl
    have hu : p0 = none := hu
    subst hu
    have hl : lv_has ls 2 [(1, .null)] := hl
    refine lv_aload_nN hx hb dX1_firstCrookedFrom_2 rfl (lv_at hl 0 rfl) ?_
    refine lv_ifnullN (tgt := 21) hx hb dX1_firstCrookedFrom_3 (by decide) ?_
    exact kk _ hl
  | cons k ks ih =>
    intro p0 hu hin kk ls hl
    obtain ⟨rfl, hu2⟩ := hu
    obtain ⟨hk, a, b, e1, e2, e3, e4, e5⟩ := hin k List.mem_cons_self
    have hl : lv_has ls 2 [(1, .ref (ad k))] := hl
    refine lv_aload_n hx hb dX1_firstCrookedFrom_2 rfl (lv_at hl 0 rfl) ?_
    refine lv_ifnull hx hb dX1_firstCrookedFrom_3 ?_
    refine lv_aload_n hx hb dX1_firstCrookedFrom_6 rfl (lv_at hl 0 rfl) ?_
    obtain ⟨i0, hi0⟩ := cw_s (x := x) (ln := ln) (cA := cA) (n := n) (tp := tp) (mo := mo) (dr := dr) (ds := ds) (li := li) (ad := ad) (g := g) (hk : k ∈ K)
    refine vp_callSi (va_Run.run (va_runV (As := []) (rest := []) ⟨hx, hb, hml, hown, hts⟩ (c_X0_hasCrookedCompany l hcl hk e1 e2 e3 e4) (cwV 0 hts gX1_firstCrookedFrom_X0_hasCrookedCompany rfl rfl rfl (by decide +kernel) ⟨Nat.le_trans (Nat.le_of_ble_eq_true rfl) hR.1, Nat.le_trans (Nat.le_of_ble_eq_true rfl) hR.2⟩) ⟨PcR.blind, va_recv hG.1 hP (ci := 0) (q0 := i0) rfl hi0, PcR.at hP hG⟩ rfl rfl hl.1 rfl (lv_room (Nat.le_of_ble_eq_true rfl)) dX1_firstCrookedFrom_7 ⟨hC.1, hC.2⟩)) (fun r7 q7 => ?_)
    subst q7
    refine lv_if_ne (tgt := 21) hx hb dX1_firstCrookedFrom_10 (by decide) (fun c10 => ?_) (fun c10 => ?_)
    · have h9 : pr k = true := e5.trans (b2i_ne c10)
      rw [List.find?_cons_of_pos h9] at kk
      exact kk _ hl
    · have h9 : ¬ pr k = true := by rw [e5]; exact b2i_eq c10
      rw [List.find?_cons_of_neg h9] at kk
      refine lv_aload_n hx hb dX1_firstCrookedFrom_13 rfl (lv_at hl 0 rfl) ?_
      obtain ⟨i1, hi1⟩ := cw_s (x := x) (ln := ln) (cA := cA) (n := n) (tp := tp) (mo := mo) (dr := dr) (ds := ds) (li := li) (ad := ad) (g := g) (hk : k ∈ K)
      refine va_get (D := D) (ci := 0) (v := va_rf ((g k).1.map ad)) (C := RX0) (T := TX0) (N := 5) hx hb hts (by decide +kernel) hown hG.1 hP i1 hi1 rfl 1 (by decide) (hts (.fieldLink RX1 130 "LopsidedRanks$Soldier" "above" "LLopsidedRanks$Soldier;") (by decide +kernel)) (fun _ h9 => h9) rfl dX1_firstCrookedFrom_14 ?_
      refine zr_astore_n (lv' := [(1, va_rf ((g k).1.map ad))]) hx hb dX1_firstCrookedFrom_17 rfl hl (by decide) rfl (fun ls hl => ?_)
      refine lv_goto (tgt := 2) hx hb dX1_firstCrookedFrom_18 (by decide) ?_
      exact ih hu2 (fun j hj => hin j (List.mem_cons_of_mem _ hj)) kk _ hl
set_option maxHeartbeats 4000000 in
set_option maxRecDepth 100000 in
/-- firstCrookedFrom(p): on the way ks up from p -/
theorem c_X1_firstCrookedFrom (l : Launch) {D : va_G} {cA cZ cI : ClassId} {x ln : Nat} {n : Int32} {tp : Option Nat} {mo dr ds : Int32} {li : Nat → Option Nat} {K : List Nat} {ad : Nat → Nat} {g : Nat → Nd} {p0 : Option Nat} {ks : List Nat} {pr : Nat → Bool} (hcl : Cl K g) (hu : UpC g p0 ks) (hin : ∀ j ∈ ks, j ∈ K ∧ ∃ a b, coOf g (g j).2.1 = nI a ∧ coOf g (g j).2.2.1 = nI b ∧ a < 10000 ∧ b < 10000 ∧ pr j = crk a b) : Met l yX1_firstCrookedFrom wsX1_firstCrookedFrom ({ frames := 2, cells := 0, slots := 0, locals := 80 } : Room) (PcR D (tysA cA cZ cI) (cw x ln cA n tp mo dr ds li K ad g) [va_rf (p0.map ad)]) (va_Sq (fun r => r = (ks.find? pr).map ad)) 0 0 (fun _ => False) := by
  refine Met.ofW (cc := cX1_firstCrookedFrom) (maxL := 2) (ret := (some (.object "LopsidedRanks$Soldier"))) (by decide) rfl ?_
  intro p e s m args below meth c s₁ B hml hv
  obtain ⟨rfl, hP, hG⟩ := hv
  have hx := B.exec
  have hb := B.bytes
  have hr := B.returns
  have hts := atoms_spec (ws := wsX1_firstCrookedFrom) B.pre
  have hown : s.vm.findClass RX1 = some m.cls := findClass_of_methodNamed B.named
  have hlocks := B.notSynchronized
  have hl : lv_has ((lg_sl ([va_rf (p0.map ad)]) ++ List.replicate (2 - (lg_sl ([va_rf (p0.map ad)])).length) Slot.unset).toArray) 2 [(0, va_rf (p0.map ad))] := by cases p0 <;> exact lv_entry _ (Nat.le_of_ble_eq_true rfl)
  rw [lg_entry_eq]
  generalize (lg_sl ([va_rf (p0.map ad)]) ++ List.replicate (2 - (lg_sl ([va_rf (p0.map ad)])).length) Slot.unset).toArray = ls at hl ⊢
  have hl : lv_has ls 2 [(0, va_rf (p0.map ad))] := hl
  refine zr_aload_n hx hb dX1_firstCrookedFrom_0 rfl (lv_at hl 0 rfl) ?_
  have hl : lv_has ls 2 [] := lv_sub hl [] rfl
  refine zr_astore_n (lv' := [(1, va_rf (p0.map ad))]) hx hb dX1_firstCrookedFrom_1 rfl hl (by decide) rfl (fun ls hl => ?_)
  refine L_X1_firstCrookedFrom (ks := ks) (p0 := p0) hx hb hml hts hown hG hP ⟨Nat.le_of_ble_eq_true rfl, Nat.le_of_ble_eq_true rfl⟩ ⟨Nat.zero_le _, Nat.zero_le _⟩ hcl hu hin (fun ls hl => ?_) _ hl
  refine zr_aload_n hx hb dX1_firstCrookedFrom_21 rfl (lv_at hl 0 rfl) ?_
  exact zr_aret (r := (ks.find? pr).map ad) hx hb hr (Or.inl ⟨_, rfl⟩) (fun t ht hW => ⟨_, rfl, rfl, ht⟩) (fun q hq => absurd hq List.not_mem_nil) dX1_firstCrookedFrom_22 hlocks

/-- two soldiers have two addresses -/
theorem cw_inj {D : va_G} {cA : ClassId} {x ln : Nat} {n : Int32} {tp : Option Nat} {mo dr ds : Int32} {li : Nat → Option Nat} {K : List Nat} {ad : Nat → Nat} {g : Nat → Nd} {H : Heap} (hP : va_P D vwCl (cw x ln cA n tp mo dr ds li K ad g) H) (hcl : Cl K g) {j k : Nat} (hj : j ∈ K) (hk : k ∈ K) (h : ad j = ad k) : j = k := by
  obtain ⟨i1, e1⟩ := cw_s (x := x) (ln := ln) (cA := cA) (n := n) (tp := tp) (mo := mo) (dr := dr) (ds := ds) (li := li) (ad := ad) (g := g) hj
  obtain ⟨i2, e2⟩ := cw_s (x := x) (ln := ln) (cA := cA) (n := n) (tp := tp) (mo := mo) (dr := dr) (ds := ds) (li := li) (ad := ad) (g := g) hk
  obtain ⟨r1, g1, c1, q1, -, -, q2⟩ := hP i1 _ e1
  obtain ⟨r2, g2, c2, q3, -, -, q4⟩ := hP i2 _ e2
  cases Option.some.inj (g1.symm.trans g2)
  cases Option.some.inj (show some (RX0, TX0, 5) = some r1 from g1)
  simp only [h] at q1
  cases Option.some.inj (q1.symm.trans q3)
  have h1 := q2 0 (by decide)
  have h2 := q4 0 (by decide)
  have h3 := Option.some.inj (h1.symm.trans h2)
  have h4 : Value.int (nI j) = Value.int (nI k) := h3
  have h5 : nI j = nI k := Value.int.inj h4
  have l1 := hcl.lt hj
  have l2 := hcl.lt hk
  exact nI_inj (by omega) (by omega) h5
set_option maxHeartbeats 4000000 in
set_option maxRecDepth 100000 in
theorem L_X1_stepsUp {D : va_G} {cA cZ cI : ClassId} {x ln : Nat} {n : Int32} {tp : Option Nat} {mo dr ds : Int32} {li : Nat → Option Nat} {K : List Nat} {ad : Nat → Nat} {g : Nat → Nd} {p : Program} {l : Launch} {e : Env} {R : Room} {s : State} {m : MethodId} {args : Array Value} {below : List Frame} {meth : Method} {c : Code} {Q : State → Prop} {cells slots : Nat} {H : Heap} {locs : List Loc} (hx : p.tables.exec = Jvm.exec) (hb : c.code = cX1_stepsUp) (hml : c.maxLocals = 4) (hts : ∀ w ∈ wsX1_stepsUp, w.before args s = true) (hown : s.vm.findClass RX1 = some m.cls) (hG : GK D (tysA cA cZ cI) s) (hP : va_P D vwCl (cw x ln cA n tp mo dr ds li K ad g) H) (hcl : Cl K g) {q0 : Option Nat} {k2 : Nat} (hk2 : k2 ∈ K) {rest : List Nat} : ∀ {ks : List Nat} {p0 : Option Nat} {d : Nat}, UpC g p0 (ks ++ k2 :: rest) → (∀ j ∈ ks, j ∈ K) → k2 ∉ ks → (∀ ls, lv_has ls 4 [(3, .ref (ad k2)), (2, .int (nI (d + ks.length))), (0, va_rf (q0.map ad)), (1, .ref (ad k2))] → W p l e R s m args below meth c H locs cells slots Q (F0 m 24 ls [])) → ∀ ls, lv_has ls 4 [(3, va_rf (p0.map ad)), (2, .int (nI d)), (0, va_rf (q0.map ad)), (1, .ref (ad k2))] → W p l e R s m args below meth c H locs cells slots Q (F0 m 4 ls []) := by
  intro ks
  induction ks with
  | nil =>
    intro p0 d hu hin hn kk ls hl
    obtain ⟨rfl, hu2⟩ := hu
    have hl : lv_has ls 4 [(3, .ref (ad k2)), (2, .int (nI d)), (0, va_rf (q0.map ad)), (1, .ref (ad k2))] := hl
    refine lv_aload_n hx hb dX1_stepsUp_4 rfl (lv_at hl 0 rfl) ?_
    refine lv_ifnull hx hb dX1_stepsUp_5 ?_
    refine lv_aload_n hx hb dX1_stepsUp_8 rfl (lv_at hl 0 rfl) ?_
    refine lv_aload_n hx hb dX1_stepsUp_9 rfl (lv_at hl 3 rfl) ?_
    refine lv_acmp_eq (rx := some (ad k2)) (ry := some (ad k2)) (tgt := 24) hx hb dX1_stepsUp_10 (by decide) (fun c10 => ?_) (fun c10 => ?_)
    · exact kk _ hl
    · exact absurd rfl c10
  | cons k ks ih =>
    intro p0 d hu hin hn kk ls hl
    obtain ⟨rfl, hu2⟩ := hu
    have hk := hin k List.mem_cons_self
    have hl : lv_has ls 4 [(3, .ref (ad k)), (2, .int (nI d)), (0, va_rf (q0.map ad)), (1, .ref (ad k2))] := hl
    refine lv_aload_n hx hb dX1_stepsUp_4 rfl (lv_at hl 0 rfl) ?_
    refine lv_ifnull hx hb dX1_stepsUp_5 ?_
    refine lv_aload_n hx hb dX1_stepsUp_8 rfl (lv_at hl 0 rfl) ?_
    refine lv_aload_n hx hb dX1_stepsUp_9 rfl (lv_at hl 3 rfl) ?_
    refine lv_acmp_eq (rx := some (ad k)) (ry := some (ad k2)) (tgt := 24) hx hb dX1_stepsUp_10 (by decide) (fun c10 => ?_) (fun c10 => ?_)
    · exact absurd (cw_inj hP hcl hk hk2 (Option.some.inj c10)) (fun q => hn (List.mem_cons.mpr (Or.inl q.symm)))
    · refine lv_iinc (v := nI (d + 1)) (lv' := [(2, .int (nI (d + 1))), (3, .ref (ad k)), (0, va_rf (q0.map ad)), (1, .ref (ad k2))]) hx hb dX1_stepsUp_13 hl (k := 1) rfl (nI_add d 1) (by decide) rfl (fun ls hl => ?_)
      refine lv_aload_n hx hb dX1_stepsUp_16 rfl (lv_at hl 1 rfl) ?_
      obtain ⟨i0, hi0⟩ := cw_s (x := x) (ln := ln) (cA := cA) (n := n) (tp := tp) (mo := mo) (dr := dr) (ds := ds) (li := li) (ad := ad) (g := g) (hk : k ∈ K)
      refine va_get (D := D) (ci := 0) (v := va_rf ((g k).1.map ad)) (C := RX0) (T := TX0) (N := 5) hx hb hts (by decide +kernel) hown hG.1 hP i0 hi0 rfl 1 (by decide) (hts (.fieldLink RX1 130 "LopsidedRanks$Soldier" "above" "LLopsidedRanks$Soldier;") (by decide +kernel)) (fun _ h9 => h9) rfl dX1_stepsUp_17 ?_
      refine zr_astore_n (lv' := [(3, va_rf ((g k).1.map ad)), (2, .int (nI (d + 1))), (0, va_rf (q0.map ad)), (1, .ref (ad k2))]) hx hb dX1_stepsUp_20 rfl hl (by decide) rfl (fun ls hl => ?_)
      refine lv_goto (tgt := 4) hx hb dX1_stepsUp_21 (by decide) ?_
      exact ih (d := d + 1) hu2 (fun j hj => hin j (List.mem_cons_of_mem _ hj)) (fun q => hn (List.mem_cons_of_mem _ q)) (by rw [show d + 1 + ks.length = d + (ks.length + 1) by omega]; exact kk) _ hl
set_option maxHeartbeats 4000000 in
set_option maxRecDepth 100000 in
/-- stepsUp(p, k2) -/
theorem c_X1_stepsUp (l : Launch) {D : va_G} {cA cZ cI : ClassId} {x ln : Nat} {n : Int32} {tp : Option Nat} {mo dr ds : Int32} {li : Nat → Option Nat} {K : List Nat} {ad : Nat → Nat} {g : Nat → Nd} {p0 : Option Nat} {ks rest : List Nat} {k2 : Nat} (hcl : Cl K g) (hk2 : k2 ∈ K) (hu : UpC g p0 (ks ++ k2 :: rest)) (hin : ∀ j ∈ ks, j ∈ K) (hn : k2 ∉ ks) : Met l yX1_stepsUp wsX1_stepsUp ({ frames := 0, cells := 0, slots := 0, locals := 0 } : Room) (PcR D (tysA cA cZ cI) (cw x ln cA n tp mo dr ds li K ad g) [va_rf (p0.map ad), .ref (ad k2)]) (vp_Si (fun r => r = nI ks.length)) 0 0 (fun _ => False) := by
  refine Met.ofW (cc := cX1_stepsUp) (maxL := 4) (ret := (some .int)) (by decide) rfl ?_
  intro p e s m args below meth c s₁ B hml hv
  obtain ⟨rfl, hP, hG⟩ := hv
  have hx := B.exec
  have hb := B.bytes
  have hr := B.returns
  have hts := atoms_spec (ws := wsX1_stepsUp) B.pre
  have hown : s.vm.findClass RX1 = some m.cls := findClass_of_methodNamed B.named
  have hlocks := B.notSynchronized
  have hl : lv_has ((lg_sl ([va_rf (p0.map ad), .ref (ad k2)]) ++ List.replicate (4 - (lg_sl ([va_rf (p0.map ad), .ref (ad k2)])).length) Slot.unset).toArray) 4 [(0, va_rf (p0.map ad)), (1, .ref (ad k2))] := by cases p0 <;> exact lv_entry _ (Nat.le_of_ble_eq_true rfl)
  rw [lg_entry_eq]
  generalize (lg_sl ([va_rf (p0.map ad), .ref (ad k2)]) ++ List.replicate (4 - (lg_sl ([va_rf (p0.map ad), .ref (ad k2)])).length) Slot.unset).toArray = ls at hl ⊢
  have hl : lv_has ls 4 [(0, va_rf (p0.map ad)), (1, .ref (ad k2))] := hl
  refine lv_iconst (v := nI 0) hx hb dX1_stepsUp_0 (by decide) ?_
  refine lv_istore_n (lv' := [(2, .int (nI 0)), (0, va_rf (p0.map ad)), (1, .ref (ad k2))]) hx hb dX1_stepsUp_1 rfl hl (by decide) rfl (fun ls hl => ?_)
  refine zr_aload_n hx hb dX1_stepsUp_2 rfl (lv_at hl 1 rfl) ?_
  refine zr_astore_n (lv' := [(3, va_rf (p0.map ad)), (2, .int (nI 0)), (0, va_rf (p0.map ad)), (1, .ref (ad k2))]) hx hb dX1_stepsUp_3 rfl hl (by decide) rfl (fun ls hl => ?_)
  refine L_X1_stepsUp (ks := ks) (p0 := p0) (q0 := p0) (d := 0) hx hb hml hts hown hG hP hcl hk2 hu hin hn (fun ls hl => ?_) _ hl
  refine lv_iload_n hx hb dX1_stepsUp_24 rfl (lv_at hl 1 rfl) ?_
  exact W.iret (v := (nI (0 + ks.length))) hx hb hr (fun t ht hW => ⟨_, rfl, by rw [Nat.zero_add], ht⟩) (fun q hq => absurd hq List.not_mem_nil) dX1_stepsUp_25
end
section
/-! WHAT IS TOLD by the class, of a tree -/
/-- the soldiers' cells, as the tree T has them -/
def RepC (T : Tr) (K : List Nat) (g : Nat → Nd) : Prop := bst T ∧ (∀ k ∈ keysT T, k < 1000) ∧ siz T ≤ 150 ∧ ShP g none T ∧ ShC g T ∧ ∀ k, k ∈ K ↔ k ∈ keysT T
theorem parF_in {h : Nat} : ∀ {T : Tr} {a : Option Nat} {j : Nat}, parF h a T = some j → a = some j ∨ j ∈ keysT T
  | .leaf, a, j, e => Or.inl e
  | .inner s k v l r, a, j, e => by
    simp only [parF] at e
    rw [keys_in]
    split at e
    · exact Or.inl e
    · split at e
      · rcases parF_in e with q | q
        · cases q; exact Or.inr (Or.inr (Or.inl rfl))
        · exact Or.inr (Or.inl q)
      · rcases parF_in e with q | q
        · cases q; exact Or.inr (Or.inr (Or.inl rfl))
        · exact Or.inr (Or.inr (Or.inr q))
theorem parF_mem {h j : Nat} {T : Tr} (e : parF h none T = some j) : j ∈ keysT T := by
  rcases parF_in e with q | q
  · cases q
  · exact q
theorem RepC.in1 {T : Tr} {K : List Nat} {g : Nat → Nd} (h : RepC T K g) : ∀ j ∈ keysT T, j ∈ K ∧ j < 1000 := fun j hj => ⟨(h.2.2.2.2.2 j).mpr hj, h.2.1 j hj⟩
theorem RepC.at {T : Tr} {K : List Nat} {g : Nat → Nd} (h : RepC T K g) {k : Nat} (hk : k ∈ keysT T) : ∃ s v l r, subT k T = .inner s k v l r ∧ (g k).1 = parF k none T ∧ (g k).2.1 = root l ∧ (g k).2.2.1 = root r ∧ (g k).2.2.2 = nI (siz l + siz r + 1) ∧ ShP g (some k) l ∧ ShP g (some k) r ∧ ShC g l ∧ ShC g r := by
  obtain ⟨hb, -, -, hs, hc, -⟩ := h
  obtain ⟨s, v, l, r, e⟩ := sub_at ((subT_mem hb).mpr hk)
  have h1 := ShP_sub (h := k) hs
  have h2 := ShC_sub (h := k) hc
  rw [e] at h1 h2
  obtain ⟨p1, p2, p3, p4, p5⟩ := h1
  obtain ⟨q1, q2, q3⟩ := h2
  exact ⟨s, v, l, r, e, p1, p2, p3, q1, p4, p5, q2, q3⟩
theorem RepC.cl {T : Tr} {K : List Nat} {g : Nat → Nd} (h : RepC T K g) : Cl K g := by
  intro k hk
  have hk1 := (h.2.2.2.2.2 k).mp hk
  obtain ⟨s, v, l, r, e, p1, p2, p3, -⟩ := h.at hk1
  have hsub : ∀ j ∈ keysT (.inner s k v l r : Tr), j ∈ K := fun j hj => (h.2.2.2.2.2 j).mpr (subT_sub (h := k) (by rw [e]; exact hj))
  refine ⟨h.2.1 k hk1, fun j hj => ?_, fun j hj => ?_, fun j hj => ?_⟩
  · rw [p1] at hj; exact (h.2.2.2.2.2 j).mpr (parF_mem hj)
  · rw [p2] at hj; exact hsub j ((keys_in ..).mpr (Or.inl (root_in hj)))
  · rw [p3] at hj; exact hsub j ((keys_in ..).mpr (Or.inr (Or.inr (root_in hj))))
theorem sub_siz {h : Nat} {T : Tr} : siz (subT h T) ≤ siz T := by
  induction T with
  | leaf => exact Nat.le_refl _
  | inner s k v l r ihl ihr =>
    simp only [subT]
    split
    · exact Nat.le_refl _
    · split <;> simp only [siz] <;> omega
theorem cnt_le {h : Nat} {T : Tr} : cntLt h T ≤ siz T := by
  induction T with
  | leaf => exact Nat.le_refl _
  | inner s k v l r ihl ihr =>
    simp only [cntLt, siz]
    split
    · omega
    · split <;> omega
theorem ofs_le {h : Nat} {T : Tr} : ofs h T + siz (subT h T) ≤ siz T := by
  induction T with
  | leaf => exact Nat.le_refl _
  | inner s k v l r ihl ihr =>
    simp only [ofs, subT]
    split
    · omega
    · split <;> simp only [siz] <;> omega
set_option maxHeartbeats 4000000 in
set_option maxRecDepth 100000 in
theorem L_X1_deepestBelow {D : va_G} {cA cZ cI : ClassId} {x ln : Nat} {mo dr ds : Int32} {K : List Nat} {ad : Nat → Nat} {g : Nat → Nd} {T : Tr} {p : Program} {l : Launch} {e : Env} {R : Room} {s : State} {m : MethodId} {args : Array Value} {below : List Frame} {meth : Method} {c : Code} {Q : State → Prop} {cells slots : Nat} {H : Heap} {locs : List Loc} (hx : p.tables.exec = Jvm.exec) (hb : c.code = cX1_deepestBelow) (hml : c.maxLocals = 5) (hts : ∀ w ∈ wsX1_deepestBelow, w.before args s = true) (hown : s.vm.findClass RX1 = some m.cls) (hG : GK D (tysA cA cZ cI) s) (hP : va_P D vwCl (cw x ln cA (nI (siz T)) (root T) mo dr ds (fun i => (keysT T)[i]?) K ad g) H) (hR : 2 ≤ R.frames ∧ 80 ≤ R.locals) (hC : cells ≤ R.cells ∧ slots ≤ R.slots) (hrep : RepC T K g) {c1 : Nat} (hc1 : c1 ∈ keysT T) : ∀ (n i d : Nat), i + n = siz (subT c1 T) → d ≤ 150 → (∀ ls, lv_has ls 5 [(4, .int (nI (siz (subT c1 T)))), (3, .int (nI (mxl (fun j => (anc j (subT c1 T)).length) ((keysT (subT c1 T)).drop i) d))), (2, .int (nI (ofs c1 T))), (0, .ref x), (1, .ref (ad c1))] → W p l e R s m args below meth c H locs cells slots Q (F0 m 60 ls [])) → ∀ ls, lv_has ls 5 [(4, .int (nI i)), (3, .int (nI d)), (2, .int (nI (ofs c1 T))), (0, .ref x), (1, .ref (ad c1))] → W p l e R s m args below meth c H locs cells slots Q (F0 m 28 ls []) := by
  have hcl := hrep.cl
  have hk := (hrep.in1 c1 hc1).1
  obtain ⟨hb0, hin0, hsz, hs, hc, hK0⟩ := id hrep
  obtain ⟨sz, v, lt, rt, esub, p1, p2, p3, p4, p5, p6, p7, p8⟩ := hrep.at hc1
  have hco : (g c1).2.2.2 = nI (siz (subT c1 T)) := by rw [esub]; exact p4
  have hsub := sub_siz (h := c1) (T := T)
  have hofs := ofs_le (h := c1) (T := T)
  intro n
  induction n with
  | zero =>
    intro i d hi hd kk ls hl
    refine lv_iload hx hb dX1_deepestBelow_28 (lv_at hl 0 rfl) ?_
    refine lv_aload_n hx hb dX1_deepestBelow_30 rfl (lv_at hl 4 rfl) ?_
    obtain ⟨i0, hi0⟩ := cw_s (x := x) (ln := ln) (cA := cA) (n := nI (siz T)) (tp := root T) (mo := mo) (dr := dr) (ds := ds) (li := fun i => (keysT T)[i]?) (ad := ad) (g := g) (hk : c1 ∈ K)
    refine va_get (D := D) (ci := 0) (v := .int (g c1).2.2.2) (C := RX0) (T := TX0) (N := 5) hx hb hts (by decide +kernel) hown hG.1 hP i0 hi0 rfl 4 (by decide) (hts (.fieldLink RX1 147 "LopsidedRanks$Soldier" "company" "I") (by decide +kernel)) (fun _ h9 => h9) rfl dX1_deepestBelow_31 ?_
    refine zr_eqi hco ?_
    refine lv_icmp_ge (tgt := 60) hx hb dX1_deepestBelow_34 (by decide) (fun c34 => ?_) (fun c34 => ?_)
    · rw [nI_leI (by omega) (by omega)] at c34
      have e9 : (keysT (subT c1 T)).drop i = [] := List.drop_eq_nil_of_le (by rw [keys_len]; omega)
      rw [e9] at kk
      have e8 : i = siz (subT c1 T) := by omega
      subst e8
      exact kk _ hl
    · rw [nI_leI (by omega) (by omega)] at c34
      exact absurd c34 (by omega)
  | succ n ih =>
    intro i d hi hd kk ls hl
    have hil : i < (keysT (subT c1 T)).length := by rw [keys_len]; omega
    obtain ⟨j, hj⟩ : ∃ j, (keysT (subT c1 T))[i]? = some j := ⟨_, List.getElem?_eq_getElem hil⟩
    have hdr : (keysT (subT c1 T)).drop i = j :: (keysT (subT c1 T)).drop (i + 1) := by
      rw [List.drop_eq_getElem_cons hil]
      rw [List.getElem?_eq_getElem hil] at hj
      rw [Option.some.inj hj]
    have hjm : j ∈ keysT (subT c1 T) := List.mem_of_getElem? hj
    have hjT : j ∈ keysT T := subT_sub hjm
    have hw := UpC_top (h := j) hs
    rw [(anc_sub hb0 hjm).1, List.reverse_append] at hw
    obtain ⟨pre, rest, hsp, hlen, hpn⟩ : ∃ pre rest, j :: ((anc j (subT c1 T)).reverse ++ (anc c1 T).reverse) = pre ++ c1 :: rest ∧ pre.length = (anc j (subT c1 T)).length ∧ c1 ∉ pre := by
      rw [esub]
      have h1 := sub_bst (c := c1) hb0
      rw [esub] at h1
      exact way_split h1 (by rw [← esub]; exact hjm) _
    have hup : UpC g (some j) (pre ++ c1 :: rest) := by
      rw [← hsp]
      refine ⟨rfl, ?_⟩
      rw [above_eq hs ((subT_mem hb0).mpr hjT)]
      exact hw
    have hpin : ∀ z ∈ pre, z ∈ K := fun z hz => hcl.up hup (fun k e => by cases e; exact (hrep.in1 j hjT).1) z (List.mem_append_left _ hz)
    have hle := anc_len (h := j) (T := subT c1 T)
    refine lv_iload hx hb dX1_deepestBelow_28 (lv_at hl 0 rfl) ?_
    refine lv_aload_n hx hb dX1_deepestBelow_30 rfl (lv_at hl 4 rfl) ?_
    obtain ⟨i0, hi0⟩ := cw_s (x := x) (ln := ln) (cA := cA) (n := nI (siz T)) (tp := root T) (mo := mo) (dr := dr) (ds := ds) (li := fun i => (keysT T)[i]?) (ad := ad) (g := g) (hk : c1 ∈ K)
    refine va_get (D := D) (ci := 0) (v := .int (g c1).2.2.2) (C := RX0) (T := TX0) (N := 5) hx hb hts (by decide +kernel) hown hG.1 hP i0 hi0 rfl 4 (by decide) (hts (.fieldLink RX1 147 "LopsidedRanks$Soldier" "company" "I") (by decide +kernel)) (fun _ h9 => h9) rfl dX1_deepestBelow_31 ?_
    refine zr_eqi hco ?_
    refine lv_icmp_ge (tgt := 60) hx hb dX1_deepestBelow_34 (by decide) (fun c34 => ?_) (fun c34 => ?_)
    · rw [nI_leI (by omega) (by omega)] at c34
      exact absurd c34 (by omega)
    · rw [nI_leI (by omega) (by omega)] at c34
      refine lv_iload_n hx hb dX1_deepestBelow_37 rfl (lv_at hl 1 rfl) ?_
      refine lv_aload_n hx hb dX1_deepestBelow_38 rfl (lv_at hl 3 rfl) ?_
      refine lv_iload_n hx hb dX1_deepestBelow_39 rfl (lv_at hl 2 rfl) ?_
      refine lv_iload hx hb dX1_deepestBelow_40 (lv_at hl 0 rfl) ?_
      refine lv_iadd hx hb dX1_deepestBelow_42 ?_
      refine zr_eqi (nI_add (ofs c1 T) i) ?_
      refine va_csq (va_Run.run (va_runV (As := [.int (nI ((ofs c1 T) + i))]) (rest := [.int (nI d)]) ⟨hx, hb, hml, hown, hts⟩ (c_X1_inLine l (N := siz T) (j := ofs c1 T + i) hsz (by omega)) (cwV 1 hts gX1_deepestBelow_X1_inLine rfl rfl rfl (by decide +kernel) ⟨Nat.le_trans (Nat.le_of_ble_eq_true rfl) hR.1, Nat.le_trans (Nat.le_of_ble_eq_true rfl) hR.2⟩) ⟨PcR.blind, va_recv hG.1 hP (ci := 1) (q0 := 0) rfl cw_x, PcR.at hP hG⟩ rfl rfl hl.1 rfl (lv_room (Nat.le_of_ble_eq_true rfl)) dX1_deepestBelow_43 ⟨hC.1, hC.2⟩)) (fun r43 q43 => ?_)
      subst q43
      rw [if_pos (show ofs c1 T + i < siz T by omega), ofs_key (show i < siz (subT c1 T) by omega), hj]
      refine lv_aload_n hx hb dX1_deepestBelow_46 rfl (lv_at hl 4 rfl) ?_
      refine vp_callSi (va_Run.run (va_runS (As := [va_rf ((some j).map ad), .ref (ad c1)]) (rest := [.int (nI d)]) ⟨hx, hb, hml, hown, hts⟩ (c_X1_stepsUp l (p0 := some j) (ks := pre) (rest := rest) hcl hk hup hpin hpn) (va_cwS 2 hts gX1_deepestBelow_X1_stepsUp rfl rfl rfl (by decide +kernel) ⟨Nat.le_trans (Nat.le_of_ble_eq_true rfl) hR.1, Nat.le_trans (Nat.le_of_ble_eq_true rfl) hR.2⟩) ⟨PcR.blind, PcR.at hP hG⟩ rfl rfl hl.1 rfl (lv_room (Nat.le_of_ble_eq_true rfl)) dX1_deepestBelow_47 ⟨hC.1, hC.2⟩)) (fun r47 q47 => ?_)
      subst q47
      have h150 : pre.length ≤ 150 := by omega
      refine va_mmax hx hb (hml.trans hl.1.symm) hown (hts (.methodLink RX1 114 Lib.Math.max.name) (by decide +kernel)) (hts (.static Lib.Math.max.name) (by decide +kernel)) (hts (.initialized "java/lang/Math") (by decide +kernel)) (hts (.code Lib.Math.max.name Lib.Math.max.code 2 (some .int)) (by decide +kernel)) (Nat.le_trans (Nat.le_of_ble_eq_true rfl) hR.1) (Nat.le_trans (Nat.le_of_ble_eq_true rfl) hR.2) hC.1 hC.2 dX1_deepestBelow_50 ?_
      refine zr_eqi (zr_max (by omega) (by omega)) ?_
      refine lv_istore_n (lv' := [(3, .int (nI (max d pre.length))), (4, .int (nI i)), (2, .int (nI (ofs c1 T))), (0, .ref x), (1, .ref (ad c1))]) hx hb dX1_deepestBelow_53 rfl hl (by decide) rfl (fun ls hl => ?_)
      refine lv_iinc (v := nI (i + 1)) (lv' := [(4, .int (nI (i + 1))), (3, .int (nI (max d pre.length))), (2, .int (nI (ofs c1 T))), (0, .ref x), (1, .ref (ad c1))]) hx hb dX1_deepestBelow_54 hl (k := 1) rfl (nI_add i 1) (by decide) rfl (fun ls hl => ?_)
      refine lv_goto (tgt := 28) hx hb dX1_deepestBelow_57 (by decide) ?_
      exact ih (i + 1) (max d pre.length) (by omega) (by omega) (by rw [hdr, mxl_cons, ← hlen] at kk; exact kk) _ hl
set_option maxHeartbeats 4000000 in
set_option maxRecDepth 100000 in
/-- deepestBelow(c) -/
theorem c_X1_deepestBelow (l : Launch) {D : va_G} {cA cZ cI : ClassId} {x ln : Nat} {mo dr ds : Int32} {K : List Nat} {ad : Nat → Nat} {g : Nat → Nd} {T : Tr} {c1 : Nat} (hrep : RepC T K g) (hc1 : c1 ∈ keysT T) : Met l yX1_deepestBelow wsX1_deepestBelow ({ frames := 2, cells := 0, slots := 0, locals := 80 } : Room) (PcR D (tysA cA cZ cI) (cw x ln cA (nI (siz T)) (root T) mo dr ds (fun i => (keysT T)[i]?) K ad g) [.ref x, .ref (ad c1)]) (vp_Si (fun r => r = nI (hgt (subT c1 T) - 1))) 0 0 (fun _ => False) := by
  refine Met.ofW (cc := cX1_deepestBelow) (maxL := 5) (ret := (some .int)) (by decide) rfl ?_
  intro p e s m args below meth c s₁ B hml hv
  obtain ⟨rfl, hP, hG⟩ := hv
  have hx := B.exec
  have hb := B.bytes
  have hr := B.returns
  have hts := atoms_spec (ws := wsX1_deepestBelow) B.pre
  have hown : s.vm.findClass RX1 = some m.cls := findClass_of_methodNamed B.named
  have hlocks := B.notSynchronized
  have hl := lv_entry ([.ref x, .ref (ad c1)]) (n := 5) (Nat.le_of_ble_eq_true rfl)
  rw [lg_entry_eq]
  generalize (lg_sl ([.ref x, .ref (ad c1)]) ++ List.replicate (5 - (lg_sl ([.ref x, .ref (ad c1)])).length) Slot.unset).toArray = ls at hl ⊢
  have hl : lv_has ls 5 [(0, .ref x), (1, .ref (ad c1))] := hl
  have hcl := hrep.cl
  have hk := (hrep.in1 c1 hc1).1
  obtain ⟨hb0, hin0, hsz, hs, hc, hK0⟩ := id hrep
  obtain ⟨sz, v, lt, rt, esub, p1, p2, p3, p4, p5, p6, p7, p8⟩ := hrep.at hc1
  have hlt := hin0 c1 hc1
  have hof := cnt_ofs c1 T
  have hcl9 := cnt_le (h := c1) (T := T)
  refine lv_aload_n hx hb dX1_deepestBelow_0 rfl (lv_at hl 1 rfl) ?_
  refine lv_ifnonnull (tgt := 6) hx hb dX1_deepestBelow_1 (by decide) ?_
  refine lv_aload_n hx hb dX1_deepestBelow_6 rfl (lv_at hl 0 rfl) ?_
  refine lv_aload_n hx hb dX1_deepestBelow_7 rfl (lv_at hl 1 rfl) ?_
  obtain ⟨i0, hi0⟩ := cw_s (x := x) (ln := ln) (cA := cA) (n := nI (siz T)) (tp := root T) (mo := mo) (dr := dr) (ds := ds) (li := fun i => (keysT T)[i]?) (ad := ad) (g := g) (hk : c1 ∈ K)
  refine va_get (D := D) (ci := 0) (v := .int (nI c1)) (C := RX0) (T := TX0) (N := 5) hx hb hts (by decide +kernel) hown hG.1 hP i0 hi0 rfl 0 (by decide) (hts (.fieldLink RX1 100 "LopsidedRanks$Soldier" "height" "I") (by decide +kernel)) (fun _ h9 => h9) rfl dX1_deepestBelow_8 ?_
  refine vp_callSi (va_Run.run (va_runV (As := [.int (nI c1)]) (rest := []) ⟨hx, hb, hml, hown, hts⟩ (c_X1_smallerThan l hcl (by omega) hs hc hrep.in1) (cwV 1 hts gX1_deepestBelow_X1_smallerThan rfl rfl rfl (by decide +kernel) ⟨Nat.le_of_ble_eq_true rfl, Nat.le_of_ble_eq_true rfl⟩) ⟨PcR.blind, va_recv hG.1 hP (ci := 1) (q0 := 0) rfl cw_x, PcR.at hP hG⟩ rfl rfl hl.1 rfl (lv_room (Nat.le_of_ble_eq_true rfl)) dX1_deepestBelow_11 ⟨Nat.zero_le _, Nat.zero_le _⟩)) (fun r11 q11 => ?_)
  subst q11
  refine lv_aload_n hx hb dX1_deepestBelow_14 rfl (lv_at hl 1 rfl) ?_
  obtain ⟨i1, hi1⟩ := cw_s (x := x) (ln := ln) (cA := cA) (n := nI (siz T)) (tp := root T) (mo := mo) (dr := dr) (ds := ds) (li := fun i => (keysT T)[i]?) (ad := ad) (g := g) (hk : c1 ∈ K)
  refine va_get (D := D) (ci := 0) (v := va_rf ((g c1).2.1.map ad)) (C := RX0) (T := TX0) (N := 5) hx hb hts (by decide +kernel) hown hG.1 hP i1 hi1 rfl 2 (by decide) (hts (.fieldLink RX1 150 "LopsidedRanks$Soldier" "left" "LLopsidedRanks$Soldier;") (by decide +kernel)) (fun _ h9 => h9) rfl dX1_deepestBelow_15 ?_
  refine vp_callSi (va_Run.run (va_runS (As := [va_rf ((g c1).2.1.map ad)]) (rest := [.int (nI (cntLt c1 T))]) ⟨hx, hb, hml, hown, hts⟩ (c_X1_companyOf l (o := (g c1).2.1) (hcl c1 hk).2.2.1) (va_cwS 1 hts gX1_deepestBelow_X1_companyOf rfl rfl rfl (by decide +kernel) ⟨Nat.le_of_ble_eq_true rfl, Nat.le_of_ble_eq_true rfl⟩) ⟨PcR.blind, PcR.at hP hG⟩ rfl rfl hl.1 rfl (lv_room (Nat.le_of_ble_eq_true rfl)) dX1_deepestBelow_18 ⟨Nat.zero_le _, Nat.zero_le _⟩)) (fun r18 q18 => ?_)
  subst q18
  refine zr_eqi (show coOf g (g c1).2.1 = nI (sizL (subT c1 T)) by rw [p2, esub]; exact co_root p7) ?_
  refine lv_isub hx hb dX1_deepestBelow_21 ?_
  refine zr_eqi (pk_sub (a := cntLt c1 T) (b := sizL (subT c1 T)) (by omega)) ?_
  refine zr_eqi (show nI (cntLt c1 T - sizL (subT c1 T)) = nI (ofs c1 T) by rw [hof, Nat.add_sub_cancel]) ?_
  refine lv_istore_n (lv' := [(2, .int (nI (ofs c1 T))), (0, .ref x), (1, .ref (ad c1))]) hx hb dX1_deepestBelow_22 rfl hl (by decide) rfl (fun ls hl => ?_)
  refine lv_iconst (v := nI 0) hx hb dX1_deepestBelow_23 (by decide) ?_
  refine lv_istore_n (lv' := [(3, .int (nI 0)), (2, .int (nI (ofs c1 T))), (0, .ref x), (1, .ref (ad c1))]) hx hb dX1_deepestBelow_24 rfl hl (by decide) rfl (fun ls hl => ?_)
  refine lv_iconst (v := nI 0) hx hb dX1_deepestBelow_25 (by decide) ?_
  refine lv_istore (lv' := [(4, .int (nI 0)), (3, .int (nI 0)), (2, .int (nI (ofs c1 T))), (0, .ref x), (1, .ref (ad c1))]) hx hb dX1_deepestBelow_26 hl (by decide) rfl (fun ls hl => ?_)
  refine L_X1_deepestBelow (c1 := c1) hx hb hml hts hown hG hP ⟨Nat.le_of_ble_eq_true rfl, Nat.le_of_ble_eq_true rfl⟩ ⟨Nat.zero_le _, Nat.zero_le _⟩ hrep hc1 (siz (subT c1 T)) 0 0 (Nat.zero_add _) (Nat.zero_le _) (fun ls hl => ?_) _ hl
  refine lv_iload_n hx hb dX1_deepestBelow_60 rfl (lv_at hl 1 rfl) ?_
  exact W.iret (v := (nI (mxl (fun j => (anc j (subT c1 T)).length) ((keysT (subT c1 T)).drop 0) 0))) hx hb hr (fun t ht hW => ⟨_, rfl, by rw [List.drop_zero]; have h9 := hgt_mxl (sub_bst (c := c1) hb0) 0 0; rw [if_neg (show ¬ siz (subT c1 T) = 0 by rw [esub]; simp [siz])] at h9; simp only [Nat.add_zero, Nat.zero_max] at h9; rw [h9], ht⟩) (fun q hq => absurd hq List.not_mem_nil) dX1_deepestBelow_61

set_option maxHeartbeats 4000000 in
set_option maxRecDepth 100000 in
/-- deepestBelow(nobody) -/
theorem c_X1_deepestBelowN (l : Launch) {D : va_G} {cA cZ cI : ClassId} {x ln : Nat} {n : Int32} {tp : Option Nat} {mo dr ds : Int32} {li : Nat → Option Nat} {K : List Nat} {ad : Nat → Nat} {g : Nat → Nd} : Met l yX1_deepestBelow wsX1_deepestBelow ({ frames := 2, cells := 0, slots := 0, locals := 80 } : Room) (PcR D (tysA cA cZ cI) (cw x ln cA n tp mo dr ds li K ad g) [.ref x, .null]) (vp_Si (fun r => r = -1)) 0 0 (fun _ => False) := by
  refine Met.ofW (cc := cX1_deepestBelow) (maxL := 5) (ret := (some .int)) (by decide) rfl ?_
  intro p e s m args below meth c s₁ B hml hv
  obtain ⟨rfl, hP, hG⟩ := hv
  have hx := B.exec
  have hb := B.bytes
  have hr := B.returns
  have hts := atoms_spec (ws := wsX1_deepestBelow) B.pre
  have hown : s.vm.findClass RX1 = some m.cls := findClass_of_methodNamed B.named
  have hlocks := B.notSynchronized
  have hl := lv_entry ([.ref x, .null]) (n := 5) (Nat.le_of_ble_eq_true rfl)
  rw [lg_entry_eq]
  generalize (lg_sl ([.ref x, .null]) ++ List.replicate (5 - (lg_sl ([.ref x, .null])).length) Slot.unset).toArray = ls at hl ⊢
  have hl : lv_has ls 5 [(0, .ref x), (1, .null)] := hl
  refine lv_aload_nN hx hb dX1_deepestBelow_0 rfl (lv_at hl 1 rfl) ?_
  refine lv_ifnonnullN hx hb dX1_deepestBelow_1 ?_
  refine lv_iconst (v := (-1)) hx hb dX1_deepestBelow_4 (by decide) ?_
  exact W.iret (v := (-1)) hx hb hr (fun t ht hW => ⟨_, rfl, rfl, ht⟩) (fun q hq => absurd hq List.not_mem_nil) dX1_deepestBelow_5

set_option maxHeartbeats 4000000 in
set_option maxRecDepth 100000 in
theorem L_X1_crookedCompanies {D : va_G} {cA cZ cI : ClassId} {x ln : Nat} {mo dr ds : Int32} {K : List Nat} {ad : Nat → Nat} {g : Nat → Nd} {T : Tr} {p : Program} {l : Launch} {e : Env} {R : Room} {s : State} {m : MethodId} {args : Array Value} {below : List Frame} {meth : Method} {c : Code} {Q : State → Prop} {cells slots : Nat} {H : Heap} {locs : List Loc} (hx : p.tables.exec = Jvm.exec) (hb : c.code = cX1_crookedCompanies) (hml : c.maxLocals = 4) (hts : ∀ w ∈ wsX1_crookedCompanies, w.before args s = true) (hown : s.vm.findClass RX1 = some m.cls) (hG : GK D (tysA cA cZ cI) s) (hP : va_P D vwCl (cw x ln cA (nI (siz T)) (root T) mo dr ds (fun i => (keysT T)[i]?) K ad g) H) (hR : 2 ≤ R.frames ∧ 80 ≤ R.locals) (hC : cells ≤ R.cells ∧ slots ≤ R.slots) (hrep : RepC T K g) : ∀ (n i d : Nat), i + n = siz T → d ≤ i → (∀ ls, lv_has ls 4 [(2, .int (nI (siz T))), (1, .int (nI (d + ((keysT T).drop i).countP (crT T)))), (0, .ref x)] → W p l e R s m args below meth c H locs cells slots Q (F0 m 38 ls [])) → ∀ ls, lv_has ls 4 [(2, .int (nI i)), (1, .int (nI d)), (0, .ref x)] → W p l e R s m args below meth c H locs cells slots Q (F0 m 4 ls []) := by
  have hcl := hrep.cl
  obtain ⟨hb0, hin0, hsz, hs, hc, hK0⟩ := id hrep
  intro n
  induction n with
  | zero =>
    intro i d hi hd kk ls hl
    refine lv_iload_n hx hb dX1_crookedCompanies_4 rfl (lv_at hl 0 rfl) ?_
    refine lv_aload_n hx hb dX1_crookedCompanies_5 rfl (lv_at hl 2 rfl) ?_
    refine va_get (D := D) (ci := 1) (v := .int (nI (siz T))) (C := RX1) (T := TX1) (N := 6) hx hb hts (by decide +kernel) hown hG.1 hP 0 cw_x rfl 1 (by decide) (hts (.fieldLink RX1 19 "LopsidedRanks" "soldiers" "I") (by decide +kernel)) (fun _ h9 => h9) rfl dX1_crookedCompanies_6 ?_
    refine lv_icmp_ge (tgt := 38) hx hb dX1_crookedCompanies_9 (by decide) (fun c9 => ?_) (fun c9 => ?_)
    · rw [nI_leI (by omega) (by omega)] at c9
      have e9 : (keysT T).drop i = [] := List.drop_eq_nil_of_le (by rw [keys_len]; omega)
      have e8 : i = siz T := by omega
      rw [e9] at kk
      subst e8
      exact kk _ (lv_sub hl [0, 1, 2] rfl)
    · rw [nI_leI (by omega) (by omega)] at c9
      exact absurd c9 (by omega)
  | succ n ih =>
    intro i d hi hd kk ls hl
    have hil : i < (keysT T).length := by rw [keys_len]; omega
    obtain ⟨j, hj⟩ : ∃ j, (keysT T)[i]? = some j := ⟨_, List.getElem?_eq_getElem hil⟩
    have hdr : (keysT T).drop i = j :: (keysT T).drop (i + 1) := by
      rw [List.drop_eq_getElem_cons hil]
      rw [List.getElem?_eq_getElem hil] at hj
      rw [Option.some.inj hj]
    have hjT : j ∈ keysT T := List.mem_of_getElem? hj
    have hjK := (hrep.in1 j hjT).1
    obtain ⟨sz, v, lt, rt, esub, p1, p2, p3, p4, p5, p6, p7, p8⟩ := hrep.at hjT
    have hsub := sub_siz (h := j) (T := T)
    rw [esub] at hsub
    simp only [siz] at hsub
    refine lv_iload_n hx hb dX1_crookedCompanies_4 rfl (lv_at hl 0 rfl) ?_
    refine lv_aload_n hx hb dX1_crookedCompanies_5 rfl (lv_at hl 2 rfl) ?_
    refine va_get (D := D) (ci := 1) (v := .int (nI (siz T))) (C := RX1) (T := TX1) (N := 6) hx hb hts (by decide +kernel) hown hG.1 hP 0 cw_x rfl 1 (by decide) (hts (.fieldLink RX1 19 "LopsidedRanks" "soldiers" "I") (by decide +kernel)) (fun _ h9 => h9) rfl dX1_crookedCompanies_6 ?_
    refine lv_icmp_ge (tgt := 38) hx hb dX1_crookedCompanies_9 (by decide) (fun c9 => ?_) (fun c9 => ?_)
    · rw [nI_leI (by omega) (by omega)] at c9
      exact absurd c9 (by omega)
    · rw [nI_leI (by omega) (by omega)] at c9
      refine lv_aload_n hx hb dX1_crookedCompanies_12 rfl (lv_at hl 2 rfl) ?_
      refine lv_iload_n hx hb dX1_crookedCompanies_13 rfl (lv_at hl 0 rfl) ?_
      refine va_csq (va_Run.run (va_runV (As := [.int (nI i)]) (rest := []) ⟨hx, hb, hml, hown, hts⟩ (c_X1_inLine l (N := siz T) (j := i) hsz (by omega)) (cwV 1 hts gX1_crookedCompanies_X1_inLine rfl rfl rfl (by decide +kernel) ⟨Nat.le_trans (Nat.le_of_ble_eq_true rfl) hR.1, Nat.le_trans (Nat.le_of_ble_eq_true rfl) hR.2⟩) ⟨PcR.blind, va_recv hG.1 hP (ci := 1) (q0 := 0) rfl cw_x, PcR.at hP hG⟩ rfl rfl hl.1 rfl (lv_room (Nat.le_of_ble_eq_true rfl)) dX1_crookedCompanies_14 ⟨hC.1, hC.2⟩)) (fun r14 q14 => ?_)
      subst q14
      rw [if_pos (show i < siz T by omega), hj]
      refine lv_astore_n (lv' := [(3, .ref (ad j)), (2, .int (nI i)), (1, .int (nI d)), (0, .ref x)]) hx hb dX1_crookedCompanies_17 rfl hl (by decide) rfl (fun ls hl => ?_)
      refine lv_aload_n hx hb dX1_crookedCompanies_18 rfl (lv_at hl 0 rfl) ?_
      refine lv_ifnull hx hb dX1_crookedCompanies_19 ?_
      refine lv_aload_n hx hb dX1_crookedCompanies_22 rfl (lv_at hl 0 rfl) ?_
      obtain ⟨i0, hi0⟩ := cw_s (x := x) (ln := ln) (cA := cA) (n := nI (siz T)) (tp := root T) (mo := mo) (dr := dr) (ds := ds) (li := fun i => (keysT T)[i]?) (ad := ad) (g := g) (hjK : j ∈ K)
      refine vp_callSi (va_Run.run (va_runV (As := []) (rest := []) ⟨hx, hb, hml, hown, hts⟩ (c_X0_hasCrookedCompany l hcl hjK (a := siz lt) (b := siz rt) (by rw [p2]; exact co_root p7) (by rw [p3]; exact co_root p8) (by omega) (by omega)) (cwV 0 hts gX1_crookedCompanies_X0_hasCrookedCompany rfl rfl rfl (by decide +kernel) ⟨Nat.le_trans (Nat.le_of_ble_eq_true rfl) hR.1, Nat.le_trans (Nat.le_of_ble_eq_true rfl) hR.2⟩) ⟨PcR.blind, va_recv hG.1 hP (ci := 0) (q0 := i0) rfl hi0, PcR.at hP hG⟩ rfl rfl hl.1 rfl (lv_room (Nat.le_of_ble_eq_true rfl)) dX1_crookedCompanies_23 ⟨hC.1, hC.2⟩)) (fun r23 q23 => ?_)
      subst q23
      refine lv_if_eq (tgt := 32) hx hb dX1_crookedCompanies_26 (by decide) (fun c26 => ?_) (fun c26 => ?_)
      · have h9 : crT T j = false := by simp only [crT, esub]; exact Bool.eq_false_iff.mpr (b2i_eq c26)
        refine lv_iinc (v := nI (i + 1)) (lv' := [(2, .int (nI (i + 1))), (3, .ref (ad j)), (1, .int (nI d)), (0, .ref x)]) hx hb dX1_crookedCompanies_32 hl (k := 1) rfl (nI_add i 1) (by decide) rfl (fun ls hl => ?_)
        refine lv_goto (tgt := 4) hx hb dX1_crookedCompanies_35 (by decide) ?_
        exact ih (i + 1) d (by omega) (by omega) (by rw [hdr, List.countP_cons_of_neg (by rw [h9]; decide)] at kk; exact kk) _ (lv_sub hl [0, 2, 3] rfl)
      · have h9 : crT T j = true := by simp only [crT, esub]; exact b2i_ne c26
        refine lv_iinc (v := nI (d + 1)) (lv' := [(1, .int (nI (d + 1))), (3, .ref (ad j)), (2, .int (nI i)), (0, .ref x)]) hx hb dX1_crookedCompanies_29 hl (k := 2) rfl (nI_add d 1) (by decide) rfl (fun ls hl => ?_)
        refine lv_iinc (v := nI (i + 1)) (lv' := [(2, .int (nI (i + 1))), (1, .int (nI (d + 1))), (3, .ref (ad j)), (0, .ref x)]) hx hb dX1_crookedCompanies_32 hl (k := 2) rfl (nI_add i 1) (by decide) rfl (fun ls hl => ?_)
        refine lv_goto (tgt := 4) hx hb dX1_crookedCompanies_35 (by decide) ?_
        exact ih (i + 1) (d + 1) (by omega) (by omega) (by rw [hdr, List.countP_cons_of_pos h9] at kk; rw [show d + 1 + List.countP (crT T) ((keysT T).drop (i + 1)) = d + (List.countP (crT T) ((keysT T).drop (i + 1)) + 1) by omega]; exact kk) _ (lv_sub hl [0, 1, 3] rfl)
set_option maxHeartbeats 4000000 in
set_option maxRecDepth 100000 in
/-- crookedCompanies() -/
theorem c_X1_crookedCompanies (l : Launch) {D : va_G} {cA cZ cI : ClassId} {x ln : Nat} {mo dr ds : Int32} {K : List Nat} {ad : Nat → Nat} {g : Nat → Nd} {T : Tr} (hrep : RepC T K g) : Met l yX1_crookedCompanies wsX1_crookedCompanies ({ frames := 2, cells := 0, slots := 0, locals := 80 } : Room) (PcR D (tysA cA cZ cI) (cw x ln cA (nI (siz T)) (root T) mo dr ds (fun i => (keysT T)[i]?) K ad g) [.ref x]) (vp_Si (fun r => r = nI (ckn T))) 0 0 (fun _ => False) := by
  refine Met.ofW (cc := cX1_crookedCompanies) (maxL := 4) (ret := (some .int)) (by decide) rfl ?_
  intro p e s m args below meth c s₁ B hml hv
  obtain ⟨rfl, hP, hG⟩ := hv
  have hx := B.exec
  have hb := B.bytes
  have hr := B.returns
  have hts := atoms_spec (ws := wsX1_crookedCompanies) B.pre
  have hown : s.vm.findClass RX1 = some m.cls := findClass_of_methodNamed B.named
  have hlocks := B.notSynchronized
  have hl := lv_entry ([.ref x]) (n := 4) (Nat.le_of_ble_eq_true rfl)
  rw [lg_entry_eq]
  generalize (lg_sl ([.ref x]) ++ List.replicate (4 - (lg_sl ([.ref x])).length) Slot.unset).toArray = ls at hl ⊢
  have hl : lv_has ls 4 [(0, .ref x)] := hl
  obtain ⟨hb0, hin0, hsz, hs, hc, hK0⟩ := id hrep
  refine lv_iconst (v := nI 0) hx hb dX1_crookedCompanies_0 (by decide) ?_
  refine lv_istore_n (lv' := [(1, .int (nI 0)), (0, .ref x)]) hx hb dX1_crookedCompanies_1 rfl hl (by decide) rfl (fun ls hl => ?_)
  refine lv_iconst (v := nI 0) hx hb dX1_crookedCompanies_2 (by decide) ?_
  refine lv_istore_n (lv' := [(2, .int (nI 0)), (1, .int (nI 0)), (0, .ref x)]) hx hb dX1_crookedCompanies_3 rfl hl (by decide) rfl (fun ls hl => ?_)
  refine L_X1_crookedCompanies hx hb hml hts hown hG hP ⟨Nat.le_of_ble_eq_true rfl, Nat.le_of_ble_eq_true rfl⟩ ⟨Nat.zero_le _, Nat.zero_le _⟩ hrep (siz T) 0 0 (Nat.zero_add _) (Nat.zero_le _) (fun ls hl => ?_) _ hl
  refine lv_iload_n hx hb dX1_crookedCompanies_38 rfl (lv_at hl 1 rfl) ?_
  exact W.iret (v := (nI (0 + ((keysT T).drop 0).countP (crT T)))) hx hb hr (fun t ht hW => ⟨_, rfl, by rw [List.drop_zero, Nat.zero_add, ckn_count hb0], ht⟩) (fun q hq => absurd hq List.not_mem_nil) dX1_crookedCompanies_39

theorem lg_gt {x y : Int64} : 0 < lg_cmp x y ↔ y < x := by
  unfold lg_cmp
  split
  · rename_i h; exact ⟨fun _ => h, fun _ => by decide⟩
  · rename_i h; split
    · exact ⟨fun q => absurd q (by decide), fun q => absurd q h⟩
    · exact ⟨fun q => absurd q (by decide), fun q => absurd q h⟩
set_option maxHeartbeats 4000000 in
set_option maxRecDepth 100000 in
theorem L_X1_allowedDepth {p : Program} {l : Launch} {e : Env} {R : Room} {s : State} {m : MethodId} {args : Array Value} {below : List Frame} {meth : Method} {c : Code} {Q : State → Prop} {cells slots : Nat} {H : Heap} {locs : List Loc} (hx : p.tables.exec = Jvm.exec) (hb : c.code = cX1_allowedDepth) (hml : c.maxLocals = 6) (hts : ∀ w ∈ wsX1_allowedDepth, w.before args s = true) (hown : s.vm.findClass RX1 = some m.cls) {n : Nat} (hn : n ≤ 151) : ∀ (f d : Nat), d + f = lim n → (∀ ls, lv_has ls 6 [(5, .int (pd (lim n))), (3, .long (lN (n * 2 ^ (lim n)))), (1, .long (lN (3 ^ (lim n)))), (0, .int (nI n))] → W p l e R s m args below meth c H locs cells slots Q (F0 m 39 ls [])) → ∀ ls, lv_has ls 6 [(5, .int (pd d)), (3, .long (lN (n * 2 ^ d))), (1, .long (lN (3 ^ d))), (0, .int (nI n))] → W p l e R s m args below meth c H locs cells slots Q (F0 m 8 ls []) := by
  obtain ⟨l1, l2, l3⟩ := lim_spec hn
  have hp3 : ∀ d, d ≤ 13 → 3 ^ d ≤ 1594323 := fun d hd => Nat.le_trans (Nat.pow_le_pow_right (by decide) hd) (by decide)
  have hp2 : ∀ d, d ≤ 13 → n * 2 ^ d ≤ 1236992 := fun d hd => Nat.le_trans (Nat.mul_le_mul hn (Nat.pow_le_pow_right (by decide) hd)) (by decide)
  intro f
  induction f with
  | zero =>
    intro d hd kk ls hl
    have hd0 : d = lim n := by omega
    subst hd0
    have hx2 := l2
    have hb3 := hp3 _ l1
    have hb2 := hp2 _ l1
    refine lv_iload hx hb dX1_allowedDepth_8 (lv_at hl 0 rfl) ?_
    refine lv_bipush (v := nI 40) hx hb dX1_allowedDepth_10 (by decide) ?_
    refine lv_icmp_ge (tgt := 39) hx hb dX1_allowedDepth_12 (by decide) (fun c12 => ?_) (fun c12 => ?_)
    · exact absurd c12 (pd_lt (by omega))
    · refine lv_lload_n hx hb dX1_allowedDepth_15 rfl (lv_at hl 2 rfl) ?_
      refine lv_lload_n hx hb dX1_allowedDepth_16 rfl (lv_at hl 1 rfl) ?_
      refine zr_lcmp hx hb dX1_allowedDepth_17 ?_
      refine lv_if_gt (tgt := 39) hx hb dX1_allowedDepth_18 (by decide) (fun c18 => ?_) (fun c18 => ?_)
      · exact kk _ hl
      · exact absurd (lg_gt.mpr ((pk_lLT (by omega) (by omega)).mpr hx2)) c18
  | succ f ih =>
    intro d hd kk ls hl
    have hx3 := l3 d (by omega)
    have hb3 := hp3 d (by omega)
    have hb2 := hp2 d (by omega)
    refine lv_iload hx hb dX1_allowedDepth_8 (lv_at hl 0 rfl) ?_
    refine lv_bipush (v := nI 40) hx hb dX1_allowedDepth_10 (by decide) ?_
    refine lv_icmp_ge (tgt := 39) hx hb dX1_allowedDepth_12 (by decide) (fun c12 => ?_) (fun c12 => ?_)
    · exact absurd c12 (pd_lt (by omega))
    · refine lv_lload_n hx hb dX1_allowedDepth_15 rfl (lv_at hl 2 rfl) ?_
      refine lv_lload_n hx hb dX1_allowedDepth_16 rfl (lv_at hl 1 rfl) ?_
      refine zr_lcmp hx hb dX1_allowedDepth_17 ?_
      refine lv_if_gt (tgt := 39) hx hb dX1_allowedDepth_18 (by decide) (fun c18 => ?_) (fun c18 => ?_)
      · exact absurd c18 (by rw [lg_gt, pk_lLT (by omega) (by omega)]; omega)
      · refine lv_iinc (v := (pd d) + nI 1) (lv' := [(5, .int ((pd d) + nI 1)), (3, .long (lN (n * 2 ^ d))), (1, .long (lN (3 ^ d))), (0, .int (nI n))]) hx hb dX1_allowedDepth_21 hl (k := 0) rfl rfl (by decide) rfl (fun ls hl => ?_)
        refine lv_lload_n hx hb dX1_allowedDepth_24 rfl (lv_at hl 2 rfl) ?_
        refine lv_ldc2 hx hb hown (v := 3) (hts (.constantLong RX1 170 (3)) (by decide +kernel)) dX1_allowedDepth_25 ?_
        refine lv_lmul hx hb dX1_allowedDepth_28 ?_
        refine lv_lstore_n (lv' := [(1, .long ((lN (3 ^ d)) * 3)), (5, .int ((pd d) + nI 1)), (3, .long (lN (n * 2 ^ d))), (0, .int (nI n))]) hx hb dX1_allowedDepth_29 rfl hl (by decide) rfl (fun ls hl => ?_)
        refine lv_lload_n hx hb dX1_allowedDepth_30 rfl (lv_at hl 2 rfl) ?_
        refine lv_ldc2 hx hb hown (v := 2) (hts (.constantLong RX1 172 (2)) (by decide +kernel)) dX1_allowedDepth_31 ?_
        refine lv_lmul hx hb dX1_allowedDepth_34 ?_
        refine lv_lstore_n (lv' := [(3, .long ((lN (n * 2 ^ d)) * 2)), (1, .long ((lN (3 ^ d)) * 3)), (5, .int ((pd d) + nI 1)), (0, .int (nI n))]) hx hb dX1_allowedDepth_35 rfl hl (by decide) rfl (fun ls hl => ?_)
        refine lv_goto (tgt := 8) hx hb dX1_allowedDepth_36 (by decide) ?_
        exact ih (d + 1) (by omega) kk _ (lv_re (lv_sub hl [2, 0, 1, 3] rfl) (by rw [pd_1, show (3 : Int64) = lN 3 from rfl, show (2 : Int64) = lN 2 from rfl, lN_mul, lN_mul, Nat.pow_succ, Nat.pow_succ, Nat.mul_assoc]; rfl))
set_option maxHeartbeats 4000000 in
set_option maxRecDepth 100000 in
/-- allowedDepth(n) -/
theorem c_X1_allowedDepth (l : Launch) {n : Nat} (hn : n ≤ 151) : Met l yX1_allowedDepth wsX1_allowedDepth ({ frames := 0, cells := 0, slots := 0, locals := 0 } : Room) (va_Pc [.int (nI n)] (fun _ => True)) (vp_Si (fun r => r = pd (lim n))) 0 0 (fun _ => False) := by
  refine Met.ofW (cc := cX1_allowedDepth) (maxL := 6) (ret := (some .int)) (by decide) rfl ?_
  intro p e s m args below meth c s₁ B hml hv
  obtain ⟨rfl, -⟩ := hv
  have hx := B.exec
  have hb := B.bytes
  have hr := B.returns
  have hts := atoms_spec (ws := wsX1_allowedDepth) B.pre
  have hown : s.vm.findClass RX1 = some m.cls := findClass_of_methodNamed B.named
  have hlocks := B.notSynchronized
  have hl := lv_entry ([.int (nI n)]) (n := 6) (Nat.le_of_ble_eq_true rfl)
  rw [lg_entry_eq]
  generalize (lg_sl ([.int (nI n)]) ++ List.replicate (6 - (lg_sl ([.int (nI n)])).length) Slot.unset).toArray = ls at hl ⊢
  have hl : lv_has ls 6 [(0, .int (nI n))] := hl
  refine lv_lconst (v := lN 1) hx hb dX1_allowedDepth_0 (by decide) ?_
  refine lv_lstore_n (lv' := [(1, .long (lN 1)), (0, .int (nI n))]) hx hb dX1_allowedDepth_1 rfl hl (by decide) rfl (fun ls hl => ?_)
  refine lv_iload_n hx hb dX1_allowedDepth_2 rfl (lv_at hl 1 rfl) ?_
  refine lv_i2l hx hb dX1_allowedDepth_3 rfl ?_
  refine lv_lstore_n (lv' := [(3, .long (nI n).toInt64), (1, .long (lN 1)), (0, .int (nI n))]) hx hb dX1_allowedDepth_4 rfl hl (by decide) rfl (fun ls hl => ?_)
  refine lv_iconst (v := (-1)) hx hb dX1_allowedDepth_5 (by decide) ?_
  refine lv_istore (lv' := [(5, .int (-1)), (3, .long (nI n).toInt64), (1, .long (lN 1)), (0, .int (nI n))]) hx hb dX1_allowedDepth_6 hl (by decide) rfl (fun ls hl => ?_)
  refine L_X1_allowedDepth hx hb hml hts hown hn (lim n) 0 (Nat.zero_add _) (fun ls hl => ?_) _ (lv_re hl (by rw [nI_l (by omega)]; simp [pd]; rfl))
  refine lv_iload hx hb dX1_allowedDepth_39 (lv_at hl 0 rfl) ?_
  exact W.iret (v := (pd (lim n))) hx hb hr (fun t ht hW => ⟨_, rfl, rfl, ht⟩) (fun q hq => absurd hq List.not_mem_nil) dX1_allowedDepth_41
end
section
/-! told() and count() of the class, of a tree -/
def rootL : Tr → Option Nat
  | .leaf => none
  | .inner _ _ _ l _ => root l
def rootR : Tr → Option Nat
  | .leaf => none
  | .inner _ _ _ _ r => root r
def tellT (T : Tr) (k : Nat) : Nat → Int32
  | 0 => nI (anc k T).length
  | 1 => enc (parF k none T)
  | 2 => enc (rootL (subT k T))
  | 3 => enc (rootR (subT k T))
  | 4 => nI (siz (subT k T))
  | 5 => nI (hgt (subT k T) - 1)
  | 6 => b2i (crT T k)
  | _ => nI (cntLt k T)
def tallyT (T : Tr) (dr ds mo : Int32) : Nat → Int32
  | 0 => nI (siz T)
  | 1 => enc (root T)
  | 2 => pd (hgt T)
  | 3 => pd (lim (siz T))
  | 4 => nI (ckn T)
  | 5 => dr
  | 6 => ds
  | _ => mo
theorem sub_root {T : Tr} {c : Nat} (h : root T = some c) : subT c T = T := by
  cases T with
  | leaf => cases h
  | inner s k v l r => cases h; exact sub_s
set_option maxHeartbeats 4000000 in
set_option maxRecDepth 100000 in
/-- tell(k, what) -/
theorem c_X1_tell (l : Launch) {D : va_G} {cA cZ cI : ClassId} {x ln : Nat} {mo dr ds : Int32} {K : List Nat} {ad : Nat → Nat} {g : Nat → Nd} {T : Tr} {k1 w0 : Nat} (hrep : RepC T K g) (hk1 : k1 ∈ keysT T) (hw0 : w0 ≤ 7) : Met l yX1_tell wsX1_tell ({ frames := 3, cells := 0, slots := 0, locals := 120 } : Room) (PcR D (tysA cA cZ cI) (cw x ln cA (nI (siz T)) (root T) mo dr ds (fun i => (keysT T)[i]?) K ad g) [.ref x, .ref (ad k1), .int (nI w0)]) (vp_Si (fun r => r = tellT T k1 w0)) 0 0 (fun _ => False) := by
  refine Met.ofW (cc := cX1_tell) (maxL := 3) (ret := (some .int)) (by decide) rfl ?_
  intro p e s m args below meth c s₁ B hml hv
  obtain ⟨rfl, hP, hG⟩ := hv
  have hx := B.exec
  have hb := B.bytes
  have hr := B.returns
  have hts := atoms_spec (ws := wsX1_tell) B.pre
  have hown : s.vm.findClass RX1 = some m.cls := findClass_of_methodNamed B.named
  have hlocks := B.notSynchronized
  have hl := lv_entry ([.ref x, .ref (ad k1), .int (nI w0)]) (n := 3) (Nat.le_of_ble_eq_true rfl)
  rw [lg_entry_eq]
  generalize (lg_sl ([.ref x, .ref (ad k1), .int (nI w0)]) ++ List.replicate (3 - (lg_sl ([.ref x, .ref (ad k1), .int (nI w0)])).length) Slot.unset).toArray = ls at hl ⊢
  have hl : lv_has ls 3 [(0, .ref x), (1, .ref (ad k1)), (2, .int (nI w0))] := hl
  have hcl := hrep.cl
  have hk := (hrep.in1 k1 hk1).1
  obtain ⟨hb0, hin0, hsz, hs, hc, hK0⟩ := id hrep
  obtain ⟨sz, v, lt, rt, esub, p1, p2, p3, p4, p5, p6, p7, p8⟩ := hrep.at hk1
  have hsub := sub_siz (h := k1) (T := T)
  rw [esub] at hsub
  simp only [siz] at hsub
  have hkn := hin0 k1 hk1
  refine lv_aload_n hx hb dX1_tell_0 rfl (lv_at hl 1 rfl) ?_
  refine lv_ifnonnull (tgt := 6) hx hb dX1_tell_1 (by decide) ?_
  refine lv_iload_n hx hb dX1_tell_6 rfl (lv_at hl 2 rfl) ?_
  rcases (show w0 = 0 ∨ w0 = 1 ∨ w0 = 2 ∨ w0 = 3 ∨ w0 = 4 ∨ w0 = 5 ∨ w0 = 6 ∨ w0 = 7 by omega) with rfl | rfl | rfl | rfl | rfl | rfl | rfl | rfl
  · refine lv_tableIn (off := 41) (tgt := 48) hx hb dX1_tell_7 (by decide) (by decide) (by decide +kernel) (by decide) ?_
    refine lv_aload_n hx hb dX1_tell_48 rfl (lv_at hl 1 rfl) ?_
    obtain ⟨i0, hi0⟩ := cw_s (x := x) (ln := ln) (cA := cA) (n := nI (siz T)) (tp := root T) (mo := mo) (dr := dr) (ds := ds) (li := fun i => (keysT T)[i]?) (ad := ad) (g := g) (hk : k1 ∈ K)
    refine vp_callSi (va_Run.run (va_runV (As := []) (rest := []) ⟨hx, hb, hml, hown, hts⟩ (c_X0_depth l (ks := (anc k1 T).reverse) hk (by rw [p1]; exact UpC_top hs) (fun j hj => (hrep.in1 j (anc_in (List.mem_reverse.mp hj))).1)) (cwV 0 hts gX1_tell_X0_depth rfl rfl rfl (by decide +kernel) ⟨Nat.le_of_ble_eq_true rfl, Nat.le_of_ble_eq_true rfl⟩) ⟨PcR.blind, va_recv hG.1 hP (ci := 0) (q0 := i0) rfl hi0, PcR.at hP hG⟩ rfl rfl hl.1 rfl (lv_room (Nat.le_of_ble_eq_true rfl)) dX1_tell_49 ⟨Nat.zero_le _, Nat.zero_le _⟩)) (fun r49 q49 => ?_)
    subst q49
    exact W.iret (v := (nI (anc k1 T).reverse.length)) hx hb hr (fun t ht hW => ⟨_, rfl, by rw [List.length_reverse]; rfl, ht⟩) (fun q hq => absurd hq List.not_mem_nil) dX1_tell_52
  · refine lv_tableIn (off := 46) (tgt := 53) hx hb dX1_tell_7 (by decide) (by decide) (by decide +kernel) (by decide) ?_
    refine lv_aload_n hx hb dX1_tell_53 rfl (lv_at hl 1 rfl) ?_
    obtain ⟨i1, hi1⟩ := cw_s (x := x) (ln := ln) (cA := cA) (n := nI (siz T)) (tp := root T) (mo := mo) (dr := dr) (ds := ds) (li := fun i => (keysT T)[i]?) (ad := ad) (g := g) (hk : k1 ∈ K)
    refine va_get (D := D) (ci := 0) (v := va_rf ((g k1).1.map ad)) (C := RX0) (T := TX0) (N := 5) hx hb hts (by decide +kernel) hown hG.1 hP i1 hi1 rfl 1 (by decide) (hts (.fieldLink RX1 130 "LopsidedRanks$Soldier" "above" "LLopsidedRanks$Soldier;") (by decide +kernel)) (fun _ h9 => h9) rfl dX1_tell_54 ?_
    refine vp_callSi (va_Run.run (va_runS (As := [va_rf ((g k1).1.map ad)]) (rest := []) ⟨hx, hb, hml, hown, hts⟩ (c_X1_heightOf l (o := (g k1).1) (hcl k1 hk).2.1) (va_cwS 1 hts gX1_tell_X1_heightOf rfl rfl rfl (by decide +kernel) ⟨Nat.le_of_ble_eq_true rfl, Nat.le_of_ble_eq_true rfl⟩) ⟨PcR.blind, PcR.at hP hG⟩ rfl rfl hl.1 rfl (lv_room (Nat.le_of_ble_eq_true rfl)) dX1_tell_57 ⟨Nat.zero_le _, Nat.zero_le _⟩)) (fun r57 q57 => ?_)
    subst q57
    exact W.iret (v := (enc (g k1).1)) hx hb hr (fun t ht hW => ⟨_, rfl, congrArg enc p1, ht⟩) (fun q hq => absurd hq List.not_mem_nil) dX1_tell_60
  · refine lv_tableIn (off := 54) (tgt := 61) hx hb dX1_tell_7 (by decide) (by decide) (by decide +kernel) (by decide) ?_
    refine lv_aload_n hx hb dX1_tell_61 rfl (lv_at hl 1 rfl) ?_
    obtain ⟨i2, hi2⟩ := cw_s (x := x) (ln := ln) (cA := cA) (n := nI (siz T)) (tp := root T) (mo := mo) (dr := dr) (ds := ds) (li := fun i => (keysT T)[i]?) (ad := ad) (g := g) (hk : k1 ∈ K)
    refine va_get (D := D) (ci := 0) (v := va_rf ((g k1).2.1.map ad)) (C := RX0) (T := TX0) (N := 5) hx hb hts (by decide +kernel) hown hG.1 hP i2 hi2 rfl 2 (by decide) (hts (.fieldLink RX1 150 "LopsidedRanks$Soldier" "left" "LLopsidedRanks$Soldier;") (by decide +kernel)) (fun _ h9 => h9) rfl dX1_tell_62 ?_
    refine vp_callSi (va_Run.run (va_runS (As := [va_rf ((g k1).2.1.map ad)]) (rest := []) ⟨hx, hb, hml, hown, hts⟩ (c_X1_heightOf l (o := (g k1).2.1) (hcl k1 hk).2.2.1) (va_cwS 1 hts gX1_tell_X1_heightOf rfl rfl rfl (by decide +kernel) ⟨Nat.le_of_ble_eq_true rfl, Nat.le_of_ble_eq_true rfl⟩) ⟨PcR.blind, PcR.at hP hG⟩ rfl rfl hl.1 rfl (lv_room (Nat.le_of_ble_eq_true rfl)) dX1_tell_65 ⟨Nat.zero_le _, Nat.zero_le _⟩)) (fun r65 q65 => ?_)
    subst q65
    exact W.iret (v := (enc (g k1).2.1)) hx hb hr (fun t ht hW => ⟨_, rfl, by rw [p2]; show _ = enc (rootL _); rw [esub]; rfl, ht⟩) (fun q hq => absurd hq List.not_mem_nil) dX1_tell_68
  · refine lv_tableIn (off := 62) (tgt := 69) hx hb dX1_tell_7 (by decide) (by decide) (by decide +kernel) (by decide) ?_
    refine lv_aload_n hx hb dX1_tell_69 rfl (lv_at hl 1 rfl) ?_
    obtain ⟨i3, hi3⟩ := cw_s (x := x) (ln := ln) (cA := cA) (n := nI (siz T)) (tp := root T) (mo := mo) (dr := dr) (ds := ds) (li := fun i => (keysT T)[i]?) (ad := ad) (g := g) (hk : k1 ∈ K)
    refine va_get (D := D) (ci := 0) (v := va_rf ((g k1).2.2.1.map ad)) (C := RX0) (T := TX0) (N := 5) hx hb hts (by decide +kernel) hown hG.1 hP i3 hi3 rfl 3 (by decide) (hts (.fieldLink RX1 160 "LopsidedRanks$Soldier" "right" "LLopsidedRanks$Soldier;") (by decide +kernel)) (fun _ h9 => h9) rfl dX1_tell_70 ?_
    refine vp_callSi (va_Run.run (va_runS (As := [va_rf ((g k1).2.2.1.map ad)]) (rest := []) ⟨hx, hb, hml, hown, hts⟩ (c_X1_heightOf l (o := (g k1).2.2.1) (hcl k1 hk).2.2.2) (va_cwS 1 hts gX1_tell_X1_heightOf rfl rfl rfl (by decide +kernel) ⟨Nat.le_of_ble_eq_true rfl, Nat.le_of_ble_eq_true rfl⟩) ⟨PcR.blind, PcR.at hP hG⟩ rfl rfl hl.1 rfl (lv_room (Nat.le_of_ble_eq_true rfl)) dX1_tell_73 ⟨Nat.zero_le _, Nat.zero_le _⟩)) (fun r73 q73 => ?_)
    subst q73
    exact W.iret (v := (enc (g k1).2.2.1)) hx hb hr (fun t ht hW => ⟨_, rfl, by rw [p3]; show _ = enc (rootR _); rw [esub]; rfl, ht⟩) (fun q hq => absurd hq List.not_mem_nil) dX1_tell_76
  · refine lv_tableIn (off := 70) (tgt := 77) hx hb dX1_tell_7 (by decide) (by decide) (by decide +kernel) (by decide) ?_
    refine lv_aload_n hx hb dX1_tell_77 rfl (lv_at hl 1 rfl) ?_
    obtain ⟨i4, hi4⟩ := cw_s (x := x) (ln := ln) (cA := cA) (n := nI (siz T)) (tp := root T) (mo := mo) (dr := dr) (ds := ds) (li := fun i => (keysT T)[i]?) (ad := ad) (g := g) (hk : k1 ∈ K)
    refine va_get (D := D) (ci := 0) (v := .int (g k1).2.2.2) (C := RX0) (T := TX0) (N := 5) hx hb hts (by decide +kernel) hown hG.1 hP i4 hi4 rfl 4 (by decide) (hts (.fieldLink RX1 147 "LopsidedRanks$Soldier" "company" "I") (by decide +kernel)) (fun _ h9 => h9) rfl dX1_tell_78 ?_
    exact W.iret (v := (g k1).2.2.2) hx hb hr (fun t ht hW => ⟨_, rfl, by rw [p4]; show _ = nI (siz _); rw [esub]; rfl, ht⟩) (fun q hq => absurd hq List.not_mem_nil) dX1_tell_81
  · refine lv_tableIn (off := 75) (tgt := 82) hx hb dX1_tell_7 (by decide) (by decide) (by decide +kernel) (by decide) ?_
    refine lv_aload_n hx hb dX1_tell_82 rfl (lv_at hl 0 rfl) ?_
    refine lv_aload_n hx hb dX1_tell_83 rfl (lv_at hl 1 rfl) ?_
    refine vp_callSi (va_Run.run (va_runV (As := [.ref (ad k1)]) (rest := []) ⟨hx, hb, hml, hown, hts⟩ (c_X1_deepestBelow l hrep hk1) (cwV 1 hts gX1_tell_X1_deepestBelow rfl rfl rfl (by decide +kernel) ⟨Nat.le_of_ble_eq_true rfl, Nat.le_of_ble_eq_true rfl⟩) ⟨PcR.blind, va_recv hG.1 hP (ci := 1) (q0 := 0) rfl cw_x, PcR.at hP hG⟩ rfl rfl hl.1 rfl (lv_room (Nat.le_of_ble_eq_true rfl)) dX1_tell_84 ⟨Nat.zero_le _, Nat.zero_le _⟩)) (fun r84 q84 => ?_)
    subst q84
    exact W.iret (v := (nI (hgt (subT k1 T) - 1))) hx hb hr (fun t ht hW => ⟨_, rfl, rfl, ht⟩) (fun q hq => absurd hq List.not_mem_nil) dX1_tell_87
  · refine lv_tableIn (off := 81) (tgt := 88) hx hb dX1_tell_7 (by decide) (by decide) (by decide +kernel) (by decide) ?_
    refine lv_aload_n hx hb dX1_tell_88 rfl (lv_at hl 1 rfl) ?_
    obtain ⟨i5, hi5⟩ := cw_s (x := x) (ln := ln) (cA := cA) (n := nI (siz T)) (tp := root T) (mo := mo) (dr := dr) (ds := ds) (li := fun i => (keysT T)[i]?) (ad := ad) (g := g) (hk : k1 ∈ K)
    refine vp_callSi (va_Run.run (va_runV (As := []) (rest := []) ⟨hx, hb, hml, hown, hts⟩ (c_X0_hasCrookedCompany l hcl hk (a := siz lt) (b := siz rt) (by rw [p2]; exact co_root p7) (by rw [p3]; exact co_root p8) (by omega) (by omega)) (cwV 0 hts gX1_tell_X0_hasCrookedCompany rfl rfl rfl (by decide +kernel) ⟨Nat.le_of_ble_eq_true rfl, Nat.le_of_ble_eq_true rfl⟩) ⟨PcR.blind, va_recv hG.1 hP (ci := 0) (q0 := i5) rfl hi5, PcR.at hP hG⟩ rfl rfl hl.1 rfl (lv_room (Nat.le_of_ble_eq_true rfl)) dX1_tell_89 ⟨Nat.zero_le _, Nat.zero_le _⟩)) (fun r89 q89 => ?_)
    subst q89
    refine lv_if_eq (tgt := 99) hx hb dX1_tell_92 (by decide) (fun c92 => ?_) (fun c92 => ?_)
    · refine lv_iconst (v := nI 0) hx hb dX1_tell_99 (by decide) ?_
      exact W.iret (v := (nI 0)) hx hb hr (fun t ht hW => ⟨_, rfl, by show _ = b2i _; simp only [crT, esub]; rw [Bool.eq_false_iff.mpr (b2i_eq c92)]; rfl, ht⟩) (fun q hq => absurd hq List.not_mem_nil) dX1_tell_100
    · refine lv_iconst (v := nI 1) hx hb dX1_tell_95 (by decide) ?_
      refine lv_goto (tgt := 100) hx hb dX1_tell_96 (by decide) ?_
      exact W.iret (v := (nI 1)) hx hb hr (fun t ht hW => ⟨_, rfl, by show _ = b2i _; simp only [crT, esub]; rw [b2i_ne c92]; rfl, ht⟩) (fun q hq => absurd hq List.not_mem_nil) dX1_tell_100
  · refine lv_tableOut (tgt := 101) hx hb dX1_tell_7 (by decide) (by decide) ?_
    refine lv_aload_n hx hb dX1_tell_101 rfl (lv_at hl 0 rfl) ?_
    refine lv_aload_n hx hb dX1_tell_102 rfl (lv_at hl 1 rfl) ?_
    obtain ⟨i6, hi6⟩ := cw_s (x := x) (ln := ln) (cA := cA) (n := nI (siz T)) (tp := root T) (mo := mo) (dr := dr) (ds := ds) (li := fun i => (keysT T)[i]?) (ad := ad) (g := g) (hk : k1 ∈ K)
    refine va_get (D := D) (ci := 0) (v := .int (nI k1)) (C := RX0) (T := TX0) (N := 5) hx hb hts (by decide +kernel) hown hG.1 hP i6 hi6 rfl 0 (by decide) (hts (.fieldLink RX1 100 "LopsidedRanks$Soldier" "height" "I") (by decide +kernel)) (fun _ h9 => h9) rfl dX1_tell_103 ?_
    refine vp_callSi (va_Run.run (va_runV (As := [.int (nI k1)]) (rest := []) ⟨hx, hb, hml, hown, hts⟩ (c_X1_smallerThan l hcl (by omega) hs hc hrep.in1) (cwV 1 hts gX1_tell_X1_smallerThan rfl rfl rfl (by decide +kernel) ⟨Nat.le_of_ble_eq_true rfl, Nat.le_of_ble_eq_true rfl⟩) ⟨PcR.blind, va_recv hG.1 hP (ci := 1) (q0 := 0) rfl cw_x, PcR.at hP hG⟩ rfl rfl hl.1 rfl (lv_room (Nat.le_of_ble_eq_true rfl)) dX1_tell_106 ⟨Nat.zero_le _, Nat.zero_le _⟩)) (fun r106 q106 => ?_)
    subst q106
    exact W.iret (v := (nI (cntLt k1 T))) hx hb hr (fun t ht hW => ⟨_, rfl, rfl, ht⟩) (fun q hq => absurd hq List.not_mem_nil) dX1_tell_109

set_option maxHeartbeats 4000000 in
set_option maxRecDepth 100000 in
/-- tally(what) -/
theorem c_X1_tally (l : Launch) {D : va_G} {cA cZ cI : ClassId} {x ln : Nat} {mo dr ds : Int32} {K : List Nat} {ad : Nat → Nat} {g : Nat → Nd} {T : Tr} {w0 : Nat} (hrep : RepC T K g) (hw0 : w0 ≤ 7) : Met l yX1_tally wsX1_tally ({ frames := 3, cells := 0, slots := 0, locals := 120 } : Room) (PcR D (tysA cA cZ cI) (cw x ln cA (nI (siz T)) (root T) mo dr ds (fun i => (keysT T)[i]?) K ad g) [.ref x, .int (nI w0)]) (vp_Si (fun r => r = tallyT T dr ds mo w0)) 0 0 (fun _ => False) := by
  refine Met.ofW (cc := cX1_tally) (maxL := 2) (ret := (some .int)) (by decide) rfl ?_
  intro p e s m args below meth c s₁ B hml hv
  obtain ⟨rfl, hP, hG⟩ := hv
  have hx := B.exec
  have hb := B.bytes
  have hr := B.returns
  have hts := atoms_spec (ws := wsX1_tally) B.pre
  have hown : s.vm.findClass RX1 = some m.cls := findClass_of_methodNamed B.named
  have hlocks := B.notSynchronized
  have hl := lv_entry ([.ref x, .int (nI w0)]) (n := 2) (Nat.le_of_ble_eq_true rfl)
  rw [lg_entry_eq]
  generalize (lg_sl ([.ref x, .int (nI w0)]) ++ List.replicate (2 - (lg_sl ([.ref x, .int (nI w0)])).length) Slot.unset).toArray = ls at hl ⊢
  have hl : lv_has ls 2 [(0, .ref x), (1, .int (nI w0))] := hl
  have hcl := hrep.cl
  obtain ⟨hb0, hin0, hsz, hs, hc, hK0⟩ := id hrep
  refine lv_iload_n hx hb dX1_tally_0 rfl (lv_at hl 1 rfl) ?_
  rcases (show w0 = 0 ∨ w0 = 1 ∨ w0 = 2 ∨ w0 = 3 ∨ w0 = 4 ∨ w0 = 5 ∨ w0 = 6 ∨ w0 = 7 by omega) with rfl | rfl | rfl | rfl | rfl | rfl | rfl | rfl
  · refine lv_tableIn (off := 43) (tgt := 44) hx hb dX1_tally_1 (by decide) (by decide) (by decide +kernel) (by decide) ?_
    refine lv_aload_n hx hb dX1_tally_44 rfl (lv_at hl 0 rfl) ?_
    refine va_get (D := D) (ci := 1) (v := .int (nI (siz T))) (C := RX1) (T := TX1) (N := 6) hx hb hts (by decide +kernel) hown hG.1 hP 0 cw_x rfl 1 (by decide) (hts (.fieldLink RX1 19 "LopsidedRanks" "soldiers" "I") (by decide +kernel)) (fun _ h9 => h9) rfl dX1_tally_45 ?_
    exact W.iret (v := (nI (siz T))) hx hb hr (fun t ht hW => ⟨_, rfl, rfl, ht⟩) (fun q hq => absurd hq List.not_mem_nil) dX1_tally_48
  · refine lv_tableIn (off := 48) (tgt := 49) hx hb dX1_tally_1 (by decide) (by decide) (by decide +kernel) (by decide) ?_
    refine lv_aload_n hx hb dX1_tally_49 rfl (lv_at hl 0 rfl) ?_
    refine va_get (D := D) (ci := 1) (v := va_rf ((root T).map ad)) (C := RX1) (T := TX1) (N := 6) hx hb hts (by decide +kernel) hown hG.1 hP 0 cw_x rfl 2 (by decide) (hts (.fieldLink RX1 77 "LopsidedRanks" "top" "LLopsidedRanks$Soldier;") (by decide +kernel)) (fun _ h9 => h9) rfl dX1_tally_50 ?_
    refine vp_callSi (va_Run.run (va_runS (As := [va_rf ((root T).map ad)]) (rest := []) ⟨hx, hb, hml, hown, hts⟩ (c_X1_heightOf l (o := root T) (fun k e => (hrep.in1 k (root_in e)).1)) (va_cwS 1 hts gX1_tally_X1_heightOf rfl rfl rfl (by decide +kernel) ⟨Nat.le_of_ble_eq_true rfl, Nat.le_of_ble_eq_true rfl⟩) ⟨PcR.blind, PcR.at hP hG⟩ rfl rfl hl.1 rfl (lv_room (Nat.le_of_ble_eq_true rfl)) dX1_tally_53 ⟨Nat.zero_le _, Nat.zero_le _⟩)) (fun r53 q53 => ?_)
    subst q53
    exact W.iret (v := (enc (root T))) hx hb hr (fun t ht hW => ⟨_, rfl, rfl, ht⟩) (fun q hq => absurd hq List.not_mem_nil) dX1_tally_56
  · refine lv_tableIn (off := 56) (tgt := 57) hx hb dX1_tally_1 (by decide) (by decide) (by decide +kernel) (by decide) ?_
    refine lv_aload_n hx hb dX1_tally_57 rfl (lv_at hl 0 rfl) ?_
    refine lv_aload_n hx hb dX1_tally_58 rfl (lv_at hl 0 rfl) ?_
    refine va_get (D := D) (ci := 1) (v := va_rf ((root T).map ad)) (C := RX1) (T := TX1) (N := 6) hx hb hts (by decide +kernel) hown hG.1 hP 0 cw_x rfl 2 (by decide) (hts (.fieldLink RX1 77 "LopsidedRanks" "top" "LLopsidedRanks$Soldier;") (by decide +kernel)) (fun _ h9 => h9) rfl dX1_tally_59 ?_
    rcases eT : root T with _ | c1
    · refine vp_callSi (va_Run.run (va_runV (As := [.null]) (rest := []) ⟨hx, hb, hml, hown, hts⟩ (c_X1_deepestBelowN l) (cwV 1 hts gX1_tally_X1_deepestBelow rfl rfl rfl (by decide +kernel) ⟨Nat.le_of_ble_eq_true rfl, Nat.le_of_ble_eq_true rfl⟩) ⟨PcR.blind, va_recv hG.1 hP (ci := 1) (q0 := 0) rfl cw_x, PcR.at hP hG⟩ rfl rfl hl.1 rfl (lv_room (Nat.le_of_ble_eq_true rfl)) dX1_tally_62 ⟨Nat.zero_le _, Nat.zero_le _⟩)) (fun r62 q62 => ?_)
      subst q62
      exact W.iret (v := (-1)) hx hb hr (fun t ht hW => ⟨_, rfl, (by cases T with | leaf => rfl | inner s k v l r => cases eT), ht⟩) (fun q hq => absurd hq List.not_mem_nil) dX1_tally_65
    · refine vp_callSi (va_Run.run (va_runV (As := [.ref (ad c1)]) (rest := []) ⟨hx, hb, hml, hown, hts⟩ (c_X1_deepestBelow l hrep (root_in eT)) (cwV 1 hts gX1_tally_X1_deepestBelow rfl rfl rfl (by decide +kernel) ⟨Nat.le_of_ble_eq_true rfl, Nat.le_of_ble_eq_true rfl⟩) ⟨PcR.blind, va_recv hG.1 hP (ci := 1) (q0 := 0) rfl cw_x, PcR.at hP hG⟩ rfl rfl hl.1 rfl (lv_room (Nat.le_of_ble_eq_true rfl)) dX1_tally_62 ⟨Nat.zero_le _, Nat.zero_le _⟩)) (fun r62 q62 => ?_)
      subst q62
      exact W.iret (v := (nI (hgt (subT c1 T) - 1))) hx hb hr (fun t ht hW => ⟨_, rfl, (by rw [sub_root eT]; cases T with | leaf => cases eT | inner s k v l r => exact (pd_s _).symm), ht⟩) (fun q hq => absurd hq List.not_mem_nil) dX1_tally_65
  · refine lv_tableIn (off := 65) (tgt := 66) hx hb dX1_tally_1 (by decide) (by decide) (by decide +kernel) (by decide) ?_
    refine lv_aload_n hx hb dX1_tally_66 rfl (lv_at hl 0 rfl) ?_
    refine va_get (D := D) (ci := 1) (v := .int (nI (siz T))) (C := RX1) (T := TX1) (N := 6) hx hb hts (by decide +kernel) hown hG.1 hP 0 cw_x rfl 1 (by decide) (hts (.fieldLink RX1 19 "LopsidedRanks" "soldiers" "I") (by decide +kernel)) (fun _ h9 => h9) rfl dX1_tally_67 ?_
    refine vp_callSi (va_Run.run (va_runS (As := [.int (nI (siz T))]) (rest := []) ⟨hx, hb, hml, hown, hts⟩ (c_X1_allowedDepth l (n := siz T) (by omega)) (va_cwS 1 hts gX1_tally_X1_allowedDepth rfl rfl rfl (by decide +kernel) ⟨Nat.le_of_ble_eq_true rfl, Nat.le_of_ble_eq_true rfl⟩) ⟨PcT.blind, PcT.at⟩ rfl rfl hl.1 rfl (lv_room (Nat.le_of_ble_eq_true rfl)) dX1_tally_70 ⟨Nat.zero_le _, Nat.zero_le _⟩)) (fun r70 q70 => ?_)
    subst q70
    exact W.iret (v := (pd (lim (siz T)))) hx hb hr (fun t ht hW => ⟨_, rfl, rfl, ht⟩) (fun q hq => absurd hq List.not_mem_nil) dX1_tally_73
  · refine lv_tableIn (off := 73) (tgt := 74) hx hb dX1_tally_1 (by decide) (by decide) (by decide +kernel) (by decide) ?_
    refine lv_aload_n hx hb dX1_tally_74 rfl (lv_at hl 0 rfl) ?_
    refine vp_callSi (va_Run.run (va_runV (As := []) (rest := []) ⟨hx, hb, hml, hown, hts⟩ (c_X1_crookedCompanies l hrep) (cwV 0 hts gX1_tally_X1_crookedCompanies rfl rfl rfl (by decide +kernel) ⟨Nat.le_of_ble_eq_true rfl, Nat.le_of_ble_eq_true rfl⟩) ⟨PcR.blind, va_recv hG.1 hP (ci := 1) (q0 := 0) rfl cw_x, PcR.at hP hG⟩ rfl rfl hl.1 rfl (lv_room (Nat.le_of_ble_eq_true rfl)) dX1_tally_75 ⟨Nat.zero_le _, Nat.zero_le _⟩)) (fun r75 q75 => ?_)
    subst q75
    exact W.iret (v := (nI (ckn T))) hx hb hr (fun t ht hW => ⟨_, rfl, rfl, ht⟩) (fun q hq => absurd hq List.not_mem_nil) dX1_tally_78
  · refine lv_tableIn (off := 78) (tgt := 79) hx hb dX1_tally_1 (by decide) (by decide) (by decide +kernel) (by decide) ?_
    refine lv_aload_n hx hb dX1_tally_79 rfl (lv_at hl 0 rfl) ?_
    refine va_get (D := D) (ci := 1) (v := .int dr) (C := RX1) (T := TX1) (N := 6) hx hb hts (by decide +kernel) hown hG.1 hP 0 cw_x rfl 4 (by decide) (hts (.fieldLink RX1 182 "LopsidedRanks" "drawings" "I") (by decide +kernel)) (fun _ h9 => h9) rfl dX1_tally_80 ?_
    exact W.iret (v := dr) hx hb hr (fun t ht hW => ⟨_, rfl, rfl, ht⟩) (fun q hq => absurd hq List.not_mem_nil) dX1_tally_83
  · refine lv_tableIn (off := 83) (tgt := 84) hx hb dX1_tally_1 (by decide) (by decide) (by decide +kernel) (by decide) ?_
    refine lv_aload_n hx hb dX1_tally_84 rfl (lv_at hl 0 rfl) ?_
    refine va_get (D := D) (ci := 1) (v := .int ds) (C := RX1) (T := TX1) (N := 6) hx hb hts (by decide +kernel) hown hG.1 hP 0 cw_x rfl 5 (by decide) (hts (.fieldLink RX1 185 "LopsidedRanks" "drawnSoldiers" "I") (by decide +kernel)) (fun _ h9 => h9) rfl dX1_tally_85 ?_
    exact W.iret (v := ds) hx hb hr (fun t ht hW => ⟨_, rfl, rfl, ht⟩) (fun q hq => absurd hq List.not_mem_nil) dX1_tally_88
  · refine lv_tableOut (tgt := 89) hx hb dX1_tally_1 (by decide) (by decide) ?_
    refine lv_aload_n hx hb dX1_tally_89 rfl (lv_at hl 0 rfl) ?_
    refine va_get (D := D) (ci := 1) (v := .int mo) (C := RX1) (T := TX1) (N := 6) hx hb hts (by decide +kernel) hown hG.1 hP 0 cw_x rfl 3 (by decide) (hts (.fieldLink RX1 51 "LopsidedRanks" "most" "I") (by decide +kernel)) (fun _ h9 => h9) rfl dX1_tally_90 ?_
    exact W.iret (v := mo) hx hb hr (fun t ht hW => ⟨_, rfl, rfl, ht⟩) (fun q hq => absurd hq List.not_mem_nil) dX1_tally_93
end
section
/-! WRITERS of the class: the soldiers' references -/
def sA (d : Nd) (a : Option Nat) : Nd := (a, d.2.1, d.2.2.1, d.2.2.2)
def sL (d : Nd) (v : Option Nat) : Nd := (d.1, v, d.2.2.1, d.2.2.2)
def sR (d : Nd) (v : Option Nat) : Nd := (d.1, d.2.1, v, d.2.2.2)
def sC (d : Nd) (v : Int32) : Nd := (d.1, d.2.1, d.2.2.1, v)
def stG (g : Nat → Nd) (q h : Nat) (r : Option Nat) : Nat → Nd := match r with
  | none => va_up g q (if h < q then sL (g q) none else sR (g q) none)
  | some c => va_up (va_up g q (if h < q then sL (g q) (some c) else sR (g q) (some c))) c (sA ((va_up g q (if h < q then sL (g q) (some c) else sR (g q) (some c))) c) (some q))
def hoG (g : Nat → Nd) (r : Option Nat) (q : Nat) : Nat → Nd := match r with
  | none => g
  | some c => stG g q c (some c)
def sbG (g : Nat → Nd) (p : Option Nat) (h : Nat) (r : Option Nat) : Nat → Nd := match p with
  | some q => stG g q h r
  | none => match r with
    | none => g
    | some c => va_up g c (sA (g c) none)
def sbT (tp p r : Option Nat) : Option Nat := match p with
  | some _ => tp
  | none => r
def addG (d : Int32) : List Nat → (Nat → Nd) → Nat → Nd
  | [], g => g
  | k :: ks, g => addG d ks (va_up g k (sC (g k) ((g k).2.2.2 + d)))
set_option maxHeartbeats 4000000 in
set_option maxRecDepth 100000 in
/-- setTowards(h, r) of q0 -/
theorem c_X0_setTowards (l : Launch) {D : va_G} {cA cZ cI : ClassId} {x ln : Nat} {n : Int32} {tp : Option Nat} {mo dr ds : Int32} {li : Nat → Option Nat} {K : List Nat} {ad : Nat → Nat} {g : Nat → Nd} {A : Nat → Prop} {q0 h : Nat} {r0 : Option Nat} (hq : q0 ∈ K) (hqn : q0 < 1000) (hh : h < 1000) (hr0 : ∀ c, r0 = some c → c ∈ K) : Met l yX0_setTowards wsX0_setTowards ({ frames := 0, cells := 0, slots := 0, locals := 0 } : Room) (PcM D (tysA cA cZ cI) A (cw x ln cA n tp mo dr ds li K ad g) [.ref (ad q0), .int (nI h), va_rf (r0.map ad)]) (va_Qv (S := Unit) (fun _ => True) (fun _ => BM D (tysA cA cZ cI) A (cw x ln cA n tp mo dr ds li K ad (stG g q0 h r0))) A) 0 0 A := by
  refine Met.ofW (cc := cX0_setTowards) (maxL := 3) (ret := none) (by decide) rfl ?_
  intro p e s m args below meth c s₁ B hml hv
  obtain ⟨rfl, hA, hP, hG, hD⟩ := hv
  have hx := B.exec
  have hb := B.bytes
  have hr := B.returns
  have hts := atoms_spec (ws := wsX0_setTowards) B.pre
  have hown : s.vm.findClass RX0 = some m.cls := findClass_of_methodNamed B.named
  have hlocks := B.notSynchronized
  have hl : lv_has ((lg_sl ([.ref (ad q0), .int (nI h), va_rf (r0.map ad)]) ++ List.replicate (3 - (lg_sl ([.ref (ad q0), .int (nI h), va_rf (r0.map ad)])).length) Slot.unset).toArray) 3 [(0, .ref (ad q0)), (1, .int (nI h)), (2, va_rf (r0.map ad))] := by cases r0 <;> exact lv_entry _ (Nat.le_of_ble_eq_true rfl)
  rw [lg_entry_eq]
  generalize (lg_sl ([.ref (ad q0), .int (nI h), va_rf (r0.map ad)]) ++ List.replicate (3 - (lg_sl ([.ref (ad q0), .int (nI h), va_rf (r0.map ad)])).length) Slot.unset).toArray = ls at hl ⊢
  have hl : lv_has ls 3 [(0, .ref (ad q0)), (1, .int (nI h)), (2, va_rf (r0.map ad))] := hl
  have hS : va_S A s.heap s.heap [] := va_S.rf
  refine lv_iload_n hx hb dX0_setTowards_0 rfl (lv_at hl 1 rfl) ?_
  refine lv_aload_n hx hb dX0_setTowards_1 rfl (lv_at hl 0 rfl) ?_
  obtain ⟨i0, hi0⟩ := cw_s (x := x) (ln := ln) (cA := cA) (n := n) (tp := tp) (mo := mo) (dr := dr) (ds := ds) (li := li) (ad := ad) (g := g) (hq : q0 ∈ K)
  refine va_get (D := D) (ci := 0) (v := .int (nI q0)) (C := RX0) (T := TX0) (N := 5) hx hb hts (by decide +kernel) hown hG.1 hP i0 hi0 rfl 0 (by decide) (hts (.fieldLink RX0 7 "LopsidedRanks$Soldier" "height" "I") (by decide +kernel)) (fun _ h9 => h9) rfl dX0_setTowards_2 ?_
  refine lv_icmp_ge (tgt := 16) hx hb dX0_setTowards_5 (by decide) (fun c5 => ?_) (fun c5 => ?_)
  · rw [nI_leI (by omega) (by omega)] at c5
    have hlt : ¬ h < q0 := by omega
    refine lv_aload_n hx hb dX0_setTowards_16 rfl (lv_at hl 0 rfl) ?_
    refine zr_aload_n hx hb dX0_setTowards_17 rfl (lv_at hl 2 rfl) ?_
    obtain ⟨i1, hi1⟩ := cw_s (x := x) (ln := ln) (cA := cA) (n := n) (tp := tp) (mo := mo) (dr := dr) (ds := ds) (li := li) (ad := ad) (g := g) (hq : q0 ∈ K)
    have hDp := hD
    refine va_put (D := D) (ci := 0) (v := va_rf (r0.map ad)) (ty := .object RX0) (C := RX0) (T := TX0) (N := 5) hx hb hts (by decide +kernel) tyX0 tyX0_ok nmX0 hown hG.1 hP hD hS i1 hi1 rfl 3 (by decide) (hts (.fieldLink RX0 20 "LopsidedRanks$Soldier" "right" "LLopsidedRanks$Soldier;") (by decide +kernel)) (fun _ h9 => h9) rfl (by decide +kernel) (zr_nar _) (zr_fit _) (Nat.le_of_ble_eq_true rfl) dX0_setTowards_18 (fun H locs hP hD hS => ?_)
    have hP : va_P D vwCl (cw x ln cA n tp mo dr ds li K ad (va_up g q0 (sR (g q0) r0))) H := by rw [← cw_put hDp (hq : q0 ∈ K) hi1 (sR (g q0) r0) rfl]; exact hP
    have hD : va_D A (cw x ln cA n tp mo dr ds li K ad (va_up g q0 (sR (g q0) r0))) := by rw [← cw_put hDp (hq : q0 ∈ K) hi1 (sR (g q0) r0) rfl]; exact hD
    refine zr_aload_n hx hb dX0_setTowards_21 rfl (lv_at hl 2 rfl) ?_
    refine zr_ifnull (tgt := 30) hx hb dX0_setTowards_22 (by decide) (fun c22 => ?_) (fun k22 c22 => ?_)
    · subst c22
      have e9 : va_up g q0 (sR (g q0) none) = stG g q0 h none := by simp only [stG]; rw [if_neg hlt]
      rw [e9] at hP hD
      exact W.vret hx hb hr (fun t ht hW => ⟨⟨(), rfl, trivial, by rw [ht]; exact hP, hG.moved hW, hD⟩, hS.F ht⟩) hS.2.2 dX0_setTowards_30
    · subst c22
      have hl : lv_has ls 3 [(0, .ref (ad q0)), (1, .int (nI h)), (2, .ref (ad k22))] := hl
      refine lv_aload_n hx hb dX0_setTowards_25 rfl (lv_at hl 2 rfl) ?_
      refine lv_aload_n hx hb dX0_setTowards_26 rfl (lv_at hl 0 rfl) ?_
      obtain ⟨i2, hi2⟩ := cw_s (x := x) (ln := ln) (cA := cA) (n := n) (tp := tp) (mo := mo) (dr := dr) (ds := ds) (li := li) (ad := ad) (g := va_up g q0 (sR (g q0) (some k22))) ((hr0 k22 rfl) : k22 ∈ K)
      have hDp := hD
      refine va_put (D := D) (ci := 0) (v := .ref (ad q0)) (ty := .object RX0) (C := RX0) (T := TX0) (N := 5) hx hb hts (by decide +kernel) tyX0 tyX0_ok nmX0 hown hG.1 hP hD hS i2 hi2 rfl 1 (by decide) (hts (.fieldLink RX0 23 "LopsidedRanks$Soldier" "above" "LLopsidedRanks$Soldier;") (by decide +kernel)) (fun _ h9 => h9) rfl (by decide +kernel) rfl rfl (Nat.le_of_ble_eq_true rfl) dX0_setTowards_27 (fun H locs hP hD hS => ?_)
      have hP : va_P D vwCl (cw x ln cA n tp mo dr ds li K ad (va_up (va_up g q0 (sR (g q0) (some k22))) k22 (sA ((va_up g q0 (sR (g q0) (some k22))) k22) (some q0)))) H := by rw [← cw_put hDp ((hr0 k22 rfl) : k22 ∈ K) hi2 (sA ((va_up g q0 (sR (g q0) (some k22))) k22) (some q0)) rfl]; exact hP
      have hD : va_D A (cw x ln cA n tp mo dr ds li K ad (va_up (va_up g q0 (sR (g q0) (some k22))) k22 (sA ((va_up g q0 (sR (g q0) (some k22))) k22) (some q0)))) := by rw [← cw_put hDp ((hr0 k22 rfl) : k22 ∈ K) hi2 (sA ((va_up g q0 (sR (g q0) (some k22))) k22) (some q0)) rfl]; exact hD
      have e9 : va_up (va_up g q0 (sR (g q0) (some k22))) k22 (sA ((va_up g q0 (sR (g q0) (some k22))) k22) (some q0)) = stG g q0 h (some k22) := by simp only [stG]; rw [if_neg hlt]
      rw [e9] at hP hD
      exact W.vret hx hb hr (fun t ht hW => ⟨⟨(), rfl, trivial, by rw [ht]; exact hP, hG.moved hW, hD⟩, hS.F ht⟩) hS.2.2 dX0_setTowards_30
  · rw [nI_leI (by omega) (by omega)] at c5
    have hlt : h < q0 := by omega
    refine lv_aload_n hx hb dX0_setTowards_8 rfl (lv_at hl 0 rfl) ?_
    refine zr_aload_n hx hb dX0_setTowards_9 rfl (lv_at hl 2 rfl) ?_
    obtain ⟨i3, hi3⟩ := cw_s (x := x) (ln := ln) (cA := cA) (n := n) (tp := tp) (mo := mo) (dr := dr) (ds := ds) (li := li) (ad := ad) (g := g) (hq : q0 ∈ K)
    have hDp := hD
    refine va_put (D := D) (ci := 0) (v := va_rf (r0.map ad)) (ty := .object RX0) (C := RX0) (T := TX0) (N := 5) hx hb hts (by decide +kernel) tyX0 tyX0_ok nmX0 hown hG.1 hP hD hS i3 hi3 rfl 2 (by decide) (hts (.fieldLink RX0 16 "LopsidedRanks$Soldier" "left" "LLopsidedRanks$Soldier;") (by decide +kernel)) (fun _ h9 => h9) rfl (by decide +kernel) (zr_nar _) (zr_fit _) (Nat.le_of_ble_eq_true rfl) dX0_setTowards_10 (fun H locs hP hD hS => ?_)
    have hP : va_P D vwCl (cw x ln cA n tp mo dr ds li K ad (va_up g q0 (sL (g q0) r0))) H := by rw [← cw_put hDp (hq : q0 ∈ K) hi3 (sL (g q0) r0) rfl]; exact hP
    have hD : va_D A (cw x ln cA n tp mo dr ds li K ad (va_up g q0 (sL (g q0) r0))) := by rw [← cw_put hDp (hq : q0 ∈ K) hi3 (sL (g q0) r0) rfl]; exact hD
    refine lv_goto (tgt := 21) hx hb dX0_setTowards_13 (by decide) ?_
    refine zr_aload_n hx hb dX0_setTowards_21 rfl (lv_at hl 2 rfl) ?_
    refine zr_ifnull (tgt := 30) hx hb dX0_setTowards_22 (by decide) (fun c22 => ?_) (fun k22 c22 => ?_)
    · subst c22
      have e9 : va_up g q0 (sL (g q0) none) = stG g q0 h none := by simp only [stG]; rw [if_pos hlt]
      rw [e9] at hP hD
      exact W.vret hx hb hr (fun t ht hW => ⟨⟨(), rfl, trivial, by rw [ht]; exact hP, hG.moved hW, hD⟩, hS.F ht⟩) hS.2.2 dX0_setTowards_30
    · subst c22
      have hl : lv_has ls 3 [(0, .ref (ad q0)), (1, .int (nI h)), (2, .ref (ad k22))] := hl
      refine lv_aload_n hx hb dX0_setTowards_25 rfl (lv_at hl 2 rfl) ?_
      refine lv_aload_n hx hb dX0_setTowards_26 rfl (lv_at hl 0 rfl) ?_
      obtain ⟨i4, hi4⟩ := cw_s (x := x) (ln := ln) (cA := cA) (n := n) (tp := tp) (mo := mo) (dr := dr) (ds := ds) (li := li) (ad := ad) (g := va_up g q0 (sL (g q0) (some k22))) ((hr0 k22 rfl) : k22 ∈ K)
      have hDp := hD
      refine va_put (D := D) (ci := 0) (v := .ref (ad q0)) (ty := .object RX0) (C := RX0) (T := TX0) (N := 5) hx hb hts (by decide +kernel) tyX0 tyX0_ok nmX0 hown hG.1 hP hD hS i4 hi4 rfl 1 (by decide) (hts (.fieldLink RX0 23 "LopsidedRanks$Soldier" "above" "LLopsidedRanks$Soldier;") (by decide +kernel)) (fun _ h9 => h9) rfl (by decide +kernel) rfl rfl (Nat.le_of_ble_eq_true rfl) dX0_setTowards_27 (fun H locs hP hD hS => ?_)
      have hP : va_P D vwCl (cw x ln cA n tp mo dr ds li K ad (va_up (va_up g q0 (sL (g q0) (some k22))) k22 (sA ((va_up g q0 (sL (g q0) (some k22))) k22) (some q0)))) H := by rw [← cw_put hDp ((hr0 k22 rfl) : k22 ∈ K) hi4 (sA ((va_up g q0 (sL (g q0) (some k22))) k22) (some q0)) rfl]; exact hP
      have hD : va_D A (cw x ln cA n tp mo dr ds li K ad (va_up (va_up g q0 (sL (g q0) (some k22))) k22 (sA ((va_up g q0 (sL (g q0) (some k22))) k22) (some q0)))) := by rw [← cw_put hDp ((hr0 k22 rfl) : k22 ∈ K) hi4 (sA ((va_up g q0 (sL (g q0) (some k22))) k22) (some q0)) rfl]; exact hD
      have e9 : va_up (va_up g q0 (sL (g q0) (some k22))) k22 (sA ((va_up g q0 (sL (g q0) (some k22))) k22) (some q0)) = stG g q0 h (some k22) := by simp only [stG]; rw [if_pos hlt]
      rw [e9] at hP hD
      exact W.vret hx hb hr (fun t ht hW => ⟨⟨(), rfl, trivial, by rw [ht]; exact hP, hG.moved hW, hD⟩, hS.F ht⟩) hS.2.2 dX0_setTowards_30

set_option maxHeartbeats 4000000 in
set_option maxRecDepth 100000 in
/-- handOver(r, q0) -/
theorem c_X1_handOver (l : Launch) {D : va_G} {cA cZ cI : ClassId} {x ln : Nat} {n : Int32} {tp : Option Nat} {mo dr ds : Int32} {li : Nat → Option Nat} {K : List Nat} {ad : Nat → Nat} {g : Nat → Nd} {A : Nat → Prop} {q0 : Nat} {r0 : Option Nat} (hq : q0 ∈ K) (hqn : q0 < 1000) (hr0 : ∀ c, r0 = some c → c ∈ K) (hrn : ∀ c, r0 = some c → c < 1000) : Met l yX1_handOver wsX1_handOver ({ frames := 1, cells := 0, slots := 0, locals := 40 } : Room) (PcM D (tysA cA cZ cI) A (cw x ln cA n tp mo dr ds li K ad g) [va_rf (r0.map ad), .ref (ad q0)]) (va_Qv (S := Unit) (fun _ => True) (fun _ => BM D (tysA cA cZ cI) A (cw x ln cA n tp mo dr ds li K ad (hoG g r0 q0))) A) 0 0 A := by
  refine Met.ofW (cc := cX1_handOver) (maxL := 2) (ret := none) (by decide) rfl ?_
  intro p e s m args below meth c s₁ B hml hv
  obtain ⟨rfl, hA, hP, hG, hD⟩ := hv
  have hx := B.exec
  have hb := B.bytes
  have hr := B.returns
  have hts := atoms_spec (ws := wsX1_handOver) B.pre
  have hown : s.vm.findClass RX1 = some m.cls := findClass_of_methodNamed B.named
  have hlocks := B.notSynchronized
  have hl : lv_has ((lg_sl ([va_rf (r0.map ad), .ref (ad q0)]) ++ List.replicate (2 - (lg_sl ([va_rf (r0.map ad), .ref (ad q0)])).length) Slot.unset).toArray) 2 [(0, va_rf (r0.map ad)), (1, .ref (ad q0))] := by cases r0 <;> exact lv_entry _ (Nat.le_of_ble_eq_true rfl)
  rw [lg_entry_eq]
  generalize (lg_sl ([va_rf (r0.map ad), .ref (ad q0)]) ++ List.replicate (2 - (lg_sl ([va_rf (r0.map ad), .ref (ad q0)])).length) Slot.unset).toArray = ls at hl ⊢
  have hl : lv_has ls 2 [(0, va_rf (r0.map ad)), (1, .ref (ad q0))] := hl
  have hS : va_S A s.heap s.heap [] := va_S.rf
  refine zr_aload_n hx hb dX1_handOver_0 rfl (lv_at hl 0 rfl) ?_
  refine zr_ifnull (tgt := 13) hx hb dX1_handOver_1 (by decide) (fun c1 => ?_) (fun k1 c1 => ?_)
  · subst c1
    have hP : va_P D vwCl (cw x ln cA n tp mo dr ds li K ad (hoG g none q0)) s.heap := hP
    have hD : va_D A (cw x ln cA n tp mo dr ds li K ad (hoG g none q0)) := hD
    exact W.vret hx hb hr (fun t ht hW => ⟨⟨(), rfl, trivial, by rw [ht]; exact hP, hG.moved hW, hD⟩, hS.F ht⟩) hS.2.2 dX1_handOver_13
  · subst c1
    have hl : lv_has ls 2 [(0, .ref (ad k1)), (1, .ref (ad q0))] := hl
    refine lv_aload_n hx hb dX1_handOver_4 rfl (lv_at hl 1 rfl) ?_
    refine lv_aload_n hx hb dX1_handOver_5 rfl (lv_at hl 0 rfl) ?_
    obtain ⟨i0, hi0⟩ := cw_s (x := x) (ln := ln) (cA := cA) (n := n) (tp := tp) (mo := mo) (dr := dr) (ds := ds) (li := li) (ad := ad) (g := g) ((hr0 k1 rfl) : k1 ∈ K)
    refine va_get (D := D) (ci := 0) (v := .int (nI k1)) (C := RX0) (T := TX0) (N := 5) hx hb hts (by decide +kernel) hown hG.1 hP i0 hi0 rfl 0 (by decide) (hts (.fieldLink RX1 100 "LopsidedRanks$Soldier" "height" "I") (by decide +kernel)) (fun _ h9 => h9) rfl dX1_handOver_6 ?_
    refine lv_aload_n hx hb dX1_handOver_9 rfl (lv_at hl 0 rfl) ?_
    obtain ⟨i1, hi1⟩ := cw_s (x := x) (ln := ln) (cA := cA) (n := n) (tp := tp) (mo := mo) (dr := dr) (ds := ds) (li := li) (ad := ad) (g := g) (hq : q0 ∈ K)
    refine va_callv (va_runV (As := [.int (nI k1), .ref (ad k1)]) (rest := []) ⟨hx, hb, hml, hown, hts⟩ (c_X0_setTowards l (r0 := some k1) hq hqn (hrn k1 rfl) (fun c e => by cases e; exact hr0 k1 rfl)) (cwV 2 hts gX1_handOver_X0_setTowards rfl rfl rfl (by decide +kernel) ⟨Nat.le_of_ble_eq_true rfl, Nat.le_of_ble_eq_true rfl⟩) ⟨PcM.blind, va_recv hG.1 hP (ci := 0) (q0 := i1) rfl hi1, PcM.at (fun q h => hA q (Nat.le_trans hS.1 h)) hP hG hD⟩ rfl rfl hl.1 rfl (lv_room (Nat.le_of_ble_eq_true rfl)) dX1_handOver_10 ⟨Nat.zero_le _, Nat.zero_le _⟩) hS (fun q _ h => h) (fun q h => h) (fun u10 t H locs ht hvm q10 hB hz1 hk1 hS => ?_)
    obtain ⟨hP, -, hD⟩ := hB
    rw [ht] at hP
    have hP : va_P D vwCl (cw x ln cA n tp mo dr ds li K ad (hoG g (some k1) q0)) H := hP
    have hD : va_D A (cw x ln cA n tp mo dr ds li K ad (hoG g (some k1) q0)) := hD
    exact W.vret hx hb hr (fun t ht hW => ⟨⟨(), rfl, trivial, by rw [ht]; exact hP, hG.moved hW, hD⟩, hS.F ht⟩) hS.2.2 dX1_handOver_13

set_option maxHeartbeats 4000000 in
set_option maxRecDepth 100000 in
/-- standBelow(p0, h, r0) -/
theorem c_X1_standBelow (l : Launch) {D : va_G} {cA cZ cI : ClassId} {x ln : Nat} {n : Int32} {tp : Option Nat} {mo dr ds : Int32} {li : Nat → Option Nat} {K : List Nat} {ad : Nat → Nat} {g : Nat → Nd} {A : Nat → Prop} {h : Nat} {p0 r0 : Option Nat} (hp0 : ∀ c, p0 = some c → c ∈ K) (hpn : ∀ c, p0 = some c → c < 1000) (hh : h < 1000) (hr0 : ∀ c, r0 = some c → c ∈ K) : Met l yX1_standBelow wsX1_standBelow ({ frames := 1, cells := 0, slots := 0, locals := 40 } : Room) (PcM D (tysA cA cZ cI) A (cw x ln cA n tp mo dr ds li K ad g) [.ref x, va_rf (p0.map ad), .int (nI h), va_rf (r0.map ad)]) (va_Qv (S := Unit) (fun _ => True) (fun _ => BM D (tysA cA cZ cI) A (cw x ln cA n (sbT tp p0 r0) mo dr ds li K ad (sbG g p0 h r0))) A) 0 0 A := by
  refine Met.ofW (cc := cX1_standBelow) (maxL := 4) (ret := none) (by decide) rfl ?_
  intro p e s m args below meth c s₁ B hml hv
  obtain ⟨rfl, hA, hP, hG, hD⟩ := hv
  have hx := B.exec
  have hb := B.bytes
  have hr := B.returns
  have hts := atoms_spec (ws := wsX1_standBelow) B.pre
  have hown : s.vm.findClass RX1 = some m.cls := findClass_of_methodNamed B.named
  have hlocks := B.notSynchronized
  have hl : lv_has ((lg_sl ([.ref x, va_rf (p0.map ad), .int (nI h), va_rf (r0.map ad)]) ++ List.replicate (4 - (lg_sl ([.ref x, va_rf (p0.map ad), .int (nI h), va_rf (r0.map ad)])).length) Slot.unset).toArray) 4 [(0, .ref x), (1, va_rf (p0.map ad)), (2, .int (nI h)), (3, va_rf (r0.map ad))] := by cases p0 <;> cases r0 <;> exact lv_entry _ (Nat.le_of_ble_eq_true rfl)
  rw [lg_entry_eq]
  generalize (lg_sl ([.ref x, va_rf (p0.map ad), .int (nI h), va_rf (r0.map ad)]) ++ List.replicate (4 - (lg_sl ([.ref x, va_rf (p0.map ad), .int (nI h), va_rf (r0.map ad)])).length) Slot.unset).toArray = ls at hl ⊢
  have hl : lv_has ls 4 [(0, .ref x), (1, va_rf (p0.map ad)), (2, .int (nI h)), (3, va_rf (r0.map ad))] := hl
  have hS : va_S A s.heap s.heap [] := va_S.rf
  refine zr_aload_n hx hb dX1_standBelow_0 rfl (lv_at hl 1 rfl) ?_
  refine zr_ifnull (tgt := 11) hx hb dX1_standBelow_1 (by decide) (fun c1 => ?_) (fun k1 c1 => ?_)
  · subst c1
    have hl : lv_has ls 4 [(0, .ref x), (1, .null), (2, .int (nI h)), (3, va_rf (r0.map ad))] := hl
    refine lv_aload_n hx hb dX1_standBelow_11 rfl (lv_at hl 0 rfl) ?_
    refine zr_aload_n hx hb dX1_standBelow_12 rfl (lv_at hl 3 rfl) ?_
    refine va_put (D := D) (ci := 1) (v := va_rf (r0.map ad)) (ty := .object RX0) (C := RX1) (T := TX1) (N := 6) hx hb hts (by decide +kernel) tyX1 tyX1_ok nmX1 hown hG.1 hP hD hS 0 cw_x rfl 2 (by decide) (hts (.fieldLink RX1 77 "LopsidedRanks" "top" "LLopsidedRanks$Soldier;") (by decide +kernel)) (fun _ h9 => h9) rfl (by decide +kernel) (zr_nar _) (zr_fit _) (Nat.le_of_ble_eq_true rfl) dX1_standBelow_13 (fun H locs hP hD hS => ?_)
    have hP : va_P D vwCl (cw x ln cA n r0 mo dr ds li K ad g) H := hP
    have hD : va_D A (cw x ln cA n r0 mo dr ds li K ad g) := hD
    refine zr_aload_n hx hb dX1_standBelow_16 rfl (lv_at hl 3 rfl) ?_
    refine zr_ifnull (tgt := 25) hx hb dX1_standBelow_17 (by decide) (fun c17 => ?_) (fun k17 c17 => ?_)
    · subst c17
      have hP : va_P D vwCl (cw x ln cA n (sbT tp none none) mo dr ds li K ad (sbG g none h none)) H := hP
      have hD : va_D A (cw x ln cA n (sbT tp none none) mo dr ds li K ad (sbG g none h none)) := hD
      exact W.vret hx hb hr (fun t ht hW => ⟨⟨(), rfl, trivial, by rw [ht]; exact hP, hG.moved hW, hD⟩, hS.F ht⟩) hS.2.2 dX1_standBelow_25
    · subst c17
      have hP : va_P D vwCl (cw x ln cA n (sbT tp none (some k17)) mo dr ds li K ad g) H := hP
      have hD : va_D A (cw x ln cA n (sbT tp none (some k17)) mo dr ds li K ad g) := hD
      have hl : lv_has ls 4 [(0, .ref x), (1, .null), (2, .int (nI h)), (3, .ref (ad k17))] := hl
      refine lv_aload_n hx hb dX1_standBelow_20 rfl (lv_at hl 3 rfl) ?_
      refine lv_null hx hb dX1_standBelow_21 ?_
      obtain ⟨i0, hi0⟩ := cw_s (x := x) (ln := ln) (cA := cA) (n := n) (tp := sbT tp none (some k17)) (mo := mo) (dr := dr) (ds := ds) (li := li) (ad := ad) (g := g) ((hr0 k17 rfl) : k17 ∈ K)
      have hDp := hD
      refine va_put (D := D) (ci := 0) (v := .null) (ty := .object RX0) (C := RX0) (T := TX0) (N := 5) hx hb hts (by decide +kernel) tyX0 tyX0_ok nmX0 hown hG.1 hP hD hS i0 hi0 rfl 1 (by decide) (hts (.fieldLink RX1 130 "LopsidedRanks$Soldier" "above" "LLopsidedRanks$Soldier;") (by decide +kernel)) (fun _ h9 => h9) rfl (by decide +kernel) rfl rfl (Nat.le_of_ble_eq_true rfl) dX1_standBelow_22 (fun H locs hP hD hS => ?_)
      have hP : va_P D vwCl (cw x ln cA n (sbT tp none (some k17)) mo dr ds li K ad (va_up g k17 (sA (g k17) none))) H := by rw [← cw_put hDp ((hr0 k17 rfl) : k17 ∈ K) hi0 (sA (g k17) none) rfl]; exact hP
      have hD : va_D A (cw x ln cA n (sbT tp none (some k17)) mo dr ds li K ad (va_up g k17 (sA (g k17) none))) := by rw [← cw_put hDp ((hr0 k17 rfl) : k17 ∈ K) hi0 (sA (g k17) none) rfl]; exact hD
      have hP : va_P D vwCl (cw x ln cA n (sbT tp none (some k17)) mo dr ds li K ad (sbG g none h (some k17))) H := hP
      have hD : va_D A (cw x ln cA n (sbT tp none (some k17)) mo dr ds li K ad (sbG g none h (some k17))) := hD
      exact W.vret hx hb hr (fun t ht hW => ⟨⟨(), rfl, trivial, by rw [ht]; exact hP, hG.moved hW, hD⟩, hS.F ht⟩) hS.2.2 dX1_standBelow_25
  · subst c1
    have hl : lv_has ls 4 [(0, .ref x), (1, .ref (ad k1)), (2, .int (nI h)), (3, va_rf (r0.map ad))] := hl
    refine lv_aload_n hx hb dX1_standBelow_4 rfl (lv_at hl 1 rfl) ?_
    refine lv_iload_n hx hb dX1_standBelow_5 rfl (lv_at hl 2 rfl) ?_
    refine zr_aload_n hx hb dX1_standBelow_6 rfl (lv_at hl 3 rfl) ?_
    obtain ⟨i1, hi1⟩ := cw_s (x := x) (ln := ln) (cA := cA) (n := n) (tp := tp) (mo := mo) (dr := dr) (ds := ds) (li := li) (ad := ad) (g := g) ((hp0 k1 rfl) : k1 ∈ K)
    refine va_callv (va_runV (As := [.int (nI h), va_rf (r0.map ad)]) (rest := []) ⟨hx, hb, hml, hown, hts⟩ (c_X0_setTowards l (r0 := r0) (hp0 k1 rfl) (hpn k1 rfl) hh hr0) (cwV 2 hts gX1_standBelow_X0_setTowards rfl rfl rfl (by decide +kernel) ⟨Nat.le_of_ble_eq_true rfl, Nat.le_of_ble_eq_true rfl⟩) ⟨PcM.blind, va_recv hG.1 hP (ci := 0) (q0 := i1) rfl hi1, PcM.at (fun q h => hA q (Nat.le_trans hS.1 h)) hP hG hD⟩ rfl rfl hl.1 rfl (lv_room (Nat.le_of_ble_eq_true rfl)) dX1_standBelow_7 ⟨Nat.zero_le _, Nat.zero_le _⟩) hS (fun q _ h => h) (fun q h => h) (fun u7 t H locs ht hvm q7 hB hz1 hk1 hS => ?_)
    obtain ⟨hP, -, hD⟩ := hB
    rw [ht] at hP
    have hP : va_P D vwCl (cw x ln cA n (sbT tp (some k1) r0) mo dr ds li K ad (sbG g (some k1) h r0)) H := hP
    have hD : va_D A (cw x ln cA n (sbT tp (some k1) r0) mo dr ds li K ad (sbG g (some k1) h r0)) := hD
    exact W.vret hx hb hr (fun t ht hW => ⟨⟨(), rfl, trivial, by rw [ht]; exact hP, hG.moved hW, hD⟩, hS.F ht⟩) hS.2.2 dX1_standBelow_10

theorem UpC_cong {g g' : Nat → Nd} (h : ∀ k, (g' k).1 = (g k).1) : ∀ {ks : List Nat} {p : Option Nat}, UpC g p ks → UpC g' p ks
  | [], _, e => e
  | k :: ks, _, e => ⟨e.1, by rw [h k]; exact UpC_cong h e.2⟩
theorem UpC_addco {g : Nat → Nd} {k : Nat} {c : Int32} {ks : List Nat} (h : UpC g (g k).1 ks) : UpC (va_up g k (sC (g k) c)) (sC (g k) c).1 ks := by
  refine UpC_cong (g := g) (fun j => ?_) h
  by_cases e : j = k
  · subst e; rw [va_up_self]; rfl
  · rw [va_up_ne _ _ e]
set_option maxHeartbeats 4000000 in
set_option maxRecDepth 100000 in
theorem L_X1_addToCompaniesAbove {D : va_G} {cA cZ cI : ClassId} {x ln : Nat} {n : Int32} {tp : Option Nat} {mo dr ds : Int32} {li : Nat → Option Nat} {K : List Nat} {ad : Nat → Nat} {p : Program} {l : Launch} {e : Env} {R : Room} {s : State} {m : MethodId} {args : Array Value} {below : List Frame} {meth : Method} {c : Code} {Q : State → Prop} {cells slots : Nat} {A : Nat → Prop} {H0 : Heap} (hx : p.tables.exec = Jvm.exec) (hb : c.code = cX1_addToCompaniesAbove) (hml : c.maxLocals = 3) (hts : ∀ w ∈ wsX1_addToCompaniesAbove, w.before args s = true) (hown : s.vm.findClass RX1 = some m.cls) (hG : GK D (tysA cA cZ cI) s) {d : Int32} : ∀ {ks : List Nat} {g : Nat → Nd} {p0 : Option Nat} {H : Heap} {locs : List Loc}, UpC g p0 ks → (∀ j ∈ ks, j ∈ K) → va_P D vwCl (cw x ln cA n tp mo dr ds li K ad g) H → va_D A (cw x ln cA n tp mo dr ds li K ad g) → va_S A H0 H locs → (∀ H locs, va_P D vwCl (cw x ln cA n tp mo dr ds li K ad (addG d ks g)) H → va_D A (cw x ln cA n tp mo dr ds li K ad (addG d ks g)) → va_S A H0 H locs → ∀ ls, lv_has ls 3 [(2, .null), (1, .int d)] → W p l e R s m args below meth c H locs cells slots Q (F0 m 27 ls [])) → ∀ ls, lv_has ls 3 [(2, va_rf (p0.map ad)), (1, .int d)] → W p l e R s m args below meth c H locs cells slots Q (F0 m 5 ls []) := by
  intro ks
  induction ks with
  | nil =>
    intro g p0 H locs hu hin hP hD hS kk ls hl
    have hu : p0 = none := hu
    subst hu
    have hl : lv_has ls 3 [(2, .null), (1, .int d)] := hl
    refine lv_aload_nN hx hb dX1_addToCompaniesAbove_5 rfl (lv_at hl 0 rfl) ?_
    refine lv_ifnullN (tgt := 27) hx hb dX1_addToCompaniesAbove_6 (by decide) ?_
    exact kk _ _ hP hD hS _ hl
  | cons k ks ih =>
    intro g p0 H locs hu hin hP hD hS kk ls hl
    obtain ⟨rfl, hu2⟩ := hu
    have hk := hin k List.mem_cons_self
    have hl : lv_has ls 3 [(2, .ref (ad k)), (1, .int d)] := hl
    refine lv_aload_n hx hb dX1_addToCompaniesAbove_5 rfl (lv_at hl 0 rfl) ?_
    refine lv_ifnull hx hb dX1_addToCompaniesAbove_6 ?_
    refine lv_aload_n hx hb dX1_addToCompaniesAbove_9 rfl (lv_at hl 0 rfl) ?_
    refine lv_dup hx hb dX1_addToCompaniesAbove_10 rfl ?_
    obtain ⟨i0, hi0⟩ := cw_s (x := x) (ln := ln) (cA := cA) (n := n) (tp := tp) (mo := mo) (dr := dr) (ds := ds) (li := li) (ad := ad) (g := g) (hk : k ∈ K)
    refine va_get (D := D) (ci := 0) (v := .int (g k).2.2.2) (C := RX0) (T := TX0) (N := 5) hx hb hts (by decide +kernel) hown hG.1 hP i0 hi0 rfl 4 (by decide) (hts (.fieldLink RX1 147 "LopsidedRanks$Soldier" "company" "I") (by decide +kernel)) (fun _ h9 => h9) rfl dX1_addToCompaniesAbove_11 ?_
    refine lv_iload_n hx hb dX1_addToCompaniesAbove_14 rfl (lv_at hl 1 rfl) ?_
    refine lv_iadd hx hb dX1_addToCompaniesAbove_15 ?_
    obtain ⟨i1, hi1⟩ := cw_s (x := x) (ln := ln) (cA := cA) (n := n) (tp := tp) (mo := mo) (dr := dr) (ds := ds) (li := li) (ad := ad) (g := g) (hk : k ∈ K)
    have hDp := hD
    refine va_put (D := D) (ci := 0) (v := .int (((g k).2.2.2) + d)) (ty := .int) (C := RX0) (T := TX0) (N := 5) hx hb hts (by decide +kernel) tyX0 tyX0_ok nmX0 hown hG.1 hP hD hS i1 hi1 rfl 4 (by decide) (hts (.fieldLink RX1 147 "LopsidedRanks$Soldier" "company" "I") (by decide +kernel)) (fun _ h9 => h9) rfl (by decide +kernel) rfl rfl (Nat.le_of_ble_eq_true rfl) dX1_addToCompaniesAbove_16 (fun H locs hP hD hS => ?_)
    have hP : va_P D vwCl (cw x ln cA n tp mo dr ds li K ad (va_up g k (sC (g k) (((g k).2.2.2) + d)))) H := by rw [← cw_put hDp (hk : k ∈ K) hi1 (sC (g k) (((g k).2.2.2) + d)) rfl]; exact hP
    have hD : va_D A (cw x ln cA n tp mo dr ds li K ad (va_up g k (sC (g k) (((g k).2.2.2) + d)))) := by rw [← cw_put hDp (hk : k ∈ K) hi1 (sC (g k) (((g k).2.2.2) + d)) rfl]; exact hD
    refine lv_aload_n hx hb dX1_addToCompaniesAbove_19 rfl (lv_at hl 0 rfl) ?_
    obtain ⟨i2, hi2⟩ := cw_s (x := x) (ln := ln) (cA := cA) (n := n) (tp := tp) (mo := mo) (dr := dr) (ds := ds) (li := li) (ad := ad) (g := va_up g k (sC (g k) (((g k).2.2.2) + d))) (hk : k ∈ K)
    refine va_get (D := D) (ci := 0) (v := va_rf (((va_up g k (sC (g k) (((g k).2.2.2) + d))) k).1.map ad)) (C := RX0) (T := TX0) (N := 5) hx hb hts (by decide +kernel) hown hG.1 hP i2 hi2 rfl 1 (by decide) (hts (.fieldLink RX1 130 "LopsidedRanks$Soldier" "above" "LLopsidedRanks$Soldier;") (by decide +kernel)) (fun _ h9 => h9) rfl dX1_addToCompaniesAbove_20 ?_
    refine zr_astore_n (lv' := [(2, va_rf (((va_up g k (sC (g k) (((g k).2.2.2) + d))) k).1.map ad)), (1, .int d)]) hx hb dX1_addToCompaniesAbove_23 rfl hl (by decide) rfl (fun ls hl => ?_)
    refine lv_goto (tgt := 5) hx hb dX1_addToCompaniesAbove_24 (by decide) ?_
    exact ih (UpC_addco hu2) (fun j hj => hin j (List.mem_cons_of_mem _ hj)) hP hD hS kk _ (lv_re hl (by rw [va_up_self]))
set_option maxHeartbeats 4000000 in
set_option maxRecDepth 100000 in
/-- addToCompaniesAbove(k1, d) -/
theorem c_X1_addToCompaniesAbove (l : Launch) {D : va_G} {cA cZ cI : ClassId} {x ln : Nat} {n : Int32} {tp : Option Nat} {mo dr ds : Int32} {li : Nat → Option Nat} {K : List Nat} {ad : Nat → Nat} {g : Nat → Nd} {A : Nat → Prop} {k1 : Nat} {d : Int32} {ks : List Nat} (hk : k1 ∈ K) (hu : UpC g (g k1).1 ks) (hin : ∀ j ∈ ks, j ∈ K) : Met l yX1_addToCompaniesAbove wsX1_addToCompaniesAbove ({ frames := 0, cells := 0, slots := 0, locals := 0 } : Room) (PcM D (tysA cA cZ cI) A (cw x ln cA n tp mo dr ds li K ad g) [.ref (ad k1), .int d]) (va_Qv (S := Unit) (fun _ => True) (fun _ => BM D (tysA cA cZ cI) A (cw x ln cA n tp mo dr ds li K ad (addG d ks g))) A) 0 0 A := by
  refine Met.ofW (cc := cX1_addToCompaniesAbove) (maxL := 3) (ret := none) (by decide) rfl ?_
  intro p e s m args below meth c s₁ B hml hv
  obtain ⟨rfl, hA, hP, hG, hD⟩ := hv
  have hx := B.exec
  have hb := B.bytes
  have hr := B.returns
  have hts := atoms_spec (ws := wsX1_addToCompaniesAbove) B.pre
  have hown : s.vm.findClass RX1 = some m.cls := findClass_of_methodNamed B.named
  have hlocks := B.notSynchronized
  have hl := lv_entry ([.ref (ad k1), .int d]) (n := 3) (Nat.le_of_ble_eq_true rfl)
  rw [lg_entry_eq]
  generalize (lg_sl ([.ref (ad k1), .int d]) ++ List.replicate (3 - (lg_sl ([.ref (ad k1), .int d])).length) Slot.unset).toArray = ls at hl ⊢
  have hl : lv_has ls 3 [(0, .ref (ad k1)), (1, .int d)] := hl
  have hS : va_S A s.heap s.heap [] := va_S.rf
  refine lv_aload_n hx hb dX1_addToCompaniesAbove_0 rfl (lv_at hl 0 rfl) ?_
  obtain ⟨i0, hi0⟩ := cw_s (x := x) (ln := ln) (cA := cA) (n := n) (tp := tp) (mo := mo) (dr := dr) (ds := ds) (li := li) (ad := ad) (g := g) (hk : k1 ∈ K)
  refine va_get (D := D) (ci := 0) (v := va_rf ((g k1).1.map ad)) (C := RX0) (T := TX0) (N := 5) hx hb hts (by decide +kernel) hown hG.1 hP i0 hi0 rfl 1 (by decide) (hts (.fieldLink RX1 130 "LopsidedRanks$Soldier" "above" "LLopsidedRanks$Soldier;") (by decide +kernel)) (fun _ h9 => h9) rfl dX1_addToCompaniesAbove_1 ?_
  refine zr_astore_n (lv' := [(2, va_rf ((g k1).1.map ad)), (0, .ref (ad k1)), (1, .int d)]) hx hb dX1_addToCompaniesAbove_4 rfl hl (by decide) rfl (fun ls hl => ?_)
  refine L_X1_addToCompaniesAbove (ks := ks) (p0 := (g k1).1) hx hb hml hts hown hG hu hin hP hD hS (fun H locs hP hD hS ls hl => ?_) _ (lv_sub hl [0, 2] rfl)
  exact W.vret hx hb hr (fun t ht hW => ⟨⟨(), rfl, trivial, by rw [ht]; exact hP, hG.moved hW, hD⟩, hS.F ht⟩) hS.2.2 dX1_addToCompaniesAbove_27
end
section
/-! THE TREE'S SHAPE, behind each writing -/
theorem ShP_cong {g g' : Nat → Nd} : ∀ {T : Tr} {a : Option Nat}, (∀ k ∈ keysT T, (g' k).1 = (g k).1 ∧ (g' k).2.1 = (g k).2.1 ∧ (g' k).2.2.1 = (g k).2.2.1) → ShP g a T → ShP g' a T
  | .leaf, _, _, _ => trivial
  | .inner s k v l r, a, h, hs => by
    obtain ⟨h1, h2, h3, h4, h5⟩ := hs
    obtain ⟨e1, e2, e3⟩ := h k ((keys_in ..).mpr (Or.inr (Or.inl rfl)))
    exact ⟨e1.trans h1, e2.trans h2, e3.trans h3, ShP_cong (fun j hj => h j ((keys_in ..).mpr (Or.inl hj))) h4, ShP_cong (fun j hj => h j ((keys_in ..).mpr (Or.inr (Or.inr hj)))) h5⟩
theorem ShC_cong {g g' : Nat → Nd} : ∀ {T : Tr}, (∀ k ∈ keysT T, (g' k).2.2.2 = (g k).2.2.2) → ShC g T → ShC g' T
  | .leaf, _, _ => trivial
  | .inner s k v l r, h, hs => by
    obtain ⟨h1, h2, h3⟩ := hs
    exact ⟨(h k ((keys_in ..).mpr (Or.inr (Or.inl rfl)))).trans h1, ShC_cong (fun j hj => h j ((keys_in ..).mpr (Or.inl hj))) h2, ShC_cong (fun j hj => h j ((keys_in ..).mpr (Or.inr (Or.inr hj)))) h3⟩
/-- the same tree under somebody else -/
theorem ShP_under {g g' : Nat → Nd} {T : Tr} {a b : Option Nat} (hb : bst T) (h : ∀ k ∈ keysT T, (root T ≠ some k → (g' k).1 = (g k).1) ∧ (root T = some k → (g' k).1 = b) ∧ (g' k).2.1 = (g k).2.1 ∧ (g' k).2.2.1 = (g k).2.2.1) (hs : ShP g a T) : ShP g' b T := by
  cases T with
  | leaf => trivial
  | inner s k v l r =>
    obtain ⟨b1, b2, b3, b4⟩ := bst_in.mp hb
    obtain ⟨h1, h2, h3, h4, h5⟩ := hs
    obtain ⟨-, e1, e2, e3⟩ := h k ((keys_in ..).mpr (Or.inr (Or.inl rfl)))
    refine ⟨e1 rfl, e2.trans h2, e3.trans h3, ShP_cong (fun j hj => ?_) h4, ShP_cong (fun j hj => ?_) h5⟩
    · obtain ⟨z1, -, z2, z3⟩ := h j ((keys_in ..).mpr (Or.inl hj))
      exact ⟨z1 (fun q => by cases q; have := b3 _ hj; omega), z2, z3⟩
    · obtain ⟨z1, -, z2, z3⟩ := h j ((keys_in ..).mpr (Or.inr (Or.inr hj)))
      exact ⟨z1 (fun q => by cases q; have := b4 _ hj; omega), z2, z3⟩
def kl (h : Nat) : Tr → List Nat
  | .leaf => []
  | .inner _ k _ l r => if h = k then [] else if h < k then kl h l else keysT l ++ k :: kl h r
def kr (h : Nat) : Tr → List Nat
  | .leaf => []
  | .inner _ k _ l r => if h = k then [] else if h < k then kr h l ++ k :: keysT r else kr h r
theorem keys_split (h : Nat) (T : Tr) : keysT T = kl h T ++ keysT (subT h T) ++ kr h T := by
  induction T with
  | leaf => rfl
  | inner s k v l r ihl ihr =>
    simp only [kl, kr, subT]
    split
    · simp
    · split
      · rw [show keysT (.inner s k v l r : Tr) = keysT l ++ k :: keysT r from rfl, ihl]; simp
      · rw [show keysT (.inner s k v l r : Tr) = keysT l ++ k :: keysT r from rfl, ihr]; simp
theorem keys_rep (h : Nat) (t T : Tr) : keysT (rep h t T) = kl h T ++ keysT t ++ kr h T := by
  induction T with
  | leaf => simp [rep, kl, kr]
  | inner s k v l r ihl ihr =>
    simp only [kl, kr, rep]
    split
    · simp
    · split
      · rw [show keysT (nd_ (rep h t l) k r) = keysT (rep h t l) ++ k :: keysT r from rfl, ihl]; simp
      · rw [show keysT (nd_ l k (rep h t r)) = keysT l ++ k :: keysT (rep h t r) from rfl, ihr]; simp
theorem kl_len (h : Nat) (T : Tr) : (kl h T).length = ofs h T := by
  induction T with
  | leaf => rfl
  | inner s k v l r ihl ihr =>
    simp only [kl, ofs]
    split
    · rfl
    · split
      · exact ihl
      · simp [keys_len, ihr]; omega
theorem kl_lt {h : Nat} {T : Tr} (hb : bst T) : ∀ j ∈ kl h T, j < h := by
  induction T with
  | leaf => intro j hj; cases hj
  | inner s k v l r ihl ihr =>
    obtain ⟨b1, b2, b3, b4⟩ := bst_in.mp hb
    intro j hj
    simp only [kl] at hj
    split at hj
    · cases hj
    · split at hj
      · exact ihl b1 j hj
      · rcases List.mem_append.mp hj with q | q
        · have := b3 j q; omega
        · rcases List.mem_cons.mp q with q | q
          · omega
          · exact ihr b2 j q
theorem kr_gt {h : Nat} {T : Tr} (hb : bst T) : ∀ j ∈ kr h T, h < j := by
  induction T with
  | leaf => intro j hj; cases hj
  | inner s k v l r ihl ihr =>
    obtain ⟨b1, b2, b3, b4⟩ := bst_in.mp hb
    intro j hj
    simp only [kr] at hj
    split at hj
    · cases hj
    · split at hj
      · rcases List.mem_append.mp hj with q | q
        · exact ihl b1 j q
        · rcases List.mem_cons.mp q with q | q
          · omega
          · have := b4 j q; omega
      · exact ihr b2 j hj
/-- who is not below the place of h -/
theorem out_iff {h j : Nat} {T : Tr} (hb : bst T) : j ∈ keysT T ∧ j ∉ keysT (subT h T) ↔ j ∈ kl h T ∨ j ∈ kr h T := by
  have e := keys_split h T
  have hn : (keysT T).Pairwise (· < ·) := hb
  rw [e, List.pairwise_append, List.pairwise_append] at hn
  obtain ⟨⟨-, -, h1⟩, -, h2⟩ := hn
  rw [e, List.mem_append, List.mem_append]
  constructor
  · rintro ⟨(q | q) | q, n⟩
    · exact Or.inl q
    · exact absurd q n
    · exact Or.inr q
  · rintro (q | q)
    · exact ⟨Or.inl (Or.inl q), fun z => by have := h1 j q j z; omega⟩
    · exact ⟨Or.inr q, fun z => by have := h2 j (List.mem_append_right _ z) j q; omega⟩
theorem bst_rep {h : Nat} {t T : Tr} (hb : bst T) (ht : bst t) (h1 : ∀ a ∈ kl h T, ∀ b ∈ keysT t, a < b) (h2 : ∀ a ∈ keysT t, ∀ b ∈ kr h T, a < b) : bst (rep h t T) := by
  have hn : (keysT T).Pairwise (· < ·) := hb
  rw [keys_split h T, List.pairwise_append, List.pairwise_append] at hn
  obtain ⟨⟨g1, -, -⟩, g2, g3⟩ := hn
  show (keysT (rep h t T)).Pairwise (· < ·)
  rw [keys_rep, List.pairwise_append, List.pairwise_append]
  refine ⟨⟨g1, ht, h1⟩, g2, fun a ha b hb => ?_⟩
  rcases List.mem_append.mp ha with q | q
  · exact g3 a (List.mem_append_left _ q) b hb
  · exact h2 a q b hb
theorem kl_sub {h : Nat} {T : Tr} (hb : bst T) : (∀ a ∈ kl h T, ∀ b ∈ keysT (subT h T), a < b) ∧ ∀ a ∈ keysT (subT h T), ∀ b ∈ kr h T, a < b := by
  have hn : (keysT T).Pairwise (· < ·) := hb
  rw [keys_split h T, List.pairwise_append, List.pairwise_append] at hn
  exact ⟨hn.1.2.2, fun a ha b hb => hn.2.2 a (List.mem_append_right _ ha) b hb⟩
theorem root_rep {h : Nat} {t T : Tr} {a : Option Nat} : (root T = none ∨ root T = some h → root (rep h t T) = root t ∧ parF h a T = a) ∧ (∀ k, root T = some k → k ≠ h → root (rep h t T) = some k ∧ ∃ q ∈ keysT T, parF h a T = some q) := by
  cases T with
  | leaf => exact ⟨fun _ => ⟨rfl, rfl⟩, fun k e => by cases e⟩
  | inner s k v l r =>
    refine ⟨fun e => ?_, fun j e hne => ?_⟩
    · rcases e with e | e
      · cases e
      · cases e; simp [rep, parF]
    · cases e
      have h1 : ¬ h = k := fun q => hne q.symm
      by_cases h2 : h < k
      · simp only [rep, parF, if_neg h1, if_pos h2]
        refine ⟨rfl, ?_⟩
        cases e : parF h (some k) l with
        | none => 
          exfalso
          have : ∀ (T : Tr) (b : Nat), parF h (some b) T ≠ none := by
            intro T
            induction T with
            | leaf => intro b q; cases q
            | inner s2 k2 v2 l2 r2 i1 i2 =>
              intro b
              simp only [parF]
              split
              · intro q; cases q
              · split
                · exact i1 k2
                · exact i2 k2
          exact this l k e
        | some q =>
          refine ⟨q, ?_, rfl⟩
          rw [keys_in]
          rcases parF_in e with z | z
          · cases z; exact Or.inr (Or.inl rfl)
          · exact Or.inl z
      · simp only [rep, parF, if_neg h1, if_neg h2]
        refine ⟨rfl, ?_⟩
        cases e : parF h (some k) r with
        | none => 
          exfalso
          have : ∀ (T : Tr) (b : Nat), parF h (some b) T ≠ none := by
            intro T
            induction T with
            | leaf => intro b q; cases q
            | inner s2 k2 v2 l2 r2 i1 i2 =>
              intro b
              simp only [parF]
              split
              · intro q; cases q
              · split
                · exact i1 k2
                · exact i2 k2
          exact this r k e
        | some q =>
          refine ⟨q, ?_, rfl⟩
          rw [keys_in]
          rcases parF_in e with z | z
          · cases z; exact Or.inr (Or.inl rfl)
          · exact Or.inr (Or.inr z)
/-- a tree hung into the place of h: the parent's reference, and the tree's own, make the whole -/
theorem rep_shape {g g' : Nat → Nd} {h : Nat} {t : Tr} : ∀ {T : Tr} {a : Option Nat}, bst T → (∀ b, a = some b → b ∉ keysT T) → ShP g a T → (∀ k ∈ keysT T, k ∉ keysT (subT h T) → (g' k).1 = (g k).1 ∧ (parF h a T ≠ some k → (g' k).2.1 = (g k).2.1 ∧ (g' k).2.2.1 = (g k).2.2.1) ∧ (parF h a T = some k → h < k → (g' k).2.1 = root t ∧ (g' k).2.2.1 = (g k).2.2.1) ∧ (parF h a T = some k → ¬ h < k → (g' k).2.1 = (g k).2.1 ∧ (g' k).2.2.1 = root t)) → ShP g' (parF h a T) t → ShP g' a (rep h t T)
  | .leaf, a, _, _, _, _, ht => ht
  | .inner s k v l r, a, hb, ha, hs, hk, ht => by
    obtain ⟨b1, b2, b3, b4⟩ := bst_in.mp hb
    obtain ⟨h1, h2, h3, h4, h5⟩ := hs
    by_cases e : h = k
    · subst e
      simpa [rep, parF] using ht
    · by_cases e2 : h < k
      · have ep : parF h a (.inner s k v l r) = parF h (some k) l := by simp [parF, e, e2]
        have er : rep h t (.inner s k v l r) = nd_ (rep h t l) k r := by simp [rep, e, e2]
        rw [sub_l e2] at hk
        rw [ep] at hk ht
        rw [er]
        have hkl : ∀ j ∈ keysT l, j ≠ k := fun j hj q => by have := b3 j hj; omega
        have hpl : ∀ j, parF h (some k) l = some j → j = k ∨ j ∈ keysT l := fun j q => by
          rcases parF_in q with z | z
          · cases z; exact Or.inl rfl
          · exact Or.inr z
        obtain ⟨z1, z2, z3, z4⟩ := hk k ((keys_in ..).mpr (Or.inr (Or.inl rfl))) (fun q => hkl k (subT_sub q) rfl)
        have hleft : (g' k).2.1 = root (rep h t l) ∧ (g' k).2.2.1 = root r := by
          rcases hrl : root l with _ | c
          · obtain ⟨y1, y2⟩ := (root_rep (h := h) (t := t) (T := l) (a := some k)).1 (Or.inl hrl)
            obtain ⟨x1, x2⟩ := z3 y2 e2
            exact ⟨x1.trans y1.symm, x2.trans h3⟩
          · by_cases ec : c = h
            · subst ec
              obtain ⟨y1, y2⟩ := (root_rep (h := c) (t := t) (T := l) (a := some k)).1 (Or.inr hrl)
              obtain ⟨x1, x2⟩ := z3 y2 e2
              exact ⟨x1.trans y1.symm, x2.trans h3⟩
            · obtain ⟨y1, q, y2, y3⟩ := (root_rep (h := h) (t := t) (T := l) (a := some k)).2 c hrl ec
              obtain ⟨x1, x2⟩ := z2 (by rw [y3]; exact fun w => hkl q y2 (Option.some.inj w))
              exact ⟨x1.trans (h2.trans (hrl.trans y1.symm)), x2.trans h3⟩
        refine ⟨z1.trans h1, hleft.1, hleft.2, rep_shape b1 (fun b q => by cases q; exact fun w => hkl k w rfl) h4 (fun j hj hn => ?_) ht, ShP_cong (fun j hj => ?_) h5⟩
        · exact hk j ((keys_in ..).mpr (Or.inl hj)) hn
        · have hjk := b4 j hj
          obtain ⟨x1, x2, -, -⟩ := hk j ((keys_in ..).mpr (Or.inr (Or.inr hj))) (fun q => by have := b3 j (subT_sub q); omega)
          obtain ⟨x3, x4⟩ := x2 (fun q => by rcases hpl j q with w | w; (· omega); (· have := b3 j w; omega))
          exact ⟨x1, x3, x4⟩
      · have e3 : k < h := by omega
        have ep : parF h a (.inner s k v l r) = parF h (some k) r := by simp [parF, e, e2]
        have er : rep h t (.inner s k v l r) = nd_ l k (rep h t r) := by simp [rep, e, e2]
        rw [sub_r e3] at hk
        rw [ep] at hk ht
        rw [er]
        have hkr : ∀ j ∈ keysT r, j ≠ k := fun j hj q => by have := b4 j hj; omega
        have hpl : ∀ j, parF h (some k) r = some j → j = k ∨ j ∈ keysT r := fun j q => by
          rcases parF_in q with z | z
          · cases z; exact Or.inl rfl
          · exact Or.inr z
        obtain ⟨z1, z2, z3, z4⟩ := hk k ((keys_in ..).mpr (Or.inr (Or.inl rfl))) (fun q => hkr k (subT_sub q) rfl)
        have hright : (g' k).2.1 = root l ∧ (g' k).2.2.1 = root (rep h t r) := by
          rcases hrl : root r with _ | c
          · obtain ⟨y1, y2⟩ := (root_rep (h := h) (t := t) (T := r) (a := some k)).1 (Or.inl hrl)
            obtain ⟨x1, x2⟩ := z4 y2 e2
            exact ⟨x1.trans h2, x2.trans y1.symm⟩
          · by_cases ec : c = h
            · subst ec
              obtain ⟨y1, y2⟩ := (root_rep (h := c) (t := t) (T := r) (a := some k)).1 (Or.inr hrl)
              obtain ⟨x1, x2⟩ := z4 y2 e2
              exact ⟨x1.trans h2, x2.trans y1.symm⟩
            · obtain ⟨y1, q, y2, y3⟩ := (root_rep (h := h) (t := t) (T := r) (a := some k)).2 c hrl ec
              obtain ⟨x1, x2⟩ := z2 (by rw [y3]; exact fun w => hkr q y2 (Option.some.inj w))
              exact ⟨x1.trans h2, x2.trans (h3.trans (hrl.trans y1.symm))⟩
        refine ⟨z1.trans h1, hright.1, hright.2, ShP_cong (fun j hj => ?_) h4, rep_shape b2 (fun b q => by cases q; exact fun w => hkr k w rfl) h5 (fun j hj hn => ?_) ht⟩
        · have hjk := b3 j hj
          obtain ⟨x1, x2, -, -⟩ := hk j ((keys_in ..).mpr (Or.inl hj)) (fun q => by have := b4 j (subT_sub q); omega)
          obtain ⟨x3, x4⟩ := x2 (fun q => by rcases hpl j q with w | w; (· omega); (· have := b4 j w; omega))
          exact ⟨x1, x3, x4⟩
        · exact hk j ((keys_in ..).mpr (Or.inr (Or.inr hj))) hn
end
section
/-! THE TREE'S SHAPE behind standBelow, handOver and the counting -/
theorem sbG_at (g : Nat → Nd) (p : Option Nat) (h : Nat) (r : Option Nat) (k : Nat) : sbG g p h r k = (if r = some k then p else (g k).1, if p = some k ∧ h < k then r else (g k).2.1, if p = some k ∧ ¬ h < k then r else (g k).2.2.1, (g k).2.2.2) := by
  have e : ∀ d : Nd, d = (d.1, d.2.1, d.2.2.1, d.2.2.2) := fun d => rfl
  cases p with
  | none =>
    cases r with
    | none => simp [sbG]
    | some c =>
      simp only [sbG]
      by_cases hk : k = c
      · subst hk; simp [va_up, sA]
      · have h1 : ¬ c = k := fun q => hk q.symm
        simp [va_up, hk, h1]
  | some q =>
    cases r with
    | none =>
      simp only [sbG, stG]
      by_cases hk : k = q
      · subst hk
        by_cases hl : h < k <;> simp [va_up, sL, sR, hl]
      · have h1 : ¬ q = k := fun z => hk z.symm
        simp [va_up, hk, h1]
    | some c =>
      simp only [sbG, stG]
      by_cases hk : k = q
      · subst hk
        by_cases hc : k = c
        · subst hc
          by_cases hl : h < k <;> simp [va_up, sL, sR, sA, hl]
        · have h1 : ¬ c = k := fun z => hc z.symm
          by_cases hl : h < k <;> simp [va_up, sL, sR, hl, hc, h1]
      · have h1 : ¬ q = k := fun z => hk z.symm
        by_cases hc : k = c
        · subst hc
          simp [va_up, sA, hk, h1]
        · have h2 : ¬ c = k := fun z => hc z.symm
          simp [va_up, hk, h1, hc, h2]
theorem hoG_eq (g : Nat → Nd) (c q : Nat) : hoG g (some c) q = sbG g (some q) c (some c) := rfl
theorem addG_at {d : Int32} {k : Nat} : ∀ {ks : List Nat} {g : Nat → Nd}, ks.Nodup → addG d ks g k = if k ∈ ks then sC (g k) ((g k).2.2.2 + d) else g k
  | [], g, _ => by simp [addG]
  | a :: ks, g, hn => by
    obtain ⟨h1, h2⟩ := List.nodup_cons.mp hn
    rw [addG, addG_at h2]
    by_cases e : k = a
    · subst e
      rw [if_neg h1, if_pos List.mem_cons_self, va_up_self]
    · rw [va_up_ne _ _ e]
      by_cases e2 : k ∈ ks
      · rw [if_pos e2, if_pos (List.mem_cons_of_mem _ e2)]
      · rw [if_neg e2, if_neg (fun q => by rcases List.mem_cons.mp q with z | z; exact e z; exact e2 z)]
theorem addG_ptr {d : Int32} {k : Nat} {ks : List Nat} {g : Nat → Nd} (hn : ks.Nodup) : (addG d ks g k).1 = (g k).1 ∧ (addG d ks g k).2.1 = (g k).2.1 ∧ (addG d ks g k).2.2.1 = (g k).2.2.1 := by
  rw [addG_at hn]
  split <;> exact ⟨rfl, rfl, rfl⟩
theorem addG_co {d : Int32} {k : Nat} {ks : List Nat} {g : Nat → Nd} (hn : ks.Nodup) : (addG d ks g k).2.2.2 = (g k).2.2.2 + (if k ∈ ks then d else 0) := by
  rw [addG_at hn]
  split
  · rfl
  · exact (Int32.add_zero _).symm
theorem anc_nodup {h : Nat} {T : Tr} (hb : bst T) : (anc h T).Nodup := by
  induction T with
  | leaf => exact List.nodup_nil
  | inner s k v l r ihl ihr =>
    obtain ⟨b1, b2, b3, b4⟩ := bst_in.mp hb
    simp only [anc]
    split
    · exact List.nodup_nil
    · split
      · exact List.nodup_cons.mpr ⟨fun q => by have := b3 k (anc_in q); omega, ihl b1⟩
      · exact List.nodup_cons.mpr ⟨fun q => by have := b4 k (anc_in q); omega, ihr b2⟩
theorem anc_out {h j : Nat} {T : Tr} (hj : j ∈ anc h T) : j ∈ kl h T ∨ j ∈ kr h T := by
  induction T with
  | leaf => cases hj
  | inner s k v l r ihl ihr =>
    simp only [anc] at hj
    simp only [kl, kr]
    split at hj
    · cases hj
    · rename_i e
      rw [if_neg e, if_neg e]
      by_cases e2 : h < k
      · rw [if_pos e2] at hj
        rw [if_pos e2, if_pos e2]
        rcases List.mem_cons.mp hj with q | q
        · exact Or.inr (List.mem_append_right _ (q ▸ List.mem_cons_self))
        · rcases ihl q with z | z
          · exact Or.inl z
          · exact Or.inr (List.mem_append_left _ z)
      · rw [if_neg e2] at hj
        rw [if_neg e2, if_neg e2]
        rcases List.mem_cons.mp hj with q | q
        · exact Or.inl (List.mem_append_right _ (q ▸ List.mem_cons_self))
        · rcases ihr q with z | z
          · exact Or.inl (List.mem_append_right _ (List.mem_cons_of_mem _ z))
          · exact Or.inr z
theorem parF_anc {h j : Nat} : ∀ {T : Tr} {a : Option Nat}, parF h a T = some j → a = some j ∨ j ∈ anc h T
  | .leaf, a, e => Or.inl e
  | .inner s k v l r, a, e => by
    simp only [parF] at e
    simp only [anc]
    split at e
    · exact Or.inl e
    · rename_i e1
      rw [if_neg e1]
      split at e
      · rename_i e2
        rw [if_pos e2]
        rcases parF_anc e with q | q
        · cases q; exact Or.inr List.mem_cons_self
        · exact Or.inr (List.mem_cons_of_mem _ q)
      · rename_i e2
        rw [if_neg e2]
        rcases parF_anc e with q | q
        · cases q; exact Or.inr List.mem_cons_self
        · exact Or.inr (List.mem_cons_of_mem _ q)
theorem parF_out {h j : Nat} {T : Tr} (e : parF h none T = some j) : j ∈ kl h T ∨ j ∈ kr h T := by
  rcases parF_anc e with q | q
  · cases q
  · exact anc_out q
/-- standBelow hangs a tree into the place of h -/
theorem SB {g g1 : Nat → Nd} {h : Nat} {t T : Tr} {b : Option Nat} (hb : bst T) (hbt : bst t) (hs : ShP g none T) (ht : ShP g1 b t) (hag : ∀ k ∈ keysT T, k ∉ keysT (subT h T) → (g1 k).1 = (g k).1 ∧ (g1 k).2.1 = (g k).2.1 ∧ (g1 k).2.2.1 = (g k).2.2.1) (hdis : ∀ j ∈ keysT t, j ∉ kl h T ∧ j ∉ kr h T) : ShP (sbG g1 (parF h none T) h (root t)) none (rep h t T) := by
  refine rep_shape hb (fun b q => by cases q) hs (fun k hk hn => ?_) ?_
  · obtain ⟨e1, e2, e3⟩ := hag k hk hn
    have hout := (out_iff hb).mp ⟨hk, hn⟩
    have hr : ¬ root t = some k := fun q => by
      obtain ⟨z1, z2⟩ := hdis k (root_in q)
      rcases hout with w | w
      · exact z1 w
      · exact z2 w
    rw [sbG_at]
    refine ⟨?_, fun hp => ?_, fun hp hl => ?_, fun hp hl => ?_⟩
    · simp only [hr, if_false]; exact e1
    · simp only [hp, false_and, if_false]; exact ⟨e2, e3⟩
    · simp only [hp, hl, not_true, and_false, and_self, if_true, if_false]; exact ⟨trivial, e3⟩
    · simp only [hp, hl, not_false_eq_true, and_false, and_self, if_true, if_false]; exact ⟨e2, trivial⟩
  · refine ShP_under hbt (fun k hk => ?_) ht
    obtain ⟨z1, z2⟩ := hdis k hk
    have hp : ¬ parF h none T = some k := fun q => by
      rcases parF_out q with w | w
      · exact z1 w
      · exact z2 w
    rw [sbG_at]
    refine ⟨fun q => ?_, fun q => ?_, ?_, ?_⟩
    · simp only [q, if_false]
    · simp only [q, if_true]
    · simp only [hp, false_and, if_false]
    · simp only [hp, false_and, if_false]
theorem sbT_root {h : Nat} {t T : Tr} : sbT (root T) (parF h none T) (root t) = root (rep h t T) := by
  rcases hr : root T with _ | c
  · obtain ⟨y1, y2⟩ := (root_rep (h := h) (t := t) (T := T) (a := none)).1 (Or.inl hr)
    rw [y1, y2]; rfl
  · by_cases ec : c = h
    · obtain ⟨y1, y2⟩ := (root_rep (h := h) (t := t) (T := T) (a := none)).1 (Or.inr (by rw [hr, ec]))
      rw [y1, y2]; rfl
    · obtain ⟨y1, q, y2, y3⟩ := (root_rep (h := h) (t := t) (T := T) (a := none)).2 c hr ec
      rw [y1, y3]; rfl
/-- the companies, where a tree was hung into the place of h -/
theorem rep_co {g g' : Nat → Nd} {h : Nat} {t : Tr} {d : Int32} : ∀ {T : Tr}, bst T → ShC g T → (∀ k ∈ keysT T, k ∉ keysT (subT h T) → (g' k).2.2.2 = (g k).2.2.2 + (if k ∈ anc h T then d else 0)) → ShC g' t → nI (siz t) = nI (siz (subT h T)) + d → ShC g' (rep h t T) ∧ nI (siz (rep h t T)) = nI (siz T) + d
  | .leaf, _, _, _, ht, hd => ⟨ht, hd⟩
  | .inner s k v l r, hb, hc, hk, ht, hd => by
    obtain ⟨b1, b2, b3, b4⟩ := bst_in.mp hb
    obtain ⟨c1, c2, c3⟩ := hc
    by_cases e : h = k
    · subst e
      rw [sub_s] at hd
      have er : rep h t (.inner s h v l r) = t := by simp [rep]
      rw [er]
      exact ⟨ht, hd⟩
    · by_cases e2 : h < k
      · have er : rep h t (.inner s k v l r) = nd_ (rep h t l) k r := by simp [rep, e, e2]
        rw [sub_l e2] at hk hd
        rw [anc_l e2] at hk
        have hkl : ∀ j ∈ keysT l, j ≠ k := fun j hj q => by have := b3 j hj; omega
        have hz := hk k ((keys_in ..).mpr (Or.inr (Or.inl rfl))) (fun q => hkl k (subT_sub q) rfl)
        rw [if_pos List.mem_cons_self] at hz
        obtain ⟨i1, i2⟩ := rep_co b1 c2 (fun j hj hn => by
          have h9 := hk j ((keys_in ..).mpr (Or.inl hj)) hn
          have e9 : (j ∈ k :: anc h l) ↔ j ∈ anc h l := ⟨fun q => by rcases List.mem_cons.mp q with z | z; exact absurd z (hkl j hj); exact z, fun q => List.mem_cons_of_mem _ q⟩
          simp only [e9] at h9
          exact h9) ht hd
        rw [er]
        refine ⟨⟨?_, i1, ShC_cong (fun j hj => ?_) c3⟩, ?_⟩
        · rw [hz, c1, ← nI_add, ← nI_add, ← nI_add, ← nI_add, i2]; ac_rfl
        · have hjk := b4 j hj
          have h9 := hk j ((keys_in ..).mpr (Or.inr (Or.inr hj))) (fun q => by have := b3 j (subT_sub q); omega)
          rw [if_neg (fun q => by rcases List.mem_cons.mp q with z | z; (· omega); (· have := b3 j (anc_in z); omega))] at h9
          rw [h9]; exact Int32.add_zero _
        · show nI (siz (rep h t l) + siz r + 1) = nI (siz l + siz r + 1) + d
          rw [← nI_add, ← nI_add, ← nI_add, ← nI_add, i2]; ac_rfl
      · have e3 : k < h := by omega
        have er : rep h t (.inner s k v l r) = nd_ l k (rep h t r) := by simp [rep, e, e2]
        rw [sub_r e3] at hk hd
        rw [anc_r e3] at hk
        have hkr : ∀ j ∈ keysT r, j ≠ k := fun j hj q => by have := b4 j hj; omega
        have hz := hk k ((keys_in ..).mpr (Or.inr (Or.inl rfl))) (fun q => hkr k (subT_sub q) rfl)
        rw [if_pos List.mem_cons_self] at hz
        obtain ⟨i1, i2⟩ := rep_co b2 c3 (fun j hj hn => by
          have h9 := hk j ((keys_in ..).mpr (Or.inr (Or.inr hj))) hn
          have e9 : (j ∈ k :: anc h r) ↔ j ∈ anc h r := ⟨fun q => by rcases List.mem_cons.mp q with z | z; exact absurd z (hkr j hj); exact z, fun q => List.mem_cons_of_mem _ q⟩
          simp only [e9] at h9
          exact h9) ht hd
        rw [er]
        refine ⟨⟨?_, ShC_cong (fun j hj => ?_) c2, i1⟩, ?_⟩
        · rw [hz, c1, ← nI_add, ← nI_add, ← nI_add, ← nI_add, i2]; ac_rfl
        · have hjk := b3 j hj
          have h9 := hk j ((keys_in ..).mpr (Or.inl hj)) (fun q => by have := b4 j (subT_sub q); omega)
          rw [if_neg (fun q => by rcases List.mem_cons.mp q with z | z; (· omega); (· have := b4 j (anc_in z); omega))] at h9
          rw [h9]; exact Int32.add_zero _
        · show nI (siz l + siz (rep h t r) + 1) = nI (siz l + siz r + 1) + d
          rw [← nI_add, ← nI_add, ← nI_add, ← nI_add, i2]; ac_rfl
theorem sbG_co {g : Nat → Nd} {p : Option Nat} {h : Nat} {r : Option Nat} {k : Nat} : (sbG g p h r k).2.2.2 = (g k).2.2.2 := by rw [sbG_at]
end
section
/-! THE TREE behind a discharge -/
def mnk : Tr → Nat
  | .leaf => 0
  | .inner _ k _ .leaf _ => k
  | .inner _ _ _ (.inner s2 k2 v2 l2 r2) _ => mnk (.inner s2 k2 v2 l2 r2)
def dmn : Tr → Tr
  | .leaf => .leaf
  | .inner _ _ _ .leaf r => r
  | .inner _ k _ (.inner s2 k2 v2 l2 r2) r => nd_ (dmn (.inner s2 k2 v2 l2 r2)) k r
def joinT : Tr → Tr → Tr
  | .leaf, r => r
  | .inner s k v l r, .leaf => .inner s k v l r
  | .inner s k v l r, .inner s2 k2 v2 l2 r2 => nd_ (.inner s k v l r) (mnk (.inner s2 k2 v2 l2 r2)) (dmn (.inner s2 k2 v2 l2 r2))
def delT (L : Nat) (T : Tr) : Tr := match subT L T with
  | .leaf => T
  | .inner _ _ _ l r => rep L (joinT l r) T
theorem sub_rep (h : Nat) (X T : Tr) : subT h (rep h X T) = subT h X := by
  induction T with
  | leaf => rfl
  | inner s k v l r ihl ihr =>
    simp only [rep]
    split
    · rfl
    · rename_i e
      split
      · rename_i e2; rw [sub_l e2]; exact ihl
      · rename_i e2; rw [sub_r (by omega)]; exact ihr
theorem rep_rep (h : Nat) (Y X T : Tr) : rep h Y (rep h X T) = rep h (rep h Y X) T := by
  induction T with
  | leaf => rfl
  | inner s k v l r ihl ihr =>
    by_cases e : h = k
    · simp [rep, e]
    · by_cases e2 : h < k
      · simp [rep, e, e2, ihl]
      · simp [rep, e, e2, ihr]
theorem anc_rep (h : Nat) (X T : Tr) : anc h (rep h X T) = anc h T ++ anc h X := by
  induction T with
  | leaf => rfl
  | inner s k v l r ihl ihr =>
    by_cases e : h = k
    · simp [rep, anc, e]
    · by_cases e2 : h < k
      · simp [rep, anc, e, e2, ihl]
      · simp [rep, anc, e, e2, ihr]
theorem parF_rep (h : Nat) (X : Tr) : ∀ (T : Tr) (a : Option Nat), parF h a (rep h X T) = parF h (parF h a T) X
  | .leaf, _ => rfl
  | .inner s k v l r, a => by
    by_cases e : h = k
    · simp [rep, parF, e]
    · by_cases e2 : h < k
      · simp [rep, parF, e, e2, parF_rep h X l]
      · simp [rep, parF, e, e2, parF_rep h X r]
theorem kl_rep (h : Nat) (X T : Tr) : kl h (rep h X T) = kl h T ++ kl h X ∧ kr h (rep h X T) = kr h X ++ kr h T := by
  induction T with
  | leaf => simp [rep, kl, kr]
  | inner s k v l r ihl ihr =>
    by_cases e : h = k
    · simp [rep, kl, kr, e]
    · by_cases e2 : h < k
      · simp [rep, kl, kr, e, e2, ihl.1, ihl.2]
      · simp [rep, kl, kr, e, e2, ihr.1, ihr.2]
/-- a place inside a part -/
theorem rep_in {c j : Nat} {X T : Tr} (hb : bst T) (hj : j ∈ keysT (subT c T)) : rep j X T = rep c (rep j X (subT c T)) T := by
  induction T with
  | leaf => cases hj
  | inner s k v l r ihl ihr =>
    obtain ⟨b1, b2, b3, b4⟩ := bst_in.mp hb
    by_cases e : c = k
    · subst e; rw [sub_s]; simp [rep]
    · by_cases e2 : c < k
      · rw [sub_l e2] at hj ⊢
        have h1 := b3 j (subT_sub hj)
        have h2 : ¬ j = k := by omega
        simp only [rep, if_neg h2, if_pos h1, if_neg e, if_pos e2]
        rw [ihl b1 hj]
      · have e3 : k < c := by omega
        rw [sub_r e3] at hj ⊢
        have h1 := b4 j (subT_sub hj)
        have h2 : ¬ j = k := by omega
        have h3 : ¬ j < k := by omega
        simp only [rep, if_neg h2, if_neg h3, if_neg e, if_neg e2]
        rw [ihr b2 hj]
theorem mn_sub {r : Tr} (hb : bst r) (hn : r ≠ .leaf) : ∃ s v rr, subT (mnk r) r = .inner s (mnk r) v .leaf rr ∧ rep (mnk r) rr r = dmn r ∧ keysT r = mnk r :: keysT (dmn r) := by
  induction r with
  | leaf => exact absurd rfl hn
  | inner s k v l r ihl ihr =>
    obtain ⟨b1, b2, b3, b4⟩ := bst_in.mp hb
    cases l with
    | leaf => exact ⟨s, v, r, sub_s, by simp [rep, mnk, dmn], rfl⟩
    | inner s2 k2 v2 l2 r2 =>
      obtain ⟨s3, v3, rr, e1, e2, e3⟩ := ihl b1 (by intro q; cases q)
      have hm : mnk (.inner s2 k2 v2 l2 r2) ∈ keysT (.inner s2 k2 v2 l2 r2 : Tr) := by rw [e3]; exact List.mem_cons_self
      have hlt := b3 _ hm
      refine ⟨s3, v3, rr, ?_, ?_, ?_⟩
      · show subT (mnk (.inner s2 k2 v2 l2 r2)) _ = _
        rw [sub_l hlt]; exact e1
      · show rep (mnk (.inner s2 k2 v2 l2 r2)) rr _ = nd_ (dmn (.inner s2 k2 v2 l2 r2)) k r
        have h2 : ¬ mnk (.inner s2 k2 v2 l2 r2) = k := by omega
        rw [rep, if_neg h2, if_pos hlt, e2]
      · show keysT (.inner s2 k2 v2 l2 r2 : Tr) ++ k :: keysT r = _
        rw [e3]; rfl
theorem keys_join {s L : Nat} {v : Unit} {l r : Tr} (hb : bst (.inner s L v l r)) : keysT (joinT l r) = keysT l ++ keysT r := by
  obtain ⟨b1, b2, b3, b4⟩ := bst_in.mp hb
  cases l with
  | leaf => rfl
  | inner s1 k1 v1 l1 r1 =>
    cases r with
    | leaf => simp [joinT, keysT]
    | inner s2 k2 v2 l2 r2 =>
      obtain ⟨s3, v3, rr, e1, e2, e3⟩ := mn_sub b2 (by intro q; cases q)
      show keysT (.inner s1 k1 v1 l1 r1 : Tr) ++ mnk (.inner s2 k2 v2 l2 r2) :: keysT (dmn (.inner s2 k2 v2 l2 r2)) = _
      rw [e3]
/-- the keys behind a discharge -/
theorem keys_del {L s : Nat} {v : Unit} {l r T : Tr} (hb : bst T) (e : subT L T = .inner s L v l r) : keysT T = (kl L T ++ keysT l) ++ L :: (keysT r ++ kr L T) ∧ keysT (delT L T) = (kl L T ++ keysT l) ++ (keysT r ++ kr L T) := by
  have h1 := keys_split L T
  have h2 := sub_bst (c := L) hb
  rw [e] at h1 h2
  refine ⟨by rw [h1]; simp [keysT], ?_⟩
  unfold delT
  rw [e]
  show keysT (rep L (joinT l r) T) = _
  rw [keys_rep, keys_join h2]
  simp
theorem del_bst {L s : Nat} {v : Unit} {l r T : Tr} (hb : bst T) (e : subT L T = .inner s L v l r) : bst (delT L T) ∧ siz (delT L T) + 1 = siz T ∧ (∀ j, j ∈ keysT (delT L T) ↔ j ∈ keysT T ∧ j ≠ L) := by
  obtain ⟨h1, h2⟩ := keys_del hb e
  have hp : (keysT T).Pairwise (· < ·) := hb
  refine ⟨?_, ?_, fun j => ?_⟩
  · show (keysT (delT L T)).Pairwise (· < ·)
    rw [h2]
    rw [h1] at hp
    exact hp.sublist (List.Sublist.append_left (List.sublist_cons_self _ _) _)
  · rw [← keys_len, ← keys_len, h1, h2]; simp; omega
  · rw [h1, List.pairwise_append] at hp
    obtain ⟨-, h4, h5⟩ := hp
    have h6 := (List.pairwise_cons.mp h4).1
    rw [h1, h2]
    generalize kl L T ++ keysT l = A at *
    generalize keysT r ++ kr L T = B at *
    simp only [List.mem_append, List.mem_cons]
    constructor
    · rintro (q | q)
      · exact ⟨Or.inl q, fun z => by have := h5 j q L List.mem_cons_self; omega⟩
      · exact ⟨Or.inr (Or.inr q), fun z => by have := h6 j q; omega⟩
    · rintro ⟨q | q | q, hne⟩
      · exact Or.inl q
      · exact absurd q hne
      · exact Or.inr q
/-- one goes, with somebody on one side at most -/
theorem delG {g : Nat → Nd} {L : Nat} {t T : Tr} {b : Option Nat} (hb : bst T) (hs : ShP g none T) (hc : ShC g T) (hbt : bst t) (ht : ShP g b t) (htc : ShC g t) (hk : ∀ j ∈ keysT t, j ∈ keysT (subT L T)) (hz : siz t + 1 = siz (subT L T)) : ShP (sbG (addG (-1) (anc L T).reverse g) (parF L none T) L (root t)) none (rep L t T) ∧ ShC (sbG (addG (-1) (anc L T).reverse g) (parF L none T) L (root t)) (rep L t T) := by
  have hn : (anc L T).reverse.Nodup := List.pairwise_reverse.mpr ((anc_nodup hb).imp (fun h => h.symm))
  obtain ⟨k1, k2⟩ := kl_sub (h := L) hb
  refine ⟨SB hb hbt hs (ShP_cong (fun k _ => addG_ptr hn) ht) (fun k _ _ => addG_ptr hn) (fun j hj => ⟨fun q => ?_, fun q => ?_⟩), ?_⟩
  · have := k1 j q j (hk j hj); omega
  · have := k2 j (hk j hj) j q; omega
  · refine (rep_co (d := -1) hb hc (fun k hk1 hk2 => ?_) (ShC_cong (fun k hk1 => ?_) htc) ?_).1
    · rw [sbG_co, addG_co hn]
      simp only [List.mem_reverse]
    · rw [sbG_co, addG_co hn, if_neg]
      · exact Int32.add_zero _
      · intro q
        rcases anc_out (List.mem_reverse.mp q) with z | z
        · have := k1 k z k (hk k hk1); omega
        · have := k2 k (hk k hk1) k z; omega
    · rw [← hz]; exact (pk_m1 _).symm
end
section
/-! ONE GOES, with somebody on both sides -/
theorem rep_mem {h j : Nat} {t T : Tr} (hj : j ∈ keysT (rep h t T)) : j ∈ kl h T ∨ j ∈ keysT t ∨ j ∈ kr h T := by
  rw [keys_rep, List.mem_append, List.mem_append] at hj
  rcases hj with (q | q) | q
  · exact Or.inl q
  · exact Or.inr (Or.inl q)
  · exact Or.inr (Or.inr q)
theorem delB1 {g : Nat → Nd} {L s : Nat} {v : Unit} {l r T : Tr} (hb : bst T) (hs : ShP g none T) (hc : ShC g T) (e : subT L T = .inner s L v l r) (hr : r ≠ .leaf) : ∃ rr, (g (mnk r)).1 = parF (mnk r) none T ∧ (g (mnk r)).2.1 = none ∧ (g (mnk r)).2.2.1 = root rr ∧ mnk r ∈ keysT T ∧ ShP (sbG (addG (-1) (anc (mnk r) T).reverse g) (parF (mnk r) none T) (mnk r) (root rr)) none (rep (mnk r) rr T) ∧ ShC (sbG (addG (-1) (anc (mnk r) T).reverse g) (parF (mnk r) none T) (mnk r) (root rr)) (rep (mnk r) rr T) ∧ bst (rep (mnk r) rr T) ∧ subT L (rep (mnk r) rr T) = nd_ l L (dmn r) ∧ (∀ j, j ∈ keysT (rep (mnk r) rr T) → j ∈ keysT T ∧ j ≠ mnk r) ∧ rep L (nd_ l (mnk r) (dmn r)) (rep (mnk r) rr T) = rep L (nd_ l (mnk r) (dmn r)) T ∧ root (rep (mnk r) rr T) = sbT (root T) (parF (mnk r) none T) (root rr) ∧ siz (dmn r) + 1 = siz r := by
  have hbs := sub_bst (c := L) hb
  rw [e] at hbs
  obtain ⟨b1, b2, b3, b4⟩ := bst_in.mp hbs
  obtain ⟨s3, v3, rr, e1, e2, e3⟩ := mn_sub b2 hr
  have hmr : mnk r ∈ keysT r := by rw [e3]; exact List.mem_cons_self
  have hms : mnk r ∈ keysT (subT L T) := by rw [e, keys_in]; exact Or.inr (Or.inr hmr)
  have hmL := b4 _ hmr
  have hmT : mnk r ∈ keysT T := subT_sub hms
  have esub : subT (mnk r) T = .inner s3 (mnk r) v3 .leaf rr := by
    rw [(anc_sub hb hms).2, e, sub_r hmL]; exact e1
  have h1 := ShP_sub (h := mnk r) hs
  have h2 := ShC_sub (h := mnk r) hc
  have h3 := sub_bst (c := mnk r) hb
  rw [esub] at h1 h2 h3
  obtain ⟨p1, p2, p3, p4, p5⟩ := h1
  obtain ⟨q1, q2, q3⟩ := h2
  obtain ⟨-, bb2, -, bb4⟩ := bst_in.mp h3
  have hsub : ∀ j ∈ keysT rr, j ∈ keysT (subT (mnk r) T) := fun j hj => by rw [esub, keys_in]; exact Or.inr (Or.inr hj)
  have hz : siz rr + 1 = siz (subT (mnk r) T) := by rw [esub]; simp [siz]
  obtain ⟨d1, d2⟩ := delG hb hs hc bb2 p5 q3 hsub hz
  obtain ⟨k1, k2⟩ := kl_sub (h := mnk r) hb
  have hbr : bst (rep (mnk r) rr T) := bst_rep hb bb2 (fun a ha b hb => k1 a ha b (hsub b hb)) (fun a ha b hb => k2 a (hsub a ha) b hb)
  have hin := rep_in (X := rr) hb hms
  have hnode : rep (mnk r) rr (subT L T) = nd_ l L (dmn r) := by
    rw [e]
    have z1 : ¬ mnk r = L := by omega
    have z2 : ¬ mnk r < L := by omega
    simp only [rep, if_neg z1, if_neg z2]
    rw [e2]
  rw [hnode] at hin
  refine ⟨rr, p1, p2, p3, hmT, d1, d2, hbr, ?_, fun j hj => ?_, ?_, sbT_root.symm, ?_⟩
  · rw [hin, sub_rep]; exact sub_s
  · rcases rep_mem hj with q | q | q
    · refine ⟨((out_iff hb).mpr (Or.inl q)).1, fun z => ?_⟩
      have := kl_lt hb j q; omega
    · exact ⟨subT_sub (hsub j q), fun z => by have := bb4 j q; omega⟩
    · refine ⟨((out_iff hb).mpr (Or.inr q)).1, fun z => ?_⟩
      have := kr_gt hb j q; omega
  · rw [hin, rep_rep]
    congr 1
    simp [rep]
  · rw [← keys_len, ← keys_len, e3]; rfl
theorem delB2 {gB g3 : Nat → Nd} {L m s : Nat} {v : Unit} {l r1 T1 : Tr} (hb : bst T1) (hs : ShP gB none T1) (hc : ShC gB T1) (e : subT L T1 = .inner s L v l r1) (hl : l ≠ .leaf) (hm : m ∉ keysT T1) (hLm : L < m) (hmr : ∀ j ∈ keysT r1, m < j) (h3 : ∀ k, k ≠ m → g3 k = gB k) (h3l : (g3 m).2.1 = none) (h3r : (g3 m).2.2.1 = none) (h3c : (g3 m).2.2.2 = nI (siz l + siz r1 + 1)) :
    (sbG g3 (parF L none T1) L (some m) L).2.1 = root l ∧ (hoG (sbG g3 (parF L none T1) L (some m)) (root l) m L).2.2.1 = root r1 ∧ ShP (hoG (hoG (sbG g3 (parF L none T1) L (some m)) (root l) m) (root r1) m) none (rep L (nd_ l m r1) T1) ∧ ShC (hoG (hoG (sbG g3 (parF L none T1) L (some m)) (root l) m) (root r1) m) (rep L (nd_ l m r1) T1) ∧ sbT (root T1) (parF L none T1) (some m) = root (rep L (nd_ l m r1) T1) := by
  have hbs := sub_bst (c := L) hb
  have hs1 := ShP_sub (h := L) hs
  have hc1 := ShC_sub (h := L) hc
  rw [e] at hbs hs1 hc1
  obtain ⟨b1, b2, b3, b4⟩ := bst_in.mp hbs
  obtain ⟨p1, p2, p3, p4, p5⟩ := hs1
  obtain ⟨c1, c2, c3⟩ := hc1
  obtain ⟨k1, k2⟩ := kl_sub (h := L) hb
  rw [e] at k1 k2
  have inl : ∀ j ∈ keysT l, j ∈ keysT (.inner s L v l r1 : Tr) := fun j hj => (keys_in ..).mpr (Or.inl hj)
  have inr : ∀ j ∈ keysT r1, j ∈ keysT (.inner s L v l r1 : Tr) := fun j hj => (keys_in ..).mpr (Or.inr (Or.inr hj))
  have inL : L ∈ keysT (.inner s L v l r1 : Tr) := (keys_in ..).mpr (Or.inr (Or.inl rfl))
  have toT : ∀ j ∈ keysT (.inner s L v l r1 : Tr), j ∈ keysT T1 := fun j hj => subT_sub (h := L) (by rw [e]; exact hj)
  have hLm' : ¬ L = m := by omega
  have hmL' : ¬ m = L := by omega
  obtain ⟨cl, hcl⟩ : ∃ cl, root l = some cl := by
    cases l with
    | leaf => exact absurd rfl hl
    | inner s2 kk2 v2 l2 r2 => exact ⟨kk2, rfl⟩
  have hclm := root_in hcl
  have hclL := b3 cl hclm
  have hp : ∀ j ∈ keysT (.inner s L v l r1 : Tr), ¬ parF L none T1 = some j := fun j hj q => by
    rcases parF_out q with w | w
    · have := k1 j w j hj; omega
    · have := k2 j hj j w; omega
  have hpm : ¬ parF L none T1 = some m := fun q => hm (parF_mem q)
  have hpcl := hp cl (inl cl hclm)
  have hpL := hp L inL
  have e1 : (sbG g3 (parF L none T1) L (some m) L).2.1 = root l := by
    rw [sbG_at]
    simp only [hpL, false_and, if_false]
    rw [h3 L hLm', p2]
  -- the soldiers, each, behind all
  have hE : ∀ k, (hoG (hoG (sbG g3 (parF L none T1) L (some m)) (root l) m) (root r1) m k).1 = (if root r1 = some k then some m else if root l = some k then some m else if m = k then parF L none T1 else (g3 k).1) ∧
      (hoG (hoG (sbG g3 (parF L none T1) L (some m)) (root l) m) (root r1) m k).2.1 = (if m = k then root l else if parF L none T1 = some k ∧ L < k then some m else (g3 k).2.1) ∧
      (hoG (hoG (sbG g3 (parF L none T1) L (some m)) (root l) m) (root r1) m k).2.2.1 = (if m = k then root r1 else if parF L none T1 = some k ∧ ¬ L < k then some m else (g3 k).2.2.1) ∧
      (hoG (hoG (sbG g3 (parF L none T1) L (some m)) (root l) m) (root r1) m k).2.2.2 = (g3 k).2.2.2 := by
    intro k
    have hclm2 : cl < m := by omega
    rw [hcl]
    rcases hrr : root r1 with _ | cr
    · show (hoG (sbG g3 (parF L none T1) L (some m)) (some cl) m k).1 = _ ∧ (hoG (sbG g3 (parF L none T1) L (some m)) (some cl) m k).2.1 = _ ∧ (hoG (sbG g3 (parF L none T1) L (some m)) (some cl) m k).2.2.1 = _ ∧ (hoG (sbG g3 (parF L none T1) L (some m)) (some cl) m k).2.2.2 = _
      rw [hoG_eq, sbG_at, sbG_at]
      by_cases hmk : m = k
      · subst hmk
        have z1 : ¬ cl = m := by omega
        simp [z1, hpm, hclm2, h3r]
      · simp [hmk]
    · have hcr := hmr cr (root_in hrr)
      rw [hoG_eq, hoG_eq, sbG_at, sbG_at, sbG_at]
      by_cases hmk : m = k
      · subst hmk
        have z1 : ¬ cl = m := by omega
        have z2 : ¬ cr = m := by omega
        have z3 : ¬ cr < m := by omega
        simp [z1, z2, z3, hpm, hclm2, h3r]
      · simp [hmk]
  refine ⟨e1, ?_, ?_, ?_, sbT_root (t := nd_ l m r1)⟩
  · rw [hcl, hoG_eq, sbG_at, sbG_at]
    simp only [Option.some.injEq, hmL', hpL, false_and, if_false]
    rw [h3 L hLm', p3]
  · refine rep_shape hb (fun b q => by cases q) hs (fun k hk hn => ?_) ?_
    · have hkm : ¬ m = k := fun q => hm (q ▸ hk)
      obtain ⟨f1, f2, f3, -⟩ := hE k
      have hkl : ¬ root l = some k := fun q => hn (by rw [e]; exact inl k (root_in q))
      have hkr : ¬ root r1 = some k := fun q => hn (by rw [e]; exact inr k (root_in q))
      rw [f1, f2, f3, if_neg hkr, if_neg hkl, if_neg hkm, if_neg hkm, if_neg hkm, h3 k (fun q => hkm q.symm)]
      refine ⟨rfl, fun hq => ?_, fun hq hlt => ?_, fun hq hlt => ?_⟩
      · rw [if_neg (fun q => hq q.1), if_neg (fun q => hq q.1)]; exact ⟨rfl, rfl⟩
      · rw [if_pos ⟨hq, hlt⟩, if_neg (fun q => q.2 hlt)]; exact ⟨rfl, rfl⟩
      · rw [if_neg (fun q => hlt q.2), if_pos ⟨hq, hlt⟩]; exact ⟨rfl, rfl⟩
    · obtain ⟨f1, f2, f3, -⟩ := hE m
      have zm1 : ¬ root r1 = some m := fun q => hm (toT m (inr m (root_in q)))
      have zm2 : ¬ root l = some m := fun q => hm (toT m (inl m (root_in q)))
      refine ⟨?_, ?_, ?_, ShP_under b1 (fun k hk => ?_) p4, ShP_under b2 (fun k hk => ?_) p5⟩
      · rw [f1, if_neg zm1, if_neg zm2, if_pos rfl]
      · rw [f2, if_pos rfl]
      · rw [f3, if_pos rfl]
      · have hkm : ¬ m = k := fun q => hm (q ▸ toT k (inl k hk))
        obtain ⟨f1, f2, f3, -⟩ := hE k
        have zr : ¬ root r1 = some k := fun q => by have := b3 k hk; have := b4 k (root_in q); omega
        have zp := hp k (inl k hk)
        have x1 : ¬ (parF L none T1 = some k ∧ L < k) := fun q => zp q.1
        have x2 : ¬ (parF L none T1 = some k ∧ ¬ L < k) := fun q => zp q.1
        rw [f1, f2, f3, if_neg zr, if_neg hkm, if_neg hkm, if_neg hkm, if_neg x1, if_neg x2, h3 k (fun q => hkm q.symm)]
        exact ⟨fun q => by rw [if_neg q], fun q => by rw [if_pos q], rfl, rfl⟩
      · have hkm : ¬ m = k := fun q => hm (q ▸ toT k (inr k hk))
        obtain ⟨f1, f2, f3, -⟩ := hE k
        have zl : ¬ root l = some k := fun q => by have := b4 k hk; have := b3 k (root_in q); omega
        have zp := hp k (inr k hk)
        have x1 : ¬ (parF L none T1 = some k ∧ L < k) := fun q => zp q.1
        have x2 : ¬ (parF L none T1 = some k ∧ ¬ L < k) := fun q => zp q.1
        rw [f1, f2, f3, if_neg zl, if_neg hkm, if_neg hkm, if_neg hkm, if_neg x1, if_neg x2, h3 k (fun q => hkm q.symm)]
        exact ⟨fun q => by rw [if_neg q], fun q => by rw [if_pos q], rfl, rfl⟩
  · refine (rep_co (d := 0) hb hc (fun k hk hn => ?_) ?_ ?_).1
    · have hkm : ¬ m = k := fun q => hm (q ▸ hk)
      rw [(hE k).2.2.2, h3 k (fun q => hkm q.symm)]
      split <;> exact (Int32.add_zero _).symm
    · refine ⟨?_, ShC_cong (fun k hk => ?_) c2, ShC_cong (fun k hk => ?_) c3⟩
      · rw [(hE m).2.2.2]; exact h3c
      · rw [(hE k).2.2.2, h3 k (fun q => hm (q ▸ toT k (inl k hk)))]
      · rw [(hE k).2.2.2, h3 k (fun q => hm (q ▸ toT k (inr k hk)))]
    · rw [e]; exact (Int32.add_zero _).symm
end
section
/-! WRITERS of the class: the line, and the ranks behind a discharge -/
set_option maxHeartbeats 4000000 in
set_option maxRecDepth 100000 in
/-- Soldier(h): the new cell q, behind a world ws -/
theorem c_X0_init (l : Launch) {D : va_G} {cA cZ cI : ClassId} {ws : va_W} {q0 h : Nat} {A : Nat → Prop} : Met l yX0_init wsX0_init ({ frames := 1, cells := 0, slots := 0, locals := 40 } : Room) (PcM D (tysA cA cZ cI) A (ws ++ [(q0, .inr (0, [.int 0, .null, .null, .null, .int 0]))]) [.ref q0, .int (nI h)]) (va_Qv (S := Unit) (fun _ => True) (fun _ => BM D (tysA cA cZ cI) A (ws ++ [(q0, .inr (0, [.int (nI h), .null, .null, .null, .int (nI 1)]))])) A) 0 0 A := by
  refine Met.ofW (cc := cX0_init) (maxL := 2) (ret := none) (by decide) rfl ?_
  intro p e s m args below meth c s₁ B hml hv
  obtain ⟨rfl, hA, hP, hG, hD⟩ := hv
  have hx := B.exec
  have hb := B.bytes
  have hr := B.returns
  have hts := atoms_spec (ws := wsX0_init) B.pre
  have hown : s.vm.findClass RX0 = some m.cls := findClass_of_methodNamed B.named
  have hlocks := B.notSynchronized
  have hl := lv_entry ([.ref q0, .int (nI h)]) (n := 2) (Nat.le_of_ble_eq_true rfl)
  rw [lg_entry_eq]
  generalize (lg_sl ([.ref q0, .int (nI h)]) ++ List.replicate (2 - (lg_sl ([.ref q0, .int (nI h)])).length) Slot.unset).toArray = ls at hl ⊢
  have hl : lv_has ls 2 [(0, .ref q0), (1, .int (nI h))] := hl
  have hS : va_S A s.heap s.heap [] := va_S.rf
  have hin : meth.name = "<init>" := (name_of_methodNamed B.named B.method).1
  have hix : ∀ f : List Value, (ws ++ [(q0, (.inr (0, f) : va_E))])[ws.length]? = some (q0, .inr (0, f)) := fun f => by simp
  have hst : ∀ f f' : List Value, (ws ++ [(q0, (.inr (0, f) : va_E))]).set ws.length (q0, .inr (0, f')) = ws ++ [(q0, .inr (0, f'))] := fun f f' => by simp
  refine lv_aload_n hx hb dX0_init_0 rfl (lv_at hl 0 rfl) ?_
  refine W.objInit hx hb hown (hts (.methodLink RX0 1 objectInit) (by decide +kernel)) (hts (.instanceMethod objectInit) (by decide +kernel)) (hts _ (List.mem_of_getElem? (l := wsX0_init) (i := 3) rfl)) rfl (by rw [hml]; exact hl.1) rfl dX0_init_1 (Nat.le_of_ble_eq_true rfl) (Nat.le_of_ble_eq_true rfl) ?_
  refine W.eq (g2 := F0 m 4 ls []) rfl ?_
  refine lv_aload_n hx hb dX0_init_4 rfl (lv_at hl 0 rfl) ?_
  refine lv_iload_n hx hb dX0_init_5 rfl (lv_at hl 1 rfl) ?_
  refine va_putF (D := D) (ci := 0) (v := .int (nI h)) (ty := .int) (C := RX0) (T := TX0) (N := 5) hx hb hts (by decide +kernel) tyX0 tyX0_ok nmX0 hown hG.1 hP hD hS ws.length (hix _) rfl 0 (by decide) (hts (.fieldLink RX0 7 "LopsidedRanks$Soldier" "height" "I") (by decide +kernel)) (fun _ h9 => h9) rfl hin rfl (by decide +kernel) rfl rfl (Nat.le_of_ble_eq_true rfl) dX0_init_6 (fun H locs hP hD hS => ?_)
  rw [hst] at hP hD
  have hP : va_P D vwCl (ws ++ [(q0, .inr (0, [.int (nI h), .null, .null, .null, .int 0]))]) H := hP
  have hD : va_D A (ws ++ [(q0, .inr (0, [.int (nI h), .null, .null, .null, .int 0]))]) := hD
  refine lv_aload_n hx hb dX0_init_9 rfl (lv_at hl 0 rfl) ?_
  refine lv_iconst (v := nI 1) hx hb dX0_init_10 (by decide) ?_
  refine va_put (D := D) (ci := 0) (v := .int (nI 1)) (ty := .int) (C := RX0) (T := TX0) (N := 5) hx hb hts (by decide +kernel) tyX0 tyX0_ok nmX0 hown hG.1 hP hD hS ws.length (hix _) rfl 4 (by decide) (hts (.fieldLink RX0 13 "LopsidedRanks$Soldier" "company" "I") (by decide +kernel)) (fun _ h9 => h9) rfl (by decide +kernel) rfl rfl (Nat.le_of_ble_eq_true rfl) dX0_init_11 (fun H locs hP hD hS => ?_)
  rw [hst] at hP hD
  have hP : va_P D vwCl (ws ++ [(q0, .inr (0, [.int (nI h), .null, .null, .null, .int (nI 1)]))]) H := hP
  have hD : va_D A (ws ++ [(q0, .inr (0, [.int (nI h), .null, .null, .null, .int (nI 1)]))]) := hD
  exact W.vret hx hb hr (fun t ht hW => ⟨⟨(), rfl, trivial, by rw [ht]; exact hP, hG.moved hW, hD⟩, hS.F ht⟩) hS.2.2 dX0_init_14

theorem li_up {xs ys : List Nat} {q : Nat} (hq : q < ys.length) : va_up (fun i => if i ≤ xs.length + (q + 1) then (xs ++ ys)[i]? else (xs ++ ys)[i - 1]?) (xs.length + (q + 1)) ((xs ++ ys)[xs.length + (q + 1) - 1]?) = (fun i => if i ≤ xs.length + q then (xs ++ ys)[i]? else (xs ++ ys)[i - 1]?) := by
  funext i
  by_cases e : i = xs.length + (q + 1)
  · subst e
    rw [va_up_self, if_neg (by omega)]
  · rw [va_up_ne _ _ e]
    by_cases e2 : i ≤ xs.length + q
    · rw [if_pos e2, if_pos (by omega)]
    · rw [if_neg e2, if_neg (by omega)]
theorem li_end {xs ys : List Nat} {h : Nat} : va_up (fun i => if i ≤ xs.length then (xs ++ ys)[i]? else (xs ++ ys)[i - 1]?) xs.length (some h) = (fun i => (xs ++ h :: ys)[i]?) := by
  funext i
  by_cases e : i = xs.length
  · subst e; rw [va_up_self]; simp
  · rw [va_up_ne _ _ e]
    by_cases e2 : i < xs.length
    · rw [if_pos (by omega), List.getElem?_append_left e2, List.getElem?_append_left e2]
    · rw [if_neg (by omega), List.getElem?_append_right (by omega), List.getElem?_append_right (by omega)]
      obtain ⟨j, rfl⟩ : ∃ j, i = xs.length + (j + 1) := ⟨i - xs.length - 1, by omega⟩
      rw [show xs.length + (j + 1) - 1 - xs.length = j by omega, show xs.length + (j + 1) - xs.length = j + 1 by omega, List.getElem?_cons_succ]
set_option maxHeartbeats 4000000 in
set_option maxRecDepth 100000 in
theorem L_X1_insertIntoLine {D : va_G} {cA cZ cI : ClassId} {x ln : Nat} {tp : Option Nat} {mo dr ds : Int32} {K : List Nat} {ad : Nat → Nat} {g : Nat → Nd} {p : Program} {l : Launch} {e : Env} {R : Room} {s : State} {m : MethodId} {args : Array Value} {below : List Frame} {meth : Method} {c : Code} {Q : State → Prop} {cells slots : Nat} {A : Nat → Prop} {H0 : Heap} (hx : p.tables.exec = Jvm.exec) (hb : c.code = cX1_insertIntoLine) (hml : c.maxLocals = 3) (hts : ∀ w ∈ wsX1_insertIntoLine, w.before args s = true) (hown : s.vm.findClass RX1 = some m.cls) (hG : GK D (tysA cA cZ cI) s) (hR : 1 ≤ R.frames ∧ 40 ≤ R.locals) (hC : cells ≤ R.cells ∧ slots ≤ R.slots) {xs ys : List Nat} {h : Nat} (hh : h ∈ K) (hhn : h < 1000) (hx1 : ∀ j ∈ xs, j < h) (hy1 : ∀ j ∈ ys, h < j) (hxK : ∀ j ∈ xs ++ ys, j ∈ K ∧ j < 1000) (hlen : xs.length + ys.length < 150) : ∀ {q : Nat} {H : Heap} {locs : List Loc}, q ≤ ys.length → va_P D vwCl (cw x ln cA (nI (xs.length + ys.length)) tp mo dr ds (fun i => if i ≤ xs.length + q then (xs ++ ys)[i]? else (xs ++ ys)[i - 1]?) K ad g) H → va_D A (cw x ln cA (nI (xs.length + ys.length)) tp mo dr ds (fun i => if i ≤ xs.length + q then (xs ++ ys)[i]? else (xs ++ ys)[i - 1]?) K ad g) → va_S A H0 H locs → (∀ H locs, va_P D vwCl (cw x ln cA (nI (xs.length + ys.length)) tp mo dr ds (fun i => if i ≤ xs.length then (xs ++ ys)[i]? else (xs ++ ys)[i - 1]?) K ad g) H → va_D A (cw x ln cA (nI (xs.length + ys.length)) tp mo dr ds (fun i => if i ≤ xs.length then (xs ++ ys)[i]? else (xs ++ ys)[i - 1]?) K ad g) → va_S A H0 H locs → ∀ ls, lv_has ls 3 [(2, .int (nI (xs.length))), (0, .ref x), (1, .ref (ad h))] → W p l e R s m args below meth c H locs cells slots Q (F0 m 57 ls [])) → ∀ ls, lv_has ls 3 [(2, .int (nI (xs.length + q))), (0, .ref x), (1, .ref (ad h))] → W p l e R s m args below meth c H locs cells slots Q (F0 m 15 ls []) := by
  intro q
  induction q with
  | zero =>
    intro H locs hq hP hD hS kk ls hl
    simp only [Nat.add_zero] at hP hD hl
    refine lv_iload_n hx hb dX1_insertIntoLine_15 rfl (lv_at hl 0 rfl) ?_
    refine lv_if_le (tgt := 57) hx hb dX1_insertIntoLine_16 (by decide) (fun c16 => ?_) (fun c16 => ?_)
    · replace c16 := (zr_le0 (by omega)).mp c16
      exact kk _ _ hP hD hS _ hl
    · replace c16 := (not_congr (zr_le0 (by omega))).mp c16
      obtain ⟨z, hz⟩ : ∃ z, (xs ++ ys)[xs.length - 1]? = some z := ⟨_, List.getElem?_eq_getElem (by simp; omega)⟩
      have hzx : z ∈ xs := by rw [List.getElem?_append_left (by omega)] at hz; exact List.mem_of_getElem? hz
      have hzl := hx1 z hzx
      refine lv_aload_n hx hb dX1_insertIntoLine_19 rfl (lv_at hl 1 rfl) ?_
      refine va_get (D := D) (ci := 1) (v := .ref ln) (C := RX1) (T := TX1) (N := 6) hx hb hts (by decide +kernel) hown hG.1 hP 0 cw_x rfl 0 (by decide) (hts (.fieldLink RX1 11 "LopsidedRanks" "line" "[LLopsidedRanks$Soldier;") (by decide +kernel)) (fun _ h9 => h9) rfl dX1_insertIntoLine_20 ?_
      refine lv_iload_n hx hb dX1_insertIntoLine_23 rfl (lv_at hl 0 rfl) ?_
      refine lv_iconst (v := nI 1) hx hb dX1_insertIntoLine_24 (by decide) ?_
      refine lv_isub hx hb dX1_insertIntoLine_25 ?_
      refine zr_eqi (pk_sub (a := xs.length) (b := 1) (by omega)) ?_
      refine zr_aldq hx hb hG.1 hP 1 0 cw_l rfl (k := xs.length - 1) (by omega) (Nat.le_of_ble_eq_true rfl) dX1_insertIntoLine_26 ?_
      rw [if_pos (show xs.length - 1 ≤ xs.length by omega), hz]
      refine vp_callSi (va_Run.run (va_runS (As := [.ref (ad z)]) (rest := []) ⟨hx, hb, hml, hown, hts⟩ (c_X1_heightOf l (o := some z) (fun k e => by cases e; exact (hxK z (List.mem_append_left _ hzx)).1)) (va_cwS 1 hts gX1_insertIntoLine_X1_heightOf rfl rfl rfl (by decide +kernel) ⟨Nat.le_trans (Nat.le_of_ble_eq_true rfl) hR.1, Nat.le_trans (Nat.le_of_ble_eq_true rfl) hR.2⟩) ⟨PcR.blind, PcR.at hP hG⟩ rfl rfl hl.1 rfl (lv_room (Nat.le_of_ble_eq_true rfl)) dX1_insertIntoLine_27 ⟨hC.1, hC.2⟩)) (fun r27 q27 => ?_)
      subst q27
      refine zr_eqi (show enc (some z) = nI z from rfl) ?_
      refine lv_aload_n hx hb dX1_insertIntoLine_30 rfl (lv_at hl 2 rfl) ?_
      obtain ⟨i0, hi0⟩ := cw_s (x := x) (ln := ln) (cA := cA) (n := nI (xs.length + ys.length)) (tp := tp) (mo := mo) (dr := dr) (ds := ds) (li := fun i => if i ≤ xs.length then (xs ++ ys)[i]? else (xs ++ ys)[i - 1]?) (ad := ad) (g := g) (hh : h ∈ K)
      refine va_get (D := D) (ci := 0) (v := .int (nI h)) (C := RX0) (T := TX0) (N := 5) hx hb hts (by decide +kernel) hown hG.1 hP i0 hi0 rfl 0 (by decide) (hts (.fieldLink RX1 100 "LopsidedRanks$Soldier" "height" "I") (by decide +kernel)) (fun _ h9 => h9) rfl dX1_insertIntoLine_31 ?_
      refine lv_icmp_le (tgt := 57) hx hb dX1_insertIntoLine_34 (by decide) (fun c34 => ?_) (fun c34 => ?_)
      · rw [nI_leI (by omega) (by omega)] at c34
        exact kk _ _ hP hD hS _ hl
      · rw [nI_leI (by omega) (by omega)] at c34
        exact absurd c34 (by omega)
  | succ q ih =>
    intro H locs hq hP hD hS kk ls hl
    obtain ⟨z, hz⟩ : ∃ z, (xs ++ ys)[xs.length + (q + 1) - 1]? = some z := ⟨_, List.getElem?_eq_getElem (by simp; omega)⟩
    have hzy : z ∈ ys := by
      rw [List.getElem?_append_right (by omega)] at hz
      exact List.mem_of_getElem? hz
    obtain ⟨hzK, hzn⟩ := hxK z (List.mem_append_right _ hzy)
    have hzh := hy1 z hzy
    refine lv_iload_n hx hb dX1_insertIntoLine_15 rfl (lv_at hl 0 rfl) ?_
    refine lv_if_le (tgt := 57) hx hb dX1_insertIntoLine_16 (by decide) (fun c16 => ?_) (fun c16 => ?_)
    · replace c16 := (zr_le0 (by omega)).mp c16
      exact absurd c16 (by omega)
    · replace c16 := (not_congr (zr_le0 (by omega))).mp c16
      refine lv_aload_n hx hb dX1_insertIntoLine_19 rfl (lv_at hl 1 rfl) ?_
      refine va_get (D := D) (ci := 1) (v := .ref ln) (C := RX1) (T := TX1) (N := 6) hx hb hts (by decide +kernel) hown hG.1 hP 0 cw_x rfl 0 (by decide) (hts (.fieldLink RX1 11 "LopsidedRanks" "line" "[LLopsidedRanks$Soldier;") (by decide +kernel)) (fun _ h9 => h9) rfl dX1_insertIntoLine_20 ?_
      refine lv_iload_n hx hb dX1_insertIntoLine_23 rfl (lv_at hl 0 rfl) ?_
      refine lv_iconst (v := nI 1) hx hb dX1_insertIntoLine_24 (by decide) ?_
      refine lv_isub hx hb dX1_insertIntoLine_25 ?_
      refine zr_eqi (pk_sub (a := xs.length + (q + 1)) (b := 1) (by omega)) ?_
      refine zr_aldq hx hb hG.1 hP 1 0 cw_l rfl (k := (xs.length + (q + 1)) - 1) (by omega) (Nat.le_of_ble_eq_true rfl) dX1_insertIntoLine_26 ?_
      rw [if_pos (show xs.length + (q + 1) - 1 ≤ xs.length + (q + 1) by omega), hz]
      refine vp_callSi (va_Run.run (va_runS (As := [.ref (ad z)]) (rest := []) ⟨hx, hb, hml, hown, hts⟩ (c_X1_heightOf l (o := some z) (fun k e => by cases e; exact hzK)) (va_cwS 1 hts gX1_insertIntoLine_X1_heightOf rfl rfl rfl (by decide +kernel) ⟨Nat.le_trans (Nat.le_of_ble_eq_true rfl) hR.1, Nat.le_trans (Nat.le_of_ble_eq_true rfl) hR.2⟩) ⟨PcR.blind, PcR.at hP hG⟩ rfl rfl hl.1 rfl (lv_room (Nat.le_of_ble_eq_true rfl)) dX1_insertIntoLine_27 ⟨hC.1, hC.2⟩)) (fun r27 q27 => ?_)
      subst q27
      refine zr_eqi (show enc (some z) = nI z from rfl) ?_
      refine lv_aload_n hx hb dX1_insertIntoLine_30 rfl (lv_at hl 2 rfl) ?_
      obtain ⟨i0, hi0⟩ := cw_s (x := x) (ln := ln) (cA := cA) (n := nI (xs.length + ys.length)) (tp := tp) (mo := mo) (dr := dr) (ds := ds) (li := fun i => if i ≤ xs.length + (q + 1) then (xs ++ ys)[i]? else (xs ++ ys)[i - 1]?) (ad := ad) (g := g) (hh : h ∈ K)
      refine va_get (D := D) (ci := 0) (v := .int (nI h)) (C := RX0) (T := TX0) (N := 5) hx hb hts (by decide +kernel) hown hG.1 hP i0 hi0 rfl 0 (by decide) (hts (.fieldLink RX1 100 "LopsidedRanks$Soldier" "height" "I") (by decide +kernel)) (fun _ h9 => h9) rfl dX1_insertIntoLine_31 ?_
      refine lv_icmp_le (tgt := 57) hx hb dX1_insertIntoLine_34 (by decide) (fun c34 => ?_) (fun c34 => ?_)
      · rw [nI_leI (by omega) (by omega)] at c34
        exact absurd c34 (by omega)
      · rw [nI_leI (by omega) (by omega)] at c34
        refine lv_aload_n hx hb dX1_insertIntoLine_37 rfl (lv_at hl 1 rfl) ?_
        refine va_get (D := D) (ci := 1) (v := .ref ln) (C := RX1) (T := TX1) (N := 6) hx hb hts (by decide +kernel) hown hG.1 hP 0 cw_x rfl 0 (by decide) (hts (.fieldLink RX1 11 "LopsidedRanks" "line" "[LLopsidedRanks$Soldier;") (by decide +kernel)) (fun _ h9 => h9) rfl dX1_insertIntoLine_38 ?_
        refine lv_iload_n hx hb dX1_insertIntoLine_41 rfl (lv_at hl 0 rfl) ?_
        refine lv_aload_n hx hb dX1_insertIntoLine_42 rfl (lv_at hl 1 rfl) ?_
        refine va_get (D := D) (ci := 1) (v := .ref ln) (C := RX1) (T := TX1) (N := 6) hx hb hts (by decide +kernel) hown hG.1 hP 0 cw_x rfl 0 (by decide) (hts (.fieldLink RX1 11 "LopsidedRanks" "line" "[LLopsidedRanks$Soldier;") (by decide +kernel)) (fun _ h9 => h9) rfl dX1_insertIntoLine_43 ?_
        refine lv_iload_n hx hb dX1_insertIntoLine_46 rfl (lv_at hl 0 rfl) ?_
        refine lv_iconst (v := nI 1) hx hb dX1_insertIntoLine_47 (by decide) ?_
        refine lv_isub hx hb dX1_insertIntoLine_48 ?_
        refine zr_eqi (pk_sub (a := xs.length + (q + 1)) (b := 1) (by omega)) ?_
        refine zr_aldq hx hb hG.1 hP 1 0 cw_l rfl (k := (xs.length + (q + 1)) - 1) (by omega) (Nat.le_of_ble_eq_true rfl) dX1_insertIntoLine_49 ?_
        rw [if_pos (show xs.length + (q + 1) - 1 ≤ xs.length + (q + 1) by omega), hz]
        obtain ⟨i1, hi1⟩ := cw_s (x := x) (ln := ln) (cA := cA) (n := nI (xs.length + ys.length)) (tp := tp) (mo := mo) (dr := dr) (ds := ds) (li := fun i => if i ≤ xs.length + (q + 1) then (xs ++ ys)[i]? else (xs ++ ys)[i - 1]?) (ad := ad) (g := g) (hzK : z ∈ K)
        refine va_astq (r := (RX0, TX0, 5)) hx hb hG.1 hP hD hS 1 0 i1 0 cw_l rfl hi1 rfl (nI_in (show xs.length + (q + 1) < 150 by omega) (Nat.le_of_ble_eq_true rfl)) dX1_insertIntoLine_50 (fun H locs hP hD hS => ?_)
        rw [nI_clamp (show xs.length + (q + 1) < 2 ^ 31 by omega)] at hP hD
        have hP : va_P D vwCl (cw x ln cA (nI (xs.length + ys.length)) tp mo dr ds (va_up (fun i => if i ≤ xs.length + (q + 1) then (xs ++ ys)[i]? else (xs ++ ys)[i - 1]?) (xs.length + (q + 1)) (some z)) K ad g) H := by rw [← cw_setl (v := some z) rfl]; exact hP
        have hD : va_D A (cw x ln cA (nI (xs.length + ys.length)) tp mo dr ds (va_up (fun i => if i ≤ xs.length + (q + 1) then (xs ++ ys)[i]? else (xs ++ ys)[i - 1]?) (xs.length + (q + 1)) (some z)) K ad g) := by rw [← cw_setl (v := some z) rfl]; exact hD
        rw [← hz, li_up (by omega)] at hP hD
        refine lv_iinc (v := nI ((xs.length + (q + 1)) - 1)) (lv' := [(2, .int (nI ((xs.length + (q + 1)) - 1))), (0, .ref x), (1, .ref (ad h))]) hx hb dX1_insertIntoLine_51 hl (k := 0) rfl (zr_dec (k := 1) (by omega)) (by decide) rfl (fun ls hl => ?_)
        refine lv_goto (tgt := 15) hx hb dX1_insertIntoLine_54 (by decide) ?_
        exact ih (by omega) hP hD hS kk _ (lv_sub (lv_re hl (by rw [show xs.length + (q + 1) - 1 = xs.length + q by omega])) [0, 1, 2] rfl)
set_option maxHeartbeats 4000000 in
set_option maxRecDepth 100000 in
/-- insertIntoLine(h) -/
theorem c_X1_insertIntoLine (l : Launch) {D : va_G} {cA cZ cI : ClassId} {x ln : Nat} {tp : Option Nat} {mo dr ds : Int32} {K : List Nat} {ad : Nat → Nat} {g : Nat → Nd} {A : Nat → Prop} {xs ys : List Nat} {h : Nat} (hh : h ∈ K) (hhn : h < 1000) (hx1 : ∀ j ∈ xs, j < h) (hy1 : ∀ j ∈ ys, h < j) (hxK : ∀ j ∈ xs ++ ys, j ∈ K ∧ j < 1000) (hlen : xs.length + ys.length < 150) : Met l yX1_insertIntoLine wsX1_insertIntoLine ({ frames := 1, cells := 0, slots := 0, locals := 40 } : Room) (PcM D (tysA cA cZ cI) A (cw x ln cA (nI (xs.length + ys.length)) tp mo dr ds (fun i => (xs ++ ys)[i]?) K ad g) [.ref x, .ref (ad h)]) (va_Qv (S := Unit) (fun _ => True) (fun _ => BM D (tysA cA cZ cI) A (cw x ln cA (nI (xs.length + ys.length + 1)) tp mo dr ds (fun i => (xs ++ h :: ys)[i]?) K ad g)) A) 0 0 A := by
  refine Met.ofW (cc := cX1_insertIntoLine) (maxL := 3) (ret := none) (by decide) rfl ?_
  intro p e s m args below meth c s₁ B hml hv
  obtain ⟨rfl, hA, hP, hG, hD⟩ := hv
  have hx := B.exec
  have hb := B.bytes
  have hr := B.returns
  have hts := atoms_spec (ws := wsX1_insertIntoLine) B.pre
  have hown : s.vm.findClass RX1 = some m.cls := findClass_of_methodNamed B.named
  have hlocks := B.notSynchronized
  have hl := lv_entry ([.ref x, .ref (ad h)]) (n := 3) (Nat.le_of_ble_eq_true rfl)
  rw [lg_entry_eq]
  generalize (lg_sl ([.ref x, .ref (ad h)]) ++ List.replicate (3 - (lg_sl ([.ref x, .ref (ad h)])).length) Slot.unset).toArray = ls at hl ⊢
  have hl : lv_has ls 3 [(0, .ref x), (1, .ref (ad h))] := hl
  have hS : va_S A s.heap s.heap [] := va_S.rf
  refine lv_aload_n hx hb dX1_insertIntoLine_0 rfl (lv_at hl 0 rfl) ?_
  refine va_get (D := D) (ci := 1) (v := .int (nI (xs.length + ys.length))) (C := RX1) (T := TX1) (N := 6) hx hb hts (by decide +kernel) hown hG.1 hP 0 cw_x rfl 1 (by decide) (hts (.fieldLink RX1 19 "LopsidedRanks" "soldiers" "I") (by decide +kernel)) (fun _ h9 => h9) rfl dX1_insertIntoLine_1 ?_
  refine lv_istore_n (lv' := [(2, .int (nI (xs.length + ys.length))), (0, .ref x), (1, .ref (ad h))]) hx hb dX1_insertIntoLine_4 rfl hl (by decide) rfl (fun ls hl => ?_)
  refine lv_iload_n hx hb dX1_insertIntoLine_5 rfl (lv_at hl 0 rfl) ?_
  refine lv_aload_n hx hb dX1_insertIntoLine_6 rfl (lv_at hl 1 rfl) ?_
  refine va_get (D := D) (ci := 1) (v := .ref ln) (C := RX1) (T := TX1) (N := 6) hx hb hts (by decide +kernel) hown hG.1 hP 0 cw_x rfl 0 (by decide) (hts (.fieldLink RX1 11 "LopsidedRanks" "line" "[LLopsidedRanks$Soldier;") (by decide +kernel)) (fun _ h9 => h9) rfl dX1_insertIntoLine_7 ?_
  refine va_alen hx hb hG.1 hP 1 0 cw_l (ty := .object RX0) rfl (v := nI 150) rfl dX1_insertIntoLine_10 ?_
  refine lv_icmp_lt (tgt := 15) hx hb dX1_insertIntoLine_11 (by decide) (fun c11 => ?_) (fun c11 => ?_)
  · rw [nI_ltI (by omega) (by omega)] at c11
    have e9 : (fun i => (xs ++ ys)[i]?) = (fun i => if i ≤ xs.length + ys.length then (xs ++ ys)[i]? else (xs ++ ys)[i - 1]?) := by
      funext i
      by_cases e : i ≤ xs.length + ys.length
      · rw [if_pos e]
      · rw [if_neg e, List.getElem?_eq_none (by simp; omega), List.getElem?_eq_none (by simp; omega)]
    rw [e9] at hP hD
    refine L_X1_insertIntoLine (q := ys.length) hx hb hml hts hown hG ⟨Nat.le_of_ble_eq_true rfl, Nat.le_of_ble_eq_true rfl⟩ ⟨Nat.zero_le _, Nat.zero_le _⟩ hh hhn hx1 hy1 hxK hlen (Nat.le_refl _) hP hD hS (fun H locs hP hD hS ls hl => ?_) _ hl
    refine lv_aload_n hx hb dX1_insertIntoLine_57 rfl (lv_at hl 1 rfl) ?_
    refine va_get (D := D) (ci := 1) (v := .ref ln) (C := RX1) (T := TX1) (N := 6) hx hb hts (by decide +kernel) hown hG.1 hP 0 cw_x rfl 0 (by decide) (hts (.fieldLink RX1 11 "LopsidedRanks" "line" "[LLopsidedRanks$Soldier;") (by decide +kernel)) (fun _ h9 => h9) rfl dX1_insertIntoLine_58 ?_
    refine lv_iload_n hx hb dX1_insertIntoLine_61 rfl (lv_at hl 0 rfl) ?_
    refine lv_aload_n hx hb dX1_insertIntoLine_62 rfl (lv_at hl 2 rfl) ?_
    obtain ⟨i0, hi0⟩ := cw_s (x := x) (ln := ln) (cA := cA) (n := nI (xs.length + ys.length)) (tp := tp) (mo := mo) (dr := dr) (ds := ds) (li := fun i => if i ≤ xs.length then (xs ++ ys)[i]? else (xs ++ ys)[i - 1]?) (ad := ad) (g := g) (hh : h ∈ K)
    refine va_astq (r := (RX0, TX0, 5)) hx hb hG.1 hP hD hS 1 0 i0 0 cw_l rfl hi0 rfl (nI_in (show xs.length < 150 by omega) (Nat.le_of_ble_eq_true rfl)) dX1_insertIntoLine_63 (fun H locs hP hD hS => ?_)
    rw [nI_clamp (show xs.length < 2 ^ 31 by omega)] at hP hD
    have hP : va_P D vwCl (cw x ln cA (nI (xs.length + ys.length)) tp mo dr ds (va_up (fun i => if i ≤ xs.length then (xs ++ ys)[i]? else (xs ++ ys)[i - 1]?) xs.length (some h)) K ad g) H := by rw [← cw_setl (v := some h) rfl]; exact hP
    have hD : va_D A (cw x ln cA (nI (xs.length + ys.length)) tp mo dr ds (va_up (fun i => if i ≤ xs.length then (xs ++ ys)[i]? else (xs ++ ys)[i - 1]?) xs.length (some h)) K ad g) := by rw [← cw_setl (v := some h) rfl]; exact hD
    rw [li_end] at hP hD
    refine lv_aload_n hx hb dX1_insertIntoLine_64 rfl (lv_at hl 1 rfl) ?_
    refine lv_dup hx hb dX1_insertIntoLine_65 rfl ?_
    refine va_get (D := D) (ci := 1) (v := .int (nI (xs.length + ys.length))) (C := RX1) (T := TX1) (N := 6) hx hb hts (by decide +kernel) hown hG.1 hP 0 cw_x rfl 1 (by decide) (hts (.fieldLink RX1 19 "LopsidedRanks" "soldiers" "I") (by decide +kernel)) (fun _ h9 => h9) rfl dX1_insertIntoLine_66 ?_
    refine lv_iconst (v := nI 1) hx hb dX1_insertIntoLine_69 (by decide) ?_
    refine lv_iadd hx hb dX1_insertIntoLine_70 ?_
    refine zr_eqi (nI_add (xs.length + ys.length) 1) ?_
    refine va_put (D := D) (ci := 1) (v := .int (nI ((xs.length + ys.length) + 1))) (ty := .int) (C := RX1) (T := TX1) (N := 6) hx hb hts (by decide +kernel) tyX1 tyX1_ok nmX1 hown hG.1 hP hD hS 0 cw_x rfl 1 (by decide) (hts (.fieldLink RX1 19 "LopsidedRanks" "soldiers" "I") (by decide +kernel)) (fun _ h9 => h9) rfl (by decide +kernel) rfl rfl (Nat.le_of_ble_eq_true rfl) dX1_insertIntoLine_71 (fun H locs hP hD hS => ?_)
    have hP : va_P D vwCl (cw x ln cA ((nI ((xs.length + ys.length) + 1))) tp mo dr ds (fun i => (xs ++ h :: ys)[i]?) K ad g) H := hP
    have hD : va_D A (cw x ln cA ((nI ((xs.length + ys.length) + 1))) tp mo dr ds (fun i => (xs ++ h :: ys)[i]?) K ad g) := hD
    exact W.vret hx hb hr (fun t ht hW => ⟨⟨(), rfl, trivial, by rw [ht]; exact hP, hG.moved hW, hD⟩, hS.F ht⟩) hS.2.2 dX1_insertIntoLine_74
  · rw [nI_ltI (by omega) (by omega)] at c11
    exact absurd c11 (by omega)

theorem li_dn {xs ys : List Nat} {h q : Nat} (hq : q < ys.length) : va_up (fun i => if i < xs.length + q then (xs ++ ys)[i]? else (xs ++ h :: ys)[i]?) (xs.length + q) ((xs ++ ys)[xs.length + q]?) = (fun i => if i < xs.length + (q + 1) then (xs ++ ys)[i]? else (xs ++ h :: ys)[i]?) := by
  funext i
  by_cases e : i = xs.length + q
  · subst e
    rw [va_up_self, if_pos (by omega)]
  · rw [va_up_ne _ _ e]
    by_cases e2 : i < xs.length + q
    · rw [if_pos e2, if_pos (by omega)]
    · rw [if_neg e2, if_neg (by omega)]
theorem li_nx {xs ys : List Nat} {h q : Nat} : (xs ++ h :: ys)[xs.length + q + 1]? = (xs ++ ys)[xs.length + q]? := by
  rw [List.getElem?_append_right (by omega), List.getElem?_append_right (by omega), show xs.length + q + 1 - xs.length = q + 1 by omega, show xs.length + q - xs.length = q by omega, List.getElem?_cons_succ]
theorem li_fin {xs ys : List Nat} {h : Nat} : va_up (fun i => if i < xs.length + ys.length then (xs ++ ys)[i]? else (xs ++ h :: ys)[i]?) (xs.length + ys.length) none = (fun i => (xs ++ ys)[i]?) := by
  funext i
  by_cases e : i = xs.length + ys.length
  · subst e; rw [va_up_self, List.getElem?_eq_none (by simp)]
  · rw [va_up_ne _ _ e]
    by_cases e2 : i < xs.length + ys.length
    · rw [if_pos e2]
    · rw [if_neg e2, List.getElem?_eq_none (by simp; omega), List.getElem?_eq_none (by simp; omega)]
set_option maxHeartbeats 4000000 in
set_option maxRecDepth 100000 in
theorem L_X1_removeFromLine {D : va_G} {cA cZ cI : ClassId} {x ln : Nat} {tp : Option Nat} {mo dr ds : Int32} {K : List Nat} {ad : Nat → Nat} {g : Nat → Nd} {p : Program} {l : Launch} {e : Env} {R : Room} {s : State} {m : MethodId} {args : Array Value} {below : List Frame} {meth : Method} {c : Code} {Q : State → Prop} {cells slots : Nat} {A : Nat → Prop} {H0 : Heap} (hx : p.tables.exec = Jvm.exec) (hb : c.code = cX1_removeFromLine) (hml : c.maxLocals = 3) (hts : ∀ w ∈ wsX1_removeFromLine, w.before args s = true) (hown : s.vm.findClass RX1 = some m.cls) (hG : GK D (tysA cA cZ cI) s) {xs ys : List Nat} {h : Nat} (hxK : ∀ j ∈ xs ++ ys, j ∈ K ∧ j < 1000) (hlen : xs.length + ys.length < 150) : ∀ (f q : Nat) {H : Heap} {locs : List Loc}, q + f = ys.length → va_P D vwCl (cw x ln cA (nI (xs.length + ys.length + 1)) tp mo dr ds (fun i => if i < xs.length + q then (xs ++ ys)[i]? else (xs ++ h :: ys)[i]?) K ad g) H → va_D A (cw x ln cA (nI (xs.length + ys.length + 1)) tp mo dr ds (fun i => if i < xs.length + q then (xs ++ ys)[i]? else (xs ++ h :: ys)[i]?) K ad g) → va_S A H0 H locs → (∀ H locs, va_P D vwCl (cw x ln cA (nI (xs.length + ys.length + 1)) tp mo dr ds (fun i => if i < xs.length + ys.length then (xs ++ ys)[i]? else (xs ++ h :: ys)[i]?) K ad g) H → va_D A (cw x ln cA (nI (xs.length + ys.length + 1)) tp mo dr ds (fun i => if i < xs.length + ys.length then (xs ++ ys)[i]? else (xs ++ h :: ys)[i]?) K ad g) → va_S A H0 H locs → ∀ ls, lv_has ls 3 [(2, .int (nI (xs.length + ys.length))), (0, .ref x)] → W p l e R s m args below meth c H locs cells slots Q (F0 m 50 ls [])) → ∀ ls, lv_has ls 3 [(2, .int (nI (xs.length + q))), (0, .ref x)] → W p l e R s m args below meth c H locs cells slots Q (F0 m 9 ls []) := by
  intro f
  induction f with
  | zero =>
    intro q H locs hq hP hD hS kk ls hl
    have hq0 : q = ys.length := by omega
    subst hq0
    refine lv_iload_n hx hb dX1_removeFromLine_9 rfl (lv_at hl 0 rfl) ?_
    refine lv_iconst (v := nI 1) hx hb dX1_removeFromLine_10 (by decide) ?_
    refine lv_iadd hx hb dX1_removeFromLine_11 ?_
    refine zr_eqi (nI_add (xs.length + ys.length) 1) ?_
    refine lv_aload_n hx hb dX1_removeFromLine_12 rfl (lv_at hl 1 rfl) ?_
    refine va_get (D := D) (ci := 1) (v := .int (nI (xs.length + ys.length + 1))) (C := RX1) (T := TX1) (N := 6) hx hb hts (by decide +kernel) hown hG.1 hP 0 cw_x rfl 1 (by decide) (hts (.fieldLink RX1 19 "LopsidedRanks" "soldiers" "I") (by decide +kernel)) (fun _ h9 => h9) rfl dX1_removeFromLine_13 ?_
    refine lv_icmp_ge (tgt := 50) hx hb dX1_removeFromLine_16 (by decide) (fun c16 => ?_) (fun c16 => ?_)
    · rw [nI_leI (by omega) (by omega)] at c16
      exact kk _ _ hP hD hS _ hl
    · rw [nI_leI (by omega) (by omega)] at c16
      exact absurd c16 (by omega)
  | succ f ih =>
    intro q H locs hq hP hD hS kk ls hl
    obtain ⟨z, hz⟩ : ∃ z, (xs ++ ys)[xs.length + q]? = some z := ⟨_, List.getElem?_eq_getElem (by simp; omega)⟩
    obtain ⟨hzK, hzn⟩ := hxK z (List.mem_of_getElem? hz)
    refine lv_iload_n hx hb dX1_removeFromLine_9 rfl (lv_at hl 0 rfl) ?_
    refine lv_iconst (v := nI 1) hx hb dX1_removeFromLine_10 (by decide) ?_
    refine lv_iadd hx hb dX1_removeFromLine_11 ?_
    refine zr_eqi (nI_add (xs.length + q) 1) ?_
    refine lv_aload_n hx hb dX1_removeFromLine_12 rfl (lv_at hl 1 rfl) ?_
    refine va_get (D := D) (ci := 1) (v := .int (nI (xs.length + ys.length + 1))) (C := RX1) (T := TX1) (N := 6) hx hb hts (by decide +kernel) hown hG.1 hP 0 cw_x rfl 1 (by decide) (hts (.fieldLink RX1 19 "LopsidedRanks" "soldiers" "I") (by decide +kernel)) (fun _ h9 => h9) rfl dX1_removeFromLine_13 ?_
    refine lv_icmp_ge (tgt := 50) hx hb dX1_removeFromLine_16 (by decide) (fun c16 => ?_) (fun c16 => ?_)
    · rw [nI_leI (by omega) (by omega)] at c16
      exact absurd c16 (by omega)
    · rw [nI_leI (by omega) (by omega)] at c16
      refine lv_iload_n hx hb dX1_removeFromLine_19 rfl (lv_at hl 0 rfl) ?_
      refine lv_iconst (v := nI 1) hx hb dX1_removeFromLine_20 (by decide) ?_
      refine lv_iadd hx hb dX1_removeFromLine_21 ?_
      refine zr_eqi (nI_add (xs.length + q) 1) ?_
      refine lv_aload_n hx hb dX1_removeFromLine_22 rfl (lv_at hl 1 rfl) ?_
      refine va_get (D := D) (ci := 1) (v := .ref ln) (C := RX1) (T := TX1) (N := 6) hx hb hts (by decide +kernel) hown hG.1 hP 0 cw_x rfl 0 (by decide) (hts (.fieldLink RX1 11 "LopsidedRanks" "line" "[LLopsidedRanks$Soldier;") (by decide +kernel)) (fun _ h9 => h9) rfl dX1_removeFromLine_23 ?_
      refine va_alen hx hb hG.1 hP 1 0 cw_l (ty := .object RX0) rfl (v := nI 150) rfl dX1_removeFromLine_26 ?_
      refine lv_icmp_ge (tgt := 50) hx hb dX1_removeFromLine_27 (by decide) (fun c27 => ?_) (fun c27 => ?_)
      · rw [nI_leI (by omega) (by omega)] at c27
        exact absurd c27 (by omega)
      · rw [nI_leI (by omega) (by omega)] at c27
        refine lv_aload_n hx hb dX1_removeFromLine_30 rfl (lv_at hl 1 rfl) ?_
        refine va_get (D := D) (ci := 1) (v := .ref ln) (C := RX1) (T := TX1) (N := 6) hx hb hts (by decide +kernel) hown hG.1 hP 0 cw_x rfl 0 (by decide) (hts (.fieldLink RX1 11 "LopsidedRanks" "line" "[LLopsidedRanks$Soldier;") (by decide +kernel)) (fun _ h9 => h9) rfl dX1_removeFromLine_31 ?_
        refine lv_iload_n hx hb dX1_removeFromLine_34 rfl (lv_at hl 0 rfl) ?_
        refine lv_aload_n hx hb dX1_removeFromLine_35 rfl (lv_at hl 1 rfl) ?_
        refine va_get (D := D) (ci := 1) (v := .ref ln) (C := RX1) (T := TX1) (N := 6) hx hb hts (by decide +kernel) hown hG.1 hP 0 cw_x rfl 0 (by decide) (hts (.fieldLink RX1 11 "LopsidedRanks" "line" "[LLopsidedRanks$Soldier;") (by decide +kernel)) (fun _ h9 => h9) rfl dX1_removeFromLine_36 ?_
        refine lv_iload_n hx hb dX1_removeFromLine_39 rfl (lv_at hl 0 rfl) ?_
        refine lv_iconst (v := nI 1) hx hb dX1_removeFromLine_40 (by decide) ?_
        refine lv_iadd hx hb dX1_removeFromLine_41 ?_
        refine zr_eqi (nI_add (xs.length + q) 1) ?_
        refine zr_aldq hx hb hG.1 hP 1 0 cw_l rfl (k := (xs.length + q) + 1) (by omega) (Nat.le_of_ble_eq_true rfl) dX1_removeFromLine_42 ?_
        rw [if_neg (show ¬ xs.length + q + 1 < xs.length + q by omega), li_nx, hz]
        obtain ⟨i0, hi0⟩ := cw_s (x := x) (ln := ln) (cA := cA) (n := nI (xs.length + ys.length + 1)) (tp := tp) (mo := mo) (dr := dr) (ds := ds) (li := fun i => if i < xs.length + q then (xs ++ ys)[i]? else (xs ++ h :: ys)[i]?) (ad := ad) (g := g) (hzK : z ∈ K)
        refine va_astq (r := (RX0, TX0, 5)) hx hb hG.1 hP hD hS 1 0 i0 0 cw_l rfl hi0 rfl (nI_in (show xs.length + q < 150 by omega) (Nat.le_of_ble_eq_true rfl)) dX1_removeFromLine_43 (fun H locs hP hD hS => ?_)
        rw [nI_clamp (show xs.length + q < 2 ^ 31 by omega)] at hP hD
        have hP : va_P D vwCl (cw x ln cA (nI (xs.length + ys.length + 1)) tp mo dr ds (va_up (fun i => if i < xs.length + q then (xs ++ ys)[i]? else (xs ++ h :: ys)[i]?) (xs.length + q) (some z)) K ad g) H := by rw [← cw_setl (v := some z) rfl]; exact hP
        have hD : va_D A (cw x ln cA (nI (xs.length + ys.length + 1)) tp mo dr ds (va_up (fun i => if i < xs.length + q then (xs ++ ys)[i]? else (xs ++ h :: ys)[i]?) (xs.length + q) (some z)) K ad g) := by rw [← cw_setl (v := some z) rfl]; exact hD
        rw [← hz, li_dn (by omega)] at hP hD
        refine lv_iinc (v := nI ((xs.length + q) + 1)) (lv' := [(2, .int (nI ((xs.length + q) + 1))), (0, .ref x)]) hx hb dX1_removeFromLine_44 hl (k := 0) rfl (nI_add (xs.length + q) 1) (by decide) rfl (fun ls hl => ?_)
        refine lv_goto (tgt := 9) hx hb dX1_removeFromLine_47 (by decide) ?_
        exact ih (q + 1) (by omega) hP hD hS kk _ (lv_re hl (by rw [show xs.length + q + 1 = xs.length + (q + 1) by omega]))
set_option maxHeartbeats 4000000 in
set_option maxRecDepth 100000 in
/-- removeFromLine(h) -/
theorem c_X1_removeFromLine (l : Launch) {D : va_G} {cA cZ cI : ClassId} {x ln : Nat} {mo dr ds : Int32} {K : List Nat} {ad : Nat → Nat} {g : Nat → Nd} {A : Nat → Prop} {T : Tr} {xs ys : List Nat} {h : Nat} (hcl : Cl K g) (hs : ShP g none T) (hc : ShC g T) (hin : ∀ j ∈ keysT T, j ∈ K ∧ j < 1000) (hhT : h ∈ keysT T) (hcnt : cntLt h T = xs.length) (hxK : ∀ j ∈ xs ++ ys, j ∈ K ∧ j < 1000) (hlen : xs.length + ys.length < 150) : Met l yX1_removeFromLine wsX1_removeFromLine ({ frames := 2, cells := 0, slots := 0, locals := 80 } : Room) (PcM D (tysA cA cZ cI) A (cw x ln cA (nI (xs.length + ys.length + 1)) (root T) mo dr ds (fun i => (xs ++ h :: ys)[i]?) K ad g) [.ref x, .ref (ad h)]) (va_Qv (S := Unit) (fun _ => True) (fun _ => BM D (tysA cA cZ cI) A (cw x ln cA (nI (xs.length + ys.length)) (root T) mo dr ds (fun i => (xs ++ ys)[i]?) K ad g)) A) 0 0 A := by
  refine Met.ofW (cc := cX1_removeFromLine) (maxL := 3) (ret := none) (by decide) rfl ?_
  intro p e s m args below meth c s₁ B hml hv
  obtain ⟨rfl, hA, hP, hG, hD⟩ := hv
  have hx := B.exec
  have hb := B.bytes
  have hr := B.returns
  have hts := atoms_spec (ws := wsX1_removeFromLine) B.pre
  have hown : s.vm.findClass RX1 = some m.cls := findClass_of_methodNamed B.named
  have hlocks := B.notSynchronized
  have hl := lv_entry ([.ref x, .ref (ad h)]) (n := 3) (Nat.le_of_ble_eq_true rfl)
  rw [lg_entry_eq]
  generalize (lg_sl ([.ref x, .ref (ad h)]) ++ List.replicate (3 - (lg_sl ([.ref x, .ref (ad h)])).length) Slot.unset).toArray = ls at hl ⊢
  have hl : lv_has ls 3 [(0, .ref x), (1, .ref (ad h))] := hl
  have hS : va_S A s.heap s.heap [] := va_S.rf
  have hhn := (hin h hhT).2
  refine lv_aload_n hx hb dX1_removeFromLine_0 rfl (lv_at hl 0 rfl) ?_
  refine lv_aload_n hx hb dX1_removeFromLine_1 rfl (lv_at hl 1 rfl) ?_
  obtain ⟨i0, hi0⟩ := cw_s (x := x) (ln := ln) (cA := cA) (n := nI (xs.length + ys.length + 1)) (tp := root T) (mo := mo) (dr := dr) (ds := ds) (li := fun i => (xs ++ h :: ys)[i]?) (ad := ad) (g := g) ((hin h hhT).1 : h ∈ K)
  refine va_get (D := D) (ci := 0) (v := .int (nI h)) (C := RX0) (T := TX0) (N := 5) hx hb hts (by decide +kernel) hown hG.1 hP i0 hi0 rfl 0 (by decide) (hts (.fieldLink RX1 100 "LopsidedRanks$Soldier" "height" "I") (by decide +kernel)) (fun _ h9 => h9) rfl dX1_removeFromLine_2 ?_
  refine vp_callSi (va_Run.run (va_runV (As := [.int (nI h)]) (rest := []) ⟨hx, hb, hml, hown, hts⟩ (c_X1_smallerThan l hcl (by omega) hs hc hin) (cwV 1 hts gX1_removeFromLine_X1_smallerThan rfl rfl rfl (by decide +kernel) ⟨Nat.le_of_ble_eq_true rfl, Nat.le_of_ble_eq_true rfl⟩) ⟨PcR.blind, va_recv hG.1 hP (ci := 1) (q0 := 0) rfl cw_x, PcR.at hP hG⟩ rfl rfl hl.1 rfl (lv_room (Nat.le_of_ble_eq_true rfl)) dX1_removeFromLine_5 ⟨Nat.zero_le _, Nat.zero_le _⟩)) (fun r5 q5 => ?_)
  subst q5
  refine zr_eqi (congrArg nI hcnt) ?_
  refine lv_istore_n (lv' := [(2, .int (nI xs.length)), (0, .ref x), (1, .ref (ad h))]) hx hb dX1_removeFromLine_8 rfl hl (by decide) rfl (fun ls hl => ?_)
  have e9 : (fun i => (xs ++ h :: ys)[i]?) = (fun i => if i < xs.length + 0 then (xs ++ ys)[i]? else (xs ++ h :: ys)[i]?) := by
    funext i
    by_cases e : i < xs.length + 0
    · rw [if_pos e, List.getElem?_append_left (by omega), List.getElem?_append_left (by omega)]
    · rw [if_neg e]
  rw [e9] at hP hD
  refine L_X1_removeFromLine hx hb hml hts hown hG hxK hlen ys.length 0 (Nat.zero_add _) hP hD hS (fun H locs hP hD hS ls hl => ?_) _ (lv_sub hl [0, 1] rfl)
  refine lv_aload_n hx hb dX1_removeFromLine_50 rfl (lv_at hl 1 rfl) ?_
  refine lv_dup hx hb dX1_removeFromLine_51 rfl ?_
  refine va_get (D := D) (ci := 1) (v := .int (nI (xs.length + ys.length + 1))) (C := RX1) (T := TX1) (N := 6) hx hb hts (by decide +kernel) hown hG.1 hP 0 cw_x rfl 1 (by decide) (hts (.fieldLink RX1 19 "LopsidedRanks" "soldiers" "I") (by decide +kernel)) (fun _ h9 => h9) rfl dX1_removeFromLine_52 ?_
  refine lv_iconst (v := nI 1) hx hb dX1_removeFromLine_55 (by decide) ?_
  refine lv_isub hx hb dX1_removeFromLine_56 ?_
  refine zr_eqi (pk_sub (a := xs.length + ys.length + 1) (b := 1) (by omega)) ?_
  refine zr_eqi (show nI (xs.length + ys.length + 1 - 1) = nI (xs.length + ys.length) from rfl) ?_
  refine va_put (D := D) (ci := 1) (v := .int (nI (xs.length + ys.length))) (ty := .int) (C := RX1) (T := TX1) (N := 6) hx hb hts (by decide +kernel) tyX1 tyX1_ok nmX1 hown hG.1 hP hD hS 0 cw_x rfl 1 (by decide) (hts (.fieldLink RX1 19 "LopsidedRanks" "soldiers" "I") (by decide +kernel)) (fun _ h9 => h9) rfl (by decide +kernel) rfl rfl (Nat.le_of_ble_eq_true rfl) dX1_removeFromLine_57 (fun H locs hP hD hS => ?_)
  have hP : va_P D vwCl (cw x ln cA ((nI (xs.length + ys.length))) (root T) mo dr ds (fun i => if i < xs.length + ys.length then (xs ++ ys)[i]? else (xs ++ h :: ys)[i]?) K ad g) H := hP
  have hD : va_D A (cw x ln cA ((nI (xs.length + ys.length))) (root T) mo dr ds (fun i => if i < xs.length + ys.length then (xs ++ ys)[i]? else (xs ++ h :: ys)[i]?) K ad g) := hD
  refine lv_aload_n hx hb dX1_removeFromLine_60 rfl (lv_at hl 1 rfl) ?_
  refine va_get (D := D) (ci := 1) (v := .int ((nI (xs.length + ys.length)))) (C := RX1) (T := TX1) (N := 6) hx hb hts (by decide +kernel) hown hG.1 hP 0 cw_x rfl 1 (by decide) (hts (.fieldLink RX1 19 "LopsidedRanks" "soldiers" "I") (by decide +kernel)) (fun _ h9 => h9) rfl dX1_removeFromLine_61 ?_
  refine lv_if_lt (tgt := 89) hx hb dX1_removeFromLine_64 (by decide) (fun c64 => ?_) (fun c64 => ?_)
  · replace c64 := (zr_lt0 (by omega)).mp c64
    exact absurd c64 id
  · replace c64 := (not_congr (zr_lt0 (by omega))).mp c64
    refine lv_aload_n hx hb dX1_removeFromLine_67 rfl (lv_at hl 1 rfl) ?_
    refine va_get (D := D) (ci := 1) (v := .int ((nI (xs.length + ys.length)))) (C := RX1) (T := TX1) (N := 6) hx hb hts (by decide +kernel) hown hG.1 hP 0 cw_x rfl 1 (by decide) (hts (.fieldLink RX1 19 "LopsidedRanks" "soldiers" "I") (by decide +kernel)) (fun _ h9 => h9) rfl dX1_removeFromLine_68 ?_
    refine lv_aload_n hx hb dX1_removeFromLine_71 rfl (lv_at hl 1 rfl) ?_
    refine va_get (D := D) (ci := 1) (v := .ref ln) (C := RX1) (T := TX1) (N := 6) hx hb hts (by decide +kernel) hown hG.1 hP 0 cw_x rfl 0 (by decide) (hts (.fieldLink RX1 11 "LopsidedRanks" "line" "[LLopsidedRanks$Soldier;") (by decide +kernel)) (fun _ h9 => h9) rfl dX1_removeFromLine_72 ?_
    refine va_alen hx hb hG.1 hP 1 0 cw_l (ty := .object RX0) rfl (v := nI 150) rfl dX1_removeFromLine_75 ?_
    refine lv_icmp_ge (tgt := 89) hx hb dX1_removeFromLine_76 (by decide) (fun c76 => ?_) (fun c76 => ?_)
    · rw [nI_leI (by omega) (by omega)] at c76
      exact absurd c76 (by omega)
    · rw [nI_leI (by omega) (by omega)] at c76
      refine lv_aload_n hx hb dX1_removeFromLine_79 rfl (lv_at hl 1 rfl) ?_
      refine va_get (D := D) (ci := 1) (v := .ref ln) (C := RX1) (T := TX1) (N := 6) hx hb hts (by decide +kernel) hown hG.1 hP 0 cw_x rfl 0 (by decide) (hts (.fieldLink RX1 11 "LopsidedRanks" "line" "[LLopsidedRanks$Soldier;") (by decide +kernel)) (fun _ h9 => h9) rfl dX1_removeFromLine_80 ?_
      refine lv_aload_n hx hb dX1_removeFromLine_83 rfl (lv_at hl 1 rfl) ?_
      refine va_get (D := D) (ci := 1) (v := .int ((nI (xs.length + ys.length)))) (C := RX1) (T := TX1) (N := 6) hx hb hts (by decide +kernel) hown hG.1 hP 0 cw_x rfl 1 (by decide) (hts (.fieldLink RX1 19 "LopsidedRanks" "soldiers" "I") (by decide +kernel)) (fun _ h9 => h9) rfl dX1_removeFromLine_84 ?_
      refine lv_null hx hb dX1_removeFromLine_87 ?_
      refine va_astqN hx hb hG.1 hP hD hS 1 0 cw_l rfl (nI_in (show xs.length + ys.length < 150 by omega) (Nat.le_of_ble_eq_true rfl)) dX1_removeFromLine_88 (fun H locs hP hD hS => ?_)
      rw [nI_clamp (show xs.length + ys.length < 2 ^ 31 by omega)] at hP hD
      have hP : va_P D vwCl (cw x ln cA ((nI (xs.length + ys.length))) (root T) mo dr ds (va_up (fun i => if i < xs.length + ys.length then (xs ++ ys)[i]? else (xs ++ h :: ys)[i]?) (xs.length + ys.length) (none)) K ad g) H := by rw [← cw_setl (v := none) rfl]; exact hP
      have hD : va_D A (cw x ln cA ((nI (xs.length + ys.length))) (root T) mo dr ds (va_up (fun i => if i < xs.length + ys.length then (xs ++ ys)[i]? else (xs ++ h :: ys)[i]?) (xs.length + ys.length) (none)) K ad g) := by rw [← cw_setl (v := none) rfl]; exact hD
      rw [li_fin] at hP hD
      exact W.vret hx hb hr (fun t ht hW => ⟨⟨(), rfl, trivial, by rw [ht]; exact hP, hG.moved hW, hD⟩, hS.F ht⟩) hS.2.2 dX1_removeFromLine_89
end
section
/-! WRITERS of the class: the ranks behind a discharge -/
def orE (o1 o2 : Option Nat) : Option Nat := match o1 with
  | none => o2
  | some c => some c
theorem addG_p {d : Int32} {k : Nat} : ∀ {ks : List Nat} {g : Nat → Nd}, (addG d ks g k).1 = (g k).1 ∧ (addG d ks g k).2.1 = (g k).2.1 ∧ (addG d ks g k).2.2.1 = (g k).2.2.1
  | [], g => ⟨rfl, rfl, rfl⟩
  | a :: ks, g => by
    obtain ⟨h1, h2, h3⟩ := addG_p (d := d) (k := k) (ks := ks) (g := va_up g a (sC (g a) ((g a).2.2.2 + d)))
    rw [addG]
    by_cases e : k = a
    · subst e
      rw [h1, h2, h3, va_up_self]
      exact ⟨rfl, rfl, rfl⟩
    · rw [h1, h2, h3, va_up_ne _ _ e]
      exact ⟨rfl, rfl, rfl⟩
theorem leaf_of {t : Tr} (h : root t = none) : t = .leaf := by
  cases t with
  | leaf => rfl
  | inner s k v l r => cases h
theorem not_leaf {t : Tr} {k : Nat} (h : root t = some k) : t ≠ .leaf := by
  intro q; subst q; cases h
set_option maxHeartbeats 4000000 in
set_option maxRecDepth 100000 in
/-- removeWithOneSide(L) -/
theorem c_X1_removeWithOneSide (l : Launch) {D : va_G} {cA cZ cI : ClassId} {x ln : Nat} {n : Int32} {tp : Option Nat} {mo dr ds : Int32} {li : Nat → Option Nat} {K : List Nat} {ad : Nat → Nat} {g : Nat → Nd} {A : Nat → Prop} {L : Nat} {ks : List Nat} (hcl : Cl K g) (hL : L ∈ K) (hu : UpC g (g L).1 ks) (hks : ∀ j ∈ ks, j ∈ K) : Met l yX1_removeWithOneSide wsX1_removeWithOneSide ({ frames := 2, cells := 0, slots := 0, locals := 80 } : Room) (PcM D (tysA cA cZ cI) A (cw x ln cA n tp mo dr ds li K ad g) [.ref x, .ref (ad L)]) (va_Qv (S := Unit) (fun _ => True) (fun _ => BM D (tysA cA cZ cI) A (cw x ln cA n (sbT tp (g L).1 (orE (g L).2.1 (g L).2.2.1)) mo dr ds li K ad (sbG (addG (-1) ks g) (g L).1 L (orE (g L).2.1 (g L).2.2.1)))) A) 0 0 A := by
  refine Met.ofW (cc := cX1_removeWithOneSide) (maxL := 3) (ret := none) (by decide) rfl ?_
  intro p e s m args below meth c s₁ B hml hv
  obtain ⟨rfl, hA, hP, hG, hD⟩ := hv
  have hx := B.exec
  have hb := B.bytes
  have hr := B.returns
  have hts := atoms_spec (ws := wsX1_removeWithOneSide) B.pre
  have hown : s.vm.findClass RX1 = some m.cls := findClass_of_methodNamed B.named
  have hlocks := B.notSynchronized
  have hl := lv_entry ([.ref x, .ref (ad L)]) (n := 3) (Nat.le_of_ble_eq_true rfl)
  rw [lg_entry_eq]
  generalize (lg_sl ([.ref x, .ref (ad L)]) ++ List.replicate (3 - (lg_sl ([.ref x, .ref (ad L)])).length) Slot.unset).toArray = ls at hl ⊢
  have hl : lv_has ls 3 [(0, .ref x), (1, .ref (ad L))] := hl
  have hS : va_S A s.heap s.heap [] := va_S.rf
  have hor : ∀ c, orE (g L).2.1 (g L).2.2.1 = some c → c ∈ K := by
    intro c e
    rcases h9 : (g L).2.1 with _ | c9
    · rw [h9] at e; exact (hcl L hL).2.2.2 c e
    · rw [h9] at e; cases e; exact (hcl L hL).2.2.1 _ h9
  have hLn := hcl.lt hL
  refine lv_aload_n hx hb dX1_removeWithOneSide_0 rfl (lv_at hl 1 rfl) ?_
  obtain ⟨i0, hi0⟩ := cw_s (x := x) (ln := ln) (cA := cA) (n := n) (tp := tp) (mo := mo) (dr := dr) (ds := ds) (li := li) (ad := ad) (g := g) (hL : L ∈ K)
  refine va_get (D := D) (ci := 0) (v := va_rf ((g L).2.1.map ad)) (C := RX0) (T := TX0) (N := 5) hx hb hts (by decide +kernel) hown hG.1 hP i0 hi0 rfl 2 (by decide) (hts (.fieldLink RX1 150 "LopsidedRanks$Soldier" "left" "LLopsidedRanks$Soldier;") (by decide +kernel)) (fun _ h9 => h9) rfl dX1_removeWithOneSide_1 ?_
  refine zr_ifnull (tgt := 14) hx hb dX1_removeWithOneSide_4 (by decide) (fun c4 => ?_) (fun k4 c4 => ?_)
  · refine lv_aload_n hx hb dX1_removeWithOneSide_14 rfl (lv_at hl 1 rfl) ?_
    obtain ⟨i1, hi1⟩ := cw_s (x := x) (ln := ln) (cA := cA) (n := n) (tp := tp) (mo := mo) (dr := dr) (ds := ds) (li := li) (ad := ad) (g := g) (hL : L ∈ K)
    refine va_get (D := D) (ci := 0) (v := va_rf ((g L).2.2.1.map ad)) (C := RX0) (T := TX0) (N := 5) hx hb hts (by decide +kernel) hown hG.1 hP i1 hi1 rfl 3 (by decide) (hts (.fieldLink RX1 160 "LopsidedRanks$Soldier" "right" "LLopsidedRanks$Soldier;") (by decide +kernel)) (fun _ h9 => h9) rfl dX1_removeWithOneSide_15 ?_
    refine zr_eqk (y := orE (g L).2.1 (g L).2.2.1) (by rw [c4]; rfl) ?_
    refine zr_astore_n (lv' := [(2, va_rf ((orE (g L).2.1 (g L).2.2.1).map ad)), (0, .ref x), (1, .ref (ad L))]) hx hb dX1_removeWithOneSide_18 rfl hl (by decide) rfl (fun ls hl => ?_)
    refine lv_aload_n hx hb dX1_removeWithOneSide_19 rfl (lv_at hl 2 rfl) ?_
    refine lv_iconst (v := (-1)) hx hb dX1_removeWithOneSide_20 (by decide) ?_
    refine va_callv (va_runS (As := [.ref (ad L), .int (-1)]) (rest := []) ⟨hx, hb, hml, hown, hts⟩ (c_X1_addToCompaniesAbove l (d := -1) hL hu hks) (va_cwS 2 hts gX1_removeWithOneSide_X1_addToCompaniesAbove rfl rfl rfl (by decide +kernel) ⟨Nat.le_of_ble_eq_true rfl, Nat.le_of_ble_eq_true rfl⟩) ⟨PcM.blind, PcM.at (fun q h => hA q (Nat.le_trans hS.1 h)) hP hG hD⟩ rfl rfl hl.1 rfl (lv_room (Nat.le_of_ble_eq_true rfl)) dX1_removeWithOneSide_21 ⟨Nat.zero_le _, Nat.zero_le _⟩) hS (fun q _ h => h) (fun q h => h) (fun u21 t H locs ht hvm q21 hB hz1 hk1 hS => ?_)
    obtain ⟨hP, -, hD⟩ := hB
    rw [ht] at hP
    have hP : va_P D vwCl (cw x ln cA n tp mo dr ds li K ad (addG (-1) ks g)) H := hP
    have hD : va_D A (cw x ln cA n tp mo dr ds li K ad (addG (-1) ks g)) := hD
    refine lv_aload_n hx hb dX1_removeWithOneSide_24 rfl (lv_at hl 1 rfl) ?_
    refine lv_aload_n hx hb dX1_removeWithOneSide_25 rfl (lv_at hl 2 rfl) ?_
    obtain ⟨i2, hi2⟩ := cw_s (x := x) (ln := ln) (cA := cA) (n := n) (tp := tp) (mo := mo) (dr := dr) (ds := ds) (li := li) (ad := ad) (g := addG (-1) ks g) (hL : L ∈ K)
    refine va_get (D := D) (ci := 0) (v := va_rf (((addG (-1) ks g) L).1.map ad)) (C := RX0) (T := TX0) (N := 5) hx hb hts (by decide +kernel) hown hG.1 hP i2 hi2 rfl 1 (by decide) (hts (.fieldLink RX1 130 "LopsidedRanks$Soldier" "above" "LLopsidedRanks$Soldier;") (by decide +kernel)) (fun _ h9 => h9) rfl dX1_removeWithOneSide_26 ?_
    refine zr_eqk (addG_p.1) ?_
    refine lv_aload_n hx hb dX1_removeWithOneSide_29 rfl (lv_at hl 2 rfl) ?_
    obtain ⟨i3, hi3⟩ := cw_s (x := x) (ln := ln) (cA := cA) (n := n) (tp := tp) (mo := mo) (dr := dr) (ds := ds) (li := li) (ad := ad) (g := addG (-1) ks g) (hL : L ∈ K)
    refine va_get (D := D) (ci := 0) (v := .int (nI L)) (C := RX0) (T := TX0) (N := 5) hx hb hts (by decide +kernel) hown hG.1 hP i3 hi3 rfl 0 (by decide) (hts (.fieldLink RX1 100 "LopsidedRanks$Soldier" "height" "I") (by decide +kernel)) (fun _ h9 => h9) rfl dX1_removeWithOneSide_30 ?_
    refine zr_aload_n hx hb dX1_removeWithOneSide_33 rfl (lv_at hl 0 rfl) ?_
    refine va_callv (va_runV (As := [va_rf ((g L).1.map ad), .int (nI L), va_rf ((orE (g L).2.1 (g L).2.2.1).map ad)]) (rest := []) ⟨hx, hb, hml, hown, hts⟩ (c_X1_standBelow l (p0 := (g L).1) (r0 := orE (g L).2.1 (g L).2.2.1) (hcl L hL).2.1 (fun c e => hcl.lt ((hcl L hL).2.1 c e)) (hcl.lt hL) hor) (cwV 3 hts gX1_removeWithOneSide_X1_standBelow rfl rfl rfl (by decide +kernel) ⟨Nat.le_of_ble_eq_true rfl, Nat.le_of_ble_eq_true rfl⟩) ⟨PcM.blind, va_recv hG.1 hP (ci := 1) (q0 := 0) rfl cw_x, PcM.at (fun q h => hA q (Nat.le_trans hS.1 h)) hP hG hD⟩ rfl rfl hl.1 rfl (lv_room (Nat.le_of_ble_eq_true rfl)) dX1_removeWithOneSide_34 ⟨Nat.zero_le _, Nat.zero_le _⟩) hS (fun q _ h => h) (fun q h => h) (fun u34 t H locs ht hvm q34 hB hz1 hk1 hS => ?_)
    obtain ⟨hP, -, hD⟩ := hB
    rw [ht] at hP
    have hP : va_P D vwCl (cw x ln cA n (sbT tp (g L).1 (orE (g L).2.1 (g L).2.2.1)) mo dr ds li K ad (sbG (addG (-1) ks g) (g L).1 L (orE (g L).2.1 (g L).2.2.1))) H := hP
    have hD : va_D A (cw x ln cA n (sbT tp (g L).1 (orE (g L).2.1 (g L).2.2.1)) mo dr ds li K ad (sbG (addG (-1) ks g) (g L).1 L (orE (g L).2.1 (g L).2.2.1))) := hD
    exact W.vret hx hb hr (fun t ht hW => ⟨⟨(), rfl, trivial, by rw [ht]; exact hP, hG.moved hW, hD⟩, hS.F ht⟩) hS.2.2 dX1_removeWithOneSide_37
  · refine lv_aload_n hx hb dX1_removeWithOneSide_7 rfl (lv_at hl 1 rfl) ?_
    obtain ⟨i4, hi4⟩ := cw_s (x := x) (ln := ln) (cA := cA) (n := n) (tp := tp) (mo := mo) (dr := dr) (ds := ds) (li := li) (ad := ad) (g := g) (hL : L ∈ K)
    refine va_get (D := D) (ci := 0) (v := va_rf ((g L).2.1.map ad)) (C := RX0) (T := TX0) (N := 5) hx hb hts (by decide +kernel) hown hG.1 hP i4 hi4 rfl 2 (by decide) (hts (.fieldLink RX1 150 "LopsidedRanks$Soldier" "left" "LLopsidedRanks$Soldier;") (by decide +kernel)) (fun _ h9 => h9) rfl dX1_removeWithOneSide_8 ?_
    refine lv_goto (tgt := 18) hx hb dX1_removeWithOneSide_11 (by decide) ?_
    refine zr_eqk (y := orE (g L).2.1 (g L).2.2.1) (by rw [c4]; rfl) ?_
    refine zr_astore_n (lv' := [(2, va_rf ((orE (g L).2.1 (g L).2.2.1).map ad)), (0, .ref x), (1, .ref (ad L))]) hx hb dX1_removeWithOneSide_18 rfl hl (by decide) rfl (fun ls hl => ?_)
    refine lv_aload_n hx hb dX1_removeWithOneSide_19 rfl (lv_at hl 2 rfl) ?_
    refine lv_iconst (v := (-1)) hx hb dX1_removeWithOneSide_20 (by decide) ?_
    refine va_callv (va_runS (As := [.ref (ad L), .int (-1)]) (rest := []) ⟨hx, hb, hml, hown, hts⟩ (c_X1_addToCompaniesAbove l (d := -1) hL hu hks) (va_cwS 2 hts gX1_removeWithOneSide_X1_addToCompaniesAbove rfl rfl rfl (by decide +kernel) ⟨Nat.le_of_ble_eq_true rfl, Nat.le_of_ble_eq_true rfl⟩) ⟨PcM.blind, PcM.at (fun q h => hA q (Nat.le_trans hS.1 h)) hP hG hD⟩ rfl rfl hl.1 rfl (lv_room (Nat.le_of_ble_eq_true rfl)) dX1_removeWithOneSide_21 ⟨Nat.zero_le _, Nat.zero_le _⟩) hS (fun q _ h => h) (fun q h => h) (fun u21 t H locs ht hvm q21 hB hz1 hk1 hS => ?_)
    obtain ⟨hP, -, hD⟩ := hB
    rw [ht] at hP
    have hP : va_P D vwCl (cw x ln cA n tp mo dr ds li K ad (addG (-1) ks g)) H := hP
    have hD : va_D A (cw x ln cA n tp mo dr ds li K ad (addG (-1) ks g)) := hD
    refine lv_aload_n hx hb dX1_removeWithOneSide_24 rfl (lv_at hl 1 rfl) ?_
    refine lv_aload_n hx hb dX1_removeWithOneSide_25 rfl (lv_at hl 2 rfl) ?_
    obtain ⟨i5, hi5⟩ := cw_s (x := x) (ln := ln) (cA := cA) (n := n) (tp := tp) (mo := mo) (dr := dr) (ds := ds) (li := li) (ad := ad) (g := addG (-1) ks g) (hL : L ∈ K)
    refine va_get (D := D) (ci := 0) (v := va_rf (((addG (-1) ks g) L).1.map ad)) (C := RX0) (T := TX0) (N := 5) hx hb hts (by decide +kernel) hown hG.1 hP i5 hi5 rfl 1 (by decide) (hts (.fieldLink RX1 130 "LopsidedRanks$Soldier" "above" "LLopsidedRanks$Soldier;") (by decide +kernel)) (fun _ h9 => h9) rfl dX1_removeWithOneSide_26 ?_
    refine zr_eqk (addG_p.1) ?_
    refine lv_aload_n hx hb dX1_removeWithOneSide_29 rfl (lv_at hl 2 rfl) ?_
    obtain ⟨i6, hi6⟩ := cw_s (x := x) (ln := ln) (cA := cA) (n := n) (tp := tp) (mo := mo) (dr := dr) (ds := ds) (li := li) (ad := ad) (g := addG (-1) ks g) (hL : L ∈ K)
    refine va_get (D := D) (ci := 0) (v := .int (nI L)) (C := RX0) (T := TX0) (N := 5) hx hb hts (by decide +kernel) hown hG.1 hP i6 hi6 rfl 0 (by decide) (hts (.fieldLink RX1 100 "LopsidedRanks$Soldier" "height" "I") (by decide +kernel)) (fun _ h9 => h9) rfl dX1_removeWithOneSide_30 ?_
    refine zr_aload_n hx hb dX1_removeWithOneSide_33 rfl (lv_at hl 0 rfl) ?_
    refine va_callv (va_runV (As := [va_rf ((g L).1.map ad), .int (nI L), va_rf ((orE (g L).2.1 (g L).2.2.1).map ad)]) (rest := []) ⟨hx, hb, hml, hown, hts⟩ (c_X1_standBelow l (p0 := (g L).1) (r0 := orE (g L).2.1 (g L).2.2.1) (hcl L hL).2.1 (fun c e => hcl.lt ((hcl L hL).2.1 c e)) (hcl.lt hL) hor) (cwV 3 hts gX1_removeWithOneSide_X1_standBelow rfl rfl rfl (by decide +kernel) ⟨Nat.le_of_ble_eq_true rfl, Nat.le_of_ble_eq_true rfl⟩) ⟨PcM.blind, va_recv hG.1 hP (ci := 1) (q0 := 0) rfl cw_x, PcM.at (fun q h => hA q (Nat.le_trans hS.1 h)) hP hG hD⟩ rfl rfl hl.1 rfl (lv_room (Nat.le_of_ble_eq_true rfl)) dX1_removeWithOneSide_34 ⟨Nat.zero_le _, Nat.zero_le _⟩) hS (fun q _ h => h) (fun q h => h) (fun u34 t H locs ht hvm q34 hB hz1 hk1 hS => ?_)
    obtain ⟨hP, -, hD⟩ := hB
    rw [ht] at hP
    have hP : va_P D vwCl (cw x ln cA n (sbT tp (g L).1 (orE (g L).2.1 (g L).2.2.1)) mo dr ds li K ad (sbG (addG (-1) ks g) (g L).1 L (orE (g L).2.1 (g L).2.2.1))) H := hP
    have hD : va_D A (cw x ln cA n (sbT tp (g L).1 (orE (g L).2.1 (g L).2.2.1)) mo dr ds li K ad (sbG (addG (-1) ks g) (g L).1 L (orE (g L).2.1 (g L).2.2.1))) := hD
    exact W.vret hx hb hr (fun t ht hW => ⟨⟨(), rfl, trivial, by rw [ht]; exact hP, hG.moved hW, hD⟩, hS.F ht⟩) hS.2.2 dX1_removeWithOneSide_37

set_option maxHeartbeats 4000000 in
set_option maxRecDepth 100000 in
theorem L_X1_removeFromRanks {D : va_G} {cA cZ cI : ClassId} {x ln : Nat} {n : Int32} {tp : Option Nat} {mo dr ds : Int32} {li : Nat → Option Nat} {K : List Nat} {ad : Nat → Nat} {g : Nat → Nd} {p : Program} {l : Launch} {e : Env} {R : Room} {s : State} {m : MethodId} {args : Array Value} {below : List Frame} {meth : Method} {c : Code} {Q : State → Prop} {cells slots : Nat} {H : Heap} {locs : List Loc} (hx : p.tables.exec = Jvm.exec) (hb : c.code = cX1_removeFromRanks) (hml : c.maxLocals = 3) (hts : ∀ w ∈ wsX1_removeFromRanks, w.before args s = true) (hown : s.vm.findClass RX1 = some m.cls) (hG : GK D (tysA cA cZ cI) s) (hP : va_P D vwCl (cw x ln cA n tp mo dr ds li K ad g) H) {L : Nat} : ∀ {t : Tr} {a : Option Nat}, t ≠ .leaf → ShP g a t → (∀ j ∈ keysT t, j ∈ K) → (∀ ls, lv_has ls 3 [(2, .ref (ad (mnk t))), (0, .ref x), (1, .ref (ad L))] → W p l e R s m args below meth c H locs cells slots Q (F0 m 40 ls [])) → ∀ ls, lv_has ls 3 [(2, va_rf ((root t).map ad)), (0, .ref x), (1, .ref (ad L))] → W p l e R s m args below meth c H locs cells slots Q (F0 m 25 ls []) := by
  intro t
  induction t with
  | leaf => intro a hn; exact absurd rfl hn
  | inner sz k v lt rt ihl ihr =>
    intro a hn hs hin kk ls hl
    obtain ⟨h1, h2, h3, h4, h5⟩ := hs
    have hk := hin k ((keys_in ..).mpr (Or.inr (Or.inl rfl)))
    have hl : lv_has ls 3 [(2, .ref (ad k)), (0, .ref x), (1, .ref (ad L))] := hl
    refine lv_aload_n hx hb dX1_removeFromRanks_25 rfl (lv_at hl 0 rfl) ?_
    obtain ⟨i0, hi0⟩ := cw_s (x := x) (ln := ln) (cA := cA) (n := n) (tp := tp) (mo := mo) (dr := dr) (ds := ds) (li := li) (ad := ad) (g := g) (hk : k ∈ K)
    refine va_get (D := D) (ci := 0) (v := va_rf ((g k).2.1.map ad)) (C := RX0) (T := TX0) (N := 5) hx hb hts (by decide +kernel) hown hG.1 hP i0 hi0 rfl 2 (by decide) (hts (.fieldLink RX1 150 "LopsidedRanks$Soldier" "left" "LLopsidedRanks$Soldier;") (by decide +kernel)) (fun _ h9 => h9) rfl dX1_removeFromRanks_26 ?_
    refine zr_eqk h2 ?_
    cases lt with
    | leaf =>
      refine lv_ifnullN (tgt := 40) hx hb dX1_removeFromRanks_29 (by decide) ?_
      exact kk _ hl
    | inner s2 kk2 v2 l2 r2 =>
      refine lv_ifnull hx hb dX1_removeFromRanks_29 ?_
      refine lv_aload_n hx hb dX1_removeFromRanks_32 rfl (lv_at hl 0 rfl) ?_
      obtain ⟨i1, hi1⟩ := cw_s (x := x) (ln := ln) (cA := cA) (n := n) (tp := tp) (mo := mo) (dr := dr) (ds := ds) (li := li) (ad := ad) (g := g) (hk : k ∈ K)
      refine va_get (D := D) (ci := 0) (v := va_rf ((g k).2.1.map ad)) (C := RX0) (T := TX0) (N := 5) hx hb hts (by decide +kernel) hown hG.1 hP i1 hi1 rfl 2 (by decide) (hts (.fieldLink RX1 150 "LopsidedRanks$Soldier" "left" "LLopsidedRanks$Soldier;") (by decide +kernel)) (fun _ h9 => h9) rfl dX1_removeFromRanks_33 ?_
      refine zr_eqk h2 ?_
      refine lv_astore_n (lv' := [(2, .ref (ad kk2)), (0, .ref x), (1, .ref (ad L))]) hx hb dX1_removeFromRanks_36 rfl hl (by decide) rfl (fun ls hl => ?_)
      refine lv_goto (tgt := 25) hx hb dX1_removeFromRanks_37 (by decide) ?_
      exact ihl (by intro q; cases q) h4 (fun j hj => hin j ((keys_in ..).mpr (Or.inl hj))) kk _ hl
set_option maxHeartbeats 4000000 in
set_option maxRecDepth 100000 in
/-- removeFromRanks(L) -/
theorem c_X1_removeFromRanks (l : Launch) {D : va_G} {cA cZ cI : ClassId} {x ln : Nat} {n : Int32} {mo dr ds : Int32} {li : Nat → Option Nat} {K : List Nat} {ad : Nat → Nat} {g : Nat → Nd} {A : Nat → Prop} {T : Tr} {L : Nat} (hcl : Cl K g) (hb0 : bst T) (hs : ShP g none T) (hc : ShC g T) (hin : ∀ j ∈ keysT T, j ∈ K ∧ j < 1000) (hLT : L ∈ keysT T) : Met l yX1_removeFromRanks wsX1_removeFromRanks ({ frames := 3, cells := 0, slots := 0, locals := 120 } : Room) (PcM D (tysA cA cZ cI) A (cw x ln cA n (root T) mo dr ds li K ad g) [.ref x, .ref (ad L)]) (va_Qv (S := Nat → Nd) (fun u => ShP u none (delT L T) ∧ ShC u (delT L T)) (fun u => BM D (tysA cA cZ cI) A (cw x ln cA n (root (delT L T)) mo dr ds li K ad u)) A) 0 0 A := by
  refine Met.ofW (cc := cX1_removeFromRanks) (maxL := 3) (ret := none) (by decide) rfl ?_
  intro p e s m args below meth c s₁ B hml hv
  obtain ⟨rfl, hA, hP, hG, hD⟩ := hv
  have hx := B.exec
  have hb := B.bytes
  have hr := B.returns
  have hts := atoms_spec (ws := wsX1_removeFromRanks) B.pre
  have hown : s.vm.findClass RX1 = some m.cls := findClass_of_methodNamed B.named
  have hlocks := B.notSynchronized
  have hl := lv_entry ([.ref x, .ref (ad L)]) (n := 3) (Nat.le_of_ble_eq_true rfl)
  rw [lg_entry_eq]
  generalize (lg_sl ([.ref x, .ref (ad L)]) ++ List.replicate (3 - (lg_sl ([.ref x, .ref (ad L)])).length) Slot.unset).toArray = ls at hl ⊢
  have hl : lv_has ls 3 [(0, .ref x), (1, .ref (ad L))] := hl
  have hS : va_S A s.heap s.heap [] := va_S.rf
  have hLK := (hin L hLT).1
  obtain ⟨sz, v, lt, rt, esub⟩ := sub_at ((subT_mem hb0).mpr hLT)
  have hs1 := ShP_sub (h := L) hs
  have hc1 := ShC_sub (h := L) hc
  have hb1 := sub_bst (c := L) hb0
  rw [esub] at hs1 hc1 hb1
  obtain ⟨p1, p2, p3, p4, p5⟩ := hs1
  obtain ⟨q1, q2, q3⟩ := hc1
  obtain ⟨b1, b2, b3, b4⟩ := bst_in.mp hb1
  have hu := UpC_top (h := L) hs
  have hks : ∀ j ∈ (anc L T).reverse, j ∈ K := fun j hj => (hin j (anc_in (List.mem_reverse.mp hj))).1
  have hsubT : ∀ j ∈ keysT (subT L T), j ∈ keysT T := fun j hj => subT_sub hj
  rw [esub] at hsubT
  have inl : ∀ j ∈ keysT lt, j ∈ keysT T := fun j hj => hsubT j ((keys_in ..).mpr (Or.inl hj))
  have inr : ∀ j ∈ keysT rt, j ∈ keysT T := fun j hj => hsubT j ((keys_in ..).mpr (Or.inr (Or.inr hj)))
  have hLn := (hin L hLT).2
  rcases h9l : root lt with _ | cl
  · have hlf := leaf_of h9l
    have ejl : joinT lt rt = rt := by rw [hlf]; rfl
    refine lv_aload_n hx hb dX1_removeFromRanks_0 rfl (lv_at hl 1 rfl) ?_
    obtain ⟨i0, hi0⟩ := cw_s (x := x) (ln := ln) (cA := cA) (n := n) (tp := root T) (mo := mo) (dr := dr) (ds := ds) (li := li) (ad := ad) (g := g) (hLK : L ∈ K)
    refine va_get (D := D) (ci := 0) (v := va_rf ((g L).2.1.map ad)) (C := RX0) (T := TX0) (N := 5) hx hb hts (by decide +kernel) hown hG.1 hP i0 hi0 rfl 2 (by decide) (hts (.fieldLink RX1 150 "LopsidedRanks$Soldier" "left" "LLopsidedRanks$Soldier;") (by decide +kernel)) (fun _ h9 => h9) rfl dX1_removeFromRanks_1 ?_
    refine zr_eqk (p2.trans h9l) ?_
    refine lv_ifnullN (tgt := 14) hx hb dX1_removeFromRanks_4 (by decide) ?_
    refine lv_aload_n hx hb dX1_removeFromRanks_14 rfl (lv_at hl 0 rfl) ?_
    refine lv_aload_n hx hb dX1_removeFromRanks_15 rfl (lv_at hl 1 rfl) ?_
    refine va_callv (va_runV (As := [.ref (ad L)]) (rest := []) ⟨hx, hb, hml, hown, hts⟩ (c_X1_removeWithOneSide l hcl hLK (by rw [p1]; exact hu) hks) (cwV 1 hts gX1_removeFromRanks_X1_removeWithOneSide rfl rfl rfl (by decide +kernel) ⟨Nat.le_of_ble_eq_true rfl, Nat.le_of_ble_eq_true rfl⟩) ⟨PcM.blind, va_recv hG.1 hP (ci := 1) (q0 := 0) rfl cw_x, PcM.at (fun q h => hA q (Nat.le_trans hS.1 h)) hP hG hD⟩ rfl rfl hl.1 rfl (lv_room (Nat.le_of_ble_eq_true rfl)) dX1_removeFromRanks_16 ⟨Nat.zero_le _, Nat.zero_le _⟩) hS (fun q _ h => h) (fun q h => h) (fun u16 t H locs ht hvm q16 hB hz1 hk1 hS => ?_)
    obtain ⟨hP, -, hD⟩ := hB
    rw [ht] at hP
    have hP : va_P D vwCl (cw x ln cA n (sbT (root T) (g L).1 (orE (g L).2.1 (g L).2.2.1)) mo dr ds li K ad (sbG (addG (-1) (anc L T).reverse g) (g L).1 L (orE (g L).2.1 (g L).2.2.1))) H := hP
    have hD : va_D A (cw x ln cA n (sbT (root T) (g L).1 (orE (g L).2.1 (g L).2.2.1)) mo dr ds li K ad (sbG (addG (-1) (anc L T).reverse g) (g L).1 L (orE (g L).2.1 (g L).2.2.1))) := hD
    have ej : delT L T = rep L (joinT lt rt) T := by unfold delT; rw [esub]
    have er : orE (g L).2.1 (g L).2.2.1 = root (joinT lt rt) := by rw [p2, p3, h9l]; rw [ejl]; rfl
    obtain ⟨d1, d2⟩ := delG (t := joinT lt rt) (b := some L) hb0 hs hc (by rw [ejl]; exact b2) (by rw [ejl]; exact p5) (by rw [ejl]; exact q3) (fun j hj => by rw [esub, keys_in]; rw [keys_join hb1, List.mem_append] at hj; exact hj.elim Or.inl (fun z => Or.inr (Or.inr z))) (by rw [esub, ← keys_len, ← keys_len, keys_join hb1]; simp [keysT]; omega)
    rw [p1, er] at hP hD
    rw [sbT_root] at hP hD
    rw [← ej] at hP hD d1 d2
    exact W.vret hx hb hr (fun t ht hW => ⟨⟨_, rfl, ⟨d1, d2⟩, by rw [ht]; exact hP, hG.moved hW, hD⟩, hS.F ht⟩) hS.2.2 dX1_removeFromRanks_19
  · rcases h9r : root rt with _ | cr
    · have hrf := leaf_of h9r
      have ejl : joinT lt rt = lt := by rw [hrf]; cases lt with | leaf => cases h9l | inner s2 kk2 v2 l2 r2 => rfl
      refine lv_aload_n hx hb dX1_removeFromRanks_0 rfl (lv_at hl 1 rfl) ?_
      obtain ⟨i1, hi1⟩ := cw_s (x := x) (ln := ln) (cA := cA) (n := n) (tp := root T) (mo := mo) (dr := dr) (ds := ds) (li := li) (ad := ad) (g := g) (hLK : L ∈ K)
      refine va_get (D := D) (ci := 0) (v := va_rf ((g L).2.1.map ad)) (C := RX0) (T := TX0) (N := 5) hx hb hts (by decide +kernel) hown hG.1 hP i1 hi1 rfl 2 (by decide) (hts (.fieldLink RX1 150 "LopsidedRanks$Soldier" "left" "LLopsidedRanks$Soldier;") (by decide +kernel)) (fun _ h9 => h9) rfl dX1_removeFromRanks_1 ?_
      refine zr_eqk (p2.trans h9l) ?_
      refine lv_ifnull hx hb dX1_removeFromRanks_4 ?_
      refine lv_aload_n hx hb dX1_removeFromRanks_7 rfl (lv_at hl 1 rfl) ?_
      obtain ⟨i2, hi2⟩ := cw_s (x := x) (ln := ln) (cA := cA) (n := n) (tp := root T) (mo := mo) (dr := dr) (ds := ds) (li := li) (ad := ad) (g := g) (hLK : L ∈ K)
      refine va_get (D := D) (ci := 0) (v := va_rf ((g L).2.2.1.map ad)) (C := RX0) (T := TX0) (N := 5) hx hb hts (by decide +kernel) hown hG.1 hP i2 hi2 rfl 3 (by decide) (hts (.fieldLink RX1 160 "LopsidedRanks$Soldier" "right" "LLopsidedRanks$Soldier;") (by decide +kernel)) (fun _ h9 => h9) rfl dX1_removeFromRanks_8 ?_
      refine zr_eqk (p3.trans h9r) ?_
      refine lv_ifnonnullN hx hb dX1_removeFromRanks_11 ?_
      refine lv_aload_n hx hb dX1_removeFromRanks_14 rfl (lv_at hl 0 rfl) ?_
      refine lv_aload_n hx hb dX1_removeFromRanks_15 rfl (lv_at hl 1 rfl) ?_
      refine va_callv (va_runV (As := [.ref (ad L)]) (rest := []) ⟨hx, hb, hml, hown, hts⟩ (c_X1_removeWithOneSide l hcl hLK (by rw [p1]; exact hu) hks) (cwV 1 hts gX1_removeFromRanks_X1_removeWithOneSide rfl rfl rfl (by decide +kernel) ⟨Nat.le_of_ble_eq_true rfl, Nat.le_of_ble_eq_true rfl⟩) ⟨PcM.blind, va_recv hG.1 hP (ci := 1) (q0 := 0) rfl cw_x, PcM.at (fun q h => hA q (Nat.le_trans hS.1 h)) hP hG hD⟩ rfl rfl hl.1 rfl (lv_room (Nat.le_of_ble_eq_true rfl)) dX1_removeFromRanks_16 ⟨Nat.zero_le _, Nat.zero_le _⟩) hS (fun q _ h => h) (fun q h => h) (fun u16 t H locs ht hvm q16 hB hz1 hk1 hS => ?_)
      obtain ⟨hP, -, hD⟩ := hB
      rw [ht] at hP
      have hP : va_P D vwCl (cw x ln cA n (sbT (root T) (g L).1 (orE (g L).2.1 (g L).2.2.1)) mo dr ds li K ad (sbG (addG (-1) (anc L T).reverse g) (g L).1 L (orE (g L).2.1 (g L).2.2.1))) H := hP
      have hD : va_D A (cw x ln cA n (sbT (root T) (g L).1 (orE (g L).2.1 (g L).2.2.1)) mo dr ds li K ad (sbG (addG (-1) (anc L T).reverse g) (g L).1 L (orE (g L).2.1 (g L).2.2.1))) := hD
      have ej : delT L T = rep L (joinT lt rt) T := by unfold delT; rw [esub]
      have er : orE (g L).2.1 (g L).2.2.1 = root (joinT lt rt) := by rw [p2, p3, h9l]; show some cl = _; rw [ejl, h9l]
      obtain ⟨d1, d2⟩ := delG (t := joinT lt rt) (b := some L) hb0 hs hc (by rw [ejl]; exact b1) (by rw [ejl]; exact p4) (by rw [ejl]; exact q2) (fun j hj => by rw [esub, keys_in]; rw [keys_join hb1, List.mem_append] at hj; exact hj.elim Or.inl (fun z => Or.inr (Or.inr z))) (by rw [esub, ← keys_len, ← keys_len, keys_join hb1]; simp [keysT]; omega)
      rw [p1, er] at hP hD
      rw [sbT_root] at hP hD
      rw [← ej] at hP hD d1 d2
      exact W.vret hx hb hr (fun t ht hW => ⟨⟨_, rfl, ⟨d1, d2⟩, by rw [ht]; exact hP, hG.moved hW, hD⟩, hS.F ht⟩) hS.2.2 dX1_removeFromRanks_19
    · have hnl := not_leaf h9l
      have hnr := not_leaf h9r
      obtain ⟨rr, y1, y2, y3, y4, y5, y6, y7, y8, y9, y10, y11, y12⟩ := delB1 hb0 hs hc esub hnr
      have hmK := (hin _ y4).1
      have hmn := (hin _ y4).2
      have hjn : delT L T = rep L (nd_ lt (mnk rt) (dmn rt)) T := by
        unfold delT; rw [esub]
        show rep L (joinT lt rt) T = _
        cases lt with
        | leaf => exact absurd rfl hnl
        | inner s2 kk2 v2 l2 r2 => cases rt with
          | leaf => exact absurd rfl hnr
          | inner s3 kk3 v3 l3 r3 => rfl
      generalize hm : mnk rt = mm at *
      have hdmT : ∀ j ∈ keysT (dmn rt), j ∈ keysT T := fun j hj => inr j (by
        obtain ⟨s5, v5, r5, w1, w2, w3⟩ := mn_sub b2 hnr
        rw [w3]; exact List.mem_cons_of_mem _ hj)
      refine lv_aload_n hx hb dX1_removeFromRanks_0 rfl (lv_at hl 1 rfl) ?_
      obtain ⟨i3, hi3⟩ := cw_s (x := x) (ln := ln) (cA := cA) (n := n) (tp := root T) (mo := mo) (dr := dr) (ds := ds) (li := li) (ad := ad) (g := g) (hLK : L ∈ K)
      refine va_get (D := D) (ci := 0) (v := va_rf ((g L).2.1.map ad)) (C := RX0) (T := TX0) (N := 5) hx hb hts (by decide +kernel) hown hG.1 hP i3 hi3 rfl 2 (by decide) (hts (.fieldLink RX1 150 "LopsidedRanks$Soldier" "left" "LLopsidedRanks$Soldier;") (by decide +kernel)) (fun _ h9 => h9) rfl dX1_removeFromRanks_1 ?_
      refine zr_eqk (p2.trans h9l) ?_
      refine lv_ifnull hx hb dX1_removeFromRanks_4 ?_
      refine lv_aload_n hx hb dX1_removeFromRanks_7 rfl (lv_at hl 1 rfl) ?_
      obtain ⟨i4, hi4⟩ := cw_s (x := x) (ln := ln) (cA := cA) (n := n) (tp := root T) (mo := mo) (dr := dr) (ds := ds) (li := li) (ad := ad) (g := g) (hLK : L ∈ K)
      refine va_get (D := D) (ci := 0) (v := va_rf ((g L).2.2.1.map ad)) (C := RX0) (T := TX0) (N := 5) hx hb hts (by decide +kernel) hown hG.1 hP i4 hi4 rfl 3 (by decide) (hts (.fieldLink RX1 160 "LopsidedRanks$Soldier" "right" "LLopsidedRanks$Soldier;") (by decide +kernel)) (fun _ h9 => h9) rfl dX1_removeFromRanks_8 ?_
      refine zr_eqk (p3.trans h9r) ?_
      refine lv_ifnonnull (tgt := 20) hx hb dX1_removeFromRanks_11 (by decide) ?_
      refine lv_aload_n hx hb dX1_removeFromRanks_20 rfl (lv_at hl 1 rfl) ?_
      obtain ⟨i5, hi5⟩ := cw_s (x := x) (ln := ln) (cA := cA) (n := n) (tp := root T) (mo := mo) (dr := dr) (ds := ds) (li := li) (ad := ad) (g := g) (hLK : L ∈ K)
      refine va_get (D := D) (ci := 0) (v := va_rf ((g L).2.2.1.map ad)) (C := RX0) (T := TX0) (N := 5) hx hb hts (by decide +kernel) hown hG.1 hP i5 hi5 rfl 3 (by decide) (hts (.fieldLink RX1 160 "LopsidedRanks$Soldier" "right" "LLopsidedRanks$Soldier;") (by decide +kernel)) (fun _ h9 => h9) rfl dX1_removeFromRanks_21 ?_
      refine zr_eqk p3 ?_
      refine zr_astore_n (lv' := [(2, va_rf ((root rt).map ad)), (0, .ref x), (1, .ref (ad L))]) hx hb dX1_removeFromRanks_24 rfl hl (by decide) rfl (fun ls hl => ?_)
      refine L_X1_removeFromRanks (t := rt) hx hb hml hts hown hG hP hnr p5 (fun j hj => (hin j (inr j hj)).1) (fun ls hl => ?_) _ hl
      rw [hm] at hl
      refine lv_aload_n hx hb dX1_removeFromRanks_40 rfl (lv_at hl 1 rfl) ?_
      refine lv_aload_n hx hb dX1_removeFromRanks_41 rfl (lv_at hl 0 rfl) ?_
      refine va_callv (va_runV (As := [.ref (ad mm)]) (rest := []) ⟨hx, hb, hml, hown, hts⟩ (c_X1_removeWithOneSide l (ks := (anc mm T).reverse) hcl hmK (by rw [y1]; exact UpC_top hs) (fun j hj => (hin j (anc_in (List.mem_reverse.mp hj))).1)) (cwV 1 hts gX1_removeFromRanks_X1_removeWithOneSide rfl rfl rfl (by decide +kernel) ⟨Nat.le_of_ble_eq_true rfl, Nat.le_of_ble_eq_true rfl⟩) ⟨PcM.blind, va_recv hG.1 hP (ci := 1) (q0 := 0) rfl cw_x, PcM.at (fun q h => hA q (Nat.le_trans hS.1 h)) hP hG hD⟩ rfl rfl hl.1 rfl (lv_room (Nat.le_of_ble_eq_true rfl)) dX1_removeFromRanks_42 ⟨Nat.zero_le _, Nat.zero_le _⟩) hS (fun q _ h => h) (fun q h => h) (fun u42 t H locs ht hvm q42 hB hz1 hk1 hS => ?_)
      obtain ⟨hP, -, hD⟩ := hB
      rw [ht] at hP
      have hP : va_P D vwCl (cw x ln cA n (sbT (root T) (g mm).1 (orE (g mm).2.1 (g mm).2.2.1)) mo dr ds li K ad (sbG (addG (-1) (anc mm T).reverse g) (g mm).1 mm (orE (g mm).2.1 (g mm).2.2.1))) H := hP
      have hD : va_D A (cw x ln cA n (sbT (root T) (g mm).1 (orE (g mm).2.1 (g mm).2.2.1)) mo dr ds li K ad (sbG (addG (-1) (anc mm T).reverse g) (g mm).1 mm (orE (g mm).2.1 (g mm).2.2.1))) := hD
      have er : orE (g mm).2.1 (g mm).2.2.1 = root rr := by rw [y2, y3]; rfl
      rw [er, y1, ← y11] at hP hD
      obtain ⟨gB, hgB⟩ : ∃ z, z = sbG (addG (-1) (anc mm T).reverse g) (parF mm none T) mm (root rr) := ⟨_, rfl⟩
      rw [← hgB] at hP hD y5 y6
      obtain ⟨T1, hT1⟩ : ∃ z, z = rep mm rr T := ⟨_, rfl⟩
      rw [← hT1] at hP hD y5 y6 y7 y8 y9 y10 y11
      have hLT1 : L ∈ keysT T1 := (subT_mem y7).mp (by rw [y8]; rfl)
      have z1 := ShP_sub (h := L) y5
      have z2 := ShC_sub (h := L) y6
      rw [y8] at z1 z2
      obtain ⟨z11, z12, z13, -, -⟩ := z1
      have hmT1 : mm ∉ keysT T1 := fun q => (y9 mm q).2 rfl
      have hmLne : ¬ L = mm := fun q => (y9 L hLT1).2 q
      have hP : va_P D vwCl (cw x ln cA n (root T1) mo dr ds li K ad gB) H := hP
      have hD : va_D A (cw x ln cA n (root T1) mo dr ds li K ad gB) := hD
      refine lv_aload_n hx hb dX1_removeFromRanks_45 rfl (lv_at hl 0 rfl) ?_
      refine lv_aload_n hx hb dX1_removeFromRanks_46 rfl (lv_at hl 2 rfl) ?_
      obtain ⟨i6, hi6⟩ := cw_s (x := x) (ln := ln) (cA := cA) (n := n) (tp := root T1) (mo := mo) (dr := dr) (ds := ds) (li := li) (ad := ad) (g := gB) (hLK : L ∈ K)
      refine va_get (D := D) (ci := 0) (v := .int (gB L).2.2.2) (C := RX0) (T := TX0) (N := 5) hx hb hts (by decide +kernel) hown hG.1 hP i6 hi6 rfl 4 (by decide) (hts (.fieldLink RX1 147 "LopsidedRanks$Soldier" "company" "I") (by decide +kernel)) (fun _ h9 => h9) rfl dX1_removeFromRanks_47 ?_
      obtain ⟨i7, hi7⟩ := cw_s (x := x) (ln := ln) (cA := cA) (n := n) (tp := root T1) (mo := mo) (dr := dr) (ds := ds) (li := li) (ad := ad) (g := gB) (hmK : mm ∈ K)
      have hDp := hD
      refine va_put (D := D) (ci := 0) (v := .int (gB L).2.2.2) (ty := .int) (C := RX0) (T := TX0) (N := 5) hx hb hts (by decide +kernel) tyX0 tyX0_ok nmX0 hown hG.1 hP hD hS i7 hi7 rfl 4 (by decide) (hts (.fieldLink RX1 147 "LopsidedRanks$Soldier" "company" "I") (by decide +kernel)) (fun _ h9 => h9) rfl (by decide +kernel) rfl rfl (Nat.le_of_ble_eq_true rfl) dX1_removeFromRanks_50 (fun H locs hP hD hS => ?_)
      have hP : va_P D vwCl (cw x ln cA n (root T1) mo dr ds li K ad (va_up gB mm (sC (gB mm) ((gB L).2.2.2)))) H := by rw [← cw_put hDp (hmK : mm ∈ K) hi7 (sC (gB mm) ((gB L).2.2.2)) rfl]; exact hP
      have hD : va_D A (cw x ln cA n (root T1) mo dr ds li K ad (va_up gB mm (sC (gB mm) ((gB L).2.2.2)))) := by rw [← cw_put hDp (hmK : mm ∈ K) hi7 (sC (gB mm) ((gB L).2.2.2)) rfl]; exact hD
      refine lv_aload_n hx hb dX1_removeFromRanks_53 rfl (lv_at hl 0 rfl) ?_
      refine lv_null hx hb dX1_removeFromRanks_54 ?_
      obtain ⟨i8, hi8⟩ := cw_s (x := x) (ln := ln) (cA := cA) (n := n) (tp := root T1) (mo := mo) (dr := dr) (ds := ds) (li := li) (ad := ad) (g := va_up gB mm (sC (gB mm) ((gB L).2.2.2))) (hmK : mm ∈ K)
      have hDp := hD
      refine va_put (D := D) (ci := 0) (v := .null) (ty := .object RX0) (C := RX0) (T := TX0) (N := 5) hx hb hts (by decide +kernel) tyX0 tyX0_ok nmX0 hown hG.1 hP hD hS i8 hi8 rfl 2 (by decide) (hts (.fieldLink RX1 150 "LopsidedRanks$Soldier" "left" "LLopsidedRanks$Soldier;") (by decide +kernel)) (fun _ h9 => h9) rfl (by decide +kernel) rfl rfl (Nat.le_of_ble_eq_true rfl) dX1_removeFromRanks_55 (fun H locs hP hD hS => ?_)
      have hP : va_P D vwCl (cw x ln cA n (root T1) mo dr ds li K ad (va_up (va_up gB mm (sC (gB mm) ((gB L).2.2.2))) mm (sL ((va_up gB mm (sC (gB mm) ((gB L).2.2.2))) mm) none))) H := by rw [← cw_put hDp (hmK : mm ∈ K) hi8 (sL ((va_up gB mm (sC (gB mm) ((gB L).2.2.2))) mm) none) rfl]; exact hP
      have hD : va_D A (cw x ln cA n (root T1) mo dr ds li K ad (va_up (va_up gB mm (sC (gB mm) ((gB L).2.2.2))) mm (sL ((va_up gB mm (sC (gB mm) ((gB L).2.2.2))) mm) none))) := by rw [← cw_put hDp (hmK : mm ∈ K) hi8 (sL ((va_up gB mm (sC (gB mm) ((gB L).2.2.2))) mm) none) rfl]; exact hD
      refine lv_aload_n hx hb dX1_removeFromRanks_58 rfl (lv_at hl 0 rfl) ?_
      refine lv_null hx hb dX1_removeFromRanks_59 ?_
      obtain ⟨i9, hi9⟩ := cw_s (x := x) (ln := ln) (cA := cA) (n := n) (tp := root T1) (mo := mo) (dr := dr) (ds := ds) (li := li) (ad := ad) (g := va_up (va_up gB mm (sC (gB mm) ((gB L).2.2.2))) mm (sL ((va_up gB mm (sC (gB mm) ((gB L).2.2.2))) mm) none)) (hmK : mm ∈ K)
      have hDp := hD
      refine va_put (D := D) (ci := 0) (v := .null) (ty := .object RX0) (C := RX0) (T := TX0) (N := 5) hx hb hts (by decide +kernel) tyX0 tyX0_ok nmX0 hown hG.1 hP hD hS i9 hi9 rfl 3 (by decide) (hts (.fieldLink RX1 160 "LopsidedRanks$Soldier" "right" "LLopsidedRanks$Soldier;") (by decide +kernel)) (fun _ h9 => h9) rfl (by decide +kernel) rfl rfl (Nat.le_of_ble_eq_true rfl) dX1_removeFromRanks_60 (fun H locs hP hD hS => ?_)
      have hP : va_P D vwCl (cw x ln cA n (root T1) mo dr ds li K ad (va_up (va_up (va_up gB mm (sC (gB mm) ((gB L).2.2.2))) mm (sL ((va_up gB mm (sC (gB mm) ((gB L).2.2.2))) mm) none)) mm (sR ((va_up (va_up gB mm (sC (gB mm) ((gB L).2.2.2))) mm (sL ((va_up gB mm (sC (gB mm) ((gB L).2.2.2))) mm) none)) mm) none))) H := by rw [← cw_put hDp (hmK : mm ∈ K) hi9 (sR ((va_up (va_up gB mm (sC (gB mm) ((gB L).2.2.2))) mm (sL ((va_up gB mm (sC (gB mm) ((gB L).2.2.2))) mm) none)) mm) none) rfl]; exact hP
      have hD : va_D A (cw x ln cA n (root T1) mo dr ds li K ad (va_up (va_up (va_up gB mm (sC (gB mm) ((gB L).2.2.2))) mm (sL ((va_up gB mm (sC (gB mm) ((gB L).2.2.2))) mm) none)) mm (sR ((va_up (va_up gB mm (sC (gB mm) ((gB L).2.2.2))) mm (sL ((va_up gB mm (sC (gB mm) ((gB L).2.2.2))) mm) none)) mm) none))) := by rw [← cw_put hDp (hmK : mm ∈ K) hi9 (sR ((va_up (va_up gB mm (sC (gB mm) ((gB L).2.2.2))) mm (sL ((va_up gB mm (sC (gB mm) ((gB L).2.2.2))) mm) none)) mm) none) rfl]; exact hD
      obtain ⟨g3, hg3⟩ : ∃ z, z = va_up (va_up (va_up gB mm (sC (gB mm) ((gB L).2.2.2))) mm (sL ((va_up gB mm (sC (gB mm) ((gB L).2.2.2))) mm) none)) mm (sR ((va_up (va_up gB mm (sC (gB mm) ((gB L).2.2.2))) mm (sL ((va_up gB mm (sC (gB mm) ((gB L).2.2.2))) mm) none)) mm) none) := ⟨_, rfl⟩
      rw [← hg3] at hP hD
      have h3 : ∀ k, k ≠ mm → g3 k = gB k := fun k hk => by rw [hg3, va_up_ne _ _ hk, va_up_ne _ _ hk, va_up_ne _ _ hk]
      have h3l : (g3 mm).2.1 = none := by rw [hg3]; simp [va_up, sR, sL, sC]
      have h3r : (g3 mm).2.2.1 = none := by rw [hg3]; simp [va_up, sR, sL, sC]
      have h3c : (g3 mm).2.2.2 = nI (siz lt + siz (dmn rt) + 1) := by rw [hg3]; simp only [va_up_self, sR, sL, sC]; exact z2.1
      have hmrt : mm ∈ keysT rt := by
        obtain ⟨s5, v5, r5, w1, w2, w3⟩ := mn_sub b2 hnr
        rw [hm] at w3; rw [w3]; exact List.mem_cons_self
      have hmdm : ∀ j ∈ keysT (dmn rt), mm < j := by
        obtain ⟨s5, v5, r5, w1, w2, w3⟩ := mn_sub b2 hnr
        rw [hm] at w3
        have w4 : (keysT rt).Pairwise (· < ·) := b2
        rw [w3] at w4
        exact (List.pairwise_cons.mp w4).1
      obtain ⟨u1, u2, u3, u4, u5⟩ := delB2 y7 y5 y6 y8 hnl hmT1 (b4 mm hmrt) hmdm h3 h3l h3r h3c
      rw [y10, ← hjn] at u3 u4 u5
      refine lv_aload_n hx hb dX1_removeFromRanks_63 rfl (lv_at hl 1 rfl) ?_
      refine lv_aload_n hx hb dX1_removeFromRanks_64 rfl (lv_at hl 2 rfl) ?_
      obtain ⟨i10, hi10⟩ := cw_s (x := x) (ln := ln) (cA := cA) (n := n) (tp := root T1) (mo := mo) (dr := dr) (ds := ds) (li := li) (ad := ad) (g := g3) (hLK : L ∈ K)
      refine va_get (D := D) (ci := 0) (v := va_rf ((g3 L).1.map ad)) (C := RX0) (T := TX0) (N := 5) hx hb hts (by decide +kernel) hown hG.1 hP i10 hi10 rfl 1 (by decide) (hts (.fieldLink RX1 130 "LopsidedRanks$Soldier" "above" "LLopsidedRanks$Soldier;") (by decide +kernel)) (fun _ h9 => h9) rfl dX1_removeFromRanks_65 ?_
      refine zr_eqk (y := parF L none T1) (by rw [h3 L hmLne]; exact z11) ?_
      refine lv_aload_n hx hb dX1_removeFromRanks_68 rfl (lv_at hl 2 rfl) ?_
      obtain ⟨i11, hi11⟩ := cw_s (x := x) (ln := ln) (cA := cA) (n := n) (tp := root T1) (mo := mo) (dr := dr) (ds := ds) (li := li) (ad := ad) (g := g3) (hLK : L ∈ K)
      refine va_get (D := D) (ci := 0) (v := .int (nI L)) (C := RX0) (T := TX0) (N := 5) hx hb hts (by decide +kernel) hown hG.1 hP i11 hi11 rfl 0 (by decide) (hts (.fieldLink RX1 100 "LopsidedRanks$Soldier" "height" "I") (by decide +kernel)) (fun _ h9 => h9) rfl dX1_removeFromRanks_69 ?_
      refine lv_aload_n hx hb dX1_removeFromRanks_72 rfl (lv_at hl 0 rfl) ?_
      refine va_callv (va_runV (As := [va_rf ((parF L none T1).map ad), .int (nI L), .ref (ad mm)]) (rest := []) ⟨hx, hb, hml, hown, hts⟩ (c_X1_standBelow l (p0 := parF L none T1) (r0 := some mm) (fun c e => (hin c (y9 c (parF_mem e)).1).1) (fun c e => (hin c (y9 c (parF_mem e)).1).2) hLn (fun c e => by cases e; exact hmK)) (cwV 3 hts gX1_removeFromRanks_X1_standBelow rfl rfl rfl (by decide +kernel) ⟨Nat.le_of_ble_eq_true rfl, Nat.le_of_ble_eq_true rfl⟩) ⟨PcM.blind, va_recv hG.1 hP (ci := 1) (q0 := 0) rfl cw_x, PcM.at (fun q h => hA q (Nat.le_trans hS.1 h)) hP hG hD⟩ rfl rfl hl.1 rfl (lv_room (Nat.le_of_ble_eq_true rfl)) dX1_removeFromRanks_73 ⟨Nat.zero_le _, Nat.zero_le _⟩) hS (fun q _ h => h) (fun q h => h) (fun u73 t H locs ht hvm q73 hB hz1 hk1 hS => ?_)
      obtain ⟨hP, -, hD⟩ := hB
      rw [ht] at hP
      have hP : va_P D vwCl (cw x ln cA n (sbT (root T1) (parF L none T1) (some mm)) mo dr ds li K ad (sbG g3 (parF L none T1) L (some mm))) H := hP
      have hD : va_D A (cw x ln cA n (sbT (root T1) (parF L none T1) (some mm)) mo dr ds li K ad (sbG g3 (parF L none T1) L (some mm))) := hD
      refine lv_aload_n hx hb dX1_removeFromRanks_76 rfl (lv_at hl 2 rfl) ?_
      obtain ⟨i12, hi12⟩ := cw_s (x := x) (ln := ln) (cA := cA) (n := n) (tp := sbT (root T1) (parF L none T1) (some mm)) (mo := mo) (dr := dr) (ds := ds) (li := li) (ad := ad) (g := sbG g3 (parF L none T1) L (some mm)) (hLK : L ∈ K)
      refine va_get (D := D) (ci := 0) (v := va_rf (((sbG g3 (parF L none T1) L (some mm)) L).2.1.map ad)) (C := RX0) (T := TX0) (N := 5) hx hb hts (by decide +kernel) hown hG.1 hP i12 hi12 rfl 2 (by decide) (hts (.fieldLink RX1 150 "LopsidedRanks$Soldier" "left" "LLopsidedRanks$Soldier;") (by decide +kernel)) (fun _ h9 => h9) rfl dX1_removeFromRanks_77 ?_
      refine zr_eqk u1 ?_
      refine lv_aload_n hx hb dX1_removeFromRanks_80 rfl (lv_at hl 0 rfl) ?_
      refine va_callv (va_runS (As := [va_rf ((root lt).map ad), .ref (ad mm)]) (rest := []) ⟨hx, hb, hml, hown, hts⟩ (c_X1_handOver l (r0 := root lt) (q0 := mm) hmK hmn (fun c e => (hin c (inl c (root_in e))).1) (fun c e => (hin c (inl c (root_in e))).2)) (va_cwS 2 hts gX1_removeFromRanks_X1_handOver rfl rfl rfl (by decide +kernel) ⟨Nat.le_of_ble_eq_true rfl, Nat.le_of_ble_eq_true rfl⟩) ⟨PcM.blind, PcM.at (fun q h => hA q (Nat.le_trans hS.1 h)) hP hG hD⟩ rfl rfl hl.1 rfl (lv_room (Nat.le_of_ble_eq_true rfl)) dX1_removeFromRanks_81 ⟨Nat.zero_le _, Nat.zero_le _⟩) hS (fun q _ h => h) (fun q h => h) (fun u81 t H locs ht hvm q81 hB hz1 hk1 hS => ?_)
      obtain ⟨hP, -, hD⟩ := hB
      rw [ht] at hP
      have hP : va_P D vwCl (cw x ln cA n (sbT (root T1) (parF L none T1) (some mm)) mo dr ds li K ad (hoG (sbG g3 (parF L none T1) L (some mm)) (root lt) mm)) H := hP
      have hD : va_D A (cw x ln cA n (sbT (root T1) (parF L none T1) (some mm)) mo dr ds li K ad (hoG (sbG g3 (parF L none T1) L (some mm)) (root lt) mm)) := hD
      refine lv_aload_n hx hb dX1_removeFromRanks_84 rfl (lv_at hl 2 rfl) ?_
      obtain ⟨i13, hi13⟩ := cw_s (x := x) (ln := ln) (cA := cA) (n := n) (tp := sbT (root T1) (parF L none T1) (some mm)) (mo := mo) (dr := dr) (ds := ds) (li := li) (ad := ad) (g := hoG (sbG g3 (parF L none T1) L (some mm)) (root lt) mm) (hLK : L ∈ K)
      refine va_get (D := D) (ci := 0) (v := va_rf (((hoG (sbG g3 (parF L none T1) L (some mm)) (root lt) mm) L).2.2.1.map ad)) (C := RX0) (T := TX0) (N := 5) hx hb hts (by decide +kernel) hown hG.1 hP i13 hi13 rfl 3 (by decide) (hts (.fieldLink RX1 160 "LopsidedRanks$Soldier" "right" "LLopsidedRanks$Soldier;") (by decide +kernel)) (fun _ h9 => h9) rfl dX1_removeFromRanks_85 ?_
      refine zr_eqk u2 ?_
      refine lv_aload_n hx hb dX1_removeFromRanks_88 rfl (lv_at hl 0 rfl) ?_
      refine va_callv (va_runS (As := [va_rf ((root (dmn rt)).map ad), .ref (ad mm)]) (rest := []) ⟨hx, hb, hml, hown, hts⟩ (c_X1_handOver l (r0 := root (dmn rt)) (q0 := mm) hmK hmn (fun c e => (hin c (hdmT c (root_in e))).1) (fun c e => (hin c (hdmT c (root_in e))).2)) (va_cwS 2 hts gX1_removeFromRanks_X1_handOver rfl rfl rfl (by decide +kernel) ⟨Nat.le_of_ble_eq_true rfl, Nat.le_of_ble_eq_true rfl⟩) ⟨PcM.blind, PcM.at (fun q h => hA q (Nat.le_trans hS.1 h)) hP hG hD⟩ rfl rfl hl.1 rfl (lv_room (Nat.le_of_ble_eq_true rfl)) dX1_removeFromRanks_89 ⟨Nat.zero_le _, Nat.zero_le _⟩) hS (fun q _ h => h) (fun q h => h) (fun u89 t H locs ht hvm q89 hB hz1 hk1 hS => ?_)
      obtain ⟨hP, -, hD⟩ := hB
      rw [ht] at hP
      have hP : va_P D vwCl (cw x ln cA n (sbT (root T1) (parF L none T1) (some mm)) mo dr ds li K ad (hoG (hoG (sbG g3 (parF L none T1) L (some mm)) (root lt) mm) (root (dmn rt)) mm)) H := hP
      have hD : va_D A (cw x ln cA n (sbT (root T1) (parF L none T1) (some mm)) mo dr ds li K ad (hoG (hoG (sbG g3 (parF L none T1) L (some mm)) (root lt) mm) (root (dmn rt)) mm)) := hD
      rw [u5] at hP hD
      exact W.vret hx hb hr (fun t ht hW => ⟨⟨_, rfl, ⟨u3, u4⟩, by rw [ht]; exact hP, hG.moved hW, hD⟩, hS.F ht⟩) hS.2.2 dX1_removeFromRanks_92
end
