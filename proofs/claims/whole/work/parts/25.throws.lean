/-! THROWS: what the start must give, and the two refusals -/
abbrev eIA : String := "java/lang/IllegalArgumentException"
abbrev eIS : String := "java/lang/IllegalStateException"
abbrev eIO : String := "java/lang/IndexOutOfBoundsException"
def GX (sa : Nat → Nat) (A : Nat → Prop) (U : State) (H : Heap) : Prop :=
  (va_Nw (.castable eIA eIA) U ∧ va_Nw (.castable eIS eIS) U ∧ va_Nw (.castable eIO eIO) U ∧ va_Nw (.declares (Bundle.initS "java/lang/RuntimeException")) U ∧ va_Nw (.declares (Bundle.initS "java/lang/Exception")) U ∧ va_Nw (.declares (Bundle.initS Bundle.tN)) U) ∧
  (vk_R RX1 142 "a height is 0 to 999" (sa 0) U ∧ vk_R RX1 29 "one of this height is there, or there are 150" (sa 1) U ∧ vk_R RX1 69 "nobody has this height" (sa 2) U ∧ vk_R RX1 145 "what is 0 to 7" (sa 3) U ∧ vk_R RX1 97 "there is no such place" (sa 4) U ∧ vk_R RX1 106 "nobody has one of these heights" (sa 5) U) ∧
  vx_Zq Bundle.tN "UNASSIGNED_STACK" Bundle.steD A U H ∧ vx_Zq Bundle.tN "SUPPRESSED_SENTINEL" Bundle.listD A U H
theorem GX.moved {sa : Nat → Nat} {A : Nat → Prop} {u U : State} {H H1 : Heap} (hW : u.WarmedH U.vm) (hk : ∀ q : Nat, q < H.size → ¬ A q → H1[q]? = H[q]?) (h : GX sa A u H) : GX sa A U H1 := by
  obtain ⟨⟨a1, a2, a3, a4, a5, a6⟩, ⟨b1, b2, b3, b4, b5, b6⟩, c1, c2⟩ := h
  exact ⟨⟨va_Nw.warmC hW a1, va_Nw.warmC hW a2, va_Nw.warmC hW a3, va_Nw.warmD hW a4, va_Nw.warmD hW a5, va_Nw.warmD hW a6⟩, ⟨b1.warm hW, b2.warm hW, b3.warm hW, b4.warm hW, b5.warm hW, b6.warm hW⟩, (c1.kept hk).moved hW.alike, (c2.kept hk).moved hW.alike⟩
theorem GX.narrow {sa : Nat → Nat} {A B : Nat → Prop} {U : State} {H : Heap} (hAB : ∀ q, B q → A q) (h : GX sa A U H) : GX sa B U H := by
  obtain ⟨a, b, c1, c2⟩ := h
  exact ⟨a, b, c1.narrow hAB, c2.narrow hAB⟩
/-- a start that may write, and throw -/
def PcX (sa : Nat → Nat) (D : va_G) (tys : List (ClassId × FieldType)) (A : Nat → Prop) (ws : va_W) (av : List Value) : Array Value → State → Prop := va_Pc av (fun U => (∀ q, U.heap.size ≤ q → A q) ∧ va_P D vwCl ws U.heap ∧ GK D tys U ∧ va_D A ws ∧ GX sa A U U.heap)
theorem PcX.blind {sa : Nat → Nat} {D : va_G} {tys : List (ClassId × FieldType)} {A : Nat → Prop} {ws : va_W} {av : List Value} : FrameBlind (PcX sa D tys A ws av) := fun _ U g mk q => ⟨q.1, q.2.1, q.2.2.1, q.2.2.2.1.calling, q.2.2.2.2.1, GX.moved (U := U.calling g mk _) (State.WarmedH.refl U) (fun _ _ _ => rfl) q.2.2.2.2.2⟩
theorem PcX.at {sa : Nat → Nat} {D : va_G} {tys : List (ClassId × FieldType)} {A : Nat → Prop} {ws : va_W} {av : List Value} {s : State} {H : Heap} {locs : List Loc} (hA : ∀ q, s.heap.size ≤ q → A q) (hS : va_S A s.heap H locs) (hP : va_P D vwCl ws H) (hG : GK D tys s) (hD : va_D A ws) (hX : GX sa A s s.heap) : ∀ U : State, U.heap = H → s.WarmedH U.vm → PcX sa D tys A ws av av.toArray U := fun U hU hW => ⟨rfl, fun q h => hA q (Nat.le_trans hS.1 (by rw [hU] at h; exact h)), by rw [hU]; exact hP, hG.moved hW, hD, hX.moved hW (fun q h1 h2 => by rw [hU]; exact hS.2.1 q h1 h2)⟩
/-- the world behind a throw -/
def BMx (D : va_G) (A : Nat → Prop) (ws : va_W) (t : State) : Prop := va_P D vwCl ws t.heap ∧ va_D A ws
theorem BMx.new {D : va_G} {A : Nat → Prop} {ws : va_W} {H : Heap} {t : State} (hP : va_P D vwCl ws H) (hD : va_D A ws) (hk : ∀ q : Nat, q < H.size → t.heap[q]? = H[q]?) : BMx D A ws t := ⟨hP.kept (fun k q h => hk q.1 (hP k q h).lt), hD⟩
theorem xF {A : Nat → Prop} {s t : State} {H : Heap} {locs : List Loc} (hS : va_S A s.heap H locs) (hz : H.size ≤ t.heap.size) (hk : ∀ q : Nat, q < H.size → t.heap[q]? = H[q]?) : va_F A s t := ⟨Nat.le_trans hS.1 hz, fun q h1 h2 => (hk q (Nat.lt_of_lt_of_le h1 hS.1)).trans (hS.2.1 q h1 h2)⟩
/-- a height is refused -/
def oddH (x : Int32) : Prop := x < 0 ∨ 999 < x
theorem oddH.not {x : Int32} (h : ¬ oddH x) : ∃ j : Nat, j < 1000 ∧ x = nI j := nI_height (fun q => h (Or.inl q)) (fun q => h (Or.inr q))
def oddQ (x : Int32) : Prop := x < 0 ∨ 7 < x
theorem oddQ.not {x : Int32} (h : ¬ oddQ x) : ∃ j : Nat, j ≤ 7 ∧ x = nI j := by
  obtain ⟨j, hj, rfl⟩ := nI_of (fun q => h (Or.inl q))
  refine ⟨j, ?_, rfl⟩
  rcases Nat.lt_or_ge 7 j with q | q
  · exact absurd (Or.inr ((nI_ltI (a := 7) (by decide) hj).mpr q)) h
  · exact q
theorem oddH_nI {j : Nat} (h : j < 1000) : ¬ oddH (nI j) := by
  rintro (q | q)
  · exact nI_pos (by omega) q
  · have := (nI_ltI (a := 999) (by decide) (by omega)).mp q; omega
theorem oddQ_nI {j : Nat} (h : j ≤ 7) : ¬ oddQ (nI j) := by
  rintro (q | q)
  · exact nI_pos (by omega) q
  · have := (nI_ltI (a := 7) (by decide) (by omega)).mp q; omega
set_option maxHeartbeats 4000000 in
set_option maxRecDepth 100000 in
/-- X1_refuseOddHeight -/
theorem c_X1_refuseOddHeight (l : Launch) (hst : l.stackTraces = false) {D : va_G} {cA cZ cI : ClassId} {sa : Nat → Nat} {A : Nat → Prop} {ws : va_W} {x0 : Int32} : vx_Met l yX1_refuseOddHeight wsX1_refuseOddHeight ({ frames := 6, cells := 1, slots := 6, locals := 240 } : Room) (PcX sa D (tysA cA cZ cI) A ws [.int x0]) (va_Qv (S := Unit) (fun _ => ¬ oddH x0) (fun _ => BM D (tysA cA cZ cI) A ws) A) (vx_X (S := Unit) (fun _ => True) (fun E _ t => oddH x0 ∧ E = eIA ∧ BMx D A ws t) A) 1 6 A := by
  refine vx_ofW (cc := cX1_refuseOddHeight) (maxL := 1) (ret := none) (by decide) rfl ?_
  intro p e s m args below meth c s₁ B hml ht0 hv
  obtain ⟨rfl, hA, hP, hG, hD, hX⟩ := hv
  have hx := B.exec
  have hb := B.bytes
  have hr := B.returns
  have hts := atoms_spec (ws := wsX1_refuseOddHeight) B.pre
  have hown : s.vm.findClass RX1 = some m.cls := findClass_of_methodNamed B.named
  have hlocks := B.notSynchronized
  have hl := lv_entry ([.int x0]) (n := 1) (Nat.le_of_ble_eq_true rfl)
  rw [lg_entry_eq]
  generalize (lg_sl ([.int x0]) ++ List.replicate (1 - (lg_sl ([.int x0])).length) Slot.unset).toArray = ls at hl ⊢
  have hl : lv_has ls 1 [(0, .int x0)] := hl
  have hS : va_S A s.heap s.heap [] := va_S.rf
  refine lv_iload_n hx hb dX1_refuseOddHeight_0 rfl (lv_at hl 0 rfl) ?_
  refine lv_if_lt (tgt := 11) hx hb dX1_refuseOddHeight_1 (by decide) (fun c1 => ?_) (fun c1 => ?_)
  · exact vx_throwS hx hb hst hown (cls := eIA) (text := "a height is 0 to 999") (names := ["java/lang/RuntimeException", "java/lang/Exception"]) (by decide +kernel) (by decide +kernel) (hts (.classLink RX1 140 "java/lang/IllegalArgumentException") (by decide +kernel)) (hts (.initialized "java/lang/IllegalArgumentException") (by decide +kernel)) (hX.2.1.1) (vx_hat (L := vx_atS RX1 144 "java/lang/IllegalArgumentException" ["java/lang/RuntimeException", "java/lang/Exception"]) (B := [.castable eIA eIA, .declares (Bundle.initS "java/lang/RuntimeException"), .declares (Bundle.initS "java/lang/Exception"), .declares (Bundle.initS Bundle.tN)]) (fun w hw => hts w (List.mem_cons_of_mem _ (List.mem_append_right _ hw))) (by decide +kernel) (vx_c (va_Nw.use rfl hX.1.1) (vx_c (va_Nw.use rfl hX.1.2.2.2.1) (vx_c (va_Nw.use rfl hX.1.2.2.2.2.1) (vx_c (va_Nw.use rfl hX.1.2.2.2.2.2) vx_n))))) (by decide +kernel) hX.2.2.1 hX.2.2.2 hS (hl.1.trans hml.symm) dX1_refuseOddHeight_11 dX1_refuseOddHeight_14 dX1_refuseOddHeight_15 dX1_refuseOddHeight_17 dX1_refuseOddHeight_20 (fun x hx => (ht0 x hx).elim) (Nat.le_of_ble_eq_true rfl) (Nat.le_of_ble_eq_true rfl) (Nat.le_of_ble_eq_true rfl) (Nat.le_of_ble_eq_true rfl) hlocks (fun t hvm hz hk => ⟨(), trivial, ⟨Or.inl c1, rfl, BMx.new hP hD hk⟩, xF hS hz hk⟩) hS.2.2 (Nat.le_of_ble_eq_true rfl) (Nat.le_of_ble_eq_true rfl)
  · refine lv_iload_n hx hb dX1_refuseOddHeight_4 rfl (lv_at hl 0 rfl) ?_
    refine lv_sipush (v := nI 999) hx hb dX1_refuseOddHeight_5 (by decide) ?_
    refine lv_icmp_le (tgt := 21) hx hb dX1_refuseOddHeight_8 (by decide) (fun c8 => ?_) (fun c8 => ?_)
    · refine W.widen (k := 1) (n := 6) (Nat.le_of_ble_eq_true rfl) (Nat.le_of_ble_eq_true rfl) ?_
      exact vx_ret (W.vret hx hb hr (fun t ht hW => ⟨⟨(), rfl, fun q => q.elim c1 (fun z => Int32.not_le.mpr z c8), by rw [ht]; exact hP, hG.moved hW, hD⟩, hS.F ht⟩) hS.2.2 dX1_refuseOddHeight_21)
    · exact vx_throwS hx hb hst hown (cls := eIA) (text := "a height is 0 to 999") (names := ["java/lang/RuntimeException", "java/lang/Exception"]) (by decide +kernel) (by decide +kernel) (hts (.classLink RX1 140 "java/lang/IllegalArgumentException") (by decide +kernel)) (hts (.initialized "java/lang/IllegalArgumentException") (by decide +kernel)) (hX.2.1.1) (vx_hat (L := vx_atS RX1 144 "java/lang/IllegalArgumentException" ["java/lang/RuntimeException", "java/lang/Exception"]) (B := [.castable eIA eIA, .declares (Bundle.initS "java/lang/RuntimeException"), .declares (Bundle.initS "java/lang/Exception"), .declares (Bundle.initS Bundle.tN)]) (fun w hw => hts w (List.mem_cons_of_mem _ (List.mem_append_right _ hw))) (by decide +kernel) (vx_c (va_Nw.use rfl hX.1.1) (vx_c (va_Nw.use rfl hX.1.2.2.2.1) (vx_c (va_Nw.use rfl hX.1.2.2.2.2.1) (vx_c (va_Nw.use rfl hX.1.2.2.2.2.2) vx_n))))) (by decide +kernel) hX.2.2.1 hX.2.2.2 hS (hl.1.trans hml.symm) dX1_refuseOddHeight_11 dX1_refuseOddHeight_14 dX1_refuseOddHeight_15 dX1_refuseOddHeight_17 dX1_refuseOddHeight_20 (fun x hx => (ht0 x hx).elim) (Nat.le_of_ble_eq_true rfl) (Nat.le_of_ble_eq_true rfl) (Nat.le_of_ble_eq_true rfl) (Nat.le_of_ble_eq_true rfl) hlocks (fun t hvm hz hk => ⟨(), trivial, ⟨Or.inr (Int32.not_le.mp c8), rfl, BMx.new hP hD hk⟩, xF hS hz hk⟩) hS.2.2 (Nat.le_of_ble_eq_true rfl) (Nat.le_of_ble_eq_true rfl)

set_option maxHeartbeats 4000000 in
set_option maxRecDepth 100000 in
/-- X1_refuseOddQuestion -/
theorem c_X1_refuseOddQuestion (l : Launch) (hst : l.stackTraces = false) {D : va_G} {cA cZ cI : ClassId} {sa : Nat → Nat} {A : Nat → Prop} {ws : va_W} {x0 : Int32} : vx_Met l yX1_refuseOddQuestion wsX1_refuseOddQuestion ({ frames := 6, cells := 1, slots := 6, locals := 240 } : Room) (PcX sa D (tysA cA cZ cI) A ws [.int x0]) (va_Qv (S := Unit) (fun _ => ¬ oddQ x0) (fun _ => BM D (tysA cA cZ cI) A ws) A) (vx_X (S := Unit) (fun _ => True) (fun E _ t => oddQ x0 ∧ E = eIO ∧ BMx D A ws t) A) 1 6 A := by
  refine vx_ofW (cc := cX1_refuseOddQuestion) (maxL := 1) (ret := none) (by decide) rfl ?_
  intro p e s m args below meth c s₁ B hml ht0 hv
  obtain ⟨rfl, hA, hP, hG, hD, hX⟩ := hv
  have hx := B.exec
  have hb := B.bytes
  have hr := B.returns
  have hts := atoms_spec (ws := wsX1_refuseOddQuestion) B.pre
  have hown : s.vm.findClass RX1 = some m.cls := findClass_of_methodNamed B.named
  have hlocks := B.notSynchronized
  have hl := lv_entry ([.int x0]) (n := 1) (Nat.le_of_ble_eq_true rfl)
  rw [lg_entry_eq]
  generalize (lg_sl ([.int x0]) ++ List.replicate (1 - (lg_sl ([.int x0])).length) Slot.unset).toArray = ls at hl ⊢
  have hl : lv_has ls 1 [(0, .int x0)] := hl
  have hS : va_S A s.heap s.heap [] := va_S.rf
  refine lv_iload_n hx hb dX1_refuseOddQuestion_0 rfl (lv_at hl 0 rfl) ?_
  refine lv_if_lt (tgt := 10) hx hb dX1_refuseOddQuestion_1 (by decide) (fun c1 => ?_) (fun c1 => ?_)
  · exact vx_throwS hx hb hst hown (cls := eIO) (text := "what is 0 to 7") (names := ["java/lang/RuntimeException", "java/lang/Exception"]) (by decide +kernel) (by decide +kernel) (hts (.classLink RX1 95 "java/lang/IndexOutOfBoundsException") (by decide +kernel)) (hts (.initialized "java/lang/IndexOutOfBoundsException") (by decide +kernel)) (hX.2.1.2.2.2.1) (vx_hat (L := vx_atS RX1 99 "java/lang/IndexOutOfBoundsException" ["java/lang/RuntimeException", "java/lang/Exception"]) (B := [.castable eIO eIO, .declares (Bundle.initS "java/lang/RuntimeException"), .declares (Bundle.initS "java/lang/Exception"), .declares (Bundle.initS Bundle.tN)]) (fun w hw => hts w (List.mem_cons_of_mem _ (List.mem_append_right _ hw))) (by decide +kernel) (vx_c (va_Nw.use rfl hX.1.2.2.1) (vx_c (va_Nw.use rfl hX.1.2.2.2.1) (vx_c (va_Nw.use rfl hX.1.2.2.2.2.1) (vx_c (va_Nw.use rfl hX.1.2.2.2.2.2) vx_n))))) (by decide +kernel) hX.2.2.1 hX.2.2.2 hS (hl.1.trans hml.symm) dX1_refuseOddQuestion_10 dX1_refuseOddQuestion_13 dX1_refuseOddQuestion_14 dX1_refuseOddQuestion_16 dX1_refuseOddQuestion_19 (fun x hx => (ht0 x hx).elim) (Nat.le_of_ble_eq_true rfl) (Nat.le_of_ble_eq_true rfl) (Nat.le_of_ble_eq_true rfl) (Nat.le_of_ble_eq_true rfl) hlocks (fun t hvm hz hk => ⟨(), trivial, ⟨Or.inl c1, rfl, BMx.new hP hD hk⟩, xF hS hz hk⟩) hS.2.2 (Nat.le_of_ble_eq_true rfl) (Nat.le_of_ble_eq_true rfl)
  · refine lv_iload_n hx hb dX1_refuseOddQuestion_4 rfl (lv_at hl 0 rfl) ?_
    refine lv_bipush (v := nI 7) hx hb dX1_refuseOddQuestion_5 (by decide) ?_
    refine lv_icmp_le (tgt := 20) hx hb dX1_refuseOddQuestion_7 (by decide) (fun c7 => ?_) (fun c7 => ?_)
    · refine W.widen (k := 1) (n := 6) (Nat.le_of_ble_eq_true rfl) (Nat.le_of_ble_eq_true rfl) ?_
      exact vx_ret (W.vret hx hb hr (fun t ht hW => ⟨⟨(), rfl, fun q => q.elim c1 (fun z => Int32.not_le.mpr z c7), by rw [ht]; exact hP, hG.moved hW, hD⟩, hS.F ht⟩) hS.2.2 dX1_refuseOddQuestion_20)
    · exact vx_throwS hx hb hst hown (cls := eIO) (text := "what is 0 to 7") (names := ["java/lang/RuntimeException", "java/lang/Exception"]) (by decide +kernel) (by decide +kernel) (hts (.classLink RX1 95 "java/lang/IndexOutOfBoundsException") (by decide +kernel)) (hts (.initialized "java/lang/IndexOutOfBoundsException") (by decide +kernel)) (hX.2.1.2.2.2.1) (vx_hat (L := vx_atS RX1 99 "java/lang/IndexOutOfBoundsException" ["java/lang/RuntimeException", "java/lang/Exception"]) (B := [.castable eIO eIO, .declares (Bundle.initS "java/lang/RuntimeException"), .declares (Bundle.initS "java/lang/Exception"), .declares (Bundle.initS Bundle.tN)]) (fun w hw => hts w (List.mem_cons_of_mem _ (List.mem_append_right _ hw))) (by decide +kernel) (vx_c (va_Nw.use rfl hX.1.2.2.1) (vx_c (va_Nw.use rfl hX.1.2.2.2.1) (vx_c (va_Nw.use rfl hX.1.2.2.2.2.1) (vx_c (va_Nw.use rfl hX.1.2.2.2.2.2) vx_n))))) (by decide +kernel) hX.2.2.1 hX.2.2.2 hS (hl.1.trans hml.symm) dX1_refuseOddQuestion_10 dX1_refuseOddQuestion_13 dX1_refuseOddQuestion_14 dX1_refuseOddQuestion_16 dX1_refuseOddQuestion_19 (fun x hx => (ht0 x hx).elim) (Nat.le_of_ble_eq_true rfl) (Nat.le_of_ble_eq_true rfl) (Nat.le_of_ble_eq_true rfl) (Nat.le_of_ble_eq_true rfl) hlocks (fun t hvm hz hk => ⟨(), trivial, ⟨Or.inr (Int32.not_le.mp c7), rfl, BMx.new hP hD hk⟩, xF hS hz hk⟩) hS.2.2 (Nat.le_of_ble_eq_true rfl) (Nat.le_of_ble_eq_true rfl)

