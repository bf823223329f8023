/-! THE CLASS's calls that read -/
set_option maxHeartbeats 4000000 in
set_option maxRecDepth 100000 in
/-- isThere -/
theorem c_X1_isThere (l : Launch) (hst : l.stackTraces = false) {D : va_G} {cA cZ cI : ClassId} {sa : Nat → Nat} {A : Nat → Prop} {x ln : Nat} {mo dr ds : Int32} {ad : Nat → Nat} {g : Nat → Nd} {T : Tr} {x0 : Int32} (hrep : RepC T (keysT T) g) : vx_Met l yX1_isThere wsX1_isThere ({ frames := 8, cells := 4, slots := 30, locals := 320 } : Room) (PcX sa D (tysA cA cZ cI) A (CWT x ln cA T mo dr ds ad g) [.ref x, .int x0]) (va_Qi (S := Unit) (fun r _ => ¬ oddH x0 ∧ r = b2i (decide (kx x0 ∈ keysT T))) (fun _ => BM D (tysA cA cZ cI) A (CWT x ln cA T mo dr ds ad g)) A) (vx_X (S := Unit) (fun _ => True) (fun E _ t => ((oddH x0 ∧ E = eIA)) ∧ BMx D A (CWT x ln cA T mo dr ds ad g) t) A) 4 30 A := by
  refine vx_ofW (cc := cX1_isThere) (maxL := 2) (ret := (some .boolean)) (by decide) rfl ?_
  intro p e s m args below meth c s₁ B hml ht0 hv
  obtain ⟨rfl, hA, hP, hG, hD, hX⟩ := hv
  have hx := B.exec
  have hb := B.bytes
  have hr := B.returns
  have hts := atoms_spec (ws := wsX1_isThere) B.pre
  have hown : s.vm.findClass RX1 = some m.cls := findClass_of_methodNamed B.named
  have hlocks := B.notSynchronized
  have hl := lv_entry ([.ref x, .int x0]) (n := 2) (Nat.le_of_ble_eq_true rfl)
  rw [lg_entry_eq]
  generalize (lg_sl ([.ref x, .int x0]) ++ List.replicate (2 - (lg_sl ([.ref x, .int x0])).length) Slot.unset).toArray = ls at hl ⊢
  have hl : lv_has ls 2 [(0, .ref x), (1, .int x0)] := hl
  have hS : va_S A s.heap s.heap [] := va_S.rf
  have hP : va_P D vwCl (cw x ln cA (nI (siz T)) (root T) mo dr ds (fun i => (keysT T)[i]?) ((keysT T)) ad g) s.heap := hP
  have hD : va_D A (cw x ln cA (nI (siz T)) (root T) mo dr ds (fun i => (keysT T)[i]?) ((keysT T)) ad g) := hD
  have hcl := hrep.cl
  obtain ⟨hb0, hin0, hsz, hs, hc, hK0⟩ := id hrep
  have hin := hrep.in1
  refine lv_iload_n hx hb dX1_isThere_0 rfl (lv_at hl 1 rfl) ?_
  refine vx_callv (vx_runS (As := [.int x0]) (rest := []) ⟨hx, hb, hml, hown, hts⟩ (c_X1_refuseOddHeight l hst (x0 := x0)) (va_cwS 1 hts gX1_isThere_X1_refuseOddHeight rfl rfl rfl (by decide +kernel) ⟨Nat.le_of_ble_eq_true rfl, Nat.le_of_ble_eq_true rfl⟩) ⟨PcX.blind, PcX.at hA hS hP hG hD hX⟩ rfl rfl hl.1 rfl (lv_room (Nat.le_of_ble_eq_true rfl)) dX1_isThere_1 ⟨Nat.le_of_ble_eq_true rfl, Nat.le_of_ble_eq_true rfl⟩) hS (fun q _ h => h) (fun q h => h) (fun q _ h => h) (fun E ce q9 u t H locs ht hvm hpx hbx hz hk hS hce hcv hcl => ?_) (fun u t H locs ht hvm hpo hB hz1 hk1 hS => ?_)
  · obtain ⟨hodd, rfl, hP, hD⟩ := hbx
    rw [ht] at hP
    exact vx_out (fun x hx => (ht0 x hx).elim) hlocks hce hcv hcl (fun t ht hvm => ⟨(), trivial, ⟨⟨hodd, rfl⟩, by rw [ht]; exact hP, hD⟩, hS.F ht⟩) hS.2.2 (Nat.le_of_ble_eq_true rfl) (Nat.le_of_ble_eq_true rfl)
  obtain ⟨hP, -, hD⟩ := hB
  rw [ht] at hP
  obtain ⟨h0, hh0, rfl⟩ := oddH.not hpo
  have hl : lv_has ls 2 [(0, .ref x), (1, .int (nI h0))] := hl
  refine lv_aload_n hx hb dX1_isThere_4 rfl (lv_at hl 0 rfl) ?_
  refine lv_iload_n hx hb dX1_isThere_5 rfl (lv_at hl 1 rfl) ?_
  refine va_csq (va_Run.run (va_runV (As := [.int (nI h0)]) (rest := []) ⟨hx, hb, hml, hown, hts⟩ (c_X1_find l hh0 hs hin) (cwV 1 hts gX1_isThere_X1_find rfl rfl rfl (by decide +kernel) ⟨Nat.le_of_ble_eq_true rfl, Nat.le_of_ble_eq_true rfl⟩) ⟨PcR.blind, va_recv hG.1 hP (ci := 1) (q0 := 0) rfl cw_x, PcR.at hP hG⟩ rfl rfl hl.1 rfl (lv_room (Nat.le_of_ble_eq_true rfl)) dX1_isThere_6 ⟨Nat.le_of_ble_eq_true rfl, Nat.le_of_ble_eq_true rfl⟩)) (fun r6 q6 => ?_)
  subst q6
  refine zr_ifnull (tgt := 16) hx hb dX1_isThere_9 (by decide) (fun c9 => ?_) (fun k9 c9 => ?_)
  · have hm : ¬ h0 ∈ keysT T := fun q => by rw [(subT_mem hb0).mpr q] at c9; cases c9
    refine lv_iconst (v := nI 0) hx hb dX1_isThere_16 (by decide) ?_
    refine W.widen (k := 4) (n := 30) (Nat.le_of_ble_eq_true rfl) (Nat.le_of_ble_eq_true rfl) ?_
    exact vx_ret (W.zret (v := (nI 0)) hx hb hr rfl (fun t ht hW => ⟨⟨_, (), rfl, ⟨oddH_nI hh0, by rw [kx_nI (by omega)]; rw [decide_eq_false hm]; rfl⟩, by rw [ht]; exact hP, hG.moved hW, hD⟩, hS.F ht⟩) hS.2.2 dX1_isThere_17)
  · have hm : h0 ∈ keysT T := (subT_mem hb0).mp (subT_root.resolve_left (fun q => by rw [q] at c9; cases c9))
    refine lv_iconst (v := nI 1) hx hb dX1_isThere_12 (by decide) ?_
    refine lv_goto (tgt := 17) hx hb dX1_isThere_13 (by decide) ?_
    refine W.widen (k := 4) (n := 30) (Nat.le_of_ble_eq_true rfl) (Nat.le_of_ble_eq_true rfl) ?_
    exact vx_ret (W.zret (v := (nI 1)) hx hb hr rfl (fun t ht hW => ⟨⟨_, (), rfl, ⟨oddH_nI hh0, by rw [kx_nI (by omega)]; rw [decide_eq_true hm]; rfl⟩, by rw [ht]; exact hP, hG.moved hW, hD⟩, hS.F ht⟩) hS.2.2 dX1_isThere_17)

set_option maxHeartbeats 4000000 in
set_option maxRecDepth 100000 in
/-- told -/
theorem c_X1_told (l : Launch) (hst : l.stackTraces = false) {D : va_G} {cA cZ cI : ClassId} {sa : Nat → Nat} {A : Nat → Prop} {x ln : Nat} {mo dr ds : Int32} {ad : Nat → Nat} {g : Nat → Nd} {T : Tr} {x0 x1 : Int32} (hrep : RepC T (keysT T) g) : vx_Met l yX1_told wsX1_told ({ frames := 8, cells := 4, slots := 30, locals := 320 } : Room) (PcX sa D (tysA cA cZ cI) A (CWT x ln cA T mo dr ds ad g) [.ref x, .int x0, .int x1]) (va_Qi (S := Unit) (fun r _ => ¬ oddH x0 ∧ ¬ oddQ x1 ∧ kx x0 ∈ keysT T ∧ r = tellT T (kx x0) (kx x1)) (fun _ => BM D (tysA cA cZ cI) A (CWT x ln cA T mo dr ds ad g)) A) (vx_X (S := Unit) (fun _ => True) (fun E _ t => ((oddH x0 ∧ E = eIA) ∨ ((¬ oddH x0 ∧ oddQ x1) ∧ E = eIO) ∨ ((¬ oddH x0 ∧ ¬ oddQ x1 ∧ ¬ kx x0 ∈ keysT T) ∧ E = eIS)) ∧ BMx D A (CWT x ln cA T mo dr ds ad g) t) A) 4 30 A := by
  refine vx_ofW (cc := cX1_told) (maxL := 4) (ret := (some .int)) (by decide) rfl ?_
  intro p e s m args below meth c s₁ B hml ht0 hv
  obtain ⟨rfl, hA, hP, hG, hD, hX⟩ := hv
  have hx := B.exec
  have hb := B.bytes
  have hr := B.returns
  have hts := atoms_spec (ws := wsX1_told) B.pre
  have hown : s.vm.findClass RX1 = some m.cls := findClass_of_methodNamed B.named
  have hlocks := B.notSynchronized
  have hl := lv_entry ([.ref x, .int x0, .int x1]) (n := 4) (Nat.le_of_ble_eq_true rfl)
  rw [lg_entry_eq]
  generalize (lg_sl ([.ref x, .int x0, .int x1]) ++ List.replicate (4 - (lg_sl ([.ref x, .int x0, .int x1])).length) Slot.unset).toArray = ls at hl ⊢
  have hl : lv_has ls 4 [(0, .ref x), (1, .int x0), (2, .int x1)] := hl
  have hS : va_S A s.heap s.heap [] := va_S.rf
  have hP : va_P D vwCl (cw x ln cA (nI (siz T)) (root T) mo dr ds (fun i => (keysT T)[i]?) ((keysT T)) ad g) s.heap := hP
  have hD : va_D A (cw x ln cA (nI (siz T)) (root T) mo dr ds (fun i => (keysT T)[i]?) ((keysT T)) ad g) := hD
  have hcl := hrep.cl
  obtain ⟨hb0, hin0, hsz, hs, hc, hK0⟩ := id hrep
  have hin := hrep.in1
  refine lv_iload_n hx hb dX1_told_0 rfl (lv_at hl 1 rfl) ?_
  refine vx_callv (vx_runS (As := [.int x0]) (rest := []) ⟨hx, hb, hml, hown, hts⟩ (c_X1_refuseOddHeight l hst (x0 := x0)) (va_cwS 1 hts gX1_told_X1_refuseOddHeight rfl rfl rfl (by decide +kernel) ⟨Nat.le_of_ble_eq_true rfl, Nat.le_of_ble_eq_true rfl⟩) ⟨PcX.blind, PcX.at hA hS hP hG hD hX⟩ rfl rfl hl.1 rfl (lv_room (Nat.le_of_ble_eq_true rfl)) dX1_told_1 ⟨Nat.le_of_ble_eq_true rfl, Nat.le_of_ble_eq_true rfl⟩) hS (fun q _ h => h) (fun q h => h) (fun q _ h => h) (fun E ce q9 u t H locs ht hvm hpx hbx hz hk hS hce hcv hcl => ?_) (fun u t H locs ht hvm hpo hB hz1 hk1 hS => ?_)
  · obtain ⟨hodd, rfl, hP, hD⟩ := hbx
    rw [ht] at hP
    exact vx_out (fun x hx => (ht0 x hx).elim) hlocks hce hcv hcl (fun t ht hvm => ⟨(), trivial, ⟨Or.inl ⟨hodd, rfl⟩, by rw [ht]; exact hP, hD⟩, hS.F ht⟩) hS.2.2 (Nat.le_of_ble_eq_true rfl) (Nat.le_of_ble_eq_true rfl)
  obtain ⟨hP, -, hD⟩ := hB
  rw [ht] at hP
  obtain ⟨h0, hh0, rfl⟩ := oddH.not hpo
  have hl : lv_has ls 4 [(0, .ref x), (1, .int (nI h0)), (2, .int x1)] := hl
  refine lv_iload_n hx hb dX1_told_4 rfl (lv_at hl 2 rfl) ?_
  refine vx_callv (vx_runS (As := [.int x1]) (rest := []) ⟨hx, hb, hml, hown, hts⟩ (c_X1_refuseOddQuestion l hst (x0 := x1)) (va_cwS 1 hts gX1_told_X1_refuseOddQuestion rfl rfl rfl (by decide +kernel) ⟨Nat.le_of_ble_eq_true rfl, Nat.le_of_ble_eq_true rfl⟩) ⟨PcX.blind, PcX.at hA hS hP hG hD hX⟩ rfl rfl hl.1 rfl (lv_room (Nat.le_of_ble_eq_true rfl)) dX1_told_5 ⟨Nat.le_of_ble_eq_true rfl, Nat.le_of_ble_eq_true rfl⟩) hS (fun q _ h => h) (fun q h => h) (fun q _ h => h) (fun E ce q9 u t H locs ht hvm hpx hbx hz hk hS hce hcv hcl => ?_) (fun u t H locs ht hvm hpo hB hz1 hk1 hS => ?_)
  · obtain ⟨hodd, rfl, hP, hD⟩ := hbx
    rw [ht] at hP
    exact vx_out (fun x hx => (ht0 x hx).elim) hlocks hce hcv hcl (fun t ht hvm => ⟨(), trivial, ⟨Or.inr (Or.inl ⟨⟨oddH_nI hh0, hodd⟩, rfl⟩), by rw [ht]; exact hP, hD⟩, hS.F ht⟩) hS.2.2 (Nat.le_of_ble_eq_true rfl) (Nat.le_of_ble_eq_true rfl)
  obtain ⟨hP, -, hD⟩ := hB
  rw [ht] at hP
  obtain ⟨w0, hw0, rfl⟩ := oddQ.not hpo
  have hl : lv_has ls 4 [(0, .ref x), (1, .int (nI h0)), (2, .int (nI w0))] := hl
  refine lv_aload_n hx hb dX1_told_8 rfl (lv_at hl 0 rfl) ?_
  refine lv_iload_n hx hb dX1_told_9 rfl (lv_at hl 1 rfl) ?_
  refine va_csq (va_Run.run (va_runV (As := [.int (nI h0)]) (rest := []) ⟨hx, hb, hml, hown, hts⟩ (c_X1_find l hh0 hs hin) (cwV 1 hts gX1_told_X1_find rfl rfl rfl (by decide +kernel) ⟨Nat.le_of_ble_eq_true rfl, Nat.le_of_ble_eq_true rfl⟩) ⟨PcR.blind, va_recv hG.1 hP (ci := 1) (q0 := 0) rfl cw_x, PcR.at hP hG⟩ rfl rfl hl.1 rfl (lv_room (Nat.le_of_ble_eq_true rfl)) dX1_told_10 ⟨Nat.le_of_ble_eq_true rfl, Nat.le_of_ble_eq_true rfl⟩)) (fun r10 q10 => ?_)
  subst q10
  refine zr_astore_n (lv' := [(3, va_rf ((root (subT h0 T)).map ad)), (0, .ref x), (1, .int (nI h0)), (2, .int (nI w0))]) hx hb dX1_told_13 rfl hl (by decide) rfl (fun ls hl => ?_)
  refine zr_aload_n hx hb dX1_told_14 rfl (lv_at hl 0 rfl) ?_
  refine zr_ifnonnull (tgt := 28) hx hb dX1_told_15 (by decide) (fun c15 => ?_) (fun k15 c15 => ?_)
  · have hm : ¬ h0 ∈ keysT T := fun q => by rw [(subT_mem hb0).mpr q] at c15; cases c15
    exact vx_throwS hx hb hst hown (cls := eIS) (text := "nobody has this height") (names := ["java/lang/RuntimeException", "java/lang/Exception"]) (by decide +kernel) (by decide +kernel) (hts (.classLink RX1 27 "java/lang/IllegalStateException") (by decide +kernel)) (hts (.initialized "java/lang/IllegalStateException") (by decide +kernel)) (hX.2.1.2.2.1) (vx_hat (L := vx_atS RX1 31 "java/lang/IllegalStateException" ["java/lang/RuntimeException", "java/lang/Exception"]) (B := [.castable eIS eIS, .declares (Bundle.initS "java/lang/RuntimeException"), .declares (Bundle.initS "java/lang/Exception"), .declares (Bundle.initS Bundle.tN)]) (fun w hw => hts w (List.mem_cons_of_mem _ (List.mem_append_left _ (List.mem_append_left _ (List.mem_append_right _ hw))))) (by decide +kernel) (vx_c (va_Nw.use rfl hX.1.2.1) (vx_c (va_Nw.use rfl hX.1.2.2.2.1) (vx_c (va_Nw.use rfl hX.1.2.2.2.2.1) (vx_c (va_Nw.use rfl hX.1.2.2.2.2.2) vx_n))))) (by decide +kernel) hX.2.2.1 hX.2.2.2 hS (hl.1.trans hml.symm) dX1_told_18 dX1_told_21 dX1_told_22 dX1_told_24 dX1_told_27 (fun x hx => (ht0 x hx).elim) (Nat.le_of_ble_eq_true rfl) (Nat.le_of_ble_eq_true rfl) (Nat.le_of_ble_eq_true rfl) (Nat.le_of_ble_eq_true rfl) hlocks (fun t hvm hz hk => ⟨(), trivial, ⟨Or.inr (Or.inr ⟨⟨oddH_nI hh0, oddQ_nI hw0, by rw [kx_nI (by omega)]; exact hm⟩, rfl⟩), BMx.new hP hD hk⟩, xF hS hz hk⟩) hS.2.2 (Nat.le_of_ble_eq_true rfl) (Nat.le_of_ble_eq_true rfl)
  · have hm : h0 ∈ keysT T := (subT_mem hb0).mp (subT_root.resolve_left (fun q => by rw [q] at c15; cases c15))
    rw [(subT_mem hb0).mpr hm] at hl
    have hl : lv_has ls 4 [(3, .ref (ad h0)), (0, .ref x), (1, .int (nI h0)), (2, .int (nI w0))] := hl
    refine lv_aload_n hx hb dX1_told_28 rfl (lv_at hl 1 rfl) ?_
    refine lv_aload_n hx hb dX1_told_29 rfl (lv_at hl 0 rfl) ?_
    refine lv_iload_n hx hb dX1_told_30 rfl (lv_at hl 3 rfl) ?_
    refine vp_callSi (va_Run.run (va_runV (As := [.ref (ad h0), .int (nI w0)]) (rest := []) ⟨hx, hb, hml, hown, hts⟩ (c_X1_tell l hrep hm hw0) (cwV 2 hts gX1_told_X1_tell rfl rfl rfl (by decide +kernel) ⟨Nat.le_of_ble_eq_true rfl, Nat.le_of_ble_eq_true rfl⟩) ⟨PcR.blind, va_recv hG.1 hP (ci := 1) (q0 := 0) rfl cw_x, PcR.at hP hG⟩ rfl rfl hl.1 rfl (lv_room (Nat.le_of_ble_eq_true rfl)) dX1_told_31 ⟨Nat.le_of_ble_eq_true rfl, Nat.le_of_ble_eq_true rfl⟩)) (fun r31 q31 => ?_)
    subst q31
    refine W.widen (k := 4) (n := 30) (Nat.le_of_ble_eq_true rfl) (Nat.le_of_ble_eq_true rfl) ?_
    exact vx_ret (W.iret (v := (tellT T h0 w0)) hx hb hr (fun t ht hW => ⟨⟨_, (), rfl, ⟨oddH_nI hh0, oddQ_nI hw0, by rw [kx_nI (by omega)]; exact hm, by rw [kx_nI (by omega), kx_nI (by omega)]⟩, by rw [ht]; exact hP, hG.moved hW, hD⟩, hS.F ht⟩) hS.2.2 dX1_told_34)

set_option maxHeartbeats 4000000 in
set_option maxRecDepth 100000 in
/-- at -/
theorem c_X1_at (l : Launch) (hst : l.stackTraces = false) {D : va_G} {cA cZ cI : ClassId} {sa : Nat → Nat} {A : Nat → Prop} {x ln : Nat} {mo dr ds : Int32} {ad : Nat → Nat} {g : Nat → Nd} {T : Tr} {x0 : Int32} (hrep : RepC T (keysT T) g) : vx_Met l yX1_at wsX1_at ({ frames := 8, cells := 4, slots := 30, locals := 320 } : Room) (PcX sa D (tysA cA cZ cI) A (CWT x ln cA T mo dr ds ad g) [.ref x, .int x0]) (va_Qi (S := Unit) (fun r _ => ¬ x0 < 0 ∧ ∃ k, (keysT T)[kx x0]? = some k ∧ r = nI k) (fun _ => BM D (tysA cA cZ cI) A (CWT x ln cA T mo dr ds ad g)) A) (vx_X (S := Unit) (fun _ => True) (fun E _ t => (((x0 < 0 ∨ (keysT T)[kx x0]? = none) ∧ E = eIO)) ∧ BMx D A (CWT x ln cA T mo dr ds ad g) t) A) 4 30 A := by
  refine vx_ofW (cc := cX1_at) (maxL := 3) (ret := (some .int)) (by decide) rfl ?_
  intro p e s m args below meth c s₁ B hml ht0 hv
  obtain ⟨rfl, hA, hP, hG, hD, hX⟩ := hv
  have hx := B.exec
  have hb := B.bytes
  have hr := B.returns
  have hts := atoms_spec (ws := wsX1_at) B.pre
  have hown : s.vm.findClass RX1 = some m.cls := findClass_of_methodNamed B.named
  have hlocks := B.notSynchronized
  have hl := lv_entry ([.ref x, .int x0]) (n := 3) (Nat.le_of_ble_eq_true rfl)
  rw [lg_entry_eq]
  generalize (lg_sl ([.ref x, .int x0]) ++ List.replicate (3 - (lg_sl ([.ref x, .int x0])).length) Slot.unset).toArray = ls at hl ⊢
  have hl : lv_has ls 3 [(0, .ref x), (1, .int x0)] := hl
  have hS : va_S A s.heap s.heap [] := va_S.rf
  have hP : va_P D vwCl (cw x ln cA (nI (siz T)) (root T) mo dr ds (fun i => (keysT T)[i]?) ((keysT T)) ad g) s.heap := hP
  have hD : va_D A (cw x ln cA (nI (siz T)) (root T) mo dr ds (fun i => (keysT T)[i]?) ((keysT T)) ad g) := hD
  have hcl := hrep.cl
  obtain ⟨hb0, hin0, hsz, hs, hc, hK0⟩ := id hrep
  have hin := hrep.in1
  refine lv_aload_n hx hb dX1_at_0 rfl (lv_at hl 0 rfl) ?_
  refine lv_iload_n hx hb dX1_at_1 rfl (lv_at hl 1 rfl) ?_
  by_cases hneg : x0 < 0
  · refine va_csq (va_Run.run (va_runV (As := [.int x0]) (rest := []) ⟨hx, hb, hml, hown, hts⟩ (c_X1_inLineN l hneg) (cwV 1 hts gX1_at_X1_inLine rfl rfl rfl (by decide +kernel) ⟨Nat.le_of_ble_eq_true rfl, Nat.le_of_ble_eq_true rfl⟩) ⟨PcR.blind, va_recv hG.1 hP (ci := 1) (q0 := 0) rfl cw_x, PcR.at hP hG⟩ rfl rfl hl.1 rfl (lv_room (Nat.le_of_ble_eq_true rfl)) dX1_at_2 ⟨Nat.le_of_ble_eq_true rfl, Nat.le_of_ble_eq_true rfl⟩)) (fun r2 q2 => ?_)
    subst q2
    refine lv_astore_nN (lv' := [(2, .null), (0, .ref x), (1, .int x0)]) hx hb dX1_at_5 rfl hl (by decide) rfl (fun ls hl => ?_)
    refine lv_aload_nN hx hb dX1_at_6 rfl (lv_at hl 0 rfl) ?_
    refine lv_ifnonnullN hx hb dX1_at_7 ?_
    exact vx_throwS hx hb hst hown (cls := eIO) (text := "there is no such place") (names := ["java/lang/RuntimeException", "java/lang/Exception"]) (by decide +kernel) (by decide +kernel) (hts (.classLink RX1 95 "java/lang/IndexOutOfBoundsException") (by decide +kernel)) (hts (.initialized "java/lang/IndexOutOfBoundsException") (by decide +kernel)) (hX.2.1.2.2.2.2.1) (vx_hat (L := vx_atS RX1 99 "java/lang/IndexOutOfBoundsException" ["java/lang/RuntimeException", "java/lang/Exception"]) (B := [.castable eIO eIO, .declares (Bundle.initS "java/lang/RuntimeException"), .declares (Bundle.initS "java/lang/Exception"), .declares (Bundle.initS Bundle.tN)]) (fun w hw => hts w (List.mem_cons_of_mem _ (List.mem_append_right _ hw))) (by decide +kernel) (vx_c (va_Nw.use rfl hX.1.2.2.1) (vx_c (va_Nw.use rfl hX.1.2.2.2.1) (vx_c (va_Nw.use rfl hX.1.2.2.2.2.1) (vx_c (va_Nw.use rfl hX.1.2.2.2.2.2) vx_n))))) (by decide +kernel) hX.2.2.1 hX.2.2.2 hS (hl.1.trans hml.symm) dX1_at_10 dX1_at_13 dX1_at_14 dX1_at_16 dX1_at_19 (fun x hx => (ht0 x hx).elim) (Nat.le_of_ble_eq_true rfl) (Nat.le_of_ble_eq_true rfl) (Nat.le_of_ble_eq_true rfl) (Nat.le_of_ble_eq_true rfl) hlocks (fun t hvm hz hk => ⟨(), trivial, ⟨⟨Or.inl hneg, rfl⟩, BMx.new hP hD hk⟩, xF hS hz hk⟩) hS.2.2 (Nat.le_of_ble_eq_true rfl) (Nat.le_of_ble_eq_true rfl)
  · obtain ⟨j, hj, rfl⟩ := nI_of hneg
    have hl : lv_has ls 3 [(0, .ref x), (1, .int (nI j))] := hl
    have hjk : (if j < siz T then (keysT T)[j]? else none) = (keysT T)[j]? := by
      by_cases q : j < siz T
      · rw [if_pos q]
      · rw [if_neg q, List.getElem?_eq_none (by rw [keys_len]; omega)]
    refine va_csq (va_Run.run (va_runV (As := [.int (nI j)]) (rest := []) ⟨hx, hb, hml, hown, hts⟩ (c_X1_inLine l (N := siz T) (j := j) hsz hj) (cwV 1 hts gX1_at_X1_inLine rfl rfl rfl (by decide +kernel) ⟨Nat.le_of_ble_eq_true rfl, Nat.le_of_ble_eq_true rfl⟩) ⟨PcR.blind, va_recv hG.1 hP (ci := 1) (q0 := 0) rfl cw_x, PcR.at hP hG⟩ rfl rfl hl.1 rfl (lv_room (Nat.le_of_ble_eq_true rfl)) dX1_at_2 ⟨Nat.le_of_ble_eq_true rfl, Nat.le_of_ble_eq_true rfl⟩)) (fun r2 q2 => ?_)
    subst q2
    rw [hjk]
    refine zr_astore_n (lv' := [(2, va_rf (((keysT T)[j]?).map ad)), (0, .ref x), (1, .int (nI j))]) hx hb dX1_at_5 rfl hl (by decide) rfl (fun ls hl => ?_)
    refine zr_aload_n hx hb dX1_at_6 rfl (lv_at hl 0 rfl) ?_
    refine zr_ifnonnull (tgt := 20) hx hb dX1_at_7 (by decide) (fun c7 => ?_) (fun k7 c7 => ?_)
    · exact vx_throwS hx hb hst hown (cls := eIO) (text := "there is no such place") (names := ["java/lang/RuntimeException", "java/lang/Exception"]) (by decide +kernel) (by decide +kernel) (hts (.classLink RX1 95 "java/lang/IndexOutOfBoundsException") (by decide +kernel)) (hts (.initialized "java/lang/IndexOutOfBoundsException") (by decide +kernel)) (hX.2.1.2.2.2.2.1) (vx_hat (L := vx_atS RX1 99 "java/lang/IndexOutOfBoundsException" ["java/lang/RuntimeException", "java/lang/Exception"]) (B := [.castable eIO eIO, .declares (Bundle.initS "java/lang/RuntimeException"), .declares (Bundle.initS "java/lang/Exception"), .declares (Bundle.initS Bundle.tN)]) (fun w hw => hts w (List.mem_cons_of_mem _ (List.mem_append_right _ hw))) (by decide +kernel) (vx_c (va_Nw.use rfl hX.1.2.2.1) (vx_c (va_Nw.use rfl hX.1.2.2.2.1) (vx_c (va_Nw.use rfl hX.1.2.2.2.2.1) (vx_c (va_Nw.use rfl hX.1.2.2.2.2.2) vx_n))))) (by decide +kernel) hX.2.2.1 hX.2.2.2 hS (hl.1.trans hml.symm) dX1_at_10 dX1_at_13 dX1_at_14 dX1_at_16 dX1_at_19 (fun x hx => (ht0 x hx).elim) (Nat.le_of_ble_eq_true rfl) (Nat.le_of_ble_eq_true rfl) (Nat.le_of_ble_eq_true rfl) (Nat.le_of_ble_eq_true rfl) hlocks (fun t hvm hz hk => ⟨(), trivial, ⟨⟨Or.inr (by rw [kx_nI hj]; exact c7), rfl⟩, BMx.new hP hD hk⟩, xF hS hz hk⟩) hS.2.2 (Nat.le_of_ble_eq_true rfl) (Nat.le_of_ble_eq_true rfl)
    · rw [c7] at hl
      have hl : lv_has ls 3 [(2, .ref (ad k7)), (0, .ref x), (1, .int (nI j))] := hl
      refine lv_aload_n hx hb dX1_at_20 rfl (lv_at hl 0 rfl) ?_
      obtain ⟨i0, hi0⟩ := cw_s (x := x) (ln := ln) (cA := cA) (n := nI (siz T)) (tp := root T) (mo := mo) (dr := dr) (ds := ds) (li := fun i => (keysT T)[i]?) (ad := ad) (g := g) ((hin k7 (List.mem_of_getElem? c7)).1 : k7 ∈ (keysT T))
      refine va_get (D := D) (ci := 0) (v := .int (nI k7)) (C := RX0) (T := TX0) (N := 5) hx hb hts (by decide +kernel) hown hG.1 hP i0 hi0 rfl 0 (by decide) (hts (.fieldLink RX1 100 "LopsidedRanks$Soldier" "height" "I") (by decide +kernel)) (fun _ h9 => h9) rfl dX1_at_21 ?_
      refine W.widen (k := 4) (n := 30) (Nat.le_of_ble_eq_true rfl) (Nat.le_of_ble_eq_true rfl) ?_
      exact vx_ret (W.iret (v := (nI k7)) hx hb hr (fun t ht hW => ⟨⟨_, (), rfl, ⟨hneg, k7, by rw [kx_nI hj]; exact c7, rfl⟩, by rw [ht]; exact hP, hG.moved hW, hD⟩, hS.F ht⟩) hS.2.2 dX1_at_24)

def btw (T : Tr) (a b : Nat) : Int32 := if b < a then nI 0 else nI (cntLt (b + 1) T) - nI (cntLt a T)
set_option maxHeartbeats 4000000 in
set_option maxRecDepth 100000 in
/-- between -/
theorem c_X1_between (l : Launch) (hst : l.stackTraces = false) {D : va_G} {cA cZ cI : ClassId} {sa : Nat → Nat} {A : Nat → Prop} {x ln : Nat} {mo dr ds : Int32} {ad : Nat → Nat} {g : Nat → Nd} {T : Tr} {x0 x1 : Int32} (hrep : RepC T (keysT T) g) : vx_Met l yX1_between wsX1_between ({ frames := 8, cells := 4, slots := 30, locals := 320 } : Room) (PcX sa D (tysA cA cZ cI) A (CWT x ln cA T mo dr ds ad g) [.ref x, .int x0, .int x1]) (va_Qi (S := Unit) (fun r _ => ¬ oddH x0 ∧ ¬ oddH x1 ∧ r = btw T (kx x0) (kx x1)) (fun _ => BM D (tysA cA cZ cI) A (CWT x ln cA T mo dr ds ad g)) A) (vx_X (S := Unit) (fun _ => True) (fun E _ t => (((oddH x0 ∨ oddH x1) ∧ E = eIA)) ∧ BMx D A (CWT x ln cA T mo dr ds ad g) t) A) 4 30 A := by
  refine vx_ofW (cc := cX1_between) (maxL := 3) (ret := (some .int)) (by decide) rfl ?_
  intro p e s m args below meth c s₁ B hml ht0 hv
  obtain ⟨rfl, hA, hP, hG, hD, hX⟩ := hv
  have hx := B.exec
  have hb := B.bytes
  have hr := B.returns
  have hts := atoms_spec (ws := wsX1_between) B.pre
  have hown : s.vm.findClass RX1 = some m.cls := findClass_of_methodNamed B.named
  have hlocks := B.notSynchronized
  have hl := lv_entry ([.ref x, .int x0, .int x1]) (n := 3) (Nat.le_of_ble_eq_true rfl)
  rw [lg_entry_eq]
  generalize (lg_sl ([.ref x, .int x0, .int x1]) ++ List.replicate (3 - (lg_sl ([.ref x, .int x0, .int x1])).length) Slot.unset).toArray = ls at hl ⊢
  have hl : lv_has ls 3 [(0, .ref x), (1, .int x0), (2, .int x1)] := hl
  have hS : va_S A s.heap s.heap [] := va_S.rf
  have hP : va_P D vwCl (cw x ln cA (nI (siz T)) (root T) mo dr ds (fun i => (keysT T)[i]?) ((keysT T)) ad g) s.heap := hP
  have hD : va_D A (cw x ln cA (nI (siz T)) (root T) mo dr ds (fun i => (keysT T)[i]?) ((keysT T)) ad g) := hD
  have hcl := hrep.cl
  obtain ⟨hb0, hin0, hsz, hs, hc, hK0⟩ := id hrep
  have hin := hrep.in1
  refine lv_iload_n hx hb dX1_between_0 rfl (lv_at hl 1 rfl) ?_
  refine vx_callv (vx_runS (As := [.int x0]) (rest := []) ⟨hx, hb, hml, hown, hts⟩ (c_X1_refuseOddHeight l hst (x0 := x0)) (va_cwS 1 hts gX1_between_X1_refuseOddHeight rfl rfl rfl (by decide +kernel) ⟨Nat.le_of_ble_eq_true rfl, Nat.le_of_ble_eq_true rfl⟩) ⟨PcX.blind, PcX.at hA hS hP hG hD hX⟩ rfl rfl hl.1 rfl (lv_room (Nat.le_of_ble_eq_true rfl)) dX1_between_1 ⟨Nat.le_of_ble_eq_true rfl, Nat.le_of_ble_eq_true rfl⟩) hS (fun q _ h => h) (fun q h => h) (fun q _ h => h) (fun E ce q9 u t H locs ht hvm hpx hbx hz hk hS hce hcv hcl => ?_) (fun u t H locs ht hvm hpo hB hz1 hk1 hS => ?_)
  · obtain ⟨hodd, rfl, hP, hD⟩ := hbx
    rw [ht] at hP
    exact vx_out (fun x hx => (ht0 x hx).elim) hlocks hce hcv hcl (fun t ht hvm => ⟨(), trivial, ⟨⟨Or.inl hodd, rfl⟩, by rw [ht]; exact hP, hD⟩, hS.F ht⟩) hS.2.2 (Nat.le_of_ble_eq_true rfl) (Nat.le_of_ble_eq_true rfl)
  obtain ⟨hP, -, hD⟩ := hB
  rw [ht] at hP
  obtain ⟨h0, hh0, rfl⟩ := oddH.not hpo
  have hl : lv_has ls 3 [(0, .ref x), (1, .int (nI h0)), (2, .int x1)] := hl
  refine lv_iload_n hx hb dX1_between_4 rfl (lv_at hl 2 rfl) ?_
  refine vx_callv (vx_runS (As := [.int x1]) (rest := []) ⟨hx, hb, hml, hown, hts⟩ (c_X1_refuseOddHeight l hst (x0 := x1)) (va_cwS 1 hts gX1_between_X1_refuseOddHeight rfl rfl rfl (by decide +kernel) ⟨Nat.le_of_ble_eq_true rfl, Nat.le_of_ble_eq_true rfl⟩) ⟨PcX.blind, PcX.at hA hS hP hG hD hX⟩ rfl rfl hl.1 rfl (lv_room (Nat.le_of_ble_eq_true rfl)) dX1_between_5 ⟨Nat.le_of_ble_eq_true rfl, Nat.le_of_ble_eq_true rfl⟩) hS (fun q _ h => h) (fun q h => h) (fun q _ h => h) (fun E ce q9 u t H locs ht hvm hpx hbx hz hk hS hce hcv hcl => ?_) (fun u t H locs ht hvm hpo hB hz1 hk1 hS => ?_)
  · obtain ⟨hodd, rfl, hP, hD⟩ := hbx
    rw [ht] at hP
    exact vx_out (fun x hx => (ht0 x hx).elim) hlocks hce hcv hcl (fun t ht hvm => ⟨(), trivial, ⟨⟨Or.inr hodd, rfl⟩, by rw [ht]; exact hP, hD⟩, hS.F ht⟩) hS.2.2 (Nat.le_of_ble_eq_true rfl) (Nat.le_of_ble_eq_true rfl)
  obtain ⟨hP, -, hD⟩ := hB
  rw [ht] at hP
  obtain ⟨h1, hh1, rfl⟩ := oddH.not hpo
  have hl : lv_has ls 3 [(0, .ref x), (1, .int (nI h0)), (2, .int (nI h1))] := hl
  refine lv_iload_n hx hb dX1_between_8 rfl (lv_at hl 1 rfl) ?_
  refine lv_iload_n hx hb dX1_between_9 rfl (lv_at hl 2 rfl) ?_
  refine lv_icmp_le (tgt := 15) hx hb dX1_between_10 (by decide) (fun c10 => ?_) (fun c10 => ?_)
  · rw [nI_leI (by omega) (by omega)] at c10
    refine lv_aload_n hx hb dX1_between_15 rfl (lv_at hl 0 rfl) ?_
    refine lv_iload_n hx hb dX1_between_16 rfl (lv_at hl 2 rfl) ?_
    refine lv_iconst (v := nI 1) hx hb dX1_between_17 (by decide) ?_
    refine lv_iadd hx hb dX1_between_18 ?_
    refine zr_eqi (nI_add h1 1) ?_
    refine vp_callSi (va_Run.run (va_runV (As := [.int (nI (h1 + 1))]) (rest := []) ⟨hx, hb, hml, hown, hts⟩ (c_X1_smallerThan l hcl (by omega) hs hc hin) (cwV 1 hts gX1_between_X1_smallerThan rfl rfl rfl (by decide +kernel) ⟨Nat.le_of_ble_eq_true rfl, Nat.le_of_ble_eq_true rfl⟩) ⟨PcR.blind, va_recv hG.1 hP (ci := 1) (q0 := 0) rfl cw_x, PcR.at hP hG⟩ rfl rfl hl.1 rfl (lv_room (Nat.le_of_ble_eq_true rfl)) dX1_between_19 ⟨Nat.le_of_ble_eq_true rfl, Nat.le_of_ble_eq_true rfl⟩)) (fun r19 q19 => ?_)
    subst q19
    refine lv_aload_n hx hb dX1_between_22 rfl (lv_at hl 0 rfl) ?_
    refine lv_iload_n hx hb dX1_between_23 rfl (lv_at hl 1 rfl) ?_
    refine vp_callSi (va_Run.run (va_runV (As := [.int (nI h0)]) (rest := [.int (nI (cntLt (h1 + 1) T))]) ⟨hx, hb, hml, hown, hts⟩ (c_X1_smallerThan l hcl (by omega) hs hc hin) (cwV 1 hts gX1_between_X1_smallerThan rfl rfl rfl (by decide +kernel) ⟨Nat.le_of_ble_eq_true rfl, Nat.le_of_ble_eq_true rfl⟩) ⟨PcR.blind, va_recv hG.1 hP (ci := 1) (q0 := 0) rfl cw_x, PcR.at hP hG⟩ rfl rfl hl.1 rfl (lv_room (Nat.le_of_ble_eq_true rfl)) dX1_between_24 ⟨Nat.le_of_ble_eq_true rfl, Nat.le_of_ble_eq_true rfl⟩)) (fun r24 q24 => ?_)
    subst q24
    refine lv_isub hx hb dX1_between_27 ?_
    refine W.widen (k := 4) (n := 30) (Nat.le_of_ble_eq_true rfl) (Nat.le_of_ble_eq_true rfl) ?_
    exact vx_ret (W.iret (v := ((nI (cntLt (h1 + 1) T)) - (nI (cntLt h0 T)))) hx hb hr (fun t ht hW => ⟨⟨_, (), rfl, ⟨oddH_nI hh0, oddH_nI hh1, by rw [kx_nI (by omega), kx_nI (by omega)]; unfold btw; rw [if_neg (by omega)]⟩, by rw [ht]; exact hP, hG.moved hW, hD⟩, hS.F ht⟩) hS.2.2 dX1_between_28)
  · rw [nI_leI (by omega) (by omega)] at c10
    refine lv_iconst (v := nI 0) hx hb dX1_between_13 (by decide) ?_
    refine W.widen (k := 4) (n := 30) (Nat.le_of_ble_eq_true rfl) (Nat.le_of_ble_eq_true rfl) ?_
    exact vx_ret (W.iret (v := (nI 0)) hx hb hr (fun t ht hW => ⟨⟨_, (), rfl, ⟨oddH_nI hh0, oddH_nI hh1, by rw [kx_nI (by omega), kx_nI (by omega)]; unfold btw; rw [if_pos (by omega)]⟩, by rw [ht]; exact hP, hG.moved hW, hD⟩, hS.F ht⟩) hS.2.2 dX1_between_14)

set_option maxHeartbeats 4000000 in
set_option maxRecDepth 100000 in
/-- taller -/
theorem c_X1_taller (l : Launch) (hst : l.stackTraces = false) {D : va_G} {cA cZ cI : ClassId} {sa : Nat → Nat} {A : Nat → Prop} {x ln : Nat} {mo dr ds : Int32} {ad : Nat → Nat} {g : Nat → Nd} {T : Tr} {x0 : Int32} (hrep : RepC T (keysT T) g) : vx_Met l yX1_taller wsX1_taller ({ frames := 8, cells := 4, slots := 30, locals := 320 } : Room) (PcX sa D (tysA cA cZ cI) A (CWT x ln cA T mo dr ds ad g) [.ref x, .int x0]) (va_Qi (S := Unit) (fun r _ => ¬ oddH x0 ∧ r = enc ((keysT T)[cntLt (kx x0 + 1) T]?)) (fun _ => BM D (tysA cA cZ cI) A (CWT x ln cA T mo dr ds ad g)) A) (vx_X (S := Unit) (fun _ => True) (fun E _ t => ((oddH x0 ∧ E = eIA)) ∧ BMx D A (CWT x ln cA T mo dr ds ad g) t) A) 4 30 A := by
  refine vx_ofW (cc := cX1_taller) (maxL := 2) (ret := (some .int)) (by decide) rfl ?_
  intro p e s m args below meth c s₁ B hml ht0 hv
  obtain ⟨rfl, hA, hP, hG, hD, hX⟩ := hv
  have hx := B.exec
  have hb := B.bytes
  have hr := B.returns
  have hts := atoms_spec (ws := wsX1_taller) B.pre
  have hown : s.vm.findClass RX1 = some m.cls := findClass_of_methodNamed B.named
  have hlocks := B.notSynchronized
  have hl := lv_entry ([.ref x, .int x0]) (n := 2) (Nat.le_of_ble_eq_true rfl)
  rw [lg_entry_eq]
  generalize (lg_sl ([.ref x, .int x0]) ++ List.replicate (2 - (lg_sl ([.ref x, .int x0])).length) Slot.unset).toArray = ls at hl ⊢
  have hl : lv_has ls 2 [(0, .ref x), (1, .int x0)] := hl
  have hS : va_S A s.heap s.heap [] := va_S.rf
  have hP : va_P D vwCl (cw x ln cA (nI (siz T)) (root T) mo dr ds (fun i => (keysT T)[i]?) ((keysT T)) ad g) s.heap := hP
  have hD : va_D A (cw x ln cA (nI (siz T)) (root T) mo dr ds (fun i => (keysT T)[i]?) ((keysT T)) ad g) := hD
  have hcl := hrep.cl
  obtain ⟨hb0, hin0, hsz, hs, hc, hK0⟩ := id hrep
  have hin := hrep.in1
  have hjk : ∀ j, (if j < siz T then (keysT T)[j]? else none) = (keysT T)[j]? := fun j => by
    by_cases q : j < siz T
    · rw [if_pos q]
    · rw [if_neg q, List.getElem?_eq_none (by rw [keys_len]; omega)]
  refine lv_iload_n hx hb dX1_taller_0 rfl (lv_at hl 1 rfl) ?_
  refine vx_callv (vx_runS (As := [.int x0]) (rest := []) ⟨hx, hb, hml, hown, hts⟩ (c_X1_refuseOddHeight l hst (x0 := x0)) (va_cwS 1 hts gX1_taller_X1_refuseOddHeight rfl rfl rfl (by decide +kernel) ⟨Nat.le_of_ble_eq_true rfl, Nat.le_of_ble_eq_true rfl⟩) ⟨PcX.blind, PcX.at hA hS hP hG hD hX⟩ rfl rfl hl.1 rfl (lv_room (Nat.le_of_ble_eq_true rfl)) dX1_taller_1 ⟨Nat.le_of_ble_eq_true rfl, Nat.le_of_ble_eq_true rfl⟩) hS (fun q _ h => h) (fun q h => h) (fun q _ h => h) (fun E ce q9 u t H locs ht hvm hpx hbx hz hk hS hce hcv hcl => ?_) (fun u t H locs ht hvm hpo hB hz1 hk1 hS => ?_)
  · obtain ⟨hodd, rfl, hP, hD⟩ := hbx
    rw [ht] at hP
    exact vx_out (fun x hx => (ht0 x hx).elim) hlocks hce hcv hcl (fun t ht hvm => ⟨(), trivial, ⟨⟨hodd, rfl⟩, by rw [ht]; exact hP, hD⟩, hS.F ht⟩) hS.2.2 (Nat.le_of_ble_eq_true rfl) (Nat.le_of_ble_eq_true rfl)
  obtain ⟨hP, -, hD⟩ := hB
  rw [ht] at hP
  obtain ⟨h0, hh0, rfl⟩ := oddH.not hpo
  have hl : lv_has ls 2 [(0, .ref x), (1, .int (nI h0))] := hl
  refine lv_aload_n hx hb dX1_taller_4 rfl (lv_at hl 0 rfl) ?_
  refine lv_aload_n hx hb dX1_taller_5 rfl (lv_at hl 0 rfl) ?_
  refine lv_iload_n hx hb dX1_taller_6 rfl (lv_at hl 1 rfl) ?_
  refine lv_iconst (v := nI 1) hx hb dX1_taller_7 (by decide) ?_
  refine lv_iadd hx hb dX1_taller_8 ?_
  refine zr_eqi (nI_add h0 1) ?_
  refine vp_callSi (va_Run.run (va_runV (As := [.int (nI (h0 + 1))]) (rest := [.ref x]) ⟨hx, hb, hml, hown, hts⟩ (c_X1_smallerThan l hcl (by omega) hs hc hin) (cwV 1 hts gX1_taller_X1_smallerThan rfl rfl rfl (by decide +kernel) ⟨Nat.le_of_ble_eq_true rfl, Nat.le_of_ble_eq_true rfl⟩) ⟨PcR.blind, va_recv hG.1 hP (ci := 1) (q0 := 0) rfl cw_x, PcR.at hP hG⟩ rfl rfl hl.1 rfl (lv_room (Nat.le_of_ble_eq_true rfl)) dX1_taller_9 ⟨Nat.le_of_ble_eq_true rfl, Nat.le_of_ble_eq_true rfl⟩)) (fun r9 q9 => ?_)
  subst q9
  refine va_csq (va_Run.run (va_runV (As := [.int (nI (cntLt (h0 + 1) T))]) (rest := []) ⟨hx, hb, hml, hown, hts⟩ (c_X1_inLine l (N := siz T) (j := cntLt (h0 + 1) T) hsz (by have := cnt_le (h := h0 + 1) (T := T); omega)) (cwV 1 hts gX1_taller_X1_inLine rfl rfl rfl (by decide +kernel) ⟨Nat.le_of_ble_eq_true rfl, Nat.le_of_ble_eq_true rfl⟩) ⟨PcR.blind, va_recv hG.1 hP (ci := 1) (q0 := 0) rfl cw_x, PcR.at hP hG⟩ rfl rfl hl.1 rfl (lv_room (Nat.le_of_ble_eq_true rfl)) dX1_taller_12 ⟨Nat.le_of_ble_eq_true rfl, Nat.le_of_ble_eq_true rfl⟩)) (fun r12 q12 => ?_)
  subst q12
  rw [hjk]
  refine vp_callSi (va_Run.run (va_runS (As := [va_rf (((keysT T)[cntLt (h0 + 1) T]?).map ad)]) (rest := []) ⟨hx, hb, hml, hown, hts⟩ (c_X1_heightOf l (o := (keysT T)[cntLt (h0 + 1) T]?) (fun k e => (hin k (List.mem_of_getElem? e)).1)) (va_cwS 1 hts gX1_taller_X1_heightOf rfl rfl rfl (by decide +kernel) ⟨Nat.le_of_ble_eq_true rfl, Nat.le_of_ble_eq_true rfl⟩) ⟨PcR.blind, PcR.at hP hG⟩ rfl rfl hl.1 rfl (lv_room (Nat.le_of_ble_eq_true rfl)) dX1_taller_15 ⟨Nat.le_of_ble_eq_true rfl, Nat.le_of_ble_eq_true rfl⟩)) (fun r15 q15 => ?_)
  subst q15
  refine W.widen (k := 4) (n := 30) (Nat.le_of_ble_eq_true rfl) (Nat.le_of_ble_eq_true rfl) ?_
  exact vx_ret (W.iret (v := (enc ((keysT T)[cntLt (h0 + 1) T]?))) hx hb hr (fun t ht hW => ⟨⟨_, (), rfl, ⟨oddH_nI hh0, by rw [kx_nI (by omega)]⟩, by rw [ht]; exact hP, hG.moved hW, hD⟩, hS.F ht⟩) hS.2.2 dX1_taller_18)

set_option maxHeartbeats 4000000 in
set_option maxRecDepth 100000 in
/-- count -/
theorem c_X1_count (l : Launch) (hst : l.stackTraces = false) {D : va_G} {cA cZ cI : ClassId} {sa : Nat → Nat} {A : Nat → Prop} {x ln : Nat} {mo dr ds : Int32} {ad : Nat → Nat} {g : Nat → Nd} {T : Tr} {x0 : Int32} (hrep : RepC T (keysT T) g) : vx_Met l yX1_count wsX1_count ({ frames := 8, cells := 4, slots := 30, locals := 320 } : Room) (PcX sa D (tysA cA cZ cI) A (CWT x ln cA T mo dr ds ad g) [.ref x, .int x0]) (va_Qi (S := Unit) (fun r _ => ¬ oddQ x0 ∧ r = tallyT T dr ds mo (kx x0)) (fun _ => BM D (tysA cA cZ cI) A (CWT x ln cA T mo dr ds ad g)) A) (vx_X (S := Unit) (fun _ => True) (fun E _ t => ((oddQ x0 ∧ E = eIO)) ∧ BMx D A (CWT x ln cA T mo dr ds ad g) t) A) 4 30 A := by
  refine vx_ofW (cc := cX1_count) (maxL := 2) (ret := (some .int)) (by decide) rfl ?_
  intro p e s m args below meth c s₁ B hml ht0 hv
  obtain ⟨rfl, hA, hP, hG, hD, hX⟩ := hv
  have hx := B.exec
  have hb := B.bytes
  have hr := B.returns
  have hts := atoms_spec (ws := wsX1_count) B.pre
  have hown : s.vm.findClass RX1 = some m.cls := findClass_of_methodNamed B.named
  have hlocks := B.notSynchronized
  have hl := lv_entry ([.ref x, .int x0]) (n := 2) (Nat.le_of_ble_eq_true rfl)
  rw [lg_entry_eq]
  generalize (lg_sl ([.ref x, .int x0]) ++ List.replicate (2 - (lg_sl ([.ref x, .int x0])).length) Slot.unset).toArray = ls at hl ⊢
  have hl : lv_has ls 2 [(0, .ref x), (1, .int x0)] := hl
  have hS : va_S A s.heap s.heap [] := va_S.rf
  have hP : va_P D vwCl (cw x ln cA (nI (siz T)) (root T) mo dr ds (fun i => (keysT T)[i]?) ((keysT T)) ad g) s.heap := hP
  have hD : va_D A (cw x ln cA (nI (siz T)) (root T) mo dr ds (fun i => (keysT T)[i]?) ((keysT T)) ad g) := hD
  have hcl := hrep.cl
  obtain ⟨hb0, hin0, hsz, hs, hc, hK0⟩ := id hrep
  have hin := hrep.in1
  refine lv_iload_n hx hb dX1_count_0 rfl (lv_at hl 1 rfl) ?_
  refine vx_callv (vx_runS (As := [.int x0]) (rest := []) ⟨hx, hb, hml, hown, hts⟩ (c_X1_refuseOddQuestion l hst (x0 := x0)) (va_cwS 1 hts gX1_count_X1_refuseOddQuestion rfl rfl rfl (by decide +kernel) ⟨Nat.le_of_ble_eq_true rfl, Nat.le_of_ble_eq_true rfl⟩) ⟨PcX.blind, PcX.at hA hS hP hG hD hX⟩ rfl rfl hl.1 rfl (lv_room (Nat.le_of_ble_eq_true rfl)) dX1_count_1 ⟨Nat.le_of_ble_eq_true rfl, Nat.le_of_ble_eq_true rfl⟩) hS (fun q _ h => h) (fun q h => h) (fun q _ h => h) (fun E ce q9 u t H locs ht hvm hpx hbx hz hk hS hce hcv hcl => ?_) (fun u t H locs ht hvm hpo hB hz1 hk1 hS => ?_)
  · obtain ⟨hodd, rfl, hP, hD⟩ := hbx
    rw [ht] at hP
    exact vx_out (fun x hx => (ht0 x hx).elim) hlocks hce hcv hcl (fun t ht hvm => ⟨(), trivial, ⟨⟨hodd, rfl⟩, by rw [ht]; exact hP, hD⟩, hS.F ht⟩) hS.2.2 (Nat.le_of_ble_eq_true rfl) (Nat.le_of_ble_eq_true rfl)
  obtain ⟨hP, -, hD⟩ := hB
  rw [ht] at hP
  obtain ⟨w0, hw0, rfl⟩ := oddQ.not hpo
  have hl : lv_has ls 2 [(0, .ref x), (1, .int (nI w0))] := hl
  refine lv_aload_n hx hb dX1_count_4 rfl (lv_at hl 0 rfl) ?_
  refine lv_iload_n hx hb dX1_count_5 rfl (lv_at hl 1 rfl) ?_
  refine vp_callSi (va_Run.run (va_runV (As := [.int (nI w0)]) (rest := []) ⟨hx, hb, hml, hown, hts⟩ (c_X1_tally l hrep hw0) (cwV 1 hts gX1_count_X1_tally rfl rfl rfl (by decide +kernel) ⟨Nat.le_of_ble_eq_true rfl, Nat.le_of_ble_eq_true rfl⟩) ⟨PcR.blind, va_recv hG.1 hP (ci := 1) (q0 := 0) rfl cw_x, PcR.at hP hG⟩ rfl rfl hl.1 rfl (lv_room (Nat.le_of_ble_eq_true rfl)) dX1_count_6 ⟨Nat.le_of_ble_eq_true rfl, Nat.le_of_ble_eq_true rfl⟩)) (fun r6 q6 => ?_)
  subst q6
  refine W.widen (k := 4) (n := 30) (Nat.le_of_ble_eq_true rfl) (Nat.le_of_ble_eq_true rfl) ?_
  exact vx_ret (W.iret (v := (tallyT T dr ds mo w0)) hx hb hr (fun t ht hW => ⟨⟨_, (), rfl, ⟨oddQ_nI hw0, by rw [kx_nI (by omega)]⟩, by rw [ht]; exact hP, hG.moved hW, hD⟩, hS.F ht⟩) hS.2.2 dX1_count_9)

set_option maxHeartbeats 4000000 in
set_option maxRecDepth 100000 in
/-- would -/
theorem c_X1_would (l : Launch) (hst : l.stackTraces = false) {D : va_G} {cA cZ cI : ClassId} {sa : Nat → Nat} {A : Nat → Prop} {x ln : Nat} {mo dr ds : Int32} {ad : Nat → Nat} {g : Nat → Nd} {T : Tr} {x0 : Int32} (hrep : RepC T (keysT T) g) : vx_Met l yX1_would wsX1_would ({ frames := 8, cells := 4, slots := 30, locals := 320 } : Room) (PcX sa D (tysA cA cZ cI) A (CWT x ln cA T mo dr ds ad g) [.ref x, .int x0]) (va_Qi (S := Unit) (fun r _ => ¬ oddH x0 ∧ r = (if kx x0 ∈ keysT T then -1 else nI (anc (kx x0) T).length)) (fun _ => BM D (tysA cA cZ cI) A (CWT x ln cA T mo dr ds ad g)) A) (vx_X (S := Unit) (fun _ => True) (fun E _ t => ((oddH x0 ∧ E = eIA)) ∧ BMx D A (CWT x ln cA T mo dr ds ad g) t) A) 4 30 A := by
  refine vx_ofW (cc := cX1_would) (maxL := 2) (ret := (some .int)) (by decide) rfl ?_
  intro p e s m args below meth c s₁ B hml ht0 hv
  obtain ⟨rfl, hA, hP, hG, hD, hX⟩ := hv
  have hx := B.exec
  have hb := B.bytes
  have hr := B.returns
  have hts := atoms_spec (ws := wsX1_would) B.pre
  have hown : s.vm.findClass RX1 = some m.cls := findClass_of_methodNamed B.named
  have hlocks := B.notSynchronized
  have hl := lv_entry ([.ref x, .int x0]) (n := 2) (Nat.le_of_ble_eq_true rfl)
  rw [lg_entry_eq]
  generalize (lg_sl ([.ref x, .int x0]) ++ List.replicate (2 - (lg_sl ([.ref x, .int x0])).length) Slot.unset).toArray = ls at hl ⊢
  have hl : lv_has ls 2 [(0, .ref x), (1, .int x0)] := hl
  have hS : va_S A s.heap s.heap [] := va_S.rf
  have hP : va_P D vwCl (cw x ln cA (nI (siz T)) (root T) mo dr ds (fun i => (keysT T)[i]?) ((keysT T)) ad g) s.heap := hP
  have hD : va_D A (cw x ln cA (nI (siz T)) (root T) mo dr ds (fun i => (keysT T)[i]?) ((keysT T)) ad g) := hD
  have hcl := hrep.cl
  obtain ⟨hb0, hin0, hsz, hs, hc, hK0⟩ := id hrep
  have hin := hrep.in1
  refine lv_iload_n hx hb dX1_would_0 rfl (lv_at hl 1 rfl) ?_
  refine vx_callv (vx_runS (As := [.int x0]) (rest := []) ⟨hx, hb, hml, hown, hts⟩ (c_X1_refuseOddHeight l hst (x0 := x0)) (va_cwS 1 hts gX1_would_X1_refuseOddHeight rfl rfl rfl (by decide +kernel) ⟨Nat.le_of_ble_eq_true rfl, Nat.le_of_ble_eq_true rfl⟩) ⟨PcX.blind, PcX.at hA hS hP hG hD hX⟩ rfl rfl hl.1 rfl (lv_room (Nat.le_of_ble_eq_true rfl)) dX1_would_1 ⟨Nat.le_of_ble_eq_true rfl, Nat.le_of_ble_eq_true rfl⟩) hS (fun q _ h => h) (fun q h => h) (fun q _ h => h) (fun E ce q9 u t H locs ht hvm hpx hbx hz hk hS hce hcv hcl => ?_) (fun u t H locs ht hvm hpo hB hz1 hk1 hS => ?_)
  · obtain ⟨hodd, rfl, hP, hD⟩ := hbx
    rw [ht] at hP
    exact vx_out (fun x hx => (ht0 x hx).elim) hlocks hce hcv hcl (fun t ht hvm => ⟨(), trivial, ⟨⟨hodd, rfl⟩, by rw [ht]; exact hP, hD⟩, hS.F ht⟩) hS.2.2 (Nat.le_of_ble_eq_true rfl) (Nat.le_of_ble_eq_true rfl)
  obtain ⟨hP, -, hD⟩ := hB
  rw [ht] at hP
  obtain ⟨h0, hh0, rfl⟩ := oddH.not hpo
  have hl : lv_has ls 2 [(0, .ref x), (1, .int (nI h0))] := hl
  refine lv_aload_n hx hb dX1_would_4 rfl (lv_at hl 0 rfl) ?_
  refine lv_iload_n hx hb dX1_would_5 rfl (lv_at hl 1 rfl) ?_
  refine va_csq (va_Run.run (va_runV (As := [.int (nI h0)]) (rest := []) ⟨hx, hb, hml, hown, hts⟩ (c_X1_find l hh0 hs hin) (cwV 1 hts gX1_would_X1_find rfl rfl rfl (by decide +kernel) ⟨Nat.le_of_ble_eq_true rfl, Nat.le_of_ble_eq_true rfl⟩) ⟨PcR.blind, va_recv hG.1 hP (ci := 1) (q0 := 0) rfl cw_x, PcR.at hP hG⟩ rfl rfl hl.1 rfl (lv_room (Nat.le_of_ble_eq_true rfl)) dX1_would_6 ⟨Nat.le_of_ble_eq_true rfl, Nat.le_of_ble_eq_true rfl⟩)) (fun r6 q6 => ?_)
  subst q6
  refine zr_ifnull (tgt := 16) hx hb dX1_would_9 (by decide) (fun c9 => ?_) (fun k9 c9 => ?_)
  · have hm : ¬ h0 ∈ keysT T := fun q => by rw [(subT_mem hb0).mpr q] at c9; cases c9
    refine lv_aload_n hx hb dX1_would_16 rfl (lv_at hl 0 rfl) ?_
    refine lv_iload_n hx hb dX1_would_17 rfl (lv_at hl 1 rfl) ?_
    refine va_csq (va_Run.run (va_runV (As := [.int (nI h0)]) (rest := []) ⟨hx, hb, hml, hown, hts⟩ (c_X1_lastOnTheWayTo l hh0 hs hin c9) (cwV 1 hts gX1_would_X1_lastOnTheWayTo rfl rfl rfl (by decide +kernel) ⟨Nat.le_of_ble_eq_true rfl, Nat.le_of_ble_eq_true rfl⟩) ⟨PcR.blind, va_recv hG.1 hP (ci := 1) (q0 := 0) rfl cw_x, PcR.at hP hG⟩ rfl rfl hl.1 rfl (lv_room (Nat.le_of_ble_eq_true rfl)) dX1_would_18 ⟨Nat.le_of_ble_eq_true rfl, Nat.le_of_ble_eq_true rfl⟩)) (fun r18 q18 => ?_)
    subst q18
    refine vp_callSi (va_Run.run (va_runS (As := [va_rf ((parF h0 none T).map ad)]) (rest := []) ⟨hx, hb, hml, hown, hts⟩ (c_X1_newDepth l (ks := (anc h0 T).reverse) hcl (fun k e => (hin k (parF_mem e)).1) (UpC_top hs)) (va_cwS 1 hts gX1_would_X1_newDepth rfl rfl rfl (by decide +kernel) ⟨Nat.le_of_ble_eq_true rfl, Nat.le_of_ble_eq_true rfl⟩) ⟨PcR.blind, PcR.at hP hG⟩ rfl rfl hl.1 rfl (lv_room (Nat.le_of_ble_eq_true rfl)) dX1_would_21 ⟨Nat.le_of_ble_eq_true rfl, Nat.le_of_ble_eq_true rfl⟩)) (fun r21 q21 => ?_)
    subst q21
    refine W.widen (k := 4) (n := 30) (Nat.le_of_ble_eq_true rfl) (Nat.le_of_ble_eq_true rfl) ?_
    exact vx_ret (W.iret (v := (nI (anc h0 T).reverse.length)) hx hb hr (fun t ht hW => ⟨⟨_, (), rfl, ⟨oddH_nI hh0, by rw [kx_nI (by omega)]; rw [if_neg hm]; rw [List.length_reverse]⟩, by rw [ht]; exact hP, hG.moved hW, hD⟩, hS.F ht⟩) hS.2.2 dX1_would_24)
  · have hm : h0 ∈ keysT T := (subT_mem hb0).mp (subT_root.resolve_left (fun q => by rw [q] at c9; cases c9))
    refine lv_iconst (v := (-1)) hx hb dX1_would_12 (by decide) ?_
    refine lv_goto (tgt := 24) hx hb dX1_would_13 (by decide) ?_
    refine W.widen (k := 4) (n := 30) (Nat.le_of_ble_eq_true rfl) (Nat.le_of_ble_eq_true rfl) ?_
    exact vx_ret (W.iret (v := (-1)) hx hb hr (fun t ht hW => ⟨⟨_, (), rfl, ⟨oddH_nI hh0, by rw [kx_nI (by omega)]; rw [if_pos hm]⟩, by rw [ht]; exact hP, hG.moved hW, hD⟩, hS.F ht⟩) hS.2.2 dX1_would_24)

