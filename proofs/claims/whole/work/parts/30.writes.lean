/-! THE CLASS's calls that write: draw, discharge -/
set_option maxHeartbeats 4000000 in
set_option maxRecDepth 100000 in
/-- draw -/
theorem c_X1_draw (l : Launch) (hst : l.stackTraces = false) {D : va_G} {cA cZ cI : ClassId} {sa : Nat → Nat} {A : Nat → Prop} {x ln : Nat} {mo dr ds : Int32} {ad : Nat → Nat} {g : Nat → Nd} {T : Tr} {x0 : Int32} (hrep : RepC T (keysT T) g) : vx_Met l yX1_draw wsX1_draw ({ frames := 16, cells := 4, slots := 30, locals := 640 } : Room) (PcX sa D (tysA cA cZ cI) A (CWT x ln cA T mo dr ds ad g) [.ref x, .int x0]) (va_Qi (S := (Nat → Nat) × (Nat → Nd)) (fun r u => (¬ oddH x0 ∧ kx x0 ∈ keysT T ∧ r = enc (root (balF 8 (keysT (subT (kx x0) T))))) ∧ RepC (drawS (kx x0) (T, mo, dr, ds)).1 (keysT (drawS (kx x0) (T, mo, dr, ds)).1) u.2) (fun u => BM D (tysA cA cZ cI) A (CWT x ln cA (drawS (kx x0) (T, mo, dr, ds)).1 (drawS (kx x0) (T, mo, dr, ds)).2.1 (drawS (kx x0) (T, mo, dr, ds)).2.2.1 (drawS (kx x0) (T, mo, dr, ds)).2.2.2 u.1 u.2)) A) (vx_X (S := Unit) (fun _ => True) (fun E _ t => ((oddH x0 ∧ E = eIA) ∨ ((¬ oddH x0 ∧ ¬ kx x0 ∈ keysT T) ∧ E = eIS)) ∧ BMx D A (CWT x ln cA T mo dr ds ad g) t) A) 4 30 A := by
  refine vx_ofW (cc := cX1_draw) (maxL := 3) (ret := (some .int)) (by decide) rfl ?_
  intro p e s m args below meth c s₁ B hml ht0 hv
  obtain ⟨rfl, hA, hP, hG, hD, hX⟩ := hv
  have hx := B.exec
  have hb := B.bytes
  have hr := B.returns
  have hts := atoms_spec (ws := wsX1_draw) B.pre
  have hown : s.vm.findClass RX1 = some m.cls := findClass_of_methodNamed B.named
  have hlocks := B.notSynchronized
  have hl := lv_entry ([.ref x, .int x0]) (n := 3) (Nat.le_of_ble_eq_true rfl)
  rw [lg_entry_eq]
  generalize (lg_sl ([.ref x, .int x0]) ++ List.replicate (3 - (lg_sl ([.ref x, .int x0])).length) Slot.unset).toArray = ls at hl ⊢
  have hl : lv_has ls 3 [(0, .ref x), (1, .int x0)] := hl
  have hS : va_S A s.heap s.heap [] := va_S.rf
  have hP : va_P D vwCl (cw x ln cA (nI (siz T)) (root T) mo dr ds (fun i => (keysT T)[i]?) ((keysT T)) ad g) s.heap := hP
  have hD : va_D A (cw x ln cA (nI (siz T)) (root T) mo dr ds (fun i => (keysT T)[i]?) ((keysT T)) ad g) := hD
  have hcl := hrep.cl
  obtain ⟨hb0, hin0, hsz, hs, hc, hK0⟩ := id hrep
  have hin := hrep.in1
  refine lv_iload_n hx hb dX1_draw_0 rfl (lv_at hl 1 rfl) ?_
  refine vx_callv (vx_runS (As := [.int x0]) (rest := []) ⟨hx, hb, hml, hown, hts⟩ (c_X1_refuseOddHeight l hst (x0 := x0)) (va_cwS 1 hts gX1_draw_X1_refuseOddHeight rfl rfl rfl (by decide +kernel) ⟨Nat.le_of_ble_eq_true rfl, Nat.le_of_ble_eq_true rfl⟩) ⟨PcX.blind, PcX.at hA hS hP hG hD hX⟩ rfl rfl hl.1 rfl (lv_room (Nat.le_of_ble_eq_true rfl)) dX1_draw_1 ⟨Nat.le_of_ble_eq_true rfl, Nat.le_of_ble_eq_true rfl⟩) hS (fun q _ h => h) (fun q h => h) (fun q _ h => h) (fun E ce q9 u t H locs ht hvm hpx hbx hz hk hS hce hcv hcl => ?_) (fun u t H locs ht hvm hpo hB hz1 hk1 hS => ?_)
  · obtain ⟨hodd, rfl, hP, hD⟩ := hbx
    rw [ht] at hP
    exact vx_out (fun x hx => (ht0 x hx).elim) hlocks hce hcv hcl (fun t ht hvm => ⟨(), trivial, ⟨Or.inl ⟨hodd, rfl⟩, by rw [ht]; exact hP, hD⟩, hS.F ht⟩) hS.2.2 (Nat.le_of_ble_eq_true rfl) (Nat.le_of_ble_eq_true rfl)
  obtain ⟨hP, -, hD⟩ := hB
  rw [ht] at hP
  obtain ⟨h0, hh0, rfl⟩ := oddH.not hpo
  have hl : lv_has ls 3 [(0, .ref x), (1, .int (nI h0))] := hl
  refine lv_aload_n hx hb dX1_draw_4 rfl (lv_at hl 0 rfl) ?_
  refine lv_iload_n hx hb dX1_draw_5 rfl (lv_at hl 1 rfl) ?_
  refine va_csq (va_Run.run (va_runV (As := [.int (nI h0)]) (rest := []) ⟨hx, hb, hml, hown, hts⟩ (c_X1_find l hh0 hs hin) (cwV 1 hts gX1_draw_X1_find rfl rfl rfl (by decide +kernel) ⟨Nat.le_of_ble_eq_true rfl, Nat.le_of_ble_eq_true rfl⟩) ⟨PcR.blind, va_recv hG.1 hP (ci := 1) (q0 := 0) rfl cw_x, PcR.at hP hG⟩ rfl rfl hl.1 rfl (lv_room (Nat.le_of_ble_eq_true rfl)) dX1_draw_6 ⟨Nat.le_of_ble_eq_true rfl, Nat.le_of_ble_eq_true rfl⟩)) (fun r6 q6 => ?_)
  subst q6
  refine zr_astore_n (lv' := [(2, va_rf ((root (subT h0 T)).map ad)), (0, .ref x), (1, .int (nI h0))]) hx hb dX1_draw_9 rfl hl (by decide) rfl (fun ls hl => ?_)
  refine zr_aload_n hx hb dX1_draw_10 rfl (lv_at hl 0 rfl) ?_
  refine zr_ifnonnull (tgt := 24) hx hb dX1_draw_11 (by decide) (fun c11 => ?_) (fun k11 c11 => ?_)
  · have hm : ¬ h0 ∈ keysT T := fun q => by rw [(subT_mem hb0).mpr q] at c11; cases c11
    exact vx_throwS hx hb hst hown (cls := eIS) (text := "nobody has this height") (names := ["java/lang/RuntimeException", "java/lang/Exception"]) (by decide +kernel) (by decide +kernel) (hts (.classLink RX1 27 "java/lang/IllegalStateException") (by decide +kernel)) (hts (.initialized "java/lang/IllegalStateException") (by decide +kernel)) (hX.2.1.2.2.1) (vx_hat (L := vx_atS RX1 31 "java/lang/IllegalStateException" ["java/lang/RuntimeException", "java/lang/Exception"]) (B := [.castable eIS eIS, .declares (Bundle.initS "java/lang/RuntimeException"), .declares (Bundle.initS "java/lang/Exception"), .declares (Bundle.initS Bundle.tN)]) (fun w hw => hts w (List.mem_cons_of_mem _ (List.mem_append_left _ (List.mem_append_right _ hw)))) (by decide +kernel) (vx_c (va_Nw.use rfl hX.1.2.1) (vx_c (va_Nw.use rfl hX.1.2.2.2.1) (vx_c (va_Nw.use rfl hX.1.2.2.2.2.1) (vx_c (va_Nw.use rfl hX.1.2.2.2.2.2) vx_n))))) (by decide +kernel) hX.2.2.1 hX.2.2.2 hS (hl.1.trans hml.symm) dX1_draw_14 dX1_draw_17 dX1_draw_18 dX1_draw_20 dX1_draw_23 (fun x hx => (ht0 x hx).elim) (Nat.le_of_ble_eq_true rfl) (Nat.le_of_ble_eq_true rfl) (Nat.le_of_ble_eq_true rfl) (Nat.le_of_ble_eq_true rfl) hlocks (fun t hvm hz hk => ⟨(), trivial, ⟨Or.inr ⟨⟨oddH_nI hh0, by rw [kx_nI (by omega)]; exact hm⟩, rfl⟩, BMx.new hP hD hk⟩, xF hS hz hk⟩) hS.2.2 (Nat.le_of_ble_eq_true rfl) (Nat.le_of_ble_eq_true rfl)
  · have hm : h0 ∈ keysT T := (subT_mem hb0).mp (subT_root.resolve_left (fun q => by rw [q] at c11; cases c11))
    rw [(subT_mem hb0).mpr hm] at hl
    have hl : lv_has ls 3 [(2, .ref (ad h0)), (0, .ref x), (1, .int (nI h0))] := hl
    refine lv_aload_n hx hb dX1_draw_24 rfl (lv_at hl 1 rfl) ?_
    refine lv_aload_n hx hb dX1_draw_25 rfl (lv_at hl 0 rfl) ?_
    refine va_callq (va_runV (As := [.ref (ad h0)]) (rest := []) ⟨hx, hb, hml, hown, hts⟩ (c_X1_drawUp l hrep hm) (cwV 1 hts gX1_draw_X1_drawUp rfl rfl rfl (by decide +kernel) ⟨Nat.le_of_ble_eq_true rfl, Nat.le_of_ble_eq_true rfl⟩) ⟨PcM.blind, va_recv hG.1 hP (ci := 1) (q0 := 0) rfl cw_x, PcM.at (fun q h => hA q (Nat.le_trans hS.1 h)) hP hG hD⟩ rfl rfl hl.1 rfl (lv_room (Nat.le_of_ble_eq_true rfl)) dX1_draw_26 ⟨Nat.le_of_ble_eq_true rfl, Nat.le_of_ble_eq_true rfl⟩) hS (fun q _ h => h) (fun q h => h) (fun r26 g1 t H locs ht hvm q26 hB hz1 hk1 hS => ?_)
    obtain ⟨hP, -, hD⟩ := hB
    rw [ht] at hP
    have hP : va_P D vwCl (cw x ln cA (nI (siz T)) (root (drawT h0 T)) (moD T h0 mo) (dr + nI 1) (ds + nI (siz (subT h0 T))) (fun i => (keysT T)[i]?) ((keysT T)) ad g1) H := hP
    have hD : va_D A (cw x ln cA (nI (siz T)) (root (drawT h0 T)) (moD T h0 mo) (dr + nI 1) (ds + nI (siz (subT h0 T))) (fun i => (keysT T)[i]?) ((keysT T)) ad g1) := hD
    obtain ⟨rfl, hr2⟩ := q26
    obtain ⟨k1, k2⟩ := draw_keys (c := h0) hsz
    refine vp_callSi (va_Run.run (va_runS (As := [va_rf ((root (balF 8 (keysT (subT h0 T)))).map ad)]) (rest := []) ⟨hx, hb, hml, hown, hts⟩ (c_X1_heightOf l (o := root (balF 8 (keysT (subT h0 T)))) (fun k e => by have h1 := root_in e; rw [balF_keys 8 _ (by rw [keys_len]; have := sub_siz (h := h0) (T := T); omega)] at h1; exact subT_sub h1)) (va_cwS 1 hts gX1_draw_X1_heightOf rfl rfl rfl (by decide +kernel) ⟨Nat.le_of_ble_eq_true rfl, Nat.le_of_ble_eq_true rfl⟩) ⟨PcR.blind, PcR.at hP hG⟩ rfl rfl hl.1 rfl (lv_room (Nat.le_of_ble_eq_true rfl)) dX1_draw_29 ⟨Nat.le_of_ble_eq_true rfl, Nat.le_of_ble_eq_true rfl⟩)) (fun r29 q29 => ?_)
    subst q29
    have hP2 : va_P D vwCl (CWT x ln cA (drawT h0 T) (moD T h0 mo) (dr + nI 1) (ds + nI (siz (subT h0 T))) ad g1) H := by unfold CWT; rw [k1, k2]; exact hP
    have hD2 : va_D A (CWT x ln cA (drawT h0 T) (moD T h0 mo) (dr + nI 1) (ds + nI (siz (subT h0 T))) ad g1) := by unfold CWT; rw [k1, k2]; exact hD
    refine W.widen (k := 4) (n := 30) (Nat.le_of_ble_eq_true rfl) (Nat.le_of_ble_eq_true rfl) ?_
    exact vx_ret (W.iret (v := (enc (root (balF 8 (keysT (subT h0 T)))))) hx hb hr (fun t ht hW => ⟨⟨_, (ad, g1), rfl, ⟨⟨oddH_nI hh0, by rw [kx_nI (by omega)]; exact hm, by rw [kx_nI (by omega)]⟩, by rw [kx_nI (by omega)]; exact hr2.own⟩, by rw [ht]; exact by rw [kx_nI (by omega)]; exact hP2, hG.moved hW, by rw [kx_nI (by omega)]; exact hD2⟩, hS.F ht⟩) hS.2.2 dX1_draw_32)

theorem disS_0 {h : Nat} {T : Tr} {mo dr ds : Int32} (h0 : siz (delT h T) = 0) : disS h (T, mo, dr, ds) = (delT h T, 0, dr, ds) ∧ disB h (T, mo, dr, ds) = false := by
  refine ⟨if_pos h0, ?_⟩
  simp only [disB, h0]
  rfl
theorem disS_1 {h c : Nat} {T : Tr} {mo dr ds : Int32} (h0 : ¬ siz (delT h T) = 0) (h1 : nI 3 * nI (siz (delT h T)) < nI 2 * mo) (hr : root (delT h T) = some c) : disS h (T, mo, dr, ds) = (drawT c (delT h T), moD (delT h T) c mo, dr + nI 1, ds + nI (siz (subT c (delT h T)))) ∧ disB h (T, mo, dr, ds) = true := by
  refine ⟨?_, by simp only [disB]; rw [decide_eq_true h0, decide_eq_true h1]; rfl⟩
  simp only [disS]
  rw [if_neg h0, if_pos h1, hr]
  rfl
theorem disS_2 {h : Nat} {T : Tr} {mo dr ds : Int32} (h0 : ¬ siz (delT h T) = 0) (h1 : ¬ nI 3 * nI (siz (delT h T)) < nI 2 * mo) : disS h (T, mo, dr, ds) = (delT h T, mo, dr, ds) ∧ disB h (T, mo, dr, ds) = false := by
  refine ⟨?_, by simp only [disB]; rw [decide_eq_false h1, Bool.and_false]⟩
  simp only [disS]
  rw [if_neg h0, if_neg h1]
set_option maxHeartbeats 4000000 in
set_option maxRecDepth 100000 in
/-- discharge -/
theorem c_X1_discharge (l : Launch) (hst : l.stackTraces = false) {D : va_G} {cA cZ cI : ClassId} {sa : Nat → Nat} {A : Nat → Prop} {x ln : Nat} {mo dr ds : Int32} {ad : Nat → Nat} {g : Nat → Nd} {T : Tr} {x0 : Int32} (hrep : RepC T (keysT T) g) : vx_Met l yX1_discharge wsX1_discharge ({ frames := 16, cells := 4, slots := 30, locals := 640 } : Room) (PcX sa D (tysA cA cZ cI) A (CWT x ln cA T mo dr ds ad g) [.ref x, .int x0]) (va_Qi (S := (Nat → Nat) × (Nat → Nd)) (fun r u => (¬ oddH x0 ∧ kx x0 ∈ keysT T ∧ r = b2i (disB (kx x0) (T, mo, dr, ds))) ∧ RepC (disS (kx x0) (T, mo, dr, ds)).1 (keysT (disS (kx x0) (T, mo, dr, ds)).1) u.2) (fun u => BM D (tysA cA cZ cI) A (CWT x ln cA (disS (kx x0) (T, mo, dr, ds)).1 (disS (kx x0) (T, mo, dr, ds)).2.1 (disS (kx x0) (T, mo, dr, ds)).2.2.1 (disS (kx x0) (T, mo, dr, ds)).2.2.2 u.1 u.2)) A) (vx_X (S := Unit) (fun _ => True) (fun E _ t => ((oddH x0 ∧ E = eIA) ∨ ((¬ oddH x0 ∧ ¬ kx x0 ∈ keysT T) ∧ E = eIS)) ∧ BMx D A (CWT x ln cA T mo dr ds ad g) t) A) 4 30 A := by
  refine vx_ofW (cc := cX1_discharge) (maxL := 3) (ret := (some .boolean)) (by decide) rfl ?_
  intro p e s m args below meth c s₁ B hml ht0 hv
  obtain ⟨rfl, hA, hP, hG, hD, hX⟩ := hv
  have hx := B.exec
  have hb := B.bytes
  have hr := B.returns
  have hts := atoms_spec (ws := wsX1_discharge) B.pre
  have hown : s.vm.findClass RX1 = some m.cls := findClass_of_methodNamed B.named
  have hlocks := B.notSynchronized
  have hl := lv_entry ([.ref x, .int x0]) (n := 3) (Nat.le_of_ble_eq_true rfl)
  rw [lg_entry_eq]
  generalize (lg_sl ([.ref x, .int x0]) ++ List.replicate (3 - (lg_sl ([.ref x, .int x0])).length) Slot.unset).toArray = ls at hl ⊢
  have hl : lv_has ls 3 [(0, .ref x), (1, .int x0)] := hl
  have hS : va_S A s.heap s.heap [] := va_S.rf
  have hP : va_P D vwCl (cw x ln cA (nI (siz T)) (root T) mo dr ds (fun i => (keysT T)[i]?) ((keysT T)) ad g) s.heap := hP
  have hD : va_D A (cw x ln cA (nI (siz T)) (root T) mo dr ds (fun i => (keysT T)[i]?) ((keysT T)) ad g) := hD
  have hcl := hrep.cl
  obtain ⟨hb0, hin0, hsz, hs, hc, hK0⟩ := id hrep
  have hin := hrep.in1
  refine lv_iload_n hx hb dX1_discharge_0 rfl (lv_at hl 1 rfl) ?_
  refine vx_callv (vx_runS (As := [.int x0]) (rest := []) ⟨hx, hb, hml, hown, hts⟩ (c_X1_refuseOddHeight l hst (x0 := x0)) (va_cwS 1 hts gX1_discharge_X1_refuseOddHeight rfl rfl rfl (by decide +kernel) ⟨Nat.le_of_ble_eq_true rfl, Nat.le_of_ble_eq_true rfl⟩) ⟨PcX.blind, PcX.at hA hS hP hG hD hX⟩ rfl rfl hl.1 rfl (lv_room (Nat.le_of_ble_eq_true rfl)) dX1_discharge_1 ⟨Nat.le_of_ble_eq_true rfl, Nat.le_of_ble_eq_true rfl⟩) hS (fun q _ h => h) (fun q h => h) (fun q _ h => h) (fun E ce q9 u t H locs ht hvm hpx hbx hz hk hS hce hcv hcl => ?_) (fun u t H locs ht hvm hpo hB hz1 hk1 hS => ?_)
  · obtain ⟨hodd, rfl, hP, hD⟩ := hbx
    rw [ht] at hP
    exact vx_out (fun x hx => (ht0 x hx).elim) hlocks hce hcv hcl (fun t ht hvm => ⟨(), trivial, ⟨Or.inl ⟨hodd, rfl⟩, by rw [ht]; exact hP, hD⟩, hS.F ht⟩) hS.2.2 (Nat.le_of_ble_eq_true rfl) (Nat.le_of_ble_eq_true rfl)
  obtain ⟨hP, -, hD⟩ := hB
  rw [ht] at hP
  obtain ⟨h0, hh0, rfl⟩ := oddH.not hpo
  have hl : lv_has ls 3 [(0, .ref x), (1, .int (nI h0))] := hl
  refine lv_aload_n hx hb dX1_discharge_4 rfl (lv_at hl 0 rfl) ?_
  refine lv_iload_n hx hb dX1_discharge_5 rfl (lv_at hl 1 rfl) ?_
  refine va_csq (va_Run.run (va_runV (As := [.int (nI h0)]) (rest := []) ⟨hx, hb, hml, hown, hts⟩ (c_X1_find l hh0 hs hin) (cwV 1 hts gX1_discharge_X1_find rfl rfl rfl (by decide +kernel) ⟨Nat.le_of_ble_eq_true rfl, Nat.le_of_ble_eq_true rfl⟩) ⟨PcR.blind, va_recv hG.1 hP (ci := 1) (q0 := 0) rfl cw_x, PcR.at hP hG⟩ rfl rfl hl.1 rfl (lv_room (Nat.le_of_ble_eq_true rfl)) dX1_discharge_6 ⟨Nat.le_of_ble_eq_true rfl, Nat.le_of_ble_eq_true rfl⟩)) (fun r6 q6 => ?_)
  subst q6
  refine zr_astore_n (lv' := [(2, va_rf ((root (subT h0 T)).map ad)), (0, .ref x), (1, .int (nI h0))]) hx hb dX1_discharge_9 rfl hl (by decide) rfl (fun ls hl => ?_)
  refine zr_aload_n hx hb dX1_discharge_10 rfl (lv_at hl 0 rfl) ?_
  refine zr_ifnonnull (tgt := 24) hx hb dX1_discharge_11 (by decide) (fun c11 => ?_) (fun k11 c11 => ?_)
  · have hm : ¬ h0 ∈ keysT T := fun q => by rw [(subT_mem hb0).mpr q] at c11; cases c11
    exact vx_throwS hx hb hst hown (cls := eIS) (text := "nobody has this height") (names := ["java/lang/RuntimeException", "java/lang/Exception"]) (by decide +kernel) (by decide +kernel) (hts (.classLink RX1 27 "java/lang/IllegalStateException") (by decide +kernel)) (hts (.initialized "java/lang/IllegalStateException") (by decide +kernel)) (hX.2.1.2.2.1) (vx_hat (L := vx_atS RX1 31 "java/lang/IllegalStateException" ["java/lang/RuntimeException", "java/lang/Exception"]) (B := [.castable eIS eIS, .declares (Bundle.initS "java/lang/RuntimeException"), .declares (Bundle.initS "java/lang/Exception"), .declares (Bundle.initS Bundle.tN)]) (fun w hw => hts w (List.mem_cons_of_mem _ (List.mem_append_left _ (List.mem_append_right _ hw)))) (by decide +kernel) (vx_c (va_Nw.use rfl hX.1.2.1) (vx_c (va_Nw.use rfl hX.1.2.2.2.1) (vx_c (va_Nw.use rfl hX.1.2.2.2.2.1) (vx_c (va_Nw.use rfl hX.1.2.2.2.2.2) vx_n))))) (by decide +kernel) hX.2.2.1 hX.2.2.2 hS (hl.1.trans hml.symm) dX1_discharge_14 dX1_discharge_17 dX1_discharge_18 dX1_discharge_20 dX1_discharge_23 (fun x hx => (ht0 x hx).elim) (Nat.le_of_ble_eq_true rfl) (Nat.le_of_ble_eq_true rfl) (Nat.le_of_ble_eq_true rfl) (Nat.le_of_ble_eq_true rfl) hlocks (fun t hvm hz hk => ⟨(), trivial, ⟨Or.inr ⟨⟨oddH_nI hh0, by rw [kx_nI (by omega)]; exact hm⟩, rfl⟩, BMx.new hP hD hk⟩, xF hS hz hk⟩) hS.2.2 (Nat.le_of_ble_eq_true rfl) (Nat.le_of_ble_eq_true rfl)
  · have hm : h0 ∈ keysT T := (subT_mem hb0).mp (subT_root.resolve_left (fun q => by rw [q] at c11; cases c11))
    rw [(subT_mem hb0).mpr hm] at hl
    have hl : lv_has ls 3 [(2, .ref (ad h0)), (0, .ref x), (1, .int (nI h0))] := hl
    obtain ⟨sz, v, lt, rt, esub, p1, p2, p3, p4, p5, p6, p7, p8⟩ := hrep.at hm
    obtain ⟨kd1, kd2⟩ := keys_del hb0 esub
    obtain ⟨db, dz, dm⟩ := del_bst hb0 esub
    have hcn := cnt_ofs h0 T
    rw [esub] at hcn
    simp only [sizL] at hcn
    have hxl : ((kl h0 T ++ keysT lt)).length = cntLt h0 T := by rw [List.length_append, kl_len, keys_len]; exact hcn.symm
    have hxy : ((kl h0 T ++ keysT lt)).length + ((keysT rt ++ kr h0 T)).length + 1 = siz T := by rw [← keys_len T, kd1]; simp only [List.length_append, List.length_cons]; omega
    have hxz : ((kl h0 T ++ keysT lt)).length + ((keysT rt ++ kr h0 T)).length = siz (delT h0 T) := by omega
    have hP : va_P D vwCl (cw x ln cA (nI (((kl h0 T ++ keysT lt)).length + ((keysT rt ++ kr h0 T)).length + 1)) (root T) mo dr ds (fun i => ((kl h0 T ++ keysT lt) ++ h0 :: (keysT rt ++ kr h0 T))[i]?) ((keysT T)) ad g) H := by rw [hxy, ← kd1]; exact hP
    have hD : va_D A (cw x ln cA (nI (((kl h0 T ++ keysT lt)).length + ((keysT rt ++ kr h0 T)).length + 1)) (root T) mo dr ds (fun i => ((kl h0 T ++ keysT lt) ++ h0 :: (keysT rt ++ kr h0 T))[i]?) ((keysT T)) ad g) := by rw [hxy, ← kd1]; exact hD
    refine lv_aload_n hx hb dX1_discharge_24 rfl (lv_at hl 1 rfl) ?_
    refine lv_aload_n hx hb dX1_discharge_25 rfl (lv_at hl 0 rfl) ?_
    refine va_callv (va_runV (As := [.ref (ad h0)]) (rest := []) ⟨hx, hb, hml, hown, hts⟩ (c_X1_removeFromLine l (T := T) (xs := (kl h0 T ++ keysT lt)) (ys := (keysT rt ++ kr h0 T)) hcl hs hc hin hm hxl.symm (fun j hj => hin j (by rw [kd1]; rw [List.mem_append] at hj ⊢; exact hj.imp id (List.mem_cons_of_mem _))) (by omega)) (cwV 1 hts gX1_discharge_X1_removeFromLine rfl rfl rfl (by decide +kernel) ⟨Nat.le_of_ble_eq_true rfl, Nat.le_of_ble_eq_true rfl⟩) ⟨PcM.blind, va_recv hG.1 hP (ci := 1) (q0 := 0) rfl cw_x, PcM.at (fun q h => hA q (Nat.le_trans hS.1 h)) hP hG hD⟩ rfl rfl hl.1 rfl (lv_room (Nat.le_of_ble_eq_true rfl)) dX1_discharge_26 ⟨Nat.le_of_ble_eq_true rfl, Nat.le_of_ble_eq_true rfl⟩) hS (fun q _ h => h) (fun q h => h) (fun u26 t H locs ht hvm q26 hB hz1 hk1 hS => ?_)
    obtain ⟨hP, -, hD⟩ := hB
    rw [ht] at hP
    have hP : va_P D vwCl (cw x ln cA (nI (((kl h0 T ++ keysT lt)).length + ((keysT rt ++ kr h0 T)).length)) (root T) mo dr ds (fun i => ((kl h0 T ++ keysT lt) ++ (keysT rt ++ kr h0 T))[i]?) ((keysT T)) ad g) H := hP
    have hD : va_D A (cw x ln cA (nI (((kl h0 T ++ keysT lt)).length + ((keysT rt ++ kr h0 T)).length)) (root T) mo dr ds (fun i => ((kl h0 T ++ keysT lt) ++ (keysT rt ++ kr h0 T))[i]?) ((keysT T)) ad g) := hD
    have hP : va_P D vwCl (cw x ln cA (nI (siz (delT h0 T))) (root T) mo dr ds (fun i => (keysT (delT h0 T))[i]?) ((keysT T)) ad g) H := by rw [← hxz, kd2]; exact hP
    have hD : va_D A (cw x ln cA (nI (siz (delT h0 T))) (root T) mo dr ds (fun i => (keysT (delT h0 T))[i]?) ((keysT T)) ad g) := by rw [← hxz, kd2]; exact hD
    refine lv_aload_n hx hb dX1_discharge_29 rfl (lv_at hl 1 rfl) ?_
    refine lv_aload_n hx hb dX1_discharge_30 rfl (lv_at hl 0 rfl) ?_
    refine va_callv (va_runV (As := [.ref (ad h0)]) (rest := []) ⟨hx, hb, hml, hown, hts⟩ (c_X1_removeFromRanks l (T := T) (L := h0) hcl hb0 hs hc hin hm) (cwV 1 hts gX1_discharge_X1_removeFromRanks rfl rfl rfl (by decide +kernel) ⟨Nat.le_of_ble_eq_true rfl, Nat.le_of_ble_eq_true rfl⟩) ⟨PcM.blind, va_recv hG.1 hP (ci := 1) (q0 := 0) rfl cw_x, PcM.at (fun q h => hA q (Nat.le_trans hS.1 h)) hP hG hD⟩ rfl rfl hl.1 rfl (lv_room (Nat.le_of_ble_eq_true rfl)) dX1_discharge_31 ⟨Nat.le_of_ble_eq_true rfl, Nat.le_of_ble_eq_true rfl⟩) hS (fun q _ h => h) (fun q h => h) (fun g1 t H locs ht hvm q31 hB hz1 hk1 hS => ?_)
    obtain ⟨hP, -, hD⟩ := hB
    rw [ht] at hP
    have hP : va_P D vwCl (cw x ln cA (nI (siz (delT h0 T))) (root (delT h0 T)) mo dr ds (fun i => (keysT (delT h0 T))[i]?) ((keysT T)) ad g1) H := hP
    have hD : va_D A (cw x ln cA (nI (siz (delT h0 T))) (root (delT h0 T)) mo dr ds (fun i => (keysT (delT h0 T))[i]?) ((keysT T)) ad g1) := hD
    have hr1 : RepC (delT h0 T) (keysT (delT h0 T)) g1 := ⟨db, fun k hk => hin0 k ((dm k).mp hk).1, by omega, q31.1, q31.2, fun _ => Iff.rfl⟩
    obtain ⟨hP, hD⟩ := cw_sub (K' := keysT (delT h0 T)) hP hD (fun k hk => ((dm k).mp hk).1) (bst_nodup db)
    have hP : va_P D vwCl (cw x ln cA (nI (siz (delT h0 T))) (root (delT h0 T)) mo dr ds (fun i => (keysT (delT h0 T))[i]?) (keysT (delT h0 T)) ad g1) H := hP
    have hD : va_D A (cw x ln cA (nI (siz (delT h0 T))) (root (delT h0 T)) mo dr ds (fun i => (keysT (delT h0 T))[i]?) (keysT (delT h0 T)) ad g1) := hD
    refine lv_aload_n hx hb dX1_discharge_34 rfl (lv_at hl 1 rfl) ?_
    refine va_get (D := D) (ci := 1) (v := .int (nI (siz (delT h0 T)))) (C := RX1) (T := TX1) (N := 6) hx hb hts (by decide +kernel) hown hG.1 hP 0 cw_x rfl 1 (by decide) (hts (.fieldLink RX1 19 "LopsidedRanks" "soldiers" "I") (by decide +kernel)) (fun _ h9 => h9) rfl dX1_discharge_35 ?_
    refine lv_if_ne (tgt := 48) hx hb dX1_discharge_38 (by decide) (fun c38 => ?_) (fun c38 => ?_)
    · replace c38 := (not_congr (zr_eq0 (by omega))).mp c38
      refine lv_iconst (v := nI 3) hx hb dX1_discharge_48 (by decide) ?_
      refine lv_aload_n hx hb dX1_discharge_49 rfl (lv_at hl 1 rfl) ?_
      refine va_get (D := D) (ci := 1) (v := .int (nI (siz (delT h0 T)))) (C := RX1) (T := TX1) (N := 6) hx hb hts (by decide +kernel) hown hG.1 hP 0 cw_x rfl 1 (by decide) (hts (.fieldLink RX1 19 "LopsidedRanks" "soldiers" "I") (by decide +kernel)) (fun _ h9 => h9) rfl dX1_discharge_50 ?_
      refine lv_imul hx hb dX1_discharge_53 ?_
      refine zr_eqi (pk_mul 3 (siz (delT h0 T))) ?_
      refine lv_iconst (v := nI 2) hx hb dX1_discharge_54 (by decide) ?_
      refine lv_aload_n hx hb dX1_discharge_55 rfl (lv_at hl 1 rfl) ?_
      refine va_get (D := D) (ci := 1) (v := .int mo) (C := RX1) (T := TX1) (N := 6) hx hb hts (by decide +kernel) hown hG.1 hP 0 cw_x rfl 3 (by decide) (hts (.fieldLink RX1 51 "LopsidedRanks" "most" "I") (by decide +kernel)) (fun _ h9 => h9) rfl dX1_discharge_56 ?_
      refine lv_imul hx hb dX1_discharge_59 ?_
      refine lv_icmp_ge (tgt := 74) hx hb dX1_discharge_60 (by decide) (fun c60 => ?_) (fun c60 => ?_)
      · have hlt : ¬ nI 3 * nI (siz (delT h0 T)) < nI 2 * mo := by rw [pk_mul]; exact fun q => absurd q (Int32.not_lt.mpr c60)
        refine lv_iconst (v := nI 0) hx hb dX1_discharge_74 (by decide) ?_
        have e9 := disS_2 (dr := dr) (ds := ds) c38 hlt
        have ek := kx_nI (show h0 < 2 ^ 31 by omega)
        refine W.widen (k := 4) (n := 30) (Nat.le_of_ble_eq_true rfl) (Nat.le_of_ble_eq_true rfl) ?_
        exact vx_ret (W.zret (v := (nI 0)) hx hb hr rfl (fun t ht hW => ⟨⟨_, (ad, g1), rfl, ⟨⟨oddH_nI hh0, by rw [ek]; exact hm, by rw [ek, e9.2]; rfl⟩, by rw [ek, e9.1]; exact hr1⟩, by rw [ht]; exact by rw [ek, e9.1]; exact hP, hG.moved hW, by rw [ek, e9.1]; exact hD⟩, hS.F ht⟩) hS.2.2 dX1_discharge_75)
      · have hlt : nI 3 * nI (siz (delT h0 T)) < nI 2 * mo := by rw [pk_mul]; exact Int32.not_le.mp c60
        refine lv_aload_n hx hb dX1_discharge_63 rfl (lv_at hl 1 rfl) ?_
        refine lv_aload_n hx hb dX1_discharge_64 rfl (lv_at hl 1 rfl) ?_
        refine va_get (D := D) (ci := 1) (v := va_rf ((root (delT h0 T)).map ad)) (C := RX1) (T := TX1) (N := 6) hx hb hts (by decide +kernel) hown hG.1 hP 0 cw_x rfl 2 (by decide) (hts (.fieldLink RX1 77 "LopsidedRanks" "top" "LLopsidedRanks$Soldier;") (by decide +kernel)) (fun _ h9 => h9) rfl dX1_discharge_65 ?_
        obtain ⟨c0, hc0⟩ : ∃ c0, root (delT h0 T) = some c0 := by
          cases e : delT h0 T with
          | leaf => rw [e] at c38; exact absurd rfl c38
          | inner s k v l r => exact ⟨k, rfl⟩
        refine zr_eqk hc0 ?_
        obtain ⟨k1, k2⟩ := draw_keys (c := c0) hr1.2.2.1
        refine va_callq (va_runV (As := [.ref (ad c0)]) (rest := []) ⟨hx, hb, hml, hown, hts⟩ (c_X1_drawUp l hr1 (root_in hc0)) (cwV 1 hts gX1_discharge_X1_drawUp rfl rfl rfl (by decide +kernel) ⟨Nat.le_of_ble_eq_true rfl, Nat.le_of_ble_eq_true rfl⟩) ⟨PcM.blind, va_recv hG.1 hP (ci := 1) (q0 := 0) rfl cw_x, PcM.at (fun q h => hA q (Nat.le_trans hS.1 h)) hP hG hD⟩ rfl rfl hl.1 rfl (lv_room (Nat.le_of_ble_eq_true rfl)) dX1_discharge_68 ⟨Nat.le_of_ble_eq_true rfl, Nat.le_of_ble_eq_true rfl⟩) hS (fun q _ h => h) (fun q h => h) (fun r68 g2 t H locs ht hvm q68 hB hz1 hk1 hS => ?_)
        obtain ⟨hP, -, hD⟩ := hB
        rw [ht] at hP
        have hP : va_P D vwCl (cw x ln cA (nI (siz (delT h0 T))) (root (drawT c0 (delT h0 T))) (moD (delT h0 T) c0 mo) (dr + nI 1) (ds + nI (siz (subT c0 (delT h0 T)))) (fun i => (keysT (delT h0 T))[i]?) (keysT (delT h0 T)) ad g2) H := hP
        have hD : va_D A (cw x ln cA (nI (siz (delT h0 T))) (root (drawT c0 (delT h0 T))) (moD (delT h0 T) c0 mo) (dr + nI 1) (ds + nI (siz (subT c0 (delT h0 T)))) (fun i => (keysT (delT h0 T))[i]?) (keysT (delT h0 T)) ad g2) := hD
        obtain ⟨rfl, hr2⟩ := q68
        refine lv_pop hx hb dX1_discharge_71 (zr_cat _) ?_
        refine lv_iconst (v := nI 1) hx hb dX1_discharge_72 (by decide) ?_
        have e9 := disS_1 (dr := dr) (ds := ds) c38 hlt hc0
        have ek := kx_nI (show h0 < 2 ^ 31 by omega)
        refine W.widen (k := 4) (n := 30) (Nat.le_of_ble_eq_true rfl) (Nat.le_of_ble_eq_true rfl) ?_
        exact vx_ret (W.zret (v := (nI 1)) hx hb hr rfl (fun t ht hW => ⟨⟨_, (ad, g2), rfl, ⟨⟨oddH_nI hh0, by rw [ek]; exact hm, by rw [ek, e9.2]; rfl⟩, by rw [ek, e9.1]; exact hr2.own⟩, by rw [ht]; exact by rw [ek, e9.1]; unfold CWT; rw [k1, k2]; exact hP, hG.moved hW, by rw [ek, e9.1]; unfold CWT; rw [k1, k2]; exact hD⟩, hS.F ht⟩) hS.2.2 dX1_discharge_73)
    · replace c38 := (zr_eq0 (by omega)).mp c38
      refine lv_aload_n hx hb dX1_discharge_41 rfl (lv_at hl 1 rfl) ?_
      refine lv_iconst (v := nI 0) hx hb dX1_discharge_42 (by decide) ?_
      refine va_put (D := D) (ci := 1) (v := .int (nI 0)) (ty := .int) (C := RX1) (T := TX1) (N := 6) hx hb hts (by decide +kernel) tyX1 tyX1_ok nmX1 hown hG.1 hP hD hS 0 cw_x rfl 3 (by decide) (hts (.fieldLink RX1 51 "LopsidedRanks" "most" "I") (by decide +kernel)) (fun _ h9 => h9) rfl (by decide +kernel) rfl rfl (Nat.le_of_ble_eq_true rfl) dX1_discharge_43 (fun H locs hP hD hS => ?_)
      have hP : va_P D vwCl (cw x ln cA (nI (siz (delT h0 T))) (root (delT h0 T)) ((nI 0)) dr ds (fun i => (keysT (delT h0 T))[i]?) (keysT (delT h0 T)) ad g1) H := hP
      have hD : va_D A (cw x ln cA (nI (siz (delT h0 T))) (root (delT h0 T)) ((nI 0)) dr ds (fun i => (keysT (delT h0 T))[i]?) (keysT (delT h0 T)) ad g1) := hD
      refine lv_iconst (v := nI 0) hx hb dX1_discharge_46 (by decide) ?_
      have e9 := disS_0 (mo := mo) (dr := dr) (ds := ds) c38
      have ek := kx_nI (show h0 < 2 ^ 31 by omega)
      refine W.widen (k := 4) (n := 30) (Nat.le_of_ble_eq_true rfl) (Nat.le_of_ble_eq_true rfl) ?_
      exact vx_ret (W.zret (v := (nI 0)) hx hb hr rfl (fun t ht hW => ⟨⟨_, (ad, g1), rfl, ⟨⟨oddH_nI hh0, by rw [ek]; exact hm, by rw [ek, e9.2]; rfl⟩, by rw [ek, e9.1]; exact hr1⟩, by rw [ht]; exact by rw [ek, e9.1]; exact hP, hG.moved hW, by rw [ek, e9.1]; exact hD⟩, hS.F ht⟩) hS.2.2 dX1_discharge_47)

