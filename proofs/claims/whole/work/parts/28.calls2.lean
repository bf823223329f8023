/-! THE CLASS's calls that read, second part -/
set_option maxHeartbeats 4000000 in
set_option maxRecDepth 100000 in
theorem L_X1_captain {D : va_G} {cA cZ cI : ClassId} {x ln : Nat} {n : Int32} {tp : Option Nat} {mo dr ds : Int32} {li : Nat → Option Nat} {K : List Nat} {ad : Nat → Nat} {g : Nat → Nd} {p : Program} {l : Launch} {e : Env} {R : Room} {s : State} {m : MethodId} {args : Array Value} {below : List Frame} {meth : Method} {c : Code} {Q : State → Prop} {cells slots : Nat} {H : Heap} {locs : List Loc} (hx : p.tables.exec = Jvm.exec) (hb : c.code = cX1_captain) (hml : c.maxLocals = 6) (hts : ∀ w ∈ wsX1_captain, w.before args s = true) (hown : s.vm.findClass RX1 = some m.cls) (hG : GK D (tysA cA cZ cI) s) (hP : va_P D vwCl (cw x ln cA n tp mo dr ds li K ad g) H) (hR : 1 ≤ R.frames ∧ 40 ≤ R.locals) (hC : cells ≤ R.cells ∧ slots ≤ R.slots) {h0 h1 a0 b0 : Nat} (ha : a0 < 1000) (hb1 : b0 < 1000) (hab : a0 ≤ b0) : ∀ {t : Tr} {a : Option Nat}, ShP g a t → (∀ j ∈ keysT t, j ∈ K ∧ j < 1000) → (∀ ls, lv_has ls 6 [(5, va_rf ((lca a0 b0 t).map ad)), (4, .int (nI b0)), (3, .int (nI a0)), (0, .ref x), (1, .int (nI h0)), (2, .int (nI h1))] → W p l e R s m args below meth c H locs cells slots Q (F0 m 88 ls [])) → ∀ ls, lv_has ls 6 [(5, va_rf ((root t).map ad)), (4, .int (nI b0)), (3, .int (nI a0)), (0, .ref x), (1, .int (nI h0)), (2, .int (nI h1))] → W p l e R s m args below meth c H locs cells slots Q (F0 m 53 ls []) := by
  intro t
  induction t with
  | leaf =>
    intro a _ hin kk ls hl
    have hl : lv_has ls 6 [(5, .null), (4, .int (nI b0)), (3, .int (nI a0)), (0, .ref x), (1, .int (nI h0)), (2, .int (nI h1))] := hl
    refine lv_aloadN hx hb dX1_captain_53 (lv_at hl 0 rfl) ?_
    refine lv_ifnullN (tgt := 88) hx hb dX1_captain_55 (by decide) ?_
    exact kk _ hl
  | inner sz k v lt rt ihl ihr =>
    intro a hs hin kk ls hl
    obtain ⟨-, h2, h3, h4, h5⟩ := hs
    obtain ⟨hk, hkn⟩ := hin k ((keys_in ..).mpr (Or.inr (Or.inl rfl)))
    have hl : lv_has ls 6 [(5, .ref (ad k)), (4, .int (nI b0)), (3, .int (nI a0)), (0, .ref x), (1, .int (nI h0)), (2, .int (nI h1))] := hl
    refine lv_aload hx hb dX1_captain_53 (lv_at hl 0 rfl) ?_
    refine lv_ifnull hx hb dX1_captain_55 ?_
    refine lv_iload hx hb dX1_captain_58 (lv_at hl 1 rfl) ?_
    refine lv_aload hx hb dX1_captain_60 (lv_at hl 0 rfl) ?_
    obtain ⟨i0, hi0⟩ := cw_s (x := x) (ln := ln) (cA := cA) (n := n) (tp := tp) (mo := mo) (dr := dr) (ds := ds) (li := li) (ad := ad) (g := g) (hk : k ∈ K)
    refine va_get (D := D) (ci := 0) (v := .int (nI k)) (C := RX0) (T := TX0) (N := 5) hx hb hts (by decide +kernel) hown hG.1 hP i0 hi0 rfl 0 (by decide) (hts (.fieldLink RX1 100 "LopsidedRanks$Soldier" "height" "I") (by decide +kernel)) (fun _ h9 => h9) rfl dX1_captain_62 ?_
    refine lv_icmp_lt (tgt := 77) hx hb dX1_captain_65 (by decide) (fun c65 => ?_) (fun c65 => ?_)
    · rw [nI_ltI (by omega) (by omega)] at c65
      refine lv_aload hx hb dX1_captain_77 (lv_at hl 0 rfl) ?_
      refine lv_iload_n hx hb dX1_captain_79 rfl (lv_at hl 2 rfl) ?_
      obtain ⟨i1, hi1⟩ := cw_s (x := x) (ln := ln) (cA := cA) (n := n) (tp := tp) (mo := mo) (dr := dr) (ds := ds) (li := li) (ad := ad) (g := g) (hk : k ∈ K)
      refine va_csq (va_Run.run (va_runV (As := [.int (nI a0)]) (rest := []) ⟨hx, hb, hml, hown, hts⟩ (c_X0_towards l hk (by omega) (by omega)) (cwV 1 hts gX1_captain_X0_towards rfl rfl rfl (by decide +kernel) ⟨Nat.le_trans (Nat.le_of_ble_eq_true rfl) hR.1, Nat.le_trans (Nat.le_of_ble_eq_true rfl) hR.2⟩) ⟨PcR.blind, va_recv hG.1 hP (ci := 0) (q0 := i1) rfl hi1, PcR.at hP hG⟩ rfl rfl hl.1 rfl (lv_room (Nat.le_of_ble_eq_true rfl)) dX1_captain_80 ⟨hC.1, hC.2⟩)) (fun r80 q80 => ?_)
      subst q80
      refine zr_astore (lv' := [(5, va_rf ((if a0 < k then (g k).2.1 else (g k).2.2.1).map ad)), (4, .int (nI b0)), (3, .int (nI a0)), (0, .ref x), (1, .int (nI h0)), (2, .int (nI h1))]) hx hb dX1_captain_83 hl (by decide) rfl (fun ls hl => ?_)
      refine lv_goto (tgt := 53) hx hb dX1_captain_85 (by decide) ?_
      have hout : b0 < k ∨ k < a0 := by omega
      by_cases hlt : a0 < k
      · rw [if_pos hlt, h2] at hl
        have e9 : lca a0 b0 (.inner sz k v lt rt) = lca a0 b0 lt := by simp only [lca]; rw [if_pos hout, if_pos hlt]
        rw [e9] at kk
        exact ihl h4 (fun j hj => hin j ((keys_in ..).mpr (Or.inl hj))) kk _ hl
      · rw [if_neg hlt, h3] at hl
        have e9 : lca a0 b0 (.inner sz k v lt rt) = lca a0 b0 rt := by simp only [lca]; rw [if_pos hout, if_neg hlt]
        rw [e9] at kk
        exact ihr h5 (fun j hj => hin j ((keys_in ..).mpr (Or.inr (Or.inr hj)))) kk _ hl
    · rw [nI_ltI (by omega) (by omega)] at c65
      refine lv_iload_n hx hb dX1_captain_68 rfl (lv_at hl 2 rfl) ?_
      refine lv_aload hx hb dX1_captain_69 (lv_at hl 0 rfl) ?_
      obtain ⟨i2, hi2⟩ := cw_s (x := x) (ln := ln) (cA := cA) (n := n) (tp := tp) (mo := mo) (dr := dr) (ds := ds) (li := li) (ad := ad) (g := g) (hk : k ∈ K)
      refine va_get (D := D) (ci := 0) (v := .int (nI k)) (C := RX0) (T := TX0) (N := 5) hx hb hts (by decide +kernel) hown hG.1 hP i2 hi2 rfl 0 (by decide) (hts (.fieldLink RX1 100 "LopsidedRanks$Soldier" "height" "I") (by decide +kernel)) (fun _ h9 => h9) rfl dX1_captain_71 ?_
      refine lv_icmp_le (tgt := 88) hx hb dX1_captain_74 (by decide) (fun c74 => ?_) (fun c74 => ?_)
      · rw [nI_leI (by omega) (by omega)] at c74
        have e9 : lca a0 b0 (.inner sz k v lt rt) = some k := by simp only [lca]; rw [if_neg (by omega)]
        rw [e9] at kk
        exact kk _ hl
      · rw [nI_leI (by omega) (by omega)] at c74
        refine lv_aload hx hb dX1_captain_77 (lv_at hl 0 rfl) ?_
        refine lv_iload_n hx hb dX1_captain_79 rfl (lv_at hl 2 rfl) ?_
        obtain ⟨i3, hi3⟩ := cw_s (x := x) (ln := ln) (cA := cA) (n := n) (tp := tp) (mo := mo) (dr := dr) (ds := ds) (li := li) (ad := ad) (g := g) (hk : k ∈ K)
        refine va_csq (va_Run.run (va_runV (As := [.int (nI a0)]) (rest := []) ⟨hx, hb, hml, hown, hts⟩ (c_X0_towards l hk (by omega) (by omega)) (cwV 1 hts gX1_captain_X0_towards rfl rfl rfl (by decide +kernel) ⟨Nat.le_trans (Nat.le_of_ble_eq_true rfl) hR.1, Nat.le_trans (Nat.le_of_ble_eq_true rfl) hR.2⟩) ⟨PcR.blind, va_recv hG.1 hP (ci := 0) (q0 := i3) rfl hi3, PcR.at hP hG⟩ rfl rfl hl.1 rfl (lv_room (Nat.le_of_ble_eq_true rfl)) dX1_captain_80 ⟨hC.1, hC.2⟩)) (fun r80 q80 => ?_)
        subst q80
        refine zr_astore (lv' := [(5, va_rf ((if a0 < k then (g k).2.1 else (g k).2.2.1).map ad)), (4, .int (nI b0)), (3, .int (nI a0)), (0, .ref x), (1, .int (nI h0)), (2, .int (nI h1))]) hx hb dX1_captain_83 hl (by decide) rfl (fun ls hl => ?_)
        refine lv_goto (tgt := 53) hx hb dX1_captain_85 (by decide) ?_
        have hout : b0 < k ∨ k < a0 := by omega
        by_cases hlt : a0 < k
        · rw [if_pos hlt, h2] at hl
          have e9 : lca a0 b0 (.inner sz k v lt rt) = lca a0 b0 lt := by simp only [lca]; rw [if_pos hout, if_pos hlt]
          rw [e9] at kk
          exact ihl h4 (fun j hj => hin j ((keys_in ..).mpr (Or.inl hj))) kk _ hl
        · rw [if_neg hlt, h3] at hl
          have e9 : lca a0 b0 (.inner sz k v lt rt) = lca a0 b0 rt := by simp only [lca]; rw [if_pos hout, if_neg hlt]
          rw [e9] at kk
          exact ihr h5 (fun j hj => hin j ((keys_in ..).mpr (Or.inr (Or.inr hj)))) kk _ hl
theorem lca_in {s l c : Nat} {T : Tr} (h : lca s l T = some c) : c ∈ keysT T := by
  induction T with
  | leaf => cases h
  | inner sz k v lt rt ihl ihr =>
    rw [keys_in]
    simp only [lca] at h
    split at h
    · split at h
      · exact Or.inl (ihl h)
      · exact Or.inr (Or.inr (ihr h))
    · cases h; exact Or.inr (Or.inl rfl)
set_option maxHeartbeats 4000000 in
set_option maxRecDepth 100000 in
/-- captain -/
theorem c_X1_captain (l : Launch) (hst : l.stackTraces = false) {D : va_G} {cA cZ cI : ClassId} {sa : Nat → Nat} {A : Nat → Prop} {x ln : Nat} {mo dr ds : Int32} {ad : Nat → Nat} {g : Nat → Nd} {T : Tr} {x0 x1 : Int32} (hrep : RepC T (keysT T) g) : vx_Met l yX1_captain wsX1_captain ({ frames := 8, cells := 4, slots := 30, locals := 320 } : Room) (PcX sa D (tysA cA cZ cI) A (CWT x ln cA T mo dr ds ad g) [.ref x, .int x0, .int x1]) (va_Qi (S := Unit) (fun r _ => ¬ oddH x0 ∧ ¬ oddH x1 ∧ kx x0 ∈ keysT T ∧ kx x1 ∈ keysT T ∧ r = enc (lca (min (kx x0) (kx x1)) (max (kx x0) (kx x1)) T)) (fun _ => BM D (tysA cA cZ cI) A (CWT x ln cA T mo dr ds ad g)) A) (vx_X (S := Unit) (fun _ => True) (fun E _ t => (((oddH x0 ∨ oddH x1) ∧ E = eIA) ∨ ((¬ oddH x0 ∧ ¬ oddH x1 ∧ ¬ (kx x0 ∈ keysT T ∧ kx x1 ∈ keysT T)) ∧ E = eIS)) ∧ BMx D A (CWT x ln cA T mo dr ds ad g) t) A) 4 30 A := by
  refine vx_ofW (cc := cX1_captain) (maxL := 6) (ret := (some .int)) (by decide) rfl ?_
  intro p e s m args below meth c s₁ B hml ht0 hv
  obtain ⟨rfl, hA, hP, hG, hD, hX⟩ := hv
  have hx := B.exec
  have hb := B.bytes
  have hr := B.returns
  have hts := atoms_spec (ws := wsX1_captain) B.pre
  have hown : s.vm.findClass RX1 = some m.cls := findClass_of_methodNamed B.named
  have hlocks := B.notSynchronized
  have hl := lv_entry ([.ref x, .int x0, .int x1]) (n := 6) (Nat.le_of_ble_eq_true rfl)
  rw [lg_entry_eq]
  generalize (lg_sl ([.ref x, .int x0, .int x1]) ++ List.replicate (6 - (lg_sl ([.ref x, .int x0, .int x1])).length) Slot.unset).toArray = ls at hl ⊢
  have hl : lv_has ls 6 [(0, .ref x), (1, .int x0), (2, .int x1)] := hl
  have hS : va_S A s.heap s.heap [] := va_S.rf
  have hP : va_P D vwCl (cw x ln cA (nI (siz T)) (root T) mo dr ds (fun i => (keysT T)[i]?) ((keysT T)) ad g) s.heap := hP
  have hD : va_D A (cw x ln cA (nI (siz T)) (root T) mo dr ds (fun i => (keysT T)[i]?) ((keysT T)) ad g) := hD
  have hcl := hrep.cl
  obtain ⟨hb0, hin0, hsz, hs, hc, hK0⟩ := id hrep
  have hin := hrep.in1
  refine lv_iload_n hx hb dX1_captain_0 rfl (lv_at hl 1 rfl) ?_
  refine vx_callv (vx_runS (As := [.int x0]) (rest := []) ⟨hx, hb, hml, hown, hts⟩ (c_X1_refuseOddHeight l hst (x0 := x0)) (va_cwS 1 hts gX1_captain_X1_refuseOddHeight rfl rfl rfl (by decide +kernel) ⟨Nat.le_of_ble_eq_true rfl, Nat.le_of_ble_eq_true rfl⟩) ⟨PcX.blind, PcX.at hA hS hP hG hD hX⟩ rfl rfl hl.1 rfl (lv_room (Nat.le_of_ble_eq_true rfl)) dX1_captain_1 ⟨Nat.le_of_ble_eq_true rfl, Nat.le_of_ble_eq_true rfl⟩) hS (fun q _ h => h) (fun q h => h) (fun q _ h => h) (fun E ce q9 u t H locs ht hvm hpx hbx hz hk hS hce hcv hcl => ?_) (fun u t H locs ht hvm hpo hB hz1 hk1 hS => ?_)
  · obtain ⟨hodd, rfl, hP, hD⟩ := hbx
    rw [ht] at hP
    exact vx_out (fun x hx => (ht0 x hx).elim) hlocks hce hcv hcl (fun t ht hvm => ⟨(), trivial, ⟨Or.inl ⟨Or.inl hodd, rfl⟩, by rw [ht]; exact hP, hD⟩, hS.F ht⟩) hS.2.2 (Nat.le_of_ble_eq_true rfl) (Nat.le_of_ble_eq_true rfl)
  obtain ⟨hP, -, hD⟩ := hB
  rw [ht] at hP
  obtain ⟨h0, hh0, rfl⟩ := oddH.not hpo
  have hl : lv_has ls 6 [(0, .ref x), (1, .int (nI h0)), (2, .int x1)] := hl
  refine lv_iload_n hx hb dX1_captain_4 rfl (lv_at hl 2 rfl) ?_
  refine vx_callv (vx_runS (As := [.int x1]) (rest := []) ⟨hx, hb, hml, hown, hts⟩ (c_X1_refuseOddHeight l hst (x0 := x1)) (va_cwS 1 hts gX1_captain_X1_refuseOddHeight rfl rfl rfl (by decide +kernel) ⟨Nat.le_of_ble_eq_true rfl, Nat.le_of_ble_eq_true rfl⟩) ⟨PcX.blind, PcX.at hA hS hP hG hD hX⟩ rfl rfl hl.1 rfl (lv_room (Nat.le_of_ble_eq_true rfl)) dX1_captain_5 ⟨Nat.le_of_ble_eq_true rfl, Nat.le_of_ble_eq_true rfl⟩) hS (fun q _ h => h) (fun q h => h) (fun q _ h => h) (fun E ce q9 u t H locs ht hvm hpx hbx hz hk hS hce hcv hcl => ?_) (fun u t H locs ht hvm hpo hB hz1 hk1 hS => ?_)
  · obtain ⟨hodd, rfl, hP, hD⟩ := hbx
    rw [ht] at hP
    exact vx_out (fun x hx => (ht0 x hx).elim) hlocks hce hcv hcl (fun t ht hvm => ⟨(), trivial, ⟨Or.inl ⟨Or.inr hodd, rfl⟩, by rw [ht]; exact hP, hD⟩, hS.F ht⟩) hS.2.2 (Nat.le_of_ble_eq_true rfl) (Nat.le_of_ble_eq_true rfl)
  obtain ⟨hP, -, hD⟩ := hB
  rw [ht] at hP
  obtain ⟨h1, hh1, rfl⟩ := oddH.not hpo
  have hl : lv_has ls 6 [(0, .ref x), (1, .int (nI h0)), (2, .int (nI h1))] := hl
  refine lv_aload_n hx hb dX1_captain_8 rfl (lv_at hl 0 rfl) ?_
  refine lv_iload_n hx hb dX1_captain_9 rfl (lv_at hl 1 rfl) ?_
  refine va_csq (va_Run.run (va_runV (As := [.int (nI h0)]) (rest := []) ⟨hx, hb, hml, hown, hts⟩ (c_X1_find l hh0 hs hin) (cwV 1 hts gX1_captain_X1_find rfl rfl rfl (by decide +kernel) ⟨Nat.le_of_ble_eq_true rfl, Nat.le_of_ble_eq_true rfl⟩) ⟨PcR.blind, va_recv hG.1 hP (ci := 1) (q0 := 0) rfl cw_x, PcR.at hP hG⟩ rfl rfl hl.1 rfl (lv_room (Nat.le_of_ble_eq_true rfl)) dX1_captain_10 ⟨Nat.le_of_ble_eq_true rfl, Nat.le_of_ble_eq_true rfl⟩)) (fun r10 q10 => ?_)
  subst q10
  refine zr_ifnull (tgt := 24) hx hb dX1_captain_13 (by decide) (fun c13 => ?_) (fun k13 c13 => ?_)
  · have hm0 : ¬ h0 ∈ keysT T := fun q => by rw [(subT_mem hb0).mpr q] at c13; cases c13
    exact vx_throwS hx hb hst hown (cls := eIS) (text := "nobody has one of these heights") (names := ["java/lang/RuntimeException", "java/lang/Exception"]) (by decide +kernel) (by decide +kernel) (hts (.classLink RX1 27 "java/lang/IllegalStateException") (by decide +kernel)) (hts (.initialized "java/lang/IllegalStateException") (by decide +kernel)) (hX.2.1.2.2.2.2.2) (vx_hat (L := vx_atS RX1 31 "java/lang/IllegalStateException" ["java/lang/RuntimeException", "java/lang/Exception"]) (B := [.castable eIS eIS, .declares (Bundle.initS "java/lang/RuntimeException"), .declares (Bundle.initS "java/lang/Exception"), .declares (Bundle.initS Bundle.tN)]) (fun w hw => hts w (List.mem_cons_of_mem _ (List.mem_append_left _ (List.mem_append_right _ hw)))) (by decide +kernel) (vx_c (va_Nw.use rfl hX.1.2.1) (vx_c (va_Nw.use rfl hX.1.2.2.2.1) (vx_c (va_Nw.use rfl hX.1.2.2.2.2.1) (vx_c (va_Nw.use rfl hX.1.2.2.2.2.2) vx_n))))) (by decide +kernel) hX.2.2.1 hX.2.2.2 hS (hl.1.trans hml.symm) dX1_captain_24 dX1_captain_27 dX1_captain_28 dX1_captain_30 dX1_captain_33 (fun x hx => (ht0 x hx).elim) (Nat.le_of_ble_eq_true rfl) (Nat.le_of_ble_eq_true rfl) (Nat.le_of_ble_eq_true rfl) (Nat.le_of_ble_eq_true rfl) hlocks (fun t hvm hz hk => ⟨(), trivial, ⟨Or.inr ⟨⟨oddH_nI hh0, oddH_nI hh1, by rw [kx_nI (by omega), kx_nI (by omega)]; exact fun q => hm0 q.1⟩, rfl⟩, BMx.new hP hD hk⟩, xF hS hz hk⟩) hS.2.2 (Nat.le_of_ble_eq_true rfl) (Nat.le_of_ble_eq_true rfl)
  · have hm0 : h0 ∈ keysT T := (subT_mem hb0).mp (subT_root.resolve_left (fun q => by rw [q] at c13; cases c13))
    refine lv_aload_n hx hb dX1_captain_16 rfl (lv_at hl 0 rfl) ?_
    refine lv_iload_n hx hb dX1_captain_17 rfl (lv_at hl 2 rfl) ?_
    refine va_csq (va_Run.run (va_runV (As := [.int (nI h1)]) (rest := []) ⟨hx, hb, hml, hown, hts⟩ (c_X1_find l hh1 hs hin) (cwV 1 hts gX1_captain_X1_find rfl rfl rfl (by decide +kernel) ⟨Nat.le_of_ble_eq_true rfl, Nat.le_of_ble_eq_true rfl⟩) ⟨PcR.blind, va_recv hG.1 hP (ci := 1) (q0 := 0) rfl cw_x, PcR.at hP hG⟩ rfl rfl hl.1 rfl (lv_room (Nat.le_of_ble_eq_true rfl)) dX1_captain_18 ⟨Nat.le_of_ble_eq_true rfl, Nat.le_of_ble_eq_true rfl⟩)) (fun r18 q18 => ?_)
    subst q18
    refine zr_ifnonnull (tgt := 34) hx hb dX1_captain_21 (by decide) (fun c21 => ?_) (fun k21 c21 => ?_)
    · have hm1 : ¬ h1 ∈ keysT T := fun q => by rw [(subT_mem hb0).mpr q] at c21; cases c21
      exact vx_throwS hx hb hst hown (cls := eIS) (text := "nobody has one of these heights") (names := ["java/lang/RuntimeException", "java/lang/Exception"]) (by decide +kernel) (by decide +kernel) (hts (.classLink RX1 27 "java/lang/IllegalStateException") (by decide +kernel)) (hts (.initialized "java/lang/IllegalStateException") (by decide +kernel)) (hX.2.1.2.2.2.2.2) (vx_hat (L := vx_atS RX1 31 "java/lang/IllegalStateException" ["java/lang/RuntimeException", "java/lang/Exception"]) (B := [.castable eIS eIS, .declares (Bundle.initS "java/lang/RuntimeException"), .declares (Bundle.initS "java/lang/Exception"), .declares (Bundle.initS Bundle.tN)]) (fun w hw => hts w (List.mem_cons_of_mem _ (List.mem_append_left _ (List.mem_append_right _ hw)))) (by decide +kernel) (vx_c (va_Nw.use rfl hX.1.2.1) (vx_c (va_Nw.use rfl hX.1.2.2.2.1) (vx_c (va_Nw.use rfl hX.1.2.2.2.2.1) (vx_c (va_Nw.use rfl hX.1.2.2.2.2.2) vx_n))))) (by decide +kernel) hX.2.2.1 hX.2.2.2 hS (hl.1.trans hml.symm) dX1_captain_24 dX1_captain_27 dX1_captain_28 dX1_captain_30 dX1_captain_33 (fun x hx => (ht0 x hx).elim) (Nat.le_of_ble_eq_true rfl) (Nat.le_of_ble_eq_true rfl) (Nat.le_of_ble_eq_true rfl) (Nat.le_of_ble_eq_true rfl) hlocks (fun t hvm hz hk => ⟨(), trivial, ⟨Or.inr ⟨⟨oddH_nI hh0, oddH_nI hh1, by rw [kx_nI (by omega), kx_nI (by omega)]; exact fun q => hm1 q.2⟩, rfl⟩, BMx.new hP hD hk⟩, xF hS hz hk⟩) hS.2.2 (Nat.le_of_ble_eq_true rfl) (Nat.le_of_ble_eq_true rfl)
    · have hm1 : h1 ∈ keysT T := (subT_mem hb0).mp (subT_root.resolve_left (fun q => by rw [q] at c21; cases c21))
      refine lv_iload_n hx hb dX1_captain_34 rfl (lv_at hl 1 rfl) ?_
      refine lv_iload_n hx hb dX1_captain_35 rfl (lv_at hl 2 rfl) ?_
      refine va_mmin hx hb (hml.trans hl.1.symm) hown (hts (.methodLink RX1 108 Lib.Math.min.name) (by decide +kernel)) (hts (.static Lib.Math.min.name) (by decide +kernel)) (hts (.initialized "java/lang/Math") (by decide +kernel)) (hts (.code Lib.Math.min.name Lib.Math.min.code 2 (some .int)) (by decide +kernel)) (Nat.le_of_ble_eq_true rfl) (Nat.le_of_ble_eq_true rfl) (Nat.le_of_ble_eq_true rfl) (Nat.le_of_ble_eq_true rfl) dX1_captain_36 ?_
      refine zr_eqi (zr_min (by omega) (by omega)) ?_
      refine lv_istore_n (lv' := [(3, .int (nI (min h0 h1))), (0, .ref x), (1, .int (nI h0)), (2, .int (nI h1))]) hx hb dX1_captain_39 rfl hl (by decide) rfl (fun ls hl => ?_)
      refine lv_iload_n hx hb dX1_captain_40 rfl (lv_at hl 2 rfl) ?_
      refine lv_iload_n hx hb dX1_captain_41 rfl (lv_at hl 3 rfl) ?_
      refine va_mmax hx hb (hml.trans hl.1.symm) hown (hts (.methodLink RX1 114 Lib.Math.max.name) (by decide +kernel)) (hts (.static Lib.Math.max.name) (by decide +kernel)) (hts (.initialized "java/lang/Math") (by decide +kernel)) (hts (.code Lib.Math.max.name Lib.Math.max.code 2 (some .int)) (by decide +kernel)) (Nat.le_of_ble_eq_true rfl) (Nat.le_of_ble_eq_true rfl) (Nat.le_of_ble_eq_true rfl) (Nat.le_of_ble_eq_true rfl) dX1_captain_42 ?_
      refine zr_eqi (zr_max (by omega) (by omega)) ?_
      refine lv_istore (lv' := [(4, .int (nI (max h0 h1))), (3, .int (nI (min h0 h1))), (0, .ref x), (1, .int (nI h0)), (2, .int (nI h1))]) hx hb dX1_captain_45 hl (by decide) rfl (fun ls hl => ?_)
      refine lv_aload_n hx hb dX1_captain_47 rfl (lv_at hl 2 rfl) ?_
      refine va_get (D := D) (ci := 1) (v := va_rf ((root T).map ad)) (C := RX1) (T := TX1) (N := 6) hx hb hts (by decide +kernel) hown hG.1 hP 0 cw_x rfl 2 (by decide) (hts (.fieldLink RX1 77 "LopsidedRanks" "top" "LLopsidedRanks$Soldier;") (by decide +kernel)) (fun _ h9 => h9) rfl dX1_captain_48 ?_
      refine zr_astore (lv' := [(5, va_rf ((root T).map ad)), (4, .int (nI (max h0 h1))), (3, .int (nI (min h0 h1))), (0, .ref x), (1, .int (nI h0)), (2, .int (nI h1))]) hx hb dX1_captain_51 hl (by decide) rfl (fun ls hl => ?_)
      have hl : lv_has ls 6 [(5, va_rf ((root T).map ad)), (4, .int (nI (max h0 h1))), (3, .int (nI (min h0 h1))), (0, .ref x), (1, .int (nI h0)), (2, .int (nI h1))] := lv_sub hl [0, 1, 2, 3, 4, 5] rfl
      refine L_X1_captain (t := T) (a0 := min h0 h1) (b0 := max h0 h1) hx hb hml hts hown hG hP ⟨Nat.le_of_ble_eq_true rfl, Nat.le_of_ble_eq_true rfl⟩ ⟨Nat.le_of_ble_eq_true rfl, Nat.le_of_ble_eq_true rfl⟩ (by omega) (by omega) (by omega) hs hin (fun ls hl => ?_) _ hl
      have hl : lv_has ls 6 [(5, va_rf ((lca (min h0 h1) (max h0 h1) T).map ad))] := lv_sub hl [0] rfl
      refine zr_aload hx hb dX1_captain_88 (lv_at hl 0 rfl) ?_
      refine vp_callSi (va_Run.run (va_runS (As := [va_rf ((lca (min h0 h1) (max h0 h1) T).map ad)]) (rest := []) ⟨hx, hb, hml, hown, hts⟩ (c_X1_heightOf l (o := lca (min h0 h1) (max h0 h1) T) (fun k e => (hin k (lca_in e)).1)) (va_cwS 1 hts gX1_captain_X1_heightOf rfl rfl rfl (by decide +kernel) ⟨Nat.le_of_ble_eq_true rfl, Nat.le_of_ble_eq_true rfl⟩) ⟨PcR.blind, PcR.at hP hG⟩ rfl rfl hl.1 rfl (lv_room (Nat.le_of_ble_eq_true rfl)) dX1_captain_90 ⟨Nat.le_of_ble_eq_true rfl, Nat.le_of_ble_eq_true rfl⟩)) (fun r90 q90 => ?_)
      subst q90
      refine W.widen (k := 4) (n := 30) (Nat.le_of_ble_eq_true rfl) (Nat.le_of_ble_eq_true rfl) ?_
      exact vx_ret (W.iret (v := (enc (lca (min h0 h1) (max h0 h1) T))) hx hb hr (fun t ht hW => ⟨⟨_, (), rfl, ⟨oddH_nI hh0, oddH_nI hh1, by rw [kx_nI (by omega)]; exact hm0, by rw [kx_nI (by omega)]; exact hm1, by rw [kx_nI (by omega), kx_nI (by omega)]⟩, by rw [ht]; exact hP, hG.moved hW, hD⟩, hS.F ht⟩) hS.2.2 dX1_captain_93)

set_option maxHeartbeats 4000000 in
set_option maxRecDepth 100000 in
theorem L_X1_moves {D : va_G} {cA cZ cI : ClassId} {x ln : Nat} {n : Int32} {tp : Option Nat} {mo dr ds : Int32} {li : Nat → Option Nat} {K : List Nat} {ad : Nat → Nat} {g : Nat → Nd} {p : Program} {l : Launch} {e : Env} {R : Room} {s : State} {m : MethodId} {args : Array Value} {below : List Frame} {meth : Method} {c : Code} {Q : State → Prop} {cells slots : Nat} {H : Heap} {locs : List Loc} (hx : p.tables.exec = Jvm.exec) (hb : c.code = cX1_moves) (hml : c.maxLocals = 4) (hts : ∀ w ∈ wsX1_moves, w.before args s = true) (hown : s.vm.findClass RX1 = some m.cls) (hG : GK D (tysA cA cZ cI) s) (hP : va_P D vwCl (cw x ln cA n tp mo dr ds li K ad g) H) (hR : 2 ≤ R.frames ∧ 80 ≤ R.locals) (hC : cells ≤ R.cells ∧ slots ≤ R.slots) (hcl : Cl K g) {h0 : Nat} (hh : h0 < 1000) {pr : Nat → Bool} : ∀ {ks : List Nat} {p0 : Option Nat}, UpC g p0 ks → (∀ j ∈ ks, j ∈ K ∧ ∃ a b, coOf g (g j).2.1 = nI a ∧ coOf g (g j).2.2.1 = nI b ∧ a < 9000 ∧ b < 9000 ∧ pr j = (if h0 < j then crk (a + 1) b else crk a (b + 1))) → (∀ ls, W p l e R s m args below meth c H locs cells slots Q (F0 m 56 ls [.int (enc (ks.find? pr))])) → (∀ ls, W p l e R s m args below meth c H locs cells slots Q (F0 m 66 ls [.int (enc (ks.find? pr))])) → ∀ ls, lv_has ls 4 [(3, va_rf (p0.map ad)), (0, .ref x), (1, .int (nI h0))] → W p l e R s m args below meth c H locs cells slots Q (F0 m 40 ls []) := by
  intro ks
  induction ks with
  | nil =>
    intro p0 hu hin k56 k66 ls hl
    have hu : p0 = none := hu
    subst hu
    have hl : lv_has ls 4 [(3, .null), (0, .ref x), (1, .int (nI h0))] := hl
    refine lv_aload_nN hx hb dX1_moves_40 rfl (lv_at hl 0 rfl) ?_
    refine lv_ifnullN (tgt := 65) hx hb dX1_moves_41 (by decide) ?_
    refine lv_iconst (v := (-1)) hx hb dX1_moves_65 (by decide) ?_
    exact k66 _
  | cons k ks ih =>
    intro p0 hu hin k56 k66 ls hl
    obtain ⟨rfl, hu2⟩ := hu
    obtain ⟨hk, a, b, e1, e2, e3, e4, e5⟩ := hin k List.mem_cons_self
    have hl : lv_has ls 4 [(3, .ref (ad k)), (0, .ref x), (1, .int (nI h0))] := hl
    refine lv_aload_n hx hb dX1_moves_40 rfl (lv_at hl 0 rfl) ?_
    refine lv_ifnull hx hb dX1_moves_41 ?_
    refine lv_aload_n hx hb dX1_moves_44 rfl (lv_at hl 0 rfl) ?_
    refine lv_iload_n hx hb dX1_moves_45 rfl (lv_at hl 2 rfl) ?_
    obtain ⟨i0, hi0⟩ := cw_s (x := x) (ln := ln) (cA := cA) (n := n) (tp := tp) (mo := mo) (dr := dr) (ds := ds) (li := li) (ad := ad) (g := g) (hk : k ∈ K)
    refine vp_callSi (va_Run.run (va_runV (As := [.int (nI h0)]) (rest := []) ⟨hx, hb, hml, hown, hts⟩ (c_X0_wouldBeCrookedWith l hcl hk (hcl.lt hk) hh e1 e2 e3 e4) (cwV 1 hts gX1_moves_X0_wouldBeCrookedWith rfl rfl rfl (by decide +kernel) ⟨Nat.le_trans (Nat.le_of_ble_eq_true rfl) hR.1, Nat.le_trans (Nat.le_of_ble_eq_true rfl) hR.2⟩) ⟨PcR.blind, va_recv hG.1 hP (ci := 0) (q0 := i0) rfl hi0, PcR.at hP hG⟩ rfl rfl hl.1 rfl (lv_room (Nat.le_of_ble_eq_true rfl)) dX1_moves_46 ⟨hC.1, hC.2⟩)) (fun r46 q46 => ?_)
    subst q46
    refine lv_if_eq (tgt := 57) hx hb dX1_moves_49 (by decide) (fun c49 => ?_) (fun c49 => ?_)
    · have h9 : ¬ pr k = true := by rw [e5]; exact b2i_eq c49
      rw [List.find?_cons_of_neg h9] at k56 k66
      refine lv_aload_n hx hb dX1_moves_57 rfl (lv_at hl 0 rfl) ?_
      obtain ⟨i1, hi1⟩ := cw_s (x := x) (ln := ln) (cA := cA) (n := n) (tp := tp) (mo := mo) (dr := dr) (ds := ds) (li := li) (ad := ad) (g := g) (hk : k ∈ K)
      refine va_get (D := D) (ci := 0) (v := va_rf ((g k).1.map ad)) (C := RX0) (T := TX0) (N := 5) hx hb hts (by decide +kernel) hown hG.1 hP i1 hi1 rfl 1 (by decide) (hts (.fieldLink RX1 130 "LopsidedRanks$Soldier" "above" "LLopsidedRanks$Soldier;") (by decide +kernel)) (fun _ h9 => h9) rfl dX1_moves_58 ?_
      refine zr_astore_n (lv' := [(3, va_rf ((g k).1.map ad)), (0, .ref x), (1, .int (nI h0))]) hx hb dX1_moves_61 rfl hl (by decide) rfl (fun ls hl => ?_)
      refine lv_goto (tgt := 40) hx hb dX1_moves_62 (by decide) ?_
      exact ih hu2 (fun j hj => hin j (List.mem_cons_of_mem _ hj)) k56 k66 _ hl
    · refine lv_aload_n hx hb dX1_moves_52 rfl (lv_at hl 0 rfl) ?_
      obtain ⟨i2, hi2⟩ := cw_s (x := x) (ln := ln) (cA := cA) (n := n) (tp := tp) (mo := mo) (dr := dr) (ds := ds) (li := li) (ad := ad) (g := g) (hk : k ∈ K)
      refine va_get (D := D) (ci := 0) (v := .int (nI k)) (C := RX0) (T := TX0) (N := 5) hx hb hts (by decide +kernel) hown hG.1 hP i2 hi2 rfl 0 (by decide) (hts (.fieldLink RX1 100 "LopsidedRanks$Soldier" "height" "I") (by decide +kernel)) (fun _ h9 => h9) rfl dX1_moves_53 ?_
      have h9 : pr k = true := e5.trans (b2i_ne c49)
      rw [List.find?_cons_of_pos h9] at k56
      exact k56 _
theorem lim_pos {n : Nat} (h : 1 ≤ n) : 1 ≤ lim n := by
  rcases Nat.eq_zero_or_pos (lim n) with q | q
  · rw [lim] at q
    cases e : (List.range 14).find? (fun d => decide (n * 2 ^ d < 3 ^ d)) with
    | none => rw [e] at q; cases q
    | some d =>
      rw [e] at q
      have h1 := List.find?_some e
      have hd : d = 0 := q
      subst hd
      simp at h1
      omega
  · exact q
set_option maxHeartbeats 4000000 in
set_option maxRecDepth 100000 in
/-- moves -/
theorem c_X1_moves (l : Launch) (hst : l.stackTraces = false) {D : va_G} {cA cZ cI : ClassId} {sa : Nat → Nat} {A : Nat → Prop} {x ln : Nat} {mo dr ds : Int32} {ad : Nat → Nat} {g : Nat → Nd} {T : Tr} {x0 : Int32} (hrep : RepC T (keysT T) g) : vx_Met l yX1_moves wsX1_moves ({ frames := 8, cells := 4, slots := 30, locals := 320 } : Room) (PcX sa D (tysA cA cZ cI) A (CWT x ln cA T mo dr ds ad g) [.ref x, .int x0]) (va_Qi (S := Unit) (fun r _ => ¬ oddH x0 ∧ r = enc (movT T (kx x0))) (fun _ => BM D (tysA cA cZ cI) A (CWT x ln cA T mo dr ds ad g)) A) (vx_X (S := Unit) (fun _ => True) (fun E _ t => ((oddH x0 ∧ E = eIA)) ∧ BMx D A (CWT x ln cA T mo dr ds ad g) t) A) 4 30 A := by
  refine vx_ofW (cc := cX1_moves) (maxL := 4) (ret := (some .int)) (by decide) rfl ?_
  intro p e s m args below meth c s₁ B hml ht0 hv
  obtain ⟨rfl, hA, hP, hG, hD, hX⟩ := hv
  have hx := B.exec
  have hb := B.bytes
  have hr := B.returns
  have hts := atoms_spec (ws := wsX1_moves) B.pre
  have hown : s.vm.findClass RX1 = some m.cls := findClass_of_methodNamed B.named
  have hlocks := B.notSynchronized
  have hl := lv_entry ([.ref x, .int x0]) (n := 4) (Nat.le_of_ble_eq_true rfl)
  rw [lg_entry_eq]
  generalize (lg_sl ([.ref x, .int x0]) ++ List.replicate (4 - (lg_sl ([.ref x, .int x0])).length) Slot.unset).toArray = ls at hl ⊢
  have hl : lv_has ls 4 [(0, .ref x), (1, .int x0)] := hl
  have hS : va_S A s.heap s.heap [] := va_S.rf
  have hP : va_P D vwCl (cw x ln cA (nI (siz T)) (root T) mo dr ds (fun i => (keysT T)[i]?) ((keysT T)) ad g) s.heap := hP
  have hD : va_D A (cw x ln cA (nI (siz T)) (root T) mo dr ds (fun i => (keysT T)[i]?) ((keysT T)) ad g) := hD
  have hcl := hrep.cl
  obtain ⟨hb0, hin0, hsz, hs, hc, hK0⟩ := id hrep
  have hin := hrep.in1
  refine lv_iload_n hx hb dX1_moves_0 rfl (lv_at hl 1 rfl) ?_
  refine vx_callv (vx_runS (As := [.int x0]) (rest := []) ⟨hx, hb, hml, hown, hts⟩ (c_X1_refuseOddHeight l hst (x0 := x0)) (va_cwS 1 hts gX1_moves_X1_refuseOddHeight rfl rfl rfl (by decide +kernel) ⟨Nat.le_of_ble_eq_true rfl, Nat.le_of_ble_eq_true rfl⟩) ⟨PcX.blind, PcX.at hA hS hP hG hD hX⟩ rfl rfl hl.1 rfl (lv_room (Nat.le_of_ble_eq_true rfl)) dX1_moves_1 ⟨Nat.le_of_ble_eq_true rfl, Nat.le_of_ble_eq_true rfl⟩) hS (fun q _ h => h) (fun q h => h) (fun q _ h => h) (fun E ce q9 u t H locs ht hvm hpx hbx hz hk hS hce hcv hcl => ?_) (fun u t H locs ht hvm hpo hB hz1 hk1 hS => ?_)
  · obtain ⟨hodd, rfl, hP, hD⟩ := hbx
    rw [ht] at hP
    exact vx_out (fun x hx => (ht0 x hx).elim) hlocks hce hcv hcl (fun t ht hvm => ⟨(), trivial, ⟨⟨hodd, rfl⟩, by rw [ht]; exact hP, hD⟩, hS.F ht⟩) hS.2.2 (Nat.le_of_ble_eq_true rfl) (Nat.le_of_ble_eq_true rfl)
  obtain ⟨hP, -, hD⟩ := hB
  rw [ht] at hP
  obtain ⟨h0, hh0, rfl⟩ := oddH.not hpo
  have hl : lv_has ls 4 [(0, .ref x), (1, .int (nI h0))] := hl
  have hl1 := lim_pos (n := siz T + 1) (by omega)
  have hl2 := (lim_spec (n := siz T + 1) (by omega)).1
  have hal := anc_len (h := h0) (T := T)
  refine lv_aload_n hx hb dX1_moves_4 rfl (lv_at hl 0 rfl) ?_
  refine lv_iload_n hx hb dX1_moves_5 rfl (lv_at hl 1 rfl) ?_
  refine va_csq (va_Run.run (va_runV (As := [.int (nI h0)]) (rest := []) ⟨hx, hb, hml, hown, hts⟩ (c_X1_find l hh0 hs hin) (cwV 1 hts gX1_moves_X1_find rfl rfl rfl (by decide +kernel) ⟨Nat.le_of_ble_eq_true rfl, Nat.le_of_ble_eq_true rfl⟩) ⟨PcR.blind, va_recv hG.1 hP (ci := 1) (q0 := 0) rfl cw_x, PcR.at hP hG⟩ rfl rfl hl.1 rfl (lv_room (Nat.le_of_ble_eq_true rfl)) dX1_moves_6 ⟨Nat.le_of_ble_eq_true rfl, Nat.le_of_ble_eq_true rfl⟩)) (fun r6 q6 => ?_)
  subst q6
  refine zr_ifnull (tgt := 14) hx hb dX1_moves_9 (by decide) (fun c9 => ?_) (fun k9 c9 => ?_)
  · have hm : ¬ h0 ∈ keysT T := fun q => by rw [(subT_mem hb0).mpr q] at c9; cases c9
    refine lv_aload_n hx hb dX1_moves_14 rfl (lv_at hl 0 rfl) ?_
    refine lv_iload_n hx hb dX1_moves_15 rfl (lv_at hl 1 rfl) ?_
    refine va_csq (va_Run.run (va_runV (As := [.int (nI h0)]) (rest := []) ⟨hx, hb, hml, hown, hts⟩ (c_X1_lastOnTheWayTo l hh0 hs hin c9) (cwV 1 hts gX1_moves_X1_lastOnTheWayTo rfl rfl rfl (by decide +kernel) ⟨Nat.le_of_ble_eq_true rfl, Nat.le_of_ble_eq_true rfl⟩) ⟨PcR.blind, va_recv hG.1 hP (ci := 1) (q0 := 0) rfl cw_x, PcR.at hP hG⟩ rfl rfl hl.1 rfl (lv_room (Nat.le_of_ble_eq_true rfl)) dX1_moves_16 ⟨Nat.le_of_ble_eq_true rfl, Nat.le_of_ble_eq_true rfl⟩)) (fun r16 q16 => ?_)
    subst q16
    refine zr_astore_n (lv' := [(2, va_rf ((parF h0 none T).map ad)), (0, .ref x), (1, .int (nI h0))]) hx hb dX1_moves_19 rfl hl (by decide) rfl (fun ls hl => ?_)
    refine zr_aload_n hx hb dX1_moves_20 rfl (lv_at hl 0 rfl) ?_
    refine vp_callSi (va_Run.run (va_runS (As := [va_rf ((parF h0 none T).map ad)]) (rest := []) ⟨hx, hb, hml, hown, hts⟩ (c_X1_newDepth l (ks := (anc h0 T).reverse) hcl (fun k e => (hin k (parF_mem e)).1) (UpC_top hs)) (va_cwS 1 hts gX1_moves_X1_newDepth rfl rfl rfl (by decide +kernel) ⟨Nat.le_of_ble_eq_true rfl, Nat.le_of_ble_eq_true rfl⟩) ⟨PcR.blind, PcR.at hP hG⟩ rfl rfl hl.1 rfl (lv_room (Nat.le_of_ble_eq_true rfl)) dX1_moves_21 ⟨Nat.le_of_ble_eq_true rfl, Nat.le_of_ble_eq_true rfl⟩)) (fun r21 q21 => ?_)
    subst q21
    refine zr_eqi (congrArg nI List.length_reverse) ?_
    refine lv_aload_n hx hb dX1_moves_24 rfl (lv_at hl 1 rfl) ?_
    refine va_get (D := D) (ci := 1) (v := .int (nI (siz T))) (C := RX1) (T := TX1) (N := 6) hx hb hts (by decide +kernel) hown hG.1 hP 0 cw_x rfl 1 (by decide) (hts (.fieldLink RX1 19 "LopsidedRanks" "soldiers" "I") (by decide +kernel)) (fun _ h9 => h9) rfl dX1_moves_25 ?_
    refine lv_iconst (v := nI 1) hx hb dX1_moves_28 (by decide) ?_
    refine lv_iadd hx hb dX1_moves_29 ?_
    refine zr_eqi (nI_add (siz T) 1) ?_
    refine vp_callSi (va_Run.run (va_runS (As := [.int (nI ((siz T) + 1))]) (rest := [.int (nI ((anc h0 T).length))]) ⟨hx, hb, hml, hown, hts⟩ (c_X1_allowedDepth l (n := siz T + 1) (by omega)) (va_cwS 1 hts gX1_moves_X1_allowedDepth rfl rfl rfl (by decide +kernel) ⟨Nat.le_of_ble_eq_true rfl, Nat.le_of_ble_eq_true rfl⟩) ⟨PcT.blind, PcT.at⟩ rfl rfl hl.1 rfl (lv_room (Nat.le_of_ble_eq_true rfl)) dX1_moves_30 ⟨Nat.le_of_ble_eq_true rfl, Nat.le_of_ble_eq_true rfl⟩)) (fun r30 q30 => ?_)
    subst q30
    refine zr_eqi (show pd (lim (siz T + 1)) = nI (lim (siz T + 1) - 1) from by rw [show lim (siz T + 1) = (lim (siz T + 1) - 1) + 1 by omega]; exact pd_s _) ?_
    refine lv_icmp_gt (tgt := 38) hx hb dX1_moves_33 (by decide) (fun c33 => ?_) (fun c33 => ?_)
    · rw [nI_ltI (by omega) (by omega)] at c33
      have hdp : ¬ (anc h0 T).length + 1 ≤ lim (siz T + 1) := by omega
      have hl : lv_has ls 4 [(2, va_rf ((parF h0 none T).map ad)), (0, .ref x), (1, .int (nI h0))] := lv_sub hl [0, 1, 2] rfl
      refine zr_aload_n hx hb dX1_moves_38 rfl (lv_at hl 0 rfl) ?_
      have hl : lv_has ls 4 [(0, .ref x), (1, .int (nI h0))] := lv_sub hl [1, 2] rfl
      refine zr_astore_n (lv' := [(3, va_rf ((parF h0 none T).map ad)), (0, .ref x), (1, .int (nI h0))]) hx hb dX1_moves_39 rfl hl (by decide) rfl (fun ls hl => ?_)
      refine L_X1_moves (ks := (anc h0 T).reverse) (p0 := parF h0 none T) (pr := mvP T h0) hx hb hml hts hown hG hP ⟨Nat.le_of_ble_eq_true rfl, Nat.le_of_ble_eq_true rfl⟩ ⟨Nat.le_of_ble_eq_true rfl, Nat.le_of_ble_eq_true rfl⟩ hcl hh0 (UpC_top hs) (fun j hj => ?_) (fun ls => ?_) (fun ls => ?_) _ hl
      · have hjT := anc_in (List.mem_reverse.mp hj)
        obtain ⟨sz, v, lt, rt, esub, p1, p2, p3, p4, p5, p6, p7, p8⟩ := hrep.at hjT
        have hss := sub_siz (h := j) (T := T)
        rw [esub] at hss
        simp only [siz] at hss
        exact ⟨(hin j hjT).1, siz lt, siz rt, by rw [p2]; exact co_root p7, by rw [p3]; exact co_root p8, by omega, by omega, by simp only [mvP, esub]⟩
      · refine W.widen (k := 4) (n := 30) (Nat.le_of_ble_eq_true rfl) (Nat.le_of_ble_eq_true rfl) ?_
        exact vx_ret (W.iret (v := (enc ((anc h0 T).reverse.find? (mvP T h0)))) hx hb hr (fun t ht hW => ⟨⟨_, (), rfl, ⟨oddH_nI hh0, by rw [kx_nI (by omega)]; unfold movT; rw [if_neg hm, if_neg hdp]⟩, by rw [ht]; exact hP, hG.moved hW, hD⟩, hS.F ht⟩) hS.2.2 dX1_moves_56)
      · refine W.widen (k := 4) (n := 30) (Nat.le_of_ble_eq_true rfl) (Nat.le_of_ble_eq_true rfl) ?_
        exact vx_ret (W.iret (v := (enc ((anc h0 T).reverse.find? (mvP T h0)))) hx hb hr (fun t ht hW => ⟨⟨_, (), rfl, ⟨oddH_nI hh0, by rw [kx_nI (by omega)]; unfold movT; rw [if_neg hm, if_neg hdp]⟩, by rw [ht]; exact hP, hG.moved hW, hD⟩, hS.F ht⟩) hS.2.2 dX1_moves_66)
    · rw [nI_ltI (by omega) (by omega)] at c33
      have hdp : (anc h0 T).length + 1 ≤ lim (siz T + 1) := by omega
      refine lv_iconst (v := (-1)) hx hb dX1_moves_36 (by decide) ?_
      refine W.widen (k := 4) (n := 30) (Nat.le_of_ble_eq_true rfl) (Nat.le_of_ble_eq_true rfl) ?_
      exact vx_ret (W.iret (v := (-1)) hx hb hr (fun t ht hW => ⟨⟨_, (), rfl, ⟨oddH_nI hh0, by rw [kx_nI (by omega)]; unfold movT; rw [if_neg hm, if_pos hdp]; rfl⟩, by rw [ht]; exact hP, hG.moved hW, hD⟩, hS.F ht⟩) hS.2.2 dX1_moves_37)
  · have hm : h0 ∈ keysT T := (subT_mem hb0).mp (subT_root.resolve_left (fun q => by rw [q] at c9; cases c9))
    refine lv_iconst (v := (-1)) hx hb dX1_moves_12 (by decide) ?_
    refine W.widen (k := 4) (n := 30) (Nat.le_of_ble_eq_true rfl) (Nat.le_of_ble_eq_true rfl) ?_
    exact vx_ret (W.iret (v := (-1)) hx hb hr (fun t ht hW => ⟨⟨_, (), rfl, ⟨oddH_nI hh0, by rw [kx_nI (by omega)]; unfold movT; rw [if_pos hm]; rfl⟩, by rw [ht]; exact hP, hG.moved hW, hD⟩, hS.F ht⟩) hS.2.2 dX1_moves_13)

