/-! THE LAW from its entry to its loop -/
set_option maxHeartbeats 4000000 in
set_option maxRecDepth 100000 in
theorem law_begin {D : va_G} {sa : Nat → Nat} {b L : Nat} {xs : Nat → Int32} {p : Program} {l : Launch} {e : Env} {R : Room} {s : State} {m : MethodId} {args : Array Value} {below : List Frame} {meth : Method} {c : Code} {Q : State → Prop} (hx : p.tables.exec = Jvm.exec) (hb : c.code = cL_law) (hml : c.maxLocals = 9) (hts : ∀ w ∈ wsL_law, w.before args s = true) (hown : s.vm.findClass RL = some m.cls) (hst : l.stackTraces = false) (hKc : va_K D vwCl [] s) (h26 : va_Nw w26 s) (h32 : va_Nw w32 s) (hO : va_AO RX0 s) (hX : GX sa (fun q => s.heap.size ≤ q) s s.heap) (hN : NcX s) (hXs : va_X b L xs s s.heap) (hbl : b < s.heap.size) (hL : L ≤ 1536) (hR : 300 ≤ R.frames ∧ 12000 ≤ R.locals) (hC : 10000 ≤ R.cells ∧ 60000 ≤ R.slots) (kEnd : ∀ (H : Heap) (locs : List Loc) (cells slots : Nat) (ls : Array Slot), cells ≤ 10000 → slots ≤ 60000 → va_S (fun q => s.heap.size ≤ q) s.heap H locs → W p l e R s m args below meth c H locs cells slots Q (F0 m 892 ls [.int (nI 1)])) : ∀ ls, lv_has ls 9 [(0, .ref b)] → W p l e R s m args below meth c s.heap [] 0 0 Q (F0 m 0 ls []) := by
  intro ls hl
  have hA0 : ∀ q, s.heap.size ≤ q → (fun q : Nat => s.heap.size ≤ q) q := fun _ h => h
  have hbA : ¬ (fun q : Nat => s.heap.size ≤ q) b := Nat.not_le.mpr hbl
  have hS : va_S (fun q : Nat => s.heap.size ≤ q) s.heap s.heap [] := va_S.rf
  have hP : va_P D vwCl [] s.heap := fun k q h => by simp at h
  have hD : va_D (fun q : Nat => s.heap.size ≤ q) [] := ⟨fun i j p q h => by simp at h, fun k q h => by simp at h⟩
  refine va_new (ci := 1) (fs := [.null, .int 0, .null, .int 0, .int 0, .int 0]) (C := RX1) (T := TX1) (N := 6) hx hb hts (by decide +kernel) tyX1 tyX1_ok hown (hts (.classLink RL 8 RX1) (by decide +kernel)) (hts (.instantiable RX1 6) (by decide +kernel)) (hts (.initialized RX1) (by decide +kernel)) hKc hP hD hS hA0 rfl (by decide) (by omega) (by omega) dL_law_0 (fun x H hP hD hS => ?_)
  have hP : va_P D vwCl [(x, .inr (1, [.null, .int 0, .null, .int 0, .int 0, .int 0]))] H := hP
  have hD : va_D (fun q : Nat => s.heap.size ≤ q) [(x, .inr (1, [.null, .int 0, .null, .int 0, .int 0, .int 0]))] := hD
  refine lv_dup hx hb dL_law_3 rfl ?_
  refine va_callv (va_runI (As := []) (b := x) (rest := [.ref x]) ⟨hx, hb, hml, hown, hts⟩ (c_X1_init l (x := x)) (cwI 0 hts gL_law_X1_init rfl rfl rfl (hts (.initialized RX1) (by decide +kernel)) (hts (.methodLink RL 54 yX1_init) (by decide +kernel)) (hts (.instanceMethod yX1_init) (by decide +kernel)) rfl (by decide +kernel) ⟨Nat.le_trans (Nat.le_of_ble_eq_true rfl) hR.1, Nat.le_trans (Nat.le_of_ble_eq_true rfl) hR.2⟩) ⟨PcI.blind, PcI.at (fun q h => hA0 q (Nat.le_trans hS.1 h)) hP hKc hD hO⟩ rfl rfl hl.1 rfl (lv_room (Nat.le_of_ble_eq_true rfl)) dL_law_4 ⟨by omega, by omega⟩) hS (fun q _ h => h) (fun q h => h) (fun uc t H locs ht hvm hpo hB hbz hk hS => ?_)
  obtain ⟨hP, hK1, hD⟩ := hB
  rw [ht] at hP
  have hK1 := va_K.moved hvm.symm hK1
  refine lv_astore_n (lv' := [(1, .ref x), (0, .ref b)]) hx hb dL_law_7 rfl hl (by decide) rfl (fun ls hl => ?_)
  refine va_new (ci := 2) (fs := [.int 0, .int 0, .int 0, .int 0, .int 0, .int 0, .null, .null, .null, .null, .int 0, .null, .int 0]) (C := RX2) (T := TX2) (N := 13) hx hb hts (by decide +kernel) tyX2 tyX2_ok hown (hts (.classLink RL 55 RX2) (by decide +kernel)) (hts (.instantiable RX2 13) (by decide +kernel)) (hts (.initialized RX2) (by decide +kernel)) hKc hP hD hS hA0 rfl (by decide) (by omega) (by omega) dL_law_8 (fun M1 H hP hD hS => ?_)
  obtain ⟨hd1, hd2, hd3, hd4⟩ := split_D hD
  have hPc : va_P D vwCl (CWT x uc.1 uc.2 .leaf 0 0 0 (fun _ => 0) (fun _ => (none, none, none, 0))) H := hP.mem (fun q hq => List.mem_append_left _ hq)
  have hPm : va_P D vwCl [(M1, .inr (2, [.int 0, .int 0, .int 0, .int 0, .int 0, .int 0, .null, .null, .null, .null, .int 0, .null, .int 0]))] H := hP.mem (fun q hq => List.mem_append_right _ hq)
  refine lv_dup hx hb dL_law_11 rfl ?_
  refine va_callv (va_runI (As := []) (b := M1) (rest := [.ref M1]) ⟨hx, hb, hml, hown, hts⟩ (c_X2_init l (M1 := M1)) (cwI 0 hts gL_law_X2_init rfl rfl rfl (hts (.initialized RX2) (by decide +kernel)) (hts (.methodLink RL 57 yX2_init) (by decide +kernel)) (hts (.instanceMethod yX2_init) (by decide +kernel)) rfl (by decide +kernel) ⟨Nat.le_trans (Nat.le_of_ble_eq_true rfl) hR.1, Nat.le_trans (Nat.le_of_ble_eq_true rfl) hR.2⟩) ⟨PcI.blind, PcI.at (off_new hPc (fun q h => hA0 q (Nat.le_trans hS.1 h))) hPm hKc hd2 hO⟩ rfl rfl hl.1 rfl (lv_room (Nat.le_of_ble_eq_true rfl)) dL_law_12 ⟨by omega, by omega⟩) hS (fun q _ h => h.1) (fun q h => h.1) (fun um t H locs ht hvm hpo hB hbz hk hS => ?_)
  obtain ⟨hPm, hK2, hD2⟩ := hB
  rw [ht] at hPm
  have hK2 := va_K.moved hvm.symm hK2
  have hPc := keep_P hPc hk
  have hDa := unite_D2 hd3 hD2
  refine lv_astore_n (lv' := [(2, .ref M1), (1, .ref x), (0, .ref b)]) hx hb dL_law_15 rfl hl (by decide) rfl (fun ls hl => ?_)
  refine lv_iconst (v := nI 1) hx hb dL_law_16 (by decide) ?_
  have ea : ∀ cA : ClassId, vp_cell cA (1, .inr (.inl (fun _ => 0))) = arrV cA 1 (fun _ => defaultValue .long) := fun cA => rfl
  refine va_newa (atype := .long) (ty := .long) hx hb (hts (.arrayClass .long) (by decide +kernel)) rfl hKc (hPc.app hPm) hDa hS hA0 (n := nI 1) (N' := 1) (a0 := (1, .inr (.inl (fun _ => 0)))) ea (nI_pos (Nat.le_of_ble_eq_true rfl)) (nI_clamp (Nat.le_of_ble_eq_true rfl)) (Nat.le_of_ble_eq_true rfl) (by omega) (by omega) dL_law_17 (fun o cJ H hKJ hP hD hS => ?_)
  have hKJ : va_K D vwCl [(cJ, .long)] s := hKJ
  have hPm : va_P D vwCl (mw (M1, um.1) um.2.1 um.2.2 0 (-1) 0 0 0 0 0 0 (fun _ => 0) (fun _ => 0) (fun _ => 0) (fun _ => 0) (fun _ => 0)) H := hP.mem (fun q hq => List.mem_append_left _ (List.mem_append_right _ hq))
  have hPc : va_P D vwCl ((CWT x uc.1 uc.2 .leaf 0 0 0 (fun _ => 0) (fun _ => (none, none, none, 0))) ++ [(o, oE cJ (fun _ => 0))]) H := hP.mem (fun q hq => (List.mem_append.mp hq).elim (fun z => List.mem_append_left _ (List.mem_append_left _ z)) (fun z => List.mem_append_right _ z))
  have hDa : va_D (fun q : Nat => s.heap.size ≤ q) (((CWT x uc.1 uc.2 .leaf 0 0 0 (fun _ => 0) (fun _ => (none, none, none, 0))) ++ [(o, oE cJ (fun _ => 0))]) ++ (mw (M1, um.1) um.2.1 um.2.2 0 (-1) 0 0 0 0 0 0 (fun _ => 0) (fun _ => 0) (fun _ => 0) (fun _ => 0) (fun _ => 0))) := perm_D (by
    rw [List.append_assoc, List.append_assoc]
    exact List.Perm.append_left _ List.perm_append_comm) hD
  refine lv_astore_n (lv' := [(3, .ref o), (2, .ref M1), (1, .ref x), (0, .ref b)]) hx hb dL_law_19 rfl hl (by decide) rfl (fun ls hl => ?_)
  refine lv_iconst (v := nI 0) hx hb dL_law_20 (by decide) ?_
  refine lv_istore (lv' := [(4, .int (nI 0)), (3, .ref o), (2, .ref M1), (1, .ref x), (0, .ref b)]) hx hb dL_law_21 hl (by decide) rfl (fun ls hl => ?_)
  have hG : GK D (tysA uc.2 um.2.1 um.2.2) s := ⟨⟨hKc.1, fun k q hq => by
    match k, hq with
    | 0, hq => exact hK1.2 0 q hq
    | 1, hq => exact hK2.2 0 q hq
    | 2, hq => exact hK2.2 1 q hq
    | k + 3, hq => simp [tysA] at hq⟩, h26, h32⟩
  refine W.widen (k := 20 + 12 * 0) (n := 4000 + 94 * 0) (by omega) (by omega) ?_
  refine law_loop (cA := uc.2) (cZ := um.2.1) (cI := um.2.2) (cJ := cJ) (x := x) (ln := uc.1) (o := o) (M := (M1, um.1)) hx hb hml hts hown hG hst hX hKJ hN hA0 hXs hbl hbA hL hR hC kEnd L 0 0 (.leaf, 0, 0, 0) H _ _ _ rfl (by omega) (by omega) ⟨rfl, rfl⟩ ?_ hS _ (lv_sub hl [0, 4, 3, 2, 1] rfl)
  refine ⟨fun _ => 0, (fun _ => (none, none, none, 0)), fun _ => 0, 0, (0, 0, fun _ => 0, fun _ => 0, fun _ => 0, fun _ => 0, fun _ => 0), hPc, hPm, hDa, ⟨List.Pairwise.nil, fun k hk => absurd hk List.not_mem_nil, by decide, trivial, trivial, fun k => Iff.rfl⟩, List.Pairwise.nil, fun k hk => absurd hk List.not_mem_nil, by decide, trivial, fun k _ => rfl⟩
