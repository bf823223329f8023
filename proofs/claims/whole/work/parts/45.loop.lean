/-! THE LAW: mean, digest, the loop -/
set_option maxHeartbeats 4000000 in
set_option maxRecDepth 100000 in
theorem law_mean {D : va_G} {cA cZ cI cJ : ClassId} {sa : Nat → Nat} {A0 : Nat → Prop} {x ln o : Nat} {M : Nat × Nat × Nat × Nat × Nat × Nat} {b L : Nat} {xs : Nat → Int32} {p : Program} {l : Launch} {e : Env} {R : Room} {s : State} {m : MethodId} {args : Array Value} {below : List Frame} {meth : Method} {c : Code} {Q : State → Prop} (hx : p.tables.exec = Jvm.exec) (hb : c.code = cL_law) (hml : c.maxLocals = 9) (hts : ∀ w ∈ wsL_law, w.before args s = true) (hown : s.vm.findClass RL = some m.cls) (hG : GK D (tysA cA cZ cI) s) (hst : l.stackTraces = false) (hX : GX sa A0 s s.heap) (hKJ : va_K D vwCl [(cJ, .long)] s) (hN : NcX s) (hA0 : ∀ q, s.heap.size ≤ q → A0 q) (hXs : va_X b L xs s s.heap) (hbl : b < s.heap.size) (hbA : ¬ A0 b) (hL : L ≤ 1536) (hR : 300 ≤ R.frames ∧ 12000 ≤ R.locals) {S : RS} {H : Heap} {locs : List Loc} {cells slots i : Nat} (hI : LI D cA cZ cI cJ A0 x ln o M S H) (hS : va_S A0 s.heap H locs) (hc : cells + 12 ≤ R.cells) (hs9 : slots + 94 ≤ R.slots) (kk : ∀ S H locs, LI D cA cZ cI cJ A0 x ln o M S H → va_S A0 s.heap H locs → ∀ ls, lv_has ls 9 [(4, .int (nI i)), (0, .ref b), (1, .ref x), (2, .ref M.1), (3, .ref o)] → W p l e R s m args below meth c H locs (cells + 12) (slots + 94) Q (F0 m 885 ls [])) : ∀ ls, lv_has ls 9 [(4, .int (nI i)), (0, .ref b), (1, .ref x), (2, .ref M.1), (3, .ref o)] → W p l e R s m args below meth c H locs cells slots Q (F0 m 830 ls []) := by
  intro ls hl
  obtain ⟨ad, g, f, th, E, hP, hPm, hDa, hrc, hrm⟩ := hI
  obtain ⟨T, mo, dr, ds⟩ := S
  obtain ⟨hd1, hd2, hd3, hd4⟩ := split_D hDa
  refine lv_aload_n hx hb dL_law_830 rfl (lv_at hl 2 rfl) ?_
  have hPc := (last_o hP).1
  refine vp_callSd (va_Run.run (va_runV (As := []) (rest := []) ⟨hx, hb, hml, hown, hts⟩ (c_X1_mean l hrc) (cwV 0 hts gL_law_X1_mean rfl rfl rfl (by decide +kernel) ⟨Nat.le_trans (Nat.le_of_ble_eq_true rfl) hR.1, Nat.le_trans (Nat.le_of_ble_eq_true rfl) hR.2⟩) ⟨PcR.blind, va_recv hG.1 hPc (ci := 1) (q0 := 0) rfl cw_x, PcR.at hPc hG⟩ rfl rfl hl.1 rfl (lv_room (Nat.le_of_ble_eq_true rfl)) dL_law_831 ⟨by omega, by omega⟩)) (fun r q1 => ?_)
  subst q1
  refine lv_dstore (lv' := [(5, .double (mnT T)), (4, .int (nI i)), (0, .ref b), (1, .ref x), (2, .ref M.1), (3, .ref o)]) hx hb dL_law_834 hl (by decide) rfl (fun ls hl => ?_)
  refine lv_aload_n hx hb dL_law_836 rfl (lv_at hl 4 rfl) ?_
  refine va_calld (va_runV (As := []) (rest := []) ⟨hx, hb, hml, hown, hts⟩ (c_X2_mean l hrm) (cwV 0 hts gL_law_X2_mean rfl rfl rfl (by decide +kernel) ⟨Nat.le_trans (Nat.le_of_ble_eq_true rfl) hR.1, Nat.le_trans (Nat.le_of_ble_eq_true rfl) hR.2⟩) ⟨PcM.blind, va_recv hG.1 hPm (ci := 2) (q0 := 0) rfl mw_m, PcM.at (off_new hP (fun q h => hA0 q (Nat.le_trans hS.1 h))) hPm hG hd2⟩ rfl rfl hl.1 rfl (lv_room (Nat.le_of_ble_eq_true rfl)) dL_law_837 ⟨by omega, by omega⟩) hS (fun q _ h => h.1) (fun q h => h.1) (fun r6 E2 t H locs ht hvm hpo hB hbz hk hS => ?_)
  obtain ⟨hPm, -, hD2⟩ := hB
  rw [ht] at hPm
  obtain ⟨hr6, hrm⟩ := hpo
  have e6 := hr6 rfl
  subst e6
  have hP := keep_P hP hk
  have hDa := unite_D2 hd3 hD2
  refine lv_dstore (lv' := [(7, .double (mnT T)), (5, .double (mnT T)), (4, .int (nI i)), (0, .ref b), (1, .ref x), (2, .ref M.1), (3, .ref o)]) hx hb dL_law_840 hl (by decide) rfl (fun ls hl => ?_)
  refine lv_dload hx hb dL_law_842 (lv_at hl 1 rfl) ?_
  refine lv_dload hx hb dL_law_844 (lv_at hl 0 rfl) ?_
  refine lv_dcmp hx hb dL_law_846 ?_
  refine lv_if_eq (tgt := 868) hx hb dL_law_847 (by decide) (fun c847 => ?_) (fun c847 => ?_)
  · refine lv_goto (tgt := 885) hx hb dL_law_868 (by decide) ?_
    refine W.widen (k := cells + 12) (n := slots + 94) (by omega) (by omega) ?_
    exact kk (T, mo, dr, ds) H locs ⟨ad, g, f, _, E2, hP, hPm, hDa, hrc, hrm⟩ hS _ (lv_sub hl [2, 3, 4, 5, 6] rfl)
  · refine lv_dload hx hb dL_law_850 (lv_at hl 1 rfl) ?_
    refine lv_dload hx hb dL_law_852 (lv_at hl 1 rfl) ?_
    refine lv_dcmp hx hb dL_law_854 ?_
    refine lv_if_eq (tgt := 866) hx hb dL_law_855 (by decide) (fun c855 => ?_) (fun c855 => ?_)
    · exact absurd c855 c847
    · refine lv_dload hx hb dL_law_858 (lv_at hl 0 rfl) ?_
      refine lv_dload hx hb dL_law_860 (lv_at hl 0 rfl) ?_
      refine lv_dcmp hx hb dL_law_862 ?_
      refine lv_if_ne (tgt := 868) hx hb dL_law_863 (by decide) (fun c863 => ?_) (fun c863 => ?_)
      · refine lv_goto (tgt := 885) hx hb dL_law_868 (by decide) ?_
        refine W.widen (k := cells + 12) (n := slots + 94) (by omega) (by omega) ?_
        exact kk (T, mo, dr, ds) H locs ⟨ad, g, f, _, E2, hP, hPm, hDa, hrc, hrm⟩ hS _ (lv_sub hl [2, 3, 4, 5, 6] rfl)
      · exact absurd c863 c847

set_option maxHeartbeats 4000000 in
set_option maxRecDepth 100000 in
theorem law_digest {D : va_G} {cA cZ cI cJ : ClassId} {sa : Nat → Nat} {A0 : Nat → Prop} {x ln o : Nat} {M : Nat × Nat × Nat × Nat × Nat × Nat} {b L : Nat} {xs : Nat → Int32} {p : Program} {l : Launch} {e : Env} {R : Room} {s : State} {m : MethodId} {args : Array Value} {below : List Frame} {meth : Method} {c : Code} {Q : State → Prop} (hx : p.tables.exec = Jvm.exec) (hb : c.code = cL_law) (hml : c.maxLocals = 9) (hts : ∀ w ∈ wsL_law, w.before args s = true) (hown : s.vm.findClass RL = some m.cls) (hG : GK D (tysA cA cZ cI) s) (hst : l.stackTraces = false) (hX : GX sa A0 s s.heap) (hKJ : va_K D vwCl [(cJ, .long)] s) (hN : NcX s) (hA0 : ∀ q, s.heap.size ≤ q → A0 q) (hXs : va_X b L xs s s.heap) (hbl : b < s.heap.size) (hbA : ¬ A0 b) (hL : L ≤ 1536) (hR : 300 ≤ R.frames ∧ 12000 ≤ R.locals) {S : RS} {H : Heap} {locs : List Loc} {cells slots i : Nat} (hI : LI D cA cZ cI cJ A0 x ln o M S H) (hS : va_S A0 s.heap H locs) (hc : cells + 12 ≤ R.cells) (hs9 : slots + 94 ≤ R.slots) (kk : ∀ S H locs, LI D cA cZ cI cJ A0 x ln o M S H → va_S A0 s.heap H locs → ∀ ls, lv_has ls 9 [(4, .int (nI i)), (0, .ref b), (1, .ref x), (2, .ref M.1), (3, .ref o)] → W p l e R s m args below meth c H locs (cells + 12) (slots + 94) Q (F0 m 885 ls [])) : ∀ ls, lv_has ls 9 [(4, .int (nI i)), (0, .ref b), (1, .ref x), (2, .ref M.1), (3, .ref o)] → W p l e R s m args below meth c H locs cells slots Q (F0 m 871 ls []) := by
  intro ls hl
  obtain ⟨ad, g, f, th, E, hP, hPm, hDa, hrc, hrm⟩ := hI
  obtain ⟨T, mo, dr, ds⟩ := S
  obtain ⟨hd1, hd2, hd3, hd4⟩ := split_D hDa
  refine lv_aload_n hx hb dL_law_871 rfl (lv_at hl 2 rfl) ?_
  have hPc := (last_o hP).1
  refine vp_callSl (va_Run.run (va_runV (As := []) (rest := []) ⟨hx, hb, hml, hown, hts⟩ (c_X1_digest l hrc) (cwV 0 hts gL_law_X1_digest rfl rfl rfl (by decide +kernel) ⟨Nat.le_trans (Nat.le_of_ble_eq_true rfl) hR.1, Nat.le_trans (Nat.le_of_ble_eq_true rfl) hR.2⟩) ⟨PcR.blind, va_recv hG.1 hPc (ci := 1) (q0 := 0) rfl cw_x, PcR.at hPc hG⟩ rfl rfl hl.1 rfl (lv_room (Nat.le_of_ble_eq_true rfl)) dL_law_872 ⟨by omega, by omega⟩)) (fun r q1 => ?_)
  subst q1
  refine lv_aload_n hx hb dL_law_875 rfl (lv_at hl 3 rfl) ?_
  refine va_calll (va_runV (As := []) (rest := [.long (dgT T dr ds mo)]) ⟨hx, hb, hml, hown, hts⟩ (c_X2_digest l hrm) (cwV 0 hts gL_law_X2_digest rfl rfl rfl (by decide +kernel) ⟨Nat.le_trans (Nat.le_of_ble_eq_true rfl) hR.1, Nat.le_trans (Nat.le_of_ble_eq_true rfl) hR.2⟩) ⟨PcM.blind, va_recv hG.1 hPm (ci := 2) (q0 := 0) rfl mw_m, PcM.at (off_new hP (fun q h => hA0 q (Nat.le_trans hS.1 h))) hPm hG hd2⟩ rfl rfl hl.1 rfl (lv_room (Nat.le_of_ble_eq_true rfl)) dL_law_876 ⟨by omega, by omega⟩) hS (fun q _ h => h.1) (fun q h => h.1) (fun r6 E2 t H locs ht hvm hpo hB hbz hk hS => ?_)
  obtain ⟨hPm, -, hD2⟩ := hB
  rw [ht] at hPm
  obtain ⟨hr6, hrm⟩ := hpo
  have e6 := hr6 rfl
  subst e6
  have hP := keep_P hP hk
  have hDa := unite_D2 hd3 hD2
  refine zr_lcmp hx hb dL_law_879 ?_
  rw [lg_same]
  refine lv_if_eq (tgt := 885) hx hb dL_law_880 (by decide) (fun c880 => ?_) (fun c880 => ?_)
  · refine W.widen (k := cells + 12) (n := slots + 94) (by omega) (by omega) ?_
    exact kk (T, mo, dr, ds) H locs ⟨ad, g, f, _, E2, hP, hPm, hDa, hrc, hrm⟩ hS _ (lv_sub hl [0, 1, 2, 3, 4] rfl)
  · exact absurd rfl c880

theorem and15 (a : Int32) : ∃ k : Nat, k < 16 ∧ a &&& nI 15 = nI k := by
  refine ⟨(a &&& nI 15).toBitVec.toNat, ?_, ?_⟩
  · have e : (a &&& nI 15).toBitVec = a.toBitVec &&& 15#32 := rfl
    rw [e, BitVec.toNat_and]
    exact Nat.lt_of_le_of_lt Nat.and_le_right (by decide)
  · refine Int32.toBitVec_inj.mp ?_
    show _ = BitVec.ofNat 32 _
    simp
theorem nI_lt3 {a L : Nat} (ha : a < 5000) (hL : L < 5000) : nI L - nI 3 < nI a ↔ L < a + 3 := by
  by_cases h : 3 ≤ L
  · rw [pk_sub h, nI_ltI (by omega) (by omega)]
    omega
  · refine ⟨fun _ => by omega, fun _ => ?_⟩
    rw [Int32.lt_iff_toInt_lt, nI_toInt (by omega)]
    rcases (show L = 0 ∨ L = 1 ∨ L = 2 by omega) with rfl | rfl | rfl
    · have : (nI 0 - nI 3).toInt = -3 := by decide
      omega
    · have : (nI 1 - nI 3).toInt = -2 := by decide
      omega
    · have : (nI 2 - nI 3).toInt = -1 := by decide
      omega
set_option maxHeartbeats 4000000 in
set_option maxRecDepth 100000 in
/-- the loop over the script -/
theorem law_loop {D : va_G} {cA cZ cI cJ : ClassId} {sa : Nat → Nat} {A0 : Nat → Prop} {x ln o : Nat} {M : Nat × Nat × Nat × Nat × Nat × Nat} {b L : Nat} {xs : Nat → Int32} {p : Program} {l : Launch} {e : Env} {R : Room} {s : State} {m : MethodId} {args : Array Value} {below : List Frame} {meth : Method} {c : Code} {Q : State → Prop} (hx : p.tables.exec = Jvm.exec) (hb : c.code = cL_law) (hml : c.maxLocals = 9) (hts : ∀ w ∈ wsL_law, w.before args s = true) (hown : s.vm.findClass RL = some m.cls) (hG : GK D (tysA cA cZ cI) s) (hst : l.stackTraces = false) (hX : GX sa A0 s s.heap) (hKJ : va_K D vwCl [(cJ, .long)] s) (hN : NcX s) (hA0 : ∀ q, s.heap.size ≤ q → A0 q) (hXs : va_X b L xs s s.heap) (hbl : b < s.heap.size) (hbA : ¬ A0 b) (hL : L ≤ 1536) (hR : 300 ≤ R.frames ∧ 12000 ≤ R.locals) (hC : 10000 ≤ R.cells ∧ 60000 ≤ R.slots) (kEnd : ∀ (H : Heap) (locs : List Loc) (cells slots : Nat) (ls : Array Slot), cells ≤ 10000 → slots ≤ 60000 → va_S A0 s.heap H locs → W p l e R s m args below meth c H locs cells slots Q (F0 m 892 ls [.int (nI 1)])) : ∀ (n i j : Nat) (S : RS) (H : Heap) (locs : List Loc) (cells slots : Nat), i = 3 * j → i ≤ L + 2 → L ≤ i + 3 * n + 2 → cells = 20 + 12 * j ∧ slots = 4000 + 94 * j → LI D cA cZ cI cJ A0 x ln o M S H → va_S A0 s.heap H locs → ∀ ls, lv_has ls 9 [(4, .int (nI i)), (0, .ref b), (1, .ref x), (2, .ref M.1), (3, .ref o)] → W p l e R s m args below meth c H locs cells slots Q (F0 m 23 ls []) := by
  intro n
  induction n using Nat.strongRecOn with
  | _ n ih =>
  intro i j S H locs cells slots hij hi9 hn hcs hI hS ls hl
  refine lv_iload hx hb dL_law_23 (lv_at hl 0 rfl) ?_
  refine lv_aload_n hx hb dL_law_25 rfl (lv_at hl 1 rfl) ?_
  refine va_slen hx hb hXs hbl hbA hS dL_law_26 ?_
  refine zr_eqi (show Int32.ofNat L = nI L from rfl) ?_
  refine lv_iconst (v := nI 3) hx hb dL_law_27 (by decide) ?_
  refine lv_isub hx hb dL_law_28 ?_
  refine lv_icmp_gt (tgt := 891) hx hb dL_law_29 (by decide) (fun c29 => ?_) (fun c29 => ?_)
  · refine lv_iconst (v := nI 1) hx hb dL_law_891 (by decide) ?_
    exact kEnd H locs cells slots _ (by omega) (by omega) hS
  · have hlt : ¬ L < i + 3 := fun q => c29 ((nI_lt3 (by omega) (by omega)).mpr q)
    cases n with
    | zero => exact absurd (show L < i + 3 by omega) hlt
    | succ n =>
      have k885 : ∀ S H locs, LI D cA cZ cI cJ A0 x ln o M S H → va_S A0 s.heap H locs → ∀ ls, lv_has ls 9 [(4, .int (nI i)), (0, .ref b), (1, .ref x), (2, .ref M.1), (3, .ref o)] → W p l e R s m args below meth c H locs (cells + 12) (slots + 94) Q (F0 m 885 ls []) := by
        intro S H locs hI hS ls hl
        refine lv_iinc (v := nI (i + 3)) (lv' := [(4, .int (nI (i + 3))), (0, .ref b), (1, .ref x), (2, .ref M.1), (3, .ref o)]) hx hb dL_law_885 hl (k := 0) rfl (nI_add i 3) (by decide) rfl (fun ls hl => ?_)
        refine lv_goto (tgt := 23) hx hb dL_law_888 (by decide) ?_
        exact ih n (Nat.lt_succ_self n) (i + 3) (j + 1) S H locs (cells + 12) (slots + 94) (by omega) (by omega) (by omega) (by omega) hI hS _ hl
      refine lv_aload_n hx hb dL_law_32 rfl (lv_at hl 1 rfl) ?_
      refine lv_iload hx hb dL_law_33 (lv_at hl 0 rfl) ?_
      refine va_sld hx hb hXs hbl hbA hS (i := nI i) (nI_in (by omega) (by omega)) dL_law_35 ?_
      refine lv_bipush (v := nI 15) hx hb dL_law_36 (by decide) ?_
      refine lv_iand hx hb dL_law_38 ?_
      obtain ⟨k, hk16, hk⟩ := and15 (xs (nI i).toNatClampNeg)
      refine zr_eqi hk ?_
      rcases (show k = 0 ∨ k = 1 ∨ k = 2 ∨ k = 3 ∨ k = 4 ∨ k = 5 ∨ k = 6 ∨ k = 7 ∨ k = 8 ∨ k = 9 ∨ k = 10 ∨ k = 11 ∨ k = 12 ∨ k = 13 ∨ k = 14 ∨ k = 15 by omega) with rfl | rfl | rfl | rfl | rfl | rfl | rfl | rfl | rfl | rfl | rfl | rfl | rfl | rfl | rfl | rfl
      · refine lv_tableIn (off := 69) (tgt := 108) hx hb dL_law_39 (by decide) (by decide) (by decide +kernel) (by decide) ?_
        exact law_muster hx hb hml hts hown hG hst hX hKJ hN hA0 hXs hbl hbA hL hR (by omega) hI hS (by omega) (by omega) k885 _ hl
      · refine lv_tableIn (off := 125) (tgt := 164) hx hb dL_law_39 (by decide) (by decide) (by decide +kernel) (by decide) ?_
        exact law_discharge hx hb hml hts hown hG hst hX hKJ hN hA0 hXs hbl hbA hL hR (by omega) hI hS (by omega) (by omega) k885 _ hl
      · refine lv_tableIn (off := 188) (tgt := 227) hx hb dL_law_39 (by decide) (by decide) (by decide +kernel) (by decide) ?_
        exact law_draw hx hb hml hts hown hG hst hX hKJ hN hA0 hXs hbl hbA hL hR (by omega) hI hS (by omega) (by omega) k885 _ hl
      · refine lv_tableIn (off := 244) (tgt := 283) hx hb dL_law_39 (by decide) (by decide) (by decide +kernel) (by decide) ?_
        exact law_isThere hx hb hml hts hown hG hst hX hKJ hN hA0 hXs hbl hbA hL hR (by omega) hI hS (by omega) (by omega) k885 _ hl
      · refine lv_tableIn (off := 307) (tgt := 346) hx hb dL_law_39 (by decide) (by decide) (by decide +kernel) (by decide) ?_
        exact law_told hx hb hml hts hown hG hst hX hKJ hN hA0 hXs hbl hbA hL hR (by omega) hI hS (by omega) (by omega) k885 _ hl
      · refine lv_tableIn (off := 375) (tgt := 414) hx hb dL_law_39 (by decide) (by decide) (by decide +kernel) (by decide) ?_
        exact law_at hx hb hml hts hown hG hst hX hKJ hN hA0 hXs hbl hbA hL hR (by omega) hI hS (by omega) (by omega) k885 _ hl
      · refine lv_tableIn (off := 431) (tgt := 470) hx hb dL_law_39 (by decide) (by decide) (by decide +kernel) (by decide) ?_
        exact law_between hx hb hml hts hown hG hst hX hKJ hN hA0 hXs hbl hbA hL hR (by omega) hI hS (by omega) (by omega) k885 _ hl
      · refine lv_tableIn (off := 499) (tgt := 538) hx hb dL_law_39 (by decide) (by decide) (by decide +kernel) (by decide) ?_
        exact law_captain hx hb hml hts hown hG hst hX hKJ hN hA0 hXs hbl hbA hL hR (by omega) hI hS (by omega) (by omega) k885 _ hl
      · refine lv_tableIn (off := 567) (tgt := 606) hx hb dL_law_39 (by decide) (by decide) (by decide +kernel) (by decide) ?_
        exact law_taller hx hb hml hts hown hG hst hX hKJ hN hA0 hXs hbl hbA hL hR (by omega) hI hS (by omega) (by omega) k885 _ hl
      · refine lv_tableIn (off := 623) (tgt := 662) hx hb dL_law_39 (by decide) (by decide) (by decide +kernel) (by decide) ?_
        exact law_count hx hb hml hts hown hG hst hX hKJ hN hA0 hXs hbl hbA hL hR (by omega) hI hS (by omega) (by omega) k885 _ hl
      · refine lv_tableIn (off := 679) (tgt := 718) hx hb dL_law_39 (by decide) (by decide) (by decide +kernel) (by decide) ?_
        exact law_would hx hb hml hts hown hG hst hX hKJ hN hA0 hXs hbl hbA hL hR (by omega) hI hS (by omega) (by omega) k885 _ hl
      · refine lv_tableIn (off := 735) (tgt := 774) hx hb dL_law_39 (by decide) (by decide) (by decide +kernel) (by decide) ?_
        exact law_moves hx hb hml hts hown hG hst hX hKJ hN hA0 hXs hbl hbA hL hR (by omega) hI hS (by omega) (by omega) k885 _ hl
      · refine lv_tableIn (off := 791) (tgt := 830) hx hb dL_law_39 (by decide) (by decide) (by decide +kernel) (by decide) ?_
        exact law_mean hx hb hml hts hown hG hst hX hKJ hN hA0 hXs hbl hbA hL hR hI hS (by omega) (by omega) k885 _ hl
      · refine lv_tableIn (off := 832) (tgt := 871) hx hb dL_law_39 (by decide) (by decide) (by decide +kernel) (by decide) ?_
        exact law_digest hx hb hml hts hown hG hst hX hKJ hN hA0 hXs hbl hbA hL hR hI hS (by omega) (by omega) k885 _ hl
      · refine lv_tableOut (tgt := 885) hx hb dL_law_39 (by decide) (by decide) ?_
        refine W.widen (k := cells + 12) (n := slots + 94) (by omega) (by omega) ?_
        exact k885 _ _ _ hI hS _ hl
      · refine lv_tableOut (tgt := 885) hx hb dL_law_39 (by decide) (by decide) ?_
        refine W.widen (k := cells + 12) (n := slots + 94) (by omega) (by omega) ?_
        exact k885 _ _ _ hI hS _ hl

