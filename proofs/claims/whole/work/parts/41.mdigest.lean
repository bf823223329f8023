/-! THE REFERENCE: digest -/
set_option maxHeartbeats 4000000 in
set_option maxRecDepth 100000 in
theorem L_X2_digest11 {D : va_G} {cA cZ cI : ClassId} {M : Nat × Nat × Nat × Nat × Nat × Nat} {mo ti dr st ma : Int32} {isIn lf rt wy rw : Nat → Int32} {T : Tr} {p : Program} {l : Launch} {e : Env} {R : Room} {s : State} {m : MethodId} {args : Array Value} {below : List Frame} {meth : Method} {c : Code} {Q : State → Prop} {A : Nat → Prop} {H0 : Heap} (hx : p.tables.exec = Jvm.exec) (hb : c.code = cX2_digest) (hml : c.maxLocals = 5) (hts : ∀ w ∈ wsX2_digest, w.before args s = true) (hown : s.vm.findClass RX2 = some m.cls) (hG : GK D (tysA cA cZ cI) s) (hR : 172 ≤ R.frames ∧ 6880 ≤ R.locals) (hC : 8 ≤ R.cells ∧ 64 ≤ R.slots) (hrep : RepM T isIn lf rt) (hA : ∀ q, H0.size ≤ q → A q) : ∀ (n i : Nat) (d : Int64) (H : Heap) (locs : List Loc) (cells slots : Nat), i + n = 8 → cells + n ≤ 8 → slots + 8 * n ≤ 64 → va_P D vwCl (mw M cZ cI (nI 0) (enc (root T)) (nI (siz T)) mo ti dr st ma isIn lf rt wy rw) H → va_D A (mw M cZ cI (nI 0) (enc (root T)) (nI (siz T)) mo ti dr st ma isIn lf rt wy rw) → va_S A H0 H locs → (∀ H locs cells slots, cells ≤ 8 → slots ≤ 64 → va_P D vwCl (mw M cZ cI (nI 0) (enc (root T)) (nI (siz T)) mo ti dr st ma isIn lf rt wy rw) H → va_D A (mw M cZ cI (nI 0) (enc (root T)) (nI (siz T)) mo ti dr st ma isIn lf rt wy rw) → va_S A H0 H locs → ∀ ls, lv_has ls 5 [(1, .long (fld (tallyT T ti dr mo) n i d)), (0, .ref M.1)] → W p l e R s m args below meth c H locs cells slots Q (F0 m 36 ls [])) → ∀ ls, lv_has ls 5 [(3, .int (nI i)), (1, .long d), (0, .ref M.1)] → W p l e R s m args below meth c H locs cells slots Q (F0 m 11 ls []) := by
  intro n
  induction n with
  | zero =>
    intro i d H locs cells slots hi hc1 hc2 hP hD hS kk ls hl
    refine lv_iload_n hx hb dX2_digest_11 rfl (lv_at hl 0 rfl) ?_
    refine lv_bipush (v := nI 7) hx hb dX2_digest_12 (by decide) ?_
    refine lv_icmp_gt (tgt := 36) hx hb dX2_digest_14 (by decide) (fun c14 => ?_) (fun c14 => ?_)
    · rw [nI_ltI (by omega) (by omega)] at c14
      exact kk H locs cells slots (by omega) (by omega) hP hD hS _ (lv_sub hl [1, 2] rfl)
    · rw [nI_ltI (by omega) (by omega)] at c14
      exact absurd c14 (by omega)
  | succ n ih =>
    intro i d H locs cells slots hi hc1 hc2 hP hD hS kk ls hl
    refine lv_iload_n hx hb dX2_digest_11 rfl (lv_at hl 0 rfl) ?_
    refine lv_bipush (v := nI 7) hx hb dX2_digest_12 (by decide) ?_
    refine lv_icmp_gt (tgt := 36) hx hb dX2_digest_14 (by decide) (fun c14 => ?_) (fun c14 => ?_)
    · rw [nI_ltI (by omega) (by omega)] at c14
      exact absurd c14 (by omega)
    · rw [nI_ltI (by omega) (by omega)] at c14
      refine lv_lload_n hx hb dX2_digest_17 rfl (lv_at hl 1 rfl) ?_
      refine lv_ldc2 hx hb hown (v := 31) (hts (.constantLong RX2 128 (31)) (by decide +kernel)) dX2_digest_18 ?_
      refine lv_lmul hx hb dX2_digest_21 ?_
      refine lv_aload_n hx hb dX2_digest_22 rfl (lv_at hl 2 rfl) ?_
      refine lv_iload_n hx hb dX2_digest_23 rfl (lv_at hl 0 rfl) ?_
      refine va_calli (va_runV (As := [.int (nI i)]) (rest := [.long (d * 31)]) ⟨hx, hb, hml, hown, hts⟩ (c_X2_counted l hrep (w0 := i) (by omega)) (cwV 1 hts gX2_digest_X2_counted rfl rfl rfl (by decide +kernel) ⟨Nat.le_trans (Nat.le_of_ble_eq_true rfl) hR.1, Nat.le_trans (Nat.le_of_ble_eq_true rfl) hR.2⟩) ⟨PcM.blind, va_recv hG.1 hP (ci := 2) (q0 := 0) rfl mw_m, PcM.at (fun q h => hA q (Nat.le_trans hS.1 h)) hP hG hD⟩ rfl rfl hl.1 rfl (lv_room (Nat.le_of_ble_eq_true rfl)) dX2_digest_24 ⟨by omega, by omega⟩) hS (fun q _ h => h) (fun q h => h) (fun r24 u24 t H locs ht hvm q24 hB hz1 hk1 hS => ?_)
      obtain ⟨hP, -, hD⟩ := hB
      rw [ht] at hP
      have hP : va_P D vwCl (mw M cZ cI (nI 0) (enc (root T)) (nI (siz T)) mo ti dr st ma isIn lf rt wy rw) H := hP
      have hD : va_D A (mw M cZ cI (nI 0) (enc (root T)) (nI (siz T)) mo ti dr st ma isIn lf rt wy rw) := hD
      subst q24
      refine lv_i2l hx hb dX2_digest_27 rfl ?_
      refine lv_ladd hx hb dX2_digest_28 ?_
      refine lv_lstore_n (lv' := [(1, .long ((d * 31) + ((tallyT T ti dr mo i).toInt64))), (3, .int (nI i)), (0, .ref M.1)]) hx hb dX2_digest_29 rfl hl (by decide) rfl (fun ls hl => ?_)
      refine lv_iinc (v := nI (i + 1)) (lv' := [(3, .int (nI (i + 1))), (1, .long ((d * 31) + ((tallyT T ti dr mo i).toInt64))), (0, .ref M.1)]) hx hb dX2_digest_30 hl (k := 1) rfl (nI_add i 1) (by decide) rfl (fun ls hl => ?_)
      refine lv_goto (tgt := 11) hx hb dX2_digest_33 (by decide) ?_
      exact ih (i + 1) _ _ _ _ _ (by omega) (by omega) (by omega) hP hD hS kk _ hl
set_option maxHeartbeats 4000000 in
set_option maxRecDepth 100000 in
theorem L_X2_digest69 {D : va_G} {cA cZ cI : ClassId} {M : Nat × Nat × Nat × Nat × Nat × Nat} {mo ti dr ma : Int32} {isIn lf rt rw : Nat → Int32} {T : Tr} {cells slots : Nat} {p : Program} {l : Launch} {e : Env} {R : Room} {s : State} {m : MethodId} {args : Array Value} {below : List Frame} {meth : Method} {c : Code} {Q : State → Prop} {A : Nat → Prop} {H0 : Heap} (hx : p.tables.exec = Jvm.exec) (hb : c.code = cX2_digest) (hml : c.maxLocals = 5) (hts : ∀ w ∈ wsX2_digest, w.before args s = true) (hown : s.vm.findClass RX2 = some m.cls) (hG : GK D (tysA cA cZ cI) s) (hR : 172 ≤ R.frames ∧ 6880 ≤ R.locals) (hC : cells ≤ R.cells ∧ slots ≤ R.slots) (hrep : RepM T isIn lf rt) (hA : ∀ q, H0.size ≤ q → A q) {j : Nat} (hjT : j ∈ keysT T) : ∀ (n i : Nat) (d : Int64) {st : Int32} {wy : Nat → Int32} (H : Heap) (locs : List Loc), i + n = 8 → va_P D vwCl (mw M cZ cI (nI 0) (enc (root T)) (nI (siz T)) mo ti dr st ma isIn lf rt wy rw) H → va_D A (mw M cZ cI (nI 0) (enc (root T)) (nI (siz T)) mo ti dr st ma isIn lf rt wy rw) → va_S A H0 H locs → (∀ st wy H locs, va_P D vwCl (mw M cZ cI (nI 0) (enc (root T)) (nI (siz T)) mo ti dr st ma isIn lf rt wy rw) H → va_D A (mw M cZ cI (nI 0) (enc (root T)) (nI (siz T)) mo ti dr st ma isIn lf rt wy rw) → va_S A H0 H locs → ∀ ls, lv_has ls 5 [(1, .long (fld (tellT T j) n i d)), (3, .int (nI j)), (0, .ref M.1)] → W p l e R s m args below meth c H locs cells slots Q (F0 m 97 ls [])) → ∀ ls, lv_has ls 5 [(4, .int (nI i)), (1, .long d), (3, .int (nI j)), (0, .ref M.1)] → W p l e R s m args below meth c H locs cells slots Q (F0 m 69 ls []) := by
  have hjn := hrep.2.1 j hjT
  intro n
  induction n with
  | zero =>
    intro i d st wy H locs hi hP hD hS kk ls hl
    refine lv_iload hx hb dX2_digest_69 (lv_at hl 0 rfl) ?_
    refine lv_bipush (v := nI 7) hx hb dX2_digest_71 (by decide) ?_
    refine lv_icmp_gt (tgt := 97) hx hb dX2_digest_73 (by decide) (fun c73 => ?_) (fun c73 => ?_)
    · rw [nI_ltI (by omega) (by omega)] at c73
      exact kk st wy H locs hP hD hS _ (lv_sub hl [1, 2, 3] rfl)
    · rw [nI_ltI (by omega) (by omega)] at c73
      exact absurd c73 (by omega)
  | succ n ih =>
    intro i d st wy H locs hi hP hD hS kk ls hl
    refine lv_iload hx hb dX2_digest_69 (lv_at hl 0 rfl) ?_
    refine lv_bipush (v := nI 7) hx hb dX2_digest_71 (by decide) ?_
    refine lv_icmp_gt (tgt := 97) hx hb dX2_digest_73 (by decide) (fun c73 => ?_) (fun c73 => ?_)
    · rw [nI_ltI (by omega) (by omega)] at c73
      exact absurd c73 (by omega)
    · rw [nI_ltI (by omega) (by omega)] at c73
      refine lv_lload_n hx hb dX2_digest_76 rfl (lv_at hl 1 rfl) ?_
      refine lv_ldc2 hx hb hown (v := 31) (hts (.constantLong RX2 128 (31)) (by decide +kernel)) dX2_digest_77 ?_
      refine lv_lmul hx hb dX2_digest_80 ?_
      refine lv_aload_n hx hb dX2_digest_81 rfl (lv_at hl 3 rfl) ?_
      refine lv_iload_n hx hb dX2_digest_82 rfl (lv_at hl 2 rfl) ?_
      refine lv_iload hx hb dX2_digest_83 (lv_at hl 0 rfl) ?_
      refine va_calli (va_runV (As := [.int (nI j), .int (nI i)]) (rest := [.long (d * 31)]) ⟨hx, hb, hml, hown, hts⟩ (c_X2_toldOf l hrep hjT (w0 := i) (by omega)) (cwV 2 hts gX2_digest_X2_toldOf rfl rfl rfl (by decide +kernel) ⟨Nat.le_trans (Nat.le_of_ble_eq_true rfl) hR.1, Nat.le_trans (Nat.le_of_ble_eq_true rfl) hR.2⟩) ⟨PcM.blind, va_recv hG.1 hP (ci := 2) (q0 := 0) rfl mw_m, PcM.at (fun q h => hA q (Nat.le_trans hS.1 h)) hP hG hD⟩ rfl rfl hl.1 rfl (lv_room (Nat.le_of_ble_eq_true rfl)) dX2_digest_85 ⟨by omega, by omega⟩) hS (fun q _ h => h) (fun q h => h) (fun r85 wy9 t H locs ht hvm q85 hB hz1 hk1 hS => ?_)
      obtain ⟨hP, -, hD⟩ := hB
      rw [ht] at hP
      have hP : va_P D vwCl (mw M cZ cI (nI 0) (enc (root T)) (nI (siz T)) mo ti dr (nI ((wayT j T).length)) ma isIn lf rt wy9 rw) H := hP
      have hD : va_D A (mw M cZ cI (nI 0) (enc (root T)) (nI (siz T)) mo ti dr (nI ((wayT j T).length)) ma isIn lf rt wy9 rw) := hD
      subst q85
      refine lv_i2l hx hb dX2_digest_88 rfl ?_
      refine lv_ladd hx hb dX2_digest_89 ?_
      refine lv_lstore_n (lv' := [(1, .long ((d * 31) + ((tellT T j i).toInt64))), (4, .int (nI i)), (3, .int (nI j)), (0, .ref M.1)]) hx hb dX2_digest_90 rfl hl (by decide) rfl (fun ls hl => ?_)
      refine lv_iinc (v := nI (i + 1)) (lv' := [(4, .int (nI (i + 1))), (1, .long ((d * 31) + ((tellT T j i).toInt64))), (3, .int (nI j)), (0, .ref M.1)]) hx hb dX2_digest_91 hl (k := 1) rfl (nI_add i 1) (by decide) rfl (fun ls hl => ?_)
      refine lv_goto (tgt := 69) hx hb dX2_digest_94 (by decide) ?_
      exact ih (i + 1) _ _ _ (by omega) hP hD hS kk _ hl
set_option maxHeartbeats 4000000 in
set_option maxRecDepth 100000 in
theorem L_X2_digest38 {D : va_G} {cA cZ cI : ClassId} {M : Nat × Nat × Nat × Nat × Nat × Nat} {mo ti dr ma : Int32} {isIn lf rt rw : Nat → Int32} {T : Tr} {cells slots : Nat} {p : Program} {l : Launch} {e : Env} {R : Room} {s : State} {m : MethodId} {args : Array Value} {below : List Frame} {meth : Method} {c : Code} {Q : State → Prop} {A : Nat → Prop} {H0 : Heap} (hx : p.tables.exec = Jvm.exec) (hb : c.code = cX2_digest) (hml : c.maxLocals = 5) (hts : ∀ w ∈ wsX2_digest, w.before args s = true) (hown : s.vm.findClass RX2 = some m.cls) (hG : GK D (tysA cA cZ cI) s) (hR : 172 ≤ R.frames ∧ 6880 ≤ R.locals) (hC : cells ≤ R.cells ∧ slots ≤ R.slots) (hrep : RepM T isIn lf rt) (hA : ∀ q, H0.size ≤ q → A q) : ∀ (f k : Nat) (d : Int64) {st : Int32} {wy : Nat → Int32} (H : Heap) (locs : List Loc), k + f = 1000 → va_P D vwCl (mw M cZ cI (nI 0) (enc (root T)) (nI (siz T)) mo ti dr st ma isIn lf rt wy rw) H → va_D A (mw M cZ cI (nI 0) (enc (root T)) (nI (siz T)) mo ti dr st ma isIn lf rt wy rw) → va_S A H0 H locs → (∀ st wy H locs, va_P D vwCl (mw M cZ cI (nI 0) (enc (root T)) (nI (siz T)) mo ti dr st ma isIn lf rt wy rw) H → va_D A (mw M cZ cI (nI 0) (enc (root T)) (nI (siz T)) mo ti dr st ma isIn lf rt wy rw) → va_S A H0 H locs → ∀ ls, lv_has ls 5 [(1, .long (((keysT T).drop (cntLt k T)).foldl (dgS T) d)), (0, .ref M.1)] → W p l e R s m args below meth c H locs cells slots Q (F0 m 103 ls [])) → ∀ ls, lv_has ls 5 [(3, .int (nI k)), (1, .long d), (0, .ref M.1)] → W p l e R s m args below meth c H locs cells slots Q (F0 m 38 ls []) := by
  have hi := hrep.2.2.2.2
  have hz := hrep.2.2.1
  intro f
  induction f with
  | zero =>
    intro k d st wy H locs hk hP hD hS kk ls hl
    refine lv_iload_n hx hb dX2_digest_38 rfl (lv_at hl 0 rfl) ?_
    refine lv_sipush (v := nI 1000) hx hb dX2_digest_39 (by decide) ?_
    refine lv_icmp_ge (tgt := 103) hx hb dX2_digest_42 (by decide) (fun c42 => ?_) (fun c42 => ?_)
    · rw [nI_leI (by omega) (by omega)] at c42
      have e8 : k = 1000 := by omega
      subst e8
      rw [cnt_all hrep.2.1, List.drop_eq_nil_of_le (by rw [keys_len]; omega)] at kk
      exact kk st wy H locs hP hD hS _ (lv_sub hl [1, 2] rfl)
    · rw [nI_leI (by omega) (by omega)] at c42
      exact absurd c42 (by omega)
  | succ f ih =>
    intro k d st wy H locs hk hP hD hS kk ls hl
    refine lv_iload_n hx hb dX2_digest_38 rfl (lv_at hl 0 rfl) ?_
    refine lv_sipush (v := nI 1000) hx hb dX2_digest_39 (by decide) ?_
    refine lv_icmp_ge (tgt := 103) hx hb dX2_digest_42 (by decide) (fun c42 => ?_) (fun c42 => ?_)
    · rw [nI_leI (by omega) (by omega)] at c42
      exact absurd c42 (by omega)
    · rw [nI_leI (by omega) (by omega)] at c42
      refine lv_aload_n hx hb dX2_digest_45 rfl (lv_at hl 2 rfl) ?_
      refine va_get (D := D) (ci := 2) (v := .ref M.2.1) (C := RX2) (T := TX2) (N := 13) hx hb hts (by decide +kernel) hown hG.1 hP 0 mw_m rfl 6 (by decide) (hts (.fieldLink RX2 13 "LopsidedRanksModel" "isIn" "[Z") (by decide +kernel)) (fun _ h9 => h9) rfl dX2_digest_46 ?_
      refine lv_iload_n hx hb dX2_digest_49 rfl (lv_at hl 0 rfl) ?_
      refine zr_zald hx hb hG.1 hP 1 1 mw_i rfl (k := k) (by omega) (Nat.le_of_ble_eq_true rfl) dX2_digest_50 ?_
      refine zr_eqi (hi k (by omega)) ?_
      refine lv_if_ne (tgt := 57) hx hb dX2_digest_51 (by decide) (fun c51 => ?_) (fun c51 => ?_)
      · have hm : k ∈ keysT T := of_decide_eq_true (b2i_ne c51)
        have e7 := cnt_step (k := k) hrep.1
        rw [if_pos hm] at e7
        have hdr : (keysT T).drop (cntLt k T) = k :: (keysT T).drop (cntLt (k + 1) T) := by
          have h9 := cnt_key hrep.1 hm
          have h8 := (List.getElem?_eq_some_iff.mp h9).1
          rw [List.drop_eq_getElem_cons h8, e7]
          rw [List.getElem?_eq_getElem h8] at h9
          rw [Option.some.inj h9]
        refine lv_lload_n hx hb dX2_digest_57 rfl (lv_at hl 1 rfl) ?_
        refine lv_ldc2 hx hb hown (v := 31) (hts (.constantLong RX2 128 (31)) (by decide +kernel)) dX2_digest_58 ?_
        refine lv_lmul hx hb dX2_digest_61 ?_
        refine lv_iload_n hx hb dX2_digest_62 rfl (lv_at hl 0 rfl) ?_
        refine lv_i2l hx hb dX2_digest_63 rfl ?_
        refine lv_ladd hx hb dX2_digest_64 ?_
        refine lv_lstore_n (lv' := [(1, .long ((d * 31) + ((nI k).toInt64))), (3, .int (nI k)), (0, .ref M.1)]) hx hb dX2_digest_65 rfl hl (by decide) rfl (fun ls hl => ?_)
        refine lv_iconst (v := nI 0) hx hb dX2_digest_66 (by decide) ?_
        refine lv_istore (lv' := [(4, .int (nI 0)), (1, .long ((d * 31) + ((nI k).toInt64))), (3, .int (nI k)), (0, .ref M.1)]) hx hb dX2_digest_67 hl (by decide) rfl (fun ls hl => ?_)
        have hl : lv_has ls 5 [(4, .int (nI 0)), (1, .long ((d * 31) + ((nI k).toInt64))), (3, .int (nI k)), (0, .ref M.1)] := lv_sub hl [0, 1, 2, 3] rfl
        refine L_X2_digest69 hx hb hml hts hown hG hR hC hrep hA hm 8 0 _ H locs rfl hP hD hS (fun st wy H locs hP hD hS ls hl => ?_) _ hl
        refine lv_iinc (v := nI (k + 1)) (lv' := [(3, .int (nI (k + 1))), (1, .long (dgS T d k)), (0, .ref M.1)]) hx hb dX2_digest_97 hl (k := 1) rfl (nI_add k 1) (by decide) rfl (fun ls hl => ?_)
        refine lv_goto (tgt := 38) hx hb dX2_digest_100 (by decide) ?_
        exact ih (k + 1) _ _ _ (by omega) hP hD hS (by rw [hdr, List.foldl_cons] at kk; exact kk) _ (lv_sub hl [0, 1, 2] rfl)
      · have hm : ¬ k ∈ keysT T := fun q => b2i_eq c51 (decide_eq_true q)
        have e7 := cnt_step (k := k) hrep.1
        rw [if_neg hm, Nat.add_zero] at e7
        refine lv_goto (tgt := 97) hx hb dX2_digest_54 (by decide) ?_
        refine lv_iinc (v := nI (k + 1)) (lv' := [(3, .int (nI (k + 1))), (1, .long d), (0, .ref M.1)]) hx hb dX2_digest_97 hl (k := 0) rfl (nI_add k 1) (by decide) rfl (fun ls hl => ?_)
        refine lv_goto (tgt := 38) hx hb dX2_digest_100 (by decide) ?_
        exact ih (k + 1) _ _ _ (by omega) hP hD hS (by rw [e7]; exact kk) _ hl
set_option maxHeartbeats 4000000 in
set_option maxRecDepth 100000 in
/-- digest -/
theorem c_X2_digest (l : Launch) {D : va_G} {cA cZ cI : ClassId} {M : Nat × Nat × Nat × Nat × Nat × Nat} {th mo ti dr st ma : Int32} {isIn lf rt wy rw : Nat → Int32} {A : Nat → Prop} {T : Tr} (hrep : RepM T isIn lf rt) : Met l yX2_digest wsX2_digest ({ frames := 180, cells := 8, slots := 64, locals := 7200 } : Room) (PcM D (tysA cA cZ cI) A (mw M cZ cI th (enc (root T)) (nI (siz T)) mo ti dr st ma isIn lf rt wy rw) [.ref M.1]) (va_Ql (S := ME) (fun r u => (0 = 0 → r = dgT T ti dr mo) ∧ RepM (T, mo, ti, dr).1 u.2.2.1 u.2.2.2.1 u.2.2.2.2.1) (fun u => BM D (tysA cA cZ cI) A (mw M cZ cI (nI (0)) (enc (root (T, mo, ti, dr).1)) (nI (siz (T, mo, ti, dr).1)) ((T, mo, ti, dr).2.1) ((T, mo, ti, dr).2.2.1) ((T, mo, ti, dr).2.2.2) u.1 u.2.1 u.2.2.1 u.2.2.2.1 u.2.2.2.2.1 u.2.2.2.2.2.1 u.2.2.2.2.2.2)) A) 8 64 A := by
  refine Met.ofW (cc := cX2_digest) (maxL := 5) (ret := (some .long)) (by decide) rfl ?_
  intro p e s m args below meth c s₁ B hml hv
  obtain ⟨rfl, hA, hP, hG, hD⟩ := hv
  have hx := B.exec
  have hb := B.bytes
  have hr := B.returns
  have hts := atoms_spec (ws := wsX2_digest) B.pre
  have hown : s.vm.findClass RX2 = some m.cls := findClass_of_methodNamed B.named
  have hlocks := B.notSynchronized
  have hl := lv_entry ([.ref M.1]) (n := 5) (Nat.le_of_ble_eq_true rfl)
  rw [lg_entry_eq]
  generalize (lg_sl ([.ref M.1]) ++ List.replicate (5 - (lg_sl ([.ref M.1])).length) Slot.unset).toArray = ls at hl ⊢
  have hl : lv_has ls 5 [(0, .ref M.1)] := hl
  have hS : va_S A s.heap s.heap [] := va_S.rf
  obtain ⟨hb0, hin0, hsz, hs, hi⟩ := id hrep
  have hgs := hgt_siz (T := T)
  refine lv_aload_n hx hb dX2_digest_0 rfl (lv_at hl 0 rfl) ?_
  refine lv_iconst (v := nI 0) hx hb dX2_digest_1 (by decide) ?_
  refine va_put (D := D) (ci := 2) (v := .int (nI 0)) (ty := .int) (C := RX2) (T := TX2) (N := 13) hx hb hts (by decide +kernel) tyX2 tyX2_ok nmX2 hown hG.1 hP hD hS 0 mw_m rfl 0 (by decide) (hts (.fieldLink RX2 30 "LopsidedRanksModel" "thrown" "I") (by decide +kernel)) (fun _ h9 => h9) rfl (by decide +kernel) rfl rfl (Nat.le_of_ble_eq_true rfl) dX2_digest_2 (fun H locs hP hD hS => ?_)
  have hP : va_P D vwCl (mw M cZ cI ((nI 0)) (enc (root T)) (nI (siz T)) mo ti dr st ma isIn lf rt wy rw) H := hP
  have hD : va_D A (mw M cZ cI ((nI 0)) (enc (root T)) (nI (siz T)) mo ti dr st ma isIn lf rt wy rw) := hD
  refine lv_ldc2 hx hb hown (v := 1289) (hts (.constantLong RX2 126 (1289)) (by decide +kernel)) dX2_digest_5 ?_
  refine lv_lstore_n (lv' := [(1, .long (1289)), (0, .ref M.1)]) hx hb dX2_digest_8 rfl hl (by decide) rfl (fun ls hl => ?_)
  refine lv_iconst (v := nI 0) hx hb dX2_digest_9 (by decide) ?_
  refine lv_istore_n (lv' := [(3, .int (nI 0)), (1, .long (1289)), (0, .ref M.1)]) hx hb dX2_digest_10 rfl hl (by decide) rfl (fun ls hl => ?_)
  refine L_X2_digest11 hx hb hml hts hown hG ⟨Nat.le_of_ble_eq_true rfl, Nat.le_of_ble_eq_true rfl⟩ ⟨Nat.le_of_ble_eq_true rfl, Nat.le_of_ble_eq_true rfl⟩ hrep hA 8 0 _ H locs 0 0 rfl (by omega) (by omega) hP hD hS (fun H locs cells slots hc1 hc2 hP hD hS ls hl => ?_) _ hl
  refine lv_iconst (v := nI 0) hx hb dX2_digest_36 (by decide) ?_
  refine lv_istore_n (lv' := [(3, .int (nI 0)), (1, .long (fld (tallyT T ti dr mo) 8 0 1289)), (0, .ref M.1)]) hx hb dX2_digest_37 rfl hl (by decide) rfl (fun ls hl => ?_)
  refine L_X2_digest38 (cells := cells) (slots := slots) hx hb hml hts hown hG ⟨Nat.le_of_ble_eq_true rfl, Nat.le_of_ble_eq_true rfl⟩ ⟨Nat.le_trans hc1 (Nat.le_of_ble_eq_true rfl), Nat.le_trans hc2 (Nat.le_of_ble_eq_true rfl)⟩ hrep hA 1000 0 _ H locs rfl hP hD hS (fun st wy H locs hP hD hS ls hl => ?_) _ hl
  rw [cnt_0 hb0, List.drop_zero] at hl
  have hl : lv_has ls 5 [(1, .long (dgT T ti dr mo)), (0, .ref M.1)] := hl
  refine lv_lload_n hx hb dX2_digest_103 rfl (lv_at hl 0 rfl) ?_
  refine W.widen (k := 8) (n := 64) (by omega) (by omega) ?_
  exact W.lret (v := dgT T ti dr mo) hx hb hr (fun t ht hW => ⟨⟨_, (st, ma, isIn, lf, rt, wy, rw), rfl, ⟨fun _ => rfl, hrep⟩, by rw [ht]; exact hP, hG.moved hW, hD⟩, hS.F ht⟩) hS.2.2 dX2_digest_104

