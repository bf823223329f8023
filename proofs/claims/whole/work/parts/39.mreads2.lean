/-! THE REFERENCE's calls that read, second part -/
theorem cnt_idx {T : Tr} (hb : bst T) {j z : Nat} (h : (keysT T)[j]? = some z) : z ∈ keysT T ∧ cntLt z T = j := by
  have hm : z ∈ keysT T := List.mem_of_getElem? h
  have h2 := cnt_key hb hm
  have hn := nodup_ix.mp (bst_nodup hb)
  have l1 := (List.getElem?_eq_some_iff.mp h).1
  have l2 := (List.getElem?_eq_some_iff.mp h2).1
  refine ⟨hm, ?_⟩
  rcases Nat.lt_trichotomy (cntLt z T) j with w | w | w
  · exact absurd (h2.trans h.symm) (hn _ _ w l1)
  · exact w
  · exact absurd (h.trans h2.symm) (hn _ _ w l2)
theorem upd8 (v : Nat → Int32) {w0 : Nat} (h : w0 ≤ 7) : upd (upd (upd (upd (upd (upd (upd (upd (fun _ => 0) 0 (v 0)) 1 (v 1)) 2 (v 2)) 3 (v 3)) 4 (v 4)) 5 (v 5)) 6 (v 6)) 7 (v 7) w0 = v w0 := by
  rcases (show w0 = 0 ∨ w0 = 1 ∨ w0 = 2 ∨ w0 = 3 ∨ w0 = 4 ∨ w0 = 5 ∨ w0 = 6 ∨ w0 = 7 by omega) with rfl | rfl | rfl | rfl | rfl | rfl | rfl | rfl <;> simp [upd]
theorem dps_le {T : Tr} (hb : bst T) (hz : siz T ≤ 150) : dps 0 T ≤ 22500 := by
  have h1 := dps_sml hb 0 0
  have h2 := sml_le (f := fun j => (anc j T).length + 0) (N := 150) (xs := keysT T) (fun j _ => by have := anc_len (h := j) (T := T); omega) 0
  rw [h1, keys_len] at h2
  have h3 : siz T * 150 ≤ 150 * 150 := Nat.mul_le_mul_right 150 hz
  omega
set_option maxHeartbeats 4000000 in
set_option maxRecDepth 100000 in
theorem L_X2_at {D : va_G} {cA cZ cI : ClassId} {M : Nat × Nat × Nat × Nat × Nat × Nat} {th tp n mo ti dr st ma : Int32} {isIn lf rt wy rw : Nat → Int32} {p : Program} {l : Launch} {e : Env} {R : Room} {s : State} {m : MethodId} {args : Array Value} {below : List Frame} {meth : Method} {c : Code} {Q : State → Prop} {cells slots : Nat} {H : Heap} {locs : List Loc} (hx : p.tables.exec = Jvm.exec) (hb : c.code = cX2_at) (hml : c.maxLocals = 4) (hts : ∀ w ∈ wsX2_at, w.before args s = true) (hown : s.vm.findClass RX2 = some m.cls) (hG : GK D (tysA cA cZ cI) s) (hP : va_P D vwCl (mw M cZ cI th tp n mo ti dr st ma isIn lf rt wy rw) H) (hR : 0 ≤ R.frames ∧ 0 ≤ R.locals) (hC : cells ≤ R.cells ∧ slots ≤ R.slots) {T : Tr} {j z : Nat} (hz0 : z < 1000) (hjz : (keysT T)[j]? = some z) (hb0 : bst T) (hz : siz T ≤ 150) (hi : ∀ k, k < 1000 → isIn k = b2i (decide (k ∈ keysT T))) : ∀ (f k : Nat), k + f = z → k ≤ z → (∀ ls, lv_has ls 4 [(2, .int (nI z))] → W p l e R s m args below meth c H locs cells slots Q (F0 m 63 ls [])) → ∀ ls, lv_has ls 4 [(3, .int (nI (j - cntLt k T))), (2, .int (nI k)), (0, .ref M.1)] → W p l e R s m args below meth c H locs cells slots Q (F0 m 27 ls []) := by
  obtain ⟨hzm, hzc⟩ := cnt_idx hb0 hjz
  have hjl := (List.getElem?_eq_some_iff.mp hjz).1
  rw [keys_len] at hjl
  intro f
  induction f with
  | zero =>
    intro k hk hkz kk ls hl
    have e8 : k = z := by omega
    subst e8
    refine lv_iload_n hx hb dX2_at_27 rfl (lv_at hl 0 rfl) ?_
    refine lv_if_gt (tgt := 40) hx hb dX2_at_28 (by decide) (fun c28 => ?_) (fun c28 => ?_)
    · replace c28 := (zr_gt0 (by omega)).mp c28
      exact absurd c28 (by omega)
    · replace c28 := (not_congr (zr_gt0 (by omega))).mp c28
      refine lv_aload_n hx hb dX2_at_31 rfl (lv_at hl 2 rfl) ?_
      refine va_get (D := D) (ci := 2) (v := .ref M.2.1) (C := RX2) (T := TX2) (N := 13) hx hb hts (by decide +kernel) hown hG.1 hP 0 mw_m rfl 6 (by decide) (hts (.fieldLink RX2 13 "LopsidedRanksModel" "isIn" "[Z") (by decide +kernel)) (fun _ h9 => h9) rfl dX2_at_32 ?_
      refine lv_iload_n hx hb dX2_at_35 rfl (lv_at hl 1 rfl) ?_
      refine zr_zald hx hb hG.1 hP 1 1 mw_i rfl (k := k) (by omega) (Nat.le_of_ble_eq_true rfl) dX2_at_36 ?_
      refine zr_eqi (hi k (by omega)) ?_
      refine lv_if_ne (tgt := 63) hx hb dX2_at_37 (by decide) (fun c37 => ?_) (fun c37 => ?_)
      · exact kk _ (lv_sub hl [1] rfl)
      · exact absurd (decide_eq_true hzm) (b2i_eq c37)
  | succ f ih =>
    intro k hk hkz kk ls hl
    have hcm := cnt_mono hb0 hkz
    have hcl := cnt_le (h := k) (T := T)
    refine lv_iload_n hx hb dX2_at_27 rfl (lv_at hl 0 rfl) ?_
    refine lv_if_gt (tgt := 40) hx hb dX2_at_28 (by decide) (fun c28 => ?_) (fun c28 => ?_)
    · replace c28 := (zr_gt0 (by omega)).mp c28
      refine lv_iload_n hx hb dX2_at_40 rfl (lv_at hl 0 rfl) ?_
      refine lv_aload_n hx hb dX2_at_41 rfl (lv_at hl 2 rfl) ?_
      refine va_get (D := D) (ci := 2) (v := .ref M.2.1) (C := RX2) (T := TX2) (N := 13) hx hb hts (by decide +kernel) hown hG.1 hP 0 mw_m rfl 6 (by decide) (hts (.fieldLink RX2 13 "LopsidedRanksModel" "isIn" "[Z") (by decide +kernel)) (fun _ h9 => h9) rfl dX2_at_42 ?_
      refine lv_iload_n hx hb dX2_at_45 rfl (lv_at hl 1 rfl) ?_
      refine zr_zald hx hb hG.1 hP 1 1 mw_i rfl (k := k) (by omega) (Nat.le_of_ble_eq_true rfl) dX2_at_46 ?_
      refine zr_eqi (hi k (by omega)) ?_
      refine lv_if_eq (tgt := 54) hx hb dX2_at_47 (by decide) (fun c47 => ?_) (fun c47 => ?_)
      · have hm2 : ¬ k ∈ keysT T := fun q => b2i_eq c47 (decide_eq_true q)
        refine lv_iconst (v := nI 0) hx hb dX2_at_54 (by decide) ?_
        refine lv_isub hx hb dX2_at_55 ?_
        refine zr_eqi (pk_sub (a := j - cntLt k T) (b := 0) (by omega)) ?_
        refine lv_istore_n (lv' := [(3, .int (nI ((j - cntLt k T) - 0))), (2, .int (nI k)), (0, .ref M.1)]) hx hb dX2_at_56 rfl hl (by decide) rfl (fun ls hl => ?_)
        refine lv_iinc (v := nI (k + 1)) (lv' := [(2, .int (nI (k + 1))), (3, .int (nI ((j - cntLt k T) - 0))), (0, .ref M.1)]) hx hb dX2_at_57 hl (k := 1) rfl (nI_add k 1) (by decide) rfl (fun ls hl => ?_)
        refine lv_goto (tgt := 27) hx hb dX2_at_60 (by decide) ?_
        have e7 := cnt_step (k := k) hb0
        rw [if_neg hm2] at e7
        exact ih (k + 1) (by omega) (by omega) kk _ (by rw [e7, show j - (cntLt k T + 0) = j - cntLt k T - 0 by omega]; exact lv_sub hl [1, 0, 2] rfl)
      · have hm2 : k ∈ keysT T := of_decide_eq_true (b2i_ne c47)
        refine lv_iconst (v := nI 1) hx hb dX2_at_50 (by decide) ?_
        refine lv_goto (tgt := 55) hx hb dX2_at_51 (by decide) ?_
        refine lv_isub hx hb dX2_at_55 ?_
        refine zr_eqi (pk_sub (a := j - cntLt k T) (b := 1) (by omega)) ?_
        refine lv_istore_n (lv' := [(3, .int (nI ((j - cntLt k T) - 1))), (2, .int (nI k)), (0, .ref M.1)]) hx hb dX2_at_56 rfl hl (by decide) rfl (fun ls hl => ?_)
        refine lv_iinc (v := nI (k + 1)) (lv' := [(2, .int (nI (k + 1))), (3, .int (nI ((j - cntLt k T) - 1))), (0, .ref M.1)]) hx hb dX2_at_57 hl (k := 1) rfl (nI_add k 1) (by decide) rfl (fun ls hl => ?_)
        refine lv_goto (tgt := 27) hx hb dX2_at_60 (by decide) ?_
        have e7 := cnt_step (k := k) hb0
        rw [if_pos hm2] at e7
        exact ih (k + 1) (by omega) (by omega) kk _ (by rw [e7, show j - (cntLt k T + 1) = j - cntLt k T - 1 by omega]; exact lv_sub hl [1, 0, 2] rfl)
    · replace c28 := (not_congr (zr_gt0 (by omega))).mp c28
      refine lv_aload_n hx hb dX2_at_31 rfl (lv_at hl 2 rfl) ?_
      refine va_get (D := D) (ci := 2) (v := .ref M.2.1) (C := RX2) (T := TX2) (N := 13) hx hb hts (by decide +kernel) hown hG.1 hP 0 mw_m rfl 6 (by decide) (hts (.fieldLink RX2 13 "LopsidedRanksModel" "isIn" "[Z") (by decide +kernel)) (fun _ h9 => h9) rfl dX2_at_32 ?_
      refine lv_iload_n hx hb dX2_at_35 rfl (lv_at hl 1 rfl) ?_
      refine zr_zald hx hb hG.1 hP 1 1 mw_i rfl (k := k) (by omega) (Nat.le_of_ble_eq_true rfl) dX2_at_36 ?_
      refine zr_eqi (hi k (by omega)) ?_
      refine lv_if_ne (tgt := 63) hx hb dX2_at_37 (by decide) (fun c37 => ?_) (fun c37 => ?_)
      · have hm : k ∈ keysT T := of_decide_eq_true (b2i_ne c37)
        have h9 := cnt_key hb0 hm
        rw [show cntLt k T = j by omega, hjz] at h9
        cases h9
        exact absurd hk (by omega)
      · have hm : ¬ k ∈ keysT T := fun q => b2i_eq c37 (decide_eq_true q)
        refine lv_iload_n hx hb dX2_at_40 rfl (lv_at hl 0 rfl) ?_
        refine lv_aload_n hx hb dX2_at_41 rfl (lv_at hl 2 rfl) ?_
        refine va_get (D := D) (ci := 2) (v := .ref M.2.1) (C := RX2) (T := TX2) (N := 13) hx hb hts (by decide +kernel) hown hG.1 hP 0 mw_m rfl 6 (by decide) (hts (.fieldLink RX2 13 "LopsidedRanksModel" "isIn" "[Z") (by decide +kernel)) (fun _ h9 => h9) rfl dX2_at_42 ?_
        refine lv_iload_n hx hb dX2_at_45 rfl (lv_at hl 1 rfl) ?_
        refine zr_zald hx hb hG.1 hP 1 1 mw_i rfl (k := k) (by omega) (Nat.le_of_ble_eq_true rfl) dX2_at_46 ?_
        refine zr_eqi (hi k (by omega)) ?_
        refine lv_if_eq (tgt := 54) hx hb dX2_at_47 (by decide) (fun c47 => ?_) (fun c47 => ?_)
        · have hm2 : ¬ k ∈ keysT T := fun q => b2i_eq c47 (decide_eq_true q)
          refine lv_iconst (v := nI 0) hx hb dX2_at_54 (by decide) ?_
          refine lv_isub hx hb dX2_at_55 ?_
          refine zr_eqi (pk_sub (a := j - cntLt k T) (b := 0) (by omega)) ?_
          refine lv_istore_n (lv' := [(3, .int (nI ((j - cntLt k T) - 0))), (2, .int (nI k)), (0, .ref M.1)]) hx hb dX2_at_56 rfl hl (by decide) rfl (fun ls hl => ?_)
          refine lv_iinc (v := nI (k + 1)) (lv' := [(2, .int (nI (k + 1))), (3, .int (nI ((j - cntLt k T) - 0))), (0, .ref M.1)]) hx hb dX2_at_57 hl (k := 1) rfl (nI_add k 1) (by decide) rfl (fun ls hl => ?_)
          refine lv_goto (tgt := 27) hx hb dX2_at_60 (by decide) ?_
          have e7 := cnt_step (k := k) hb0
          rw [if_neg hm2] at e7
          exact ih (k + 1) (by omega) (by omega) kk _ (by rw [e7, show j - (cntLt k T + 0) = j - cntLt k T - 0 by omega]; exact lv_sub hl [1, 0, 2] rfl)
        · exact absurd (of_decide_eq_true (b2i_ne c47)) hm
set_option maxHeartbeats 4000000 in
set_option maxRecDepth 100000 in
/-- at -/
theorem c_X2_at (l : Launch) {D : va_G} {cA cZ cI : ClassId} {M : Nat × Nat × Nat × Nat × Nat × Nat} {th mo ti dr st ma : Int32} {isIn lf rt wy rw : Nat → Int32} {A : Nat → Prop} {T : Tr} {x0 : Int32} (hrep : RepM T isIn lf rt) : Met l yX2_at wsX2_at ({ frames := 170, cells := 0, slots := 0, locals := 6800 } : Room) (PcM D (tysA cA cZ cI) A (mw M cZ cI th (enc (root T)) (nI (siz T)) mo ti dr st ma isIn lf rt wy rw) [.ref M.1, .int x0]) (va_Qi (S := ME) (fun r u => ((kA x0 T) = 0 → r = enc ((keysT T)[kx x0]?)) ∧ RepM (T, mo, ti, dr).1 u.2.2.1 u.2.2.2.1 u.2.2.2.2.1) (fun u => BM D (tysA cA cZ cI) A (mw M cZ cI (nI (kA x0 T)) (enc (root (T, mo, ti, dr).1)) (nI (siz (T, mo, ti, dr).1)) ((T, mo, ti, dr).2.1) ((T, mo, ti, dr).2.2.1) ((T, mo, ti, dr).2.2.2) u.1 u.2.1 u.2.2.1 u.2.2.2.1 u.2.2.2.2.1 u.2.2.2.2.2.1 u.2.2.2.2.2.2)) A) 0 0 A := by
  refine Met.ofW (cc := cX2_at) (maxL := 4) (ret := (some .int)) (by decide) rfl ?_
  intro p e s m args below meth c s₁ B hml hv
  obtain ⟨rfl, hA, hP, hG, hD⟩ := hv
  have hx := B.exec
  have hb := B.bytes
  have hr := B.returns
  have hts := atoms_spec (ws := wsX2_at) B.pre
  have hown : s.vm.findClass RX2 = some m.cls := findClass_of_methodNamed B.named
  have hlocks := B.notSynchronized
  have hl := lv_entry ([.ref M.1, .int x0]) (n := 4) (Nat.le_of_ble_eq_true rfl)
  rw [lg_entry_eq]
  generalize (lg_sl ([.ref M.1, .int x0]) ++ List.replicate (4 - (lg_sl ([.ref M.1, .int x0])).length) Slot.unset).toArray = ls at hl ⊢
  have hl : lv_has ls 4 [(0, .ref M.1), (1, .int x0)] := hl
  have hS : va_S A s.heap s.heap [] := va_S.rf
  obtain ⟨hb0, hin0, hsz, hs, hi⟩ := id hrep
  have hgs := hgt_siz (T := T)
  refine lv_aload_n hx hb dX2_at_0 rfl (lv_at hl 0 rfl) ?_
  refine lv_iconst (v := nI 0) hx hb dX2_at_1 (by decide) ?_
  refine va_put (D := D) (ci := 2) (v := .int (nI 0)) (ty := .int) (C := RX2) (T := TX2) (N := 13) hx hb hts (by decide +kernel) tyX2 tyX2_ok nmX2 hown hG.1 hP hD hS 0 mw_m rfl 0 (by decide) (hts (.fieldLink RX2 30 "LopsidedRanksModel" "thrown" "I") (by decide +kernel)) (fun _ h9 => h9) rfl (by decide +kernel) rfl rfl (Nat.le_of_ble_eq_true rfl) dX2_at_2 (fun H locs hP hD hS => ?_)
  have hP : va_P D vwCl (mw M cZ cI ((nI 0)) (enc (root T)) (nI (siz T)) mo ti dr st ma isIn lf rt wy rw) H := hP
  have hD : va_D A (mw M cZ cI ((nI 0)) (enc (root T)) (nI (siz T)) mo ti dr st ma isIn lf rt wy rw) := hD
  refine lv_iload_n hx hb dX2_at_5 rfl (lv_at hl 1 rfl) ?_
  refine lv_if_lt (tgt := 17) hx hb dX2_at_6 (by decide) (fun c6 => ?_) (fun c6 => ?_)
  · refine lv_aload_n hx hb dX2_at_17 rfl (lv_at hl 0 rfl) ?_
    refine lv_iconst (v := nI 1) hx hb dX2_at_18 (by decide) ?_
    refine va_calli (va_runV (As := [.int (nI 1)]) (rest := []) ⟨hx, hb, hml, hown, hts⟩ (c_X2_no l) (cwV 1 hts gX2_at_X2_no rfl rfl rfl (by decide +kernel) ⟨Nat.le_of_ble_eq_true rfl, Nat.le_of_ble_eq_true rfl⟩) ⟨PcM.blind, va_recv hG.1 hP (ci := 2) (q0 := 0) rfl mw_m, PcM.at (fun q h => hA q (Nat.le_trans hS.1 h)) hP hG hD⟩ rfl rfl hl.1 rfl (lv_room (Nat.le_of_ble_eq_true rfl)) dX2_at_19 ⟨Nat.zero_le _, Nat.zero_le _⟩) hS (fun q _ h => h) (fun q h => h) (fun r19 u19 t H locs ht hvm q19 hB hz1 hk1 hS => ?_)
    obtain ⟨hP, -, hD⟩ := hB
    rw [ht] at hP
    have hP : va_P D vwCl (mw M cZ cI (nI 1) (enc (root T)) (nI (siz T)) mo ti dr st ma isIn lf rt wy rw) H := hP
    have hD : va_D A (mw M cZ cI (nI 1) (enc (root T)) (nI (siz T)) mo ti dr st ma isIn lf rt wy rw) := hD
    subst q19
    have eK : kA x0 T = 1 := if_pos c6
    exact W.iret (v := (nI 0)) hx hb hr (fun t ht hW => ⟨⟨_, (st, ma, isIn, lf, rt, wy, rw), rfl, ⟨fun q => absurd (eK.symm.trans q) (by decide), hrep⟩, by rw [eK, ht]; exact hP, hG.moved hW, by rw [eK]; exact hD⟩, hS.F ht⟩) hS.2.2 dX2_at_22
  · obtain ⟨j, hj, rfl⟩ := nI_of c6
    have hl : lv_has ls 4 [(0, .ref M.1), (1, .int (nI j))] := hl
    refine lv_iload_n hx hb dX2_at_9 rfl (lv_at hl 1 rfl) ?_
    refine lv_aload_n hx hb dX2_at_10 rfl (lv_at hl 0 rfl) ?_
    refine va_get (D := D) (ci := 2) (v := .int (nI (siz T))) (C := RX2) (T := TX2) (N := 13) hx hb hts (by decide +kernel) hown hG.1 hP 0 mw_m rfl 2 (by decide) (hts (.fieldLink RX2 90 "LopsidedRanksModel" "soldiers" "I") (by decide +kernel)) (fun _ h9 => h9) rfl dX2_at_11 ?_
    refine lv_icmp_lt (tgt := 23) hx hb dX2_at_14 (by decide) (fun c14 => ?_) (fun c14 => ?_)
    · rw [nI_ltI (by omega) (by omega)] at c14
      obtain ⟨z, hjz⟩ : ∃ z, (keysT T)[j]? = some z := ⟨_, List.getElem?_eq_getElem (by rw [keys_len]; omega)⟩
      refine lv_iconst (v := nI 0) hx hb dX2_at_23 (by decide) ?_
      refine lv_istore_n (lv' := [(2, .int (nI 0)), (0, .ref M.1), (1, .int (nI j))]) hx hb dX2_at_24 rfl hl (by decide) rfl (fun ls hl => ?_)
      refine lv_iload_n hx hb dX2_at_25 rfl (lv_at hl 2 rfl) ?_
      refine lv_istore_n (lv' := [(3, .int (nI j)), (2, .int (nI 0)), (0, .ref M.1), (1, .int (nI j))]) hx hb dX2_at_26 rfl hl (by decide) rfl (fun ls hl => ?_)
      have hl : lv_has ls 4 [(3, .int (nI j)), (2, .int (nI 0)), (0, .ref M.1)] := lv_sub hl [0, 1, 2] rfl
      refine L_X2_at hx hb hml hts hown hG hP ⟨Nat.le_of_ble_eq_true rfl, Nat.le_of_ble_eq_true rfl⟩ ⟨Nat.zero_le _, Nat.zero_le _⟩ (hin0 z (cnt_idx hb0 hjz).1) hjz hb0 hsz hi z 0 (Nat.zero_add _) (Nat.zero_le _) (fun ls hl => ?_) _ (lv_re hl (by rw [cnt_0 hb0, Nat.sub_zero]))
      refine lv_iload_n hx hb dX2_at_63 rfl (lv_at hl 0 rfl) ?_
      have eK : kA (nI j) T = 0 := (if_neg c6).trans (if_neg (by rw [kx_nI hj, hjz]; exact fun q => by cases q))
      exact W.iret (v := (nI z)) hx hb hr (fun t ht hW => ⟨⟨_, (st, ma, isIn, lf, rt, wy, rw), rfl, ⟨fun _ => by rw [kx_nI hj, hjz]; rfl, hrep⟩, by rw [eK, ht]; exact hP, hG.moved hW, by rw [eK]; exact hD⟩, hS.F ht⟩) hS.2.2 dX2_at_64
    · rw [nI_ltI (by omega) (by omega)] at c14
      refine lv_aload_n hx hb dX2_at_17 rfl (lv_at hl 0 rfl) ?_
      refine lv_iconst (v := nI 1) hx hb dX2_at_18 (by decide) ?_
      refine va_calli (va_runV (As := [.int (nI 1)]) (rest := []) ⟨hx, hb, hml, hown, hts⟩ (c_X2_no l) (cwV 1 hts gX2_at_X2_no rfl rfl rfl (by decide +kernel) ⟨Nat.le_of_ble_eq_true rfl, Nat.le_of_ble_eq_true rfl⟩) ⟨PcM.blind, va_recv hG.1 hP (ci := 2) (q0 := 0) rfl mw_m, PcM.at (fun q h => hA q (Nat.le_trans hS.1 h)) hP hG hD⟩ rfl rfl hl.1 rfl (lv_room (Nat.le_of_ble_eq_true rfl)) dX2_at_19 ⟨Nat.zero_le _, Nat.zero_le _⟩) hS (fun q _ h => h) (fun q h => h) (fun r19 u19 t H locs ht hvm q19 hB hz1 hk1 hS => ?_)
      obtain ⟨hP, -, hD⟩ := hB
      rw [ht] at hP
      have hP : va_P D vwCl (mw M cZ cI (nI 1) (enc (root T)) (nI (siz T)) mo ti dr st ma isIn lf rt wy rw) H := hP
      have hD : va_D A (mw M cZ cI (nI 1) (enc (root T)) (nI (siz T)) mo ti dr st ma isIn lf rt wy rw) := hD
      subst q19
      have eK : kA (nI j) T = 1 := (if_neg c6).trans (if_pos (by rw [kx_nI hj]; exact List.getElem?_eq_none (by rw [keys_len]; omega)))
      exact W.iret (v := (nI 0)) hx hb hr (fun t ht hW => ⟨⟨_, (st, ma, isIn, lf, rt, wy, rw), rfl, ⟨fun q => absurd (eK.symm.trans q) (by decide), hrep⟩, by rw [eK, ht]; exact hP, hG.moved hW, by rw [eK]; exact hD⟩, hS.F ht⟩) hS.2.2 dX2_at_22

set_option maxHeartbeats 4000000 in
set_option maxRecDepth 100000 in
theorem L_X2_captain {D : va_G} {cA cZ cI : ClassId} {M : Nat × Nat × Nat × Nat × Nat × Nat} {th tp n mo ti dr st ma : Int32} {isIn lf rt wy rw : Nat → Int32} {p : Program} {l : Launch} {e : Env} {R : Room} {s : State} {m : MethodId} {args : Array Value} {below : List Frame} {meth : Method} {c : Code} {Q : State → Prop} {cells slots : Nat} {H : Heap} {locs : List Loc} (hx : p.tables.exec = Jvm.exec) (hb : c.code = cX2_captain) (hml : c.maxLocals = 4) (hts : ∀ w ∈ wsX2_captain, w.before args s = true) (hown : s.vm.findClass RX2 = some m.cls) (hG : GK D (tysA cA cZ cI) s) (hP : va_P D vwCl (mw M cZ cI th tp n mo ti dr st ma isIn lf rt wy rw) H) (hR : 4 ≤ R.frames ∧ 160 ≤ R.locals) (hC : cells ≤ R.cells ∧ slots ≤ R.slots) {a b : Nat} (han : a < 1000) (hbn : b < 1000) : ∀ {t : Tr}, bst t → ShM lf rt t → Low t → a ∈ keysT t → b ∈ keysT t → (∀ ls, lv_has ls 4 [(3, .int (enc (lca (min a b) (max a b) t)))] → W p l e R s m args below meth c H locs cells slots Q (F0 m 96 ls [])) → ∀ ls, lv_has ls 4 [(3, .int (enc (root t))), (0, .ref M.1), (1, .int (nI a)), (2, .int (nI b))] → W p l e R s m args below meth c H locs cells slots Q (F0 m 54 ls []) := by
  intro t
  induction t with
  | leaf => intro _ _ _ ha; cases ha
  | inner sz k v tl tr ihl ihr =>
    intro hbs hs hlo ha hb9 kk ls hl
    have hk := hlo.k
    obtain ⟨h1, h2, h3, h4⟩ := hs
    obtain ⟨b1, b2, b3, b4⟩ := bst_in.mp hbs
    have hl : lv_has ls 4 [(3, .int (nI k)), (0, .ref M.1), (1, .int (nI a)), (2, .int (nI b))] := hl
    refine lv_iload_n hx hb dX2_captain_54 rfl (lv_at hl 0 rfl) ?_
    refine lv_iload_n hx hb dX2_captain_55 rfl (lv_at hl 2 rfl) ?_
    refine lv_iload_n hx hb dX2_captain_56 rfl (lv_at hl 3 rfl) ?_
    refine va_mmin hx hb (hml.trans hl.1.symm) hown (hts (.methodLink RX2 120 Lib.Math.min.name) (by decide +kernel)) (hts (.static Lib.Math.min.name) (by decide +kernel)) (hts (.initialized "java/lang/Math") (by decide +kernel)) (hts (.code Lib.Math.min.name Lib.Math.min.code 2 (some .int)) (by decide +kernel)) (Nat.le_trans (Nat.le_of_ble_eq_true rfl) hR.1) (Nat.le_trans (Nat.le_of_ble_eq_true rfl) hR.2) hC.1 hC.2 dX2_captain_57 ?_
    refine zr_eqi (zr_min (by omega) (by omega)) ?_
    refine lv_icmp_lt (tgt := 72) hx hb dX2_captain_60 (by decide) (fun c60 => ?_) (fun c60 => ?_)
    · rw [nI_ltI (by omega) (by omega)] at c60
      refine lv_iload_n hx hb dX2_captain_72 rfl (lv_at hl 0 rfl) ?_
      refine lv_iload_n hx hb dX2_captain_73 rfl (lv_at hl 2 rfl) ?_
      refine lv_icmp_ge (tgt := 86) hx hb dX2_captain_74 (by decide) (fun c74 => ?_) (fun c74 => ?_)
      · rw [nI_leI (by omega) (by omega)] at c74
        refine lv_aload_n hx hb dX2_captain_86 rfl (lv_at hl 1 rfl) ?_
        refine va_get (D := D) (ci := 2) (v := .ref M.2.2.1) (C := RX2) (T := TX2) (N := 13) hx hb hts (by decide +kernel) hown hG.1 hP 0 mw_m rfl 7 (by decide) (hts (.fieldLink RX2 17 "LopsidedRanksModel" "left" "[I") (by decide +kernel)) (fun _ h9 => h9) rfl dX2_captain_87 ?_
        refine lv_iload_n hx hb dX2_captain_90 rfl (lv_at hl 0 rfl) ?_
        refine zr_iald hx hb hG.1 hP 2 2 mw_l rfl (k := k) (by omega) (Nat.le_of_ble_eq_true rfl) dX2_captain_91 ?_
        refine zr_eqi h1 ?_
        refine lv_istore_n (lv' := [(3, .int (enc (root tl))), (0, .ref M.1), (1, .int (nI a)), (2, .int (nI b))]) hx hb dX2_captain_92 rfl hl (by decide) rfl (fun ls hl => ?_)
        refine lv_goto (tgt := 54) hx hb dX2_captain_93 (by decide) ?_
        have hkm : max a b < k := by omega
        have e9 : lca (min a b) (max a b) (.inner sz k v tl tr) = lca (min a b) (max a b) tl := by simp only [lca]; rw [if_pos (by omega), if_pos (by omega)]
        rw [e9] at kk
        exact ihl b1 h3 hlo.l (((keys_in ..).mp ha).resolve_right (fun q => q.elim (fun z => by omega) (fun z => by have := b4 a z; omega))) (((keys_in ..).mp hb9).resolve_right (fun q => q.elim (fun z => by omega) (fun z => by have := b4 b z; omega))) kk _ hl
      · rw [nI_leI (by omega) (by omega)] at c74
        refine lv_aload_n hx hb dX2_captain_77 rfl (lv_at hl 1 rfl) ?_
        refine va_get (D := D) (ci := 2) (v := .ref M.2.2.2.1) (C := RX2) (T := TX2) (N := 13) hx hb hts (by decide +kernel) hown hG.1 hP 0 mw_m rfl 8 (by decide) (hts (.fieldLink RX2 21 "LopsidedRanksModel" "right" "[I") (by decide +kernel)) (fun _ h9 => h9) rfl dX2_captain_78 ?_
        refine lv_iload_n hx hb dX2_captain_81 rfl (lv_at hl 0 rfl) ?_
        refine zr_iald hx hb hG.1 hP 3 2 mw_r rfl (k := k) (by omega) (Nat.le_of_ble_eq_true rfl) dX2_captain_82 ?_
        refine zr_eqi h2 ?_
        refine lv_goto (tgt := 92) hx hb dX2_captain_83 (by decide) ?_
        refine lv_istore_n (lv' := [(3, .int (enc (root tr))), (0, .ref M.1), (1, .int (nI a)), (2, .int (nI b))]) hx hb dX2_captain_92 rfl hl (by decide) rfl (fun ls hl => ?_)
        refine lv_goto (tgt := 54) hx hb dX2_captain_93 (by decide) ?_
        have hkm : k < min a b := by omega
        have e9 : lca (min a b) (max a b) (.inner sz k v tl tr) = lca (min a b) (max a b) tr := by simp only [lca]; rw [if_pos (by omega), if_neg (by omega)]
        rw [e9] at kk
        exact ihr b2 h4 hlo.r (((keys_in ..).mp ha).resolve_left (fun q => by have := b3 a q; omega) |>.resolve_left (by omega)) (((keys_in ..).mp hb9).resolve_left (fun q => by have := b3 b q; omega) |>.resolve_left (by omega)) kk _ hl
    · rw [nI_ltI (by omega) (by omega)] at c60
      refine lv_iload_n hx hb dX2_captain_63 rfl (lv_at hl 0 rfl) ?_
      refine lv_iload_n hx hb dX2_captain_64 rfl (lv_at hl 2 rfl) ?_
      refine lv_iload_n hx hb dX2_captain_65 rfl (lv_at hl 3 rfl) ?_
      refine va_mmax hx hb (hml.trans hl.1.symm) hown (hts (.methodLink RX2 43 Lib.Math.max.name) (by decide +kernel)) (hts (.static Lib.Math.max.name) (by decide +kernel)) (hts (.initialized "java/lang/Math") (by decide +kernel)) (hts (.code Lib.Math.max.name Lib.Math.max.code 2 (some .int)) (by decide +kernel)) (Nat.le_trans (Nat.le_of_ble_eq_true rfl) hR.1) (Nat.le_trans (Nat.le_of_ble_eq_true rfl) hR.2) hC.1 hC.2 dX2_captain_66 ?_
      refine zr_eqi (zr_max (by omega) (by omega)) ?_
      refine lv_icmp_le (tgt := 96) hx hb dX2_captain_69 (by decide) (fun c69 => ?_) (fun c69 => ?_)
      · rw [nI_leI (by omega) (by omega)] at c69
        have e9 : lca (min a b) (max a b) (.inner sz k v tl tr) = some k := by simp only [lca]; rw [if_neg (by omega)]
        rw [e9] at kk
        exact kk _ (lv_sub hl [0] rfl)
      · rw [nI_leI (by omega) (by omega)] at c69
        refine lv_iload_n hx hb dX2_captain_72 rfl (lv_at hl 0 rfl) ?_
        refine lv_iload_n hx hb dX2_captain_73 rfl (lv_at hl 2 rfl) ?_
        refine lv_icmp_ge (tgt := 86) hx hb dX2_captain_74 (by decide) (fun c74 => ?_) (fun c74 => ?_)
        · rw [nI_leI (by omega) (by omega)] at c74
          refine lv_aload_n hx hb dX2_captain_86 rfl (lv_at hl 1 rfl) ?_
          refine va_get (D := D) (ci := 2) (v := .ref M.2.2.1) (C := RX2) (T := TX2) (N := 13) hx hb hts (by decide +kernel) hown hG.1 hP 0 mw_m rfl 7 (by decide) (hts (.fieldLink RX2 17 "LopsidedRanksModel" "left" "[I") (by decide +kernel)) (fun _ h9 => h9) rfl dX2_captain_87 ?_
          refine lv_iload_n hx hb dX2_captain_90 rfl (lv_at hl 0 rfl) ?_
          refine zr_iald hx hb hG.1 hP 2 2 mw_l rfl (k := k) (by omega) (Nat.le_of_ble_eq_true rfl) dX2_captain_91 ?_
          refine zr_eqi h1 ?_
          refine lv_istore_n (lv' := [(3, .int (enc (root tl))), (0, .ref M.1), (1, .int (nI a)), (2, .int (nI b))]) hx hb dX2_captain_92 rfl hl (by decide) rfl (fun ls hl => ?_)
          refine lv_goto (tgt := 54) hx hb dX2_captain_93 (by decide) ?_
          have hkm : max a b < k := by omega
          have e9 : lca (min a b) (max a b) (.inner sz k v tl tr) = lca (min a b) (max a b) tl := by simp only [lca]; rw [if_pos (by omega), if_pos (by omega)]
          rw [e9] at kk
          exact ihl b1 h3 hlo.l (((keys_in ..).mp ha).resolve_right (fun q => q.elim (fun z => by omega) (fun z => by have := b4 a z; omega))) (((keys_in ..).mp hb9).resolve_right (fun q => q.elim (fun z => by omega) (fun z => by have := b4 b z; omega))) kk _ hl
        · rw [nI_leI (by omega) (by omega)] at c74
          refine lv_aload_n hx hb dX2_captain_77 rfl (lv_at hl 1 rfl) ?_
          refine va_get (D := D) (ci := 2) (v := .ref M.2.2.2.1) (C := RX2) (T := TX2) (N := 13) hx hb hts (by decide +kernel) hown hG.1 hP 0 mw_m rfl 8 (by decide) (hts (.fieldLink RX2 21 "LopsidedRanksModel" "right" "[I") (by decide +kernel)) (fun _ h9 => h9) rfl dX2_captain_78 ?_
          refine lv_iload_n hx hb dX2_captain_81 rfl (lv_at hl 0 rfl) ?_
          refine zr_iald hx hb hG.1 hP 3 2 mw_r rfl (k := k) (by omega) (Nat.le_of_ble_eq_true rfl) dX2_captain_82 ?_
          refine zr_eqi h2 ?_
          refine lv_goto (tgt := 92) hx hb dX2_captain_83 (by decide) ?_
          refine lv_istore_n (lv' := [(3, .int (enc (root tr))), (0, .ref M.1), (1, .int (nI a)), (2, .int (nI b))]) hx hb dX2_captain_92 rfl hl (by decide) rfl (fun ls hl => ?_)
          refine lv_goto (tgt := 54) hx hb dX2_captain_93 (by decide) ?_
          have hkm : k < min a b := by omega
          have e9 : lca (min a b) (max a b) (.inner sz k v tl tr) = lca (min a b) (max a b) tr := by simp only [lca]; rw [if_pos (by omega), if_neg (by omega)]
          rw [e9] at kk
          exact ihr b2 h4 hlo.r (((keys_in ..).mp ha).resolve_left (fun q => by have := b3 a q; omega) |>.resolve_left (by omega)) (((keys_in ..).mp hb9).resolve_left (fun q => by have := b3 b q; omega) |>.resolve_left (by omega)) kk _ hl
set_option maxHeartbeats 4000000 in
set_option maxRecDepth 100000 in
/-- captain -/
theorem c_X2_captain (l : Launch) {D : va_G} {cA cZ cI : ClassId} {M : Nat × Nat × Nat × Nat × Nat × Nat} {th mo ti dr st ma : Int32} {isIn lf rt wy rw : Nat → Int32} {A : Nat → Prop} {T : Tr} {x0 x1 : Int32} (hrep : RepM T isIn lf rt) : Met l yX2_captain wsX2_captain ({ frames := 170, cells := 0, slots := 0, locals := 6800 } : Room) (PcM D (tysA cA cZ cI) A (mw M cZ cI th (enc (root T)) (nI (siz T)) mo ti dr st ma isIn lf rt wy rw) [.ref M.1, .int x0, .int x1]) (va_Qi (S := ME) (fun r u => ((kC x0 x1 T) = 0 → r = enc (lca (min (kx x0) (kx x1)) (max (kx x0) (kx x1)) T)) ∧ RepM (T, mo, ti, dr).1 u.2.2.1 u.2.2.2.1 u.2.2.2.2.1) (fun u => BM D (tysA cA cZ cI) A (mw M cZ cI (nI (kC x0 x1 T)) (enc (root (T, mo, ti, dr).1)) (nI (siz (T, mo, ti, dr).1)) ((T, mo, ti, dr).2.1) ((T, mo, ti, dr).2.2.1) ((T, mo, ti, dr).2.2.2) u.1 u.2.1 u.2.2.1 u.2.2.2.1 u.2.2.2.2.1 u.2.2.2.2.2.1 u.2.2.2.2.2.2)) A) 0 0 A := by
  refine Met.ofW (cc := cX2_captain) (maxL := 4) (ret := (some .int)) (by decide) rfl ?_
  intro p e s m args below meth c s₁ B hml hv
  obtain ⟨rfl, hA, hP, hG, hD⟩ := hv
  have hx := B.exec
  have hb := B.bytes
  have hr := B.returns
  have hts := atoms_spec (ws := wsX2_captain) B.pre
  have hown : s.vm.findClass RX2 = some m.cls := findClass_of_methodNamed B.named
  have hlocks := B.notSynchronized
  have hl := lv_entry ([.ref M.1, .int x0, .int x1]) (n := 4) (Nat.le_of_ble_eq_true rfl)
  rw [lg_entry_eq]
  generalize (lg_sl ([.ref M.1, .int x0, .int x1]) ++ List.replicate (4 - (lg_sl ([.ref M.1, .int x0, .int x1])).length) Slot.unset).toArray = ls at hl ⊢
  have hl : lv_has ls 4 [(0, .ref M.1), (1, .int x0), (2, .int x1)] := hl
  have hS : va_S A s.heap s.heap [] := va_S.rf
  obtain ⟨hb0, hin0, hsz, hs, hi⟩ := id hrep
  have hgs := hgt_siz (T := T)
  refine lv_aload_n hx hb dX2_captain_0 rfl (lv_at hl 0 rfl) ?_
  refine lv_iconst (v := nI 0) hx hb dX2_captain_1 (by decide) ?_
  refine va_put (D := D) (ci := 2) (v := .int (nI 0)) (ty := .int) (C := RX2) (T := TX2) (N := 13) hx hb hts (by decide +kernel) tyX2 tyX2_ok nmX2 hown hG.1 hP hD hS 0 mw_m rfl 0 (by decide) (hts (.fieldLink RX2 30 "LopsidedRanksModel" "thrown" "I") (by decide +kernel)) (fun _ h9 => h9) rfl (by decide +kernel) rfl rfl (Nat.le_of_ble_eq_true rfl) dX2_captain_2 (fun H locs hP hD hS => ?_)
  have hP : va_P D vwCl (mw M cZ cI ((nI 0)) (enc (root T)) (nI (siz T)) mo ti dr st ma isIn lf rt wy rw) H := hP
  have hD : va_D A (mw M cZ cI ((nI 0)) (enc (root T)) (nI (siz T)) mo ti dr st ma isIn lf rt wy rw) := hD
  refine lv_iload_n hx hb dX2_captain_5 rfl (lv_at hl 1 rfl) ?_
  refine vp_callSi (va_Run.run (va_runS (As := [.int x0]) (rest := []) ⟨hx, hb, hml, hown, hts⟩ (c_X2_isHeight l) (va_cwS 1 hts gX2_captain_X2_isHeight rfl rfl rfl (by decide +kernel) ⟨Nat.le_of_ble_eq_true rfl, Nat.le_of_ble_eq_true rfl⟩) ⟨PcT.blind, PcT.at⟩ rfl rfl hl.1 rfl (lv_room (Nat.le_of_ble_eq_true rfl)) dX2_captain_6 ⟨Nat.zero_le _, Nat.zero_le _⟩)) (fun r6 q6 => ?_)
  subst q6
  refine lv_if_eq (tgt := 19) hx hb dX2_captain_9 (by decide) (fun c9 => ?_) (fun c9 => ?_)
  · have hno : hiB x0 = false := Bool.eq_false_iff.mpr (b2i_eq c9)
    refine lv_aload_n hx hb dX2_captain_19 rfl (lv_at hl 0 rfl) ?_
    refine lv_iconst (v := nI 1) hx hb dX2_captain_20 (by decide) ?_
    refine va_calli (va_runV (As := [.int (nI 1)]) (rest := []) ⟨hx, hb, hml, hown, hts⟩ (c_X2_no l) (cwV 1 hts gX2_captain_X2_no rfl rfl rfl (by decide +kernel) ⟨Nat.le_of_ble_eq_true rfl, Nat.le_of_ble_eq_true rfl⟩) ⟨PcM.blind, va_recv hG.1 hP (ci := 2) (q0 := 0) rfl mw_m, PcM.at (fun q h => hA q (Nat.le_trans hS.1 h)) hP hG hD⟩ rfl rfl hl.1 rfl (lv_room (Nat.le_of_ble_eq_true rfl)) dX2_captain_21 ⟨Nat.zero_le _, Nat.zero_le _⟩) hS (fun q _ h => h) (fun q h => h) (fun r21 u21 t H locs ht hvm q21 hB hz1 hk1 hS => ?_)
    obtain ⟨hP, -, hD⟩ := hB
    rw [ht] at hP
    have hP : va_P D vwCl (mw M cZ cI (nI 1) (enc (root T)) (nI (siz T)) mo ti dr st ma isIn lf rt wy rw) H := hP
    have hD : va_D A (mw M cZ cI (nI 1) (enc (root T)) (nI (siz T)) mo ti dr st ma isIn lf rt wy rw) := hD
    subst q21
    have eK : kC x0 x1 T = 1 := if_neg (by rw [hno]; decide)
    exact W.iret (v := (nI 0)) hx hb hr (fun t ht hW => ⟨⟨_, (st, ma, isIn, lf, rt, wy, rw), rfl, ⟨fun q => absurd (eK.symm.trans q) (by decide), hrep⟩, by rw [eK, ht]; exact hP, hG.moved hW, by rw [eK]; exact hD⟩, hS.F ht⟩) hS.2.2 dX2_captain_24
  · obtain ⟨h0, hh0, rfl⟩ := hiB_not (b2i_ne c9)
    have hl : lv_has ls 4 [(0, .ref M.1), (1, .int (nI h0)), (2, .int x1)] := hl
    refine lv_iload_n hx hb dX2_captain_12 rfl (lv_at hl 2 rfl) ?_
    refine vp_callSi (va_Run.run (va_runS (As := [.int x1]) (rest := []) ⟨hx, hb, hml, hown, hts⟩ (c_X2_isHeight l) (va_cwS 1 hts gX2_captain_X2_isHeight rfl rfl rfl (by decide +kernel) ⟨Nat.le_of_ble_eq_true rfl, Nat.le_of_ble_eq_true rfl⟩) ⟨PcT.blind, PcT.at⟩ rfl rfl hl.1 rfl (lv_room (Nat.le_of_ble_eq_true rfl)) dX2_captain_13 ⟨Nat.zero_le _, Nat.zero_le _⟩)) (fun r13 q13 => ?_)
    subst q13
    refine lv_if_ne (tgt := 25) hx hb dX2_captain_16 (by decide) (fun c16 => ?_) (fun c16 => ?_)
    · obtain ⟨h1, hh1, rfl⟩ := hiB_not (b2i_ne c16)
      have hl : lv_has ls 4 [(0, .ref M.1), (1, .int (nI h0)), (2, .int (nI h1))] := hl
      refine lv_aload_n hx hb dX2_captain_25 rfl (lv_at hl 0 rfl) ?_
      refine va_get (D := D) (ci := 2) (v := .ref M.2.1) (C := RX2) (T := TX2) (N := 13) hx hb hts (by decide +kernel) hown hG.1 hP 0 mw_m rfl 6 (by decide) (hts (.fieldLink RX2 13 "LopsidedRanksModel" "isIn" "[Z") (by decide +kernel)) (fun _ h9 => h9) rfl dX2_captain_26 ?_
      refine lv_iload_n hx hb dX2_captain_29 rfl (lv_at hl 1 rfl) ?_
      refine zr_zald hx hb hG.1 hP 1 1 mw_i rfl (k := h0) (by omega) (Nat.le_of_ble_eq_true rfl) dX2_captain_30 ?_
      refine zr_eqi (hi h0 hh0) ?_
      refine lv_if_eq (tgt := 43) hx hb dX2_captain_31 (by decide) (fun c31 => ?_) (fun c31 => ?_)
      · have hm0 : ¬ h0 ∈ keysT T := fun q => b2i_eq c31 (decide_eq_true q)
        refine lv_aload_n hx hb dX2_captain_43 rfl (lv_at hl 0 rfl) ?_
        refine lv_iconst (v := nI 2) hx hb dX2_captain_44 (by decide) ?_
        refine va_calli (va_runV (As := [.int (nI 2)]) (rest := []) ⟨hx, hb, hml, hown, hts⟩ (c_X2_no l) (cwV 1 hts gX2_captain_X2_no rfl rfl rfl (by decide +kernel) ⟨Nat.le_of_ble_eq_true rfl, Nat.le_of_ble_eq_true rfl⟩) ⟨PcM.blind, va_recv hG.1 hP (ci := 2) (q0 := 0) rfl mw_m, PcM.at (fun q h => hA q (Nat.le_trans hS.1 h)) hP hG hD⟩ rfl rfl hl.1 rfl (lv_room (Nat.le_of_ble_eq_true rfl)) dX2_captain_45 ⟨Nat.zero_le _, Nat.zero_le _⟩) hS (fun q _ h => h) (fun q h => h) (fun r45 u45 t H locs ht hvm q45 hB hz1 hk1 hS => ?_)
        obtain ⟨hP, -, hD⟩ := hB
        rw [ht] at hP
        have hP : va_P D vwCl (mw M cZ cI (nI 2) (enc (root T)) (nI (siz T)) mo ti dr st ma isIn lf rt wy rw) H := hP
        have hD : va_D A (mw M cZ cI (nI 2) (enc (root T)) (nI (siz T)) mo ti dr st ma isIn lf rt wy rw) := hD
        subst q45
        have eK : kC (nI h0) (nI h1) T = 2 := (if_pos (hiB_nI hh0)).trans ((if_pos (hiB_nI hh1)).trans (if_neg (by rw [kx_nI (by omega)]; exact hm0)))
        exact W.iret (v := (nI 0)) hx hb hr (fun t ht hW => ⟨⟨_, (st, ma, isIn, lf, rt, wy, rw), rfl, ⟨fun q => absurd (eK.symm.trans q) (by decide), hrep⟩, by rw [eK, ht]; exact hP, hG.moved hW, by rw [eK]; exact hD⟩, hS.F ht⟩) hS.2.2 dX2_captain_48
      · have hm0 : h0 ∈ keysT T := of_decide_eq_true (b2i_ne c31)
        refine lv_aload_n hx hb dX2_captain_34 rfl (lv_at hl 0 rfl) ?_
        refine va_get (D := D) (ci := 2) (v := .ref M.2.1) (C := RX2) (T := TX2) (N := 13) hx hb hts (by decide +kernel) hown hG.1 hP 0 mw_m rfl 6 (by decide) (hts (.fieldLink RX2 13 "LopsidedRanksModel" "isIn" "[Z") (by decide +kernel)) (fun _ h9 => h9) rfl dX2_captain_35 ?_
        refine lv_iload_n hx hb dX2_captain_38 rfl (lv_at hl 2 rfl) ?_
        refine zr_zald hx hb hG.1 hP 1 1 mw_i rfl (k := h1) (by omega) (Nat.le_of_ble_eq_true rfl) dX2_captain_39 ?_
        refine zr_eqi (hi h1 hh1) ?_
        refine lv_if_ne (tgt := 49) hx hb dX2_captain_40 (by decide) (fun c40 => ?_) (fun c40 => ?_)
        · have hm1 : h1 ∈ keysT T := of_decide_eq_true (b2i_ne c40)
          refine lv_aload_n hx hb dX2_captain_49 rfl (lv_at hl 0 rfl) ?_
          refine va_get (D := D) (ci := 2) (v := .int (enc (root T))) (C := RX2) (T := TX2) (N := 13) hx hb hts (by decide +kernel) hown hG.1 hP 0 mw_m rfl 1 (by decide) (hts (.fieldLink RX2 9 "LopsidedRanksModel" "top" "I") (by decide +kernel)) (fun _ h9 => h9) rfl dX2_captain_50 ?_
          refine lv_istore_n (lv' := [(3, .int (enc (root T))), (0, .ref M.1), (1, .int (nI h0)), (2, .int (nI h1))]) hx hb dX2_captain_53 rfl hl (by decide) rfl (fun ls hl => ?_)
          have hl : lv_has ls 4 [(3, .int (enc (root T))), (0, .ref M.1), (1, .int (nI h0)), (2, .int (nI h1))] := lv_sub hl [0, 1, 2, 3] rfl
          refine L_X2_captain hx hb hml hts hown hG hP ⟨Nat.le_of_ble_eq_true rfl, Nat.le_of_ble_eq_true rfl⟩ ⟨Nat.zero_le _, Nat.zero_le _⟩ hh0 hh1 (t := T) hb0 hs hin0 hm0 hm1 (fun ls hl => ?_) _ hl
          refine lv_iload_n hx hb dX2_captain_96 rfl (lv_at hl 0 rfl) ?_
          have eK : kC (nI h0) (nI h1) T = 0 := (if_pos (hiB_nI hh0)).trans ((if_pos (hiB_nI hh1)).trans ((if_pos (by rw [kx_nI (by omega)]; exact hm0)).trans (if_pos (by rw [kx_nI (by omega)]; exact hm1))))
          exact W.iret (v := (enc (lca (min h0 h1) (max h0 h1) T))) hx hb hr (fun t ht hW => ⟨⟨_, (st, ma, isIn, lf, rt, wy, rw), rfl, ⟨fun _ => by rw [kx_nI (by omega), kx_nI (by omega)], hrep⟩, by rw [eK, ht]; exact hP, hG.moved hW, by rw [eK]; exact hD⟩, hS.F ht⟩) hS.2.2 dX2_captain_97
        · have hm1 : ¬ h1 ∈ keysT T := fun q => b2i_eq c40 (decide_eq_true q)
          refine lv_aload_n hx hb dX2_captain_43 rfl (lv_at hl 0 rfl) ?_
          refine lv_iconst (v := nI 2) hx hb dX2_captain_44 (by decide) ?_
          refine va_calli (va_runV (As := [.int (nI 2)]) (rest := []) ⟨hx, hb, hml, hown, hts⟩ (c_X2_no l) (cwV 1 hts gX2_captain_X2_no rfl rfl rfl (by decide +kernel) ⟨Nat.le_of_ble_eq_true rfl, Nat.le_of_ble_eq_true rfl⟩) ⟨PcM.blind, va_recv hG.1 hP (ci := 2) (q0 := 0) rfl mw_m, PcM.at (fun q h => hA q (Nat.le_trans hS.1 h)) hP hG hD⟩ rfl rfl hl.1 rfl (lv_room (Nat.le_of_ble_eq_true rfl)) dX2_captain_45 ⟨Nat.zero_le _, Nat.zero_le _⟩) hS (fun q _ h => h) (fun q h => h) (fun r45 u45 t H locs ht hvm q45 hB hz1 hk1 hS => ?_)
          obtain ⟨hP, -, hD⟩ := hB
          rw [ht] at hP
          have hP : va_P D vwCl (mw M cZ cI (nI 2) (enc (root T)) (nI (siz T)) mo ti dr st ma isIn lf rt wy rw) H := hP
          have hD : va_D A (mw M cZ cI (nI 2) (enc (root T)) (nI (siz T)) mo ti dr st ma isIn lf rt wy rw) := hD
          subst q45
          have eK : kC (nI h0) (nI h1) T = 2 := (if_pos (hiB_nI hh0)).trans ((if_pos (hiB_nI hh1)).trans ((if_pos (by rw [kx_nI (by omega)]; exact hm0)).trans (if_neg (by rw [kx_nI (by omega)]; exact hm1))))
          exact W.iret (v := (nI 0)) hx hb hr (fun t ht hW => ⟨⟨_, (st, ma, isIn, lf, rt, wy, rw), rfl, ⟨fun q => absurd (eK.symm.trans q) (by decide), hrep⟩, by rw [eK, ht]; exact hP, hG.moved hW, by rw [eK]; exact hD⟩, hS.F ht⟩) hS.2.2 dX2_captain_48
    · have hno : hiB x1 = false := Bool.eq_false_iff.mpr (b2i_eq c16)
      refine lv_aload_n hx hb dX2_captain_19 rfl (lv_at hl 0 rfl) ?_
      refine lv_iconst (v := nI 1) hx hb dX2_captain_20 (by decide) ?_
      refine va_calli (va_runV (As := [.int (nI 1)]) (rest := []) ⟨hx, hb, hml, hown, hts⟩ (c_X2_no l) (cwV 1 hts gX2_captain_X2_no rfl rfl rfl (by decide +kernel) ⟨Nat.le_of_ble_eq_true rfl, Nat.le_of_ble_eq_true rfl⟩) ⟨PcM.blind, va_recv hG.1 hP (ci := 2) (q0 := 0) rfl mw_m, PcM.at (fun q h => hA q (Nat.le_trans hS.1 h)) hP hG hD⟩ rfl rfl hl.1 rfl (lv_room (Nat.le_of_ble_eq_true rfl)) dX2_captain_21 ⟨Nat.zero_le _, Nat.zero_le _⟩) hS (fun q _ h => h) (fun q h => h) (fun r21 u21 t H locs ht hvm q21 hB hz1 hk1 hS => ?_)
      obtain ⟨hP, -, hD⟩ := hB
      rw [ht] at hP
      have hP : va_P D vwCl (mw M cZ cI (nI 1) (enc (root T)) (nI (siz T)) mo ti dr st ma isIn lf rt wy rw) H := hP
      have hD : va_D A (mw M cZ cI (nI 1) (enc (root T)) (nI (siz T)) mo ti dr st ma isIn lf rt wy rw) := hD
      subst q21
      have eK : kC (nI h0) x1 T = 1 := (if_pos (hiB_nI hh0)).trans (if_neg (by rw [hno]; decide))
      exact W.iret (v := (nI 0)) hx hb hr (fun t ht hW => ⟨⟨_, (st, ma, isIn, lf, rt, wy, rw), rfl, ⟨fun q => absurd (eK.symm.trans q) (by decide), hrep⟩, by rw [eK, ht]; exact hP, hG.moved hW, by rw [eK]; exact hD⟩, hS.F ht⟩) hS.2.2 dX2_captain_24

set_option maxHeartbeats 4000000 in
set_option maxRecDepth 100000 in
/-- mean -/
theorem c_X2_mean (l : Launch) {D : va_G} {cA cZ cI : ClassId} {M : Nat × Nat × Nat × Nat × Nat × Nat} {th mo ti dr st ma : Int32} {isIn lf rt wy rw : Nat → Int32} {A : Nat → Prop} {T : Tr} (hrep : RepM T isIn lf rt) : Met l yX2_mean wsX2_mean ({ frames := 170, cells := 0, slots := 0, locals := 6800 } : Room) (PcM D (tysA cA cZ cI) A (mw M cZ cI th (enc (root T)) (nI (siz T)) mo ti dr st ma isIn lf rt wy rw) [.ref M.1]) (va_Qd (S := ME) (fun r u => (0 = 0 → r = mnT T) ∧ RepM (T, mo, ti, dr).1 u.2.2.1 u.2.2.2.1 u.2.2.2.2.1) (fun u => BM D (tysA cA cZ cI) A (mw M cZ cI (nI (0)) (enc (root (T, mo, ti, dr).1)) (nI (siz (T, mo, ti, dr).1)) ((T, mo, ti, dr).2.1) ((T, mo, ti, dr).2.2.1) ((T, mo, ti, dr).2.2.2) u.1 u.2.1 u.2.2.1 u.2.2.2.1 u.2.2.2.2.1 u.2.2.2.2.2.1 u.2.2.2.2.2.2)) A) 0 0 A := by
  refine Met.ofW (cc := cX2_mean) (maxL := 1) (ret := (some .double)) (by decide) rfl ?_
  intro p e s m args below meth c s₁ B hml hv
  obtain ⟨rfl, hA, hP, hG, hD⟩ := hv
  have hx := B.exec
  have hb := B.bytes
  have hr := B.returns
  have hts := atoms_spec (ws := wsX2_mean) B.pre
  have hown : s.vm.findClass RX2 = some m.cls := findClass_of_methodNamed B.named
  have hlocks := B.notSynchronized
  have hl := lv_entry ([.ref M.1]) (n := 1) (Nat.le_of_ble_eq_true rfl)
  rw [lg_entry_eq]
  generalize (lg_sl ([.ref M.1]) ++ List.replicate (1 - (lg_sl ([.ref M.1])).length) Slot.unset).toArray = ls at hl ⊢
  have hl : lv_has ls 1 [(0, .ref M.1)] := hl
  have hS : va_S A s.heap s.heap [] := va_S.rf
  obtain ⟨hb0, hin0, hsz, hs, hi⟩ := id hrep
  have hgs := hgt_siz (T := T)
  have hdl := dps_le hb0 hsz
  refine lv_aload_n hx hb dX2_mean_0 rfl (lv_at hl 0 rfl) ?_
  refine lv_iconst (v := nI 0) hx hb dX2_mean_1 (by decide) ?_
  refine va_put (D := D) (ci := 2) (v := .int (nI 0)) (ty := .int) (C := RX2) (T := TX2) (N := 13) hx hb hts (by decide +kernel) tyX2 tyX2_ok nmX2 hown hG.1 hP hD hS 0 mw_m rfl 0 (by decide) (hts (.fieldLink RX2 30 "LopsidedRanksModel" "thrown" "I") (by decide +kernel)) (fun _ h9 => h9) rfl (by decide +kernel) rfl rfl (Nat.le_of_ble_eq_true rfl) dX2_mean_2 (fun H locs hP hD hS => ?_)
  have hP : va_P D vwCl (mw M cZ cI ((nI 0)) (enc (root T)) (nI (siz T)) mo ti dr st ma isIn lf rt wy rw) H := hP
  have hD : va_D A (mw M cZ cI ((nI 0)) (enc (root T)) (nI (siz T)) mo ti dr st ma isIn lf rt wy rw) := hD
  refine lv_aload_n hx hb dX2_mean_5 rfl (lv_at hl 0 rfl) ?_
  refine va_get (D := D) (ci := 2) (v := .int (nI (siz T))) (C := RX2) (T := TX2) (N := 13) hx hb hts (by decide +kernel) hown hG.1 hP 0 mw_m rfl 2 (by decide) (hts (.fieldLink RX2 90 "LopsidedRanksModel" "soldiers" "I") (by decide +kernel)) (fun _ h9 => h9) rfl dX2_mean_6 ?_
  refine lv_if_ne (tgt := 16) hx hb dX2_mean_9 (by decide) (fun c9 => ?_) (fun c9 => ?_)
  · replace c9 := (not_congr (zr_eq0 (by omega))).mp c9
    refine lv_aload_n hx hb dX2_mean_16 rfl (lv_at hl 0 rfl) ?_
    refine lv_aload_n hx hb dX2_mean_17 rfl (lv_at hl 0 rfl) ?_
    refine va_get (D := D) (ci := 2) (v := .int (enc (root T))) (C := RX2) (T := TX2) (N := 13) hx hb hts (by decide +kernel) hown hG.1 hP 0 mw_m rfl 1 (by decide) (hts (.fieldLink RX2 9 "LopsidedRanksModel" "top" "I") (by decide +kernel)) (fun _ h9 => h9) rfl dX2_mean_18 ?_
    refine lv_iconst (v := nI 0) hx hb dX2_mean_21 (by decide) ?_
    refine vp_callSl (va_Run.run (va_runV (As := [.int (enc (root T)), .int (nI 0)]) (rest := []) ⟨hx, hb, hml, hown, hts⟩ (c_X2_depthsIn l (t := T) (d := 150) (dep := 0) hs hin0 (by omega) (by omega)) (cwV 2 hts gX2_mean_X2_depthsIn rfl rfl rfl (by decide +kernel) ⟨Nat.le_of_ble_eq_true rfl, Nat.le_of_ble_eq_true rfl⟩) ⟨PcR.blind, va_recv hG.1 hP (ci := 2) (q0 := 0) rfl mw_m, PcR.at hP hG⟩ rfl rfl hl.1 rfl (lv_room (Nat.le_of_ble_eq_true rfl)) dX2_mean_22 ⟨Nat.zero_le _, Nat.zero_le _⟩)) (fun r22 q22 => ?_)
    subst q22
    refine lv_l2d hx hb dX2_mean_25 ?_
    refine lv_aload_n hx hb dX2_mean_26 rfl (lv_at hl 0 rfl) ?_
    refine va_get (D := D) (ci := 2) (v := .int (nI (siz T))) (C := RX2) (T := TX2) (N := 13) hx hb hts (by decide +kernel) hown hG.1 hP 0 mw_m rfl 2 (by decide) (hts (.fieldLink RX2 90 "LopsidedRanksModel" "soldiers" "I") (by decide +kernel)) (fun _ h9 => h9) rfl dX2_mean_27 ?_
    refine lv_i2d hx hb dX2_mean_30 ?_
    refine lv_ddiv hx hb dX2_mean_31 (n64_div (Jvm.FP.Core.l2d_fin _) (Jvm.FP.Core.i2d_fin _) (Jvm.FP.Core.i2d_ne_zero (nI_ne0 (by omega) (by omega)))) ?_
    exact W.dret (v := FP.ddiv (FP.l2d (lN (dps 0 T))) (FP.i2d (nI (siz T)))) hx hb hr (fun t ht hW => ⟨⟨_, (st, ma, isIn, lf, rt, wy, rw), rfl, ⟨fun _ => (by unfold mnT; rw [if_neg c9, show FP.i2d (nI (dps 0 T)) = FP.l2d (nI (dps 0 T)).toInt64 from Jvm.FP.Core.i2d_l2d _, nI_l (by omega)]), hrep⟩, by rw [ht]; exact hP, hG.moved hW, hD⟩, hS.F ht⟩) hS.2.2 dX2_mean_32
  · replace c9 := (zr_eq0 (by omega)).mp c9
    refine lv_dconst0 hx hb dX2_mean_12 ?_
    refine lv_goto (tgt := 32) hx hb dX2_mean_13 (by decide) ?_
    exact W.dret (v := FP.dconst0) hx hb hr (fun t ht hW => ⟨⟨_, (st, ma, isIn, lf, rt, wy, rw), rfl, ⟨fun _ => (if_pos c9).symm, hrep⟩, by rw [ht]; exact hP, hG.moved hW, hD⟩, hS.F ht⟩) hS.2.2 dX2_mean_32

