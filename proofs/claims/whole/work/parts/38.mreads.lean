/-! THE REFERENCE's calls that read -/
def hqB (x : Int32) : Bool := !(decide (x < 0) || decide (7 < x))
theorem hqB_t {x : Int32} (h : ¬ oddQ x) : hqB x = true := by
  unfold hqB
  rw [decide_eq_false (fun q => h (Or.inl q)), decide_eq_false (fun q => h (Or.inr q))]
  rfl
theorem hqB_f {x : Int32} (h : oddQ x) : hqB x = false := by
  unfold hqB
  rcases h with q | q
  · rw [decide_eq_true q]; rfl
  · rw [decide_eq_true q, Bool.or_true]; rfl
def kH (x : Int32) : Nat := if hiB x = true then 0 else 1
def kT (x y : Int32) (T : Tr) : Nat := if hiB x = true then (if hqB y = true then (if kx x ∈ keysT T then 0 else 3) else 2) else 1
def kA (x : Int32) (T : Tr) : Nat := if x < 0 then 1 else if (keysT T)[kx x]? = none then 1 else 0
def kB (x y : Int32) : Nat := if hiB x = true then (if hiB y = true then 0 else 1) else 1
def kC (x y : Int32) (T : Tr) : Nat := if hiB x = true then (if hiB y = true then (if kx x ∈ keysT T then (if kx y ∈ keysT T then 0 else 2) else 2) else 1) else 1
def kQ (x : Int32) : Nat := if hqB x = true then 0 else 1
theorem kH_1 {x : Int32} (h : hiB x = false) : kH x = 1 := if_neg (by rw [h]; decide)
theorem kH_0 {j : Nat} (h : j < 1000) : kH (nI j) = 0 := if_pos (hiB_nI h)
theorem b2i_c {b c : Bool} (h : b = c) : b2i b = b2i c := congrArg b2i h
set_option maxHeartbeats 4000000 in
set_option maxRecDepth 100000 in
/-- isThere -/
theorem c_X2_isThere (l : Launch) {D : va_G} {cA cZ cI : ClassId} {M : Nat × Nat × Nat × Nat × Nat × Nat} {th mo ti dr st ma : Int32} {isIn lf rt wy rw : Nat → Int32} {A : Nat → Prop} {T : Tr} {x0 : Int32} (hrep : RepM T isIn lf rt) : Met l yX2_isThere wsX2_isThere ({ frames := 170, cells := 0, slots := 0, locals := 6800 } : Room) (PcM D (tysA cA cZ cI) A (mw M cZ cI th (enc (root T)) (nI (siz T)) mo ti dr st ma isIn lf rt wy rw) [.ref M.1, .int x0]) (va_Qi (S := ME) (fun r u => ((kH x0) = 0 → r = b2i (decide (kx x0 ∈ keysT T))) ∧ RepM (T, mo, ti, dr).1 u.2.2.1 u.2.2.2.1 u.2.2.2.2.1) (fun u => BM D (tysA cA cZ cI) A (mw M cZ cI (nI (kH x0)) (enc (root (T, mo, ti, dr).1)) (nI (siz (T, mo, ti, dr).1)) ((T, mo, ti, dr).2.1) ((T, mo, ti, dr).2.2.1) ((T, mo, ti, dr).2.2.2) u.1 u.2.1 u.2.2.1 u.2.2.2.1 u.2.2.2.2.1 u.2.2.2.2.2.1 u.2.2.2.2.2.2)) A) 0 0 A := by
  refine Met.ofW (cc := cX2_isThere) (maxL := 2) (ret := (some .boolean)) (by decide) rfl ?_
  intro p e s m args below meth c s₁ B hml hv
  obtain ⟨rfl, hA, hP, hG, hD⟩ := hv
  have hx := B.exec
  have hb := B.bytes
  have hr := B.returns
  have hts := atoms_spec (ws := wsX2_isThere) B.pre
  have hown : s.vm.findClass RX2 = some m.cls := findClass_of_methodNamed B.named
  have hlocks := B.notSynchronized
  have hl := lv_entry ([.ref M.1, .int x0]) (n := 2) (Nat.le_of_ble_eq_true rfl)
  rw [lg_entry_eq]
  generalize (lg_sl ([.ref M.1, .int x0]) ++ List.replicate (2 - (lg_sl ([.ref M.1, .int x0])).length) Slot.unset).toArray = ls at hl ⊢
  have hl : lv_has ls 2 [(0, .ref M.1), (1, .int x0)] := hl
  have hS : va_S A s.heap s.heap [] := va_S.rf
  obtain ⟨hb0, hin0, hsz, hs, hi⟩ := id hrep
  have hgs := hgt_siz (T := T)
  refine lv_aload_n hx hb dX2_isThere_0 rfl (lv_at hl 0 rfl) ?_
  refine lv_iload_n hx hb dX2_isThere_1 rfl (lv_at hl 1 rfl) ?_
  refine vp_callSi (va_Run.run (va_runS (As := [.int x0]) (rest := [.ref M.1]) ⟨hx, hb, hml, hown, hts⟩ (c_X2_isHeight l) (va_cwS 1 hts gX2_isThere_X2_isHeight rfl rfl rfl (by decide +kernel) ⟨Nat.le_of_ble_eq_true rfl, Nat.le_of_ble_eq_true rfl⟩) ⟨PcT.blind, PcT.at⟩ rfl rfl hl.1 rfl (lv_room (Nat.le_of_ble_eq_true rfl)) dX2_isThere_2 ⟨Nat.zero_le _, Nat.zero_le _⟩)) (fun r2 q2 => ?_)
  subst q2
  refine lv_if_eq (tgt := 12) hx hb dX2_isThere_5 (by decide) (fun c5 => ?_) (fun c5 => ?_)
  · have hno : hiB x0 = false := Bool.eq_false_iff.mpr (b2i_eq c5)
    refine lv_iconst (v := nI 1) hx hb dX2_isThere_12 (by decide) ?_
    refine va_put (D := D) (ci := 2) (v := .int (nI 1)) (ty := .int) (C := RX2) (T := TX2) (N := 13) hx hb hts (by decide +kernel) tyX2 tyX2_ok nmX2 hown hG.1 hP hD hS 0 mw_m rfl 0 (by decide) (hts (.fieldLink RX2 30 "LopsidedRanksModel" "thrown" "I") (by decide +kernel)) (fun _ h9 => h9) rfl (by decide +kernel) rfl rfl (Nat.le_of_ble_eq_true rfl) dX2_isThere_13 (fun H locs hP hD hS => ?_)
    have hP : va_P D vwCl (mw M cZ cI ((nI 1)) (enc (root T)) (nI (siz T)) mo ti dr st ma isIn lf rt wy rw) H := hP
    have hD : va_D A (mw M cZ cI ((nI 1)) (enc (root T)) (nI (siz T)) mo ti dr st ma isIn lf rt wy rw) := hD
    refine lv_aload_n hx hb dX2_isThere_16 rfl (lv_at hl 0 rfl) ?_
    refine va_get (D := D) (ci := 2) (v := .int ((nI 1))) (C := RX2) (T := TX2) (N := 13) hx hb hts (by decide +kernel) hown hG.1 hP 0 mw_m rfl 0 (by decide) (hts (.fieldLink RX2 30 "LopsidedRanksModel" "thrown" "I") (by decide +kernel)) (fun _ h9 => h9) rfl dX2_isThere_17 ?_
    refine lv_if_ne (tgt := 36) hx hb dX2_isThere_20 (by decide) (fun c20 => ?_) (fun c20 => ?_)
    · replace c20 := (not_congr (zr_eq0 (by omega))).mp c20
      refine lv_iconst (v := nI 0) hx hb dX2_isThere_36 (by decide) ?_
      have eK : kH x0 = 1 := kH_1 hno
      exact W.zret (v := (nI 0)) hx hb hr rfl (fun t ht hW => ⟨⟨_, (st, ma, isIn, lf, rt, wy, rw), rfl, ⟨fun q => absurd (eK.symm.trans q) (by decide), hrep⟩, by rw [eK, ht]; exact hP, hG.moved hW, by rw [eK]; exact hD⟩, hS.F ht⟩) hS.2.2 dX2_isThere_37
    · replace c20 := (zr_eq0 (by omega)).mp c20
      exact absurd c20 (by decide)
  · obtain ⟨h0, hh0, rfl⟩ := hiB_not (b2i_ne c5)
    have hl : lv_has ls 2 [(0, .ref M.1), (1, .int (nI h0))] := hl
    refine lv_iconst (v := nI 0) hx hb dX2_isThere_8 (by decide) ?_
    refine lv_goto (tgt := 13) hx hb dX2_isThere_9 (by decide) ?_
    refine va_put (D := D) (ci := 2) (v := .int (nI 0)) (ty := .int) (C := RX2) (T := TX2) (N := 13) hx hb hts (by decide +kernel) tyX2 tyX2_ok nmX2 hown hG.1 hP hD hS 0 mw_m rfl 0 (by decide) (hts (.fieldLink RX2 30 "LopsidedRanksModel" "thrown" "I") (by decide +kernel)) (fun _ h9 => h9) rfl (by decide +kernel) rfl rfl (Nat.le_of_ble_eq_true rfl) dX2_isThere_13 (fun H locs hP hD hS => ?_)
    have hP : va_P D vwCl (mw M cZ cI ((nI 0)) (enc (root T)) (nI (siz T)) mo ti dr st ma isIn lf rt wy rw) H := hP
    have hD : va_D A (mw M cZ cI ((nI 0)) (enc (root T)) (nI (siz T)) mo ti dr st ma isIn lf rt wy rw) := hD
    refine lv_aload_n hx hb dX2_isThere_16 rfl (lv_at hl 0 rfl) ?_
    refine va_get (D := D) (ci := 2) (v := .int ((nI 0))) (C := RX2) (T := TX2) (N := 13) hx hb hts (by decide +kernel) hown hG.1 hP 0 mw_m rfl 0 (by decide) (hts (.fieldLink RX2 30 "LopsidedRanksModel" "thrown" "I") (by decide +kernel)) (fun _ h9 => h9) rfl dX2_isThere_17 ?_
    refine lv_if_ne (tgt := 36) hx hb dX2_isThere_20 (by decide) (fun c20 => ?_) (fun c20 => ?_)
    · replace c20 := (not_congr (zr_eq0 (by omega))).mp c20
      exact absurd c20 (by decide)
    · replace c20 := (zr_eq0 (by omega)).mp c20
      refine lv_aload_n hx hb dX2_isThere_23 rfl (lv_at hl 0 rfl) ?_
      refine va_get (D := D) (ci := 2) (v := .ref M.2.1) (C := RX2) (T := TX2) (N := 13) hx hb hts (by decide +kernel) hown hG.1 hP 0 mw_m rfl 6 (by decide) (hts (.fieldLink RX2 13 "LopsidedRanksModel" "isIn" "[Z") (by decide +kernel)) (fun _ h9 => h9) rfl dX2_isThere_24 ?_
      refine lv_iload_n hx hb dX2_isThere_27 rfl (lv_at hl 1 rfl) ?_
      refine zr_zald hx hb hG.1 hP 1 1 mw_i rfl (k := h0) (by omega) (Nat.le_of_ble_eq_true rfl) dX2_isThere_28 ?_
      refine zr_eqi (hi h0 hh0) ?_
      refine lv_if_eq (tgt := 36) hx hb dX2_isThere_29 (by decide) (fun c29 => ?_) (fun c29 => ?_)
      · have hm : ¬ h0 ∈ keysT T := fun q => b2i_eq c29 (decide_eq_true q)
        refine lv_iconst (v := nI 0) hx hb dX2_isThere_36 (by decide) ?_
        have eK : kH (nI h0) = 0 := kH_0 hh0
        exact W.zret (v := (nI 0)) hx hb hr rfl (fun t ht hW => ⟨⟨_, (st, ma, isIn, lf, rt, wy, rw), rfl, ⟨fun _ => by rw [kx_nI (by omega), decide_eq_false hm]; rfl, hrep⟩, by rw [eK, ht]; exact hP, hG.moved hW, by rw [eK]; exact hD⟩, hS.F ht⟩) hS.2.2 dX2_isThere_37
      · have hm : h0 ∈ keysT T := of_decide_eq_true (b2i_ne c29)
        refine lv_iconst (v := nI 1) hx hb dX2_isThere_32 (by decide) ?_
        refine lv_goto (tgt := 37) hx hb dX2_isThere_33 (by decide) ?_
        have eK : kH (nI h0) = 0 := kH_0 hh0
        exact W.zret (v := (nI 1)) hx hb hr rfl (fun t ht hW => ⟨⟨_, (st, ma, isIn, lf, rt, wy, rw), rfl, ⟨fun _ => by rw [kx_nI (by omega), decide_eq_true hm]; rfl, hrep⟩, by rw [eK, ht]; exact hP, hG.moved hW, by rw [eK]; exact hD⟩, hS.F ht⟩) hS.2.2 dX2_isThere_37

set_option maxHeartbeats 4000000 in
set_option maxRecDepth 100000 in
/-- toldOf(h, what), of one who is there -/
theorem c_X2_toldOf (l : Launch) {D : va_G} {cA cZ cI : ClassId} {M : Nat × Nat × Nat × Nat × Nat × Nat} {th mo ti dr st ma : Int32} {isIn lf rt wy rw : Nat → Int32} {A : Nat → Prop} {T : Tr} {h w0 : Nat} (hrep : RepM T isIn lf rt) (hm : h ∈ keysT T) (hw0 : w0 ≤ 7) : Met l yX2_toldOf wsX2_toldOf ({ frames := 160, cells := 0, slots := 0, locals := 6400 } : Room) (PcM D (tysA cA cZ cI) A (mw M cZ cI th (enc (root T)) (nI (siz T)) mo ti dr st ma isIn lf rt wy rw) [.ref M.1, .int (nI h), .int (nI w0)]) (va_Qi (S := Nat → Int32) (fun r u => r = tellT T h w0) (fun u => BM D (tysA cA cZ cI) A (mw M cZ cI th (enc (root T)) (nI (siz T)) mo ti dr (nI ((wayT h T).length)) ma isIn lf rt u rw)) A) 0 0 A := by
  refine Met.ofW (cc := cX2_toldOf) (maxL := 3) (ret := (some .int)) (by decide) rfl ?_
  intro p e s m args below meth c s₁ B hml hv
  obtain ⟨rfl, hA, hP, hG, hD⟩ := hv
  have hx := B.exec
  have hb := B.bytes
  have hr := B.returns
  have hts := atoms_spec (ws := wsX2_toldOf) B.pre
  have hown : s.vm.findClass RX2 = some m.cls := findClass_of_methodNamed B.named
  have hlocks := B.notSynchronized
  have hl := lv_entry ([.ref M.1, .int (nI h), .int (nI w0)]) (n := 3) (Nat.le_of_ble_eq_true rfl)
  rw [lg_entry_eq]
  generalize (lg_sl ([.ref M.1, .int (nI h), .int (nI w0)]) ++ List.replicate (3 - (lg_sl ([.ref M.1, .int (nI h), .int (nI w0)])).length) Slot.unset).toArray = ls at hl ⊢
  have hl : lv_has ls 3 [(0, .ref M.1), (1, .int (nI h)), (2, .int (nI w0))] := hl
  have hS : va_S A s.heap s.heap [] := va_S.rf
  obtain ⟨hb0, hin0, hsz, hs, hi⟩ := id hrep
  have hh := hin0 h hm
  have hgs := hgt_siz (T := T)
  have hss := sub_siz (h := h) (T := T)
  obtain ⟨sz, v, tl, tr, esub, p1, p2, p3, p4⟩ := hrep.at hm
  have hsh := ShM_sub (h := h) hs
  rw [esub] at hss hsh
  have hlo : Low (.inner sz h v tl tr) := fun j hj => hin0 j (subT_sub (h := h) (by rw [esub]; exact hj))
  have hgi := hgt_siz (T := .inner sz h v tl tr)
  have hgl := hgt_siz (T := tl)
  have hgr := hgt_siz (T := tr)
  simp only [siz] at hss hgi
  refine lv_aload_n hx hb dX2_toldOf_0 rfl (lv_at hl 0 rfl) ?_
  refine lv_iload_n hx hb dX2_toldOf_1 rfl (lv_at hl 1 rfl) ?_
  refine va_callv (va_runV (As := [.int (nI h)]) (rest := []) ⟨hx, hb, hml, hown, hts⟩ (c_X2_goTo l (T := T) hh hs hin0 (by omega)) (cwV 1 hts gX2_toldOf_X2_goTo rfl rfl rfl (by decide +kernel) ⟨Nat.le_of_ble_eq_true rfl, Nat.le_of_ble_eq_true rfl⟩) ⟨PcM.blind, va_recv hG.1 hP (ci := 2) (q0 := 0) rfl mw_m, PcM.at (fun q h => hA q (Nat.le_trans hS.1 h)) hP hG hD⟩ rfl rfl hl.1 rfl (lv_room (Nat.le_of_ble_eq_true rfl)) dX2_toldOf_2 ⟨Nat.zero_le _, Nat.zero_le _⟩) hS (fun q _ h => h) (fun q h => h) (fun wy9 t H locs ht hvm q2 hB hz1 hk1 hS => ?_)
  obtain ⟨hP, -, hD⟩ := hB
  rw [ht] at hP
  have hP : va_P D vwCl (mw M cZ cI th (enc (root T)) (nI (siz T)) mo ti dr (nI ((wayT h T).length)) ma isIn lf rt wy9 rw) H := hP
  have hD : va_D A (mw M cZ cI th (enc (root T)) (nI (siz T)) mo ti dr (nI ((wayT h T).length)) ma isIn lf rt wy9 rw) := hD
  obtain ⟨wl, wa, wb⟩ := way_above hb0 hm q2
  have hal := anc_len (h := h) (T := T)
  rcases (show w0 = 0 ∨ w0 = 1 ∨ w0 = 2 ∨ w0 = 3 ∨ w0 = 4 ∨ w0 = 5 ∨ w0 = 6 ∨ w0 = 7 by omega) with rfl | rfl | rfl | rfl | rfl | rfl | rfl | rfl
  · refine lv_iload_n hx hb dX2_toldOf_5 rfl (lv_at hl 2 rfl) ?_
    refine lv_tableIn (off := 42) (tgt := 48) hx hb dX2_toldOf_6 (by decide) (by decide) (by decide +kernel) (by decide) ?_
    refine lv_aload_n hx hb dX2_toldOf_48 rfl (lv_at hl 0 rfl) ?_
    refine va_get (D := D) (ci := 2) (v := .int (nI ((wayT h T).length))) (C := RX2) (T := TX2) (N := 13) hx hb hts (by decide +kernel) hown hG.1 hP 0 mw_m rfl 10 (by decide) (hts (.fieldLink RX2 33 "LopsidedRanksModel" "steps" "I") (by decide +kernel)) (fun _ h9 => h9) rfl dX2_toldOf_49 ?_
    refine lv_iconst (v := nI 1) hx hb dX2_toldOf_52 (by decide) ?_
    refine lv_isub hx hb dX2_toldOf_53 ?_
    refine zr_eqi (pk_sub (a := (wayT h T).length) (b := 1) (by omega)) ?_
    exact W.iret (v := (nI (((wayT h T).length) - 1))) hx hb hr (fun t ht hW => ⟨⟨_, wy9, rfl, congrArg nI (by omega), by rw [ht]; exact hP, hG.moved hW, hD⟩, hS.F ht⟩) hS.2.2 dX2_toldOf_54
  · refine lv_iload_n hx hb dX2_toldOf_5 rfl (lv_at hl 2 rfl) ?_
    refine lv_tableIn (off := 49) (tgt := 55) hx hb dX2_toldOf_6 (by decide) (by decide) (by decide +kernel) (by decide) ?_
    refine lv_aload_n hx hb dX2_toldOf_55 rfl (lv_at hl 0 rfl) ?_
    refine va_get (D := D) (ci := 2) (v := .int (nI ((wayT h T).length))) (C := RX2) (T := TX2) (N := 13) hx hb hts (by decide +kernel) hown hG.1 hP 0 mw_m rfl 10 (by decide) (hts (.fieldLink RX2 33 "LopsidedRanksModel" "steps" "I") (by decide +kernel)) (fun _ h9 => h9) rfl dX2_toldOf_56 ?_
    refine lv_iconst (v := nI 1) hx hb dX2_toldOf_59 (by decide) ?_
    refine lv_icmp_le (tgt := 77) hx hb dX2_toldOf_60 (by decide) (fun c60 => ?_) (fun c60 => ?_)
    · rw [nI_leI (by omega) (by omega)] at c60
      refine lv_iconst (v := (-1)) hx hb dX2_toldOf_77 (by decide) ?_
      exact W.iret (v := (-1)) hx hb hr (fun t ht hW => ⟨⟨_, wy9, rfl, (wa (by omega)).symm, by rw [ht]; exact hP, hG.moved hW, hD⟩, hS.F ht⟩) hS.2.2 dX2_toldOf_78
    · rw [nI_leI (by omega) (by omega)] at c60
      refine lv_aload_n hx hb dX2_toldOf_63 rfl (lv_at hl 0 rfl) ?_
      refine va_get (D := D) (ci := 2) (v := .ref M.2.2.2.2.1) (C := RX2) (T := TX2) (N := 13) hx hb hts (by decide +kernel) hown hG.1 hP 0 mw_m rfl 9 (by decide) (hts (.fieldLink RX2 24 "LopsidedRanksModel" "way" "[I") (by decide +kernel)) (fun _ h9 => h9) rfl dX2_toldOf_64 ?_
      refine lv_aload_n hx hb dX2_toldOf_67 rfl (lv_at hl 0 rfl) ?_
      refine va_get (D := D) (ci := 2) (v := .int (nI ((wayT h T).length))) (C := RX2) (T := TX2) (N := 13) hx hb hts (by decide +kernel) hown hG.1 hP 0 mw_m rfl 10 (by decide) (hts (.fieldLink RX2 33 "LopsidedRanksModel" "steps" "I") (by decide +kernel)) (fun _ h9 => h9) rfl dX2_toldOf_68 ?_
      refine lv_iconst (v := nI 2) hx hb dX2_toldOf_71 (by decide) ?_
      refine lv_isub hx hb dX2_toldOf_72 ?_
      refine zr_eqi (pk_sub (a := (wayT h T).length) (b := 2) (by omega)) ?_
      refine zr_iald hx hb hG.1 hP 4 2 mw_w rfl (k := ((wayT h T).length) - 2) (by omega) (Nat.le_of_ble_eq_true rfl) dX2_toldOf_73 ?_
      refine lv_goto (tgt := 78) hx hb dX2_toldOf_74 (by decide) ?_
      exact W.iret (v := (wy9 (((wayT h T).length) - 2))) hx hb hr (fun t ht hW => ⟨⟨_, wy9, rfl, wb (by omega), by rw [ht]; exact hP, hG.moved hW, hD⟩, hS.F ht⟩) hS.2.2 dX2_toldOf_78
  · refine lv_iload_n hx hb dX2_toldOf_5 rfl (lv_at hl 2 rfl) ?_
    refine lv_tableIn (off := 73) (tgt := 79) hx hb dX2_toldOf_6 (by decide) (by decide) (by decide +kernel) (by decide) ?_
    refine lv_aload_n hx hb dX2_toldOf_79 rfl (lv_at hl 0 rfl) ?_
    refine va_get (D := D) (ci := 2) (v := .ref M.2.2.1) (C := RX2) (T := TX2) (N := 13) hx hb hts (by decide +kernel) hown hG.1 hP 0 mw_m rfl 7 (by decide) (hts (.fieldLink RX2 17 "LopsidedRanksModel" "left" "[I") (by decide +kernel)) (fun _ h9 => h9) rfl dX2_toldOf_80 ?_
    refine lv_iload_n hx hb dX2_toldOf_83 rfl (lv_at hl 1 rfl) ?_
    refine zr_iald hx hb hG.1 hP 2 2 mw_l rfl (k := h) (by omega) (Nat.le_of_ble_eq_true rfl) dX2_toldOf_84 ?_
    exact W.iret (v := (lf h)) hx hb hr (fun t ht hW => ⟨⟨_, wy9, rfl, p1.trans (show enc (root tl) = enc (rootL (subT h T)) by rw [esub]; rfl), by rw [ht]; exact hP, hG.moved hW, hD⟩, hS.F ht⟩) hS.2.2 dX2_toldOf_85
  · refine lv_iload_n hx hb dX2_toldOf_5 rfl (lv_at hl 2 rfl) ?_
    refine lv_tableIn (off := 80) (tgt := 86) hx hb dX2_toldOf_6 (by decide) (by decide) (by decide +kernel) (by decide) ?_
    refine lv_aload_n hx hb dX2_toldOf_86 rfl (lv_at hl 0 rfl) ?_
    refine va_get (D := D) (ci := 2) (v := .ref M.2.2.2.1) (C := RX2) (T := TX2) (N := 13) hx hb hts (by decide +kernel) hown hG.1 hP 0 mw_m rfl 8 (by decide) (hts (.fieldLink RX2 21 "LopsidedRanksModel" "right" "[I") (by decide +kernel)) (fun _ h9 => h9) rfl dX2_toldOf_87 ?_
    refine lv_iload_n hx hb dX2_toldOf_90 rfl (lv_at hl 1 rfl) ?_
    refine zr_iald hx hb hG.1 hP 3 2 mw_r rfl (k := h) (by omega) (Nat.le_of_ble_eq_true rfl) dX2_toldOf_91 ?_
    exact W.iret (v := (rt h)) hx hb hr (fun t ht hW => ⟨⟨_, wy9, rfl, p2.trans (show enc (root tr) = enc (rootR (subT h T)) by rw [esub]; rfl), by rw [ht]; exact hP, hG.moved hW, hD⟩, hS.F ht⟩) hS.2.2 dX2_toldOf_92
  · refine lv_iload_n hx hb dX2_toldOf_5 rfl (lv_at hl 2 rfl) ?_
    refine lv_tableIn (off := 87) (tgt := 93) hx hb dX2_toldOf_6 (by decide) (by decide) (by decide +kernel) (by decide) ?_
    refine lv_aload_n hx hb dX2_toldOf_93 rfl (lv_at hl 0 rfl) ?_
    refine lv_iload_n hx hb dX2_toldOf_94 rfl (lv_at hl 1 rfl) ?_
    refine vp_callSi (va_Run.run (va_runV (As := [.int (nI h)]) (rest := []) ⟨hx, hb, hml, hown, hts⟩ (c_X2_size l (t := (.inner sz h v tl tr : Tr)) (d := 150) hsh hlo (by omega)) (cwV 1 hts gX2_toldOf_X2_size rfl rfl rfl (by decide +kernel) ⟨Nat.le_of_ble_eq_true rfl, Nat.le_of_ble_eq_true rfl⟩) ⟨PcR.blind, va_recv hG.1 hP (ci := 2) (q0 := 0) rfl mw_m, PcR.at hP hG⟩ rfl rfl hl.1 rfl (lv_room (Nat.le_of_ble_eq_true rfl)) dX2_toldOf_95 ⟨Nat.zero_le _, Nat.zero_le _⟩)) (fun r95 q95 => ?_)
    subst q95
    exact W.iret (v := (nI (siz (.inner sz h v tl tr : Tr)))) hx hb hr (fun t ht hW => ⟨⟨_, wy9, rfl, show nI (siz (.inner sz h v tl tr : Tr)) = nI (siz (subT h T)) by rw [esub], by rw [ht]; exact hP, hG.moved hW, hD⟩, hS.F ht⟩) hS.2.2 dX2_toldOf_98
  · refine lv_iload_n hx hb dX2_toldOf_5 rfl (lv_at hl 2 rfl) ?_
    refine lv_tableIn (off := 93) (tgt := 99) hx hb dX2_toldOf_6 (by decide) (by decide) (by decide +kernel) (by decide) ?_
    refine lv_aload_n hx hb dX2_toldOf_99 rfl (lv_at hl 0 rfl) ?_
    refine lv_iload_n hx hb dX2_toldOf_100 rfl (lv_at hl 1 rfl) ?_
    refine vp_callSi (va_Run.run (va_runV (As := [.int (nI h)]) (rest := []) ⟨hx, hb, hml, hown, hts⟩ (c_X2_deep l (t := (.inner sz h v tl tr : Tr)) (d := 150) hsh hlo (by omega) (by omega)) (cwV 1 hts gX2_toldOf_X2_deep rfl rfl rfl (by decide +kernel) ⟨Nat.le_of_ble_eq_true rfl, Nat.le_of_ble_eq_true rfl⟩) ⟨PcR.blind, va_recv hG.1 hP (ci := 2) (q0 := 0) rfl mw_m, PcR.at hP hG⟩ rfl rfl hl.1 rfl (lv_room (Nat.le_of_ble_eq_true rfl)) dX2_toldOf_101 ⟨Nat.zero_le _, Nat.zero_le _⟩)) (fun r101 q101 => ?_)
    subst q101
    exact W.iret (v := (pd (hgt (.inner sz h v tl tr : Tr)))) hx hb hr (fun t ht hW => ⟨⟨_, wy9, rfl, show pd (hgt (.inner sz h v tl tr : Tr)) = nI (hgt (subT h T) - 1) by rw [esub]; simp only [hgt]; exact pd_s _, by rw [ht]; exact hP, hG.moved hW, hD⟩, hS.F ht⟩) hS.2.2 dX2_toldOf_104
  · refine lv_iload_n hx hb dX2_toldOf_5 rfl (lv_at hl 2 rfl) ?_
    refine lv_tableIn (off := 99) (tgt := 105) hx hb dX2_toldOf_6 (by decide) (by decide) (by decide +kernel) (by decide) ?_
    refine lv_aload_n hx hb dX2_toldOf_105 rfl (lv_at hl 0 rfl) ?_
    refine lv_iload_n hx hb dX2_toldOf_106 rfl (lv_at hl 1 rfl) ?_
    refine vp_callSi (va_Run.run (va_runV (As := [.int (nI h)]) (rest := []) ⟨hx, hb, hml, hown, hts⟩ (c_X2_isCrooked_ l (d := 150) (lt := tl) (rt := tr) hh p1 p2 p3 p4 hlo.l hlo.r (by omega) (by omega) (by omega) (by omega)) (cwV 1 hts gX2_toldOf_X2_isCrooked_ rfl rfl rfl (by decide +kernel) ⟨Nat.le_of_ble_eq_true rfl, Nat.le_of_ble_eq_true rfl⟩) ⟨PcR.blind, va_recv hG.1 hP (ci := 2) (q0 := 0) rfl mw_m, PcR.at hP hG⟩ rfl rfl hl.1 rfl (lv_room (Nat.le_of_ble_eq_true rfl)) dX2_toldOf_107 ⟨Nat.zero_le _, Nat.zero_le _⟩)) (fun r107 q107 => ?_)
    subst q107
    refine lv_if_eq (tgt := 117) hx hb dX2_toldOf_110 (by decide) (fun c110 => ?_) (fun c110 => ?_)
    · refine lv_iconst (v := nI 0) hx hb dX2_toldOf_117 (by decide) ?_
      exact W.iret (v := (nI 0)) hx hb hr (fun t ht hW => ⟨⟨_, wy9, rfl, show nI 0 = b2i (crT T h) by simp only [crT]; rw [esub]; simp only []; rw [Bool.eq_false_iff.mpr (b2i_eq c110)]; rfl, by rw [ht]; exact hP, hG.moved hW, hD⟩, hS.F ht⟩) hS.2.2 dX2_toldOf_118
    · refine lv_iconst (v := nI 1) hx hb dX2_toldOf_113 (by decide) ?_
      refine lv_goto (tgt := 118) hx hb dX2_toldOf_114 (by decide) ?_
      exact W.iret (v := (nI 1)) hx hb hr (fun t ht hW => ⟨⟨_, wy9, rfl, show nI 1 = b2i (crT T h) by simp only [crT]; rw [esub]; simp only []; rw [b2i_ne c110]; rfl, by rw [ht]; exact hP, hG.moved hW, hD⟩, hS.F ht⟩) hS.2.2 dX2_toldOf_118
  · refine lv_iload_n hx hb dX2_toldOf_5 rfl (lv_at hl 2 rfl) ?_
    refine lv_tableOut (tgt := 119) hx hb dX2_toldOf_6 (by decide) (by decide) ?_
    refine lv_aload_n hx hb dX2_toldOf_119 rfl (lv_at hl 0 rfl) ?_
    refine lv_iload_n hx hb dX2_toldOf_120 rfl (lv_at hl 1 rfl) ?_
    refine vp_callSi (va_Run.run (va_runV (As := [.int (nI h)]) (rest := []) ⟨hx, hb, hml, hown, hts⟩ (c_X2_smaller l hh hb0 hsz hi) (cwV 1 hts gX2_toldOf_X2_smaller rfl rfl rfl (by decide +kernel) ⟨Nat.le_of_ble_eq_true rfl, Nat.le_of_ble_eq_true rfl⟩) ⟨PcR.blind, va_recv hG.1 hP (ci := 2) (q0 := 0) rfl mw_m, PcR.at hP hG⟩ rfl rfl hl.1 rfl (lv_room (Nat.le_of_ble_eq_true rfl)) dX2_toldOf_121 ⟨Nat.zero_le _, Nat.zero_le _⟩)) (fun r121 q121 => ?_)
    subst q121
    exact W.iret (v := (nI (cntLt h T))) hx hb hr (fun t ht hW => ⟨⟨_, wy9, rfl, rfl, by rw [ht]; exact hP, hG.moved hW, hD⟩, hS.F ht⟩) hS.2.2 dX2_toldOf_124

set_option maxHeartbeats 4000000 in
set_option maxRecDepth 100000 in
/-- told -/
theorem c_X2_told (l : Launch) {D : va_G} {cA cZ cI : ClassId} {M : Nat × Nat × Nat × Nat × Nat × Nat} {th mo ti dr st ma : Int32} {isIn lf rt wy rw : Nat → Int32} {A : Nat → Prop} {T : Tr} {x0 x1 : Int32} (hrep : RepM T isIn lf rt) : Met l yX2_told wsX2_told ({ frames := 170, cells := 0, slots := 0, locals := 6800 } : Room) (PcM D (tysA cA cZ cI) A (mw M cZ cI th (enc (root T)) (nI (siz T)) mo ti dr st ma isIn lf rt wy rw) [.ref M.1, .int x0, .int x1]) (va_Qi (S := ME) (fun r u => ((kT x0 x1 T) = 0 → r = tellT T (kx x0) (kx x1)) ∧ RepM (T, mo, ti, dr).1 u.2.2.1 u.2.2.2.1 u.2.2.2.2.1) (fun u => BM D (tysA cA cZ cI) A (mw M cZ cI (nI (kT x0 x1 T)) (enc (root (T, mo, ti, dr).1)) (nI (siz (T, mo, ti, dr).1)) ((T, mo, ti, dr).2.1) ((T, mo, ti, dr).2.2.1) ((T, mo, ti, dr).2.2.2) u.1 u.2.1 u.2.2.1 u.2.2.2.1 u.2.2.2.2.1 u.2.2.2.2.2.1 u.2.2.2.2.2.2)) A) 0 0 A := by
  refine Met.ofW (cc := cX2_told) (maxL := 3) (ret := (some .int)) (by decide) rfl ?_
  intro p e s m args below meth c s₁ B hml hv
  obtain ⟨rfl, hA, hP, hG, hD⟩ := hv
  have hx := B.exec
  have hb := B.bytes
  have hr := B.returns
  have hts := atoms_spec (ws := wsX2_told) B.pre
  have hown : s.vm.findClass RX2 = some m.cls := findClass_of_methodNamed B.named
  have hlocks := B.notSynchronized
  have hl := lv_entry ([.ref M.1, .int x0, .int x1]) (n := 3) (Nat.le_of_ble_eq_true rfl)
  rw [lg_entry_eq]
  generalize (lg_sl ([.ref M.1, .int x0, .int x1]) ++ List.replicate (3 - (lg_sl ([.ref M.1, .int x0, .int x1])).length) Slot.unset).toArray = ls at hl ⊢
  have hl : lv_has ls 3 [(0, .ref M.1), (1, .int x0), (2, .int x1)] := hl
  have hS : va_S A s.heap s.heap [] := va_S.rf
  obtain ⟨hb0, hin0, hsz, hs, hi⟩ := id hrep
  have hgs := hgt_siz (T := T)
  refine lv_aload_n hx hb dX2_told_0 rfl (lv_at hl 0 rfl) ?_
  refine lv_iconst (v := nI 0) hx hb dX2_told_1 (by decide) ?_
  refine va_put (D := D) (ci := 2) (v := .int (nI 0)) (ty := .int) (C := RX2) (T := TX2) (N := 13) hx hb hts (by decide +kernel) tyX2 tyX2_ok nmX2 hown hG.1 hP hD hS 0 mw_m rfl 0 (by decide) (hts (.fieldLink RX2 30 "LopsidedRanksModel" "thrown" "I") (by decide +kernel)) (fun _ h9 => h9) rfl (by decide +kernel) rfl rfl (Nat.le_of_ble_eq_true rfl) dX2_told_2 (fun H locs hP hD hS => ?_)
  have hP : va_P D vwCl (mw M cZ cI ((nI 0)) (enc (root T)) (nI (siz T)) mo ti dr st ma isIn lf rt wy rw) H := hP
  have hD : va_D A (mw M cZ cI ((nI 0)) (enc (root T)) (nI (siz T)) mo ti dr st ma isIn lf rt wy rw) := hD
  refine lv_iload_n hx hb dX2_told_5 rfl (lv_at hl 1 rfl) ?_
  refine vp_callSi (va_Run.run (va_runS (As := [.int x0]) (rest := []) ⟨hx, hb, hml, hown, hts⟩ (c_X2_isHeight l) (va_cwS 1 hts gX2_told_X2_isHeight rfl rfl rfl (by decide +kernel) ⟨Nat.le_of_ble_eq_true rfl, Nat.le_of_ble_eq_true rfl⟩) ⟨PcT.blind, PcT.at⟩ rfl rfl hl.1 rfl (lv_room (Nat.le_of_ble_eq_true rfl)) dX2_told_6 ⟨Nat.zero_le _, Nat.zero_le _⟩)) (fun r6 q6 => ?_)
  subst q6
  refine lv_if_ne (tgt := 18) hx hb dX2_told_9 (by decide) (fun c9 => ?_) (fun c9 => ?_)
  · obtain ⟨h0, hh0, rfl⟩ := hiB_not (b2i_ne c9)
    have hl : lv_has ls 3 [(0, .ref M.1), (1, .int (nI h0)), (2, .int x1)] := hl
    refine lv_iload_n hx hb dX2_told_18 rfl (lv_at hl 2 rfl) ?_
    refine lv_if_lt (tgt := 28) hx hb dX2_told_19 (by decide) (fun c19 => ?_) (fun c19 => ?_)
    · have hoq : hqB x1 = false := hqB_f (Or.inl c19)
      refine lv_aload_n hx hb dX2_told_28 rfl (lv_at hl 0 rfl) ?_
      refine lv_iconst (v := nI 2) hx hb dX2_told_29 (by decide) ?_
      refine va_calli (va_runV (As := [.int (nI 2)]) (rest := []) ⟨hx, hb, hml, hown, hts⟩ (c_X2_no l) (cwV 1 hts gX2_told_X2_no rfl rfl rfl (by decide +kernel) ⟨Nat.le_of_ble_eq_true rfl, Nat.le_of_ble_eq_true rfl⟩) ⟨PcM.blind, va_recv hG.1 hP (ci := 2) (q0 := 0) rfl mw_m, PcM.at (fun q h => hA q (Nat.le_trans hS.1 h)) hP hG hD⟩ rfl rfl hl.1 rfl (lv_room (Nat.le_of_ble_eq_true rfl)) dX2_told_30 ⟨Nat.zero_le _, Nat.zero_le _⟩) hS (fun q _ h => h) (fun q h => h) (fun r30 u30 t H locs ht hvm q30 hB hz1 hk1 hS => ?_)
      obtain ⟨hP, -, hD⟩ := hB
      rw [ht] at hP
      have hP : va_P D vwCl (mw M cZ cI (nI 2) (enc (root T)) (nI (siz T)) mo ti dr st ma isIn lf rt wy rw) H := hP
      have hD : va_D A (mw M cZ cI (nI 2) (enc (root T)) (nI (siz T)) mo ti dr st ma isIn lf rt wy rw) := hD
      subst q30
      have eK : kT (nI h0) x1 T = 2 := (if_pos (hiB_nI hh0)).trans (if_neg (by rw [hoq]; decide))
      exact W.iret (v := (nI 0)) hx hb hr (fun t ht hW => ⟨⟨_, (st, ma, isIn, lf, rt, wy, rw), rfl, ⟨fun q => absurd (eK.symm.trans q) (by decide), hrep⟩, by rw [eK, ht]; exact hP, hG.moved hW, by rw [eK]; exact hD⟩, hS.F ht⟩) hS.2.2 dX2_told_33
    · refine lv_iload_n hx hb dX2_told_22 rfl (lv_at hl 2 rfl) ?_
      refine lv_bipush (v := nI 7) hx hb dX2_told_23 (by decide) ?_
      refine lv_icmp_le (tgt := 34) hx hb dX2_told_25 (by decide) (fun c25 => ?_) (fun c25 => ?_)
      · obtain ⟨w0, hw0, rfl⟩ := oddQ.not (x := x1) (fun q => q.elim c19 (fun z => Int32.not_lt.mpr c25 z))
        have hl : lv_has ls 3 [(0, .ref M.1), (1, .int (nI h0)), (2, .int (nI w0))] := hl
        refine lv_aload_n hx hb dX2_told_34 rfl (lv_at hl 0 rfl) ?_
        refine va_get (D := D) (ci := 2) (v := .ref M.2.1) (C := RX2) (T := TX2) (N := 13) hx hb hts (by decide +kernel) hown hG.1 hP 0 mw_m rfl 6 (by decide) (hts (.fieldLink RX2 13 "LopsidedRanksModel" "isIn" "[Z") (by decide +kernel)) (fun _ h9 => h9) rfl dX2_told_35 ?_
        refine lv_iload_n hx hb dX2_told_38 rfl (lv_at hl 1 rfl) ?_
        refine zr_zald hx hb hG.1 hP 1 1 mw_i rfl (k := h0) (by omega) (Nat.le_of_ble_eq_true rfl) dX2_told_39 ?_
        refine zr_eqi (hi h0 hh0) ?_
        refine lv_if_eq (tgt := 52) hx hb dX2_told_40 (by decide) (fun c40 => ?_) (fun c40 => ?_)
        · have hm : ¬ h0 ∈ keysT T := fun q => b2i_eq c40 (decide_eq_true q)
          refine lv_aload_n hx hb dX2_told_52 rfl (lv_at hl 0 rfl) ?_
          refine lv_iconst (v := nI 3) hx hb dX2_told_53 (by decide) ?_
          refine va_calli (va_runV (As := [.int (nI 3)]) (rest := []) ⟨hx, hb, hml, hown, hts⟩ (c_X2_no l) (cwV 1 hts gX2_told_X2_no rfl rfl rfl (by decide +kernel) ⟨Nat.le_of_ble_eq_true rfl, Nat.le_of_ble_eq_true rfl⟩) ⟨PcM.blind, va_recv hG.1 hP (ci := 2) (q0 := 0) rfl mw_m, PcM.at (fun q h => hA q (Nat.le_trans hS.1 h)) hP hG hD⟩ rfl rfl hl.1 rfl (lv_room (Nat.le_of_ble_eq_true rfl)) dX2_told_54 ⟨Nat.zero_le _, Nat.zero_le _⟩) hS (fun q _ h => h) (fun q h => h) (fun r54 u54 t H locs ht hvm q54 hB hz1 hk1 hS => ?_)
          obtain ⟨hP, -, hD⟩ := hB
          rw [ht] at hP
          have hP : va_P D vwCl (mw M cZ cI (nI 3) (enc (root T)) (nI (siz T)) mo ti dr st ma isIn lf rt wy rw) H := hP
          have hD : va_D A (mw M cZ cI (nI 3) (enc (root T)) (nI (siz T)) mo ti dr st ma isIn lf rt wy rw) := hD
          subst q54
          have eK : kT (nI h0) (nI w0) T = 3 := (if_pos (hiB_nI hh0)).trans ((if_pos (hqB_t (oddQ_nI hw0))).trans (if_neg (by rw [kx_nI (by omega)]; exact hm)))
          exact W.iret (v := (nI 0)) hx hb hr (fun t ht hW => ⟨⟨_, (st, ma, isIn, lf, rt, wy, rw), rfl, ⟨fun q => absurd (eK.symm.trans q) (by decide), hrep⟩, by rw [eK, ht]; exact hP, hG.moved hW, by rw [eK]; exact hD⟩, hS.F ht⟩) hS.2.2 dX2_told_57
        · have hm : h0 ∈ keysT T := of_decide_eq_true (b2i_ne c40)
          refine lv_aload_n hx hb dX2_told_43 rfl (lv_at hl 0 rfl) ?_
          refine lv_iload_n hx hb dX2_told_44 rfl (lv_at hl 1 rfl) ?_
          refine lv_iload_n hx hb dX2_told_45 rfl (lv_at hl 2 rfl) ?_
          refine va_calli (va_runV (As := [.int (nI h0), .int (nI w0)]) (rest := []) ⟨hx, hb, hml, hown, hts⟩ (c_X2_toldOf l hrep hm hw0) (cwV 2 hts gX2_told_X2_toldOf rfl rfl rfl (by decide +kernel) ⟨Nat.le_of_ble_eq_true rfl, Nat.le_of_ble_eq_true rfl⟩) ⟨PcM.blind, va_recv hG.1 hP (ci := 2) (q0 := 0) rfl mw_m, PcM.at (fun q h => hA q (Nat.le_trans hS.1 h)) hP hG hD⟩ rfl rfl hl.1 rfl (lv_room (Nat.le_of_ble_eq_true rfl)) dX2_told_46 ⟨Nat.zero_le _, Nat.zero_le _⟩) hS (fun q _ h => h) (fun q h => h) (fun r46 wy9 t H locs ht hvm q46 hB hz1 hk1 hS => ?_)
          obtain ⟨hP, -, hD⟩ := hB
          rw [ht] at hP
          have hP : va_P D vwCl (mw M cZ cI ((nI 0)) (enc (root T)) (nI (siz T)) mo ti dr (nI ((wayT h0 T).length)) ma isIn lf rt wy9 rw) H := hP
          have hD : va_D A (mw M cZ cI ((nI 0)) (enc (root T)) (nI (siz T)) mo ti dr (nI ((wayT h0 T).length)) ma isIn lf rt wy9 rw) := hD
          subst q46
          refine lv_goto (tgt := 57) hx hb dX2_told_49 (by decide) ?_
          have eK : kT (nI h0) (nI w0) T = 0 := (if_pos (hiB_nI hh0)).trans ((if_pos (hqB_t (oddQ_nI hw0))).trans (if_pos (by rw [kx_nI (by omega)]; exact hm)))
          exact W.iret (v := (tellT T h0 w0)) hx hb hr (fun t ht hW => ⟨⟨_, (nI ((wayT h0 T).length), ma, isIn, lf, rt, wy9, rw), rfl, ⟨fun _ => by rw [kx_nI (by omega), kx_nI (by omega)], hrep⟩, by rw [eK, ht]; exact hP, hG.moved hW, by rw [eK]; exact hD⟩, hS.F ht⟩) hS.2.2 dX2_told_57
      · have hoq : hqB x1 = false := hqB_f (Or.inr (Int32.not_le.mp c25))
        refine lv_aload_n hx hb dX2_told_28 rfl (lv_at hl 0 rfl) ?_
        refine lv_iconst (v := nI 2) hx hb dX2_told_29 (by decide) ?_
        refine va_calli (va_runV (As := [.int (nI 2)]) (rest := []) ⟨hx, hb, hml, hown, hts⟩ (c_X2_no l) (cwV 1 hts gX2_told_X2_no rfl rfl rfl (by decide +kernel) ⟨Nat.le_of_ble_eq_true rfl, Nat.le_of_ble_eq_true rfl⟩) ⟨PcM.blind, va_recv hG.1 hP (ci := 2) (q0 := 0) rfl mw_m, PcM.at (fun q h => hA q (Nat.le_trans hS.1 h)) hP hG hD⟩ rfl rfl hl.1 rfl (lv_room (Nat.le_of_ble_eq_true rfl)) dX2_told_30 ⟨Nat.zero_le _, Nat.zero_le _⟩) hS (fun q _ h => h) (fun q h => h) (fun r30 u30 t H locs ht hvm q30 hB hz1 hk1 hS => ?_)
        obtain ⟨hP, -, hD⟩ := hB
        rw [ht] at hP
        have hP : va_P D vwCl (mw M cZ cI (nI 2) (enc (root T)) (nI (siz T)) mo ti dr st ma isIn lf rt wy rw) H := hP
        have hD : va_D A (mw M cZ cI (nI 2) (enc (root T)) (nI (siz T)) mo ti dr st ma isIn lf rt wy rw) := hD
        subst q30
        have eK : kT (nI h0) x1 T = 2 := (if_pos (hiB_nI hh0)).trans (if_neg (by rw [hoq]; decide))
        exact W.iret (v := (nI 0)) hx hb hr (fun t ht hW => ⟨⟨_, (st, ma, isIn, lf, rt, wy, rw), rfl, ⟨fun q => absurd (eK.symm.trans q) (by decide), hrep⟩, by rw [eK, ht]; exact hP, hG.moved hW, by rw [eK]; exact hD⟩, hS.F ht⟩) hS.2.2 dX2_told_33
  · have hno : hiB x0 = false := Bool.eq_false_iff.mpr (b2i_eq c9)
    refine lv_aload_n hx hb dX2_told_12 rfl (lv_at hl 0 rfl) ?_
    refine lv_iconst (v := nI 1) hx hb dX2_told_13 (by decide) ?_
    refine va_calli (va_runV (As := [.int (nI 1)]) (rest := []) ⟨hx, hb, hml, hown, hts⟩ (c_X2_no l) (cwV 1 hts gX2_told_X2_no rfl rfl rfl (by decide +kernel) ⟨Nat.le_of_ble_eq_true rfl, Nat.le_of_ble_eq_true rfl⟩) ⟨PcM.blind, va_recv hG.1 hP (ci := 2) (q0 := 0) rfl mw_m, PcM.at (fun q h => hA q (Nat.le_trans hS.1 h)) hP hG hD⟩ rfl rfl hl.1 rfl (lv_room (Nat.le_of_ble_eq_true rfl)) dX2_told_14 ⟨Nat.zero_le _, Nat.zero_le _⟩) hS (fun q _ h => h) (fun q h => h) (fun r14 u14 t H locs ht hvm q14 hB hz1 hk1 hS => ?_)
    obtain ⟨hP, -, hD⟩ := hB
    rw [ht] at hP
    have hP : va_P D vwCl (mw M cZ cI (nI 1) (enc (root T)) (nI (siz T)) mo ti dr st ma isIn lf rt wy rw) H := hP
    have hD : va_D A (mw M cZ cI (nI 1) (enc (root T)) (nI (siz T)) mo ti dr st ma isIn lf rt wy rw) := hD
    subst q14
    have eK : kT x0 x1 T = 1 := if_neg (by rw [hno]; decide)
    exact W.iret (v := (nI 0)) hx hb hr (fun t ht hW => ⟨⟨_, (st, ma, isIn, lf, rt, wy, rw), rfl, ⟨fun q => absurd (eK.symm.trans q) (by decide), hrep⟩, by rw [eK, ht]; exact hP, hG.moved hW, by rw [eK]; exact hD⟩, hS.F ht⟩) hS.2.2 dX2_told_17

set_option maxHeartbeats 4000000 in
set_option maxRecDepth 100000 in
theorem L_X2_between {D : va_G} {cA cZ cI : ClassId} {M : Nat × Nat × Nat × Nat × Nat × Nat} {th tp n mo ti dr st ma : Int32} {isIn lf rt wy rw : Nat → Int32} {p : Program} {l : Launch} {e : Env} {R : Room} {s : State} {m : MethodId} {args : Array Value} {below : List Frame} {meth : Method} {c : Code} {Q : State → Prop} {cells slots : Nat} {H : Heap} {locs : List Loc} (hx : p.tables.exec = Jvm.exec) (hb : c.code = cX2_between) (hml : c.maxLocals = 5) (hts : ∀ w ∈ wsX2_between, w.before args s = true) (hown : s.vm.findClass RX2 = some m.cls) (hG : GK D (tysA cA cZ cI) s) (hP : va_P D vwCl (mw M cZ cI th tp n mo ti dr st ma isIn lf rt wy rw) H) (hR : 0 ≤ R.frames ∧ 0 ≤ R.locals) (hC : cells ≤ R.cells ∧ slots ≤ R.slots) {T : Tr} {a b : Nat} (hbn : b < 1000) (hb0 : bst T) (hz : siz T ≤ 150) (hi : ∀ k, k < 1000 → isIn k = b2i (decide (k ∈ keysT T))) : ∀ (f k : Nat), k + f = b + 1 → a ≤ k → cntLt a T ≤ cntLt k T → (∀ ls, lv_has ls 5 [(3, .int (nI (cntLt (b + 1) T - cntLt a T)))] → W p l e R s m args below meth c H locs cells slots Q (F0 m 60 ls [])) → ∀ ls, lv_has ls 5 [(4, .int (nI k)), (3, .int (nI (cntLt k T - cntLt a T))), (0, .ref M.1), (1, .int (nI a)), (2, .int (nI b))] → W p l e R s m args below meth c H locs cells slots Q (F0 m 30 ls []) := by
  intro f
  induction f with
  | zero =>
    intro k hk hak hca kk ls hl
    refine lv_iload hx hb dX2_between_30 (lv_at hl 0 rfl) ?_
    refine lv_iload_n hx hb dX2_between_32 rfl (lv_at hl 4 rfl) ?_
    refine lv_icmp_gt (tgt := 60) hx hb dX2_between_33 (by decide) (fun c33 => ?_) (fun c33 => ?_)
    · rw [nI_ltI (by omega) (by omega)] at c33
      have e8 : k = b + 1 := by omega
      subst e8
      exact kk _ (lv_sub hl [1] rfl)
    · rw [nI_ltI (by omega) (by omega)] at c33
      exact absurd c33 (by omega)
  | succ f ih =>
    intro k hk hak hca kk ls hl
    refine lv_iload hx hb dX2_between_30 (lv_at hl 0 rfl) ?_
    refine lv_iload_n hx hb dX2_between_32 rfl (lv_at hl 4 rfl) ?_
    refine lv_icmp_gt (tgt := 60) hx hb dX2_between_33 (by decide) (fun c33 => ?_) (fun c33 => ?_)
    · rw [nI_ltI (by omega) (by omega)] at c33
      exact absurd c33 (by omega)
    · rw [nI_ltI (by omega) (by omega)] at c33
      refine lv_iload_n hx hb dX2_between_36 rfl (lv_at hl 1 rfl) ?_
      refine lv_aload_n hx hb dX2_between_37 rfl (lv_at hl 2 rfl) ?_
      refine va_get (D := D) (ci := 2) (v := .ref M.2.1) (C := RX2) (T := TX2) (N := 13) hx hb hts (by decide +kernel) hown hG.1 hP 0 mw_m rfl 6 (by decide) (hts (.fieldLink RX2 13 "LopsidedRanksModel" "isIn" "[Z") (by decide +kernel)) (fun _ h9 => h9) rfl dX2_between_38 ?_
      refine lv_iload hx hb dX2_between_41 (lv_at hl 0 rfl) ?_
      refine zr_zald hx hb hG.1 hP 1 1 mw_i rfl (k := k) (by omega) (Nat.le_of_ble_eq_true rfl) dX2_between_43 ?_
      refine zr_eqi (hi k (by omega)) ?_
      refine lv_if_eq (tgt := 51) hx hb dX2_between_44 (by decide) (fun c44 => ?_) (fun c44 => ?_)
      · have hm : ¬ k ∈ keysT T := fun q => b2i_eq c44 (decide_eq_true q)
        refine lv_iconst (v := nI 0) hx hb dX2_between_51 (by decide) ?_
        refine lv_iadd hx hb dX2_between_52 ?_
        refine zr_eqi (nI_add (cntLt k T - cntLt a T) 0) ?_
        refine lv_istore_n (lv' := [(3, .int (nI ((cntLt k T - cntLt a T) + 0))), (4, .int (nI k)), (0, .ref M.1), (1, .int (nI a)), (2, .int (nI b))]) hx hb dX2_between_53 rfl hl (by decide) rfl (fun ls hl => ?_)
        refine lv_iinc (v := nI (k + 1)) (lv' := [(4, .int (nI (k + 1))), (3, .int (nI ((cntLt k T - cntLt a T) + 0))), (0, .ref M.1), (1, .int (nI a)), (2, .int (nI b))]) hx hb dX2_between_54 hl (k := 1) rfl (nI_add k 1) (by decide) rfl (fun ls hl => ?_)
        refine lv_goto (tgt := 30) hx hb dX2_between_57 (by decide) ?_
        have e7 := cnt_step (k := k) hb0
        rw [if_neg hm] at e7
        exact ih (k + 1) (by omega) (by omega) (by omega) kk _ (lv_re hl (by rw [e7, show cntLt k T + 0 - cntLt a T = cntLt k T - cntLt a T + 0 by omega]))
      · have hm : k ∈ keysT T := of_decide_eq_true (b2i_ne c44)
        refine lv_iconst (v := nI 1) hx hb dX2_between_47 (by decide) ?_
        refine lv_goto (tgt := 52) hx hb dX2_between_48 (by decide) ?_
        refine lv_iadd hx hb dX2_between_52 ?_
        refine zr_eqi (nI_add (cntLt k T - cntLt a T) 1) ?_
        refine lv_istore_n (lv' := [(3, .int (nI ((cntLt k T - cntLt a T) + 1))), (4, .int (nI k)), (0, .ref M.1), (1, .int (nI a)), (2, .int (nI b))]) hx hb dX2_between_53 rfl hl (by decide) rfl (fun ls hl => ?_)
        refine lv_iinc (v := nI (k + 1)) (lv' := [(4, .int (nI (k + 1))), (3, .int (nI ((cntLt k T - cntLt a T) + 1))), (0, .ref M.1), (1, .int (nI a)), (2, .int (nI b))]) hx hb dX2_between_54 hl (k := 1) rfl (nI_add k 1) (by decide) rfl (fun ls hl => ?_)
        refine lv_goto (tgt := 30) hx hb dX2_between_57 (by decide) ?_
        have e7 := cnt_step (k := k) hb0
        rw [if_pos hm] at e7
        exact ih (k + 1) (by omega) (by omega) (by omega) kk _ (lv_re hl (by rw [e7, show cntLt k T + 1 - cntLt a T = cntLt k T - cntLt a T + 1 by omega]))
theorem cnt_mono {T : Tr} (hb : bst T) {a b : Nat} (h : a ≤ b) : cntLt a T ≤ cntLt b T := by
  obtain ⟨d, rfl⟩ : ∃ d, b = a + d := ⟨b - a, by omega⟩
  clear h
  induction d with
  | zero => exact Nat.le_refl _
  | succ d ih =>
    have := cnt_step (k := a + d) hb
    rw [show a + (d + 1) = a + d + 1 by omega]
    omega
set_option maxHeartbeats 4000000 in
set_option maxRecDepth 100000 in
/-- between -/
theorem c_X2_between (l : Launch) {D : va_G} {cA cZ cI : ClassId} {M : Nat × Nat × Nat × Nat × Nat × Nat} {th mo ti dr st ma : Int32} {isIn lf rt wy rw : Nat → Int32} {A : Nat → Prop} {T : Tr} {x0 x1 : Int32} (hrep : RepM T isIn lf rt) : Met l yX2_between wsX2_between ({ frames := 170, cells := 0, slots := 0, locals := 6800 } : Room) (PcM D (tysA cA cZ cI) A (mw M cZ cI th (enc (root T)) (nI (siz T)) mo ti dr st ma isIn lf rt wy rw) [.ref M.1, .int x0, .int x1]) (va_Qi (S := ME) (fun r u => ((kB x0 x1) = 0 → r = btw T (kx x0) (kx x1)) ∧ RepM (T, mo, ti, dr).1 u.2.2.1 u.2.2.2.1 u.2.2.2.2.1) (fun u => BM D (tysA cA cZ cI) A (mw M cZ cI (nI (kB x0 x1)) (enc (root (T, mo, ti, dr).1)) (nI (siz (T, mo, ti, dr).1)) ((T, mo, ti, dr).2.1) ((T, mo, ti, dr).2.2.1) ((T, mo, ti, dr).2.2.2) u.1 u.2.1 u.2.2.1 u.2.2.2.1 u.2.2.2.2.1 u.2.2.2.2.2.1 u.2.2.2.2.2.2)) A) 0 0 A := by
  refine Met.ofW (cc := cX2_between) (maxL := 5) (ret := (some .int)) (by decide) rfl ?_
  intro p e s m args below meth c s₁ B hml hv
  obtain ⟨rfl, hA, hP, hG, hD⟩ := hv
  have hx := B.exec
  have hb := B.bytes
  have hr := B.returns
  have hts := atoms_spec (ws := wsX2_between) B.pre
  have hown : s.vm.findClass RX2 = some m.cls := findClass_of_methodNamed B.named
  have hlocks := B.notSynchronized
  have hl := lv_entry ([.ref M.1, .int x0, .int x1]) (n := 5) (Nat.le_of_ble_eq_true rfl)
  rw [lg_entry_eq]
  generalize (lg_sl ([.ref M.1, .int x0, .int x1]) ++ List.replicate (5 - (lg_sl ([.ref M.1, .int x0, .int x1])).length) Slot.unset).toArray = ls at hl ⊢
  have hl : lv_has ls 5 [(0, .ref M.1), (1, .int x0), (2, .int x1)] := hl
  have hS : va_S A s.heap s.heap [] := va_S.rf
  obtain ⟨hb0, hin0, hsz, hs, hi⟩ := id hrep
  have hgs := hgt_siz (T := T)
  refine lv_aload_n hx hb dX2_between_0 rfl (lv_at hl 0 rfl) ?_
  refine lv_iconst (v := nI 0) hx hb dX2_between_1 (by decide) ?_
  refine va_put (D := D) (ci := 2) (v := .int (nI 0)) (ty := .int) (C := RX2) (T := TX2) (N := 13) hx hb hts (by decide +kernel) tyX2 tyX2_ok nmX2 hown hG.1 hP hD hS 0 mw_m rfl 0 (by decide) (hts (.fieldLink RX2 30 "LopsidedRanksModel" "thrown" "I") (by decide +kernel)) (fun _ h9 => h9) rfl (by decide +kernel) rfl rfl (Nat.le_of_ble_eq_true rfl) dX2_between_2 (fun H locs hP hD hS => ?_)
  have hP : va_P D vwCl (mw M cZ cI ((nI 0)) (enc (root T)) (nI (siz T)) mo ti dr st ma isIn lf rt wy rw) H := hP
  have hD : va_D A (mw M cZ cI ((nI 0)) (enc (root T)) (nI (siz T)) mo ti dr st ma isIn lf rt wy rw) := hD
  refine lv_iload_n hx hb dX2_between_5 rfl (lv_at hl 1 rfl) ?_
  refine vp_callSi (va_Run.run (va_runS (As := [.int x0]) (rest := []) ⟨hx, hb, hml, hown, hts⟩ (c_X2_isHeight l) (va_cwS 1 hts gX2_between_X2_isHeight rfl rfl rfl (by decide +kernel) ⟨Nat.le_of_ble_eq_true rfl, Nat.le_of_ble_eq_true rfl⟩) ⟨PcT.blind, PcT.at⟩ rfl rfl hl.1 rfl (lv_room (Nat.le_of_ble_eq_true rfl)) dX2_between_6 ⟨Nat.zero_le _, Nat.zero_le _⟩)) (fun r6 q6 => ?_)
  subst q6
  refine lv_if_eq (tgt := 19) hx hb dX2_between_9 (by decide) (fun c9 => ?_) (fun c9 => ?_)
  · have hno : hiB x0 = false := Bool.eq_false_iff.mpr (b2i_eq c9)
    refine lv_aload_n hx hb dX2_between_19 rfl (lv_at hl 0 rfl) ?_
    refine lv_iconst (v := nI 1) hx hb dX2_between_20 (by decide) ?_
    refine va_calli (va_runV (As := [.int (nI 1)]) (rest := []) ⟨hx, hb, hml, hown, hts⟩ (c_X2_no l) (cwV 1 hts gX2_between_X2_no rfl rfl rfl (by decide +kernel) ⟨Nat.le_of_ble_eq_true rfl, Nat.le_of_ble_eq_true rfl⟩) ⟨PcM.blind, va_recv hG.1 hP (ci := 2) (q0 := 0) rfl mw_m, PcM.at (fun q h => hA q (Nat.le_trans hS.1 h)) hP hG hD⟩ rfl rfl hl.1 rfl (lv_room (Nat.le_of_ble_eq_true rfl)) dX2_between_21 ⟨Nat.zero_le _, Nat.zero_le _⟩) hS (fun q _ h => h) (fun q h => h) (fun r21 u21 t H locs ht hvm q21 hB hz1 hk1 hS => ?_)
    obtain ⟨hP, -, hD⟩ := hB
    rw [ht] at hP
    have hP : va_P D vwCl (mw M cZ cI (nI 1) (enc (root T)) (nI (siz T)) mo ti dr st ma isIn lf rt wy rw) H := hP
    have hD : va_D A (mw M cZ cI (nI 1) (enc (root T)) (nI (siz T)) mo ti dr st ma isIn lf rt wy rw) := hD
    subst q21
    have eK : kB x0 x1 = 1 := if_neg (by rw [hno]; decide)
    exact W.iret (v := (nI 0)) hx hb hr (fun t ht hW => ⟨⟨_, (st, ma, isIn, lf, rt, wy, rw), rfl, ⟨fun q => absurd (eK.symm.trans q) (by decide), hrep⟩, by rw [eK, ht]; exact hP, hG.moved hW, by rw [eK]; exact hD⟩, hS.F ht⟩) hS.2.2 dX2_between_24
  · obtain ⟨h0, hh0, rfl⟩ := hiB_not (b2i_ne c9)
    have hl : lv_has ls 5 [(0, .ref M.1), (1, .int (nI h0)), (2, .int x1)] := hl
    refine lv_iload_n hx hb dX2_between_12 rfl (lv_at hl 2 rfl) ?_
    refine vp_callSi (va_Run.run (va_runS (As := [.int x1]) (rest := []) ⟨hx, hb, hml, hown, hts⟩ (c_X2_isHeight l) (va_cwS 1 hts gX2_between_X2_isHeight rfl rfl rfl (by decide +kernel) ⟨Nat.le_of_ble_eq_true rfl, Nat.le_of_ble_eq_true rfl⟩) ⟨PcT.blind, PcT.at⟩ rfl rfl hl.1 rfl (lv_room (Nat.le_of_ble_eq_true rfl)) dX2_between_13 ⟨Nat.zero_le _, Nat.zero_le _⟩)) (fun r13 q13 => ?_)
    subst q13
    refine lv_if_ne (tgt := 25) hx hb dX2_between_16 (by decide) (fun c16 => ?_) (fun c16 => ?_)
    · obtain ⟨h1, hh1, rfl⟩ := hiB_not (b2i_ne c16)
      have hl : lv_has ls 5 [(0, .ref M.1), (1, .int (nI h0)), (2, .int (nI h1))] := hl
      refine lv_iconst (v := nI 0) hx hb dX2_between_25 (by decide) ?_
      refine lv_istore_n (lv' := [(3, .int (nI 0)), (0, .ref M.1), (1, .int (nI h0)), (2, .int (nI h1))]) hx hb dX2_between_26 rfl hl (by decide) rfl (fun ls hl => ?_)
      refine lv_iload_n hx hb dX2_between_27 rfl (lv_at hl 2 rfl) ?_
      refine lv_istore (lv' := [(4, .int (nI h0)), (3, .int (nI 0)), (0, .ref M.1), (1, .int (nI h0)), (2, .int (nI h1))]) hx hb dX2_between_28 hl (by decide) rfl (fun ls hl => ?_)
      by_cases hab : h1 < h0
      · refine lv_iload hx hb dX2_between_30 (lv_at hl 0 rfl) ?_
        refine lv_iload_n hx hb dX2_between_32 rfl (lv_at hl 4 rfl) ?_
        refine lv_icmp_gt (tgt := 60) hx hb dX2_between_33 (by decide) (fun c33 => ?_) (fun c33 => ?_)
        · rw [nI_ltI (by omega) (by omega)] at c33
          refine lv_iload_n hx hb dX2_between_60 rfl (lv_at hl 1 rfl) ?_
          have eK : kB (nI h0) (nI h1) = 0 := (if_pos (hiB_nI hh0)).trans (if_pos (hiB_nI hh1))
          exact W.iret (v := (nI 0)) hx hb hr (fun t ht hW => ⟨⟨_, (st, ma, isIn, lf, rt, wy, rw), rfl, ⟨fun _ => by rw [kx_nI (by omega), kx_nI (by omega)]; exact (if_pos hab).symm, hrep⟩, by rw [eK, ht]; exact hP, hG.moved hW, by rw [eK]; exact hD⟩, hS.F ht⟩) hS.2.2 dX2_between_61
        · rw [nI_ltI (by omega) (by omega)] at c33
          exact absurd c33 (by omega)
      · refine L_X2_between hx hb hml hts hown hG hP ⟨Nat.le_of_ble_eq_true rfl, Nat.le_of_ble_eq_true rfl⟩ ⟨Nat.zero_le _, Nat.zero_le _⟩ hh1 hb0 hsz hi (h1 + 1 - h0) h0 (by omega) (Nat.le_refl _) (Nat.le_refl _) (fun ls hl => ?_) _ (lv_re hl (by rw [Nat.sub_self]))
        refine lv_iload_n hx hb dX2_between_60 rfl (lv_at hl 0 rfl) ?_
        have eK : kB (nI h0) (nI h1) = 0 := (if_pos (hiB_nI hh0)).trans (if_pos (hiB_nI hh1))
        exact W.iret (v := (nI (cntLt (h1 + 1) T - cntLt h0 T))) hx hb hr (fun t ht hW => ⟨⟨_, (st, ma, isIn, lf, rt, wy, rw), rfl, ⟨fun _ => by rw [kx_nI (by omega), kx_nI (by omega)]; exact ((if_neg hab).trans (pk_sub (cnt_mono hb0 (by omega)))).symm, hrep⟩, by rw [eK, ht]; exact hP, hG.moved hW, by rw [eK]; exact hD⟩, hS.F ht⟩) hS.2.2 dX2_between_61
    · have hno : hiB x1 = false := Bool.eq_false_iff.mpr (b2i_eq c16)
      refine lv_aload_n hx hb dX2_between_19 rfl (lv_at hl 0 rfl) ?_
      refine lv_iconst (v := nI 1) hx hb dX2_between_20 (by decide) ?_
      refine va_calli (va_runV (As := [.int (nI 1)]) (rest := []) ⟨hx, hb, hml, hown, hts⟩ (c_X2_no l) (cwV 1 hts gX2_between_X2_no rfl rfl rfl (by decide +kernel) ⟨Nat.le_of_ble_eq_true rfl, Nat.le_of_ble_eq_true rfl⟩) ⟨PcM.blind, va_recv hG.1 hP (ci := 2) (q0 := 0) rfl mw_m, PcM.at (fun q h => hA q (Nat.le_trans hS.1 h)) hP hG hD⟩ rfl rfl hl.1 rfl (lv_room (Nat.le_of_ble_eq_true rfl)) dX2_between_21 ⟨Nat.zero_le _, Nat.zero_le _⟩) hS (fun q _ h => h) (fun q h => h) (fun r21 u21 t H locs ht hvm q21 hB hz1 hk1 hS => ?_)
      obtain ⟨hP, -, hD⟩ := hB
      rw [ht] at hP
      have hP : va_P D vwCl (mw M cZ cI (nI 1) (enc (root T)) (nI (siz T)) mo ti dr st ma isIn lf rt wy rw) H := hP
      have hD : va_D A (mw M cZ cI (nI 1) (enc (root T)) (nI (siz T)) mo ti dr st ma isIn lf rt wy rw) := hD
      subst q21
      have eK : kB (nI h0) x1 = 1 := (if_pos (hiB_nI hh0)).trans (if_neg (by rw [hno]; decide))
      exact W.iret (v := (nI 0)) hx hb hr (fun t ht hW => ⟨⟨_, (st, ma, isIn, lf, rt, wy, rw), rfl, ⟨fun q => absurd (eK.symm.trans q) (by decide), hrep⟩, by rw [eK, ht]; exact hP, hG.moved hW, by rw [eK]; exact hD⟩, hS.F ht⟩) hS.2.2 dX2_between_24

set_option maxHeartbeats 4000000 in
set_option maxRecDepth 100000 in
theorem L_X2_taller {D : va_G} {cA cZ cI : ClassId} {M : Nat × Nat × Nat × Nat × Nat × Nat} {th tp n mo ti dr st ma : Int32} {isIn lf rt wy rw : Nat → Int32} {p : Program} {l : Launch} {e : Env} {R : Room} {s : State} {m : MethodId} {args : Array Value} {below : List Frame} {meth : Method} {c : Code} {Q : State → Prop} {cells slots : Nat} {H : Heap} {locs : List Loc} (hx : p.tables.exec = Jvm.exec) (hb : c.code = cX2_taller) (hml : c.maxLocals = 3) (hts : ∀ w ∈ wsX2_taller, w.before args s = true) (hown : s.vm.findClass RX2 = some m.cls) (hG : GK D (tysA cA cZ cI) s) (hP : va_P D vwCl (mw M cZ cI th tp n mo ti dr st ma isIn lf rt wy rw) H) (hR : 0 ≤ R.frames ∧ 0 ≤ R.locals) (hC : cells ≤ R.cells ∧ slots ≤ R.slots) {T : Tr} {N0 : Nat} (hb0 : bst T) (hlo : Low T) (hz : siz T ≤ 150) (hi : ∀ k, k < 1000 → isIn k = b2i (decide (k ∈ keysT T))) : ∀ (f k : Nat), k + f = 1000 → cntLt k T = N0 → (∀ ls, W p l e R s m args below meth c H locs cells slots Q (F0 m 39 ls [.int (enc ((keysT T)[N0]?))])) → (∀ ls, W p l e R s m args below meth c H locs cells slots Q (F0 m 47 ls [.int (enc ((keysT T)[N0]?))])) → ∀ ls, lv_has ls 3 [(2, .int (nI k)), (0, .ref M.1)] → W p l e R s m args below meth c H locs cells slots Q (F0 m 22 ls []) := by
  intro f
  induction f with
  | zero =>
    intro k hk hc k39 k47 ls hl
    refine lv_iload_n hx hb dX2_taller_22 rfl (lv_at hl 0 rfl) ?_
    refine lv_sipush (v := nI 1000) hx hb dX2_taller_23 (by decide) ?_
    refine lv_icmp_ge (tgt := 46) hx hb dX2_taller_26 (by decide) (fun c26 => ?_) (fun c26 => ?_)
    · rw [nI_leI (by omega) (by omega)] at c26
      have e8 : k = 1000 := by omega
      subst e8
      rw [cnt_all hlo] at hc
      rw [← hc, List.getElem?_eq_none (by rw [keys_len]; omega)] at k47
      refine lv_iconst (v := -1) hx hb dX2_taller_46 (by decide) ?_
      exact k47 _
    · rw [nI_leI (by omega) (by omega)] at c26
      exact absurd c26 (by omega)
  | succ f ih =>
    intro k hk hc k39 k47 ls hl
    refine lv_iload_n hx hb dX2_taller_22 rfl (lv_at hl 0 rfl) ?_
    refine lv_sipush (v := nI 1000) hx hb dX2_taller_23 (by decide) ?_
    refine lv_icmp_ge (tgt := 46) hx hb dX2_taller_26 (by decide) (fun c26 => ?_) (fun c26 => ?_)
    · rw [nI_leI (by omega) (by omega)] at c26
      exact absurd c26 (by omega)
    · rw [nI_leI (by omega) (by omega)] at c26
      refine lv_aload_n hx hb dX2_taller_29 rfl (lv_at hl 1 rfl) ?_
      refine va_get (D := D) (ci := 2) (v := .ref M.2.1) (C := RX2) (T := TX2) (N := 13) hx hb hts (by decide +kernel) hown hG.1 hP 0 mw_m rfl 6 (by decide) (hts (.fieldLink RX2 13 "LopsidedRanksModel" "isIn" "[Z") (by decide +kernel)) (fun _ h9 => h9) rfl dX2_taller_30 ?_
      refine lv_iload_n hx hb dX2_taller_33 rfl (lv_at hl 0 rfl) ?_
      refine zr_zald hx hb hG.1 hP 1 1 mw_i rfl (k := k) (by omega) (Nat.le_of_ble_eq_true rfl) dX2_taller_34 ?_
      refine zr_eqi (hi k (by omega)) ?_
      refine lv_if_eq (tgt := 40) hx hb dX2_taller_35 (by decide) (fun c35 => ?_) (fun c35 => ?_)
      · have hm : ¬ k ∈ keysT T := fun q => b2i_eq c35 (decide_eq_true q)
        refine lv_iinc (v := nI (k + 1)) (lv' := [(2, .int (nI (k + 1))), (0, .ref M.1)]) hx hb dX2_taller_40 hl (k := 0) rfl (nI_add k 1) (by decide) rfl (fun ls hl => ?_)
        refine lv_goto (tgt := 22) hx hb dX2_taller_43 (by decide) ?_
        have e7 := cnt_step (k := k) hb0
        rw [if_neg hm] at e7
        exact ih (k + 1) (by omega) (by omega) k39 k47 _ hl
      · have hm : k ∈ keysT T := of_decide_eq_true (b2i_ne c35)
        have h9 := cnt_key hb0 hm
        rw [hc] at h9
        rw [h9] at k39
        refine lv_iload_n hx hb dX2_taller_38 rfl (lv_at hl 0 rfl) ?_
        exact k39 _
set_option maxHeartbeats 4000000 in
set_option maxRecDepth 100000 in
/-- taller -/
theorem c_X2_taller (l : Launch) {D : va_G} {cA cZ cI : ClassId} {M : Nat × Nat × Nat × Nat × Nat × Nat} {th mo ti dr st ma : Int32} {isIn lf rt wy rw : Nat → Int32} {A : Nat → Prop} {T : Tr} {x0 : Int32} (hrep : RepM T isIn lf rt) : Met l yX2_taller wsX2_taller ({ frames := 170, cells := 0, slots := 0, locals := 6800 } : Room) (PcM D (tysA cA cZ cI) A (mw M cZ cI th (enc (root T)) (nI (siz T)) mo ti dr st ma isIn lf rt wy rw) [.ref M.1, .int x0]) (va_Qi (S := ME) (fun r u => ((kH x0) = 0 → r = enc ((keysT T)[cntLt (kx x0 + 1) T]?)) ∧ RepM (T, mo, ti, dr).1 u.2.2.1 u.2.2.2.1 u.2.2.2.2.1) (fun u => BM D (tysA cA cZ cI) A (mw M cZ cI (nI (kH x0)) (enc (root (T, mo, ti, dr).1)) (nI (siz (T, mo, ti, dr).1)) ((T, mo, ti, dr).2.1) ((T, mo, ti, dr).2.2.1) ((T, mo, ti, dr).2.2.2) u.1 u.2.1 u.2.2.1 u.2.2.2.1 u.2.2.2.2.1 u.2.2.2.2.2.1 u.2.2.2.2.2.2)) A) 0 0 A := by
  refine Met.ofW (cc := cX2_taller) (maxL := 3) (ret := (some .int)) (by decide) rfl ?_
  intro p e s m args below meth c s₁ B hml hv
  obtain ⟨rfl, hA, hP, hG, hD⟩ := hv
  have hx := B.exec
  have hb := B.bytes
  have hr := B.returns
  have hts := atoms_spec (ws := wsX2_taller) B.pre
  have hown : s.vm.findClass RX2 = some m.cls := findClass_of_methodNamed B.named
  have hlocks := B.notSynchronized
  have hl := lv_entry ([.ref M.1, .int x0]) (n := 3) (Nat.le_of_ble_eq_true rfl)
  rw [lg_entry_eq]
  generalize (lg_sl ([.ref M.1, .int x0]) ++ List.replicate (3 - (lg_sl ([.ref M.1, .int x0])).length) Slot.unset).toArray = ls at hl ⊢
  have hl : lv_has ls 3 [(0, .ref M.1), (1, .int x0)] := hl
  have hS : va_S A s.heap s.heap [] := va_S.rf
  obtain ⟨hb0, hin0, hsz, hs, hi⟩ := id hrep
  have hgs := hgt_siz (T := T)
  refine lv_aload_n hx hb dX2_taller_0 rfl (lv_at hl 0 rfl) ?_
  refine lv_iconst (v := nI 0) hx hb dX2_taller_1 (by decide) ?_
  refine va_put (D := D) (ci := 2) (v := .int (nI 0)) (ty := .int) (C := RX2) (T := TX2) (N := 13) hx hb hts (by decide +kernel) tyX2 tyX2_ok nmX2 hown hG.1 hP hD hS 0 mw_m rfl 0 (by decide) (hts (.fieldLink RX2 30 "LopsidedRanksModel" "thrown" "I") (by decide +kernel)) (fun _ h9 => h9) rfl (by decide +kernel) rfl rfl (Nat.le_of_ble_eq_true rfl) dX2_taller_2 (fun H locs hP hD hS => ?_)
  have hP : va_P D vwCl (mw M cZ cI ((nI 0)) (enc (root T)) (nI (siz T)) mo ti dr st ma isIn lf rt wy rw) H := hP
  have hD : va_D A (mw M cZ cI ((nI 0)) (enc (root T)) (nI (siz T)) mo ti dr st ma isIn lf rt wy rw) := hD
  refine lv_iload_n hx hb dX2_taller_5 rfl (lv_at hl 1 rfl) ?_
  refine vp_callSi (va_Run.run (va_runS (As := [.int x0]) (rest := []) ⟨hx, hb, hml, hown, hts⟩ (c_X2_isHeight l) (va_cwS 1 hts gX2_taller_X2_isHeight rfl rfl rfl (by decide +kernel) ⟨Nat.le_of_ble_eq_true rfl, Nat.le_of_ble_eq_true rfl⟩) ⟨PcT.blind, PcT.at⟩ rfl rfl hl.1 rfl (lv_room (Nat.le_of_ble_eq_true rfl)) dX2_taller_6 ⟨Nat.zero_le _, Nat.zero_le _⟩)) (fun r6 q6 => ?_)
  subst q6
  refine lv_if_ne (tgt := 18) hx hb dX2_taller_9 (by decide) (fun c9 => ?_) (fun c9 => ?_)
  · obtain ⟨h0, hh0, rfl⟩ := hiB_not (b2i_ne c9)
    have hl : lv_has ls 3 [(0, .ref M.1), (1, .int (nI h0))] := hl
    refine lv_iload_n hx hb dX2_taller_18 rfl (lv_at hl 1 rfl) ?_
    refine lv_iconst (v := nI 1) hx hb dX2_taller_19 (by decide) ?_
    refine lv_iadd hx hb dX2_taller_20 ?_
    refine zr_eqi (nI_add h0 1) ?_
    refine lv_istore_n (lv' := [(2, .int (nI (h0 + 1))), (0, .ref M.1), (1, .int (nI h0))]) hx hb dX2_taller_21 rfl hl (by decide) rfl (fun ls hl => ?_)
    have hl : lv_has ls 3 [(2, .int (nI (h0 + 1))), (0, .ref M.1)] := lv_sub hl [0, 1] rfl
    refine L_X2_taller hx hb hml hts hown hG hP ⟨Nat.le_of_ble_eq_true rfl, Nat.le_of_ble_eq_true rfl⟩ ⟨Nat.zero_le _, Nat.zero_le _⟩ hb0 hin0 hsz hi (1000 - (h0 + 1)) (h0 + 1) (by omega) rfl (fun ls => ?_) (fun ls => ?_) _ hl
    · have eK : kH (nI h0) = 0 := kH_0 hh0
      exact W.iret (v := (enc ((keysT T)[cntLt (h0 + 1) T]?))) hx hb hr (fun t ht hW => ⟨⟨_, (st, ma, isIn, lf, rt, wy, rw), rfl, ⟨fun _ => by rw [kx_nI (by omega)], hrep⟩, by rw [eK, ht]; exact hP, hG.moved hW, by rw [eK]; exact hD⟩, hS.F ht⟩) hS.2.2 dX2_taller_39
    · have eK : kH (nI h0) = 0 := kH_0 hh0
      exact W.iret (v := (enc ((keysT T)[cntLt (h0 + 1) T]?))) hx hb hr (fun t ht hW => ⟨⟨_, (st, ma, isIn, lf, rt, wy, rw), rfl, ⟨fun _ => by rw [kx_nI (by omega)], hrep⟩, by rw [eK, ht]; exact hP, hG.moved hW, by rw [eK]; exact hD⟩, hS.F ht⟩) hS.2.2 dX2_taller_47
  · have hno : hiB x0 = false := Bool.eq_false_iff.mpr (b2i_eq c9)
    refine lv_aload_n hx hb dX2_taller_12 rfl (lv_at hl 0 rfl) ?_
    refine lv_iconst (v := nI 1) hx hb dX2_taller_13 (by decide) ?_
    refine va_calli (va_runV (As := [.int (nI 1)]) (rest := []) ⟨hx, hb, hml, hown, hts⟩ (c_X2_no l) (cwV 1 hts gX2_taller_X2_no rfl rfl rfl (by decide +kernel) ⟨Nat.le_of_ble_eq_true rfl, Nat.le_of_ble_eq_true rfl⟩) ⟨PcM.blind, va_recv hG.1 hP (ci := 2) (q0 := 0) rfl mw_m, PcM.at (fun q h => hA q (Nat.le_trans hS.1 h)) hP hG hD⟩ rfl rfl hl.1 rfl (lv_room (Nat.le_of_ble_eq_true rfl)) dX2_taller_14 ⟨Nat.zero_le _, Nat.zero_le _⟩) hS (fun q _ h => h) (fun q h => h) (fun r14 u14 t H locs ht hvm q14 hB hz1 hk1 hS => ?_)
    obtain ⟨hP, -, hD⟩ := hB
    rw [ht] at hP
    have hP : va_P D vwCl (mw M cZ cI (nI 1) (enc (root T)) (nI (siz T)) mo ti dr st ma isIn lf rt wy rw) H := hP
    have hD : va_D A (mw M cZ cI (nI 1) (enc (root T)) (nI (siz T)) mo ti dr st ma isIn lf rt wy rw) := hD
    subst q14
    have eK : kH x0 = 1 := kH_1 hno
    exact W.iret (v := (nI 0)) hx hb hr (fun t ht hW => ⟨⟨_, (st, ma, isIn, lf, rt, wy, rw), rfl, ⟨fun q => absurd (eK.symm.trans q) (by decide), hrep⟩, by rw [eK, ht]; exact hP, hG.moved hW, by rw [eK]; exact hD⟩, hS.F ht⟩) hS.2.2 dX2_taller_17

set_option maxHeartbeats 4000000 in
set_option maxRecDepth 100000 in
/-- would -/
theorem c_X2_would (l : Launch) {D : va_G} {cA cZ cI : ClassId} {M : Nat × Nat × Nat × Nat × Nat × Nat} {th mo ti dr st ma : Int32} {isIn lf rt wy rw : Nat → Int32} {A : Nat → Prop} {T : Tr} {x0 : Int32} (hrep : RepM T isIn lf rt) : Met l yX2_would wsX2_would ({ frames := 170, cells := 0, slots := 0, locals := 6800 } : Room) (PcM D (tysA cA cZ cI) A (mw M cZ cI th (enc (root T)) (nI (siz T)) mo ti dr st ma isIn lf rt wy rw) [.ref M.1, .int x0]) (va_Qi (S := ME) (fun r u => ((kH x0) = 0 → r = (if kx x0 ∈ keysT T then -1 else nI (anc (kx x0) T).length)) ∧ RepM (T, mo, ti, dr).1 u.2.2.1 u.2.2.2.1 u.2.2.2.2.1) (fun u => BM D (tysA cA cZ cI) A (mw M cZ cI (nI (kH x0)) (enc (root (T, mo, ti, dr).1)) (nI (siz (T, mo, ti, dr).1)) ((T, mo, ti, dr).2.1) ((T, mo, ti, dr).2.2.1) ((T, mo, ti, dr).2.2.2) u.1 u.2.1 u.2.2.1 u.2.2.2.1 u.2.2.2.2.1 u.2.2.2.2.2.1 u.2.2.2.2.2.2)) A) 0 0 A := by
  refine Met.ofW (cc := cX2_would) (maxL := 2) (ret := (some .int)) (by decide) rfl ?_
  intro p e s m args below meth c s₁ B hml hv
  obtain ⟨rfl, hA, hP, hG, hD⟩ := hv
  have hx := B.exec
  have hb := B.bytes
  have hr := B.returns
  have hts := atoms_spec (ws := wsX2_would) B.pre
  have hown : s.vm.findClass RX2 = some m.cls := findClass_of_methodNamed B.named
  have hlocks := B.notSynchronized
  have hl := lv_entry ([.ref M.1, .int x0]) (n := 2) (Nat.le_of_ble_eq_true rfl)
  rw [lg_entry_eq]
  generalize (lg_sl ([.ref M.1, .int x0]) ++ List.replicate (2 - (lg_sl ([.ref M.1, .int x0])).length) Slot.unset).toArray = ls at hl ⊢
  have hl : lv_has ls 2 [(0, .ref M.1), (1, .int x0)] := hl
  have hS : va_S A s.heap s.heap [] := va_S.rf
  obtain ⟨hb0, hin0, hsz, hs, hi⟩ := id hrep
  have hgs := hgt_siz (T := T)
  refine lv_aload_n hx hb dX2_would_0 rfl (lv_at hl 0 rfl) ?_
  refine lv_iconst (v := nI 0) hx hb dX2_would_1 (by decide) ?_
  refine va_put (D := D) (ci := 2) (v := .int (nI 0)) (ty := .int) (C := RX2) (T := TX2) (N := 13) hx hb hts (by decide +kernel) tyX2 tyX2_ok nmX2 hown hG.1 hP hD hS 0 mw_m rfl 0 (by decide) (hts (.fieldLink RX2 30 "LopsidedRanksModel" "thrown" "I") (by decide +kernel)) (fun _ h9 => h9) rfl (by decide +kernel) rfl rfl (Nat.le_of_ble_eq_true rfl) dX2_would_2 (fun H locs hP hD hS => ?_)
  have hP : va_P D vwCl (mw M cZ cI ((nI 0)) (enc (root T)) (nI (siz T)) mo ti dr st ma isIn lf rt wy rw) H := hP
  have hD : va_D A (mw M cZ cI ((nI 0)) (enc (root T)) (nI (siz T)) mo ti dr st ma isIn lf rt wy rw) := hD
  refine lv_iload_n hx hb dX2_would_5 rfl (lv_at hl 1 rfl) ?_
  refine vp_callSi (va_Run.run (va_runS (As := [.int x0]) (rest := []) ⟨hx, hb, hml, hown, hts⟩ (c_X2_isHeight l) (va_cwS 1 hts gX2_would_X2_isHeight rfl rfl rfl (by decide +kernel) ⟨Nat.le_of_ble_eq_true rfl, Nat.le_of_ble_eq_true rfl⟩) ⟨PcT.blind, PcT.at⟩ rfl rfl hl.1 rfl (lv_room (Nat.le_of_ble_eq_true rfl)) dX2_would_6 ⟨Nat.zero_le _, Nat.zero_le _⟩)) (fun r6 q6 => ?_)
  subst q6
  refine lv_if_ne (tgt := 18) hx hb dX2_would_9 (by decide) (fun c9 => ?_) (fun c9 => ?_)
  · obtain ⟨h0, hh0, rfl⟩ := hiB_not (b2i_ne c9)
    have hl : lv_has ls 2 [(0, .ref M.1), (1, .int (nI h0))] := hl
    refine lv_aload_n hx hb dX2_would_18 rfl (lv_at hl 0 rfl) ?_
    refine lv_iload_n hx hb dX2_would_19 rfl (lv_at hl 1 rfl) ?_
    refine va_callv (va_runV (As := [.int (nI h0)]) (rest := []) ⟨hx, hb, hml, hown, hts⟩ (c_X2_goTo l (T := T) hh0 hs hin0 (by omega)) (cwV 1 hts gX2_would_X2_goTo rfl rfl rfl (by decide +kernel) ⟨Nat.le_of_ble_eq_true rfl, Nat.le_of_ble_eq_true rfl⟩) ⟨PcM.blind, va_recv hG.1 hP (ci := 2) (q0 := 0) rfl mw_m, PcM.at (fun q h => hA q (Nat.le_trans hS.1 h)) hP hG hD⟩ rfl rfl hl.1 rfl (lv_room (Nat.le_of_ble_eq_true rfl)) dX2_would_20 ⟨Nat.zero_le _, Nat.zero_le _⟩) hS (fun q _ h => h) (fun q h => h) (fun wy9 t H locs ht hvm q20 hB hz1 hk1 hS => ?_)
    obtain ⟨hP, -, hD⟩ := hB
    rw [ht] at hP
    have hP : va_P D vwCl (mw M cZ cI ((nI 0)) (enc (root T)) (nI (siz T)) mo ti dr (nI ((wayT h0 T).length)) ma isIn lf rt wy9 rw) H := hP
    have hD : va_D A (mw M cZ cI ((nI 0)) (enc (root T)) (nI (siz T)) mo ti dr (nI ((wayT h0 T).length)) ma isIn lf rt wy9 rw) := hD
    refine lv_aload_n hx hb dX2_would_23 rfl (lv_at hl 0 rfl) ?_
    refine va_get (D := D) (ci := 2) (v := .ref M.2.1) (C := RX2) (T := TX2) (N := 13) hx hb hts (by decide +kernel) hown hG.1 hP 0 mw_m rfl 6 (by decide) (hts (.fieldLink RX2 13 "LopsidedRanksModel" "isIn" "[Z") (by decide +kernel)) (fun _ h9 => h9) rfl dX2_would_24 ?_
    refine lv_iload_n hx hb dX2_would_27 rfl (lv_at hl 1 rfl) ?_
    refine zr_zald hx hb hG.1 hP 1 1 mw_i rfl (k := h0) (by omega) (Nat.le_of_ble_eq_true rfl) dX2_would_28 ?_
    refine zr_eqi (hi h0 hh0) ?_
    refine lv_if_eq (tgt := 36) hx hb dX2_would_29 (by decide) (fun c29 => ?_) (fun c29 => ?_)
    · have hm : ¬ h0 ∈ keysT T := fun q => b2i_eq c29 (decide_eq_true q)
      refine lv_aload_n hx hb dX2_would_36 rfl (lv_at hl 0 rfl) ?_
      refine va_get (D := D) (ci := 2) (v := .int (nI ((wayT h0 T).length))) (C := RX2) (T := TX2) (N := 13) hx hb hts (by decide +kernel) hown hG.1 hP 0 mw_m rfl 10 (by decide) (hts (.fieldLink RX2 33 "LopsidedRanksModel" "steps" "I") (by decide +kernel)) (fun _ h9 => h9) rfl dX2_would_37 ?_
      have eK : kH (nI h0) = 0 := kH_0 hh0
      exact W.iret (v := (nI ((wayT h0 T).length))) hx hb hr (fun t ht hW => ⟨⟨_, (nI ((wayT h0 T).length), ma, isIn, lf, rt, wy9, rw), rfl, ⟨fun _ => by rw [kx_nI (by omega), if_neg hm, way_out hm], hrep⟩, by rw [eK, ht]; exact hP, hG.moved hW, by rw [eK]; exact hD⟩, hS.F ht⟩) hS.2.2 dX2_would_40
    · have hm : h0 ∈ keysT T := of_decide_eq_true (b2i_ne c29)
      refine lv_iconst (v := (-1)) hx hb dX2_would_32 (by decide) ?_
      refine lv_goto (tgt := 40) hx hb dX2_would_33 (by decide) ?_
      have eK : kH (nI h0) = 0 := kH_0 hh0
      exact W.iret (v := (-1)) hx hb hr (fun t ht hW => ⟨⟨_, (nI ((wayT h0 T).length), ma, isIn, lf, rt, wy9, rw), rfl, ⟨fun _ => by rw [kx_nI (by omega)]; exact (if_pos hm).symm, hrep⟩, by rw [eK, ht]; exact hP, hG.moved hW, by rw [eK]; exact hD⟩, hS.F ht⟩) hS.2.2 dX2_would_40
  · have hno : hiB x0 = false := Bool.eq_false_iff.mpr (b2i_eq c9)
    refine lv_aload_n hx hb dX2_would_12 rfl (lv_at hl 0 rfl) ?_
    refine lv_iconst (v := nI 1) hx hb dX2_would_13 (by decide) ?_
    refine va_calli (va_runV (As := [.int (nI 1)]) (rest := []) ⟨hx, hb, hml, hown, hts⟩ (c_X2_no l) (cwV 1 hts gX2_would_X2_no rfl rfl rfl (by decide +kernel) ⟨Nat.le_of_ble_eq_true rfl, Nat.le_of_ble_eq_true rfl⟩) ⟨PcM.blind, va_recv hG.1 hP (ci := 2) (q0 := 0) rfl mw_m, PcM.at (fun q h => hA q (Nat.le_trans hS.1 h)) hP hG hD⟩ rfl rfl hl.1 rfl (lv_room (Nat.le_of_ble_eq_true rfl)) dX2_would_14 ⟨Nat.zero_le _, Nat.zero_le _⟩) hS (fun q _ h => h) (fun q h => h) (fun r14 u14 t H locs ht hvm q14 hB hz1 hk1 hS => ?_)
    obtain ⟨hP, -, hD⟩ := hB
    rw [ht] at hP
    have hP : va_P D vwCl (mw M cZ cI (nI 1) (enc (root T)) (nI (siz T)) mo ti dr st ma isIn lf rt wy rw) H := hP
    have hD : va_D A (mw M cZ cI (nI 1) (enc (root T)) (nI (siz T)) mo ti dr st ma isIn lf rt wy rw) := hD
    subst q14
    have eK : kH x0 = 1 := kH_1 hno
    exact W.iret (v := (nI 0)) hx hb hr (fun t ht hW => ⟨⟨_, (st, ma, isIn, lf, rt, wy, rw), rfl, ⟨fun q => absurd (eK.symm.trans q) (by decide), hrep⟩, by rw [eK, ht]; exact hP, hG.moved hW, by rw [eK]; exact hD⟩, hS.F ht⟩) hS.2.2 dX2_would_17

set_option maxHeartbeats 4000000 in
set_option maxRecDepth 100000 in
/-- moves -/
theorem c_X2_moves (l : Launch) {D : va_G} {cA cZ cI : ClassId} {M : Nat × Nat × Nat × Nat × Nat × Nat} {th mo ti dr st ma : Int32} {isIn lf rt wy rw : Nat → Int32} {A : Nat → Prop} {T : Tr} {x0 : Int32} (hrep : RepM T isIn lf rt) : Met l yX2_moves wsX2_moves ({ frames := 170, cells := 0, slots := 0, locals := 6800 } : Room) (PcM D (tysA cA cZ cI) A (mw M cZ cI th (enc (root T)) (nI (siz T)) mo ti dr st ma isIn lf rt wy rw) [.ref M.1, .int x0]) (va_Qi (S := ME) (fun r u => ((kH x0) = 0 → r = enc (movT T (kx x0))) ∧ RepM (T, mo, ti, dr).1 u.2.2.1 u.2.2.2.1 u.2.2.2.2.1) (fun u => BM D (tysA cA cZ cI) A (mw M cZ cI (nI (kH x0)) (enc (root (T, mo, ti, dr).1)) (nI (siz (T, mo, ti, dr).1)) ((T, mo, ti, dr).2.1) ((T, mo, ti, dr).2.2.1) ((T, mo, ti, dr).2.2.2) u.1 u.2.1 u.2.2.1 u.2.2.2.1 u.2.2.2.2.1 u.2.2.2.2.2.1 u.2.2.2.2.2.2)) A) 0 0 A := by
  refine Met.ofW (cc := cX2_moves) (maxL := 2) (ret := (some .int)) (by decide) rfl ?_
  intro p e s m args below meth c s₁ B hml hv
  obtain ⟨rfl, hA, hP, hG, hD⟩ := hv
  have hx := B.exec
  have hb := B.bytes
  have hr := B.returns
  have hts := atoms_spec (ws := wsX2_moves) B.pre
  have hown : s.vm.findClass RX2 = some m.cls := findClass_of_methodNamed B.named
  have hlocks := B.notSynchronized
  have hl := lv_entry ([.ref M.1, .int x0]) (n := 2) (Nat.le_of_ble_eq_true rfl)
  rw [lg_entry_eq]
  generalize (lg_sl ([.ref M.1, .int x0]) ++ List.replicate (2 - (lg_sl ([.ref M.1, .int x0])).length) Slot.unset).toArray = ls at hl ⊢
  have hl : lv_has ls 2 [(0, .ref M.1), (1, .int x0)] := hl
  have hS : va_S A s.heap s.heap [] := va_S.rf
  obtain ⟨hb0, hin0, hsz, hs, hi⟩ := id hrep
  have hgs := hgt_siz (T := T)
  refine lv_aload_n hx hb dX2_moves_0 rfl (lv_at hl 0 rfl) ?_
  refine lv_iconst (v := nI 0) hx hb dX2_moves_1 (by decide) ?_
  refine va_put (D := D) (ci := 2) (v := .int (nI 0)) (ty := .int) (C := RX2) (T := TX2) (N := 13) hx hb hts (by decide +kernel) tyX2 tyX2_ok nmX2 hown hG.1 hP hD hS 0 mw_m rfl 0 (by decide) (hts (.fieldLink RX2 30 "LopsidedRanksModel" "thrown" "I") (by decide +kernel)) (fun _ h9 => h9) rfl (by decide +kernel) rfl rfl (Nat.le_of_ble_eq_true rfl) dX2_moves_2 (fun H locs hP hD hS => ?_)
  have hP : va_P D vwCl (mw M cZ cI ((nI 0)) (enc (root T)) (nI (siz T)) mo ti dr st ma isIn lf rt wy rw) H := hP
  have hD : va_D A (mw M cZ cI ((nI 0)) (enc (root T)) (nI (siz T)) mo ti dr st ma isIn lf rt wy rw) := hD
  refine lv_iload_n hx hb dX2_moves_5 rfl (lv_at hl 1 rfl) ?_
  refine vp_callSi (va_Run.run (va_runS (As := [.int x0]) (rest := []) ⟨hx, hb, hml, hown, hts⟩ (c_X2_isHeight l) (va_cwS 1 hts gX2_moves_X2_isHeight rfl rfl rfl (by decide +kernel) ⟨Nat.le_of_ble_eq_true rfl, Nat.le_of_ble_eq_true rfl⟩) ⟨PcT.blind, PcT.at⟩ rfl rfl hl.1 rfl (lv_room (Nat.le_of_ble_eq_true rfl)) dX2_moves_6 ⟨Nat.zero_le _, Nat.zero_le _⟩)) (fun r6 q6 => ?_)
  subst q6
  refine lv_if_ne (tgt := 18) hx hb dX2_moves_9 (by decide) (fun c9 => ?_) (fun c9 => ?_)
  · obtain ⟨h0, hh0, rfl⟩ := hiB_not (b2i_ne c9)
    have hl : lv_has ls 2 [(0, .ref M.1), (1, .int (nI h0))] := hl
    refine lv_aload_n hx hb dX2_moves_18 rfl (lv_at hl 0 rfl) ?_
    refine lv_iload_n hx hb dX2_moves_19 rfl (lv_at hl 1 rfl) ?_
    refine va_callv (va_runV (As := [.int (nI h0)]) (rest := []) ⟨hx, hb, hml, hown, hts⟩ (c_X2_goTo l (T := T) hh0 hs hin0 (by omega)) (cwV 1 hts gX2_moves_X2_goTo rfl rfl rfl (by decide +kernel) ⟨Nat.le_of_ble_eq_true rfl, Nat.le_of_ble_eq_true rfl⟩) ⟨PcM.blind, va_recv hG.1 hP (ci := 2) (q0 := 0) rfl mw_m, PcM.at (fun q h => hA q (Nat.le_trans hS.1 h)) hP hG hD⟩ rfl rfl hl.1 rfl (lv_room (Nat.le_of_ble_eq_true rfl)) dX2_moves_20 ⟨Nat.zero_le _, Nat.zero_le _⟩) hS (fun q _ h => h) (fun q h => h) (fun wy9 t H locs ht hvm q20 hB hz1 hk1 hS => ?_)
    obtain ⟨hP, -, hD⟩ := hB
    rw [ht] at hP
    have hP : va_P D vwCl (mw M cZ cI ((nI 0)) (enc (root T)) (nI (siz T)) mo ti dr (nI ((wayT h0 T).length)) ma isIn lf rt wy9 rw) H := hP
    have hD : va_D A (mw M cZ cI ((nI 0)) (enc (root T)) (nI (siz T)) mo ti dr (nI ((wayT h0 T).length)) ma isIn lf rt wy9 rw) := hD
    refine lv_aload_n hx hb dX2_moves_23 rfl (lv_at hl 0 rfl) ?_
    refine va_get (D := D) (ci := 2) (v := .ref M.2.1) (C := RX2) (T := TX2) (N := 13) hx hb hts (by decide +kernel) hown hG.1 hP 0 mw_m rfl 6 (by decide) (hts (.fieldLink RX2 13 "LopsidedRanksModel" "isIn" "[Z") (by decide +kernel)) (fun _ h9 => h9) rfl dX2_moves_24 ?_
    refine lv_iload_n hx hb dX2_moves_27 rfl (lv_at hl 1 rfl) ?_
    refine zr_zald hx hb hG.1 hP 1 1 mw_i rfl (k := h0) (by omega) (Nat.le_of_ble_eq_true rfl) dX2_moves_28 ?_
    refine zr_eqi (hi h0 hh0) ?_
    refine lv_if_ne (tgt := 48) hx hb dX2_moves_29 (by decide) (fun c29 => ?_) (fun c29 => ?_)
    · have hm : h0 ∈ keysT T := of_decide_eq_true (b2i_ne c29)
      refine lv_iconst (v := (-1)) hx hb dX2_moves_48 (by decide) ?_
      refine lv_goto (tgt := 57) hx hb dX2_moves_49 (by decide) ?_
      have eK : kH (nI h0) = 0 := kH_0 hh0
      exact W.iret (v := (-1)) hx hb hr (fun t ht hW => ⟨⟨_, (nI ((wayT h0 T).length), ma, isIn, lf, rt, wy9, rw), rfl, ⟨fun _ => by rw [kx_nI (by omega)]; unfold movT; rw [if_pos hm]; rfl, hrep⟩, by rw [eK, ht]; exact hP, hG.moved hW, by rw [eK]; exact hD⟩, hS.F ht⟩) hS.2.2 dX2_moves_57
    · have hm : ¬ h0 ∈ keysT T := fun q => b2i_eq c29 (decide_eq_true q)
      rw [way_out hm] at q20 hP hD
      have hal := anc_len (h := h0) (T := T)
      have hl1 := lim_pos (n := siz T + 1) (by omega)
      have hl2 := (lim_spec (n := siz T + 1) (by omega)).1
      have hP : va_P D vwCl (mw M cZ cI ((nI 0)) (enc (root T)) (nI (siz T)) mo ti dr (nI ((anc h0 T).length)) ma isIn lf rt wy9 rw) H := hP
      have hD : va_D A (mw M cZ cI ((nI 0)) (enc (root T)) (nI (siz T)) mo ti dr (nI ((anc h0 T).length)) ma isIn lf rt wy9 rw) := hD
      refine lv_aload_n hx hb dX2_moves_32 rfl (lv_at hl 0 rfl) ?_
      refine va_get (D := D) (ci := 2) (v := .int (nI ((anc h0 T).length))) (C := RX2) (T := TX2) (N := 13) hx hb hts (by decide +kernel) hown hG.1 hP 0 mw_m rfl 10 (by decide) (hts (.fieldLink RX2 33 "LopsidedRanksModel" "steps" "I") (by decide +kernel)) (fun _ h9 => h9) rfl dX2_moves_33 ?_
      refine lv_aload_n hx hb dX2_moves_36 rfl (lv_at hl 0 rfl) ?_
      refine va_get (D := D) (ci := 2) (v := .int (nI (siz T))) (C := RX2) (T := TX2) (N := 13) hx hb hts (by decide +kernel) hown hG.1 hP 0 mw_m rfl 2 (by decide) (hts (.fieldLink RX2 90 "LopsidedRanksModel" "soldiers" "I") (by decide +kernel)) (fun _ h9 => h9) rfl dX2_moves_37 ?_
      refine lv_iconst (v := nI 1) hx hb dX2_moves_40 (by decide) ?_
      refine lv_iadd hx hb dX2_moves_41 ?_
      refine zr_eqi (nI_add (siz T) 1) ?_
      refine vp_callSi (va_Run.run (va_runS (As := [.int (nI ((siz T) + 1))]) (rest := [.int (nI ((anc h0 T).length))]) ⟨hx, hb, hml, hown, hts⟩ (c_X2_allowed l (n := siz T + 1) (by omega)) (va_cwS 1 hts gX2_moves_X2_allowed rfl rfl rfl (by decide +kernel) ⟨Nat.le_of_ble_eq_true rfl, Nat.le_of_ble_eq_true rfl⟩) ⟨PcT.blind, PcT.at⟩ rfl rfl hl.1 rfl (lv_room (Nat.le_of_ble_eq_true rfl)) dX2_moves_42 ⟨Nat.zero_le _, Nat.zero_le _⟩)) (fun r42 q42 => ?_)
      subst q42
      refine zr_eqi (show pd (lim (siz T + 1)) = nI (lim (siz T + 1) - 1) from by rw [show lim (siz T + 1) = (lim (siz T + 1) - 1) + 1 by omega]; exact pd_s _) ?_
      refine lv_icmp_gt (tgt := 52) hx hb dX2_moves_45 (by decide) (fun c45 => ?_) (fun c45 => ?_)
      · rw [nI_ltI (by omega) (by omega)] at c45
        refine lv_aload_n hx hb dX2_moves_52 rfl (lv_at hl 0 rfl) ?_
        refine lv_iload_n hx hb dX2_moves_53 rfl (lv_at hl 1 rfl) ?_
        refine vp_callSi (va_Run.run (va_runV (As := [.int (nI h0)]) (rest := []) ⟨hx, hb, hml, hown, hts⟩ (c_X2_crookedWith l hh0 hrep hm q20) (cwV 1 hts gX2_moves_X2_crookedWith rfl rfl rfl (by decide +kernel) ⟨Nat.le_of_ble_eq_true rfl, Nat.le_of_ble_eq_true rfl⟩) ⟨PcR.blind, va_recv hG.1 hP (ci := 2) (q0 := 0) rfl mw_m, PcR.at hP hG⟩ rfl rfl hl.1 rfl (lv_room (Nat.le_of_ble_eq_true rfl)) dX2_moves_54 ⟨Nat.zero_le _, Nat.zero_le _⟩)) (fun r54 q54 => ?_)
        subst q54
        have eK : kH (nI h0) = 0 := kH_0 hh0
        exact W.iret (v := (enc ((anc h0 T).reverse.find? (mvP T h0)))) hx hb hr (fun t ht hW => ⟨⟨_, (nI ((anc h0 T).length), ma, isIn, lf, rt, wy9, rw), rfl, ⟨fun _ => by rw [kx_nI (by omega)]; unfold movT; rw [if_neg hm, if_neg (by omega)], hrep⟩, by rw [eK, ht]; exact hP, hG.moved hW, by rw [eK]; exact hD⟩, hS.F ht⟩) hS.2.2 dX2_moves_57
      · rw [nI_ltI (by omega) (by omega)] at c45
        refine lv_iconst (v := (-1)) hx hb dX2_moves_48 (by decide) ?_
        refine lv_goto (tgt := 57) hx hb dX2_moves_49 (by decide) ?_
        have eK : kH (nI h0) = 0 := kH_0 hh0
        exact W.iret (v := (-1)) hx hb hr (fun t ht hW => ⟨⟨_, (nI ((anc h0 T).length), ma, isIn, lf, rt, wy9, rw), rfl, ⟨fun _ => by rw [kx_nI (by omega)]; unfold movT; rw [if_neg hm, if_pos (by omega)]; rfl, hrep⟩, by rw [eK, ht]; exact hP, hG.moved hW, by rw [eK]; exact hD⟩, hS.F ht⟩) hS.2.2 dX2_moves_57
  · have hno : hiB x0 = false := Bool.eq_false_iff.mpr (b2i_eq c9)
    refine lv_aload_n hx hb dX2_moves_12 rfl (lv_at hl 0 rfl) ?_
    refine lv_iconst (v := nI 1) hx hb dX2_moves_13 (by decide) ?_
    refine va_calli (va_runV (As := [.int (nI 1)]) (rest := []) ⟨hx, hb, hml, hown, hts⟩ (c_X2_no l) (cwV 1 hts gX2_moves_X2_no rfl rfl rfl (by decide +kernel) ⟨Nat.le_of_ble_eq_true rfl, Nat.le_of_ble_eq_true rfl⟩) ⟨PcM.blind, va_recv hG.1 hP (ci := 2) (q0 := 0) rfl mw_m, PcM.at (fun q h => hA q (Nat.le_trans hS.1 h)) hP hG hD⟩ rfl rfl hl.1 rfl (lv_room (Nat.le_of_ble_eq_true rfl)) dX2_moves_14 ⟨Nat.zero_le _, Nat.zero_le _⟩) hS (fun q _ h => h) (fun q h => h) (fun r14 u14 t H locs ht hvm q14 hB hz1 hk1 hS => ?_)
    obtain ⟨hP, -, hD⟩ := hB
    rw [ht] at hP
    have hP : va_P D vwCl (mw M cZ cI (nI 1) (enc (root T)) (nI (siz T)) mo ti dr st ma isIn lf rt wy rw) H := hP
    have hD : va_D A (mw M cZ cI (nI 1) (enc (root T)) (nI (siz T)) mo ti dr st ma isIn lf rt wy rw) := hD
    subst q14
    have eK : kH x0 = 1 := kH_1 hno
    exact W.iret (v := (nI 0)) hx hb hr (fun t ht hW => ⟨⟨_, (st, ma, isIn, lf, rt, wy, rw), rfl, ⟨fun q => absurd (eK.symm.trans q) (by decide), hrep⟩, by rw [eK, ht]; exact hP, hG.moved hW, by rw [eK]; exact hD⟩, hS.F ht⟩) hS.2.2 dX2_moves_17

