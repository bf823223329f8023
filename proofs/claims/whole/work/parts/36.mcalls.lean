/-! THE REFERENCE's calls: muster, draw -/
theorem hiB_not {x : Int32} (h : hiB x = true) : ∃ j : Nat, j < 1000 ∧ x = nI j := oddH.not (fun q => by rw [hiB_f q] at h; cases h)
theorem hiB_nI {j : Nat} (h : j < 1000) : hiB (nI j) = true := hiB_t (oddH_nI h)
def kM (x : Int32) (T : Tr) : Nat := if hiB x = true then (if 150 ≤ siz T ∨ kx x ∈ keysT T then 2 else 0) else 1
def kD (x : Int32) (T : Tr) : Nat := if hiB x = true then (if kx x ∈ keysT T then 0 else 2) else 1
theorem kM_1 {x : Int32} {T : Tr} (h : hiB x = false) : kM x T = 1 := if_neg (by rw [h]; decide)
theorem kM_2 {j : Nat} {T : Tr} (hj : j < 1000) (h : 150 ≤ siz T ∨ j ∈ keysT T) : kM (nI j) T = 2 := by
  unfold kM
  rw [if_pos (hiB_nI hj), kx_nI (by omega), if_pos h]
theorem kM_0 {j : Nat} {T : Tr} (hj : j < 1000) (h : ¬ (150 ≤ siz T ∨ j ∈ keysT T)) : kM (nI j) T = 0 := by
  unfold kM
  rw [if_pos (hiB_nI hj), kx_nI (by omega), if_neg h]
theorem kD_1 {x : Int32} {T : Tr} (h : hiB x = false) : kD x T = 1 := if_neg (by rw [h]; decide)
theorem kD_2 {j : Nat} {T : Tr} (hj : j < 1000) (h : j ∉ keysT T) : kD (nI j) T = 2 := by
  unfold kD
  rw [if_pos (hiB_nI hj), kx_nI (by omega), if_neg h]
theorem kD_0 {j : Nat} {T : Tr} (hj : j < 1000) (h : j ∈ keysT T) : kD (nI j) T = 0 := by
  unfold kD
  rw [if_pos (hiB_nI hj), kx_nI (by omega), if_pos h]
/-- the state behind a muster, a draw, a discharge, refused or not -/
def musZ (x : Int32) (S : RS) : RS := if kM x S.1 = 0 then musS (kx x) S else S
def draZ (x : Int32) (S : RS) : RS := if kD x S.1 = 0 then drawS (kx x) S else S
def disZ (x : Int32) (S : RS) : RS := if kD x S.1 = 0 then disS (kx x) S else S
theorem way_par {wy : Nat → Int32} {h : Nat} {T : Tr} (hw : ∀ j k, (anc h T)[j]? = some k → wy j = nI k) : ((anc h T).length = 0 → enc (parF h none T) = -1) ∧ (¬ (anc h T).length = 0 → wy ((anc h T).length - 1) = enc (parF h none T)) := by
  rw [parF_last]
  refine ⟨fun h1 => ?_, fun h1 => ?_⟩
  · rw [List.length_eq_zero_iff.mp h1]
    rfl
  · obtain ⟨z, hz⟩ : ∃ z, (anc h T)[(anc h T).length - 1]? = some z := ⟨_, List.getElem?_eq_getElem (by omega)⟩
    rw [List.getLast?_eq_getElem?, hz, hw _ z hz]
    rfl
theorem insM {T : Tr} {isIn lf rt : Nat → Int32} {h : Nat} (hrep : RepM T isIn lf rt) (hh : h < 1000) (hm : h ∉ keysT T) (hz : siz T < 150) : RepM (insT h T) (upd isIn h (nI 1)) (upd (hgL lf (parF h none T) h (nI h)) h (-1)) (upd (hgR rt (parF h none T) h (nI h)) h (-1)) ∧ hgTp (enc (root T)) (parF h none T) (nI h) = enc (root (insT h T)) := by
  obtain ⟨hb, hin, -, hs, hi⟩ := hrep
  obtain ⟨e1, e2, e3, e0, e4, e5, e6, e7⟩ := ins_facts hb hm
  have hkl : h ∉ kl h T ∧ h ∉ kr h T := ⟨fun q => hm (by rw [e1]; exact List.mem_append_left _ q), fun q => hm (by rw [e1]; exact List.mem_append_right _ q)⟩
  have hne : ∀ k ∈ keysT T, k ≠ h := fun k hk e => hm (e ▸ hk)
  have hp : ¬ parF h none T = some h := fun q => hm (parF_mem q)
  obtain ⟨z1, z2⟩ := hangM (lf1 := upd lf h (-1)) (rt1 := upd rt h (-1)) (t := nd_ lf_ h lf_) hb hs ⟨upd_s _ _ _, upd_s _ _ _, trivial, trivial⟩ (fun k hk _ => ⟨upd_n _ _ (hne k hk), upd_n _ _ (hne k hk)⟩) (fun j hj => by
    have : j = h := by simpa [keysT] using hj
    subst this
    exact hkl)
  refine ⟨⟨e6, fun k hk => ?_, by omega, ShM_cong (fun k _ => ?_) z1, fun k hk => ?_⟩, z2⟩
  · rcases (e7 k).mp hk with q | q
    · exact hin k q
    · subst q; exact hh
  · rw [hgL_at, hgR_at]
    by_cases e : k = h
    · subst e
      rw [upd_s, upd_s, upd_s, upd_s, if_neg (fun q => hp q.1), if_neg (fun q => hp q.1)]
      exact ⟨rfl, rfl⟩
    · rw [upd_n _ _ e, upd_n _ _ e, upd_n _ _ e, upd_n _ _ e, hgL_at, hgR_at]
      exact ⟨rfl, rfl⟩
  · by_cases e : k = h
    · subst e
      rw [upd_s, decide_eq_true ((e7 k).mpr (Or.inr rfl))]
      rfl
    · rw [upd_n _ _ e, hi k hk]
      congr 1
      exact decide_eq_decide.mpr ⟨fun q => (e7 k).mpr (Or.inl q), fun q => ((e7 k).mp q).resolve_right e⟩
theorem moM_max {mo n : Int32} : (if mo < n then n else mo) = moM mo n := by
  unfold moM
  by_cases h : mo < n
  · rw [if_pos h, if_neg (fun q => Int32.not_lt.mpr q h)]
  · rw [if_neg h, if_pos (Int32.not_lt.mp h)]
set_option maxHeartbeats 4000000 in
set_option maxRecDepth 100000 in
/-- no(number) -/
theorem c_X2_no (l : Launch) {D : va_G} {cA cZ cI : ClassId} {M : Nat × Nat × Nat × Nat × Nat × Nat} {th tp n mo ti dr st ma : Int32} {isIn lf rt wy rw : Nat → Int32} {A : Nat → Prop} {v0 : Int32} : Met l yX2_no wsX2_no ({ frames := 0, cells := 0, slots := 0, locals := 0 } : Room) (PcM D (tysA cA cZ cI) A (mw M cZ cI th tp n mo ti dr st ma isIn lf rt wy rw) [.ref M.1, .int v0]) (va_Qi (S := Unit) (fun r _ => r = nI 0) (fun _ => BM D (tysA cA cZ cI) A (mw M cZ cI v0 tp n mo ti dr st ma isIn lf rt wy rw)) A) 0 0 A := by
  refine Met.ofW (cc := cX2_no) (maxL := 2) (ret := (some .int)) (by decide) rfl ?_
  intro p e s m args below meth c s₁ B hml hv
  obtain ⟨rfl, hA, hP, hG, hD⟩ := hv
  have hx := B.exec
  have hb := B.bytes
  have hr := B.returns
  have hts := atoms_spec (ws := wsX2_no) B.pre
  have hown : s.vm.findClass RX2 = some m.cls := findClass_of_methodNamed B.named
  have hlocks := B.notSynchronized
  have hl := lv_entry ([.ref M.1, .int v0]) (n := 2) (Nat.le_of_ble_eq_true rfl)
  rw [lg_entry_eq]
  generalize (lg_sl ([.ref M.1, .int v0]) ++ List.replicate (2 - (lg_sl ([.ref M.1, .int v0])).length) Slot.unset).toArray = ls at hl ⊢
  have hl : lv_has ls 2 [(0, .ref M.1), (1, .int v0)] := hl
  have hS : va_S A s.heap s.heap [] := va_S.rf
  refine lv_aload_n hx hb dX2_no_0 rfl (lv_at hl 0 rfl) ?_
  refine lv_iload_n hx hb dX2_no_1 rfl (lv_at hl 1 rfl) ?_
  refine va_put (D := D) (ci := 2) (v := .int v0) (ty := .int) (C := RX2) (T := TX2) (N := 13) hx hb hts (by decide +kernel) tyX2 tyX2_ok nmX2 hown hG.1 hP hD hS 0 mw_m rfl 0 (by decide) (hts (.fieldLink RX2 30 "LopsidedRanksModel" "thrown" "I") (by decide +kernel)) (fun _ h9 => h9) rfl (by decide +kernel) rfl rfl (Nat.le_of_ble_eq_true rfl) dX2_no_2 (fun H locs hP hD hS => ?_)
  have hP : va_P D vwCl (mw M cZ cI v0 tp n mo ti dr st ma isIn lf rt wy rw) H := hP
  have hD : va_D A (mw M cZ cI v0 tp n mo ti dr st ma isIn lf rt wy rw) := hD
  refine lv_iconst (v := nI 0) hx hb dX2_no_5 (by decide) ?_
  exact W.iret (v := (nI 0)) hx hb hr (fun t ht hW => ⟨⟨_, (), rfl, rfl, by rw [ht]; exact hP, hG.moved hW, hD⟩, hS.F ht⟩) hS.2.2 dX2_no_6

set_option maxHeartbeats 4000000 in
set_option maxRecDepth 100000 in
/-- thrown() -/
theorem c_X2_thrown (l : Launch) {D : va_G} {cA cZ cI : ClassId} {M : Nat × Nat × Nat × Nat × Nat × Nat} {th tp n mo ti dr st ma : Int32} {isIn lf rt wy rw : Nat → Int32} : Met l yX2_thrown wsX2_thrown ({ frames := 0, cells := 0, slots := 0, locals := 0 } : Room) (PcR D (tysA cA cZ cI) (mw M cZ cI th tp n mo ti dr st ma isIn lf rt wy rw) [.ref M.1]) (vp_Si (fun r => r = th)) 0 0 (fun _ => False) := by
  refine Met.ofW (cc := cX2_thrown) (maxL := 1) (ret := (some .int)) (by decide) rfl ?_
  intro p e s m args below meth c s₁ B hml hv
  obtain ⟨rfl, hP, hG⟩ := hv
  have hx := B.exec
  have hb := B.bytes
  have hr := B.returns
  have hts := atoms_spec (ws := wsX2_thrown) B.pre
  have hown : s.vm.findClass RX2 = some m.cls := findClass_of_methodNamed B.named
  have hlocks := B.notSynchronized
  have hl := lv_entry ([.ref M.1]) (n := 1) (Nat.le_of_ble_eq_true rfl)
  rw [lg_entry_eq]
  generalize (lg_sl ([.ref M.1]) ++ List.replicate (1 - (lg_sl ([.ref M.1])).length) Slot.unset).toArray = ls at hl ⊢
  have hl : lv_has ls 1 [(0, .ref M.1)] := hl
  refine lv_aload_n hx hb dX2_thrown_0 rfl (lv_at hl 0 rfl) ?_
  refine va_get (D := D) (ci := 2) (v := .int th) (C := RX2) (T := TX2) (N := 13) hx hb hts (by decide +kernel) hown hG.1 hP 0 mw_m rfl 0 (by decide) (hts (.fieldLink RX2 30 "LopsidedRanksModel" "thrown" "I") (by decide +kernel)) (fun _ h9 => h9) rfl dX2_thrown_1 ?_
  exact W.iret (v := th) hx hb hr (fun t ht hW => ⟨_, rfl, rfl, ht⟩) (fun q hq => absurd hq List.not_mem_nil) dX2_thrown_4

set_option maxHeartbeats 4000000 in
set_option maxRecDepth 100000 in
/-- muster -/
theorem c_X2_muster (l : Launch) {D : va_G} {cA cZ cI : ClassId} {M : Nat × Nat × Nat × Nat × Nat × Nat} {th mo ti dr st ma : Int32} {isIn lf rt wy rw : Nat → Int32} {A : Nat → Prop} {T : Tr} {x0 : Int32} (hrep : RepM T isIn lf rt) : Met l yX2_muster wsX2_muster ({ frames := 170, cells := 0, slots := 0, locals := 6800 } : Room) (PcM D (tysA cA cZ cI) A (mw M cZ cI th (enc (root T)) (nI (siz T)) mo ti dr st ma isIn lf rt wy rw) [.ref M.1, .int x0]) (va_Qi (S := ME) (fun r u => ((kM x0 T) = 0 → r = nI ((anc (kx x0) (musS (kx x0) (T, mo, ti, dr)).1).length)) ∧ RepM (musZ x0 (T, mo, ti, dr)).1 u.2.2.1 u.2.2.2.1 u.2.2.2.2.1) (fun u => BM D (tysA cA cZ cI) A (mw M cZ cI (nI (kM x0 T)) (enc (root (musZ x0 (T, mo, ti, dr)).1)) (nI (siz (musZ x0 (T, mo, ti, dr)).1)) ((musZ x0 (T, mo, ti, dr)).2.1) ((musZ x0 (T, mo, ti, dr)).2.2.1) ((musZ x0 (T, mo, ti, dr)).2.2.2) u.1 u.2.1 u.2.2.1 u.2.2.2.1 u.2.2.2.2.1 u.2.2.2.2.2.1 u.2.2.2.2.2.2)) A) 0 0 A := by
  refine Met.ofW (cc := cX2_muster) (maxL := 3) (ret := (some .int)) (by decide) rfl ?_
  intro p e s m args below meth c s₁ B hml hv
  obtain ⟨rfl, hA, hP, hG, hD⟩ := hv
  have hx := B.exec
  have hb := B.bytes
  have hr := B.returns
  have hts := atoms_spec (ws := wsX2_muster) B.pre
  have hown : s.vm.findClass RX2 = some m.cls := findClass_of_methodNamed B.named
  have hlocks := B.notSynchronized
  have hl := lv_entry ([.ref M.1, .int x0]) (n := 3) (Nat.le_of_ble_eq_true rfl)
  rw [lg_entry_eq]
  generalize (lg_sl ([.ref M.1, .int x0]) ++ List.replicate (3 - (lg_sl ([.ref M.1, .int x0])).length) Slot.unset).toArray = ls at hl ⊢
  have hl : lv_has ls 3 [(0, .ref M.1), (1, .int x0)] := hl
  have hS : va_S A s.heap s.heap [] := va_S.rf
  obtain ⟨hb0, hin0, hsz, hs, hi⟩ := id hrep
  have hgs := hgt_siz (T := T)
  refine lv_aload_n hx hb dX2_muster_0 rfl (lv_at hl 0 rfl) ?_
  refine lv_iconst (v := nI 0) hx hb dX2_muster_1 (by decide) ?_
  refine va_put (D := D) (ci := 2) (v := .int (nI 0)) (ty := .int) (C := RX2) (T := TX2) (N := 13) hx hb hts (by decide +kernel) tyX2 tyX2_ok nmX2 hown hG.1 hP hD hS 0 mw_m rfl 0 (by decide) (hts (.fieldLink RX2 30 "LopsidedRanksModel" "thrown" "I") (by decide +kernel)) (fun _ h9 => h9) rfl (by decide +kernel) rfl rfl (Nat.le_of_ble_eq_true rfl) dX2_muster_2 (fun H locs hP hD hS => ?_)
  have hP : va_P D vwCl (mw M cZ cI ((nI 0)) (enc (root T)) (nI (siz T)) mo ti dr st ma isIn lf rt wy rw) H := hP
  have hD : va_D A (mw M cZ cI ((nI 0)) (enc (root T)) (nI (siz T)) mo ti dr st ma isIn lf rt wy rw) := hD
  refine lv_iload_n hx hb dX2_muster_5 rfl (lv_at hl 1 rfl) ?_
  refine vp_callSi (va_Run.run (va_runS (As := [.int x0]) (rest := []) ⟨hx, hb, hml, hown, hts⟩ (c_X2_isHeight l) (va_cwS 1 hts gX2_muster_X2_isHeight rfl rfl rfl (by decide +kernel) ⟨Nat.le_of_ble_eq_true rfl, Nat.le_of_ble_eq_true rfl⟩) ⟨PcT.blind, PcT.at⟩ rfl rfl hl.1 rfl (lv_room (Nat.le_of_ble_eq_true rfl)) dX2_muster_6 ⟨Nat.zero_le _, Nat.zero_le _⟩)) (fun r6 q6 => ?_)
  subst q6
  refine lv_if_ne (tgt := 18) hx hb dX2_muster_9 (by decide) (fun c9 => ?_) (fun c9 => ?_)
  · obtain ⟨h0, hh0, rfl⟩ := hiB_not (b2i_ne c9)
    have hl : lv_has ls 3 [(0, .ref M.1), (1, .int (nI h0))] := hl
    refine lv_aload_n hx hb dX2_muster_18 rfl (lv_at hl 0 rfl) ?_
    refine va_get (D := D) (ci := 2) (v := .ref M.2.1) (C := RX2) (T := TX2) (N := 13) hx hb hts (by decide +kernel) hown hG.1 hP 0 mw_m rfl 6 (by decide) (hts (.fieldLink RX2 13 "LopsidedRanksModel" "isIn" "[Z") (by decide +kernel)) (fun _ h9 => h9) rfl dX2_muster_19 ?_
    refine lv_iload_n hx hb dX2_muster_22 rfl (lv_at hl 1 rfl) ?_
    refine zr_zald hx hb hG.1 hP 1 1 mw_i rfl (k := h0) (by omega) (Nat.le_of_ble_eq_true rfl) dX2_muster_23 ?_
    refine zr_eqi (hi h0 hh0) ?_
    refine lv_if_ne (tgt := 37) hx hb dX2_muster_24 (by decide) (fun c24 => ?_) (fun c24 => ?_)
    · have hm : h0 ∈ keysT T := of_decide_eq_true (b2i_ne c24)
      refine lv_aload_n hx hb dX2_muster_37 rfl (lv_at hl 0 rfl) ?_
      refine lv_iconst (v := nI 2) hx hb dX2_muster_38 (by decide) ?_
      refine va_calli (va_runV (As := [.int (nI 2)]) (rest := []) ⟨hx, hb, hml, hown, hts⟩ (c_X2_no l) (cwV 1 hts gX2_muster_X2_no rfl rfl rfl (by decide +kernel) ⟨Nat.le_of_ble_eq_true rfl, Nat.le_of_ble_eq_true rfl⟩) ⟨PcM.blind, va_recv hG.1 hP (ci := 2) (q0 := 0) rfl mw_m, PcM.at (fun q h => hA q (Nat.le_trans hS.1 h)) hP hG hD⟩ rfl rfl hl.1 rfl (lv_room (Nat.le_of_ble_eq_true rfl)) dX2_muster_39 ⟨Nat.zero_le _, Nat.zero_le _⟩) hS (fun q _ h => h) (fun q h => h) (fun r39 u39 t H locs ht hvm q39 hB hz1 hk1 hS => ?_)
      obtain ⟨hP, -, hD⟩ := hB
      rw [ht] at hP
      have hP : va_P D vwCl (mw M cZ cI (nI 2) (enc (root T)) (nI (siz T)) mo ti dr st ma isIn lf rt wy rw) H := hP
      have hD : va_D A (mw M cZ cI (nI 2) (enc (root T)) (nI (siz T)) mo ti dr st ma isIn lf rt wy rw) := hD
      subst q39
      have eK : kM (nI h0) T = 2 := kM_2 hh0 (Or.inr hm)
      exact W.iret (v := (nI 0)) hx hb hr (fun t ht hW => ⟨⟨_, (st, ma, isIn, lf, rt, wy, rw), rfl, ⟨fun q => absurd (eK.symm.trans q) (by decide), by rw [show musZ (nI h0) (T, mo, ti, dr) = (T, mo, ti, dr) from if_neg (by show ¬ kM (nI h0) T = 0; rw [eK]; decide)]; exact hrep⟩, by rw [eK, show musZ (nI h0) (T, mo, ti, dr) = (T, mo, ti, dr) from if_neg (by show ¬ kM (nI h0) T = 0; rw [eK]; decide), ht]; exact hP, hG.moved hW, by rw [eK, show musZ (nI h0) (T, mo, ti, dr) = (T, mo, ti, dr) from if_neg (by show ¬ kM (nI h0) T = 0; rw [eK]; decide)]; exact hD⟩, hS.F ht⟩) hS.2.2 dX2_muster_42
    · have hm : ¬ h0 ∈ keysT T := fun q => b2i_eq c24 (decide_eq_true q)
      refine lv_aload_n hx hb dX2_muster_27 rfl (lv_at hl 0 rfl) ?_
      refine va_get (D := D) (ci := 2) (v := .int (nI (siz T))) (C := RX2) (T := TX2) (N := 13) hx hb hts (by decide +kernel) hown hG.1 hP 0 mw_m rfl 2 (by decide) (hts (.fieldLink RX2 90 "LopsidedRanksModel" "soldiers" "I") (by decide +kernel)) (fun _ h9 => h9) rfl dX2_muster_28 ?_
      refine lv_sipush (v := nI 150) hx hb dX2_muster_31 (by decide) ?_
      refine lv_icmp_ne (tgt := 43) hx hb dX2_muster_34 (by decide) (fun c34 => ?_) (fun c34 => ?_)
      · rw [nI_eq (by omega) (by omega)] at c34
        have hz : siz T < 150 := by omega
        obtain ⟨hr1, ht1⟩ := insM hrep hh0 hm hz
        obtain ⟨e1, e2, e3, e0, e4, e5, e6, e7⟩ := ins_facts hb0 hm
        have hal := anc_len (h := h0) (T := T)
        have hl1 := lim_pos (n := siz T + 1) (by omega)
        have hl2 := (lim_spec (n := siz T + 1) (by omega)).1
        refine lv_aload_n hx hb dX2_muster_43 rfl (lv_at hl 0 rfl) ?_
        refine lv_iload_n hx hb dX2_muster_44 rfl (lv_at hl 1 rfl) ?_
        refine va_callv (va_runV (As := [.int (nI h0)]) (rest := []) ⟨hx, hb, hml, hown, hts⟩ (c_X2_goTo l (T := T) hh0 hs hin0 (by omega)) (cwV 1 hts gX2_muster_X2_goTo rfl rfl rfl (by decide +kernel) ⟨Nat.le_of_ble_eq_true rfl, Nat.le_of_ble_eq_true rfl⟩) ⟨PcM.blind, va_recv hG.1 hP (ci := 2) (q0 := 0) rfl mw_m, PcM.at (fun q h => hA q (Nat.le_trans hS.1 h)) hP hG hD⟩ rfl rfl hl.1 rfl (lv_room (Nat.le_of_ble_eq_true rfl)) dX2_muster_45 ⟨Nat.zero_le _, Nat.zero_le _⟩) hS (fun q _ h => h) (fun q h => h) (fun wy9 t H locs ht hvm q45 hB hz1 hk1 hS => ?_)
        obtain ⟨hP, -, hD⟩ := hB
        rw [ht] at hP
        have hP : va_P D vwCl (mw M cZ cI ((nI 0)) (enc (root T)) (nI (siz T)) mo ti dr (nI ((wayT h0 T).length)) ma isIn lf rt wy9 rw) H := hP
        have hD : va_D A (mw M cZ cI ((nI 0)) (enc (root T)) (nI (siz T)) mo ti dr (nI ((wayT h0 T).length)) ma isIn lf rt wy9 rw) := hD
        rw [way_out hm] at q45 hP hD
        obtain ⟨wp1, wp2⟩ := way_par q45
        have hP : va_P D vwCl (mw M cZ cI ((nI 0)) (enc (root T)) (nI (siz T)) mo ti dr (nI ((anc h0 T).length)) ma isIn lf rt wy9 rw) H := hP
        have hD : va_D A (mw M cZ cI ((nI 0)) (enc (root T)) (nI (siz T)) mo ti dr (nI ((anc h0 T).length)) ma isIn lf rt wy9 rw) := hD
        refine lv_aload_n hx hb dX2_muster_48 rfl (lv_at hl 0 rfl) ?_
        refine va_get (D := D) (ci := 2) (v := .int (nI ((anc h0 T).length))) (C := RX2) (T := TX2) (N := 13) hx hb hts (by decide +kernel) hown hG.1 hP 0 mw_m rfl 10 (by decide) (hts (.fieldLink RX2 33 "LopsidedRanksModel" "steps" "I") (by decide +kernel)) (fun _ h9 => h9) rfl dX2_muster_49 ?_
        refine lv_aload_n hx hb dX2_muster_52 rfl (lv_at hl 0 rfl) ?_
        refine va_get (D := D) (ci := 2) (v := .int (nI (siz T))) (C := RX2) (T := TX2) (N := 13) hx hb hts (by decide +kernel) hown hG.1 hP 0 mw_m rfl 2 (by decide) (hts (.fieldLink RX2 90 "LopsidedRanksModel" "soldiers" "I") (by decide +kernel)) (fun _ h9 => h9) rfl dX2_muster_53 ?_
        refine lv_iconst (v := nI 1) hx hb dX2_muster_56 (by decide) ?_
        refine lv_iadd hx hb dX2_muster_57 ?_
        refine zr_eqi (nI_add (siz T) 1) ?_
        refine vp_callSi (va_Run.run (va_runS (As := [.int (nI ((siz T) + 1))]) (rest := [.int (nI ((anc h0 T).length))]) ⟨hx, hb, hml, hown, hts⟩ (c_X2_allowed l (n := siz T + 1) (by omega)) (va_cwS 1 hts gX2_muster_X2_allowed rfl rfl rfl (by decide +kernel) ⟨Nat.le_of_ble_eq_true rfl, Nat.le_of_ble_eq_true rfl⟩) ⟨PcT.blind, PcT.at⟩ rfl rfl hl.1 rfl (lv_room (Nat.le_of_ble_eq_true rfl)) dX2_muster_58 ⟨Nat.zero_le _, Nat.zero_le _⟩)) (fun r58 q58 => ?_)
        subst q58
        refine zr_eqi (show pd (lim (siz T + 1)) = nI (lim (siz T + 1) - 1) from by rw [show lim (siz T + 1) = (lim (siz T + 1) - 1) + 1 by omega]; exact pd_s _) ?_
        refine lv_icmp_le (tgt := 72) hx hb dX2_muster_61 (by decide) (fun c61 => ?_) (fun c61 => ?_)
        · rw [nI_leI (by omega) (by omega)] at c61
          refine lv_iconst (v := (-1)) hx hb dX2_muster_72 (by decide) ?_
          have emv : mcT T h0 = none := if_pos (show (anc h0 T).length + 1 ≤ lim (siz T + 1) by omega)
          refine zr_eqi (show _ = enc (mcT T h0) by rw [emv]; rfl) ?_
          refine lv_istore_n (lv' := [(2, .int (enc (mcT T h0))), (0, .ref M.1), (1, .int (nI h0))]) hx hb dX2_muster_73 rfl hl (by decide) rfl (fun ls hl => ?_)
          refine lv_aload_n hx hb dX2_muster_74 rfl (lv_at hl 1 rfl) ?_
          refine lv_aload_n hx hb dX2_muster_75 rfl (lv_at hl 1 rfl) ?_
          refine va_get (D := D) (ci := 2) (v := .int (nI ((anc h0 T).length))) (C := RX2) (T := TX2) (N := 13) hx hb hts (by decide +kernel) hown hG.1 hP 0 mw_m rfl 10 (by decide) (hts (.fieldLink RX2 33 "LopsidedRanksModel" "steps" "I") (by decide +kernel)) (fun _ h9 => h9) rfl dX2_muster_76 ?_
          refine lv_if_ne (tgt := 86) hx hb dX2_muster_79 (by decide) (fun c79 => ?_) (fun c79 => ?_)
          · replace c79 := (not_congr (zr_eq0 (by omega))).mp c79
            refine lv_aload_n hx hb dX2_muster_86 rfl (lv_at hl 1 rfl) ?_
            refine va_get (D := D) (ci := 2) (v := .ref M.2.2.2.2.1) (C := RX2) (T := TX2) (N := 13) hx hb hts (by decide +kernel) hown hG.1 hP 0 mw_m rfl 9 (by decide) (hts (.fieldLink RX2 24 "LopsidedRanksModel" "way" "[I") (by decide +kernel)) (fun _ h9 => h9) rfl dX2_muster_87 ?_
            refine lv_aload_n hx hb dX2_muster_90 rfl (lv_at hl 1 rfl) ?_
            refine va_get (D := D) (ci := 2) (v := .int (nI ((anc h0 T).length))) (C := RX2) (T := TX2) (N := 13) hx hb hts (by decide +kernel) hown hG.1 hP 0 mw_m rfl 10 (by decide) (hts (.fieldLink RX2 33 "LopsidedRanksModel" "steps" "I") (by decide +kernel)) (fun _ h9 => h9) rfl dX2_muster_91 ?_
            refine lv_iconst (v := nI 1) hx hb dX2_muster_94 (by decide) ?_
            refine lv_isub hx hb dX2_muster_95 ?_
            refine zr_eqi (pk_sub (a := (anc h0 T).length) (b := 1) (by omega)) ?_
            refine zr_iald hx hb hG.1 hP 4 2 mw_w rfl (k := ((anc h0 T).length) - 1) (by omega) (Nat.le_of_ble_eq_true rfl) dX2_muster_96 ?_
            refine zr_eqi (show _ = enc (parF h0 none T) from wp2 c79) ?_
            refine lv_iload_n hx hb dX2_muster_97 rfl (lv_at hl 2 rfl) ?_
            refine lv_iload_n hx hb dX2_muster_98 rfl (lv_at hl 2 rfl) ?_
            refine va_callv (va_runV (As := [.int (enc (parF h0 none T)), .int (nI h0), .int (nI h0)]) (rest := []) ⟨hx, hb, hml, hown, hts⟩ (c_X2_hang l (p0 := parF h0 none T) hh0 (fun c e => hin0 c (parF_mem e))) (cwV 3 hts gX2_muster_X2_hang rfl rfl rfl (by decide +kernel) ⟨Nat.le_of_ble_eq_true rfl, Nat.le_of_ble_eq_true rfl⟩) ⟨PcM.blind, va_recv hG.1 hP (ci := 2) (q0 := 0) rfl mw_m, PcM.at (fun q h => hA q (Nat.le_trans hS.1 h)) hP hG hD⟩ rfl rfl hl.1 rfl (lv_room (Nat.le_of_ble_eq_true rfl)) dX2_muster_99 ⟨Nat.zero_le _, Nat.zero_le _⟩) hS (fun q _ h => h) (fun q h => h) (fun u99 t H locs ht hvm q99 hB hz1 hk1 hS => ?_)
            obtain ⟨hP, -, hD⟩ := hB
            rw [ht] at hP
            have hP : va_P D vwCl (mw M cZ cI ((nI 0)) (hgTp (enc (root T)) (parF h0 none T) (nI h0)) (nI (siz T)) mo ti dr (nI ((anc h0 T).length)) ma isIn (hgL lf (parF h0 none T) h0 (nI h0)) (hgR rt (parF h0 none T) h0 (nI h0)) wy9 rw) H := hP
            have hD : va_D A (mw M cZ cI ((nI 0)) (hgTp (enc (root T)) (parF h0 none T) (nI h0)) (nI (siz T)) mo ti dr (nI ((anc h0 T).length)) ma isIn (hgL lf (parF h0 none T) h0 (nI h0)) (hgR rt (parF h0 none T) h0 (nI h0)) wy9 rw) := hD
            rw [ht1] at hP hD
            have hP : va_P D vwCl (mw M cZ cI ((nI 0)) (enc (root (insT h0 T))) (nI (siz T)) mo ti dr (nI ((anc h0 T).length)) ma isIn (hgL lf (parF h0 none T) h0 (nI h0)) (hgR rt (parF h0 none T) h0 (nI h0)) wy9 rw) H := hP
            have hD : va_D A (mw M cZ cI ((nI 0)) (enc (root (insT h0 T))) (nI (siz T)) mo ti dr (nI ((anc h0 T).length)) ma isIn (hgL lf (parF h0 none T) h0 (nI h0)) (hgR rt (parF h0 none T) h0 (nI h0)) wy9 rw) := hD
            refine lv_aload_n hx hb dX2_muster_102 rfl (lv_at hl 1 rfl) ?_
            refine va_get (D := D) (ci := 2) (v := .ref M.2.1) (C := RX2) (T := TX2) (N := 13) hx hb hts (by decide +kernel) hown hG.1 hP 0 mw_m rfl 6 (by decide) (hts (.fieldLink RX2 13 "LopsidedRanksModel" "isIn" "[Z") (by decide +kernel)) (fun _ h9 => h9) rfl dX2_muster_103 ?_
            refine lv_iload_n hx hb dX2_muster_106 rfl (lv_at hl 2 rfl) ?_
            refine lv_iconst (v := nI 1) hx hb dX2_muster_107 (by decide) ?_
            refine zr_zast hx hb hG.1 hP hD hS 1 1 mw_i rfl (k := h0) (by omega) (Nat.le_of_ble_eq_true rfl) rfl dX2_muster_108 (fun H locs hP hD hS => ?_)
            have hP : va_P D vwCl (mw M cZ cI ((nI 0)) (enc (root (insT h0 T))) (nI (siz T)) mo ti dr (nI ((anc h0 T).length)) ma (upd isIn h0 (nI 1)) (hgL lf (parF h0 none T) h0 (nI h0)) (hgR rt (parF h0 none T) h0 (nI h0)) wy9 rw) H := hP
            have hD : va_D A (mw M cZ cI ((nI 0)) (enc (root (insT h0 T))) (nI (siz T)) mo ti dr (nI ((anc h0 T).length)) ma (upd isIn h0 (nI 1)) (hgL lf (parF h0 none T) h0 (nI h0)) (hgR rt (parF h0 none T) h0 (nI h0)) wy9 rw) := hD
            refine lv_aload_n hx hb dX2_muster_109 rfl (lv_at hl 1 rfl) ?_
            refine va_get (D := D) (ci := 2) (v := .ref M.2.2.1) (C := RX2) (T := TX2) (N := 13) hx hb hts (by decide +kernel) hown hG.1 hP 0 mw_m rfl 7 (by decide) (hts (.fieldLink RX2 17 "LopsidedRanksModel" "left" "[I") (by decide +kernel)) (fun _ h9 => h9) rfl dX2_muster_110 ?_
            refine lv_iload_n hx hb dX2_muster_113 rfl (lv_at hl 2 rfl) ?_
            refine lv_iconst (v := (-1)) hx hb dX2_muster_114 (by decide) ?_
            refine zr_iast hx hb hG.1 hP hD hS 2 2 mw_l rfl (k := h0) (by omega) (Nat.le_of_ble_eq_true rfl) dX2_muster_115 (fun H locs hP hD hS => ?_)
            have hP : va_P D vwCl (mw M cZ cI ((nI 0)) (enc (root (insT h0 T))) (nI (siz T)) mo ti dr (nI ((anc h0 T).length)) ma (upd isIn h0 (nI 1)) (upd (hgL lf (parF h0 none T) h0 (nI h0)) h0 (-1)) (hgR rt (parF h0 none T) h0 (nI h0)) wy9 rw) H := hP
            have hD : va_D A (mw M cZ cI ((nI 0)) (enc (root (insT h0 T))) (nI (siz T)) mo ti dr (nI ((anc h0 T).length)) ma (upd isIn h0 (nI 1)) (upd (hgL lf (parF h0 none T) h0 (nI h0)) h0 (-1)) (hgR rt (parF h0 none T) h0 (nI h0)) wy9 rw) := hD
            refine lv_aload_n hx hb dX2_muster_116 rfl (lv_at hl 1 rfl) ?_
            refine va_get (D := D) (ci := 2) (v := .ref M.2.2.2.1) (C := RX2) (T := TX2) (N := 13) hx hb hts (by decide +kernel) hown hG.1 hP 0 mw_m rfl 8 (by decide) (hts (.fieldLink RX2 21 "LopsidedRanksModel" "right" "[I") (by decide +kernel)) (fun _ h9 => h9) rfl dX2_muster_117 ?_
            refine lv_iload_n hx hb dX2_muster_120 rfl (lv_at hl 2 rfl) ?_
            refine lv_iconst (v := (-1)) hx hb dX2_muster_121 (by decide) ?_
            refine zr_iast hx hb hG.1 hP hD hS 3 2 mw_r rfl (k := h0) (by omega) (Nat.le_of_ble_eq_true rfl) dX2_muster_122 (fun H locs hP hD hS => ?_)
            have hP : va_P D vwCl (mw M cZ cI ((nI 0)) (enc (root (insT h0 T))) (nI (siz T)) mo ti dr (nI ((anc h0 T).length)) ma (upd isIn h0 (nI 1)) (upd (hgL lf (parF h0 none T) h0 (nI h0)) h0 (-1)) (upd (hgR rt (parF h0 none T) h0 (nI h0)) h0 (-1)) wy9 rw) H := hP
            have hD : va_D A (mw M cZ cI ((nI 0)) (enc (root (insT h0 T))) (nI (siz T)) mo ti dr (nI ((anc h0 T).length)) ma (upd isIn h0 (nI 1)) (upd (hgL lf (parF h0 none T) h0 (nI h0)) h0 (-1)) (upd (hgR rt (parF h0 none T) h0 (nI h0)) h0 (-1)) wy9 rw) := hD
            refine lv_aload_n hx hb dX2_muster_123 rfl (lv_at hl 1 rfl) ?_
            refine lv_dup hx hb dX2_muster_124 rfl ?_
            refine va_get (D := D) (ci := 2) (v := .int (nI (siz T))) (C := RX2) (T := TX2) (N := 13) hx hb hts (by decide +kernel) hown hG.1 hP 0 mw_m rfl 2 (by decide) (hts (.fieldLink RX2 90 "LopsidedRanksModel" "soldiers" "I") (by decide +kernel)) (fun _ h9 => h9) rfl dX2_muster_125 ?_
            refine lv_iconst (v := nI 1) hx hb dX2_muster_128 (by decide) ?_
            refine lv_iadd hx hb dX2_muster_129 ?_
            refine zr_eqi (nI_add (siz T) 1) ?_
            refine va_put (D := D) (ci := 2) (v := .int (nI ((siz T) + 1))) (ty := .int) (C := RX2) (T := TX2) (N := 13) hx hb hts (by decide +kernel) tyX2 tyX2_ok nmX2 hown hG.1 hP hD hS 0 mw_m rfl 2 (by decide) (hts (.fieldLink RX2 90 "LopsidedRanksModel" "soldiers" "I") (by decide +kernel)) (fun _ h9 => h9) rfl (by decide +kernel) rfl rfl (Nat.le_of_ble_eq_true rfl) dX2_muster_130 (fun H locs hP hD hS => ?_)
            have hP : va_P D vwCl (mw M cZ cI ((nI 0)) (enc (root (insT h0 T))) ((nI ((siz T) + 1))) mo ti dr (nI ((anc h0 T).length)) ma (upd isIn h0 (nI 1)) (upd (hgL lf (parF h0 none T) h0 (nI h0)) h0 (-1)) (upd (hgR rt (parF h0 none T) h0 (nI h0)) h0 (-1)) wy9 rw) H := hP
            have hD : va_D A (mw M cZ cI ((nI 0)) (enc (root (insT h0 T))) ((nI ((siz T) + 1))) mo ti dr (nI ((anc h0 T).length)) ma (upd isIn h0 (nI 1)) (upd (hgL lf (parF h0 none T) h0 (nI h0)) h0 (-1)) (upd (hgR rt (parF h0 none T) h0 (nI h0)) h0 (-1)) wy9 rw) := hD
            refine lv_aload_n hx hb dX2_muster_133 rfl (lv_at hl 1 rfl) ?_
            refine lv_aload_n hx hb dX2_muster_134 rfl (lv_at hl 1 rfl) ?_
            refine va_get (D := D) (ci := 2) (v := .int mo) (C := RX2) (T := TX2) (N := 13) hx hb hts (by decide +kernel) hown hG.1 hP 0 mw_m rfl 3 (by decide) (hts (.fieldLink RX2 93 "LopsidedRanksModel" "most" "I") (by decide +kernel)) (fun _ h9 => h9) rfl dX2_muster_135 ?_
            refine lv_aload_n hx hb dX2_muster_138 rfl (lv_at hl 1 rfl) ?_
            refine va_get (D := D) (ci := 2) (v := .int ((nI ((siz T) + 1)))) (C := RX2) (T := TX2) (N := 13) hx hb hts (by decide +kernel) hown hG.1 hP 0 mw_m rfl 2 (by decide) (hts (.fieldLink RX2 90 "LopsidedRanksModel" "soldiers" "I") (by decide +kernel)) (fun _ h9 => h9) rfl dX2_muster_139 ?_
            refine va_mmax hx hb (hml.trans hl.1.symm) hown (hts (.methodLink RX2 43 Lib.Math.max.name) (by decide +kernel)) (hts (.static Lib.Math.max.name) (by decide +kernel)) (hts (.initialized "java/lang/Math") (by decide +kernel)) (hts (.code Lib.Math.max.name Lib.Math.max.code 2 (some .int)) (by decide +kernel)) (Nat.le_of_ble_eq_true rfl) (Nat.le_of_ble_eq_true rfl) (Nat.zero_le _) (Nat.zero_le _) dX2_muster_142 ?_
            refine zr_eqi moM_max ?_
            refine va_put (D := D) (ci := 2) (v := .int (moM mo (nI (siz T + 1)))) (ty := .int) (C := RX2) (T := TX2) (N := 13) hx hb hts (by decide +kernel) tyX2 tyX2_ok nmX2 hown hG.1 hP hD hS 0 mw_m rfl 3 (by decide) (hts (.fieldLink RX2 93 "LopsidedRanksModel" "most" "I") (by decide +kernel)) (fun _ h9 => h9) rfl (by decide +kernel) rfl rfl (Nat.le_of_ble_eq_true rfl) dX2_muster_145 (fun H locs hP hD hS => ?_)
            have hP : va_P D vwCl (mw M cZ cI ((nI 0)) (enc (root (insT h0 T))) ((nI ((siz T) + 1))) ((moM mo (nI (siz T + 1)))) ti dr (nI ((anc h0 T).length)) ma (upd isIn h0 (nI 1)) (upd (hgL lf (parF h0 none T) h0 (nI h0)) h0 (-1)) (upd (hgR rt (parF h0 none T) h0 (nI h0)) h0 (-1)) wy9 rw) H := hP
            have hD : va_D A (mw M cZ cI ((nI 0)) (enc (root (insT h0 T))) ((nI ((siz T) + 1))) ((moM mo (nI (siz T + 1)))) ti dr (nI ((anc h0 T).length)) ma (upd isIn h0 (nI 1)) (upd (hgL lf (parF h0 none T) h0 (nI h0)) h0 (-1)) (upd (hgR rt (parF h0 none T) h0 (nI h0)) h0 (-1)) wy9 rw) := hD
            rw [← e3] at hP hD
            have hP : va_P D vwCl (mw M cZ cI ((nI 0)) (enc (root (insT h0 T))) (nI (siz (insT h0 T))) (moM mo (nI (siz (insT h0 T)))) ti dr (nI ((anc h0 T).length)) ma (upd isIn h0 (nI 1)) (upd (hgL lf (parF h0 none T) h0 (nI h0)) h0 (-1)) (upd (hgR rt (parF h0 none T) h0 (nI h0)) h0 (-1)) wy9 rw) H := hP
            have hD : va_D A (mw M cZ cI ((nI 0)) (enc (root (insT h0 T))) (nI (siz (insT h0 T))) (moM mo (nI (siz (insT h0 T)))) ti dr (nI ((anc h0 T).length)) ma (upd isIn h0 (nI 1)) (upd (hgL lf (parF h0 none T) h0 (nI h0)) h0 (-1)) (upd (hgR rt (parF h0 none T) h0 (nI h0)) h0 (-1)) wy9 rw) := hD
            cases hmc : mcT T h0 with
            | none =>
              rw [hmc] at hl
              have hl : lv_has ls 3 [(2, .int (-1)), (0, .ref M.1), (1, .int (nI h0))] := hl
              refine lv_iload_n hx hb dX2_muster_148 rfl (lv_at hl 0 rfl) ?_
              refine lv_iconst (v := (-1)) hx hb dX2_muster_149 (by decide) ?_
              refine lv_icmp_eq (tgt := 159) hx hb dX2_muster_150 (by decide) (fun c150 => ?_) (fun c150 => ?_)
              · refine lv_aload_n hx hb dX2_muster_159 rfl (lv_at hl 1 rfl) ?_
                refine lv_iload_n hx hb dX2_muster_160 rfl (lv_at hl 2 rfl) ?_
                refine va_callv (va_runV (As := [.int (nI h0)]) (rest := []) ⟨hx, hb, hml, hown, hts⟩ (c_X2_goTo l (T := (insT h0 T)) hh0 hr1.2.2.2.1 hr1.2.1 (by have q1 := hgt_siz (T := (insT h0 T)); have q2 := hr1.2.2.1; omega)) (cwV 1 hts gX2_muster_X2_goTo rfl rfl rfl (by decide +kernel) ⟨Nat.le_of_ble_eq_true rfl, Nat.le_of_ble_eq_true rfl⟩) ⟨PcM.blind, va_recv hG.1 hP (ci := 2) (q0 := 0) rfl mw_m, PcM.at (fun q h => hA q (Nat.le_trans hS.1 h)) hP hG hD⟩ rfl rfl hl.1 rfl (lv_room (Nat.le_of_ble_eq_true rfl)) dX2_muster_161 ⟨Nat.zero_le _, Nat.zero_le _⟩) hS (fun q _ h => h) (fun q h => h) (fun wy5 t H locs ht hvm q161 hB hz1 hk1 hS => ?_)
                obtain ⟨hP, -, hD⟩ := hB
                rw [ht] at hP
                have hP : va_P D vwCl (mw M cZ cI ((nI 0)) (enc (root (insT h0 T))) (nI (siz (insT h0 T))) (moM mo (nI (siz (insT h0 T)))) ti dr (nI ((wayT h0 (insT h0 T)).length)) ma (upd isIn h0 (nI 1)) (upd (hgL lf (parF h0 none T) h0 (nI h0)) h0 (-1)) (upd (hgR rt (parF h0 none T) h0 (nI h0)) h0 (-1)) wy5 rw) H := hP
                have hD : va_D A (mw M cZ cI ((nI 0)) (enc (root (insT h0 T))) (nI (siz (insT h0 T))) (moM mo (nI (siz (insT h0 T)))) ti dr (nI ((wayT h0 (insT h0 T)).length)) ma (upd isIn h0 (nI 1)) (upd (hgL lf (parF h0 none T) h0 (nI h0)) h0 (-1)) (upd (hgR rt (parF h0 none T) h0 (nI h0)) h0 (-1)) wy5 rw) := hD
                have hwl : (wayT h0 (insT h0 T)).length = (anc h0 (insT h0 T)).length + 1 := by rw [way_in hr1.1 ((e7 h0).mpr (Or.inr rfl))]; simp
                rw [hwl] at hP hD
                have hal5 := anc_len (h := h0) (T := (insT h0 T))
                have hsz5 := hr1.2.2.1
                have hP : va_P D vwCl (mw M cZ cI ((nI 0)) (enc (root (insT h0 T))) (nI (siz (insT h0 T))) (moM mo (nI (siz (insT h0 T)))) ti dr (nI ((anc h0 (insT h0 T)).length + 1)) ma (upd isIn h0 (nI 1)) (upd (hgL lf (parF h0 none T) h0 (nI h0)) h0 (-1)) (upd (hgR rt (parF h0 none T) h0 (nI h0)) h0 (-1)) wy5 rw) H := hP
                have hD : va_D A (mw M cZ cI ((nI 0)) (enc (root (insT h0 T))) (nI (siz (insT h0 T))) (moM mo (nI (siz (insT h0 T)))) ti dr (nI ((anc h0 (insT h0 T)).length + 1)) ma (upd isIn h0 (nI 1)) (upd (hgL lf (parF h0 none T) h0 (nI h0)) h0 (-1)) (upd (hgR rt (parF h0 none T) h0 (nI h0)) h0 (-1)) wy5 rw) := hD
                refine lv_aload_n hx hb dX2_muster_164 rfl (lv_at hl 1 rfl) ?_
                refine va_get (D := D) (ci := 2) (v := .int (nI ((anc h0 (insT h0 T)).length + 1))) (C := RX2) (T := TX2) (N := 13) hx hb hts (by decide +kernel) hown hG.1 hP 0 mw_m rfl 10 (by decide) (hts (.fieldLink RX2 33 "LopsidedRanksModel" "steps" "I") (by decide +kernel)) (fun _ h9 => h9) rfl dX2_muster_165 ?_
                refine lv_iconst (v := nI 1) hx hb dX2_muster_168 (by decide) ?_
                refine lv_isub hx hb dX2_muster_169 ?_
                refine zr_eqi (pk_sub (a := (anc h0 (insT h0 T)).length + 1) (b := 1) (by omega)) ?_
                have ek := kx_nI (show h0 < 2 ^ 31 by omega)
                have hmu := musS_n (mo := mo) (dr := ti) (ds := dr) hmc
                rw [← e3] at hmu
                have hmz : musZ (nI h0) (T, mo, ti, dr) = _ := (if_pos (show kM (nI h0) T = 0 from kM_0 hh0 (fun q => q.elim (by omega) hm))).trans ((congrArg (fun z => musS z (T, mo, ti, dr)) ek).trans hmu)
                have eK : kM (nI h0) T = 0 := kM_0 hh0 (fun q => q.elim (by omega) hm)
                exact W.iret (v := (nI (((anc h0 (insT h0 T)).length + 1) - 1))) hx hb hr (fun t ht hW => ⟨⟨_, (nI ((anc h0 (insT h0 T)).length + 1), ma, upd isIn h0 (nI 1), upd (hgL lf (parF h0 none T) h0 (nI h0)) h0 (-1), upd (hgR rt (parF h0 none T) h0 (nI h0)) h0 (-1), wy5, rw), rfl, ⟨fun _ => by rw [ek, hmu]; rfl, by rw [hmz]; exact hr1⟩, by rw [eK, hmz, ht]; exact hP, hG.moved hW, by rw [eK, hmz]; exact hD⟩, hS.F ht⟩) hS.2.2 dX2_muster_170
              · exact absurd rfl c150
            | some c0 =>
              rw [hmc] at hl
              have hl : lv_has ls 3 [(2, .int (nI c0)), (0, .ref M.1), (1, .int (nI h0))] := hl
              have hcT : c0 ∈ keysT (insT h0 T) := (e7 c0).mpr (by
                have q := hmc
                unfold mcT at q
                split at q
                · cases q
                · rcases List.mem_cons.mp (List.mem_of_find?_eq_some q) with q | q
                  · exact Or.inr q
                  · exact Or.inl (anc_in (List.mem_reverse.mp q)))
              have hc0 : c0 < 1000 := hr1.2.1 c0 hcT
              obtain ⟨k1, k2⟩ := draw_keys (c := c0) hr1.2.2.1
              refine lv_iload_n hx hb dX2_muster_148 rfl (lv_at hl 0 rfl) ?_
              refine lv_iconst (v := (-1)) hx hb dX2_muster_149 (by decide) ?_
              refine lv_icmp_eq (tgt := 159) hx hb dX2_muster_150 (by decide) (fun c150 => ?_) (fun c150 => ?_)
              · exact absurd c150 (nI_m1 (by omega))
              · refine lv_aload_n hx hb dX2_muster_153 rfl (lv_at hl 1 rfl) ?_
                refine lv_iload_n hx hb dX2_muster_154 rfl (lv_at hl 0 rfl) ?_
                refine va_calli (va_runV (As := [.int (nI c0)]) (rest := []) ⟨hx, hb, hml, hown, hts⟩ (c_X2_drawUp l (T := insT h0 T) hr1 hcT) (cwV 1 hts gX2_muster_X2_drawUp rfl rfl rfl (by decide +kernel) ⟨Nat.le_of_ble_eq_true rfl, Nat.le_of_ble_eq_true rfl⟩) ⟨PcM.blind, va_recv hG.1 hP (ci := 2) (q0 := 0) rfl mw_m, PcM.at (fun q h => hA q (Nat.le_trans hS.1 h)) hP hG hD⟩ rfl rfl hl.1 rfl (lv_room (Nat.le_of_ble_eq_true rfl)) dX2_muster_155 ⟨Nat.zero_le _, Nat.zero_le _⟩) hS (fun q _ h => h) (fun q h => h) (fun r155 u9 t H locs ht hvm q155 hB hz1 hk1 hS => ?_)
                obtain ⟨hP, -, hD⟩ := hB
                rw [ht] at hP
                have hP : va_P D vwCl (mw M cZ cI ((nI 0)) (enc (root (drawT c0 (insT h0 T)))) (nI (siz (insT h0 T))) (moD (insT h0 T) c0 (moM mo (nI (siz (insT h0 T))))) (ti + nI 1) (dr + nI (siz (subT c0 (insT h0 T)))) u9.1 u9.2.1 u9.2.2.1 u9.2.2.2.1 u9.2.2.2.2.1 u9.2.2.2.2.2.1 u9.2.2.2.2.2.2) H := hP
                have hD : va_D A (mw M cZ cI ((nI 0)) (enc (root (drawT c0 (insT h0 T)))) (nI (siz (insT h0 T))) (moD (insT h0 T) c0 (moM mo (nI (siz (insT h0 T))))) (ti + nI 1) (dr + nI (siz (subT c0 (insT h0 T)))) u9.1 u9.2.1 u9.2.2.1 u9.2.2.2.1 u9.2.2.2.2.1 u9.2.2.2.2.2.1 u9.2.2.2.2.2.2) := hD
                obtain ⟨rfl, hr4⟩ := q155
                rw [← k2] at hP hD
                have emo0 : moM mo (nI (siz (drawT c0 (insT h0 T)))) = moM mo (nI (siz (insT h0 T))) := by rw [k2]
                have hP : va_P D vwCl (mw M cZ cI ((nI 0)) (enc (root (drawT c0 (insT h0 T)))) (nI (siz (drawT c0 (insT h0 T)))) (moD (insT h0 T) c0 (moM mo (nI (siz (drawT c0 (insT h0 T)))))) (ti + nI 1) (dr + nI (siz (subT c0 (insT h0 T)))) u9.1 u9.2.1 u9.2.2.1 u9.2.2.2.1 u9.2.2.2.2.1 u9.2.2.2.2.2.1 u9.2.2.2.2.2.2) H := hP
                have hD : va_D A (mw M cZ cI ((nI 0)) (enc (root (drawT c0 (insT h0 T)))) (nI (siz (drawT c0 (insT h0 T)))) (moD (insT h0 T) c0 (moM mo (nI (siz (drawT c0 (insT h0 T)))))) (ti + nI 1) (dr + nI (siz (subT c0 (insT h0 T)))) u9.1 u9.2.1 u9.2.2.1 u9.2.2.2.1 u9.2.2.2.2.1 u9.2.2.2.2.2.1 u9.2.2.2.2.2.2) := hD
                refine lv_pop hx hb dX2_muster_158 rfl ?_
                refine lv_aload_n hx hb dX2_muster_159 rfl (lv_at hl 1 rfl) ?_
                refine lv_iload_n hx hb dX2_muster_160 rfl (lv_at hl 2 rfl) ?_
                refine va_callv (va_runV (As := [.int (nI h0)]) (rest := []) ⟨hx, hb, hml, hown, hts⟩ (c_X2_goTo l (T := (drawT c0 (insT h0 T))) hh0 hr4.2.2.2.1 hr4.2.1 (by have q1 := hgt_siz (T := (drawT c0 (insT h0 T))); have q2 := hr4.2.2.1; omega)) (cwV 1 hts gX2_muster_X2_goTo rfl rfl rfl (by decide +kernel) ⟨Nat.le_of_ble_eq_true rfl, Nat.le_of_ble_eq_true rfl⟩) ⟨PcM.blind, va_recv hG.1 hP (ci := 2) (q0 := 0) rfl mw_m, PcM.at (fun q h => hA q (Nat.le_trans hS.1 h)) hP hG hD⟩ rfl rfl hl.1 rfl (lv_room (Nat.le_of_ble_eq_true rfl)) dX2_muster_161 ⟨Nat.zero_le _, Nat.zero_le _⟩) hS (fun q _ h => h) (fun q h => h) (fun wy5 t H locs ht hvm q161 hB hz1 hk1 hS => ?_)
                obtain ⟨hP, -, hD⟩ := hB
                rw [ht] at hP
                have hP : va_P D vwCl (mw M cZ cI ((nI 0)) (enc (root (drawT c0 (insT h0 T)))) (nI (siz (drawT c0 (insT h0 T)))) (moD (insT h0 T) c0 (moM mo (nI (siz (drawT c0 (insT h0 T)))))) (ti + nI 1) (dr + nI (siz (subT c0 (insT h0 T)))) (nI ((wayT h0 (drawT c0 (insT h0 T))).length)) u9.2.1 u9.2.2.1 u9.2.2.2.1 u9.2.2.2.2.1 wy5 u9.2.2.2.2.2.2) H := hP
                have hD : va_D A (mw M cZ cI ((nI 0)) (enc (root (drawT c0 (insT h0 T)))) (nI (siz (drawT c0 (insT h0 T)))) (moD (insT h0 T) c0 (moM mo (nI (siz (drawT c0 (insT h0 T)))))) (ti + nI 1) (dr + nI (siz (subT c0 (insT h0 T)))) (nI ((wayT h0 (drawT c0 (insT h0 T))).length)) u9.2.1 u9.2.2.1 u9.2.2.2.1 u9.2.2.2.2.1 wy5 u9.2.2.2.2.2.2) := hD
                have hwl : (wayT h0 (drawT c0 (insT h0 T))).length = (anc h0 (drawT c0 (insT h0 T))).length + 1 := by rw [way_in hr4.1 (by rw [k1]; exact (e7 h0).mpr (Or.inr rfl))]; simp
                rw [hwl] at hP hD
                have hal5 := anc_len (h := h0) (T := (drawT c0 (insT h0 T)))
                have hsz5 := hr4.2.2.1
                have hP : va_P D vwCl (mw M cZ cI ((nI 0)) (enc (root (drawT c0 (insT h0 T)))) (nI (siz (drawT c0 (insT h0 T)))) (moD (insT h0 T) c0 (moM mo (nI (siz (drawT c0 (insT h0 T)))))) (ti + nI 1) (dr + nI (siz (subT c0 (insT h0 T)))) (nI ((anc h0 (drawT c0 (insT h0 T))).length + 1)) u9.2.1 u9.2.2.1 u9.2.2.2.1 u9.2.2.2.2.1 wy5 u9.2.2.2.2.2.2) H := hP
                have hD : va_D A (mw M cZ cI ((nI 0)) (enc (root (drawT c0 (insT h0 T)))) (nI (siz (drawT c0 (insT h0 T)))) (moD (insT h0 T) c0 (moM mo (nI (siz (drawT c0 (insT h0 T)))))) (ti + nI 1) (dr + nI (siz (subT c0 (insT h0 T)))) (nI ((anc h0 (drawT c0 (insT h0 T))).length + 1)) u9.2.1 u9.2.2.1 u9.2.2.2.1 u9.2.2.2.2.1 wy5 u9.2.2.2.2.2.2) := hD
                refine lv_aload_n hx hb dX2_muster_164 rfl (lv_at hl 1 rfl) ?_
                refine va_get (D := D) (ci := 2) (v := .int (nI ((anc h0 (drawT c0 (insT h0 T))).length + 1))) (C := RX2) (T := TX2) (N := 13) hx hb hts (by decide +kernel) hown hG.1 hP 0 mw_m rfl 10 (by decide) (hts (.fieldLink RX2 33 "LopsidedRanksModel" "steps" "I") (by decide +kernel)) (fun _ h9 => h9) rfl dX2_muster_165 ?_
                refine lv_iconst (v := nI 1) hx hb dX2_muster_168 (by decide) ?_
                refine lv_isub hx hb dX2_muster_169 ?_
                refine zr_eqi (pk_sub (a := (anc h0 (drawT c0 (insT h0 T))).length + 1) (b := 1) (by omega)) ?_
                have ek := kx_nI (show h0 < 2 ^ 31 by omega)
                have hmu := musS_s (mo := mo) (dr := ti) (ds := dr) hmc
                rw [← e3, ← emo0] at hmu
                have hmz : musZ (nI h0) (T, mo, ti, dr) = _ := (if_pos (show kM (nI h0) T = 0 from kM_0 hh0 (fun q => q.elim (by omega) hm))).trans ((congrArg (fun z => musS z (T, mo, ti, dr)) ek).trans hmu)
                have eK : kM (nI h0) T = 0 := kM_0 hh0 (fun q => q.elim (by omega) hm)
                exact W.iret (v := (nI (((anc h0 (drawT c0 (insT h0 T))).length + 1) - 1))) hx hb hr (fun t ht hW => ⟨⟨_, (nI ((anc h0 (drawT c0 (insT h0 T))).length + 1), u9.2.1, u9.2.2.1, u9.2.2.2.1, u9.2.2.2.2.1, wy5, u9.2.2.2.2.2.2), rfl, ⟨fun _ => by rw [ek, hmu]; rfl, by rw [hmz]; exact hr4⟩, by rw [eK, hmz, ht]; exact hP, hG.moved hW, by rw [eK, hmz]; exact hD⟩, hS.F ht⟩) hS.2.2 dX2_muster_170
          · replace c79 := (zr_eq0 (by omega)).mp c79
            refine lv_iconst (v := (-1)) hx hb dX2_muster_82 (by decide) ?_
            refine lv_goto (tgt := 97) hx hb dX2_muster_83 (by decide) ?_
            refine zr_eqi (show _ = enc (parF h0 none T) from (wp1 c79).symm) ?_
            refine lv_iload_n hx hb dX2_muster_97 rfl (lv_at hl 2 rfl) ?_
            refine lv_iload_n hx hb dX2_muster_98 rfl (lv_at hl 2 rfl) ?_
            refine va_callv (va_runV (As := [.int (enc (parF h0 none T)), .int (nI h0), .int (nI h0)]) (rest := []) ⟨hx, hb, hml, hown, hts⟩ (c_X2_hang l (p0 := parF h0 none T) hh0 (fun c e => hin0 c (parF_mem e))) (cwV 3 hts gX2_muster_X2_hang rfl rfl rfl (by decide +kernel) ⟨Nat.le_of_ble_eq_true rfl, Nat.le_of_ble_eq_true rfl⟩) ⟨PcM.blind, va_recv hG.1 hP (ci := 2) (q0 := 0) rfl mw_m, PcM.at (fun q h => hA q (Nat.le_trans hS.1 h)) hP hG hD⟩ rfl rfl hl.1 rfl (lv_room (Nat.le_of_ble_eq_true rfl)) dX2_muster_99 ⟨Nat.zero_le _, Nat.zero_le _⟩) hS (fun q _ h => h) (fun q h => h) (fun u99 t H locs ht hvm q99 hB hz1 hk1 hS => ?_)
            obtain ⟨hP, -, hD⟩ := hB
            rw [ht] at hP
            have hP : va_P D vwCl (mw M cZ cI ((nI 0)) (hgTp (enc (root T)) (parF h0 none T) (nI h0)) (nI (siz T)) mo ti dr (nI ((anc h0 T).length)) ma isIn (hgL lf (parF h0 none T) h0 (nI h0)) (hgR rt (parF h0 none T) h0 (nI h0)) wy9 rw) H := hP
            have hD : va_D A (mw M cZ cI ((nI 0)) (hgTp (enc (root T)) (parF h0 none T) (nI h0)) (nI (siz T)) mo ti dr (nI ((anc h0 T).length)) ma isIn (hgL lf (parF h0 none T) h0 (nI h0)) (hgR rt (parF h0 none T) h0 (nI h0)) wy9 rw) := hD
            rw [ht1] at hP hD
            have hP : va_P D vwCl (mw M cZ cI ((nI 0)) (enc (root (insT h0 T))) (nI (siz T)) mo ti dr (nI ((anc h0 T).length)) ma isIn (hgL lf (parF h0 none T) h0 (nI h0)) (hgR rt (parF h0 none T) h0 (nI h0)) wy9 rw) H := hP
            have hD : va_D A (mw M cZ cI ((nI 0)) (enc (root (insT h0 T))) (nI (siz T)) mo ti dr (nI ((anc h0 T).length)) ma isIn (hgL lf (parF h0 none T) h0 (nI h0)) (hgR rt (parF h0 none T) h0 (nI h0)) wy9 rw) := hD
            refine lv_aload_n hx hb dX2_muster_102 rfl (lv_at hl 1 rfl) ?_
            refine va_get (D := D) (ci := 2) (v := .ref M.2.1) (C := RX2) (T := TX2) (N := 13) hx hb hts (by decide +kernel) hown hG.1 hP 0 mw_m rfl 6 (by decide) (hts (.fieldLink RX2 13 "LopsidedRanksModel" "isIn" "[Z") (by decide +kernel)) (fun _ h9 => h9) rfl dX2_muster_103 ?_
            refine lv_iload_n hx hb dX2_muster_106 rfl (lv_at hl 2 rfl) ?_
            refine lv_iconst (v := nI 1) hx hb dX2_muster_107 (by decide) ?_
            refine zr_zast hx hb hG.1 hP hD hS 1 1 mw_i rfl (k := h0) (by omega) (Nat.le_of_ble_eq_true rfl) rfl dX2_muster_108 (fun H locs hP hD hS => ?_)
            have hP : va_P D vwCl (mw M cZ cI ((nI 0)) (enc (root (insT h0 T))) (nI (siz T)) mo ti dr (nI ((anc h0 T).length)) ma (upd isIn h0 (nI 1)) (hgL lf (parF h0 none T) h0 (nI h0)) (hgR rt (parF h0 none T) h0 (nI h0)) wy9 rw) H := hP
            have hD : va_D A (mw M cZ cI ((nI 0)) (enc (root (insT h0 T))) (nI (siz T)) mo ti dr (nI ((anc h0 T).length)) ma (upd isIn h0 (nI 1)) (hgL lf (parF h0 none T) h0 (nI h0)) (hgR rt (parF h0 none T) h0 (nI h0)) wy9 rw) := hD
            refine lv_aload_n hx hb dX2_muster_109 rfl (lv_at hl 1 rfl) ?_
            refine va_get (D := D) (ci := 2) (v := .ref M.2.2.1) (C := RX2) (T := TX2) (N := 13) hx hb hts (by decide +kernel) hown hG.1 hP 0 mw_m rfl 7 (by decide) (hts (.fieldLink RX2 17 "LopsidedRanksModel" "left" "[I") (by decide +kernel)) (fun _ h9 => h9) rfl dX2_muster_110 ?_
            refine lv_iload_n hx hb dX2_muster_113 rfl (lv_at hl 2 rfl) ?_
            refine lv_iconst (v := (-1)) hx hb dX2_muster_114 (by decide) ?_
            refine zr_iast hx hb hG.1 hP hD hS 2 2 mw_l rfl (k := h0) (by omega) (Nat.le_of_ble_eq_true rfl) dX2_muster_115 (fun H locs hP hD hS => ?_)
            have hP : va_P D vwCl (mw M cZ cI ((nI 0)) (enc (root (insT h0 T))) (nI (siz T)) mo ti dr (nI ((anc h0 T).length)) ma (upd isIn h0 (nI 1)) (upd (hgL lf (parF h0 none T) h0 (nI h0)) h0 (-1)) (hgR rt (parF h0 none T) h0 (nI h0)) wy9 rw) H := hP
            have hD : va_D A (mw M cZ cI ((nI 0)) (enc (root (insT h0 T))) (nI (siz T)) mo ti dr (nI ((anc h0 T).length)) ma (upd isIn h0 (nI 1)) (upd (hgL lf (parF h0 none T) h0 (nI h0)) h0 (-1)) (hgR rt (parF h0 none T) h0 (nI h0)) wy9 rw) := hD
            refine lv_aload_n hx hb dX2_muster_116 rfl (lv_at hl 1 rfl) ?_
            refine va_get (D := D) (ci := 2) (v := .ref M.2.2.2.1) (C := RX2) (T := TX2) (N := 13) hx hb hts (by decide +kernel) hown hG.1 hP 0 mw_m rfl 8 (by decide) (hts (.fieldLink RX2 21 "LopsidedRanksModel" "right" "[I") (by decide +kernel)) (fun _ h9 => h9) rfl dX2_muster_117 ?_
            refine lv_iload_n hx hb dX2_muster_120 rfl (lv_at hl 2 rfl) ?_
            refine lv_iconst (v := (-1)) hx hb dX2_muster_121 (by decide) ?_
            refine zr_iast hx hb hG.1 hP hD hS 3 2 mw_r rfl (k := h0) (by omega) (Nat.le_of_ble_eq_true rfl) dX2_muster_122 (fun H locs hP hD hS => ?_)
            have hP : va_P D vwCl (mw M cZ cI ((nI 0)) (enc (root (insT h0 T))) (nI (siz T)) mo ti dr (nI ((anc h0 T).length)) ma (upd isIn h0 (nI 1)) (upd (hgL lf (parF h0 none T) h0 (nI h0)) h0 (-1)) (upd (hgR rt (parF h0 none T) h0 (nI h0)) h0 (-1)) wy9 rw) H := hP
            have hD : va_D A (mw M cZ cI ((nI 0)) (enc (root (insT h0 T))) (nI (siz T)) mo ti dr (nI ((anc h0 T).length)) ma (upd isIn h0 (nI 1)) (upd (hgL lf (parF h0 none T) h0 (nI h0)) h0 (-1)) (upd (hgR rt (parF h0 none T) h0 (nI h0)) h0 (-1)) wy9 rw) := hD
            refine lv_aload_n hx hb dX2_muster_123 rfl (lv_at hl 1 rfl) ?_
            refine lv_dup hx hb dX2_muster_124 rfl ?_
            refine va_get (D := D) (ci := 2) (v := .int (nI (siz T))) (C := RX2) (T := TX2) (N := 13) hx hb hts (by decide +kernel) hown hG.1 hP 0 mw_m rfl 2 (by decide) (hts (.fieldLink RX2 90 "LopsidedRanksModel" "soldiers" "I") (by decide +kernel)) (fun _ h9 => h9) rfl dX2_muster_125 ?_
            refine lv_iconst (v := nI 1) hx hb dX2_muster_128 (by decide) ?_
            refine lv_iadd hx hb dX2_muster_129 ?_
            refine zr_eqi (nI_add (siz T) 1) ?_
            refine va_put (D := D) (ci := 2) (v := .int (nI ((siz T) + 1))) (ty := .int) (C := RX2) (T := TX2) (N := 13) hx hb hts (by decide +kernel) tyX2 tyX2_ok nmX2 hown hG.1 hP hD hS 0 mw_m rfl 2 (by decide) (hts (.fieldLink RX2 90 "LopsidedRanksModel" "soldiers" "I") (by decide +kernel)) (fun _ h9 => h9) rfl (by decide +kernel) rfl rfl (Nat.le_of_ble_eq_true rfl) dX2_muster_130 (fun H locs hP hD hS => ?_)
            have hP : va_P D vwCl (mw M cZ cI ((nI 0)) (enc (root (insT h0 T))) ((nI ((siz T) + 1))) mo ti dr (nI ((anc h0 T).length)) ma (upd isIn h0 (nI 1)) (upd (hgL lf (parF h0 none T) h0 (nI h0)) h0 (-1)) (upd (hgR rt (parF h0 none T) h0 (nI h0)) h0 (-1)) wy9 rw) H := hP
            have hD : va_D A (mw M cZ cI ((nI 0)) (enc (root (insT h0 T))) ((nI ((siz T) + 1))) mo ti dr (nI ((anc h0 T).length)) ma (upd isIn h0 (nI 1)) (upd (hgL lf (parF h0 none T) h0 (nI h0)) h0 (-1)) (upd (hgR rt (parF h0 none T) h0 (nI h0)) h0 (-1)) wy9 rw) := hD
            refine lv_aload_n hx hb dX2_muster_133 rfl (lv_at hl 1 rfl) ?_
            refine lv_aload_n hx hb dX2_muster_134 rfl (lv_at hl 1 rfl) ?_
            refine va_get (D := D) (ci := 2) (v := .int mo) (C := RX2) (T := TX2) (N := 13) hx hb hts (by decide +kernel) hown hG.1 hP 0 mw_m rfl 3 (by decide) (hts (.fieldLink RX2 93 "LopsidedRanksModel" "most" "I") (by decide +kernel)) (fun _ h9 => h9) rfl dX2_muster_135 ?_
            refine lv_aload_n hx hb dX2_muster_138 rfl (lv_at hl 1 rfl) ?_
            refine va_get (D := D) (ci := 2) (v := .int ((nI ((siz T) + 1)))) (C := RX2) (T := TX2) (N := 13) hx hb hts (by decide +kernel) hown hG.1 hP 0 mw_m rfl 2 (by decide) (hts (.fieldLink RX2 90 "LopsidedRanksModel" "soldiers" "I") (by decide +kernel)) (fun _ h9 => h9) rfl dX2_muster_139 ?_
            refine va_mmax hx hb (hml.trans hl.1.symm) hown (hts (.methodLink RX2 43 Lib.Math.max.name) (by decide +kernel)) (hts (.static Lib.Math.max.name) (by decide +kernel)) (hts (.initialized "java/lang/Math") (by decide +kernel)) (hts (.code Lib.Math.max.name Lib.Math.max.code 2 (some .int)) (by decide +kernel)) (Nat.le_of_ble_eq_true rfl) (Nat.le_of_ble_eq_true rfl) (Nat.zero_le _) (Nat.zero_le _) dX2_muster_142 ?_
            refine zr_eqi moM_max ?_
            refine va_put (D := D) (ci := 2) (v := .int (moM mo (nI (siz T + 1)))) (ty := .int) (C := RX2) (T := TX2) (N := 13) hx hb hts (by decide +kernel) tyX2 tyX2_ok nmX2 hown hG.1 hP hD hS 0 mw_m rfl 3 (by decide) (hts (.fieldLink RX2 93 "LopsidedRanksModel" "most" "I") (by decide +kernel)) (fun _ h9 => h9) rfl (by decide +kernel) rfl rfl (Nat.le_of_ble_eq_true rfl) dX2_muster_145 (fun H locs hP hD hS => ?_)
            have hP : va_P D vwCl (mw M cZ cI ((nI 0)) (enc (root (insT h0 T))) ((nI ((siz T) + 1))) ((moM mo (nI (siz T + 1)))) ti dr (nI ((anc h0 T).length)) ma (upd isIn h0 (nI 1)) (upd (hgL lf (parF h0 none T) h0 (nI h0)) h0 (-1)) (upd (hgR rt (parF h0 none T) h0 (nI h0)) h0 (-1)) wy9 rw) H := hP
            have hD : va_D A (mw M cZ cI ((nI 0)) (enc (root (insT h0 T))) ((nI ((siz T) + 1))) ((moM mo (nI (siz T + 1)))) ti dr (nI ((anc h0 T).length)) ma (upd isIn h0 (nI 1)) (upd (hgL lf (parF h0 none T) h0 (nI h0)) h0 (-1)) (upd (hgR rt (parF h0 none T) h0 (nI h0)) h0 (-1)) wy9 rw) := hD
            rw [← e3] at hP hD
            have hP : va_P D vwCl (mw M cZ cI ((nI 0)) (enc (root (insT h0 T))) (nI (siz (insT h0 T))) (moM mo (nI (siz (insT h0 T)))) ti dr (nI ((anc h0 T).length)) ma (upd isIn h0 (nI 1)) (upd (hgL lf (parF h0 none T) h0 (nI h0)) h0 (-1)) (upd (hgR rt (parF h0 none T) h0 (nI h0)) h0 (-1)) wy9 rw) H := hP
            have hD : va_D A (mw M cZ cI ((nI 0)) (enc (root (insT h0 T))) (nI (siz (insT h0 T))) (moM mo (nI (siz (insT h0 T)))) ti dr (nI ((anc h0 T).length)) ma (upd isIn h0 (nI 1)) (upd (hgL lf (parF h0 none T) h0 (nI h0)) h0 (-1)) (upd (hgR rt (parF h0 none T) h0 (nI h0)) h0 (-1)) wy9 rw) := hD
            cases hmc : mcT T h0 with
            | none =>
              rw [hmc] at hl
              have hl : lv_has ls 3 [(2, .int (-1)), (0, .ref M.1), (1, .int (nI h0))] := hl
              refine lv_iload_n hx hb dX2_muster_148 rfl (lv_at hl 0 rfl) ?_
              refine lv_iconst (v := (-1)) hx hb dX2_muster_149 (by decide) ?_
              refine lv_icmp_eq (tgt := 159) hx hb dX2_muster_150 (by decide) (fun c150 => ?_) (fun c150 => ?_)
              · refine lv_aload_n hx hb dX2_muster_159 rfl (lv_at hl 1 rfl) ?_
                refine lv_iload_n hx hb dX2_muster_160 rfl (lv_at hl 2 rfl) ?_
                refine va_callv (va_runV (As := [.int (nI h0)]) (rest := []) ⟨hx, hb, hml, hown, hts⟩ (c_X2_goTo l (T := (insT h0 T)) hh0 hr1.2.2.2.1 hr1.2.1 (by have q1 := hgt_siz (T := (insT h0 T)); have q2 := hr1.2.2.1; omega)) (cwV 1 hts gX2_muster_X2_goTo rfl rfl rfl (by decide +kernel) ⟨Nat.le_of_ble_eq_true rfl, Nat.le_of_ble_eq_true rfl⟩) ⟨PcM.blind, va_recv hG.1 hP (ci := 2) (q0 := 0) rfl mw_m, PcM.at (fun q h => hA q (Nat.le_trans hS.1 h)) hP hG hD⟩ rfl rfl hl.1 rfl (lv_room (Nat.le_of_ble_eq_true rfl)) dX2_muster_161 ⟨Nat.zero_le _, Nat.zero_le _⟩) hS (fun q _ h => h) (fun q h => h) (fun wy5 t H locs ht hvm q161 hB hz1 hk1 hS => ?_)
                obtain ⟨hP, -, hD⟩ := hB
                rw [ht] at hP
                have hP : va_P D vwCl (mw M cZ cI ((nI 0)) (enc (root (insT h0 T))) (nI (siz (insT h0 T))) (moM mo (nI (siz (insT h0 T)))) ti dr (nI ((wayT h0 (insT h0 T)).length)) ma (upd isIn h0 (nI 1)) (upd (hgL lf (parF h0 none T) h0 (nI h0)) h0 (-1)) (upd (hgR rt (parF h0 none T) h0 (nI h0)) h0 (-1)) wy5 rw) H := hP
                have hD : va_D A (mw M cZ cI ((nI 0)) (enc (root (insT h0 T))) (nI (siz (insT h0 T))) (moM mo (nI (siz (insT h0 T)))) ti dr (nI ((wayT h0 (insT h0 T)).length)) ma (upd isIn h0 (nI 1)) (upd (hgL lf (parF h0 none T) h0 (nI h0)) h0 (-1)) (upd (hgR rt (parF h0 none T) h0 (nI h0)) h0 (-1)) wy5 rw) := hD
                have hwl : (wayT h0 (insT h0 T)).length = (anc h0 (insT h0 T)).length + 1 := by rw [way_in hr1.1 ((e7 h0).mpr (Or.inr rfl))]; simp
                rw [hwl] at hP hD
                have hal5 := anc_len (h := h0) (T := (insT h0 T))
                have hsz5 := hr1.2.2.1
                have hP : va_P D vwCl (mw M cZ cI ((nI 0)) (enc (root (insT h0 T))) (nI (siz (insT h0 T))) (moM mo (nI (siz (insT h0 T)))) ti dr (nI ((anc h0 (insT h0 T)).length + 1)) ma (upd isIn h0 (nI 1)) (upd (hgL lf (parF h0 none T) h0 (nI h0)) h0 (-1)) (upd (hgR rt (parF h0 none T) h0 (nI h0)) h0 (-1)) wy5 rw) H := hP
                have hD : va_D A (mw M cZ cI ((nI 0)) (enc (root (insT h0 T))) (nI (siz (insT h0 T))) (moM mo (nI (siz (insT h0 T)))) ti dr (nI ((anc h0 (insT h0 T)).length + 1)) ma (upd isIn h0 (nI 1)) (upd (hgL lf (parF h0 none T) h0 (nI h0)) h0 (-1)) (upd (hgR rt (parF h0 none T) h0 (nI h0)) h0 (-1)) wy5 rw) := hD
                refine lv_aload_n hx hb dX2_muster_164 rfl (lv_at hl 1 rfl) ?_
                refine va_get (D := D) (ci := 2) (v := .int (nI ((anc h0 (insT h0 T)).length + 1))) (C := RX2) (T := TX2) (N := 13) hx hb hts (by decide +kernel) hown hG.1 hP 0 mw_m rfl 10 (by decide) (hts (.fieldLink RX2 33 "LopsidedRanksModel" "steps" "I") (by decide +kernel)) (fun _ h9 => h9) rfl dX2_muster_165 ?_
                refine lv_iconst (v := nI 1) hx hb dX2_muster_168 (by decide) ?_
                refine lv_isub hx hb dX2_muster_169 ?_
                refine zr_eqi (pk_sub (a := (anc h0 (insT h0 T)).length + 1) (b := 1) (by omega)) ?_
                have ek := kx_nI (show h0 < 2 ^ 31 by omega)
                have hmu := musS_n (mo := mo) (dr := ti) (ds := dr) hmc
                rw [← e3] at hmu
                have hmz : musZ (nI h0) (T, mo, ti, dr) = _ := (if_pos (show kM (nI h0) T = 0 from kM_0 hh0 (fun q => q.elim (by omega) hm))).trans ((congrArg (fun z => musS z (T, mo, ti, dr)) ek).trans hmu)
                have eK : kM (nI h0) T = 0 := kM_0 hh0 (fun q => q.elim (by omega) hm)
                exact W.iret (v := (nI (((anc h0 (insT h0 T)).length + 1) - 1))) hx hb hr (fun t ht hW => ⟨⟨_, (nI ((anc h0 (insT h0 T)).length + 1), ma, upd isIn h0 (nI 1), upd (hgL lf (parF h0 none T) h0 (nI h0)) h0 (-1), upd (hgR rt (parF h0 none T) h0 (nI h0)) h0 (-1), wy5, rw), rfl, ⟨fun _ => by rw [ek, hmu]; rfl, by rw [hmz]; exact hr1⟩, by rw [eK, hmz, ht]; exact hP, hG.moved hW, by rw [eK, hmz]; exact hD⟩, hS.F ht⟩) hS.2.2 dX2_muster_170
              · exact absurd rfl c150
            | some c0 =>
              rw [hmc] at hl
              have hl : lv_has ls 3 [(2, .int (nI c0)), (0, .ref M.1), (1, .int (nI h0))] := hl
              have hcT : c0 ∈ keysT (insT h0 T) := (e7 c0).mpr (by
                have q := hmc
                unfold mcT at q
                split at q
                · cases q
                · rcases List.mem_cons.mp (List.mem_of_find?_eq_some q) with q | q
                  · exact Or.inr q
                  · exact Or.inl (anc_in (List.mem_reverse.mp q)))
              have hc0 : c0 < 1000 := hr1.2.1 c0 hcT
              obtain ⟨k1, k2⟩ := draw_keys (c := c0) hr1.2.2.1
              refine lv_iload_n hx hb dX2_muster_148 rfl (lv_at hl 0 rfl) ?_
              refine lv_iconst (v := (-1)) hx hb dX2_muster_149 (by decide) ?_
              refine lv_icmp_eq (tgt := 159) hx hb dX2_muster_150 (by decide) (fun c150 => ?_) (fun c150 => ?_)
              · exact absurd c150 (nI_m1 (by omega))
              · refine lv_aload_n hx hb dX2_muster_153 rfl (lv_at hl 1 rfl) ?_
                refine lv_iload_n hx hb dX2_muster_154 rfl (lv_at hl 0 rfl) ?_
                refine va_calli (va_runV (As := [.int (nI c0)]) (rest := []) ⟨hx, hb, hml, hown, hts⟩ (c_X2_drawUp l (T := insT h0 T) hr1 hcT) (cwV 1 hts gX2_muster_X2_drawUp rfl rfl rfl (by decide +kernel) ⟨Nat.le_of_ble_eq_true rfl, Nat.le_of_ble_eq_true rfl⟩) ⟨PcM.blind, va_recv hG.1 hP (ci := 2) (q0 := 0) rfl mw_m, PcM.at (fun q h => hA q (Nat.le_trans hS.1 h)) hP hG hD⟩ rfl rfl hl.1 rfl (lv_room (Nat.le_of_ble_eq_true rfl)) dX2_muster_155 ⟨Nat.zero_le _, Nat.zero_le _⟩) hS (fun q _ h => h) (fun q h => h) (fun r155 u9 t H locs ht hvm q155 hB hz1 hk1 hS => ?_)
                obtain ⟨hP, -, hD⟩ := hB
                rw [ht] at hP
                have hP : va_P D vwCl (mw M cZ cI ((nI 0)) (enc (root (drawT c0 (insT h0 T)))) (nI (siz (insT h0 T))) (moD (insT h0 T) c0 (moM mo (nI (siz (insT h0 T))))) (ti + nI 1) (dr + nI (siz (subT c0 (insT h0 T)))) u9.1 u9.2.1 u9.2.2.1 u9.2.2.2.1 u9.2.2.2.2.1 u9.2.2.2.2.2.1 u9.2.2.2.2.2.2) H := hP
                have hD : va_D A (mw M cZ cI ((nI 0)) (enc (root (drawT c0 (insT h0 T)))) (nI (siz (insT h0 T))) (moD (insT h0 T) c0 (moM mo (nI (siz (insT h0 T))))) (ti + nI 1) (dr + nI (siz (subT c0 (insT h0 T)))) u9.1 u9.2.1 u9.2.2.1 u9.2.2.2.1 u9.2.2.2.2.1 u9.2.2.2.2.2.1 u9.2.2.2.2.2.2) := hD
                obtain ⟨rfl, hr4⟩ := q155
                rw [← k2] at hP hD
                have emo0 : moM mo (nI (siz (drawT c0 (insT h0 T)))) = moM mo (nI (siz (insT h0 T))) := by rw [k2]
                have hP : va_P D vwCl (mw M cZ cI ((nI 0)) (enc (root (drawT c0 (insT h0 T)))) (nI (siz (drawT c0 (insT h0 T)))) (moD (insT h0 T) c0 (moM mo (nI (siz (drawT c0 (insT h0 T)))))) (ti + nI 1) (dr + nI (siz (subT c0 (insT h0 T)))) u9.1 u9.2.1 u9.2.2.1 u9.2.2.2.1 u9.2.2.2.2.1 u9.2.2.2.2.2.1 u9.2.2.2.2.2.2) H := hP
                have hD : va_D A (mw M cZ cI ((nI 0)) (enc (root (drawT c0 (insT h0 T)))) (nI (siz (drawT c0 (insT h0 T)))) (moD (insT h0 T) c0 (moM mo (nI (siz (drawT c0 (insT h0 T)))))) (ti + nI 1) (dr + nI (siz (subT c0 (insT h0 T)))) u9.1 u9.2.1 u9.2.2.1 u9.2.2.2.1 u9.2.2.2.2.1 u9.2.2.2.2.2.1 u9.2.2.2.2.2.2) := hD
                refine lv_pop hx hb dX2_muster_158 rfl ?_
                refine lv_aload_n hx hb dX2_muster_159 rfl (lv_at hl 1 rfl) ?_
                refine lv_iload_n hx hb dX2_muster_160 rfl (lv_at hl 2 rfl) ?_
                refine va_callv (va_runV (As := [.int (nI h0)]) (rest := []) ⟨hx, hb, hml, hown, hts⟩ (c_X2_goTo l (T := (drawT c0 (insT h0 T))) hh0 hr4.2.2.2.1 hr4.2.1 (by have q1 := hgt_siz (T := (drawT c0 (insT h0 T))); have q2 := hr4.2.2.1; omega)) (cwV 1 hts gX2_muster_X2_goTo rfl rfl rfl (by decide +kernel) ⟨Nat.le_of_ble_eq_true rfl, Nat.le_of_ble_eq_true rfl⟩) ⟨PcM.blind, va_recv hG.1 hP (ci := 2) (q0 := 0) rfl mw_m, PcM.at (fun q h => hA q (Nat.le_trans hS.1 h)) hP hG hD⟩ rfl rfl hl.1 rfl (lv_room (Nat.le_of_ble_eq_true rfl)) dX2_muster_161 ⟨Nat.zero_le _, Nat.zero_le _⟩) hS (fun q _ h => h) (fun q h => h) (fun wy5 t H locs ht hvm q161 hB hz1 hk1 hS => ?_)
                obtain ⟨hP, -, hD⟩ := hB
                rw [ht] at hP
                have hP : va_P D vwCl (mw M cZ cI ((nI 0)) (enc (root (drawT c0 (insT h0 T)))) (nI (siz (drawT c0 (insT h0 T)))) (moD (insT h0 T) c0 (moM mo (nI (siz (drawT c0 (insT h0 T)))))) (ti + nI 1) (dr + nI (siz (subT c0 (insT h0 T)))) (nI ((wayT h0 (drawT c0 (insT h0 T))).length)) u9.2.1 u9.2.2.1 u9.2.2.2.1 u9.2.2.2.2.1 wy5 u9.2.2.2.2.2.2) H := hP
                have hD : va_D A (mw M cZ cI ((nI 0)) (enc (root (drawT c0 (insT h0 T)))) (nI (siz (drawT c0 (insT h0 T)))) (moD (insT h0 T) c0 (moM mo (nI (siz (drawT c0 (insT h0 T)))))) (ti + nI 1) (dr + nI (siz (subT c0 (insT h0 T)))) (nI ((wayT h0 (drawT c0 (insT h0 T))).length)) u9.2.1 u9.2.2.1 u9.2.2.2.1 u9.2.2.2.2.1 wy5 u9.2.2.2.2.2.2) := hD
                have hwl : (wayT h0 (drawT c0 (insT h0 T))).length = (anc h0 (drawT c0 (insT h0 T))).length + 1 := by rw [way_in hr4.1 (by rw [k1]; exact (e7 h0).mpr (Or.inr rfl))]; simp
                rw [hwl] at hP hD
                have hal5 := anc_len (h := h0) (T := (drawT c0 (insT h0 T)))
                have hsz5 := hr4.2.2.1
                have hP : va_P D vwCl (mw M cZ cI ((nI 0)) (enc (root (drawT c0 (insT h0 T)))) (nI (siz (drawT c0 (insT h0 T)))) (moD (insT h0 T) c0 (moM mo (nI (siz (drawT c0 (insT h0 T)))))) (ti + nI 1) (dr + nI (siz (subT c0 (insT h0 T)))) (nI ((anc h0 (drawT c0 (insT h0 T))).length + 1)) u9.2.1 u9.2.2.1 u9.2.2.2.1 u9.2.2.2.2.1 wy5 u9.2.2.2.2.2.2) H := hP
                have hD : va_D A (mw M cZ cI ((nI 0)) (enc (root (drawT c0 (insT h0 T)))) (nI (siz (drawT c0 (insT h0 T)))) (moD (insT h0 T) c0 (moM mo (nI (siz (drawT c0 (insT h0 T)))))) (ti + nI 1) (dr + nI (siz (subT c0 (insT h0 T)))) (nI ((anc h0 (drawT c0 (insT h0 T))).length + 1)) u9.2.1 u9.2.2.1 u9.2.2.2.1 u9.2.2.2.2.1 wy5 u9.2.2.2.2.2.2) := hD
                refine lv_aload_n hx hb dX2_muster_164 rfl (lv_at hl 1 rfl) ?_
                refine va_get (D := D) (ci := 2) (v := .int (nI ((anc h0 (drawT c0 (insT h0 T))).length + 1))) (C := RX2) (T := TX2) (N := 13) hx hb hts (by decide +kernel) hown hG.1 hP 0 mw_m rfl 10 (by decide) (hts (.fieldLink RX2 33 "LopsidedRanksModel" "steps" "I") (by decide +kernel)) (fun _ h9 => h9) rfl dX2_muster_165 ?_
                refine lv_iconst (v := nI 1) hx hb dX2_muster_168 (by decide) ?_
                refine lv_isub hx hb dX2_muster_169 ?_
                refine zr_eqi (pk_sub (a := (anc h0 (drawT c0 (insT h0 T))).length + 1) (b := 1) (by omega)) ?_
                have ek := kx_nI (show h0 < 2 ^ 31 by omega)
                have hmu := musS_s (mo := mo) (dr := ti) (ds := dr) hmc
                rw [← e3, ← emo0] at hmu
                have hmz : musZ (nI h0) (T, mo, ti, dr) = _ := (if_pos (show kM (nI h0) T = 0 from kM_0 hh0 (fun q => q.elim (by omega) hm))).trans ((congrArg (fun z => musS z (T, mo, ti, dr)) ek).trans hmu)
                have eK : kM (nI h0) T = 0 := kM_0 hh0 (fun q => q.elim (by omega) hm)
                exact W.iret (v := (nI (((anc h0 (drawT c0 (insT h0 T))).length + 1) - 1))) hx hb hr (fun t ht hW => ⟨⟨_, (nI ((anc h0 (drawT c0 (insT h0 T))).length + 1), u9.2.1, u9.2.2.1, u9.2.2.2.1, u9.2.2.2.2.1, wy5, u9.2.2.2.2.2.2), rfl, ⟨fun _ => by rw [ek, hmu]; rfl, by rw [hmz]; exact hr4⟩, by rw [eK, hmz, ht]; exact hP, hG.moved hW, by rw [eK, hmz]; exact hD⟩, hS.F ht⟩) hS.2.2 dX2_muster_170
        · rw [nI_leI (by omega) (by omega)] at c61
          refine lv_aload_n hx hb dX2_muster_64 rfl (lv_at hl 0 rfl) ?_
          refine lv_iload_n hx hb dX2_muster_65 rfl (lv_at hl 1 rfl) ?_
          refine vp_callSi (va_Run.run (va_runV (As := [.int (nI h0)]) (rest := []) ⟨hx, hb, hml, hown, hts⟩ (c_X2_crookedWith l hh0 hrep hm q45) (cwV 1 hts gX2_muster_X2_crookedWith rfl rfl rfl (by decide +kernel) ⟨Nat.le_of_ble_eq_true rfl, Nat.le_of_ble_eq_true rfl⟩) ⟨PcR.blind, va_recv hG.1 hP (ci := 2) (q0 := 0) rfl mw_m, PcR.at hP hG⟩ rfl rfl hl.1 rfl (lv_room (Nat.le_of_ble_eq_true rfl)) dX2_muster_66 ⟨Nat.zero_le _, Nat.zero_le _⟩)) (fun r66 q66 => ?_)
          subst q66
          refine lv_goto (tgt := 73) hx hb dX2_muster_69 (by decide) ?_
          have emv : mcT T h0 = (anc h0 T).reverse.find? (mvP T h0) := by
            rw [mc_eq hb0 hm]
            unfold movT
            rw [if_neg hm, if_neg (by omega)]
          refine zr_eqi (show _ = enc (mcT T h0) by rw [emv]) ?_
          refine lv_istore_n (lv' := [(2, .int (enc (mcT T h0))), (0, .ref M.1), (1, .int (nI h0))]) hx hb dX2_muster_73 rfl hl (by decide) rfl (fun ls hl => ?_)
          refine lv_aload_n hx hb dX2_muster_74 rfl (lv_at hl 1 rfl) ?_
          refine lv_aload_n hx hb dX2_muster_75 rfl (lv_at hl 1 rfl) ?_
          refine va_get (D := D) (ci := 2) (v := .int (nI ((anc h0 T).length))) (C := RX2) (T := TX2) (N := 13) hx hb hts (by decide +kernel) hown hG.1 hP 0 mw_m rfl 10 (by decide) (hts (.fieldLink RX2 33 "LopsidedRanksModel" "steps" "I") (by decide +kernel)) (fun _ h9 => h9) rfl dX2_muster_76 ?_
          refine lv_if_ne (tgt := 86) hx hb dX2_muster_79 (by decide) (fun c79 => ?_) (fun c79 => ?_)
          · replace c79 := (not_congr (zr_eq0 (by omega))).mp c79
            refine lv_aload_n hx hb dX2_muster_86 rfl (lv_at hl 1 rfl) ?_
            refine va_get (D := D) (ci := 2) (v := .ref M.2.2.2.2.1) (C := RX2) (T := TX2) (N := 13) hx hb hts (by decide +kernel) hown hG.1 hP 0 mw_m rfl 9 (by decide) (hts (.fieldLink RX2 24 "LopsidedRanksModel" "way" "[I") (by decide +kernel)) (fun _ h9 => h9) rfl dX2_muster_87 ?_
            refine lv_aload_n hx hb dX2_muster_90 rfl (lv_at hl 1 rfl) ?_
            refine va_get (D := D) (ci := 2) (v := .int (nI ((anc h0 T).length))) (C := RX2) (T := TX2) (N := 13) hx hb hts (by decide +kernel) hown hG.1 hP 0 mw_m rfl 10 (by decide) (hts (.fieldLink RX2 33 "LopsidedRanksModel" "steps" "I") (by decide +kernel)) (fun _ h9 => h9) rfl dX2_muster_91 ?_
            refine lv_iconst (v := nI 1) hx hb dX2_muster_94 (by decide) ?_
            refine lv_isub hx hb dX2_muster_95 ?_
            refine zr_eqi (pk_sub (a := (anc h0 T).length) (b := 1) (by omega)) ?_
            refine zr_iald hx hb hG.1 hP 4 2 mw_w rfl (k := ((anc h0 T).length) - 1) (by omega) (Nat.le_of_ble_eq_true rfl) dX2_muster_96 ?_
            refine zr_eqi (show _ = enc (parF h0 none T) from wp2 c79) ?_
            refine lv_iload_n hx hb dX2_muster_97 rfl (lv_at hl 2 rfl) ?_
            refine lv_iload_n hx hb dX2_muster_98 rfl (lv_at hl 2 rfl) ?_
            refine va_callv (va_runV (As := [.int (enc (parF h0 none T)), .int (nI h0), .int (nI h0)]) (rest := []) ⟨hx, hb, hml, hown, hts⟩ (c_X2_hang l (p0 := parF h0 none T) hh0 (fun c e => hin0 c (parF_mem e))) (cwV 3 hts gX2_muster_X2_hang rfl rfl rfl (by decide +kernel) ⟨Nat.le_of_ble_eq_true rfl, Nat.le_of_ble_eq_true rfl⟩) ⟨PcM.blind, va_recv hG.1 hP (ci := 2) (q0 := 0) rfl mw_m, PcM.at (fun q h => hA q (Nat.le_trans hS.1 h)) hP hG hD⟩ rfl rfl hl.1 rfl (lv_room (Nat.le_of_ble_eq_true rfl)) dX2_muster_99 ⟨Nat.zero_le _, Nat.zero_le _⟩) hS (fun q _ h => h) (fun q h => h) (fun u99 t H locs ht hvm q99 hB hz1 hk1 hS => ?_)
            obtain ⟨hP, -, hD⟩ := hB
            rw [ht] at hP
            have hP : va_P D vwCl (mw M cZ cI ((nI 0)) (hgTp (enc (root T)) (parF h0 none T) (nI h0)) (nI (siz T)) mo ti dr (nI ((anc h0 T).length)) ma isIn (hgL lf (parF h0 none T) h0 (nI h0)) (hgR rt (parF h0 none T) h0 (nI h0)) wy9 rw) H := hP
            have hD : va_D A (mw M cZ cI ((nI 0)) (hgTp (enc (root T)) (parF h0 none T) (nI h0)) (nI (siz T)) mo ti dr (nI ((anc h0 T).length)) ma isIn (hgL lf (parF h0 none T) h0 (nI h0)) (hgR rt (parF h0 none T) h0 (nI h0)) wy9 rw) := hD
            rw [ht1] at hP hD
            have hP : va_P D vwCl (mw M cZ cI ((nI 0)) (enc (root (insT h0 T))) (nI (siz T)) mo ti dr (nI ((anc h0 T).length)) ma isIn (hgL lf (parF h0 none T) h0 (nI h0)) (hgR rt (parF h0 none T) h0 (nI h0)) wy9 rw) H := hP
            have hD : va_D A (mw M cZ cI ((nI 0)) (enc (root (insT h0 T))) (nI (siz T)) mo ti dr (nI ((anc h0 T).length)) ma isIn (hgL lf (parF h0 none T) h0 (nI h0)) (hgR rt (parF h0 none T) h0 (nI h0)) wy9 rw) := hD
            refine lv_aload_n hx hb dX2_muster_102 rfl (lv_at hl 1 rfl) ?_
            refine va_get (D := D) (ci := 2) (v := .ref M.2.1) (C := RX2) (T := TX2) (N := 13) hx hb hts (by decide +kernel) hown hG.1 hP 0 mw_m rfl 6 (by decide) (hts (.fieldLink RX2 13 "LopsidedRanksModel" "isIn" "[Z") (by decide +kernel)) (fun _ h9 => h9) rfl dX2_muster_103 ?_
            refine lv_iload_n hx hb dX2_muster_106 rfl (lv_at hl 2 rfl) ?_
            refine lv_iconst (v := nI 1) hx hb dX2_muster_107 (by decide) ?_
            refine zr_zast hx hb hG.1 hP hD hS 1 1 mw_i rfl (k := h0) (by omega) (Nat.le_of_ble_eq_true rfl) rfl dX2_muster_108 (fun H locs hP hD hS => ?_)
            have hP : va_P D vwCl (mw M cZ cI ((nI 0)) (enc (root (insT h0 T))) (nI (siz T)) mo ti dr (nI ((anc h0 T).length)) ma (upd isIn h0 (nI 1)) (hgL lf (parF h0 none T) h0 (nI h0)) (hgR rt (parF h0 none T) h0 (nI h0)) wy9 rw) H := hP
            have hD : va_D A (mw M cZ cI ((nI 0)) (enc (root (insT h0 T))) (nI (siz T)) mo ti dr (nI ((anc h0 T).length)) ma (upd isIn h0 (nI 1)) (hgL lf (parF h0 none T) h0 (nI h0)) (hgR rt (parF h0 none T) h0 (nI h0)) wy9 rw) := hD
            refine lv_aload_n hx hb dX2_muster_109 rfl (lv_at hl 1 rfl) ?_
            refine va_get (D := D) (ci := 2) (v := .ref M.2.2.1) (C := RX2) (T := TX2) (N := 13) hx hb hts (by decide +kernel) hown hG.1 hP 0 mw_m rfl 7 (by decide) (hts (.fieldLink RX2 17 "LopsidedRanksModel" "left" "[I") (by decide +kernel)) (fun _ h9 => h9) rfl dX2_muster_110 ?_
            refine lv_iload_n hx hb dX2_muster_113 rfl (lv_at hl 2 rfl) ?_
            refine lv_iconst (v := (-1)) hx hb dX2_muster_114 (by decide) ?_
            refine zr_iast hx hb hG.1 hP hD hS 2 2 mw_l rfl (k := h0) (by omega) (Nat.le_of_ble_eq_true rfl) dX2_muster_115 (fun H locs hP hD hS => ?_)
            have hP : va_P D vwCl (mw M cZ cI ((nI 0)) (enc (root (insT h0 T))) (nI (siz T)) mo ti dr (nI ((anc h0 T).length)) ma (upd isIn h0 (nI 1)) (upd (hgL lf (parF h0 none T) h0 (nI h0)) h0 (-1)) (hgR rt (parF h0 none T) h0 (nI h0)) wy9 rw) H := hP
            have hD : va_D A (mw M cZ cI ((nI 0)) (enc (root (insT h0 T))) (nI (siz T)) mo ti dr (nI ((anc h0 T).length)) ma (upd isIn h0 (nI 1)) (upd (hgL lf (parF h0 none T) h0 (nI h0)) h0 (-1)) (hgR rt (parF h0 none T) h0 (nI h0)) wy9 rw) := hD
            refine lv_aload_n hx hb dX2_muster_116 rfl (lv_at hl 1 rfl) ?_
            refine va_get (D := D) (ci := 2) (v := .ref M.2.2.2.1) (C := RX2) (T := TX2) (N := 13) hx hb hts (by decide +kernel) hown hG.1 hP 0 mw_m rfl 8 (by decide) (hts (.fieldLink RX2 21 "LopsidedRanksModel" "right" "[I") (by decide +kernel)) (fun _ h9 => h9) rfl dX2_muster_117 ?_
            refine lv_iload_n hx hb dX2_muster_120 rfl (lv_at hl 2 rfl) ?_
            refine lv_iconst (v := (-1)) hx hb dX2_muster_121 (by decide) ?_
            refine zr_iast hx hb hG.1 hP hD hS 3 2 mw_r rfl (k := h0) (by omega) (Nat.le_of_ble_eq_true rfl) dX2_muster_122 (fun H locs hP hD hS => ?_)
            have hP : va_P D vwCl (mw M cZ cI ((nI 0)) (enc (root (insT h0 T))) (nI (siz T)) mo ti dr (nI ((anc h0 T).length)) ma (upd isIn h0 (nI 1)) (upd (hgL lf (parF h0 none T) h0 (nI h0)) h0 (-1)) (upd (hgR rt (parF h0 none T) h0 (nI h0)) h0 (-1)) wy9 rw) H := hP
            have hD : va_D A (mw M cZ cI ((nI 0)) (enc (root (insT h0 T))) (nI (siz T)) mo ti dr (nI ((anc h0 T).length)) ma (upd isIn h0 (nI 1)) (upd (hgL lf (parF h0 none T) h0 (nI h0)) h0 (-1)) (upd (hgR rt (parF h0 none T) h0 (nI h0)) h0 (-1)) wy9 rw) := hD
            refine lv_aload_n hx hb dX2_muster_123 rfl (lv_at hl 1 rfl) ?_
            refine lv_dup hx hb dX2_muster_124 rfl ?_
            refine va_get (D := D) (ci := 2) (v := .int (nI (siz T))) (C := RX2) (T := TX2) (N := 13) hx hb hts (by decide +kernel) hown hG.1 hP 0 mw_m rfl 2 (by decide) (hts (.fieldLink RX2 90 "LopsidedRanksModel" "soldiers" "I") (by decide +kernel)) (fun _ h9 => h9) rfl dX2_muster_125 ?_
            refine lv_iconst (v := nI 1) hx hb dX2_muster_128 (by decide) ?_
            refine lv_iadd hx hb dX2_muster_129 ?_
            refine zr_eqi (nI_add (siz T) 1) ?_
            refine va_put (D := D) (ci := 2) (v := .int (nI ((siz T) + 1))) (ty := .int) (C := RX2) (T := TX2) (N := 13) hx hb hts (by decide +kernel) tyX2 tyX2_ok nmX2 hown hG.1 hP hD hS 0 mw_m rfl 2 (by decide) (hts (.fieldLink RX2 90 "LopsidedRanksModel" "soldiers" "I") (by decide +kernel)) (fun _ h9 => h9) rfl (by decide +kernel) rfl rfl (Nat.le_of_ble_eq_true rfl) dX2_muster_130 (fun H locs hP hD hS => ?_)
            have hP : va_P D vwCl (mw M cZ cI ((nI 0)) (enc (root (insT h0 T))) ((nI ((siz T) + 1))) mo ti dr (nI ((anc h0 T).length)) ma (upd isIn h0 (nI 1)) (upd (hgL lf (parF h0 none T) h0 (nI h0)) h0 (-1)) (upd (hgR rt (parF h0 none T) h0 (nI h0)) h0 (-1)) wy9 rw) H := hP
            have hD : va_D A (mw M cZ cI ((nI 0)) (enc (root (insT h0 T))) ((nI ((siz T) + 1))) mo ti dr (nI ((anc h0 T).length)) ma (upd isIn h0 (nI 1)) (upd (hgL lf (parF h0 none T) h0 (nI h0)) h0 (-1)) (upd (hgR rt (parF h0 none T) h0 (nI h0)) h0 (-1)) wy9 rw) := hD
            refine lv_aload_n hx hb dX2_muster_133 rfl (lv_at hl 1 rfl) ?_
            refine lv_aload_n hx hb dX2_muster_134 rfl (lv_at hl 1 rfl) ?_
            refine va_get (D := D) (ci := 2) (v := .int mo) (C := RX2) (T := TX2) (N := 13) hx hb hts (by decide +kernel) hown hG.1 hP 0 mw_m rfl 3 (by decide) (hts (.fieldLink RX2 93 "LopsidedRanksModel" "most" "I") (by decide +kernel)) (fun _ h9 => h9) rfl dX2_muster_135 ?_
            refine lv_aload_n hx hb dX2_muster_138 rfl (lv_at hl 1 rfl) ?_
            refine va_get (D := D) (ci := 2) (v := .int ((nI ((siz T) + 1)))) (C := RX2) (T := TX2) (N := 13) hx hb hts (by decide +kernel) hown hG.1 hP 0 mw_m rfl 2 (by decide) (hts (.fieldLink RX2 90 "LopsidedRanksModel" "soldiers" "I") (by decide +kernel)) (fun _ h9 => h9) rfl dX2_muster_139 ?_
            refine va_mmax hx hb (hml.trans hl.1.symm) hown (hts (.methodLink RX2 43 Lib.Math.max.name) (by decide +kernel)) (hts (.static Lib.Math.max.name) (by decide +kernel)) (hts (.initialized "java/lang/Math") (by decide +kernel)) (hts (.code Lib.Math.max.name Lib.Math.max.code 2 (some .int)) (by decide +kernel)) (Nat.le_of_ble_eq_true rfl) (Nat.le_of_ble_eq_true rfl) (Nat.zero_le _) (Nat.zero_le _) dX2_muster_142 ?_
            refine zr_eqi moM_max ?_
            refine va_put (D := D) (ci := 2) (v := .int (moM mo (nI (siz T + 1)))) (ty := .int) (C := RX2) (T := TX2) (N := 13) hx hb hts (by decide +kernel) tyX2 tyX2_ok nmX2 hown hG.1 hP hD hS 0 mw_m rfl 3 (by decide) (hts (.fieldLink RX2 93 "LopsidedRanksModel" "most" "I") (by decide +kernel)) (fun _ h9 => h9) rfl (by decide +kernel) rfl rfl (Nat.le_of_ble_eq_true rfl) dX2_muster_145 (fun H locs hP hD hS => ?_)
            have hP : va_P D vwCl (mw M cZ cI ((nI 0)) (enc (root (insT h0 T))) ((nI ((siz T) + 1))) ((moM mo (nI (siz T + 1)))) ti dr (nI ((anc h0 T).length)) ma (upd isIn h0 (nI 1)) (upd (hgL lf (parF h0 none T) h0 (nI h0)) h0 (-1)) (upd (hgR rt (parF h0 none T) h0 (nI h0)) h0 (-1)) wy9 rw) H := hP
            have hD : va_D A (mw M cZ cI ((nI 0)) (enc (root (insT h0 T))) ((nI ((siz T) + 1))) ((moM mo (nI (siz T + 1)))) ti dr (nI ((anc h0 T).length)) ma (upd isIn h0 (nI 1)) (upd (hgL lf (parF h0 none T) h0 (nI h0)) h0 (-1)) (upd (hgR rt (parF h0 none T) h0 (nI h0)) h0 (-1)) wy9 rw) := hD
            rw [← e3] at hP hD
            have hP : va_P D vwCl (mw M cZ cI ((nI 0)) (enc (root (insT h0 T))) (nI (siz (insT h0 T))) (moM mo (nI (siz (insT h0 T)))) ti dr (nI ((anc h0 T).length)) ma (upd isIn h0 (nI 1)) (upd (hgL lf (parF h0 none T) h0 (nI h0)) h0 (-1)) (upd (hgR rt (parF h0 none T) h0 (nI h0)) h0 (-1)) wy9 rw) H := hP
            have hD : va_D A (mw M cZ cI ((nI 0)) (enc (root (insT h0 T))) (nI (siz (insT h0 T))) (moM mo (nI (siz (insT h0 T)))) ti dr (nI ((anc h0 T).length)) ma (upd isIn h0 (nI 1)) (upd (hgL lf (parF h0 none T) h0 (nI h0)) h0 (-1)) (upd (hgR rt (parF h0 none T) h0 (nI h0)) h0 (-1)) wy9 rw) := hD
            cases hmc : mcT T h0 with
            | none =>
              rw [hmc] at hl
              have hl : lv_has ls 3 [(2, .int (-1)), (0, .ref M.1), (1, .int (nI h0))] := hl
              refine lv_iload_n hx hb dX2_muster_148 rfl (lv_at hl 0 rfl) ?_
              refine lv_iconst (v := (-1)) hx hb dX2_muster_149 (by decide) ?_
              refine lv_icmp_eq (tgt := 159) hx hb dX2_muster_150 (by decide) (fun c150 => ?_) (fun c150 => ?_)
              · refine lv_aload_n hx hb dX2_muster_159 rfl (lv_at hl 1 rfl) ?_
                refine lv_iload_n hx hb dX2_muster_160 rfl (lv_at hl 2 rfl) ?_
                refine va_callv (va_runV (As := [.int (nI h0)]) (rest := []) ⟨hx, hb, hml, hown, hts⟩ (c_X2_goTo l (T := (insT h0 T)) hh0 hr1.2.2.2.1 hr1.2.1 (by have q1 := hgt_siz (T := (insT h0 T)); have q2 := hr1.2.2.1; omega)) (cwV 1 hts gX2_muster_X2_goTo rfl rfl rfl (by decide +kernel) ⟨Nat.le_of_ble_eq_true rfl, Nat.le_of_ble_eq_true rfl⟩) ⟨PcM.blind, va_recv hG.1 hP (ci := 2) (q0 := 0) rfl mw_m, PcM.at (fun q h => hA q (Nat.le_trans hS.1 h)) hP hG hD⟩ rfl rfl hl.1 rfl (lv_room (Nat.le_of_ble_eq_true rfl)) dX2_muster_161 ⟨Nat.zero_le _, Nat.zero_le _⟩) hS (fun q _ h => h) (fun q h => h) (fun wy5 t H locs ht hvm q161 hB hz1 hk1 hS => ?_)
                obtain ⟨hP, -, hD⟩ := hB
                rw [ht] at hP
                have hP : va_P D vwCl (mw M cZ cI ((nI 0)) (enc (root (insT h0 T))) (nI (siz (insT h0 T))) (moM mo (nI (siz (insT h0 T)))) ti dr (nI ((wayT h0 (insT h0 T)).length)) ma (upd isIn h0 (nI 1)) (upd (hgL lf (parF h0 none T) h0 (nI h0)) h0 (-1)) (upd (hgR rt (parF h0 none T) h0 (nI h0)) h0 (-1)) wy5 rw) H := hP
                have hD : va_D A (mw M cZ cI ((nI 0)) (enc (root (insT h0 T))) (nI (siz (insT h0 T))) (moM mo (nI (siz (insT h0 T)))) ti dr (nI ((wayT h0 (insT h0 T)).length)) ma (upd isIn h0 (nI 1)) (upd (hgL lf (parF h0 none T) h0 (nI h0)) h0 (-1)) (upd (hgR rt (parF h0 none T) h0 (nI h0)) h0 (-1)) wy5 rw) := hD
                have hwl : (wayT h0 (insT h0 T)).length = (anc h0 (insT h0 T)).length + 1 := by rw [way_in hr1.1 ((e7 h0).mpr (Or.inr rfl))]; simp
                rw [hwl] at hP hD
                have hal5 := anc_len (h := h0) (T := (insT h0 T))
                have hsz5 := hr1.2.2.1
                have hP : va_P D vwCl (mw M cZ cI ((nI 0)) (enc (root (insT h0 T))) (nI (siz (insT h0 T))) (moM mo (nI (siz (insT h0 T)))) ti dr (nI ((anc h0 (insT h0 T)).length + 1)) ma (upd isIn h0 (nI 1)) (upd (hgL lf (parF h0 none T) h0 (nI h0)) h0 (-1)) (upd (hgR rt (parF h0 none T) h0 (nI h0)) h0 (-1)) wy5 rw) H := hP
                have hD : va_D A (mw M cZ cI ((nI 0)) (enc (root (insT h0 T))) (nI (siz (insT h0 T))) (moM mo (nI (siz (insT h0 T)))) ti dr (nI ((anc h0 (insT h0 T)).length + 1)) ma (upd isIn h0 (nI 1)) (upd (hgL lf (parF h0 none T) h0 (nI h0)) h0 (-1)) (upd (hgR rt (parF h0 none T) h0 (nI h0)) h0 (-1)) wy5 rw) := hD
                refine lv_aload_n hx hb dX2_muster_164 rfl (lv_at hl 1 rfl) ?_
                refine va_get (D := D) (ci := 2) (v := .int (nI ((anc h0 (insT h0 T)).length + 1))) (C := RX2) (T := TX2) (N := 13) hx hb hts (by decide +kernel) hown hG.1 hP 0 mw_m rfl 10 (by decide) (hts (.fieldLink RX2 33 "LopsidedRanksModel" "steps" "I") (by decide +kernel)) (fun _ h9 => h9) rfl dX2_muster_165 ?_
                refine lv_iconst (v := nI 1) hx hb dX2_muster_168 (by decide) ?_
                refine lv_isub hx hb dX2_muster_169 ?_
                refine zr_eqi (pk_sub (a := (anc h0 (insT h0 T)).length + 1) (b := 1) (by omega)) ?_
                have ek := kx_nI (show h0 < 2 ^ 31 by omega)
                have hmu := musS_n (mo := mo) (dr := ti) (ds := dr) hmc
                rw [← e3] at hmu
                have hmz : musZ (nI h0) (T, mo, ti, dr) = _ := (if_pos (show kM (nI h0) T = 0 from kM_0 hh0 (fun q => q.elim (by omega) hm))).trans ((congrArg (fun z => musS z (T, mo, ti, dr)) ek).trans hmu)
                have eK : kM (nI h0) T = 0 := kM_0 hh0 (fun q => q.elim (by omega) hm)
                exact W.iret (v := (nI (((anc h0 (insT h0 T)).length + 1) - 1))) hx hb hr (fun t ht hW => ⟨⟨_, (nI ((anc h0 (insT h0 T)).length + 1), ma, upd isIn h0 (nI 1), upd (hgL lf (parF h0 none T) h0 (nI h0)) h0 (-1), upd (hgR rt (parF h0 none T) h0 (nI h0)) h0 (-1), wy5, rw), rfl, ⟨fun _ => by rw [ek, hmu]; rfl, by rw [hmz]; exact hr1⟩, by rw [eK, hmz, ht]; exact hP, hG.moved hW, by rw [eK, hmz]; exact hD⟩, hS.F ht⟩) hS.2.2 dX2_muster_170
              · exact absurd rfl c150
            | some c0 =>
              rw [hmc] at hl
              have hl : lv_has ls 3 [(2, .int (nI c0)), (0, .ref M.1), (1, .int (nI h0))] := hl
              have hcT : c0 ∈ keysT (insT h0 T) := (e7 c0).mpr (by
                have q := hmc
                unfold mcT at q
                split at q
                · cases q
                · rcases List.mem_cons.mp (List.mem_of_find?_eq_some q) with q | q
                  · exact Or.inr q
                  · exact Or.inl (anc_in (List.mem_reverse.mp q)))
              have hc0 : c0 < 1000 := hr1.2.1 c0 hcT
              obtain ⟨k1, k2⟩ := draw_keys (c := c0) hr1.2.2.1
              refine lv_iload_n hx hb dX2_muster_148 rfl (lv_at hl 0 rfl) ?_
              refine lv_iconst (v := (-1)) hx hb dX2_muster_149 (by decide) ?_
              refine lv_icmp_eq (tgt := 159) hx hb dX2_muster_150 (by decide) (fun c150 => ?_) (fun c150 => ?_)
              · exact absurd c150 (nI_m1 (by omega))
              · refine lv_aload_n hx hb dX2_muster_153 rfl (lv_at hl 1 rfl) ?_
                refine lv_iload_n hx hb dX2_muster_154 rfl (lv_at hl 0 rfl) ?_
                refine va_calli (va_runV (As := [.int (nI c0)]) (rest := []) ⟨hx, hb, hml, hown, hts⟩ (c_X2_drawUp l (T := insT h0 T) hr1 hcT) (cwV 1 hts gX2_muster_X2_drawUp rfl rfl rfl (by decide +kernel) ⟨Nat.le_of_ble_eq_true rfl, Nat.le_of_ble_eq_true rfl⟩) ⟨PcM.blind, va_recv hG.1 hP (ci := 2) (q0 := 0) rfl mw_m, PcM.at (fun q h => hA q (Nat.le_trans hS.1 h)) hP hG hD⟩ rfl rfl hl.1 rfl (lv_room (Nat.le_of_ble_eq_true rfl)) dX2_muster_155 ⟨Nat.zero_le _, Nat.zero_le _⟩) hS (fun q _ h => h) (fun q h => h) (fun r155 u9 t H locs ht hvm q155 hB hz1 hk1 hS => ?_)
                obtain ⟨hP, -, hD⟩ := hB
                rw [ht] at hP
                have hP : va_P D vwCl (mw M cZ cI ((nI 0)) (enc (root (drawT c0 (insT h0 T)))) (nI (siz (insT h0 T))) (moD (insT h0 T) c0 (moM mo (nI (siz (insT h0 T))))) (ti + nI 1) (dr + nI (siz (subT c0 (insT h0 T)))) u9.1 u9.2.1 u9.2.2.1 u9.2.2.2.1 u9.2.2.2.2.1 u9.2.2.2.2.2.1 u9.2.2.2.2.2.2) H := hP
                have hD : va_D A (mw M cZ cI ((nI 0)) (enc (root (drawT c0 (insT h0 T)))) (nI (siz (insT h0 T))) (moD (insT h0 T) c0 (moM mo (nI (siz (insT h0 T))))) (ti + nI 1) (dr + nI (siz (subT c0 (insT h0 T)))) u9.1 u9.2.1 u9.2.2.1 u9.2.2.2.1 u9.2.2.2.2.1 u9.2.2.2.2.2.1 u9.2.2.2.2.2.2) := hD
                obtain ⟨rfl, hr4⟩ := q155
                rw [← k2] at hP hD
                have emo0 : moM mo (nI (siz (drawT c0 (insT h0 T)))) = moM mo (nI (siz (insT h0 T))) := by rw [k2]
                have hP : va_P D vwCl (mw M cZ cI ((nI 0)) (enc (root (drawT c0 (insT h0 T)))) (nI (siz (drawT c0 (insT h0 T)))) (moD (insT h0 T) c0 (moM mo (nI (siz (drawT c0 (insT h0 T)))))) (ti + nI 1) (dr + nI (siz (subT c0 (insT h0 T)))) u9.1 u9.2.1 u9.2.2.1 u9.2.2.2.1 u9.2.2.2.2.1 u9.2.2.2.2.2.1 u9.2.2.2.2.2.2) H := hP
                have hD : va_D A (mw M cZ cI ((nI 0)) (enc (root (drawT c0 (insT h0 T)))) (nI (siz (drawT c0 (insT h0 T)))) (moD (insT h0 T) c0 (moM mo (nI (siz (drawT c0 (insT h0 T)))))) (ti + nI 1) (dr + nI (siz (subT c0 (insT h0 T)))) u9.1 u9.2.1 u9.2.2.1 u9.2.2.2.1 u9.2.2.2.2.1 u9.2.2.2.2.2.1 u9.2.2.2.2.2.2) := hD
                refine lv_pop hx hb dX2_muster_158 rfl ?_
                refine lv_aload_n hx hb dX2_muster_159 rfl (lv_at hl 1 rfl) ?_
                refine lv_iload_n hx hb dX2_muster_160 rfl (lv_at hl 2 rfl) ?_
                refine va_callv (va_runV (As := [.int (nI h0)]) (rest := []) ⟨hx, hb, hml, hown, hts⟩ (c_X2_goTo l (T := (drawT c0 (insT h0 T))) hh0 hr4.2.2.2.1 hr4.2.1 (by have q1 := hgt_siz (T := (drawT c0 (insT h0 T))); have q2 := hr4.2.2.1; omega)) (cwV 1 hts gX2_muster_X2_goTo rfl rfl rfl (by decide +kernel) ⟨Nat.le_of_ble_eq_true rfl, Nat.le_of_ble_eq_true rfl⟩) ⟨PcM.blind, va_recv hG.1 hP (ci := 2) (q0 := 0) rfl mw_m, PcM.at (fun q h => hA q (Nat.le_trans hS.1 h)) hP hG hD⟩ rfl rfl hl.1 rfl (lv_room (Nat.le_of_ble_eq_true rfl)) dX2_muster_161 ⟨Nat.zero_le _, Nat.zero_le _⟩) hS (fun q _ h => h) (fun q h => h) (fun wy5 t H locs ht hvm q161 hB hz1 hk1 hS => ?_)
                obtain ⟨hP, -, hD⟩ := hB
                rw [ht] at hP
                have hP : va_P D vwCl (mw M cZ cI ((nI 0)) (enc (root (drawT c0 (insT h0 T)))) (nI (siz (drawT c0 (insT h0 T)))) (moD (insT h0 T) c0 (moM mo (nI (siz (drawT c0 (insT h0 T)))))) (ti + nI 1) (dr + nI (siz (subT c0 (insT h0 T)))) (nI ((wayT h0 (drawT c0 (insT h0 T))).length)) u9.2.1 u9.2.2.1 u9.2.2.2.1 u9.2.2.2.2.1 wy5 u9.2.2.2.2.2.2) H := hP
                have hD : va_D A (mw M cZ cI ((nI 0)) (enc (root (drawT c0 (insT h0 T)))) (nI (siz (drawT c0 (insT h0 T)))) (moD (insT h0 T) c0 (moM mo (nI (siz (drawT c0 (insT h0 T)))))) (ti + nI 1) (dr + nI (siz (subT c0 (insT h0 T)))) (nI ((wayT h0 (drawT c0 (insT h0 T))).length)) u9.2.1 u9.2.2.1 u9.2.2.2.1 u9.2.2.2.2.1 wy5 u9.2.2.2.2.2.2) := hD
                have hwl : (wayT h0 (drawT c0 (insT h0 T))).length = (anc h0 (drawT c0 (insT h0 T))).length + 1 := by rw [way_in hr4.1 (by rw [k1]; exact (e7 h0).mpr (Or.inr rfl))]; simp
                rw [hwl] at hP hD
                have hal5 := anc_len (h := h0) (T := (drawT c0 (insT h0 T)))
                have hsz5 := hr4.2.2.1
                have hP : va_P D vwCl (mw M cZ cI ((nI 0)) (enc (root (drawT c0 (insT h0 T)))) (nI (siz (drawT c0 (insT h0 T)))) (moD (insT h0 T) c0 (moM mo (nI (siz (drawT c0 (insT h0 T)))))) (ti + nI 1) (dr + nI (siz (subT c0 (insT h0 T)))) (nI ((anc h0 (drawT c0 (insT h0 T))).length + 1)) u9.2.1 u9.2.2.1 u9.2.2.2.1 u9.2.2.2.2.1 wy5 u9.2.2.2.2.2.2) H := hP
                have hD : va_D A (mw M cZ cI ((nI 0)) (enc (root (drawT c0 (insT h0 T)))) (nI (siz (drawT c0 (insT h0 T)))) (moD (insT h0 T) c0 (moM mo (nI (siz (drawT c0 (insT h0 T)))))) (ti + nI 1) (dr + nI (siz (subT c0 (insT h0 T)))) (nI ((anc h0 (drawT c0 (insT h0 T))).length + 1)) u9.2.1 u9.2.2.1 u9.2.2.2.1 u9.2.2.2.2.1 wy5 u9.2.2.2.2.2.2) := hD
                refine lv_aload_n hx hb dX2_muster_164 rfl (lv_at hl 1 rfl) ?_
                refine va_get (D := D) (ci := 2) (v := .int (nI ((anc h0 (drawT c0 (insT h0 T))).length + 1))) (C := RX2) (T := TX2) (N := 13) hx hb hts (by decide +kernel) hown hG.1 hP 0 mw_m rfl 10 (by decide) (hts (.fieldLink RX2 33 "LopsidedRanksModel" "steps" "I") (by decide +kernel)) (fun _ h9 => h9) rfl dX2_muster_165 ?_
                refine lv_iconst (v := nI 1) hx hb dX2_muster_168 (by decide) ?_
                refine lv_isub hx hb dX2_muster_169 ?_
                refine zr_eqi (pk_sub (a := (anc h0 (drawT c0 (insT h0 T))).length + 1) (b := 1) (by omega)) ?_
                have ek := kx_nI (show h0 < 2 ^ 31 by omega)
                have hmu := musS_s (mo := mo) (dr := ti) (ds := dr) hmc
                rw [← e3, ← emo0] at hmu
                have hmz : musZ (nI h0) (T, mo, ti, dr) = _ := (if_pos (show kM (nI h0) T = 0 from kM_0 hh0 (fun q => q.elim (by omega) hm))).trans ((congrArg (fun z => musS z (T, mo, ti, dr)) ek).trans hmu)
                have eK : kM (nI h0) T = 0 := kM_0 hh0 (fun q => q.elim (by omega) hm)
                exact W.iret (v := (nI (((anc h0 (drawT c0 (insT h0 T))).length + 1) - 1))) hx hb hr (fun t ht hW => ⟨⟨_, (nI ((anc h0 (drawT c0 (insT h0 T))).length + 1), u9.2.1, u9.2.2.1, u9.2.2.2.1, u9.2.2.2.2.1, wy5, u9.2.2.2.2.2.2), rfl, ⟨fun _ => by rw [ek, hmu]; rfl, by rw [hmz]; exact hr4⟩, by rw [eK, hmz, ht]; exact hP, hG.moved hW, by rw [eK, hmz]; exact hD⟩, hS.F ht⟩) hS.2.2 dX2_muster_170
          · replace c79 := (zr_eq0 (by omega)).mp c79
            refine lv_iconst (v := (-1)) hx hb dX2_muster_82 (by decide) ?_
            refine lv_goto (tgt := 97) hx hb dX2_muster_83 (by decide) ?_
            refine zr_eqi (show _ = enc (parF h0 none T) from (wp1 c79).symm) ?_
            refine lv_iload_n hx hb dX2_muster_97 rfl (lv_at hl 2 rfl) ?_
            refine lv_iload_n hx hb dX2_muster_98 rfl (lv_at hl 2 rfl) ?_
            refine va_callv (va_runV (As := [.int (enc (parF h0 none T)), .int (nI h0), .int (nI h0)]) (rest := []) ⟨hx, hb, hml, hown, hts⟩ (c_X2_hang l (p0 := parF h0 none T) hh0 (fun c e => hin0 c (parF_mem e))) (cwV 3 hts gX2_muster_X2_hang rfl rfl rfl (by decide +kernel) ⟨Nat.le_of_ble_eq_true rfl, Nat.le_of_ble_eq_true rfl⟩) ⟨PcM.blind, va_recv hG.1 hP (ci := 2) (q0 := 0) rfl mw_m, PcM.at (fun q h => hA q (Nat.le_trans hS.1 h)) hP hG hD⟩ rfl rfl hl.1 rfl (lv_room (Nat.le_of_ble_eq_true rfl)) dX2_muster_99 ⟨Nat.zero_le _, Nat.zero_le _⟩) hS (fun q _ h => h) (fun q h => h) (fun u99 t H locs ht hvm q99 hB hz1 hk1 hS => ?_)
            obtain ⟨hP, -, hD⟩ := hB
            rw [ht] at hP
            have hP : va_P D vwCl (mw M cZ cI ((nI 0)) (hgTp (enc (root T)) (parF h0 none T) (nI h0)) (nI (siz T)) mo ti dr (nI ((anc h0 T).length)) ma isIn (hgL lf (parF h0 none T) h0 (nI h0)) (hgR rt (parF h0 none T) h0 (nI h0)) wy9 rw) H := hP
            have hD : va_D A (mw M cZ cI ((nI 0)) (hgTp (enc (root T)) (parF h0 none T) (nI h0)) (nI (siz T)) mo ti dr (nI ((anc h0 T).length)) ma isIn (hgL lf (parF h0 none T) h0 (nI h0)) (hgR rt (parF h0 none T) h0 (nI h0)) wy9 rw) := hD
            rw [ht1] at hP hD
            have hP : va_P D vwCl (mw M cZ cI ((nI 0)) (enc (root (insT h0 T))) (nI (siz T)) mo ti dr (nI ((anc h0 T).length)) ma isIn (hgL lf (parF h0 none T) h0 (nI h0)) (hgR rt (parF h0 none T) h0 (nI h0)) wy9 rw) H := hP
            have hD : va_D A (mw M cZ cI ((nI 0)) (enc (root (insT h0 T))) (nI (siz T)) mo ti dr (nI ((anc h0 T).length)) ma isIn (hgL lf (parF h0 none T) h0 (nI h0)) (hgR rt (parF h0 none T) h0 (nI h0)) wy9 rw) := hD
            refine lv_aload_n hx hb dX2_muster_102 rfl (lv_at hl 1 rfl) ?_
            refine va_get (D := D) (ci := 2) (v := .ref M.2.1) (C := RX2) (T := TX2) (N := 13) hx hb hts (by decide +kernel) hown hG.1 hP 0 mw_m rfl 6 (by decide) (hts (.fieldLink RX2 13 "LopsidedRanksModel" "isIn" "[Z") (by decide +kernel)) (fun _ h9 => h9) rfl dX2_muster_103 ?_
            refine lv_iload_n hx hb dX2_muster_106 rfl (lv_at hl 2 rfl) ?_
            refine lv_iconst (v := nI 1) hx hb dX2_muster_107 (by decide) ?_
            refine zr_zast hx hb hG.1 hP hD hS 1 1 mw_i rfl (k := h0) (by omega) (Nat.le_of_ble_eq_true rfl) rfl dX2_muster_108 (fun H locs hP hD hS => ?_)
            have hP : va_P D vwCl (mw M cZ cI ((nI 0)) (enc (root (insT h0 T))) (nI (siz T)) mo ti dr (nI ((anc h0 T).length)) ma (upd isIn h0 (nI 1)) (hgL lf (parF h0 none T) h0 (nI h0)) (hgR rt (parF h0 none T) h0 (nI h0)) wy9 rw) H := hP
            have hD : va_D A (mw M cZ cI ((nI 0)) (enc (root (insT h0 T))) (nI (siz T)) mo ti dr (nI ((anc h0 T).length)) ma (upd isIn h0 (nI 1)) (hgL lf (parF h0 none T) h0 (nI h0)) (hgR rt (parF h0 none T) h0 (nI h0)) wy9 rw) := hD
            refine lv_aload_n hx hb dX2_muster_109 rfl (lv_at hl 1 rfl) ?_
            refine va_get (D := D) (ci := 2) (v := .ref M.2.2.1) (C := RX2) (T := TX2) (N := 13) hx hb hts (by decide +kernel) hown hG.1 hP 0 mw_m rfl 7 (by decide) (hts (.fieldLink RX2 17 "LopsidedRanksModel" "left" "[I") (by decide +kernel)) (fun _ h9 => h9) rfl dX2_muster_110 ?_
            refine lv_iload_n hx hb dX2_muster_113 rfl (lv_at hl 2 rfl) ?_
            refine lv_iconst (v := (-1)) hx hb dX2_muster_114 (by decide) ?_
            refine zr_iast hx hb hG.1 hP hD hS 2 2 mw_l rfl (k := h0) (by omega) (Nat.le_of_ble_eq_true rfl) dX2_muster_115 (fun H locs hP hD hS => ?_)
            have hP : va_P D vwCl (mw M cZ cI ((nI 0)) (enc (root (insT h0 T))) (nI (siz T)) mo ti dr (nI ((anc h0 T).length)) ma (upd isIn h0 (nI 1)) (upd (hgL lf (parF h0 none T) h0 (nI h0)) h0 (-1)) (hgR rt (parF h0 none T) h0 (nI h0)) wy9 rw) H := hP
            have hD : va_D A (mw M cZ cI ((nI 0)) (enc (root (insT h0 T))) (nI (siz T)) mo ti dr (nI ((anc h0 T).length)) ma (upd isIn h0 (nI 1)) (upd (hgL lf (parF h0 none T) h0 (nI h0)) h0 (-1)) (hgR rt (parF h0 none T) h0 (nI h0)) wy9 rw) := hD
            refine lv_aload_n hx hb dX2_muster_116 rfl (lv_at hl 1 rfl) ?_
            refine va_get (D := D) (ci := 2) (v := .ref M.2.2.2.1) (C := RX2) (T := TX2) (N := 13) hx hb hts (by decide +kernel) hown hG.1 hP 0 mw_m rfl 8 (by decide) (hts (.fieldLink RX2 21 "LopsidedRanksModel" "right" "[I") (by decide +kernel)) (fun _ h9 => h9) rfl dX2_muster_117 ?_
            refine lv_iload_n hx hb dX2_muster_120 rfl (lv_at hl 2 rfl) ?_
            refine lv_iconst (v := (-1)) hx hb dX2_muster_121 (by decide) ?_
            refine zr_iast hx hb hG.1 hP hD hS 3 2 mw_r rfl (k := h0) (by omega) (Nat.le_of_ble_eq_true rfl) dX2_muster_122 (fun H locs hP hD hS => ?_)
            have hP : va_P D vwCl (mw M cZ cI ((nI 0)) (enc (root (insT h0 T))) (nI (siz T)) mo ti dr (nI ((anc h0 T).length)) ma (upd isIn h0 (nI 1)) (upd (hgL lf (parF h0 none T) h0 (nI h0)) h0 (-1)) (upd (hgR rt (parF h0 none T) h0 (nI h0)) h0 (-1)) wy9 rw) H := hP
            have hD : va_D A (mw M cZ cI ((nI 0)) (enc (root (insT h0 T))) (nI (siz T)) mo ti dr (nI ((anc h0 T).length)) ma (upd isIn h0 (nI 1)) (upd (hgL lf (parF h0 none T) h0 (nI h0)) h0 (-1)) (upd (hgR rt (parF h0 none T) h0 (nI h0)) h0 (-1)) wy9 rw) := hD
            refine lv_aload_n hx hb dX2_muster_123 rfl (lv_at hl 1 rfl) ?_
            refine lv_dup hx hb dX2_muster_124 rfl ?_
            refine va_get (D := D) (ci := 2) (v := .int (nI (siz T))) (C := RX2) (T := TX2) (N := 13) hx hb hts (by decide +kernel) hown hG.1 hP 0 mw_m rfl 2 (by decide) (hts (.fieldLink RX2 90 "LopsidedRanksModel" "soldiers" "I") (by decide +kernel)) (fun _ h9 => h9) rfl dX2_muster_125 ?_
            refine lv_iconst (v := nI 1) hx hb dX2_muster_128 (by decide) ?_
            refine lv_iadd hx hb dX2_muster_129 ?_
            refine zr_eqi (nI_add (siz T) 1) ?_
            refine va_put (D := D) (ci := 2) (v := .int (nI ((siz T) + 1))) (ty := .int) (C := RX2) (T := TX2) (N := 13) hx hb hts (by decide +kernel) tyX2 tyX2_ok nmX2 hown hG.1 hP hD hS 0 mw_m rfl 2 (by decide) (hts (.fieldLink RX2 90 "LopsidedRanksModel" "soldiers" "I") (by decide +kernel)) (fun _ h9 => h9) rfl (by decide +kernel) rfl rfl (Nat.le_of_ble_eq_true rfl) dX2_muster_130 (fun H locs hP hD hS => ?_)
            have hP : va_P D vwCl (mw M cZ cI ((nI 0)) (enc (root (insT h0 T))) ((nI ((siz T) + 1))) mo ti dr (nI ((anc h0 T).length)) ma (upd isIn h0 (nI 1)) (upd (hgL lf (parF h0 none T) h0 (nI h0)) h0 (-1)) (upd (hgR rt (parF h0 none T) h0 (nI h0)) h0 (-1)) wy9 rw) H := hP
            have hD : va_D A (mw M cZ cI ((nI 0)) (enc (root (insT h0 T))) ((nI ((siz T) + 1))) mo ti dr (nI ((anc h0 T).length)) ma (upd isIn h0 (nI 1)) (upd (hgL lf (parF h0 none T) h0 (nI h0)) h0 (-1)) (upd (hgR rt (parF h0 none T) h0 (nI h0)) h0 (-1)) wy9 rw) := hD
            refine lv_aload_n hx hb dX2_muster_133 rfl (lv_at hl 1 rfl) ?_
            refine lv_aload_n hx hb dX2_muster_134 rfl (lv_at hl 1 rfl) ?_
            refine va_get (D := D) (ci := 2) (v := .int mo) (C := RX2) (T := TX2) (N := 13) hx hb hts (by decide +kernel) hown hG.1 hP 0 mw_m rfl 3 (by decide) (hts (.fieldLink RX2 93 "LopsidedRanksModel" "most" "I") (by decide +kernel)) (fun _ h9 => h9) rfl dX2_muster_135 ?_
            refine lv_aload_n hx hb dX2_muster_138 rfl (lv_at hl 1 rfl) ?_
            refine va_get (D := D) (ci := 2) (v := .int ((nI ((siz T) + 1)))) (C := RX2) (T := TX2) (N := 13) hx hb hts (by decide +kernel) hown hG.1 hP 0 mw_m rfl 2 (by decide) (hts (.fieldLink RX2 90 "LopsidedRanksModel" "soldiers" "I") (by decide +kernel)) (fun _ h9 => h9) rfl dX2_muster_139 ?_
            refine va_mmax hx hb (hml.trans hl.1.symm) hown (hts (.methodLink RX2 43 Lib.Math.max.name) (by decide +kernel)) (hts (.static Lib.Math.max.name) (by decide +kernel)) (hts (.initialized "java/lang/Math") (by decide +kernel)) (hts (.code Lib.Math.max.name Lib.Math.max.code 2 (some .int)) (by decide +kernel)) (Nat.le_of_ble_eq_true rfl) (Nat.le_of_ble_eq_true rfl) (Nat.zero_le _) (Nat.zero_le _) dX2_muster_142 ?_
            refine zr_eqi moM_max ?_
            refine va_put (D := D) (ci := 2) (v := .int (moM mo (nI (siz T + 1)))) (ty := .int) (C := RX2) (T := TX2) (N := 13) hx hb hts (by decide +kernel) tyX2 tyX2_ok nmX2 hown hG.1 hP hD hS 0 mw_m rfl 3 (by decide) (hts (.fieldLink RX2 93 "LopsidedRanksModel" "most" "I") (by decide +kernel)) (fun _ h9 => h9) rfl (by decide +kernel) rfl rfl (Nat.le_of_ble_eq_true rfl) dX2_muster_145 (fun H locs hP hD hS => ?_)
            have hP : va_P D vwCl (mw M cZ cI ((nI 0)) (enc (root (insT h0 T))) ((nI ((siz T) + 1))) ((moM mo (nI (siz T + 1)))) ti dr (nI ((anc h0 T).length)) ma (upd isIn h0 (nI 1)) (upd (hgL lf (parF h0 none T) h0 (nI h0)) h0 (-1)) (upd (hgR rt (parF h0 none T) h0 (nI h0)) h0 (-1)) wy9 rw) H := hP
            have hD : va_D A (mw M cZ cI ((nI 0)) (enc (root (insT h0 T))) ((nI ((siz T) + 1))) ((moM mo (nI (siz T + 1)))) ti dr (nI ((anc h0 T).length)) ma (upd isIn h0 (nI 1)) (upd (hgL lf (parF h0 none T) h0 (nI h0)) h0 (-1)) (upd (hgR rt (parF h0 none T) h0 (nI h0)) h0 (-1)) wy9 rw) := hD
            rw [← e3] at hP hD
            have hP : va_P D vwCl (mw M cZ cI ((nI 0)) (enc (root (insT h0 T))) (nI (siz (insT h0 T))) (moM mo (nI (siz (insT h0 T)))) ti dr (nI ((anc h0 T).length)) ma (upd isIn h0 (nI 1)) (upd (hgL lf (parF h0 none T) h0 (nI h0)) h0 (-1)) (upd (hgR rt (parF h0 none T) h0 (nI h0)) h0 (-1)) wy9 rw) H := hP
            have hD : va_D A (mw M cZ cI ((nI 0)) (enc (root (insT h0 T))) (nI (siz (insT h0 T))) (moM mo (nI (siz (insT h0 T)))) ti dr (nI ((anc h0 T).length)) ma (upd isIn h0 (nI 1)) (upd (hgL lf (parF h0 none T) h0 (nI h0)) h0 (-1)) (upd (hgR rt (parF h0 none T) h0 (nI h0)) h0 (-1)) wy9 rw) := hD
            cases hmc : mcT T h0 with
            | none =>
              rw [hmc] at hl
              have hl : lv_has ls 3 [(2, .int (-1)), (0, .ref M.1), (1, .int (nI h0))] := hl
              refine lv_iload_n hx hb dX2_muster_148 rfl (lv_at hl 0 rfl) ?_
              refine lv_iconst (v := (-1)) hx hb dX2_muster_149 (by decide) ?_
              refine lv_icmp_eq (tgt := 159) hx hb dX2_muster_150 (by decide) (fun c150 => ?_) (fun c150 => ?_)
              · refine lv_aload_n hx hb dX2_muster_159 rfl (lv_at hl 1 rfl) ?_
                refine lv_iload_n hx hb dX2_muster_160 rfl (lv_at hl 2 rfl) ?_
                refine va_callv (va_runV (As := [.int (nI h0)]) (rest := []) ⟨hx, hb, hml, hown, hts⟩ (c_X2_goTo l (T := (insT h0 T)) hh0 hr1.2.2.2.1 hr1.2.1 (by have q1 := hgt_siz (T := (insT h0 T)); have q2 := hr1.2.2.1; omega)) (cwV 1 hts gX2_muster_X2_goTo rfl rfl rfl (by decide +kernel) ⟨Nat.le_of_ble_eq_true rfl, Nat.le_of_ble_eq_true rfl⟩) ⟨PcM.blind, va_recv hG.1 hP (ci := 2) (q0 := 0) rfl mw_m, PcM.at (fun q h => hA q (Nat.le_trans hS.1 h)) hP hG hD⟩ rfl rfl hl.1 rfl (lv_room (Nat.le_of_ble_eq_true rfl)) dX2_muster_161 ⟨Nat.zero_le _, Nat.zero_le _⟩) hS (fun q _ h => h) (fun q h => h) (fun wy5 t H locs ht hvm q161 hB hz1 hk1 hS => ?_)
                obtain ⟨hP, -, hD⟩ := hB
                rw [ht] at hP
                have hP : va_P D vwCl (mw M cZ cI ((nI 0)) (enc (root (insT h0 T))) (nI (siz (insT h0 T))) (moM mo (nI (siz (insT h0 T)))) ti dr (nI ((wayT h0 (insT h0 T)).length)) ma (upd isIn h0 (nI 1)) (upd (hgL lf (parF h0 none T) h0 (nI h0)) h0 (-1)) (upd (hgR rt (parF h0 none T) h0 (nI h0)) h0 (-1)) wy5 rw) H := hP
                have hD : va_D A (mw M cZ cI ((nI 0)) (enc (root (insT h0 T))) (nI (siz (insT h0 T))) (moM mo (nI (siz (insT h0 T)))) ti dr (nI ((wayT h0 (insT h0 T)).length)) ma (upd isIn h0 (nI 1)) (upd (hgL lf (parF h0 none T) h0 (nI h0)) h0 (-1)) (upd (hgR rt (parF h0 none T) h0 (nI h0)) h0 (-1)) wy5 rw) := hD
                have hwl : (wayT h0 (insT h0 T)).length = (anc h0 (insT h0 T)).length + 1 := by rw [way_in hr1.1 ((e7 h0).mpr (Or.inr rfl))]; simp
                rw [hwl] at hP hD
                have hal5 := anc_len (h := h0) (T := (insT h0 T))
                have hsz5 := hr1.2.2.1
                have hP : va_P D vwCl (mw M cZ cI ((nI 0)) (enc (root (insT h0 T))) (nI (siz (insT h0 T))) (moM mo (nI (siz (insT h0 T)))) ti dr (nI ((anc h0 (insT h0 T)).length + 1)) ma (upd isIn h0 (nI 1)) (upd (hgL lf (parF h0 none T) h0 (nI h0)) h0 (-1)) (upd (hgR rt (parF h0 none T) h0 (nI h0)) h0 (-1)) wy5 rw) H := hP
                have hD : va_D A (mw M cZ cI ((nI 0)) (enc (root (insT h0 T))) (nI (siz (insT h0 T))) (moM mo (nI (siz (insT h0 T)))) ti dr (nI ((anc h0 (insT h0 T)).length + 1)) ma (upd isIn h0 (nI 1)) (upd (hgL lf (parF h0 none T) h0 (nI h0)) h0 (-1)) (upd (hgR rt (parF h0 none T) h0 (nI h0)) h0 (-1)) wy5 rw) := hD
                refine lv_aload_n hx hb dX2_muster_164 rfl (lv_at hl 1 rfl) ?_
                refine va_get (D := D) (ci := 2) (v := .int (nI ((anc h0 (insT h0 T)).length + 1))) (C := RX2) (T := TX2) (N := 13) hx hb hts (by decide +kernel) hown hG.1 hP 0 mw_m rfl 10 (by decide) (hts (.fieldLink RX2 33 "LopsidedRanksModel" "steps" "I") (by decide +kernel)) (fun _ h9 => h9) rfl dX2_muster_165 ?_
                refine lv_iconst (v := nI 1) hx hb dX2_muster_168 (by decide) ?_
                refine lv_isub hx hb dX2_muster_169 ?_
                refine zr_eqi (pk_sub (a := (anc h0 (insT h0 T)).length + 1) (b := 1) (by omega)) ?_
                have ek := kx_nI (show h0 < 2 ^ 31 by omega)
                have hmu := musS_n (mo := mo) (dr := ti) (ds := dr) hmc
                rw [← e3] at hmu
                have hmz : musZ (nI h0) (T, mo, ti, dr) = _ := (if_pos (show kM (nI h0) T = 0 from kM_0 hh0 (fun q => q.elim (by omega) hm))).trans ((congrArg (fun z => musS z (T, mo, ti, dr)) ek).trans hmu)
                have eK : kM (nI h0) T = 0 := kM_0 hh0 (fun q => q.elim (by omega) hm)
                exact W.iret (v := (nI (((anc h0 (insT h0 T)).length + 1) - 1))) hx hb hr (fun t ht hW => ⟨⟨_, (nI ((anc h0 (insT h0 T)).length + 1), ma, upd isIn h0 (nI 1), upd (hgL lf (parF h0 none T) h0 (nI h0)) h0 (-1), upd (hgR rt (parF h0 none T) h0 (nI h0)) h0 (-1), wy5, rw), rfl, ⟨fun _ => by rw [ek, hmu]; rfl, by rw [hmz]; exact hr1⟩, by rw [eK, hmz, ht]; exact hP, hG.moved hW, by rw [eK, hmz]; exact hD⟩, hS.F ht⟩) hS.2.2 dX2_muster_170
              · exact absurd rfl c150
            | some c0 =>
              rw [hmc] at hl
              have hl : lv_has ls 3 [(2, .int (nI c0)), (0, .ref M.1), (1, .int (nI h0))] := hl
              have hcT : c0 ∈ keysT (insT h0 T) := (e7 c0).mpr (by
                have q := hmc
                unfold mcT at q
                split at q
                · cases q
                · rcases List.mem_cons.mp (List.mem_of_find?_eq_some q) with q | q
                  · exact Or.inr q
                  · exact Or.inl (anc_in (List.mem_reverse.mp q)))
              have hc0 : c0 < 1000 := hr1.2.1 c0 hcT
              obtain ⟨k1, k2⟩ := draw_keys (c := c0) hr1.2.2.1
              refine lv_iload_n hx hb dX2_muster_148 rfl (lv_at hl 0 rfl) ?_
              refine lv_iconst (v := (-1)) hx hb dX2_muster_149 (by decide) ?_
              refine lv_icmp_eq (tgt := 159) hx hb dX2_muster_150 (by decide) (fun c150 => ?_) (fun c150 => ?_)
              · exact absurd c150 (nI_m1 (by omega))
              · refine lv_aload_n hx hb dX2_muster_153 rfl (lv_at hl 1 rfl) ?_
                refine lv_iload_n hx hb dX2_muster_154 rfl (lv_at hl 0 rfl) ?_
                refine va_calli (va_runV (As := [.int (nI c0)]) (rest := []) ⟨hx, hb, hml, hown, hts⟩ (c_X2_drawUp l (T := insT h0 T) hr1 hcT) (cwV 1 hts gX2_muster_X2_drawUp rfl rfl rfl (by decide +kernel) ⟨Nat.le_of_ble_eq_true rfl, Nat.le_of_ble_eq_true rfl⟩) ⟨PcM.blind, va_recv hG.1 hP (ci := 2) (q0 := 0) rfl mw_m, PcM.at (fun q h => hA q (Nat.le_trans hS.1 h)) hP hG hD⟩ rfl rfl hl.1 rfl (lv_room (Nat.le_of_ble_eq_true rfl)) dX2_muster_155 ⟨Nat.zero_le _, Nat.zero_le _⟩) hS (fun q _ h => h) (fun q h => h) (fun r155 u9 t H locs ht hvm q155 hB hz1 hk1 hS => ?_)
                obtain ⟨hP, -, hD⟩ := hB
                rw [ht] at hP
                have hP : va_P D vwCl (mw M cZ cI ((nI 0)) (enc (root (drawT c0 (insT h0 T)))) (nI (siz (insT h0 T))) (moD (insT h0 T) c0 (moM mo (nI (siz (insT h0 T))))) (ti + nI 1) (dr + nI (siz (subT c0 (insT h0 T)))) u9.1 u9.2.1 u9.2.2.1 u9.2.2.2.1 u9.2.2.2.2.1 u9.2.2.2.2.2.1 u9.2.2.2.2.2.2) H := hP
                have hD : va_D A (mw M cZ cI ((nI 0)) (enc (root (drawT c0 (insT h0 T)))) (nI (siz (insT h0 T))) (moD (insT h0 T) c0 (moM mo (nI (siz (insT h0 T))))) (ti + nI 1) (dr + nI (siz (subT c0 (insT h0 T)))) u9.1 u9.2.1 u9.2.2.1 u9.2.2.2.1 u9.2.2.2.2.1 u9.2.2.2.2.2.1 u9.2.2.2.2.2.2) := hD
                obtain ⟨rfl, hr4⟩ := q155
                rw [← k2] at hP hD
                have emo0 : moM mo (nI (siz (drawT c0 (insT h0 T)))) = moM mo (nI (siz (insT h0 T))) := by rw [k2]
                have hP : va_P D vwCl (mw M cZ cI ((nI 0)) (enc (root (drawT c0 (insT h0 T)))) (nI (siz (drawT c0 (insT h0 T)))) (moD (insT h0 T) c0 (moM mo (nI (siz (drawT c0 (insT h0 T)))))) (ti + nI 1) (dr + nI (siz (subT c0 (insT h0 T)))) u9.1 u9.2.1 u9.2.2.1 u9.2.2.2.1 u9.2.2.2.2.1 u9.2.2.2.2.2.1 u9.2.2.2.2.2.2) H := hP
                have hD : va_D A (mw M cZ cI ((nI 0)) (enc (root (drawT c0 (insT h0 T)))) (nI (siz (drawT c0 (insT h0 T)))) (moD (insT h0 T) c0 (moM mo (nI (siz (drawT c0 (insT h0 T)))))) (ti + nI 1) (dr + nI (siz (subT c0 (insT h0 T)))) u9.1 u9.2.1 u9.2.2.1 u9.2.2.2.1 u9.2.2.2.2.1 u9.2.2.2.2.2.1 u9.2.2.2.2.2.2) := hD
                refine lv_pop hx hb dX2_muster_158 rfl ?_
                refine lv_aload_n hx hb dX2_muster_159 rfl (lv_at hl 1 rfl) ?_
                refine lv_iload_n hx hb dX2_muster_160 rfl (lv_at hl 2 rfl) ?_
                refine va_callv (va_runV (As := [.int (nI h0)]) (rest := []) ⟨hx, hb, hml, hown, hts⟩ (c_X2_goTo l (T := (drawT c0 (insT h0 T))) hh0 hr4.2.2.2.1 hr4.2.1 (by have q1 := hgt_siz (T := (drawT c0 (insT h0 T))); have q2 := hr4.2.2.1; omega)) (cwV 1 hts gX2_muster_X2_goTo rfl rfl rfl (by decide +kernel) ⟨Nat.le_of_ble_eq_true rfl, Nat.le_of_ble_eq_true rfl⟩) ⟨PcM.blind, va_recv hG.1 hP (ci := 2) (q0 := 0) rfl mw_m, PcM.at (fun q h => hA q (Nat.le_trans hS.1 h)) hP hG hD⟩ rfl rfl hl.1 rfl (lv_room (Nat.le_of_ble_eq_true rfl)) dX2_muster_161 ⟨Nat.zero_le _, Nat.zero_le _⟩) hS (fun q _ h => h) (fun q h => h) (fun wy5 t H locs ht hvm q161 hB hz1 hk1 hS => ?_)
                obtain ⟨hP, -, hD⟩ := hB
                rw [ht] at hP
                have hP : va_P D vwCl (mw M cZ cI ((nI 0)) (enc (root (drawT c0 (insT h0 T)))) (nI (siz (drawT c0 (insT h0 T)))) (moD (insT h0 T) c0 (moM mo (nI (siz (drawT c0 (insT h0 T)))))) (ti + nI 1) (dr + nI (siz (subT c0 (insT h0 T)))) (nI ((wayT h0 (drawT c0 (insT h0 T))).length)) u9.2.1 u9.2.2.1 u9.2.2.2.1 u9.2.2.2.2.1 wy5 u9.2.2.2.2.2.2) H := hP
                have hD : va_D A (mw M cZ cI ((nI 0)) (enc (root (drawT c0 (insT h0 T)))) (nI (siz (drawT c0 (insT h0 T)))) (moD (insT h0 T) c0 (moM mo (nI (siz (drawT c0 (insT h0 T)))))) (ti + nI 1) (dr + nI (siz (subT c0 (insT h0 T)))) (nI ((wayT h0 (drawT c0 (insT h0 T))).length)) u9.2.1 u9.2.2.1 u9.2.2.2.1 u9.2.2.2.2.1 wy5 u9.2.2.2.2.2.2) := hD
                have hwl : (wayT h0 (drawT c0 (insT h0 T))).length = (anc h0 (drawT c0 (insT h0 T))).length + 1 := by rw [way_in hr4.1 (by rw [k1]; exact (e7 h0).mpr (Or.inr rfl))]; simp
                rw [hwl] at hP hD
                have hal5 := anc_len (h := h0) (T := (drawT c0 (insT h0 T)))
                have hsz5 := hr4.2.2.1
                have hP : va_P D vwCl (mw M cZ cI ((nI 0)) (enc (root (drawT c0 (insT h0 T)))) (nI (siz (drawT c0 (insT h0 T)))) (moD (insT h0 T) c0 (moM mo (nI (siz (drawT c0 (insT h0 T)))))) (ti + nI 1) (dr + nI (siz (subT c0 (insT h0 T)))) (nI ((anc h0 (drawT c0 (insT h0 T))).length + 1)) u9.2.1 u9.2.2.1 u9.2.2.2.1 u9.2.2.2.2.1 wy5 u9.2.2.2.2.2.2) H := hP
                have hD : va_D A (mw M cZ cI ((nI 0)) (enc (root (drawT c0 (insT h0 T)))) (nI (siz (drawT c0 (insT h0 T)))) (moD (insT h0 T) c0 (moM mo (nI (siz (drawT c0 (insT h0 T)))))) (ti + nI 1) (dr + nI (siz (subT c0 (insT h0 T)))) (nI ((anc h0 (drawT c0 (insT h0 T))).length + 1)) u9.2.1 u9.2.2.1 u9.2.2.2.1 u9.2.2.2.2.1 wy5 u9.2.2.2.2.2.2) := hD
                refine lv_aload_n hx hb dX2_muster_164 rfl (lv_at hl 1 rfl) ?_
                refine va_get (D := D) (ci := 2) (v := .int (nI ((anc h0 (drawT c0 (insT h0 T))).length + 1))) (C := RX2) (T := TX2) (N := 13) hx hb hts (by decide +kernel) hown hG.1 hP 0 mw_m rfl 10 (by decide) (hts (.fieldLink RX2 33 "LopsidedRanksModel" "steps" "I") (by decide +kernel)) (fun _ h9 => h9) rfl dX2_muster_165 ?_
                refine lv_iconst (v := nI 1) hx hb dX2_muster_168 (by decide) ?_
                refine lv_isub hx hb dX2_muster_169 ?_
                refine zr_eqi (pk_sub (a := (anc h0 (drawT c0 (insT h0 T))).length + 1) (b := 1) (by omega)) ?_
                have ek := kx_nI (show h0 < 2 ^ 31 by omega)
                have hmu := musS_s (mo := mo) (dr := ti) (ds := dr) hmc
                rw [← e3, ← emo0] at hmu
                have hmz : musZ (nI h0) (T, mo, ti, dr) = _ := (if_pos (show kM (nI h0) T = 0 from kM_0 hh0 (fun q => q.elim (by omega) hm))).trans ((congrArg (fun z => musS z (T, mo, ti, dr)) ek).trans hmu)
                have eK : kM (nI h0) T = 0 := kM_0 hh0 (fun q => q.elim (by omega) hm)
                exact W.iret (v := (nI (((anc h0 (drawT c0 (insT h0 T))).length + 1) - 1))) hx hb hr (fun t ht hW => ⟨⟨_, (nI ((anc h0 (drawT c0 (insT h0 T))).length + 1), u9.2.1, u9.2.2.1, u9.2.2.2.1, u9.2.2.2.2.1, wy5, u9.2.2.2.2.2.2), rfl, ⟨fun _ => by rw [ek, hmu]; rfl, by rw [hmz]; exact hr4⟩, by rw [eK, hmz, ht]; exact hP, hG.moved hW, by rw [eK, hmz]; exact hD⟩, hS.F ht⟩) hS.2.2 dX2_muster_170
      · rw [nI_eq (by omega) (by omega)] at c34
        refine lv_aload_n hx hb dX2_muster_37 rfl (lv_at hl 0 rfl) ?_
        refine lv_iconst (v := nI 2) hx hb dX2_muster_38 (by decide) ?_
        refine va_calli (va_runV (As := [.int (nI 2)]) (rest := []) ⟨hx, hb, hml, hown, hts⟩ (c_X2_no l) (cwV 1 hts gX2_muster_X2_no rfl rfl rfl (by decide +kernel) ⟨Nat.le_of_ble_eq_true rfl, Nat.le_of_ble_eq_true rfl⟩) ⟨PcM.blind, va_recv hG.1 hP (ci := 2) (q0 := 0) rfl mw_m, PcM.at (fun q h => hA q (Nat.le_trans hS.1 h)) hP hG hD⟩ rfl rfl hl.1 rfl (lv_room (Nat.le_of_ble_eq_true rfl)) dX2_muster_39 ⟨Nat.zero_le _, Nat.zero_le _⟩) hS (fun q _ h => h) (fun q h => h) (fun r39 u39 t H locs ht hvm q39 hB hz1 hk1 hS => ?_)
        obtain ⟨hP, -, hD⟩ := hB
        rw [ht] at hP
        have hP : va_P D vwCl (mw M cZ cI (nI 2) (enc (root T)) (nI (siz T)) mo ti dr st ma isIn lf rt wy rw) H := hP
        have hD : va_D A (mw M cZ cI (nI 2) (enc (root T)) (nI (siz T)) mo ti dr st ma isIn lf rt wy rw) := hD
        subst q39
        have eK : kM (nI h0) T = 2 := kM_2 hh0 (Or.inl (by omega))
        exact W.iret (v := (nI 0)) hx hb hr (fun t ht hW => ⟨⟨_, (st, ma, isIn, lf, rt, wy, rw), rfl, ⟨fun q => absurd (eK.symm.trans q) (by decide), by rw [show musZ (nI h0) (T, mo, ti, dr) = (T, mo, ti, dr) from if_neg (by show ¬ kM (nI h0) T = 0; rw [eK]; decide)]; exact hrep⟩, by rw [eK, show musZ (nI h0) (T, mo, ti, dr) = (T, mo, ti, dr) from if_neg (by show ¬ kM (nI h0) T = 0; rw [eK]; decide), ht]; exact hP, hG.moved hW, by rw [eK, show musZ (nI h0) (T, mo, ti, dr) = (T, mo, ti, dr) from if_neg (by show ¬ kM (nI h0) T = 0; rw [eK]; decide)]; exact hD⟩, hS.F ht⟩) hS.2.2 dX2_muster_42
  · have hno : hiB x0 = false := Bool.eq_false_iff.mpr (b2i_eq c9)
    refine lv_aload_n hx hb dX2_muster_12 rfl (lv_at hl 0 rfl) ?_
    refine lv_iconst (v := nI 1) hx hb dX2_muster_13 (by decide) ?_
    refine va_calli (va_runV (As := [.int (nI 1)]) (rest := []) ⟨hx, hb, hml, hown, hts⟩ (c_X2_no l) (cwV 1 hts gX2_muster_X2_no rfl rfl rfl (by decide +kernel) ⟨Nat.le_of_ble_eq_true rfl, Nat.le_of_ble_eq_true rfl⟩) ⟨PcM.blind, va_recv hG.1 hP (ci := 2) (q0 := 0) rfl mw_m, PcM.at (fun q h => hA q (Nat.le_trans hS.1 h)) hP hG hD⟩ rfl rfl hl.1 rfl (lv_room (Nat.le_of_ble_eq_true rfl)) dX2_muster_14 ⟨Nat.zero_le _, Nat.zero_le _⟩) hS (fun q _ h => h) (fun q h => h) (fun r14 u14 t H locs ht hvm q14 hB hz1 hk1 hS => ?_)
    obtain ⟨hP, -, hD⟩ := hB
    rw [ht] at hP
    have hP : va_P D vwCl (mw M cZ cI (nI 1) (enc (root T)) (nI (siz T)) mo ti dr st ma isIn lf rt wy rw) H := hP
    have hD : va_D A (mw M cZ cI (nI 1) (enc (root T)) (nI (siz T)) mo ti dr st ma isIn lf rt wy rw) := hD
    subst q14
    have eK : kM x0 T = 1 := kM_1 hno
    exact W.iret (v := (nI 0)) hx hb hr (fun t ht hW => ⟨⟨_, (st, ma, isIn, lf, rt, wy, rw), rfl, ⟨fun q => absurd (eK.symm.trans q) (by decide), by rw [show musZ x0 (T, mo, ti, dr) = (T, mo, ti, dr) from if_neg (by show ¬ kM x0 T = 0; rw [eK]; decide)]; exact hrep⟩, by rw [eK, show musZ x0 (T, mo, ti, dr) = (T, mo, ti, dr) from if_neg (by show ¬ kM x0 T = 0; rw [eK]; decide), ht]; exact hP, hG.moved hW, by rw [eK, show musZ x0 (T, mo, ti, dr) = (T, mo, ti, dr) from if_neg (by show ¬ kM x0 T = 0; rw [eK]; decide)]; exact hD⟩, hS.F ht⟩) hS.2.2 dX2_muster_17

set_option maxHeartbeats 4000000 in
set_option maxRecDepth 100000 in
/-- draw -/
theorem c_X2_draw (l : Launch) {D : va_G} {cA cZ cI : ClassId} {M : Nat × Nat × Nat × Nat × Nat × Nat} {th mo ti dr st ma : Int32} {isIn lf rt wy rw : Nat → Int32} {A : Nat → Prop} {T : Tr} {x0 : Int32} (hrep : RepM T isIn lf rt) : Met l yX2_draw wsX2_draw ({ frames := 170, cells := 0, slots := 0, locals := 6800 } : Room) (PcM D (tysA cA cZ cI) A (mw M cZ cI th (enc (root T)) (nI (siz T)) mo ti dr st ma isIn lf rt wy rw) [.ref M.1, .int x0]) (va_Qi (S := ME) (fun r u => ((kD x0 T) = 0 → r = enc (root (balF 8 (keysT (subT (kx x0) T))))) ∧ RepM (draZ x0 (T, mo, ti, dr)).1 u.2.2.1 u.2.2.2.1 u.2.2.2.2.1) (fun u => BM D (tysA cA cZ cI) A (mw M cZ cI (nI (kD x0 T)) (enc (root (draZ x0 (T, mo, ti, dr)).1)) (nI (siz (draZ x0 (T, mo, ti, dr)).1)) ((draZ x0 (T, mo, ti, dr)).2.1) ((draZ x0 (T, mo, ti, dr)).2.2.1) ((draZ x0 (T, mo, ti, dr)).2.2.2) u.1 u.2.1 u.2.2.1 u.2.2.2.1 u.2.2.2.2.1 u.2.2.2.2.2.1 u.2.2.2.2.2.2)) A) 0 0 A := by
  refine Met.ofW (cc := cX2_draw) (maxL := 2) (ret := (some .int)) (by decide) rfl ?_
  intro p e s m args below meth c s₁ B hml hv
  obtain ⟨rfl, hA, hP, hG, hD⟩ := hv
  have hx := B.exec
  have hb := B.bytes
  have hr := B.returns
  have hts := atoms_spec (ws := wsX2_draw) B.pre
  have hown : s.vm.findClass RX2 = some m.cls := findClass_of_methodNamed B.named
  have hlocks := B.notSynchronized
  have hl := lv_entry ([.ref M.1, .int x0]) (n := 2) (Nat.le_of_ble_eq_true rfl)
  rw [lg_entry_eq]
  generalize (lg_sl ([.ref M.1, .int x0]) ++ List.replicate (2 - (lg_sl ([.ref M.1, .int x0])).length) Slot.unset).toArray = ls at hl ⊢
  have hl : lv_has ls 2 [(0, .ref M.1), (1, .int x0)] := hl
  have hS : va_S A s.heap s.heap [] := va_S.rf
  obtain ⟨hb0, hin0, hsz, hs, hi⟩ := id hrep
  have hgs := hgt_siz (T := T)
  refine lv_aload_n hx hb dX2_draw_0 rfl (lv_at hl 0 rfl) ?_
  refine lv_iload_n hx hb dX2_draw_1 rfl (lv_at hl 1 rfl) ?_
  refine vp_callSi (va_Run.run (va_runS (As := [.int x0]) (rest := [.ref M.1]) ⟨hx, hb, hml, hown, hts⟩ (c_X2_isHeight l) (va_cwS 1 hts gX2_draw_X2_isHeight rfl rfl rfl (by decide +kernel) ⟨Nat.le_of_ble_eq_true rfl, Nat.le_of_ble_eq_true rfl⟩) ⟨PcT.blind, PcT.at⟩ rfl rfl hl.1 rfl (lv_room (Nat.le_of_ble_eq_true rfl)) dX2_draw_2 ⟨Nat.zero_le _, Nat.zero_le _⟩)) (fun r2 q2 => ?_)
  subst q2
  refine lv_if_ne (tgt := 12) hx hb dX2_draw_5 (by decide) (fun c5 => ?_) (fun c5 => ?_)
  · obtain ⟨h0, hh0, rfl⟩ := hiB_not (b2i_ne c5)
    have hl : lv_has ls 2 [(0, .ref M.1), (1, .int (nI h0))] := hl
    refine lv_aload_n hx hb dX2_draw_12 rfl (lv_at hl 0 rfl) ?_
    refine va_get (D := D) (ci := 2) (v := .ref M.2.1) (C := RX2) (T := TX2) (N := 13) hx hb hts (by decide +kernel) hown hG.1 hP 0 mw_m rfl 6 (by decide) (hts (.fieldLink RX2 13 "LopsidedRanksModel" "isIn" "[Z") (by decide +kernel)) (fun _ h9 => h9) rfl dX2_draw_13 ?_
    refine lv_iload_n hx hb dX2_draw_16 rfl (lv_at hl 1 rfl) ?_
    refine zr_zald hx hb hG.1 hP 1 1 mw_i rfl (k := h0) (by omega) (Nat.le_of_ble_eq_true rfl) dX2_draw_17 ?_
    refine zr_eqi (hi h0 hh0) ?_
    refine lv_if_eq (tgt := 25) hx hb dX2_draw_18 (by decide) (fun c18 => ?_) (fun c18 => ?_)
    · have hm : ¬ h0 ∈ keysT T := fun q => b2i_eq c18 (decide_eq_true q)
      refine lv_iconst (v := nI 2) hx hb dX2_draw_25 (by decide) ?_
      refine va_put (D := D) (ci := 2) (v := .int (nI 2)) (ty := .int) (C := RX2) (T := TX2) (N := 13) hx hb hts (by decide +kernel) tyX2 tyX2_ok nmX2 hown hG.1 hP hD hS 0 mw_m rfl 0 (by decide) (hts (.fieldLink RX2 30 "LopsidedRanksModel" "thrown" "I") (by decide +kernel)) (fun _ h9 => h9) rfl (by decide +kernel) rfl rfl (Nat.le_of_ble_eq_true rfl) dX2_draw_26 (fun H locs hP hD hS => ?_)
      have hP : va_P D vwCl (mw M cZ cI ((nI 2)) (enc (root T)) (nI (siz T)) mo ti dr st ma isIn lf rt wy rw) H := hP
      have hD : va_D A (mw M cZ cI ((nI 2)) (enc (root T)) (nI (siz T)) mo ti dr st ma isIn lf rt wy rw) := hD
      refine lv_aload_n hx hb dX2_draw_29 rfl (lv_at hl 0 rfl) ?_
      refine va_get (D := D) (ci := 2) (v := .int ((nI 2))) (C := RX2) (T := TX2) (N := 13) hx hb hts (by decide +kernel) hown hG.1 hP 0 mw_m rfl 0 (by decide) (hts (.fieldLink RX2 30 "LopsidedRanksModel" "thrown" "I") (by decide +kernel)) (fun _ h9 => h9) rfl dX2_draw_30 ?_
      refine lv_if_ne (tgt := 44) hx hb dX2_draw_33 (by decide) (fun c33 => ?_) (fun c33 => ?_)
      · replace c33 := (not_congr (zr_eq0 (by omega))).mp c33
        refine lv_iconst (v := nI 0) hx hb dX2_draw_44 (by decide) ?_
        have eK : kD (nI h0) T = 2 := kD_2 hh0 hm
        exact W.iret (v := (nI 0)) hx hb hr (fun t ht hW => ⟨⟨_, (st, ma, isIn, lf, rt, wy, rw), rfl, ⟨fun q => absurd (eK.symm.trans q) (by decide), by rw [show draZ (nI h0) (T, mo, ti, dr) = (T, mo, ti, dr) from if_neg (by show ¬ kD (nI h0) T = 0; rw [eK]; decide)]; exact hrep⟩, by rw [eK, show draZ (nI h0) (T, mo, ti, dr) = (T, mo, ti, dr) from if_neg (by show ¬ kD (nI h0) T = 0; rw [eK]; decide), ht]; exact hP, hG.moved hW, by rw [eK, show draZ (nI h0) (T, mo, ti, dr) = (T, mo, ti, dr) from if_neg (by show ¬ kD (nI h0) T = 0; rw [eK]; decide)]; exact hD⟩, hS.F ht⟩) hS.2.2 dX2_draw_45
      · replace c33 := (zr_eq0 (by omega)).mp c33
        exact absurd c33 (by decide)
    · have hm : h0 ∈ keysT T := of_decide_eq_true (b2i_ne c18)
      refine lv_iconst (v := nI 0) hx hb dX2_draw_21 (by decide) ?_
      refine lv_goto (tgt := 26) hx hb dX2_draw_22 (by decide) ?_
      refine va_put (D := D) (ci := 2) (v := .int (nI 0)) (ty := .int) (C := RX2) (T := TX2) (N := 13) hx hb hts (by decide +kernel) tyX2 tyX2_ok nmX2 hown hG.1 hP hD hS 0 mw_m rfl 0 (by decide) (hts (.fieldLink RX2 30 "LopsidedRanksModel" "thrown" "I") (by decide +kernel)) (fun _ h9 => h9) rfl (by decide +kernel) rfl rfl (Nat.le_of_ble_eq_true rfl) dX2_draw_26 (fun H locs hP hD hS => ?_)
      have hP : va_P D vwCl (mw M cZ cI ((nI 0)) (enc (root T)) (nI (siz T)) mo ti dr st ma isIn lf rt wy rw) H := hP
      have hD : va_D A (mw M cZ cI ((nI 0)) (enc (root T)) (nI (siz T)) mo ti dr st ma isIn lf rt wy rw) := hD
      refine lv_aload_n hx hb dX2_draw_29 rfl (lv_at hl 0 rfl) ?_
      refine va_get (D := D) (ci := 2) (v := .int ((nI 0))) (C := RX2) (T := TX2) (N := 13) hx hb hts (by decide +kernel) hown hG.1 hP 0 mw_m rfl 0 (by decide) (hts (.fieldLink RX2 30 "LopsidedRanksModel" "thrown" "I") (by decide +kernel)) (fun _ h9 => h9) rfl dX2_draw_30 ?_
      refine lv_if_ne (tgt := 44) hx hb dX2_draw_33 (by decide) (fun c33 => ?_) (fun c33 => ?_)
      · replace c33 := (not_congr (zr_eq0 (by omega))).mp c33
        exact absurd c33 (by decide)
      · replace c33 := (zr_eq0 (by omega)).mp c33
        refine lv_aload_n hx hb dX2_draw_36 rfl (lv_at hl 0 rfl) ?_
        refine lv_iload_n hx hb dX2_draw_37 rfl (lv_at hl 1 rfl) ?_
        refine va_calli (va_runV (As := [.int (nI h0)]) (rest := []) ⟨hx, hb, hml, hown, hts⟩ (c_X2_drawUp l (T := T) hrep hm) (cwV 1 hts gX2_draw_X2_drawUp rfl rfl rfl (by decide +kernel) ⟨Nat.le_of_ble_eq_true rfl, Nat.le_of_ble_eq_true rfl⟩) ⟨PcM.blind, va_recv hG.1 hP (ci := 2) (q0 := 0) rfl mw_m, PcM.at (fun q h => hA q (Nat.le_trans hS.1 h)) hP hG hD⟩ rfl rfl hl.1 rfl (lv_room (Nat.le_of_ble_eq_true rfl)) dX2_draw_38 ⟨Nat.zero_le _, Nat.zero_le _⟩) hS (fun q _ h => h) (fun q h => h) (fun r38 u9 t H locs ht hvm q38 hB hz1 hk1 hS => ?_)
        obtain ⟨hP, -, hD⟩ := hB
        rw [ht] at hP
        have hP : va_P D vwCl (mw M cZ cI ((nI 0)) (enc (root (drawT h0 T))) (nI (siz T)) (moD T h0 mo) (ti + nI 1) (dr + nI (siz (subT h0 T))) u9.1 u9.2.1 u9.2.2.1 u9.2.2.2.1 u9.2.2.2.2.1 u9.2.2.2.2.2.1 u9.2.2.2.2.2.2) H := hP
        have hD : va_D A (mw M cZ cI ((nI 0)) (enc (root (drawT h0 T))) (nI (siz T)) (moD T h0 mo) (ti + nI 1) (dr + nI (siz (subT h0 T))) u9.1 u9.2.1 u9.2.2.1 u9.2.2.2.1 u9.2.2.2.2.1 u9.2.2.2.2.2.1 u9.2.2.2.2.2.2) := hD
        obtain ⟨rfl, hr4⟩ := q38
        obtain ⟨k1, k2⟩ := draw_keys (c := h0) hsz
        refine lv_goto (tgt := 45) hx hb dX2_draw_41 (by decide) ?_
        have ek := kx_nI (show h0 < 2 ^ 31 by omega)
        have hmz : draZ (nI h0) (T, mo, ti, dr) = drawS h0 (T, mo, ti, dr) := (if_pos (show kD (nI h0) T = 0 from kD_0 hh0 hm)).trans (congrArg (fun z => drawS z (T, mo, ti, dr)) ek)
        have hP : va_P D vwCl (mw M cZ cI ((nI 0)) (enc (root (drawT h0 T))) (nI (siz (drawT h0 T))) (moD T h0 mo) (ti + nI 1) (dr + nI (siz (subT h0 T))) u9.1 u9.2.1 u9.2.2.1 u9.2.2.2.1 u9.2.2.2.2.1 u9.2.2.2.2.2.1 u9.2.2.2.2.2.2) H := by rw [k2]; exact hP
        have hD : va_D A (mw M cZ cI ((nI 0)) (enc (root (drawT h0 T))) (nI (siz (drawT h0 T))) (moD T h0 mo) (ti + nI 1) (dr + nI (siz (subT h0 T))) u9.1 u9.2.1 u9.2.2.1 u9.2.2.2.1 u9.2.2.2.2.1 u9.2.2.2.2.2.1 u9.2.2.2.2.2.2) := by rw [k2]; exact hD
        have eK : kD (nI h0) T = 0 := kD_0 hh0 hm
        exact W.iret (v := (enc (root (balF 8 (keysT (subT h0 T)))))) hx hb hr (fun t ht hW => ⟨⟨_, (u9.1, u9.2.1, u9.2.2.1, u9.2.2.2.1, u9.2.2.2.2.1, u9.2.2.2.2.2.1, u9.2.2.2.2.2.2), rfl, ⟨fun _ => by rw [ek], by rw [hmz]; exact hr4⟩, by rw [eK, hmz, ht]; exact hP, hG.moved hW, by rw [eK, hmz]; exact hD⟩, hS.F ht⟩) hS.2.2 dX2_draw_45
  · have hno : hiB x0 = false := Bool.eq_false_iff.mpr (b2i_eq c5)
    refine lv_iconst (v := nI 1) hx hb dX2_draw_8 (by decide) ?_
    refine lv_goto (tgt := 26) hx hb dX2_draw_9 (by decide) ?_
    refine va_put (D := D) (ci := 2) (v := .int (nI 1)) (ty := .int) (C := RX2) (T := TX2) (N := 13) hx hb hts (by decide +kernel) tyX2 tyX2_ok nmX2 hown hG.1 hP hD hS 0 mw_m rfl 0 (by decide) (hts (.fieldLink RX2 30 "LopsidedRanksModel" "thrown" "I") (by decide +kernel)) (fun _ h9 => h9) rfl (by decide +kernel) rfl rfl (Nat.le_of_ble_eq_true rfl) dX2_draw_26 (fun H locs hP hD hS => ?_)
    have hP : va_P D vwCl (mw M cZ cI ((nI 1)) (enc (root T)) (nI (siz T)) mo ti dr st ma isIn lf rt wy rw) H := hP
    have hD : va_D A (mw M cZ cI ((nI 1)) (enc (root T)) (nI (siz T)) mo ti dr st ma isIn lf rt wy rw) := hD
    refine lv_aload_n hx hb dX2_draw_29 rfl (lv_at hl 0 rfl) ?_
    refine va_get (D := D) (ci := 2) (v := .int ((nI 1))) (C := RX2) (T := TX2) (N := 13) hx hb hts (by decide +kernel) hown hG.1 hP 0 mw_m rfl 0 (by decide) (hts (.fieldLink RX2 30 "LopsidedRanksModel" "thrown" "I") (by decide +kernel)) (fun _ h9 => h9) rfl dX2_draw_30 ?_
    refine lv_if_ne (tgt := 44) hx hb dX2_draw_33 (by decide) (fun c33 => ?_) (fun c33 => ?_)
    · replace c33 := (not_congr (zr_eq0 (by omega))).mp c33
      refine lv_iconst (v := nI 0) hx hb dX2_draw_44 (by decide) ?_
      have eK : kD x0 T = 1 := kD_1 hno
      exact W.iret (v := (nI 0)) hx hb hr (fun t ht hW => ⟨⟨_, (st, ma, isIn, lf, rt, wy, rw), rfl, ⟨fun q => absurd (eK.symm.trans q) (by decide), by rw [show draZ x0 (T, mo, ti, dr) = (T, mo, ti, dr) from if_neg (by show ¬ kD x0 T = 0; rw [eK]; decide)]; exact hrep⟩, by rw [eK, show draZ x0 (T, mo, ti, dr) = (T, mo, ti, dr) from if_neg (by show ¬ kD x0 T = 0; rw [eK]; decide), ht]; exact hP, hG.moved hW, by rw [eK, show draZ x0 (T, mo, ti, dr) = (T, mo, ti, dr) from if_neg (by show ¬ kD x0 T = 0; rw [eK]; decide)]; exact hD⟩, hS.F ht⟩) hS.2.2 dX2_draw_45
    · replace c33 := (zr_eq0 (by omega)).mp c33
      exact absurd c33 (by decide)

