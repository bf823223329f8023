/-! THE REFERENCE: counted, count -/
section Z8
variable {p : Program} {l : Launch} {e : Env} {R : Room} {s : State} {m : MethodId} {args : Array Value} {below : List Frame} {meth : Method} {c : Code} {H : Heap} {locs : List Loc} {cells slots : Nat} {Q : State → Prop}
variable {pc : Nat} {ls : Array Slot} {rest : List Value} {A : Nat → Prop} {H0 : Heap} {cc : ByteArray} {D : va_G} {cl : List vw_C} {tys : List (ClassId × FieldType)} {ws : va_W}
theorem zr_new8 (hexec : p.tables.exec = Jvm.exec) (hb : c.code = cc) (harr : (Cond.arrayClass .int).before args s = true) (hK : va_K D cl tys s) (hP : va_P D cl ws H) (hD : va_D A ws) (hS : va_S A H0 H locs) (hA : ∀ q, H0.size ≤ q → A q) (hcells : cells + 1 ≤ R.cells) (hslots : slots + 8 ≤ R.slots) (hdg : decode cc pc = .ok (.newarray .int, 2))
    (kk : ∀ (q : Nat) (c8 : ClassId) (H1 : Heap), va_K D cl (tys ++ [(c8, .int)]) s → va_P D cl (ws ++ [(q, .inl (c8, 8, .inl (fun _ => 0)))]) H1 → va_D A (ws ++ [(q, .inl (c8, 8, .inl (fun _ => 0)))]) → va_S A H0 H1 locs → W p l e R s m args below meth c H1 locs (cells + 1) (slots + 8) Q (F0 m (pc + 2) ls (.ref q :: rest))) : W p l e R s m args below meth c H locs cells slots Q (F0 m pc ls (.int (nI 8) :: rest)) := by
  have e1 : ∀ cA : ClassId, vp_cell cA (8, .inl (fun _ => 0)) = arrV cA 8 (fun _ => defaultValue .int) := fun cA => vp_cell_i cA 8 (fun _ => 0)
  have e2 : ¬ nI 8 < 0 := nI_pos (Nat.le_of_ble_eq_true rfl)
  have e3 : (nI 8).toNatClampNeg = 8 := nI_clamp (Nat.le_of_ble_eq_true rfl)
  have e4 : 8 * componentBytes .int ≤ 536870912 := Nat.le_of_ble_eq_true rfl
  exact va_newa (atype := .int) (ty := .int) hexec hb harr rfl hK hP hD hS hA (N' := 8) (a0 := (8, .inl (fun _ => 0))) e1 e2 e3 e4 hcells hslots hdg kk
theorem zr_st8 (hexec : p.tables.exec = Jvm.exec) (hb : c.code = cc) {q8 : Nat} {c8 : ClassId} {f : Nat → Int32} (hK : va_K D cl (tys ++ [(c8, .int)]) s) (hP : va_P D cl (ws ++ [(q8, .inl (c8, 8, .inl f))]) H) (hD : va_D A (ws ++ [(q8, .inl (c8, 8, .inl f))])) (hS : va_S A H0 H locs) {k : Nat} {x : Int32} (hin : k < 8) (hdg : decode cc pc = .ok (.iastore, 1))
    (kk : ∀ (H1 : Heap) (locs1 : List Loc), va_P D cl (ws ++ [(q8, .inl (c8, 8, .inl (upd f k x)))]) H1 → va_D A (ws ++ [(q8, .inl (c8, 8, .inl (upd f k x)))]) → va_S A H0 H1 locs1 → W p l e R s m args below meth c H1 locs1 cells slots Q (F0 m (pc + 1) ls rest)) : W p l e R s m args below meth c H locs cells slots Q (F0 m pc ls (.int x :: .int (nI k) :: .ref q8 :: rest)) := by
  have e9 : ∀ y z : Nat × va_E, (ws ++ [y]).set ws.length z = ws ++ [z] := fun y z => by simp
  refine zr_iast hexec hb hK hP hD hS ws.length tys.length (cA := c8) (n := 8) (f := f) (by simp) (by simp) hin (by decide) hdg (fun H1 locs1 h1 h2 h3 => ?_)
  rw [e9] at h1 h2
  exact kk H1 locs1 h1 h2 h3
theorem zr_ld8 (hexec : p.tables.exec = Jvm.exec) (hb : c.code = cc) {q8 : Nat} {c8 : ClassId} {f : Nat → Int32} (hK : va_K D cl (tys ++ [(c8, .int)]) s) (hP : va_P D cl (ws ++ [(q8, .inl (c8, 8, .inl f))]) H) {k : Nat} (hin : k < 8) (hdg : decode cc pc = .ok (.iaload, 1))
    (kk : W p l e R s m args below meth c H locs cells slots Q (F0 m (pc + 1) ls (.int (f k) :: rest))) : W p l e R s m args below meth c H locs cells slots Q (F0 m pc ls (.int (nI k) :: .ref q8 :: rest)) :=
  zr_iald hexec hb hK hP ws.length tys.length (cA := c8) (n := 8) (f := f) (by simp) (by simp) hin (by decide) hdg kk
end Z8
set_option maxHeartbeats 4000000 in
set_option maxRecDepth 100000 in
/-- counted(what) -/
theorem c_X2_counted (l : Launch) {D : va_G} {cA cZ cI : ClassId} {M : Nat × Nat × Nat × Nat × Nat × Nat} {th mo ti dr st ma : Int32} {isIn lf rt wy rw : Nat → Int32} {A : Nat → Prop} {T : Tr} {w0 : Nat} (hrep : RepM T isIn lf rt) (hw0 : w0 ≤ 7) : Met l yX2_counted wsX2_counted ({ frames := 170, cells := 1, slots := 8, locals := 6800 } : Room) (PcM D (tysA cA cZ cI) A (mw M cZ cI th (enc (root T)) (nI (siz T)) mo ti dr st ma isIn lf rt wy rw) [.ref M.1, .int (nI w0)]) (va_Qi (S := Unit) (fun r _ => r = tallyT T ti dr mo w0) (fun _ => BM D (tysA cA cZ cI) A (mw M cZ cI th (enc (root T)) (nI (siz T)) mo ti dr st ma isIn lf rt wy rw)) A) 1 8 A := by
  refine Met.ofW (cc := cX2_counted) (maxL := 3) (ret := (some .int)) (by decide) rfl ?_
  intro p e s m args below meth c s₁ B hml hv
  obtain ⟨rfl, hA, hP, hG, hD⟩ := hv
  have hx := B.exec
  have hb := B.bytes
  have hr := B.returns
  have hts := atoms_spec (ws := wsX2_counted) B.pre
  have hown : s.vm.findClass RX2 = some m.cls := findClass_of_methodNamed B.named
  have hlocks := B.notSynchronized
  have hl := lv_entry ([.ref M.1, .int (nI w0)]) (n := 3) (Nat.le_of_ble_eq_true rfl)
  rw [lg_entry_eq]
  generalize (lg_sl ([.ref M.1, .int (nI w0)]) ++ List.replicate (3 - (lg_sl ([.ref M.1, .int (nI w0)])).length) Slot.unset).toArray = ls at hl ⊢
  have hl : lv_has ls 3 [(0, .ref M.1), (1, .int (nI w0))] := hl
  have hS : va_S A s.heap s.heap [] := va_S.rf
  obtain ⟨hb0, hin0, hsz, hs, hi⟩ := id hrep
  have hgs := hgt_siz (T := T)
  refine lv_bipush (v := nI 8) hx hb dX2_counted_0 (by decide) ?_
  refine zr_new8 hx hb (hts (.arrayClass .int) (by decide +kernel)) hG.1 hP hD hS hA (Nat.le_of_ble_eq_true rfl) (Nat.le_of_ble_eq_true rfl) dX2_counted_2 (fun q8 c8 H hK8 hPQ hDQ hS => ?_)
  have hP : va_P D vwCl (mw M cZ cI th (enc (root T)) (nI (siz T)) mo ti dr st ma isIn lf rt wy rw) H := hPQ.mem (fun q hq => List.mem_append_left _ hq)
  refine lv_dup hx hb dX2_counted_4 rfl ?_
  refine lv_iconst (v := nI 0) hx hb dX2_counted_5 (by decide) ?_
  refine lv_aload_n hx hb dX2_counted_6 rfl (lv_at hl 0 rfl) ?_
  refine va_get (D := D) (ci := 2) (v := .int (nI (siz T))) (C := RX2) (T := TX2) (N := 13) hx hb hts (by decide +kernel) hown hG.1 hP 0 mw_m rfl 2 (by decide) (hts (.fieldLink RX2 90 "LopsidedRanksModel" "soldiers" "I") (by decide +kernel)) (fun _ h9 => h9) rfl dX2_counted_7 ?_
  refine zr_st8 hx hb hK8 hPQ hDQ hS (k := 0) (by omega) dX2_counted_10 (fun H locs hPQ hDQ hS => ?_)
  have hP : va_P D vwCl (mw M cZ cI th (enc (root T)) (nI (siz T)) mo ti dr st ma isIn lf rt wy rw) H := hPQ.mem (fun q hq => List.mem_append_left _ hq)
  refine lv_dup hx hb dX2_counted_11 rfl ?_
  refine lv_iconst (v := nI 1) hx hb dX2_counted_12 (by decide) ?_
  refine lv_aload_n hx hb dX2_counted_13 rfl (lv_at hl 0 rfl) ?_
  refine va_get (D := D) (ci := 2) (v := .int (enc (root T))) (C := RX2) (T := TX2) (N := 13) hx hb hts (by decide +kernel) hown hG.1 hP 0 mw_m rfl 1 (by decide) (hts (.fieldLink RX2 9 "LopsidedRanksModel" "top" "I") (by decide +kernel)) (fun _ h9 => h9) rfl dX2_counted_14 ?_
  refine zr_st8 hx hb hK8 hPQ hDQ hS (k := 1) (by omega) dX2_counted_17 (fun H locs hPQ hDQ hS => ?_)
  have hP : va_P D vwCl (mw M cZ cI th (enc (root T)) (nI (siz T)) mo ti dr st ma isIn lf rt wy rw) H := hPQ.mem (fun q hq => List.mem_append_left _ hq)
  refine lv_dup hx hb dX2_counted_18 rfl ?_
  refine lv_iconst (v := nI 2) hx hb dX2_counted_19 (by decide) ?_
  refine lv_aload_n hx hb dX2_counted_20 rfl (lv_at hl 0 rfl) ?_
  refine lv_aload_n hx hb dX2_counted_21 rfl (lv_at hl 0 rfl) ?_
  refine va_get (D := D) (ci := 2) (v := .int (enc (root T))) (C := RX2) (T := TX2) (N := 13) hx hb hts (by decide +kernel) hown hG.1 hP 0 mw_m rfl 1 (by decide) (hts (.fieldLink RX2 9 "LopsidedRanksModel" "top" "I") (by decide +kernel)) (fun _ h9 => h9) rfl dX2_counted_22 ?_
  refine vp_callSi (va_Run.run (va_runV (As := [.int (enc (root T))]) (rest := [.int (nI 2), .ref q8, .ref q8]) ⟨hx, hb, hml, hown, hts⟩ (c_X2_deep l (t := T) (d := 150) hs hin0 (by omega) (by omega)) (cwV 1 hts gX2_counted_X2_deep rfl rfl rfl (by decide +kernel) ⟨Nat.le_of_ble_eq_true rfl, Nat.le_of_ble_eq_true rfl⟩) ⟨PcR.blind, va_recv hG.1 hP (ci := 2) (q0 := 0) rfl mw_m, PcR.at hP hG⟩ rfl rfl hl.1 rfl (lv_room (Nat.le_of_ble_eq_true rfl)) dX2_counted_25 ⟨Nat.le_of_ble_eq_true rfl, Nat.le_of_ble_eq_true rfl⟩)) (fun r25 q25 => ?_)
  subst q25
  refine zr_st8 hx hb hK8 hPQ hDQ hS (k := 2) (by omega) dX2_counted_28 (fun H locs hPQ hDQ hS => ?_)
  have hP : va_P D vwCl (mw M cZ cI th (enc (root T)) (nI (siz T)) mo ti dr st ma isIn lf rt wy rw) H := hPQ.mem (fun q hq => List.mem_append_left _ hq)
  refine lv_dup hx hb dX2_counted_29 rfl ?_
  refine lv_iconst (v := nI 3) hx hb dX2_counted_30 (by decide) ?_
  refine lv_aload_n hx hb dX2_counted_31 rfl (lv_at hl 0 rfl) ?_
  refine va_get (D := D) (ci := 2) (v := .int (nI (siz T))) (C := RX2) (T := TX2) (N := 13) hx hb hts (by decide +kernel) hown hG.1 hP 0 mw_m rfl 2 (by decide) (hts (.fieldLink RX2 90 "LopsidedRanksModel" "soldiers" "I") (by decide +kernel)) (fun _ h9 => h9) rfl dX2_counted_32 ?_
  refine vp_callSi (va_Run.run (va_runS (As := [.int (nI (siz T))]) (rest := [.int (nI 3), .ref q8, .ref q8]) ⟨hx, hb, hml, hown, hts⟩ (c_X2_allowed l (n := siz T) (by omega)) (va_cwS 1 hts gX2_counted_X2_allowed rfl rfl rfl (by decide +kernel) ⟨Nat.le_of_ble_eq_true rfl, Nat.le_of_ble_eq_true rfl⟩) ⟨PcT.blind, PcT.at⟩ rfl rfl hl.1 rfl (lv_room (Nat.le_of_ble_eq_true rfl)) dX2_counted_35 ⟨Nat.le_of_ble_eq_true rfl, Nat.le_of_ble_eq_true rfl⟩)) (fun r35 q35 => ?_)
  subst q35
  refine zr_st8 hx hb hK8 hPQ hDQ hS (k := 3) (by omega) dX2_counted_38 (fun H locs hPQ hDQ hS => ?_)
  have hP : va_P D vwCl (mw M cZ cI th (enc (root T)) (nI (siz T)) mo ti dr st ma isIn lf rt wy rw) H := hPQ.mem (fun q hq => List.mem_append_left _ hq)
  refine lv_dup hx hb dX2_counted_39 rfl ?_
  refine lv_iconst (v := nI 4) hx hb dX2_counted_40 (by decide) ?_
  refine lv_aload_n hx hb dX2_counted_41 rfl (lv_at hl 0 rfl) ?_
  refine lv_aload_n hx hb dX2_counted_42 rfl (lv_at hl 0 rfl) ?_
  refine va_get (D := D) (ci := 2) (v := .int (enc (root T))) (C := RX2) (T := TX2) (N := 13) hx hb hts (by decide +kernel) hown hG.1 hP 0 mw_m rfl 1 (by decide) (hts (.fieldLink RX2 9 "LopsidedRanksModel" "top" "I") (by decide +kernel)) (fun _ h9 => h9) rfl dX2_counted_43 ?_
  refine vp_callSi (va_Run.run (va_runV (As := [.int (enc (root T))]) (rest := [.int (nI 4), .ref q8, .ref q8]) ⟨hx, hb, hml, hown, hts⟩ (c_X2_crookedIn l (t := T) (d := 150) hs hin0 (by omega) (by omega)) (cwV 1 hts gX2_counted_X2_crookedIn rfl rfl rfl (by decide +kernel) ⟨Nat.le_of_ble_eq_true rfl, Nat.le_of_ble_eq_true rfl⟩) ⟨PcR.blind, va_recv hG.1 hP (ci := 2) (q0 := 0) rfl mw_m, PcR.at hP hG⟩ rfl rfl hl.1 rfl (lv_room (Nat.le_of_ble_eq_true rfl)) dX2_counted_46 ⟨Nat.le_of_ble_eq_true rfl, Nat.le_of_ble_eq_true rfl⟩)) (fun r46 q46 => ?_)
  subst q46
  refine zr_st8 hx hb hK8 hPQ hDQ hS (k := 4) (by omega) dX2_counted_49 (fun H locs hPQ hDQ hS => ?_)
  have hP : va_P D vwCl (mw M cZ cI th (enc (root T)) (nI (siz T)) mo ti dr st ma isIn lf rt wy rw) H := hPQ.mem (fun q hq => List.mem_append_left _ hq)
  refine lv_dup hx hb dX2_counted_50 rfl ?_
  refine lv_iconst (v := nI 5) hx hb dX2_counted_51 (by decide) ?_
  refine lv_aload_n hx hb dX2_counted_52 rfl (lv_at hl 0 rfl) ?_
  refine va_get (D := D) (ci := 2) (v := .int ti) (C := RX2) (T := TX2) (N := 13) hx hb hts (by decide +kernel) hown hG.1 hP 0 mw_m rfl 4 (by decide) (hts (.fieldLink RX2 84 "LopsidedRanksModel" "times" "I") (by decide +kernel)) (fun _ h9 => h9) rfl dX2_counted_53 ?_
  refine zr_st8 hx hb hK8 hPQ hDQ hS (k := 5) (by omega) dX2_counted_56 (fun H locs hPQ hDQ hS => ?_)
  have hP : va_P D vwCl (mw M cZ cI th (enc (root T)) (nI (siz T)) mo ti dr st ma isIn lf rt wy rw) H := hPQ.mem (fun q hq => List.mem_append_left _ hq)
  refine lv_dup hx hb dX2_counted_57 rfl ?_
  refine lv_bipush (v := nI 6) hx hb dX2_counted_58 (by decide) ?_
  refine lv_aload_n hx hb dX2_counted_60 rfl (lv_at hl 0 rfl) ?_
  refine va_get (D := D) (ci := 2) (v := .int dr) (C := RX2) (T := TX2) (N := 13) hx hb hts (by decide +kernel) hown hG.1 hP 0 mw_m rfl 5 (by decide) (hts (.fieldLink RX2 87 "LopsidedRanksModel" "drawn" "I") (by decide +kernel)) (fun _ h9 => h9) rfl dX2_counted_61 ?_
  refine zr_st8 hx hb hK8 hPQ hDQ hS (k := 6) (by omega) dX2_counted_64 (fun H locs hPQ hDQ hS => ?_)
  have hP : va_P D vwCl (mw M cZ cI th (enc (root T)) (nI (siz T)) mo ti dr st ma isIn lf rt wy rw) H := hPQ.mem (fun q hq => List.mem_append_left _ hq)
  refine lv_dup hx hb dX2_counted_65 rfl ?_
  refine lv_bipush (v := nI 7) hx hb dX2_counted_66 (by decide) ?_
  refine lv_aload_n hx hb dX2_counted_68 rfl (lv_at hl 0 rfl) ?_
  refine va_get (D := D) (ci := 2) (v := .int mo) (C := RX2) (T := TX2) (N := 13) hx hb hts (by decide +kernel) hown hG.1 hP 0 mw_m rfl 3 (by decide) (hts (.fieldLink RX2 93 "LopsidedRanksModel" "most" "I") (by decide +kernel)) (fun _ h9 => h9) rfl dX2_counted_69 ?_
  refine zr_st8 hx hb hK8 hPQ hDQ hS (k := 7) (by omega) dX2_counted_72 (fun H locs hPQ hDQ hS => ?_)
  have hP : va_P D vwCl (mw M cZ cI th (enc (root T)) (nI (siz T)) mo ti dr st ma isIn lf rt wy rw) H := hPQ.mem (fun q hq => List.mem_append_left _ hq)
  refine lv_astore_n (lv' := [(2, .ref q8), (0, .ref M.1), (1, .int (nI w0))]) hx hb dX2_counted_73 rfl hl (by decide) rfl (fun ls hl => ?_)
  refine lv_aload_n hx hb dX2_counted_74 rfl (lv_at hl 0 rfl) ?_
  refine lv_iload_n hx hb dX2_counted_75 rfl (lv_at hl 2 rfl) ?_
  refine zr_ld8 hx hb hK8 hPQ (k := w0) (by omega) dX2_counted_76 ?_
  refine W.widen (k := 1) (n := 8) (Nat.le_of_ble_eq_true rfl) (Nat.le_of_ble_eq_true rfl) ?_
  exact W.iret (v := ((upd (upd (upd (upd (upd (upd (upd (upd (fun _ => 0) 0 (nI (siz T))) 1 (enc (root T))) 2 (pd (hgt T))) 3 (pd (lim (siz T)))) 4 (nI (ckn T))) 5 ti) 6 dr) 7 mo) w0)) hx hb hr (fun t ht hW => ⟨⟨_, (), rfl, upd8 (tallyT T ti dr mo) hw0, by rw [ht]; exact hP, hG.moved hW, hD⟩, hS.F ht⟩) hS.2.2 dX2_counted_77

set_option maxHeartbeats 4000000 in
set_option maxRecDepth 100000 in
/-- count -/
theorem c_X2_count (l : Launch) {D : va_G} {cA cZ cI : ClassId} {M : Nat × Nat × Nat × Nat × Nat × Nat} {th mo ti dr st ma : Int32} {isIn lf rt wy rw : Nat → Int32} {A : Nat → Prop} {T : Tr} {x0 : Int32} (hrep : RepM T isIn lf rt) : Met l yX2_count wsX2_count ({ frames := 180, cells := 1, slots := 8, locals := 7200 } : Room) (PcM D (tysA cA cZ cI) A (mw M cZ cI th (enc (root T)) (nI (siz T)) mo ti dr st ma isIn lf rt wy rw) [.ref M.1, .int x0]) (va_Qi (S := ME) (fun r u => ((kQ x0) = 0 → r = tallyT T ti dr mo (kx x0)) ∧ RepM (T, mo, ti, dr).1 u.2.2.1 u.2.2.2.1 u.2.2.2.2.1) (fun u => BM D (tysA cA cZ cI) A (mw M cZ cI (nI (kQ x0)) (enc (root (T, mo, ti, dr).1)) (nI (siz (T, mo, ti, dr).1)) ((T, mo, ti, dr).2.1) ((T, mo, ti, dr).2.2.1) ((T, mo, ti, dr).2.2.2) u.1 u.2.1 u.2.2.1 u.2.2.2.1 u.2.2.2.2.1 u.2.2.2.2.2.1 u.2.2.2.2.2.2)) A) 1 8 A := by
  refine Met.ofW (cc := cX2_count) (maxL := 2) (ret := (some .int)) (by decide) rfl ?_
  intro p e s m args below meth c s₁ B hml hv
  obtain ⟨rfl, hA, hP, hG, hD⟩ := hv
  have hx := B.exec
  have hb := B.bytes
  have hr := B.returns
  have hts := atoms_spec (ws := wsX2_count) B.pre
  have hown : s.vm.findClass RX2 = some m.cls := findClass_of_methodNamed B.named
  have hlocks := B.notSynchronized
  have hl := lv_entry ([.ref M.1, .int x0]) (n := 2) (Nat.le_of_ble_eq_true rfl)
  rw [lg_entry_eq]
  generalize (lg_sl ([.ref M.1, .int x0]) ++ List.replicate (2 - (lg_sl ([.ref M.1, .int x0])).length) Slot.unset).toArray = ls at hl ⊢
  have hl : lv_has ls 2 [(0, .ref M.1), (1, .int x0)] := hl
  have hS : va_S A s.heap s.heap [] := va_S.rf
  obtain ⟨hb0, hin0, hsz, hs, hi⟩ := id hrep
  have hgs := hgt_siz (T := T)
  refine lv_aload_n hx hb dX2_count_0 rfl (lv_at hl 0 rfl) ?_
  refine lv_iconst (v := nI 0) hx hb dX2_count_1 (by decide) ?_
  refine va_put (D := D) (ci := 2) (v := .int (nI 0)) (ty := .int) (C := RX2) (T := TX2) (N := 13) hx hb hts (by decide +kernel) tyX2 tyX2_ok nmX2 hown hG.1 hP hD hS 0 mw_m rfl 0 (by decide) (hts (.fieldLink RX2 30 "LopsidedRanksModel" "thrown" "I") (by decide +kernel)) (fun _ h9 => h9) rfl (by decide +kernel) rfl rfl (Nat.le_of_ble_eq_true rfl) dX2_count_2 (fun H locs hP hD hS => ?_)
  have hP : va_P D vwCl (mw M cZ cI ((nI 0)) (enc (root T)) (nI (siz T)) mo ti dr st ma isIn lf rt wy rw) H := hP
  have hD : va_D A (mw M cZ cI ((nI 0)) (enc (root T)) (nI (siz T)) mo ti dr st ma isIn lf rt wy rw) := hD
  refine lv_iload_n hx hb dX2_count_5 rfl (lv_at hl 1 rfl) ?_
  refine lv_if_lt (tgt := 23) hx hb dX2_count_6 (by decide) (fun c6 => ?_) (fun c6 => ?_)
  · have hoq : hqB x0 = false := hqB_f (Or.inl c6)
    refine lv_aload_n hx hb dX2_count_23 rfl (lv_at hl 0 rfl) ?_
    refine lv_iconst (v := nI 1) hx hb dX2_count_24 (by decide) ?_
    refine va_calli (va_runV (As := [.int (nI 1)]) (rest := []) ⟨hx, hb, hml, hown, hts⟩ (c_X2_no l) (cwV 1 hts gX2_count_X2_no rfl rfl rfl (by decide +kernel) ⟨Nat.le_of_ble_eq_true rfl, Nat.le_of_ble_eq_true rfl⟩) ⟨PcM.blind, va_recv hG.1 hP (ci := 2) (q0 := 0) rfl mw_m, PcM.at (fun q h => hA q (Nat.le_trans hS.1 h)) hP hG hD⟩ rfl rfl hl.1 rfl (lv_room (Nat.le_of_ble_eq_true rfl)) dX2_count_25 ⟨Nat.le_of_ble_eq_true rfl, Nat.le_of_ble_eq_true rfl⟩) hS (fun q _ h => h) (fun q h => h) (fun r25 u25 t H locs ht hvm q25 hB hz1 hk1 hS => ?_)
    obtain ⟨hP, -, hD⟩ := hB
    rw [ht] at hP
    have hP : va_P D vwCl (mw M cZ cI (nI 1) (enc (root T)) (nI (siz T)) mo ti dr st ma isIn lf rt wy rw) H := hP
    have hD : va_D A (mw M cZ cI (nI 1) (enc (root T)) (nI (siz T)) mo ti dr st ma isIn lf rt wy rw) := hD
    subst q25
    have eK : kQ x0 = 1 := if_neg (by rw [hoq]; decide)
    refine W.widen (k := 1) (n := 8) (Nat.le_of_ble_eq_true rfl) (Nat.le_of_ble_eq_true rfl) ?_
    exact W.iret (v := (nI 0)) hx hb hr (fun t ht hW => ⟨⟨_, (st, ma, isIn, lf, rt, wy, rw), rfl, ⟨fun q => absurd (eK.symm.trans q) (by decide), hrep⟩, by rw [eK, ht]; exact hP, hG.moved hW, by rw [eK]; exact hD⟩, hS.F ht⟩) hS.2.2 dX2_count_28
  · refine lv_iload_n hx hb dX2_count_9 rfl (lv_at hl 1 rfl) ?_
    refine lv_bipush (v := nI 7) hx hb dX2_count_10 (by decide) ?_
    refine lv_icmp_gt (tgt := 23) hx hb dX2_count_12 (by decide) (fun c12 => ?_) (fun c12 => ?_)
    · have hoq : hqB x0 = false := hqB_f (Or.inr c12)
      refine lv_aload_n hx hb dX2_count_23 rfl (lv_at hl 0 rfl) ?_
      refine lv_iconst (v := nI 1) hx hb dX2_count_24 (by decide) ?_
      refine va_calli (va_runV (As := [.int (nI 1)]) (rest := []) ⟨hx, hb, hml, hown, hts⟩ (c_X2_no l) (cwV 1 hts gX2_count_X2_no rfl rfl rfl (by decide +kernel) ⟨Nat.le_of_ble_eq_true rfl, Nat.le_of_ble_eq_true rfl⟩) ⟨PcM.blind, va_recv hG.1 hP (ci := 2) (q0 := 0) rfl mw_m, PcM.at (fun q h => hA q (Nat.le_trans hS.1 h)) hP hG hD⟩ rfl rfl hl.1 rfl (lv_room (Nat.le_of_ble_eq_true rfl)) dX2_count_25 ⟨Nat.le_of_ble_eq_true rfl, Nat.le_of_ble_eq_true rfl⟩) hS (fun q _ h => h) (fun q h => h) (fun r25 u25 t H locs ht hvm q25 hB hz1 hk1 hS => ?_)
      obtain ⟨hP, -, hD⟩ := hB
      rw [ht] at hP
      have hP : va_P D vwCl (mw M cZ cI (nI 1) (enc (root T)) (nI (siz T)) mo ti dr st ma isIn lf rt wy rw) H := hP
      have hD : va_D A (mw M cZ cI (nI 1) (enc (root T)) (nI (siz T)) mo ti dr st ma isIn lf rt wy rw) := hD
      subst q25
      have eK : kQ x0 = 1 := if_neg (by rw [hoq]; decide)
      refine W.widen (k := 1) (n := 8) (Nat.le_of_ble_eq_true rfl) (Nat.le_of_ble_eq_true rfl) ?_
      exact W.iret (v := (nI 0)) hx hb hr (fun t ht hW => ⟨⟨_, (st, ma, isIn, lf, rt, wy, rw), rfl, ⟨fun q => absurd (eK.symm.trans q) (by decide), hrep⟩, by rw [eK, ht]; exact hP, hG.moved hW, by rw [eK]; exact hD⟩, hS.F ht⟩) hS.2.2 dX2_count_28
    · obtain ⟨w0, hw0, rfl⟩ := oddQ.not (x := x0) (fun q => q.elim c6 (fun z => c12 z))
      have hl : lv_has ls 2 [(0, .ref M.1), (1, .int (nI w0))] := hl
      refine lv_aload_n hx hb dX2_count_15 rfl (lv_at hl 0 rfl) ?_
      refine lv_iload_n hx hb dX2_count_16 rfl (lv_at hl 1 rfl) ?_
      refine va_calli (va_runV (As := [.int (nI w0)]) (rest := []) ⟨hx, hb, hml, hown, hts⟩ (c_X2_counted l hrep hw0) (cwV 1 hts gX2_count_X2_counted rfl rfl rfl (by decide +kernel) ⟨Nat.le_of_ble_eq_true rfl, Nat.le_of_ble_eq_true rfl⟩) ⟨PcM.blind, va_recv hG.1 hP (ci := 2) (q0 := 0) rfl mw_m, PcM.at (fun q h => hA q (Nat.le_trans hS.1 h)) hP hG hD⟩ rfl rfl hl.1 rfl (lv_room (Nat.le_of_ble_eq_true rfl)) dX2_count_17 ⟨Nat.le_of_ble_eq_true rfl, Nat.le_of_ble_eq_true rfl⟩) hS (fun q _ h => h) (fun q h => h) (fun r17 u17 t H locs ht hvm q17 hB hz1 hk1 hS => ?_)
      obtain ⟨hP, -, hD⟩ := hB
      rw [ht] at hP
      have hP : va_P D vwCl (mw M cZ cI ((nI 0)) (enc (root T)) (nI (siz T)) mo ti dr st ma isIn lf rt wy rw) H := hP
      have hD : va_D A (mw M cZ cI ((nI 0)) (enc (root T)) (nI (siz T)) mo ti dr st ma isIn lf rt wy rw) := hD
      subst q17
      refine lv_goto (tgt := 28) hx hb dX2_count_20 (by decide) ?_
      have eK : kQ (nI w0) = 0 := if_pos (hqB_t (oddQ_nI hw0))
      refine W.widen (k := 1) (n := 8) (Nat.le_of_ble_eq_true rfl) (Nat.le_of_ble_eq_true rfl) ?_
      exact W.iret (v := (tallyT T ti dr mo w0)) hx hb hr (fun t ht hW => ⟨⟨_, (st, ma, isIn, lf, rt, wy, rw), rfl, ⟨fun _ => by rw [kx_nI (by omega)], hrep⟩, by rw [eK, ht]; exact hP, hG.moved hW, by rw [eK]; exact hD⟩, hS.F ht⟩) hS.2.2 dX2_count_28

