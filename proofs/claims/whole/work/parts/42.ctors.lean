/-! THE CONSTRUCTORS of the class and of the reference -/
theorem arr_id {D : va_G} {tys : List (ClassId × FieldType)} {U : State} (hK : va_K D vwCl tys U) {i j : Nat} {a b : ClassId} (hi : tys[i]? = some (a, .int)) (hj : tys[j]? = some (b, .int)) : b = a := by
  have h1 : U.vm.findClass _ = some a := (hK.2 i _ hi).2
  have h2 : U.vm.findClass _ = some b := (hK.2 j _ hj).2
  exact Option.some.inj (h2.symm.trans h1)
/-- a start of a constructor -/
def PcI (D : va_G) (tys : List (ClassId × FieldType)) (A : Nat → Prop) (ws : va_W) (av : List Value) : Array Value → State → Prop := va_Pc av (fun U => (∀ q, U.heap.size ≤ q → A q) ∧ va_P D vwCl ws U.heap ∧ va_K D vwCl tys U ∧ va_D A ws ∧ va_AO RX0 U)
theorem PcI.blind {D : va_G} {tys : List (ClassId × FieldType)} {A : Nat → Prop} {ws : va_W} {av : List Value} : FrameBlind (PcI D tys A ws av) := fun _ U g mk q => ⟨q.1, q.2.1, q.2.2.1, va_K.eqvm q.2.2.2.1 rfl, q.2.2.2.2.1, q.2.2.2.2.2⟩
theorem PcI.at {D : va_G} {tys : List (ClassId × FieldType)} {A : Nat → Prop} {ws : va_W} {av : List Value} {s : State} {H : Heap} (hA : ∀ q, H.size ≤ q → A q) (hP : va_P D vwCl ws H) (hK : va_K D vwCl tys s) (hD : va_D A ws) (hO : va_AO RX0 s) : ∀ U : State, U.heap = H → s.WarmedH U.vm → PcI D tys A ws av av.toArray U := fun _ hU hW => ⟨rfl, by rw [hU]; exact hA, by rw [hU]; exact hP, va_K.moved hW.alike hK, hD, va_AO.moved hW.alike hO⟩
/-- the world behind a constructor -/
def BI (D : va_G) (tys : List (ClassId × FieldType)) (A : Nat → Prop) (ws : va_W) (t : State) : Prop := va_P D vwCl ws t.heap ∧ va_K D vwCl tys t ∧ va_D A ws
theorem cw0 {x q : Nat} {cA : ClassId} {ad : Nat → Nat} {g : Nat → Nd} : CWT x q cA .leaf 0 0 0 ad g = [(x, .inr (1, [.ref q, .int 0, .null, .int 0, .int 0, .int 0])), (q, .inl (cA, 150, .inr (.inr (.inr (.inr (fun _ => none))))))] := by
  simp [CWT, cw, cX, kp, keysT, root, siz, va_rf]
  rfl
set_option maxHeartbeats 4000000 in
set_option maxRecDepth 100000 in
/-- LopsidedRanks() -/
theorem c_X1_init (l : Launch) {D : va_G} {tys : List (ClassId × FieldType)} {x : Nat} {A : Nat → Prop} : Met l yX1_init wsX1_init ({ frames := 1, cells := 1, slots := 150, locals := 40 } : Room) (PcI D tys A [(x, .inr (1, [.null, .int 0, .null, .int 0, .int 0, .int 0]))] [.ref x]) (va_Qv (S := Nat × ClassId) (fun _ => True) (fun u => BI D (tys ++ [(u.2, .object RX0)]) A (CWT x u.1 u.2 .leaf 0 0 0 (fun _ => 0) (fun _ => (none, none, none, 0)))) A) 1 150 A := by
  refine Met.ofW (cc := cX1_init) (maxL := 1) (ret := none) (by decide) rfl ?_
  intro p e s m args below meth c s₁ B hml hv
  obtain ⟨rfl, hA, hP, hK, hD, hO⟩ := hv
  have hx := B.exec
  have hb := B.bytes
  have hr := B.returns
  have hts := atoms_spec (ws := wsX1_init) B.pre
  have hown : s.vm.findClass RX1 = some m.cls := findClass_of_methodNamed B.named
  have hlocks := B.notSynchronized
  have hl := lv_entry ([.ref x]) (n := 1) (Nat.le_of_ble_eq_true rfl)
  rw [lg_entry_eq]
  generalize (lg_sl ([.ref x]) ++ List.replicate (1 - (lg_sl ([.ref x])).length) Slot.unset).toArray = ls at hl ⊢
  have hl : lv_has ls 1 [(0, .ref x)] := hl
  have hS : va_S A s.heap s.heap [] := va_S.rf
  have hin : meth.name = "<init>" := (name_of_methodNamed B.named B.method).1
  refine lv_aload_n hx hb dX1_init_0 rfl (lv_at hl 0 rfl) ?_
  refine W.objInit hx hb hown (hts (.methodLink RX1 1 objectInit) (by decide +kernel)) (hts (.instanceMethod objectInit) (by decide +kernel)) (hts _ (List.mem_of_getElem? (l := wsX1_init) (i := 3) rfl)) rfl (by rw [hml]; exact hl.1) rfl dX1_init_1 (Nat.le_of_ble_eq_true rfl) (Nat.le_of_ble_eq_true rfl) ?_
  refine W.eq (g2 := F0 m 4 ls []) rfl ?_
  refine lv_aload_n hx hb dX1_init_4 rfl (lv_at hl 0 rfl) ?_
  refine lv_sipush (v := nI 150) hx hb dX1_init_5 (by decide) ?_
  refine va_newq hx hb hown (hts (.classLink RX1 9 RX0) (by decide +kernel)) hO hK hP hD hS hA (n := nI 150) (N' := 150) (nI_pos (Nat.le_of_ble_eq_true rfl)) (nI_clamp (Nat.le_of_ble_eq_true rfl)) (Nat.le_of_ble_eq_true rfl) (Nat.le_of_ble_eq_true rfl) (Nat.le_of_ble_eq_true rfl) dX1_init_8 (fun q cA H hK hP hD hS => ?_)
  refine va_putF (D := D) (ci := 1) (v := .ref q) (ty := tyX1 0) (C := RX1) (T := TX1) (N := 6) hx hb hts (by decide +kernel) tyX1 tyX1_ok nmX1 hown hK hP hD hS 0 rfl rfl 0 (by decide) (hts (.fieldLink RX1 11 "LopsidedRanks" "line" "[LLopsidedRanks$Soldier;") (by decide +kernel)) (fun _ h9 => h9) rfl hin rfl (by decide +kernel) rfl rfl (Nat.le_of_ble_eq_true rfl) dX1_init_11 (fun H locs hP hD hS => ?_)
  have hP : va_P D vwCl [(x, .inr (1, [.ref q, .int 0, .null, .int 0, .int 0, .int 0])), (q, .inl (cA, 150, .inr (.inr (.inr (.inr (fun _ => none))))))] H := hP
  have hD : va_D A [(x, .inr (1, [.ref q, .int 0, .null, .int 0, .int 0, .int 0])), (q, .inl (cA, 150, .inr (.inr (.inr (.inr (fun _ => none))))))] := hD
  exact W.vret hx hb hr (fun t ht hW => ⟨⟨(q, cA), rfl, trivial, by rw [cw0, ht]; exact hP, va_K.moved hW.alike hK, by rw [cw0]; exact hD⟩, hS.F ht⟩) hS.2.2 dX1_init_14

set_option maxHeartbeats 4000000 in
set_option maxRecDepth 100000 in
/-- LopsidedRanksModel() -/
theorem c_X2_init (l : Launch) {D : va_G} {tys : List (ClassId × FieldType)} {M1 : Nat} {A : Nat → Prop} : Met l yX2_init wsX2_init ({ frames := 1, cells := 5, slots := 3301, locals := 40 } : Room) (PcI D tys A [(M1, .inr (2, [.int 0, .int 0, .int 0, .int 0, .int 0, .int 0, .null, .null, .null, .null, .int 0, .null, .int 0]))] [.ref M1]) (va_Qv (S := (Nat × Nat × Nat × Nat × Nat) × ClassId × ClassId) (fun _ => True) (fun u => BI D (tys ++ [(u.2.1, .boolean), (u.2.2, .int)]) A (mw (M1, u.1) u.2.1 u.2.2 0 (-1) 0 0 0 0 0 0 (fun _ => 0) (fun _ => 0) (fun _ => 0) (fun _ => 0) (fun _ => 0))) A) 5 3301 A := by
  refine Met.ofW (cc := cX2_init) (maxL := 1) (ret := none) (by decide) rfl ?_
  intro p e s m args below meth c s₁ B hml hv
  obtain ⟨rfl, hA, hP, hK, hD, hO⟩ := hv
  have hx := B.exec
  have hb := B.bytes
  have hr := B.returns
  have hts := atoms_spec (ws := wsX2_init) B.pre
  have hown : s.vm.findClass RX2 = some m.cls := findClass_of_methodNamed B.named
  have hlocks := B.notSynchronized
  have hl := lv_entry ([.ref M1]) (n := 1) (Nat.le_of_ble_eq_true rfl)
  rw [lg_entry_eq]
  generalize (lg_sl ([.ref M1]) ++ List.replicate (1 - (lg_sl ([.ref M1])).length) Slot.unset).toArray = ls at hl ⊢
  have hl : lv_has ls 1 [(0, .ref M1)] := hl
  have hS : va_S A s.heap s.heap [] := va_S.rf
  have hin : meth.name = "<init>" := (name_of_methodNamed B.named B.method).1
  refine lv_aload_n hx hb dX2_init_0 rfl (lv_at hl 0 rfl) ?_
  refine W.objInit hx hb hown (hts (.methodLink RX2 1 objectInit) (by decide +kernel)) (hts (.instanceMethod objectInit) (by decide +kernel)) (hts _ (List.mem_of_getElem? (l := wsX2_init) (i := 3) rfl)) rfl (by rw [hml]; exact hl.1) rfl dX2_init_1 (Nat.le_of_ble_eq_true rfl) (Nat.le_of_ble_eq_true rfl) ?_
  refine W.eq (g2 := F0 m 4 ls []) rfl ?_
  refine lv_aload_n hx hb dX2_init_4 rfl (lv_at hl 0 rfl) ?_
  refine lv_iconst (v := (-1)) hx hb dX2_init_5 (by decide) ?_
  refine va_put (D := D) (ci := 2) (v := .int (-1)) (ty := .int) (C := RX2) (T := TX2) (N := 13) hx hb hts (by decide +kernel) tyX2 tyX2_ok nmX2 hown hK hP hD hS 0 rfl rfl 1 (by decide) (hts (.fieldLink RX2 9 "LopsidedRanksModel" "top" "I") (by decide +kernel)) (fun _ h9 => h9) rfl (by decide +kernel) rfl rfl (Nat.le_of_ble_eq_true rfl) dX2_init_6 (fun H locs hP hD hS => ?_)
  have hP : va_P D vwCl [(M1, .inr (2, [.int 0, .int (-1), .int 0, .int 0, .int 0, .int 0, .null, .null, .null, .null, .int 0, .null, .int 0]))] H := hP
  have hD : va_D A [(M1, .inr (2, [.int 0, .int (-1), .int 0, .int 0, .int 0, .int 0, .null, .null, .null, .null, .int 0, .null, .int 0]))] := hD
  refine lv_aload_n hx hb dX2_init_9 rfl (lv_at hl 0 rfl) ?_
  refine lv_sipush (v := nI 1000) hx hb dX2_init_10 (by decide) ?_
  have ea : ∀ cA : ClassId, vp_cell cA (1000, .inl (fun _ => 0)) = arrV cA 1000 (fun _ => defaultValue .boolean) := fun cA => vp_cell_i cA 1000 (fun _ => 0)
  refine va_newa (atype := .boolean) (ty := .boolean) hx hb (hts (.arrayClass .boolean) (by decide +kernel)) rfl hK hP hD hS hA (n := nI 1000) (N' := 1000) (a0 := (1000, .inl (fun _ => 0))) ea (nI_pos (Nat.le_of_ble_eq_true rfl)) (nI_clamp (Nat.le_of_ble_eq_true rfl)) (Nat.le_of_ble_eq_true rfl) (Nat.le_of_ble_eq_true rfl) (Nat.le_of_ble_eq_true rfl) dX2_init_13 (fun m1 cZ H hK hP hD hS => ?_)
  clear ea
  have hP : va_P D vwCl [(M1, .inr (2, [.int 0, .int (-1), .int 0, .int 0, .int 0, .int 0, .null, .null, .null, .null, .int 0, .null, .int 0])), (m1, .inl (cZ, 1000, .inl (fun _ => 0)))] H := hP
  have hD : va_D A [(M1, .inr (2, [.int 0, .int (-1), .int 0, .int 0, .int 0, .int 0, .null, .null, .null, .null, .int 0, .null, .int 0])), (m1, .inl (cZ, 1000, .inl (fun _ => 0)))] := hD
  refine va_putF (D := D) (ci := 2) (v := .ref m1) (ty := tyX2 6) (C := RX2) (T := TX2) (N := 13) hx hb hts (by decide +kernel) tyX2 tyX2_ok nmX2 hown hK hP hD hS 0 rfl rfl 6 (by decide) (hts (.fieldLink RX2 13 "LopsidedRanksModel" "isIn" "[Z") (by decide +kernel)) (fun _ h9 => h9) rfl hin rfl (by decide +kernel) rfl rfl (Nat.le_of_ble_eq_true rfl) dX2_init_15 (fun H locs hP hD hS => ?_)
  have hP : va_P D vwCl [(M1, .inr (2, [.int 0, .int (-1), .int 0, .int 0, .int 0, .int 0, .ref m1, .null, .null, .null, .int 0, .null, .int 0])), (m1, .inl (cZ, 1000, .inl (fun _ => 0)))] H := hP
  have hD : va_D A [(M1, .inr (2, [.int 0, .int (-1), .int 0, .int 0, .int 0, .int 0, .ref m1, .null, .null, .null, .int 0, .null, .int 0])), (m1, .inl (cZ, 1000, .inl (fun _ => 0)))] := hD
  refine lv_aload_n hx hb dX2_init_18 rfl (lv_at hl 0 rfl) ?_
  refine lv_sipush (v := nI 1000) hx hb dX2_init_19 (by decide) ?_
  have ea : ∀ cA : ClassId, vp_cell cA (1000, .inl (fun _ => 0)) = arrV cA 1000 (fun _ => defaultValue .int) := fun cA => vp_cell_i cA 1000 (fun _ => 0)
  refine va_newa (atype := .int) (ty := .int) hx hb (hts (.arrayClass .int) (by decide +kernel)) rfl hK hP hD hS hA (n := nI 1000) (N' := 1000) (a0 := (1000, .inl (fun _ => 0))) ea (nI_pos (Nat.le_of_ble_eq_true rfl)) (nI_clamp (Nat.le_of_ble_eq_true rfl)) (Nat.le_of_ble_eq_true rfl) (Nat.le_of_ble_eq_true rfl) (Nat.le_of_ble_eq_true rfl) dX2_init_22 (fun m2 cI H hK hP hD hS => ?_)
  clear ea
  have hP : va_P D vwCl [(M1, .inr (2, [.int 0, .int (-1), .int 0, .int 0, .int 0, .int 0, .ref m1, .null, .null, .null, .int 0, .null, .int 0])), (m1, .inl (cZ, 1000, .inl (fun _ => 0))), (m2, .inl (cI, 1000, .inl (fun _ => 0)))] H := hP
  have hD : va_D A [(M1, .inr (2, [.int 0, .int (-1), .int 0, .int 0, .int 0, .int 0, .ref m1, .null, .null, .null, .int 0, .null, .int 0])), (m1, .inl (cZ, 1000, .inl (fun _ => 0))), (m2, .inl (cI, 1000, .inl (fun _ => 0)))] := hD
  refine va_putF (D := D) (ci := 2) (v := .ref m2) (ty := tyX2 7) (C := RX2) (T := TX2) (N := 13) hx hb hts (by decide +kernel) tyX2 tyX2_ok nmX2 hown hK hP hD hS 0 rfl rfl 7 (by decide) (hts (.fieldLink RX2 17 "LopsidedRanksModel" "left" "[I") (by decide +kernel)) (fun _ h9 => h9) rfl hin rfl (by decide +kernel) rfl rfl (Nat.le_of_ble_eq_true rfl) dX2_init_24 (fun H locs hP hD hS => ?_)
  have hP : va_P D vwCl [(M1, .inr (2, [.int 0, .int (-1), .int 0, .int 0, .int 0, .int 0, .ref m1, .ref m2, .null, .null, .int 0, .null, .int 0])), (m1, .inl (cZ, 1000, .inl (fun _ => 0))), (m2, .inl (cI, 1000, .inl (fun _ => 0)))] H := hP
  have hD : va_D A [(M1, .inr (2, [.int 0, .int (-1), .int 0, .int 0, .int 0, .int 0, .ref m1, .ref m2, .null, .null, .int 0, .null, .int 0])), (m1, .inl (cZ, 1000, .inl (fun _ => 0))), (m2, .inl (cI, 1000, .inl (fun _ => 0)))] := hD
  refine lv_aload_n hx hb dX2_init_27 rfl (lv_at hl 0 rfl) ?_
  refine lv_sipush (v := nI 1000) hx hb dX2_init_28 (by decide) ?_
  have ea : ∀ cA : ClassId, vp_cell cA (1000, .inl (fun _ => 0)) = arrV cA 1000 (fun _ => defaultValue .int) := fun cA => vp_cell_i cA 1000 (fun _ => 0)
  refine va_newa (atype := .int) (ty := .int) hx hb (hts (.arrayClass .int) (by decide +kernel)) rfl hK hP hD hS hA (n := nI 1000) (N' := 1000) (a0 := (1000, .inl (fun _ => 0))) ea (nI_pos (Nat.le_of_ble_eq_true rfl)) (nI_clamp (Nat.le_of_ble_eq_true rfl)) (Nat.le_of_ble_eq_true rfl) (Nat.le_of_ble_eq_true rfl) (Nat.le_of_ble_eq_true rfl) dX2_init_31 (fun m3 cI3 H hK hP hD hS => ?_)
  clear ea
  have eid := arr_id hK (i := tys.length + 1) (j := tys.length + 2) (a := cI) (b := cI3) (by simp) (by simp)
  have eid := eid.symm
  subst eid
  have hP : va_P D vwCl [(M1, .inr (2, [.int 0, .int (-1), .int 0, .int 0, .int 0, .int 0, .ref m1, .ref m2, .null, .null, .int 0, .null, .int 0])), (m1, .inl (cZ, 1000, .inl (fun _ => 0))), (m2, .inl (cI, 1000, .inl (fun _ => 0))), (m3, .inl (cI, 1000, .inl (fun _ => 0)))] H := hP
  have hD : va_D A [(M1, .inr (2, [.int 0, .int (-1), .int 0, .int 0, .int 0, .int 0, .ref m1, .ref m2, .null, .null, .int 0, .null, .int 0])), (m1, .inl (cZ, 1000, .inl (fun _ => 0))), (m2, .inl (cI, 1000, .inl (fun _ => 0))), (m3, .inl (cI, 1000, .inl (fun _ => 0)))] := hD
  refine va_putF (D := D) (ci := 2) (v := .ref m3) (ty := tyX2 8) (C := RX2) (T := TX2) (N := 13) hx hb hts (by decide +kernel) tyX2 tyX2_ok nmX2 hown hK hP hD hS 0 rfl rfl 8 (by decide) (hts (.fieldLink RX2 21 "LopsidedRanksModel" "right" "[I") (by decide +kernel)) (fun _ h9 => h9) rfl hin rfl (by decide +kernel) rfl rfl (Nat.le_of_ble_eq_true rfl) dX2_init_33 (fun H locs hP hD hS => ?_)
  have hP : va_P D vwCl [(M1, .inr (2, [.int 0, .int (-1), .int 0, .int 0, .int 0, .int 0, .ref m1, .ref m2, .ref m3, .null, .int 0, .null, .int 0])), (m1, .inl (cZ, 1000, .inl (fun _ => 0))), (m2, .inl (cI, 1000, .inl (fun _ => 0))), (m3, .inl (cI, 1000, .inl (fun _ => 0)))] H := hP
  have hD : va_D A [(M1, .inr (2, [.int 0, .int (-1), .int 0, .int 0, .int 0, .int 0, .ref m1, .ref m2, .ref m3, .null, .int 0, .null, .int 0])), (m1, .inl (cZ, 1000, .inl (fun _ => 0))), (m2, .inl (cI, 1000, .inl (fun _ => 0))), (m3, .inl (cI, 1000, .inl (fun _ => 0)))] := hD
  refine lv_aload_n hx hb dX2_init_36 rfl (lv_at hl 0 rfl) ?_
  refine lv_sipush (v := nI 151) hx hb dX2_init_37 (by decide) ?_
  have ea : ∀ cA : ClassId, vp_cell cA (151, .inl (fun _ => 0)) = arrV cA 151 (fun _ => defaultValue .int) := fun cA => vp_cell_i cA 151 (fun _ => 0)
  refine va_newa (atype := .int) (ty := .int) hx hb (hts (.arrayClass .int) (by decide +kernel)) rfl hK hP hD hS hA (n := nI 151) (N' := 151) (a0 := (151, .inl (fun _ => 0))) ea (nI_pos (Nat.le_of_ble_eq_true rfl)) (nI_clamp (Nat.le_of_ble_eq_true rfl)) (Nat.le_of_ble_eq_true rfl) (Nat.le_of_ble_eq_true rfl) (Nat.le_of_ble_eq_true rfl) dX2_init_40 (fun m4 cI4 H hK hP hD hS => ?_)
  clear ea
  have eid := arr_id hK (i := tys.length + 1) (j := tys.length + 3) (a := cI) (b := cI4) (by simp) (by simp)
  have eid := eid.symm
  subst eid
  have hP : va_P D vwCl [(M1, .inr (2, [.int 0, .int (-1), .int 0, .int 0, .int 0, .int 0, .ref m1, .ref m2, .ref m3, .null, .int 0, .null, .int 0])), (m1, .inl (cZ, 1000, .inl (fun _ => 0))), (m2, .inl (cI, 1000, .inl (fun _ => 0))), (m3, .inl (cI, 1000, .inl (fun _ => 0))), (m4, .inl (cI, 151, .inl (fun _ => 0)))] H := hP
  have hD : va_D A [(M1, .inr (2, [.int 0, .int (-1), .int 0, .int 0, .int 0, .int 0, .ref m1, .ref m2, .ref m3, .null, .int 0, .null, .int 0])), (m1, .inl (cZ, 1000, .inl (fun _ => 0))), (m2, .inl (cI, 1000, .inl (fun _ => 0))), (m3, .inl (cI, 1000, .inl (fun _ => 0))), (m4, .inl (cI, 151, .inl (fun _ => 0)))] := hD
  refine va_putF (D := D) (ci := 2) (v := .ref m4) (ty := tyX2 9) (C := RX2) (T := TX2) (N := 13) hx hb hts (by decide +kernel) tyX2 tyX2_ok nmX2 hown hK hP hD hS 0 rfl rfl 9 (by decide) (hts (.fieldLink RX2 24 "LopsidedRanksModel" "way" "[I") (by decide +kernel)) (fun _ h9 => h9) rfl hin rfl (by decide +kernel) rfl rfl (Nat.le_of_ble_eq_true rfl) dX2_init_42 (fun H locs hP hD hS => ?_)
  have hP : va_P D vwCl [(M1, .inr (2, [.int 0, .int (-1), .int 0, .int 0, .int 0, .int 0, .ref m1, .ref m2, .ref m3, .ref m4, .int 0, .null, .int 0])), (m1, .inl (cZ, 1000, .inl (fun _ => 0))), (m2, .inl (cI, 1000, .inl (fun _ => 0))), (m3, .inl (cI, 1000, .inl (fun _ => 0))), (m4, .inl (cI, 151, .inl (fun _ => 0)))] H := hP
  have hD : va_D A [(M1, .inr (2, [.int 0, .int (-1), .int 0, .int 0, .int 0, .int 0, .ref m1, .ref m2, .ref m3, .ref m4, .int 0, .null, .int 0])), (m1, .inl (cZ, 1000, .inl (fun _ => 0))), (m2, .inl (cI, 1000, .inl (fun _ => 0))), (m3, .inl (cI, 1000, .inl (fun _ => 0))), (m4, .inl (cI, 151, .inl (fun _ => 0)))] := hD
  refine lv_aload_n hx hb dX2_init_45 rfl (lv_at hl 0 rfl) ?_
  refine lv_sipush (v := nI 150) hx hb dX2_init_46 (by decide) ?_
  have ea : ∀ cA : ClassId, vp_cell cA (150, .inl (fun _ => 0)) = arrV cA 150 (fun _ => defaultValue .int) := fun cA => vp_cell_i cA 150 (fun _ => 0)
  refine va_newa (atype := .int) (ty := .int) hx hb (hts (.arrayClass .int) (by decide +kernel)) rfl hK hP hD hS hA (n := nI 150) (N' := 150) (a0 := (150, .inl (fun _ => 0))) ea (nI_pos (Nat.le_of_ble_eq_true rfl)) (nI_clamp (Nat.le_of_ble_eq_true rfl)) (Nat.le_of_ble_eq_true rfl) (Nat.le_of_ble_eq_true rfl) (Nat.le_of_ble_eq_true rfl) dX2_init_49 (fun m5 cI5 H hK hP hD hS => ?_)
  clear ea
  have eid := arr_id hK (i := tys.length + 1) (j := tys.length + 4) (a := cI) (b := cI5) (by simp) (by simp)
  have eid := eid.symm
  subst eid
  have hP : va_P D vwCl [(M1, .inr (2, [.int 0, .int (-1), .int 0, .int 0, .int 0, .int 0, .ref m1, .ref m2, .ref m3, .ref m4, .int 0, .null, .int 0])), (m1, .inl (cZ, 1000, .inl (fun _ => 0))), (m2, .inl (cI, 1000, .inl (fun _ => 0))), (m3, .inl (cI, 1000, .inl (fun _ => 0))), (m4, .inl (cI, 151, .inl (fun _ => 0))), (m5, .inl (cI, 150, .inl (fun _ => 0)))] H := hP
  have hD : va_D A [(M1, .inr (2, [.int 0, .int (-1), .int 0, .int 0, .int 0, .int 0, .ref m1, .ref m2, .ref m3, .ref m4, .int 0, .null, .int 0])), (m1, .inl (cZ, 1000, .inl (fun _ => 0))), (m2, .inl (cI, 1000, .inl (fun _ => 0))), (m3, .inl (cI, 1000, .inl (fun _ => 0))), (m4, .inl (cI, 151, .inl (fun _ => 0))), (m5, .inl (cI, 150, .inl (fun _ => 0)))] := hD
  refine va_putF (D := D) (ci := 2) (v := .ref m5) (ty := tyX2 11) (C := RX2) (T := TX2) (N := 13) hx hb hts (by decide +kernel) tyX2 tyX2_ok nmX2 hown hK hP hD hS 0 rfl rfl 11 (by decide) (hts (.fieldLink RX2 27 "LopsidedRanksModel" "row" "[I") (by decide +kernel)) (fun _ h9 => h9) rfl hin rfl (by decide +kernel) rfl rfl (Nat.le_of_ble_eq_true rfl) dX2_init_51 (fun H locs hP hD hS => ?_)
  have hP : va_P D vwCl [(M1, .inr (2, [.int 0, .int (-1), .int 0, .int 0, .int 0, .int 0, .ref m1, .ref m2, .ref m3, .ref m4, .int 0, .ref m5, .int 0])), (m1, .inl (cZ, 1000, .inl (fun _ => 0))), (m2, .inl (cI, 1000, .inl (fun _ => 0))), (m3, .inl (cI, 1000, .inl (fun _ => 0))), (m4, .inl (cI, 151, .inl (fun _ => 0))), (m5, .inl (cI, 150, .inl (fun _ => 0)))] H := hP
  have hD : va_D A [(M1, .inr (2, [.int 0, .int (-1), .int 0, .int 0, .int 0, .int 0, .ref m1, .ref m2, .ref m3, .ref m4, .int 0, .ref m5, .int 0])), (m1, .inl (cZ, 1000, .inl (fun _ => 0))), (m2, .inl (cI, 1000, .inl (fun _ => 0))), (m3, .inl (cI, 1000, .inl (fun _ => 0))), (m4, .inl (cI, 151, .inl (fun _ => 0))), (m5, .inl (cI, 150, .inl (fun _ => 0)))] := hD
  have hK : va_K D vwCl (tys ++ [(cZ, .boolean), (cI, .int)]) s := ⟨hK.1, fun k q hk => by
    obtain ⟨i, hi⟩ := List.getElem?_of_mem (show q ∈ tys ++ [(cZ, .boolean)] ++ [(cI, .int)] ++ [(cI, .int)] ++ [(cI, .int)] ++ [(cI, .int)] from by
      have h1 := List.mem_of_getElem? hk
      simp only [List.mem_append, List.mem_cons, List.not_mem_nil, or_false] at h1 ⊢
      rcases h1 with z | z | z
      · exact Or.inl (Or.inl (Or.inl (Or.inl (Or.inl z))))
      · exact Or.inl (Or.inl (Or.inl (Or.inl (Or.inr z))))
      · exact Or.inr z)
    exact hK.2 i q hi⟩
  exact W.vret hx hb hr (fun t ht hW => ⟨⟨((m1, m2, m3, m4, m5), cZ, cI), rfl, trivial, by rw [ht]; exact hP, va_K.moved hW.alike hK, hD⟩, hS.F ht⟩) hS.2.2 dX2_init_54

