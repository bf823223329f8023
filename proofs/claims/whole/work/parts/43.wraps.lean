/-! THE LAW's wrappers: a call of the class, caught -/
abbrev oE (cJ : ClassId) (f : Nat → Int64) : va_E := .inl (cJ, 1, .inr (.inl f))
def NcX (U : State) : Prop := va_Nc eIS eIA U ∧ va_Nc eIO eIA U ∧ va_Nc eIS eIO U
theorem NcX.moved {u U : State} (hvm : u.vm.Alike U.vm) (h : NcX u) : NcX U := ⟨h.1.moved hvm, h.2.1.moved hvm, h.2.2.moved hvm⟩
/-- a start of a wrapper -/
def PcL (sa : Nat → Nat) (D : va_G) (tys : List (ClassId × FieldType)) (A : Nat → Prop) (W : va_W) (o : Nat) (cJ : ClassId) (f : Nat → Int64) (av : List Value) : Array Value → State → Prop := va_Pc av (fun U => (∀ q, U.heap.size ≤ q → A q) ∧ va_P D vwCl (W ++ [(o, oE cJ f)]) U.heap ∧ GK D tys U ∧ va_D A (W ++ [(o, oE cJ f)]) ∧ GX sa A U U.heap ∧ va_K D vwCl [(cJ, .long)] U ∧ NcX U)
theorem PcL.blind {sa : Nat → Nat} {D : va_G} {tys : List (ClassId × FieldType)} {A : Nat → Prop} {W : va_W} {o : Nat} {cJ : ClassId} {f : Nat → Int64} {av : List Value} : FrameBlind (PcL sa D tys A W o cJ f av) := fun _ U g mk q => ⟨q.1, q.2.1, q.2.2.1, q.2.2.2.1.calling, q.2.2.2.2.1, GX.moved (U := U.calling g mk _) (State.WarmedH.refl U) (fun _ _ _ => rfl) q.2.2.2.2.2.1, va_K.eqvm q.2.2.2.2.2.2.1 rfl, NcX.moved (Vm.Alike.refl _) q.2.2.2.2.2.2.2⟩
theorem PcL.at {sa : Nat → Nat} {D : va_G} {tys : List (ClassId × FieldType)} {A : Nat → Prop} {W : va_W} {o : Nat} {cJ : ClassId} {f : Nat → Int64} {av : List Value} {s : State} {H : Heap} {locs : List Loc} (hA : ∀ q, s.heap.size ≤ q → A q) (hS : va_S A s.heap H locs) (hP : va_P D vwCl (W ++ [(o, oE cJ f)]) H) (hG : GK D tys s) (hD : va_D A (W ++ [(o, oE cJ f)])) (hX : GX sa A s s.heap) (hK : va_K D vwCl [(cJ, .long)] s) (hN : NcX s) : ∀ U : State, U.heap = H → s.WarmedH U.vm → PcL sa D tys A W o cJ f av av.toArray U := fun U hU hW => ⟨rfl, fun q h => hA q (Nat.le_trans hS.1 (by rw [hU] at h; exact h)), by rw [hU]; exact hP, hG.moved hW, hD, hX.moved hW (fun q h1 h2 => by rw [hU]; exact hS.2.1 q h1 h2), va_K.moved hW.alike hK, hN.moved hW.alike⟩
def BL (D : va_G) (A : Nat → Prop) (W : va_W) (t : State) : Prop := va_P D vwCl W t.heap ∧ va_D A W
theorem join_D {A : Nat → Prop} {W : va_W} {o : Nat} {e : va_E} (h : va_D (fun q => A q ∧ q ≠ o) W) (ho : A o) : va_D A (W ++ [(o, e)]) := by
  rw [va_D.nodup] at h ⊢
  obtain ⟨h1, h2⟩ := h
  refine ⟨?_, fun q hq => ?_⟩
  · rw [List.map_append, List.nodup_append]
    refine ⟨h1, by simp, fun a ha b hb => ?_⟩
    obtain ⟨z, hz, rfl⟩ := List.mem_map.mp ha
    have hb : b = o := by simpa using hb
    subst hb
    exact (h2 z hz).2
  · rcases List.mem_append.mp hq with z | z
    · exact (h2 q z).1
    · have : q = (o, e) := by simpa using z
      subst this
      exact ho
theorem part_D {A : Nat → Prop} {W : va_W} {o : Nat} {e : va_E} (h : va_D A (W ++ [(o, e)])) : va_D (fun q => A q ∧ q ≠ o) W ∧ A o := by
  rw [va_D.nodup] at h
  obtain ⟨h1, h2⟩ := h
  rw [List.map_append, List.nodup_append] at h1
  refine ⟨va_D.nodup.mpr ⟨h1.1, fun q hq => ⟨h2 q (List.mem_append_left _ hq), ?_⟩⟩, h2 (o, e) (List.mem_append_right _ List.mem_cons_self)⟩
  exact h1.2.2 _ (List.mem_map.mpr ⟨q, hq, rfl⟩) o (by simp)
theorem last_o {D : va_G} {W : va_W} {o : Nat} {e : va_E} {H : Heap} (h : va_P D vwCl (W ++ [(o, e)]) H) : va_P D vwCl W H ∧ va_P D vwCl [(o, e)] H ∧ o < H.size := by
  have h2 := h (W.length) (o, e) (by simp)
  exact ⟨h.mem (fun q hq => List.mem_append_left _ hq), h.mem (fun q hq => List.mem_append_right _ hq), h2.lt⟩
/-- the world behind the call, with the cell out -/
theorem join_P {D : va_G} {W W2 : va_W} {o : Nat} {e : va_E} {H H1 : Heap} {A : Nat → Prop} (h : va_P D vwCl (W ++ [(o, e)]) H) (h1 : va_P D vwCl W2 H1) (hk : ∀ q : Nat, q < H.size → ¬ (A q ∧ q ≠ o) → H1[q]? = H[q]?) : va_P D vwCl (W2 ++ [(o, e)]) H1 := by
  obtain ⟨-, h3, h4⟩ := last_o h
  refine h1.app (h3.kept (fun k q hq => ?_))
  have : q = (o, e) := by simpa using List.mem_of_getElem? hq
  subst this
  exact hk o h4 (fun z => z.2 rfl)
section LST
variable {p : Program} {l : Launch} {e : Env} {R : Room} {s : State} {m : MethodId} {args : Array Value} {below : List Frame} {meth : Method} {c : Code} {H : Heap} {locs : List Loc} {cells slots : Nat} {Q : State → Prop}
variable {pc : Nat} {ls : Array Slot} {rest : List Value} {A : Nat → Prop} {H0 : Heap} {cc : ByteArray} {D : va_G} {W9 : va_W} {o : Nat} {cJ : ClassId} {f : Nat → Int64}
/-- out[0] = x -/
theorem zr_lst (hexec : p.tables.exec = Jvm.exec) (hb : c.code = cc) (hK : va_K D vwCl [(cJ, .long)] s) (hP : va_P D vwCl (W9 ++ [(o, oE cJ f)]) H) (hD : va_D A (W9 ++ [(o, oE cJ f)])) (hS : va_S A H0 H locs) {x : Int64} (hdg : decode cc pc = .ok (.lastore, 1))
    (kk : ∀ (H1 : Heap) (locs1 : List Loc) (f1 : Nat → Int64), f1 0 = x → va_P D vwCl (W9 ++ [(o, oE cJ f1)]) H1 → va_D A (W9 ++ [(o, oE cJ f1)]) → va_S A H0 H1 locs1 → W p l e R s m args below meth c H1 locs1 cells slots Q (F0 m (pc + 1) ls rest)) : W p l e R s m args below meth c H locs cells slots Q (F0 m pc ls (.long x :: .int (nI 0) :: .ref o :: rest)) := by
  have e9 : ∀ y z : Nat × va_E, (W9 ++ [y]).set W9.length z = W9 ++ [z] := fun y z => by simp
  refine va_last hexec hb hK hP hD hS W9.length 0 (cA := cJ) (n := 1) (f := f) (by simp) rfl (nI_in (by decide) (by decide)) hdg (fun H1 locs1 h1 h2 h3 => ?_)
  rw [e9] at h1 h2
  exact kk H1 locs1 _ (by rw [nI_clamp (by decide)]; simp [vp_updL]) h1 h2 h3
end LST
set_option maxHeartbeats 4000000 in
set_option maxRecDepth 100000 in
/-- isThere, caught -/
theorem c_L_isThere (l : Launch) (hst : l.stackTraces = false) {D : va_G} {cA cZ cI cJ : ClassId} {sa : Nat → Nat} {A : Nat → Prop} {x ln o : Nat} {mo dr ds : Int32} {ad : Nat → Nat} {g : Nat → Nd} {T : Tr} {f : Nat → Int64} {x0 : Int32} (hrep : RepC T (keysT T) g) : vx_Met l yL_isThere wsL_isThere ({ frames := 10, cells := 4, slots := 30, locals := 400 } : Room) (PcL sa D (tysA cA cZ cI) A (CWT x ln cA T mo dr ds ad g) o cJ f [.ref x, .int x0, .ref o]) (va_Qi (S := (Nat → Nat) × (Nat → Nd) × (Nat → Int64)) (fun r u => r = nI (kH x0) ∧ (kH x0 = 0 → u.2.2 0 = Int32.toInt64 (b2i (decide (kx x0 ∈ keysT T)))) ∧ RepC (T, mo, dr, ds).1 (keysT (T, mo, dr, ds).1) u.2.1) (fun u => BL D A (CWT x ln cA (T, mo, dr, ds).1 (T, mo, dr, ds).2.1 (T, mo, dr, ds).2.2.1 (T, mo, dr, ds).2.2.2 u.1 u.2.1 ++ [(o, oE cJ u.2.2)])) A) (vx_X (S := Unit) (fun _ => False) (fun _ _ _ => False) (fun _ => False)) 4 30 A := by
  refine vx_ofWH (cc := cL_isThere) (maxL := 4) (ret := some .int) (hh := [(0, 16, 19, 13)]) (by decide) rfl ?_
  intro p e s m args below meth c s₁ B hml hv
  obtain ⟨rfl, hA, hP, hG, hD, hX, hK, hN⟩ := hv
  have hx := B.exec
  have hb := B.bytes
  have hr := B.returns
  have hts := atoms_spec (ws := wsL_isThere) B.pre
  have hown : s.vm.findClass RL = some m.cls := findClass_of_methodNamed B.named
  have hlocks := B.notSynchronized
  have htab := vx_table (x := yL_isThere) B (hts _ List.mem_cons_self)
  have hl := lv_entry ([.ref x, .int x0, .ref o]) (n := 4) (Nat.le_of_ble_eq_true rfl)
  rw [lg_entry_eq]
  generalize (lg_sl ([.ref x, .int x0, .ref o]) ++ List.replicate (4 - (lg_sl ([.ref x, .int x0, .ref o])).length) Slot.unset).toArray = ls at hl ⊢
  have hl : lv_has ls 4 [(0, .ref x), (1, .int x0), (2, .ref o)] := hl
  have hS : va_S A s.heap s.heap [] := va_S.rf
  obtain ⟨hPW, hPo, hol⟩ := last_o hP
  obtain ⟨hDW, hAo⟩ := part_D hD
  have hA1 : ∀ q, s.heap.size ≤ q → A q ∧ q ≠ o := fun q h => ⟨hA q h, by omega⟩
  have hX1 : GX sa (fun q => A q ∧ q ≠ o) s s.heap := hX.narrow (fun q h => h.1)
  have hS1 : va_S (fun q => A q ∧ q ≠ o) s.heap s.heap [] := va_S.rf
  refine lv_aload_n hx hb dL_isThere_0 rfl (lv_at hl 2 rfl) ?_
  refine lv_iconst (v := nI 0) hx hb dL_isThere_1 (by decide) ?_
  refine lv_aload_n hx hb dL_isThere_2 rfl (lv_at hl 0 rfl) ?_
  refine lv_iload_n hx hb dL_isThere_3 rfl (lv_at hl 1 rfl) ?_
  refine vx_calli (vx_runV (As := [.int x0]) (rest := [.int (nI 0), .ref o]) ⟨hx, hb, hml, hown, hts⟩ (c_X1_isThere l hst hrep) (cwV 1 hts gL_isThere_X1_isThere rfl rfl rfl (by decide +kernel) ⟨Nat.le_of_ble_eq_true rfl, Nat.le_of_ble_eq_true rfl⟩) ⟨PcX.blind, va_recv hG.1 hPW (ci := 1) (q0 := 0) rfl cw_x, PcX.at hA1 hS1 hPW hG hDW hX1⟩ rfl rfl hl.1 rfl (lv_room (Nat.le_of_ble_eq_true rfl)) dL_isThere_4 ⟨Nat.le_of_ble_eq_true rfl, Nat.le_of_ble_eq_true rfl⟩) hS (fun q _ h => h.1) (fun q h => h.1) (fun q _ h => h.1) (fun E ce q9 u t H locs ht hvm hpx hbx hbz hk hS hce hcv hcl => ?_) (fun r u t H locs ht hvm hpo hB hbz hk hS => ?_)
  · obtain ⟨hc, hPx, hDx⟩ := hbx
    rw [ht] at hPx
    have hPx := join_P hP hPx hk
    have hDx := join_D (e := oE cJ f) hDx hAo
    rcases hc with ⟨hc, rfl⟩
    · refine vx_catch hown [] ⟨0, 16, 19, 13⟩ [] (htab.trans rfl) (fun z hz => absurd hz List.not_mem_nil) (by decide) (by decide) (hts (.classLink RL 13 eIA) (by decide +kernel)) (va_Nw.use rfl hX.1.1) hce hcv hcl ?_
      have eK : kH x0 = 1 := kH_1 (hiB_f hc)
      have eZ : (T, mo, dr, ds) = (T, mo, dr, ds) := rfl
      refine lv_astore_n (lv' := [(3, .ref q9), (0, .ref x), (1, .int x0), (2, .ref o)]) hx hb dL_isThere_19 rfl hl (by decide) rfl (fun ls hl => ?_)
      refine lv_iconst (v := nI 1) hx hb dL_isThere_20 (by decide) ?_
      refine W.widen (k := 4) (n := 30) (Nat.le_of_ble_eq_true rfl) (Nat.le_of_ble_eq_true rfl) ?_
      exact vx_ret (W.iret (v := nI 1) hx hb hr (fun t ht hW => ⟨⟨_, (ad, g, f), rfl, ⟨by rw [eK], fun q => absurd (eK.symm.trans q) (by decide), by rw [eZ]; exact hrep⟩, by rw [eZ, ht]; exact hPx, by rw [eZ]; exact hDx⟩, hS.F ht⟩) hS.2.2 dL_isThere_21)
  · obtain ⟨hPx, -, hDx⟩ := hB
    rw [ht] at hPx
    have hPx := join_P hP hPx hk
    have hDx := join_D (e := oE cJ f) hDx hAo
    have eK : kH x0 = 0 := if_pos (hiB_t hpo.1)
    refine lv_if_eq (tgt := 14) hx hb dL_isThere_7 (by decide) (fun c7 => ?_) (fun c7 => ?_)
    · refine lv_lconst (v := lN 0) hx hb dL_isThere_14 (by decide) ?_
      refine zr_lst hx hb hK hPx hDx hS dL_isThere_15 (fun H locs f1 hf1 hPx hDx hS => ?_)
      refine lv_goto (tgt := 22) hx hb dL_isThere_16 (by decide) ?_
      refine lv_iconst (v := nI 0) hx hb dL_isThere_22 (by decide) ?_
      refine W.widen (k := 4) (n := 30) (Nat.le_of_ble_eq_true rfl) (Nat.le_of_ble_eq_true rfl) ?_
      exact vx_ret (W.iret (v := nI 0) hx hb hr (fun t ht hW => ⟨⟨_, (ad, g, f1), rfl, ⟨by rw [eK], fun _ => hf1.trans (by have e8 := hpo.2; rw [e8] at c7; rw [Bool.eq_false_iff.mpr (b2i_eq c7)]; exact (nI_l (by decide)).symm), hrep⟩, by rw [ht]; exact hPx, by exact hDx⟩, hS.F ht⟩) hS.2.2 dL_isThere_23)
    · refine lv_lconst (v := lN 1) hx hb dL_isThere_10 (by decide) ?_
      refine lv_goto (tgt := 15) hx hb dL_isThere_11 (by decide) ?_
      refine zr_lst hx hb hK hPx hDx hS dL_isThere_15 (fun H locs f1 hf1 hPx hDx hS => ?_)
      refine lv_goto (tgt := 22) hx hb dL_isThere_16 (by decide) ?_
      refine lv_iconst (v := nI 0) hx hb dL_isThere_22 (by decide) ?_
      refine W.widen (k := 4) (n := 30) (Nat.le_of_ble_eq_true rfl) (Nat.le_of_ble_eq_true rfl) ?_
      exact vx_ret (W.iret (v := nI 0) hx hb hr (fun t ht hW => ⟨⟨_, (ad, g, f1), rfl, ⟨by rw [eK], fun _ => hf1.trans (by have e8 := hpo.2; rw [e8] at c7; rw [b2i_ne c7]; exact (nI_l (by decide)).symm), hrep⟩, by rw [ht]; exact hPx, by exact hDx⟩, hS.F ht⟩) hS.2.2 dL_isThere_23)

set_option maxHeartbeats 4000000 in
set_option maxRecDepth 100000 in
/-- told, caught -/
theorem c_L_told (l : Launch) (hst : l.stackTraces = false) {D : va_G} {cA cZ cI cJ : ClassId} {sa : Nat → Nat} {A : Nat → Prop} {x ln o : Nat} {mo dr ds : Int32} {ad : Nat → Nat} {g : Nat → Nd} {T : Tr} {f : Nat → Int64} {x0 x1 : Int32} (hrep : RepC T (keysT T) g) : vx_Met l yL_told wsL_told ({ frames := 10, cells := 4, slots := 30, locals := 400 } : Room) (PcL sa D (tysA cA cZ cI) A (CWT x ln cA T mo dr ds ad g) o cJ f [.ref x, .int x0, .int x1, .ref o]) (va_Qi (S := (Nat → Nat) × (Nat → Nd) × (Nat → Int64)) (fun r u => r = nI (kT x0 x1 T) ∧ (kT x0 x1 T = 0 → u.2.2 0 = Int32.toInt64 (tellT T (kx x0) (kx x1))) ∧ RepC (T, mo, dr, ds).1 (keysT (T, mo, dr, ds).1) u.2.1) (fun u => BL D A (CWT x ln cA (T, mo, dr, ds).1 (T, mo, dr, ds).2.1 (T, mo, dr, ds).2.2.1 (T, mo, dr, ds).2.2.2 u.1 u.2.1 ++ [(o, oE cJ u.2.2)])) A) (vx_X (S := Unit) (fun _ => False) (fun _ _ _ => False) (fun _ => False)) 4 30 A := by
  refine vx_ofWH (cc := cL_told) (maxL := 5) (ret := some .int) (hh := [(0, 10, 13, 13), (0, 10, 17, 31), (0, 10, 21, 15)]) (by decide) rfl ?_
  intro p e s m args below meth c s₁ B hml hv
  obtain ⟨rfl, hA, hP, hG, hD, hX, hK, hN⟩ := hv
  have hx := B.exec
  have hb := B.bytes
  have hr := B.returns
  have hts := atoms_spec (ws := wsL_told) B.pre
  have hown : s.vm.findClass RL = some m.cls := findClass_of_methodNamed B.named
  have hlocks := B.notSynchronized
  have htab := vx_table (x := yL_told) B (hts _ List.mem_cons_self)
  have hl := lv_entry ([.ref x, .int x0, .int x1, .ref o]) (n := 5) (Nat.le_of_ble_eq_true rfl)
  rw [lg_entry_eq]
  generalize (lg_sl ([.ref x, .int x0, .int x1, .ref o]) ++ List.replicate (5 - (lg_sl ([.ref x, .int x0, .int x1, .ref o])).length) Slot.unset).toArray = ls at hl ⊢
  have hl : lv_has ls 5 [(0, .ref x), (1, .int x0), (2, .int x1), (3, .ref o)] := hl
  have hS : va_S A s.heap s.heap [] := va_S.rf
  obtain ⟨hPW, hPo, hol⟩ := last_o hP
  obtain ⟨hDW, hAo⟩ := part_D hD
  have hA1 : ∀ q, s.heap.size ≤ q → A q ∧ q ≠ o := fun q h => ⟨hA q h, by omega⟩
  have hX1 : GX sa (fun q => A q ∧ q ≠ o) s s.heap := hX.narrow (fun q h => h.1)
  have hS1 : va_S (fun q => A q ∧ q ≠ o) s.heap s.heap [] := va_S.rf
  refine lv_aload_n hx hb dL_told_0 rfl (lv_at hl 3 rfl) ?_
  refine lv_iconst (v := nI 0) hx hb dL_told_1 (by decide) ?_
  refine lv_aload_n hx hb dL_told_2 rfl (lv_at hl 0 rfl) ?_
  refine lv_iload_n hx hb dL_told_3 rfl (lv_at hl 1 rfl) ?_
  refine lv_iload_n hx hb dL_told_4 rfl (lv_at hl 2 rfl) ?_
  refine vx_calli (vx_runV (As := [.int x0, .int x1]) (rest := [.int (nI 0), .ref o]) ⟨hx, hb, hml, hown, hts⟩ (c_X1_told l hst hrep) (cwV 2 hts gL_told_X1_told rfl rfl rfl (by decide +kernel) ⟨Nat.le_of_ble_eq_true rfl, Nat.le_of_ble_eq_true rfl⟩) ⟨PcX.blind, va_recv hG.1 hPW (ci := 1) (q0 := 0) rfl cw_x, PcX.at hA1 hS1 hPW hG hDW hX1⟩ rfl rfl hl.1 rfl (lv_room (Nat.le_of_ble_eq_true rfl)) dL_told_5 ⟨Nat.le_of_ble_eq_true rfl, Nat.le_of_ble_eq_true rfl⟩) hS (fun q _ h => h.1) (fun q h => h.1) (fun q _ h => h.1) (fun E ce q9 u t H locs ht hvm hpx hbx hbz hk hS hce hcv hcl => ?_) (fun r u t H locs ht hvm hpo hB hbz hk hS => ?_)
  · obtain ⟨hc, hPx, hDx⟩ := hbx
    rw [ht] at hPx
    have hPx := join_P hP hPx hk
    have hDx := join_D (e := oE cJ f) hDx hAo
    rcases hc with ⟨hc, rfl⟩ | ⟨hc, rfl⟩ | ⟨hc, rfl⟩
    · refine vx_catch hown [] ⟨0, 10, 13, 13⟩ [⟨0, 10, 17, 31⟩, ⟨0, 10, 21, 15⟩] (htab.trans rfl) (fun z hz => absurd hz List.not_mem_nil) (by decide) (by decide) (hts (.classLink RL 13 eIA) (by decide +kernel)) (va_Nw.use rfl hX.1.1) hce hcv hcl ?_
      have eK : kT x0 x1 T = 1 := if_neg (by rw [hiB_f hc]; decide)
      have eZ : (T, mo, dr, ds) = (T, mo, dr, ds) := rfl
      refine lv_astore (lv' := [(4, .ref q9), (0, .ref x), (1, .int x0), (2, .int x1), (3, .ref o)]) hx hb dL_told_13 hl (by decide) rfl (fun ls hl => ?_)
      refine lv_iconst (v := nI 1) hx hb dL_told_15 (by decide) ?_
      refine W.widen (k := 4) (n := 30) (Nat.le_of_ble_eq_true rfl) (Nat.le_of_ble_eq_true rfl) ?_
      exact vx_ret (W.iret (v := nI 1) hx hb hr (fun t ht hW => ⟨⟨_, (ad, g, f), rfl, ⟨by rw [eK], fun q => absurd (eK.symm.trans q) (by decide), by rw [eZ]; exact hrep⟩, by rw [eZ, ht]; exact hPx, by rw [eZ]; exact hDx⟩, hS.F ht⟩) hS.2.2 dL_told_16)
    · refine vx_catch hown [⟨0, 10, 13, 13⟩] ⟨0, 10, 17, 31⟩ [⟨0, 10, 21, 15⟩] (htab.trans rfl) (fun z hz => (by simp at hz; subst hz; exact Or.inr ⟨by decide, eIA, hts (.classLink RL 13 eIA) (by decide +kernel), hN.2.1⟩)) (by decide) (by decide) (hts (.classLink RL 31 eIO) (by decide +kernel)) (va_Nw.use rfl hX.1.2.2.1) hce hcv hcl ?_
      have eK : kT x0 x1 T = 2 := (if_pos (hiB_t hc.1)).trans (if_neg (by rw [hqB_f hc.2]; decide))
      have eZ : (T, mo, dr, ds) = (T, mo, dr, ds) := rfl
      refine lv_astore (lv' := [(4, .ref q9), (0, .ref x), (1, .int x0), (2, .int x1), (3, .ref o)]) hx hb dL_told_17 hl (by decide) rfl (fun ls hl => ?_)
      refine lv_iconst (v := nI 2) hx hb dL_told_19 (by decide) ?_
      refine W.widen (k := 4) (n := 30) (Nat.le_of_ble_eq_true rfl) (Nat.le_of_ble_eq_true rfl) ?_
      exact vx_ret (W.iret (v := nI 2) hx hb hr (fun t ht hW => ⟨⟨_, (ad, g, f), rfl, ⟨by rw [eK], fun q => absurd (eK.symm.trans q) (by decide), by rw [eZ]; exact hrep⟩, by rw [eZ, ht]; exact hPx, by rw [eZ]; exact hDx⟩, hS.F ht⟩) hS.2.2 dL_told_20)
    · refine vx_catch hown [⟨0, 10, 13, 13⟩, ⟨0, 10, 17, 31⟩] ⟨0, 10, 21, 15⟩ [] (htab.trans rfl) (fun z hz => by
          simp at hz
          rcases hz with rfl | rfl
          · exact Or.inr ⟨by decide, eIA, hts (.classLink RL 13 eIA) (by decide +kernel), hN.1⟩
          · exact Or.inr ⟨by decide, eIO, hts (.classLink RL 31 eIO) (by decide +kernel), hN.2.2⟩) (by decide) (by decide) (hts (.classLink RL 15 eIS) (by decide +kernel)) (va_Nw.use rfl hX.1.2.1) hce hcv hcl ?_
      have eK : kT x0 x1 T = 3 := (if_pos (hiB_t hc.1)).trans ((if_pos (hqB_t hc.2.1)).trans (if_neg hc.2.2))
      have eZ : (T, mo, dr, ds) = (T, mo, dr, ds) := rfl
      refine lv_astore (lv' := [(4, .ref q9), (0, .ref x), (1, .int x0), (2, .int x1), (3, .ref o)]) hx hb dL_told_21 hl (by decide) rfl (fun ls hl => ?_)
      refine lv_iconst (v := nI 3) hx hb dL_told_23 (by decide) ?_
      refine W.widen (k := 4) (n := 30) (Nat.le_of_ble_eq_true rfl) (Nat.le_of_ble_eq_true rfl) ?_
      exact vx_ret (W.iret (v := nI 3) hx hb hr (fun t ht hW => ⟨⟨_, (ad, g, f), rfl, ⟨by rw [eK], fun q => absurd (eK.symm.trans q) (by decide), by rw [eZ]; exact hrep⟩, by rw [eZ, ht]; exact hPx, by rw [eZ]; exact hDx⟩, hS.F ht⟩) hS.2.2 dL_told_24)
  · obtain ⟨hPx, -, hDx⟩ := hB
    rw [ht] at hPx
    have hPx := join_P hP hPx hk
    have hDx := join_D (e := oE cJ f) hDx hAo
    have eK : kT x0 x1 T = 0 := (if_pos (hiB_t hpo.1)).trans ((if_pos (hqB_t hpo.2.1)).trans (if_pos hpo.2.2.1))
    refine lv_i2l hx hb dL_told_8 rfl ?_
    refine zr_lst hx hb hK hPx hDx hS dL_told_9 (fun H locs f1 hf1 hPx hDx hS => ?_)
    refine lv_goto (tgt := 25) hx hb dL_told_10 (by decide) ?_
    refine lv_iconst (v := nI 0) hx hb dL_told_25 (by decide) ?_
    refine W.widen (k := 4) (n := 30) (Nat.le_of_ble_eq_true rfl) (Nat.le_of_ble_eq_true rfl) ?_
    exact vx_ret (W.iret (v := nI 0) hx hb hr (fun t ht hW => ⟨⟨_, (ad, g, f1), rfl, ⟨by rw [eK], fun _ => hf1.trans (congrArg Int32.toInt64 (hpo.2.2.2)), hrep⟩, by rw [ht]; exact hPx, by exact hDx⟩, hS.F ht⟩) hS.2.2 dL_told_26)

set_option maxHeartbeats 4000000 in
set_option maxRecDepth 100000 in
/-- at, caught -/
theorem c_L_at (l : Launch) (hst : l.stackTraces = false) {D : va_G} {cA cZ cI cJ : ClassId} {sa : Nat → Nat} {A : Nat → Prop} {x ln o : Nat} {mo dr ds : Int32} {ad : Nat → Nat} {g : Nat → Nd} {T : Tr} {f : Nat → Int64} {x0 : Int32} (hrep : RepC T (keysT T) g) : vx_Met l yL_at wsL_at ({ frames := 10, cells := 4, slots := 30, locals := 400 } : Room) (PcL sa D (tysA cA cZ cI) A (CWT x ln cA T mo dr ds ad g) o cJ f [.ref x, .int x0, .ref o]) (va_Qi (S := (Nat → Nat) × (Nat → Nd) × (Nat → Int64)) (fun r u => r = nI (kA x0 T) ∧ (kA x0 T = 0 → u.2.2 0 = Int32.toInt64 (enc ((keysT T)[kx x0]?))) ∧ RepC (T, mo, dr, ds).1 (keysT (T, mo, dr, ds).1) u.2.1) (fun u => BL D A (CWT x ln cA (T, mo, dr, ds).1 (T, mo, dr, ds).2.1 (T, mo, dr, ds).2.2.1 (T, mo, dr, ds).2.2.2 u.1 u.2.1 ++ [(o, oE cJ u.2.2)])) A) (vx_X (S := Unit) (fun _ => False) (fun _ _ _ => False) (fun _ => False)) 4 30 A := by
  refine vx_ofWH (cc := cL_at) (maxL := 4) (ret := some .int) (hh := [(0, 9, 12, 31)]) (by decide) rfl ?_
  intro p e s m args below meth c s₁ B hml hv
  obtain ⟨rfl, hA, hP, hG, hD, hX, hK, hN⟩ := hv
  have hx := B.exec
  have hb := B.bytes
  have hr := B.returns
  have hts := atoms_spec (ws := wsL_at) B.pre
  have hown : s.vm.findClass RL = some m.cls := findClass_of_methodNamed B.named
  have hlocks := B.notSynchronized
  have htab := vx_table (x := yL_at) B (hts _ List.mem_cons_self)
  have hl := lv_entry ([.ref x, .int x0, .ref o]) (n := 4) (Nat.le_of_ble_eq_true rfl)
  rw [lg_entry_eq]
  generalize (lg_sl ([.ref x, .int x0, .ref o]) ++ List.replicate (4 - (lg_sl ([.ref x, .int x0, .ref o])).length) Slot.unset).toArray = ls at hl ⊢
  have hl : lv_has ls 4 [(0, .ref x), (1, .int x0), (2, .ref o)] := hl
  have hS : va_S A s.heap s.heap [] := va_S.rf
  obtain ⟨hPW, hPo, hol⟩ := last_o hP
  obtain ⟨hDW, hAo⟩ := part_D hD
  have hA1 : ∀ q, s.heap.size ≤ q → A q ∧ q ≠ o := fun q h => ⟨hA q h, by omega⟩
  have hX1 : GX sa (fun q => A q ∧ q ≠ o) s s.heap := hX.narrow (fun q h => h.1)
  have hS1 : va_S (fun q => A q ∧ q ≠ o) s.heap s.heap [] := va_S.rf
  refine lv_aload_n hx hb dL_at_0 rfl (lv_at hl 2 rfl) ?_
  refine lv_iconst (v := nI 0) hx hb dL_at_1 (by decide) ?_
  refine lv_aload_n hx hb dL_at_2 rfl (lv_at hl 0 rfl) ?_
  refine lv_iload_n hx hb dL_at_3 rfl (lv_at hl 1 rfl) ?_
  refine vx_calli (vx_runV (As := [.int x0]) (rest := [.int (nI 0), .ref o]) ⟨hx, hb, hml, hown, hts⟩ (c_X1_at l hst hrep) (cwV 1 hts gL_at_X1_at rfl rfl rfl (by decide +kernel) ⟨Nat.le_of_ble_eq_true rfl, Nat.le_of_ble_eq_true rfl⟩) ⟨PcX.blind, va_recv hG.1 hPW (ci := 1) (q0 := 0) rfl cw_x, PcX.at hA1 hS1 hPW hG hDW hX1⟩ rfl rfl hl.1 rfl (lv_room (Nat.le_of_ble_eq_true rfl)) dL_at_4 ⟨Nat.le_of_ble_eq_true rfl, Nat.le_of_ble_eq_true rfl⟩) hS (fun q _ h => h.1) (fun q h => h.1) (fun q _ h => h.1) (fun E ce q9 u t H locs ht hvm hpx hbx hbz hk hS hce hcv hcl => ?_) (fun r u t H locs ht hvm hpo hB hbz hk hS => ?_)
  · obtain ⟨hc, hPx, hDx⟩ := hbx
    rw [ht] at hPx
    have hPx := join_P hP hPx hk
    have hDx := join_D (e := oE cJ f) hDx hAo
    rcases hc with ⟨hc, rfl⟩
    · refine vx_catch hown [] ⟨0, 9, 12, 31⟩ [] (htab.trans rfl) (fun z hz => absurd hz List.not_mem_nil) (by decide) (by decide) (hts (.classLink RL 31 eIO) (by decide +kernel)) (va_Nw.use rfl hX.1.2.2.1) hce hcv hcl ?_
      have eK : kA x0 T = 1 := hc.elim (fun q => if_pos q) (fun q => by rcases Classical.em (x0 < 0) with h0 | h0; (· exact if_pos h0); (· exact (if_neg h0).trans (if_pos q)))
      have eZ : (T, mo, dr, ds) = (T, mo, dr, ds) := rfl
      refine lv_astore_n (lv' := [(3, .ref q9), (0, .ref x), (1, .int x0), (2, .ref o)]) hx hb dL_at_12 rfl hl (by decide) rfl (fun ls hl => ?_)
      refine lv_iconst (v := nI 1) hx hb dL_at_13 (by decide) ?_
      refine W.widen (k := 4) (n := 30) (Nat.le_of_ble_eq_true rfl) (Nat.le_of_ble_eq_true rfl) ?_
      exact vx_ret (W.iret (v := nI 1) hx hb hr (fun t ht hW => ⟨⟨_, (ad, g, f), rfl, ⟨by rw [eK], fun q => absurd (eK.symm.trans q) (by decide), by rw [eZ]; exact hrep⟩, by rw [eZ, ht]; exact hPx, by rw [eZ]; exact hDx⟩, hS.F ht⟩) hS.2.2 dL_at_14)
  · obtain ⟨hPx, -, hDx⟩ := hB
    rw [ht] at hPx
    have hPx := join_P hP hPx hk
    have hDx := join_D (e := oE cJ f) hDx hAo
    have eK : kA x0 T = 0 := (by obtain ⟨h1, k, h2, -⟩ := hpo; exact (if_neg h1).trans (if_neg (by rw [h2]; exact fun q => by cases q)))
    refine lv_i2l hx hb dL_at_7 rfl ?_
    refine zr_lst hx hb hK hPx hDx hS dL_at_8 (fun H locs f1 hf1 hPx hDx hS => ?_)
    refine lv_goto (tgt := 15) hx hb dL_at_9 (by decide) ?_
    refine lv_iconst (v := nI 0) hx hb dL_at_15 (by decide) ?_
    refine W.widen (k := 4) (n := 30) (Nat.le_of_ble_eq_true rfl) (Nat.le_of_ble_eq_true rfl) ?_
    exact vx_ret (W.iret (v := nI 0) hx hb hr (fun t ht hW => ⟨⟨_, (ad, g, f1), rfl, ⟨by rw [eK], fun _ => hf1.trans (congrArg Int32.toInt64 (by obtain ⟨-, k, h2, h3⟩ := hpo; rw [h3, h2]; rfl)), hrep⟩, by rw [ht]; exact hPx, by exact hDx⟩, hS.F ht⟩) hS.2.2 dL_at_16)

set_option maxHeartbeats 4000000 in
set_option maxRecDepth 100000 in
/-- between, caught -/
theorem c_L_between (l : Launch) (hst : l.stackTraces = false) {D : va_G} {cA cZ cI cJ : ClassId} {sa : Nat → Nat} {A : Nat → Prop} {x ln o : Nat} {mo dr ds : Int32} {ad : Nat → Nat} {g : Nat → Nd} {T : Tr} {f : Nat → Int64} {x0 x1 : Int32} (hrep : RepC T (keysT T) g) : vx_Met l yL_between wsL_between ({ frames := 10, cells := 4, slots := 30, locals := 400 } : Room) (PcL sa D (tysA cA cZ cI) A (CWT x ln cA T mo dr ds ad g) o cJ f [.ref x, .int x0, .int x1, .ref o]) (va_Qi (S := (Nat → Nat) × (Nat → Nd) × (Nat → Int64)) (fun r u => r = nI (kB x0 x1) ∧ (kB x0 x1 = 0 → u.2.2 0 = Int32.toInt64 (btw T (kx x0) (kx x1))) ∧ RepC (T, mo, dr, ds).1 (keysT (T, mo, dr, ds).1) u.2.1) (fun u => BL D A (CWT x ln cA (T, mo, dr, ds).1 (T, mo, dr, ds).2.1 (T, mo, dr, ds).2.2.1 (T, mo, dr, ds).2.2.2 u.1 u.2.1 ++ [(o, oE cJ u.2.2)])) A) (vx_X (S := Unit) (fun _ => False) (fun _ _ _ => False) (fun _ => False)) 4 30 A := by
  refine vx_ofWH (cc := cL_between) (maxL := 5) (ret := some .int) (hh := [(0, 10, 13, 13)]) (by decide) rfl ?_
  intro p e s m args below meth c s₁ B hml hv
  obtain ⟨rfl, hA, hP, hG, hD, hX, hK, hN⟩ := hv
  have hx := B.exec
  have hb := B.bytes
  have hr := B.returns
  have hts := atoms_spec (ws := wsL_between) B.pre
  have hown : s.vm.findClass RL = some m.cls := findClass_of_methodNamed B.named
  have hlocks := B.notSynchronized
  have htab := vx_table (x := yL_between) B (hts _ List.mem_cons_self)
  have hl := lv_entry ([.ref x, .int x0, .int x1, .ref o]) (n := 5) (Nat.le_of_ble_eq_true rfl)
  rw [lg_entry_eq]
  generalize (lg_sl ([.ref x, .int x0, .int x1, .ref o]) ++ List.replicate (5 - (lg_sl ([.ref x, .int x0, .int x1, .ref o])).length) Slot.unset).toArray = ls at hl ⊢
  have hl : lv_has ls 5 [(0, .ref x), (1, .int x0), (2, .int x1), (3, .ref o)] := hl
  have hS : va_S A s.heap s.heap [] := va_S.rf
  obtain ⟨hPW, hPo, hol⟩ := last_o hP
  obtain ⟨hDW, hAo⟩ := part_D hD
  have hA1 : ∀ q, s.heap.size ≤ q → A q ∧ q ≠ o := fun q h => ⟨hA q h, by omega⟩
  have hX1 : GX sa (fun q => A q ∧ q ≠ o) s s.heap := hX.narrow (fun q h => h.1)
  have hS1 : va_S (fun q => A q ∧ q ≠ o) s.heap s.heap [] := va_S.rf
  refine lv_aload_n hx hb dL_between_0 rfl (lv_at hl 3 rfl) ?_
  refine lv_iconst (v := nI 0) hx hb dL_between_1 (by decide) ?_
  refine lv_aload_n hx hb dL_between_2 rfl (lv_at hl 0 rfl) ?_
  refine lv_iload_n hx hb dL_between_3 rfl (lv_at hl 1 rfl) ?_
  refine lv_iload_n hx hb dL_between_4 rfl (lv_at hl 2 rfl) ?_
  refine vx_calli (vx_runV (As := [.int x0, .int x1]) (rest := [.int (nI 0), .ref o]) ⟨hx, hb, hml, hown, hts⟩ (c_X1_between l hst hrep) (cwV 2 hts gL_between_X1_between rfl rfl rfl (by decide +kernel) ⟨Nat.le_of_ble_eq_true rfl, Nat.le_of_ble_eq_true rfl⟩) ⟨PcX.blind, va_recv hG.1 hPW (ci := 1) (q0 := 0) rfl cw_x, PcX.at hA1 hS1 hPW hG hDW hX1⟩ rfl rfl hl.1 rfl (lv_room (Nat.le_of_ble_eq_true rfl)) dL_between_5 ⟨Nat.le_of_ble_eq_true rfl, Nat.le_of_ble_eq_true rfl⟩) hS (fun q _ h => h.1) (fun q h => h.1) (fun q _ h => h.1) (fun E ce q9 u t H locs ht hvm hpx hbx hbz hk hS hce hcv hcl => ?_) (fun r u t H locs ht hvm hpo hB hbz hk hS => ?_)
  · obtain ⟨hc, hPx, hDx⟩ := hbx
    rw [ht] at hPx
    have hPx := join_P hP hPx hk
    have hDx := join_D (e := oE cJ f) hDx hAo
    rcases hc with ⟨hc, rfl⟩
    · refine vx_catch hown [] ⟨0, 10, 13, 13⟩ [] (htab.trans rfl) (fun z hz => absurd hz List.not_mem_nil) (by decide) (by decide) (hts (.classLink RL 13 eIA) (by decide +kernel)) (va_Nw.use rfl hX.1.1) hce hcv hcl ?_
      have eK : kB x0 x1 = 1 := hc.elim (fun q => if_neg (by rw [hiB_f q]; decide)) (fun q => by unfold kB; split; (· exact if_neg (by rw [hiB_f q]; decide)); (· rfl))
      have eZ : (T, mo, dr, ds) = (T, mo, dr, ds) := rfl
      refine lv_astore (lv' := [(4, .ref q9), (0, .ref x), (1, .int x0), (2, .int x1), (3, .ref o)]) hx hb dL_between_13 hl (by decide) rfl (fun ls hl => ?_)
      refine lv_iconst (v := nI 1) hx hb dL_between_15 (by decide) ?_
      refine W.widen (k := 4) (n := 30) (Nat.le_of_ble_eq_true rfl) (Nat.le_of_ble_eq_true rfl) ?_
      exact vx_ret (W.iret (v := nI 1) hx hb hr (fun t ht hW => ⟨⟨_, (ad, g, f), rfl, ⟨by rw [eK], fun q => absurd (eK.symm.trans q) (by decide), by rw [eZ]; exact hrep⟩, by rw [eZ, ht]; exact hPx, by rw [eZ]; exact hDx⟩, hS.F ht⟩) hS.2.2 dL_between_16)
  · obtain ⟨hPx, -, hDx⟩ := hB
    rw [ht] at hPx
    have hPx := join_P hP hPx hk
    have hDx := join_D (e := oE cJ f) hDx hAo
    have eK : kB x0 x1 = 0 := (if_pos (hiB_t hpo.1)).trans (if_pos (hiB_t hpo.2.1))
    refine lv_i2l hx hb dL_between_8 rfl ?_
    refine zr_lst hx hb hK hPx hDx hS dL_between_9 (fun H locs f1 hf1 hPx hDx hS => ?_)
    refine lv_goto (tgt := 17) hx hb dL_between_10 (by decide) ?_
    refine lv_iconst (v := nI 0) hx hb dL_between_17 (by decide) ?_
    refine W.widen (k := 4) (n := 30) (Nat.le_of_ble_eq_true rfl) (Nat.le_of_ble_eq_true rfl) ?_
    exact vx_ret (W.iret (v := nI 0) hx hb hr (fun t ht hW => ⟨⟨_, (ad, g, f1), rfl, ⟨by rw [eK], fun _ => hf1.trans (congrArg Int32.toInt64 (hpo.2.2)), hrep⟩, by rw [ht]; exact hPx, by exact hDx⟩, hS.F ht⟩) hS.2.2 dL_between_18)

set_option maxHeartbeats 4000000 in
set_option maxRecDepth 100000 in
/-- captain, caught -/
theorem c_L_captain (l : Launch) (hst : l.stackTraces = false) {D : va_G} {cA cZ cI cJ : ClassId} {sa : Nat → Nat} {A : Nat → Prop} {x ln o : Nat} {mo dr ds : Int32} {ad : Nat → Nat} {g : Nat → Nd} {T : Tr} {f : Nat → Int64} {x0 x1 : Int32} (hrep : RepC T (keysT T) g) : vx_Met l yL_captain wsL_captain ({ frames := 10, cells := 4, slots := 30, locals := 400 } : Room) (PcL sa D (tysA cA cZ cI) A (CWT x ln cA T mo dr ds ad g) o cJ f [.ref x, .int x0, .int x1, .ref o]) (va_Qi (S := (Nat → Nat) × (Nat → Nd) × (Nat → Int64)) (fun r u => r = nI (kC x0 x1 T) ∧ (kC x0 x1 T = 0 → u.2.2 0 = Int32.toInt64 (enc (lca (min (kx x0) (kx x1)) (max (kx x0) (kx x1)) T))) ∧ RepC (T, mo, dr, ds).1 (keysT (T, mo, dr, ds).1) u.2.1) (fun u => BL D A (CWT x ln cA (T, mo, dr, ds).1 (T, mo, dr, ds).2.1 (T, mo, dr, ds).2.2.1 (T, mo, dr, ds).2.2.2 u.1 u.2.1 ++ [(o, oE cJ u.2.2)])) A) (vx_X (S := Unit) (fun _ => False) (fun _ _ _ => False) (fun _ => False)) 4 30 A := by
  refine vx_ofWH (cc := cL_captain) (maxL := 5) (ret := some .int) (hh := [(0, 10, 13, 13), (0, 10, 17, 15)]) (by decide) rfl ?_
  intro p e s m args below meth c s₁ B hml hv
  obtain ⟨rfl, hA, hP, hG, hD, hX, hK, hN⟩ := hv
  have hx := B.exec
  have hb := B.bytes
  have hr := B.returns
  have hts := atoms_spec (ws := wsL_captain) B.pre
  have hown : s.vm.findClass RL = some m.cls := findClass_of_methodNamed B.named
  have hlocks := B.notSynchronized
  have htab := vx_table (x := yL_captain) B (hts _ List.mem_cons_self)
  have hl := lv_entry ([.ref x, .int x0, .int x1, .ref o]) (n := 5) (Nat.le_of_ble_eq_true rfl)
  rw [lg_entry_eq]
  generalize (lg_sl ([.ref x, .int x0, .int x1, .ref o]) ++ List.replicate (5 - (lg_sl ([.ref x, .int x0, .int x1, .ref o])).length) Slot.unset).toArray = ls at hl ⊢
  have hl : lv_has ls 5 [(0, .ref x), (1, .int x0), (2, .int x1), (3, .ref o)] := hl
  have hS : va_S A s.heap s.heap [] := va_S.rf
  obtain ⟨hPW, hPo, hol⟩ := last_o hP
  obtain ⟨hDW, hAo⟩ := part_D hD
  have hA1 : ∀ q, s.heap.size ≤ q → A q ∧ q ≠ o := fun q h => ⟨hA q h, by omega⟩
  have hX1 : GX sa (fun q => A q ∧ q ≠ o) s s.heap := hX.narrow (fun q h => h.1)
  have hS1 : va_S (fun q => A q ∧ q ≠ o) s.heap s.heap [] := va_S.rf
  refine lv_aload_n hx hb dL_captain_0 rfl (lv_at hl 3 rfl) ?_
  refine lv_iconst (v := nI 0) hx hb dL_captain_1 (by decide) ?_
  refine lv_aload_n hx hb dL_captain_2 rfl (lv_at hl 0 rfl) ?_
  refine lv_iload_n hx hb dL_captain_3 rfl (lv_at hl 1 rfl) ?_
  refine lv_iload_n hx hb dL_captain_4 rfl (lv_at hl 2 rfl) ?_
  refine vx_calli (vx_runV (As := [.int x0, .int x1]) (rest := [.int (nI 0), .ref o]) ⟨hx, hb, hml, hown, hts⟩ (c_X1_captain l hst hrep) (cwV 2 hts gL_captain_X1_captain rfl rfl rfl (by decide +kernel) ⟨Nat.le_of_ble_eq_true rfl, Nat.le_of_ble_eq_true rfl⟩) ⟨PcX.blind, va_recv hG.1 hPW (ci := 1) (q0 := 0) rfl cw_x, PcX.at hA1 hS1 hPW hG hDW hX1⟩ rfl rfl hl.1 rfl (lv_room (Nat.le_of_ble_eq_true rfl)) dL_captain_5 ⟨Nat.le_of_ble_eq_true rfl, Nat.le_of_ble_eq_true rfl⟩) hS (fun q _ h => h.1) (fun q h => h.1) (fun q _ h => h.1) (fun E ce q9 u t H locs ht hvm hpx hbx hbz hk hS hce hcv hcl => ?_) (fun r u t H locs ht hvm hpo hB hbz hk hS => ?_)
  · obtain ⟨hc, hPx, hDx⟩ := hbx
    rw [ht] at hPx
    have hPx := join_P hP hPx hk
    have hDx := join_D (e := oE cJ f) hDx hAo
    rcases hc with ⟨hc, rfl⟩ | ⟨hc, rfl⟩
    · refine vx_catch hown [] ⟨0, 10, 13, 13⟩ [⟨0, 10, 17, 15⟩] (htab.trans rfl) (fun z hz => absurd hz List.not_mem_nil) (by decide) (by decide) (hts (.classLink RL 13 eIA) (by decide +kernel)) (va_Nw.use rfl hX.1.1) hce hcv hcl ?_
      have eK : kC x0 x1 T = 1 := hc.elim (fun q => if_neg (by rw [hiB_f q]; decide)) (fun q => by unfold kC; split; (· exact if_neg (by rw [hiB_f q]; decide)); (· rfl))
      have eZ : (T, mo, dr, ds) = (T, mo, dr, ds) := rfl
      refine lv_astore (lv' := [(4, .ref q9), (0, .ref x), (1, .int x0), (2, .int x1), (3, .ref o)]) hx hb dL_captain_13 hl (by decide) rfl (fun ls hl => ?_)
      refine lv_iconst (v := nI 1) hx hb dL_captain_15 (by decide) ?_
      refine W.widen (k := 4) (n := 30) (Nat.le_of_ble_eq_true rfl) (Nat.le_of_ble_eq_true rfl) ?_
      exact vx_ret (W.iret (v := nI 1) hx hb hr (fun t ht hW => ⟨⟨_, (ad, g, f), rfl, ⟨by rw [eK], fun q => absurd (eK.symm.trans q) (by decide), by rw [eZ]; exact hrep⟩, by rw [eZ, ht]; exact hPx, by rw [eZ]; exact hDx⟩, hS.F ht⟩) hS.2.2 dL_captain_16)
    · refine vx_catch hown [⟨0, 10, 13, 13⟩] ⟨0, 10, 17, 15⟩ [] (htab.trans rfl) (fun z hz => (by simp at hz; subst hz; exact Or.inr ⟨by decide, eIA, hts (.classLink RL 13 eIA) (by decide +kernel), hN.1⟩)) (by decide) (by decide) (hts (.classLink RL 15 eIS) (by decide +kernel)) (va_Nw.use rfl hX.1.2.1) hce hcv hcl ?_
      have eK : kC x0 x1 T = 2 := (if_pos (hiB_t hc.1)).trans ((if_pos (hiB_t hc.2.1)).trans (by split; (· rename_i m0; exact if_neg (fun q => hc.2.2 ⟨m0, q⟩)); (· rfl)))
      have eZ : (T, mo, dr, ds) = (T, mo, dr, ds) := rfl
      refine lv_astore (lv' := [(4, .ref q9), (0, .ref x), (1, .int x0), (2, .int x1), (3, .ref o)]) hx hb dL_captain_17 hl (by decide) rfl (fun ls hl => ?_)
      refine lv_iconst (v := nI 2) hx hb dL_captain_19 (by decide) ?_
      refine W.widen (k := 4) (n := 30) (Nat.le_of_ble_eq_true rfl) (Nat.le_of_ble_eq_true rfl) ?_
      exact vx_ret (W.iret (v := nI 2) hx hb hr (fun t ht hW => ⟨⟨_, (ad, g, f), rfl, ⟨by rw [eK], fun q => absurd (eK.symm.trans q) (by decide), by rw [eZ]; exact hrep⟩, by rw [eZ, ht]; exact hPx, by rw [eZ]; exact hDx⟩, hS.F ht⟩) hS.2.2 dL_captain_20)
  · obtain ⟨hPx, -, hDx⟩ := hB
    rw [ht] at hPx
    have hPx := join_P hP hPx hk
    have hDx := join_D (e := oE cJ f) hDx hAo
    have eK : kC x0 x1 T = 0 := (if_pos (hiB_t hpo.1)).trans ((if_pos (hiB_t hpo.2.1)).trans ((if_pos hpo.2.2.1).trans (if_pos hpo.2.2.2.1)))
    refine lv_i2l hx hb dL_captain_8 rfl ?_
    refine zr_lst hx hb hK hPx hDx hS dL_captain_9 (fun H locs f1 hf1 hPx hDx hS => ?_)
    refine lv_goto (tgt := 21) hx hb dL_captain_10 (by decide) ?_
    refine lv_iconst (v := nI 0) hx hb dL_captain_21 (by decide) ?_
    refine W.widen (k := 4) (n := 30) (Nat.le_of_ble_eq_true rfl) (Nat.le_of_ble_eq_true rfl) ?_
    exact vx_ret (W.iret (v := nI 0) hx hb hr (fun t ht hW => ⟨⟨_, (ad, g, f1), rfl, ⟨by rw [eK], fun _ => hf1.trans (congrArg Int32.toInt64 (hpo.2.2.2.2)), hrep⟩, by rw [ht]; exact hPx, by exact hDx⟩, hS.F ht⟩) hS.2.2 dL_captain_22)

set_option maxHeartbeats 4000000 in
set_option maxRecDepth 100000 in
/-- taller, caught -/
theorem c_L_taller (l : Launch) (hst : l.stackTraces = false) {D : va_G} {cA cZ cI cJ : ClassId} {sa : Nat → Nat} {A : Nat → Prop} {x ln o : Nat} {mo dr ds : Int32} {ad : Nat → Nat} {g : Nat → Nd} {T : Tr} {f : Nat → Int64} {x0 : Int32} (hrep : RepC T (keysT T) g) : vx_Met l yL_taller wsL_taller ({ frames := 10, cells := 4, slots := 30, locals := 400 } : Room) (PcL sa D (tysA cA cZ cI) A (CWT x ln cA T mo dr ds ad g) o cJ f [.ref x, .int x0, .ref o]) (va_Qi (S := (Nat → Nat) × (Nat → Nd) × (Nat → Int64)) (fun r u => r = nI (kH x0) ∧ (kH x0 = 0 → u.2.2 0 = Int32.toInt64 (enc ((keysT T)[cntLt (kx x0 + 1) T]?))) ∧ RepC (T, mo, dr, ds).1 (keysT (T, mo, dr, ds).1) u.2.1) (fun u => BL D A (CWT x ln cA (T, mo, dr, ds).1 (T, mo, dr, ds).2.1 (T, mo, dr, ds).2.2.1 (T, mo, dr, ds).2.2.2 u.1 u.2.1 ++ [(o, oE cJ u.2.2)])) A) (vx_X (S := Unit) (fun _ => False) (fun _ _ _ => False) (fun _ => False)) 4 30 A := by
  refine vx_ofWH (cc := cL_taller) (maxL := 4) (ret := some .int) (hh := [(0, 9, 12, 13)]) (by decide) rfl ?_
  intro p e s m args below meth c s₁ B hml hv
  obtain ⟨rfl, hA, hP, hG, hD, hX, hK, hN⟩ := hv
  have hx := B.exec
  have hb := B.bytes
  have hr := B.returns
  have hts := atoms_spec (ws := wsL_taller) B.pre
  have hown : s.vm.findClass RL = some m.cls := findClass_of_methodNamed B.named
  have hlocks := B.notSynchronized
  have htab := vx_table (x := yL_taller) B (hts _ List.mem_cons_self)
  have hl := lv_entry ([.ref x, .int x0, .ref o]) (n := 4) (Nat.le_of_ble_eq_true rfl)
  rw [lg_entry_eq]
  generalize (lg_sl ([.ref x, .int x0, .ref o]) ++ List.replicate (4 - (lg_sl ([.ref x, .int x0, .ref o])).length) Slot.unset).toArray = ls at hl ⊢
  have hl : lv_has ls 4 [(0, .ref x), (1, .int x0), (2, .ref o)] := hl
  have hS : va_S A s.heap s.heap [] := va_S.rf
  obtain ⟨hPW, hPo, hol⟩ := last_o hP
  obtain ⟨hDW, hAo⟩ := part_D hD
  have hA1 : ∀ q, s.heap.size ≤ q → A q ∧ q ≠ o := fun q h => ⟨hA q h, by omega⟩
  have hX1 : GX sa (fun q => A q ∧ q ≠ o) s s.heap := hX.narrow (fun q h => h.1)
  have hS1 : va_S (fun q => A q ∧ q ≠ o) s.heap s.heap [] := va_S.rf
  refine lv_aload_n hx hb dL_taller_0 rfl (lv_at hl 2 rfl) ?_
  refine lv_iconst (v := nI 0) hx hb dL_taller_1 (by decide) ?_
  refine lv_aload_n hx hb dL_taller_2 rfl (lv_at hl 0 rfl) ?_
  refine lv_iload_n hx hb dL_taller_3 rfl (lv_at hl 1 rfl) ?_
  refine vx_calli (vx_runV (As := [.int x0]) (rest := [.int (nI 0), .ref o]) ⟨hx, hb, hml, hown, hts⟩ (c_X1_taller l hst hrep) (cwV 1 hts gL_taller_X1_taller rfl rfl rfl (by decide +kernel) ⟨Nat.le_of_ble_eq_true rfl, Nat.le_of_ble_eq_true rfl⟩) ⟨PcX.blind, va_recv hG.1 hPW (ci := 1) (q0 := 0) rfl cw_x, PcX.at hA1 hS1 hPW hG hDW hX1⟩ rfl rfl hl.1 rfl (lv_room (Nat.le_of_ble_eq_true rfl)) dL_taller_4 ⟨Nat.le_of_ble_eq_true rfl, Nat.le_of_ble_eq_true rfl⟩) hS (fun q _ h => h.1) (fun q h => h.1) (fun q _ h => h.1) (fun E ce q9 u t H locs ht hvm hpx hbx hbz hk hS hce hcv hcl => ?_) (fun r u t H locs ht hvm hpo hB hbz hk hS => ?_)
  · obtain ⟨hc, hPx, hDx⟩ := hbx
    rw [ht] at hPx
    have hPx := join_P hP hPx hk
    have hDx := join_D (e := oE cJ f) hDx hAo
    rcases hc with ⟨hc, rfl⟩
    · refine vx_catch hown [] ⟨0, 9, 12, 13⟩ [] (htab.trans rfl) (fun z hz => absurd hz List.not_mem_nil) (by decide) (by decide) (hts (.classLink RL 13 eIA) (by decide +kernel)) (va_Nw.use rfl hX.1.1) hce hcv hcl ?_
      have eK : kH x0 = 1 := kH_1 (hiB_f hc)
      have eZ : (T, mo, dr, ds) = (T, mo, dr, ds) := rfl
      refine lv_astore_n (lv' := [(3, .ref q9), (0, .ref x), (1, .int x0), (2, .ref o)]) hx hb dL_taller_12 rfl hl (by decide) rfl (fun ls hl => ?_)
      refine lv_iconst (v := nI 1) hx hb dL_taller_13 (by decide) ?_
      refine W.widen (k := 4) (n := 30) (Nat.le_of_ble_eq_true rfl) (Nat.le_of_ble_eq_true rfl) ?_
      exact vx_ret (W.iret (v := nI 1) hx hb hr (fun t ht hW => ⟨⟨_, (ad, g, f), rfl, ⟨by rw [eK], fun q => absurd (eK.symm.trans q) (by decide), by rw [eZ]; exact hrep⟩, by rw [eZ, ht]; exact hPx, by rw [eZ]; exact hDx⟩, hS.F ht⟩) hS.2.2 dL_taller_14)
  · obtain ⟨hPx, -, hDx⟩ := hB
    rw [ht] at hPx
    have hPx := join_P hP hPx hk
    have hDx := join_D (e := oE cJ f) hDx hAo
    have eK : kH x0 = 0 := if_pos (hiB_t hpo.1)
    refine lv_i2l hx hb dL_taller_7 rfl ?_
    refine zr_lst hx hb hK hPx hDx hS dL_taller_8 (fun H locs f1 hf1 hPx hDx hS => ?_)
    refine lv_goto (tgt := 15) hx hb dL_taller_9 (by decide) ?_
    refine lv_iconst (v := nI 0) hx hb dL_taller_15 (by decide) ?_
    refine W.widen (k := 4) (n := 30) (Nat.le_of_ble_eq_true rfl) (Nat.le_of_ble_eq_true rfl) ?_
    exact vx_ret (W.iret (v := nI 0) hx hb hr (fun t ht hW => ⟨⟨_, (ad, g, f1), rfl, ⟨by rw [eK], fun _ => hf1.trans (congrArg Int32.toInt64 (hpo.2)), hrep⟩, by rw [ht]; exact hPx, by exact hDx⟩, hS.F ht⟩) hS.2.2 dL_taller_16)

set_option maxHeartbeats 4000000 in
set_option maxRecDepth 100000 in
/-- count, caught -/
theorem c_L_count (l : Launch) (hst : l.stackTraces = false) {D : va_G} {cA cZ cI cJ : ClassId} {sa : Nat → Nat} {A : Nat → Prop} {x ln o : Nat} {mo dr ds : Int32} {ad : Nat → Nat} {g : Nat → Nd} {T : Tr} {f : Nat → Int64} {x0 : Int32} (hrep : RepC T (keysT T) g) : vx_Met l yL_count wsL_count ({ frames := 10, cells := 4, slots := 30, locals := 400 } : Room) (PcL sa D (tysA cA cZ cI) A (CWT x ln cA T mo dr ds ad g) o cJ f [.ref x, .int x0, .ref o]) (va_Qi (S := (Nat → Nat) × (Nat → Nd) × (Nat → Int64)) (fun r u => r = nI (kQ x0) ∧ (kQ x0 = 0 → u.2.2 0 = Int32.toInt64 (tallyT T dr ds mo (kx x0))) ∧ RepC (T, mo, dr, ds).1 (keysT (T, mo, dr, ds).1) u.2.1) (fun u => BL D A (CWT x ln cA (T, mo, dr, ds).1 (T, mo, dr, ds).2.1 (T, mo, dr, ds).2.2.1 (T, mo, dr, ds).2.2.2 u.1 u.2.1 ++ [(o, oE cJ u.2.2)])) A) (vx_X (S := Unit) (fun _ => False) (fun _ _ _ => False) (fun _ => False)) 4 30 A := by
  refine vx_ofWH (cc := cL_count) (maxL := 4) (ret := some .int) (hh := [(0, 9, 12, 31)]) (by decide) rfl ?_
  intro p e s m args below meth c s₁ B hml hv
  obtain ⟨rfl, hA, hP, hG, hD, hX, hK, hN⟩ := hv
  have hx := B.exec
  have hb := B.bytes
  have hr := B.returns
  have hts := atoms_spec (ws := wsL_count) B.pre
  have hown : s.vm.findClass RL = some m.cls := findClass_of_methodNamed B.named
  have hlocks := B.notSynchronized
  have htab := vx_table (x := yL_count) B (hts _ List.mem_cons_self)
  have hl := lv_entry ([.ref x, .int x0, .ref o]) (n := 4) (Nat.le_of_ble_eq_true rfl)
  rw [lg_entry_eq]
  generalize (lg_sl ([.ref x, .int x0, .ref o]) ++ List.replicate (4 - (lg_sl ([.ref x, .int x0, .ref o])).length) Slot.unset).toArray = ls at hl ⊢
  have hl : lv_has ls 4 [(0, .ref x), (1, .int x0), (2, .ref o)] := hl
  have hS : va_S A s.heap s.heap [] := va_S.rf
  obtain ⟨hPW, hPo, hol⟩ := last_o hP
  obtain ⟨hDW, hAo⟩ := part_D hD
  have hA1 : ∀ q, s.heap.size ≤ q → A q ∧ q ≠ o := fun q h => ⟨hA q h, by omega⟩
  have hX1 : GX sa (fun q => A q ∧ q ≠ o) s s.heap := hX.narrow (fun q h => h.1)
  have hS1 : va_S (fun q => A q ∧ q ≠ o) s.heap s.heap [] := va_S.rf
  refine lv_aload_n hx hb dL_count_0 rfl (lv_at hl 2 rfl) ?_
  refine lv_iconst (v := nI 0) hx hb dL_count_1 (by decide) ?_
  refine lv_aload_n hx hb dL_count_2 rfl (lv_at hl 0 rfl) ?_
  refine lv_iload_n hx hb dL_count_3 rfl (lv_at hl 1 rfl) ?_
  refine vx_calli (vx_runV (As := [.int x0]) (rest := [.int (nI 0), .ref o]) ⟨hx, hb, hml, hown, hts⟩ (c_X1_count l hst hrep) (cwV 1 hts gL_count_X1_count rfl rfl rfl (by decide +kernel) ⟨Nat.le_of_ble_eq_true rfl, Nat.le_of_ble_eq_true rfl⟩) ⟨PcX.blind, va_recv hG.1 hPW (ci := 1) (q0 := 0) rfl cw_x, PcX.at hA1 hS1 hPW hG hDW hX1⟩ rfl rfl hl.1 rfl (lv_room (Nat.le_of_ble_eq_true rfl)) dL_count_4 ⟨Nat.le_of_ble_eq_true rfl, Nat.le_of_ble_eq_true rfl⟩) hS (fun q _ h => h.1) (fun q h => h.1) (fun q _ h => h.1) (fun E ce q9 u t H locs ht hvm hpx hbx hbz hk hS hce hcv hcl => ?_) (fun r u t H locs ht hvm hpo hB hbz hk hS => ?_)
  · obtain ⟨hc, hPx, hDx⟩ := hbx
    rw [ht] at hPx
    have hPx := join_P hP hPx hk
    have hDx := join_D (e := oE cJ f) hDx hAo
    rcases hc with ⟨hc, rfl⟩
    · refine vx_catch hown [] ⟨0, 9, 12, 31⟩ [] (htab.trans rfl) (fun z hz => absurd hz List.not_mem_nil) (by decide) (by decide) (hts (.classLink RL 31 eIO) (by decide +kernel)) (va_Nw.use rfl hX.1.2.2.1) hce hcv hcl ?_
      have eK : kQ x0 = 1 := if_neg (by rw [hqB_f hc]; decide)
      have eZ : (T, mo, dr, ds) = (T, mo, dr, ds) := rfl
      refine lv_astore_n (lv' := [(3, .ref q9), (0, .ref x), (1, .int x0), (2, .ref o)]) hx hb dL_count_12 rfl hl (by decide) rfl (fun ls hl => ?_)
      refine lv_iconst (v := nI 1) hx hb dL_count_13 (by decide) ?_
      refine W.widen (k := 4) (n := 30) (Nat.le_of_ble_eq_true rfl) (Nat.le_of_ble_eq_true rfl) ?_
      exact vx_ret (W.iret (v := nI 1) hx hb hr (fun t ht hW => ⟨⟨_, (ad, g, f), rfl, ⟨by rw [eK], fun q => absurd (eK.symm.trans q) (by decide), by rw [eZ]; exact hrep⟩, by rw [eZ, ht]; exact hPx, by rw [eZ]; exact hDx⟩, hS.F ht⟩) hS.2.2 dL_count_14)
  · obtain ⟨hPx, -, hDx⟩ := hB
    rw [ht] at hPx
    have hPx := join_P hP hPx hk
    have hDx := join_D (e := oE cJ f) hDx hAo
    have eK : kQ x0 = 0 := if_pos (hqB_t hpo.1)
    refine lv_i2l hx hb dL_count_7 rfl ?_
    refine zr_lst hx hb hK hPx hDx hS dL_count_8 (fun H locs f1 hf1 hPx hDx hS => ?_)
    refine lv_goto (tgt := 15) hx hb dL_count_9 (by decide) ?_
    refine lv_iconst (v := nI 0) hx hb dL_count_15 (by decide) ?_
    refine W.widen (k := 4) (n := 30) (Nat.le_of_ble_eq_true rfl) (Nat.le_of_ble_eq_true rfl) ?_
    exact vx_ret (W.iret (v := nI 0) hx hb hr (fun t ht hW => ⟨⟨_, (ad, g, f1), rfl, ⟨by rw [eK], fun _ => hf1.trans (congrArg Int32.toInt64 (hpo.2)), hrep⟩, by rw [ht]; exact hPx, by exact hDx⟩, hS.F ht⟩) hS.2.2 dL_count_16)

set_option maxHeartbeats 4000000 in
set_option maxRecDepth 100000 in
/-- would, caught -/
theorem c_L_would (l : Launch) (hst : l.stackTraces = false) {D : va_G} {cA cZ cI cJ : ClassId} {sa : Nat → Nat} {A : Nat → Prop} {x ln o : Nat} {mo dr ds : Int32} {ad : Nat → Nat} {g : Nat → Nd} {T : Tr} {f : Nat → Int64} {x0 : Int32} (hrep : RepC T (keysT T) g) : vx_Met l yL_would wsL_would ({ frames := 10, cells := 4, slots := 30, locals := 400 } : Room) (PcL sa D (tysA cA cZ cI) A (CWT x ln cA T mo dr ds ad g) o cJ f [.ref x, .int x0, .ref o]) (va_Qi (S := (Nat → Nat) × (Nat → Nd) × (Nat → Int64)) (fun r u => r = nI (kH x0) ∧ (kH x0 = 0 → u.2.2 0 = Int32.toInt64 (if kx x0 ∈ keysT T then -1 else nI (anc (kx x0) T).length)) ∧ RepC (T, mo, dr, ds).1 (keysT (T, mo, dr, ds).1) u.2.1) (fun u => BL D A (CWT x ln cA (T, mo, dr, ds).1 (T, mo, dr, ds).2.1 (T, mo, dr, ds).2.2.1 (T, mo, dr, ds).2.2.2 u.1 u.2.1 ++ [(o, oE cJ u.2.2)])) A) (vx_X (S := Unit) (fun _ => False) (fun _ _ _ => False) (fun _ => False)) 4 30 A := by
  refine vx_ofWH (cc := cL_would) (maxL := 4) (ret := some .int) (hh := [(0, 9, 12, 13)]) (by decide) rfl ?_
  intro p e s m args below meth c s₁ B hml hv
  obtain ⟨rfl, hA, hP, hG, hD, hX, hK, hN⟩ := hv
  have hx := B.exec
  have hb := B.bytes
  have hr := B.returns
  have hts := atoms_spec (ws := wsL_would) B.pre
  have hown : s.vm.findClass RL = some m.cls := findClass_of_methodNamed B.named
  have hlocks := B.notSynchronized
  have htab := vx_table (x := yL_would) B (hts _ List.mem_cons_self)
  have hl := lv_entry ([.ref x, .int x0, .ref o]) (n := 4) (Nat.le_of_ble_eq_true rfl)
  rw [lg_entry_eq]
  generalize (lg_sl ([.ref x, .int x0, .ref o]) ++ List.replicate (4 - (lg_sl ([.ref x, .int x0, .ref o])).length) Slot.unset).toArray = ls at hl ⊢
  have hl : lv_has ls 4 [(0, .ref x), (1, .int x0), (2, .ref o)] := hl
  have hS : va_S A s.heap s.heap [] := va_S.rf
  obtain ⟨hPW, hPo, hol⟩ := last_o hP
  obtain ⟨hDW, hAo⟩ := part_D hD
  have hA1 : ∀ q, s.heap.size ≤ q → A q ∧ q ≠ o := fun q h => ⟨hA q h, by omega⟩
  have hX1 : GX sa (fun q => A q ∧ q ≠ o) s s.heap := hX.narrow (fun q h => h.1)
  have hS1 : va_S (fun q => A q ∧ q ≠ o) s.heap s.heap [] := va_S.rf
  refine lv_aload_n hx hb dL_would_0 rfl (lv_at hl 2 rfl) ?_
  refine lv_iconst (v := nI 0) hx hb dL_would_1 (by decide) ?_
  refine lv_aload_n hx hb dL_would_2 rfl (lv_at hl 0 rfl) ?_
  refine lv_iload_n hx hb dL_would_3 rfl (lv_at hl 1 rfl) ?_
  refine vx_calli (vx_runV (As := [.int x0]) (rest := [.int (nI 0), .ref o]) ⟨hx, hb, hml, hown, hts⟩ (c_X1_would l hst hrep) (cwV 1 hts gL_would_X1_would rfl rfl rfl (by decide +kernel) ⟨Nat.le_of_ble_eq_true rfl, Nat.le_of_ble_eq_true rfl⟩) ⟨PcX.blind, va_recv hG.1 hPW (ci := 1) (q0 := 0) rfl cw_x, PcX.at hA1 hS1 hPW hG hDW hX1⟩ rfl rfl hl.1 rfl (lv_room (Nat.le_of_ble_eq_true rfl)) dL_would_4 ⟨Nat.le_of_ble_eq_true rfl, Nat.le_of_ble_eq_true rfl⟩) hS (fun q _ h => h.1) (fun q h => h.1) (fun q _ h => h.1) (fun E ce q9 u t H locs ht hvm hpx hbx hbz hk hS hce hcv hcl => ?_) (fun r u t H locs ht hvm hpo hB hbz hk hS => ?_)
  · obtain ⟨hc, hPx, hDx⟩ := hbx
    rw [ht] at hPx
    have hPx := join_P hP hPx hk
    have hDx := join_D (e := oE cJ f) hDx hAo
    rcases hc with ⟨hc, rfl⟩
    · refine vx_catch hown [] ⟨0, 9, 12, 13⟩ [] (htab.trans rfl) (fun z hz => absurd hz List.not_mem_nil) (by decide) (by decide) (hts (.classLink RL 13 eIA) (by decide +kernel)) (va_Nw.use rfl hX.1.1) hce hcv hcl ?_
      have eK : kH x0 = 1 := kH_1 (hiB_f hc)
      have eZ : (T, mo, dr, ds) = (T, mo, dr, ds) := rfl
      refine lv_astore_n (lv' := [(3, .ref q9), (0, .ref x), (1, .int x0), (2, .ref o)]) hx hb dL_would_12 rfl hl (by decide) rfl (fun ls hl => ?_)
      refine lv_iconst (v := nI 1) hx hb dL_would_13 (by decide) ?_
      refine W.widen (k := 4) (n := 30) (Nat.le_of_ble_eq_true rfl) (Nat.le_of_ble_eq_true rfl) ?_
      exact vx_ret (W.iret (v := nI 1) hx hb hr (fun t ht hW => ⟨⟨_, (ad, g, f), rfl, ⟨by rw [eK], fun q => absurd (eK.symm.trans q) (by decide), by rw [eZ]; exact hrep⟩, by rw [eZ, ht]; exact hPx, by rw [eZ]; exact hDx⟩, hS.F ht⟩) hS.2.2 dL_would_14)
  · obtain ⟨hPx, -, hDx⟩ := hB
    rw [ht] at hPx
    have hPx := join_P hP hPx hk
    have hDx := join_D (e := oE cJ f) hDx hAo
    have eK : kH x0 = 0 := if_pos (hiB_t hpo.1)
    refine lv_i2l hx hb dL_would_7 rfl ?_
    refine zr_lst hx hb hK hPx hDx hS dL_would_8 (fun H locs f1 hf1 hPx hDx hS => ?_)
    refine lv_goto (tgt := 15) hx hb dL_would_9 (by decide) ?_
    refine lv_iconst (v := nI 0) hx hb dL_would_15 (by decide) ?_
    refine W.widen (k := 4) (n := 30) (Nat.le_of_ble_eq_true rfl) (Nat.le_of_ble_eq_true rfl) ?_
    exact vx_ret (W.iret (v := nI 0) hx hb hr (fun t ht hW => ⟨⟨_, (ad, g, f1), rfl, ⟨by rw [eK], fun _ => hf1.trans (congrArg Int32.toInt64 (hpo.2)), hrep⟩, by rw [ht]; exact hPx, by exact hDx⟩, hS.F ht⟩) hS.2.2 dL_would_16)

set_option maxHeartbeats 4000000 in
set_option maxRecDepth 100000 in
/-- moves, caught -/
theorem c_L_moves (l : Launch) (hst : l.stackTraces = false) {D : va_G} {cA cZ cI cJ : ClassId} {sa : Nat → Nat} {A : Nat → Prop} {x ln o : Nat} {mo dr ds : Int32} {ad : Nat → Nat} {g : Nat → Nd} {T : Tr} {f : Nat → Int64} {x0 : Int32} (hrep : RepC T (keysT T) g) : vx_Met l yL_moves wsL_moves ({ frames := 10, cells := 4, slots := 30, locals := 400 } : Room) (PcL sa D (tysA cA cZ cI) A (CWT x ln cA T mo dr ds ad g) o cJ f [.ref x, .int x0, .ref o]) (va_Qi (S := (Nat → Nat) × (Nat → Nd) × (Nat → Int64)) (fun r u => r = nI (kH x0) ∧ (kH x0 = 0 → u.2.2 0 = Int32.toInt64 (enc (movT T (kx x0)))) ∧ RepC (T, mo, dr, ds).1 (keysT (T, mo, dr, ds).1) u.2.1) (fun u => BL D A (CWT x ln cA (T, mo, dr, ds).1 (T, mo, dr, ds).2.1 (T, mo, dr, ds).2.2.1 (T, mo, dr, ds).2.2.2 u.1 u.2.1 ++ [(o, oE cJ u.2.2)])) A) (vx_X (S := Unit) (fun _ => False) (fun _ _ _ => False) (fun _ => False)) 4 30 A := by
  refine vx_ofWH (cc := cL_moves) (maxL := 4) (ret := some .int) (hh := [(0, 9, 12, 13)]) (by decide) rfl ?_
  intro p e s m args below meth c s₁ B hml hv
  obtain ⟨rfl, hA, hP, hG, hD, hX, hK, hN⟩ := hv
  have hx := B.exec
  have hb := B.bytes
  have hr := B.returns
  have hts := atoms_spec (ws := wsL_moves) B.pre
  have hown : s.vm.findClass RL = some m.cls := findClass_of_methodNamed B.named
  have hlocks := B.notSynchronized
  have htab := vx_table (x := yL_moves) B (hts _ List.mem_cons_self)
  have hl := lv_entry ([.ref x, .int x0, .ref o]) (n := 4) (Nat.le_of_ble_eq_true rfl)
  rw [lg_entry_eq]
  generalize (lg_sl ([.ref x, .int x0, .ref o]) ++ List.replicate (4 - (lg_sl ([.ref x, .int x0, .ref o])).length) Slot.unset).toArray = ls at hl ⊢
  have hl : lv_has ls 4 [(0, .ref x), (1, .int x0), (2, .ref o)] := hl
  have hS : va_S A s.heap s.heap [] := va_S.rf
  obtain ⟨hPW, hPo, hol⟩ := last_o hP
  obtain ⟨hDW, hAo⟩ := part_D hD
  have hA1 : ∀ q, s.heap.size ≤ q → A q ∧ q ≠ o := fun q h => ⟨hA q h, by omega⟩
  have hX1 : GX sa (fun q => A q ∧ q ≠ o) s s.heap := hX.narrow (fun q h => h.1)
  have hS1 : va_S (fun q => A q ∧ q ≠ o) s.heap s.heap [] := va_S.rf
  refine lv_aload_n hx hb dL_moves_0 rfl (lv_at hl 2 rfl) ?_
  refine lv_iconst (v := nI 0) hx hb dL_moves_1 (by decide) ?_
  refine lv_aload_n hx hb dL_moves_2 rfl (lv_at hl 0 rfl) ?_
  refine lv_iload_n hx hb dL_moves_3 rfl (lv_at hl 1 rfl) ?_
  refine vx_calli (vx_runV (As := [.int x0]) (rest := [.int (nI 0), .ref o]) ⟨hx, hb, hml, hown, hts⟩ (c_X1_moves l hst hrep) (cwV 1 hts gL_moves_X1_moves rfl rfl rfl (by decide +kernel) ⟨Nat.le_of_ble_eq_true rfl, Nat.le_of_ble_eq_true rfl⟩) ⟨PcX.blind, va_recv hG.1 hPW (ci := 1) (q0 := 0) rfl cw_x, PcX.at hA1 hS1 hPW hG hDW hX1⟩ rfl rfl hl.1 rfl (lv_room (Nat.le_of_ble_eq_true rfl)) dL_moves_4 ⟨Nat.le_of_ble_eq_true rfl, Nat.le_of_ble_eq_true rfl⟩) hS (fun q _ h => h.1) (fun q h => h.1) (fun q _ h => h.1) (fun E ce q9 u t H locs ht hvm hpx hbx hbz hk hS hce hcv hcl => ?_) (fun r u t H locs ht hvm hpo hB hbz hk hS => ?_)
  · obtain ⟨hc, hPx, hDx⟩ := hbx
    rw [ht] at hPx
    have hPx := join_P hP hPx hk
    have hDx := join_D (e := oE cJ f) hDx hAo
    rcases hc with ⟨hc, rfl⟩
    · refine vx_catch hown [] ⟨0, 9, 12, 13⟩ [] (htab.trans rfl) (fun z hz => absurd hz List.not_mem_nil) (by decide) (by decide) (hts (.classLink RL 13 eIA) (by decide +kernel)) (va_Nw.use rfl hX.1.1) hce hcv hcl ?_
      have eK : kH x0 = 1 := kH_1 (hiB_f hc)
      have eZ : (T, mo, dr, ds) = (T, mo, dr, ds) := rfl
      refine lv_astore_n (lv' := [(3, .ref q9), (0, .ref x), (1, .int x0), (2, .ref o)]) hx hb dL_moves_12 rfl hl (by decide) rfl (fun ls hl => ?_)
      refine lv_iconst (v := nI 1) hx hb dL_moves_13 (by decide) ?_
      refine W.widen (k := 4) (n := 30) (Nat.le_of_ble_eq_true rfl) (Nat.le_of_ble_eq_true rfl) ?_
      exact vx_ret (W.iret (v := nI 1) hx hb hr (fun t ht hW => ⟨⟨_, (ad, g, f), rfl, ⟨by rw [eK], fun q => absurd (eK.symm.trans q) (by decide), by rw [eZ]; exact hrep⟩, by rw [eZ, ht]; exact hPx, by rw [eZ]; exact hDx⟩, hS.F ht⟩) hS.2.2 dL_moves_14)
  · obtain ⟨hPx, -, hDx⟩ := hB
    rw [ht] at hPx
    have hPx := join_P hP hPx hk
    have hDx := join_D (e := oE cJ f) hDx hAo
    have eK : kH x0 = 0 := if_pos (hiB_t hpo.1)
    refine lv_i2l hx hb dL_moves_7 rfl ?_
    refine zr_lst hx hb hK hPx hDx hS dL_moves_8 (fun H locs f1 hf1 hPx hDx hS => ?_)
    refine lv_goto (tgt := 15) hx hb dL_moves_9 (by decide) ?_
    refine lv_iconst (v := nI 0) hx hb dL_moves_15 (by decide) ?_
    refine W.widen (k := 4) (n := 30) (Nat.le_of_ble_eq_true rfl) (Nat.le_of_ble_eq_true rfl) ?_
    exact vx_ret (W.iret (v := nI 0) hx hb hr (fun t ht hW => ⟨⟨_, (ad, g, f1), rfl, ⟨by rw [eK], fun _ => hf1.trans (congrArg Int32.toInt64 (hpo.2)), hrep⟩, by rw [ht]; exact hPx, by exact hDx⟩, hS.F ht⟩) hS.2.2 dL_moves_16)

set_option maxHeartbeats 4000000 in
set_option maxRecDepth 100000 in
/-- muster, caught -/
theorem c_L_muster (l : Launch) (hst : l.stackTraces = false) {D : va_G} {cA cZ cI cJ : ClassId} {sa : Nat → Nat} {A : Nat → Prop} {x ln o : Nat} {mo dr ds : Int32} {ad : Nat → Nat} {g : Nat → Nd} {T : Tr} {f : Nat → Int64} {x0 : Int32} (hrep : RepC T (keysT T) g) : vx_Met l yL_muster wsL_muster ({ frames := 18, cells := 4, slots := 30, locals := 720 } : Room) (PcL sa D (tysA cA cZ cI) A (CWT x ln cA T mo dr ds ad g) o cJ f [.ref x, .int x0, .ref o]) (va_Qi (S := (Nat → Nat) × (Nat → Nd) × (Nat → Int64)) (fun r u => r = nI (kM x0 T) ∧ (kM x0 T = 0 → u.2.2 0 = Int32.toInt64 (nI ((anc (kx x0) (musS (kx x0) (T, mo, dr, ds)).1).length))) ∧ RepC (musZ x0 (T, mo, dr, ds)).1 (keysT (musZ x0 (T, mo, dr, ds)).1) u.2.1) (fun u => BL D A (CWT x ln cA (musZ x0 (T, mo, dr, ds)).1 (musZ x0 (T, mo, dr, ds)).2.1 (musZ x0 (T, mo, dr, ds)).2.2.1 (musZ x0 (T, mo, dr, ds)).2.2.2 u.1 u.2.1 ++ [(o, oE cJ u.2.2)])) A) (vx_X (S := Unit) (fun _ => False) (fun _ _ _ => False) (fun _ => False)) 4 30 A := by
  refine vx_ofWH (cc := cL_muster) (maxL := 4) (ret := some .int) (hh := [(0, 9, 12, 13), (0, 9, 15, 15)]) (by decide) rfl ?_
  intro p e s m args below meth c s₁ B hml hv
  obtain ⟨rfl, hA, hP, hG, hD, hX, hK, hN⟩ := hv
  have hx := B.exec
  have hb := B.bytes
  have hr := B.returns
  have hts := atoms_spec (ws := wsL_muster) B.pre
  have hown : s.vm.findClass RL = some m.cls := findClass_of_methodNamed B.named
  have hlocks := B.notSynchronized
  have htab := vx_table (x := yL_muster) B (hts _ List.mem_cons_self)
  have hl := lv_entry ([.ref x, .int x0, .ref o]) (n := 4) (Nat.le_of_ble_eq_true rfl)
  rw [lg_entry_eq]
  generalize (lg_sl ([.ref x, .int x0, .ref o]) ++ List.replicate (4 - (lg_sl ([.ref x, .int x0, .ref o])).length) Slot.unset).toArray = ls at hl ⊢
  have hl : lv_has ls 4 [(0, .ref x), (1, .int x0), (2, .ref o)] := hl
  have hS : va_S A s.heap s.heap [] := va_S.rf
  obtain ⟨hPW, hPo, hol⟩ := last_o hP
  obtain ⟨hDW, hAo⟩ := part_D hD
  have hA1 : ∀ q, s.heap.size ≤ q → A q ∧ q ≠ o := fun q h => ⟨hA q h, by omega⟩
  have hX1 : GX sa (fun q => A q ∧ q ≠ o) s s.heap := hX.narrow (fun q h => h.1)
  have hS1 : va_S (fun q => A q ∧ q ≠ o) s.heap s.heap [] := va_S.rf
  refine lv_aload_n hx hb dL_muster_0 rfl (lv_at hl 2 rfl) ?_
  refine lv_iconst (v := nI 0) hx hb dL_muster_1 (by decide) ?_
  refine lv_aload_n hx hb dL_muster_2 rfl (lv_at hl 0 rfl) ?_
  refine lv_iload_n hx hb dL_muster_3 rfl (lv_at hl 1 rfl) ?_
  refine vx_calli (vx_runV (As := [.int x0]) (rest := [.int (nI 0), .ref o]) ⟨hx, hb, hml, hown, hts⟩ (c_X1_muster l hst hrep) (cwV 1 hts gL_muster_X1_muster rfl rfl rfl (by decide +kernel) ⟨Nat.le_of_ble_eq_true rfl, Nat.le_of_ble_eq_true rfl⟩) ⟨PcX.blind, va_recv hG.1 hPW (ci := 1) (q0 := 0) rfl cw_x, PcX.at hA1 hS1 hPW hG hDW hX1⟩ rfl rfl hl.1 rfl (lv_room (Nat.le_of_ble_eq_true rfl)) dL_muster_4 ⟨Nat.le_of_ble_eq_true rfl, Nat.le_of_ble_eq_true rfl⟩) hS (fun q _ h => h.1) (fun q h => h.1) (fun q _ h => h.1) (fun E ce q9 u t H locs ht hvm hpx hbx hbz hk hS hce hcv hcl => ?_) (fun r u t H locs ht hvm hpo hB hbz hk hS => ?_)
  · obtain ⟨hc, hPx, hDx⟩ := hbx
    rw [ht] at hPx
    have hPx := join_P hP hPx hk
    have hDx := join_D (e := oE cJ f) hDx hAo
    rcases hc with ⟨hc, rfl⟩ | ⟨hc, rfl⟩
    · refine vx_catch hown [] ⟨0, 9, 12, 13⟩ [⟨0, 9, 15, 15⟩] (htab.trans rfl) (fun z hz => absurd hz List.not_mem_nil) (by decide) (by decide) (hts (.classLink RL 13 eIA) (by decide +kernel)) (va_Nw.use rfl hX.1.1) hce hcv hcl ?_
      have eK : kM x0 T = 1 := kM_1 (hiB_f hc)
      have eZ : (musZ x0 (T, mo, dr, ds)) = (T, mo, dr, ds) := if_neg (by show ¬ kM x0 T = 0; rw [eK]; decide)
      refine lv_astore_n (lv' := [(3, .ref q9), (0, .ref x), (1, .int x0), (2, .ref o)]) hx hb dL_muster_12 rfl hl (by decide) rfl (fun ls hl => ?_)
      refine lv_iconst (v := nI 1) hx hb dL_muster_13 (by decide) ?_
      refine W.widen (k := 4) (n := 30) (Nat.le_of_ble_eq_true rfl) (Nat.le_of_ble_eq_true rfl) ?_
      exact vx_ret (W.iret (v := nI 1) hx hb hr (fun t ht hW => ⟨⟨_, (ad, g, f), rfl, ⟨by rw [eK], fun q => absurd (eK.symm.trans q) (by decide), by rw [eZ]; exact hrep⟩, by rw [eZ, ht]; exact hPx, by rw [eZ]; exact hDx⟩, hS.F ht⟩) hS.2.2 dL_muster_14)
    · refine vx_catch hown [⟨0, 9, 12, 13⟩] ⟨0, 9, 15, 15⟩ [] (htab.trans rfl) (fun z hz => (by simp at hz; subst hz; exact Or.inr ⟨by decide, eIA, hts (.classLink RL 13 eIA) (by decide +kernel), hN.1⟩)) (by decide) (by decide) (hts (.classLink RL 15 eIS) (by decide +kernel)) (va_Nw.use rfl hX.1.2.1) hce hcv hcl ?_
      have eK : kM x0 T = 2 := (if_pos (hiB_t hc.1)).trans (if_pos hc.2)
      have eZ : (musZ x0 (T, mo, dr, ds)) = (T, mo, dr, ds) := if_neg (by show ¬ kM x0 T = 0; rw [eK]; decide)
      refine lv_astore_n (lv' := [(3, .ref q9), (0, .ref x), (1, .int x0), (2, .ref o)]) hx hb dL_muster_15 rfl hl (by decide) rfl (fun ls hl => ?_)
      refine lv_iconst (v := nI 2) hx hb dL_muster_16 (by decide) ?_
      refine W.widen (k := 4) (n := 30) (Nat.le_of_ble_eq_true rfl) (Nat.le_of_ble_eq_true rfl) ?_
      exact vx_ret (W.iret (v := nI 2) hx hb hr (fun t ht hW => ⟨⟨_, (ad, g, f), rfl, ⟨by rw [eK], fun q => absurd (eK.symm.trans q) (by decide), by rw [eZ]; exact hrep⟩, by rw [eZ, ht]; exact hPx, by rw [eZ]; exact hDx⟩, hS.F ht⟩) hS.2.2 dL_muster_17)
  · obtain ⟨hPx, -, hDx⟩ := hB
    rw [ht] at hPx
    have hPx := join_P hP hPx hk
    have hDx := join_D (e := oE cJ f) hDx hAo
    have eK : kM x0 T = 0 := (if_pos (hiB_t hpo.1.1)).trans (if_neg (fun q => q.elim (fun z => by have := hpo.1.2.1; omega) hpo.1.2.2.1))
    have eZ : (musZ x0 (T, mo, dr, ds)) = musS (kx x0) (T, mo, dr, ds) := if_pos eK
    refine lv_i2l hx hb dL_muster_7 rfl ?_
    refine zr_lst hx hb hK hPx hDx hS dL_muster_8 (fun H locs f1 hf1 hPx hDx hS => ?_)
    refine lv_goto (tgt := 18) hx hb dL_muster_9 (by decide) ?_
    refine lv_iconst (v := nI 0) hx hb dL_muster_18 (by decide) ?_
    refine W.widen (k := 4) (n := 30) (Nat.le_of_ble_eq_true rfl) (Nat.le_of_ble_eq_true rfl) ?_
    exact vx_ret (W.iret (v := nI 0) hx hb hr (fun t ht hW => ⟨⟨_, (u.1, u.2, f1), rfl, ⟨by rw [eK], fun _ => hf1.trans (congrArg Int32.toInt64 (hpo.1.2.2.2)), by rw [eZ]; exact hpo.2⟩, by rw [eZ, ht]; exact hPx, by rw [eZ]; exact hDx⟩, hS.F ht⟩) hS.2.2 dL_muster_19)

set_option maxHeartbeats 4000000 in
set_option maxRecDepth 100000 in
/-- draw, caught -/
theorem c_L_draw (l : Launch) (hst : l.stackTraces = false) {D : va_G} {cA cZ cI cJ : ClassId} {sa : Nat → Nat} {A : Nat → Prop} {x ln o : Nat} {mo dr ds : Int32} {ad : Nat → Nat} {g : Nat → Nd} {T : Tr} {f : Nat → Int64} {x0 : Int32} (hrep : RepC T (keysT T) g) : vx_Met l yL_draw wsL_draw ({ frames := 18, cells := 4, slots := 30, locals := 720 } : Room) (PcL sa D (tysA cA cZ cI) A (CWT x ln cA T mo dr ds ad g) o cJ f [.ref x, .int x0, .ref o]) (va_Qi (S := (Nat → Nat) × (Nat → Nd) × (Nat → Int64)) (fun r u => r = nI (kD x0 T) ∧ (kD x0 T = 0 → u.2.2 0 = Int32.toInt64 (enc (root (balF 8 (keysT (subT (kx x0) T)))))) ∧ RepC (draZ x0 (T, mo, dr, ds)).1 (keysT (draZ x0 (T, mo, dr, ds)).1) u.2.1) (fun u => BL D A (CWT x ln cA (draZ x0 (T, mo, dr, ds)).1 (draZ x0 (T, mo, dr, ds)).2.1 (draZ x0 (T, mo, dr, ds)).2.2.1 (draZ x0 (T, mo, dr, ds)).2.2.2 u.1 u.2.1 ++ [(o, oE cJ u.2.2)])) A) (vx_X (S := Unit) (fun _ => False) (fun _ _ _ => False) (fun _ => False)) 4 30 A := by
  refine vx_ofWH (cc := cL_draw) (maxL := 4) (ret := some .int) (hh := [(0, 9, 12, 13), (0, 9, 15, 15)]) (by decide) rfl ?_
  intro p e s m args below meth c s₁ B hml hv
  obtain ⟨rfl, hA, hP, hG, hD, hX, hK, hN⟩ := hv
  have hx := B.exec
  have hb := B.bytes
  have hr := B.returns
  have hts := atoms_spec (ws := wsL_draw) B.pre
  have hown : s.vm.findClass RL = some m.cls := findClass_of_methodNamed B.named
  have hlocks := B.notSynchronized
  have htab := vx_table (x := yL_draw) B (hts _ List.mem_cons_self)
  have hl := lv_entry ([.ref x, .int x0, .ref o]) (n := 4) (Nat.le_of_ble_eq_true rfl)
  rw [lg_entry_eq]
  generalize (lg_sl ([.ref x, .int x0, .ref o]) ++ List.replicate (4 - (lg_sl ([.ref x, .int x0, .ref o])).length) Slot.unset).toArray = ls at hl ⊢
  have hl : lv_has ls 4 [(0, .ref x), (1, .int x0), (2, .ref o)] := hl
  have hS : va_S A s.heap s.heap [] := va_S.rf
  obtain ⟨hPW, hPo, hol⟩ := last_o hP
  obtain ⟨hDW, hAo⟩ := part_D hD
  have hA1 : ∀ q, s.heap.size ≤ q → A q ∧ q ≠ o := fun q h => ⟨hA q h, by omega⟩
  have hX1 : GX sa (fun q => A q ∧ q ≠ o) s s.heap := hX.narrow (fun q h => h.1)
  have hS1 : va_S (fun q => A q ∧ q ≠ o) s.heap s.heap [] := va_S.rf
  refine lv_aload_n hx hb dL_draw_0 rfl (lv_at hl 2 rfl) ?_
  refine lv_iconst (v := nI 0) hx hb dL_draw_1 (by decide) ?_
  refine lv_aload_n hx hb dL_draw_2 rfl (lv_at hl 0 rfl) ?_
  refine lv_iload_n hx hb dL_draw_3 rfl (lv_at hl 1 rfl) ?_
  refine vx_calli (vx_runV (As := [.int x0]) (rest := [.int (nI 0), .ref o]) ⟨hx, hb, hml, hown, hts⟩ (c_X1_draw l hst hrep) (cwV 1 hts gL_draw_X1_draw rfl rfl rfl (by decide +kernel) ⟨Nat.le_of_ble_eq_true rfl, Nat.le_of_ble_eq_true rfl⟩) ⟨PcX.blind, va_recv hG.1 hPW (ci := 1) (q0 := 0) rfl cw_x, PcX.at hA1 hS1 hPW hG hDW hX1⟩ rfl rfl hl.1 rfl (lv_room (Nat.le_of_ble_eq_true rfl)) dL_draw_4 ⟨Nat.le_of_ble_eq_true rfl, Nat.le_of_ble_eq_true rfl⟩) hS (fun q _ h => h.1) (fun q h => h.1) (fun q _ h => h.1) (fun E ce q9 u t H locs ht hvm hpx hbx hbz hk hS hce hcv hcl => ?_) (fun r u t H locs ht hvm hpo hB hbz hk hS => ?_)
  · obtain ⟨hc, hPx, hDx⟩ := hbx
    rw [ht] at hPx
    have hPx := join_P hP hPx hk
    have hDx := join_D (e := oE cJ f) hDx hAo
    rcases hc with ⟨hc, rfl⟩ | ⟨hc, rfl⟩
    · refine vx_catch hown [] ⟨0, 9, 12, 13⟩ [⟨0, 9, 15, 15⟩] (htab.trans rfl) (fun z hz => absurd hz List.not_mem_nil) (by decide) (by decide) (hts (.classLink RL 13 eIA) (by decide +kernel)) (va_Nw.use rfl hX.1.1) hce hcv hcl ?_
      have eK : kD x0 T = 1 := kD_1 (hiB_f hc)
      have eZ : (draZ x0 (T, mo, dr, ds)) = (T, mo, dr, ds) := if_neg (by show ¬ kD x0 T = 0; rw [eK]; decide)
      refine lv_astore_n (lv' := [(3, .ref q9), (0, .ref x), (1, .int x0), (2, .ref o)]) hx hb dL_draw_12 rfl hl (by decide) rfl (fun ls hl => ?_)
      refine lv_iconst (v := nI 1) hx hb dL_draw_13 (by decide) ?_
      refine W.widen (k := 4) (n := 30) (Nat.le_of_ble_eq_true rfl) (Nat.le_of_ble_eq_true rfl) ?_
      exact vx_ret (W.iret (v := nI 1) hx hb hr (fun t ht hW => ⟨⟨_, (ad, g, f), rfl, ⟨by rw [eK], fun q => absurd (eK.symm.trans q) (by decide), by rw [eZ]; exact hrep⟩, by rw [eZ, ht]; exact hPx, by rw [eZ]; exact hDx⟩, hS.F ht⟩) hS.2.2 dL_draw_14)
    · refine vx_catch hown [⟨0, 9, 12, 13⟩] ⟨0, 9, 15, 15⟩ [] (htab.trans rfl) (fun z hz => (by simp at hz; subst hz; exact Or.inr ⟨by decide, eIA, hts (.classLink RL 13 eIA) (by decide +kernel), hN.1⟩)) (by decide) (by decide) (hts (.classLink RL 15 eIS) (by decide +kernel)) (va_Nw.use rfl hX.1.2.1) hce hcv hcl ?_
      have eK : kD x0 T = 2 := (if_pos (hiB_t hc.1)).trans (if_neg hc.2)
      have eZ : (draZ x0 (T, mo, dr, ds)) = (T, mo, dr, ds) := if_neg (by show ¬ kD x0 T = 0; rw [eK]; decide)
      refine lv_astore_n (lv' := [(3, .ref q9), (0, .ref x), (1, .int x0), (2, .ref o)]) hx hb dL_draw_15 rfl hl (by decide) rfl (fun ls hl => ?_)
      refine lv_iconst (v := nI 2) hx hb dL_draw_16 (by decide) ?_
      refine W.widen (k := 4) (n := 30) (Nat.le_of_ble_eq_true rfl) (Nat.le_of_ble_eq_true rfl) ?_
      exact vx_ret (W.iret (v := nI 2) hx hb hr (fun t ht hW => ⟨⟨_, (ad, g, f), rfl, ⟨by rw [eK], fun q => absurd (eK.symm.trans q) (by decide), by rw [eZ]; exact hrep⟩, by rw [eZ, ht]; exact hPx, by rw [eZ]; exact hDx⟩, hS.F ht⟩) hS.2.2 dL_draw_17)
  · obtain ⟨hPx, -, hDx⟩ := hB
    rw [ht] at hPx
    have hPx := join_P hP hPx hk
    have hDx := join_D (e := oE cJ f) hDx hAo
    have eK : kD x0 T = 0 := (if_pos (hiB_t hpo.1.1)).trans (if_pos hpo.1.2.1)
    have eZ : (draZ x0 (T, mo, dr, ds)) = drawS (kx x0) (T, mo, dr, ds) := if_pos eK
    refine lv_i2l hx hb dL_draw_7 rfl ?_
    refine zr_lst hx hb hK hPx hDx hS dL_draw_8 (fun H locs f1 hf1 hPx hDx hS => ?_)
    refine lv_goto (tgt := 18) hx hb dL_draw_9 (by decide) ?_
    refine lv_iconst (v := nI 0) hx hb dL_draw_18 (by decide) ?_
    refine W.widen (k := 4) (n := 30) (Nat.le_of_ble_eq_true rfl) (Nat.le_of_ble_eq_true rfl) ?_
    exact vx_ret (W.iret (v := nI 0) hx hb hr (fun t ht hW => ⟨⟨_, (u.1, u.2, f1), rfl, ⟨by rw [eK], fun _ => hf1.trans (congrArg Int32.toInt64 (hpo.1.2.2)), by rw [eZ]; exact hpo.2⟩, by rw [eZ, ht]; exact hPx, by rw [eZ]; exact hDx⟩, hS.F ht⟩) hS.2.2 dL_draw_19)

set_option maxHeartbeats 4000000 in
set_option maxRecDepth 100000 in
/-- discharge, caught -/
theorem c_L_discharge (l : Launch) (hst : l.stackTraces = false) {D : va_G} {cA cZ cI cJ : ClassId} {sa : Nat → Nat} {A : Nat → Prop} {x ln o : Nat} {mo dr ds : Int32} {ad : Nat → Nat} {g : Nat → Nd} {T : Tr} {f : Nat → Int64} {x0 : Int32} (hrep : RepC T (keysT T) g) : vx_Met l yL_discharge wsL_discharge ({ frames := 18, cells := 4, slots := 30, locals := 720 } : Room) (PcL sa D (tysA cA cZ cI) A (CWT x ln cA T mo dr ds ad g) o cJ f [.ref x, .int x0, .ref o]) (va_Qi (S := (Nat → Nat) × (Nat → Nd) × (Nat → Int64)) (fun r u => r = nI (kD x0 T) ∧ (kD x0 T = 0 → u.2.2 0 = Int32.toInt64 (b2i (disB (kx x0) (T, mo, dr, ds)))) ∧ RepC (disZ x0 (T, mo, dr, ds)).1 (keysT (disZ x0 (T, mo, dr, ds)).1) u.2.1) (fun u => BL D A (CWT x ln cA (disZ x0 (T, mo, dr, ds)).1 (disZ x0 (T, mo, dr, ds)).2.1 (disZ x0 (T, mo, dr, ds)).2.2.1 (disZ x0 (T, mo, dr, ds)).2.2.2 u.1 u.2.1 ++ [(o, oE cJ u.2.2)])) A) (vx_X (S := Unit) (fun _ => False) (fun _ _ _ => False) (fun _ => False)) 4 30 A := by
  refine vx_ofWH (cc := cL_discharge) (maxL := 4) (ret := some .int) (hh := [(0, 16, 19, 13), (0, 16, 22, 15)]) (by decide) rfl ?_
  intro p e s m args below meth c s₁ B hml hv
  obtain ⟨rfl, hA, hP, hG, hD, hX, hK, hN⟩ := hv
  have hx := B.exec
  have hb := B.bytes
  have hr := B.returns
  have hts := atoms_spec (ws := wsL_discharge) B.pre
  have hown : s.vm.findClass RL = some m.cls := findClass_of_methodNamed B.named
  have hlocks := B.notSynchronized
  have htab := vx_table (x := yL_discharge) B (hts _ List.mem_cons_self)
  have hl := lv_entry ([.ref x, .int x0, .ref o]) (n := 4) (Nat.le_of_ble_eq_true rfl)
  rw [lg_entry_eq]
  generalize (lg_sl ([.ref x, .int x0, .ref o]) ++ List.replicate (4 - (lg_sl ([.ref x, .int x0, .ref o])).length) Slot.unset).toArray = ls at hl ⊢
  have hl : lv_has ls 4 [(0, .ref x), (1, .int x0), (2, .ref o)] := hl
  have hS : va_S A s.heap s.heap [] := va_S.rf
  obtain ⟨hPW, hPo, hol⟩ := last_o hP
  obtain ⟨hDW, hAo⟩ := part_D hD
  have hA1 : ∀ q, s.heap.size ≤ q → A q ∧ q ≠ o := fun q h => ⟨hA q h, by omega⟩
  have hX1 : GX sa (fun q => A q ∧ q ≠ o) s s.heap := hX.narrow (fun q h => h.1)
  have hS1 : va_S (fun q => A q ∧ q ≠ o) s.heap s.heap [] := va_S.rf
  refine lv_aload_n hx hb dL_discharge_0 rfl (lv_at hl 2 rfl) ?_
  refine lv_iconst (v := nI 0) hx hb dL_discharge_1 (by decide) ?_
  refine lv_aload_n hx hb dL_discharge_2 rfl (lv_at hl 0 rfl) ?_
  refine lv_iload_n hx hb dL_discharge_3 rfl (lv_at hl 1 rfl) ?_
  refine vx_calli (vx_runV (As := [.int x0]) (rest := [.int (nI 0), .ref o]) ⟨hx, hb, hml, hown, hts⟩ (c_X1_discharge l hst hrep) (cwV 1 hts gL_discharge_X1_discharge rfl rfl rfl (by decide +kernel) ⟨Nat.le_of_ble_eq_true rfl, Nat.le_of_ble_eq_true rfl⟩) ⟨PcX.blind, va_recv hG.1 hPW (ci := 1) (q0 := 0) rfl cw_x, PcX.at hA1 hS1 hPW hG hDW hX1⟩ rfl rfl hl.1 rfl (lv_room (Nat.le_of_ble_eq_true rfl)) dL_discharge_4 ⟨Nat.le_of_ble_eq_true rfl, Nat.le_of_ble_eq_true rfl⟩) hS (fun q _ h => h.1) (fun q h => h.1) (fun q _ h => h.1) (fun E ce q9 u t H locs ht hvm hpx hbx hbz hk hS hce hcv hcl => ?_) (fun r u t H locs ht hvm hpo hB hbz hk hS => ?_)
  · obtain ⟨hc, hPx, hDx⟩ := hbx
    rw [ht] at hPx
    have hPx := join_P hP hPx hk
    have hDx := join_D (e := oE cJ f) hDx hAo
    rcases hc with ⟨hc, rfl⟩ | ⟨hc, rfl⟩
    · refine vx_catch hown [] ⟨0, 16, 19, 13⟩ [⟨0, 16, 22, 15⟩] (htab.trans rfl) (fun z hz => absurd hz List.not_mem_nil) (by decide) (by decide) (hts (.classLink RL 13 eIA) (by decide +kernel)) (va_Nw.use rfl hX.1.1) hce hcv hcl ?_
      have eK : kD x0 T = 1 := kD_1 (hiB_f hc)
      have eZ : (disZ x0 (T, mo, dr, ds)) = (T, mo, dr, ds) := if_neg (by show ¬ kD x0 T = 0; rw [eK]; decide)
      refine lv_astore_n (lv' := [(3, .ref q9), (0, .ref x), (1, .int x0), (2, .ref o)]) hx hb dL_discharge_19 rfl hl (by decide) rfl (fun ls hl => ?_)
      refine lv_iconst (v := nI 1) hx hb dL_discharge_20 (by decide) ?_
      refine W.widen (k := 4) (n := 30) (Nat.le_of_ble_eq_true rfl) (Nat.le_of_ble_eq_true rfl) ?_
      exact vx_ret (W.iret (v := nI 1) hx hb hr (fun t ht hW => ⟨⟨_, (ad, g, f), rfl, ⟨by rw [eK], fun q => absurd (eK.symm.trans q) (by decide), by rw [eZ]; exact hrep⟩, by rw [eZ, ht]; exact hPx, by rw [eZ]; exact hDx⟩, hS.F ht⟩) hS.2.2 dL_discharge_21)
    · refine vx_catch hown [⟨0, 16, 19, 13⟩] ⟨0, 16, 22, 15⟩ [] (htab.trans rfl) (fun z hz => (by simp at hz; subst hz; exact Or.inr ⟨by decide, eIA, hts (.classLink RL 13 eIA) (by decide +kernel), hN.1⟩)) (by decide) (by decide) (hts (.classLink RL 15 eIS) (by decide +kernel)) (va_Nw.use rfl hX.1.2.1) hce hcv hcl ?_
      have eK : kD x0 T = 2 := (if_pos (hiB_t hc.1)).trans (if_neg hc.2)
      have eZ : (disZ x0 (T, mo, dr, ds)) = (T, mo, dr, ds) := if_neg (by show ¬ kD x0 T = 0; rw [eK]; decide)
      refine lv_astore_n (lv' := [(3, .ref q9), (0, .ref x), (1, .int x0), (2, .ref o)]) hx hb dL_discharge_22 rfl hl (by decide) rfl (fun ls hl => ?_)
      refine lv_iconst (v := nI 2) hx hb dL_discharge_23 (by decide) ?_
      refine W.widen (k := 4) (n := 30) (Nat.le_of_ble_eq_true rfl) (Nat.le_of_ble_eq_true rfl) ?_
      exact vx_ret (W.iret (v := nI 2) hx hb hr (fun t ht hW => ⟨⟨_, (ad, g, f), rfl, ⟨by rw [eK], fun q => absurd (eK.symm.trans q) (by decide), by rw [eZ]; exact hrep⟩, by rw [eZ, ht]; exact hPx, by rw [eZ]; exact hDx⟩, hS.F ht⟩) hS.2.2 dL_discharge_24)
  · obtain ⟨hPx, -, hDx⟩ := hB
    rw [ht] at hPx
    have hPx := join_P hP hPx hk
    have hDx := join_D (e := oE cJ f) hDx hAo
    have eK : kD x0 T = 0 := (if_pos (hiB_t hpo.1.1)).trans (if_pos hpo.1.2.1)
    have eZ : (disZ x0 (T, mo, dr, ds)) = disS (kx x0) (T, mo, dr, ds) := if_pos eK
    refine lv_if_eq (tgt := 14) hx hb dL_discharge_7 (by decide) (fun c7 => ?_) (fun c7 => ?_)
    · refine lv_lconst (v := lN 0) hx hb dL_discharge_14 (by decide) ?_
      refine zr_lst hx hb hK hPx hDx hS dL_discharge_15 (fun H locs f1 hf1 hPx hDx hS => ?_)
      refine lv_goto (tgt := 25) hx hb dL_discharge_16 (by decide) ?_
      refine lv_iconst (v := nI 0) hx hb dL_discharge_25 (by decide) ?_
      refine W.widen (k := 4) (n := 30) (Nat.le_of_ble_eq_true rfl) (Nat.le_of_ble_eq_true rfl) ?_
      exact vx_ret (W.iret (v := nI 0) hx hb hr (fun t ht hW => ⟨⟨_, (u.1, u.2, f1), rfl, ⟨by rw [eK], fun _ => hf1.trans (by have e8 := hpo.1.2.2; rw [e8] at c7; rw [Bool.eq_false_iff.mpr (b2i_eq c7)]; exact (nI_l (by decide)).symm), by rw [eZ]; exact hpo.2⟩, by rw [eZ, ht]; exact hPx, by rw [eZ]; exact hDx⟩, hS.F ht⟩) hS.2.2 dL_discharge_26)
    · refine lv_lconst (v := lN 1) hx hb dL_discharge_10 (by decide) ?_
      refine lv_goto (tgt := 15) hx hb dL_discharge_11 (by decide) ?_
      refine zr_lst hx hb hK hPx hDx hS dL_discharge_15 (fun H locs f1 hf1 hPx hDx hS => ?_)
      refine lv_goto (tgt := 25) hx hb dL_discharge_16 (by decide) ?_
      refine lv_iconst (v := nI 0) hx hb dL_discharge_25 (by decide) ?_
      refine W.widen (k := 4) (n := 30) (Nat.le_of_ble_eq_true rfl) (Nat.le_of_ble_eq_true rfl) ?_
      exact vx_ret (W.iret (v := nI 0) hx hb hr (fun t ht hW => ⟨⟨_, (u.1, u.2, f1), rfl, ⟨by rw [eK], fun _ => hf1.trans (by have e8 := hpo.1.2.2; rw [e8] at c7; rw [b2i_ne c7]; exact (nI_l (by decide)).symm), by rw [eZ]; exact hpo.2⟩, by rw [eZ, ht]; exact hPx, by rw [eZ]; exact hDx⟩, hS.F ht⟩) hS.2.2 dL_discharge_26)

