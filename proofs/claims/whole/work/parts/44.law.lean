/-! THE LAW: both sides at once, step by step -/
/-- both sides stand for the same state -/
def LI (D : va_G) (cA cZ cI cJ : ClassId) (A0 : Nat → Prop) (x ln o : Nat) (M : Nat × Nat × Nat × Nat × Nat × Nat) (S : RS) (H : Heap) : Prop := ∃ (ad : Nat → Nat) (g : Nat → Nd) (f : Nat → Int64) (th : Int32) (E : ME), va_P D vwCl (CWT x ln cA S.1 S.2.1 S.2.2.1 S.2.2.2 ad g ++ [(o, oE cJ f)]) H ∧ va_P D vwCl (mw M cZ cI th (enc (root S.1)) (nI (siz S.1)) S.2.1 S.2.2.1 S.2.2.2 E.1 E.2.1 E.2.2.1 E.2.2.2.1 E.2.2.2.2.1 E.2.2.2.2.2.1 E.2.2.2.2.2.2) H ∧ va_D A0 ((CWT x ln cA S.1 S.2.1 S.2.2.1 S.2.2.2 ad g ++ [(o, oE cJ f)]) ++ mw M cZ cI th (enc (root S.1)) (nI (siz S.1)) S.2.1 S.2.2.1 S.2.2.2 E.1 E.2.1 E.2.2.1 E.2.2.2.1 E.2.2.2.2.1 E.2.2.2.2.2.1 E.2.2.2.2.2.2) ∧ RepC S.1 (keysT S.1) g ∧ RepM S.1 E.2.2.1 E.2.2.2.1 E.2.2.2.2.1
abbrev offA (A : Nat → Prop) (W : va_W) : Nat → Prop := fun q => A q ∧ ∀ z ∈ W, q ≠ z.1
theorem split_D {A : Nat → Prop} {W1 W2 : va_W} (h : va_D A (W1 ++ W2)) : va_D (offA A W2) W1 ∧ va_D (offA A W1) W2 ∧ va_D A W1 ∧ va_D A W2 := by
  rw [va_D.nodup] at h
  obtain ⟨h1, h2⟩ := h
  rw [List.map_append, List.nodup_append] at h1
  obtain ⟨a1, a2, a3⟩ := h1
  refine ⟨va_D.nodup.mpr ⟨a1, fun q hq => ⟨h2 q (List.mem_append_left _ hq), fun z hz => ?_⟩⟩, va_D.nodup.mpr ⟨a2, fun q hq => ⟨h2 q (List.mem_append_right _ hq), fun z hz e => ?_⟩⟩, va_D.nodup.mpr ⟨a1, fun q hq => h2 q (List.mem_append_left _ hq)⟩, va_D.nodup.mpr ⟨a2, fun q hq => h2 q (List.mem_append_right _ hq)⟩⟩
  · exact a3 _ (List.mem_map.mpr ⟨q, hq, rfl⟩) _ (List.mem_map.mpr ⟨z, hz, rfl⟩)
  · exact a3 _ (List.mem_map.mpr ⟨z, hz, rfl⟩) _ (List.mem_map.mpr ⟨q, hq, rfl⟩) e.symm
theorem unite_D {A : Nat → Prop} {W1 W2 : va_W} (h1 : va_D (offA A W2) W1) (h2 : va_D A W2) : va_D A (W1 ++ W2) := by
  rw [va_D.nodup] at h1 h2 ⊢
  rw [List.map_append, List.nodup_append]
  refine ⟨⟨h1.1, h2.1, fun a ha b hb => ?_⟩, fun q hq => ?_⟩
  · obtain ⟨q, hq, rfl⟩ := List.mem_map.mp ha
    obtain ⟨z, hz, rfl⟩ := List.mem_map.mp hb
    exact (h1.2 q hq).2 z hz
  · rcases List.mem_append.mp hq with w | w
    · exact (h1.2 q w).1
    · exact h2.2 q w
theorem unite_D2 {A : Nat → Prop} {W1 W2 : va_W} (h1 : va_D A W1) (h2 : va_D (offA A W1) W2) : va_D A (W1 ++ W2) := by
  rw [va_D.nodup] at h1 h2 ⊢
  rw [List.map_append, List.nodup_append]
  refine ⟨⟨h1.1, h2.1, fun a ha b hb e => ?_⟩, fun q hq => ?_⟩
  · obtain ⟨q, hq, rfl⟩ := List.mem_map.mp ha
    obtain ⟨z, hz, rfl⟩ := List.mem_map.mp hb
    exact (h2.2 z hz).2 q hq e.symm
  · rcases List.mem_append.mp hq with w | w
    · exact h1.2 q w
    · exact (h2.2 q w).1
theorem mem_lt {D : va_G} {W : va_W} {H : Heap} (h : va_P D vwCl W H) : ∀ z ∈ W, z.1 < H.size := fun z hz => by
  obtain ⟨i, hi⟩ := List.getElem?_of_mem hz
  exact (h i z hi).lt
theorem off_new {D : va_G} {W : va_W} {H : Heap} {A : Nat → Prop} (h : va_P D vwCl W H) (hA : ∀ q, H.size ≤ q → A q) : ∀ q, H.size ≤ q → offA A W q := fun q hq => ⟨hA q hq, fun z hz e => by have := mem_lt h z hz; omega⟩
theorem keep_P {D : va_G} {W : va_W} {H H1 : Heap} {A : Nat → Prop} (h : va_P D vwCl W H) (hk : ∀ q : Nat, q < H.size → ¬ offA A W q → H1[q]? = H[q]?) : va_P D vwCl W H1 := h.kept (fun k q hq => hk q.1 ((h k q hq).lt) (fun z => z.2 q (List.mem_of_getElem? hq) rfl))
theorem PcL.at2 {sa : Nat → Nat} {D : va_G} {tys : List (ClassId × FieldType)} {A B : Nat → Prop} {W : va_W} {o : Nat} {cJ : ClassId} {f : Nat → Int64} {av : List Value} {s : State} {H : Heap} {locs : List Loc} (hAB : ∀ q, B q → A q) (hB : ∀ q, H.size ≤ q → B q) (hS : va_S A s.heap H locs) (hP : va_P D vwCl (W ++ [(o, oE cJ f)]) H) (hG : GK D tys s) (hD : va_D B (W ++ [(o, oE cJ f)])) (hX : GX sa A s s.heap) (hK : va_K D vwCl [(cJ, .long)] s) (hN : NcX s) : ∀ U : State, U.heap = H → s.WarmedH U.vm → PcL sa D tys B W o cJ f av av.toArray U := fun U hU hW => ⟨rfl, by rw [hU]; exact hB, by rw [hU]; exact hP, hG.moved hW, hD, (hX.moved hW (fun q h1 h2 => by rw [hU]; exact hS.2.1 q h1 h2)).narrow hAB, va_K.moved hW.alike hK, hN.moved hW.alike⟩
theorem kM_le {x : Int32} {T : Tr} : kM x T ≤ 3 := by unfold kM; split; (· split <;> decide); (· decide)
theorem kD_le {x : Int32} {T : Tr} : kD x T ≤ 3 := by unfold kD; split; (· split <;> decide); (· decide)
theorem kH_le {x : Int32} : kH x ≤ 3 := by unfold kH; split <;> decide
theorem kT_le {x y : Int32} {T : Tr} : kT x y T ≤ 3 := by unfold kT; repeat' split
                                                          all_goals decide
theorem kA_le {x : Int32} {T : Tr} : kA x T ≤ 3 := by unfold kA; repeat' split
                                                      all_goals decide
theorem kB_le {x y : Int32} : kB x y ≤ 3 := by unfold kB; repeat' split
                                               all_goals decide
theorem kC_le {x y : Int32} {T : Tr} : kC x y T ≤ 3 := by unfold kC; repeat' split
                                                          all_goals decide
theorem kQ_le {x : Int32} : kQ x ≤ 3 := by unfold kQ; split <;> decide
theorem k_zero {k : Nat} (hk : k ≤ 3) (h : nI k = 0) : k = 0 := (zr_eq0 (by omega)).mp h
theorem lg_same {x : Int64} : lg_cmp x x = 0 := by
  unfold lg_cmp
  rw [if_neg (fun h => Int64.lt_irrefl h), if_pos rfl]
theorem b2i_long {b : Bool} : (b2i b).toInt64 = if b then 1 else 0 := by cases b <;> rfl
set_option maxHeartbeats 4000000 in
set_option maxRecDepth 100000 in
theorem law_muster {D : va_G} {cA cZ cI cJ : ClassId} {sa : Nat → Nat} {A0 : Nat → Prop} {x ln o : Nat} {M : Nat × Nat × Nat × Nat × Nat × Nat} {b L : Nat} {xs : Nat → Int32} {p : Program} {l : Launch} {e : Env} {R : Room} {s : State} {m : MethodId} {args : Array Value} {below : List Frame} {meth : Method} {c : Code} {Q : State → Prop} (hx : p.tables.exec = Jvm.exec) (hb : c.code = cL_law) (hml : c.maxLocals = 9) (hts : ∀ w ∈ wsL_law, w.before args s = true) (hown : s.vm.findClass RL = some m.cls) (hG : GK D (tysA cA cZ cI) s) (hst : l.stackTraces = false) (hX : GX sa A0 s s.heap) (hKJ : va_K D vwCl [(cJ, .long)] s) (hN : NcX s) (hA0 : ∀ q, s.heap.size ≤ q → A0 q) (hXs : va_X b L xs s s.heap) (hbl : b < s.heap.size) (hbA : ¬ A0 b) (hL : L ≤ 1536) (hR : 300 ≤ R.frames ∧ 12000 ≤ R.locals) {S : RS} {H : Heap} {locs : List Loc} {cells slots i : Nat} (hi : i + 2 < L) (hI : LI D cA cZ cI cJ A0 x ln o M S H) (hS : va_S A0 s.heap H locs) (hc : cells + 12 ≤ R.cells) (hs9 : slots + 94 ≤ R.slots) (kk : ∀ S H locs, LI D cA cZ cI cJ A0 x ln o M S H → va_S A0 s.heap H locs → ∀ ls, lv_has ls 9 [(4, .int (nI i)), (0, .ref b), (1, .ref x), (2, .ref M.1), (3, .ref o)] → W p l e R s m args below meth c H locs (cells + 12) (slots + 94) Q (F0 m 885 ls [])) : ∀ ls, lv_has ls 9 [(4, .int (nI i)), (0, .ref b), (1, .ref x), (2, .ref M.1), (3, .ref o)] → W p l e R s m args below meth c H locs cells slots Q (F0 m 108 ls []) := by
  intro ls hl
  obtain ⟨ad, g, f, th, E, hP, hPm, hDa, hrc, hrm⟩ := hI
  obtain ⟨T, mo, dr, ds⟩ := S
  obtain ⟨hd1, hd2, hd3, hd4⟩ := split_D hDa
  refine lv_aload_n hx hb dL_law_108 rfl (lv_at hl 2 rfl) ?_
  refine lv_aload_n hx hb dL_law_109 rfl (lv_at hl 1 rfl) ?_
  refine lv_iload hx hb dL_law_110 (lv_at hl 0 rfl) ?_
  refine lv_iconst (v := nI 1) hx hb dL_law_112 (by decide) ?_
  refine lv_iadd hx hb dL_law_113 ?_
  refine zr_eqi (nI_add i 1) ?_
  refine va_sld hx hb hXs hbl hbA hS (i := nI (i + 1)) (nI_in (by omega) (by omega)) dL_law_114 ?_
  refine zr_eqi (congrArg xs (nI_clamp (by omega))) ?_
  refine lv_aload_n hx hb dL_law_115 rfl (lv_at hl 4 rfl) ?_
  refine vx_calli (vx_runSX (As := [.ref x, .int (xs (i + 1)), .ref o]) (rest := []) ⟨hx, hb, hml, hown, hts⟩ (c_L_muster l hst hrc) (vx_cwSW 3 hts gL_law_L_muster rfl rfl rfl (by decide +kernel) ⟨Nat.le_trans (Nat.le_of_ble_eq_true rfl) hR.1, Nat.le_trans (Nat.le_of_ble_eq_true rfl) hR.2⟩) ⟨PcL.blind, PcL.at2 (fun q h => h.1) (off_new hPm (fun q h => hA0 q (Nat.le_trans hS.1 h))) hS hP hG hd1 hX hKJ hN⟩ rfl rfl hl.1 rfl (lv_room (Nat.le_of_ble_eq_true rfl)) dL_law_116 ⟨by omega, by omega⟩) hS (fun q _ h => h.1) (fun q h => h.1) (fun q _ h => h.elim) (fun E ce q9 u t H locs ht hvm hpx hbx hbz hk hS hce hcv hcl => hpx.elim) (fun r u t H locs ht hvm hpo hB hbz hk hS => ?_)
  obtain ⟨hP, hD1⟩ := hB
  rw [ht] at hP
  obtain ⟨rfl, hf0, hrc⟩ := hpo
  have hPm := keep_P hPm hk
  have hDa := unite_D hD1 hd4
  obtain ⟨hd1, hd2, hd3, hd4⟩ := split_D hDa
  refine lv_istore (lv' := [(5, .int (nI (kM (xs (i + 1)) T))), (4, .int (nI i)), (0, .ref b), (1, .ref x), (2, .ref M.1), (3, .ref o)]) hx hb dL_law_119 hl (by decide) rfl (fun ls hl => ?_)
  refine lv_aload_n hx hb dL_law_121 rfl (lv_at hl 4 rfl) ?_
  refine lv_aload_n hx hb dL_law_122 rfl (lv_at hl 2 rfl) ?_
  refine lv_iload hx hb dL_law_123 (lv_at hl 1 rfl) ?_
  refine lv_iconst (v := nI 1) hx hb dL_law_125 (by decide) ?_
  refine lv_iadd hx hb dL_law_126 ?_
  refine zr_eqi (nI_add i 1) ?_
  refine va_sld hx hb hXs hbl hbA hS (i := nI (i + 1)) (nI_in (by omega) (by omega)) dL_law_127 ?_
  refine zr_eqi (congrArg xs (nI_clamp (by omega))) ?_
  refine va_calli (va_runV (As := [.int (xs (i + 1))]) (rest := []) ⟨hx, hb, hml, hown, hts⟩ (c_X2_muster l hrm) (cwV 1 hts gL_law_X2_muster rfl rfl rfl (by decide +kernel) ⟨Nat.le_trans (Nat.le_of_ble_eq_true rfl) hR.1, Nat.le_trans (Nat.le_of_ble_eq_true rfl) hR.2⟩) ⟨PcM.blind, va_recv hG.1 hPm (ci := 2) (q0 := 0) rfl mw_m, PcM.at (off_new hP (fun q h => hA0 q (Nat.le_trans hS.1 h))) hPm hG hd2⟩ rfl rfl hl.1 rfl (lv_room (Nat.le_of_ble_eq_true rfl)) dL_law_128 ⟨by omega, by omega⟩) hS (fun q _ h => h.1) (fun q h => h.1) (fun r6 E2 t H locs ht hvm hpo hB hbz hk hS => ?_)
  obtain ⟨hPm, -, hD2⟩ := hB
  rw [ht] at hPm
  obtain ⟨hr6, hrm⟩ := hpo
  have hP := keep_P hP hk
  have hDa := unite_D2 hd3 hD2
  refine lv_istore (lv' := [(6, .int r6), (5, .int (nI (kM (xs (i + 1)) T))), (4, .int (nI i)), (0, .ref b), (1, .ref x), (2, .ref M.1), (3, .ref o)]) hx hb dL_law_131 hl (by decide) rfl (fun ls hl => ?_)
  refine lv_aload_n hx hb dL_law_133 rfl (lv_at hl 5 rfl) ?_
  refine vp_callSi (va_Run.run (va_runV (As := []) (rest := []) ⟨hx, hb, hml, hown, hts⟩ (c_X2_thrown l) (cwV 0 hts gL_law_X2_thrown rfl rfl rfl (by decide +kernel) ⟨Nat.le_trans (Nat.le_of_ble_eq_true rfl) hR.1, Nat.le_trans (Nat.le_of_ble_eq_true rfl) hR.2⟩) ⟨PcR.blind, va_recv hG.1 hPm (ci := 2) (q0 := 0) rfl mw_m, PcR.at hPm hG⟩ rfl rfl hl.1 rfl (lv_room (Nat.le_of_ble_eq_true rfl)) dL_law_134 ⟨by omega, by omega⟩)) (fun r qT => ?_)
  subst qT
  refine lv_iload hx hb dL_law_137 (lv_at hl 1 rfl) ?_
  refine lv_icmp_eq (tgt := 144) hx hb dL_law_139 (by decide) (fun c139 => ?_) (fun c139 => ?_)
  · refine lv_iload hx hb dL_law_144 (lv_at hl 1 rfl) ?_
    refine lv_if_ne (tgt := 161) hx hb dL_law_146 (by decide) (fun c146 => ?_) (fun c146 => ?_)
    · refine lv_goto (tgt := 885) hx hb dL_law_161 (by decide) ?_
      refine W.widen (k := cells + 12) (n := slots + 94) (by omega) (by omega) ?_
      exact kk (musZ (xs (i + 1)) (T, mo, dr, ds)) H locs ⟨u.1, u.2.1, u.2.2, _, E2, hP, hPm, hDa, hrc, hrm⟩ hS _ (lv_sub hl [2, 3, 4, 5, 6] rfl)
    · have hk0 : kM (xs (i + 1)) T = 0 := k_zero kM_le c146
      have e6 := hr6 hk0
      subst e6
      have ef := hf0 hk0
      refine lv_aload_n hx hb dL_law_149 rfl (lv_at hl 6 rfl) ?_
      refine lv_iconst (v := nI 0) hx hb dL_law_150 (by decide) ?_
      refine va_lald hx hb hKJ hP (CWT x ln cA (musZ (xs (i + 1)) (T, mo, dr, ds)).1 (musZ (xs (i + 1)) (T, mo, dr, ds)).2.1 (musZ (xs (i + 1)) (T, mo, dr, ds)).2.2.1 (musZ (xs (i + 1)) (T, mo, dr, ds)).2.2.2 u.1 u.2.1).length 0 (cA := cJ) (n := 1) (f := u.2.2) (by simp) rfl (nI_in (by decide) (by decide)) dL_law_151 ?_
      rw [nI_clamp (show 0 < 2 ^ 31 by decide), ef]
      refine lv_iload hx hb dL_law_152 (lv_at hl 0 rfl) ?_
      refine lv_i2l hx hb dL_law_154 rfl ?_
      refine zr_lcmp hx hb dL_law_155 ?_
      rw [lg_same]
      refine lv_if_eq (tgt := 161) hx hb dL_law_156 (by decide) (fun c156 => ?_) (fun c156 => ?_)
      · refine lv_goto (tgt := 885) hx hb dL_law_161 (by decide) ?_
        refine W.widen (k := cells + 12) (n := slots + 94) (by omega) (by omega) ?_
        exact kk (musZ (xs (i + 1)) (T, mo, dr, ds)) H locs ⟨u.1, u.2.1, u.2.2, _, E2, hP, hPm, hDa, hrc, hrm⟩ hS _ (lv_sub hl [2, 3, 4, 5, 6] rfl)
      · exact absurd rfl c156
  · exact absurd rfl c139

set_option maxHeartbeats 4000000 in
set_option maxRecDepth 100000 in
theorem law_discharge {D : va_G} {cA cZ cI cJ : ClassId} {sa : Nat → Nat} {A0 : Nat → Prop} {x ln o : Nat} {M : Nat × Nat × Nat × Nat × Nat × Nat} {b L : Nat} {xs : Nat → Int32} {p : Program} {l : Launch} {e : Env} {R : Room} {s : State} {m : MethodId} {args : Array Value} {below : List Frame} {meth : Method} {c : Code} {Q : State → Prop} (hx : p.tables.exec = Jvm.exec) (hb : c.code = cL_law) (hml : c.maxLocals = 9) (hts : ∀ w ∈ wsL_law, w.before args s = true) (hown : s.vm.findClass RL = some m.cls) (hG : GK D (tysA cA cZ cI) s) (hst : l.stackTraces = false) (hX : GX sa A0 s s.heap) (hKJ : va_K D vwCl [(cJ, .long)] s) (hN : NcX s) (hA0 : ∀ q, s.heap.size ≤ q → A0 q) (hXs : va_X b L xs s s.heap) (hbl : b < s.heap.size) (hbA : ¬ A0 b) (hL : L ≤ 1536) (hR : 300 ≤ R.frames ∧ 12000 ≤ R.locals) {S : RS} {H : Heap} {locs : List Loc} {cells slots i : Nat} (hi : i + 2 < L) (hI : LI D cA cZ cI cJ A0 x ln o M S H) (hS : va_S A0 s.heap H locs) (hc : cells + 12 ≤ R.cells) (hs9 : slots + 94 ≤ R.slots) (kk : ∀ S H locs, LI D cA cZ cI cJ A0 x ln o M S H → va_S A0 s.heap H locs → ∀ ls, lv_has ls 9 [(4, .int (nI i)), (0, .ref b), (1, .ref x), (2, .ref M.1), (3, .ref o)] → W p l e R s m args below meth c H locs (cells + 12) (slots + 94) Q (F0 m 885 ls [])) : ∀ ls, lv_has ls 9 [(4, .int (nI i)), (0, .ref b), (1, .ref x), (2, .ref M.1), (3, .ref o)] → W p l e R s m args below meth c H locs cells slots Q (F0 m 164 ls []) := by
  intro ls hl
  obtain ⟨ad, g, f, th, E, hP, hPm, hDa, hrc, hrm⟩ := hI
  obtain ⟨T, mo, dr, ds⟩ := S
  obtain ⟨hd1, hd2, hd3, hd4⟩ := split_D hDa
  refine lv_aload_n hx hb dL_law_164 rfl (lv_at hl 2 rfl) ?_
  refine lv_aload_n hx hb dL_law_165 rfl (lv_at hl 1 rfl) ?_
  refine lv_iload hx hb dL_law_166 (lv_at hl 0 rfl) ?_
  refine lv_iconst (v := nI 1) hx hb dL_law_168 (by decide) ?_
  refine lv_iadd hx hb dL_law_169 ?_
  refine zr_eqi (nI_add i 1) ?_
  refine va_sld hx hb hXs hbl hbA hS (i := nI (i + 1)) (nI_in (by omega) (by omega)) dL_law_170 ?_
  refine zr_eqi (congrArg xs (nI_clamp (by omega))) ?_
  refine lv_aload_n hx hb dL_law_171 rfl (lv_at hl 4 rfl) ?_
  refine vx_calli (vx_runSX (As := [.ref x, .int (xs (i + 1)), .ref o]) (rest := []) ⟨hx, hb, hml, hown, hts⟩ (c_L_discharge l hst hrc) (vx_cwSW 3 hts gL_law_L_discharge rfl rfl rfl (by decide +kernel) ⟨Nat.le_trans (Nat.le_of_ble_eq_true rfl) hR.1, Nat.le_trans (Nat.le_of_ble_eq_true rfl) hR.2⟩) ⟨PcL.blind, PcL.at2 (fun q h => h.1) (off_new hPm (fun q h => hA0 q (Nat.le_trans hS.1 h))) hS hP hG hd1 hX hKJ hN⟩ rfl rfl hl.1 rfl (lv_room (Nat.le_of_ble_eq_true rfl)) dL_law_172 ⟨by omega, by omega⟩) hS (fun q _ h => h.1) (fun q h => h.1) (fun q _ h => h.elim) (fun E ce q9 u t H locs ht hvm hpx hbx hbz hk hS hce hcv hcl => hpx.elim) (fun r u t H locs ht hvm hpo hB hbz hk hS => ?_)
  obtain ⟨hP, hD1⟩ := hB
  rw [ht] at hP
  obtain ⟨rfl, hf0, hrc⟩ := hpo
  have hPm := keep_P hPm hk
  have hDa := unite_D hD1 hd4
  obtain ⟨hd1, hd2, hd3, hd4⟩ := split_D hDa
  refine lv_istore (lv' := [(5, .int (nI (kD (xs (i + 1)) T))), (4, .int (nI i)), (0, .ref b), (1, .ref x), (2, .ref M.1), (3, .ref o)]) hx hb dL_law_175 hl (by decide) rfl (fun ls hl => ?_)
  refine lv_aload_n hx hb dL_law_177 rfl (lv_at hl 4 rfl) ?_
  refine lv_aload_n hx hb dL_law_178 rfl (lv_at hl 2 rfl) ?_
  refine lv_iload hx hb dL_law_179 (lv_at hl 1 rfl) ?_
  refine lv_iconst (v := nI 1) hx hb dL_law_181 (by decide) ?_
  refine lv_iadd hx hb dL_law_182 ?_
  refine zr_eqi (nI_add i 1) ?_
  refine va_sld hx hb hXs hbl hbA hS (i := nI (i + 1)) (nI_in (by omega) (by omega)) dL_law_183 ?_
  refine zr_eqi (congrArg xs (nI_clamp (by omega))) ?_
  refine va_calli (va_runV (As := [.int (xs (i + 1))]) (rest := []) ⟨hx, hb, hml, hown, hts⟩ (c_X2_discharge l hrm) (cwV 1 hts gL_law_X2_discharge rfl rfl rfl (by decide +kernel) ⟨Nat.le_trans (Nat.le_of_ble_eq_true rfl) hR.1, Nat.le_trans (Nat.le_of_ble_eq_true rfl) hR.2⟩) ⟨PcM.blind, va_recv hG.1 hPm (ci := 2) (q0 := 0) rfl mw_m, PcM.at (off_new hP (fun q h => hA0 q (Nat.le_trans hS.1 h))) hPm hG hd2⟩ rfl rfl hl.1 rfl (lv_room (Nat.le_of_ble_eq_true rfl)) dL_law_184 ⟨by omega, by omega⟩) hS (fun q _ h => h.1) (fun q h => h.1) (fun r6 E2 t H locs ht hvm hpo hB hbz hk hS => ?_)
  obtain ⟨hPm, -, hD2⟩ := hB
  rw [ht] at hPm
  obtain ⟨hr6, hrm⟩ := hpo
  have hP := keep_P hP hk
  have hDa := unite_D2 hd3 hD2
  refine lv_istore (lv' := [(6, .int r6), (5, .int (nI (kD (xs (i + 1)) T))), (4, .int (nI i)), (0, .ref b), (1, .ref x), (2, .ref M.1), (3, .ref o)]) hx hb dL_law_187 hl (by decide) rfl (fun ls hl => ?_)
  refine lv_aload_n hx hb dL_law_189 rfl (lv_at hl 5 rfl) ?_
  refine vp_callSi (va_Run.run (va_runV (As := []) (rest := []) ⟨hx, hb, hml, hown, hts⟩ (c_X2_thrown l) (cwV 0 hts gL_law_X2_thrown rfl rfl rfl (by decide +kernel) ⟨Nat.le_trans (Nat.le_of_ble_eq_true rfl) hR.1, Nat.le_trans (Nat.le_of_ble_eq_true rfl) hR.2⟩) ⟨PcR.blind, va_recv hG.1 hPm (ci := 2) (q0 := 0) rfl mw_m, PcR.at hPm hG⟩ rfl rfl hl.1 rfl (lv_room (Nat.le_of_ble_eq_true rfl)) dL_law_190 ⟨by omega, by omega⟩)) (fun r qT => ?_)
  subst qT
  refine lv_iload hx hb dL_law_193 (lv_at hl 1 rfl) ?_
  refine lv_icmp_eq (tgt := 200) hx hb dL_law_195 (by decide) (fun c195 => ?_) (fun c195 => ?_)
  · refine lv_iload hx hb dL_law_200 (lv_at hl 1 rfl) ?_
    refine lv_if_ne (tgt := 224) hx hb dL_law_202 (by decide) (fun c202 => ?_) (fun c202 => ?_)
    · refine lv_goto (tgt := 885) hx hb dL_law_224 (by decide) ?_
      refine W.widen (k := cells + 12) (n := slots + 94) (by omega) (by omega) ?_
      exact kk (disZ (xs (i + 1)) (T, mo, dr, ds)) H locs ⟨u.1, u.2.1, u.2.2, _, E2, hP, hPm, hDa, hrc, hrm⟩ hS _ (lv_sub hl [2, 3, 4, 5, 6] rfl)
    · have hk0 : kD (xs (i + 1)) T = 0 := k_zero kD_le c202
      have e6 := hr6 hk0
      subst e6
      have ef := hf0 hk0
      refine lv_aload_n hx hb dL_law_205 rfl (lv_at hl 6 rfl) ?_
      refine lv_iconst (v := nI 0) hx hb dL_law_206 (by decide) ?_
      refine va_lald hx hb hKJ hP (CWT x ln cA (disZ (xs (i + 1)) (T, mo, dr, ds)).1 (disZ (xs (i + 1)) (T, mo, dr, ds)).2.1 (disZ (xs (i + 1)) (T, mo, dr, ds)).2.2.1 (disZ (xs (i + 1)) (T, mo, dr, ds)).2.2.2 u.1 u.2.1).length 0 (cA := cJ) (n := 1) (f := u.2.2) (by simp) rfl (nI_in (by decide) (by decide)) dL_law_207 ?_
      rw [nI_clamp (show 0 < 2 ^ 31 by decide), ef]
      refine lv_iload hx hb dL_law_208 (lv_at hl 0 rfl) ?_
      refine lv_if_eq (tgt := 217) hx hb dL_law_210 (by decide) (fun cb => ?_) (fun cb => ?_)
      · rw [b2i_long, if_neg (b2i_eq cb)]
        refine lv_lconst (v := 0) hx hb dL_law_217 (by decide) ?_
        refine zr_lcmp hx hb dL_law_218 ?_
        rw [lg_same]
        refine lv_if_eq (tgt := 224) hx hb dL_law_219 (by decide) (fun c219 => ?_) (fun c219 => ?_)
        · refine lv_goto (tgt := 885) hx hb dL_law_224 (by decide) ?_
          refine W.widen (k := cells + 12) (n := slots + 94) (by omega) (by omega) ?_
          exact kk (disZ (xs (i + 1)) (T, mo, dr, ds)) H locs ⟨u.1, u.2.1, u.2.2, _, E2, hP, hPm, hDa, hrc, hrm⟩ hS _ (lv_sub hl [2, 3, 4, 5, 6] rfl)
        · exact absurd rfl c219
      · rw [b2i_long, if_pos (b2i_ne cb)]
        refine lv_lconst (v := 1) hx hb dL_law_213 (by decide) ?_
        refine lv_goto (tgt := 218) hx hb dL_law_214 (by decide) ?_
        refine zr_lcmp hx hb dL_law_218 ?_
        rw [lg_same]
        refine lv_if_eq (tgt := 224) hx hb dL_law_219 (by decide) (fun c219 => ?_) (fun c219 => ?_)
        · refine lv_goto (tgt := 885) hx hb dL_law_224 (by decide) ?_
          refine W.widen (k := cells + 12) (n := slots + 94) (by omega) (by omega) ?_
          exact kk (disZ (xs (i + 1)) (T, mo, dr, ds)) H locs ⟨u.1, u.2.1, u.2.2, _, E2, hP, hPm, hDa, hrc, hrm⟩ hS _ (lv_sub hl [2, 3, 4, 5, 6] rfl)
        · exact absurd rfl c219
  · exact absurd rfl c195

set_option maxHeartbeats 4000000 in
set_option maxRecDepth 100000 in
theorem law_draw {D : va_G} {cA cZ cI cJ : ClassId} {sa : Nat → Nat} {A0 : Nat → Prop} {x ln o : Nat} {M : Nat × Nat × Nat × Nat × Nat × Nat} {b L : Nat} {xs : Nat → Int32} {p : Program} {l : Launch} {e : Env} {R : Room} {s : State} {m : MethodId} {args : Array Value} {below : List Frame} {meth : Method} {c : Code} {Q : State → Prop} (hx : p.tables.exec = Jvm.exec) (hb : c.code = cL_law) (hml : c.maxLocals = 9) (hts : ∀ w ∈ wsL_law, w.before args s = true) (hown : s.vm.findClass RL = some m.cls) (hG : GK D (tysA cA cZ cI) s) (hst : l.stackTraces = false) (hX : GX sa A0 s s.heap) (hKJ : va_K D vwCl [(cJ, .long)] s) (hN : NcX s) (hA0 : ∀ q, s.heap.size ≤ q → A0 q) (hXs : va_X b L xs s s.heap) (hbl : b < s.heap.size) (hbA : ¬ A0 b) (hL : L ≤ 1536) (hR : 300 ≤ R.frames ∧ 12000 ≤ R.locals) {S : RS} {H : Heap} {locs : List Loc} {cells slots i : Nat} (hi : i + 2 < L) (hI : LI D cA cZ cI cJ A0 x ln o M S H) (hS : va_S A0 s.heap H locs) (hc : cells + 12 ≤ R.cells) (hs9 : slots + 94 ≤ R.slots) (kk : ∀ S H locs, LI D cA cZ cI cJ A0 x ln o M S H → va_S A0 s.heap H locs → ∀ ls, lv_has ls 9 [(4, .int (nI i)), (0, .ref b), (1, .ref x), (2, .ref M.1), (3, .ref o)] → W p l e R s m args below meth c H locs (cells + 12) (slots + 94) Q (F0 m 885 ls [])) : ∀ ls, lv_has ls 9 [(4, .int (nI i)), (0, .ref b), (1, .ref x), (2, .ref M.1), (3, .ref o)] → W p l e R s m args below meth c H locs cells slots Q (F0 m 227 ls []) := by
  intro ls hl
  obtain ⟨ad, g, f, th, E, hP, hPm, hDa, hrc, hrm⟩ := hI
  obtain ⟨T, mo, dr, ds⟩ := S
  obtain ⟨hd1, hd2, hd3, hd4⟩ := split_D hDa
  refine lv_aload_n hx hb dL_law_227 rfl (lv_at hl 2 rfl) ?_
  refine lv_aload_n hx hb dL_law_228 rfl (lv_at hl 1 rfl) ?_
  refine lv_iload hx hb dL_law_229 (lv_at hl 0 rfl) ?_
  refine lv_iconst (v := nI 1) hx hb dL_law_231 (by decide) ?_
  refine lv_iadd hx hb dL_law_232 ?_
  refine zr_eqi (nI_add i 1) ?_
  refine va_sld hx hb hXs hbl hbA hS (i := nI (i + 1)) (nI_in (by omega) (by omega)) dL_law_233 ?_
  refine zr_eqi (congrArg xs (nI_clamp (by omega))) ?_
  refine lv_aload_n hx hb dL_law_234 rfl (lv_at hl 4 rfl) ?_
  refine vx_calli (vx_runSX (As := [.ref x, .int (xs (i + 1)), .ref o]) (rest := []) ⟨hx, hb, hml, hown, hts⟩ (c_L_draw l hst hrc) (vx_cwSW 3 hts gL_law_L_draw rfl rfl rfl (by decide +kernel) ⟨Nat.le_trans (Nat.le_of_ble_eq_true rfl) hR.1, Nat.le_trans (Nat.le_of_ble_eq_true rfl) hR.2⟩) ⟨PcL.blind, PcL.at2 (fun q h => h.1) (off_new hPm (fun q h => hA0 q (Nat.le_trans hS.1 h))) hS hP hG hd1 hX hKJ hN⟩ rfl rfl hl.1 rfl (lv_room (Nat.le_of_ble_eq_true rfl)) dL_law_235 ⟨by omega, by omega⟩) hS (fun q _ h => h.1) (fun q h => h.1) (fun q _ h => h.elim) (fun E ce q9 u t H locs ht hvm hpx hbx hbz hk hS hce hcv hcl => hpx.elim) (fun r u t H locs ht hvm hpo hB hbz hk hS => ?_)
  obtain ⟨hP, hD1⟩ := hB
  rw [ht] at hP
  obtain ⟨rfl, hf0, hrc⟩ := hpo
  have hPm := keep_P hPm hk
  have hDa := unite_D hD1 hd4
  obtain ⟨hd1, hd2, hd3, hd4⟩ := split_D hDa
  refine lv_istore (lv' := [(5, .int (nI (kD (xs (i + 1)) T))), (4, .int (nI i)), (0, .ref b), (1, .ref x), (2, .ref M.1), (3, .ref o)]) hx hb dL_law_238 hl (by decide) rfl (fun ls hl => ?_)
  refine lv_aload_n hx hb dL_law_240 rfl (lv_at hl 4 rfl) ?_
  refine lv_aload_n hx hb dL_law_241 rfl (lv_at hl 2 rfl) ?_
  refine lv_iload hx hb dL_law_242 (lv_at hl 1 rfl) ?_
  refine lv_iconst (v := nI 1) hx hb dL_law_244 (by decide) ?_
  refine lv_iadd hx hb dL_law_245 ?_
  refine zr_eqi (nI_add i 1) ?_
  refine va_sld hx hb hXs hbl hbA hS (i := nI (i + 1)) (nI_in (by omega) (by omega)) dL_law_246 ?_
  refine zr_eqi (congrArg xs (nI_clamp (by omega))) ?_
  refine va_calli (va_runV (As := [.int (xs (i + 1))]) (rest := []) ⟨hx, hb, hml, hown, hts⟩ (c_X2_draw l hrm) (cwV 1 hts gL_law_X2_draw rfl rfl rfl (by decide +kernel) ⟨Nat.le_trans (Nat.le_of_ble_eq_true rfl) hR.1, Nat.le_trans (Nat.le_of_ble_eq_true rfl) hR.2⟩) ⟨PcM.blind, va_recv hG.1 hPm (ci := 2) (q0 := 0) rfl mw_m, PcM.at (off_new hP (fun q h => hA0 q (Nat.le_trans hS.1 h))) hPm hG hd2⟩ rfl rfl hl.1 rfl (lv_room (Nat.le_of_ble_eq_true rfl)) dL_law_247 ⟨by omega, by omega⟩) hS (fun q _ h => h.1) (fun q h => h.1) (fun r6 E2 t H locs ht hvm hpo hB hbz hk hS => ?_)
  obtain ⟨hPm, -, hD2⟩ := hB
  rw [ht] at hPm
  obtain ⟨hr6, hrm⟩ := hpo
  have hP := keep_P hP hk
  have hDa := unite_D2 hd3 hD2
  refine lv_istore (lv' := [(6, .int r6), (5, .int (nI (kD (xs (i + 1)) T))), (4, .int (nI i)), (0, .ref b), (1, .ref x), (2, .ref M.1), (3, .ref o)]) hx hb dL_law_250 hl (by decide) rfl (fun ls hl => ?_)
  refine lv_aload_n hx hb dL_law_252 rfl (lv_at hl 5 rfl) ?_
  refine vp_callSi (va_Run.run (va_runV (As := []) (rest := []) ⟨hx, hb, hml, hown, hts⟩ (c_X2_thrown l) (cwV 0 hts gL_law_X2_thrown rfl rfl rfl (by decide +kernel) ⟨Nat.le_trans (Nat.le_of_ble_eq_true rfl) hR.1, Nat.le_trans (Nat.le_of_ble_eq_true rfl) hR.2⟩) ⟨PcR.blind, va_recv hG.1 hPm (ci := 2) (q0 := 0) rfl mw_m, PcR.at hPm hG⟩ rfl rfl hl.1 rfl (lv_room (Nat.le_of_ble_eq_true rfl)) dL_law_253 ⟨by omega, by omega⟩)) (fun r qT => ?_)
  subst qT
  refine lv_iload hx hb dL_law_256 (lv_at hl 1 rfl) ?_
  refine lv_icmp_eq (tgt := 263) hx hb dL_law_258 (by decide) (fun c258 => ?_) (fun c258 => ?_)
  · refine lv_iload hx hb dL_law_263 (lv_at hl 1 rfl) ?_
    refine lv_if_ne (tgt := 280) hx hb dL_law_265 (by decide) (fun c265 => ?_) (fun c265 => ?_)
    · refine lv_goto (tgt := 885) hx hb dL_law_280 (by decide) ?_
      refine W.widen (k := cells + 12) (n := slots + 94) (by omega) (by omega) ?_
      exact kk (draZ (xs (i + 1)) (T, mo, dr, ds)) H locs ⟨u.1, u.2.1, u.2.2, _, E2, hP, hPm, hDa, hrc, hrm⟩ hS _ (lv_sub hl [2, 3, 4, 5, 6] rfl)
    · have hk0 : kD (xs (i + 1)) T = 0 := k_zero kD_le c265
      have e6 := hr6 hk0
      subst e6
      have ef := hf0 hk0
      refine lv_aload_n hx hb dL_law_268 rfl (lv_at hl 6 rfl) ?_
      refine lv_iconst (v := nI 0) hx hb dL_law_269 (by decide) ?_
      refine va_lald hx hb hKJ hP (CWT x ln cA (draZ (xs (i + 1)) (T, mo, dr, ds)).1 (draZ (xs (i + 1)) (T, mo, dr, ds)).2.1 (draZ (xs (i + 1)) (T, mo, dr, ds)).2.2.1 (draZ (xs (i + 1)) (T, mo, dr, ds)).2.2.2 u.1 u.2.1).length 0 (cA := cJ) (n := 1) (f := u.2.2) (by simp) rfl (nI_in (by decide) (by decide)) dL_law_270 ?_
      rw [nI_clamp (show 0 < 2 ^ 31 by decide), ef]
      refine lv_iload hx hb dL_law_271 (lv_at hl 0 rfl) ?_
      refine lv_i2l hx hb dL_law_273 rfl ?_
      refine zr_lcmp hx hb dL_law_274 ?_
      rw [lg_same]
      refine lv_if_eq (tgt := 280) hx hb dL_law_275 (by decide) (fun c275 => ?_) (fun c275 => ?_)
      · refine lv_goto (tgt := 885) hx hb dL_law_280 (by decide) ?_
        refine W.widen (k := cells + 12) (n := slots + 94) (by omega) (by omega) ?_
        exact kk (draZ (xs (i + 1)) (T, mo, dr, ds)) H locs ⟨u.1, u.2.1, u.2.2, _, E2, hP, hPm, hDa, hrc, hrm⟩ hS _ (lv_sub hl [2, 3, 4, 5, 6] rfl)
      · exact absurd rfl c275
  · exact absurd rfl c258

set_option maxHeartbeats 4000000 in
set_option maxRecDepth 100000 in
theorem law_isThere {D : va_G} {cA cZ cI cJ : ClassId} {sa : Nat → Nat} {A0 : Nat → Prop} {x ln o : Nat} {M : Nat × Nat × Nat × Nat × Nat × Nat} {b L : Nat} {xs : Nat → Int32} {p : Program} {l : Launch} {e : Env} {R : Room} {s : State} {m : MethodId} {args : Array Value} {below : List Frame} {meth : Method} {c : Code} {Q : State → Prop} (hx : p.tables.exec = Jvm.exec) (hb : c.code = cL_law) (hml : c.maxLocals = 9) (hts : ∀ w ∈ wsL_law, w.before args s = true) (hown : s.vm.findClass RL = some m.cls) (hG : GK D (tysA cA cZ cI) s) (hst : l.stackTraces = false) (hX : GX sa A0 s s.heap) (hKJ : va_K D vwCl [(cJ, .long)] s) (hN : NcX s) (hA0 : ∀ q, s.heap.size ≤ q → A0 q) (hXs : va_X b L xs s s.heap) (hbl : b < s.heap.size) (hbA : ¬ A0 b) (hL : L ≤ 1536) (hR : 300 ≤ R.frames ∧ 12000 ≤ R.locals) {S : RS} {H : Heap} {locs : List Loc} {cells slots i : Nat} (hi : i + 2 < L) (hI : LI D cA cZ cI cJ A0 x ln o M S H) (hS : va_S A0 s.heap H locs) (hc : cells + 12 ≤ R.cells) (hs9 : slots + 94 ≤ R.slots) (kk : ∀ S H locs, LI D cA cZ cI cJ A0 x ln o M S H → va_S A0 s.heap H locs → ∀ ls, lv_has ls 9 [(4, .int (nI i)), (0, .ref b), (1, .ref x), (2, .ref M.1), (3, .ref o)] → W p l e R s m args below meth c H locs (cells + 12) (slots + 94) Q (F0 m 885 ls [])) : ∀ ls, lv_has ls 9 [(4, .int (nI i)), (0, .ref b), (1, .ref x), (2, .ref M.1), (3, .ref o)] → W p l e R s m args below meth c H locs cells slots Q (F0 m 283 ls []) := by
  intro ls hl
  obtain ⟨ad, g, f, th, E, hP, hPm, hDa, hrc, hrm⟩ := hI
  obtain ⟨T, mo, dr, ds⟩ := S
  obtain ⟨hd1, hd2, hd3, hd4⟩ := split_D hDa
  refine lv_aload_n hx hb dL_law_283 rfl (lv_at hl 2 rfl) ?_
  refine lv_aload_n hx hb dL_law_284 rfl (lv_at hl 1 rfl) ?_
  refine lv_iload hx hb dL_law_285 (lv_at hl 0 rfl) ?_
  refine lv_iconst (v := nI 1) hx hb dL_law_287 (by decide) ?_
  refine lv_iadd hx hb dL_law_288 ?_
  refine zr_eqi (nI_add i 1) ?_
  refine va_sld hx hb hXs hbl hbA hS (i := nI (i + 1)) (nI_in (by omega) (by omega)) dL_law_289 ?_
  refine zr_eqi (congrArg xs (nI_clamp (by omega))) ?_
  refine lv_aload_n hx hb dL_law_290 rfl (lv_at hl 4 rfl) ?_
  refine vx_calli (vx_runSX (As := [.ref x, .int (xs (i + 1)), .ref o]) (rest := []) ⟨hx, hb, hml, hown, hts⟩ (c_L_isThere l hst hrc) (vx_cwSW 3 hts gL_law_L_isThere rfl rfl rfl (by decide +kernel) ⟨Nat.le_trans (Nat.le_of_ble_eq_true rfl) hR.1, Nat.le_trans (Nat.le_of_ble_eq_true rfl) hR.2⟩) ⟨PcL.blind, PcL.at2 (fun q h => h.1) (off_new hPm (fun q h => hA0 q (Nat.le_trans hS.1 h))) hS hP hG hd1 hX hKJ hN⟩ rfl rfl hl.1 rfl (lv_room (Nat.le_of_ble_eq_true rfl)) dL_law_291 ⟨by omega, by omega⟩) hS (fun q _ h => h.1) (fun q h => h.1) (fun q _ h => h.elim) (fun E ce q9 u t H locs ht hvm hpx hbx hbz hk hS hce hcv hcl => hpx.elim) (fun r u t H locs ht hvm hpo hB hbz hk hS => ?_)
  obtain ⟨hP, hD1⟩ := hB
  rw [ht] at hP
  obtain ⟨rfl, hf0, hrc⟩ := hpo
  have hPm := keep_P hPm hk
  have hDa := unite_D hD1 hd4
  obtain ⟨hd1, hd2, hd3, hd4⟩ := split_D hDa
  refine lv_istore (lv' := [(5, .int (nI (kH (xs (i + 1))))), (4, .int (nI i)), (0, .ref b), (1, .ref x), (2, .ref M.1), (3, .ref o)]) hx hb dL_law_294 hl (by decide) rfl (fun ls hl => ?_)
  refine lv_aload_n hx hb dL_law_296 rfl (lv_at hl 4 rfl) ?_
  refine lv_aload_n hx hb dL_law_297 rfl (lv_at hl 2 rfl) ?_
  refine lv_iload hx hb dL_law_298 (lv_at hl 1 rfl) ?_
  refine lv_iconst (v := nI 1) hx hb dL_law_300 (by decide) ?_
  refine lv_iadd hx hb dL_law_301 ?_
  refine zr_eqi (nI_add i 1) ?_
  refine va_sld hx hb hXs hbl hbA hS (i := nI (i + 1)) (nI_in (by omega) (by omega)) dL_law_302 ?_
  refine zr_eqi (congrArg xs (nI_clamp (by omega))) ?_
  refine va_calli (va_runV (As := [.int (xs (i + 1))]) (rest := []) ⟨hx, hb, hml, hown, hts⟩ (c_X2_isThere l hrm) (cwV 1 hts gL_law_X2_isThere rfl rfl rfl (by decide +kernel) ⟨Nat.le_trans (Nat.le_of_ble_eq_true rfl) hR.1, Nat.le_trans (Nat.le_of_ble_eq_true rfl) hR.2⟩) ⟨PcM.blind, va_recv hG.1 hPm (ci := 2) (q0 := 0) rfl mw_m, PcM.at (off_new hP (fun q h => hA0 q (Nat.le_trans hS.1 h))) hPm hG hd2⟩ rfl rfl hl.1 rfl (lv_room (Nat.le_of_ble_eq_true rfl)) dL_law_303 ⟨by omega, by omega⟩) hS (fun q _ h => h.1) (fun q h => h.1) (fun r6 E2 t H locs ht hvm hpo hB hbz hk hS => ?_)
  obtain ⟨hPm, -, hD2⟩ := hB
  rw [ht] at hPm
  obtain ⟨hr6, hrm⟩ := hpo
  have hP := keep_P hP hk
  have hDa := unite_D2 hd3 hD2
  refine lv_istore (lv' := [(6, .int r6), (5, .int (nI (kH (xs (i + 1))))), (4, .int (nI i)), (0, .ref b), (1, .ref x), (2, .ref M.1), (3, .ref o)]) hx hb dL_law_306 hl (by decide) rfl (fun ls hl => ?_)
  refine lv_aload_n hx hb dL_law_308 rfl (lv_at hl 5 rfl) ?_
  refine vp_callSi (va_Run.run (va_runV (As := []) (rest := []) ⟨hx, hb, hml, hown, hts⟩ (c_X2_thrown l) (cwV 0 hts gL_law_X2_thrown rfl rfl rfl (by decide +kernel) ⟨Nat.le_trans (Nat.le_of_ble_eq_true rfl) hR.1, Nat.le_trans (Nat.le_of_ble_eq_true rfl) hR.2⟩) ⟨PcR.blind, va_recv hG.1 hPm (ci := 2) (q0 := 0) rfl mw_m, PcR.at hPm hG⟩ rfl rfl hl.1 rfl (lv_room (Nat.le_of_ble_eq_true rfl)) dL_law_309 ⟨by omega, by omega⟩)) (fun r qT => ?_)
  subst qT
  refine lv_iload hx hb dL_law_312 (lv_at hl 1 rfl) ?_
  refine lv_icmp_eq (tgt := 319) hx hb dL_law_314 (by decide) (fun c314 => ?_) (fun c314 => ?_)
  · refine lv_iload hx hb dL_law_319 (lv_at hl 1 rfl) ?_
    refine lv_if_ne (tgt := 343) hx hb dL_law_321 (by decide) (fun c321 => ?_) (fun c321 => ?_)
    · refine lv_goto (tgt := 885) hx hb dL_law_343 (by decide) ?_
      refine W.widen (k := cells + 12) (n := slots + 94) (by omega) (by omega) ?_
      exact kk (T, mo, dr, ds) H locs ⟨u.1, u.2.1, u.2.2, _, E2, hP, hPm, hDa, hrc, hrm⟩ hS _ (lv_sub hl [2, 3, 4, 5, 6] rfl)
    · have hk0 : kH (xs (i + 1)) = 0 := k_zero kH_le c321
      have e6 := hr6 hk0
      subst e6
      have ef := hf0 hk0
      refine lv_aload_n hx hb dL_law_324 rfl (lv_at hl 6 rfl) ?_
      refine lv_iconst (v := nI 0) hx hb dL_law_325 (by decide) ?_
      refine va_lald hx hb hKJ hP (CWT x ln cA (T, mo, dr, ds).1 (T, mo, dr, ds).2.1 (T, mo, dr, ds).2.2.1 (T, mo, dr, ds).2.2.2 u.1 u.2.1).length 0 (cA := cJ) (n := 1) (f := u.2.2) (by simp) rfl (nI_in (by decide) (by decide)) dL_law_326 ?_
      rw [nI_clamp (show 0 < 2 ^ 31 by decide), ef]
      refine lv_iload hx hb dL_law_327 (lv_at hl 0 rfl) ?_
      refine lv_if_eq (tgt := 336) hx hb dL_law_329 (by decide) (fun cb => ?_) (fun cb => ?_)
      · rw [b2i_long, if_neg (b2i_eq cb)]
        refine lv_lconst (v := 0) hx hb dL_law_336 (by decide) ?_
        refine zr_lcmp hx hb dL_law_337 ?_
        rw [lg_same]
        refine lv_if_eq (tgt := 343) hx hb dL_law_338 (by decide) (fun c338 => ?_) (fun c338 => ?_)
        · refine lv_goto (tgt := 885) hx hb dL_law_343 (by decide) ?_
          refine W.widen (k := cells + 12) (n := slots + 94) (by omega) (by omega) ?_
          exact kk (T, mo, dr, ds) H locs ⟨u.1, u.2.1, u.2.2, _, E2, hP, hPm, hDa, hrc, hrm⟩ hS _ (lv_sub hl [2, 3, 4, 5, 6] rfl)
        · exact absurd rfl c338
      · rw [b2i_long, if_pos (b2i_ne cb)]
        refine lv_lconst (v := 1) hx hb dL_law_332 (by decide) ?_
        refine lv_goto (tgt := 337) hx hb dL_law_333 (by decide) ?_
        refine zr_lcmp hx hb dL_law_337 ?_
        rw [lg_same]
        refine lv_if_eq (tgt := 343) hx hb dL_law_338 (by decide) (fun c338 => ?_) (fun c338 => ?_)
        · refine lv_goto (tgt := 885) hx hb dL_law_343 (by decide) ?_
          refine W.widen (k := cells + 12) (n := slots + 94) (by omega) (by omega) ?_
          exact kk (T, mo, dr, ds) H locs ⟨u.1, u.2.1, u.2.2, _, E2, hP, hPm, hDa, hrc, hrm⟩ hS _ (lv_sub hl [2, 3, 4, 5, 6] rfl)
        · exact absurd rfl c338
  · exact absurd rfl c314

set_option maxHeartbeats 4000000 in
set_option maxRecDepth 100000 in
theorem law_told {D : va_G} {cA cZ cI cJ : ClassId} {sa : Nat → Nat} {A0 : Nat → Prop} {x ln o : Nat} {M : Nat × Nat × Nat × Nat × Nat × Nat} {b L : Nat} {xs : Nat → Int32} {p : Program} {l : Launch} {e : Env} {R : Room} {s : State} {m : MethodId} {args : Array Value} {below : List Frame} {meth : Method} {c : Code} {Q : State → Prop} (hx : p.tables.exec = Jvm.exec) (hb : c.code = cL_law) (hml : c.maxLocals = 9) (hts : ∀ w ∈ wsL_law, w.before args s = true) (hown : s.vm.findClass RL = some m.cls) (hG : GK D (tysA cA cZ cI) s) (hst : l.stackTraces = false) (hX : GX sa A0 s s.heap) (hKJ : va_K D vwCl [(cJ, .long)] s) (hN : NcX s) (hA0 : ∀ q, s.heap.size ≤ q → A0 q) (hXs : va_X b L xs s s.heap) (hbl : b < s.heap.size) (hbA : ¬ A0 b) (hL : L ≤ 1536) (hR : 300 ≤ R.frames ∧ 12000 ≤ R.locals) {S : RS} {H : Heap} {locs : List Loc} {cells slots i : Nat} (hi : i + 2 < L) (hI : LI D cA cZ cI cJ A0 x ln o M S H) (hS : va_S A0 s.heap H locs) (hc : cells + 12 ≤ R.cells) (hs9 : slots + 94 ≤ R.slots) (kk : ∀ S H locs, LI D cA cZ cI cJ A0 x ln o M S H → va_S A0 s.heap H locs → ∀ ls, lv_has ls 9 [(4, .int (nI i)), (0, .ref b), (1, .ref x), (2, .ref M.1), (3, .ref o)] → W p l e R s m args below meth c H locs (cells + 12) (slots + 94) Q (F0 m 885 ls [])) : ∀ ls, lv_has ls 9 [(4, .int (nI i)), (0, .ref b), (1, .ref x), (2, .ref M.1), (3, .ref o)] → W p l e R s m args below meth c H locs cells slots Q (F0 m 346 ls []) := by
  intro ls hl
  obtain ⟨ad, g, f, th, E, hP, hPm, hDa, hrc, hrm⟩ := hI
  obtain ⟨T, mo, dr, ds⟩ := S
  obtain ⟨hd1, hd2, hd3, hd4⟩ := split_D hDa
  refine lv_aload_n hx hb dL_law_346 rfl (lv_at hl 2 rfl) ?_
  refine lv_aload_n hx hb dL_law_347 rfl (lv_at hl 1 rfl) ?_
  refine lv_iload hx hb dL_law_348 (lv_at hl 0 rfl) ?_
  refine lv_iconst (v := nI 1) hx hb dL_law_350 (by decide) ?_
  refine lv_iadd hx hb dL_law_351 ?_
  refine zr_eqi (nI_add i 1) ?_
  refine va_sld hx hb hXs hbl hbA hS (i := nI (i + 1)) (nI_in (by omega) (by omega)) dL_law_352 ?_
  refine zr_eqi (congrArg xs (nI_clamp (by omega))) ?_
  refine lv_aload_n hx hb dL_law_353 rfl (lv_at hl 1 rfl) ?_
  refine lv_iload hx hb dL_law_354 (lv_at hl 0 rfl) ?_
  refine lv_iconst (v := nI 2) hx hb dL_law_356 (by decide) ?_
  refine lv_iadd hx hb dL_law_357 ?_
  refine zr_eqi (nI_add i 2) ?_
  refine va_sld hx hb hXs hbl hbA hS (i := nI (i + 2)) (nI_in (by omega) (by omega)) dL_law_358 ?_
  refine zr_eqi (congrArg xs (nI_clamp (by omega))) ?_
  refine lv_aload_n hx hb dL_law_359 rfl (lv_at hl 4 rfl) ?_
  refine vx_calli (vx_runSX (As := [.ref x, .int (xs (i + 1)), .int (xs (i + 2)), .ref o]) (rest := []) ⟨hx, hb, hml, hown, hts⟩ (c_L_told l hst hrc) (vx_cwSW 4 hts gL_law_L_told rfl rfl rfl (by decide +kernel) ⟨Nat.le_trans (Nat.le_of_ble_eq_true rfl) hR.1, Nat.le_trans (Nat.le_of_ble_eq_true rfl) hR.2⟩) ⟨PcL.blind, PcL.at2 (fun q h => h.1) (off_new hPm (fun q h => hA0 q (Nat.le_trans hS.1 h))) hS hP hG hd1 hX hKJ hN⟩ rfl rfl hl.1 rfl (lv_room (Nat.le_of_ble_eq_true rfl)) dL_law_360 ⟨by omega, by omega⟩) hS (fun q _ h => h.1) (fun q h => h.1) (fun q _ h => h.elim) (fun E ce q9 u t H locs ht hvm hpx hbx hbz hk hS hce hcv hcl => hpx.elim) (fun r u t H locs ht hvm hpo hB hbz hk hS => ?_)
  obtain ⟨hP, hD1⟩ := hB
  rw [ht] at hP
  obtain ⟨rfl, hf0, hrc⟩ := hpo
  have hPm := keep_P hPm hk
  have hDa := unite_D hD1 hd4
  obtain ⟨hd1, hd2, hd3, hd4⟩ := split_D hDa
  refine lv_istore (lv' := [(5, .int (nI (kT (xs (i + 1)) (xs (i + 2)) T))), (4, .int (nI i)), (0, .ref b), (1, .ref x), (2, .ref M.1), (3, .ref o)]) hx hb dL_law_363 hl (by decide) rfl (fun ls hl => ?_)
  refine lv_aload_n hx hb dL_law_365 rfl (lv_at hl 4 rfl) ?_
  refine lv_aload_n hx hb dL_law_366 rfl (lv_at hl 2 rfl) ?_
  refine lv_iload hx hb dL_law_367 (lv_at hl 1 rfl) ?_
  refine lv_iconst (v := nI 1) hx hb dL_law_369 (by decide) ?_
  refine lv_iadd hx hb dL_law_370 ?_
  refine zr_eqi (nI_add i 1) ?_
  refine va_sld hx hb hXs hbl hbA hS (i := nI (i + 1)) (nI_in (by omega) (by omega)) dL_law_371 ?_
  refine zr_eqi (congrArg xs (nI_clamp (by omega))) ?_
  refine lv_aload_n hx hb dL_law_372 rfl (lv_at hl 2 rfl) ?_
  refine lv_iload hx hb dL_law_373 (lv_at hl 1 rfl) ?_
  refine lv_iconst (v := nI 2) hx hb dL_law_375 (by decide) ?_
  refine lv_iadd hx hb dL_law_376 ?_
  refine zr_eqi (nI_add i 2) ?_
  refine va_sld hx hb hXs hbl hbA hS (i := nI (i + 2)) (nI_in (by omega) (by omega)) dL_law_377 ?_
  refine zr_eqi (congrArg xs (nI_clamp (by omega))) ?_
  refine va_calli (va_runV (As := [.int (xs (i + 1)), .int (xs (i + 2))]) (rest := []) ⟨hx, hb, hml, hown, hts⟩ (c_X2_told l hrm) (cwV 2 hts gL_law_X2_told rfl rfl rfl (by decide +kernel) ⟨Nat.le_trans (Nat.le_of_ble_eq_true rfl) hR.1, Nat.le_trans (Nat.le_of_ble_eq_true rfl) hR.2⟩) ⟨PcM.blind, va_recv hG.1 hPm (ci := 2) (q0 := 0) rfl mw_m, PcM.at (off_new hP (fun q h => hA0 q (Nat.le_trans hS.1 h))) hPm hG hd2⟩ rfl rfl hl.1 rfl (lv_room (Nat.le_of_ble_eq_true rfl)) dL_law_378 ⟨by omega, by omega⟩) hS (fun q _ h => h.1) (fun q h => h.1) (fun r6 E2 t H locs ht hvm hpo hB hbz hk hS => ?_)
  obtain ⟨hPm, -, hD2⟩ := hB
  rw [ht] at hPm
  obtain ⟨hr6, hrm⟩ := hpo
  have hP := keep_P hP hk
  have hDa := unite_D2 hd3 hD2
  refine lv_istore (lv' := [(6, .int r6), (5, .int (nI (kT (xs (i + 1)) (xs (i + 2)) T))), (4, .int (nI i)), (0, .ref b), (1, .ref x), (2, .ref M.1), (3, .ref o)]) hx hb dL_law_381 hl (by decide) rfl (fun ls hl => ?_)
  refine lv_aload_n hx hb dL_law_383 rfl (lv_at hl 5 rfl) ?_
  refine vp_callSi (va_Run.run (va_runV (As := []) (rest := []) ⟨hx, hb, hml, hown, hts⟩ (c_X2_thrown l) (cwV 0 hts gL_law_X2_thrown rfl rfl rfl (by decide +kernel) ⟨Nat.le_trans (Nat.le_of_ble_eq_true rfl) hR.1, Nat.le_trans (Nat.le_of_ble_eq_true rfl) hR.2⟩) ⟨PcR.blind, va_recv hG.1 hPm (ci := 2) (q0 := 0) rfl mw_m, PcR.at hPm hG⟩ rfl rfl hl.1 rfl (lv_room (Nat.le_of_ble_eq_true rfl)) dL_law_384 ⟨by omega, by omega⟩)) (fun r qT => ?_)
  subst qT
  refine lv_iload hx hb dL_law_387 (lv_at hl 1 rfl) ?_
  refine lv_icmp_eq (tgt := 394) hx hb dL_law_389 (by decide) (fun c389 => ?_) (fun c389 => ?_)
  · refine lv_iload hx hb dL_law_394 (lv_at hl 1 rfl) ?_
    refine lv_if_ne (tgt := 411) hx hb dL_law_396 (by decide) (fun c396 => ?_) (fun c396 => ?_)
    · refine lv_goto (tgt := 885) hx hb dL_law_411 (by decide) ?_
      refine W.widen (k := cells + 12) (n := slots + 94) (by omega) (by omega) ?_
      exact kk (T, mo, dr, ds) H locs ⟨u.1, u.2.1, u.2.2, _, E2, hP, hPm, hDa, hrc, hrm⟩ hS _ (lv_sub hl [2, 3, 4, 5, 6] rfl)
    · have hk0 : kT (xs (i + 1)) (xs (i + 2)) T = 0 := k_zero kT_le c396
      have e6 := hr6 hk0
      subst e6
      have ef := hf0 hk0
      refine lv_aload_n hx hb dL_law_399 rfl (lv_at hl 6 rfl) ?_
      refine lv_iconst (v := nI 0) hx hb dL_law_400 (by decide) ?_
      refine va_lald hx hb hKJ hP (CWT x ln cA (T, mo, dr, ds).1 (T, mo, dr, ds).2.1 (T, mo, dr, ds).2.2.1 (T, mo, dr, ds).2.2.2 u.1 u.2.1).length 0 (cA := cJ) (n := 1) (f := u.2.2) (by simp) rfl (nI_in (by decide) (by decide)) dL_law_401 ?_
      rw [nI_clamp (show 0 < 2 ^ 31 by decide), ef]
      refine lv_iload hx hb dL_law_402 (lv_at hl 0 rfl) ?_
      refine lv_i2l hx hb dL_law_404 rfl ?_
      refine zr_lcmp hx hb dL_law_405 ?_
      rw [lg_same]
      refine lv_if_eq (tgt := 411) hx hb dL_law_406 (by decide) (fun c406 => ?_) (fun c406 => ?_)
      · refine lv_goto (tgt := 885) hx hb dL_law_411 (by decide) ?_
        refine W.widen (k := cells + 12) (n := slots + 94) (by omega) (by omega) ?_
        exact kk (T, mo, dr, ds) H locs ⟨u.1, u.2.1, u.2.2, _, E2, hP, hPm, hDa, hrc, hrm⟩ hS _ (lv_sub hl [2, 3, 4, 5, 6] rfl)
      · exact absurd rfl c406
  · exact absurd rfl c389

set_option maxHeartbeats 4000000 in
set_option maxRecDepth 100000 in
theorem law_at {D : va_G} {cA cZ cI cJ : ClassId} {sa : Nat → Nat} {A0 : Nat → Prop} {x ln o : Nat} {M : Nat × Nat × Nat × Nat × Nat × Nat} {b L : Nat} {xs : Nat → Int32} {p : Program} {l : Launch} {e : Env} {R : Room} {s : State} {m : MethodId} {args : Array Value} {below : List Frame} {meth : Method} {c : Code} {Q : State → Prop} (hx : p.tables.exec = Jvm.exec) (hb : c.code = cL_law) (hml : c.maxLocals = 9) (hts : ∀ w ∈ wsL_law, w.before args s = true) (hown : s.vm.findClass RL = some m.cls) (hG : GK D (tysA cA cZ cI) s) (hst : l.stackTraces = false) (hX : GX sa A0 s s.heap) (hKJ : va_K D vwCl [(cJ, .long)] s) (hN : NcX s) (hA0 : ∀ q, s.heap.size ≤ q → A0 q) (hXs : va_X b L xs s s.heap) (hbl : b < s.heap.size) (hbA : ¬ A0 b) (hL : L ≤ 1536) (hR : 300 ≤ R.frames ∧ 12000 ≤ R.locals) {S : RS} {H : Heap} {locs : List Loc} {cells slots i : Nat} (hi : i + 2 < L) (hI : LI D cA cZ cI cJ A0 x ln o M S H) (hS : va_S A0 s.heap H locs) (hc : cells + 12 ≤ R.cells) (hs9 : slots + 94 ≤ R.slots) (kk : ∀ S H locs, LI D cA cZ cI cJ A0 x ln o M S H → va_S A0 s.heap H locs → ∀ ls, lv_has ls 9 [(4, .int (nI i)), (0, .ref b), (1, .ref x), (2, .ref M.1), (3, .ref o)] → W p l e R s m args below meth c H locs (cells + 12) (slots + 94) Q (F0 m 885 ls [])) : ∀ ls, lv_has ls 9 [(4, .int (nI i)), (0, .ref b), (1, .ref x), (2, .ref M.1), (3, .ref o)] → W p l e R s m args below meth c H locs cells slots Q (F0 m 414 ls []) := by
  intro ls hl
  obtain ⟨ad, g, f, th, E, hP, hPm, hDa, hrc, hrm⟩ := hI
  obtain ⟨T, mo, dr, ds⟩ := S
  obtain ⟨hd1, hd2, hd3, hd4⟩ := split_D hDa
  refine lv_aload_n hx hb dL_law_414 rfl (lv_at hl 2 rfl) ?_
  refine lv_aload_n hx hb dL_law_415 rfl (lv_at hl 1 rfl) ?_
  refine lv_iload hx hb dL_law_416 (lv_at hl 0 rfl) ?_
  refine lv_iconst (v := nI 1) hx hb dL_law_418 (by decide) ?_
  refine lv_iadd hx hb dL_law_419 ?_
  refine zr_eqi (nI_add i 1) ?_
  refine va_sld hx hb hXs hbl hbA hS (i := nI (i + 1)) (nI_in (by omega) (by omega)) dL_law_420 ?_
  refine zr_eqi (congrArg xs (nI_clamp (by omega))) ?_
  refine lv_aload_n hx hb dL_law_421 rfl (lv_at hl 4 rfl) ?_
  refine vx_calli (vx_runSX (As := [.ref x, .int (xs (i + 1)), .ref o]) (rest := []) ⟨hx, hb, hml, hown, hts⟩ (c_L_at l hst hrc) (vx_cwSW 3 hts gL_law_L_at rfl rfl rfl (by decide +kernel) ⟨Nat.le_trans (Nat.le_of_ble_eq_true rfl) hR.1, Nat.le_trans (Nat.le_of_ble_eq_true rfl) hR.2⟩) ⟨PcL.blind, PcL.at2 (fun q h => h.1) (off_new hPm (fun q h => hA0 q (Nat.le_trans hS.1 h))) hS hP hG hd1 hX hKJ hN⟩ rfl rfl hl.1 rfl (lv_room (Nat.le_of_ble_eq_true rfl)) dL_law_422 ⟨by omega, by omega⟩) hS (fun q _ h => h.1) (fun q h => h.1) (fun q _ h => h.elim) (fun E ce q9 u t H locs ht hvm hpx hbx hbz hk hS hce hcv hcl => hpx.elim) (fun r u t H locs ht hvm hpo hB hbz hk hS => ?_)
  obtain ⟨hP, hD1⟩ := hB
  rw [ht] at hP
  obtain ⟨rfl, hf0, hrc⟩ := hpo
  have hPm := keep_P hPm hk
  have hDa := unite_D hD1 hd4
  obtain ⟨hd1, hd2, hd3, hd4⟩ := split_D hDa
  refine lv_istore (lv' := [(5, .int (nI (kA (xs (i + 1)) T))), (4, .int (nI i)), (0, .ref b), (1, .ref x), (2, .ref M.1), (3, .ref o)]) hx hb dL_law_425 hl (by decide) rfl (fun ls hl => ?_)
  refine lv_aload_n hx hb dL_law_427 rfl (lv_at hl 4 rfl) ?_
  refine lv_aload_n hx hb dL_law_428 rfl (lv_at hl 2 rfl) ?_
  refine lv_iload hx hb dL_law_429 (lv_at hl 1 rfl) ?_
  refine lv_iconst (v := nI 1) hx hb dL_law_431 (by decide) ?_
  refine lv_iadd hx hb dL_law_432 ?_
  refine zr_eqi (nI_add i 1) ?_
  refine va_sld hx hb hXs hbl hbA hS (i := nI (i + 1)) (nI_in (by omega) (by omega)) dL_law_433 ?_
  refine zr_eqi (congrArg xs (nI_clamp (by omega))) ?_
  refine va_calli (va_runV (As := [.int (xs (i + 1))]) (rest := []) ⟨hx, hb, hml, hown, hts⟩ (c_X2_at l hrm) (cwV 1 hts gL_law_X2_at rfl rfl rfl (by decide +kernel) ⟨Nat.le_trans (Nat.le_of_ble_eq_true rfl) hR.1, Nat.le_trans (Nat.le_of_ble_eq_true rfl) hR.2⟩) ⟨PcM.blind, va_recv hG.1 hPm (ci := 2) (q0 := 0) rfl mw_m, PcM.at (off_new hP (fun q h => hA0 q (Nat.le_trans hS.1 h))) hPm hG hd2⟩ rfl rfl hl.1 rfl (lv_room (Nat.le_of_ble_eq_true rfl)) dL_law_434 ⟨by omega, by omega⟩) hS (fun q _ h => h.1) (fun q h => h.1) (fun r6 E2 t H locs ht hvm hpo hB hbz hk hS => ?_)
  obtain ⟨hPm, -, hD2⟩ := hB
  rw [ht] at hPm
  obtain ⟨hr6, hrm⟩ := hpo
  have hP := keep_P hP hk
  have hDa := unite_D2 hd3 hD2
  refine lv_istore (lv' := [(6, .int r6), (5, .int (nI (kA (xs (i + 1)) T))), (4, .int (nI i)), (0, .ref b), (1, .ref x), (2, .ref M.1), (3, .ref o)]) hx hb dL_law_437 hl (by decide) rfl (fun ls hl => ?_)
  refine lv_aload_n hx hb dL_law_439 rfl (lv_at hl 5 rfl) ?_
  refine vp_callSi (va_Run.run (va_runV (As := []) (rest := []) ⟨hx, hb, hml, hown, hts⟩ (c_X2_thrown l) (cwV 0 hts gL_law_X2_thrown rfl rfl rfl (by decide +kernel) ⟨Nat.le_trans (Nat.le_of_ble_eq_true rfl) hR.1, Nat.le_trans (Nat.le_of_ble_eq_true rfl) hR.2⟩) ⟨PcR.blind, va_recv hG.1 hPm (ci := 2) (q0 := 0) rfl mw_m, PcR.at hPm hG⟩ rfl rfl hl.1 rfl (lv_room (Nat.le_of_ble_eq_true rfl)) dL_law_440 ⟨by omega, by omega⟩)) (fun r qT => ?_)
  subst qT
  refine lv_iload hx hb dL_law_443 (lv_at hl 1 rfl) ?_
  refine lv_icmp_eq (tgt := 450) hx hb dL_law_445 (by decide) (fun c445 => ?_) (fun c445 => ?_)
  · refine lv_iload hx hb dL_law_450 (lv_at hl 1 rfl) ?_
    refine lv_if_ne (tgt := 467) hx hb dL_law_452 (by decide) (fun c452 => ?_) (fun c452 => ?_)
    · refine lv_goto (tgt := 885) hx hb dL_law_467 (by decide) ?_
      refine W.widen (k := cells + 12) (n := slots + 94) (by omega) (by omega) ?_
      exact kk (T, mo, dr, ds) H locs ⟨u.1, u.2.1, u.2.2, _, E2, hP, hPm, hDa, hrc, hrm⟩ hS _ (lv_sub hl [2, 3, 4, 5, 6] rfl)
    · have hk0 : kA (xs (i + 1)) T = 0 := k_zero kA_le c452
      have e6 := hr6 hk0
      subst e6
      have ef := hf0 hk0
      refine lv_aload_n hx hb dL_law_455 rfl (lv_at hl 6 rfl) ?_
      refine lv_iconst (v := nI 0) hx hb dL_law_456 (by decide) ?_
      refine va_lald hx hb hKJ hP (CWT x ln cA (T, mo, dr, ds).1 (T, mo, dr, ds).2.1 (T, mo, dr, ds).2.2.1 (T, mo, dr, ds).2.2.2 u.1 u.2.1).length 0 (cA := cJ) (n := 1) (f := u.2.2) (by simp) rfl (nI_in (by decide) (by decide)) dL_law_457 ?_
      rw [nI_clamp (show 0 < 2 ^ 31 by decide), ef]
      refine lv_iload hx hb dL_law_458 (lv_at hl 0 rfl) ?_
      refine lv_i2l hx hb dL_law_460 rfl ?_
      refine zr_lcmp hx hb dL_law_461 ?_
      rw [lg_same]
      refine lv_if_eq (tgt := 467) hx hb dL_law_462 (by decide) (fun c462 => ?_) (fun c462 => ?_)
      · refine lv_goto (tgt := 885) hx hb dL_law_467 (by decide) ?_
        refine W.widen (k := cells + 12) (n := slots + 94) (by omega) (by omega) ?_
        exact kk (T, mo, dr, ds) H locs ⟨u.1, u.2.1, u.2.2, _, E2, hP, hPm, hDa, hrc, hrm⟩ hS _ (lv_sub hl [2, 3, 4, 5, 6] rfl)
      · exact absurd rfl c462
  · exact absurd rfl c445

set_option maxHeartbeats 4000000 in
set_option maxRecDepth 100000 in
theorem law_between {D : va_G} {cA cZ cI cJ : ClassId} {sa : Nat → Nat} {A0 : Nat → Prop} {x ln o : Nat} {M : Nat × Nat × Nat × Nat × Nat × Nat} {b L : Nat} {xs : Nat → Int32} {p : Program} {l : Launch} {e : Env} {R : Room} {s : State} {m : MethodId} {args : Array Value} {below : List Frame} {meth : Method} {c : Code} {Q : State → Prop} (hx : p.tables.exec = Jvm.exec) (hb : c.code = cL_law) (hml : c.maxLocals = 9) (hts : ∀ w ∈ wsL_law, w.before args s = true) (hown : s.vm.findClass RL = some m.cls) (hG : GK D (tysA cA cZ cI) s) (hst : l.stackTraces = false) (hX : GX sa A0 s s.heap) (hKJ : va_K D vwCl [(cJ, .long)] s) (hN : NcX s) (hA0 : ∀ q, s.heap.size ≤ q → A0 q) (hXs : va_X b L xs s s.heap) (hbl : b < s.heap.size) (hbA : ¬ A0 b) (hL : L ≤ 1536) (hR : 300 ≤ R.frames ∧ 12000 ≤ R.locals) {S : RS} {H : Heap} {locs : List Loc} {cells slots i : Nat} (hi : i + 2 < L) (hI : LI D cA cZ cI cJ A0 x ln o M S H) (hS : va_S A0 s.heap H locs) (hc : cells + 12 ≤ R.cells) (hs9 : slots + 94 ≤ R.slots) (kk : ∀ S H locs, LI D cA cZ cI cJ A0 x ln o M S H → va_S A0 s.heap H locs → ∀ ls, lv_has ls 9 [(4, .int (nI i)), (0, .ref b), (1, .ref x), (2, .ref M.1), (3, .ref o)] → W p l e R s m args below meth c H locs (cells + 12) (slots + 94) Q (F0 m 885 ls [])) : ∀ ls, lv_has ls 9 [(4, .int (nI i)), (0, .ref b), (1, .ref x), (2, .ref M.1), (3, .ref o)] → W p l e R s m args below meth c H locs cells slots Q (F0 m 470 ls []) := by
  intro ls hl
  obtain ⟨ad, g, f, th, E, hP, hPm, hDa, hrc, hrm⟩ := hI
  obtain ⟨T, mo, dr, ds⟩ := S
  obtain ⟨hd1, hd2, hd3, hd4⟩ := split_D hDa
  refine lv_aload_n hx hb dL_law_470 rfl (lv_at hl 2 rfl) ?_
  refine lv_aload_n hx hb dL_law_471 rfl (lv_at hl 1 rfl) ?_
  refine lv_iload hx hb dL_law_472 (lv_at hl 0 rfl) ?_
  refine lv_iconst (v := nI 1) hx hb dL_law_474 (by decide) ?_
  refine lv_iadd hx hb dL_law_475 ?_
  refine zr_eqi (nI_add i 1) ?_
  refine va_sld hx hb hXs hbl hbA hS (i := nI (i + 1)) (nI_in (by omega) (by omega)) dL_law_476 ?_
  refine zr_eqi (congrArg xs (nI_clamp (by omega))) ?_
  refine lv_aload_n hx hb dL_law_477 rfl (lv_at hl 1 rfl) ?_
  refine lv_iload hx hb dL_law_478 (lv_at hl 0 rfl) ?_
  refine lv_iconst (v := nI 2) hx hb dL_law_480 (by decide) ?_
  refine lv_iadd hx hb dL_law_481 ?_
  refine zr_eqi (nI_add i 2) ?_
  refine va_sld hx hb hXs hbl hbA hS (i := nI (i + 2)) (nI_in (by omega) (by omega)) dL_law_482 ?_
  refine zr_eqi (congrArg xs (nI_clamp (by omega))) ?_
  refine lv_aload_n hx hb dL_law_483 rfl (lv_at hl 4 rfl) ?_
  refine vx_calli (vx_runSX (As := [.ref x, .int (xs (i + 1)), .int (xs (i + 2)), .ref o]) (rest := []) ⟨hx, hb, hml, hown, hts⟩ (c_L_between l hst hrc) (vx_cwSW 4 hts gL_law_L_between rfl rfl rfl (by decide +kernel) ⟨Nat.le_trans (Nat.le_of_ble_eq_true rfl) hR.1, Nat.le_trans (Nat.le_of_ble_eq_true rfl) hR.2⟩) ⟨PcL.blind, PcL.at2 (fun q h => h.1) (off_new hPm (fun q h => hA0 q (Nat.le_trans hS.1 h))) hS hP hG hd1 hX hKJ hN⟩ rfl rfl hl.1 rfl (lv_room (Nat.le_of_ble_eq_true rfl)) dL_law_484 ⟨by omega, by omega⟩) hS (fun q _ h => h.1) (fun q h => h.1) (fun q _ h => h.elim) (fun E ce q9 u t H locs ht hvm hpx hbx hbz hk hS hce hcv hcl => hpx.elim) (fun r u t H locs ht hvm hpo hB hbz hk hS => ?_)
  obtain ⟨hP, hD1⟩ := hB
  rw [ht] at hP
  obtain ⟨rfl, hf0, hrc⟩ := hpo
  have hPm := keep_P hPm hk
  have hDa := unite_D hD1 hd4
  obtain ⟨hd1, hd2, hd3, hd4⟩ := split_D hDa
  refine lv_istore (lv' := [(5, .int (nI (kB (xs (i + 1)) (xs (i + 2))))), (4, .int (nI i)), (0, .ref b), (1, .ref x), (2, .ref M.1), (3, .ref o)]) hx hb dL_law_487 hl (by decide) rfl (fun ls hl => ?_)
  refine lv_aload_n hx hb dL_law_489 rfl (lv_at hl 4 rfl) ?_
  refine lv_aload_n hx hb dL_law_490 rfl (lv_at hl 2 rfl) ?_
  refine lv_iload hx hb dL_law_491 (lv_at hl 1 rfl) ?_
  refine lv_iconst (v := nI 1) hx hb dL_law_493 (by decide) ?_
  refine lv_iadd hx hb dL_law_494 ?_
  refine zr_eqi (nI_add i 1) ?_
  refine va_sld hx hb hXs hbl hbA hS (i := nI (i + 1)) (nI_in (by omega) (by omega)) dL_law_495 ?_
  refine zr_eqi (congrArg xs (nI_clamp (by omega))) ?_
  refine lv_aload_n hx hb dL_law_496 rfl (lv_at hl 2 rfl) ?_
  refine lv_iload hx hb dL_law_497 (lv_at hl 1 rfl) ?_
  refine lv_iconst (v := nI 2) hx hb dL_law_499 (by decide) ?_
  refine lv_iadd hx hb dL_law_500 ?_
  refine zr_eqi (nI_add i 2) ?_
  refine va_sld hx hb hXs hbl hbA hS (i := nI (i + 2)) (nI_in (by omega) (by omega)) dL_law_501 ?_
  refine zr_eqi (congrArg xs (nI_clamp (by omega))) ?_
  refine va_calli (va_runV (As := [.int (xs (i + 1)), .int (xs (i + 2))]) (rest := []) ⟨hx, hb, hml, hown, hts⟩ (c_X2_between l hrm) (cwV 2 hts gL_law_X2_between rfl rfl rfl (by decide +kernel) ⟨Nat.le_trans (Nat.le_of_ble_eq_true rfl) hR.1, Nat.le_trans (Nat.le_of_ble_eq_true rfl) hR.2⟩) ⟨PcM.blind, va_recv hG.1 hPm (ci := 2) (q0 := 0) rfl mw_m, PcM.at (off_new hP (fun q h => hA0 q (Nat.le_trans hS.1 h))) hPm hG hd2⟩ rfl rfl hl.1 rfl (lv_room (Nat.le_of_ble_eq_true rfl)) dL_law_502 ⟨by omega, by omega⟩) hS (fun q _ h => h.1) (fun q h => h.1) (fun r6 E2 t H locs ht hvm hpo hB hbz hk hS => ?_)
  obtain ⟨hPm, -, hD2⟩ := hB
  rw [ht] at hPm
  obtain ⟨hr6, hrm⟩ := hpo
  have hP := keep_P hP hk
  have hDa := unite_D2 hd3 hD2
  refine lv_istore (lv' := [(6, .int r6), (5, .int (nI (kB (xs (i + 1)) (xs (i + 2))))), (4, .int (nI i)), (0, .ref b), (1, .ref x), (2, .ref M.1), (3, .ref o)]) hx hb dL_law_505 hl (by decide) rfl (fun ls hl => ?_)
  refine lv_aload_n hx hb dL_law_507 rfl (lv_at hl 5 rfl) ?_
  refine vp_callSi (va_Run.run (va_runV (As := []) (rest := []) ⟨hx, hb, hml, hown, hts⟩ (c_X2_thrown l) (cwV 0 hts gL_law_X2_thrown rfl rfl rfl (by decide +kernel) ⟨Nat.le_trans (Nat.le_of_ble_eq_true rfl) hR.1, Nat.le_trans (Nat.le_of_ble_eq_true rfl) hR.2⟩) ⟨PcR.blind, va_recv hG.1 hPm (ci := 2) (q0 := 0) rfl mw_m, PcR.at hPm hG⟩ rfl rfl hl.1 rfl (lv_room (Nat.le_of_ble_eq_true rfl)) dL_law_508 ⟨by omega, by omega⟩)) (fun r qT => ?_)
  subst qT
  refine lv_iload hx hb dL_law_511 (lv_at hl 1 rfl) ?_
  refine lv_icmp_eq (tgt := 518) hx hb dL_law_513 (by decide) (fun c513 => ?_) (fun c513 => ?_)
  · refine lv_iload hx hb dL_law_518 (lv_at hl 1 rfl) ?_
    refine lv_if_ne (tgt := 535) hx hb dL_law_520 (by decide) (fun c520 => ?_) (fun c520 => ?_)
    · refine lv_goto (tgt := 885) hx hb dL_law_535 (by decide) ?_
      refine W.widen (k := cells + 12) (n := slots + 94) (by omega) (by omega) ?_
      exact kk (T, mo, dr, ds) H locs ⟨u.1, u.2.1, u.2.2, _, E2, hP, hPm, hDa, hrc, hrm⟩ hS _ (lv_sub hl [2, 3, 4, 5, 6] rfl)
    · have hk0 : kB (xs (i + 1)) (xs (i + 2)) = 0 := k_zero kB_le c520
      have e6 := hr6 hk0
      subst e6
      have ef := hf0 hk0
      refine lv_aload_n hx hb dL_law_523 rfl (lv_at hl 6 rfl) ?_
      refine lv_iconst (v := nI 0) hx hb dL_law_524 (by decide) ?_
      refine va_lald hx hb hKJ hP (CWT x ln cA (T, mo, dr, ds).1 (T, mo, dr, ds).2.1 (T, mo, dr, ds).2.2.1 (T, mo, dr, ds).2.2.2 u.1 u.2.1).length 0 (cA := cJ) (n := 1) (f := u.2.2) (by simp) rfl (nI_in (by decide) (by decide)) dL_law_525 ?_
      rw [nI_clamp (show 0 < 2 ^ 31 by decide), ef]
      refine lv_iload hx hb dL_law_526 (lv_at hl 0 rfl) ?_
      refine lv_i2l hx hb dL_law_528 rfl ?_
      refine zr_lcmp hx hb dL_law_529 ?_
      rw [lg_same]
      refine lv_if_eq (tgt := 535) hx hb dL_law_530 (by decide) (fun c530 => ?_) (fun c530 => ?_)
      · refine lv_goto (tgt := 885) hx hb dL_law_535 (by decide) ?_
        refine W.widen (k := cells + 12) (n := slots + 94) (by omega) (by omega) ?_
        exact kk (T, mo, dr, ds) H locs ⟨u.1, u.2.1, u.2.2, _, E2, hP, hPm, hDa, hrc, hrm⟩ hS _ (lv_sub hl [2, 3, 4, 5, 6] rfl)
      · exact absurd rfl c530
  · exact absurd rfl c513

set_option maxHeartbeats 4000000 in
set_option maxRecDepth 100000 in
theorem law_captain {D : va_G} {cA cZ cI cJ : ClassId} {sa : Nat → Nat} {A0 : Nat → Prop} {x ln o : Nat} {M : Nat × Nat × Nat × Nat × Nat × Nat} {b L : Nat} {xs : Nat → Int32} {p : Program} {l : Launch} {e : Env} {R : Room} {s : State} {m : MethodId} {args : Array Value} {below : List Frame} {meth : Method} {c : Code} {Q : State → Prop} (hx : p.tables.exec = Jvm.exec) (hb : c.code = cL_law) (hml : c.maxLocals = 9) (hts : ∀ w ∈ wsL_law, w.before args s = true) (hown : s.vm.findClass RL = some m.cls) (hG : GK D (tysA cA cZ cI) s) (hst : l.stackTraces = false) (hX : GX sa A0 s s.heap) (hKJ : va_K D vwCl [(cJ, .long)] s) (hN : NcX s) (hA0 : ∀ q, s.heap.size ≤ q → A0 q) (hXs : va_X b L xs s s.heap) (hbl : b < s.heap.size) (hbA : ¬ A0 b) (hL : L ≤ 1536) (hR : 300 ≤ R.frames ∧ 12000 ≤ R.locals) {S : RS} {H : Heap} {locs : List Loc} {cells slots i : Nat} (hi : i + 2 < L) (hI : LI D cA cZ cI cJ A0 x ln o M S H) (hS : va_S A0 s.heap H locs) (hc : cells + 12 ≤ R.cells) (hs9 : slots + 94 ≤ R.slots) (kk : ∀ S H locs, LI D cA cZ cI cJ A0 x ln o M S H → va_S A0 s.heap H locs → ∀ ls, lv_has ls 9 [(4, .int (nI i)), (0, .ref b), (1, .ref x), (2, .ref M.1), (3, .ref o)] → W p l e R s m args below meth c H locs (cells + 12) (slots + 94) Q (F0 m 885 ls [])) : ∀ ls, lv_has ls 9 [(4, .int (nI i)), (0, .ref b), (1, .ref x), (2, .ref M.1), (3, .ref o)] → W p l e R s m args below meth c H locs cells slots Q (F0 m 538 ls []) := by
  intro ls hl
  obtain ⟨ad, g, f, th, E, hP, hPm, hDa, hrc, hrm⟩ := hI
  obtain ⟨T, mo, dr, ds⟩ := S
  obtain ⟨hd1, hd2, hd3, hd4⟩ := split_D hDa
  refine lv_aload_n hx hb dL_law_538 rfl (lv_at hl 2 rfl) ?_
  refine lv_aload_n hx hb dL_law_539 rfl (lv_at hl 1 rfl) ?_
  refine lv_iload hx hb dL_law_540 (lv_at hl 0 rfl) ?_
  refine lv_iconst (v := nI 1) hx hb dL_law_542 (by decide) ?_
  refine lv_iadd hx hb dL_law_543 ?_
  refine zr_eqi (nI_add i 1) ?_
  refine va_sld hx hb hXs hbl hbA hS (i := nI (i + 1)) (nI_in (by omega) (by omega)) dL_law_544 ?_
  refine zr_eqi (congrArg xs (nI_clamp (by omega))) ?_
  refine lv_aload_n hx hb dL_law_545 rfl (lv_at hl 1 rfl) ?_
  refine lv_iload hx hb dL_law_546 (lv_at hl 0 rfl) ?_
  refine lv_iconst (v := nI 2) hx hb dL_law_548 (by decide) ?_
  refine lv_iadd hx hb dL_law_549 ?_
  refine zr_eqi (nI_add i 2) ?_
  refine va_sld hx hb hXs hbl hbA hS (i := nI (i + 2)) (nI_in (by omega) (by omega)) dL_law_550 ?_
  refine zr_eqi (congrArg xs (nI_clamp (by omega))) ?_
  refine lv_aload_n hx hb dL_law_551 rfl (lv_at hl 4 rfl) ?_
  refine vx_calli (vx_runSX (As := [.ref x, .int (xs (i + 1)), .int (xs (i + 2)), .ref o]) (rest := []) ⟨hx, hb, hml, hown, hts⟩ (c_L_captain l hst hrc) (vx_cwSW 4 hts gL_law_L_captain rfl rfl rfl (by decide +kernel) ⟨Nat.le_trans (Nat.le_of_ble_eq_true rfl) hR.1, Nat.le_trans (Nat.le_of_ble_eq_true rfl) hR.2⟩) ⟨PcL.blind, PcL.at2 (fun q h => h.1) (off_new hPm (fun q h => hA0 q (Nat.le_trans hS.1 h))) hS hP hG hd1 hX hKJ hN⟩ rfl rfl hl.1 rfl (lv_room (Nat.le_of_ble_eq_true rfl)) dL_law_552 ⟨by omega, by omega⟩) hS (fun q _ h => h.1) (fun q h => h.1) (fun q _ h => h.elim) (fun E ce q9 u t H locs ht hvm hpx hbx hbz hk hS hce hcv hcl => hpx.elim) (fun r u t H locs ht hvm hpo hB hbz hk hS => ?_)
  obtain ⟨hP, hD1⟩ := hB
  rw [ht] at hP
  obtain ⟨rfl, hf0, hrc⟩ := hpo
  have hPm := keep_P hPm hk
  have hDa := unite_D hD1 hd4
  obtain ⟨hd1, hd2, hd3, hd4⟩ := split_D hDa
  refine lv_istore (lv' := [(5, .int (nI (kC (xs (i + 1)) (xs (i + 2)) T))), (4, .int (nI i)), (0, .ref b), (1, .ref x), (2, .ref M.1), (3, .ref o)]) hx hb dL_law_555 hl (by decide) rfl (fun ls hl => ?_)
  refine lv_aload_n hx hb dL_law_557 rfl (lv_at hl 4 rfl) ?_
  refine lv_aload_n hx hb dL_law_558 rfl (lv_at hl 2 rfl) ?_
  refine lv_iload hx hb dL_law_559 (lv_at hl 1 rfl) ?_
  refine lv_iconst (v := nI 1) hx hb dL_law_561 (by decide) ?_
  refine lv_iadd hx hb dL_law_562 ?_
  refine zr_eqi (nI_add i 1) ?_
  refine va_sld hx hb hXs hbl hbA hS (i := nI (i + 1)) (nI_in (by omega) (by omega)) dL_law_563 ?_
  refine zr_eqi (congrArg xs (nI_clamp (by omega))) ?_
  refine lv_aload_n hx hb dL_law_564 rfl (lv_at hl 2 rfl) ?_
  refine lv_iload hx hb dL_law_565 (lv_at hl 1 rfl) ?_
  refine lv_iconst (v := nI 2) hx hb dL_law_567 (by decide) ?_
  refine lv_iadd hx hb dL_law_568 ?_
  refine zr_eqi (nI_add i 2) ?_
  refine va_sld hx hb hXs hbl hbA hS (i := nI (i + 2)) (nI_in (by omega) (by omega)) dL_law_569 ?_
  refine zr_eqi (congrArg xs (nI_clamp (by omega))) ?_
  refine va_calli (va_runV (As := [.int (xs (i + 1)), .int (xs (i + 2))]) (rest := []) ⟨hx, hb, hml, hown, hts⟩ (c_X2_captain l hrm) (cwV 2 hts gL_law_X2_captain rfl rfl rfl (by decide +kernel) ⟨Nat.le_trans (Nat.le_of_ble_eq_true rfl) hR.1, Nat.le_trans (Nat.le_of_ble_eq_true rfl) hR.2⟩) ⟨PcM.blind, va_recv hG.1 hPm (ci := 2) (q0 := 0) rfl mw_m, PcM.at (off_new hP (fun q h => hA0 q (Nat.le_trans hS.1 h))) hPm hG hd2⟩ rfl rfl hl.1 rfl (lv_room (Nat.le_of_ble_eq_true rfl)) dL_law_570 ⟨by omega, by omega⟩) hS (fun q _ h => h.1) (fun q h => h.1) (fun r6 E2 t H locs ht hvm hpo hB hbz hk hS => ?_)
  obtain ⟨hPm, -, hD2⟩ := hB
  rw [ht] at hPm
  obtain ⟨hr6, hrm⟩ := hpo
  have hP := keep_P hP hk
  have hDa := unite_D2 hd3 hD2
  refine lv_istore (lv' := [(6, .int r6), (5, .int (nI (kC (xs (i + 1)) (xs (i + 2)) T))), (4, .int (nI i)), (0, .ref b), (1, .ref x), (2, .ref M.1), (3, .ref o)]) hx hb dL_law_573 hl (by decide) rfl (fun ls hl => ?_)
  refine lv_aload_n hx hb dL_law_575 rfl (lv_at hl 5 rfl) ?_
  refine vp_callSi (va_Run.run (va_runV (As := []) (rest := []) ⟨hx, hb, hml, hown, hts⟩ (c_X2_thrown l) (cwV 0 hts gL_law_X2_thrown rfl rfl rfl (by decide +kernel) ⟨Nat.le_trans (Nat.le_of_ble_eq_true rfl) hR.1, Nat.le_trans (Nat.le_of_ble_eq_true rfl) hR.2⟩) ⟨PcR.blind, va_recv hG.1 hPm (ci := 2) (q0 := 0) rfl mw_m, PcR.at hPm hG⟩ rfl rfl hl.1 rfl (lv_room (Nat.le_of_ble_eq_true rfl)) dL_law_576 ⟨by omega, by omega⟩)) (fun r qT => ?_)
  subst qT
  refine lv_iload hx hb dL_law_579 (lv_at hl 1 rfl) ?_
  refine lv_icmp_eq (tgt := 586) hx hb dL_law_581 (by decide) (fun c581 => ?_) (fun c581 => ?_)
  · refine lv_iload hx hb dL_law_586 (lv_at hl 1 rfl) ?_
    refine lv_if_ne (tgt := 603) hx hb dL_law_588 (by decide) (fun c588 => ?_) (fun c588 => ?_)
    · refine lv_goto (tgt := 885) hx hb dL_law_603 (by decide) ?_
      refine W.widen (k := cells + 12) (n := slots + 94) (by omega) (by omega) ?_
      exact kk (T, mo, dr, ds) H locs ⟨u.1, u.2.1, u.2.2, _, E2, hP, hPm, hDa, hrc, hrm⟩ hS _ (lv_sub hl [2, 3, 4, 5, 6] rfl)
    · have hk0 : kC (xs (i + 1)) (xs (i + 2)) T = 0 := k_zero kC_le c588
      have e6 := hr6 hk0
      subst e6
      have ef := hf0 hk0
      refine lv_aload_n hx hb dL_law_591 rfl (lv_at hl 6 rfl) ?_
      refine lv_iconst (v := nI 0) hx hb dL_law_592 (by decide) ?_
      refine va_lald hx hb hKJ hP (CWT x ln cA (T, mo, dr, ds).1 (T, mo, dr, ds).2.1 (T, mo, dr, ds).2.2.1 (T, mo, dr, ds).2.2.2 u.1 u.2.1).length 0 (cA := cJ) (n := 1) (f := u.2.2) (by simp) rfl (nI_in (by decide) (by decide)) dL_law_593 ?_
      rw [nI_clamp (show 0 < 2 ^ 31 by decide), ef]
      refine lv_iload hx hb dL_law_594 (lv_at hl 0 rfl) ?_
      refine lv_i2l hx hb dL_law_596 rfl ?_
      refine zr_lcmp hx hb dL_law_597 ?_
      rw [lg_same]
      refine lv_if_eq (tgt := 603) hx hb dL_law_598 (by decide) (fun c598 => ?_) (fun c598 => ?_)
      · refine lv_goto (tgt := 885) hx hb dL_law_603 (by decide) ?_
        refine W.widen (k := cells + 12) (n := slots + 94) (by omega) (by omega) ?_
        exact kk (T, mo, dr, ds) H locs ⟨u.1, u.2.1, u.2.2, _, E2, hP, hPm, hDa, hrc, hrm⟩ hS _ (lv_sub hl [2, 3, 4, 5, 6] rfl)
      · exact absurd rfl c598
  · exact absurd rfl c581

set_option maxHeartbeats 4000000 in
set_option maxRecDepth 100000 in
theorem law_taller {D : va_G} {cA cZ cI cJ : ClassId} {sa : Nat → Nat} {A0 : Nat → Prop} {x ln o : Nat} {M : Nat × Nat × Nat × Nat × Nat × Nat} {b L : Nat} {xs : Nat → Int32} {p : Program} {l : Launch} {e : Env} {R : Room} {s : State} {m : MethodId} {args : Array Value} {below : List Frame} {meth : Method} {c : Code} {Q : State → Prop} (hx : p.tables.exec = Jvm.exec) (hb : c.code = cL_law) (hml : c.maxLocals = 9) (hts : ∀ w ∈ wsL_law, w.before args s = true) (hown : s.vm.findClass RL = some m.cls) (hG : GK D (tysA cA cZ cI) s) (hst : l.stackTraces = false) (hX : GX sa A0 s s.heap) (hKJ : va_K D vwCl [(cJ, .long)] s) (hN : NcX s) (hA0 : ∀ q, s.heap.size ≤ q → A0 q) (hXs : va_X b L xs s s.heap) (hbl : b < s.heap.size) (hbA : ¬ A0 b) (hL : L ≤ 1536) (hR : 300 ≤ R.frames ∧ 12000 ≤ R.locals) {S : RS} {H : Heap} {locs : List Loc} {cells slots i : Nat} (hi : i + 2 < L) (hI : LI D cA cZ cI cJ A0 x ln o M S H) (hS : va_S A0 s.heap H locs) (hc : cells + 12 ≤ R.cells) (hs9 : slots + 94 ≤ R.slots) (kk : ∀ S H locs, LI D cA cZ cI cJ A0 x ln o M S H → va_S A0 s.heap H locs → ∀ ls, lv_has ls 9 [(4, .int (nI i)), (0, .ref b), (1, .ref x), (2, .ref M.1), (3, .ref o)] → W p l e R s m args below meth c H locs (cells + 12) (slots + 94) Q (F0 m 885 ls [])) : ∀ ls, lv_has ls 9 [(4, .int (nI i)), (0, .ref b), (1, .ref x), (2, .ref M.1), (3, .ref o)] → W p l e R s m args below meth c H locs cells slots Q (F0 m 606 ls []) := by
  intro ls hl
  obtain ⟨ad, g, f, th, E, hP, hPm, hDa, hrc, hrm⟩ := hI
  obtain ⟨T, mo, dr, ds⟩ := S
  obtain ⟨hd1, hd2, hd3, hd4⟩ := split_D hDa
  refine lv_aload_n hx hb dL_law_606 rfl (lv_at hl 2 rfl) ?_
  refine lv_aload_n hx hb dL_law_607 rfl (lv_at hl 1 rfl) ?_
  refine lv_iload hx hb dL_law_608 (lv_at hl 0 rfl) ?_
  refine lv_iconst (v := nI 1) hx hb dL_law_610 (by decide) ?_
  refine lv_iadd hx hb dL_law_611 ?_
  refine zr_eqi (nI_add i 1) ?_
  refine va_sld hx hb hXs hbl hbA hS (i := nI (i + 1)) (nI_in (by omega) (by omega)) dL_law_612 ?_
  refine zr_eqi (congrArg xs (nI_clamp (by omega))) ?_
  refine lv_aload_n hx hb dL_law_613 rfl (lv_at hl 4 rfl) ?_
  refine vx_calli (vx_runSX (As := [.ref x, .int (xs (i + 1)), .ref o]) (rest := []) ⟨hx, hb, hml, hown, hts⟩ (c_L_taller l hst hrc) (vx_cwSW 3 hts gL_law_L_taller rfl rfl rfl (by decide +kernel) ⟨Nat.le_trans (Nat.le_of_ble_eq_true rfl) hR.1, Nat.le_trans (Nat.le_of_ble_eq_true rfl) hR.2⟩) ⟨PcL.blind, PcL.at2 (fun q h => h.1) (off_new hPm (fun q h => hA0 q (Nat.le_trans hS.1 h))) hS hP hG hd1 hX hKJ hN⟩ rfl rfl hl.1 rfl (lv_room (Nat.le_of_ble_eq_true rfl)) dL_law_614 ⟨by omega, by omega⟩) hS (fun q _ h => h.1) (fun q h => h.1) (fun q _ h => h.elim) (fun E ce q9 u t H locs ht hvm hpx hbx hbz hk hS hce hcv hcl => hpx.elim) (fun r u t H locs ht hvm hpo hB hbz hk hS => ?_)
  obtain ⟨hP, hD1⟩ := hB
  rw [ht] at hP
  obtain ⟨rfl, hf0, hrc⟩ := hpo
  have hPm := keep_P hPm hk
  have hDa := unite_D hD1 hd4
  obtain ⟨hd1, hd2, hd3, hd4⟩ := split_D hDa
  refine lv_istore (lv' := [(5, .int (nI (kH (xs (i + 1))))), (4, .int (nI i)), (0, .ref b), (1, .ref x), (2, .ref M.1), (3, .ref o)]) hx hb dL_law_617 hl (by decide) rfl (fun ls hl => ?_)
  refine lv_aload_n hx hb dL_law_619 rfl (lv_at hl 4 rfl) ?_
  refine lv_aload_n hx hb dL_law_620 rfl (lv_at hl 2 rfl) ?_
  refine lv_iload hx hb dL_law_621 (lv_at hl 1 rfl) ?_
  refine lv_iconst (v := nI 1) hx hb dL_law_623 (by decide) ?_
  refine lv_iadd hx hb dL_law_624 ?_
  refine zr_eqi (nI_add i 1) ?_
  refine va_sld hx hb hXs hbl hbA hS (i := nI (i + 1)) (nI_in (by omega) (by omega)) dL_law_625 ?_
  refine zr_eqi (congrArg xs (nI_clamp (by omega))) ?_
  refine va_calli (va_runV (As := [.int (xs (i + 1))]) (rest := []) ⟨hx, hb, hml, hown, hts⟩ (c_X2_taller l hrm) (cwV 1 hts gL_law_X2_taller rfl rfl rfl (by decide +kernel) ⟨Nat.le_trans (Nat.le_of_ble_eq_true rfl) hR.1, Nat.le_trans (Nat.le_of_ble_eq_true rfl) hR.2⟩) ⟨PcM.blind, va_recv hG.1 hPm (ci := 2) (q0 := 0) rfl mw_m, PcM.at (off_new hP (fun q h => hA0 q (Nat.le_trans hS.1 h))) hPm hG hd2⟩ rfl rfl hl.1 rfl (lv_room (Nat.le_of_ble_eq_true rfl)) dL_law_626 ⟨by omega, by omega⟩) hS (fun q _ h => h.1) (fun q h => h.1) (fun r6 E2 t H locs ht hvm hpo hB hbz hk hS => ?_)
  obtain ⟨hPm, -, hD2⟩ := hB
  rw [ht] at hPm
  obtain ⟨hr6, hrm⟩ := hpo
  have hP := keep_P hP hk
  have hDa := unite_D2 hd3 hD2
  refine lv_istore (lv' := [(6, .int r6), (5, .int (nI (kH (xs (i + 1))))), (4, .int (nI i)), (0, .ref b), (1, .ref x), (2, .ref M.1), (3, .ref o)]) hx hb dL_law_629 hl (by decide) rfl (fun ls hl => ?_)
  refine lv_aload_n hx hb dL_law_631 rfl (lv_at hl 5 rfl) ?_
  refine vp_callSi (va_Run.run (va_runV (As := []) (rest := []) ⟨hx, hb, hml, hown, hts⟩ (c_X2_thrown l) (cwV 0 hts gL_law_X2_thrown rfl rfl rfl (by decide +kernel) ⟨Nat.le_trans (Nat.le_of_ble_eq_true rfl) hR.1, Nat.le_trans (Nat.le_of_ble_eq_true rfl) hR.2⟩) ⟨PcR.blind, va_recv hG.1 hPm (ci := 2) (q0 := 0) rfl mw_m, PcR.at hPm hG⟩ rfl rfl hl.1 rfl (lv_room (Nat.le_of_ble_eq_true rfl)) dL_law_632 ⟨by omega, by omega⟩)) (fun r qT => ?_)
  subst qT
  refine lv_iload hx hb dL_law_635 (lv_at hl 1 rfl) ?_
  refine lv_icmp_eq (tgt := 642) hx hb dL_law_637 (by decide) (fun c637 => ?_) (fun c637 => ?_)
  · refine lv_iload hx hb dL_law_642 (lv_at hl 1 rfl) ?_
    refine lv_if_ne (tgt := 659) hx hb dL_law_644 (by decide) (fun c644 => ?_) (fun c644 => ?_)
    · refine lv_goto (tgt := 885) hx hb dL_law_659 (by decide) ?_
      refine W.widen (k := cells + 12) (n := slots + 94) (by omega) (by omega) ?_
      exact kk (T, mo, dr, ds) H locs ⟨u.1, u.2.1, u.2.2, _, E2, hP, hPm, hDa, hrc, hrm⟩ hS _ (lv_sub hl [2, 3, 4, 5, 6] rfl)
    · have hk0 : kH (xs (i + 1)) = 0 := k_zero kH_le c644
      have e6 := hr6 hk0
      subst e6
      have ef := hf0 hk0
      refine lv_aload_n hx hb dL_law_647 rfl (lv_at hl 6 rfl) ?_
      refine lv_iconst (v := nI 0) hx hb dL_law_648 (by decide) ?_
      refine va_lald hx hb hKJ hP (CWT x ln cA (T, mo, dr, ds).1 (T, mo, dr, ds).2.1 (T, mo, dr, ds).2.2.1 (T, mo, dr, ds).2.2.2 u.1 u.2.1).length 0 (cA := cJ) (n := 1) (f := u.2.2) (by simp) rfl (nI_in (by decide) (by decide)) dL_law_649 ?_
      rw [nI_clamp (show 0 < 2 ^ 31 by decide), ef]
      refine lv_iload hx hb dL_law_650 (lv_at hl 0 rfl) ?_
      refine lv_i2l hx hb dL_law_652 rfl ?_
      refine zr_lcmp hx hb dL_law_653 ?_
      rw [lg_same]
      refine lv_if_eq (tgt := 659) hx hb dL_law_654 (by decide) (fun c654 => ?_) (fun c654 => ?_)
      · refine lv_goto (tgt := 885) hx hb dL_law_659 (by decide) ?_
        refine W.widen (k := cells + 12) (n := slots + 94) (by omega) (by omega) ?_
        exact kk (T, mo, dr, ds) H locs ⟨u.1, u.2.1, u.2.2, _, E2, hP, hPm, hDa, hrc, hrm⟩ hS _ (lv_sub hl [2, 3, 4, 5, 6] rfl)
      · exact absurd rfl c654
  · exact absurd rfl c637

set_option maxHeartbeats 4000000 in
set_option maxRecDepth 100000 in
theorem law_count {D : va_G} {cA cZ cI cJ : ClassId} {sa : Nat → Nat} {A0 : Nat → Prop} {x ln o : Nat} {M : Nat × Nat × Nat × Nat × Nat × Nat} {b L : Nat} {xs : Nat → Int32} {p : Program} {l : Launch} {e : Env} {R : Room} {s : State} {m : MethodId} {args : Array Value} {below : List Frame} {meth : Method} {c : Code} {Q : State → Prop} (hx : p.tables.exec = Jvm.exec) (hb : c.code = cL_law) (hml : c.maxLocals = 9) (hts : ∀ w ∈ wsL_law, w.before args s = true) (hown : s.vm.findClass RL = some m.cls) (hG : GK D (tysA cA cZ cI) s) (hst : l.stackTraces = false) (hX : GX sa A0 s s.heap) (hKJ : va_K D vwCl [(cJ, .long)] s) (hN : NcX s) (hA0 : ∀ q, s.heap.size ≤ q → A0 q) (hXs : va_X b L xs s s.heap) (hbl : b < s.heap.size) (hbA : ¬ A0 b) (hL : L ≤ 1536) (hR : 300 ≤ R.frames ∧ 12000 ≤ R.locals) {S : RS} {H : Heap} {locs : List Loc} {cells slots i : Nat} (hi : i + 2 < L) (hI : LI D cA cZ cI cJ A0 x ln o M S H) (hS : va_S A0 s.heap H locs) (hc : cells + 12 ≤ R.cells) (hs9 : slots + 94 ≤ R.slots) (kk : ∀ S H locs, LI D cA cZ cI cJ A0 x ln o M S H → va_S A0 s.heap H locs → ∀ ls, lv_has ls 9 [(4, .int (nI i)), (0, .ref b), (1, .ref x), (2, .ref M.1), (3, .ref o)] → W p l e R s m args below meth c H locs (cells + 12) (slots + 94) Q (F0 m 885 ls [])) : ∀ ls, lv_has ls 9 [(4, .int (nI i)), (0, .ref b), (1, .ref x), (2, .ref M.1), (3, .ref o)] → W p l e R s m args below meth c H locs cells slots Q (F0 m 662 ls []) := by
  intro ls hl
  obtain ⟨ad, g, f, th, E, hP, hPm, hDa, hrc, hrm⟩ := hI
  obtain ⟨T, mo, dr, ds⟩ := S
  obtain ⟨hd1, hd2, hd3, hd4⟩ := split_D hDa
  refine lv_aload_n hx hb dL_law_662 rfl (lv_at hl 2 rfl) ?_
  refine lv_aload_n hx hb dL_law_663 rfl (lv_at hl 1 rfl) ?_
  refine lv_iload hx hb dL_law_664 (lv_at hl 0 rfl) ?_
  refine lv_iconst (v := nI 1) hx hb dL_law_666 (by decide) ?_
  refine lv_iadd hx hb dL_law_667 ?_
  refine zr_eqi (nI_add i 1) ?_
  refine va_sld hx hb hXs hbl hbA hS (i := nI (i + 1)) (nI_in (by omega) (by omega)) dL_law_668 ?_
  refine zr_eqi (congrArg xs (nI_clamp (by omega))) ?_
  refine lv_aload_n hx hb dL_law_669 rfl (lv_at hl 4 rfl) ?_
  refine vx_calli (vx_runSX (As := [.ref x, .int (xs (i + 1)), .ref o]) (rest := []) ⟨hx, hb, hml, hown, hts⟩ (c_L_count l hst hrc) (vx_cwSW 3 hts gL_law_L_count rfl rfl rfl (by decide +kernel) ⟨Nat.le_trans (Nat.le_of_ble_eq_true rfl) hR.1, Nat.le_trans (Nat.le_of_ble_eq_true rfl) hR.2⟩) ⟨PcL.blind, PcL.at2 (fun q h => h.1) (off_new hPm (fun q h => hA0 q (Nat.le_trans hS.1 h))) hS hP hG hd1 hX hKJ hN⟩ rfl rfl hl.1 rfl (lv_room (Nat.le_of_ble_eq_true rfl)) dL_law_670 ⟨by omega, by omega⟩) hS (fun q _ h => h.1) (fun q h => h.1) (fun q _ h => h.elim) (fun E ce q9 u t H locs ht hvm hpx hbx hbz hk hS hce hcv hcl => hpx.elim) (fun r u t H locs ht hvm hpo hB hbz hk hS => ?_)
  obtain ⟨hP, hD1⟩ := hB
  rw [ht] at hP
  obtain ⟨rfl, hf0, hrc⟩ := hpo
  have hPm := keep_P hPm hk
  have hDa := unite_D hD1 hd4
  obtain ⟨hd1, hd2, hd3, hd4⟩ := split_D hDa
  refine lv_istore (lv' := [(5, .int (nI (kQ (xs (i + 1))))), (4, .int (nI i)), (0, .ref b), (1, .ref x), (2, .ref M.1), (3, .ref o)]) hx hb dL_law_673 hl (by decide) rfl (fun ls hl => ?_)
  refine lv_aload_n hx hb dL_law_675 rfl (lv_at hl 4 rfl) ?_
  refine lv_aload_n hx hb dL_law_676 rfl (lv_at hl 2 rfl) ?_
  refine lv_iload hx hb dL_law_677 (lv_at hl 1 rfl) ?_
  refine lv_iconst (v := nI 1) hx hb dL_law_679 (by decide) ?_
  refine lv_iadd hx hb dL_law_680 ?_
  refine zr_eqi (nI_add i 1) ?_
  refine va_sld hx hb hXs hbl hbA hS (i := nI (i + 1)) (nI_in (by omega) (by omega)) dL_law_681 ?_
  refine zr_eqi (congrArg xs (nI_clamp (by omega))) ?_
  refine va_calli (va_runV (As := [.int (xs (i + 1))]) (rest := []) ⟨hx, hb, hml, hown, hts⟩ (c_X2_count l hrm) (cwV 1 hts gL_law_X2_count rfl rfl rfl (by decide +kernel) ⟨Nat.le_trans (Nat.le_of_ble_eq_true rfl) hR.1, Nat.le_trans (Nat.le_of_ble_eq_true rfl) hR.2⟩) ⟨PcM.blind, va_recv hG.1 hPm (ci := 2) (q0 := 0) rfl mw_m, PcM.at (off_new hP (fun q h => hA0 q (Nat.le_trans hS.1 h))) hPm hG hd2⟩ rfl rfl hl.1 rfl (lv_room (Nat.le_of_ble_eq_true rfl)) dL_law_682 ⟨by omega, by omega⟩) hS (fun q _ h => h.1) (fun q h => h.1) (fun r6 E2 t H locs ht hvm hpo hB hbz hk hS => ?_)
  obtain ⟨hPm, -, hD2⟩ := hB
  rw [ht] at hPm
  obtain ⟨hr6, hrm⟩ := hpo
  have hP := keep_P hP hk
  have hDa := unite_D2 hd3 hD2
  refine lv_istore (lv' := [(6, .int r6), (5, .int (nI (kQ (xs (i + 1))))), (4, .int (nI i)), (0, .ref b), (1, .ref x), (2, .ref M.1), (3, .ref o)]) hx hb dL_law_685 hl (by decide) rfl (fun ls hl => ?_)
  refine lv_aload_n hx hb dL_law_687 rfl (lv_at hl 5 rfl) ?_
  refine vp_callSi (va_Run.run (va_runV (As := []) (rest := []) ⟨hx, hb, hml, hown, hts⟩ (c_X2_thrown l) (cwV 0 hts gL_law_X2_thrown rfl rfl rfl (by decide +kernel) ⟨Nat.le_trans (Nat.le_of_ble_eq_true rfl) hR.1, Nat.le_trans (Nat.le_of_ble_eq_true rfl) hR.2⟩) ⟨PcR.blind, va_recv hG.1 hPm (ci := 2) (q0 := 0) rfl mw_m, PcR.at hPm hG⟩ rfl rfl hl.1 rfl (lv_room (Nat.le_of_ble_eq_true rfl)) dL_law_688 ⟨by omega, by omega⟩)) (fun r qT => ?_)
  subst qT
  refine lv_iload hx hb dL_law_691 (lv_at hl 1 rfl) ?_
  refine lv_icmp_eq (tgt := 698) hx hb dL_law_693 (by decide) (fun c693 => ?_) (fun c693 => ?_)
  · refine lv_iload hx hb dL_law_698 (lv_at hl 1 rfl) ?_
    refine lv_if_ne (tgt := 715) hx hb dL_law_700 (by decide) (fun c700 => ?_) (fun c700 => ?_)
    · refine lv_goto (tgt := 885) hx hb dL_law_715 (by decide) ?_
      refine W.widen (k := cells + 12) (n := slots + 94) (by omega) (by omega) ?_
      exact kk (T, mo, dr, ds) H locs ⟨u.1, u.2.1, u.2.2, _, E2, hP, hPm, hDa, hrc, hrm⟩ hS _ (lv_sub hl [2, 3, 4, 5, 6] rfl)
    · have hk0 : kQ (xs (i + 1)) = 0 := k_zero kQ_le c700
      have e6 := hr6 hk0
      subst e6
      have ef := hf0 hk0
      refine lv_aload_n hx hb dL_law_703 rfl (lv_at hl 6 rfl) ?_
      refine lv_iconst (v := nI 0) hx hb dL_law_704 (by decide) ?_
      refine va_lald hx hb hKJ hP (CWT x ln cA (T, mo, dr, ds).1 (T, mo, dr, ds).2.1 (T, mo, dr, ds).2.2.1 (T, mo, dr, ds).2.2.2 u.1 u.2.1).length 0 (cA := cJ) (n := 1) (f := u.2.2) (by simp) rfl (nI_in (by decide) (by decide)) dL_law_705 ?_
      rw [nI_clamp (show 0 < 2 ^ 31 by decide), ef]
      refine lv_iload hx hb dL_law_706 (lv_at hl 0 rfl) ?_
      refine lv_i2l hx hb dL_law_708 rfl ?_
      refine zr_lcmp hx hb dL_law_709 ?_
      rw [lg_same]
      refine lv_if_eq (tgt := 715) hx hb dL_law_710 (by decide) (fun c710 => ?_) (fun c710 => ?_)
      · refine lv_goto (tgt := 885) hx hb dL_law_715 (by decide) ?_
        refine W.widen (k := cells + 12) (n := slots + 94) (by omega) (by omega) ?_
        exact kk (T, mo, dr, ds) H locs ⟨u.1, u.2.1, u.2.2, _, E2, hP, hPm, hDa, hrc, hrm⟩ hS _ (lv_sub hl [2, 3, 4, 5, 6] rfl)
      · exact absurd rfl c710
  · exact absurd rfl c693

set_option maxHeartbeats 4000000 in
set_option maxRecDepth 100000 in
theorem law_would {D : va_G} {cA cZ cI cJ : ClassId} {sa : Nat → Nat} {A0 : Nat → Prop} {x ln o : Nat} {M : Nat × Nat × Nat × Nat × Nat × Nat} {b L : Nat} {xs : Nat → Int32} {p : Program} {l : Launch} {e : Env} {R : Room} {s : State} {m : MethodId} {args : Array Value} {below : List Frame} {meth : Method} {c : Code} {Q : State → Prop} (hx : p.tables.exec = Jvm.exec) (hb : c.code = cL_law) (hml : c.maxLocals = 9) (hts : ∀ w ∈ wsL_law, w.before args s = true) (hown : s.vm.findClass RL = some m.cls) (hG : GK D (tysA cA cZ cI) s) (hst : l.stackTraces = false) (hX : GX sa A0 s s.heap) (hKJ : va_K D vwCl [(cJ, .long)] s) (hN : NcX s) (hA0 : ∀ q, s.heap.size ≤ q → A0 q) (hXs : va_X b L xs s s.heap) (hbl : b < s.heap.size) (hbA : ¬ A0 b) (hL : L ≤ 1536) (hR : 300 ≤ R.frames ∧ 12000 ≤ R.locals) {S : RS} {H : Heap} {locs : List Loc} {cells slots i : Nat} (hi : i + 2 < L) (hI : LI D cA cZ cI cJ A0 x ln o M S H) (hS : va_S A0 s.heap H locs) (hc : cells + 12 ≤ R.cells) (hs9 : slots + 94 ≤ R.slots) (kk : ∀ S H locs, LI D cA cZ cI cJ A0 x ln o M S H → va_S A0 s.heap H locs → ∀ ls, lv_has ls 9 [(4, .int (nI i)), (0, .ref b), (1, .ref x), (2, .ref M.1), (3, .ref o)] → W p l e R s m args below meth c H locs (cells + 12) (slots + 94) Q (F0 m 885 ls [])) : ∀ ls, lv_has ls 9 [(4, .int (nI i)), (0, .ref b), (1, .ref x), (2, .ref M.1), (3, .ref o)] → W p l e R s m args below meth c H locs cells slots Q (F0 m 718 ls []) := by
  intro ls hl
  obtain ⟨ad, g, f, th, E, hP, hPm, hDa, hrc, hrm⟩ := hI
  obtain ⟨T, mo, dr, ds⟩ := S
  obtain ⟨hd1, hd2, hd3, hd4⟩ := split_D hDa
  refine lv_aload_n hx hb dL_law_718 rfl (lv_at hl 2 rfl) ?_
  refine lv_aload_n hx hb dL_law_719 rfl (lv_at hl 1 rfl) ?_
  refine lv_iload hx hb dL_law_720 (lv_at hl 0 rfl) ?_
  refine lv_iconst (v := nI 1) hx hb dL_law_722 (by decide) ?_
  refine lv_iadd hx hb dL_law_723 ?_
  refine zr_eqi (nI_add i 1) ?_
  refine va_sld hx hb hXs hbl hbA hS (i := nI (i + 1)) (nI_in (by omega) (by omega)) dL_law_724 ?_
  refine zr_eqi (congrArg xs (nI_clamp (by omega))) ?_
  refine lv_aload_n hx hb dL_law_725 rfl (lv_at hl 4 rfl) ?_
  refine vx_calli (vx_runSX (As := [.ref x, .int (xs (i + 1)), .ref o]) (rest := []) ⟨hx, hb, hml, hown, hts⟩ (c_L_would l hst hrc) (vx_cwSW 3 hts gL_law_L_would rfl rfl rfl (by decide +kernel) ⟨Nat.le_trans (Nat.le_of_ble_eq_true rfl) hR.1, Nat.le_trans (Nat.le_of_ble_eq_true rfl) hR.2⟩) ⟨PcL.blind, PcL.at2 (fun q h => h.1) (off_new hPm (fun q h => hA0 q (Nat.le_trans hS.1 h))) hS hP hG hd1 hX hKJ hN⟩ rfl rfl hl.1 rfl (lv_room (Nat.le_of_ble_eq_true rfl)) dL_law_726 ⟨by omega, by omega⟩) hS (fun q _ h => h.1) (fun q h => h.1) (fun q _ h => h.elim) (fun E ce q9 u t H locs ht hvm hpx hbx hbz hk hS hce hcv hcl => hpx.elim) (fun r u t H locs ht hvm hpo hB hbz hk hS => ?_)
  obtain ⟨hP, hD1⟩ := hB
  rw [ht] at hP
  obtain ⟨rfl, hf0, hrc⟩ := hpo
  have hPm := keep_P hPm hk
  have hDa := unite_D hD1 hd4
  obtain ⟨hd1, hd2, hd3, hd4⟩ := split_D hDa
  refine lv_istore (lv' := [(5, .int (nI (kH (xs (i + 1))))), (4, .int (nI i)), (0, .ref b), (1, .ref x), (2, .ref M.1), (3, .ref o)]) hx hb dL_law_729 hl (by decide) rfl (fun ls hl => ?_)
  refine lv_aload_n hx hb dL_law_731 rfl (lv_at hl 4 rfl) ?_
  refine lv_aload_n hx hb dL_law_732 rfl (lv_at hl 2 rfl) ?_
  refine lv_iload hx hb dL_law_733 (lv_at hl 1 rfl) ?_
  refine lv_iconst (v := nI 1) hx hb dL_law_735 (by decide) ?_
  refine lv_iadd hx hb dL_law_736 ?_
  refine zr_eqi (nI_add i 1) ?_
  refine va_sld hx hb hXs hbl hbA hS (i := nI (i + 1)) (nI_in (by omega) (by omega)) dL_law_737 ?_
  refine zr_eqi (congrArg xs (nI_clamp (by omega))) ?_
  refine va_calli (va_runV (As := [.int (xs (i + 1))]) (rest := []) ⟨hx, hb, hml, hown, hts⟩ (c_X2_would l hrm) (cwV 1 hts gL_law_X2_would rfl rfl rfl (by decide +kernel) ⟨Nat.le_trans (Nat.le_of_ble_eq_true rfl) hR.1, Nat.le_trans (Nat.le_of_ble_eq_true rfl) hR.2⟩) ⟨PcM.blind, va_recv hG.1 hPm (ci := 2) (q0 := 0) rfl mw_m, PcM.at (off_new hP (fun q h => hA0 q (Nat.le_trans hS.1 h))) hPm hG hd2⟩ rfl rfl hl.1 rfl (lv_room (Nat.le_of_ble_eq_true rfl)) dL_law_738 ⟨by omega, by omega⟩) hS (fun q _ h => h.1) (fun q h => h.1) (fun r6 E2 t H locs ht hvm hpo hB hbz hk hS => ?_)
  obtain ⟨hPm, -, hD2⟩ := hB
  rw [ht] at hPm
  obtain ⟨hr6, hrm⟩ := hpo
  have hP := keep_P hP hk
  have hDa := unite_D2 hd3 hD2
  refine lv_istore (lv' := [(6, .int r6), (5, .int (nI (kH (xs (i + 1))))), (4, .int (nI i)), (0, .ref b), (1, .ref x), (2, .ref M.1), (3, .ref o)]) hx hb dL_law_741 hl (by decide) rfl (fun ls hl => ?_)
  refine lv_aload_n hx hb dL_law_743 rfl (lv_at hl 5 rfl) ?_
  refine vp_callSi (va_Run.run (va_runV (As := []) (rest := []) ⟨hx, hb, hml, hown, hts⟩ (c_X2_thrown l) (cwV 0 hts gL_law_X2_thrown rfl rfl rfl (by decide +kernel) ⟨Nat.le_trans (Nat.le_of_ble_eq_true rfl) hR.1, Nat.le_trans (Nat.le_of_ble_eq_true rfl) hR.2⟩) ⟨PcR.blind, va_recv hG.1 hPm (ci := 2) (q0 := 0) rfl mw_m, PcR.at hPm hG⟩ rfl rfl hl.1 rfl (lv_room (Nat.le_of_ble_eq_true rfl)) dL_law_744 ⟨by omega, by omega⟩)) (fun r qT => ?_)
  subst qT
  refine lv_iload hx hb dL_law_747 (lv_at hl 1 rfl) ?_
  refine lv_icmp_eq (tgt := 754) hx hb dL_law_749 (by decide) (fun c749 => ?_) (fun c749 => ?_)
  · refine lv_iload hx hb dL_law_754 (lv_at hl 1 rfl) ?_
    refine lv_if_ne (tgt := 771) hx hb dL_law_756 (by decide) (fun c756 => ?_) (fun c756 => ?_)
    · refine lv_goto (tgt := 885) hx hb dL_law_771 (by decide) ?_
      refine W.widen (k := cells + 12) (n := slots + 94) (by omega) (by omega) ?_
      exact kk (T, mo, dr, ds) H locs ⟨u.1, u.2.1, u.2.2, _, E2, hP, hPm, hDa, hrc, hrm⟩ hS _ (lv_sub hl [2, 3, 4, 5, 6] rfl)
    · have hk0 : kH (xs (i + 1)) = 0 := k_zero kH_le c756
      have e6 := hr6 hk0
      subst e6
      have ef := hf0 hk0
      refine lv_aload_n hx hb dL_law_759 rfl (lv_at hl 6 rfl) ?_
      refine lv_iconst (v := nI 0) hx hb dL_law_760 (by decide) ?_
      refine va_lald hx hb hKJ hP (CWT x ln cA (T, mo, dr, ds).1 (T, mo, dr, ds).2.1 (T, mo, dr, ds).2.2.1 (T, mo, dr, ds).2.2.2 u.1 u.2.1).length 0 (cA := cJ) (n := 1) (f := u.2.2) (by simp) rfl (nI_in (by decide) (by decide)) dL_law_761 ?_
      rw [nI_clamp (show 0 < 2 ^ 31 by decide), ef]
      refine lv_iload hx hb dL_law_762 (lv_at hl 0 rfl) ?_
      refine lv_i2l hx hb dL_law_764 rfl ?_
      refine zr_lcmp hx hb dL_law_765 ?_
      rw [lg_same]
      refine lv_if_eq (tgt := 771) hx hb dL_law_766 (by decide) (fun c766 => ?_) (fun c766 => ?_)
      · refine lv_goto (tgt := 885) hx hb dL_law_771 (by decide) ?_
        refine W.widen (k := cells + 12) (n := slots + 94) (by omega) (by omega) ?_
        exact kk (T, mo, dr, ds) H locs ⟨u.1, u.2.1, u.2.2, _, E2, hP, hPm, hDa, hrc, hrm⟩ hS _ (lv_sub hl [2, 3, 4, 5, 6] rfl)
      · exact absurd rfl c766
  · exact absurd rfl c749

set_option maxHeartbeats 4000000 in
set_option maxRecDepth 100000 in
theorem law_moves {D : va_G} {cA cZ cI cJ : ClassId} {sa : Nat → Nat} {A0 : Nat → Prop} {x ln o : Nat} {M : Nat × Nat × Nat × Nat × Nat × Nat} {b L : Nat} {xs : Nat → Int32} {p : Program} {l : Launch} {e : Env} {R : Room} {s : State} {m : MethodId} {args : Array Value} {below : List Frame} {meth : Method} {c : Code} {Q : State → Prop} (hx : p.tables.exec = Jvm.exec) (hb : c.code = cL_law) (hml : c.maxLocals = 9) (hts : ∀ w ∈ wsL_law, w.before args s = true) (hown : s.vm.findClass RL = some m.cls) (hG : GK D (tysA cA cZ cI) s) (hst : l.stackTraces = false) (hX : GX sa A0 s s.heap) (hKJ : va_K D vwCl [(cJ, .long)] s) (hN : NcX s) (hA0 : ∀ q, s.heap.size ≤ q → A0 q) (hXs : va_X b L xs s s.heap) (hbl : b < s.heap.size) (hbA : ¬ A0 b) (hL : L ≤ 1536) (hR : 300 ≤ R.frames ∧ 12000 ≤ R.locals) {S : RS} {H : Heap} {locs : List Loc} {cells slots i : Nat} (hi : i + 2 < L) (hI : LI D cA cZ cI cJ A0 x ln o M S H) (hS : va_S A0 s.heap H locs) (hc : cells + 12 ≤ R.cells) (hs9 : slots + 94 ≤ R.slots) (kk : ∀ S H locs, LI D cA cZ cI cJ A0 x ln o M S H → va_S A0 s.heap H locs → ∀ ls, lv_has ls 9 [(4, .int (nI i)), (0, .ref b), (1, .ref x), (2, .ref M.1), (3, .ref o)] → W p l e R s m args below meth c H locs (cells + 12) (slots + 94) Q (F0 m 885 ls [])) : ∀ ls, lv_has ls 9 [(4, .int (nI i)), (0, .ref b), (1, .ref x), (2, .ref M.1), (3, .ref o)] → W p l e R s m args below meth c H locs cells slots Q (F0 m 774 ls []) := by
  intro ls hl
  obtain ⟨ad, g, f, th, E, hP, hPm, hDa, hrc, hrm⟩ := hI
  obtain ⟨T, mo, dr, ds⟩ := S
  obtain ⟨hd1, hd2, hd3, hd4⟩ := split_D hDa
  refine lv_aload_n hx hb dL_law_774 rfl (lv_at hl 2 rfl) ?_
  refine lv_aload_n hx hb dL_law_775 rfl (lv_at hl 1 rfl) ?_
  refine lv_iload hx hb dL_law_776 (lv_at hl 0 rfl) ?_
  refine lv_iconst (v := nI 1) hx hb dL_law_778 (by decide) ?_
  refine lv_iadd hx hb dL_law_779 ?_
  refine zr_eqi (nI_add i 1) ?_
  refine va_sld hx hb hXs hbl hbA hS (i := nI (i + 1)) (nI_in (by omega) (by omega)) dL_law_780 ?_
  refine zr_eqi (congrArg xs (nI_clamp (by omega))) ?_
  refine lv_aload_n hx hb dL_law_781 rfl (lv_at hl 4 rfl) ?_
  refine vx_calli (vx_runSX (As := [.ref x, .int (xs (i + 1)), .ref o]) (rest := []) ⟨hx, hb, hml, hown, hts⟩ (c_L_moves l hst hrc) (vx_cwSW 3 hts gL_law_L_moves rfl rfl rfl (by decide +kernel) ⟨Nat.le_trans (Nat.le_of_ble_eq_true rfl) hR.1, Nat.le_trans (Nat.le_of_ble_eq_true rfl) hR.2⟩) ⟨PcL.blind, PcL.at2 (fun q h => h.1) (off_new hPm (fun q h => hA0 q (Nat.le_trans hS.1 h))) hS hP hG hd1 hX hKJ hN⟩ rfl rfl hl.1 rfl (lv_room (Nat.le_of_ble_eq_true rfl)) dL_law_782 ⟨by omega, by omega⟩) hS (fun q _ h => h.1) (fun q h => h.1) (fun q _ h => h.elim) (fun E ce q9 u t H locs ht hvm hpx hbx hbz hk hS hce hcv hcl => hpx.elim) (fun r u t H locs ht hvm hpo hB hbz hk hS => ?_)
  obtain ⟨hP, hD1⟩ := hB
  rw [ht] at hP
  obtain ⟨rfl, hf0, hrc⟩ := hpo
  have hPm := keep_P hPm hk
  have hDa := unite_D hD1 hd4
  obtain ⟨hd1, hd2, hd3, hd4⟩ := split_D hDa
  refine lv_istore (lv' := [(5, .int (nI (kH (xs (i + 1))))), (4, .int (nI i)), (0, .ref b), (1, .ref x), (2, .ref M.1), (3, .ref o)]) hx hb dL_law_785 hl (by decide) rfl (fun ls hl => ?_)
  refine lv_aload_n hx hb dL_law_787 rfl (lv_at hl 4 rfl) ?_
  refine lv_aload_n hx hb dL_law_788 rfl (lv_at hl 2 rfl) ?_
  refine lv_iload hx hb dL_law_789 (lv_at hl 1 rfl) ?_
  refine lv_iconst (v := nI 1) hx hb dL_law_791 (by decide) ?_
  refine lv_iadd hx hb dL_law_792 ?_
  refine zr_eqi (nI_add i 1) ?_
  refine va_sld hx hb hXs hbl hbA hS (i := nI (i + 1)) (nI_in (by omega) (by omega)) dL_law_793 ?_
  refine zr_eqi (congrArg xs (nI_clamp (by omega))) ?_
  refine va_calli (va_runV (As := [.int (xs (i + 1))]) (rest := []) ⟨hx, hb, hml, hown, hts⟩ (c_X2_moves l hrm) (cwV 1 hts gL_law_X2_moves rfl rfl rfl (by decide +kernel) ⟨Nat.le_trans (Nat.le_of_ble_eq_true rfl) hR.1, Nat.le_trans (Nat.le_of_ble_eq_true rfl) hR.2⟩) ⟨PcM.blind, va_recv hG.1 hPm (ci := 2) (q0 := 0) rfl mw_m, PcM.at (off_new hP (fun q h => hA0 q (Nat.le_trans hS.1 h))) hPm hG hd2⟩ rfl rfl hl.1 rfl (lv_room (Nat.le_of_ble_eq_true rfl)) dL_law_794 ⟨by omega, by omega⟩) hS (fun q _ h => h.1) (fun q h => h.1) (fun r6 E2 t H locs ht hvm hpo hB hbz hk hS => ?_)
  obtain ⟨hPm, -, hD2⟩ := hB
  rw [ht] at hPm
  obtain ⟨hr6, hrm⟩ := hpo
  have hP := keep_P hP hk
  have hDa := unite_D2 hd3 hD2
  refine lv_istore (lv' := [(6, .int r6), (5, .int (nI (kH (xs (i + 1))))), (4, .int (nI i)), (0, .ref b), (1, .ref x), (2, .ref M.1), (3, .ref o)]) hx hb dL_law_797 hl (by decide) rfl (fun ls hl => ?_)
  refine lv_aload_n hx hb dL_law_799 rfl (lv_at hl 5 rfl) ?_
  refine vp_callSi (va_Run.run (va_runV (As := []) (rest := []) ⟨hx, hb, hml, hown, hts⟩ (c_X2_thrown l) (cwV 0 hts gL_law_X2_thrown rfl rfl rfl (by decide +kernel) ⟨Nat.le_trans (Nat.le_of_ble_eq_true rfl) hR.1, Nat.le_trans (Nat.le_of_ble_eq_true rfl) hR.2⟩) ⟨PcR.blind, va_recv hG.1 hPm (ci := 2) (q0 := 0) rfl mw_m, PcR.at hPm hG⟩ rfl rfl hl.1 rfl (lv_room (Nat.le_of_ble_eq_true rfl)) dL_law_800 ⟨by omega, by omega⟩)) (fun r qT => ?_)
  subst qT
  refine lv_iload hx hb dL_law_803 (lv_at hl 1 rfl) ?_
  refine lv_icmp_eq (tgt := 810) hx hb dL_law_805 (by decide) (fun c805 => ?_) (fun c805 => ?_)
  · refine lv_iload hx hb dL_law_810 (lv_at hl 1 rfl) ?_
    refine lv_if_ne (tgt := 827) hx hb dL_law_812 (by decide) (fun c812 => ?_) (fun c812 => ?_)
    · refine lv_goto (tgt := 885) hx hb dL_law_827 (by decide) ?_
      refine W.widen (k := cells + 12) (n := slots + 94) (by omega) (by omega) ?_
      exact kk (T, mo, dr, ds) H locs ⟨u.1, u.2.1, u.2.2, _, E2, hP, hPm, hDa, hrc, hrm⟩ hS _ (lv_sub hl [2, 3, 4, 5, 6] rfl)
    · have hk0 : kH (xs (i + 1)) = 0 := k_zero kH_le c812
      have e6 := hr6 hk0
      subst e6
      have ef := hf0 hk0
      refine lv_aload_n hx hb dL_law_815 rfl (lv_at hl 6 rfl) ?_
      refine lv_iconst (v := nI 0) hx hb dL_law_816 (by decide) ?_
      refine va_lald hx hb hKJ hP (CWT x ln cA (T, mo, dr, ds).1 (T, mo, dr, ds).2.1 (T, mo, dr, ds).2.2.1 (T, mo, dr, ds).2.2.2 u.1 u.2.1).length 0 (cA := cJ) (n := 1) (f := u.2.2) (by simp) rfl (nI_in (by decide) (by decide)) dL_law_817 ?_
      rw [nI_clamp (show 0 < 2 ^ 31 by decide), ef]
      refine lv_iload hx hb dL_law_818 (lv_at hl 0 rfl) ?_
      refine lv_i2l hx hb dL_law_820 rfl ?_
      refine zr_lcmp hx hb dL_law_821 ?_
      rw [lg_same]
      refine lv_if_eq (tgt := 827) hx hb dL_law_822 (by decide) (fun c822 => ?_) (fun c822 => ?_)
      · refine lv_goto (tgt := 885) hx hb dL_law_827 (by decide) ?_
        refine W.widen (k := cells + 12) (n := slots + 94) (by omega) (by omega) ?_
        exact kk (T, mo, dr, ds) H locs ⟨u.1, u.2.1, u.2.2, _, E2, hP, hPm, hDa, hrc, hrm⟩ hS _ (lv_sub hl [2, 3, 4, 5, 6] rfl)
      · exact absurd rfl c822
  · exact absurd rfl c805

