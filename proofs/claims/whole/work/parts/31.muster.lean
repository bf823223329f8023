/-! THE CLASS's muster -/
def nw : Nd := (none, none, none, nI 1)
theorem ins_facts {T : Tr} {h : Nat} (hb : bst T) (hm : h ∉ keysT T) : keysT T = kl h T ++ kr h T ∧ keysT (insT h T) = kl h T ++ h :: kr h T ∧ siz (insT h T) = siz T + 1 ∧ subT h T = .leaf ∧ anc h (insT h T) = anc h T ∧ parF h none (insT h T) = parF h none T ∧ bst (insT h T) ∧ (∀ j, j ∈ keysT (insT h T) ↔ j ∈ keysT T ∨ j = h) := by
  have e0 : subT h T = .leaf := by
    have h1 := subT_mem (h := h) hb
    cases e : subT h T with
    | leaf => rfl
    | inner s k v l r =>
      have h2 := subT_root (h := h) (T := T)
      rw [e] at h1 h2
      rcases h2 with q | q
      · cases q
      · exact absurd (h1.mp q) hm
  have e1 : keysT T = kl h T ++ kr h T := by
    have h1 := keys_split h T
    rw [e0] at h1
    simpa [keysT] using h1
  have e2 : keysT (insT h T) = kl h T ++ h :: kr h T := by
    unfold insT
    rw [keys_rep]
    simp [keysT]
  have e3 : siz (insT h T) = siz T + 1 := by
    rw [← keys_len, e2, ← keys_len, e1]
    simp only [List.length_append, List.length_cons]
    omega
  have e6 : bst (insT h T) := by
    refine bst_rep hb (by simp [bst, keysT]) (fun a ha b hb2 => ?_) (fun a ha b hb2 => ?_)
    · have : b = h := by simpa [keysT] using hb2
      subst this
      exact kl_lt hb a ha
    · have : a = h := by simpa [keysT] using ha
      subst this
      exact kr_gt hb b hb2
  refine ⟨e1, e2, e3, e0, ?_, ?_, e6, fun j => ?_⟩
  · unfold insT
    rw [anc_rep]
    simp [anc]
  · unfold insT
    rw [parF_rep]
    simp [parF]
  · rw [e2, e1]
    simp only [List.mem_append, List.mem_cons]
    constructor
    · rintro (q | q | q)
      · exact Or.inl (Or.inl q)
      · exact Or.inr q
      · exact Or.inl (Or.inr q)
    · rintro ((q | q) | q)
      · exact Or.inl q
      · exact Or.inr (Or.inr q)
      · exact Or.inr (Or.inl q)
theorem ins_rep {T : Tr} {g : Nat → Nd} {h : Nat} (hrep : RepC T (keysT T) g) (hh : h < 1000) (hm : h ∉ keysT T) (hz : siz T < 150) : ShP (va_up g h nw) none T ∧ UpC (sbG (va_up g h nw) (parF h none T) h (some h)) (sbG (va_up g h nw) (parF h none T) h (some h) h).1 (anc h T).reverse ∧ RepC (insT h T) (keysT T ++ [h]) (addG (nI 1) (anc h T).reverse (sbG (va_up g h nw) (parF h none T) h (some h))) := by
  obtain ⟨hb, hin, hsz, hs, hc, -⟩ := hrep
  obtain ⟨e1, e2, e3, e0, e4, e5, e6, e7⟩ := ins_facts hb hm
  have hne : ∀ k ∈ keysT T, va_up g h nw k = g k := fun k hk => va_up_ne _ _ (fun e => hm (e ▸ hk))
  have hs1 : ShP (va_up g h nw) none T := ShP_cong (fun k hk => by rw [hne k hk]; exact ⟨rfl, rfl, rfl⟩) hs
  have hkl : h ∉ kl h T ∧ h ∉ kr h T := ⟨fun q => hm (by rw [e1]; exact List.mem_append_left _ q), fun q => hm (by rw [e1]; exact List.mem_append_right _ q)⟩
  have ht1 : ShP (va_up g h nw) none (nd_ lf_ h lf_) := ⟨by rw [va_up_self]; rfl, by rw [va_up_self]; rfl, by rw [va_up_self]; rfl, trivial, trivial⟩
  have hs2 : ShP (sbG (va_up g h nw) (parF h none T) h (some h)) none (insT h T) := SB (t := nd_ lf_ h lf_) hb (by simp [bst, keysT]) hs ht1 (fun k hk _ => by rw [hne k hk]; exact ⟨rfl, rfl, rfl⟩) (fun j hj => by
    have : j = h := by simpa [keysT] using hj
    subst this
    exact hkl)
  have hu2 : (sbG (va_up g h nw) (parF h none T) h (some h) h).1 = parF h none T := by rw [sbG_at, if_pos rfl]
  have hup : UpC (sbG (va_up g h nw) (parF h none T) h (some h)) (parF h none T) (anc h T).reverse := by
    have h1 := UpC_top (h := h) hs2
    rw [e5, e4] at h1
    exact h1
  have hnd : (anc h T).reverse.Nodup := List.pairwise_reverse.mpr ((anc_nodup hb).imp (fun h => h.symm))
  have hna : h ∉ (anc h T).reverse := fun q => hm (anc_in (List.mem_reverse.mp q))
  refine ⟨hs1, by rw [hu2]; exact hup, e6, fun k hk => ?_, by omega, ?_, ?_, fun k => ?_⟩
  · rcases (e7 k).mp hk with q | q
    · exact hin k q
    · subst q; exact hh
  · exact ShP_cong (fun k _ => addG_ptr hnd) hs2
  · refine (rep_co (T := T) (t := nd_ lf_ h lf_) (d := nI 1) hb hc (fun k hk _ => ?_) ?_ ?_).1
    · rw [addG_co hnd, sbG_co, hne k hk]
      simp only [List.mem_reverse]
    · refine ⟨?_, trivial, trivial⟩
      rw [addG_co hnd, sbG_co, va_up_self, if_neg hna]
      rfl
    · rw [e0]
      rfl
  · rw [List.mem_append, e7, List.mem_singleton]
theorem musS_n {h : Nat} {T : Tr} {mo dr ds : Int32} (hn : mcT T h = none) : musS h (T, mo, dr, ds) = (insT h T, moM mo (nI (siz T + 1)), dr, ds) := by
  simp only [musS]
  rw [hn]
theorem musS_s {h c : Nat} {T : Tr} {mo dr ds : Int32} (hn : mcT T h = some c) : musS h (T, mo, dr, ds) = (drawT c (insT h T), moD (insT h T) c (moM mo (nI (siz T + 1))), dr + nI 1, ds + nI (siz (subT c (insT h T)))) := by
  simp only [musS]
  rw [hn]
  rfl
set_option maxHeartbeats 4000000 in
set_option maxRecDepth 100000 in
/-- muster -/
theorem c_X1_muster (l : Launch) (hst : l.stackTraces = false) {D : va_G} {cA cZ cI : ClassId} {sa : Nat → Nat} {A : Nat → Prop} {x ln : Nat} {mo dr ds : Int32} {ad : Nat → Nat} {g : Nat → Nd} {T : Tr} {x0 : Int32} (hrep : RepC T (keysT T) g) : vx_Met l yX1_muster wsX1_muster ({ frames := 16, cells := 4, slots := 30, locals := 640 } : Room) (PcX sa D (tysA cA cZ cI) A (CWT x ln cA T mo dr ds ad g) [.ref x, .int x0]) (va_Qi (S := (Nat → Nat) × (Nat → Nd)) (fun r u => (¬ oddH x0 ∧ siz T < 150 ∧ ¬ kx x0 ∈ keysT T ∧ r = nI ((anc (kx x0) (musS (kx x0) (T, mo, dr, ds)).1).length)) ∧ RepC (musS (kx x0) (T, mo, dr, ds)).1 (keysT (musS (kx x0) (T, mo, dr, ds)).1) u.2) (fun u => BM D (tysA cA cZ cI) A (CWT x ln cA (musS (kx x0) (T, mo, dr, ds)).1 (musS (kx x0) (T, mo, dr, ds)).2.1 (musS (kx x0) (T, mo, dr, ds)).2.2.1 (musS (kx x0) (T, mo, dr, ds)).2.2.2 u.1 u.2)) A) (vx_X (S := Unit) (fun _ => True) (fun E _ t => ((oddH x0 ∧ E = eIA) ∨ ((¬ oddH x0 ∧ (150 ≤ siz T ∨ kx x0 ∈ keysT T)) ∧ E = eIS)) ∧ BMx D A (CWT x ln cA T mo dr ds ad g) t) A) 4 30 A := by
  refine vx_ofW (cc := cX1_muster) (maxL := 3) (ret := (some .int)) (by decide) rfl ?_
  intro p e s m args below meth c s₁ B hml ht0 hv
  obtain ⟨rfl, hA, hP, hG, hD, hX⟩ := hv
  have hx := B.exec
  have hb := B.bytes
  have hr := B.returns
  have hts := atoms_spec (ws := wsX1_muster) B.pre
  have hown : s.vm.findClass RX1 = some m.cls := findClass_of_methodNamed B.named
  have hlocks := B.notSynchronized
  have hl := lv_entry ([.ref x, .int x0]) (n := 3) (Nat.le_of_ble_eq_true rfl)
  rw [lg_entry_eq]
  generalize (lg_sl ([.ref x, .int x0]) ++ List.replicate (3 - (lg_sl ([.ref x, .int x0])).length) Slot.unset).toArray = ls at hl ⊢
  have hl : lv_has ls 3 [(0, .ref x), (1, .int x0)] := hl
  have hS : va_S A s.heap s.heap [] := va_S.rf
  have hP : va_P D vwCl (cw x ln cA (nI (siz T)) (root T) mo dr ds (fun i => (keysT T)[i]?) ((keysT T)) ad g) s.heap := hP
  have hD : va_D A (cw x ln cA (nI (siz T)) (root T) mo dr ds (fun i => (keysT T)[i]?) ((keysT T)) ad g) := hD
  have hcl := hrep.cl
  obtain ⟨hb0, hin0, hsz, hs, hc, hK0⟩ := id hrep
  have hin := hrep.in1
  refine lv_iload_n hx hb dX1_muster_0 rfl (lv_at hl 1 rfl) ?_
  refine vx_callv (vx_runS (As := [.int x0]) (rest := []) ⟨hx, hb, hml, hown, hts⟩ (c_X1_refuseOddHeight l hst (x0 := x0)) (va_cwS 1 hts gX1_muster_X1_refuseOddHeight rfl rfl rfl (by decide +kernel) ⟨Nat.le_of_ble_eq_true rfl, Nat.le_of_ble_eq_true rfl⟩) ⟨PcX.blind, PcX.at hA hS hP hG hD hX⟩ rfl rfl hl.1 rfl (lv_room (Nat.le_of_ble_eq_true rfl)) dX1_muster_1 ⟨Nat.le_of_ble_eq_true rfl, Nat.le_of_ble_eq_true rfl⟩) hS (fun q _ h => h) (fun q h => h) (fun q _ h => h) (fun E ce q9 u t H locs ht hvm hpx hbx hz hk hS hce hcv hcl => ?_) (fun u t H locs ht hvm hpo hB hz1 hk1 hS => ?_)
  · obtain ⟨hodd, rfl, hP, hD⟩ := hbx
    rw [ht] at hP
    exact vx_out (fun x hx => (ht0 x hx).elim) hlocks hce hcv hcl (fun t ht hvm => ⟨(), trivial, ⟨Or.inl ⟨hodd, rfl⟩, by rw [ht]; exact hP, hD⟩, hS.F ht⟩) hS.2.2 (Nat.le_of_ble_eq_true rfl) (Nat.le_of_ble_eq_true rfl)
  obtain ⟨hP, -, hD⟩ := hB
  rw [ht] at hP
  obtain ⟨h0, hh0, rfl⟩ := oddH.not hpo
  have hl : lv_has ls 3 [(0, .ref x), (1, .int (nI h0))] := hl
  refine lv_aload_n hx hb dX1_muster_4 rfl (lv_at hl 0 rfl) ?_
  refine va_get (D := D) (ci := 1) (v := .int (nI (siz T))) (C := RX1) (T := TX1) (N := 6) hx hb hts (by decide +kernel) hown hG.1 hP 0 cw_x rfl 1 (by decide) (hts (.fieldLink RX1 19 "LopsidedRanks" "soldiers" "I") (by decide +kernel)) (fun _ h9 => h9) rfl dX1_muster_5 ?_
  refine lv_sipush (v := nI 150) hx hb dX1_muster_8 (by decide) ?_
  refine lv_icmp_ge (tgt := 22) hx hb dX1_muster_11 (by decide) (fun c11 => ?_) (fun c11 => ?_)
  · rw [nI_leI (by omega) (by omega)] at c11
    exact vx_throwS hx hb hst hown (cls := eIS) (text := "one of this height is there, or there are 150") (names := ["java/lang/RuntimeException", "java/lang/Exception"]) (by decide +kernel) (by decide +kernel) (hts (.classLink RX1 27 "java/lang/IllegalStateException") (by decide +kernel)) (hts (.initialized "java/lang/IllegalStateException") (by decide +kernel)) (hX.2.1.2.1) (vx_hat (L := vx_atS RX1 31 "java/lang/IllegalStateException" ["java/lang/RuntimeException", "java/lang/Exception"]) (B := [.castable eIS eIS, .declares (Bundle.initS "java/lang/RuntimeException"), .declares (Bundle.initS "java/lang/Exception"), .declares (Bundle.initS Bundle.tN)]) (fun w hw => hts w (List.mem_cons_of_mem _ (List.mem_append_left _ (List.mem_append_right _ hw)))) (by decide +kernel) (vx_c (va_Nw.use rfl hX.1.2.1) (vx_c (va_Nw.use rfl hX.1.2.2.2.1) (vx_c (va_Nw.use rfl hX.1.2.2.2.2.1) (vx_c (va_Nw.use rfl hX.1.2.2.2.2.2) vx_n))))) (by decide +kernel) hX.2.2.1 hX.2.2.2 hS (hl.1.trans hml.symm) dX1_muster_22 dX1_muster_25 dX1_muster_26 dX1_muster_28 dX1_muster_31 (fun x hx => (ht0 x hx).elim) (Nat.le_of_ble_eq_true rfl) (Nat.le_of_ble_eq_true rfl) (Nat.le_of_ble_eq_true rfl) (Nat.le_of_ble_eq_true rfl) hlocks (fun t hvm hz hk => ⟨(), trivial, ⟨Or.inr ⟨⟨oddH_nI hh0, Or.inl c11⟩, rfl⟩, BMx.new hP hD hk⟩, xF hS hz hk⟩) hS.2.2 (Nat.le_of_ble_eq_true rfl) (Nat.le_of_ble_eq_true rfl)
  · rw [nI_leI (by omega) (by omega)] at c11
    refine lv_aload_n hx hb dX1_muster_14 rfl (lv_at hl 0 rfl) ?_
    refine lv_iload_n hx hb dX1_muster_15 rfl (lv_at hl 1 rfl) ?_
    refine va_csq (va_Run.run (va_runV (As := [.int (nI h0)]) (rest := []) ⟨hx, hb, hml, hown, hts⟩ (c_X1_find l hh0 hs hin) (cwV 1 hts gX1_muster_X1_find rfl rfl rfl (by decide +kernel) ⟨Nat.le_of_ble_eq_true rfl, Nat.le_of_ble_eq_true rfl⟩) ⟨PcR.blind, va_recv hG.1 hP (ci := 1) (q0 := 0) rfl cw_x, PcR.at hP hG⟩ rfl rfl hl.1 rfl (lv_room (Nat.le_of_ble_eq_true rfl)) dX1_muster_16 ⟨Nat.le_of_ble_eq_true rfl, Nat.le_of_ble_eq_true rfl⟩)) (fun r16 q16 => ?_)
    subst q16
    refine zr_ifnull (tgt := 32) hx hb dX1_muster_19 (by decide) (fun c19 => ?_) (fun k19 c19 => ?_)
    · have hm : ¬ h0 ∈ keysT T := fun q => by rw [(subT_mem hb0).mpr q] at c19; cases c19
      obtain ⟨e1, e2, e3, e0, e4, e5, e6, e7⟩ := ins_facts hb0 hm
      obtain ⟨i1, i2, i3⟩ := ins_rep hrep hh0 hm (by omega)
      have i3c := i3.cl
      have hxy : (kl h0 T).length + (kr h0 T).length = siz T := by rw [← keys_len T, e1, List.length_append]
      have hxz : (kl h0 T).length + (kr h0 T).length + 1 = siz (insT h0 T) := by omega
      refine va_new (ci := 0) (C := RX0) (T := TX0) (N := 5) hx hb hts (by decide +kernel) tyX0 tyX0_ok hown (hts (.classLink RX1 9 RX0) (by decide +kernel)) (hts (.instantiable RX0 5) (by decide +kernel)) (hts (.initialized RX0) (by decide +kernel)) hG.1 hP hD hS hA rfl (fs := [.int 0, .null, .null, .null, .int 0]) (by decide) (Nat.le_of_ble_eq_true rfl) (Nat.le_of_ble_eq_true rfl) dX1_muster_32 (fun q0 H hP hD hS => ?_)
      skip
      refine lv_dup hx hb dX1_muster_35 rfl ?_
      refine lv_iload_n hx hb dX1_muster_36 rfl (lv_at hl 1 rfl) ?_
      refine va_callv (va_runI (As := [.int (nI h0)]) (b := q0) (rest := [.ref q0]) ⟨hx, hb, hml, hown, hts⟩ (c_X0_init l (q0 := q0) (h := h0)) (cwI 1 hts gX1_muster_X0_init rfl rfl rfl (hts (.initialized RX0) (by decide +kernel)) (hts (.methodLink RX1 34 yX0_init) (by decide +kernel)) (hts (.instanceMethod yX0_init) (by decide +kernel)) rfl (by decide +kernel) ⟨Nat.le_of_ble_eq_true rfl, Nat.le_of_ble_eq_true rfl⟩) ⟨PcM.blind, PcM.at (fun q h => hA q (Nat.le_trans hS.1 h)) hP hG hD⟩ rfl rfl hl.1 rfl (lv_room (Nat.le_of_ble_eq_true rfl)) dX1_muster_37 ⟨Nat.le_of_ble_eq_true rfl, Nat.le_of_ble_eq_true rfl⟩) hS (fun q _ h => h) (fun q h => h) (fun u37 t H locs ht hvm q37 hB hz1 hk1 hS => ?_)
      obtain ⟨hP9, -, hD9⟩ := hB
      rw [ht] at hP9
      have hpu := cw_push (x := x) (ln := ln) (cA := cA) (n := nI (siz T)) (tp := root T) (mo := mo) (dr := dr) (ds := ds) (li := fun i => (keysT T)[i]?) (K := keysT T) (ad := ad) (g := g) (h := h0) (q := q0) hm hcl (fun k e => root_in e) (fun i k e => List.mem_of_getElem? e)
      rw [hpu] at hP9 hD9
      obtain ⟨ad1, had⟩ : ∃ z, z = va_up ad h0 q0 := ⟨_, rfl⟩
      have hq0 : q0 = ad1 h0 := by rw [had, va_up_self]
      rw [← had] at hP9 hD9
      clear hpu had
      subst hq0
      have hP : va_P D vwCl (cw x ln cA (nI ((kl h0 T).length + (kr h0 T).length)) (root T) mo dr ds (fun i => ((kl h0 T) ++ (kr h0 T))[i]?) (keysT T ++ [h0]) ad1 (va_up g h0 nw)) H := by rw [hxy, ← e1]; exact hP9
      have hD : va_D A (cw x ln cA (nI ((kl h0 T).length + (kr h0 T).length)) (root T) mo dr ds (fun i => ((kl h0 T) ++ (kr h0 T))[i]?) (keysT T ++ [h0]) ad1 (va_up g h0 nw)) := by rw [hxy, ← e1]; exact hD9
      have hmh : h0 ∈ keysT T ++ [h0] := List.mem_append_right _ List.mem_cons_self
      have hmk : ∀ j ∈ keysT T, j ∈ keysT T ++ [h0] := fun j hj => List.mem_append_left _ hj
      refine lv_astore_n (lv' := [(2, .ref (ad1 h0)), (0, .ref x), (1, .int (nI h0))]) hx hb dX1_muster_40 rfl hl (by decide) rfl (fun ls hl => ?_)
      refine lv_aload_n hx hb dX1_muster_41 rfl (lv_at hl 1 rfl) ?_
      refine lv_aload_n hx hb dX1_muster_42 rfl (lv_at hl 0 rfl) ?_
      refine va_callv (va_runV (As := [.ref (ad1 h0)]) (rest := []) ⟨hx, hb, hml, hown, hts⟩ (c_X1_insertIntoLine l (xs := (kl h0 T)) (ys := (kr h0 T)) hmh hh0 (kl_lt hb0) (kr_gt hb0) (fun j hj => ⟨hmk j (by rw [e1]; exact hj), hin0 j (by rw [e1]; exact hj)⟩) (by omega)) (cwV 1 hts gX1_muster_X1_insertIntoLine rfl rfl rfl (by decide +kernel) ⟨Nat.le_of_ble_eq_true rfl, Nat.le_of_ble_eq_true rfl⟩) ⟨PcM.blind, va_recv hG.1 hP (ci := 1) (q0 := 0) rfl cw_x, PcM.at (fun q h => hA q (Nat.le_trans hS.1 h)) hP hG hD⟩ rfl rfl hl.1 rfl (lv_room (Nat.le_of_ble_eq_true rfl)) dX1_muster_43 ⟨Nat.le_of_ble_eq_true rfl, Nat.le_of_ble_eq_true rfl⟩) hS (fun q _ h => h) (fun q h => h) (fun u43 t H locs ht hvm q43 hB hz1 hk1 hS => ?_)
      obtain ⟨hP, -, hD⟩ := hB
      rw [ht] at hP
      have hP : va_P D vwCl (cw x ln cA (nI ((kl h0 T).length + (kr h0 T).length + 1)) (root T) mo dr ds (fun i => ((kl h0 T) ++ h0 :: (kr h0 T))[i]?) (keysT T ++ [h0]) ad1 (va_up g h0 nw)) H := hP
      have hD : va_D A (cw x ln cA (nI ((kl h0 T).length + (kr h0 T).length + 1)) (root T) mo dr ds (fun i => ((kl h0 T) ++ h0 :: (kr h0 T))[i]?) (keysT T ++ [h0]) ad1 (va_up g h0 nw)) := hD
      refine lv_aload_n hx hb dX1_muster_46 rfl (lv_at hl 1 rfl) ?_
      refine lv_aload_n hx hb dX1_muster_47 rfl (lv_at hl 1 rfl) ?_
      refine lv_iload_n hx hb dX1_muster_48 rfl (lv_at hl 2 rfl) ?_
      refine va_csq (va_Run.run (va_runV (As := [.int (nI h0)]) (rest := [.ref x]) ⟨hx, hb, hml, hown, hts⟩ (c_X1_lastOnTheWayTo l hh0 i1 (fun j hj => ⟨hmk j hj, hin0 j hj⟩) (by rw [e0]; rfl)) (cwV 1 hts gX1_muster_X1_lastOnTheWayTo rfl rfl rfl (by decide +kernel) ⟨Nat.le_of_ble_eq_true rfl, Nat.le_of_ble_eq_true rfl⟩) ⟨PcR.blind, va_recv hG.1 hP (ci := 1) (q0 := 0) rfl cw_x, PcR.at hP hG⟩ rfl rfl hl.1 rfl (lv_room (Nat.le_of_ble_eq_true rfl)) dX1_muster_49 ⟨Nat.le_of_ble_eq_true rfl, Nat.le_of_ble_eq_true rfl⟩)) (fun r49 q49 => ?_)
      subst q49
      refine lv_iload_n hx hb dX1_muster_52 rfl (lv_at hl 2 rfl) ?_
      refine lv_aload_n hx hb dX1_muster_53 rfl (lv_at hl 0 rfl) ?_
      refine va_callv (va_runV (As := [va_rf ((parF h0 none T).map ad1), .int (nI h0), .ref (ad1 h0)]) (rest := []) ⟨hx, hb, hml, hown, hts⟩ (c_X1_standBelow l (p0 := parF h0 none T) (r0 := some h0) (fun c e => hmk c (parF_mem e)) (fun c e => hin0 c (parF_mem e)) hh0 (fun c e => by cases e; exact hmh)) (cwV 3 hts gX1_muster_X1_standBelow rfl rfl rfl (by decide +kernel) ⟨Nat.le_of_ble_eq_true rfl, Nat.le_of_ble_eq_true rfl⟩) ⟨PcM.blind, va_recv hG.1 hP (ci := 1) (q0 := 0) rfl cw_x, PcM.at (fun q h => hA q (Nat.le_trans hS.1 h)) hP hG hD⟩ rfl rfl hl.1 rfl (lv_room (Nat.le_of_ble_eq_true rfl)) dX1_muster_54 ⟨Nat.le_of_ble_eq_true rfl, Nat.le_of_ble_eq_true rfl⟩) hS (fun q _ h => h) (fun q h => h) (fun u54 t H locs ht hvm q54 hB hz1 hk1 hS => ?_)
      obtain ⟨hP, -, hD⟩ := hB
      rw [ht] at hP
      have hP : va_P D vwCl (cw x ln cA (nI ((kl h0 T).length + (kr h0 T).length + 1)) (sbT (root T) (parF h0 none T) (some h0)) mo dr ds (fun i => ((kl h0 T) ++ h0 :: (kr h0 T))[i]?) (keysT T ++ [h0]) ad1 (sbG (va_up g h0 nw) (parF h0 none T) h0 (some h0))) H := hP
      have hD : va_D A (cw x ln cA (nI ((kl h0 T).length + (kr h0 T).length + 1)) (sbT (root T) (parF h0 none T) (some h0)) mo dr ds (fun i => ((kl h0 T) ++ h0 :: (kr h0 T))[i]?) (keysT T ++ [h0]) ad1 (sbG (va_up g h0 nw) (parF h0 none T) h0 (some h0))) := hD
      refine lv_aload_n hx hb dX1_muster_57 rfl (lv_at hl 0 rfl) ?_
      refine lv_iconst (v := nI 1) hx hb dX1_muster_58 (by decide) ?_
      refine va_callv (va_runS (As := [.ref (ad1 h0), .int (nI 1)]) (rest := []) ⟨hx, hb, hml, hown, hts⟩ (c_X1_addToCompaniesAbove l (k1 := h0) (d := nI 1) (ks := (anc h0 T).reverse) hmh i2 (fun j hj => hmk j (anc_in (List.mem_reverse.mp hj)))) (va_cwS 2 hts gX1_muster_X1_addToCompaniesAbove rfl rfl rfl (by decide +kernel) ⟨Nat.le_of_ble_eq_true rfl, Nat.le_of_ble_eq_true rfl⟩) ⟨PcM.blind, PcM.at (fun q h => hA q (Nat.le_trans hS.1 h)) hP hG hD⟩ rfl rfl hl.1 rfl (lv_room (Nat.le_of_ble_eq_true rfl)) dX1_muster_59 ⟨Nat.le_of_ble_eq_true rfl, Nat.le_of_ble_eq_true rfl⟩) hS (fun q _ h => h) (fun q h => h) (fun u59 t H locs ht hvm q59 hB hz1 hk1 hS => ?_)
      obtain ⟨hP, -, hD⟩ := hB
      rw [ht] at hP
      have hP : va_P D vwCl (cw x ln cA (nI ((kl h0 T).length + (kr h0 T).length + 1)) (sbT (root T) (parF h0 none T) (some h0)) mo dr ds (fun i => ((kl h0 T) ++ h0 :: (kr h0 T))[i]?) (keysT T ++ [h0]) ad1 (addG (nI 1) (anc h0 T).reverse (sbG (va_up g h0 nw) (parF h0 none T) h0 (some h0)))) H := hP
      have hD : va_D A (cw x ln cA (nI ((kl h0 T).length + (kr h0 T).length + 1)) (sbT (root T) (parF h0 none T) (some h0)) mo dr ds (fun i => ((kl h0 T) ++ h0 :: (kr h0 T))[i]?) (keysT T ++ [h0]) ad1 (addG (nI 1) (anc h0 T).reverse (sbG (va_up g h0 nw) (parF h0 none T) h0 (some h0)))) := hD
      rw [show sbT (root T) (parF h0 none T) (some h0) = root (insT h0 T) from sbT_root (t := nd_ lf_ h0 lf_)] at hP hD
      obtain ⟨g3, hg3⟩ : ∃ z, z = addG (nI 1) (anc h0 T).reverse (sbG (va_up g h0 nw) (parF h0 none T) h0 (some h0)) := ⟨_, rfl⟩
      rw [← hg3] at hP hD i3 i3c
      have hP : va_P D vwCl (cw x ln cA (nI (siz (insT h0 T))) (root (insT h0 T)) mo dr ds (fun i => (keysT (insT h0 T))[i]?) (keysT T ++ [h0]) ad1 g3) H := by rw [← hxz, e2]; exact hP
      have hD : va_D A (cw x ln cA (nI (siz (insT h0 T))) (root (insT h0 T)) mo dr ds (fun i => (keysT (insT h0 T))[i]?) (keysT T ++ [h0]) ad1 g3) := by rw [← hxz, e2]; exact hD
      have hs3 : ShP g3 none (insT h0 T) := i3.2.2.2.1
      have hup3 : UpC g3 (g3 h0).1 (anc h0 T).reverse := by
        have q1 := UpC_top (h := h0) hs3
        rw [e5, e4] at q1
        rw [above_eq hs3 ((subT_mem e6).mpr ((e7 h0).mpr (Or.inr rfl))), e5]
        exact q1
      have hanK : ∀ j ∈ (anc h0 T).reverse, j ∈ keysT T ++ [h0] := fun j hj => hmk j (anc_in (List.mem_reverse.mp hj))
      have hal := anc_len (h := h0) (T := T)
      have hl1 := lim_pos (n := siz T + 1) (by omega)
      have hl2 := (lim_spec (n := siz T + 1) (by omega)).1
      refine lv_aload_n hx hb dX1_muster_62 rfl (lv_at hl 1 rfl) ?_
      refine va_get (D := D) (ci := 1) (v := .int (nI (siz (insT h0 T)))) (C := RX1) (T := TX1) (N := 6) hx hb hts (by decide +kernel) hown hG.1 hP 0 cw_x rfl 1 (by decide) (hts (.fieldLink RX1 19 "LopsidedRanks" "soldiers" "I") (by decide +kernel)) (fun _ h9 => h9) rfl dX1_muster_63 ?_
      refine lv_aload_n hx hb dX1_muster_66 rfl (lv_at hl 1 rfl) ?_
      refine va_get (D := D) (ci := 1) (v := .int mo) (C := RX1) (T := TX1) (N := 6) hx hb hts (by decide +kernel) hown hG.1 hP 0 cw_x rfl 3 (by decide) (hts (.fieldLink RX1 51 "LopsidedRanks" "most" "I") (by decide +kernel)) (fun _ h9 => h9) rfl dX1_muster_67 ?_
      refine lv_icmp_le (tgt := 81) hx hb dX1_muster_70 (by decide) (fun c70 => ?_) (fun c70 => ?_)
      · have em : moM mo (nI (siz T + 1)) = mo := by unfold moM; rw [← e3]; exact if_pos c70
        have hP : va_P D vwCl (cw x ln cA (nI (siz (insT h0 T))) (root (insT h0 T)) (moM mo (nI (siz T + 1))) dr ds (fun i => (keysT (insT h0 T))[i]?) (keysT T ++ [h0]) ad1 g3) H := by rw [em]; exact hP
        have hD : va_D A (cw x ln cA (nI (siz (insT h0 T))) (root (insT h0 T)) (moM mo (nI (siz T + 1))) dr ds (fun i => (keysT (insT h0 T))[i]?) (keysT T ++ [h0]) ad1 g3) := by rw [em]; exact hD
        refine lv_aload_n hx hb dX1_muster_81 rfl (lv_at hl 0 rfl) ?_
        obtain ⟨i0, hi0⟩ := cw_s (x := x) (ln := ln) (cA := cA) (n := nI (siz (insT h0 T))) (tp := root (insT h0 T)) (mo := moM mo (nI (siz T + 1))) (dr := dr) (ds := ds) (li := fun i => (keysT (insT h0 T))[i]?) (ad := ad1) (g := g3) (hmh : h0 ∈ keysT T ++ [h0])
        refine vp_callSi (va_Run.run (va_runV (As := []) (rest := []) ⟨hx, hb, hml, hown, hts⟩ (c_X0_depth l (ks := (anc h0 T).reverse) hmh hup3 hanK) (cwV 0 hts gX1_muster_X0_depth rfl rfl rfl (by decide +kernel) ⟨Nat.le_of_ble_eq_true rfl, Nat.le_of_ble_eq_true rfl⟩) ⟨PcR.blind, va_recv hG.1 hP (ci := 0) (q0 := i0) rfl hi0, PcR.at hP hG⟩ rfl rfl hl.1 rfl (lv_room (Nat.le_of_ble_eq_true rfl)) dX1_muster_82 ⟨Nat.le_of_ble_eq_true rfl, Nat.le_of_ble_eq_true rfl⟩)) (fun r82 q82 => ?_)
        subst q82
        refine zr_eqi (congrArg nI List.length_reverse) ?_
        refine lv_aload_n hx hb dX1_muster_85 rfl (lv_at hl 1 rfl) ?_
        refine va_get (D := D) (ci := 1) (v := .int (nI (siz (insT h0 T)))) (C := RX1) (T := TX1) (N := 6) hx hb hts (by decide +kernel) hown hG.1 hP 0 cw_x rfl 1 (by decide) (hts (.fieldLink RX1 19 "LopsidedRanks" "soldiers" "I") (by decide +kernel)) (fun _ h9 => h9) rfl dX1_muster_86 ?_
        refine vp_callSi (va_Run.run (va_runS (As := [.int (nI (siz (insT h0 T)))]) (rest := [.int (nI ((anc h0 T).length))]) ⟨hx, hb, hml, hown, hts⟩ (c_X1_allowedDepth l (n := siz (insT h0 T)) (by omega)) (va_cwS 1 hts gX1_muster_X1_allowedDepth rfl rfl rfl (by decide +kernel) ⟨Nat.le_of_ble_eq_true rfl, Nat.le_of_ble_eq_true rfl⟩) ⟨PcT.blind, PcT.at⟩ rfl rfl hl.1 rfl (lv_room (Nat.le_of_ble_eq_true rfl)) dX1_muster_89 ⟨Nat.le_of_ble_eq_true rfl, Nat.le_of_ble_eq_true rfl⟩)) (fun r89 q89 => ?_)
        subst q89
        refine zr_eqi (show pd (lim (siz (insT h0 T))) = nI (lim (siz T + 1) - 1) from by rw [e3, show lim (siz T + 1) = (lim (siz T + 1) - 1) + 1 by omega]; exact pd_s _) ?_
        refine lv_icmp_le (tgt := 104) hx hb dX1_muster_92 (by decide) (fun c92 => ?_) (fun c92 => ?_)
        · rw [nI_leI (by omega) (by omega)] at c92
          have hmc : mcT T h0 = none := if_pos (show (anc h0 T).length + 1 ≤ lim (siz T + 1) by omega)
          have hmu := musS_n (mo := mo) (dr := dr) (ds := ds) hmc
          have hup5 : UpC g3 (g3 h0).1 (anc h0 (insT h0 T)).reverse := by rw [e4]; exact hup3
          have hr5 := i3
          obtain ⟨hP5, hD5⟩ := cw_sub (K' := keysT (insT h0 T)) hP hD (fun k hk => (i3.2.2.2.2.2 k).mpr hk) (bst_nodup e6)
          refine lv_aload_n hx hb dX1_muster_104 rfl (lv_at hl 0 rfl) ?_
          obtain ⟨i1, hi1⟩ := cw_s (x := x) (ln := ln) (cA := cA) (n := nI (siz (insT h0 T))) (tp := root (insT h0 T)) (mo := moM mo (nI (siz T + 1))) (dr := dr) (ds := ds) (li := fun i => (keysT (insT h0 T))[i]?) (ad := ad1) (g := g3) (hmh : h0 ∈ keysT T ++ [h0])
          refine vp_callSi (va_Run.run (va_runV (As := []) (rest := []) ⟨hx, hb, hml, hown, hts⟩ (c_X0_depth l (ks := (anc h0 (insT h0 T)).reverse) hmh hup5 (fun j hj => (hr5.2.2.2.2.2 j).mpr (anc_in (List.mem_reverse.mp hj)))) (cwV 0 hts gX1_muster_X0_depth rfl rfl rfl (by decide +kernel) ⟨Nat.le_of_ble_eq_true rfl, Nat.le_of_ble_eq_true rfl⟩) ⟨PcR.blind, va_recv hG.1 hP (ci := 0) (q0 := i1) rfl hi1, PcR.at hP hG⟩ rfl rfl hl.1 rfl (lv_room (Nat.le_of_ble_eq_true rfl)) dX1_muster_105 ⟨Nat.le_of_ble_eq_true rfl, Nat.le_of_ble_eq_true rfl⟩)) (fun r105 q105 => ?_)
          subst q105
          refine zr_eqi (congrArg nI List.length_reverse) ?_
          have ek := kx_nI (show h0 < 2 ^ 31 by omega)
          refine W.widen (k := 4) (n := 30) (Nat.le_of_ble_eq_true rfl) (Nat.le_of_ble_eq_true rfl) ?_
          exact vx_ret (W.iret (v := (nI ((anc h0 (insT h0 T)).length))) hx hb hr (fun t ht hW => ⟨⟨_, (ad1, g3), rfl, ⟨⟨oddH_nI hh0, by omega, by rw [ek]; exact hm, by rw [ek, hmu]⟩, by rw [ek, hmu]; exact hr5.own⟩, by rw [ht]; exact by rw [ek, hmu]; exact hP5, hG.moved hW, by rw [ek, hmu]; exact hD5⟩, hS.F ht⟩) hS.2.2 dX1_muster_108)
        · rw [nI_leI (by omega) (by omega)] at c92
          have hmc0 : mcT T h0 = (h0 :: (anc h0 T).reverse).find? (crT (insT h0 T)) := if_neg (show ¬ (anc h0 T).length + 1 ≤ lim (siz T + 1) by omega)
          refine lv_aload_n hx hb dX1_muster_95 rfl (lv_at hl 1 rfl) ?_
          refine lv_aload_n hx hb dX1_muster_96 rfl (lv_at hl 0 rfl) ?_
          refine va_csq (va_Run.run (va_runS (As := [.ref (ad1 h0)]) (rest := [.ref x]) ⟨hx, hb, hml, hown, hts⟩ (c_X1_firstCrookedFrom l (p0 := some h0) (ks := h0 :: (anc h0 T).reverse) (pr := crT (insT h0 T)) i3c ⟨rfl, hup3⟩ (fun j hj => by
              have hjT : j ∈ keysT (insT h0 T) := (e7 j).mpr (by
                rcases List.mem_cons.mp hj with q | q
                · exact Or.inr q
                · exact Or.inl (anc_in (List.mem_reverse.mp q)))
              obtain ⟨sz, v, lt, rt, esub, p1, p2, p3, p4, p5, p6, p7, p8⟩ := i3.at hjT
              have hss := sub_siz (h := j) (T := insT h0 T)
              rw [esub] at hss
              simp only [siz] at hss
              exact ⟨(i3.in1 j hjT).1, siz lt, siz rt, by rw [p2]; exact co_root p7, by rw [p3]; exact co_root p8, by omega, by omega, by simp only [crT, esub]⟩)) (va_cwS 1 hts gX1_muster_X1_firstCrookedFrom rfl rfl rfl (by decide +kernel) ⟨Nat.le_of_ble_eq_true rfl, Nat.le_of_ble_eq_true rfl⟩) ⟨PcR.blind, PcR.at hP hG⟩ rfl rfl hl.1 rfl (lv_room (Nat.le_of_ble_eq_true rfl)) dX1_muster_97 ⟨Nat.le_of_ble_eq_true rfl, Nat.le_of_ble_eq_true rfl⟩)) (fun r97 q97 => ?_)
          subst q97
          cases efc : (h0 :: (anc h0 T).reverse).find? (crT (insT h0 T)) with
          | none =>
            have hmc : mcT T h0 = none := hmc0.trans efc
            refine va_callq (va_runV (As := [.null]) (rest := []) ⟨hx, hb, hml, hown, hts⟩ (c_X1_drawUpN l) (cwV 1 hts gX1_muster_X1_drawUp rfl rfl rfl (by decide +kernel) ⟨Nat.le_of_ble_eq_true rfl, Nat.le_of_ble_eq_true rfl⟩) ⟨PcM.blind, va_recv hG.1 hP (ci := 1) (q0 := 0) rfl cw_x, PcM.at (fun q h => hA q (Nat.le_trans hS.1 h)) hP hG hD⟩ rfl rfl hl.1 rfl (lv_room (Nat.le_of_ble_eq_true rfl)) dX1_muster_100 ⟨Nat.le_of_ble_eq_true rfl, Nat.le_of_ble_eq_true rfl⟩) hS (fun q _ h => h) (fun q h => h) (fun r100 u100 t H locs ht hvm q100 hB hz1 hk1 hS => ?_)
            obtain ⟨hP, -, hD⟩ := hB
            rw [ht] at hP
            have hP : va_P D vwCl (cw x ln cA (nI (siz (insT h0 T))) (root (insT h0 T)) (moM mo (nI (siz T + 1))) dr ds (fun i => (keysT (insT h0 T))[i]?) (keysT T ++ [h0]) ad1 g3) H := hP
            have hD : va_D A (cw x ln cA (nI (siz (insT h0 T))) (root (insT h0 T)) (moM mo (nI (siz T + 1))) dr ds (fun i => (keysT (insT h0 T))[i]?) (keysT T ++ [h0]) ad1 g3) := hD
            subst q100
            refine lv_pop hx hb dX1_muster_103 rfl ?_
            have hmu := musS_n (mo := mo) (dr := dr) (ds := ds) hmc
            have hup5 : UpC g3 (g3 h0).1 (anc h0 (insT h0 T)).reverse := by rw [e4]; exact hup3
            have hr5 := i3
            obtain ⟨hP5, hD5⟩ := cw_sub (K' := keysT (insT h0 T)) hP hD (fun k hk => (i3.2.2.2.2.2 k).mpr hk) (bst_nodup e6)
            refine lv_aload_n hx hb dX1_muster_104 rfl (lv_at hl 0 rfl) ?_
            obtain ⟨i2, hi2⟩ := cw_s (x := x) (ln := ln) (cA := cA) (n := nI (siz (insT h0 T))) (tp := root (insT h0 T)) (mo := moM mo (nI (siz T + 1))) (dr := dr) (ds := ds) (li := fun i => (keysT (insT h0 T))[i]?) (ad := ad1) (g := g3) (hmh : h0 ∈ keysT T ++ [h0])
            refine vp_callSi (va_Run.run (va_runV (As := []) (rest := []) ⟨hx, hb, hml, hown, hts⟩ (c_X0_depth l (ks := (anc h0 (insT h0 T)).reverse) hmh hup5 (fun j hj => (hr5.2.2.2.2.2 j).mpr (anc_in (List.mem_reverse.mp hj)))) (cwV 0 hts gX1_muster_X0_depth rfl rfl rfl (by decide +kernel) ⟨Nat.le_of_ble_eq_true rfl, Nat.le_of_ble_eq_true rfl⟩) ⟨PcR.blind, va_recv hG.1 hP (ci := 0) (q0 := i2) rfl hi2, PcR.at hP hG⟩ rfl rfl hl.1 rfl (lv_room (Nat.le_of_ble_eq_true rfl)) dX1_muster_105 ⟨Nat.le_of_ble_eq_true rfl, Nat.le_of_ble_eq_true rfl⟩)) (fun r105 q105 => ?_)
            subst q105
            refine zr_eqi (congrArg nI List.length_reverse) ?_
            have ek := kx_nI (show h0 < 2 ^ 31 by omega)
            refine W.widen (k := 4) (n := 30) (Nat.le_of_ble_eq_true rfl) (Nat.le_of_ble_eq_true rfl) ?_
            exact vx_ret (W.iret (v := (nI ((anc h0 (insT h0 T)).length))) hx hb hr (fun t ht hW => ⟨⟨_, (ad1, g3), rfl, ⟨⟨oddH_nI hh0, by omega, by rw [ek]; exact hm, by rw [ek, hmu]⟩, by rw [ek, hmu]; exact hr5.own⟩, by rw [ht]; exact by rw [ek, hmu]; exact hP5, hG.moved hW, by rw [ek, hmu]; exact hD5⟩, hS.F ht⟩) hS.2.2 dX1_muster_108)
          | some c0 =>
            have hmc : mcT T h0 = some c0 := hmc0.trans efc
            have hcT : c0 ∈ keysT (insT h0 T) := (e7 c0).mpr (by
              rcases List.mem_cons.mp (List.mem_of_find?_eq_some efc) with q | q
              · exact Or.inr q
              · exact Or.inl (anc_in (List.mem_reverse.mp q)))
            obtain ⟨k1, k2⟩ := draw_keys (c := c0) i3.2.2.1
            refine va_callq (va_runV (As := [.ref (ad1 c0)]) (rest := []) ⟨hx, hb, hml, hown, hts⟩ (c_X1_drawUp l i3 hcT) (cwV 1 hts gX1_muster_X1_drawUp rfl rfl rfl (by decide +kernel) ⟨Nat.le_of_ble_eq_true rfl, Nat.le_of_ble_eq_true rfl⟩) ⟨PcM.blind, va_recv hG.1 hP (ci := 1) (q0 := 0) rfl cw_x, PcM.at (fun q h => hA q (Nat.le_trans hS.1 h)) hP hG hD⟩ rfl rfl hl.1 rfl (lv_room (Nat.le_of_ble_eq_true rfl)) dX1_muster_100 ⟨Nat.le_of_ble_eq_true rfl, Nat.le_of_ble_eq_true rfl⟩) hS (fun q _ h => h) (fun q h => h) (fun r100 g4 t H locs ht hvm q100 hB hz1 hk1 hS => ?_)
            obtain ⟨hP, -, hD⟩ := hB
            rw [ht] at hP
            have hP : va_P D vwCl (cw x ln cA (nI (siz (insT h0 T))) (root (drawT c0 (insT h0 T))) (moD (insT h0 T) c0 (moM mo (nI (siz T + 1)))) (dr + nI 1) (ds + nI (siz (subT c0 (insT h0 T)))) (fun i => (keysT (insT h0 T))[i]?) (keysT T ++ [h0]) ad1 g4) H := hP
            have hD : va_D A (cw x ln cA (nI (siz (insT h0 T))) (root (drawT c0 (insT h0 T))) (moD (insT h0 T) c0 (moM mo (nI (siz T + 1)))) (dr + nI 1) (ds + nI (siz (subT c0 (insT h0 T)))) (fun i => (keysT (insT h0 T))[i]?) (keysT T ++ [h0]) ad1 g4) := hD
            obtain ⟨rfl, hr4⟩ := q100
            refine lv_pop hx hb dX1_muster_103 (zr_cat _) ?_
            have hmu := musS_s (mo := mo) (dr := dr) (ds := ds) hmc
            have hs5 : ShP g4 none (drawT c0 (insT h0 T)) := hr4.2.2.2.1
            have hup5 : UpC g4 (g4 h0).1 (anc h0 (drawT c0 (insT h0 T))).reverse := by
              rw [above_eq hs5 ((subT_mem hr4.1).mpr ((hr4.2.2.2.2.2 h0).mp hmh))]
              exact UpC_top hs5
            have hr5 := hr4
            obtain ⟨hP5, hD5⟩ := cw_sub (K' := keysT (drawT c0 (insT h0 T))) hP hD (fun k hk => (hr4.2.2.2.2.2 k).mpr hk) (bst_nodup hr4.1)
            refine lv_aload_n hx hb dX1_muster_104 rfl (lv_at hl 0 rfl) ?_
            obtain ⟨i3, hi3⟩ := cw_s (x := x) (ln := ln) (cA := cA) (n := nI (siz (insT h0 T))) (tp := root (drawT c0 (insT h0 T))) (mo := moD (insT h0 T) c0 (moM mo (nI (siz T + 1)))) (dr := dr + nI 1) (ds := ds + nI (siz (subT c0 (insT h0 T)))) (li := fun i => (keysT (insT h0 T))[i]?) (ad := ad1) (g := g4) (hmh : h0 ∈ keysT T ++ [h0])
            refine vp_callSi (va_Run.run (va_runV (As := []) (rest := []) ⟨hx, hb, hml, hown, hts⟩ (c_X0_depth l (ks := (anc h0 (drawT c0 (insT h0 T))).reverse) hmh hup5 (fun j hj => (hr5.2.2.2.2.2 j).mpr (anc_in (List.mem_reverse.mp hj)))) (cwV 0 hts gX1_muster_X0_depth rfl rfl rfl (by decide +kernel) ⟨Nat.le_of_ble_eq_true rfl, Nat.le_of_ble_eq_true rfl⟩) ⟨PcR.blind, va_recv hG.1 hP (ci := 0) (q0 := i3) rfl hi3, PcR.at hP hG⟩ rfl rfl hl.1 rfl (lv_room (Nat.le_of_ble_eq_true rfl)) dX1_muster_105 ⟨Nat.le_of_ble_eq_true rfl, Nat.le_of_ble_eq_true rfl⟩)) (fun r105 q105 => ?_)
            subst q105
            refine zr_eqi (congrArg nI List.length_reverse) ?_
            have ek := kx_nI (show h0 < 2 ^ 31 by omega)
            rw [k1] at hP5 hD5
            refine W.widen (k := 4) (n := 30) (Nat.le_of_ble_eq_true rfl) (Nat.le_of_ble_eq_true rfl) ?_
            exact vx_ret (W.iret (v := (nI ((anc h0 (drawT c0 (insT h0 T))).length))) hx hb hr (fun t ht hW => ⟨⟨_, (ad1, g4), rfl, ⟨⟨oddH_nI hh0, by omega, by rw [ek]; exact hm, by rw [ek, hmu]⟩, by rw [ek, hmu]; exact hr5.own⟩, by rw [ht]; exact by rw [ek, hmu]; unfold CWT; rw [k1, k2]; exact hP5, hG.moved hW, by rw [ek, hmu]; unfold CWT; rw [k1, k2]; exact hD5⟩, hS.F ht⟩) hS.2.2 dX1_muster_108)
      · refine lv_aload_n hx hb dX1_muster_73 rfl (lv_at hl 1 rfl) ?_
        refine lv_aload_n hx hb dX1_muster_74 rfl (lv_at hl 1 rfl) ?_
        refine va_get (D := D) (ci := 1) (v := .int (nI (siz (insT h0 T)))) (C := RX1) (T := TX1) (N := 6) hx hb hts (by decide +kernel) hown hG.1 hP 0 cw_x rfl 1 (by decide) (hts (.fieldLink RX1 19 "LopsidedRanks" "soldiers" "I") (by decide +kernel)) (fun _ h9 => h9) rfl dX1_muster_75 ?_
        refine va_put (D := D) (ci := 1) (v := .int (nI (siz (insT h0 T)))) (ty := .int) (C := RX1) (T := TX1) (N := 6) hx hb hts (by decide +kernel) tyX1 tyX1_ok nmX1 hown hG.1 hP hD hS 0 cw_x rfl 3 (by decide) (hts (.fieldLink RX1 51 "LopsidedRanks" "most" "I") (by decide +kernel)) (fun _ h9 => h9) rfl (by decide +kernel) rfl rfl (Nat.le_of_ble_eq_true rfl) dX1_muster_78 (fun H locs hP hD hS => ?_)
        have hP : va_P D vwCl (cw x ln cA (nI (siz (insT h0 T))) (root (insT h0 T)) ((nI (siz (insT h0 T)))) dr ds (fun i => (keysT (insT h0 T))[i]?) (keysT T ++ [h0]) ad1 g3) H := hP
        have hD : va_D A (cw x ln cA (nI (siz (insT h0 T))) (root (insT h0 T)) ((nI (siz (insT h0 T)))) dr ds (fun i => (keysT (insT h0 T))[i]?) (keysT T ++ [h0]) ad1 g3) := hD
        have em : moM mo (nI (siz T + 1)) = (nI (siz (insT h0 T))) := by unfold moM; rw [← e3]; exact if_neg c70
        have hP : va_P D vwCl (cw x ln cA (nI (siz (insT h0 T))) (root (insT h0 T)) (moM mo (nI (siz T + 1))) dr ds (fun i => (keysT (insT h0 T))[i]?) (keysT T ++ [h0]) ad1 g3) H := by rw [em]; exact hP
        have hD : va_D A (cw x ln cA (nI (siz (insT h0 T))) (root (insT h0 T)) (moM mo (nI (siz T + 1))) dr ds (fun i => (keysT (insT h0 T))[i]?) (keysT T ++ [h0]) ad1 g3) := by rw [em]; exact hD
        refine lv_aload_n hx hb dX1_muster_81 rfl (lv_at hl 0 rfl) ?_
        obtain ⟨i4, hi4⟩ := cw_s (x := x) (ln := ln) (cA := cA) (n := nI (siz (insT h0 T))) (tp := root (insT h0 T)) (mo := moM mo (nI (siz T + 1))) (dr := dr) (ds := ds) (li := fun i => (keysT (insT h0 T))[i]?) (ad := ad1) (g := g3) (hmh : h0 ∈ keysT T ++ [h0])
        refine vp_callSi (va_Run.run (va_runV (As := []) (rest := []) ⟨hx, hb, hml, hown, hts⟩ (c_X0_depth l (ks := (anc h0 T).reverse) hmh hup3 hanK) (cwV 0 hts gX1_muster_X0_depth rfl rfl rfl (by decide +kernel) ⟨Nat.le_of_ble_eq_true rfl, Nat.le_of_ble_eq_true rfl⟩) ⟨PcR.blind, va_recv hG.1 hP (ci := 0) (q0 := i4) rfl hi4, PcR.at hP hG⟩ rfl rfl hl.1 rfl (lv_room (Nat.le_of_ble_eq_true rfl)) dX1_muster_82 ⟨Nat.le_of_ble_eq_true rfl, Nat.le_of_ble_eq_true rfl⟩)) (fun r82 q82 => ?_)
        subst q82
        refine zr_eqi (congrArg nI List.length_reverse) ?_
        refine lv_aload_n hx hb dX1_muster_85 rfl (lv_at hl 1 rfl) ?_
        refine va_get (D := D) (ci := 1) (v := .int (nI (siz (insT h0 T)))) (C := RX1) (T := TX1) (N := 6) hx hb hts (by decide +kernel) hown hG.1 hP 0 cw_x rfl 1 (by decide) (hts (.fieldLink RX1 19 "LopsidedRanks" "soldiers" "I") (by decide +kernel)) (fun _ h9 => h9) rfl dX1_muster_86 ?_
        refine vp_callSi (va_Run.run (va_runS (As := [.int (nI (siz (insT h0 T)))]) (rest := [.int (nI ((anc h0 T).length))]) ⟨hx, hb, hml, hown, hts⟩ (c_X1_allowedDepth l (n := siz (insT h0 T)) (by omega)) (va_cwS 1 hts gX1_muster_X1_allowedDepth rfl rfl rfl (by decide +kernel) ⟨Nat.le_of_ble_eq_true rfl, Nat.le_of_ble_eq_true rfl⟩) ⟨PcT.blind, PcT.at⟩ rfl rfl hl.1 rfl (lv_room (Nat.le_of_ble_eq_true rfl)) dX1_muster_89 ⟨Nat.le_of_ble_eq_true rfl, Nat.le_of_ble_eq_true rfl⟩)) (fun r89 q89 => ?_)
        subst q89
        refine zr_eqi (show pd (lim (siz (insT h0 T))) = nI (lim (siz T + 1) - 1) from by rw [e3, show lim (siz T + 1) = (lim (siz T + 1) - 1) + 1 by omega]; exact pd_s _) ?_
        refine lv_icmp_le (tgt := 104) hx hb dX1_muster_92 (by decide) (fun c92 => ?_) (fun c92 => ?_)
        · rw [nI_leI (by omega) (by omega)] at c92
          have hmc : mcT T h0 = none := if_pos (show (anc h0 T).length + 1 ≤ lim (siz T + 1) by omega)
          have hmu := musS_n (mo := mo) (dr := dr) (ds := ds) hmc
          have hup5 : UpC g3 (g3 h0).1 (anc h0 (insT h0 T)).reverse := by rw [e4]; exact hup3
          have hr5 := i3
          obtain ⟨hP5, hD5⟩ := cw_sub (K' := keysT (insT h0 T)) hP hD (fun k hk => (i3.2.2.2.2.2 k).mpr hk) (bst_nodup e6)
          refine lv_aload_n hx hb dX1_muster_104 rfl (lv_at hl 0 rfl) ?_
          obtain ⟨i5, hi5⟩ := cw_s (x := x) (ln := ln) (cA := cA) (n := nI (siz (insT h0 T))) (tp := root (insT h0 T)) (mo := moM mo (nI (siz T + 1))) (dr := dr) (ds := ds) (li := fun i => (keysT (insT h0 T))[i]?) (ad := ad1) (g := g3) (hmh : h0 ∈ keysT T ++ [h0])
          refine vp_callSi (va_Run.run (va_runV (As := []) (rest := []) ⟨hx, hb, hml, hown, hts⟩ (c_X0_depth l (ks := (anc h0 (insT h0 T)).reverse) hmh hup5 (fun j hj => (hr5.2.2.2.2.2 j).mpr (anc_in (List.mem_reverse.mp hj)))) (cwV 0 hts gX1_muster_X0_depth rfl rfl rfl (by decide +kernel) ⟨Nat.le_of_ble_eq_true rfl, Nat.le_of_ble_eq_true rfl⟩) ⟨PcR.blind, va_recv hG.1 hP (ci := 0) (q0 := i5) rfl hi5, PcR.at hP hG⟩ rfl rfl hl.1 rfl (lv_room (Nat.le_of_ble_eq_true rfl)) dX1_muster_105 ⟨Nat.le_of_ble_eq_true rfl, Nat.le_of_ble_eq_true rfl⟩)) (fun r105 q105 => ?_)
          subst q105
          refine zr_eqi (congrArg nI List.length_reverse) ?_
          have ek := kx_nI (show h0 < 2 ^ 31 by omega)
          refine W.widen (k := 4) (n := 30) (Nat.le_of_ble_eq_true rfl) (Nat.le_of_ble_eq_true rfl) ?_
          exact vx_ret (W.iret (v := (nI ((anc h0 (insT h0 T)).length))) hx hb hr (fun t ht hW => ⟨⟨_, (ad1, g3), rfl, ⟨⟨oddH_nI hh0, by omega, by rw [ek]; exact hm, by rw [ek, hmu]⟩, by rw [ek, hmu]; exact hr5.own⟩, by rw [ht]; exact by rw [ek, hmu]; exact hP5, hG.moved hW, by rw [ek, hmu]; exact hD5⟩, hS.F ht⟩) hS.2.2 dX1_muster_108)
        · rw [nI_leI (by omega) (by omega)] at c92
          have hmc0 : mcT T h0 = (h0 :: (anc h0 T).reverse).find? (crT (insT h0 T)) := if_neg (show ¬ (anc h0 T).length + 1 ≤ lim (siz T + 1) by omega)
          refine lv_aload_n hx hb dX1_muster_95 rfl (lv_at hl 1 rfl) ?_
          refine lv_aload_n hx hb dX1_muster_96 rfl (lv_at hl 0 rfl) ?_
          refine va_csq (va_Run.run (va_runS (As := [.ref (ad1 h0)]) (rest := [.ref x]) ⟨hx, hb, hml, hown, hts⟩ (c_X1_firstCrookedFrom l (p0 := some h0) (ks := h0 :: (anc h0 T).reverse) (pr := crT (insT h0 T)) i3c ⟨rfl, hup3⟩ (fun j hj => by
              have hjT : j ∈ keysT (insT h0 T) := (e7 j).mpr (by
                rcases List.mem_cons.mp hj with q | q
                · exact Or.inr q
                · exact Or.inl (anc_in (List.mem_reverse.mp q)))
              obtain ⟨sz, v, lt, rt, esub, p1, p2, p3, p4, p5, p6, p7, p8⟩ := i3.at hjT
              have hss := sub_siz (h := j) (T := insT h0 T)
              rw [esub] at hss
              simp only [siz] at hss
              exact ⟨(i3.in1 j hjT).1, siz lt, siz rt, by rw [p2]; exact co_root p7, by rw [p3]; exact co_root p8, by omega, by omega, by simp only [crT, esub]⟩)) (va_cwS 1 hts gX1_muster_X1_firstCrookedFrom rfl rfl rfl (by decide +kernel) ⟨Nat.le_of_ble_eq_true rfl, Nat.le_of_ble_eq_true rfl⟩) ⟨PcR.blind, PcR.at hP hG⟩ rfl rfl hl.1 rfl (lv_room (Nat.le_of_ble_eq_true rfl)) dX1_muster_97 ⟨Nat.le_of_ble_eq_true rfl, Nat.le_of_ble_eq_true rfl⟩)) (fun r97 q97 => ?_)
          subst q97
          cases efc : (h0 :: (anc h0 T).reverse).find? (crT (insT h0 T)) with
          | none =>
            have hmc : mcT T h0 = none := hmc0.trans efc
            refine va_callq (va_runV (As := [.null]) (rest := []) ⟨hx, hb, hml, hown, hts⟩ (c_X1_drawUpN l) (cwV 1 hts gX1_muster_X1_drawUp rfl rfl rfl (by decide +kernel) ⟨Nat.le_of_ble_eq_true rfl, Nat.le_of_ble_eq_true rfl⟩) ⟨PcM.blind, va_recv hG.1 hP (ci := 1) (q0 := 0) rfl cw_x, PcM.at (fun q h => hA q (Nat.le_trans hS.1 h)) hP hG hD⟩ rfl rfl hl.1 rfl (lv_room (Nat.le_of_ble_eq_true rfl)) dX1_muster_100 ⟨Nat.le_of_ble_eq_true rfl, Nat.le_of_ble_eq_true rfl⟩) hS (fun q _ h => h) (fun q h => h) (fun r100 u100 t H locs ht hvm q100 hB hz1 hk1 hS => ?_)
            obtain ⟨hP, -, hD⟩ := hB
            rw [ht] at hP
            have hP : va_P D vwCl (cw x ln cA (nI (siz (insT h0 T))) (root (insT h0 T)) (moM mo (nI (siz T + 1))) dr ds (fun i => (keysT (insT h0 T))[i]?) (keysT T ++ [h0]) ad1 g3) H := hP
            have hD : va_D A (cw x ln cA (nI (siz (insT h0 T))) (root (insT h0 T)) (moM mo (nI (siz T + 1))) dr ds (fun i => (keysT (insT h0 T))[i]?) (keysT T ++ [h0]) ad1 g3) := hD
            subst q100
            refine lv_pop hx hb dX1_muster_103 rfl ?_
            have hmu := musS_n (mo := mo) (dr := dr) (ds := ds) hmc
            have hup5 : UpC g3 (g3 h0).1 (anc h0 (insT h0 T)).reverse := by rw [e4]; exact hup3
            have hr5 := i3
            obtain ⟨hP5, hD5⟩ := cw_sub (K' := keysT (insT h0 T)) hP hD (fun k hk => (i3.2.2.2.2.2 k).mpr hk) (bst_nodup e6)
            refine lv_aload_n hx hb dX1_muster_104 rfl (lv_at hl 0 rfl) ?_
            obtain ⟨i6, hi6⟩ := cw_s (x := x) (ln := ln) (cA := cA) (n := nI (siz (insT h0 T))) (tp := root (insT h0 T)) (mo := moM mo (nI (siz T + 1))) (dr := dr) (ds := ds) (li := fun i => (keysT (insT h0 T))[i]?) (ad := ad1) (g := g3) (hmh : h0 ∈ keysT T ++ [h0])
            refine vp_callSi (va_Run.run (va_runV (As := []) (rest := []) ⟨hx, hb, hml, hown, hts⟩ (c_X0_depth l (ks := (anc h0 (insT h0 T)).reverse) hmh hup5 (fun j hj => (hr5.2.2.2.2.2 j).mpr (anc_in (List.mem_reverse.mp hj)))) (cwV 0 hts gX1_muster_X0_depth rfl rfl rfl (by decide +kernel) ⟨Nat.le_of_ble_eq_true rfl, Nat.le_of_ble_eq_true rfl⟩) ⟨PcR.blind, va_recv hG.1 hP (ci := 0) (q0 := i6) rfl hi6, PcR.at hP hG⟩ rfl rfl hl.1 rfl (lv_room (Nat.le_of_ble_eq_true rfl)) dX1_muster_105 ⟨Nat.le_of_ble_eq_true rfl, Nat.le_of_ble_eq_true rfl⟩)) (fun r105 q105 => ?_)
            subst q105
            refine zr_eqi (congrArg nI List.length_reverse) ?_
            have ek := kx_nI (show h0 < 2 ^ 31 by omega)
            refine W.widen (k := 4) (n := 30) (Nat.le_of_ble_eq_true rfl) (Nat.le_of_ble_eq_true rfl) ?_
            exact vx_ret (W.iret (v := (nI ((anc h0 (insT h0 T)).length))) hx hb hr (fun t ht hW => ⟨⟨_, (ad1, g3), rfl, ⟨⟨oddH_nI hh0, by omega, by rw [ek]; exact hm, by rw [ek, hmu]⟩, by rw [ek, hmu]; exact hr5.own⟩, by rw [ht]; exact by rw [ek, hmu]; exact hP5, hG.moved hW, by rw [ek, hmu]; exact hD5⟩, hS.F ht⟩) hS.2.2 dX1_muster_108)
          | some c0 =>
            have hmc : mcT T h0 = some c0 := hmc0.trans efc
            have hcT : c0 ∈ keysT (insT h0 T) := (e7 c0).mpr (by
              rcases List.mem_cons.mp (List.mem_of_find?_eq_some efc) with q | q
              · exact Or.inr q
              · exact Or.inl (anc_in (List.mem_reverse.mp q)))
            obtain ⟨k1, k2⟩ := draw_keys (c := c0) i3.2.2.1
            refine va_callq (va_runV (As := [.ref (ad1 c0)]) (rest := []) ⟨hx, hb, hml, hown, hts⟩ (c_X1_drawUp l i3 hcT) (cwV 1 hts gX1_muster_X1_drawUp rfl rfl rfl (by decide +kernel) ⟨Nat.le_of_ble_eq_true rfl, Nat.le_of_ble_eq_true rfl⟩) ⟨PcM.blind, va_recv hG.1 hP (ci := 1) (q0 := 0) rfl cw_x, PcM.at (fun q h => hA q (Nat.le_trans hS.1 h)) hP hG hD⟩ rfl rfl hl.1 rfl (lv_room (Nat.le_of_ble_eq_true rfl)) dX1_muster_100 ⟨Nat.le_of_ble_eq_true rfl, Nat.le_of_ble_eq_true rfl⟩) hS (fun q _ h => h) (fun q h => h) (fun r100 g4 t H locs ht hvm q100 hB hz1 hk1 hS => ?_)
            obtain ⟨hP, -, hD⟩ := hB
            rw [ht] at hP
            have hP : va_P D vwCl (cw x ln cA (nI (siz (insT h0 T))) (root (drawT c0 (insT h0 T))) (moD (insT h0 T) c0 (moM mo (nI (siz T + 1)))) (dr + nI 1) (ds + nI (siz (subT c0 (insT h0 T)))) (fun i => (keysT (insT h0 T))[i]?) (keysT T ++ [h0]) ad1 g4) H := hP
            have hD : va_D A (cw x ln cA (nI (siz (insT h0 T))) (root (drawT c0 (insT h0 T))) (moD (insT h0 T) c0 (moM mo (nI (siz T + 1)))) (dr + nI 1) (ds + nI (siz (subT c0 (insT h0 T)))) (fun i => (keysT (insT h0 T))[i]?) (keysT T ++ [h0]) ad1 g4) := hD
            obtain ⟨rfl, hr4⟩ := q100
            refine lv_pop hx hb dX1_muster_103 (zr_cat _) ?_
            have hmu := musS_s (mo := mo) (dr := dr) (ds := ds) hmc
            have hs5 : ShP g4 none (drawT c0 (insT h0 T)) := hr4.2.2.2.1
            have hup5 : UpC g4 (g4 h0).1 (anc h0 (drawT c0 (insT h0 T))).reverse := by
              rw [above_eq hs5 ((subT_mem hr4.1).mpr ((hr4.2.2.2.2.2 h0).mp hmh))]
              exact UpC_top hs5
            have hr5 := hr4
            obtain ⟨hP5, hD5⟩ := cw_sub (K' := keysT (drawT c0 (insT h0 T))) hP hD (fun k hk => (hr4.2.2.2.2.2 k).mpr hk) (bst_nodup hr4.1)
            refine lv_aload_n hx hb dX1_muster_104 rfl (lv_at hl 0 rfl) ?_
            obtain ⟨i7, hi7⟩ := cw_s (x := x) (ln := ln) (cA := cA) (n := nI (siz (insT h0 T))) (tp := root (drawT c0 (insT h0 T))) (mo := moD (insT h0 T) c0 (moM mo (nI (siz T + 1)))) (dr := dr + nI 1) (ds := ds + nI (siz (subT c0 (insT h0 T)))) (li := fun i => (keysT (insT h0 T))[i]?) (ad := ad1) (g := g4) (hmh : h0 ∈ keysT T ++ [h0])
            refine vp_callSi (va_Run.run (va_runV (As := []) (rest := []) ⟨hx, hb, hml, hown, hts⟩ (c_X0_depth l (ks := (anc h0 (drawT c0 (insT h0 T))).reverse) hmh hup5 (fun j hj => (hr5.2.2.2.2.2 j).mpr (anc_in (List.mem_reverse.mp hj)))) (cwV 0 hts gX1_muster_X0_depth rfl rfl rfl (by decide +kernel) ⟨Nat.le_of_ble_eq_true rfl, Nat.le_of_ble_eq_true rfl⟩) ⟨PcR.blind, va_recv hG.1 hP (ci := 0) (q0 := i7) rfl hi7, PcR.at hP hG⟩ rfl rfl hl.1 rfl (lv_room (Nat.le_of_ble_eq_true rfl)) dX1_muster_105 ⟨Nat.le_of_ble_eq_true rfl, Nat.le_of_ble_eq_true rfl⟩)) (fun r105 q105 => ?_)
            subst q105
            refine zr_eqi (congrArg nI List.length_reverse) ?_
            have ek := kx_nI (show h0 < 2 ^ 31 by omega)
            rw [k1] at hP5 hD5
            refine W.widen (k := 4) (n := 30) (Nat.le_of_ble_eq_true rfl) (Nat.le_of_ble_eq_true rfl) ?_
            exact vx_ret (W.iret (v := (nI ((anc h0 (drawT c0 (insT h0 T))).length))) hx hb hr (fun t ht hW => ⟨⟨_, (ad1, g4), rfl, ⟨⟨oddH_nI hh0, by omega, by rw [ek]; exact hm, by rw [ek, hmu]⟩, by rw [ek, hmu]; exact hr5.own⟩, by rw [ht]; exact by rw [ek, hmu]; unfold CWT; rw [k1, k2]; exact hP5, hG.moved hW, by rw [ek, hmu]; unfold CWT; rw [k1, k2]; exact hD5⟩, hS.F ht⟩) hS.2.2 dX1_muster_108)
    · have hm : h0 ∈ keysT T := (subT_mem hb0).mp (subT_root.resolve_left (fun q => by rw [q] at c19; cases c19))
      exact vx_throwS hx hb hst hown (cls := eIS) (text := "one of this height is there, or there are 150") (names := ["java/lang/RuntimeException", "java/lang/Exception"]) (by decide +kernel) (by decide +kernel) (hts (.classLink RX1 27 "java/lang/IllegalStateException") (by decide +kernel)) (hts (.initialized "java/lang/IllegalStateException") (by decide +kernel)) (hX.2.1.2.1) (vx_hat (L := vx_atS RX1 31 "java/lang/IllegalStateException" ["java/lang/RuntimeException", "java/lang/Exception"]) (B := [.castable eIS eIS, .declares (Bundle.initS "java/lang/RuntimeException"), .declares (Bundle.initS "java/lang/Exception"), .declares (Bundle.initS Bundle.tN)]) (fun w hw => hts w (List.mem_cons_of_mem _ (List.mem_append_left _ (List.mem_append_right _ hw)))) (by decide +kernel) (vx_c (va_Nw.use rfl hX.1.2.1) (vx_c (va_Nw.use rfl hX.1.2.2.2.1) (vx_c (va_Nw.use rfl hX.1.2.2.2.2.1) (vx_c (va_Nw.use rfl hX.1.2.2.2.2.2) vx_n))))) (by decide +kernel) hX.2.2.1 hX.2.2.2 hS (hl.1.trans hml.symm) dX1_muster_22 dX1_muster_25 dX1_muster_26 dX1_muster_28 dX1_muster_31 (fun x hx => (ht0 x hx).elim) (Nat.le_of_ble_eq_true rfl) (Nat.le_of_ble_eq_true rfl) (Nat.le_of_ble_eq_true rfl) (Nat.le_of_ble_eq_true rfl) hlocks (fun t hvm hz hk => ⟨(), trivial, ⟨Or.inr ⟨⟨oddH_nI hh0, Or.inr (by rw [kx_nI (by omega)]; exact hm)⟩, rfl⟩, BMx.new hP hD hk⟩, xF hS hz hk⟩) hS.2.2 (Nat.le_of_ble_eq_true rfl) (Nat.le_of_ble_eq_true rfl)

