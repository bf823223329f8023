/-! told() and count() of the class, of a tree -/
def rootL : Tr → Option Nat
  | .leaf => none
  | .inner _ _ _ l _ => root l
def rootR : Tr → Option Nat
  | .leaf => none
  | .inner _ _ _ _ r => root r
def tellT (T : Tr) (k : Nat) : Nat → Int32
  | 0 => nI (anc k T).length
  | 1 => enc (parF k none T)
  | 2 => enc (rootL (subT k T))
  | 3 => enc (rootR (subT k T))
  | 4 => nI (siz (subT k T))
  | 5 => nI (hgt (subT k T) - 1)
  | 6 => b2i (crT T k)
  | _ => nI (cntLt k T)
def tallyT (T : Tr) (dr ds mo : Int32) : Nat → Int32
  | 0 => nI (siz T)
  | 1 => enc (root T)
  | 2 => pd (hgt T)
  | 3 => pd (lim (siz T))
  | 4 => nI (ckn T)
  | 5 => dr
  | 6 => ds
  | _ => mo
theorem sub_root {T : Tr} {c : Nat} (h : root T = some c) : subT c T = T := by
  cases T with
  | leaf => cases h
  | inner s k v l r => cases h; exact sub_s
set_option maxHeartbeats 4000000 in
set_option maxRecDepth 100000 in
/-- tell(k, what) -/
theorem c_X1_tell (l : Launch) {D : va_G} {cA cZ cI : ClassId} {x ln : Nat} {mo dr ds : Int32} {K : List Nat} {ad : Nat → Nat} {g : Nat → Nd} {T : Tr} {k1 w0 : Nat} (hrep : RepC T K g) (hk1 : k1 ∈ keysT T) (hw0 : w0 ≤ 7) : Met l yX1_tell wsX1_tell ({ frames := 3, cells := 0, slots := 0, locals := 120 } : Room) (PcR D (tysA cA cZ cI) (cw x ln cA (nI (siz T)) (root T) mo dr ds (fun i => (keysT T)[i]?) K ad g) [.ref x, .ref (ad k1), .int (nI w0)]) (vp_Si (fun r => r = tellT T k1 w0)) 0 0 (fun _ => False) := by
  refine Met.ofW (cc := cX1_tell) (maxL := 3) (ret := (some .int)) (by decide) rfl ?_
  intro p e s m args below meth c s₁ B hml hv
  obtain ⟨rfl, hP, hG⟩ := hv
  have hx := B.exec
  have hb := B.bytes
  have hr := B.returns
  have hts := atoms_spec (ws := wsX1_tell) B.pre
  have hown : s.vm.findClass RX1 = some m.cls := findClass_of_methodNamed B.named
  have hlocks := B.notSynchronized
  have hl := lv_entry ([.ref x, .ref (ad k1), .int (nI w0)]) (n := 3) (Nat.le_of_ble_eq_true rfl)
  rw [lg_entry_eq]
  generalize (lg_sl ([.ref x, .ref (ad k1), .int (nI w0)]) ++ List.replicate (3 - (lg_sl ([.ref x, .ref (ad k1), .int (nI w0)])).length) Slot.unset).toArray = ls at hl ⊢
  have hl : lv_has ls 3 [(0, .ref x), (1, .ref (ad k1)), (2, .int (nI w0))] := hl
  have hcl := hrep.cl
  have hk := (hrep.in1 k1 hk1).1
  obtain ⟨hb0, hin0, hsz, hs, hc, hK0⟩ := id hrep
  obtain ⟨sz, v, lt, rt, esub, p1, p2, p3, p4, p5, p6, p7, p8⟩ := hrep.at hk1
  have hsub := sub_siz (h := k1) (T := T)
  rw [esub] at hsub
  simp only [siz] at hsub
  have hkn := hin0 k1 hk1
  refine lv_aload_n hx hb dX1_tell_0 rfl (lv_at hl 1 rfl) ?_
  refine lv_ifnonnull (tgt := 6) hx hb dX1_tell_1 (by decide) ?_
  refine lv_iload_n hx hb dX1_tell_6 rfl (lv_at hl 2 rfl) ?_
  rcases (show w0 = 0 ∨ w0 = 1 ∨ w0 = 2 ∨ w0 = 3 ∨ w0 = 4 ∨ w0 = 5 ∨ w0 = 6 ∨ w0 = 7 by omega) with rfl | rfl | rfl | rfl | rfl | rfl | rfl | rfl
  · refine lv_tableIn (off := 41) (tgt := 48) hx hb dX1_tell_7 (by decide) (by decide) (by decide +kernel) (by decide) ?_
    refine lv_aload_n hx hb dX1_tell_48 rfl (lv_at hl 1 rfl) ?_
    obtain ⟨i0, hi0⟩ := cw_s (x := x) (ln := ln) (cA := cA) (n := nI (siz T)) (tp := root T) (mo := mo) (dr := dr) (ds := ds) (li := fun i => (keysT T)[i]?) (ad := ad) (g := g) (hk : k1 ∈ K)
    refine vp_callSi (va_Run.run (va_runV (As := []) (rest := []) ⟨hx, hb, hml, hown, hts⟩ (c_X0_depth l (ks := (anc k1 T).reverse) hk (by rw [p1]; exact UpC_top hs) (fun j hj => (hrep.in1 j (anc_in (List.mem_reverse.mp hj))).1)) (cwV 0 hts gX1_tell_X0_depth rfl rfl rfl (by decide +kernel) ⟨Nat.le_of_ble_eq_true rfl, Nat.le_of_ble_eq_true rfl⟩) ⟨PcR.blind, va_recv hG.1 hP (ci := 0) (q0 := i0) rfl hi0, PcR.at hP hG⟩ rfl rfl hl.1 rfl (lv_room (Nat.le_of_ble_eq_true rfl)) dX1_tell_49 ⟨Nat.zero_le _, Nat.zero_le _⟩)) (fun r49 q49 => ?_)
    subst q49
    exact W.iret (v := (nI (anc k1 T).reverse.length)) hx hb hr (fun t ht hW => ⟨_, rfl, by rw [List.length_reverse]; rfl, ht⟩) (fun q hq => absurd hq List.not_mem_nil) dX1_tell_52
  · refine lv_tableIn (off := 46) (tgt := 53) hx hb dX1_tell_7 (by decide) (by decide) (by decide +kernel) (by decide) ?_
    refine lv_aload_n hx hb dX1_tell_53 rfl (lv_at hl 1 rfl) ?_
    obtain ⟨i1, hi1⟩ := cw_s (x := x) (ln := ln) (cA := cA) (n := nI (siz T)) (tp := root T) (mo := mo) (dr := dr) (ds := ds) (li := fun i => (keysT T)[i]?) (ad := ad) (g := g) (hk : k1 ∈ K)
    refine va_get (D := D) (ci := 0) (v := va_rf ((g k1).1.map ad)) (C := RX0) (T := TX0) (N := 5) hx hb hts (by decide +kernel) hown hG.1 hP i1 hi1 rfl 1 (by decide) (hts (.fieldLink RX1 130 "LopsidedRanks$Soldier" "above" "LLopsidedRanks$Soldier;") (by decide +kernel)) (fun _ h9 => h9) rfl dX1_tell_54 ?_
    refine vp_callSi (va_Run.run (va_runS (As := [va_rf ((g k1).1.map ad)]) (rest := []) ⟨hx, hb, hml, hown, hts⟩ (c_X1_heightOf l (o := (g k1).1) (hcl k1 hk).2.1) (va_cwS 1 hts gX1_tell_X1_heightOf rfl rfl rfl (by decide +kernel) ⟨Nat.le_of_ble_eq_true rfl, Nat.le_of_ble_eq_true rfl⟩) ⟨PcR.blind, PcR.at hP hG⟩ rfl rfl hl.1 rfl (lv_room (Nat.le_of_ble_eq_true rfl)) dX1_tell_57 ⟨Nat.zero_le _, Nat.zero_le _⟩)) (fun r57 q57 => ?_)
    subst q57
    exact W.iret (v := (enc (g k1).1)) hx hb hr (fun t ht hW => ⟨_, rfl, congrArg enc p1, ht⟩) (fun q hq => absurd hq List.not_mem_nil) dX1_tell_60
  · refine lv_tableIn (off := 54) (tgt := 61) hx hb dX1_tell_7 (by decide) (by decide) (by decide +kernel) (by decide) ?_
    refine lv_aload_n hx hb dX1_tell_61 rfl (lv_at hl 1 rfl) ?_
    obtain ⟨i2, hi2⟩ := cw_s (x := x) (ln := ln) (cA := cA) (n := nI (siz T)) (tp := root T) (mo := mo) (dr := dr) (ds := ds) (li := fun i => (keysT T)[i]?) (ad := ad) (g := g) (hk : k1 ∈ K)
    refine va_get (D := D) (ci := 0) (v := va_rf ((g k1).2.1.map ad)) (C := RX0) (T := TX0) (N := 5) hx hb hts (by decide +kernel) hown hG.1 hP i2 hi2 rfl 2 (by decide) (hts (.fieldLink RX1 150 "LopsidedRanks$Soldier" "left" "LLopsidedRanks$Soldier;") (by decide +kernel)) (fun _ h9 => h9) rfl dX1_tell_62 ?_
    refine vp_callSi (va_Run.run (va_runS (As := [va_rf ((g k1).2.1.map ad)]) (rest := []) ⟨hx, hb, hml, hown, hts⟩ (c_X1_heightOf l (o := (g k1).2.1) (hcl k1 hk).2.2.1) (va_cwS 1 hts gX1_tell_X1_heightOf rfl rfl rfl (by decide +kernel) ⟨Nat.le_of_ble_eq_true rfl, Nat.le_of_ble_eq_true rfl⟩) ⟨PcR.blind, PcR.at hP hG⟩ rfl rfl hl.1 rfl (lv_room (Nat.le_of_ble_eq_true rfl)) dX1_tell_65 ⟨Nat.zero_le _, Nat.zero_le _⟩)) (fun r65 q65 => ?_)
    subst q65
    exact W.iret (v := (enc (g k1).2.1)) hx hb hr (fun t ht hW => ⟨_, rfl, by rw [p2]; show _ = enc (rootL _); rw [esub]; rfl, ht⟩) (fun q hq => absurd hq List.not_mem_nil) dX1_tell_68
  · refine lv_tableIn (off := 62) (tgt := 69) hx hb dX1_tell_7 (by decide) (by decide) (by decide +kernel) (by decide) ?_
    refine lv_aload_n hx hb dX1_tell_69 rfl (lv_at hl 1 rfl) ?_
    obtain ⟨i3, hi3⟩ := cw_s (x := x) (ln := ln) (cA := cA) (n := nI (siz T)) (tp := root T) (mo := mo) (dr := dr) (ds := ds) (li := fun i => (keysT T)[i]?) (ad := ad) (g := g) (hk : k1 ∈ K)
    refine va_get (D := D) (ci := 0) (v := va_rf ((g k1).2.2.1.map ad)) (C := RX0) (T := TX0) (N := 5) hx hb hts (by decide +kernel) hown hG.1 hP i3 hi3 rfl 3 (by decide) (hts (.fieldLink RX1 160 "LopsidedRanks$Soldier" "right" "LLopsidedRanks$Soldier;") (by decide +kernel)) (fun _ h9 => h9) rfl dX1_tell_70 ?_
    refine vp_callSi (va_Run.run (va_runS (As := [va_rf ((g k1).2.2.1.map ad)]) (rest := []) ⟨hx, hb, hml, hown, hts⟩ (c_X1_heightOf l (o := (g k1).2.2.1) (hcl k1 hk).2.2.2) (va_cwS 1 hts gX1_tell_X1_heightOf rfl rfl rfl (by decide +kernel) ⟨Nat.le_of_ble_eq_true rfl, Nat.le_of_ble_eq_true rfl⟩) ⟨PcR.blind, PcR.at hP hG⟩ rfl rfl hl.1 rfl (lv_room (Nat.le_of_ble_eq_true rfl)) dX1_tell_73 ⟨Nat.zero_le _, Nat.zero_le _⟩)) (fun r73 q73 => ?_)
    subst q73
    exact W.iret (v := (enc (g k1).2.2.1)) hx hb hr (fun t ht hW => ⟨_, rfl, by rw [p3]; show _ = enc (rootR _); rw [esub]; rfl, ht⟩) (fun q hq => absurd hq List.not_mem_nil) dX1_tell_76
  · refine lv_tableIn (off := 70) (tgt := 77) hx hb dX1_tell_7 (by decide) (by decide) (by decide +kernel) (by decide) ?_
    refine lv_aload_n hx hb dX1_tell_77 rfl (lv_at hl 1 rfl) ?_
    obtain ⟨i4, hi4⟩ := cw_s (x := x) (ln := ln) (cA := cA) (n := nI (siz T)) (tp := root T) (mo := mo) (dr := dr) (ds := ds) (li := fun i => (keysT T)[i]?) (ad := ad) (g := g) (hk : k1 ∈ K)
    refine va_get (D := D) (ci := 0) (v := .int (g k1).2.2.2) (C := RX0) (T := TX0) (N := 5) hx hb hts (by decide +kernel) hown hG.1 hP i4 hi4 rfl 4 (by decide) (hts (.fieldLink RX1 147 "LopsidedRanks$Soldier" "company" "I") (by decide +kernel)) (fun _ h9 => h9) rfl dX1_tell_78 ?_
    exact W.iret (v := (g k1).2.2.2) hx hb hr (fun t ht hW => ⟨_, rfl, by rw [p4]; show _ = nI (siz _); rw [esub]; rfl, ht⟩) (fun q hq => absurd hq List.not_mem_nil) dX1_tell_81
  · refine lv_tableIn (off := 75) (tgt := 82) hx hb dX1_tell_7 (by decide) (by decide) (by decide +kernel) (by decide) ?_
    refine lv_aload_n hx hb dX1_tell_82 rfl (lv_at hl 0 rfl) ?_
    refine lv_aload_n hx hb dX1_tell_83 rfl (lv_at hl 1 rfl) ?_
    refine vp_callSi (va_Run.run (va_runV (As := [.ref (ad k1)]) (rest := []) ⟨hx, hb, hml, hown, hts⟩ (c_X1_deepestBelow l hrep hk1) (cwV 1 hts gX1_tell_X1_deepestBelow rfl rfl rfl (by decide +kernel) ⟨Nat.le_of_ble_eq_true rfl, Nat.le_of_ble_eq_true rfl⟩) ⟨PcR.blind, va_recv hG.1 hP (ci := 1) (q0 := 0) rfl cw_x, PcR.at hP hG⟩ rfl rfl hl.1 rfl (lv_room (Nat.le_of_ble_eq_true rfl)) dX1_tell_84 ⟨Nat.zero_le _, Nat.zero_le _⟩)) (fun r84 q84 => ?_)
    subst q84
    exact W.iret (v := (nI (hgt (subT k1 T) - 1))) hx hb hr (fun t ht hW => ⟨_, rfl, rfl, ht⟩) (fun q hq => absurd hq List.not_mem_nil) dX1_tell_87
  · refine lv_tableIn (off := 81) (tgt := 88) hx hb dX1_tell_7 (by decide) (by decide) (by decide +kernel) (by decide) ?_
    refine lv_aload_n hx hb dX1_tell_88 rfl (lv_at hl 1 rfl) ?_
    obtain ⟨i5, hi5⟩ := cw_s (x := x) (ln := ln) (cA := cA) (n := nI (siz T)) (tp := root T) (mo := mo) (dr := dr) (ds := ds) (li := fun i => (keysT T)[i]?) (ad := ad) (g := g) (hk : k1 ∈ K)
    refine vp_callSi (va_Run.run (va_runV (As := []) (rest := []) ⟨hx, hb, hml, hown, hts⟩ (c_X0_hasCrookedCompany l hcl hk (a := siz lt) (b := siz rt) (by rw [p2]; exact co_root p7) (by rw [p3]; exact co_root p8) (by omega) (by omega)) (cwV 0 hts gX1_tell_X0_hasCrookedCompany rfl rfl rfl (by decide +kernel) ⟨Nat.le_of_ble_eq_true rfl, Nat.le_of_ble_eq_true rfl⟩) ⟨PcR.blind, va_recv hG.1 hP (ci := 0) (q0 := i5) rfl hi5, PcR.at hP hG⟩ rfl rfl hl.1 rfl (lv_room (Nat.le_of_ble_eq_true rfl)) dX1_tell_89 ⟨Nat.zero_le _, Nat.zero_le _⟩)) (fun r89 q89 => ?_)
    subst q89
    refine lv_if_eq (tgt := 99) hx hb dX1_tell_92 (by decide) (fun c92 => ?_) (fun c92 => ?_)
    · refine lv_iconst (v := nI 0) hx hb dX1_tell_99 (by decide) ?_
      exact W.iret (v := (nI 0)) hx hb hr (fun t ht hW => ⟨_, rfl, by show _ = b2i _; simp only [crT, esub]; rw [Bool.eq_false_iff.mpr (b2i_eq c92)]; rfl, ht⟩) (fun q hq => absurd hq List.not_mem_nil) dX1_tell_100
    · refine lv_iconst (v := nI 1) hx hb dX1_tell_95 (by decide) ?_
      refine lv_goto (tgt := 100) hx hb dX1_tell_96 (by decide) ?_
      exact W.iret (v := (nI 1)) hx hb hr (fun t ht hW => ⟨_, rfl, by show _ = b2i _; simp only [crT, esub]; rw [b2i_ne c92]; rfl, ht⟩) (fun q hq => absurd hq List.not_mem_nil) dX1_tell_100
  · refine lv_tableOut (tgt := 101) hx hb dX1_tell_7 (by decide) (by decide) ?_
    refine lv_aload_n hx hb dX1_tell_101 rfl (lv_at hl 0 rfl) ?_
    refine lv_aload_n hx hb dX1_tell_102 rfl (lv_at hl 1 rfl) ?_
    obtain ⟨i6, hi6⟩ := cw_s (x := x) (ln := ln) (cA := cA) (n := nI (siz T)) (tp := root T) (mo := mo) (dr := dr) (ds := ds) (li := fun i => (keysT T)[i]?) (ad := ad) (g := g) (hk : k1 ∈ K)
    refine va_get (D := D) (ci := 0) (v := .int (nI k1)) (C := RX0) (T := TX0) (N := 5) hx hb hts (by decide +kernel) hown hG.1 hP i6 hi6 rfl 0 (by decide) (hts (.fieldLink RX1 100 "LopsidedRanks$Soldier" "height" "I") (by decide +kernel)) (fun _ h9 => h9) rfl dX1_tell_103 ?_
    refine vp_callSi (va_Run.run (va_runV (As := [.int (nI k1)]) (rest := []) ⟨hx, hb, hml, hown, hts⟩ (c_X1_smallerThan l hcl (by omega) hs hc hrep.in1) (cwV 1 hts gX1_tell_X1_smallerThan rfl rfl rfl (by decide +kernel) ⟨Nat.le_of_ble_eq_true rfl, Nat.le_of_ble_eq_true rfl⟩) ⟨PcR.blind, va_recv hG.1 hP (ci := 1) (q0 := 0) rfl cw_x, PcR.at hP hG⟩ rfl rfl hl.1 rfl (lv_room (Nat.le_of_ble_eq_true rfl)) dX1_tell_106 ⟨Nat.zero_le _, Nat.zero_le _⟩)) (fun r106 q106 => ?_)
    subst q106
    exact W.iret (v := (nI (cntLt k1 T))) hx hb hr (fun t ht hW => ⟨_, rfl, rfl, ht⟩) (fun q hq => absurd hq List.not_mem_nil) dX1_tell_109

set_option maxHeartbeats 4000000 in
set_option maxRecDepth 100000 in
/-- tally(what) -/
theorem c_X1_tally (l : Launch) {D : va_G} {cA cZ cI : ClassId} {x ln : Nat} {mo dr ds : Int32} {K : List Nat} {ad : Nat → Nat} {g : Nat → Nd} {T : Tr} {w0 : Nat} (hrep : RepC T K g) (hw0 : w0 ≤ 7) : Met l yX1_tally wsX1_tally ({ frames := 3, cells := 0, slots := 0, locals := 120 } : Room) (PcR D (tysA cA cZ cI) (cw x ln cA (nI (siz T)) (root T) mo dr ds (fun i => (keysT T)[i]?) K ad g) [.ref x, .int (nI w0)]) (vp_Si (fun r => r = tallyT T dr ds mo w0)) 0 0 (fun _ => False) := by
  refine Met.ofW (cc := cX1_tally) (maxL := 2) (ret := (some .int)) (by decide) rfl ?_
  intro p e s m args below meth c s₁ B hml hv
  obtain ⟨rfl, hP, hG⟩ := hv
  have hx := B.exec
  have hb := B.bytes
  have hr := B.returns
  have hts := atoms_spec (ws := wsX1_tally) B.pre
  have hown : s.vm.findClass RX1 = some m.cls := findClass_of_methodNamed B.named
  have hlocks := B.notSynchronized
  have hl := lv_entry ([.ref x, .int (nI w0)]) (n := 2) (Nat.le_of_ble_eq_true rfl)
  rw [lg_entry_eq]
  generalize (lg_sl ([.ref x, .int (nI w0)]) ++ List.replicate (2 - (lg_sl ([.ref x, .int (nI w0)])).length) Slot.unset).toArray = ls at hl ⊢
  have hl : lv_has ls 2 [(0, .ref x), (1, .int (nI w0))] := hl
  have hcl := hrep.cl
  obtain ⟨hb0, hin0, hsz, hs, hc, hK0⟩ := id hrep
  refine lv_iload_n hx hb dX1_tally_0 rfl (lv_at hl 1 rfl) ?_
  rcases (show w0 = 0 ∨ w0 = 1 ∨ w0 = 2 ∨ w0 = 3 ∨ w0 = 4 ∨ w0 = 5 ∨ w0 = 6 ∨ w0 = 7 by omega) with rfl | rfl | rfl | rfl | rfl | rfl | rfl | rfl
  · refine lv_tableIn (off := 43) (tgt := 44) hx hb dX1_tally_1 (by decide) (by decide) (by decide +kernel) (by decide) ?_
    refine lv_aload_n hx hb dX1_tally_44 rfl (lv_at hl 0 rfl) ?_
    refine va_get (D := D) (ci := 1) (v := .int (nI (siz T))) (C := RX1) (T := TX1) (N := 6) hx hb hts (by decide +kernel) hown hG.1 hP 0 cw_x rfl 1 (by decide) (hts (.fieldLink RX1 19 "LopsidedRanks" "soldiers" "I") (by decide +kernel)) (fun _ h9 => h9) rfl dX1_tally_45 ?_
    exact W.iret (v := (nI (siz T))) hx hb hr (fun t ht hW => ⟨_, rfl, rfl, ht⟩) (fun q hq => absurd hq List.not_mem_nil) dX1_tally_48
  · refine lv_tableIn (off := 48) (tgt := 49) hx hb dX1_tally_1 (by decide) (by decide) (by decide +kernel) (by decide) ?_
    refine lv_aload_n hx hb dX1_tally_49 rfl (lv_at hl 0 rfl) ?_
    refine va_get (D := D) (ci := 1) (v := va_rf ((root T).map ad)) (C := RX1) (T := TX1) (N := 6) hx hb hts (by decide +kernel) hown hG.1 hP 0 cw_x rfl 2 (by decide) (hts (.fieldLink RX1 77 "LopsidedRanks" "top" "LLopsidedRanks$Soldier;") (by decide +kernel)) (fun _ h9 => h9) rfl dX1_tally_50 ?_
    refine vp_callSi (va_Run.run (va_runS (As := [va_rf ((root T).map ad)]) (rest := []) ⟨hx, hb, hml, hown, hts⟩ (c_X1_heightOf l (o := root T) (fun k e => (hrep.in1 k (root_in e)).1)) (va_cwS 1 hts gX1_tally_X1_heightOf rfl rfl rfl (by decide +kernel) ⟨Nat.le_of_ble_eq_true rfl, Nat.le_of_ble_eq_true rfl⟩) ⟨PcR.blind, PcR.at hP hG⟩ rfl rfl hl.1 rfl (lv_room (Nat.le_of_ble_eq_true rfl)) dX1_tally_53 ⟨Nat.zero_le _, Nat.zero_le _⟩)) (fun r53 q53 => ?_)
    subst q53
    exact W.iret (v := (enc (root T))) hx hb hr (fun t ht hW => ⟨_, rfl, rfl, ht⟩) (fun q hq => absurd hq List.not_mem_nil) dX1_tally_56
  · refine lv_tableIn (off := 56) (tgt := 57) hx hb dX1_tally_1 (by decide) (by decide) (by decide +kernel) (by decide) ?_
    refine lv_aload_n hx hb dX1_tally_57 rfl (lv_at hl 0 rfl) ?_
    refine lv_aload_n hx hb dX1_tally_58 rfl (lv_at hl 0 rfl) ?_
    refine va_get (D := D) (ci := 1) (v := va_rf ((root T).map ad)) (C := RX1) (T := TX1) (N := 6) hx hb hts (by decide +kernel) hown hG.1 hP 0 cw_x rfl 2 (by decide) (hts (.fieldLink RX1 77 "LopsidedRanks" "top" "LLopsidedRanks$Soldier;") (by decide +kernel)) (fun _ h9 => h9) rfl dX1_tally_59 ?_
    rcases eT : root T with _ | c1
    · refine vp_callSi (va_Run.run (va_runV (As := [.null]) (rest := []) ⟨hx, hb, hml, hown, hts⟩ (c_X1_deepestBelowN l) (cwV 1 hts gX1_tally_X1_deepestBelow rfl rfl rfl (by decide +kernel) ⟨Nat.le_of_ble_eq_true rfl, Nat.le_of_ble_eq_true rfl⟩) ⟨PcR.blind, va_recv hG.1 hP (ci := 1) (q0 := 0) rfl cw_x, PcR.at hP hG⟩ rfl rfl hl.1 rfl (lv_room (Nat.le_of_ble_eq_true rfl)) dX1_tally_62 ⟨Nat.zero_le _, Nat.zero_le _⟩)) (fun r62 q62 => ?_)
      subst q62
      exact W.iret (v := (-1)) hx hb hr (fun t ht hW => ⟨_, rfl, (by cases T with | leaf => rfl | inner s k v l r => cases eT), ht⟩) (fun q hq => absurd hq List.not_mem_nil) dX1_tally_65
    · refine vp_callSi (va_Run.run (va_runV (As := [.ref (ad c1)]) (rest := []) ⟨hx, hb, hml, hown, hts⟩ (c_X1_deepestBelow l hrep (root_in eT)) (cwV 1 hts gX1_tally_X1_deepestBelow rfl rfl rfl (by decide +kernel) ⟨Nat.le_of_ble_eq_true rfl, Nat.le_of_ble_eq_true rfl⟩) ⟨PcR.blind, va_recv hG.1 hP (ci := 1) (q0 := 0) rfl cw_x, PcR.at hP hG⟩ rfl rfl hl.1 rfl (lv_room (Nat.le_of_ble_eq_true rfl)) dX1_tally_62 ⟨Nat.zero_le _, Nat.zero_le _⟩)) (fun r62 q62 => ?_)
      subst q62
      exact W.iret (v := (nI (hgt (subT c1 T) - 1))) hx hb hr (fun t ht hW => ⟨_, rfl, (by rw [sub_root eT]; cases T with | leaf => cases eT | inner s k v l r => exact (pd_s _).symm), ht⟩) (fun q hq => absurd hq List.not_mem_nil) dX1_tally_65
  · refine lv_tableIn (off := 65) (tgt := 66) hx hb dX1_tally_1 (by decide) (by decide) (by decide +kernel) (by decide) ?_
    refine lv_aload_n hx hb dX1_tally_66 rfl (lv_at hl 0 rfl) ?_
    refine va_get (D := D) (ci := 1) (v := .int (nI (siz T))) (C := RX1) (T := TX1) (N := 6) hx hb hts (by decide +kernel) hown hG.1 hP 0 cw_x rfl 1 (by decide) (hts (.fieldLink RX1 19 "LopsidedRanks" "soldiers" "I") (by decide +kernel)) (fun _ h9 => h9) rfl dX1_tally_67 ?_
    refine vp_callSi (va_Run.run (va_runS (As := [.int (nI (siz T))]) (rest := []) ⟨hx, hb, hml, hown, hts⟩ (c_X1_allowedDepth l (n := siz T) (by omega)) (va_cwS 1 hts gX1_tally_X1_allowedDepth rfl rfl rfl (by decide +kernel) ⟨Nat.le_of_ble_eq_true rfl, Nat.le_of_ble_eq_true rfl⟩) ⟨PcT.blind, PcT.at⟩ rfl rfl hl.1 rfl (lv_room (Nat.le_of_ble_eq_true rfl)) dX1_tally_70 ⟨Nat.zero_le _, Nat.zero_le _⟩)) (fun r70 q70 => ?_)
    subst q70
    exact W.iret (v := (pd (lim (siz T)))) hx hb hr (fun t ht hW => ⟨_, rfl, rfl, ht⟩) (fun q hq => absurd hq List.not_mem_nil) dX1_tally_73
  · refine lv_tableIn (off := 73) (tgt := 74) hx hb dX1_tally_1 (by decide) (by decide) (by decide +kernel) (by decide) ?_
    refine lv_aload_n hx hb dX1_tally_74 rfl (lv_at hl 0 rfl) ?_
    refine vp_callSi (va_Run.run (va_runV (As := []) (rest := []) ⟨hx, hb, hml, hown, hts⟩ (c_X1_crookedCompanies l hrep) (cwV 0 hts gX1_tally_X1_crookedCompanies rfl rfl rfl (by decide +kernel) ⟨Nat.le_of_ble_eq_true rfl, Nat.le_of_ble_eq_true rfl⟩) ⟨PcR.blind, va_recv hG.1 hP (ci := 1) (q0 := 0) rfl cw_x, PcR.at hP hG⟩ rfl rfl hl.1 rfl (lv_room (Nat.le_of_ble_eq_true rfl)) dX1_tally_75 ⟨Nat.zero_le _, Nat.zero_le _⟩)) (fun r75 q75 => ?_)
    subst q75
    exact W.iret (v := (nI (ckn T))) hx hb hr (fun t ht hW => ⟨_, rfl, rfl, ht⟩) (fun q hq => absurd hq List.not_mem_nil) dX1_tally_78
  · refine lv_tableIn (off := 78) (tgt := 79) hx hb dX1_tally_1 (by decide) (by decide) (by decide +kernel) (by decide) ?_
    refine lv_aload_n hx hb dX1_tally_79 rfl (lv_at hl 0 rfl) ?_
    refine va_get (D := D) (ci := 1) (v := .int dr) (C := RX1) (T := TX1) (N := 6) hx hb hts (by decide +kernel) hown hG.1 hP 0 cw_x rfl 4 (by decide) (hts (.fieldLink RX1 182 "LopsidedRanks" "drawings" "I") (by decide +kernel)) (fun _ h9 => h9) rfl dX1_tally_80 ?_
    exact W.iret (v := dr) hx hb hr (fun t ht hW => ⟨_, rfl, rfl, ht⟩) (fun q hq => absurd hq List.not_mem_nil) dX1_tally_83
  · refine lv_tableIn (off := 83) (tgt := 84) hx hb dX1_tally_1 (by decide) (by decide) (by decide +kernel) (by decide) ?_
    refine lv_aload_n hx hb dX1_tally_84 rfl (lv_at hl 0 rfl) ?_
    refine va_get (D := D) (ci := 1) (v := .int ds) (C := RX1) (T := TX1) (N := 6) hx hb hts (by decide +kernel) hown hG.1 hP 0 cw_x rfl 5 (by decide) (hts (.fieldLink RX1 185 "LopsidedRanks" "drawnSoldiers" "I") (by decide +kernel)) (fun _ h9 => h9) rfl dX1_tally_85 ?_
    exact W.iret (v := ds) hx hb hr (fun t ht hW => ⟨_, rfl, rfl, ht⟩) (fun q hq => absurd hq List.not_mem_nil) dX1_tally_88
  · refine lv_tableOut (tgt := 89) hx hb dX1_tally_1 (by decide) (by decide) ?_
    refine lv_aload_n hx hb dX1_tally_89 rfl (lv_at hl 0 rfl) ?_
    refine va_get (D := D) (ci := 1) (v := .int mo) (C := RX1) (T := TX1) (N := 6) hx hb hts (by decide +kernel) hown hG.1 hP 0 cw_x rfl 3 (by decide) (hts (.fieldLink RX1 51 "LopsidedRanks" "most" "I") (by decide +kernel)) (fun _ h9 => h9) rfl dX1_tally_90 ?_
    exact W.iret (v := mo) hx hb hr (fun t ht hW => ⟨_, rfl, rfl, ht⟩) (fun q hq => absurd hq List.not_mem_nil) dX1_tally_93

