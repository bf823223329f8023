/-! LEAVES of the class -/
set_option maxHeartbeats 4000000 in
set_option maxRecDepth 100000 in
/-- Soldier.towards(h) -/
theorem c_X0_towards (l : Launch) {D : va_G} {cA cZ cI : ClassId} {x ln : Nat} {n : Int32} {tp : Option Nat} {mo dr ds : Int32} {li : Nat → Option Nat} {K : List Nat} {ad : Nat → Nat} {g : Nat → Nd} {k h : Nat} (hk : k ∈ K) (hkn : k < 2 ^ 31) (hh : h < 2 ^ 31) : Met l yX0_towards wsX0_towards ({ frames := 0, cells := 0, slots := 0, locals := 0 } : Room) (PcR D (tysA cA cZ cI) (cw x ln cA n tp mo dr ds li K ad g) [.ref (ad k), .int (nI h)]) (va_Sq (fun r => r = (if h < k then (g k).2.1 else (g k).2.2.1).map ad)) 0 0 (fun _ => False) := by
  refine Met.ofW (cc := cX0_towards) (maxL := 2) (ret := (some (.object "LopsidedRanks$Soldier"))) (by decide) rfl ?_
  intro p e s m args below meth c s₁ B hml hv
  obtain ⟨rfl, hP, hG⟩ := hv
  have hx := B.exec
  have hb := B.bytes
  have hr := B.returns
  have hts := atoms_spec (ws := wsX0_towards) B.pre
  have hown : s.vm.findClass RX0 = some m.cls := findClass_of_methodNamed B.named
  have hlocks := B.notSynchronized
  have hl := lv_entry ([.ref (ad k), .int (nI h)]) (n := 2) (Nat.le_of_ble_eq_true rfl)
  rw [lg_entry_eq]
  generalize (lg_sl ([.ref (ad k), .int (nI h)]) ++ List.replicate (2 - (lg_sl ([.ref (ad k), .int (nI h)])).length) Slot.unset).toArray = ls at hl ⊢
  have hl : lv_has ls 2 [(0, .ref (ad k)), (1, .int (nI h))] := hl
  refine lv_iload_n hx hb dX0_towards_0 rfl (lv_at hl 1 rfl) ?_
  refine lv_aload_n hx hb dX0_towards_1 rfl (lv_at hl 0 rfl) ?_
  obtain ⟨i0, hi0⟩ := cw_s (x := x) (ln := ln) (cA := cA) (n := n) (tp := tp) (mo := mo) (dr := dr) (ds := ds) (li := li) (ad := ad) (g := g) (hk : k ∈ K)
  refine va_get (D := D) (ci := 0) (v := .int (nI k)) (C := RX0) (T := TX0) (N := 5) hx hb hts (by decide +kernel) hown hG.1 hP i0 hi0 rfl 0 (by decide) (hts (.fieldLink RX0 7 "LopsidedRanks$Soldier" "height" "I") (by decide +kernel)) (fun _ h9 => h9) rfl dX0_towards_2 ?_
  refine lv_icmp_ge (tgt := 15) hx hb dX0_towards_5 (by decide) (fun c5 => ?_) (fun c5 => ?_)
  · rw [nI_leI (by omega) (by omega)] at c5
    refine lv_aload_n hx hb dX0_towards_15 rfl (lv_at hl 0 rfl) ?_
    obtain ⟨i1, hi1⟩ := cw_s (x := x) (ln := ln) (cA := cA) (n := n) (tp := tp) (mo := mo) (dr := dr) (ds := ds) (li := li) (ad := ad) (g := g) (hk : k ∈ K)
    refine va_get (D := D) (ci := 0) (v := va_rf ((g k).2.2.1.map ad)) (C := RX0) (T := TX0) (N := 5) hx hb hts (by decide +kernel) hown hG.1 hP i1 hi1 rfl 3 (by decide) (hts (.fieldLink RX0 20 "LopsidedRanks$Soldier" "right" "LLopsidedRanks$Soldier;") (by decide +kernel)) (fun _ h9 => h9) rfl dX0_towards_16 ?_
    exact zr_aret (r := (g k).2.2.1.map ad) hx hb hr (Or.inl ⟨_, rfl⟩) (fun t ht hW => ⟨_, rfl, by rw [if_neg (by omega)], ht⟩) (fun q hq => absurd hq List.not_mem_nil) dX0_towards_19 hlocks
  · rw [nI_leI (by omega) (by omega)] at c5
    refine lv_aload_n hx hb dX0_towards_8 rfl (lv_at hl 0 rfl) ?_
    obtain ⟨i2, hi2⟩ := cw_s (x := x) (ln := ln) (cA := cA) (n := n) (tp := tp) (mo := mo) (dr := dr) (ds := ds) (li := li) (ad := ad) (g := g) (hk : k ∈ K)
    refine va_get (D := D) (ci := 0) (v := va_rf ((g k).2.1.map ad)) (C := RX0) (T := TX0) (N := 5) hx hb hts (by decide +kernel) hown hG.1 hP i2 hi2 rfl 2 (by decide) (hts (.fieldLink RX0 16 "LopsidedRanks$Soldier" "left" "LLopsidedRanks$Soldier;") (by decide +kernel)) (fun _ h9 => h9) rfl dX0_towards_9 ?_
    refine lv_goto (tgt := 19) hx hb dX0_towards_12 (by decide) ?_
    exact zr_aret (r := (g k).2.1.map ad) hx hb hr (Or.inl ⟨_, rfl⟩) (fun t ht hW => ⟨_, rfl, by rw [if_pos (by omega)], ht⟩) (fun q hq => absurd hq List.not_mem_nil) dX0_towards_19 hlocks

set_option maxHeartbeats 4000000 in
set_option maxRecDepth 100000 in
/-- heightOf(o): the height, -1 for nobody -/
theorem c_X1_heightOf (l : Launch) {D : va_G} {cA cZ cI : ClassId} {x ln : Nat} {n : Int32} {tp : Option Nat} {mo dr ds : Int32} {li : Nat → Option Nat} {K : List Nat} {ad : Nat → Nat} {g : Nat → Nd} {o : Option Nat} (ho : ∀ k, o = some k → k ∈ K) : Met l yX1_heightOf wsX1_heightOf ({ frames := 0, cells := 0, slots := 0, locals := 0 } : Room) (PcR D (tysA cA cZ cI) (cw x ln cA n tp mo dr ds li K ad g) [va_rf (o.map ad)]) (vp_Si (fun r => r = enc o)) 0 0 (fun _ => False) := by
  refine Met.ofW (cc := cX1_heightOf) (maxL := 1) (ret := (some .int)) (by decide) rfl ?_
  intro p e s m args below meth c s₁ B hml hv
  obtain ⟨rfl, hP, hG⟩ := hv
  have hx := B.exec
  have hb := B.bytes
  have hr := B.returns
  have hts := atoms_spec (ws := wsX1_heightOf) B.pre
  have hown : s.vm.findClass RX1 = some m.cls := findClass_of_methodNamed B.named
  have hlocks := B.notSynchronized
  have hl : lv_has ((lg_sl ([va_rf (o.map ad)]) ++ List.replicate (1 - (lg_sl ([va_rf (o.map ad)])).length) Slot.unset).toArray) 1 [(0, va_rf (o.map ad))] := by cases o <;> exact lv_entry _ (Nat.le_of_ble_eq_true rfl)
  rw [lg_entry_eq]
  generalize (lg_sl ([va_rf (o.map ad)]) ++ List.replicate (1 - (lg_sl ([va_rf (o.map ad)])).length) Slot.unset).toArray = ls at hl ⊢
  have hl : lv_has ls 1 [(0, va_rf (o.map ad))] := hl
  refine zr_aload_n hx hb dX1_heightOf_0 rfl (lv_at hl 0 rfl) ?_
  refine zr_ifnonnull (tgt := 8) hx hb dX1_heightOf_1 (by decide) (fun c1 => ?_) (fun k1 c1 => ?_)
  · subst c1
    have hl : lv_has ls 1 [(0, .null)] := hl
    refine lv_iconst (v := (-1)) hx hb dX1_heightOf_4 (by decide) ?_
    refine lv_goto (tgt := 12) hx hb dX1_heightOf_5 (by decide) ?_
    exact W.iret (v := (-1)) hx hb hr (fun t ht hW => ⟨_, rfl, rfl, ht⟩) (fun q hq => absurd hq List.not_mem_nil) dX1_heightOf_12
  · subst c1
    have hl : lv_has ls 1 [(0, .ref (ad k1))] := hl
    refine lv_aload_n hx hb dX1_heightOf_8 rfl (lv_at hl 0 rfl) ?_
    obtain ⟨i0, hi0⟩ := cw_s (x := x) (ln := ln) (cA := cA) (n := n) (tp := tp) (mo := mo) (dr := dr) (ds := ds) (li := li) (ad := ad) (g := g) ((ho k1 rfl) : k1 ∈ K)
    refine va_get (D := D) (ci := 0) (v := .int (nI k1)) (C := RX0) (T := TX0) (N := 5) hx hb hts (by decide +kernel) hown hG.1 hP i0 hi0 rfl 0 (by decide) (hts (.fieldLink RX1 100 "LopsidedRanks$Soldier" "height" "I") (by decide +kernel)) (fun _ h9 => h9) rfl dX1_heightOf_9 ?_
    exact W.iret (v := (nI k1)) hx hb hr (fun t ht hW => ⟨_, rfl, rfl, ht⟩) (fun q hq => absurd hq List.not_mem_nil) dX1_heightOf_12

set_option maxHeartbeats 4000000 in
set_option maxRecDepth 100000 in
/-- companyOf(o) -/
theorem c_X1_companyOf (l : Launch) {D : va_G} {cA cZ cI : ClassId} {x ln : Nat} {n : Int32} {tp : Option Nat} {mo dr ds : Int32} {li : Nat → Option Nat} {K : List Nat} {ad : Nat → Nat} {g : Nat → Nd} {o : Option Nat} (ho : ∀ k, o = some k → k ∈ K) : Met l yX1_companyOf wsX1_companyOf ({ frames := 0, cells := 0, slots := 0, locals := 0 } : Room) (PcR D (tysA cA cZ cI) (cw x ln cA n tp mo dr ds li K ad g) [va_rf (o.map ad)]) (vp_Si (fun r => r = coOf g o)) 0 0 (fun _ => False) := by
  refine Met.ofW (cc := cX1_companyOf) (maxL := 1) (ret := (some .int)) (by decide) rfl ?_
  intro p e s m args below meth c s₁ B hml hv
  obtain ⟨rfl, hP, hG⟩ := hv
  have hx := B.exec
  have hb := B.bytes
  have hr := B.returns
  have hts := atoms_spec (ws := wsX1_companyOf) B.pre
  have hown : s.vm.findClass RX1 = some m.cls := findClass_of_methodNamed B.named
  have hlocks := B.notSynchronized
  have hl : lv_has ((lg_sl ([va_rf (o.map ad)]) ++ List.replicate (1 - (lg_sl ([va_rf (o.map ad)])).length) Slot.unset).toArray) 1 [(0, va_rf (o.map ad))] := by cases o <;> exact lv_entry _ (Nat.le_of_ble_eq_true rfl)
  rw [lg_entry_eq]
  generalize (lg_sl ([va_rf (o.map ad)]) ++ List.replicate (1 - (lg_sl ([va_rf (o.map ad)])).length) Slot.unset).toArray = ls at hl ⊢
  have hl : lv_has ls 1 [(0, va_rf (o.map ad))] := hl
  refine zr_aload_n hx hb dX1_companyOf_0 rfl (lv_at hl 0 rfl) ?_
  refine zr_ifnonnull (tgt := 8) hx hb dX1_companyOf_1 (by decide) (fun c1 => ?_) (fun k1 c1 => ?_)
  · subst c1
    have hl : lv_has ls 1 [(0, .null)] := hl
    refine lv_iconst (v := nI 0) hx hb dX1_companyOf_4 (by decide) ?_
    refine lv_goto (tgt := 12) hx hb dX1_companyOf_5 (by decide) ?_
    exact W.iret (v := (nI 0)) hx hb hr (fun t ht hW => ⟨_, rfl, rfl, ht⟩) (fun q hq => absurd hq List.not_mem_nil) dX1_companyOf_12
  · subst c1
    have hl : lv_has ls 1 [(0, .ref (ad k1))] := hl
    refine lv_aload_n hx hb dX1_companyOf_8 rfl (lv_at hl 0 rfl) ?_
    obtain ⟨i0, hi0⟩ := cw_s (x := x) (ln := ln) (cA := cA) (n := n) (tp := tp) (mo := mo) (dr := dr) (ds := ds) (li := li) (ad := ad) (g := g) ((ho k1 rfl) : k1 ∈ K)
    refine va_get (D := D) (ci := 0) (v := .int (g k1).2.2.2) (C := RX0) (T := TX0) (N := 5) hx hb hts (by decide +kernel) hown hG.1 hP i0 hi0 rfl 4 (by decide) (hts (.fieldLink RX1 147 "LopsidedRanks$Soldier" "company" "I") (by decide +kernel)) (fun _ h9 => h9) rfl dX1_companyOf_9 ?_
    exact W.iret (v := (g k1).2.2.2) hx hb hr (fun t ht hW => ⟨_, rfl, rfl, ht⟩) (fun q hq => absurd hq List.not_mem_nil) dX1_companyOf_12

set_option maxHeartbeats 4000000 in
set_option maxRecDepth 100000 in
/-- isCrooked(a, b) -/
theorem c_X1_isCrooked (l : Launch) {a b : Nat} (ha : a < 10000) (hb0 : b < 10000) : Met l yX1_isCrooked wsX1_isCrooked ({ frames := 0, cells := 0, slots := 0, locals := 0 } : Room) (va_Pc [.int (nI a), .int (nI b)] (fun _ => True)) (vp_Si (fun r => r = b2i (crk a b))) 0 0 (fun _ => False) := by
  refine Met.ofW (cc := cX1_isCrooked) (maxL := 3) (ret := (some .boolean)) (by decide) rfl ?_
  intro p e s m args below meth c s₁ B hml hv
  obtain ⟨rfl, -⟩ := hv
  have hx := B.exec
  have hb := B.bytes
  have hr := B.returns
  have hts := atoms_spec (ws := wsX1_isCrooked) B.pre
  have hown : s.vm.findClass RX1 = some m.cls := findClass_of_methodNamed B.named
  have hlocks := B.notSynchronized
  have hl := lv_entry ([.int (nI a), .int (nI b)]) (n := 3) (Nat.le_of_ble_eq_true rfl)
  rw [lg_entry_eq]
  generalize (lg_sl ([.int (nI a), .int (nI b)]) ++ List.replicate (3 - (lg_sl ([.int (nI a), .int (nI b)])).length) Slot.unset).toArray = ls at hl ⊢
  have hl : lv_has ls 3 [(0, .int (nI a)), (1, .int (nI b))] := hl
  refine lv_iload_n hx hb dX1_isCrooked_0 rfl (lv_at hl 0 rfl) ?_
  refine lv_iconst (v := nI 1) hx hb dX1_isCrooked_1 (by decide) ?_
  refine lv_iadd hx hb dX1_isCrooked_2 ?_
  refine zr_eqi (nI_add a 1) ?_
  refine lv_iload_n hx hb dX1_isCrooked_3 rfl (lv_at hl 1 rfl) ?_
  refine lv_iadd hx hb dX1_isCrooked_4 ?_
  refine zr_eqi (nI_add (a + 1) b) ?_
  refine lv_istore_n (lv' := [(2, .int (nI ((a + 1) + b))), (0, .int (nI a)), (1, .int (nI b))]) hx hb dX1_isCrooked_5 rfl hl (by decide) rfl (fun ls hl => ?_)
  refine lv_iconst (v := nI 3) hx hb dX1_isCrooked_6 (by decide) ?_
  refine lv_iload_n hx hb dX1_isCrooked_7 rfl (lv_at hl 1 rfl) ?_
  refine lv_imul hx hb dX1_isCrooked_8 ?_
  refine zr_eqi (pk_mul 3 a) ?_
  refine lv_iconst (v := nI 2) hx hb dX1_isCrooked_9 (by decide) ?_
  refine lv_iload_n hx hb dX1_isCrooked_10 rfl (lv_at hl 0 rfl) ?_
  refine lv_imul hx hb dX1_isCrooked_11 ?_
  refine zr_eqi (pk_mul 2 ((a + 1) + b)) ?_
  refine lv_icmp_gt (tgt := 24) hx hb dX1_isCrooked_12 (by decide) (fun c12 => ?_) (fun c12 => ?_)
  · rw [nI_ltI (by omega) (by omega)] at c12
    refine lv_iconst (v := nI 1) hx hb dX1_isCrooked_24 (by decide) ?_
    refine lv_goto (tgt := 29) hx hb dX1_isCrooked_25 (by decide) ?_
    exact W.zret (v := (nI 1)) hx hb hr rfl (fun t ht hW => ⟨_, rfl, by simp [crk, b2i]; omega, ht⟩) (fun q hq => absurd hq List.not_mem_nil) dX1_isCrooked_29
  · rw [nI_ltI (by omega) (by omega)] at c12
    refine lv_iconst (v := nI 3) hx hb dX1_isCrooked_15 (by decide) ?_
    refine lv_iload_n hx hb dX1_isCrooked_16 rfl (lv_at hl 2 rfl) ?_
    refine lv_imul hx hb dX1_isCrooked_17 ?_
    refine zr_eqi (pk_mul 3 b) ?_
    refine lv_iconst (v := nI 2) hx hb dX1_isCrooked_18 (by decide) ?_
    refine lv_iload_n hx hb dX1_isCrooked_19 rfl (lv_at hl 0 rfl) ?_
    refine lv_imul hx hb dX1_isCrooked_20 ?_
    refine zr_eqi (pk_mul 2 ((a + 1) + b)) ?_
    refine lv_icmp_le (tgt := 28) hx hb dX1_isCrooked_21 (by decide) (fun c21 => ?_) (fun c21 => ?_)
    · rw [nI_leI (by omega) (by omega)] at c21
      refine lv_iconst (v := nI 0) hx hb dX1_isCrooked_28 (by decide) ?_
      exact W.zret (v := (nI 0)) hx hb hr rfl (fun t ht hW => ⟨_, rfl, by simp [crk, b2i]; omega, ht⟩) (fun q hq => absurd hq List.not_mem_nil) dX1_isCrooked_29
    · rw [nI_leI (by omega) (by omega)] at c21
      refine lv_iconst (v := nI 1) hx hb dX1_isCrooked_24 (by decide) ?_
      refine lv_goto (tgt := 29) hx hb dX1_isCrooked_25 (by decide) ?_
      exact W.zret (v := (nI 1)) hx hb hr rfl (fun t ht hW => ⟨_, rfl, by simp [crk, b2i]; omega, ht⟩) (fun q hq => absurd hq List.not_mem_nil) dX1_isCrooked_29
