/-! THE REFERENCE: what it reads -/
theorem nI_m1 {k : Nat} (h : k < 2 ^ 31) : nI k ≠ -1 := fun e => nI_pos h (by rw [e]; decide)
theorem pd_toInt {d : Nat} (h : d < 2 ^ 31) : (pd d).toInt = (d : Int) - 1 := by
  cases d with
  | zero => rfl
  | succ d => rw [pd_s, nI_toInt (by omega)]; omega
theorem pd_max {a b : Nat} (ha : a < 2 ^ 31) (hb : b < 2 ^ 31) : (if pd a < pd b then pd b else pd a) = pd (max a b) := by
  have h1 := pd_toInt ha
  have h2 := pd_toInt hb
  by_cases h : a < b
  · rw [if_pos (Int32.lt_iff_toInt_lt.mpr (by omega)), show max a b = b by omega]
  · rw [if_neg (fun q => by have := Int32.lt_iff_toInt_lt.mp q; omega), show max a b = a by omega]
theorem crk_max {a b : Nat} : crk a b = decide (2 * (a + b + 1) < 3 * max a b) := by
  unfold crk
  rw [← Bool.decide_or]
  exact decide_eq_decide.mpr (by omega)
theorem crk_comm {a b : Nat} : crk a b = crk b a := by
  rw [crk_max, crk_max, Nat.add_comm a b, Nat.max_comm]
def ShM (lf rt : Nat → Int32) : Tr → Prop
  | .leaf => True
  | .inner _ k _ l r => lf k = enc (root l) ∧ rt k = enc (root r) ∧ ShM lf rt l ∧ ShM lf rt r
theorem ShM_cong {lf rt lf' rt' : Nat → Int32} : ∀ {T : Tr}, (∀ k ∈ keysT T, lf' k = lf k ∧ rt' k = rt k) → ShM lf rt T → ShM lf' rt' T
  | .leaf, _, _ => trivial
  | .inner s k v l r, h, ⟨h1, h2, h3, h4⟩ => by
    have hk := h k ((keys_in ..).mpr (Or.inr (Or.inl rfl)))
    exact ⟨hk.1.trans h1, hk.2.trans h2, ShM_cong (fun j hj => h j ((keys_in ..).mpr (Or.inl hj))) h3, ShM_cong (fun j hj => h j ((keys_in ..).mpr (Or.inr (Or.inr hj)))) h4⟩
theorem ShM_sub {lf rt : Nat → Int32} {h : Nat} {T : Tr} (hs : ShM lf rt T) : ShM lf rt (subT h T) := by
  induction T with
  | leaf => trivial
  | inner s k v l r ihl ihr =>
    simp only [subT]
    split
    · exact hs
    · split
      · exact ihl hs.2.2.1
      · exact ihr hs.2.2.2
/-- the rows of the reference, as the tree T has them -/
def RepM (T : Tr) (isIn lf rt : Nat → Int32) : Prop := bst T ∧ (∀ k ∈ keysT T, k < 1000) ∧ siz T ≤ 150 ∧ ShM lf rt T ∧ ∀ k, k < 1000 → isIn k = b2i (decide (k ∈ keysT T))
theorem RepM.at {T : Tr} {isIn lf rt : Nat → Int32} (h : RepM T isIn lf rt) {k : Nat} (hk : k ∈ keysT T) : ∃ s v l r, subT k T = .inner s k v l r ∧ lf k = enc (root l) ∧ rt k = enc (root r) ∧ ShM lf rt l ∧ ShM lf rt r := by
  obtain ⟨hb, -, -, hs, -⟩ := h
  obtain ⟨s, v, l, r, e⟩ := sub_at ((subT_mem hb).mpr hk)
  have h1 := ShM_sub (h := k) hs
  rw [e] at h1
  exact ⟨s, v, l, r, e, h1⟩
theorem hgt_siz {T : Tr} : hgt T ≤ siz T := by
  induction T with
  | leaf => exact Nat.le_refl _
  | inner s k v l r ihl ihr => simp only [hgt, siz]; omega
/-- is a height -/
def hiB (x : Int32) : Bool := !(decide (x < 0) || decide (999 < x))
theorem hiB_t {x : Int32} (h : ¬ oddH x) : hiB x = true := by
  unfold hiB
  rw [decide_eq_false (fun q => h (Or.inl q)), decide_eq_false (fun q => h (Or.inr q))]
  rfl
theorem hiB_f {x : Int32} (h : oddH x) : hiB x = false := by
  unfold hiB
  rcases h with q | q
  · rw [decide_eq_true q]; rfl
  · rw [decide_eq_true q, Bool.or_true]; rfl
/-- all keys of a part are heights -/
def Low (T : Tr) : Prop := ∀ j ∈ keysT T, j < 1000
theorem Low.l {s k : Nat} {v : Unit} {l r : Tr} (h : Low (.inner s k v l r)) : Low l := fun j hj => h j ((keys_in ..).mpr (Or.inl hj))
theorem Low.r {s k : Nat} {v : Unit} {l r : Tr} (h : Low (.inner s k v l r)) : Low r := fun j hj => h j ((keys_in ..).mpr (Or.inr (Or.inr hj)))
theorem Low.k {s k : Nat} {v : Unit} {l r : Tr} (h : Low (.inner s k v l r)) : k < 1000 := h k ((keys_in ..).mpr (Or.inr (Or.inl rfl)))
theorem Low.sub {h : Nat} {T : Tr} (hl : Low T) : Low (subT h T) := fun j hj => hl j (subT_sub hj)
set_option maxHeartbeats 4000000 in
set_option maxRecDepth 100000 in
/-- isHeight -/
theorem c_X2_isHeight (l : Launch) {x0 : Int32} : Met l yX2_isHeight wsX2_isHeight ({ frames := 0, cells := 0, slots := 0, locals := 0 } : Room) (va_Pc [.int x0] (fun _ => True)) (vp_Si (fun r => r = b2i (hiB x0))) 0 0 (fun _ => False) := by
  refine Met.ofW (cc := cX2_isHeight) (maxL := 1) (ret := (some .boolean)) (by decide) rfl ?_
  intro p e s m args below meth c s₁ B hml hv
  obtain ⟨rfl, -⟩ := hv
  have hx := B.exec
  have hb := B.bytes
  have hr := B.returns
  have hts := atoms_spec (ws := wsX2_isHeight) B.pre
  have hown : s.vm.findClass RX2 = some m.cls := findClass_of_methodNamed B.named
  have hlocks := B.notSynchronized
  have hl := lv_entry ([.int x0]) (n := 1) (Nat.le_of_ble_eq_true rfl)
  rw [lg_entry_eq]
  generalize (lg_sl ([.int x0]) ++ List.replicate (1 - (lg_sl ([.int x0])).length) Slot.unset).toArray = ls at hl ⊢
  have hl : lv_has ls 1 [(0, .int x0)] := hl
  refine lv_iload_n hx hb dX2_isHeight_0 rfl (lv_at hl 0 rfl) ?_
  refine lv_if_lt (tgt := 15) hx hb dX2_isHeight_1 (by decide) (fun c1 => ?_) (fun c1 => ?_)
  · have hodd : oddH x0 := Or.inl c1
    refine lv_iconst (v := nI 0) hx hb dX2_isHeight_15 (by decide) ?_
    exact W.zret (v := (nI 0)) hx hb hr rfl (fun t ht hW => ⟨_, rfl, by rw [hiB_f hodd]; rfl, ht⟩) (fun q hq => absurd hq List.not_mem_nil) dX2_isHeight_16
  · rcases Classical.em (oddH x0) with hodd | hodd
    · refine lv_iload_n hx hb dX2_isHeight_4 rfl (lv_at hl 0 rfl) ?_
      refine lv_sipush (v := nI 1000) hx hb dX2_isHeight_5 (by decide) ?_
      refine lv_icmp_ge (tgt := 15) hx hb dX2_isHeight_8 (by decide) (fun c8 => ?_) (fun c8 => ?_)
      · refine lv_iconst (v := nI 0) hx hb dX2_isHeight_15 (by decide) ?_
        exact W.zret (v := (nI 0)) hx hb hr rfl (fun t ht hW => ⟨_, rfl, by rw [hiB_f hodd]; rfl, ht⟩) (fun q hq => absurd hq List.not_mem_nil) dX2_isHeight_16
      · exact (c8 (by rw [Int32.le_iff_toInt_le]; have h1 := Int32.lt_iff_toInt_lt.mp (hodd.resolve_left c1); have h3 : (nI 1000).toInt = 1000 := rfl; have h4 : (999 : Int32).toInt = 999 := rfl; omega)).elim
    · refine lv_iload_n hx hb dX2_isHeight_4 rfl (lv_at hl 0 rfl) ?_
      refine lv_sipush (v := nI 1000) hx hb dX2_isHeight_5 (by decide) ?_
      refine lv_icmp_ge (tgt := 15) hx hb dX2_isHeight_8 (by decide) (fun c8 => ?_) (fun c8 => ?_)
      · exact (hodd (Or.inr (by rw [Int32.lt_iff_toInt_lt]; have h1 := Int32.le_iff_toInt_le.mp c8; have h3 : (nI 1000).toInt = 1000 := rfl; have h4 : (999 : Int32).toInt = 999 := rfl; omega))).elim
      · refine lv_iconst (v := nI 1) hx hb dX2_isHeight_11 (by decide) ?_
        refine lv_goto (tgt := 16) hx hb dX2_isHeight_12 (by decide) ?_
        exact W.zret (v := (nI 1)) hx hb hr rfl (fun t ht hW => ⟨_, rfl, by rw [hiB_t hodd]; rfl, ht⟩) (fun q hq => absurd hq List.not_mem_nil) dX2_isHeight_16

set_option maxHeartbeats 4000000 in
set_option maxRecDepth 100000 in
/-- X2_size -/
theorem c_X2_size (l : Launch) {D : va_G} {cA cZ cI : ClassId} {M : Nat × Nat × Nat × Nat × Nat × Nat} {th tp n mo ti dr st ma : Int32} {isIn lf rt wy rw : Nat → Int32} : ∀ {t : Tr} {d : Nat} (hs : ShM lf rt t) (hlo : Low t) (hh : hgt t ≤ d), Met l yX2_size wsX2_size ({ frames := d, cells := 0, slots := 0, locals := 40 * d } : Room) (PcR D (tysA cA cZ cI) (mw M cZ cI th tp n mo ti dr st ma isIn lf rt wy rw) [.ref M.1, .int (enc (root t))]) (vp_Si (fun r => r = nI (siz t))) 0 0 (fun _ => False) := by
  intro t
  induction t with
  | leaf =>
    intro d hs hlo hh
    refine Met.ofW (cc := cX2_size) (maxL := 2) (ret := (some .int)) (by decide) rfl ?_
    intro p e s m args below meth c s₁ B hml hv
    obtain ⟨rfl, hP, hG⟩ := hv
    have hx := B.exec
    have hb := B.bytes
    have hr := B.returns
    have hts := atoms_spec (ws := wsX2_size) B.pre
    have hown : s.vm.findClass RX2 = some m.cls := findClass_of_methodNamed B.named
    have hlocks := B.notSynchronized
    have hl := lv_entry ([.ref M.1, .int (enc (root (.leaf : Tr)))]) (n := 2) (Nat.le_of_ble_eq_true rfl)
    rw [lg_entry_eq]
    generalize (lg_sl ([.ref M.1, .int (enc (root (.leaf : Tr)))]) ++ List.replicate (2 - (lg_sl ([.ref M.1, .int (enc (root (.leaf : Tr)))])).length) Slot.unset).toArray = ls at hl ⊢
    have hl : lv_has ls 2 [(0, .ref M.1), (1, .int (enc (root (.leaf : Tr))))] := hl
    have hl : lv_has ls 2 [(0, .ref M.1), (1, .int (-1))] := hl
    refine lv_iload_n hx hb dX2_size_0 rfl (lv_at hl 1 rfl) ?_
    refine lv_iconst (v := (-1)) hx hb dX2_size_1 (by decide) ?_
    refine lv_icmp_ne (tgt := 9) hx hb dX2_size_2 (by decide) (fun c2 => ?_) (fun c2 => ?_)
    · exact absurd rfl c2
    · refine lv_iconst (v := nI 0) hx hb dX2_size_5 (by decide) ?_
      refine lv_goto (tgt := 32) hx hb dX2_size_6 (by decide) ?_
      exact W.iret (v := (nI 0)) hx hb hr (fun t ht hW => ⟨_, rfl, rfl, ht⟩) (fun q hq => absurd hq List.not_mem_nil) dX2_size_32

  | inner sz k v lt rt ihl ihr =>
    intro d0 hs hlo hh
    simp only [hgt] at hh
    obtain ⟨d, rfl⟩ : ∃ d, d0 = d + 1 := ⟨d0 - 1, by omega⟩
    refine Met.ofW (cc := cX2_size) (maxL := 2) (ret := (some .int)) (by decide) rfl ?_
    intro p e s m args below meth c s₁ B hml hv
    obtain ⟨rfl, hP, hG⟩ := hv
    have hx := B.exec
    have hb := B.bytes
    have hr := B.returns
    have hts := atoms_spec (ws := wsX2_size) B.pre
    have hown : s.vm.findClass RX2 = some m.cls := findClass_of_methodNamed B.named
    have hlocks := B.notSynchronized
    have hl := lv_entry ([.ref M.1, .int (enc (root (.inner sz k v lt rt : Tr)))]) (n := 2) (Nat.le_of_ble_eq_true rfl)
    rw [lg_entry_eq]
    generalize (lg_sl ([.ref M.1, .int (enc (root (.inner sz k v lt rt : Tr)))]) ++ List.replicate (2 - (lg_sl ([.ref M.1, .int (enc (root (.inner sz k v lt rt : Tr)))])).length) Slot.unset).toArray = ls at hl ⊢
    have hl : lv_has ls 2 [(0, .ref M.1), (1, .int (enc (root (.inner sz k v lt rt : Tr))))] := hl
    have hl : lv_has ls 2 [(0, .ref M.1), (1, .int (nI k))] := hl
    obtain ⟨h1, h2, h3, h4⟩ := hs
    have hk := hlo.k
    refine lv_iload_n hx hb dX2_size_0 rfl (lv_at hl 1 rfl) ?_
    refine lv_iconst (v := (-1)) hx hb dX2_size_1 (by decide) ?_
    refine lv_icmp_ne (tgt := 9) hx hb dX2_size_2 (by decide) (fun c2 => ?_) (fun c2 => ?_)
    · refine lv_iconst (v := nI 1) hx hb dX2_size_9 (by decide) ?_
      refine lv_aload_n hx hb dX2_size_10 rfl (lv_at hl 0 rfl) ?_
      refine lv_aload_n hx hb dX2_size_11 rfl (lv_at hl 0 rfl) ?_
      refine va_get (D := D) (ci := 2) (v := .ref M.2.2.1) (C := RX2) (T := TX2) (N := 13) hx hb hts (by decide +kernel) hown hG.1 hP 0 mw_m rfl 7 (by decide) (hts (.fieldLink RX2 17 "LopsidedRanksModel" "left" "[I") (by decide +kernel)) (fun _ h9 => h9) rfl dX2_size_12 ?_
      refine lv_iload_n hx hb dX2_size_15 rfl (lv_at hl 1 rfl) ?_
      refine zr_iald hx hb hG.1 hP 2 2 mw_l rfl (k := k) (by omega) (Nat.le_of_ble_eq_true rfl) dX2_size_16 ?_
      refine zr_eqi h1 ?_
      refine vp_callSi (va_Run.run (va_runV (As := [.int (enc (root lt))]) (rest := [.int (nI 1)]) ⟨hx, hb, hml, hown, hts⟩ (ihl (d := d) h3 hlo.l (by omega)) (cwV 1 hts gX2_size_X2_size rfl rfl rfl (by decide +kernel) ⟨by show d + 1 ≤ d + 1; omega, by show 8 + (2 + 11) + 40 * d ≤ 40 * (d + 1); omega⟩) ⟨PcR.blind, va_recv hG.1 hP (ci := 2) (q0 := 0) rfl mw_m, PcR.at hP hG⟩ rfl rfl hl.1 rfl (lv_room (Nat.le_of_ble_eq_true rfl)) dX2_size_17 ⟨Nat.zero_le _, Nat.zero_le _⟩)) (fun r17 q17 => ?_)
      subst q17
      refine lv_iadd hx hb dX2_size_20 ?_
      refine zr_eqi (nI_add 1 (siz lt)) ?_
      refine lv_aload_n hx hb dX2_size_21 rfl (lv_at hl 0 rfl) ?_
      refine lv_aload_n hx hb dX2_size_22 rfl (lv_at hl 0 rfl) ?_
      refine va_get (D := D) (ci := 2) (v := .ref M.2.2.2.1) (C := RX2) (T := TX2) (N := 13) hx hb hts (by decide +kernel) hown hG.1 hP 0 mw_m rfl 8 (by decide) (hts (.fieldLink RX2 21 "LopsidedRanksModel" "right" "[I") (by decide +kernel)) (fun _ h9 => h9) rfl dX2_size_23 ?_
      refine lv_iload_n hx hb dX2_size_26 rfl (lv_at hl 1 rfl) ?_
      refine zr_iald hx hb hG.1 hP 3 2 mw_r rfl (k := k) (by omega) (Nat.le_of_ble_eq_true rfl) dX2_size_27 ?_
      refine zr_eqi h2 ?_
      refine vp_callSi (va_Run.run (va_runV (As := [.int (enc (root rt))]) (rest := [.int (nI (1 + (siz lt)))]) ⟨hx, hb, hml, hown, hts⟩ (ihr (d := d) h4 hlo.r (by omega)) (cwV 1 hts gX2_size_X2_size rfl rfl rfl (by decide +kernel) ⟨by show d + 1 ≤ d + 1; omega, by show 8 + (2 + 11) + 40 * d ≤ 40 * (d + 1); omega⟩) ⟨PcR.blind, va_recv hG.1 hP (ci := 2) (q0 := 0) rfl mw_m, PcR.at hP hG⟩ rfl rfl hl.1 rfl (lv_room (Nat.le_of_ble_eq_true rfl)) dX2_size_28 ⟨Nat.zero_le _, Nat.zero_le _⟩)) (fun r28 q28 => ?_)
      subst q28
      refine lv_iadd hx hb dX2_size_31 ?_
      refine zr_eqi (nI_add (1 + (siz lt)) (siz rt)) ?_
      exact W.iret (v := (nI ((1 + (siz lt)) + (siz rt)))) hx hb hr (fun t ht hW => ⟨_, rfl, congrArg nI (by simp only [siz]; omega), ht⟩) (fun q hq => absurd hq List.not_mem_nil) dX2_size_32
    · exact absurd c2 (nI_m1 (by omega))

set_option maxHeartbeats 4000000 in
set_option maxRecDepth 100000 in
/-- X2_deep -/
theorem c_X2_deep (l : Launch) {D : va_G} {cA cZ cI : ClassId} {M : Nat × Nat × Nat × Nat × Nat × Nat} {th tp n mo ti dr st ma : Int32} {isIn lf rt wy rw : Nat → Int32} : ∀ {t : Tr} {d : Nat} (hs : ShM lf rt t) (hlo : Low t) (hh : hgt t ≤ d) (hx9 : hgt t ≤ 1000), Met l yX2_deep wsX2_deep ({ frames := d, cells := 0, slots := 0, locals := 40 * d } : Room) (PcR D (tysA cA cZ cI) (mw M cZ cI th tp n mo ti dr st ma isIn lf rt wy rw) [.ref M.1, .int (enc (root t))]) (vp_Si (fun r => r = pd (hgt t))) 0 0 (fun _ => False) := by
  intro t
  induction t with
  | leaf =>
    intro d hs hlo hh hx9
    refine Met.ofW (cc := cX2_deep) (maxL := 2) (ret := (some .int)) (by decide) rfl ?_
    intro p e s m args below meth c s₁ B hml hv
    obtain ⟨rfl, hP, hG⟩ := hv
    have hx := B.exec
    have hb := B.bytes
    have hr := B.returns
    have hts := atoms_spec (ws := wsX2_deep) B.pre
    have hown : s.vm.findClass RX2 = some m.cls := findClass_of_methodNamed B.named
    have hlocks := B.notSynchronized
    have hl := lv_entry ([.ref M.1, .int (enc (root (.leaf : Tr)))]) (n := 2) (Nat.le_of_ble_eq_true rfl)
    rw [lg_entry_eq]
    generalize (lg_sl ([.ref M.1, .int (enc (root (.leaf : Tr)))]) ++ List.replicate (2 - (lg_sl ([.ref M.1, .int (enc (root (.leaf : Tr)))])).length) Slot.unset).toArray = ls at hl ⊢
    have hl : lv_has ls 2 [(0, .ref M.1), (1, .int (enc (root (.leaf : Tr))))] := hl
    have hl : lv_has ls 2 [(0, .ref M.1), (1, .int (-1))] := hl
    refine lv_iload_n hx hb dX2_deep_0 rfl (lv_at hl 1 rfl) ?_
    refine lv_iconst (v := (-1)) hx hb dX2_deep_1 (by decide) ?_
    refine lv_icmp_ne (tgt := 9) hx hb dX2_deep_2 (by decide) (fun c2 => ?_) (fun c2 => ?_)
    · exact absurd rfl c2
    · refine lv_iconst (v := (-1)) hx hb dX2_deep_5 (by decide) ?_
      refine lv_goto (tgt := 34) hx hb dX2_deep_6 (by decide) ?_
      exact W.iret (v := (-1)) hx hb hr (fun t ht hW => ⟨_, rfl, rfl, ht⟩) (fun q hq => absurd hq List.not_mem_nil) dX2_deep_34

  | inner sz k v lt rt ihl ihr =>
    intro d0 hs hlo hh hx9
    simp only [hgt] at hh
    obtain ⟨d, rfl⟩ : ∃ d, d0 = d + 1 := ⟨d0 - 1, by omega⟩
    refine Met.ofW (cc := cX2_deep) (maxL := 2) (ret := (some .int)) (by decide) rfl ?_
    intro p e s m args below meth c s₁ B hml hv
    obtain ⟨rfl, hP, hG⟩ := hv
    have hx := B.exec
    have hb := B.bytes
    have hr := B.returns
    have hts := atoms_spec (ws := wsX2_deep) B.pre
    have hown : s.vm.findClass RX2 = some m.cls := findClass_of_methodNamed B.named
    have hlocks := B.notSynchronized
    have hl := lv_entry ([.ref M.1, .int (enc (root (.inner sz k v lt rt : Tr)))]) (n := 2) (Nat.le_of_ble_eq_true rfl)
    rw [lg_entry_eq]
    generalize (lg_sl ([.ref M.1, .int (enc (root (.inner sz k v lt rt : Tr)))]) ++ List.replicate (2 - (lg_sl ([.ref M.1, .int (enc (root (.inner sz k v lt rt : Tr)))])).length) Slot.unset).toArray = ls at hl ⊢
    have hl : lv_has ls 2 [(0, .ref M.1), (1, .int (enc (root (.inner sz k v lt rt : Tr))))] := hl
    have hl : lv_has ls 2 [(0, .ref M.1), (1, .int (nI k))] := hl
    obtain ⟨h1, h2, h3, h4⟩ := hs
    have hk := hlo.k
    simp only [hgt] at hx9
    refine lv_iload_n hx hb dX2_deep_0 rfl (lv_at hl 1 rfl) ?_
    refine lv_iconst (v := (-1)) hx hb dX2_deep_1 (by decide) ?_
    refine lv_icmp_ne (tgt := 9) hx hb dX2_deep_2 (by decide) (fun c2 => ?_) (fun c2 => ?_)
    · refine lv_iconst (v := nI 1) hx hb dX2_deep_9 (by decide) ?_
      refine lv_aload_n hx hb dX2_deep_10 rfl (lv_at hl 0 rfl) ?_
      refine lv_aload_n hx hb dX2_deep_11 rfl (lv_at hl 0 rfl) ?_
      refine va_get (D := D) (ci := 2) (v := .ref M.2.2.1) (C := RX2) (T := TX2) (N := 13) hx hb hts (by decide +kernel) hown hG.1 hP 0 mw_m rfl 7 (by decide) (hts (.fieldLink RX2 17 "LopsidedRanksModel" "left" "[I") (by decide +kernel)) (fun _ h9 => h9) rfl dX2_deep_12 ?_
      refine lv_iload_n hx hb dX2_deep_15 rfl (lv_at hl 1 rfl) ?_
      refine zr_iald hx hb hG.1 hP 2 2 mw_l rfl (k := k) (by omega) (Nat.le_of_ble_eq_true rfl) dX2_deep_16 ?_
      refine zr_eqi h1 ?_
      refine vp_callSi (va_Run.run (va_runV (As := [.int (enc (root lt))]) (rest := [.int (nI 1)]) ⟨hx, hb, hml, hown, hts⟩ (ihl (d := d) h3 hlo.l (by omega) (by omega)) (cwV 1 hts gX2_deep_X2_deep rfl rfl rfl (by decide +kernel) ⟨by show d + 1 ≤ d + 1; omega, by show 8 + (2 + 11) + 40 * d ≤ 40 * (d + 1); omega⟩) ⟨PcR.blind, va_recv hG.1 hP (ci := 2) (q0 := 0) rfl mw_m, PcR.at hP hG⟩ rfl rfl hl.1 rfl (lv_room (Nat.le_of_ble_eq_true rfl)) dX2_deep_17 ⟨Nat.zero_le _, Nat.zero_le _⟩)) (fun r17 q17 => ?_)
      subst q17
      refine lv_aload_n hx hb dX2_deep_20 rfl (lv_at hl 0 rfl) ?_
      refine lv_aload_n hx hb dX2_deep_21 rfl (lv_at hl 0 rfl) ?_
      refine va_get (D := D) (ci := 2) (v := .ref M.2.2.2.1) (C := RX2) (T := TX2) (N := 13) hx hb hts (by decide +kernel) hown hG.1 hP 0 mw_m rfl 8 (by decide) (hts (.fieldLink RX2 21 "LopsidedRanksModel" "right" "[I") (by decide +kernel)) (fun _ h9 => h9) rfl dX2_deep_22 ?_
      refine lv_iload_n hx hb dX2_deep_25 rfl (lv_at hl 1 rfl) ?_
      refine zr_iald hx hb hG.1 hP 3 2 mw_r rfl (k := k) (by omega) (Nat.le_of_ble_eq_true rfl) dX2_deep_26 ?_
      refine zr_eqi h2 ?_
      refine vp_callSi (va_Run.run (va_runV (As := [.int (enc (root rt))]) (rest := [.int (pd (hgt lt)), .int (nI 1)]) ⟨hx, hb, hml, hown, hts⟩ (ihr (d := d) h4 hlo.r (by omega) (by omega)) (cwV 1 hts gX2_deep_X2_deep rfl rfl rfl (by decide +kernel) ⟨by show d + 1 ≤ d + 1; omega, by show 8 + (2 + 11) + 40 * d ≤ 40 * (d + 1); omega⟩) ⟨PcR.blind, va_recv hG.1 hP (ci := 2) (q0 := 0) rfl mw_m, PcR.at hP hG⟩ rfl rfl hl.1 rfl (lv_room (Nat.le_of_ble_eq_true rfl)) dX2_deep_27 ⟨Nat.zero_le _, Nat.zero_le _⟩)) (fun r27 q27 => ?_)
      subst q27
      refine va_mmax hx hb (hml.trans hl.1.symm) hown (hts (.methodLink RX2 43 Lib.Math.max.name) (by decide +kernel)) (hts (.static Lib.Math.max.name) (by decide +kernel)) (hts (.initialized "java/lang/Math") (by decide +kernel)) (hts (.code Lib.Math.max.name Lib.Math.max.code 2 (some .int)) (by decide +kernel)) (by show 1 ≤ d + 1; omega) (by show _ ≤ 40 * (d + 1); simp [Value.category]; omega) (Nat.zero_le _) (Nat.zero_le _) dX2_deep_30 ?_
      refine zr_eqi (pd_max (by omega) (by omega)) ?_
      refine lv_iadd hx hb dX2_deep_33 ?_
      exact W.iret (v := ((nI 1) + (pd (max (hgt lt) (hgt rt))))) hx hb hr (fun t ht hW => ⟨_, rfl, (Int32.add_comm _ _).trans (pd_1 _), ht⟩) (fun q hq => absurd hq List.not_mem_nil) dX2_deep_34
    · exact absurd c2 (nI_m1 (by omega))

set_option maxHeartbeats 4000000 in
set_option maxRecDepth 100000 in
/-- isCrooked(one, other) -/
theorem c_X2_isCrooked (l : Launch) {a b : Nat} (ha : a < 10000) (hb0 : b < 10000) : Met l yX2_isCrooked wsX2_isCrooked ({ frames := 1, cells := 0, slots := 0, locals := 40 } : Room) (va_Pc [.int (nI a), .int (nI b)] (fun _ => True)) (vp_Si (fun r => r = b2i (crk a b))) 0 0 (fun _ => False) := by
  refine Met.ofW (cc := cX2_isCrooked) (maxL := 2) (ret := (some .boolean)) (by decide) rfl ?_
  intro p e s m args below meth c s₁ B hml hv
  obtain ⟨rfl, -⟩ := hv
  have hx := B.exec
  have hb := B.bytes
  have hr := B.returns
  have hts := atoms_spec (ws := wsX2_isCrooked) B.pre
  have hown : s.vm.findClass RX2 = some m.cls := findClass_of_methodNamed B.named
  have hlocks := B.notSynchronized
  have hl := lv_entry ([.int (nI a), .int (nI b)]) (n := 2) (Nat.le_of_ble_eq_true rfl)
  rw [lg_entry_eq]
  generalize (lg_sl ([.int (nI a), .int (nI b)]) ++ List.replicate (2 - (lg_sl ([.int (nI a), .int (nI b)])).length) Slot.unset).toArray = ls at hl ⊢
  have hl : lv_has ls 2 [(0, .int (nI a)), (1, .int (nI b))] := hl
  refine lv_iconst (v := nI 3) hx hb dX2_isCrooked_0 (by decide) ?_
  refine lv_iload_n hx hb dX2_isCrooked_1 rfl (lv_at hl 0 rfl) ?_
  refine lv_iload_n hx hb dX2_isCrooked_2 rfl (lv_at hl 1 rfl) ?_
  refine va_mmax hx hb (hml.trans hl.1.symm) hown (hts (.methodLink RX2 43 Lib.Math.max.name) (by decide +kernel)) (hts (.static Lib.Math.max.name) (by decide +kernel)) (hts (.initialized "java/lang/Math") (by decide +kernel)) (hts (.code Lib.Math.max.name Lib.Math.max.code 2 (some .int)) (by decide +kernel)) (Nat.le_of_ble_eq_true rfl) (Nat.le_of_ble_eq_true rfl) (Nat.zero_le _) (Nat.zero_le _) dX2_isCrooked_3 ?_
  refine zr_eqi (zr_max (by omega) (by omega)) ?_
  refine lv_imul hx hb dX2_isCrooked_6 ?_
  refine zr_eqi (pk_mul 3 (max a b)) ?_
  refine lv_iconst (v := nI 2) hx hb dX2_isCrooked_7 (by decide) ?_
  refine lv_iload_n hx hb dX2_isCrooked_8 rfl (lv_at hl 0 rfl) ?_
  refine lv_iload_n hx hb dX2_isCrooked_9 rfl (lv_at hl 1 rfl) ?_
  refine lv_iadd hx hb dX2_isCrooked_10 ?_
  refine zr_eqi (nI_add a b) ?_
  refine lv_iconst (v := nI 1) hx hb dX2_isCrooked_11 (by decide) ?_
  refine lv_iadd hx hb dX2_isCrooked_12 ?_
  refine zr_eqi (nI_add (a + b) 1) ?_
  refine lv_imul hx hb dX2_isCrooked_13 ?_
  refine zr_eqi (pk_mul 2 ((a + b) + 1)) ?_
  refine lv_icmp_le (tgt := 21) hx hb dX2_isCrooked_14 (by decide) (fun c14 => ?_) (fun c14 => ?_)
  · rw [nI_leI (by omega) (by omega)] at c14
    refine lv_iconst (v := nI 0) hx hb dX2_isCrooked_21 (by decide) ?_
    exact W.zret (v := (nI 0)) hx hb hr rfl (fun t ht hW => ⟨_, rfl, by rw [crk_max, decide_eq_false (by omega)]; rfl, ht⟩) (fun q hq => absurd hq List.not_mem_nil) dX2_isCrooked_22
  · rw [nI_leI (by omega) (by omega)] at c14
    refine lv_iconst (v := nI 1) hx hb dX2_isCrooked_17 (by decide) ?_
    refine lv_goto (tgt := 22) hx hb dX2_isCrooked_18 (by decide) ?_
    exact W.zret (v := (nI 1)) hx hb hr rfl (fun t ht hW => ⟨_, rfl, by rw [crk_max, decide_eq_true (by omega)]; rfl, ht⟩) (fun q hq => absurd hq List.not_mem_nil) dX2_isCrooked_22

set_option maxHeartbeats 4000000 in
set_option maxRecDepth 100000 in
/-- isCrooked(h) -/
theorem c_X2_isCrooked_ (l : Launch) {D : va_G} {cA cZ cI : ClassId} {M : Nat × Nat × Nat × Nat × Nat × Nat} {th tp n mo ti dr st ma : Int32} {isIn lf rt0 wy rw : Nat → Int32} {k d : Nat} {lt rt : Tr} (hk : k < 1000) (h1 : lf k = enc (root lt)) (h2 : rt0 k = enc (root rt)) (h3 : ShM lf rt0 lt) (h4 : ShM lf rt0 rt) (hl1 : Low lt) (hl2 : Low rt) (hd1 : hgt lt ≤ d) (hd2 : hgt rt ≤ d) (hz1 : siz lt < 10000) (hz2 : siz rt < 10000) : Met l yX2_isCrooked_ wsX2_isCrooked_ ({ frames := d + 2, cells := 0, slots := 0, locals := 40 * (d + 2) } : Room) (PcR D (tysA cA cZ cI) (mw M cZ cI th tp n mo ti dr st ma isIn lf rt0 wy rw) [.ref M.1, .int (nI k)]) (vp_Si (fun r => r = b2i (crk (siz lt) (siz rt)))) 0 0 (fun _ => False) := by
  refine Met.ofW (cc := cX2_isCrooked_) (maxL := 2) (ret := (some .boolean)) (by decide) rfl ?_
  intro p e s m args below meth c s₁ B hml hv
  obtain ⟨rfl, hP, hG⟩ := hv
  have hx := B.exec
  have hb := B.bytes
  have hr := B.returns
  have hts := atoms_spec (ws := wsX2_isCrooked_) B.pre
  have hown : s.vm.findClass RX2 = some m.cls := findClass_of_methodNamed B.named
  have hlocks := B.notSynchronized
  have hl := lv_entry ([.ref M.1, .int (nI k)]) (n := 2) (Nat.le_of_ble_eq_true rfl)
  rw [lg_entry_eq]
  generalize (lg_sl ([.ref M.1, .int (nI k)]) ++ List.replicate (2 - (lg_sl ([.ref M.1, .int (nI k)])).length) Slot.unset).toArray = ls at hl ⊢
  have hl : lv_has ls 2 [(0, .ref M.1), (1, .int (nI k))] := hl
  refine lv_aload_n hx hb dX2_isCrooked__0 rfl (lv_at hl 0 rfl) ?_
  refine lv_aload_n hx hb dX2_isCrooked__1 rfl (lv_at hl 0 rfl) ?_
  refine va_get (D := D) (ci := 2) (v := .ref M.2.2.1) (C := RX2) (T := TX2) (N := 13) hx hb hts (by decide +kernel) hown hG.1 hP 0 mw_m rfl 7 (by decide) (hts (.fieldLink RX2 17 "LopsidedRanksModel" "left" "[I") (by decide +kernel)) (fun _ h9 => h9) rfl dX2_isCrooked__2 ?_
  refine lv_iload_n hx hb dX2_isCrooked__5 rfl (lv_at hl 1 rfl) ?_
  refine zr_iald hx hb hG.1 hP 2 2 mw_l rfl (k := k) (by omega) (Nat.le_of_ble_eq_true rfl) dX2_isCrooked__6 ?_
  refine zr_eqi h1 ?_
  refine vp_callSi (va_Run.run (va_runV (As := [.int (enc (root lt))]) (rest := []) ⟨hx, hb, hml, hown, hts⟩ (c_X2_size l (d := d) h3 hl1 (by omega)) (cwV 1 hts gX2_isCrooked__X2_size rfl rfl rfl (by decide +kernel) ⟨by show d + 1 ≤ d + 2; omega, by show 8 + (2 + 11) + 40 * d ≤ 40 * (d + 2); omega⟩) ⟨PcR.blind, va_recv hG.1 hP (ci := 2) (q0 := 0) rfl mw_m, PcR.at hP hG⟩ rfl rfl hl.1 rfl (lv_room (Nat.le_of_ble_eq_true rfl)) dX2_isCrooked__7 ⟨Nat.zero_le _, Nat.zero_le _⟩)) (fun r7 q7 => ?_)
  subst q7
  refine lv_aload_n hx hb dX2_isCrooked__10 rfl (lv_at hl 0 rfl) ?_
  refine lv_aload_n hx hb dX2_isCrooked__11 rfl (lv_at hl 0 rfl) ?_
  refine va_get (D := D) (ci := 2) (v := .ref M.2.2.2.1) (C := RX2) (T := TX2) (N := 13) hx hb hts (by decide +kernel) hown hG.1 hP 0 mw_m rfl 8 (by decide) (hts (.fieldLink RX2 21 "LopsidedRanksModel" "right" "[I") (by decide +kernel)) (fun _ h9 => h9) rfl dX2_isCrooked__12 ?_
  refine lv_iload_n hx hb dX2_isCrooked__15 rfl (lv_at hl 1 rfl) ?_
  refine zr_iald hx hb hG.1 hP 3 2 mw_r rfl (k := k) (by omega) (Nat.le_of_ble_eq_true rfl) dX2_isCrooked__16 ?_
  refine zr_eqi h2 ?_
  refine vp_callSi (va_Run.run (va_runV (As := [.int (enc (root rt))]) (rest := [.int (nI (siz lt))]) ⟨hx, hb, hml, hown, hts⟩ (c_X2_size l (d := d) h4 hl2 (by omega)) (cwV 1 hts gX2_isCrooked__X2_size rfl rfl rfl (by decide +kernel) ⟨by show d + 1 ≤ d + 2; omega, by show 8 + (2 + 11) + 40 * d ≤ 40 * (d + 2); omega⟩) ⟨PcR.blind, va_recv hG.1 hP (ci := 2) (q0 := 0) rfl mw_m, PcR.at hP hG⟩ rfl rfl hl.1 rfl (lv_room (Nat.le_of_ble_eq_true rfl)) dX2_isCrooked__17 ⟨Nat.zero_le _, Nat.zero_le _⟩)) (fun r17 q17 => ?_)
  subst q17
  refine vp_callSi (va_Run.run (va_runS (As := [.int (nI (siz lt)), .int (nI (siz rt))]) (rest := []) ⟨hx, hb, hml, hown, hts⟩ (c_X2_isCrooked l (by omega) (by omega)) (va_cwS 2 hts gX2_isCrooked__X2_isCrooked rfl rfl rfl (by decide +kernel) ⟨by show 1 + 1 ≤ d + 2; omega, by show 8 + (2 + 11) + 40 ≤ 40 * (d + 2); omega⟩) ⟨PcT.blind, PcT.at⟩ rfl rfl hl.1 rfl (lv_room (Nat.le_of_ble_eq_true rfl)) dX2_isCrooked__20 ⟨Nat.zero_le _, Nat.zero_le _⟩)) (fun r20 q20 => ?_)
  subst q20
  exact W.zret (v := (b2i (crk (siz lt) (siz rt)))) hx hb hr (b2i_nar _) (fun t ht hW => ⟨_, rfl, rfl, ht⟩) (fun q hq => absurd hq List.not_mem_nil) dX2_isCrooked__23

