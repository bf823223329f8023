/-! THE REFERENCE: crookedIn, depthsIn, allowed, goTo, smaller -/
/-- who stands on the way to h, with itself -/
def wayT (h : Nat) : Tr → List Nat
  | .leaf => []
  | .inner _ k _ l r => k :: (if h = k then [] else if h < k then wayT h l else wayT h r)
theorem way_len {h : Nat} {T : Tr} : (wayT h T).length ≤ hgt T := by
  induction T with
  | leaf => exact Nat.le_refl _
  | inner s k v l r ihl ihr =>
    simp only [wayT, hgt, List.length_cons]
    split
    · simp
    · split <;> omega
theorem way_in {h : Nat} {T : Tr} (hb : bst T) (hm : h ∈ keysT T) : wayT h T = anc h T ++ [h] := by
  induction T with
  | leaf => cases hm
  | inner s k v l r ihl ihr =>
    obtain ⟨b1, b2, b3, b4⟩ := bst_in.mp hb
    simp only [wayT, anc]
    rcases (keys_in ..).mp hm with q | q | q
    · have := b3 h q
      rw [if_neg (by omega), if_pos (by omega), if_neg (by omega), if_pos (by omega), ihl b1 q]
      rfl
    · subst q
      rw [if_pos rfl, if_pos rfl]
      rfl
    · have := b4 h q
      rw [if_neg (by omega), if_neg (by omega), if_neg (by omega), if_neg (by omega), ihr b2 q]
      rfl
theorem way_out {h : Nat} {T : Tr} (hm : h ∉ keysT T) : wayT h T = anc h T := by
  induction T with
  | leaf => rfl
  | inner s k v l r ihl ihr =>
    have h1 : h ≠ k := fun e => hm ((keys_in ..).mpr (Or.inr (Or.inl e)))
    simp only [wayT, anc]
    rw [if_neg h1, if_neg h1]
    split
    · rw [ihl (fun q => hm ((keys_in ..).mpr (Or.inl q)))]
    · rw [ihr (fun q => hm ((keys_in ..).mpr (Or.inr (Or.inr q))))]
theorem way_step {wy wy' : Nat → Int32} {i k : Nat} {xs : List Nat} (w1 : ∀ j k', xs[j]? = some k' → wy' (i + 1 + j) = nI k') (w2 : ∀ j, j < i + 1 → wy' j = upd wy i (nI k) j) : (∀ j k', (k :: xs)[j]? = some k' → wy' (i + j) = nI k') ∧ ∀ j, j < i → wy' j = wy j := by
  refine ⟨fun j k' e => ?_, fun j hj => ?_⟩
  · cases j with
    | zero =>
      rw [List.getElem?_cons_zero] at e
      cases e
      rw [Nat.add_zero, w2 i (by omega)]
      simp [upd]
    | succ j =>
      rw [List.getElem?_cons_succ] at e
      rw [show i + (j + 1) = i + 1 + j by omega]
      exact w1 j k' e
  · rw [w2 j (by omega)]
    simp [upd, show j ≠ i by omega]
theorem cnt_all {h : Nat} {T : Tr} (ha : ∀ j ∈ keysT T, j < h) : cntLt h T = siz T := by
  induction T with
  | leaf => rfl
  | inner s k v l r ihl ihr =>
    have h1 := ha k ((keys_in ..).mpr (Or.inr (Or.inl rfl)))
    simp only [cntLt, siz]
    rw [if_neg (by omega), if_neg (by omega), ihr (fun j hj => ha j ((keys_in ..).mpr (Or.inr (Or.inr hj))))]
    omega
theorem cnt_none {h : Nat} {T : Tr} (ha : ∀ j ∈ keysT T, h < j) : cntLt h T = 0 := by
  induction T with
  | leaf => rfl
  | inner s k v l r ihl ihr =>
    have h1 := ha k ((keys_in ..).mpr (Or.inr (Or.inl rfl)))
    simp only [cntLt]
    rw [if_neg (by omega), if_pos h1, ihl (fun j hj => ha j ((keys_in ..).mpr (Or.inl hj)))]
theorem cnt_least {h : Nat} {T : Tr} (hb : bst T) (ha : ∀ j ∈ keysT T, h ≤ j) : cntLt h T = 0 := by
  induction T with
  | leaf => rfl
  | inner s k v l r ihl ihr =>
    obtain ⟨b1, b2, b3, b4⟩ := bst_in.mp hb
    have h1 := ha k ((keys_in ..).mpr (Or.inr (Or.inl rfl)))
    have hl := fun j hj => ha j ((keys_in s k v l r j).mpr (Or.inl hj))
    simp only [cntLt]
    by_cases e : h = k
    · rw [if_pos e]
      cases l with
      | leaf => rfl
      | inner s2 k2 v2 l2 r2 =>
        have h2 := hl k2 ((keys_in ..).mpr (Or.inr (Or.inl rfl)))
        have h3 := b3 k2 ((keys_in ..).mpr (Or.inr (Or.inl rfl)))
        omega
    · rw [if_neg e, if_pos (by omega), ihl b1 hl]
theorem cnt_step {k : Nat} {T : Tr} (hb : bst T) : cntLt (k + 1) T = cntLt k T + (if k ∈ keysT T then 1 else 0) := by
  induction T with
  | leaf => simp [cntLt, keysT]
  | inner s k0 v l r ihl ihr =>
    obtain ⟨b1, b2, b3, b4⟩ := bst_in.mp hb
    simp only [cntLt]
    rcases Nat.lt_trichotomy k k0 with q | q | q
    · have e1 : k ∈ keysT (.inner s k0 v l r : Tr) ↔ k ∈ keysT l := by
        rw [keys_in]
        exact ⟨fun z => z.elim id (fun z => z.elim (fun z => by omega) (fun z => by have := b4 k z; omega)), Or.inl⟩
      have e2 := ihl b1
      simp only [e1]
      rw [if_neg (show ¬ k = k0 by omega), if_pos q]
      by_cases e : k + 1 = k0
      · rw [if_pos e, ← e2, cnt_all (fun j hj => by have := b3 j hj; omega)]
      · rw [if_neg e, if_pos (by omega), e2]
    · subst q
      rw [if_neg (by omega), if_neg (by omega), if_pos rfl, if_pos ((keys_in ..).mpr (Or.inr (Or.inl rfl))), cnt_least b2 (fun j hj => by have := b4 j hj; omega)]
    · have e1 : k ∈ keysT (.inner s k0 v l r : Tr) ↔ k ∈ keysT r := by
        rw [keys_in]
        exact ⟨fun z => z.elim (fun z => by have := b3 k z; omega) (fun z => z.elim (fun z => by omega) id), fun z => Or.inr (Or.inr z)⟩
      have e2 := ihr b2
      simp only [e1]
      rw [if_neg (by omega), if_neg (by omega), if_neg (by omega), if_neg (by omega), e2]
      omega
theorem cnt_0 {T : Tr} (hb : bst T) : cntLt 0 T = 0 := cnt_least hb (fun j _ => Nat.zero_le j)
theorem cnt_key {h : Nat} {T : Tr} (hb : bst T) (hm : h ∈ keysT T) : (keysT T)[cntLt h T]? = some h := by
  obtain ⟨s, v, l, r, e⟩ := sub_at ((subT_mem hb).mpr hm)
  rw [cnt_ofs, ofs_key (by rw [e]; simp only [sizL, siz]; omega), e]
  simp only [sizL, keysT]
  rw [List.getElem?_append_right (by rw [keys_len]; omega), keys_len, Nat.sub_self]
  rfl
theorem b2i_d {p : Prop} [Decidable p] : b2i (decide p) = nI (if p then 1 else 0) := by
  by_cases h : p
  · rw [decide_eq_true h, if_pos h]; rfl
  · rw [decide_eq_false h, if_neg h]; rfl
set_option maxHeartbeats 4000000 in
set_option maxRecDepth 100000 in
/-- X2_crookedIn -/
theorem c_X2_crookedIn (l : Launch) {D : va_G} {cA cZ cI : ClassId} {M : Nat × Nat × Nat × Nat × Nat × Nat} {th tp n mo ti dr st ma : Int32} {isIn lf rt wy rw : Nat → Int32} : ∀ {t : Tr} {d : Nat} (hs : ShM lf rt t) (hlo : Low t) (hh : hgt t ≤ d) (hz9 : siz t ≤ 1000), Met l yX2_crookedIn wsX2_crookedIn ({ frames := d + 2, cells := 0, slots := 0, locals := 40 * (d + 2) } : Room) (PcR D (tysA cA cZ cI) (mw M cZ cI th tp n mo ti dr st ma isIn lf rt wy rw) [.ref M.1, .int (enc (root t))]) (vp_Si (fun r => r = nI (ckn t))) 0 0 (fun _ => False) := by
  intro t
  induction t with
  | leaf =>
    intro d hs hlo hh hz9
    refine Met.ofW (cc := cX2_crookedIn) (maxL := 2) (ret := (some .int)) (by decide) rfl ?_
    intro p e s m args below meth c s₁ B hml hv
    obtain ⟨rfl, hP, hG⟩ := hv
    have hx := B.exec
    have hb := B.bytes
    have hr := B.returns
    have hts := atoms_spec (ws := wsX2_crookedIn) B.pre
    have hown : s.vm.findClass RX2 = some m.cls := findClass_of_methodNamed B.named
    have hlocks := B.notSynchronized
    have hl := lv_entry ([.ref M.1, .int (enc (root (.leaf : Tr)))]) (n := 2) (Nat.le_of_ble_eq_true rfl)
    rw [lg_entry_eq]
    generalize (lg_sl ([.ref M.1, .int (enc (root (.leaf : Tr)))]) ++ List.replicate (2 - (lg_sl ([.ref M.1, .int (enc (root (.leaf : Tr)))])).length) Slot.unset).toArray = ls at hl ⊢
    have hl : lv_has ls 2 [(0, .ref M.1), (1, .int (enc (root (.leaf : Tr))))] := hl
    have hl : lv_has ls 2 [(0, .ref M.1), (1, .int (-1))] := hl
    refine lv_iload_n hx hb dX2_crookedIn_0 rfl (lv_at hl 1 rfl) ?_
    refine lv_iconst (v := (-1)) hx hb dX2_crookedIn_1 (by decide) ?_
    refine lv_icmp_ne (tgt := 9) hx hb dX2_crookedIn_2 (by decide) (fun c2 => ?_) (fun c2 => ?_)
    · exact absurd rfl c2
    · refine lv_iconst (v := nI 0) hx hb dX2_crookedIn_5 (by decide) ?_
      refine lv_goto (tgt := 44) hx hb dX2_crookedIn_6 (by decide) ?_
      exact W.iret (v := (nI 0)) hx hb hr (fun t ht hW => ⟨_, rfl, rfl, ht⟩) (fun q hq => absurd hq List.not_mem_nil) dX2_crookedIn_44

  | inner sz k v lt rt ihl ihr =>
    intro d0 hs hlo hh hz9
    simp only [hgt] at hh
    obtain ⟨d, rfl⟩ : ∃ d, d0 = d + 1 := ⟨d0 - 1, by omega⟩
    refine Met.ofW (cc := cX2_crookedIn) (maxL := 2) (ret := (some .int)) (by decide) rfl ?_
    intro p e s m args below meth c s₁ B hml hv
    obtain ⟨rfl, hP, hG⟩ := hv
    have hx := B.exec
    have hb := B.bytes
    have hr := B.returns
    have hts := atoms_spec (ws := wsX2_crookedIn) B.pre
    have hown : s.vm.findClass RX2 = some m.cls := findClass_of_methodNamed B.named
    have hlocks := B.notSynchronized
    have hl := lv_entry ([.ref M.1, .int (enc (root (.inner sz k v lt rt : Tr)))]) (n := 2) (Nat.le_of_ble_eq_true rfl)
    rw [lg_entry_eq]
    generalize (lg_sl ([.ref M.1, .int (enc (root (.inner sz k v lt rt : Tr)))]) ++ List.replicate (2 - (lg_sl ([.ref M.1, .int (enc (root (.inner sz k v lt rt : Tr)))])).length) Slot.unset).toArray = ls at hl ⊢
    have hl : lv_has ls 2 [(0, .ref M.1), (1, .int (enc (root (.inner sz k v lt rt : Tr))))] := hl
    have hl : lv_has ls 2 [(0, .ref M.1), (1, .int (nI k))] := hl
    obtain ⟨h1, h2, h3, h4⟩ := hs
    have hk := hlo.k
    simp only [siz] at hz9
    refine lv_iload_n hx hb dX2_crookedIn_0 rfl (lv_at hl 1 rfl) ?_
    refine lv_iconst (v := (-1)) hx hb dX2_crookedIn_1 (by decide) ?_
    refine lv_icmp_ne (tgt := 9) hx hb dX2_crookedIn_2 (by decide) (fun c2 => ?_) (fun c2 => ?_)
    · refine lv_aload_n hx hb dX2_crookedIn_9 rfl (lv_at hl 0 rfl) ?_
      refine lv_iload_n hx hb dX2_crookedIn_10 rfl (lv_at hl 1 rfl) ?_
      refine vp_callSi (va_Run.run (va_runV (As := [.int (nI k)]) (rest := []) ⟨hx, hb, hml, hown, hts⟩ (c_X2_isCrooked_ l (d := d) (lt := lt) (rt := rt) hk h1 h2 h3 h4 hlo.l hlo.r (by omega) (by omega) (by omega) (by omega)) (cwV 1 hts gX2_crookedIn_X2_isCrooked_ rfl rfl rfl (by decide +kernel) ⟨by show d + 2 + 1 ≤ d + 1 + 2; omega, by show 8 + (2 + 11) + 40 * (d + 2) ≤ 40 * (d + 1 + 2); omega⟩) ⟨PcR.blind, va_recv hG.1 hP (ci := 2) (q0 := 0) rfl mw_m, PcR.at hP hG⟩ rfl rfl hl.1 rfl (lv_room (Nat.le_of_ble_eq_true rfl)) dX2_crookedIn_11 ⟨Nat.zero_le _, Nat.zero_le _⟩)) (fun r11 q11 => ?_)
      subst q11
      refine lv_if_eq (tgt := 21) hx hb dX2_crookedIn_14 (by decide) (fun c14 => ?_) (fun c14 => ?_)
      · refine lv_iconst (v := nI 0) hx hb dX2_crookedIn_21 (by decide) ?_
        refine lv_aload_n hx hb dX2_crookedIn_22 rfl (lv_at hl 0 rfl) ?_
        refine lv_aload_n hx hb dX2_crookedIn_23 rfl (lv_at hl 0 rfl) ?_
        refine va_get (D := D) (ci := 2) (v := .ref M.2.2.1) (C := RX2) (T := TX2) (N := 13) hx hb hts (by decide +kernel) hown hG.1 hP 0 mw_m rfl 7 (by decide) (hts (.fieldLink RX2 17 "LopsidedRanksModel" "left" "[I") (by decide +kernel)) (fun _ h9 => h9) rfl dX2_crookedIn_24 ?_
        refine lv_iload_n hx hb dX2_crookedIn_27 rfl (lv_at hl 1 rfl) ?_
        refine zr_iald hx hb hG.1 hP 2 2 mw_l rfl (k := k) (by omega) (Nat.le_of_ble_eq_true rfl) dX2_crookedIn_28 ?_
        refine zr_eqi h1 ?_
        refine vp_callSi (va_Run.run (va_runV (As := [.int (enc (root lt))]) (rest := [.int (nI 0)]) ⟨hx, hb, hml, hown, hts⟩ (ihl (d := d) h3 hlo.l (by omega) (by omega)) (cwV 1 hts gX2_crookedIn_X2_crookedIn rfl rfl rfl (by decide +kernel) ⟨by show d + 2 + 1 ≤ d + 1 + 2; omega, by show 8 + (2 + 11) + 40 * (d + 2) ≤ 40 * (d + 1 + 2); omega⟩) ⟨PcR.blind, va_recv hG.1 hP (ci := 2) (q0 := 0) rfl mw_m, PcR.at hP hG⟩ rfl rfl hl.1 rfl (lv_room (Nat.le_of_ble_eq_true rfl)) dX2_crookedIn_29 ⟨Nat.zero_le _, Nat.zero_le _⟩)) (fun r29 q29 => ?_)
        subst q29
        refine lv_iadd hx hb dX2_crookedIn_32 ?_
        refine zr_eqi (nI_add 0 (ckn lt)) ?_
        refine lv_aload_n hx hb dX2_crookedIn_33 rfl (lv_at hl 0 rfl) ?_
        refine lv_aload_n hx hb dX2_crookedIn_34 rfl (lv_at hl 0 rfl) ?_
        refine va_get (D := D) (ci := 2) (v := .ref M.2.2.2.1) (C := RX2) (T := TX2) (N := 13) hx hb hts (by decide +kernel) hown hG.1 hP 0 mw_m rfl 8 (by decide) (hts (.fieldLink RX2 21 "LopsidedRanksModel" "right" "[I") (by decide +kernel)) (fun _ h9 => h9) rfl dX2_crookedIn_35 ?_
        refine lv_iload_n hx hb dX2_crookedIn_38 rfl (lv_at hl 1 rfl) ?_
        refine zr_iald hx hb hG.1 hP 3 2 mw_r rfl (k := k) (by omega) (Nat.le_of_ble_eq_true rfl) dX2_crookedIn_39 ?_
        refine zr_eqi h2 ?_
        refine vp_callSi (va_Run.run (va_runV (As := [.int (enc (root rt))]) (rest := [.int (nI (0 + (ckn lt)))]) ⟨hx, hb, hml, hown, hts⟩ (ihr (d := d) h4 hlo.r (by omega) (by omega)) (cwV 1 hts gX2_crookedIn_X2_crookedIn rfl rfl rfl (by decide +kernel) ⟨by show d + 2 + 1 ≤ d + 1 + 2; omega, by show 8 + (2 + 11) + 40 * (d + 2) ≤ 40 * (d + 1 + 2); omega⟩) ⟨PcR.blind, va_recv hG.1 hP (ci := 2) (q0 := 0) rfl mw_m, PcR.at hP hG⟩ rfl rfl hl.1 rfl (lv_room (Nat.le_of_ble_eq_true rfl)) dX2_crookedIn_40 ⟨Nat.zero_le _, Nat.zero_le _⟩)) (fun r40 q40 => ?_)
        subst q40
        refine lv_iadd hx hb dX2_crookedIn_43 ?_
        refine zr_eqi (nI_add (0 + (ckn lt)) (ckn rt)) ?_
        exact W.iret (v := (nI ((0 + (ckn lt)) + (ckn rt)))) hx hb hr (fun t ht hW => ⟨_, rfl, congrArg nI (by simp only [ckn]; rw [if_neg (b2i_eq c14)]), ht⟩) (fun q hq => absurd hq List.not_mem_nil) dX2_crookedIn_44
      · refine lv_iconst (v := nI 1) hx hb dX2_crookedIn_17 (by decide) ?_
        refine lv_goto (tgt := 22) hx hb dX2_crookedIn_18 (by decide) ?_
        refine lv_aload_n hx hb dX2_crookedIn_22 rfl (lv_at hl 0 rfl) ?_
        refine lv_aload_n hx hb dX2_crookedIn_23 rfl (lv_at hl 0 rfl) ?_
        refine va_get (D := D) (ci := 2) (v := .ref M.2.2.1) (C := RX2) (T := TX2) (N := 13) hx hb hts (by decide +kernel) hown hG.1 hP 0 mw_m rfl 7 (by decide) (hts (.fieldLink RX2 17 "LopsidedRanksModel" "left" "[I") (by decide +kernel)) (fun _ h9 => h9) rfl dX2_crookedIn_24 ?_
        refine lv_iload_n hx hb dX2_crookedIn_27 rfl (lv_at hl 1 rfl) ?_
        refine zr_iald hx hb hG.1 hP 2 2 mw_l rfl (k := k) (by omega) (Nat.le_of_ble_eq_true rfl) dX2_crookedIn_28 ?_
        refine zr_eqi h1 ?_
        refine vp_callSi (va_Run.run (va_runV (As := [.int (enc (root lt))]) (rest := [.int (nI 1)]) ⟨hx, hb, hml, hown, hts⟩ (ihl (d := d) h3 hlo.l (by omega) (by omega)) (cwV 1 hts gX2_crookedIn_X2_crookedIn rfl rfl rfl (by decide +kernel) ⟨by show d + 2 + 1 ≤ d + 1 + 2; omega, by show 8 + (2 + 11) + 40 * (d + 2) ≤ 40 * (d + 1 + 2); omega⟩) ⟨PcR.blind, va_recv hG.1 hP (ci := 2) (q0 := 0) rfl mw_m, PcR.at hP hG⟩ rfl rfl hl.1 rfl (lv_room (Nat.le_of_ble_eq_true rfl)) dX2_crookedIn_29 ⟨Nat.zero_le _, Nat.zero_le _⟩)) (fun r29 q29 => ?_)
        subst q29
        refine lv_iadd hx hb dX2_crookedIn_32 ?_
        refine zr_eqi (nI_add 1 (ckn lt)) ?_
        refine lv_aload_n hx hb dX2_crookedIn_33 rfl (lv_at hl 0 rfl) ?_
        refine lv_aload_n hx hb dX2_crookedIn_34 rfl (lv_at hl 0 rfl) ?_
        refine va_get (D := D) (ci := 2) (v := .ref M.2.2.2.1) (C := RX2) (T := TX2) (N := 13) hx hb hts (by decide +kernel) hown hG.1 hP 0 mw_m rfl 8 (by decide) (hts (.fieldLink RX2 21 "LopsidedRanksModel" "right" "[I") (by decide +kernel)) (fun _ h9 => h9) rfl dX2_crookedIn_35 ?_
        refine lv_iload_n hx hb dX2_crookedIn_38 rfl (lv_at hl 1 rfl) ?_
        refine zr_iald hx hb hG.1 hP 3 2 mw_r rfl (k := k) (by omega) (Nat.le_of_ble_eq_true rfl) dX2_crookedIn_39 ?_
        refine zr_eqi h2 ?_
        refine vp_callSi (va_Run.run (va_runV (As := [.int (enc (root rt))]) (rest := [.int (nI (1 + (ckn lt)))]) ⟨hx, hb, hml, hown, hts⟩ (ihr (d := d) h4 hlo.r (by omega) (by omega)) (cwV 1 hts gX2_crookedIn_X2_crookedIn rfl rfl rfl (by decide +kernel) ⟨by show d + 2 + 1 ≤ d + 1 + 2; omega, by show 8 + (2 + 11) + 40 * (d + 2) ≤ 40 * (d + 1 + 2); omega⟩) ⟨PcR.blind, va_recv hG.1 hP (ci := 2) (q0 := 0) rfl mw_m, PcR.at hP hG⟩ rfl rfl hl.1 rfl (lv_room (Nat.le_of_ble_eq_true rfl)) dX2_crookedIn_40 ⟨Nat.zero_le _, Nat.zero_le _⟩)) (fun r40 q40 => ?_)
        subst q40
        refine lv_iadd hx hb dX2_crookedIn_43 ?_
        refine zr_eqi (nI_add (1 + (ckn lt)) (ckn rt)) ?_
        exact W.iret (v := (nI ((1 + (ckn lt)) + (ckn rt)))) hx hb hr (fun t ht hW => ⟨_, rfl, congrArg nI (by simp only [ckn]; rw [if_pos (b2i_ne c14)]), ht⟩) (fun q hq => absurd hq List.not_mem_nil) dX2_crookedIn_44
    · exact absurd c2 (nI_m1 (by omega))

set_option maxHeartbeats 4000000 in
set_option maxRecDepth 100000 in
/-- X2_depthsIn -/
theorem c_X2_depthsIn (l : Launch) {D : va_G} {cA cZ cI : ClassId} {M : Nat × Nat × Nat × Nat × Nat × Nat} {th tp n mo ti dr st ma : Int32} {isIn lf rt wy rw : Nat → Int32} : ∀ {t : Tr} {d : Nat} {dep : Nat} (hs : ShM lf rt t) (hlo : Low t) (hh : hgt t ≤ d) (hx9 : dep + hgt t ≤ 1000), Met l yX2_depthsIn wsX2_depthsIn ({ frames := d, cells := 0, slots := 0, locals := 40 * (d) } : Room) (PcR D (tysA cA cZ cI) (mw M cZ cI th tp n mo ti dr st ma isIn lf rt wy rw) [.ref M.1, .int (enc (root t)), .int (nI dep)]) (vp_Sl (fun r => r = lN (dps dep t))) 0 0 (fun _ => False) := by
  intro t
  induction t with
  | leaf =>
    intro d dep hs hlo hh hx9
    refine Met.ofW (cc := cX2_depthsIn) (maxL := 3) (ret := (some .long)) (by decide) rfl ?_
    intro p e s m args below meth c s₁ B hml hv
    obtain ⟨rfl, hP, hG⟩ := hv
    have hx := B.exec
    have hb := B.bytes
    have hr := B.returns
    have hts := atoms_spec (ws := wsX2_depthsIn) B.pre
    have hown : s.vm.findClass RX2 = some m.cls := findClass_of_methodNamed B.named
    have hlocks := B.notSynchronized
    have hl := lv_entry ([.ref M.1, .int (enc (root (.leaf : Tr))), .int (nI dep)]) (n := 3) (Nat.le_of_ble_eq_true rfl)
    rw [lg_entry_eq]
    generalize (lg_sl ([.ref M.1, .int (enc (root (.leaf : Tr))), .int (nI dep)]) ++ List.replicate (3 - (lg_sl ([.ref M.1, .int (enc (root (.leaf : Tr))), .int (nI dep)])).length) Slot.unset).toArray = ls at hl ⊢
    have hl : lv_has ls 3 [(0, .ref M.1), (1, .int (enc (root (.leaf : Tr)))), (2, .int (nI dep))] := hl
    have hl : lv_has ls 3 [(0, .ref M.1), (1, .int (-1)), (2, .int (nI dep))] := hl
    refine lv_iload_n hx hb dX2_depthsIn_0 rfl (lv_at hl 1 rfl) ?_
    refine lv_iconst (v := (-1)) hx hb dX2_depthsIn_1 (by decide) ?_
    refine lv_icmp_ne (tgt := 9) hx hb dX2_depthsIn_2 (by decide) (fun c2 => ?_) (fun c2 => ?_)
    · exact absurd rfl c2
    · refine lv_lconst (v := lN 0) hx hb dX2_depthsIn_5 (by decide) ?_
      refine lv_goto (tgt := 39) hx hb dX2_depthsIn_6 (by decide) ?_
      exact W.lret (v := lN 0) hx hb hr (fun t ht hW => ⟨_, rfl, rfl, ht⟩) (fun q hq => absurd hq List.not_mem_nil) dX2_depthsIn_39

  | inner sz k v lt rt ihl ihr =>
    intro d0 dep hs hlo hh hx9
    simp only [hgt] at hh
    obtain ⟨d, rfl⟩ : ∃ d, d0 = d + 1 := ⟨d0 - 1, by omega⟩
    refine Met.ofW (cc := cX2_depthsIn) (maxL := 3) (ret := (some .long)) (by decide) rfl ?_
    intro p e s m args below meth c s₁ B hml hv
    obtain ⟨rfl, hP, hG⟩ := hv
    have hx := B.exec
    have hb := B.bytes
    have hr := B.returns
    have hts := atoms_spec (ws := wsX2_depthsIn) B.pre
    have hown : s.vm.findClass RX2 = some m.cls := findClass_of_methodNamed B.named
    have hlocks := B.notSynchronized
    have hl := lv_entry ([.ref M.1, .int (enc (root (.inner sz k v lt rt : Tr))), .int (nI dep)]) (n := 3) (Nat.le_of_ble_eq_true rfl)
    rw [lg_entry_eq]
    generalize (lg_sl ([.ref M.1, .int (enc (root (.inner sz k v lt rt : Tr))), .int (nI dep)]) ++ List.replicate (3 - (lg_sl ([.ref M.1, .int (enc (root (.inner sz k v lt rt : Tr))), .int (nI dep)])).length) Slot.unset).toArray = ls at hl ⊢
    have hl : lv_has ls 3 [(0, .ref M.1), (1, .int (enc (root (.inner sz k v lt rt : Tr)))), (2, .int (nI dep))] := hl
    have hl : lv_has ls 3 [(0, .ref M.1), (1, .int (nI k)), (2, .int (nI dep))] := hl
    obtain ⟨h1, h2, h3, h4⟩ := hs
    have hk := hlo.k
    simp only [hgt] at hx9
    refine lv_iload_n hx hb dX2_depthsIn_0 rfl (lv_at hl 1 rfl) ?_
    refine lv_iconst (v := (-1)) hx hb dX2_depthsIn_1 (by decide) ?_
    refine lv_icmp_ne (tgt := 9) hx hb dX2_depthsIn_2 (by decide) (fun c2 => ?_) (fun c2 => ?_)
    · refine lv_iload_n hx hb dX2_depthsIn_9 rfl (lv_at hl 2 rfl) ?_
      refine lv_i2l hx hb dX2_depthsIn_10 rfl ?_
      refine lv_aload_n hx hb dX2_depthsIn_11 rfl (lv_at hl 0 rfl) ?_
      refine lv_aload_n hx hb dX2_depthsIn_12 rfl (lv_at hl 0 rfl) ?_
      refine va_get (D := D) (ci := 2) (v := .ref M.2.2.1) (C := RX2) (T := TX2) (N := 13) hx hb hts (by decide +kernel) hown hG.1 hP 0 mw_m rfl 7 (by decide) (hts (.fieldLink RX2 17 "LopsidedRanksModel" "left" "[I") (by decide +kernel)) (fun _ h9 => h9) rfl dX2_depthsIn_13 ?_
      refine lv_iload_n hx hb dX2_depthsIn_16 rfl (lv_at hl 1 rfl) ?_
      refine zr_iald hx hb hG.1 hP 2 2 mw_l rfl (k := k) (by omega) (Nat.le_of_ble_eq_true rfl) dX2_depthsIn_17 ?_
      refine zr_eqi h1 ?_
      refine lv_iload_n hx hb dX2_depthsIn_18 rfl (lv_at hl 2 rfl) ?_
      refine lv_iconst (v := nI 1) hx hb dX2_depthsIn_19 (by decide) ?_
      refine lv_iadd hx hb dX2_depthsIn_20 ?_
      refine zr_eqi (nI_add dep 1) ?_
      refine vp_callSl (va_Run.run (va_runV (As := [.int (enc (root lt)), .int (nI (dep + 1))]) (rest := [.long (nI dep).toInt64]) ⟨hx, hb, hml, hown, hts⟩ (ihl (d := d) (dep := dep + 1) h3 hlo.l (by omega) (by omega)) (cwV 2 hts gX2_depthsIn_X2_depthsIn rfl rfl rfl (by decide +kernel) ⟨by show d + 1 ≤ d + 1; omega, by show 8 + (3 + 11) + 40 * (d) ≤ 40 * (d + 1); omega⟩) ⟨PcR.blind, va_recv hG.1 hP (ci := 2) (q0 := 0) rfl mw_m, PcR.at hP hG⟩ rfl rfl hl.1 rfl (lv_room (Nat.le_of_ble_eq_true rfl)) dX2_depthsIn_21 ⟨Nat.zero_le _, Nat.zero_le _⟩)) (fun r21 q21 => ?_)
      subst q21
      refine lv_ladd hx hb dX2_depthsIn_24 ?_
      refine lv_aload_n hx hb dX2_depthsIn_25 rfl (lv_at hl 0 rfl) ?_
      refine lv_aload_n hx hb dX2_depthsIn_26 rfl (lv_at hl 0 rfl) ?_
      refine va_get (D := D) (ci := 2) (v := .ref M.2.2.2.1) (C := RX2) (T := TX2) (N := 13) hx hb hts (by decide +kernel) hown hG.1 hP 0 mw_m rfl 8 (by decide) (hts (.fieldLink RX2 21 "LopsidedRanksModel" "right" "[I") (by decide +kernel)) (fun _ h9 => h9) rfl dX2_depthsIn_27 ?_
      refine lv_iload_n hx hb dX2_depthsIn_30 rfl (lv_at hl 1 rfl) ?_
      refine zr_iald hx hb hG.1 hP 3 2 mw_r rfl (k := k) (by omega) (Nat.le_of_ble_eq_true rfl) dX2_depthsIn_31 ?_
      refine zr_eqi h2 ?_
      refine lv_iload_n hx hb dX2_depthsIn_32 rfl (lv_at hl 2 rfl) ?_
      refine lv_iconst (v := nI 1) hx hb dX2_depthsIn_33 (by decide) ?_
      refine lv_iadd hx hb dX2_depthsIn_34 ?_
      refine zr_eqi (nI_add dep 1) ?_
      refine vp_callSl (va_Run.run (va_runV (As := [.int (enc (root rt)), .int (nI (dep + 1))]) (rest := [.long (((nI dep).toInt64) + (lN (dps (dep + 1) lt)))]) ⟨hx, hb, hml, hown, hts⟩ (ihr (d := d) (dep := dep + 1) h4 hlo.r (by omega) (by omega)) (cwV 2 hts gX2_depthsIn_X2_depthsIn rfl rfl rfl (by decide +kernel) ⟨by show d + 1 ≤ d + 1; omega, by show 8 + (3 + 11) + 40 * (d) ≤ 40 * (d + 1); omega⟩) ⟨PcR.blind, va_recv hG.1 hP (ci := 2) (q0 := 0) rfl mw_m, PcR.at hP hG⟩ rfl rfl hl.1 rfl (lv_room (Nat.le_of_ble_eq_true rfl)) dX2_depthsIn_35 ⟨Nat.zero_le _, Nat.zero_le _⟩)) (fun r35 q35 => ?_)
      subst q35
      refine lv_ladd hx hb dX2_depthsIn_38 ?_
      exact W.lret (v := (((nI dep).toInt64) + (lN (dps (dep + 1) lt))) + (lN (dps (dep + 1) rt))) hx hb hr (fun t ht hW => ⟨_, rfl, by rw [nI_l (by omega), lN_add, lN_add]; rfl, ht⟩) (fun q hq => absurd hq List.not_mem_nil) dX2_depthsIn_39
    · exact absurd c2 (nI_m1 (by omega))

set_option maxHeartbeats 4000000 in
set_option maxRecDepth 100000 in
theorem L_X2_allowed {p : Program} {l : Launch} {e : Env} {R : Room} {s : State} {m : MethodId} {args : Array Value} {below : List Frame} {meth : Method} {c : Code} {Q : State → Prop} {cells slots : Nat} {H : Heap} {locs : List Loc} (hx : p.tables.exec = Jvm.exec) (hb : c.code = cX2_allowed) (hml : c.maxLocals = 6) (hts : ∀ w ∈ wsX2_allowed, w.before args s = true) (hown : s.vm.findClass RX2 = some m.cls) {n : Nat} (hn : n ≤ 151) : ∀ (f d : Nat), d + f = lim n → (∀ ls, lv_has ls 6 [(4, .long (lN (n * 2 ^ (lim n)))), (2, .long (lN (3 ^ (lim n)))), (1, .int (pd (lim n))), (0, .int (nI n))] → W p l e R s m args below meth c H locs cells slots Q (F0 m 35 ls [])) → ∀ ls, lv_has ls 6 [(4, .long (lN (n * 2 ^ d))), (2, .long (lN (3 ^ d))), (1, .int (pd d)), (0, .int (nI n))] → W p l e R s m args below meth c H locs cells slots Q (F0 m 8 ls []) := by
  obtain ⟨l1, l2, l3⟩ := lim_spec hn
  have hp3 : ∀ d, d ≤ 13 → 3 ^ d ≤ 1594323 := fun d hd => Nat.le_trans (Nat.pow_le_pow_right (by decide) hd) (by decide)
  have hp2 : ∀ d, d ≤ 13 → n * 2 ^ d ≤ 1236992 := fun d hd => Nat.le_trans (Nat.mul_le_mul hn (Nat.pow_le_pow_right (by decide) hd)) (by decide)
  intro f
  induction f with
  | zero =>
    intro d hd kk ls hl
    have hd0 : d = lim n := by omega
    subst hd0
    have hx2 := l2
    have hb3 := hp3 _ l1
    have hb2 := hp2 _ l1
    refine lv_lload_n hx hb dX2_allowed_8 rfl (lv_at hl 1 rfl) ?_
    refine lv_lload hx hb dX2_allowed_9 (lv_at hl 0 rfl) ?_
    refine zr_lcmp hx hb dX2_allowed_11 ?_
    refine lv_if_gt (tgt := 35) hx hb dX2_allowed_12 (by decide) (fun c12 => ?_) (fun c12 => ?_)
    · exact kk _ hl
    · exact absurd (lg_gt.mpr ((pk_lLT (by omega) (by omega)).mpr hx2)) c12
  | succ f ih =>
    intro d hd kk ls hl
    have hx3 := l3 d (by omega)
    have hb3 := hp3 d (by omega)
    have hb2 := hp2 d (by omega)
    refine lv_lload_n hx hb dX2_allowed_8 rfl (lv_at hl 1 rfl) ?_
    refine lv_lload hx hb dX2_allowed_9 (lv_at hl 0 rfl) ?_
    refine zr_lcmp hx hb dX2_allowed_11 ?_
    refine lv_if_gt (tgt := 35) hx hb dX2_allowed_12 (by decide) (fun c12 => ?_) (fun c12 => ?_)
    · exact absurd c12 (by rw [lg_gt, pk_lLT (by omega) (by omega)]; omega)
    · refine lv_iinc (v := (pd d) + nI 1) (lv' := [(1, .int ((pd d) + nI 1)), (4, .long (lN (n * 2 ^ d))), (2, .long (lN (3 ^ d))), (0, .int (nI n))]) hx hb dX2_allowed_15 hl (k := 2) rfl rfl (by decide) rfl (fun ls hl => ?_)
      refine lv_lload_n hx hb dX2_allowed_18 rfl (lv_at hl 2 rfl) ?_
      refine lv_ldc2 hx hb hown (v := 3) (hts (.constantLong RX2 63 (3)) (by decide +kernel)) dX2_allowed_19 ?_
      refine lv_lmul hx hb dX2_allowed_22 ?_
      refine lv_lstore_n (lv' := [(2, .long ((lN (3 ^ d)) * 3)), (1, .int ((pd d) + nI 1)), (4, .long (lN (n * 2 ^ d))), (0, .int (nI n))]) hx hb dX2_allowed_23 rfl hl (by decide) rfl (fun ls hl => ?_)
      refine lv_lload hx hb dX2_allowed_24 (lv_at hl 2 rfl) ?_
      refine lv_ldc2 hx hb hown (v := 2) (hts (.constantLong RX2 65 (2)) (by decide +kernel)) dX2_allowed_26 ?_
      refine lv_lmul hx hb dX2_allowed_29 ?_
      refine lv_lstore (lv' := [(4, .long ((lN (n * 2 ^ d)) * 2)), (2, .long ((lN (3 ^ d)) * 3)), (1, .int ((pd d) + nI 1)), (0, .int (nI n))]) hx hb dX2_allowed_30 hl (by decide) rfl (fun ls hl => ?_)
      refine lv_goto (tgt := 8) hx hb dX2_allowed_32 (by decide) ?_
      exact ih (d + 1) (by omega) kk _ (lv_re hl (by rw [pd_1, show (3 : Int64) = lN 3 from rfl, show (2 : Int64) = lN 2 from rfl, lN_mul, lN_mul, Nat.pow_succ, Nat.pow_succ, Nat.mul_assoc]))
set_option maxHeartbeats 4000000 in
set_option maxRecDepth 100000 in
/-- allowed(n) -/
theorem c_X2_allowed (l : Launch) {n : Nat} (hn : n ≤ 151) : Met l yX2_allowed wsX2_allowed ({ frames := 0, cells := 0, slots := 0, locals := 0 } : Room) (va_Pc [.int (nI n)] (fun _ => True)) (vp_Si (fun r => r = pd (lim n))) 0 0 (fun _ => False) := by
  refine Met.ofW (cc := cX2_allowed) (maxL := 6) (ret := (some .int)) (by decide) rfl ?_
  intro p e s m args below meth c s₁ B hml hv
  obtain ⟨rfl, -⟩ := hv
  have hx := B.exec
  have hb := B.bytes
  have hr := B.returns
  have hts := atoms_spec (ws := wsX2_allowed) B.pre
  have hown : s.vm.findClass RX2 = some m.cls := findClass_of_methodNamed B.named
  have hlocks := B.notSynchronized
  have hl := lv_entry ([.int (nI n)]) (n := 6) (Nat.le_of_ble_eq_true rfl)
  rw [lg_entry_eq]
  generalize (lg_sl ([.int (nI n)]) ++ List.replicate (6 - (lg_sl ([.int (nI n)])).length) Slot.unset).toArray = ls at hl ⊢
  have hl : lv_has ls 6 [(0, .int (nI n))] := hl
  refine lv_iconst (v := (-1)) hx hb dX2_allowed_0 (by decide) ?_
  refine lv_istore_n (lv' := [(1, .int (-1)), (0, .int (nI n))]) hx hb dX2_allowed_1 rfl hl (by decide) rfl (fun ls hl => ?_)
  refine lv_lconst (v := lN 1) hx hb dX2_allowed_2 (by decide) ?_
  refine lv_lstore_n (lv' := [(2, .long (lN 1)), (1, .int (-1)), (0, .int (nI n))]) hx hb dX2_allowed_3 rfl hl (by decide) rfl (fun ls hl => ?_)
  refine lv_iload_n hx hb dX2_allowed_4 rfl (lv_at hl 2 rfl) ?_
  refine lv_i2l hx hb dX2_allowed_5 rfl ?_
  refine lv_lstore (lv' := [(4, .long (nI n).toInt64), (2, .long (lN 1)), (1, .int (-1)), (0, .int (nI n))]) hx hb dX2_allowed_6 hl (by decide) rfl (fun ls hl => ?_)
  refine L_X2_allowed hx hb hml hts hown hn (lim n) 0 (Nat.zero_add _) (fun ls hl => ?_) _ (lv_re hl (by rw [nI_l (by omega)]; simp [pd]; rfl))
  refine lv_iload_n hx hb dX2_allowed_35 rfl (lv_at hl 2 rfl) ?_
  exact W.iret (v := (pd (lim n))) hx hb hr (fun t ht hW => ⟨_, rfl, rfl, ht⟩) (fun q hq => absurd hq List.not_mem_nil) dX2_allowed_36

set_option maxHeartbeats 4000000 in
set_option maxRecDepth 100000 in
theorem L_X2_goTo {D : va_G} {cA cZ cI : ClassId} {M : Nat × Nat × Nat × Nat × Nat × Nat} {th tp n mo ti dr ma : Int32} {isIn lf rt rw : Nat → Int32} {p : Program} {l : Launch} {e : Env} {R : Room} {s : State} {m : MethodId} {args : Array Value} {below : List Frame} {meth : Method} {c : Code} {Q : State → Prop} {cells slots : Nat} {A : Nat → Prop} {H0 : Heap} (hx : p.tables.exec = Jvm.exec) (hb : c.code = cX2_goTo) (hml : c.maxLocals = 3) (hts : ∀ w ∈ wsX2_goTo, w.before args s = true) (hown : s.vm.findClass RX2 = some m.cls) (hG : GK D (tysA cA cZ cI) s) (hR : 0 ≤ R.frames ∧ 0 ≤ R.locals) (hC : cells ≤ R.cells ∧ slots ≤ R.slots) {h : Nat} (hhn : h < 1000) (hA : ∀ q, H0.size ≤ q → A q) : ∀ {t : Tr} {i : Nat} {wy : Nat → Int32} {H : Heap} {locs : List Loc}, ShM lf rt t → Low t → i + hgt t ≤ 151 → va_P D vwCl (mw M cZ cI th tp n mo ti dr (nI i) ma isIn lf rt wy rw) H → va_D A (mw M cZ cI th tp n mo ti dr (nI i) ma isIn lf rt wy rw) → va_S A H0 H locs → (∀ wy9 H locs, (∀ j k, (wayT h t)[j]? = some k → wy9 (i + j) = nI k) → (∀ j, j < i → wy9 j = wy j) → va_P D vwCl (mw M cZ cI th tp n mo ti dr (nI (i + (wayT h t).length)) ma isIn lf rt wy9 rw) H → va_D A (mw M cZ cI th tp n mo ti dr (nI (i + (wayT h t).length)) ma isIn lf rt wy9 rw) → va_S A H0 H locs → ∀ ls, lv_has ls 3 [(0, .ref M.1)] → W p l e R s m args below meth c H locs cells slots Q (F0 m 68 ls [])) → ∀ ls, lv_has ls 3 [(2, .int (enc (root t))), (0, .ref M.1), (1, .int (nI h))] → W p l e R s m args below meth c H locs cells slots Q (F0 m 10 ls []) := by
  intro t
  induction t with
  | leaf =>
    intro i wy H locs hs hlo hi hP hD hS kk ls hl
    have hl : lv_has ls 3 [(2, .int (-1)), (0, .ref M.1), (1, .int (nI h))] := hl
    refine lv_iload_n hx hb dX2_goTo_10 rfl (lv_at hl 0 rfl) ?_
    refine lv_iconst (v := (-1)) hx hb dX2_goTo_11 (by decide) ?_
    refine lv_icmp_eq (tgt := 68) hx hb dX2_goTo_12 (by decide) (fun c12 => ?_) (fun c12 => ?_)
    · exact kk wy H locs (fun j k e => by cases e) (fun j hj => rfl) hP hD hS _ (lv_sub hl [1] rfl)
    · exact absurd rfl c12
  | inner sz k v tl tr ihl ihr =>
    intro i wy H locs hs hlo hi hP hD hS kk ls hl
    obtain ⟨h1, h2, h3, h4⟩ := hs
    have hk := hlo.k
    simp only [hgt] at hi
    have hl : lv_has ls 3 [(2, .int (nI k)), (0, .ref M.1), (1, .int (nI h))] := hl
    refine lv_iload_n hx hb dX2_goTo_10 rfl (lv_at hl 0 rfl) ?_
    refine lv_iconst (v := (-1)) hx hb dX2_goTo_11 (by decide) ?_
    refine lv_icmp_eq (tgt := 68) hx hb dX2_goTo_12 (by decide) (fun c12 => ?_) (fun c12 => ?_)
    · exact absurd c12 (nI_m1 (by omega))
    · refine lv_aload_n hx hb dX2_goTo_15 rfl (lv_at hl 1 rfl) ?_
      refine va_get (D := D) (ci := 2) (v := .ref M.2.2.2.2.1) (C := RX2) (T := TX2) (N := 13) hx hb hts (by decide +kernel) hown hG.1 hP 0 mw_m rfl 9 (by decide) (hts (.fieldLink RX2 24 "LopsidedRanksModel" "way" "[I") (by decide +kernel)) (fun _ h9 => h9) rfl dX2_goTo_16 ?_
      refine lv_aload_n hx hb dX2_goTo_19 rfl (lv_at hl 1 rfl) ?_
      refine va_get (D := D) (ci := 2) (v := .int (nI i)) (C := RX2) (T := TX2) (N := 13) hx hb hts (by decide +kernel) hown hG.1 hP 0 mw_m rfl 10 (by decide) (hts (.fieldLink RX2 33 "LopsidedRanksModel" "steps" "I") (by decide +kernel)) (fun _ h9 => h9) rfl dX2_goTo_20 ?_
      refine lv_iload_n hx hb dX2_goTo_23 rfl (lv_at hl 0 rfl) ?_
      refine zr_iast hx hb hG.1 hP hD hS 4 2 mw_w rfl (k := i) (by omega) (Nat.le_of_ble_eq_true rfl) dX2_goTo_24 (fun H locs hP hD hS => ?_)
      have hP : va_P D vwCl (mw M cZ cI th tp n mo ti dr (nI i) ma isIn lf rt (upd wy i (nI k)) rw) H := hP
      have hD : va_D A (mw M cZ cI th tp n mo ti dr (nI i) ma isIn lf rt (upd wy i (nI k)) rw) := hD
      refine lv_aload_n hx hb dX2_goTo_25 rfl (lv_at hl 1 rfl) ?_
      refine lv_dup hx hb dX2_goTo_26 rfl ?_
      refine va_get (D := D) (ci := 2) (v := .int (nI i)) (C := RX2) (T := TX2) (N := 13) hx hb hts (by decide +kernel) hown hG.1 hP 0 mw_m rfl 10 (by decide) (hts (.fieldLink RX2 33 "LopsidedRanksModel" "steps" "I") (by decide +kernel)) (fun _ h9 => h9) rfl dX2_goTo_27 ?_
      refine lv_iconst (v := nI 1) hx hb dX2_goTo_30 (by decide) ?_
      refine lv_iadd hx hb dX2_goTo_31 ?_
      refine zr_eqi (nI_add i 1) ?_
      refine va_put (D := D) (ci := 2) (v := .int (nI (i + 1))) (ty := .int) (C := RX2) (T := TX2) (N := 13) hx hb hts (by decide +kernel) tyX2 tyX2_ok nmX2 hown hG.1 hP hD hS 0 mw_m rfl 10 (by decide) (hts (.fieldLink RX2 33 "LopsidedRanksModel" "steps" "I") (by decide +kernel)) (fun _ h9 => h9) rfl (by decide +kernel) rfl rfl (Nat.le_of_ble_eq_true rfl) dX2_goTo_32 (fun H locs hP hD hS => ?_)
      have hP : va_P D vwCl (mw M cZ cI th tp n mo ti dr ((nI (i + 1))) ma isIn lf rt (upd wy i (nI k)) rw) H := hP
      have hD : va_D A (mw M cZ cI th tp n mo ti dr ((nI (i + 1))) ma isIn lf rt (upd wy i (nI k)) rw) := hD
      refine lv_iload_n hx hb dX2_goTo_35 rfl (lv_at hl 2 rfl) ?_
      refine lv_iload_n hx hb dX2_goTo_36 rfl (lv_at hl 0 rfl) ?_
      refine lv_icmp_ne (tgt := 44) hx hb dX2_goTo_37 (by decide) (fun c37 => ?_) (fun c37 => ?_)
      · rw [nI_eq (by omega) (by omega)] at c37
        refine lv_iload_n hx hb dX2_goTo_44 rfl (lv_at hl 2 rfl) ?_
        refine lv_iload_n hx hb dX2_goTo_45 rfl (lv_at hl 0 rfl) ?_
        refine lv_icmp_ge (tgt := 58) hx hb dX2_goTo_46 (by decide) (fun c46 => ?_) (fun c46 => ?_)
        · rw [nI_leI (by omega) (by omega)] at c46
          refine lv_aload_n hx hb dX2_goTo_58 rfl (lv_at hl 1 rfl) ?_
          refine va_get (D := D) (ci := 2) (v := .ref M.2.2.2.1) (C := RX2) (T := TX2) (N := 13) hx hb hts (by decide +kernel) hown hG.1 hP 0 mw_m rfl 8 (by decide) (hts (.fieldLink RX2 21 "LopsidedRanksModel" "right" "[I") (by decide +kernel)) (fun _ h9 => h9) rfl dX2_goTo_59 ?_
          refine lv_iload_n hx hb dX2_goTo_62 rfl (lv_at hl 0 rfl) ?_
          refine zr_iald hx hb hG.1 hP 3 2 mw_r rfl (k := k) (by omega) (Nat.le_of_ble_eq_true rfl) dX2_goTo_63 ?_
          refine zr_eqi h2 ?_
          refine lv_istore_n (lv' := [(2, .int (enc (root tr))), (0, .ref M.1), (1, .int (nI h))]) hx hb dX2_goTo_64 rfl hl (by decide) rfl (fun ls hl => ?_)
          refine lv_goto (tgt := 10) hx hb dX2_goTo_65 (by decide) ?_
          have e9 : wayT h (.inner sz k v tl tr) = k :: wayT h tr := by simp only [wayT]; rw [if_neg (by omega), if_neg (by omega)]
          rw [e9] at kk
          have e8 : i + (k :: wayT h tr).length = i + 1 + (wayT h tr).length := by simp only [List.length_cons]; omega
          rw [e8] at kk
          exact ihr h4 hlo.r (by omega) hP hD hS (fun wy9 H locs w1 w2 hP hD hS ls hl => kk wy9 H locs (way_step w1 w2).1 (way_step w1 w2).2 hP hD hS ls hl) _ hl
        · rw [nI_leI (by omega) (by omega)] at c46
          refine lv_aload_n hx hb dX2_goTo_49 rfl (lv_at hl 1 rfl) ?_
          refine va_get (D := D) (ci := 2) (v := .ref M.2.2.1) (C := RX2) (T := TX2) (N := 13) hx hb hts (by decide +kernel) hown hG.1 hP 0 mw_m rfl 7 (by decide) (hts (.fieldLink RX2 17 "LopsidedRanksModel" "left" "[I") (by decide +kernel)) (fun _ h9 => h9) rfl dX2_goTo_50 ?_
          refine lv_iload_n hx hb dX2_goTo_53 rfl (lv_at hl 0 rfl) ?_
          refine zr_iald hx hb hG.1 hP 2 2 mw_l rfl (k := k) (by omega) (Nat.le_of_ble_eq_true rfl) dX2_goTo_54 ?_
          refine zr_eqi h1 ?_
          refine lv_goto (tgt := 64) hx hb dX2_goTo_55 (by decide) ?_
          refine lv_istore_n (lv' := [(2, .int (enc (root tl))), (0, .ref M.1), (1, .int (nI h))]) hx hb dX2_goTo_64 rfl hl (by decide) rfl (fun ls hl => ?_)
          refine lv_goto (tgt := 10) hx hb dX2_goTo_65 (by decide) ?_
          have e9 : wayT h (.inner sz k v tl tr) = k :: wayT h tl := by simp only [wayT]; rw [if_neg (by omega), if_pos (by omega)]
          rw [e9] at kk
          have e8 : i + (k :: wayT h tl).length = i + 1 + (wayT h tl).length := by simp only [List.length_cons]; omega
          rw [e8] at kk
          exact ihl h3 hlo.l (by omega) hP hD hS (fun wy9 H locs w1 w2 hP hD hS ls hl => kk wy9 H locs (way_step w1 w2).1 (way_step w1 w2).2 hP hD hS ls hl) _ hl
      · rw [nI_eq (by omega) (by omega)] at c37
        refine lv_iconst (v := (-1)) hx hb dX2_goTo_40 (by decide) ?_
        refine lv_goto (tgt := 64) hx hb dX2_goTo_41 (by decide) ?_
        refine lv_istore_n (lv' := [(2, .int (-1)), (0, .ref M.1), (1, .int (nI h))]) hx hb dX2_goTo_64 rfl hl (by decide) rfl (fun ls hl => ?_)
        refine lv_goto (tgt := 10) hx hb dX2_goTo_65 (by decide) ?_
        have e9 : wayT h (.inner sz k v tl tr) = k :: [] := by simp only [wayT]; rw [if_pos (by omega)]
        rw [e9] at kk
        refine lv_iload_n hx hb dX2_goTo_10 rfl (lv_at hl 0 rfl) ?_
        refine lv_iconst (v := (-1)) hx hb dX2_goTo_11 (by decide) ?_
        refine lv_icmp_eq (tgt := 68) hx hb dX2_goTo_12 (by decide) (fun c12 => ?_) (fun c12 => ?_)
        · exact kk _ H locs (way_step (xs := []) (fun j k e => by cases e) (fun j hj => rfl)).1 (way_step (xs := []) (k := k) (fun j k e => by cases e) (fun j hj => rfl)).2 hP hD hS _ (lv_sub hl [1] rfl)
        · exact absurd rfl c12
set_option maxHeartbeats 4000000 in
set_option maxRecDepth 100000 in
/-- goTo(h) -/
theorem c_X2_goTo (l : Launch) {D : va_G} {cA cZ cI : ClassId} {M : Nat × Nat × Nat × Nat × Nat × Nat} {th n mo ti dr st ma : Int32} {isIn lf rt wy rw : Nat → Int32} {A : Nat → Prop} {T : Tr} {h : Nat} (hhn : h < 1000) (hs : ShM lf rt T) (hlo : Low T) (hz : hgt T ≤ 150) : Met l yX2_goTo wsX2_goTo ({ frames := 0, cells := 0, slots := 0, locals := 0 } : Room) (PcM D (tysA cA cZ cI) A (mw M cZ cI th (enc (root T)) n mo ti dr st ma isIn lf rt wy rw) [.ref M.1, .int (nI h)]) (va_Qv (S := Nat → Int32) (fun u => ∀ j k, (wayT h T)[j]? = some k → u j = nI k) (fun u => BM D (tysA cA cZ cI) A (mw M cZ cI th (enc (root T)) n mo ti dr (nI ((wayT h T).length)) ma isIn lf rt u rw)) A) 0 0 A := by
  refine Met.ofW (cc := cX2_goTo) (maxL := 3) (ret := none) (by decide) rfl ?_
  intro p e s m args below meth c s₁ B hml hv
  obtain ⟨rfl, hA, hP, hG, hD⟩ := hv
  have hx := B.exec
  have hb := B.bytes
  have hr := B.returns
  have hts := atoms_spec (ws := wsX2_goTo) B.pre
  have hown : s.vm.findClass RX2 = some m.cls := findClass_of_methodNamed B.named
  have hlocks := B.notSynchronized
  have hl := lv_entry ([.ref M.1, .int (nI h)]) (n := 3) (Nat.le_of_ble_eq_true rfl)
  rw [lg_entry_eq]
  generalize (lg_sl ([.ref M.1, .int (nI h)]) ++ List.replicate (3 - (lg_sl ([.ref M.1, .int (nI h)])).length) Slot.unset).toArray = ls at hl ⊢
  have hl : lv_has ls 3 [(0, .ref M.1), (1, .int (nI h))] := hl
  have hS : va_S A s.heap s.heap [] := va_S.rf
  refine lv_aload_n hx hb dX2_goTo_0 rfl (lv_at hl 0 rfl) ?_
  refine lv_iconst (v := nI 0) hx hb dX2_goTo_1 (by decide) ?_
  refine va_put (D := D) (ci := 2) (v := .int (nI 0)) (ty := .int) (C := RX2) (T := TX2) (N := 13) hx hb hts (by decide +kernel) tyX2 tyX2_ok nmX2 hown hG.1 hP hD hS 0 mw_m rfl 10 (by decide) (hts (.fieldLink RX2 33 "LopsidedRanksModel" "steps" "I") (by decide +kernel)) (fun _ h9 => h9) rfl (by decide +kernel) rfl rfl (Nat.le_of_ble_eq_true rfl) dX2_goTo_2 (fun H locs hP hD hS => ?_)
  have hP : va_P D vwCl (mw M cZ cI th (enc (root T)) n mo ti dr ((nI 0)) ma isIn lf rt wy rw) H := hP
  have hD : va_D A (mw M cZ cI th (enc (root T)) n mo ti dr ((nI 0)) ma isIn lf rt wy rw) := hD
  refine lv_aload_n hx hb dX2_goTo_5 rfl (lv_at hl 0 rfl) ?_
  refine va_get (D := D) (ci := 2) (v := .int (enc (root T))) (C := RX2) (T := TX2) (N := 13) hx hb hts (by decide +kernel) hown hG.1 hP 0 mw_m rfl 1 (by decide) (hts (.fieldLink RX2 9 "LopsidedRanksModel" "top" "I") (by decide +kernel)) (fun _ h9 => h9) rfl dX2_goTo_6 ?_
  refine lv_istore_n (lv' := [(2, .int (enc (root T))), (0, .ref M.1), (1, .int (nI h))]) hx hb dX2_goTo_9 rfl hl (by decide) rfl (fun ls hl => ?_)
  refine L_X2_goTo hx hb hml hts hown hG ⟨Nat.le_of_ble_eq_true rfl, Nat.le_of_ble_eq_true rfl⟩ ⟨Nat.zero_le _, Nat.zero_le _⟩ hhn hA hs hlo (by omega) hP hD hS (fun wy9 H locs w1 w2 hP hD hS ls hl => ?_) _ hl
  simp only [Nat.zero_add] at w1 hP hD
  exact W.vret hx hb hr (fun t ht hW => ⟨⟨wy9, rfl, w1, by rw [ht]; exact hP, hG.moved hW, hD⟩, hS.F ht⟩) hS.2.2 dX2_goTo_68

set_option maxHeartbeats 4000000 in
set_option maxRecDepth 100000 in
theorem L_X2_smaller {D : va_G} {cA cZ cI : ClassId} {M : Nat × Nat × Nat × Nat × Nat × Nat} {th tp n mo ti dr st ma : Int32} {isIn lf rt wy rw : Nat → Int32} {p : Program} {l : Launch} {e : Env} {R : Room} {s : State} {m : MethodId} {args : Array Value} {below : List Frame} {meth : Method} {c : Code} {Q : State → Prop} {cells slots : Nat} {H : Heap} {locs : List Loc} (hx : p.tables.exec = Jvm.exec) (hb : c.code = cX2_smaller) (hml : c.maxLocals = 4) (hts : ∀ w ∈ wsX2_smaller, w.before args s = true) (hown : s.vm.findClass RX2 = some m.cls) (hG : GK D (tysA cA cZ cI) s) (hP : va_P D vwCl (mw M cZ cI th tp n mo ti dr st ma isIn lf rt wy rw) H) (hR : 0 ≤ R.frames ∧ 0 ≤ R.locals) (hC : cells ≤ R.cells ∧ slots ≤ R.slots) {T : Tr} {h : Nat} (hhn : h < 1000) (hb0 : bst T) (hz : siz T ≤ 150) (hi : ∀ k, k < 1000 → isIn k = b2i (decide (k ∈ keysT T))) : ∀ (f k : Nat), k + f = h → (∀ ls, lv_has ls 4 [(2, .int (nI (cntLt h T)))] → W p l e R s m args below meth c H locs cells slots Q (F0 m 32 ls [])) → ∀ ls, lv_has ls 4 [(3, .int (nI k)), (2, .int (nI (cntLt k T))), (0, .ref M.1), (1, .int (nI h))] → W p l e R s m args below meth c H locs cells slots Q (F0 m 4 ls []) := by
  intro f
  induction f with
  | zero =>
    intro k hk kk ls hl
    refine lv_iload_n hx hb dX2_smaller_4 rfl (lv_at hl 0 rfl) ?_
    refine lv_iload_n hx hb dX2_smaller_5 rfl (lv_at hl 3 rfl) ?_
    refine lv_icmp_ge (tgt := 32) hx hb dX2_smaller_6 (by decide) (fun c6 => ?_) (fun c6 => ?_)
    · rw [nI_leI (by omega) (by omega)] at c6
      have e8 : k = h := by omega
      subst e8
      exact kk _ (lv_sub hl [1] rfl)
    · rw [nI_leI (by omega) (by omega)] at c6
      exact absurd c6 (by omega)
  | succ f ih =>
    intro k hk kk ls hl
    refine lv_iload_n hx hb dX2_smaller_4 rfl (lv_at hl 0 rfl) ?_
    refine lv_iload_n hx hb dX2_smaller_5 rfl (lv_at hl 3 rfl) ?_
    refine lv_icmp_ge (tgt := 32) hx hb dX2_smaller_6 (by decide) (fun c6 => ?_) (fun c6 => ?_)
    · rw [nI_leI (by omega) (by omega)] at c6
      exact absurd c6 (by omega)
    · rw [nI_leI (by omega) (by omega)] at c6
      refine lv_iload_n hx hb dX2_smaller_9 rfl (lv_at hl 1 rfl) ?_
      refine lv_aload_n hx hb dX2_smaller_10 rfl (lv_at hl 2 rfl) ?_
      refine va_get (D := D) (ci := 2) (v := .ref M.2.1) (C := RX2) (T := TX2) (N := 13) hx hb hts (by decide +kernel) hown hG.1 hP 0 mw_m rfl 6 (by decide) (hts (.fieldLink RX2 13 "LopsidedRanksModel" "isIn" "[Z") (by decide +kernel)) (fun _ h9 => h9) rfl dX2_smaller_11 ?_
      refine lv_iload_n hx hb dX2_smaller_14 rfl (lv_at hl 0 rfl) ?_
      refine zr_zald hx hb hG.1 hP 1 1 mw_i rfl (k := k) (by omega) (Nat.le_of_ble_eq_true rfl) dX2_smaller_15 ?_
      refine zr_eqi (hi k (by omega)) ?_
      refine lv_if_eq (tgt := 23) hx hb dX2_smaller_16 (by decide) (fun c16 => ?_) (fun c16 => ?_)
      · have hm : ¬ k ∈ keysT T := fun q => b2i_eq c16 (decide_eq_true q)
        refine lv_iconst (v := nI 0) hx hb dX2_smaller_23 (by decide) ?_
        refine lv_iadd hx hb dX2_smaller_24 ?_
        refine zr_eqi (nI_add (cntLt k T) 0) ?_
        refine lv_istore_n (lv' := [(2, .int (nI ((cntLt k T) + 0))), (3, .int (nI k)), (0, .ref M.1), (1, .int (nI h))]) hx hb dX2_smaller_25 rfl hl (by decide) rfl (fun ls hl => ?_)
        refine lv_iinc (v := nI (k + 1)) (lv' := [(3, .int (nI (k + 1))), (2, .int (nI ((cntLt k T) + 0))), (0, .ref M.1), (1, .int (nI h))]) hx hb dX2_smaller_26 hl (k := 1) rfl (nI_add k 1) (by decide) rfl (fun ls hl => ?_)
        refine lv_goto (tgt := 4) hx hb dX2_smaller_29 (by decide) ?_
        have e7 := cnt_step (k := k) hb0
        rw [if_neg hm] at e7
        exact ih (k + 1) (by omega) kk _ (lv_re hl (by rw [e7]))
      · have hm : k ∈ keysT T := of_decide_eq_true (b2i_ne c16)
        refine lv_iconst (v := nI 1) hx hb dX2_smaller_19 (by decide) ?_
        refine lv_goto (tgt := 24) hx hb dX2_smaller_20 (by decide) ?_
        refine lv_iadd hx hb dX2_smaller_24 ?_
        refine zr_eqi (nI_add (cntLt k T) 1) ?_
        refine lv_istore_n (lv' := [(2, .int (nI ((cntLt k T) + 1))), (3, .int (nI k)), (0, .ref M.1), (1, .int (nI h))]) hx hb dX2_smaller_25 rfl hl (by decide) rfl (fun ls hl => ?_)
        refine lv_iinc (v := nI (k + 1)) (lv' := [(3, .int (nI (k + 1))), (2, .int (nI ((cntLt k T) + 1))), (0, .ref M.1), (1, .int (nI h))]) hx hb dX2_smaller_26 hl (k := 1) rfl (nI_add k 1) (by decide) rfl (fun ls hl => ?_)
        refine lv_goto (tgt := 4) hx hb dX2_smaller_29 (by decide) ?_
        have e7 := cnt_step (k := k) hb0
        rw [if_pos hm] at e7
        exact ih (k + 1) (by omega) kk _ (lv_re hl (by rw [e7]))
set_option maxHeartbeats 4000000 in
set_option maxRecDepth 100000 in
/-- smaller(h) -/
theorem c_X2_smaller (l : Launch) {D : va_G} {cA cZ cI : ClassId} {M : Nat × Nat × Nat × Nat × Nat × Nat} {th tp n mo ti dr st ma : Int32} {isIn lf rt wy rw : Nat → Int32} {T : Tr} {h : Nat} (hhn : h < 1000) (hb0 : bst T) (hz : siz T ≤ 150) (hi : ∀ k, k < 1000 → isIn k = b2i (decide (k ∈ keysT T))) : Met l yX2_smaller wsX2_smaller ({ frames := 0, cells := 0, slots := 0, locals := 0 } : Room) (PcR D (tysA cA cZ cI) (mw M cZ cI th tp n mo ti dr st ma isIn lf rt wy rw) [.ref M.1, .int (nI h)]) (vp_Si (fun r => r = nI (cntLt h T))) 0 0 (fun _ => False) := by
  refine Met.ofW (cc := cX2_smaller) (maxL := 4) (ret := (some .int)) (by decide) rfl ?_
  intro p e s m args below meth c s₁ B hml hv
  obtain ⟨rfl, hP, hG⟩ := hv
  have hx := B.exec
  have hb := B.bytes
  have hr := B.returns
  have hts := atoms_spec (ws := wsX2_smaller) B.pre
  have hown : s.vm.findClass RX2 = some m.cls := findClass_of_methodNamed B.named
  have hlocks := B.notSynchronized
  have hl := lv_entry ([.ref M.1, .int (nI h)]) (n := 4) (Nat.le_of_ble_eq_true rfl)
  rw [lg_entry_eq]
  generalize (lg_sl ([.ref M.1, .int (nI h)]) ++ List.replicate (4 - (lg_sl ([.ref M.1, .int (nI h)])).length) Slot.unset).toArray = ls at hl ⊢
  have hl : lv_has ls 4 [(0, .ref M.1), (1, .int (nI h))] := hl
  refine lv_iconst (v := nI 0) hx hb dX2_smaller_0 (by decide) ?_
  refine lv_istore_n (lv' := [(2, .int (nI 0)), (0, .ref M.1), (1, .int (nI h))]) hx hb dX2_smaller_1 rfl hl (by decide) rfl (fun ls hl => ?_)
  refine lv_iconst (v := nI 0) hx hb dX2_smaller_2 (by decide) ?_
  refine lv_istore_n (lv' := [(3, .int (nI 0)), (2, .int (nI 0)), (0, .ref M.1), (1, .int (nI h))]) hx hb dX2_smaller_3 rfl hl (by decide) rfl (fun ls hl => ?_)
  refine L_X2_smaller hx hb hml hts hown hG hP ⟨Nat.le_of_ble_eq_true rfl, Nat.le_of_ble_eq_true rfl⟩ ⟨Nat.zero_le _, Nat.zero_le _⟩ hhn hb0 hz hi h 0 (Nat.zero_add _) (fun ls hl => ?_) _ (lv_re hl (by rw [cnt_0 hb0]))
  refine lv_iload_n hx hb dX2_smaller_32 rfl (lv_at hl 0 rfl) ?_
  exact W.iret (v := (nI (cntLt h T))) hx hb hr (fun t ht hW => ⟨_, rfl, rfl, ht⟩) (fun q hq => absurd hq List.not_mem_nil) dX2_smaller_33

