/-! THE REFERENCE: drawUp, crookedWith -/
/-- the reference's scratch: steps, many, isIn, left, right, way, row -/
abbrev ME : Type := Int32 × Int32 × (Nat → Int32) × (Nat → Int32) × (Nat → Int32) × (Nat → Int32) × (Nat → Int32)
theorem drawM {T : Tr} {isIn lf rt lf1 rt1 : Nat → Int32} {h : Nat} (hrep : RepM T isIn lf rt) (f : ∀ k, k ∉ keysT (subT h T) → lf1 k = lf k ∧ rt1 k = rt k) (s : ShM lf1 rt1 (balF 8 (keysT (subT h T)))) : RepM (drawT h T) isIn (hgL lf1 (parF h none T) h (enc (root (balF 8 (keysT (subT h T)))))) (hgR rt1 (parF h none T) h (enc (root (balF 8 (keysT (subT h T)))))) ∧ hgTp (enc (root T)) (parF h none T) (enc (root (balF 8 (keysT (subT h T))))) = enc (root (drawT h T)) := by
  obtain ⟨hb, hin, hz, hs, hi⟩ := hrep
  obtain ⟨k1, k2⟩ := draw_keys (c := h) hz
  have h1 : (keysT (subT h T)).length < 2 ^ 8 := by rw [keys_len]; have := sub_siz (h := h) (T := T); omega
  have hk := balF_keys 8 _ h1
  obtain ⟨s1, s2⟩ := kl_sub (h := h) hb
  obtain ⟨z1, z2⟩ := hangM (t := (balF 8 (keysT (subT h T)))) hb hs s (fun k _ hn => f k hn) (fun j hj => by
    rw [hk] at hj
    exact ⟨fun q => by have := s1 j q j hj; omega, fun q => by have := s2 j hj j q; omega⟩)
  exact ⟨⟨by show List.Pairwise _ (keysT _); rw [k1]; exact hb, by rw [k1]; exact hin, by rw [k2]; exact hz, z1, fun k hk => by rw [k1]; exact hi k hk⟩, z2⟩
/-- the part that is reached after so many steps towards h -/
def desc (h : Nat) : Nat → Tr → Tr
  | 0, t => t
  | _ + 1, .leaf => .leaf
  | c + 1, .inner _ k _ l r => if h < k then desc h c l else desc h c r
theorem desc_at {h : Nat} : ∀ {T : Tr} {c a : Nat}, bst T → h ∉ keysT T → (anc h T)[c]? = some a → ∃ s v l r, subT a T = .inner s a v l r ∧ desc h c T = .inner s a v l r ∧ desc h (c + 1) T = (if h < a then l else r) ∧ a ≠ h
  | .leaf, c, a, _, _, e => by cases e
  | .inner s k v l r, c, a, hb, hm, e => by
    obtain ⟨b1, b2, b3, b4⟩ := bst_in.mp hb
    have hk : h ≠ k := fun q => hm ((keys_in ..).mpr (Or.inr (Or.inl q)))
    simp only [anc] at e
    rw [if_neg hk] at e
    cases c with
    | zero =>
      rw [List.getElem?_cons_zero] at e
      cases e
      exact ⟨s, v, l, r, sub_s, rfl, by simp only [desc], fun q => hk q.symm⟩
    | succ c =>
      rw [List.getElem?_cons_succ] at e
      by_cases q : h < k
      · rw [if_pos q] at e
        obtain ⟨s2, v2, l2, r2, y1, y2, y3, y4⟩ := desc_at b1 (fun z => hm ((keys_in ..).mpr (Or.inl z))) e
        refine ⟨s2, v2, l2, r2, ?_, ?_, ?_, y4⟩
        · rw [sub_l (b3 a (anc_in (List.mem_of_getElem? e)))]; exact y1
        · simp only [desc]; rw [if_pos q]; exact y2
        · rw [desc, if_pos q]; exact y3
      · rw [if_neg q] at e
        obtain ⟨s2, v2, l2, r2, y1, y2, y3, y4⟩ := desc_at b2 (fun z => hm ((keys_in ..).mpr (Or.inr (Or.inr z)))) e
        refine ⟨s2, v2, l2, r2, ?_, ?_, ?_, y4⟩
        · rw [sub_r (b4 a (anc_in (List.mem_of_getElem? e)))]; exact y1
        · simp only [desc]; rw [if_neg q]; exact y2
        · rw [desc, if_neg q]; exact y3
theorem desc_end {h : Nat} : ∀ {T : Tr}, h ∉ keysT T → desc h (anc h T).length T = .leaf
  | .leaf, _ => rfl
  | .inner s k v l r, hm => by
    have hk : h ≠ k := fun q => hm ((keys_in ..).mpr (Or.inr (Or.inl q)))
    simp only [anc]
    rw [if_neg hk, List.length_cons]
    simp only [desc]
    split
    · rename_i q; exact desc_end (fun z => hm ((keys_in ..).mpr (Or.inl z)))
    · rename_i q; exact desc_end (fun z => hm ((keys_in ..).mpr (Or.inr (Or.inr z))))
/-- crooked with a new one: the same one, by both ways of counting -/
theorem ins_sub {h a : Nat} {T : Tr} (hb : bst T) (hm : h ∉ keysT T) (ha : a ∈ anc h T) : crT (insT h T) a = mvP T h a := by
  induction T with
  | leaf => cases ha
  | inner s k v l r ihl ihr =>
    obtain ⟨b1, b2, b3, b4⟩ := bst_in.mp hb
    have hk : h ≠ k := fun q => hm ((keys_in ..).mpr (Or.inr (Or.inl q)))
    have hml : h ∉ keysT l := fun z => hm ((keys_in ..).mpr (Or.inl z))
    have hmr : h ∉ keysT r := fun z => hm ((keys_in ..).mpr (Or.inr (Or.inr z)))
    simp only [anc] at ha
    rw [if_neg hk] at ha
    have zl := (ins_facts b1 hml).2.2.1
    have zr := (ins_facts b2 hmr).2.2.1
    by_cases q : h < k
    · have er : insT h (.inner s k v l r) = nd_ (insT h l) k r := by simp [insT, rep, hk, q]
      rw [if_pos q] at ha
      rcases List.mem_cons.mp ha with e | e
      · subst e
        rw [er]
        simp only [crT, mvP, sub_s]
        rw [if_pos q, zl]
      · have hak := b3 a (anc_in e)
        rw [er]
        have := ihl b1 hml e
        simp only [crT, mvP] at this ⊢
        rw [sub_l hak, sub_l hak]
        exact this
    · have er : insT h (.inner s k v l r) = nd_ l k (insT h r) := by simp [insT, rep, hk, q]
      rw [if_neg q] at ha
      rcases List.mem_cons.mp ha with e | e
      · subst e
        rw [er]
        simp only [crT, mvP, sub_s]
        rw [if_neg q, zr]
      · have hak := b4 a (anc_in e)
        rw [er]
        have := ihr b2 hmr e
        simp only [crT, mvP] at this ⊢
        rw [sub_r hak, sub_r hak]
        exact this
theorem find_cong {p q : Nat → Bool} : ∀ {xs : List Nat}, (∀ j ∈ xs, p j = q j) → xs.find? p = xs.find? q
  | [], _ => rfl
  | x :: xs, h => by
    rw [List.find?_cons, List.find?_cons, h x List.mem_cons_self, find_cong (fun j hj => h j (List.mem_cons_of_mem _ hj))]
theorem ins_subh {h : Nat} {T : Tr} (hb : bst T) (hm : h ∉ keysT T) : crT (insT h T) h = false := by
  have e0 := (ins_facts hb hm).2.2.2.1
  unfold insT crT
  rw [sub_rep]
  simp only [subT]
  rfl
theorem mc_eq {h : Nat} {T : Tr} (hb : bst T) (hm : h ∉ keysT T) : mcT T h = movT T h := by
  unfold mcT movT
  rw [if_neg hm, List.find?_cons_of_neg (by rw [ins_subh hb hm]; decide), find_cong (fun j hj => ins_sub hb hm (List.mem_reverse.mp hj))]
set_option maxHeartbeats 4000000 in
set_option maxRecDepth 100000 in
/-- drawUp(h) -/
theorem c_X2_drawUp (l : Launch) {D : va_G} {cA cZ cI : ClassId} {M : Nat × Nat × Nat × Nat × Nat × Nat} {th mo ti dr st ma : Int32} {isIn lf rt wy rw : Nat → Int32} {A : Nat → Prop} {T : Tr} {h : Nat} (hrep : RepM T isIn lf rt) (hm : h ∈ keysT T) : Met l yX2_drawUp wsX2_drawUp ({ frames := 160, cells := 0, slots := 0, locals := 6400 } : Room) (PcM D (tysA cA cZ cI) A (mw M cZ cI th (enc (root T)) (nI (siz T)) mo ti dr st ma isIn lf rt wy rw) [.ref M.1, .int (nI h)]) (va_Qi (S := ME) (fun r u => r = enc (root (balF 8 (keysT (subT h T)))) ∧ RepM (drawT h T) u.2.2.1 u.2.2.2.1 u.2.2.2.2.1) (fun u => BM D (tysA cA cZ cI) A (mw M cZ cI th (enc (root (drawT h T))) (nI (siz T)) (moD T h mo) (ti + nI 1) (dr + nI (siz (subT h T))) u.1 u.2.1 u.2.2.1 u.2.2.2.1 u.2.2.2.2.1 u.2.2.2.2.2.1 u.2.2.2.2.2.2)) A) 0 0 A := by
  refine Met.ofW (cc := cX2_drawUp) (maxL := 4) (ret := (some .int)) (by decide) rfl ?_
  intro p e s m args below meth c s₁ B hml hv
  obtain ⟨rfl, hA, hP, hG, hD⟩ := hv
  have hx := B.exec
  have hb := B.bytes
  have hr := B.returns
  have hts := atoms_spec (ws := wsX2_drawUp) B.pre
  have hown : s.vm.findClass RX2 = some m.cls := findClass_of_methodNamed B.named
  have hlocks := B.notSynchronized
  have hl := lv_entry ([.ref M.1, .int (nI h)]) (n := 4) (Nat.le_of_ble_eq_true rfl)
  rw [lg_entry_eq]
  generalize (lg_sl ([.ref M.1, .int (nI h)]) ++ List.replicate (4 - (lg_sl ([.ref M.1, .int (nI h)])).length) Slot.unset).toArray = ls at hl ⊢
  have hl : lv_has ls 4 [(0, .ref M.1), (1, .int (nI h))] := hl
  have hS : va_S A s.heap s.heap [] := va_S.rf
  obtain ⟨hb0, hin0, hsz, hs, hi⟩ := id hrep
  have hh := hin0 h hm
  have hgs := hgt_siz (T := T)
  have hss := sub_siz (h := h) (T := T)
  obtain ⟨sz, v, tl, tr, esub, p1, p2, p3, p4⟩ := hrep.at hm
  have hhs := hgt_siz (T := .inner sz h v tl tr)
  have hsh := ShM_sub (h := h) hs
  rw [esub] at hsh
  refine lv_aload_n hx hb dX2_drawUp_0 rfl (lv_at hl 0 rfl) ?_
  refine lv_iload_n hx hb dX2_drawUp_1 rfl (lv_at hl 1 rfl) ?_
  refine va_callv (va_runV (As := [.int (nI h)]) (rest := []) ⟨hx, hb, hml, hown, hts⟩ (c_X2_goTo l (T := T) hh hs hin0 (by omega)) (cwV 1 hts gX2_drawUp_X2_goTo rfl rfl rfl (by decide +kernel) ⟨Nat.le_of_ble_eq_true rfl, Nat.le_of_ble_eq_true rfl⟩) ⟨PcM.blind, va_recv hG.1 hP (ci := 2) (q0 := 0) rfl mw_m, PcM.at (fun q h => hA q (Nat.le_trans hS.1 h)) hP hG hD⟩ rfl rfl hl.1 rfl (lv_room (Nat.le_of_ble_eq_true rfl)) dX2_drawUp_2 ⟨Nat.zero_le _, Nat.zero_le _⟩) hS (fun q _ h => h) (fun q h => h) (fun wy9 t H locs ht hvm q2 hB hz1 hk1 hS => ?_)
  obtain ⟨hP, -, hD⟩ := hB
  rw [ht] at hP
  have hP : va_P D vwCl (mw M cZ cI th (enc (root T)) (nI (siz T)) mo ti dr (nI ((wayT h T).length)) ma isIn lf rt wy9 rw) H := hP
  have hD : va_D A (mw M cZ cI th (enc (root T)) (nI (siz T)) mo ti dr (nI ((wayT h T).length)) ma isIn lf rt wy9 rw) := hD
  obtain ⟨wl, wa, wb⟩ := way_above hb0 hm q2
  have hal := anc_len (h := h) (T := T)
  refine lv_aload_n hx hb dX2_drawUp_5 rfl (lv_at hl 0 rfl) ?_
  refine va_get (D := D) (ci := 2) (v := .int (nI ((wayT h T).length))) (C := RX2) (T := TX2) (N := 13) hx hb hts (by decide +kernel) hown hG.1 hP 0 mw_m rfl 10 (by decide) (hts (.fieldLink RX2 33 "LopsidedRanksModel" "steps" "I") (by decide +kernel)) (fun _ h9 => h9) rfl dX2_drawUp_6 ?_
  refine lv_iconst (v := nI 1) hx hb dX2_drawUp_9 (by decide) ?_
  refine lv_icmp_le (tgt := 27) hx hb dX2_drawUp_10 (by decide) (fun c10 => ?_) (fun c10 => ?_)
  · rw [nI_leI (by omega) (by omega)] at c10
    refine lv_iconst (v := (-1)) hx hb dX2_drawUp_27 (by decide) ?_
    refine zr_eqi (show _ = enc (parF h none T) from (wa (by omega)).symm) ?_
    refine lv_istore_n (lv' := [(2, .int (enc (parF h none T))), (0, .ref M.1), (1, .int (nI h))]) hx hb dX2_drawUp_28 rfl hl (by decide) rfl (fun ls hl => ?_)
    refine lv_aload_n hx hb dX2_drawUp_29 rfl (lv_at hl 1 rfl) ?_
    refine lv_iconst (v := nI 0) hx hb dX2_drawUp_30 (by decide) ?_
    refine va_put (D := D) (ci := 2) (v := .int (nI 0)) (ty := .int) (C := RX2) (T := TX2) (N := 13) hx hb hts (by decide +kernel) tyX2 tyX2_ok nmX2 hown hG.1 hP hD hS 0 mw_m rfl 12 (by decide) (hts (.fieldLink RX2 71 "LopsidedRanksModel" "many" "I") (by decide +kernel)) (fun _ h9 => h9) rfl (by decide +kernel) rfl rfl (Nat.le_of_ble_eq_true rfl) dX2_drawUp_31 (fun H locs hP hD hS => ?_)
    have hP : va_P D vwCl (mw M cZ cI th (enc (root T)) (nI (siz T)) mo ti dr (nI ((wayT h T).length)) ((nI 0)) isIn lf rt wy9 rw) H := hP
    have hD : va_D A (mw M cZ cI th (enc (root T)) (nI (siz T)) mo ti dr (nI ((wayT h T).length)) ((nI 0)) isIn lf rt wy9 rw) := hD
    refine lv_aload_n hx hb dX2_drawUp_34 rfl (lv_at hl 1 rfl) ?_
    refine lv_iload_n hx hb dX2_drawUp_35 rfl (lv_at hl 2 rfl) ?_
    refine va_callv (va_runV (As := [.int (nI h)]) (rest := []) ⟨hx, hb, hml, hown, hts⟩ (c_X2_collect l (t := (.inner sz h v tl tr : Tr)) (d := 150) (a0 := 0) hsh (fun j hj => hin0 j (subT_sub (h := h) (by rw [esub]; exact hj))) (by rw [esub] at hss; omega) (by rw [esub] at hss; omega)) (cwV 1 hts gX2_drawUp_X2_collect rfl rfl rfl (by decide +kernel) ⟨Nat.le_of_ble_eq_true rfl, Nat.le_of_ble_eq_true rfl⟩) ⟨PcM.blind, va_recv hG.1 hP (ci := 2) (q0 := 0) rfl mw_m, PcM.at (fun q h => hA q (Nat.le_trans hS.1 h)) hP hG hD⟩ rfl rfl hl.1 rfl (lv_room (Nat.le_of_ble_eq_true rfl)) dX2_drawUp_36 ⟨Nat.zero_le _, Nat.zero_le _⟩) hS (fun q _ h => h) (fun q h => h) (fun rw9 t H locs ht hvm q36 hB hz1 hk1 hS => ?_)
    obtain ⟨hP, -, hD⟩ := hB
    rw [ht] at hP
    have hP : va_P D vwCl (mw M cZ cI th (enc (root T)) (nI (siz T)) mo ti dr (nI ((wayT h T).length)) (nI (0 + siz (.inner sz h v tl tr : Tr))) isIn lf rt wy9 rw9) H := hP
    have hD : va_D A (mw M cZ cI th (enc (root T)) (nI (siz T)) mo ti dr (nI ((wayT h T).length)) (nI (0 + siz (.inner sz h v tl tr : Tr))) isIn lf rt wy9 rw9) := hD
    obtain ⟨cw1, -⟩ := q36
    rw [← esub] at hP hD cw1
    have hz0 : nI (0 + siz (subT h T)) = nI (siz (subT h T)) := by rw [Nat.zero_add]
    rw [hz0] at hP hD
    have hP : va_P D vwCl (mw M cZ cI th (enc (root T)) (nI (siz T)) mo ti dr (nI ((wayT h T).length)) (nI (siz (subT h T))) isIn lf rt wy9 rw9) H := hP
    have hD : va_D A (mw M cZ cI th (enc (root T)) (nI (siz T)) mo ti dr (nI ((wayT h T).length)) (nI (siz (subT h T))) isIn lf rt wy9 rw9) := hD
    refine lv_aload_n hx hb dX2_drawUp_39 rfl (lv_at hl 1 rfl) ?_
    refine lv_iconst (v := nI 0) hx hb dX2_drawUp_40 (by decide) ?_
    refine lv_aload_n hx hb dX2_drawUp_41 rfl (lv_at hl 1 rfl) ?_
    refine va_get (D := D) (ci := 2) (v := .int (nI (siz (subT h T)))) (C := RX2) (T := TX2) (N := 13) hx hb hts (by decide +kernel) hown hG.1 hP 0 mw_m rfl 12 (by decide) (hts (.fieldLink RX2 71 "LopsidedRanksModel" "many" "I") (by decide +kernel)) (fun _ h9 => h9) rfl dX2_drawUp_42 ?_
    refine lv_iconst (v := nI 1) hx hb dX2_drawUp_45 (by decide) ?_
    refine lv_isub hx hb dX2_drawUp_46 ?_
    refine zr_eqi ((nI_pd _).trans (show pd (siz (subT h T)) = pd (0 + siz (subT h T)) by rw [Nat.zero_add])) ?_
    refine va_calli (va_runV (As := [.int (nI 0), .int (pd (0 + siz (subT h T)))]) (rest := []) ⟨hx, hb, hml, hown, hts⟩ (c_X2_halve l (d := 8) (xs := keysT (subT h T)) (first := 0) (n0 := siz (subT h T)) cw1 (fun j hj => hin0 j (subT_sub hj)) (sub_bst (c := h) hb0) (keys_len _) (by rw [keys_len]; omega) (by omega)) (cwV 2 hts gX2_drawUp_X2_halve rfl rfl rfl (by decide +kernel) ⟨Nat.le_of_ble_eq_true rfl, Nat.le_of_ble_eq_true rfl⟩) ⟨PcM.blind, va_recv hG.1 hP (ci := 2) (q0 := 0) rfl mw_m, PcM.at (fun q h => hA q (Nat.le_trans hS.1 h)) hP hG hD⟩ rfl rfl hl.1 rfl (lv_room (Nat.le_of_ble_eq_true rfl)) dX2_drawUp_47 ⟨Nat.zero_le _, Nat.zero_le _⟩) hS (fun q _ h => h) (fun q h => h) (fun r47 u1 t H locs ht hvm q47 hB hz1 hk1 hS => ?_)
    obtain ⟨hP, -, hD⟩ := hB
    rw [ht] at hP
    have hP : va_P D vwCl (mw M cZ cI th (enc (root T)) (nI (siz T)) mo ti dr (nI ((wayT h T).length)) (nI (siz (subT h T))) isIn u1.1 u1.2 wy9 rw9) H := hP
    have hD : va_D A (mw M cZ cI th (enc (root T)) (nI (siz T)) mo ti dr (nI ((wayT h T).length)) (nI (siz (subT h T))) isIn u1.1 u1.2 wy9 rw9) := hD
    obtain ⟨rfl, s1, f1⟩ := q47
    obtain ⟨hr9, ht9⟩ := drawM hrep f1 s1
    refine lv_istore_n (lv' := [(3, .int (enc (root (balF 8 (keysT (subT h T)))))), (2, .int (enc (parF h none T))), (0, .ref M.1), (1, .int (nI h))]) hx hb dX2_drawUp_50 rfl hl (by decide) rfl (fun ls hl => ?_)
    refine lv_aload_n hx hb dX2_drawUp_51 rfl (lv_at hl 2 rfl) ?_
    refine lv_iload_n hx hb dX2_drawUp_52 rfl (lv_at hl 1 rfl) ?_
    refine lv_iload_n hx hb dX2_drawUp_53 rfl (lv_at hl 3 rfl) ?_
    refine lv_iload_n hx hb dX2_drawUp_54 rfl (lv_at hl 0 rfl) ?_
    refine va_callv (va_runV (As := [.int (enc (parF h none T)), .int (nI h), .int (enc (root (balF 8 (keysT (subT h T)))))]) (rest := []) ⟨hx, hb, hml, hown, hts⟩ (c_X2_hang l (p0 := parF h none T) hh (fun c e => hin0 c (parF_mem e))) (cwV 3 hts gX2_drawUp_X2_hang rfl rfl rfl (by decide +kernel) ⟨Nat.le_of_ble_eq_true rfl, Nat.le_of_ble_eq_true rfl⟩) ⟨PcM.blind, va_recv hG.1 hP (ci := 2) (q0 := 0) rfl mw_m, PcM.at (fun q h => hA q (Nat.le_trans hS.1 h)) hP hG hD⟩ rfl rfl hl.1 rfl (lv_room (Nat.le_of_ble_eq_true rfl)) dX2_drawUp_55 ⟨Nat.zero_le _, Nat.zero_le _⟩) hS (fun q _ h => h) (fun q h => h) (fun u55 t H locs ht hvm q55 hB hz1 hk1 hS => ?_)
    obtain ⟨hP, -, hD⟩ := hB
    rw [ht] at hP
    have hP : va_P D vwCl (mw M cZ cI th (hgTp (enc (root T)) (parF h none T) (enc (root (balF 8 (keysT (subT h T)))))) (nI (siz T)) mo ti dr (nI ((wayT h T).length)) (nI (siz (subT h T))) isIn (hgL u1.1 (parF h none T) h (enc (root (balF 8 (keysT (subT h T)))))) (hgR u1.2 (parF h none T) h (enc (root (balF 8 (keysT (subT h T)))))) wy9 rw9) H := hP
    have hD : va_D A (mw M cZ cI th (hgTp (enc (root T)) (parF h none T) (enc (root (balF 8 (keysT (subT h T)))))) (nI (siz T)) mo ti dr (nI ((wayT h T).length)) (nI (siz (subT h T))) isIn (hgL u1.1 (parF h none T) h (enc (root (balF 8 (keysT (subT h T)))))) (hgR u1.2 (parF h none T) h (enc (root (balF 8 (keysT (subT h T)))))) wy9 rw9) := hD
    rw [ht9] at hP hD
    have hP : va_P D vwCl (mw M cZ cI th (enc (root (drawT h T))) (nI (siz T)) mo ti dr (nI ((wayT h T).length)) (nI (siz (subT h T))) isIn (hgL u1.1 (parF h none T) h (enc (root (balF 8 (keysT (subT h T)))))) (hgR u1.2 (parF h none T) h (enc (root (balF 8 (keysT (subT h T)))))) wy9 rw9) H := hP
    have hD : va_D A (mw M cZ cI th (enc (root (drawT h T))) (nI (siz T)) mo ti dr (nI ((wayT h T).length)) (nI (siz (subT h T))) isIn (hgL u1.1 (parF h none T) h (enc (root (balF 8 (keysT (subT h T)))))) (hgR u1.2 (parF h none T) h (enc (root (balF 8 (keysT (subT h T)))))) wy9 rw9) := hD
    refine lv_aload_n hx hb dX2_drawUp_58 rfl (lv_at hl 2 rfl) ?_
    refine lv_dup hx hb dX2_drawUp_59 rfl ?_
    refine va_get (D := D) (ci := 2) (v := .int ti) (C := RX2) (T := TX2) (N := 13) hx hb hts (by decide +kernel) hown hG.1 hP 0 mw_m rfl 4 (by decide) (hts (.fieldLink RX2 84 "LopsidedRanksModel" "times" "I") (by decide +kernel)) (fun _ h9 => h9) rfl dX2_drawUp_60 ?_
    refine lv_iconst (v := nI 1) hx hb dX2_drawUp_63 (by decide) ?_
    refine lv_iadd hx hb dX2_drawUp_64 ?_
    refine va_put (D := D) (ci := 2) (v := .int (ti + (nI 1))) (ty := .int) (C := RX2) (T := TX2) (N := 13) hx hb hts (by decide +kernel) tyX2 tyX2_ok nmX2 hown hG.1 hP hD hS 0 mw_m rfl 4 (by decide) (hts (.fieldLink RX2 84 "LopsidedRanksModel" "times" "I") (by decide +kernel)) (fun _ h9 => h9) rfl (by decide +kernel) rfl rfl (Nat.le_of_ble_eq_true rfl) dX2_drawUp_65 (fun H locs hP hD hS => ?_)
    have hP : va_P D vwCl (mw M cZ cI th (enc (root (drawT h T))) (nI (siz T)) mo ((ti + (nI 1))) dr (nI ((wayT h T).length)) (nI (siz (subT h T))) isIn (hgL u1.1 (parF h none T) h (enc (root (balF 8 (keysT (subT h T)))))) (hgR u1.2 (parF h none T) h (enc (root (balF 8 (keysT (subT h T)))))) wy9 rw9) H := hP
    have hD : va_D A (mw M cZ cI th (enc (root (drawT h T))) (nI (siz T)) mo ((ti + (nI 1))) dr (nI ((wayT h T).length)) (nI (siz (subT h T))) isIn (hgL u1.1 (parF h none T) h (enc (root (balF 8 (keysT (subT h T)))))) (hgR u1.2 (parF h none T) h (enc (root (balF 8 (keysT (subT h T)))))) wy9 rw9) := hD
    refine lv_aload_n hx hb dX2_drawUp_68 rfl (lv_at hl 2 rfl) ?_
    refine lv_dup hx hb dX2_drawUp_69 rfl ?_
    refine va_get (D := D) (ci := 2) (v := .int dr) (C := RX2) (T := TX2) (N := 13) hx hb hts (by decide +kernel) hown hG.1 hP 0 mw_m rfl 5 (by decide) (hts (.fieldLink RX2 87 "LopsidedRanksModel" "drawn" "I") (by decide +kernel)) (fun _ h9 => h9) rfl dX2_drawUp_70 ?_
    refine lv_aload_n hx hb dX2_drawUp_73 rfl (lv_at hl 2 rfl) ?_
    refine va_get (D := D) (ci := 2) (v := .int (nI (siz (subT h T)))) (C := RX2) (T := TX2) (N := 13) hx hb hts (by decide +kernel) hown hG.1 hP 0 mw_m rfl 12 (by decide) (hts (.fieldLink RX2 71 "LopsidedRanksModel" "many" "I") (by decide +kernel)) (fun _ h9 => h9) rfl dX2_drawUp_74 ?_
    refine lv_iadd hx hb dX2_drawUp_77 ?_
    refine va_put (D := D) (ci := 2) (v := .int (dr + (nI (siz (subT h T))))) (ty := .int) (C := RX2) (T := TX2) (N := 13) hx hb hts (by decide +kernel) tyX2 tyX2_ok nmX2 hown hG.1 hP hD hS 0 mw_m rfl 5 (by decide) (hts (.fieldLink RX2 87 "LopsidedRanksModel" "drawn" "I") (by decide +kernel)) (fun _ h9 => h9) rfl (by decide +kernel) rfl rfl (Nat.le_of_ble_eq_true rfl) dX2_drawUp_78 (fun H locs hP hD hS => ?_)
    have hP : va_P D vwCl (mw M cZ cI th (enc (root (drawT h T))) (nI (siz T)) mo ((ti + (nI 1))) ((dr + (nI (siz (subT h T))))) (nI ((wayT h T).length)) (nI (siz (subT h T))) isIn (hgL u1.1 (parF h none T) h (enc (root (balF 8 (keysT (subT h T)))))) (hgR u1.2 (parF h none T) h (enc (root (balF 8 (keysT (subT h T)))))) wy9 rw9) H := hP
    have hD : va_D A (mw M cZ cI th (enc (root (drawT h T))) (nI (siz T)) mo ((ti + (nI 1))) ((dr + (nI (siz (subT h T))))) (nI ((wayT h T).length)) (nI (siz (subT h T))) isIn (hgL u1.1 (parF h none T) h (enc (root (balF 8 (keysT (subT h T)))))) (hgR u1.2 (parF h none T) h (enc (root (balF 8 (keysT (subT h T)))))) wy9 rw9) := hD
    refine lv_iload_n hx hb dX2_drawUp_81 rfl (lv_at hl 1 rfl) ?_
    refine lv_iconst (v := (-1)) hx hb dX2_drawUp_82 (by decide) ?_
    refine lv_icmp_ne (tgt := 94) hx hb dX2_drawUp_83 (by decide) (fun c83 => ?_) (fun c83 => ?_)
    · have emo : moD T h mo = mo := by
        unfold moD
        cases e : parF h none T with
        | none => rw [e] at c83; exact absurd rfl c83
        | some z => rfl
      refine lv_iload_n hx hb dX2_drawUp_94 rfl (lv_at hl 0 rfl) ?_
      exact W.iret (v := (enc (root (balF 8 (keysT (subT h T)))))) hx hb hr (fun t ht hW => ⟨⟨_, (nI ((wayT h T).length), nI (siz (subT h T)), isIn, hgL u1.1 (parF h none T) h (enc (root (balF 8 (keysT (subT h T))))), hgR u1.2 (parF h none T) h (enc (root (balF 8 (keysT (subT h T))))), wy9, rw9), rfl, ⟨rfl, hr9⟩, by rw [ht, emo]; exact hP, hG.moved hW, by rw [emo]; exact hD⟩, hS.F ht⟩) hS.2.2 dX2_drawUp_95
    · have emo : moD T h mo = nI (siz T) := by
        unfold moD
        cases e : parF h none T with
        | none => rfl
        | some z => rw [e] at c83; exact absurd c83 (nI_m1 (by have := hin0 z (parF_mem e); omega))
      refine lv_aload_n hx hb dX2_drawUp_86 rfl (lv_at hl 2 rfl) ?_
      refine lv_aload_n hx hb dX2_drawUp_87 rfl (lv_at hl 2 rfl) ?_
      refine va_get (D := D) (ci := 2) (v := .int (nI (siz T))) (C := RX2) (T := TX2) (N := 13) hx hb hts (by decide +kernel) hown hG.1 hP 0 mw_m rfl 2 (by decide) (hts (.fieldLink RX2 90 "LopsidedRanksModel" "soldiers" "I") (by decide +kernel)) (fun _ h9 => h9) rfl dX2_drawUp_88 ?_
      refine va_put (D := D) (ci := 2) (v := .int (nI (siz T))) (ty := .int) (C := RX2) (T := TX2) (N := 13) hx hb hts (by decide +kernel) tyX2 tyX2_ok nmX2 hown hG.1 hP hD hS 0 mw_m rfl 3 (by decide) (hts (.fieldLink RX2 93 "LopsidedRanksModel" "most" "I") (by decide +kernel)) (fun _ h9 => h9) rfl (by decide +kernel) rfl rfl (Nat.le_of_ble_eq_true rfl) dX2_drawUp_91 (fun H locs hP hD hS => ?_)
      have hP : va_P D vwCl (mw M cZ cI th (enc (root (drawT h T))) (nI (siz T)) ((nI (siz T))) ((ti + (nI 1))) ((dr + (nI (siz (subT h T))))) (nI ((wayT h T).length)) (nI (siz (subT h T))) isIn (hgL u1.1 (parF h none T) h (enc (root (balF 8 (keysT (subT h T)))))) (hgR u1.2 (parF h none T) h (enc (root (balF 8 (keysT (subT h T)))))) wy9 rw9) H := hP
      have hD : va_D A (mw M cZ cI th (enc (root (drawT h T))) (nI (siz T)) ((nI (siz T))) ((ti + (nI 1))) ((dr + (nI (siz (subT h T))))) (nI ((wayT h T).length)) (nI (siz (subT h T))) isIn (hgL u1.1 (parF h none T) h (enc (root (balF 8 (keysT (subT h T)))))) (hgR u1.2 (parF h none T) h (enc (root (balF 8 (keysT (subT h T)))))) wy9 rw9) := hD
      refine lv_iload_n hx hb dX2_drawUp_94 rfl (lv_at hl 0 rfl) ?_
      exact W.iret (v := (enc (root (balF 8 (keysT (subT h T)))))) hx hb hr (fun t ht hW => ⟨⟨_, (nI ((wayT h T).length), nI (siz (subT h T)), isIn, hgL u1.1 (parF h none T) h (enc (root (balF 8 (keysT (subT h T))))), hgR u1.2 (parF h none T) h (enc (root (balF 8 (keysT (subT h T))))), wy9, rw9), rfl, ⟨rfl, hr9⟩, by rw [ht, emo]; exact hP, hG.moved hW, by rw [emo]; exact hD⟩, hS.F ht⟩) hS.2.2 dX2_drawUp_95
  · rw [nI_leI (by omega) (by omega)] at c10
    refine lv_aload_n hx hb dX2_drawUp_13 rfl (lv_at hl 0 rfl) ?_
    refine va_get (D := D) (ci := 2) (v := .ref M.2.2.2.2.1) (C := RX2) (T := TX2) (N := 13) hx hb hts (by decide +kernel) hown hG.1 hP 0 mw_m rfl 9 (by decide) (hts (.fieldLink RX2 24 "LopsidedRanksModel" "way" "[I") (by decide +kernel)) (fun _ h9 => h9) rfl dX2_drawUp_14 ?_
    refine lv_aload_n hx hb dX2_drawUp_17 rfl (lv_at hl 0 rfl) ?_
    refine va_get (D := D) (ci := 2) (v := .int (nI ((wayT h T).length))) (C := RX2) (T := TX2) (N := 13) hx hb hts (by decide +kernel) hown hG.1 hP 0 mw_m rfl 10 (by decide) (hts (.fieldLink RX2 33 "LopsidedRanksModel" "steps" "I") (by decide +kernel)) (fun _ h9 => h9) rfl dX2_drawUp_18 ?_
    refine lv_iconst (v := nI 2) hx hb dX2_drawUp_21 (by decide) ?_
    refine lv_isub hx hb dX2_drawUp_22 ?_
    refine zr_eqi (pk_sub (a := (wayT h T).length) (b := 2) (by omega)) ?_
    refine zr_iald hx hb hG.1 hP 4 2 mw_w rfl (k := ((wayT h T).length) - 2) (by omega) (Nat.le_of_ble_eq_true rfl) dX2_drawUp_23 ?_
    refine lv_goto (tgt := 28) hx hb dX2_drawUp_24 (by decide) ?_
    refine zr_eqi (show _ = enc (parF h none T) from wb (by omega)) ?_
    refine lv_istore_n (lv' := [(2, .int (enc (parF h none T))), (0, .ref M.1), (1, .int (nI h))]) hx hb dX2_drawUp_28 rfl hl (by decide) rfl (fun ls hl => ?_)
    refine lv_aload_n hx hb dX2_drawUp_29 rfl (lv_at hl 1 rfl) ?_
    refine lv_iconst (v := nI 0) hx hb dX2_drawUp_30 (by decide) ?_
    refine va_put (D := D) (ci := 2) (v := .int (nI 0)) (ty := .int) (C := RX2) (T := TX2) (N := 13) hx hb hts (by decide +kernel) tyX2 tyX2_ok nmX2 hown hG.1 hP hD hS 0 mw_m rfl 12 (by decide) (hts (.fieldLink RX2 71 "LopsidedRanksModel" "many" "I") (by decide +kernel)) (fun _ h9 => h9) rfl (by decide +kernel) rfl rfl (Nat.le_of_ble_eq_true rfl) dX2_drawUp_31 (fun H locs hP hD hS => ?_)
    have hP : va_P D vwCl (mw M cZ cI th (enc (root T)) (nI (siz T)) mo ti dr (nI ((wayT h T).length)) ((nI 0)) isIn lf rt wy9 rw) H := hP
    have hD : va_D A (mw M cZ cI th (enc (root T)) (nI (siz T)) mo ti dr (nI ((wayT h T).length)) ((nI 0)) isIn lf rt wy9 rw) := hD
    refine lv_aload_n hx hb dX2_drawUp_34 rfl (lv_at hl 1 rfl) ?_
    refine lv_iload_n hx hb dX2_drawUp_35 rfl (lv_at hl 2 rfl) ?_
    refine va_callv (va_runV (As := [.int (nI h)]) (rest := []) ⟨hx, hb, hml, hown, hts⟩ (c_X2_collect l (t := (.inner sz h v tl tr : Tr)) (d := 150) (a0 := 0) hsh (fun j hj => hin0 j (subT_sub (h := h) (by rw [esub]; exact hj))) (by rw [esub] at hss; omega) (by rw [esub] at hss; omega)) (cwV 1 hts gX2_drawUp_X2_collect rfl rfl rfl (by decide +kernel) ⟨Nat.le_of_ble_eq_true rfl, Nat.le_of_ble_eq_true rfl⟩) ⟨PcM.blind, va_recv hG.1 hP (ci := 2) (q0 := 0) rfl mw_m, PcM.at (fun q h => hA q (Nat.le_trans hS.1 h)) hP hG hD⟩ rfl rfl hl.1 rfl (lv_room (Nat.le_of_ble_eq_true rfl)) dX2_drawUp_36 ⟨Nat.zero_le _, Nat.zero_le _⟩) hS (fun q _ h => h) (fun q h => h) (fun rw9 t H locs ht hvm q36 hB hz1 hk1 hS => ?_)
    obtain ⟨hP, -, hD⟩ := hB
    rw [ht] at hP
    have hP : va_P D vwCl (mw M cZ cI th (enc (root T)) (nI (siz T)) mo ti dr (nI ((wayT h T).length)) (nI (0 + siz (.inner sz h v tl tr : Tr))) isIn lf rt wy9 rw9) H := hP
    have hD : va_D A (mw M cZ cI th (enc (root T)) (nI (siz T)) mo ti dr (nI ((wayT h T).length)) (nI (0 + siz (.inner sz h v tl tr : Tr))) isIn lf rt wy9 rw9) := hD
    obtain ⟨cw1, -⟩ := q36
    rw [← esub] at hP hD cw1
    have hz0 : nI (0 + siz (subT h T)) = nI (siz (subT h T)) := by rw [Nat.zero_add]
    rw [hz0] at hP hD
    have hP : va_P D vwCl (mw M cZ cI th (enc (root T)) (nI (siz T)) mo ti dr (nI ((wayT h T).length)) (nI (siz (subT h T))) isIn lf rt wy9 rw9) H := hP
    have hD : va_D A (mw M cZ cI th (enc (root T)) (nI (siz T)) mo ti dr (nI ((wayT h T).length)) (nI (siz (subT h T))) isIn lf rt wy9 rw9) := hD
    refine lv_aload_n hx hb dX2_drawUp_39 rfl (lv_at hl 1 rfl) ?_
    refine lv_iconst (v := nI 0) hx hb dX2_drawUp_40 (by decide) ?_
    refine lv_aload_n hx hb dX2_drawUp_41 rfl (lv_at hl 1 rfl) ?_
    refine va_get (D := D) (ci := 2) (v := .int (nI (siz (subT h T)))) (C := RX2) (T := TX2) (N := 13) hx hb hts (by decide +kernel) hown hG.1 hP 0 mw_m rfl 12 (by decide) (hts (.fieldLink RX2 71 "LopsidedRanksModel" "many" "I") (by decide +kernel)) (fun _ h9 => h9) rfl dX2_drawUp_42 ?_
    refine lv_iconst (v := nI 1) hx hb dX2_drawUp_45 (by decide) ?_
    refine lv_isub hx hb dX2_drawUp_46 ?_
    refine zr_eqi ((nI_pd _).trans (show pd (siz (subT h T)) = pd (0 + siz (subT h T)) by rw [Nat.zero_add])) ?_
    refine va_calli (va_runV (As := [.int (nI 0), .int (pd (0 + siz (subT h T)))]) (rest := []) ⟨hx, hb, hml, hown, hts⟩ (c_X2_halve l (d := 8) (xs := keysT (subT h T)) (first := 0) (n0 := siz (subT h T)) cw1 (fun j hj => hin0 j (subT_sub hj)) (sub_bst (c := h) hb0) (keys_len _) (by rw [keys_len]; omega) (by omega)) (cwV 2 hts gX2_drawUp_X2_halve rfl rfl rfl (by decide +kernel) ⟨Nat.le_of_ble_eq_true rfl, Nat.le_of_ble_eq_true rfl⟩) ⟨PcM.blind, va_recv hG.1 hP (ci := 2) (q0 := 0) rfl mw_m, PcM.at (fun q h => hA q (Nat.le_trans hS.1 h)) hP hG hD⟩ rfl rfl hl.1 rfl (lv_room (Nat.le_of_ble_eq_true rfl)) dX2_drawUp_47 ⟨Nat.zero_le _, Nat.zero_le _⟩) hS (fun q _ h => h) (fun q h => h) (fun r47 u1 t H locs ht hvm q47 hB hz1 hk1 hS => ?_)
    obtain ⟨hP, -, hD⟩ := hB
    rw [ht] at hP
    have hP : va_P D vwCl (mw M cZ cI th (enc (root T)) (nI (siz T)) mo ti dr (nI ((wayT h T).length)) (nI (siz (subT h T))) isIn u1.1 u1.2 wy9 rw9) H := hP
    have hD : va_D A (mw M cZ cI th (enc (root T)) (nI (siz T)) mo ti dr (nI ((wayT h T).length)) (nI (siz (subT h T))) isIn u1.1 u1.2 wy9 rw9) := hD
    obtain ⟨rfl, s1, f1⟩ := q47
    obtain ⟨hr9, ht9⟩ := drawM hrep f1 s1
    refine lv_istore_n (lv' := [(3, .int (enc (root (balF 8 (keysT (subT h T)))))), (2, .int (enc (parF h none T))), (0, .ref M.1), (1, .int (nI h))]) hx hb dX2_drawUp_50 rfl hl (by decide) rfl (fun ls hl => ?_)
    refine lv_aload_n hx hb dX2_drawUp_51 rfl (lv_at hl 2 rfl) ?_
    refine lv_iload_n hx hb dX2_drawUp_52 rfl (lv_at hl 1 rfl) ?_
    refine lv_iload_n hx hb dX2_drawUp_53 rfl (lv_at hl 3 rfl) ?_
    refine lv_iload_n hx hb dX2_drawUp_54 rfl (lv_at hl 0 rfl) ?_
    refine va_callv (va_runV (As := [.int (enc (parF h none T)), .int (nI h), .int (enc (root (balF 8 (keysT (subT h T)))))]) (rest := []) ⟨hx, hb, hml, hown, hts⟩ (c_X2_hang l (p0 := parF h none T) hh (fun c e => hin0 c (parF_mem e))) (cwV 3 hts gX2_drawUp_X2_hang rfl rfl rfl (by decide +kernel) ⟨Nat.le_of_ble_eq_true rfl, Nat.le_of_ble_eq_true rfl⟩) ⟨PcM.blind, va_recv hG.1 hP (ci := 2) (q0 := 0) rfl mw_m, PcM.at (fun q h => hA q (Nat.le_trans hS.1 h)) hP hG hD⟩ rfl rfl hl.1 rfl (lv_room (Nat.le_of_ble_eq_true rfl)) dX2_drawUp_55 ⟨Nat.zero_le _, Nat.zero_le _⟩) hS (fun q _ h => h) (fun q h => h) (fun u55 t H locs ht hvm q55 hB hz1 hk1 hS => ?_)
    obtain ⟨hP, -, hD⟩ := hB
    rw [ht] at hP
    have hP : va_P D vwCl (mw M cZ cI th (hgTp (enc (root T)) (parF h none T) (enc (root (balF 8 (keysT (subT h T)))))) (nI (siz T)) mo ti dr (nI ((wayT h T).length)) (nI (siz (subT h T))) isIn (hgL u1.1 (parF h none T) h (enc (root (balF 8 (keysT (subT h T)))))) (hgR u1.2 (parF h none T) h (enc (root (balF 8 (keysT (subT h T)))))) wy9 rw9) H := hP
    have hD : va_D A (mw M cZ cI th (hgTp (enc (root T)) (parF h none T) (enc (root (balF 8 (keysT (subT h T)))))) (nI (siz T)) mo ti dr (nI ((wayT h T).length)) (nI (siz (subT h T))) isIn (hgL u1.1 (parF h none T) h (enc (root (balF 8 (keysT (subT h T)))))) (hgR u1.2 (parF h none T) h (enc (root (balF 8 (keysT (subT h T)))))) wy9 rw9) := hD
    rw [ht9] at hP hD
    have hP : va_P D vwCl (mw M cZ cI th (enc (root (drawT h T))) (nI (siz T)) mo ti dr (nI ((wayT h T).length)) (nI (siz (subT h T))) isIn (hgL u1.1 (parF h none T) h (enc (root (balF 8 (keysT (subT h T)))))) (hgR u1.2 (parF h none T) h (enc (root (balF 8 (keysT (subT h T)))))) wy9 rw9) H := hP
    have hD : va_D A (mw M cZ cI th (enc (root (drawT h T))) (nI (siz T)) mo ti dr (nI ((wayT h T).length)) (nI (siz (subT h T))) isIn (hgL u1.1 (parF h none T) h (enc (root (balF 8 (keysT (subT h T)))))) (hgR u1.2 (parF h none T) h (enc (root (balF 8 (keysT (subT h T)))))) wy9 rw9) := hD
    refine lv_aload_n hx hb dX2_drawUp_58 rfl (lv_at hl 2 rfl) ?_
    refine lv_dup hx hb dX2_drawUp_59 rfl ?_
    refine va_get (D := D) (ci := 2) (v := .int ti) (C := RX2) (T := TX2) (N := 13) hx hb hts (by decide +kernel) hown hG.1 hP 0 mw_m rfl 4 (by decide) (hts (.fieldLink RX2 84 "LopsidedRanksModel" "times" "I") (by decide +kernel)) (fun _ h9 => h9) rfl dX2_drawUp_60 ?_
    refine lv_iconst (v := nI 1) hx hb dX2_drawUp_63 (by decide) ?_
    refine lv_iadd hx hb dX2_drawUp_64 ?_
    refine va_put (D := D) (ci := 2) (v := .int (ti + (nI 1))) (ty := .int) (C := RX2) (T := TX2) (N := 13) hx hb hts (by decide +kernel) tyX2 tyX2_ok nmX2 hown hG.1 hP hD hS 0 mw_m rfl 4 (by decide) (hts (.fieldLink RX2 84 "LopsidedRanksModel" "times" "I") (by decide +kernel)) (fun _ h9 => h9) rfl (by decide +kernel) rfl rfl (Nat.le_of_ble_eq_true rfl) dX2_drawUp_65 (fun H locs hP hD hS => ?_)
    have hP : va_P D vwCl (mw M cZ cI th (enc (root (drawT h T))) (nI (siz T)) mo ((ti + (nI 1))) dr (nI ((wayT h T).length)) (nI (siz (subT h T))) isIn (hgL u1.1 (parF h none T) h (enc (root (balF 8 (keysT (subT h T)))))) (hgR u1.2 (parF h none T) h (enc (root (balF 8 (keysT (subT h T)))))) wy9 rw9) H := hP
    have hD : va_D A (mw M cZ cI th (enc (root (drawT h T))) (nI (siz T)) mo ((ti + (nI 1))) dr (nI ((wayT h T).length)) (nI (siz (subT h T))) isIn (hgL u1.1 (parF h none T) h (enc (root (balF 8 (keysT (subT h T)))))) (hgR u1.2 (parF h none T) h (enc (root (balF 8 (keysT (subT h T)))))) wy9 rw9) := hD
    refine lv_aload_n hx hb dX2_drawUp_68 rfl (lv_at hl 2 rfl) ?_
    refine lv_dup hx hb dX2_drawUp_69 rfl ?_
    refine va_get (D := D) (ci := 2) (v := .int dr) (C := RX2) (T := TX2) (N := 13) hx hb hts (by decide +kernel) hown hG.1 hP 0 mw_m rfl 5 (by decide) (hts (.fieldLink RX2 87 "LopsidedRanksModel" "drawn" "I") (by decide +kernel)) (fun _ h9 => h9) rfl dX2_drawUp_70 ?_
    refine lv_aload_n hx hb dX2_drawUp_73 rfl (lv_at hl 2 rfl) ?_
    refine va_get (D := D) (ci := 2) (v := .int (nI (siz (subT h T)))) (C := RX2) (T := TX2) (N := 13) hx hb hts (by decide +kernel) hown hG.1 hP 0 mw_m rfl 12 (by decide) (hts (.fieldLink RX2 71 "LopsidedRanksModel" "many" "I") (by decide +kernel)) (fun _ h9 => h9) rfl dX2_drawUp_74 ?_
    refine lv_iadd hx hb dX2_drawUp_77 ?_
    refine va_put (D := D) (ci := 2) (v := .int (dr + (nI (siz (subT h T))))) (ty := .int) (C := RX2) (T := TX2) (N := 13) hx hb hts (by decide +kernel) tyX2 tyX2_ok nmX2 hown hG.1 hP hD hS 0 mw_m rfl 5 (by decide) (hts (.fieldLink RX2 87 "LopsidedRanksModel" "drawn" "I") (by decide +kernel)) (fun _ h9 => h9) rfl (by decide +kernel) rfl rfl (Nat.le_of_ble_eq_true rfl) dX2_drawUp_78 (fun H locs hP hD hS => ?_)
    have hP : va_P D vwCl (mw M cZ cI th (enc (root (drawT h T))) (nI (siz T)) mo ((ti + (nI 1))) ((dr + (nI (siz (subT h T))))) (nI ((wayT h T).length)) (nI (siz (subT h T))) isIn (hgL u1.1 (parF h none T) h (enc (root (balF 8 (keysT (subT h T)))))) (hgR u1.2 (parF h none T) h (enc (root (balF 8 (keysT (subT h T)))))) wy9 rw9) H := hP
    have hD : va_D A (mw M cZ cI th (enc (root (drawT h T))) (nI (siz T)) mo ((ti + (nI 1))) ((dr + (nI (siz (subT h T))))) (nI ((wayT h T).length)) (nI (siz (subT h T))) isIn (hgL u1.1 (parF h none T) h (enc (root (balF 8 (keysT (subT h T)))))) (hgR u1.2 (parF h none T) h (enc (root (balF 8 (keysT (subT h T)))))) wy9 rw9) := hD
    refine lv_iload_n hx hb dX2_drawUp_81 rfl (lv_at hl 1 rfl) ?_
    refine lv_iconst (v := (-1)) hx hb dX2_drawUp_82 (by decide) ?_
    refine lv_icmp_ne (tgt := 94) hx hb dX2_drawUp_83 (by decide) (fun c83 => ?_) (fun c83 => ?_)
    · have emo : moD T h mo = mo := by
        unfold moD
        cases e : parF h none T with
        | none => rw [e] at c83; exact absurd rfl c83
        | some z => rfl
      refine lv_iload_n hx hb dX2_drawUp_94 rfl (lv_at hl 0 rfl) ?_
      exact W.iret (v := (enc (root (balF 8 (keysT (subT h T)))))) hx hb hr (fun t ht hW => ⟨⟨_, (nI ((wayT h T).length), nI (siz (subT h T)), isIn, hgL u1.1 (parF h none T) h (enc (root (balF 8 (keysT (subT h T))))), hgR u1.2 (parF h none T) h (enc (root (balF 8 (keysT (subT h T))))), wy9, rw9), rfl, ⟨rfl, hr9⟩, by rw [ht, emo]; exact hP, hG.moved hW, by rw [emo]; exact hD⟩, hS.F ht⟩) hS.2.2 dX2_drawUp_95
    · have emo : moD T h mo = nI (siz T) := by
        unfold moD
        cases e : parF h none T with
        | none => rfl
        | some z => rw [e] at c83; exact absurd c83 (nI_m1 (by have := hin0 z (parF_mem e); omega))
      refine lv_aload_n hx hb dX2_drawUp_86 rfl (lv_at hl 2 rfl) ?_
      refine lv_aload_n hx hb dX2_drawUp_87 rfl (lv_at hl 2 rfl) ?_
      refine va_get (D := D) (ci := 2) (v := .int (nI (siz T))) (C := RX2) (T := TX2) (N := 13) hx hb hts (by decide +kernel) hown hG.1 hP 0 mw_m rfl 2 (by decide) (hts (.fieldLink RX2 90 "LopsidedRanksModel" "soldiers" "I") (by decide +kernel)) (fun _ h9 => h9) rfl dX2_drawUp_88 ?_
      refine va_put (D := D) (ci := 2) (v := .int (nI (siz T))) (ty := .int) (C := RX2) (T := TX2) (N := 13) hx hb hts (by decide +kernel) tyX2 tyX2_ok nmX2 hown hG.1 hP hD hS 0 mw_m rfl 3 (by decide) (hts (.fieldLink RX2 93 "LopsidedRanksModel" "most" "I") (by decide +kernel)) (fun _ h9 => h9) rfl (by decide +kernel) rfl rfl (Nat.le_of_ble_eq_true rfl) dX2_drawUp_91 (fun H locs hP hD hS => ?_)
      have hP : va_P D vwCl (mw M cZ cI th (enc (root (drawT h T))) (nI (siz T)) ((nI (siz T))) ((ti + (nI 1))) ((dr + (nI (siz (subT h T))))) (nI ((wayT h T).length)) (nI (siz (subT h T))) isIn (hgL u1.1 (parF h none T) h (enc (root (balF 8 (keysT (subT h T)))))) (hgR u1.2 (parF h none T) h (enc (root (balF 8 (keysT (subT h T)))))) wy9 rw9) H := hP
      have hD : va_D A (mw M cZ cI th (enc (root (drawT h T))) (nI (siz T)) ((nI (siz T))) ((ti + (nI 1))) ((dr + (nI (siz (subT h T))))) (nI ((wayT h T).length)) (nI (siz (subT h T))) isIn (hgL u1.1 (parF h none T) h (enc (root (balF 8 (keysT (subT h T)))))) (hgR u1.2 (parF h none T) h (enc (root (balF 8 (keysT (subT h T)))))) wy9 rw9) := hD
      refine lv_iload_n hx hb dX2_drawUp_94 rfl (lv_at hl 0 rfl) ?_
      exact W.iret (v := (enc (root (balF 8 (keysT (subT h T)))))) hx hb hr (fun t ht hW => ⟨⟨_, (nI ((wayT h T).length), nI (siz (subT h T)), isIn, hgL u1.1 (parF h none T) h (enc (root (balF 8 (keysT (subT h T))))), hgR u1.2 (parF h none T) h (enc (root (balF 8 (keysT (subT h T))))), wy9, rw9), rfl, ⟨rfl, hr9⟩, by rw [ht, emo]; exact hP, hG.moved hW, by rw [emo]; exact hD⟩, hS.F ht⟩) hS.2.2 dX2_drawUp_95

set_option maxHeartbeats 4000000 in
set_option maxRecDepth 100000 in
theorem L_X2_crookedWith {D : va_G} {cA cZ cI : ClassId} {M : Nat × Nat × Nat × Nat × Nat × Nat} {th tp n mo ti dr ma : Int32} {isIn lf rt wy rw : Nat → Int32} {T : Tr} {h sN : Nat} {p : Program} {l : Launch} {e : Env} {R : Room} {s : State} {m : MethodId} {args : Array Value} {below : List Frame} {meth : Method} {c : Code} {Q : State → Prop} {cells slots : Nat} {H : Heap} {locs : List Loc} (hx : p.tables.exec = Jvm.exec) (hb : c.code = cX2_crookedWith) (hml : c.maxLocals = 5) (hts : ∀ w ∈ wsX2_crookedWith, w.before args s = true) (hown : s.vm.findClass RX2 = some m.cls) (hG : GK D (tysA cA cZ cI) s) (hP : va_P D vwCl (mw M cZ cI th tp n mo ti dr (nI sN) ma isIn lf rt wy rw) H) (hR : 152 ≤ R.frames ∧ 6080 ≤ R.locals) (hC : cells ≤ R.cells ∧ slots ≤ R.slots) (hhn : h < 1000) (hrep : RepM T isIn lf rt) (hm : h ∉ keysT T) (hw : ∀ j k, (anc h T)[j]? = some k → wy j = nI k) : ∀ {cN : Nat}, cN ≤ (anc h T).length → (∀ ls, W p l e R s m args below meth c H locs cells slots Q (F0 m 69 ls [.int (enc (((anc h T).take cN).reverse.find? (mvP T h)))])) → (∀ ls, W p l e R s m args below meth c H locs cells slots Q (F0 m 84 ls [.int (enc (((anc h T).take cN).reverse.find? (mvP T h)))])) → ∀ ls, lv_has ls 5 [(3, .int (pd cN)), (2, .int (nI (siz (desc h cN T) + 1))), (0, .ref M.1), (1, .int (nI h))] → W p l e R s m args below meth c H locs cells slots Q (F0 m 9 ls []) := by
  obtain ⟨hb0, hin0, hsz, hs, hi⟩ := id hrep
  have hal := anc_len (h := h) (T := T)
  intro cN
  induction cN with
  | zero =>
    intro hc k69 k84 ls hl
    have hl : lv_has ls 5 [(3, .int (-1)), (2, .int (nI (siz (desc h 0 T) + 1))), (0, .ref M.1), (1, .int (nI h))] := hl
    refine lv_iload_n hx hb dX2_crookedWith_9 rfl (lv_at hl 0 rfl) ?_
    refine lv_if_lt (tgt := 83) hx hb dX2_crookedWith_10 (by decide) (fun c10 => ?_) (fun c10 => ?_)
    · refine lv_iconst (v := (-1)) hx hb dX2_crookedWith_83 (by decide) ?_
      exact k84 _
    · exact absurd (by decide) c10
  | succ cN ih =>
    intro hc k69 k84 ls hl
    obtain ⟨a, hca⟩ : ∃ a, (anc h T)[cN]? = some a := ⟨_, List.getElem?_eq_getElem (by omega)⟩
    have haT := anc_in (List.mem_of_getElem? hca)
    have han := hin0 a haT
    have hwc := hw cN a hca
    obtain ⟨s0, v0, tl, tr, y1, y2, y3, y4⟩ := desc_at hb0 hm hca
    obtain ⟨s1, v1, l1, r1, e1, p1, p2, p3, p4⟩ := hrep.at haT
    rw [y1] at e1
    cases e1
    have hss := sub_siz (h := a) (T := T)
    rw [y1] at hss
    simp only [siz] at hss
    have htk : (anc h T).take (cN + 1) = (anc h T).take cN ++ [a] := by
      rw [List.take_succ, hca]; rfl
    rw [htk, List.reverse_append, List.reverse_singleton, List.singleton_append] at k69 k84
    rw [pd_s] at hl
    have hl : lv_has ls 5 [(3, .int (nI cN)), (2, .int (nI (siz (desc h (cN + 1) T) + 1))), (0, .ref M.1), (1, .int (nI h))] := hl
    refine lv_iload_n hx hb dX2_crookedWith_9 rfl (lv_at hl 0 rfl) ?_
    refine lv_if_lt (tgt := 83) hx hb dX2_crookedWith_10 (by decide) (fun c10 => ?_) (fun c10 => ?_)
    · replace c10 := (zr_lt0 (by omega)).mp c10
      exact c10.elim
    · replace c10 := (not_congr (zr_lt0 (by omega))).mp c10
      refine lv_aload_n hx hb dX2_crookedWith_13 rfl (lv_at hl 2 rfl) ?_
      refine lv_iload_n hx hb dX2_crookedWith_14 rfl (lv_at hl 3 rfl) ?_
      refine lv_aload_n hx hb dX2_crookedWith_15 rfl (lv_at hl 2 rfl) ?_
      refine va_get (D := D) (ci := 2) (v := .ref M.2.2.2.2.1) (C := RX2) (T := TX2) (N := 13) hx hb hts (by decide +kernel) hown hG.1 hP 0 mw_m rfl 9 (by decide) (hts (.fieldLink RX2 24 "LopsidedRanksModel" "way" "[I") (by decide +kernel)) (fun _ h9 => h9) rfl dX2_crookedWith_16 ?_
      refine lv_iload_n hx hb dX2_crookedWith_19 rfl (lv_at hl 0 rfl) ?_
      refine zr_iald hx hb hG.1 hP 4 2 mw_w rfl (k := cN) (by omega) (Nat.le_of_ble_eq_true rfl) dX2_crookedWith_20 ?_
      refine zr_eqi hwc ?_
      refine lv_icmp_ge (tgt := 38) hx hb dX2_crookedWith_21 (by decide) (fun c21 => ?_) (fun c21 => ?_)
      · rw [nI_leI (by omega) (by omega)] at c21
        have hlt : ¬ h < a := by omega
        rw [if_neg hlt] at y3
        rw [y3] at hl
        have hcrk : mvP T h a = crk (siz tr + 1) (siz tl) := by simp only [mvP]; rw [y1]; simp only []; rw [if_neg hlt]; exact crk_comm
        have hl : lv_has ls 5 [(3, .int (nI cN)), (2, .int (nI (siz (tr) + 1))), (0, .ref M.1), (1, .int (nI h))] := hl
        refine lv_aload_n hx hb dX2_crookedWith_38 rfl (lv_at hl 2 rfl) ?_
        refine va_get (D := D) (ci := 2) (v := .ref M.2.2.1) (C := RX2) (T := TX2) (N := 13) hx hb hts (by decide +kernel) hown hG.1 hP 0 mw_m rfl 7 (by decide) (hts (.fieldLink RX2 17 "LopsidedRanksModel" "left" "[I") (by decide +kernel)) (fun _ h9 => h9) rfl dX2_crookedWith_39 ?_
        refine lv_aload_n hx hb dX2_crookedWith_42 rfl (lv_at hl 2 rfl) ?_
        refine va_get (D := D) (ci := 2) (v := .ref M.2.2.2.2.1) (C := RX2) (T := TX2) (N := 13) hx hb hts (by decide +kernel) hown hG.1 hP 0 mw_m rfl 9 (by decide) (hts (.fieldLink RX2 24 "LopsidedRanksModel" "way" "[I") (by decide +kernel)) (fun _ h9 => h9) rfl dX2_crookedWith_43 ?_
        refine lv_iload_n hx hb dX2_crookedWith_46 rfl (lv_at hl 0 rfl) ?_
        refine zr_iald hx hb hG.1 hP 4 2 mw_w rfl (k := cN) (by omega) (Nat.le_of_ble_eq_true rfl) dX2_crookedWith_47 ?_
        refine zr_eqi hwc ?_
        refine zr_iald hx hb hG.1 hP 2 2 mw_l rfl (k := a) (by omega) (Nat.le_of_ble_eq_true rfl) dX2_crookedWith_48 ?_
        refine zr_eqi p1 ?_
        refine vp_callSi (va_Run.run (va_runV (As := [.int (enc (root tl))]) (rest := []) ⟨hx, hb, hml, hown, hts⟩ (c_X2_size l (t := tl) (d := 150) p3 (fun j hj => hin0 j (subT_sub (h := a) (by rw [y1, keys_in]; exact Or.inl hj))) (by have := hgt_siz (T := tl); omega)) (cwV 1 hts gX2_crookedWith_X2_size rfl rfl rfl (by decide +kernel) ⟨Nat.le_trans (Nat.le_of_ble_eq_true rfl) hR.1, Nat.le_trans (Nat.le_of_ble_eq_true rfl) hR.2⟩) ⟨PcR.blind, va_recv hG.1 hP (ci := 2) (q0 := 0) rfl mw_m, PcR.at hP hG⟩ rfl rfl hl.1 rfl (lv_room (Nat.le_of_ble_eq_true rfl)) dX2_crookedWith_49 ⟨hC.1, hC.2⟩)) (fun r49 q49 => ?_)
        subst q49
        refine lv_istore (lv' := [(4, .int (nI (siz tl))), (3, .int (nI cN)), (2, .int (nI (siz (tr) + 1))), (0, .ref M.1), (1, .int (nI h))]) hx hb dX2_crookedWith_52 hl (by decide) rfl (fun ls hl => ?_)
        refine lv_iload_n hx hb dX2_crookedWith_54 rfl (lv_at hl 2 rfl) ?_
        refine lv_iload hx hb dX2_crookedWith_55 (lv_at hl 0 rfl) ?_
        refine vp_callSi (va_Run.run (va_runS (As := [.int (nI (siz (tr) + 1)), .int (nI (siz tl))]) (rest := []) ⟨hx, hb, hml, hown, hts⟩ (c_X2_isCrooked l (a := siz tr + 1) (b := siz tl) (by omega) (by omega)) (va_cwS 2 hts gX2_crookedWith_X2_isCrooked rfl rfl rfl (by decide +kernel) ⟨Nat.le_trans (Nat.le_of_ble_eq_true rfl) hR.1, Nat.le_trans (Nat.le_of_ble_eq_true rfl) hR.2⟩) ⟨PcT.blind, PcT.at⟩ rfl rfl hl.1 rfl (lv_room (Nat.le_of_ble_eq_true rfl)) dX2_crookedWith_57 ⟨hC.1, hC.2⟩)) (fun r57 q57 => ?_)
        subst q57
        refine lv_if_eq (tgt := 70) hx hb dX2_crookedWith_60 (by decide) (fun c60 => ?_) (fun c60 => ?_)
        · refine lv_iload_n hx hb dX2_crookedWith_70 rfl (lv_at hl 2 rfl) ?_
          refine lv_iconst (v := nI 1) hx hb dX2_crookedWith_71 (by decide) ?_
          refine lv_iload hx hb dX2_crookedWith_72 (lv_at hl 0 rfl) ?_
          refine lv_iadd hx hb dX2_crookedWith_74 ?_
          refine zr_eqi (nI_add 1 (siz tl)) ?_
          refine lv_iadd hx hb dX2_crookedWith_75 ?_
          refine zr_eqi (nI_add (siz (tr) + 1) (1 + (siz tl))) ?_
          refine lv_istore_n (lv' := [(2, .int (nI ((siz (tr) + 1) + (1 + (siz tl))))), (4, .int (nI (siz tl))), (3, .int (nI cN)), (0, .ref M.1), (1, .int (nI h))]) hx hb dX2_crookedWith_76 rfl hl (by decide) rfl (fun ls hl => ?_)
          refine lv_iinc (v := (nI cN) + (-1)) (lv' := [(3, .int ((nI cN) + (-1))), (2, .int (nI ((siz (tr) + 1) + (1 + (siz tl))))), (4, .int (nI (siz tl))), (0, .ref M.1), (1, .int (nI h))]) hx hb dX2_crookedWith_77 hl (k := 2) rfl rfl (by decide) rfl (fun ls hl => ?_)
          refine lv_goto (tgt := 9) hx hb dX2_crookedWith_80 (by decide) ?_
          have h9 : ¬ mvP T h a = true := by rw [hcrk]; exact b2i_eq c60
          rw [List.find?_cons_of_neg h9] at k69 k84
          exact ih (by omega) k69 k84 _ (lv_re (lv_sub hl [0, 1, 3, 4] rfl) (by rw [y2]; simp only [siz]; rw [show siz tl + siz tr + 1 + 1 = siz tr + 1 + (1 + siz tl) by omega]; rfl))
        · refine lv_aload_n hx hb dX2_crookedWith_63 rfl (lv_at hl 3 rfl) ?_
          refine va_get (D := D) (ci := 2) (v := .ref M.2.2.2.2.1) (C := RX2) (T := TX2) (N := 13) hx hb hts (by decide +kernel) hown hG.1 hP 0 mw_m rfl 9 (by decide) (hts (.fieldLink RX2 24 "LopsidedRanksModel" "way" "[I") (by decide +kernel)) (fun _ h9 => h9) rfl dX2_crookedWith_64 ?_
          refine lv_iload_n hx hb dX2_crookedWith_67 rfl (lv_at hl 1 rfl) ?_
          refine zr_iald hx hb hG.1 hP 4 2 mw_w rfl (k := cN) (by omega) (Nat.le_of_ble_eq_true rfl) dX2_crookedWith_68 ?_
          refine zr_eqi hwc ?_
          have h9 : mvP T h a = true := by rw [hcrk]; exact b2i_ne c60
          rw [List.find?_cons_of_pos h9] at k69
          exact k69 _
      · rw [nI_leI (by omega) (by omega)] at c21
        have hlt : h < a := by omega
        rw [if_pos hlt] at y3
        rw [y3] at hl
        have hcrk : mvP T h a = crk (siz tl + 1) (siz tr) := by simp only [mvP]; rw [y1]; simp only []; rw [if_pos hlt]
        have hl : lv_has ls 5 [(3, .int (nI cN)), (2, .int (nI (siz (tl) + 1))), (0, .ref M.1), (1, .int (nI h))] := hl
        refine lv_aload_n hx hb dX2_crookedWith_24 rfl (lv_at hl 2 rfl) ?_
        refine va_get (D := D) (ci := 2) (v := .ref M.2.2.2.1) (C := RX2) (T := TX2) (N := 13) hx hb hts (by decide +kernel) hown hG.1 hP 0 mw_m rfl 8 (by decide) (hts (.fieldLink RX2 21 "LopsidedRanksModel" "right" "[I") (by decide +kernel)) (fun _ h9 => h9) rfl dX2_crookedWith_25 ?_
        refine lv_aload_n hx hb dX2_crookedWith_28 rfl (lv_at hl 2 rfl) ?_
        refine va_get (D := D) (ci := 2) (v := .ref M.2.2.2.2.1) (C := RX2) (T := TX2) (N := 13) hx hb hts (by decide +kernel) hown hG.1 hP 0 mw_m rfl 9 (by decide) (hts (.fieldLink RX2 24 "LopsidedRanksModel" "way" "[I") (by decide +kernel)) (fun _ h9 => h9) rfl dX2_crookedWith_29 ?_
        refine lv_iload_n hx hb dX2_crookedWith_32 rfl (lv_at hl 0 rfl) ?_
        refine zr_iald hx hb hG.1 hP 4 2 mw_w rfl (k := cN) (by omega) (Nat.le_of_ble_eq_true rfl) dX2_crookedWith_33 ?_
        refine zr_eqi hwc ?_
        refine zr_iald hx hb hG.1 hP 3 2 mw_r rfl (k := a) (by omega) (Nat.le_of_ble_eq_true rfl) dX2_crookedWith_34 ?_
        refine lv_goto (tgt := 49) hx hb dX2_crookedWith_35 (by decide) ?_
        refine zr_eqi p2 ?_
        refine vp_callSi (va_Run.run (va_runV (As := [.int (enc (root tr))]) (rest := []) ⟨hx, hb, hml, hown, hts⟩ (c_X2_size l (t := tr) (d := 150) p4 (fun j hj => hin0 j (subT_sub (h := a) (by rw [y1, keys_in]; exact Or.inr (Or.inr hj)))) (by have := hgt_siz (T := tr); omega)) (cwV 1 hts gX2_crookedWith_X2_size rfl rfl rfl (by decide +kernel) ⟨Nat.le_trans (Nat.le_of_ble_eq_true rfl) hR.1, Nat.le_trans (Nat.le_of_ble_eq_true rfl) hR.2⟩) ⟨PcR.blind, va_recv hG.1 hP (ci := 2) (q0 := 0) rfl mw_m, PcR.at hP hG⟩ rfl rfl hl.1 rfl (lv_room (Nat.le_of_ble_eq_true rfl)) dX2_crookedWith_49 ⟨hC.1, hC.2⟩)) (fun r49 q49 => ?_)
        subst q49
        refine lv_istore (lv' := [(4, .int (nI (siz tr))), (3, .int (nI cN)), (2, .int (nI (siz (tl) + 1))), (0, .ref M.1), (1, .int (nI h))]) hx hb dX2_crookedWith_52 hl (by decide) rfl (fun ls hl => ?_)
        refine lv_iload_n hx hb dX2_crookedWith_54 rfl (lv_at hl 2 rfl) ?_
        refine lv_iload hx hb dX2_crookedWith_55 (lv_at hl 0 rfl) ?_
        refine vp_callSi (va_Run.run (va_runS (As := [.int (nI (siz (tl) + 1)), .int (nI (siz tr))]) (rest := []) ⟨hx, hb, hml, hown, hts⟩ (c_X2_isCrooked l (a := siz tl + 1) (b := siz tr) (by omega) (by omega)) (va_cwS 2 hts gX2_crookedWith_X2_isCrooked rfl rfl rfl (by decide +kernel) ⟨Nat.le_trans (Nat.le_of_ble_eq_true rfl) hR.1, Nat.le_trans (Nat.le_of_ble_eq_true rfl) hR.2⟩) ⟨PcT.blind, PcT.at⟩ rfl rfl hl.1 rfl (lv_room (Nat.le_of_ble_eq_true rfl)) dX2_crookedWith_57 ⟨hC.1, hC.2⟩)) (fun r57 q57 => ?_)
        subst q57
        refine lv_if_eq (tgt := 70) hx hb dX2_crookedWith_60 (by decide) (fun c60 => ?_) (fun c60 => ?_)
        · refine lv_iload_n hx hb dX2_crookedWith_70 rfl (lv_at hl 2 rfl) ?_
          refine lv_iconst (v := nI 1) hx hb dX2_crookedWith_71 (by decide) ?_
          refine lv_iload hx hb dX2_crookedWith_72 (lv_at hl 0 rfl) ?_
          refine lv_iadd hx hb dX2_crookedWith_74 ?_
          refine zr_eqi (nI_add 1 (siz tr)) ?_
          refine lv_iadd hx hb dX2_crookedWith_75 ?_
          refine zr_eqi (nI_add (siz (tl) + 1) (1 + (siz tr))) ?_
          refine lv_istore_n (lv' := [(2, .int (nI ((siz (tl) + 1) + (1 + (siz tr))))), (4, .int (nI (siz tr))), (3, .int (nI cN)), (0, .ref M.1), (1, .int (nI h))]) hx hb dX2_crookedWith_76 rfl hl (by decide) rfl (fun ls hl => ?_)
          refine lv_iinc (v := (nI cN) + (-1)) (lv' := [(3, .int ((nI cN) + (-1))), (2, .int (nI ((siz (tl) + 1) + (1 + (siz tr))))), (4, .int (nI (siz tr))), (0, .ref M.1), (1, .int (nI h))]) hx hb dX2_crookedWith_77 hl (k := 2) rfl rfl (by decide) rfl (fun ls hl => ?_)
          refine lv_goto (tgt := 9) hx hb dX2_crookedWith_80 (by decide) ?_
          have h9 : ¬ mvP T h a = true := by rw [hcrk]; exact b2i_eq c60
          rw [List.find?_cons_of_neg h9] at k69 k84
          exact ih (by omega) k69 k84 _ (lv_re (lv_sub hl [0, 1, 3, 4] rfl) (by rw [y2]; simp only [siz]; rw [show siz tl + siz tr + 1 + 1 = siz tl + 1 + (1 + siz tr) by omega]; rfl))
        · refine lv_aload_n hx hb dX2_crookedWith_63 rfl (lv_at hl 3 rfl) ?_
          refine va_get (D := D) (ci := 2) (v := .ref M.2.2.2.2.1) (C := RX2) (T := TX2) (N := 13) hx hb hts (by decide +kernel) hown hG.1 hP 0 mw_m rfl 9 (by decide) (hts (.fieldLink RX2 24 "LopsidedRanksModel" "way" "[I") (by decide +kernel)) (fun _ h9 => h9) rfl dX2_crookedWith_64 ?_
          refine lv_iload_n hx hb dX2_crookedWith_67 rfl (lv_at hl 1 rfl) ?_
          refine zr_iald hx hb hG.1 hP 4 2 mw_w rfl (k := cN) (by omega) (Nat.le_of_ble_eq_true rfl) dX2_crookedWith_68 ?_
          refine zr_eqi hwc ?_
          have h9 : mvP T h a = true := by rw [hcrk]; exact b2i_ne c60
          rw [List.find?_cons_of_pos h9] at k69
          exact k69 _
set_option maxHeartbeats 4000000 in
set_option maxRecDepth 100000 in
/-- crookedWith(h), for one who is not there -/
theorem c_X2_crookedWith (l : Launch) {D : va_G} {cA cZ cI : ClassId} {M : Nat × Nat × Nat × Nat × Nat × Nat} {th tp n mo ti dr ma : Int32} {isIn lf rt wy rw : Nat → Int32} {T : Tr} {h : Nat} (hhn : h < 1000) (hrep : RepM T isIn lf rt) (hm : h ∉ keysT T) (hw : ∀ j k, (anc h T)[j]? = some k → wy j = nI k) : Met l yX2_crookedWith wsX2_crookedWith ({ frames := 160, cells := 0, slots := 0, locals := 6400 } : Room) (PcR D (tysA cA cZ cI) (mw M cZ cI th tp n mo ti dr (nI ((anc h T).length)) ma isIn lf rt wy rw) [.ref M.1, .int (nI h)]) (vp_Si (fun r => r = enc ((anc h T).reverse.find? (mvP T h)))) 0 0 (fun _ => False) := by
  refine Met.ofW (cc := cX2_crookedWith) (maxL := 5) (ret := (some .int)) (by decide) rfl ?_
  intro p e s m args below meth c s₁ B hml hv
  obtain ⟨rfl, hP, hG⟩ := hv
  have hx := B.exec
  have hb := B.bytes
  have hr := B.returns
  have hts := atoms_spec (ws := wsX2_crookedWith) B.pre
  have hown : s.vm.findClass RX2 = some m.cls := findClass_of_methodNamed B.named
  have hlocks := B.notSynchronized
  have hl := lv_entry ([.ref M.1, .int (nI h)]) (n := 5) (Nat.le_of_ble_eq_true rfl)
  rw [lg_entry_eq]
  generalize (lg_sl ([.ref M.1, .int (nI h)]) ++ List.replicate (5 - (lg_sl ([.ref M.1, .int (nI h)])).length) Slot.unset).toArray = ls at hl ⊢
  have hl : lv_has ls 5 [(0, .ref M.1), (1, .int (nI h))] := hl
  refine lv_iconst (v := nI 1) hx hb dX2_crookedWith_0 (by decide) ?_
  refine lv_istore_n (lv' := [(2, .int (nI 1)), (0, .ref M.1), (1, .int (nI h))]) hx hb dX2_crookedWith_1 rfl hl (by decide) rfl (fun ls hl => ?_)
  refine lv_aload_n hx hb dX2_crookedWith_2 rfl (lv_at hl 1 rfl) ?_
  refine va_get (D := D) (ci := 2) (v := .int (nI ((anc h T).length))) (C := RX2) (T := TX2) (N := 13) hx hb hts (by decide +kernel) hown hG.1 hP 0 mw_m rfl 10 (by decide) (hts (.fieldLink RX2 33 "LopsidedRanksModel" "steps" "I") (by decide +kernel)) (fun _ h9 => h9) rfl dX2_crookedWith_3 ?_
  refine lv_iconst (v := nI 1) hx hb dX2_crookedWith_6 (by decide) ?_
  refine lv_isub hx hb dX2_crookedWith_7 ?_
  refine lv_istore_n (lv' := [(3, .int ((nI ((anc h T).length)) - (nI 1))), (2, .int (nI 1)), (0, .ref M.1), (1, .int (nI h))]) hx hb dX2_crookedWith_8 rfl hl (by decide) rfl (fun ls hl => ?_)
  refine L_X2_crookedWith hx hb hml hts hown hG hP ⟨Nat.le_of_ble_eq_true rfl, Nat.le_of_ble_eq_true rfl⟩ ⟨Nat.zero_le _, Nat.zero_le _⟩ hhn hrep hm hw (Nat.le_refl _) (fun ls => ?_) (fun ls => ?_) _ (lv_re hl (by rw [nI_pd, desc_end hm]; rfl))
  · exact W.iret (v := (enc (((anc h T).take (anc h T).length).reverse.find? (mvP T h)))) hx hb hr (fun t ht hW => ⟨_, rfl, by rw [List.take_length], ht⟩) (fun q hq => absurd hq List.not_mem_nil) dX2_crookedWith_69
  · exact W.iret (v := (enc (((anc h T).take (anc h T).length).reverse.find? (mvP T h)))) hx hb hr (fun t ht hW => ⟨_, rfl, by rw [List.take_length], ht⟩) (fun q hq => absurd hq List.not_mem_nil) dX2_crookedWith_84

