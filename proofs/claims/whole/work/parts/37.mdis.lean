/-! THE REFERENCE's calls: discharge -/
/-- who stands above the smallest one, a above the part -/
def mnp (a : Nat) : Tr → Nat
  | .leaf => a
  | .inner _ _ _ .leaf _ => a
  | .inner _ k _ (.inner s2 k2 v2 l2 r2) _ => mnp k (.inner s2 k2 v2 l2 r2)
theorem mnk_in : ∀ {t : Tr}, t ≠ .leaf → mnk t ∈ keysT t
  | .leaf, h => absurd rfl h
  | .inner s k v .leaf r, _ => (keys_in ..).mpr (Or.inr (Or.inl rfl))
  | .inner s k v (.inner s2 k2 v2 l2 r2) r, _ => (keys_in ..).mpr (Or.inl (mnk_in (t := .inner s2 k2 v2 l2 r2) (by intro q; cases q)))
theorem mnp_in : ∀ {t : Tr} {a : Nat}, mnp a t = a ∨ mnp a t ∈ keysT t
  | .leaf, a => Or.inl rfl
  | .inner s k v .leaf r, a => Or.inl rfl
  | .inner s k v (.inner s2 k2 v2 l2 r2) r, a => by
    rcases mnp_in (t := .inner s2 k2 v2 l2 r2) (a := k) with q | q
    · exact Or.inr ((keys_in ..).mpr (Or.inr (Or.inl q)))
    · exact Or.inr ((keys_in ..).mpr (Or.inl q))
theorem mnp_ne {s k : Nat} {v : Unit} {l r : Tr} {a : Nat} (hl : l ≠ .leaf) : mnp a (.inner s k v l r) = mnp k l ∧ mnp a (.inner s k v l r) ∈ keysT (.inner s k v l r) := by
  cases l with
  | leaf => exact absurd rfl hl
  | inner s2 k2 v2 l2 r2 =>
    refine ⟨rfl, ?_⟩
    show mnp k (.inner s2 k2 v2 l2 r2) ∈ _
    rcases mnp_in (t := .inner s2 k2 v2 l2 r2) (a := k) with q | q
    · rw [q]; exact (keys_in ..).mpr (Or.inr (Or.inl rfl))
    · exact (keys_in ..).mpr (Or.inl q)
/-- who hangs right of the smallest one -/
def mnr : Tr → Tr
  | .leaf => .leaf
  | .inner _ _ _ .leaf r => r
  | .inner _ _ _ (.inner s2 k2 v2 l2 r2) _ => mnr (.inner s2 k2 v2 l2 r2)
theorem mnM {lf rt lf' rt' : Nat → Int32} : ∀ {t : Tr} {a : Nat}, bst t → ShM lf rt t → t ≠ .leaf → lf (mnk t) = -1 ∧ rt (mnk t) = enc (root (mnr t)) ∧ (a ∉ keysT t → (∀ k, k ≠ mnp a t → k ≠ mnk t → lf' k = lf k ∧ rt' k = rt k) → (mnp a t ∈ keysT t → lf' (mnp a t) = enc (root (mnr t)) ∧ rt' (mnp a t) = rt (mnp a t)) → ShM lf' rt' (dmn t) ∧ (mnp a t ∈ keysT t → root (dmn t) = root t) ∧ (¬ mnp a t ∈ keysT t → dmn t = mnr t))
  | .leaf, _, _, _, h => absurd rfl h
  | .inner s k v .leaf r, a, hb, ⟨h1, h2, _, h4⟩, _ => by
    obtain ⟨-, b2, -, b4⟩ := bst_in.mp hb
    refine ⟨h1, h2, fun ha ho hp => ⟨?_, fun q => absurd q ha, fun _ => rfl⟩⟩
    exact ShM_cong (fun j hj => ho j (fun q => ha (by have q : j = a := q; rw [← q]; exact (keys_in ..).mpr (Or.inr (Or.inr hj)))) (fun q => by have := b4 j hj; have q : j = k := q; omega)) h4
  | .inner s k v (.inner s2 k2 v2 l2 r2) r, a, hb, ⟨h1, h2, h3, h4⟩, _ => by
    obtain ⟨b1, b2, b3, b4⟩ := bst_in.mp hb
    have hn : (.inner s2 k2 v2 l2 r2 : Tr) ≠ .leaf := by intro q; cases q
    obtain ⟨y1, y2, y3⟩ := mnM (a := k) (lf' := lf') (rt' := rt') b1 h3 hn
    have hm := b3 _ (mnk_in hn)
    refine ⟨y1, y2, fun ha ho hp => ?_⟩
    have hpk : mnp a (.inner s k v (.inner s2 k2 v2 l2 r2) r) = mnp k (.inner s2 k2 v2 l2 r2) := rfl
    have hpin := (mnp_ne (s := s) (k := k) (v := v) (r := r) (a := a) hn).2
    obtain ⟨p1, p2⟩ := hp hpin
    rw [hpk] at p1 p2
    have hkl : k ∉ keysT (.inner s2 k2 v2 l2 r2 : Tr) := fun q => by have := b3 k q; omega
    obtain ⟨z1, z2, z3⟩ := y3 hkl (fun j hj1 hj2 => ho j hj1 hj2) (fun _ => ⟨p1, p2⟩)
    refine ⟨⟨?_, ?_, z1, ?_⟩, fun _ => rfl, fun q => absurd hpin q⟩
    · rcases mnp_in (t := .inner s2 k2 v2 l2 r2) (a := k) with q | q
      · rw [q] at p1
        rw [p1, z3 (by rw [q]; exact hkl)]
        rfl
      · have q1 := b3 _ q
        rw [(ho k (fun w => by rw [hpk] at w; omega) (fun w => by have w : k = mnk (.inner s2 k2 v2 l2 r2) := w; omega)).1, h1, z2 q]
    · rcases mnp_in (t := .inner s2 k2 v2 l2 r2) (a := k) with q | q
      · rw [q] at p2
        exact p2.trans h2
      · have q1 := b3 _ q
        rw [(ho k (fun w => by rw [hpk] at w; omega) (fun w => by have w : k = mnk (.inner s2 k2 v2 l2 r2) := w; omega)).2, h2]
    · refine ShM_cong (fun j hj => ho j (fun q => ?_) (fun q => ?_)) h4
      · have h5 := b4 j hj
        rw [hpk] at q
        rcases mnp_in (t := .inner s2 k2 v2 l2 r2) (a := k) with w | w
        · omega
        · have := b3 _ w; omega
      · have h5 := b4 j hj
        have q : j = mnk (.inner s2 k2 v2 l2 r2) := q
        omega
set_option maxHeartbeats 4000000 in
set_option maxRecDepth 100000 in
theorem L_X2_next {D : va_G} {cA cZ cI : ClassId} {M : Nat × Nat × Nat × Nat × Nat × Nat} {th tp n mo ti dr st ma : Int32} {isIn lf rt wy rw : Nat → Int32} {p : Program} {l : Launch} {e : Env} {R : Room} {s : State} {m : MethodId} {args : Array Value} {below : List Frame} {meth : Method} {c : Code} {Q : State → Prop} {cells slots : Nat} {H : Heap} {locs : List Loc} (hx : p.tables.exec = Jvm.exec) (hb : c.code = cX2_next) (hml : c.maxLocals = 4) (hts : ∀ w ∈ wsX2_next, w.before args s = true) (hown : s.vm.findClass RX2 = some m.cls) (hG : GK D (tysA cA cZ cI) s) (hP : va_P D vwCl (mw M cZ cI th tp n mo ti dr st ma isIn lf rt wy rw) H) (hR : 0 ≤ R.frames ∧ 0 ≤ R.locals) (hC : cells ≤ R.cells ∧ slots ≤ R.slots) {h : Nat} : ∀ {t : Tr} {a : Nat}, t ≠ .leaf → ShM lf rt t → Low t → (∀ ls, lv_has ls 4 [(3, .int (nI (mnk t))), (2, .int (nI (mnp a t))), (0, .ref M.1), (1, .int (nI h))] → W p l e R s m args below meth c H locs cells slots Q (F0 m 31 ls [])) → ∀ ls, lv_has ls 4 [(3, .int (enc (root t))), (2, .int (nI a)), (0, .ref M.1), (1, .int (nI h))] → W p l e R s m args below meth c H locs cells slots Q (F0 m 9 ls []) := by
  intro t
  induction t with
  | leaf => intro a hn; exact absurd rfl hn
  | inner sz k v tl tr ihl ihr =>
    intro a hn hs hlo kk ls hl
    have hk := hlo.k
    obtain ⟨h1, h2, h3, h4⟩ := hs
    have hl : lv_has ls 4 [(3, .int (nI k)), (2, .int (nI a)), (0, .ref M.1), (1, .int (nI h))] := hl
    cases tl with
    | leaf =>
      refine lv_aload_n hx hb dX2_next_9 rfl (lv_at hl 2 rfl) ?_
      refine va_get (D := D) (ci := 2) (v := .ref M.2.2.1) (C := RX2) (T := TX2) (N := 13) hx hb hts (by decide +kernel) hown hG.1 hP 0 mw_m rfl 7 (by decide) (hts (.fieldLink RX2 17 "LopsidedRanksModel" "left" "[I") (by decide +kernel)) (fun _ h9 => h9) rfl dX2_next_10 ?_
      refine lv_iload_n hx hb dX2_next_13 rfl (lv_at hl 0 rfl) ?_
      refine zr_iald hx hb hG.1 hP 2 2 mw_l rfl (k := k) (by omega) (Nat.le_of_ble_eq_true rfl) dX2_next_14 ?_
      refine zr_eqi h1 ?_
      refine lv_iconst (v := (-1)) hx hb dX2_next_15 (by decide) ?_
      refine lv_icmp_eq (tgt := 31) hx hb dX2_next_16 (by decide) (fun c16 => ?_) (fun c16 => ?_)
      · exact kk _ hl
      · exact absurd rfl c16
    | inner s2 k2 v2 l2 r2 =>
      have hk2 := hlo.l.k
      refine lv_aload_n hx hb dX2_next_9 rfl (lv_at hl 2 rfl) ?_
      refine va_get (D := D) (ci := 2) (v := .ref M.2.2.1) (C := RX2) (T := TX2) (N := 13) hx hb hts (by decide +kernel) hown hG.1 hP 0 mw_m rfl 7 (by decide) (hts (.fieldLink RX2 17 "LopsidedRanksModel" "left" "[I") (by decide +kernel)) (fun _ h9 => h9) rfl dX2_next_10 ?_
      refine lv_iload_n hx hb dX2_next_13 rfl (lv_at hl 0 rfl) ?_
      refine zr_iald hx hb hG.1 hP 2 2 mw_l rfl (k := k) (by omega) (Nat.le_of_ble_eq_true rfl) dX2_next_14 ?_
      refine zr_eqi h1 ?_
      refine lv_iconst (v := (-1)) hx hb dX2_next_15 (by decide) ?_
      refine lv_icmp_eq (tgt := 31) hx hb dX2_next_16 (by decide) (fun c16 => ?_) (fun c16 => ?_)
      · exact absurd c16 (nI_m1 (by omega))
      · refine lv_iload_n hx hb dX2_next_19 rfl (lv_at hl 0 rfl) ?_
        refine lv_istore_n (lv' := [(2, .int (nI k)), (3, .int (nI k)), (0, .ref M.1), (1, .int (nI h))]) hx hb dX2_next_20 rfl hl (by decide) rfl (fun ls hl => ?_)
        refine lv_aload_n hx hb dX2_next_21 rfl (lv_at hl 2 rfl) ?_
        refine va_get (D := D) (ci := 2) (v := .ref M.2.2.1) (C := RX2) (T := TX2) (N := 13) hx hb hts (by decide +kernel) hown hG.1 hP 0 mw_m rfl 7 (by decide) (hts (.fieldLink RX2 17 "LopsidedRanksModel" "left" "[I") (by decide +kernel)) (fun _ h9 => h9) rfl dX2_next_22 ?_
        refine lv_iload_n hx hb dX2_next_25 rfl (lv_at hl 1 rfl) ?_
        refine zr_iald hx hb hG.1 hP 2 2 mw_l rfl (k := k) (by omega) (Nat.le_of_ble_eq_true rfl) dX2_next_26 ?_
        refine zr_eqi h1 ?_
        refine lv_istore_n (lv' := [(3, .int (nI k2)), (2, .int (nI k)), (0, .ref M.1), (1, .int (nI h))]) hx hb dX2_next_27 rfl hl (by decide) rfl (fun ls hl => ?_)
        refine lv_goto (tgt := 9) hx hb dX2_next_28 (by decide) ?_
        exact ihl (a := k) (by intro q; cases q) h3 hlo.l kk _ hl
theorem mnp_gt {s k s2 k2 : Nat} {v v2 : Unit} {l2 r2 r : Tr} {h : Nat} (hb : bst (.inner s k v (.inner s2 k2 v2 l2 r2) r)) : mnp h (.inner s k v (.inner s2 k2 v2 l2 r2) r) ≠ mnk (.inner s k v (.inner s2 k2 v2 l2 r2) r) := by
  show mnp k (.inner s2 k2 v2 l2 r2) ≠ mnk (.inner s2 k2 v2 l2 r2)
  obtain ⟨b1, b2, b3, b4⟩ := bst_in.mp hb
  generalize ht : (.inner s2 k2 v2 l2 r2 : Tr) = t at b1 b3
  have hn : t ≠ .leaf := by rw [← ht]; intro q; cases q
  clear ht hb
  suffices ∀ {t : Tr} {k : Nat}, t ≠ .leaf → bst t → (∀ j ∈ keysT t, j < k) → mnk t < mnp k t by
    have := this hn b1 b3
    omega
  clear hn b1 b3
  intro t
  induction t with
  | leaf => intro k q; exact absurd rfl q
  | inner s1 k1 v1 l1 r1 ihl ihr =>
    intro k _ hb hk
    obtain ⟨b1, b2, b3, b4⟩ := bst_in.mp hb
    cases l1 with
    | leaf => exact hk k1 ((keys_in ..).mpr (Or.inr (Or.inl rfl)))
    | inner s3 k3 v3 l3 r3 => exact ihl (by intro q; cases q) b1 b3
set_option maxHeartbeats 4000000 in
set_option maxRecDepth 100000 in
/-- next(h) -/
theorem c_X2_next (l : Launch) {D : va_G} {cA cZ cI : ClassId} {M : Nat × Nat × Nat × Nat × Nat × Nat} {th tp n mo ti dr st ma : Int32} {isIn lf rt wy rw : Nat → Int32} {A : Nat → Prop} {sz h : Nat} {v : Unit} {tl tr : Tr} (hbs : bst (.inner sz h v tl tr)) (hlo : Low (.inner sz h v tl tr)) (hnr : tr ≠ .leaf) (h1 : lf h = enc (root tl)) (h2 : rt h = enc (root tr)) (h3 : ShM lf rt tl) (h4 : ShM lf rt tr) : Met l yX2_next wsX2_next ({ frames := 0, cells := 0, slots := 0, locals := 0 } : Room) (PcM D (tysA cA cZ cI) A (mw M cZ cI th tp n mo ti dr st ma isIn lf rt wy rw) [.ref M.1, .int (nI h)]) (va_Qi (S := (Nat → Int32) × (Nat → Int32)) (fun r u => r = nI (mnk tr) ∧ ShM u.1 u.2 (nd_ tl (mnk tr) (dmn tr)) ∧ ∀ k, k ∉ keysT tr → u.1 k = lf k ∧ u.2 k = rt k) (fun u => BM D (tysA cA cZ cI) A (mw M cZ cI th tp n mo ti dr st ma isIn u.1 u.2 wy rw)) A) 0 0 A := by
  refine Met.ofW (cc := cX2_next) (maxL := 4) (ret := (some .int)) (by decide) rfl ?_
  intro p e s m args below meth c s₁ B hml hv
  obtain ⟨rfl, hA, hP, hG, hD⟩ := hv
  have hml9 := hml
  have hx := B.exec
  have hb := B.bytes
  have hr := B.returns
  have hts := atoms_spec (ws := wsX2_next) B.pre
  have hown : s.vm.findClass RX2 = some m.cls := findClass_of_methodNamed B.named
  have hlocks := B.notSynchronized
  have hl := lv_entry ([.ref M.1, .int (nI h)]) (n := 4) (Nat.le_of_ble_eq_true rfl)
  rw [lg_entry_eq]
  generalize (lg_sl ([.ref M.1, .int (nI h)]) ++ List.replicate (4 - (lg_sl ([.ref M.1, .int (nI h)])).length) Slot.unset).toArray = ls at hl ⊢
  have hl : lv_has ls 4 [(0, .ref M.1), (1, .int (nI h))] := hl
  have hS : va_S A s.heap s.heap [] := va_S.rf
  obtain ⟨b1, b2, b3, b4⟩ := bst_in.mp hbs
  have hh := hlo.k
  have hmi := mnk_in hnr
  have hml := b4 _ hmi
  have hmn := hlo.r _ hmi
  refine lv_iload_n hx hb dX2_next_0 rfl (lv_at hl 1 rfl) ?_
  refine lv_istore_n (lv' := [(2, .int (nI h)), (0, .ref M.1), (1, .int (nI h))]) hx hb dX2_next_1 rfl hl (by decide) rfl (fun ls hl => ?_)
  refine lv_aload_n hx hb dX2_next_2 rfl (lv_at hl 1 rfl) ?_
  refine va_get (D := D) (ci := 2) (v := .ref M.2.2.2.1) (C := RX2) (T := TX2) (N := 13) hx hb hts (by decide +kernel) hown hG.1 hP 0 mw_m rfl 8 (by decide) (hts (.fieldLink RX2 21 "LopsidedRanksModel" "right" "[I") (by decide +kernel)) (fun _ h9 => h9) rfl dX2_next_3 ?_
  refine lv_iload_n hx hb dX2_next_6 rfl (lv_at hl 2 rfl) ?_
  refine zr_iald hx hb hG.1 hP 3 2 mw_r rfl (k := h) (by omega) (Nat.le_of_ble_eq_true rfl) dX2_next_7 ?_
  refine zr_eqi h2 ?_
  refine lv_istore_n (lv' := [(3, .int (enc (root tr))), (2, .int (nI h)), (0, .ref M.1), (1, .int (nI h))]) hx hb dX2_next_8 rfl hl (by decide) rfl (fun ls hl => ?_)
  refine L_X2_next hx hb hml9 hts hown hG hP ⟨Nat.le_of_ble_eq_true rfl, Nat.le_of_ble_eq_true rfl⟩ ⟨Nat.zero_le _, Nat.zero_le _⟩ (t := tr) (a := h) hnr h4 hlo.r (fun ls hl => ?_) _ hl
  obtain ⟨y1, y2, -⟩ := mnM (a := h) (lf' := lf) (rt' := rt) b2 h4 hnr
  have hpi := mnp_in (t := tr) (a := h)
  have hpn : mnp h tr < 1000 := by
    rcases hpi with q | q
    · rw [q]; exact hh
    · exact hlo.r _ q
  have hhr : h ∉ keysT tr := fun q => by have := b4 h q; omega
  refine lv_iload_n hx hb dX2_next_31 rfl (lv_at hl 1 rfl) ?_
  refine lv_iload_n hx hb dX2_next_32 rfl (lv_at hl 3 rfl) ?_
  refine lv_icmp_eq (tgt := 60) hx hb dX2_next_33 (by decide) (fun c33 => ?_) (fun c33 => ?_)
  · rw [nI_eq (by omega) (by omega)] at c33
    refine lv_aload_n hx hb dX2_next_60 rfl (lv_at hl 2 rfl) ?_
    refine va_get (D := D) (ci := 2) (v := .ref M.2.2.1) (C := RX2) (T := TX2) (N := 13) hx hb hts (by decide +kernel) hown hG.1 hP 0 mw_m rfl 7 (by decide) (hts (.fieldLink RX2 17 "LopsidedRanksModel" "left" "[I") (by decide +kernel)) (fun _ h9 => h9) rfl dX2_next_61 ?_
    refine lv_iload_n hx hb dX2_next_64 rfl (lv_at hl 0 rfl) ?_
    refine lv_aload_n hx hb dX2_next_65 rfl (lv_at hl 2 rfl) ?_
    refine va_get (D := D) (ci := 2) (v := .ref M.2.2.1) (C := RX2) (T := TX2) (N := 13) hx hb hts (by decide +kernel) hown hG.1 hP 0 mw_m rfl 7 (by decide) (hts (.fieldLink RX2 17 "LopsidedRanksModel" "left" "[I") (by decide +kernel)) (fun _ h9 => h9) rfl dX2_next_66 ?_
    refine lv_iload_n hx hb dX2_next_69 rfl (lv_at hl 3 rfl) ?_
    refine zr_iald hx hb hG.1 hP 2 2 mw_l rfl (k := h) (by omega) (Nat.le_of_ble_eq_true rfl) dX2_next_70 ?_
    refine zr_iast hx hb hG.1 hP hD hS 2 2 mw_l rfl (k := mnk tr) (by omega) (Nat.le_of_ble_eq_true rfl) dX2_next_71 (fun H locs hP hD hS => ?_)
    have hP : va_P D vwCl (mw M cZ cI th tp n mo ti dr st ma isIn (upd lf (mnk tr) (lf h)) rt wy rw) H := hP
    have hD : va_D A (mw M cZ cI th tp n mo ti dr st ma isIn (upd lf (mnk tr) (lf h)) rt wy rw) := hD
    refine lv_iload_n hx hb dX2_next_72 rfl (lv_at hl 0 rfl) ?_
    have hpo : mnp h tr ∉ keysT tr := by rw [c33]; exact hhr
    obtain ⟨-, -, y3⟩ := mnM (a := h) (lf' := upd lf (mnk tr) (lf h)) (rt' := rt) b2 h4 hnr
    obtain ⟨z1, z2, z3⟩ := y3 hhr (fun k q1 q2 => ⟨upd_n _ _ q2, rfl⟩) (fun q => absurd q hpo)
    have hfs : ShM (upd lf (mnk tr) (lf h)) (rt) (nd_ tl (mnk tr) (dmn tr)) := ⟨by rw [upd_s]; exact h1, by rw [z3 hpo]; exact y2, ShM_cong (fun k hk => ⟨upd_n _ _ (by have := b3 k hk; omega), rfl⟩) h3, z1⟩
    have hfa : ∀ k, k ∉ keysT tr → (upd lf (mnk tr) (lf h)) k = lf k ∧ (rt) k = rt k := fun k hk => by
      have q1 : k ≠ mnk tr := fun q => hk (by rw [q]; exact hmi)
      exact ⟨upd_n _ _ q1, rfl⟩
    exact W.iret (v := (nI (mnk tr))) hx hb hr (fun t ht hW => ⟨⟨_, (upd lf (mnk tr) (lf h), rt), rfl, ⟨rfl, hfs, hfa⟩, by rw [ht]; exact hP, hG.moved hW, hD⟩, hS.F ht⟩) hS.2.2 dX2_next_73
  · rw [nI_eq (by omega) (by omega)] at c33
    refine lv_aload_n hx hb dX2_next_36 rfl (lv_at hl 2 rfl) ?_
    refine va_get (D := D) (ci := 2) (v := .ref M.2.2.1) (C := RX2) (T := TX2) (N := 13) hx hb hts (by decide +kernel) hown hG.1 hP 0 mw_m rfl 7 (by decide) (hts (.fieldLink RX2 17 "LopsidedRanksModel" "left" "[I") (by decide +kernel)) (fun _ h9 => h9) rfl dX2_next_37 ?_
    refine lv_iload_n hx hb dX2_next_40 rfl (lv_at hl 1 rfl) ?_
    refine lv_aload_n hx hb dX2_next_41 rfl (lv_at hl 2 rfl) ?_
    refine va_get (D := D) (ci := 2) (v := .ref M.2.2.2.1) (C := RX2) (T := TX2) (N := 13) hx hb hts (by decide +kernel) hown hG.1 hP 0 mw_m rfl 8 (by decide) (hts (.fieldLink RX2 21 "LopsidedRanksModel" "right" "[I") (by decide +kernel)) (fun _ h9 => h9) rfl dX2_next_42 ?_
    refine lv_iload_n hx hb dX2_next_45 rfl (lv_at hl 0 rfl) ?_
    refine zr_iald hx hb hG.1 hP 3 2 mw_r rfl (k := mnk tr) (by omega) (Nat.le_of_ble_eq_true rfl) dX2_next_46 ?_
    refine zr_iast hx hb hG.1 hP hD hS 2 2 mw_l rfl (k := mnp h tr) (by omega) (Nat.le_of_ble_eq_true rfl) dX2_next_47 (fun H locs hP hD hS => ?_)
    have hP : va_P D vwCl (mw M cZ cI th tp n mo ti dr st ma isIn (upd lf (mnp h tr) (rt (mnk tr))) rt wy rw) H := hP
    have hD : va_D A (mw M cZ cI th tp n mo ti dr st ma isIn (upd lf (mnp h tr) (rt (mnk tr))) rt wy rw) := hD
    refine lv_aload_n hx hb dX2_next_48 rfl (lv_at hl 2 rfl) ?_
    refine va_get (D := D) (ci := 2) (v := .ref M.2.2.2.1) (C := RX2) (T := TX2) (N := 13) hx hb hts (by decide +kernel) hown hG.1 hP 0 mw_m rfl 8 (by decide) (hts (.fieldLink RX2 21 "LopsidedRanksModel" "right" "[I") (by decide +kernel)) (fun _ h9 => h9) rfl dX2_next_49 ?_
    refine lv_iload_n hx hb dX2_next_52 rfl (lv_at hl 0 rfl) ?_
    refine lv_aload_n hx hb dX2_next_53 rfl (lv_at hl 2 rfl) ?_
    refine va_get (D := D) (ci := 2) (v := .ref M.2.2.2.1) (C := RX2) (T := TX2) (N := 13) hx hb hts (by decide +kernel) hown hG.1 hP 0 mw_m rfl 8 (by decide) (hts (.fieldLink RX2 21 "LopsidedRanksModel" "right" "[I") (by decide +kernel)) (fun _ h9 => h9) rfl dX2_next_54 ?_
    refine lv_iload_n hx hb dX2_next_57 rfl (lv_at hl 3 rfl) ?_
    refine zr_iald hx hb hG.1 hP 3 2 mw_r rfl (k := h) (by omega) (Nat.le_of_ble_eq_true rfl) dX2_next_58 ?_
    refine zr_iast hx hb hG.1 hP hD hS 3 2 mw_r rfl (k := mnk tr) (by omega) (Nat.le_of_ble_eq_true rfl) dX2_next_59 (fun H locs hP hD hS => ?_)
    have hP : va_P D vwCl (mw M cZ cI th tp n mo ti dr st ma isIn (upd lf (mnp h tr) (rt (mnk tr))) (upd rt (mnk tr) (rt h)) wy rw) H := hP
    have hD : va_D A (mw M cZ cI th tp n mo ti dr st ma isIn (upd lf (mnp h tr) (rt (mnk tr))) (upd rt (mnk tr) (rt h)) wy rw) := hD
    refine lv_aload_n hx hb dX2_next_60 rfl (lv_at hl 2 rfl) ?_
    refine va_get (D := D) (ci := 2) (v := .ref M.2.2.1) (C := RX2) (T := TX2) (N := 13) hx hb hts (by decide +kernel) hown hG.1 hP 0 mw_m rfl 7 (by decide) (hts (.fieldLink RX2 17 "LopsidedRanksModel" "left" "[I") (by decide +kernel)) (fun _ h9 => h9) rfl dX2_next_61 ?_
    refine lv_iload_n hx hb dX2_next_64 rfl (lv_at hl 0 rfl) ?_
    refine lv_aload_n hx hb dX2_next_65 rfl (lv_at hl 2 rfl) ?_
    refine va_get (D := D) (ci := 2) (v := .ref M.2.2.1) (C := RX2) (T := TX2) (N := 13) hx hb hts (by decide +kernel) hown hG.1 hP 0 mw_m rfl 7 (by decide) (hts (.fieldLink RX2 17 "LopsidedRanksModel" "left" "[I") (by decide +kernel)) (fun _ h9 => h9) rfl dX2_next_66 ?_
    refine lv_iload_n hx hb dX2_next_69 rfl (lv_at hl 3 rfl) ?_
    refine zr_iald hx hb hG.1 hP 2 2 mw_l rfl (k := h) (by omega) (Nat.le_of_ble_eq_true rfl) dX2_next_70 ?_
    refine zr_iast hx hb hG.1 hP hD hS 2 2 mw_l rfl (k := mnk tr) (by omega) (Nat.le_of_ble_eq_true rfl) dX2_next_71 (fun H locs hP hD hS => ?_)
    have hP : va_P D vwCl (mw M cZ cI th tp n mo ti dr st ma isIn (upd (upd lf (mnp h tr) (rt (mnk tr))) (mnk tr) ((upd lf (mnp h tr) (rt (mnk tr))) h)) (upd rt (mnk tr) (rt h)) wy rw) H := hP
    have hD : va_D A (mw M cZ cI th tp n mo ti dr st ma isIn (upd (upd lf (mnp h tr) (rt (mnk tr))) (mnk tr) ((upd lf (mnp h tr) (rt (mnk tr))) h)) (upd rt (mnk tr) (rt h)) wy rw) := hD
    refine lv_iload_n hx hb dX2_next_72 rfl (lv_at hl 0 rfl) ?_
    have hpo : mnp h tr ∈ keysT tr := hpi.resolve_left c33
    have hph : h ≠ mnp h tr := fun q => c33 q.symm
    have hpm : mnp h tr ≠ mnk tr := by
      cases tr with
      | leaf => exact absurd rfl hnr
      | inner s k v l r =>
        cases l with
        | leaf => exact absurd rfl c33
        | inner s2 k2 v2 l2 r2 => exact mnp_gt b2
    obtain ⟨-, -, y3⟩ := mnM (a := h) (lf' := upd (upd lf (mnp h tr) (rt (mnk tr))) (mnk tr) ((upd lf (mnp h tr) (rt (mnk tr))) h)) (rt' := upd rt (mnk tr) (rt h)) b2 h4 hnr
    obtain ⟨z1, z2, z3⟩ := y3 hhr (fun k q1 q2 => ⟨by rw [upd_n _ _ q2, upd_n _ _ q1], upd_n _ _ q2⟩) (fun _ => ⟨by rw [upd_n _ _ hpm, upd_s]; exact y2, upd_n _ _ hpm⟩)
    have hfs : ShM (upd (upd lf (mnp h tr) (rt (mnk tr))) (mnk tr) ((upd lf (mnp h tr) (rt (mnk tr))) h)) (upd rt (mnk tr) (rt h)) (nd_ tl (mnk tr) (dmn tr)) := ⟨by rw [upd_s, upd_n _ _ hph]; exact h1, by rw [upd_s, z2 hpo]; exact h2, ShM_cong (fun k hk => ⟨by rw [upd_n _ _ (by have := b3 k hk; omega), upd_n _ _ (by have := b3 k hk; have := b4 _ hpo; omega)], upd_n _ _ (by have := b3 k hk; omega)⟩) h3, z1⟩
    have hfa : ∀ k, k ∉ keysT tr → (upd (upd lf (mnp h tr) (rt (mnk tr))) (mnk tr) ((upd lf (mnp h tr) (rt (mnk tr))) h)) k = lf k ∧ (upd rt (mnk tr) (rt h)) k = rt k := fun k hk => by
      have q1 : k ≠ mnk tr := fun q => hk (by rw [q]; exact hmi)
      have q2 : k ≠ mnp h tr := fun q => hk (by rw [q]; exact hpo)
      exact ⟨by rw [upd_n _ _ q1, upd_n _ _ q2], upd_n _ _ q1⟩
    exact W.iret (v := (nI (mnk tr))) hx hb hr (fun t ht hW => ⟨⟨_, (upd (upd lf (mnp h tr) (rt (mnk tr))) (mnk tr) ((upd lf (mnp h tr) (rt (mnk tr))) h), upd rt (mnk tr) (rt h)), rfl, ⟨rfl, hfs, hfa⟩, by rw [ht]; exact hP, hG.moved hW, hD⟩, hS.F ht⟩) hS.2.2 dX2_next_73

set_option maxHeartbeats 4000000 in
set_option maxRecDepth 100000 in
/-- discharge -/
theorem c_X2_discharge (l : Launch) {D : va_G} {cA cZ cI : ClassId} {M : Nat × Nat × Nat × Nat × Nat × Nat} {th mo ti dr st ma : Int32} {isIn lf rt wy rw : Nat → Int32} {A : Nat → Prop} {T : Tr} {x0 : Int32} (hrep : RepM T isIn lf rt) : Met l yX2_discharge wsX2_discharge ({ frames := 170, cells := 0, slots := 0, locals := 6800 } : Room) (PcM D (tysA cA cZ cI) A (mw M cZ cI th (enc (root T)) (nI (siz T)) mo ti dr st ma isIn lf rt wy rw) [.ref M.1, .int x0]) (va_Qi (S := ME) (fun r u => ((kD x0 T) = 0 → r = b2i (disB (kx x0) (T, mo, ti, dr))) ∧ RepM (disZ x0 (T, mo, ti, dr)).1 u.2.2.1 u.2.2.2.1 u.2.2.2.2.1) (fun u => BM D (tysA cA cZ cI) A (mw M cZ cI (nI (kD x0 T)) (enc (root (disZ x0 (T, mo, ti, dr)).1)) (nI (siz (disZ x0 (T, mo, ti, dr)).1)) ((disZ x0 (T, mo, ti, dr)).2.1) ((disZ x0 (T, mo, ti, dr)).2.2.1) ((disZ x0 (T, mo, ti, dr)).2.2.2) u.1 u.2.1 u.2.2.1 u.2.2.2.1 u.2.2.2.2.1 u.2.2.2.2.2.1 u.2.2.2.2.2.2)) A) 0 0 A := by
  refine Met.ofW (cc := cX2_discharge) (maxL := 4) (ret := (some .boolean)) (by decide) rfl ?_
  intro p e s m args below meth c s₁ B hml hv
  obtain ⟨rfl, hA, hP, hG, hD⟩ := hv
  have hx := B.exec
  have hb := B.bytes
  have hr := B.returns
  have hts := atoms_spec (ws := wsX2_discharge) B.pre
  have hown : s.vm.findClass RX2 = some m.cls := findClass_of_methodNamed B.named
  have hlocks := B.notSynchronized
  have hl := lv_entry ([.ref M.1, .int x0]) (n := 4) (Nat.le_of_ble_eq_true rfl)
  rw [lg_entry_eq]
  generalize (lg_sl ([.ref M.1, .int x0]) ++ List.replicate (4 - (lg_sl ([.ref M.1, .int x0])).length) Slot.unset).toArray = ls at hl ⊢
  have hl : lv_has ls 4 [(0, .ref M.1), (1, .int x0)] := hl
  have hS : va_S A s.heap s.heap [] := va_S.rf
  obtain ⟨hb0, hin0, hsz, hs, hi⟩ := id hrep
  have hgs := hgt_siz (T := T)
  refine lv_aload_n hx hb dX2_discharge_0 rfl (lv_at hl 0 rfl) ?_
  refine lv_iload_n hx hb dX2_discharge_1 rfl (lv_at hl 1 rfl) ?_
  refine vp_callSi (va_Run.run (va_runS (As := [.int x0]) (rest := [.ref M.1]) ⟨hx, hb, hml, hown, hts⟩ (c_X2_isHeight l) (va_cwS 1 hts gX2_discharge_X2_isHeight rfl rfl rfl (by decide +kernel) ⟨Nat.le_of_ble_eq_true rfl, Nat.le_of_ble_eq_true rfl⟩) ⟨PcT.blind, PcT.at⟩ rfl rfl hl.1 rfl (lv_room (Nat.le_of_ble_eq_true rfl)) dX2_discharge_2 ⟨Nat.zero_le _, Nat.zero_le _⟩)) (fun r2 q2 => ?_)
  subst q2
  refine lv_if_ne (tgt := 12) hx hb dX2_discharge_5 (by decide) (fun c5 => ?_) (fun c5 => ?_)
  · obtain ⟨h0, hh0, rfl⟩ := hiB_not (b2i_ne c5)
    have hl : lv_has ls 4 [(0, .ref M.1), (1, .int (nI h0))] := hl
    refine lv_aload_n hx hb dX2_discharge_12 rfl (lv_at hl 0 rfl) ?_
    refine va_get (D := D) (ci := 2) (v := .ref M.2.1) (C := RX2) (T := TX2) (N := 13) hx hb hts (by decide +kernel) hown hG.1 hP 0 mw_m rfl 6 (by decide) (hts (.fieldLink RX2 13 "LopsidedRanksModel" "isIn" "[Z") (by decide +kernel)) (fun _ h9 => h9) rfl dX2_discharge_13 ?_
    refine lv_iload_n hx hb dX2_discharge_16 rfl (lv_at hl 1 rfl) ?_
    refine zr_zald hx hb hG.1 hP 1 1 mw_i rfl (k := h0) (by omega) (Nat.le_of_ble_eq_true rfl) dX2_discharge_17 ?_
    refine zr_eqi (hi h0 hh0) ?_
    refine lv_if_eq (tgt := 25) hx hb dX2_discharge_18 (by decide) (fun c18 => ?_) (fun c18 => ?_)
    · have hm : ¬ h0 ∈ keysT T := fun q => b2i_eq c18 (decide_eq_true q)
      refine lv_iconst (v := nI 2) hx hb dX2_discharge_25 (by decide) ?_
      refine va_put (D := D) (ci := 2) (v := .int (nI 2)) (ty := .int) (C := RX2) (T := TX2) (N := 13) hx hb hts (by decide +kernel) tyX2 tyX2_ok nmX2 hown hG.1 hP hD hS 0 mw_m rfl 0 (by decide) (hts (.fieldLink RX2 30 "LopsidedRanksModel" "thrown" "I") (by decide +kernel)) (fun _ h9 => h9) rfl (by decide +kernel) rfl rfl (Nat.le_of_ble_eq_true rfl) dX2_discharge_26 (fun H locs hP hD hS => ?_)
      have hP : va_P D vwCl (mw M cZ cI ((nI 2)) (enc (root T)) (nI (siz T)) mo ti dr st ma isIn lf rt wy rw) H := hP
      have hD : va_D A (mw M cZ cI ((nI 2)) (enc (root T)) (nI (siz T)) mo ti dr st ma isIn lf rt wy rw) := hD
      refine lv_aload_n hx hb dX2_discharge_29 rfl (lv_at hl 0 rfl) ?_
      refine va_get (D := D) (ci := 2) (v := .int ((nI 2))) (C := RX2) (T := TX2) (N := 13) hx hb hts (by decide +kernel) hown hG.1 hP 0 mw_m rfl 0 (by decide) (hts (.fieldLink RX2 30 "LopsidedRanksModel" "thrown" "I") (by decide +kernel)) (fun _ h9 => h9) rfl dX2_discharge_30 ?_
      refine lv_if_eq (tgt := 38) hx hb dX2_discharge_33 (by decide) (fun c33 => ?_) (fun c33 => ?_)
      · replace c33 := (zr_eq0 (by omega)).mp c33
        exact absurd c33 (by decide)
      · replace c33 := (not_congr (zr_eq0 (by omega))).mp c33
        refine lv_iconst (v := nI 0) hx hb dX2_discharge_36 (by decide) ?_
        have eK : kD (nI h0) T = 2 := kD_2 hh0 hm
        exact W.zret (v := (nI 0)) hx hb hr rfl (fun t ht hW => ⟨⟨_, (st, ma, isIn, lf, rt, wy, rw), rfl, ⟨fun q => absurd (eK.symm.trans q) (by decide), by rw [show disZ (nI h0) (T, mo, ti, dr) = (T, mo, ti, dr) from if_neg (by show ¬ kD (nI h0) T = 0; rw [eK]; decide)]; exact hrep⟩, by rw [eK, show disZ (nI h0) (T, mo, ti, dr) = (T, mo, ti, dr) from if_neg (by show ¬ kD (nI h0) T = 0; rw [eK]; decide), ht]; exact hP, hG.moved hW, by rw [eK, show disZ (nI h0) (T, mo, ti, dr) = (T, mo, ti, dr) from if_neg (by show ¬ kD (nI h0) T = 0; rw [eK]; decide)]; exact hD⟩, hS.F ht⟩) hS.2.2 dX2_discharge_37
    · have hm : h0 ∈ keysT T := of_decide_eq_true (b2i_ne c18)
      refine lv_iconst (v := nI 0) hx hb dX2_discharge_21 (by decide) ?_
      refine lv_goto (tgt := 26) hx hb dX2_discharge_22 (by decide) ?_
      refine va_put (D := D) (ci := 2) (v := .int (nI 0)) (ty := .int) (C := RX2) (T := TX2) (N := 13) hx hb hts (by decide +kernel) tyX2 tyX2_ok nmX2 hown hG.1 hP hD hS 0 mw_m rfl 0 (by decide) (hts (.fieldLink RX2 30 "LopsidedRanksModel" "thrown" "I") (by decide +kernel)) (fun _ h9 => h9) rfl (by decide +kernel) rfl rfl (Nat.le_of_ble_eq_true rfl) dX2_discharge_26 (fun H locs hP hD hS => ?_)
      have hP : va_P D vwCl (mw M cZ cI ((nI 0)) (enc (root T)) (nI (siz T)) mo ti dr st ma isIn lf rt wy rw) H := hP
      have hD : va_D A (mw M cZ cI ((nI 0)) (enc (root T)) (nI (siz T)) mo ti dr st ma isIn lf rt wy rw) := hD
      refine lv_aload_n hx hb dX2_discharge_29 rfl (lv_at hl 0 rfl) ?_
      refine va_get (D := D) (ci := 2) (v := .int ((nI 0))) (C := RX2) (T := TX2) (N := 13) hx hb hts (by decide +kernel) hown hG.1 hP 0 mw_m rfl 0 (by decide) (hts (.fieldLink RX2 30 "LopsidedRanksModel" "thrown" "I") (by decide +kernel)) (fun _ h9 => h9) rfl dX2_discharge_30 ?_
      refine lv_if_eq (tgt := 38) hx hb dX2_discharge_33 (by decide) (fun c33 => ?_) (fun c33 => ?_)
      · replace c33 := (zr_eq0 (by omega)).mp c33
        obtain ⟨sz, v, tl, tr, esub, p1, p2, p3, p4⟩ := hrep.at hm
        have hbs := sub_bst (c := h0) hb0
        rw [esub] at hbs
        have hlo : Low (.inner sz h0 v tl tr) := fun j hj => hin0 j (subT_sub (h := h0) (by rw [esub]; exact hj))
        obtain ⟨db, dz, dm⟩ := del_bst hb0 esub
        refine lv_aload_n hx hb dX2_discharge_38 rfl (lv_at hl 0 rfl) ?_
        refine lv_iload_n hx hb dX2_discharge_39 rfl (lv_at hl 1 rfl) ?_
        refine va_callv (va_runV (As := [.int (nI h0)]) (rest := []) ⟨hx, hb, hml, hown, hts⟩ (c_X2_goTo l (T := T) hh0 hs hin0 (by omega)) (cwV 1 hts gX2_discharge_X2_goTo rfl rfl rfl (by decide +kernel) ⟨Nat.le_of_ble_eq_true rfl, Nat.le_of_ble_eq_true rfl⟩) ⟨PcM.blind, va_recv hG.1 hP (ci := 2) (q0 := 0) rfl mw_m, PcM.at (fun q h => hA q (Nat.le_trans hS.1 h)) hP hG hD⟩ rfl rfl hl.1 rfl (lv_room (Nat.le_of_ble_eq_true rfl)) dX2_discharge_40 ⟨Nat.zero_le _, Nat.zero_le _⟩) hS (fun q _ h => h) (fun q h => h) (fun wy9 t H locs ht hvm q40 hB hz1 hk1 hS => ?_)
        obtain ⟨hP, -, hD⟩ := hB
        rw [ht] at hP
        have hP : va_P D vwCl (mw M cZ cI ((nI 0)) (enc (root T)) (nI (siz T)) mo ti dr (nI ((wayT h0 T).length)) ma isIn lf rt wy9 rw) H := hP
        have hD : va_D A (mw M cZ cI ((nI 0)) (enc (root T)) (nI (siz T)) mo ti dr (nI ((wayT h0 T).length)) ma isIn lf rt wy9 rw) := hD
        obtain ⟨wl, wa, wb⟩ := way_above hb0 hm q40
        have hal := anc_len (h := h0) (T := T)
        refine lv_aload_n hx hb dX2_discharge_43 rfl (lv_at hl 0 rfl) ?_
        refine va_get (D := D) (ci := 2) (v := .int (nI ((wayT h0 T).length))) (C := RX2) (T := TX2) (N := 13) hx hb hts (by decide +kernel) hown hG.1 hP 0 mw_m rfl 10 (by decide) (hts (.fieldLink RX2 33 "LopsidedRanksModel" "steps" "I") (by decide +kernel)) (fun _ h9 => h9) rfl dX2_discharge_44 ?_
        refine lv_iconst (v := nI 1) hx hb dX2_discharge_47 (by decide) ?_
        refine lv_icmp_le (tgt := 65) hx hb dX2_discharge_48 (by decide) (fun c48 => ?_) (fun c48 => ?_)
        · rw [nI_leI (by omega) (by omega)] at c48
          refine lv_iconst (v := (-1)) hx hb dX2_discharge_65 (by decide) ?_
          refine zr_eqi (show _ = enc (parF h0 none T) from (wa (by omega)).symm) ?_
          refine lv_istore_n (lv' := [(2, .int (enc (parF h0 none T))), (0, .ref M.1), (1, .int (nI h0))]) hx hb dX2_discharge_66 rfl hl (by decide) rfl (fun ls hl => ?_)
          cases tl with
          | leaf =>
            have ejT : delT h0 T = rep h0 tr T := by unfold delT; rw [esub]; rfl
            refine lv_aload_n hx hb dX2_discharge_67 rfl (lv_at hl 1 rfl) ?_
            refine va_get (D := D) (ci := 2) (v := .ref M.2.2.1) (C := RX2) (T := TX2) (N := 13) hx hb hts (by decide +kernel) hown hG.1 hP 0 mw_m rfl 7 (by decide) (hts (.fieldLink RX2 17 "LopsidedRanksModel" "left" "[I") (by decide +kernel)) (fun _ h9 => h9) rfl dX2_discharge_68 ?_
            refine lv_iload_n hx hb dX2_discharge_71 rfl (lv_at hl 2 rfl) ?_
            refine zr_iald hx hb hG.1 hP 2 2 mw_l rfl (k := h0) (by omega) (Nat.le_of_ble_eq_true rfl) dX2_discharge_72 ?_
            refine zr_eqi p1 ?_
            refine lv_iconst (v := (-1)) hx hb dX2_discharge_73 (by decide) ?_
            refine lv_icmp_ne (tgt := 86) hx hb dX2_discharge_74 (by decide) (fun c74 => ?_) (fun c74 => ?_)
            · exact absurd rfl c74
            · refine lv_aload_n hx hb dX2_discharge_77 rfl (lv_at hl 1 rfl) ?_
              refine va_get (D := D) (ci := 2) (v := .ref M.2.2.2.1) (C := RX2) (T := TX2) (N := 13) hx hb hts (by decide +kernel) hown hG.1 hP 0 mw_m rfl 8 (by decide) (hts (.fieldLink RX2 21 "LopsidedRanksModel" "right" "[I") (by decide +kernel)) (fun _ h9 => h9) rfl dX2_discharge_78 ?_
              refine lv_iload_n hx hb dX2_discharge_81 rfl (lv_at hl 2 rfl) ?_
              refine zr_iald hx hb hG.1 hP 3 2 mw_r rfl (k := h0) (by omega) (Nat.le_of_ble_eq_true rfl) dX2_discharge_82 ?_
              refine zr_eqi p2 ?_
              refine lv_goto (tgt := 92) hx hb dX2_discharge_83 (by decide) ?_
              refine lv_istore_n (lv' := [(3, .int (enc (root tr))), (2, .int (enc (parF h0 none T))), (0, .ref M.1), (1, .int (nI h0))]) hx hb dX2_discharge_92 rfl hl (by decide) rfl (fun ls hl => ?_)
              refine lv_aload_n hx hb dX2_discharge_93 rfl (lv_at hl 2 rfl) ?_
              refine va_get (D := D) (ci := 2) (v := .ref M.2.2.1) (C := RX2) (T := TX2) (N := 13) hx hb hts (by decide +kernel) hown hG.1 hP 0 mw_m rfl 7 (by decide) (hts (.fieldLink RX2 17 "LopsidedRanksModel" "left" "[I") (by decide +kernel)) (fun _ h9 => h9) rfl dX2_discharge_94 ?_
              refine lv_iload_n hx hb dX2_discharge_97 rfl (lv_at hl 3 rfl) ?_
              refine zr_iald hx hb hG.1 hP 2 2 mw_l rfl (k := h0) (by omega) (Nat.le_of_ble_eq_true rfl) dX2_discharge_98 ?_
              refine zr_eqi p1 ?_
              refine lv_iconst (v := (-1)) hx hb dX2_discharge_99 (by decide) ?_
              refine lv_icmp_eq (tgt := 119) hx hb dX2_discharge_100 (by decide) (fun c100 => ?_) (fun c100 => ?_)
              · obtain ⟨kd1, kd2⟩ := keys_del hb0 esub
                have hjk : ∀ j ∈ keysT tr, j ∈ keysT (subT h0 T) ∧ j ≠ h0 := fun j hj => by
                  obtain ⟨b1, b2, b3, b4⟩ := bst_in.mp hbs
                  rw [esub]
                  exact ⟨(keys_in ..).mpr (Or.inr (Or.inr hj)), by have := b4 j hj; omega⟩
                obtain ⟨s1x, s2x⟩ := kl_sub (h := h0) hb0
                obtain ⟨z1, z2⟩ := hangM (t := tr) hb0 hs p4 (fun k _ _ => ⟨rfl, rfl⟩) (fun j hj => by
                  have q := (hjk j hj).1
                  exact ⟨fun z => by have := s1x j z j q; omega, fun z => by have := s2x j q j z; omega⟩)
                rw [← ejT] at z1 z2
                refine lv_aload_n hx hb dX2_discharge_119 rfl (lv_at hl 2 rfl) ?_
                refine lv_iload_n hx hb dX2_discharge_120 rfl (lv_at hl 1 rfl) ?_
                refine lv_iload_n hx hb dX2_discharge_121 rfl (lv_at hl 3 rfl) ?_
                refine lv_iload_n hx hb dX2_discharge_122 rfl (lv_at hl 0 rfl) ?_
                refine va_callv (va_runV (As := [.int (enc (parF h0 none T)), .int (nI h0), .int (enc (root tr))]) (rest := []) ⟨hx, hb, hml, hown, hts⟩ (c_X2_hang l (p0 := parF h0 none T) (v0 := enc (root tr)) hh0 (fun c e => hin0 c (parF_mem e))) (cwV 3 hts gX2_discharge_X2_hang rfl rfl rfl (by decide +kernel) ⟨Nat.le_of_ble_eq_true rfl, Nat.le_of_ble_eq_true rfl⟩) ⟨PcM.blind, va_recv hG.1 hP (ci := 2) (q0 := 0) rfl mw_m, PcM.at (fun q h => hA q (Nat.le_trans hS.1 h)) hP hG hD⟩ rfl rfl hl.1 rfl (lv_room (Nat.le_of_ble_eq_true rfl)) dX2_discharge_123 ⟨Nat.zero_le _, Nat.zero_le _⟩) hS (fun q _ h => h) (fun q h => h) (fun u123 t H locs ht hvm q123 hB hz1 hk1 hS => ?_)
                obtain ⟨hP, -, hD⟩ := hB
                rw [ht] at hP
                have hP : va_P D vwCl (mw M cZ cI ((nI 0)) (hgTp (enc (root T)) (parF h0 none T) (enc (root tr))) (nI (siz T)) mo ti dr (nI ((wayT h0 T).length)) ma isIn (hgL lf (parF h0 none T) h0 (enc (root tr))) (hgR rt (parF h0 none T) h0 (enc (root tr))) wy9 rw) H := hP
                have hD : va_D A (mw M cZ cI ((nI 0)) (hgTp (enc (root T)) (parF h0 none T) (enc (root tr))) (nI (siz T)) mo ti dr (nI ((wayT h0 T).length)) ma isIn (hgL lf (parF h0 none T) h0 (enc (root tr))) (hgR rt (parF h0 none T) h0 (enc (root tr))) wy9 rw) := hD
                rw [z2] at hP hD
                have hP : va_P D vwCl (mw M cZ cI ((nI 0)) (enc (root (delT h0 T))) (nI (siz T)) mo ti dr (nI ((wayT h0 T).length)) ma isIn (hgL lf (parF h0 none T) h0 (enc (root tr))) (hgR rt (parF h0 none T) h0 (enc (root tr))) wy9 rw) H := hP
                have hD : va_D A (mw M cZ cI ((nI 0)) (enc (root (delT h0 T))) (nI (siz T)) mo ti dr (nI ((wayT h0 T).length)) ma isIn (hgL lf (parF h0 none T) h0 (enc (root tr))) (hgR rt (parF h0 none T) h0 (enc (root tr))) wy9 rw) := hD
                refine lv_aload_n hx hb dX2_discharge_126 rfl (lv_at hl 2 rfl) ?_
                refine va_get (D := D) (ci := 2) (v := .ref M.2.1) (C := RX2) (T := TX2) (N := 13) hx hb hts (by decide +kernel) hown hG.1 hP 0 mw_m rfl 6 (by decide) (hts (.fieldLink RX2 13 "LopsidedRanksModel" "isIn" "[Z") (by decide +kernel)) (fun _ h9 => h9) rfl dX2_discharge_127 ?_
                refine lv_iload_n hx hb dX2_discharge_130 rfl (lv_at hl 3 rfl) ?_
                refine lv_iconst (v := nI 0) hx hb dX2_discharge_131 (by decide) ?_
                refine zr_zast hx hb hG.1 hP hD hS 1 1 mw_i rfl (k := h0) (by omega) (Nat.le_of_ble_eq_true rfl) rfl dX2_discharge_132 (fun H locs hP hD hS => ?_)
                have hP : va_P D vwCl (mw M cZ cI ((nI 0)) (enc (root (delT h0 T))) (nI (siz T)) mo ti dr (nI ((wayT h0 T).length)) ma (upd isIn h0 (nI 0)) (hgL lf (parF h0 none T) h0 (enc (root tr))) (hgR rt (parF h0 none T) h0 (enc (root tr))) wy9 rw) H := hP
                have hD : va_D A (mw M cZ cI ((nI 0)) (enc (root (delT h0 T))) (nI (siz T)) mo ti dr (nI ((wayT h0 T).length)) ma (upd isIn h0 (nI 0)) (hgL lf (parF h0 none T) h0 (enc (root tr))) (hgR rt (parF h0 none T) h0 (enc (root tr))) wy9 rw) := hD
                refine lv_aload_n hx hb dX2_discharge_133 rfl (lv_at hl 2 rfl) ?_
                refine lv_dup hx hb dX2_discharge_134 rfl ?_
                refine va_get (D := D) (ci := 2) (v := .int (nI (siz T))) (C := RX2) (T := TX2) (N := 13) hx hb hts (by decide +kernel) hown hG.1 hP 0 mw_m rfl 2 (by decide) (hts (.fieldLink RX2 90 "LopsidedRanksModel" "soldiers" "I") (by decide +kernel)) (fun _ h9 => h9) rfl dX2_discharge_135 ?_
                refine lv_iconst (v := nI 1) hx hb dX2_discharge_138 (by decide) ?_
                refine lv_isub hx hb dX2_discharge_139 ?_
                refine zr_eqi (pk_sub (a := siz T) (b := 1) (by omega)) ?_
                refine va_put (D := D) (ci := 2) (v := .int (nI ((siz T) - 1))) (ty := .int) (C := RX2) (T := TX2) (N := 13) hx hb hts (by decide +kernel) tyX2 tyX2_ok nmX2 hown hG.1 hP hD hS 0 mw_m rfl 2 (by decide) (hts (.fieldLink RX2 90 "LopsidedRanksModel" "soldiers" "I") (by decide +kernel)) (fun _ h9 => h9) rfl (by decide +kernel) rfl rfl (Nat.le_of_ble_eq_true rfl) dX2_discharge_140 (fun H locs hP hD hS => ?_)
                have hP : va_P D vwCl (mw M cZ cI ((nI 0)) (enc (root (delT h0 T))) ((nI ((siz T) - 1))) mo ti dr (nI ((wayT h0 T).length)) ma (upd isIn h0 (nI 0)) (hgL lf (parF h0 none T) h0 (enc (root tr))) (hgR rt (parF h0 none T) h0 (enc (root tr))) wy9 rw) H := hP
                have hD : va_D A (mw M cZ cI ((nI 0)) (enc (root (delT h0 T))) ((nI ((siz T) - 1))) mo ti dr (nI ((wayT h0 T).length)) ma (upd isIn h0 (nI 0)) (hgL lf (parF h0 none T) h0 (enc (root tr))) (hgR rt (parF h0 none T) h0 (enc (root tr))) wy9 rw) := hD
                have en1 : (nI ((siz T) - 1)) = nI (siz (delT h0 T)) := congrArg nI (by omega)
                rw [en1] at hP hD
                have hP : va_P D vwCl (mw M cZ cI ((nI 0)) (enc (root (delT h0 T))) (nI (siz (delT h0 T))) mo ti dr (nI ((wayT h0 T).length)) ma (upd isIn h0 (nI 0)) (hgL lf (parF h0 none T) h0 (enc (root tr))) (hgR rt (parF h0 none T) h0 (enc (root tr))) wy9 rw) H := hP
                have hD : va_D A (mw M cZ cI ((nI 0)) (enc (root (delT h0 T))) (nI (siz (delT h0 T))) mo ti dr (nI ((wayT h0 T).length)) ma (upd isIn h0 (nI 0)) (hgL lf (parF h0 none T) h0 (enc (root tr))) (hgR rt (parF h0 none T) h0 (enc (root tr))) wy9 rw) := hD
                have hr1 : RepM (delT h0 T) (upd isIn h0 (nI 0)) (hgL lf (parF h0 none T) h0 (enc (root tr))) (hgR rt (parF h0 none T) h0 (enc (root tr))) := ⟨db, fun k hk => hin0 k ((dm k).mp hk).1, by omega, z1, fun k hk => by
                  by_cases e : k = h0
                  · subst e
                    rw [upd_s, decide_eq_false (fun q => ((dm k).mp q).2 rfl)]
                    rfl
                  · rw [upd_n _ _ e, hi k hk]
                    congr 1
                    exact decide_eq_decide.mpr ⟨fun q => (dm k).mpr ⟨q, e⟩, fun q => ((dm k).mp q).1⟩⟩
                refine lv_aload_n hx hb dX2_discharge_143 rfl (lv_at hl 2 rfl) ?_
                refine va_get (D := D) (ci := 2) (v := .int (nI (siz (delT h0 T)))) (C := RX2) (T := TX2) (N := 13) hx hb hts (by decide +kernel) hown hG.1 hP 0 mw_m rfl 2 (by decide) (hts (.fieldLink RX2 90 "LopsidedRanksModel" "soldiers" "I") (by decide +kernel)) (fun _ h9 => h9) rfl dX2_discharge_144 ?_
                refine lv_if_ne (tgt := 155) hx hb dX2_discharge_147 (by decide) (fun c147 => ?_) (fun c147 => ?_)
                · replace c147 := (not_congr (zr_eq0 (by omega))).mp c147
                  refine lv_iconst (v := nI 3) hx hb dX2_discharge_155 (by decide) ?_
                  refine lv_aload_n hx hb dX2_discharge_156 rfl (lv_at hl 2 rfl) ?_
                  refine va_get (D := D) (ci := 2) (v := .int (nI (siz (delT h0 T)))) (C := RX2) (T := TX2) (N := 13) hx hb hts (by decide +kernel) hown hG.1 hP 0 mw_m rfl 2 (by decide) (hts (.fieldLink RX2 90 "LopsidedRanksModel" "soldiers" "I") (by decide +kernel)) (fun _ h9 => h9) rfl dX2_discharge_157 ?_
                  refine lv_imul hx hb dX2_discharge_160 ?_
                  refine zr_eqi (pk_mul 3 (siz (delT h0 T))) ?_
                  refine lv_iconst (v := nI 2) hx hb dX2_discharge_161 (by decide) ?_
                  refine lv_aload_n hx hb dX2_discharge_162 rfl (lv_at hl 2 rfl) ?_
                  refine va_get (D := D) (ci := 2) (v := .int mo) (C := RX2) (T := TX2) (N := 13) hx hb hts (by decide +kernel) hown hG.1 hP 0 mw_m rfl 3 (by decide) (hts (.fieldLink RX2 93 "LopsidedRanksModel" "most" "I") (by decide +kernel)) (fun _ h9 => h9) rfl dX2_discharge_163 ?_
                  refine lv_imul hx hb dX2_discharge_166 ?_
                  refine lv_icmp_lt (tgt := 172) hx hb dX2_discharge_167 (by decide) (fun c167 => ?_) (fun c167 => ?_)
                  · have hlt : nI 3 * nI (siz (delT h0 T)) < nI 2 * mo := by rw [pk_mul]; exact c167
                    refine lv_aload_n hx hb dX2_discharge_172 rfl (lv_at hl 2 rfl) ?_
                    refine lv_aload_n hx hb dX2_discharge_173 rfl (lv_at hl 2 rfl) ?_
                    refine va_get (D := D) (ci := 2) (v := .int (enc (root (delT h0 T)))) (C := RX2) (T := TX2) (N := 13) hx hb hts (by decide +kernel) hown hG.1 hP 0 mw_m rfl 1 (by decide) (hts (.fieldLink RX2 9 "LopsidedRanksModel" "top" "I") (by decide +kernel)) (fun _ h9 => h9) rfl dX2_discharge_174 ?_
                    obtain ⟨c0, hc0⟩ : ∃ c0, root (delT h0 T) = some c0 := by
                      cases e : delT h0 T with
                      | leaf => rw [e] at c147; exact absurd rfl c147
                      | inner s k v l r => exact ⟨k, rfl⟩
                    refine zr_eqi (congrArg enc hc0) ?_
                    obtain ⟨k1d, k2d⟩ := draw_keys (c := c0) hr1.2.2.1
                    refine va_calli (va_runV (As := [.int (nI c0)]) (rest := []) ⟨hx, hb, hml, hown, hts⟩ (c_X2_drawUp l (T := delT h0 T) hr1 (root_in hc0)) (cwV 1 hts gX2_discharge_X2_drawUp rfl rfl rfl (by decide +kernel) ⟨Nat.le_of_ble_eq_true rfl, Nat.le_of_ble_eq_true rfl⟩) ⟨PcM.blind, va_recv hG.1 hP (ci := 2) (q0 := 0) rfl mw_m, PcM.at (fun q h => hA q (Nat.le_trans hS.1 h)) hP hG hD⟩ rfl rfl hl.1 rfl (lv_room (Nat.le_of_ble_eq_true rfl)) dX2_discharge_177 ⟨Nat.zero_le _, Nat.zero_le _⟩) hS (fun q _ h => h) (fun q h => h) (fun r177 u9 t H locs ht hvm q177 hB hz1 hk1 hS => ?_)
                    obtain ⟨hP, -, hD⟩ := hB
                    rw [ht] at hP
                    have hP : va_P D vwCl (mw M cZ cI ((nI 0)) (enc (root (drawT c0 (delT h0 T)))) (nI (siz (delT h0 T))) (moD (delT h0 T) c0 mo) (ti + nI 1) (dr + nI (siz (subT c0 (delT h0 T)))) u9.1 u9.2.1 u9.2.2.1 u9.2.2.2.1 u9.2.2.2.2.1 u9.2.2.2.2.2.1 u9.2.2.2.2.2.2) H := hP
                    have hD : va_D A (mw M cZ cI ((nI 0)) (enc (root (drawT c0 (delT h0 T)))) (nI (siz (delT h0 T))) (moD (delT h0 T) c0 mo) (ti + nI 1) (dr + nI (siz (subT c0 (delT h0 T)))) u9.1 u9.2.1 u9.2.2.1 u9.2.2.2.1 u9.2.2.2.2.1 u9.2.2.2.2.2.1 u9.2.2.2.2.2.2) := hD
                    obtain ⟨rfl, hr4⟩ := q177
                    refine lv_pop hx hb dX2_discharge_180 rfl ?_
                    refine lv_iconst (v := nI 1) hx hb dX2_discharge_181 (by decide) ?_
                    have ek := kx_nI (show h0 < 2 ^ 31 by omega)
                    have e9 := disS_1 (dr := ti) (ds := dr) c147 hlt hc0
                    have hP : va_P D vwCl (mw M cZ cI ((nI 0)) (enc (root (drawT c0 (delT h0 T)))) (nI (siz (drawT c0 (delT h0 T)))) (moD (delT h0 T) c0 mo) (ti + nI 1) (dr + nI (siz (subT c0 (delT h0 T)))) u9.1 u9.2.1 u9.2.2.1 u9.2.2.2.1 u9.2.2.2.2.1 u9.2.2.2.2.2.1 u9.2.2.2.2.2.2) H := by rw [k2d]; exact hP
                    have hD : va_D A (mw M cZ cI ((nI 0)) (enc (root (drawT c0 (delT h0 T)))) (nI (siz (drawT c0 (delT h0 T)))) (moD (delT h0 T) c0 mo) (ti + nI 1) (dr + nI (siz (subT c0 (delT h0 T)))) u9.1 u9.2.1 u9.2.2.1 u9.2.2.2.1 u9.2.2.2.2.1 u9.2.2.2.2.2.1 u9.2.2.2.2.2.2) := by rw [k2d]; exact hD
                    have hmz : disZ (nI h0) (T, mo, ti, dr) = _ := (if_pos (show kD (nI h0) T = 0 from kD_0 hh0 hm)).trans ((congrArg (fun z => disS z (T, mo, ti, dr)) ek).trans e9.1)
                    have eK : kD (nI h0) T = 0 := kD_0 hh0 hm
                    exact W.zret (v := (nI 1)) hx hb hr rfl (fun t ht hW => ⟨⟨_, (u9.1, u9.2.1, u9.2.2.1, u9.2.2.2.1, u9.2.2.2.2.1, u9.2.2.2.2.2.1, u9.2.2.2.2.2.2), rfl, ⟨fun _ => by rw [ek, e9.2]; rfl, by rw [hmz]; exact hr4⟩, by rw [eK, hmz, ht]; exact hP, hG.moved hW, by rw [eK, hmz]; exact hD⟩, hS.F ht⟩) hS.2.2 dX2_discharge_182
                  · have hlt : ¬ nI 3 * nI (siz (delT h0 T)) < nI 2 * mo := by rw [pk_mul]; exact c167
                    refine lv_iconst (v := nI 0) hx hb dX2_discharge_170 (by decide) ?_
                    have ek := kx_nI (show h0 < 2 ^ 31 by omega)
                    have e9 := disS_2 (dr := ti) (ds := dr) c147 hlt
                    have hmz : disZ (nI h0) (T, mo, ti, dr) = _ := (if_pos (show kD (nI h0) T = 0 from kD_0 hh0 hm)).trans ((congrArg (fun z => disS z (T, mo, ti, dr)) ek).trans e9.1)
                    have eK : kD (nI h0) T = 0 := kD_0 hh0 hm
                    exact W.zret (v := (nI 0)) hx hb hr rfl (fun t ht hW => ⟨⟨_, (nI ((wayT h0 T).length), ma, upd isIn h0 (nI 0), hgL lf (parF h0 none T) h0 (enc (root tr)), hgR rt (parF h0 none T) h0 (enc (root tr)), wy9, rw), rfl, ⟨fun _ => by rw [ek, e9.2]; rfl, by rw [hmz]; exact hr1⟩, by rw [eK, hmz, ht]; exact hP, hG.moved hW, by rw [eK, hmz]; exact hD⟩, hS.F ht⟩) hS.2.2 dX2_discharge_171
                · replace c147 := (zr_eq0 (by omega)).mp c147
                  refine lv_aload_n hx hb dX2_discharge_150 rfl (lv_at hl 2 rfl) ?_
                  refine lv_iconst (v := nI 0) hx hb dX2_discharge_151 (by decide) ?_
                  refine va_put (D := D) (ci := 2) (v := .int (nI 0)) (ty := .int) (C := RX2) (T := TX2) (N := 13) hx hb hts (by decide +kernel) tyX2 tyX2_ok nmX2 hown hG.1 hP hD hS 0 mw_m rfl 3 (by decide) (hts (.fieldLink RX2 93 "LopsidedRanksModel" "most" "I") (by decide +kernel)) (fun _ h9 => h9) rfl (by decide +kernel) rfl rfl (Nat.le_of_ble_eq_true rfl) dX2_discharge_152 (fun H locs hP hD hS => ?_)
                  have hP : va_P D vwCl (mw M cZ cI ((nI 0)) (enc (root (delT h0 T))) (nI (siz (delT h0 T))) ((nI 0)) ti dr (nI ((wayT h0 T).length)) ma (upd isIn h0 (nI 0)) (hgL lf (parF h0 none T) h0 (enc (root tr))) (hgR rt (parF h0 none T) h0 (enc (root tr))) wy9 rw) H := hP
                  have hD : va_D A (mw M cZ cI ((nI 0)) (enc (root (delT h0 T))) (nI (siz (delT h0 T))) ((nI 0)) ti dr (nI ((wayT h0 T).length)) ma (upd isIn h0 (nI 0)) (hgL lf (parF h0 none T) h0 (enc (root tr))) (hgR rt (parF h0 none T) h0 (enc (root tr))) wy9 rw) := hD
                  refine lv_iconst (v := nI 3) hx hb dX2_discharge_155 (by decide) ?_
                  refine lv_aload_n hx hb dX2_discharge_156 rfl (lv_at hl 2 rfl) ?_
                  refine va_get (D := D) (ci := 2) (v := .int (nI (siz (delT h0 T)))) (C := RX2) (T := TX2) (N := 13) hx hb hts (by decide +kernel) hown hG.1 hP 0 mw_m rfl 2 (by decide) (hts (.fieldLink RX2 90 "LopsidedRanksModel" "soldiers" "I") (by decide +kernel)) (fun _ h9 => h9) rfl dX2_discharge_157 ?_
                  refine lv_imul hx hb dX2_discharge_160 ?_
                  refine zr_eqi (pk_mul 3 (siz (delT h0 T))) ?_
                  refine lv_iconst (v := nI 2) hx hb dX2_discharge_161 (by decide) ?_
                  refine lv_aload_n hx hb dX2_discharge_162 rfl (lv_at hl 2 rfl) ?_
                  refine va_get (D := D) (ci := 2) (v := .int ((nI 0))) (C := RX2) (T := TX2) (N := 13) hx hb hts (by decide +kernel) hown hG.1 hP 0 mw_m rfl 3 (by decide) (hts (.fieldLink RX2 93 "LopsidedRanksModel" "most" "I") (by decide +kernel)) (fun _ h9 => h9) rfl dX2_discharge_163 ?_
                  refine lv_imul hx hb dX2_discharge_166 ?_
                  refine zr_eqi (pk_mul 2 0) ?_
                  refine lv_icmp_lt (tgt := 172) hx hb dX2_discharge_167 (by decide) (fun c167 => ?_) (fun c167 => ?_)
                  · exact absurd c167 (by rw [c147]; decide)
                  · refine lv_iconst (v := nI 0) hx hb dX2_discharge_170 (by decide) ?_
                    have ek := kx_nI (show h0 < 2 ^ 31 by omega)
                    have e9 := disS_0 (mo := mo) (dr := ti) (ds := dr) c147
                    have hmz : disZ (nI h0) (T, mo, ti, dr) = _ := (if_pos (show kD (nI h0) T = 0 from kD_0 hh0 hm)).trans ((congrArg (fun z => disS z (T, mo, ti, dr)) ek).trans e9.1)
                    have eK : kD (nI h0) T = 0 := kD_0 hh0 hm
                    exact W.zret (v := (nI 0)) hx hb hr rfl (fun t ht hW => ⟨⟨_, (nI ((wayT h0 T).length), ma, upd isIn h0 (nI 0), hgL lf (parF h0 none T) h0 (enc (root tr)), hgR rt (parF h0 none T) h0 (enc (root tr)), wy9, rw), rfl, ⟨fun _ => by rw [ek, e9.2]; rfl, by rw [hmz]; exact hr1⟩, by rw [eK, hmz, ht]; exact hP, hG.moved hW, by rw [eK, hmz]; exact hD⟩, hS.F ht⟩) hS.2.2 dX2_discharge_171
              · exact absurd rfl c100
          | inner s1 k1 v1 l1 r1 =>
            have hk1 := hlo.l.k
            cases tr with
            | leaf =>
              have ejT : delT h0 T = rep h0 (.inner s1 k1 v1 l1 r1) T := by unfold delT; rw [esub]; rfl
              refine lv_aload_n hx hb dX2_discharge_67 rfl (lv_at hl 1 rfl) ?_
              refine va_get (D := D) (ci := 2) (v := .ref M.2.2.1) (C := RX2) (T := TX2) (N := 13) hx hb hts (by decide +kernel) hown hG.1 hP 0 mw_m rfl 7 (by decide) (hts (.fieldLink RX2 17 "LopsidedRanksModel" "left" "[I") (by decide +kernel)) (fun _ h9 => h9) rfl dX2_discharge_68 ?_
              refine lv_iload_n hx hb dX2_discharge_71 rfl (lv_at hl 2 rfl) ?_
              refine zr_iald hx hb hG.1 hP 2 2 mw_l rfl (k := h0) (by omega) (Nat.le_of_ble_eq_true rfl) dX2_discharge_72 ?_
              refine zr_eqi p1 ?_
              refine lv_iconst (v := (-1)) hx hb dX2_discharge_73 (by decide) ?_
              refine lv_icmp_ne (tgt := 86) hx hb dX2_discharge_74 (by decide) (fun c74 => ?_) (fun c74 => ?_)
              · refine lv_aload_n hx hb dX2_discharge_86 rfl (lv_at hl 1 rfl) ?_
                refine va_get (D := D) (ci := 2) (v := .ref M.2.2.1) (C := RX2) (T := TX2) (N := 13) hx hb hts (by decide +kernel) hown hG.1 hP 0 mw_m rfl 7 (by decide) (hts (.fieldLink RX2 17 "LopsidedRanksModel" "left" "[I") (by decide +kernel)) (fun _ h9 => h9) rfl dX2_discharge_87 ?_
                refine lv_iload_n hx hb dX2_discharge_90 rfl (lv_at hl 2 rfl) ?_
                refine zr_iald hx hb hG.1 hP 2 2 mw_l rfl (k := h0) (by omega) (Nat.le_of_ble_eq_true rfl) dX2_discharge_91 ?_
                refine zr_eqi p1 ?_
                refine lv_istore_n (lv' := [(3, .int (nI k1)), (2, .int (enc (parF h0 none T))), (0, .ref M.1), (1, .int (nI h0))]) hx hb dX2_discharge_92 rfl hl (by decide) rfl (fun ls hl => ?_)
                refine lv_aload_n hx hb dX2_discharge_93 rfl (lv_at hl 2 rfl) ?_
                refine va_get (D := D) (ci := 2) (v := .ref M.2.2.1) (C := RX2) (T := TX2) (N := 13) hx hb hts (by decide +kernel) hown hG.1 hP 0 mw_m rfl 7 (by decide) (hts (.fieldLink RX2 17 "LopsidedRanksModel" "left" "[I") (by decide +kernel)) (fun _ h9 => h9) rfl dX2_discharge_94 ?_
                refine lv_iload_n hx hb dX2_discharge_97 rfl (lv_at hl 3 rfl) ?_
                refine zr_iald hx hb hG.1 hP 2 2 mw_l rfl (k := h0) (by omega) (Nat.le_of_ble_eq_true rfl) dX2_discharge_98 ?_
                refine zr_eqi p1 ?_
                refine lv_iconst (v := (-1)) hx hb dX2_discharge_99 (by decide) ?_
                refine lv_icmp_eq (tgt := 119) hx hb dX2_discharge_100 (by decide) (fun c100 => ?_) (fun c100 => ?_)
                · exact absurd c100 (nI_m1 (by omega))
                · refine lv_aload_n hx hb dX2_discharge_103 rfl (lv_at hl 2 rfl) ?_
                  refine va_get (D := D) (ci := 2) (v := .ref M.2.2.2.1) (C := RX2) (T := TX2) (N := 13) hx hb hts (by decide +kernel) hown hG.1 hP 0 mw_m rfl 8 (by decide) (hts (.fieldLink RX2 21 "LopsidedRanksModel" "right" "[I") (by decide +kernel)) (fun _ h9 => h9) rfl dX2_discharge_104 ?_
                  refine lv_iload_n hx hb dX2_discharge_107 rfl (lv_at hl 3 rfl) ?_
                  refine zr_iald hx hb hG.1 hP 3 2 mw_r rfl (k := h0) (by omega) (Nat.le_of_ble_eq_true rfl) dX2_discharge_108 ?_
                  refine zr_eqi p2 ?_
                  refine lv_iconst (v := (-1)) hx hb dX2_discharge_109 (by decide) ?_
                  refine lv_icmp_eq (tgt := 119) hx hb dX2_discharge_110 (by decide) (fun c110 => ?_) (fun c110 => ?_)
                  · obtain ⟨kd1, kd2⟩ := keys_del hb0 esub
                    have hjk : ∀ j ∈ keysT (.inner s1 k1 v1 l1 r1 : Tr), j ∈ keysT (subT h0 T) ∧ j ≠ h0 := fun j hj => by
                      obtain ⟨b1, b2, b3, b4⟩ := bst_in.mp hbs
                      rw [esub]
                      exact ⟨(keys_in ..).mpr (Or.inl hj), by have := b3 j hj; omega⟩
                    obtain ⟨s1x, s2x⟩ := kl_sub (h := h0) hb0
                    obtain ⟨z1, z2⟩ := hangM (t := (.inner s1 k1 v1 l1 r1 : Tr)) hb0 hs p3 (fun k _ _ => ⟨rfl, rfl⟩) (fun j hj => by
                      have q := (hjk j hj).1
                      exact ⟨fun z => by have := s1x j z j q; omega, fun z => by have := s2x j q j z; omega⟩)
                    rw [← ejT] at z1 z2
                    refine lv_aload_n hx hb dX2_discharge_119 rfl (lv_at hl 2 rfl) ?_
                    refine lv_iload_n hx hb dX2_discharge_120 rfl (lv_at hl 1 rfl) ?_
                    refine lv_iload_n hx hb dX2_discharge_121 rfl (lv_at hl 3 rfl) ?_
                    refine lv_iload_n hx hb dX2_discharge_122 rfl (lv_at hl 0 rfl) ?_
                    refine va_callv (va_runV (As := [.int (enc (parF h0 none T)), .int (nI h0), .int (nI k1)]) (rest := []) ⟨hx, hb, hml, hown, hts⟩ (c_X2_hang l (p0 := parF h0 none T) (v0 := enc (root (.inner s1 k1 v1 l1 r1 : Tr))) hh0 (fun c e => hin0 c (parF_mem e))) (cwV 3 hts gX2_discharge_X2_hang rfl rfl rfl (by decide +kernel) ⟨Nat.le_of_ble_eq_true rfl, Nat.le_of_ble_eq_true rfl⟩) ⟨PcM.blind, va_recv hG.1 hP (ci := 2) (q0 := 0) rfl mw_m, PcM.at (fun q h => hA q (Nat.le_trans hS.1 h)) hP hG hD⟩ rfl rfl hl.1 rfl (lv_room (Nat.le_of_ble_eq_true rfl)) dX2_discharge_123 ⟨Nat.zero_le _, Nat.zero_le _⟩) hS (fun q _ h => h) (fun q h => h) (fun u123 t H locs ht hvm q123 hB hz1 hk1 hS => ?_)
                    obtain ⟨hP, -, hD⟩ := hB
                    rw [ht] at hP
                    have hP : va_P D vwCl (mw M cZ cI ((nI 0)) (hgTp (enc (root T)) (parF h0 none T) (enc (root (.inner s1 k1 v1 l1 r1 : Tr)))) (nI (siz T)) mo ti dr (nI ((wayT h0 T).length)) ma isIn (hgL lf (parF h0 none T) h0 (enc (root (.inner s1 k1 v1 l1 r1 : Tr)))) (hgR rt (parF h0 none T) h0 (enc (root (.inner s1 k1 v1 l1 r1 : Tr)))) wy9 rw) H := hP
                    have hD : va_D A (mw M cZ cI ((nI 0)) (hgTp (enc (root T)) (parF h0 none T) (enc (root (.inner s1 k1 v1 l1 r1 : Tr)))) (nI (siz T)) mo ti dr (nI ((wayT h0 T).length)) ma isIn (hgL lf (parF h0 none T) h0 (enc (root (.inner s1 k1 v1 l1 r1 : Tr)))) (hgR rt (parF h0 none T) h0 (enc (root (.inner s1 k1 v1 l1 r1 : Tr)))) wy9 rw) := hD
                    rw [z2] at hP hD
                    have hP : va_P D vwCl (mw M cZ cI ((nI 0)) (enc (root (delT h0 T))) (nI (siz T)) mo ti dr (nI ((wayT h0 T).length)) ma isIn (hgL lf (parF h0 none T) h0 (enc (root (.inner s1 k1 v1 l1 r1 : Tr)))) (hgR rt (parF h0 none T) h0 (enc (root (.inner s1 k1 v1 l1 r1 : Tr)))) wy9 rw) H := hP
                    have hD : va_D A (mw M cZ cI ((nI 0)) (enc (root (delT h0 T))) (nI (siz T)) mo ti dr (nI ((wayT h0 T).length)) ma isIn (hgL lf (parF h0 none T) h0 (enc (root (.inner s1 k1 v1 l1 r1 : Tr)))) (hgR rt (parF h0 none T) h0 (enc (root (.inner s1 k1 v1 l1 r1 : Tr)))) wy9 rw) := hD
                    refine lv_aload_n hx hb dX2_discharge_126 rfl (lv_at hl 2 rfl) ?_
                    refine va_get (D := D) (ci := 2) (v := .ref M.2.1) (C := RX2) (T := TX2) (N := 13) hx hb hts (by decide +kernel) hown hG.1 hP 0 mw_m rfl 6 (by decide) (hts (.fieldLink RX2 13 "LopsidedRanksModel" "isIn" "[Z") (by decide +kernel)) (fun _ h9 => h9) rfl dX2_discharge_127 ?_
                    refine lv_iload_n hx hb dX2_discharge_130 rfl (lv_at hl 3 rfl) ?_
                    refine lv_iconst (v := nI 0) hx hb dX2_discharge_131 (by decide) ?_
                    refine zr_zast hx hb hG.1 hP hD hS 1 1 mw_i rfl (k := h0) (by omega) (Nat.le_of_ble_eq_true rfl) rfl dX2_discharge_132 (fun H locs hP hD hS => ?_)
                    have hP : va_P D vwCl (mw M cZ cI ((nI 0)) (enc (root (delT h0 T))) (nI (siz T)) mo ti dr (nI ((wayT h0 T).length)) ma (upd isIn h0 (nI 0)) (hgL lf (parF h0 none T) h0 (enc (root (.inner s1 k1 v1 l1 r1 : Tr)))) (hgR rt (parF h0 none T) h0 (enc (root (.inner s1 k1 v1 l1 r1 : Tr)))) wy9 rw) H := hP
                    have hD : va_D A (mw M cZ cI ((nI 0)) (enc (root (delT h0 T))) (nI (siz T)) mo ti dr (nI ((wayT h0 T).length)) ma (upd isIn h0 (nI 0)) (hgL lf (parF h0 none T) h0 (enc (root (.inner s1 k1 v1 l1 r1 : Tr)))) (hgR rt (parF h0 none T) h0 (enc (root (.inner s1 k1 v1 l1 r1 : Tr)))) wy9 rw) := hD
                    refine lv_aload_n hx hb dX2_discharge_133 rfl (lv_at hl 2 rfl) ?_
                    refine lv_dup hx hb dX2_discharge_134 rfl ?_
                    refine va_get (D := D) (ci := 2) (v := .int (nI (siz T))) (C := RX2) (T := TX2) (N := 13) hx hb hts (by decide +kernel) hown hG.1 hP 0 mw_m rfl 2 (by decide) (hts (.fieldLink RX2 90 "LopsidedRanksModel" "soldiers" "I") (by decide +kernel)) (fun _ h9 => h9) rfl dX2_discharge_135 ?_
                    refine lv_iconst (v := nI 1) hx hb dX2_discharge_138 (by decide) ?_
                    refine lv_isub hx hb dX2_discharge_139 ?_
                    refine zr_eqi (pk_sub (a := siz T) (b := 1) (by omega)) ?_
                    refine va_put (D := D) (ci := 2) (v := .int (nI ((siz T) - 1))) (ty := .int) (C := RX2) (T := TX2) (N := 13) hx hb hts (by decide +kernel) tyX2 tyX2_ok nmX2 hown hG.1 hP hD hS 0 mw_m rfl 2 (by decide) (hts (.fieldLink RX2 90 "LopsidedRanksModel" "soldiers" "I") (by decide +kernel)) (fun _ h9 => h9) rfl (by decide +kernel) rfl rfl (Nat.le_of_ble_eq_true rfl) dX2_discharge_140 (fun H locs hP hD hS => ?_)
                    have hP : va_P D vwCl (mw M cZ cI ((nI 0)) (enc (root (delT h0 T))) ((nI ((siz T) - 1))) mo ti dr (nI ((wayT h0 T).length)) ma (upd isIn h0 (nI 0)) (hgL lf (parF h0 none T) h0 (enc (root (.inner s1 k1 v1 l1 r1 : Tr)))) (hgR rt (parF h0 none T) h0 (enc (root (.inner s1 k1 v1 l1 r1 : Tr)))) wy9 rw) H := hP
                    have hD : va_D A (mw M cZ cI ((nI 0)) (enc (root (delT h0 T))) ((nI ((siz T) - 1))) mo ti dr (nI ((wayT h0 T).length)) ma (upd isIn h0 (nI 0)) (hgL lf (parF h0 none T) h0 (enc (root (.inner s1 k1 v1 l1 r1 : Tr)))) (hgR rt (parF h0 none T) h0 (enc (root (.inner s1 k1 v1 l1 r1 : Tr)))) wy9 rw) := hD
                    have en1 : (nI ((siz T) - 1)) = nI (siz (delT h0 T)) := congrArg nI (by omega)
                    rw [en1] at hP hD
                    have hP : va_P D vwCl (mw M cZ cI ((nI 0)) (enc (root (delT h0 T))) (nI (siz (delT h0 T))) mo ti dr (nI ((wayT h0 T).length)) ma (upd isIn h0 (nI 0)) (hgL lf (parF h0 none T) h0 (enc (root (.inner s1 k1 v1 l1 r1 : Tr)))) (hgR rt (parF h0 none T) h0 (enc (root (.inner s1 k1 v1 l1 r1 : Tr)))) wy9 rw) H := hP
                    have hD : va_D A (mw M cZ cI ((nI 0)) (enc (root (delT h0 T))) (nI (siz (delT h0 T))) mo ti dr (nI ((wayT h0 T).length)) ma (upd isIn h0 (nI 0)) (hgL lf (parF h0 none T) h0 (enc (root (.inner s1 k1 v1 l1 r1 : Tr)))) (hgR rt (parF h0 none T) h0 (enc (root (.inner s1 k1 v1 l1 r1 : Tr)))) wy9 rw) := hD
                    have hr1 : RepM (delT h0 T) (upd isIn h0 (nI 0)) (hgL lf (parF h0 none T) h0 (enc (root (.inner s1 k1 v1 l1 r1 : Tr)))) (hgR rt (parF h0 none T) h0 (enc (root (.inner s1 k1 v1 l1 r1 : Tr)))) := ⟨db, fun k hk => hin0 k ((dm k).mp hk).1, by omega, z1, fun k hk => by
                      by_cases e : k = h0
                      · subst e
                        rw [upd_s, decide_eq_false (fun q => ((dm k).mp q).2 rfl)]
                        rfl
                      · rw [upd_n _ _ e, hi k hk]
                        congr 1
                        exact decide_eq_decide.mpr ⟨fun q => (dm k).mpr ⟨q, e⟩, fun q => ((dm k).mp q).1⟩⟩
                    refine lv_aload_n hx hb dX2_discharge_143 rfl (lv_at hl 2 rfl) ?_
                    refine va_get (D := D) (ci := 2) (v := .int (nI (siz (delT h0 T)))) (C := RX2) (T := TX2) (N := 13) hx hb hts (by decide +kernel) hown hG.1 hP 0 mw_m rfl 2 (by decide) (hts (.fieldLink RX2 90 "LopsidedRanksModel" "soldiers" "I") (by decide +kernel)) (fun _ h9 => h9) rfl dX2_discharge_144 ?_
                    refine lv_if_ne (tgt := 155) hx hb dX2_discharge_147 (by decide) (fun c147 => ?_) (fun c147 => ?_)
                    · replace c147 := (not_congr (zr_eq0 (by omega))).mp c147
                      refine lv_iconst (v := nI 3) hx hb dX2_discharge_155 (by decide) ?_
                      refine lv_aload_n hx hb dX2_discharge_156 rfl (lv_at hl 2 rfl) ?_
                      refine va_get (D := D) (ci := 2) (v := .int (nI (siz (delT h0 T)))) (C := RX2) (T := TX2) (N := 13) hx hb hts (by decide +kernel) hown hG.1 hP 0 mw_m rfl 2 (by decide) (hts (.fieldLink RX2 90 "LopsidedRanksModel" "soldiers" "I") (by decide +kernel)) (fun _ h9 => h9) rfl dX2_discharge_157 ?_
                      refine lv_imul hx hb dX2_discharge_160 ?_
                      refine zr_eqi (pk_mul 3 (siz (delT h0 T))) ?_
                      refine lv_iconst (v := nI 2) hx hb dX2_discharge_161 (by decide) ?_
                      refine lv_aload_n hx hb dX2_discharge_162 rfl (lv_at hl 2 rfl) ?_
                      refine va_get (D := D) (ci := 2) (v := .int mo) (C := RX2) (T := TX2) (N := 13) hx hb hts (by decide +kernel) hown hG.1 hP 0 mw_m rfl 3 (by decide) (hts (.fieldLink RX2 93 "LopsidedRanksModel" "most" "I") (by decide +kernel)) (fun _ h9 => h9) rfl dX2_discharge_163 ?_
                      refine lv_imul hx hb dX2_discharge_166 ?_
                      refine lv_icmp_lt (tgt := 172) hx hb dX2_discharge_167 (by decide) (fun c167 => ?_) (fun c167 => ?_)
                      · have hlt : nI 3 * nI (siz (delT h0 T)) < nI 2 * mo := by rw [pk_mul]; exact c167
                        refine lv_aload_n hx hb dX2_discharge_172 rfl (lv_at hl 2 rfl) ?_
                        refine lv_aload_n hx hb dX2_discharge_173 rfl (lv_at hl 2 rfl) ?_
                        refine va_get (D := D) (ci := 2) (v := .int (enc (root (delT h0 T)))) (C := RX2) (T := TX2) (N := 13) hx hb hts (by decide +kernel) hown hG.1 hP 0 mw_m rfl 1 (by decide) (hts (.fieldLink RX2 9 "LopsidedRanksModel" "top" "I") (by decide +kernel)) (fun _ h9 => h9) rfl dX2_discharge_174 ?_
                        obtain ⟨c0, hc0⟩ : ∃ c0, root (delT h0 T) = some c0 := by
                          cases e : delT h0 T with
                          | leaf => rw [e] at c147; exact absurd rfl c147
                          | inner s k v l r => exact ⟨k, rfl⟩
                        refine zr_eqi (congrArg enc hc0) ?_
                        obtain ⟨k1d, k2d⟩ := draw_keys (c := c0) hr1.2.2.1
                        refine va_calli (va_runV (As := [.int (nI c0)]) (rest := []) ⟨hx, hb, hml, hown, hts⟩ (c_X2_drawUp l (T := delT h0 T) hr1 (root_in hc0)) (cwV 1 hts gX2_discharge_X2_drawUp rfl rfl rfl (by decide +kernel) ⟨Nat.le_of_ble_eq_true rfl, Nat.le_of_ble_eq_true rfl⟩) ⟨PcM.blind, va_recv hG.1 hP (ci := 2) (q0 := 0) rfl mw_m, PcM.at (fun q h => hA q (Nat.le_trans hS.1 h)) hP hG hD⟩ rfl rfl hl.1 rfl (lv_room (Nat.le_of_ble_eq_true rfl)) dX2_discharge_177 ⟨Nat.zero_le _, Nat.zero_le _⟩) hS (fun q _ h => h) (fun q h => h) (fun r177 u9 t H locs ht hvm q177 hB hz1 hk1 hS => ?_)
                        obtain ⟨hP, -, hD⟩ := hB
                        rw [ht] at hP
                        have hP : va_P D vwCl (mw M cZ cI ((nI 0)) (enc (root (drawT c0 (delT h0 T)))) (nI (siz (delT h0 T))) (moD (delT h0 T) c0 mo) (ti + nI 1) (dr + nI (siz (subT c0 (delT h0 T)))) u9.1 u9.2.1 u9.2.2.1 u9.2.2.2.1 u9.2.2.2.2.1 u9.2.2.2.2.2.1 u9.2.2.2.2.2.2) H := hP
                        have hD : va_D A (mw M cZ cI ((nI 0)) (enc (root (drawT c0 (delT h0 T)))) (nI (siz (delT h0 T))) (moD (delT h0 T) c0 mo) (ti + nI 1) (dr + nI (siz (subT c0 (delT h0 T)))) u9.1 u9.2.1 u9.2.2.1 u9.2.2.2.1 u9.2.2.2.2.1 u9.2.2.2.2.2.1 u9.2.2.2.2.2.2) := hD
                        obtain ⟨rfl, hr4⟩ := q177
                        refine lv_pop hx hb dX2_discharge_180 rfl ?_
                        refine lv_iconst (v := nI 1) hx hb dX2_discharge_181 (by decide) ?_
                        have ek := kx_nI (show h0 < 2 ^ 31 by omega)
                        have e9 := disS_1 (dr := ti) (ds := dr) c147 hlt hc0
                        have hP : va_P D vwCl (mw M cZ cI ((nI 0)) (enc (root (drawT c0 (delT h0 T)))) (nI (siz (drawT c0 (delT h0 T)))) (moD (delT h0 T) c0 mo) (ti + nI 1) (dr + nI (siz (subT c0 (delT h0 T)))) u9.1 u9.2.1 u9.2.2.1 u9.2.2.2.1 u9.2.2.2.2.1 u9.2.2.2.2.2.1 u9.2.2.2.2.2.2) H := by rw [k2d]; exact hP
                        have hD : va_D A (mw M cZ cI ((nI 0)) (enc (root (drawT c0 (delT h0 T)))) (nI (siz (drawT c0 (delT h0 T)))) (moD (delT h0 T) c0 mo) (ti + nI 1) (dr + nI (siz (subT c0 (delT h0 T)))) u9.1 u9.2.1 u9.2.2.1 u9.2.2.2.1 u9.2.2.2.2.1 u9.2.2.2.2.2.1 u9.2.2.2.2.2.2) := by rw [k2d]; exact hD
                        have hmz : disZ (nI h0) (T, mo, ti, dr) = _ := (if_pos (show kD (nI h0) T = 0 from kD_0 hh0 hm)).trans ((congrArg (fun z => disS z (T, mo, ti, dr)) ek).trans e9.1)
                        have eK : kD (nI h0) T = 0 := kD_0 hh0 hm
                        exact W.zret (v := (nI 1)) hx hb hr rfl (fun t ht hW => ⟨⟨_, (u9.1, u9.2.1, u9.2.2.1, u9.2.2.2.1, u9.2.2.2.2.1, u9.2.2.2.2.2.1, u9.2.2.2.2.2.2), rfl, ⟨fun _ => by rw [ek, e9.2]; rfl, by rw [hmz]; exact hr4⟩, by rw [eK, hmz, ht]; exact hP, hG.moved hW, by rw [eK, hmz]; exact hD⟩, hS.F ht⟩) hS.2.2 dX2_discharge_182
                      · have hlt : ¬ nI 3 * nI (siz (delT h0 T)) < nI 2 * mo := by rw [pk_mul]; exact c167
                        refine lv_iconst (v := nI 0) hx hb dX2_discharge_170 (by decide) ?_
                        have ek := kx_nI (show h0 < 2 ^ 31 by omega)
                        have e9 := disS_2 (dr := ti) (ds := dr) c147 hlt
                        have hmz : disZ (nI h0) (T, mo, ti, dr) = _ := (if_pos (show kD (nI h0) T = 0 from kD_0 hh0 hm)).trans ((congrArg (fun z => disS z (T, mo, ti, dr)) ek).trans e9.1)
                        have eK : kD (nI h0) T = 0 := kD_0 hh0 hm
                        exact W.zret (v := (nI 0)) hx hb hr rfl (fun t ht hW => ⟨⟨_, (nI ((wayT h0 T).length), ma, upd isIn h0 (nI 0), hgL lf (parF h0 none T) h0 (enc (root (.inner s1 k1 v1 l1 r1 : Tr))), hgR rt (parF h0 none T) h0 (enc (root (.inner s1 k1 v1 l1 r1 : Tr))), wy9, rw), rfl, ⟨fun _ => by rw [ek, e9.2]; rfl, by rw [hmz]; exact hr1⟩, by rw [eK, hmz, ht]; exact hP, hG.moved hW, by rw [eK, hmz]; exact hD⟩, hS.F ht⟩) hS.2.2 dX2_discharge_171
                    · replace c147 := (zr_eq0 (by omega)).mp c147
                      refine lv_aload_n hx hb dX2_discharge_150 rfl (lv_at hl 2 rfl) ?_
                      refine lv_iconst (v := nI 0) hx hb dX2_discharge_151 (by decide) ?_
                      refine va_put (D := D) (ci := 2) (v := .int (nI 0)) (ty := .int) (C := RX2) (T := TX2) (N := 13) hx hb hts (by decide +kernel) tyX2 tyX2_ok nmX2 hown hG.1 hP hD hS 0 mw_m rfl 3 (by decide) (hts (.fieldLink RX2 93 "LopsidedRanksModel" "most" "I") (by decide +kernel)) (fun _ h9 => h9) rfl (by decide +kernel) rfl rfl (Nat.le_of_ble_eq_true rfl) dX2_discharge_152 (fun H locs hP hD hS => ?_)
                      have hP : va_P D vwCl (mw M cZ cI ((nI 0)) (enc (root (delT h0 T))) (nI (siz (delT h0 T))) ((nI 0)) ti dr (nI ((wayT h0 T).length)) ma (upd isIn h0 (nI 0)) (hgL lf (parF h0 none T) h0 (enc (root (.inner s1 k1 v1 l1 r1 : Tr)))) (hgR rt (parF h0 none T) h0 (enc (root (.inner s1 k1 v1 l1 r1 : Tr)))) wy9 rw) H := hP
                      have hD : va_D A (mw M cZ cI ((nI 0)) (enc (root (delT h0 T))) (nI (siz (delT h0 T))) ((nI 0)) ti dr (nI ((wayT h0 T).length)) ma (upd isIn h0 (nI 0)) (hgL lf (parF h0 none T) h0 (enc (root (.inner s1 k1 v1 l1 r1 : Tr)))) (hgR rt (parF h0 none T) h0 (enc (root (.inner s1 k1 v1 l1 r1 : Tr)))) wy9 rw) := hD
                      refine lv_iconst (v := nI 3) hx hb dX2_discharge_155 (by decide) ?_
                      refine lv_aload_n hx hb dX2_discharge_156 rfl (lv_at hl 2 rfl) ?_
                      refine va_get (D := D) (ci := 2) (v := .int (nI (siz (delT h0 T)))) (C := RX2) (T := TX2) (N := 13) hx hb hts (by decide +kernel) hown hG.1 hP 0 mw_m rfl 2 (by decide) (hts (.fieldLink RX2 90 "LopsidedRanksModel" "soldiers" "I") (by decide +kernel)) (fun _ h9 => h9) rfl dX2_discharge_157 ?_
                      refine lv_imul hx hb dX2_discharge_160 ?_
                      refine zr_eqi (pk_mul 3 (siz (delT h0 T))) ?_
                      refine lv_iconst (v := nI 2) hx hb dX2_discharge_161 (by decide) ?_
                      refine lv_aload_n hx hb dX2_discharge_162 rfl (lv_at hl 2 rfl) ?_
                      refine va_get (D := D) (ci := 2) (v := .int ((nI 0))) (C := RX2) (T := TX2) (N := 13) hx hb hts (by decide +kernel) hown hG.1 hP 0 mw_m rfl 3 (by decide) (hts (.fieldLink RX2 93 "LopsidedRanksModel" "most" "I") (by decide +kernel)) (fun _ h9 => h9) rfl dX2_discharge_163 ?_
                      refine lv_imul hx hb dX2_discharge_166 ?_
                      refine zr_eqi (pk_mul 2 0) ?_
                      refine lv_icmp_lt (tgt := 172) hx hb dX2_discharge_167 (by decide) (fun c167 => ?_) (fun c167 => ?_)
                      · exact absurd c167 (by rw [c147]; decide)
                      · refine lv_iconst (v := nI 0) hx hb dX2_discharge_170 (by decide) ?_
                        have ek := kx_nI (show h0 < 2 ^ 31 by omega)
                        have e9 := disS_0 (mo := mo) (dr := ti) (ds := dr) c147
                        have hmz : disZ (nI h0) (T, mo, ti, dr) = _ := (if_pos (show kD (nI h0) T = 0 from kD_0 hh0 hm)).trans ((congrArg (fun z => disS z (T, mo, ti, dr)) ek).trans e9.1)
                        have eK : kD (nI h0) T = 0 := kD_0 hh0 hm
                        exact W.zret (v := (nI 0)) hx hb hr rfl (fun t ht hW => ⟨⟨_, (nI ((wayT h0 T).length), ma, upd isIn h0 (nI 0), hgL lf (parF h0 none T) h0 (enc (root (.inner s1 k1 v1 l1 r1 : Tr))), hgR rt (parF h0 none T) h0 (enc (root (.inner s1 k1 v1 l1 r1 : Tr))), wy9, rw), rfl, ⟨fun _ => by rw [ek, e9.2]; rfl, by rw [hmz]; exact hr1⟩, by rw [eK, hmz, ht]; exact hP, hG.moved hW, by rw [eK, hmz]; exact hD⟩, hS.F ht⟩) hS.2.2 dX2_discharge_171
                  · exact absurd rfl c110
              · exact absurd c74 (nI_m1 (by omega))
            | inner s2 k2 v2 l2 r2 =>
              have hk2 := hlo.r.k
              have ejT : delT h0 T = rep h0 (nd_ (.inner s1 k1 v1 l1 r1) (mnk (.inner s2 k2 v2 l2 r2)) (dmn (.inner s2 k2 v2 l2 r2))) T := by unfold delT; rw [esub]; rfl
              refine lv_aload_n hx hb dX2_discharge_67 rfl (lv_at hl 1 rfl) ?_
              refine va_get (D := D) (ci := 2) (v := .ref M.2.2.1) (C := RX2) (T := TX2) (N := 13) hx hb hts (by decide +kernel) hown hG.1 hP 0 mw_m rfl 7 (by decide) (hts (.fieldLink RX2 17 "LopsidedRanksModel" "left" "[I") (by decide +kernel)) (fun _ h9 => h9) rfl dX2_discharge_68 ?_
              refine lv_iload_n hx hb dX2_discharge_71 rfl (lv_at hl 2 rfl) ?_
              refine zr_iald hx hb hG.1 hP 2 2 mw_l rfl (k := h0) (by omega) (Nat.le_of_ble_eq_true rfl) dX2_discharge_72 ?_
              refine zr_eqi p1 ?_
              refine lv_iconst (v := (-1)) hx hb dX2_discharge_73 (by decide) ?_
              refine lv_icmp_ne (tgt := 86) hx hb dX2_discharge_74 (by decide) (fun c74 => ?_) (fun c74 => ?_)
              · refine lv_aload_n hx hb dX2_discharge_86 rfl (lv_at hl 1 rfl) ?_
                refine va_get (D := D) (ci := 2) (v := .ref M.2.2.1) (C := RX2) (T := TX2) (N := 13) hx hb hts (by decide +kernel) hown hG.1 hP 0 mw_m rfl 7 (by decide) (hts (.fieldLink RX2 17 "LopsidedRanksModel" "left" "[I") (by decide +kernel)) (fun _ h9 => h9) rfl dX2_discharge_87 ?_
                refine lv_iload_n hx hb dX2_discharge_90 rfl (lv_at hl 2 rfl) ?_
                refine zr_iald hx hb hG.1 hP 2 2 mw_l rfl (k := h0) (by omega) (Nat.le_of_ble_eq_true rfl) dX2_discharge_91 ?_
                refine zr_eqi p1 ?_
                refine lv_istore_n (lv' := [(3, .int (nI k1)), (2, .int (enc (parF h0 none T))), (0, .ref M.1), (1, .int (nI h0))]) hx hb dX2_discharge_92 rfl hl (by decide) rfl (fun ls hl => ?_)
                refine lv_aload_n hx hb dX2_discharge_93 rfl (lv_at hl 2 rfl) ?_
                refine va_get (D := D) (ci := 2) (v := .ref M.2.2.1) (C := RX2) (T := TX2) (N := 13) hx hb hts (by decide +kernel) hown hG.1 hP 0 mw_m rfl 7 (by decide) (hts (.fieldLink RX2 17 "LopsidedRanksModel" "left" "[I") (by decide +kernel)) (fun _ h9 => h9) rfl dX2_discharge_94 ?_
                refine lv_iload_n hx hb dX2_discharge_97 rfl (lv_at hl 3 rfl) ?_
                refine zr_iald hx hb hG.1 hP 2 2 mw_l rfl (k := h0) (by omega) (Nat.le_of_ble_eq_true rfl) dX2_discharge_98 ?_
                refine zr_eqi p1 ?_
                refine lv_iconst (v := (-1)) hx hb dX2_discharge_99 (by decide) ?_
                refine lv_icmp_eq (tgt := 119) hx hb dX2_discharge_100 (by decide) (fun c100 => ?_) (fun c100 => ?_)
                · exact absurd c100 (nI_m1 (by omega))
                · refine lv_aload_n hx hb dX2_discharge_103 rfl (lv_at hl 2 rfl) ?_
                  refine va_get (D := D) (ci := 2) (v := .ref M.2.2.2.1) (C := RX2) (T := TX2) (N := 13) hx hb hts (by decide +kernel) hown hG.1 hP 0 mw_m rfl 8 (by decide) (hts (.fieldLink RX2 21 "LopsidedRanksModel" "right" "[I") (by decide +kernel)) (fun _ h9 => h9) rfl dX2_discharge_104 ?_
                  refine lv_iload_n hx hb dX2_discharge_107 rfl (lv_at hl 3 rfl) ?_
                  refine zr_iald hx hb hG.1 hP 3 2 mw_r rfl (k := h0) (by omega) (Nat.le_of_ble_eq_true rfl) dX2_discharge_108 ?_
                  refine zr_eqi p2 ?_
                  refine lv_iconst (v := (-1)) hx hb dX2_discharge_109 (by decide) ?_
                  refine lv_icmp_eq (tgt := 119) hx hb dX2_discharge_110 (by decide) (fun c110 => ?_) (fun c110 => ?_)
                  · exact absurd c110 (nI_m1 (by omega))
                  · refine lv_aload_n hx hb dX2_discharge_113 rfl (lv_at hl 2 rfl) ?_
                    refine lv_iload_n hx hb dX2_discharge_114 rfl (lv_at hl 3 rfl) ?_
                    refine va_calli (va_runV (As := [.int (nI h0)]) (rest := []) ⟨hx, hb, hml, hown, hts⟩ (c_X2_next l hbs hlo (by intro q; cases q) p1 p2 p3 p4) (cwV 1 hts gX2_discharge_X2_next rfl rfl rfl (by decide +kernel) ⟨Nat.le_of_ble_eq_true rfl, Nat.le_of_ble_eq_true rfl⟩) ⟨PcM.blind, va_recv hG.1 hP (ci := 2) (q0 := 0) rfl mw_m, PcM.at (fun q h => hA q (Nat.le_trans hS.1 h)) hP hG hD⟩ rfl rfl hl.1 rfl (lv_room (Nat.le_of_ble_eq_true rfl)) dX2_discharge_115 ⟨Nat.zero_le _, Nat.zero_le _⟩) hS (fun q _ h => h) (fun q h => h) (fun r115 u7 t H locs ht hvm q115 hB hz1 hk1 hS => ?_)
                    obtain ⟨hP, -, hD⟩ := hB
                    rw [ht] at hP
                    have hP : va_P D vwCl (mw M cZ cI ((nI 0)) (enc (root T)) (nI (siz T)) mo ti dr (nI ((wayT h0 T).length)) ma isIn u7.1 u7.2 wy9 rw) H := hP
                    have hD : va_D A (mw M cZ cI ((nI 0)) (enc (root T)) (nI (siz T)) mo ti dr (nI ((wayT h0 T).length)) ma isIn u7.1 u7.2 wy9 rw) := hD
                    obtain ⟨rfl, n1, n2⟩ := q115
                    refine lv_istore_n (lv' := [(3, .int (nI (mnk (.inner s2 k2 v2 l2 r2)))), (2, .int (enc (parF h0 none T))), (0, .ref M.1), (1, .int (nI h0))]) hx hb dX2_discharge_118 rfl hl (by decide) rfl (fun ls hl => ?_)
                    obtain ⟨kd1, kd2⟩ := keys_del hb0 esub
                    have hjk : ∀ j ∈ keysT (nd_ (.inner s1 k1 v1 l1 r1) (mnk (.inner s2 k2 v2 l2 r2)) (dmn (.inner s2 k2 v2 l2 r2))), j ∈ keysT (subT h0 T) ∧ j ≠ h0 := fun j hj => by
                      have q := keys_join hbs
                      rw [show joinT (.inner s1 k1 v1 l1 r1) (.inner s2 k2 v2 l2 r2) = (nd_ (.inner s1 k1 v1 l1 r1) (mnk (.inner s2 k2 v2 l2 r2)) (dmn (.inner s2 k2 v2 l2 r2))) from rfl] at q
                      rw [q, List.mem_append] at hj
                      obtain ⟨b1, b2, b3, b4⟩ := bst_in.mp hbs
                      rw [esub]
                      rcases hj with z | z
                      · exact ⟨(keys_in ..).mpr (Or.inl z), by have := b3 j z; omega⟩
                      · exact ⟨(keys_in ..).mpr (Or.inr (Or.inr z)), by have := b4 j z; omega⟩
                    obtain ⟨s1x, s2x⟩ := kl_sub (h := h0) hb0
                    obtain ⟨z1, z2⟩ := hangM (t := (nd_ (.inner s1 k1 v1 l1 r1) (mnk (.inner s2 k2 v2 l2 r2)) (dmn (.inner s2 k2 v2 l2 r2)))) hb0 hs n1 (fun k _ hn => n2 k (fun z => hn (by rw [esub]; exact (keys_in ..).mpr (Or.inr (Or.inr z))))) (fun j hj => by
                      have q := (hjk j hj).1
                      exact ⟨fun z => by have := s1x j z j q; omega, fun z => by have := s2x j q j z; omega⟩)
                    rw [← ejT] at z1 z2
                    refine lv_aload_n hx hb dX2_discharge_119 rfl (lv_at hl 2 rfl) ?_
                    refine lv_iload_n hx hb dX2_discharge_120 rfl (lv_at hl 1 rfl) ?_
                    refine lv_iload_n hx hb dX2_discharge_121 rfl (lv_at hl 3 rfl) ?_
                    refine lv_iload_n hx hb dX2_discharge_122 rfl (lv_at hl 0 rfl) ?_
                    refine va_callv (va_runV (As := [.int (enc (parF h0 none T)), .int (nI h0), .int (nI (mnk (.inner s2 k2 v2 l2 r2)))]) (rest := []) ⟨hx, hb, hml, hown, hts⟩ (c_X2_hang l (p0 := parF h0 none T) (v0 := enc (root (nd_ (.inner s1 k1 v1 l1 r1) (mnk (.inner s2 k2 v2 l2 r2)) (dmn (.inner s2 k2 v2 l2 r2))))) hh0 (fun c e => hin0 c (parF_mem e))) (cwV 3 hts gX2_discharge_X2_hang rfl rfl rfl (by decide +kernel) ⟨Nat.le_of_ble_eq_true rfl, Nat.le_of_ble_eq_true rfl⟩) ⟨PcM.blind, va_recv hG.1 hP (ci := 2) (q0 := 0) rfl mw_m, PcM.at (fun q h => hA q (Nat.le_trans hS.1 h)) hP hG hD⟩ rfl rfl hl.1 rfl (lv_room (Nat.le_of_ble_eq_true rfl)) dX2_discharge_123 ⟨Nat.zero_le _, Nat.zero_le _⟩) hS (fun q _ h => h) (fun q h => h) (fun u123 t H locs ht hvm q123 hB hz1 hk1 hS => ?_)
                    obtain ⟨hP, -, hD⟩ := hB
                    rw [ht] at hP
                    have hP : va_P D vwCl (mw M cZ cI ((nI 0)) (hgTp (enc (root T)) (parF h0 none T) (enc (root (nd_ (.inner s1 k1 v1 l1 r1) (mnk (.inner s2 k2 v2 l2 r2)) (dmn (.inner s2 k2 v2 l2 r2)))))) (nI (siz T)) mo ti dr (nI ((wayT h0 T).length)) ma isIn (hgL u7.1 (parF h0 none T) h0 (enc (root (nd_ (.inner s1 k1 v1 l1 r1) (mnk (.inner s2 k2 v2 l2 r2)) (dmn (.inner s2 k2 v2 l2 r2)))))) (hgR u7.2 (parF h0 none T) h0 (enc (root (nd_ (.inner s1 k1 v1 l1 r1) (mnk (.inner s2 k2 v2 l2 r2)) (dmn (.inner s2 k2 v2 l2 r2)))))) wy9 rw) H := hP
                    have hD : va_D A (mw M cZ cI ((nI 0)) (hgTp (enc (root T)) (parF h0 none T) (enc (root (nd_ (.inner s1 k1 v1 l1 r1) (mnk (.inner s2 k2 v2 l2 r2)) (dmn (.inner s2 k2 v2 l2 r2)))))) (nI (siz T)) mo ti dr (nI ((wayT h0 T).length)) ma isIn (hgL u7.1 (parF h0 none T) h0 (enc (root (nd_ (.inner s1 k1 v1 l1 r1) (mnk (.inner s2 k2 v2 l2 r2)) (dmn (.inner s2 k2 v2 l2 r2)))))) (hgR u7.2 (parF h0 none T) h0 (enc (root (nd_ (.inner s1 k1 v1 l1 r1) (mnk (.inner s2 k2 v2 l2 r2)) (dmn (.inner s2 k2 v2 l2 r2)))))) wy9 rw) := hD
                    rw [z2] at hP hD
                    have hP : va_P D vwCl (mw M cZ cI ((nI 0)) (enc (root (delT h0 T))) (nI (siz T)) mo ti dr (nI ((wayT h0 T).length)) ma isIn (hgL u7.1 (parF h0 none T) h0 (enc (root (nd_ (.inner s1 k1 v1 l1 r1) (mnk (.inner s2 k2 v2 l2 r2)) (dmn (.inner s2 k2 v2 l2 r2)))))) (hgR u7.2 (parF h0 none T) h0 (enc (root (nd_ (.inner s1 k1 v1 l1 r1) (mnk (.inner s2 k2 v2 l2 r2)) (dmn (.inner s2 k2 v2 l2 r2)))))) wy9 rw) H := hP
                    have hD : va_D A (mw M cZ cI ((nI 0)) (enc (root (delT h0 T))) (nI (siz T)) mo ti dr (nI ((wayT h0 T).length)) ma isIn (hgL u7.1 (parF h0 none T) h0 (enc (root (nd_ (.inner s1 k1 v1 l1 r1) (mnk (.inner s2 k2 v2 l2 r2)) (dmn (.inner s2 k2 v2 l2 r2)))))) (hgR u7.2 (parF h0 none T) h0 (enc (root (nd_ (.inner s1 k1 v1 l1 r1) (mnk (.inner s2 k2 v2 l2 r2)) (dmn (.inner s2 k2 v2 l2 r2)))))) wy9 rw) := hD
                    refine lv_aload_n hx hb dX2_discharge_126 rfl (lv_at hl 2 rfl) ?_
                    refine va_get (D := D) (ci := 2) (v := .ref M.2.1) (C := RX2) (T := TX2) (N := 13) hx hb hts (by decide +kernel) hown hG.1 hP 0 mw_m rfl 6 (by decide) (hts (.fieldLink RX2 13 "LopsidedRanksModel" "isIn" "[Z") (by decide +kernel)) (fun _ h9 => h9) rfl dX2_discharge_127 ?_
                    refine lv_iload_n hx hb dX2_discharge_130 rfl (lv_at hl 3 rfl) ?_
                    refine lv_iconst (v := nI 0) hx hb dX2_discharge_131 (by decide) ?_
                    refine zr_zast hx hb hG.1 hP hD hS 1 1 mw_i rfl (k := h0) (by omega) (Nat.le_of_ble_eq_true rfl) rfl dX2_discharge_132 (fun H locs hP hD hS => ?_)
                    have hP : va_P D vwCl (mw M cZ cI ((nI 0)) (enc (root (delT h0 T))) (nI (siz T)) mo ti dr (nI ((wayT h0 T).length)) ma (upd isIn h0 (nI 0)) (hgL u7.1 (parF h0 none T) h0 (enc (root (nd_ (.inner s1 k1 v1 l1 r1) (mnk (.inner s2 k2 v2 l2 r2)) (dmn (.inner s2 k2 v2 l2 r2)))))) (hgR u7.2 (parF h0 none T) h0 (enc (root (nd_ (.inner s1 k1 v1 l1 r1) (mnk (.inner s2 k2 v2 l2 r2)) (dmn (.inner s2 k2 v2 l2 r2)))))) wy9 rw) H := hP
                    have hD : va_D A (mw M cZ cI ((nI 0)) (enc (root (delT h0 T))) (nI (siz T)) mo ti dr (nI ((wayT h0 T).length)) ma (upd isIn h0 (nI 0)) (hgL u7.1 (parF h0 none T) h0 (enc (root (nd_ (.inner s1 k1 v1 l1 r1) (mnk (.inner s2 k2 v2 l2 r2)) (dmn (.inner s2 k2 v2 l2 r2)))))) (hgR u7.2 (parF h0 none T) h0 (enc (root (nd_ (.inner s1 k1 v1 l1 r1) (mnk (.inner s2 k2 v2 l2 r2)) (dmn (.inner s2 k2 v2 l2 r2)))))) wy9 rw) := hD
                    refine lv_aload_n hx hb dX2_discharge_133 rfl (lv_at hl 2 rfl) ?_
                    refine lv_dup hx hb dX2_discharge_134 rfl ?_
                    refine va_get (D := D) (ci := 2) (v := .int (nI (siz T))) (C := RX2) (T := TX2) (N := 13) hx hb hts (by decide +kernel) hown hG.1 hP 0 mw_m rfl 2 (by decide) (hts (.fieldLink RX2 90 "LopsidedRanksModel" "soldiers" "I") (by decide +kernel)) (fun _ h9 => h9) rfl dX2_discharge_135 ?_
                    refine lv_iconst (v := nI 1) hx hb dX2_discharge_138 (by decide) ?_
                    refine lv_isub hx hb dX2_discharge_139 ?_
                    refine zr_eqi (pk_sub (a := siz T) (b := 1) (by omega)) ?_
                    refine va_put (D := D) (ci := 2) (v := .int (nI ((siz T) - 1))) (ty := .int) (C := RX2) (T := TX2) (N := 13) hx hb hts (by decide +kernel) tyX2 tyX2_ok nmX2 hown hG.1 hP hD hS 0 mw_m rfl 2 (by decide) (hts (.fieldLink RX2 90 "LopsidedRanksModel" "soldiers" "I") (by decide +kernel)) (fun _ h9 => h9) rfl (by decide +kernel) rfl rfl (Nat.le_of_ble_eq_true rfl) dX2_discharge_140 (fun H locs hP hD hS => ?_)
                    have hP : va_P D vwCl (mw M cZ cI ((nI 0)) (enc (root (delT h0 T))) ((nI ((siz T) - 1))) mo ti dr (nI ((wayT h0 T).length)) ma (upd isIn h0 (nI 0)) (hgL u7.1 (parF h0 none T) h0 (enc (root (nd_ (.inner s1 k1 v1 l1 r1) (mnk (.inner s2 k2 v2 l2 r2)) (dmn (.inner s2 k2 v2 l2 r2)))))) (hgR u7.2 (parF h0 none T) h0 (enc (root (nd_ (.inner s1 k1 v1 l1 r1) (mnk (.inner s2 k2 v2 l2 r2)) (dmn (.inner s2 k2 v2 l2 r2)))))) wy9 rw) H := hP
                    have hD : va_D A (mw M cZ cI ((nI 0)) (enc (root (delT h0 T))) ((nI ((siz T) - 1))) mo ti dr (nI ((wayT h0 T).length)) ma (upd isIn h0 (nI 0)) (hgL u7.1 (parF h0 none T) h0 (enc (root (nd_ (.inner s1 k1 v1 l1 r1) (mnk (.inner s2 k2 v2 l2 r2)) (dmn (.inner s2 k2 v2 l2 r2)))))) (hgR u7.2 (parF h0 none T) h0 (enc (root (nd_ (.inner s1 k1 v1 l1 r1) (mnk (.inner s2 k2 v2 l2 r2)) (dmn (.inner s2 k2 v2 l2 r2)))))) wy9 rw) := hD
                    have en1 : (nI ((siz T) - 1)) = nI (siz (delT h0 T)) := congrArg nI (by omega)
                    rw [en1] at hP hD
                    have hP : va_P D vwCl (mw M cZ cI ((nI 0)) (enc (root (delT h0 T))) (nI (siz (delT h0 T))) mo ti dr (nI ((wayT h0 T).length)) ma (upd isIn h0 (nI 0)) (hgL u7.1 (parF h0 none T) h0 (enc (root (nd_ (.inner s1 k1 v1 l1 r1) (mnk (.inner s2 k2 v2 l2 r2)) (dmn (.inner s2 k2 v2 l2 r2)))))) (hgR u7.2 (parF h0 none T) h0 (enc (root (nd_ (.inner s1 k1 v1 l1 r1) (mnk (.inner s2 k2 v2 l2 r2)) (dmn (.inner s2 k2 v2 l2 r2)))))) wy9 rw) H := hP
                    have hD : va_D A (mw M cZ cI ((nI 0)) (enc (root (delT h0 T))) (nI (siz (delT h0 T))) mo ti dr (nI ((wayT h0 T).length)) ma (upd isIn h0 (nI 0)) (hgL u7.1 (parF h0 none T) h0 (enc (root (nd_ (.inner s1 k1 v1 l1 r1) (mnk (.inner s2 k2 v2 l2 r2)) (dmn (.inner s2 k2 v2 l2 r2)))))) (hgR u7.2 (parF h0 none T) h0 (enc (root (nd_ (.inner s1 k1 v1 l1 r1) (mnk (.inner s2 k2 v2 l2 r2)) (dmn (.inner s2 k2 v2 l2 r2)))))) wy9 rw) := hD
                    have hr1 : RepM (delT h0 T) (upd isIn h0 (nI 0)) (hgL u7.1 (parF h0 none T) h0 (enc (root (nd_ (.inner s1 k1 v1 l1 r1) (mnk (.inner s2 k2 v2 l2 r2)) (dmn (.inner s2 k2 v2 l2 r2)))))) (hgR u7.2 (parF h0 none T) h0 (enc (root (nd_ (.inner s1 k1 v1 l1 r1) (mnk (.inner s2 k2 v2 l2 r2)) (dmn (.inner s2 k2 v2 l2 r2)))))) := ⟨db, fun k hk => hin0 k ((dm k).mp hk).1, by omega, z1, fun k hk => by
                      by_cases e : k = h0
                      · subst e
                        rw [upd_s, decide_eq_false (fun q => ((dm k).mp q).2 rfl)]
                        rfl
                      · rw [upd_n _ _ e, hi k hk]
                        congr 1
                        exact decide_eq_decide.mpr ⟨fun q => (dm k).mpr ⟨q, e⟩, fun q => ((dm k).mp q).1⟩⟩
                    refine lv_aload_n hx hb dX2_discharge_143 rfl (lv_at hl 2 rfl) ?_
                    refine va_get (D := D) (ci := 2) (v := .int (nI (siz (delT h0 T)))) (C := RX2) (T := TX2) (N := 13) hx hb hts (by decide +kernel) hown hG.1 hP 0 mw_m rfl 2 (by decide) (hts (.fieldLink RX2 90 "LopsidedRanksModel" "soldiers" "I") (by decide +kernel)) (fun _ h9 => h9) rfl dX2_discharge_144 ?_
                    refine lv_if_ne (tgt := 155) hx hb dX2_discharge_147 (by decide) (fun c147 => ?_) (fun c147 => ?_)
                    · replace c147 := (not_congr (zr_eq0 (by omega))).mp c147
                      refine lv_iconst (v := nI 3) hx hb dX2_discharge_155 (by decide) ?_
                      refine lv_aload_n hx hb dX2_discharge_156 rfl (lv_at hl 2 rfl) ?_
                      refine va_get (D := D) (ci := 2) (v := .int (nI (siz (delT h0 T)))) (C := RX2) (T := TX2) (N := 13) hx hb hts (by decide +kernel) hown hG.1 hP 0 mw_m rfl 2 (by decide) (hts (.fieldLink RX2 90 "LopsidedRanksModel" "soldiers" "I") (by decide +kernel)) (fun _ h9 => h9) rfl dX2_discharge_157 ?_
                      refine lv_imul hx hb dX2_discharge_160 ?_
                      refine zr_eqi (pk_mul 3 (siz (delT h0 T))) ?_
                      refine lv_iconst (v := nI 2) hx hb dX2_discharge_161 (by decide) ?_
                      refine lv_aload_n hx hb dX2_discharge_162 rfl (lv_at hl 2 rfl) ?_
                      refine va_get (D := D) (ci := 2) (v := .int mo) (C := RX2) (T := TX2) (N := 13) hx hb hts (by decide +kernel) hown hG.1 hP 0 mw_m rfl 3 (by decide) (hts (.fieldLink RX2 93 "LopsidedRanksModel" "most" "I") (by decide +kernel)) (fun _ h9 => h9) rfl dX2_discharge_163 ?_
                      refine lv_imul hx hb dX2_discharge_166 ?_
                      refine lv_icmp_lt (tgt := 172) hx hb dX2_discharge_167 (by decide) (fun c167 => ?_) (fun c167 => ?_)
                      · have hlt : nI 3 * nI (siz (delT h0 T)) < nI 2 * mo := by rw [pk_mul]; exact c167
                        refine lv_aload_n hx hb dX2_discharge_172 rfl (lv_at hl 2 rfl) ?_
                        refine lv_aload_n hx hb dX2_discharge_173 rfl (lv_at hl 2 rfl) ?_
                        refine va_get (D := D) (ci := 2) (v := .int (enc (root (delT h0 T)))) (C := RX2) (T := TX2) (N := 13) hx hb hts (by decide +kernel) hown hG.1 hP 0 mw_m rfl 1 (by decide) (hts (.fieldLink RX2 9 "LopsidedRanksModel" "top" "I") (by decide +kernel)) (fun _ h9 => h9) rfl dX2_discharge_174 ?_
                        obtain ⟨c0, hc0⟩ : ∃ c0, root (delT h0 T) = some c0 := by
                          cases e : delT h0 T with
                          | leaf => rw [e] at c147; exact absurd rfl c147
                          | inner s k v l r => exact ⟨k, rfl⟩
                        refine zr_eqi (congrArg enc hc0) ?_
                        obtain ⟨k1d, k2d⟩ := draw_keys (c := c0) hr1.2.2.1
                        refine va_calli (va_runV (As := [.int (nI c0)]) (rest := []) ⟨hx, hb, hml, hown, hts⟩ (c_X2_drawUp l (T := delT h0 T) hr1 (root_in hc0)) (cwV 1 hts gX2_discharge_X2_drawUp rfl rfl rfl (by decide +kernel) ⟨Nat.le_of_ble_eq_true rfl, Nat.le_of_ble_eq_true rfl⟩) ⟨PcM.blind, va_recv hG.1 hP (ci := 2) (q0 := 0) rfl mw_m, PcM.at (fun q h => hA q (Nat.le_trans hS.1 h)) hP hG hD⟩ rfl rfl hl.1 rfl (lv_room (Nat.le_of_ble_eq_true rfl)) dX2_discharge_177 ⟨Nat.zero_le _, Nat.zero_le _⟩) hS (fun q _ h => h) (fun q h => h) (fun r177 u9 t H locs ht hvm q177 hB hz1 hk1 hS => ?_)
                        obtain ⟨hP, -, hD⟩ := hB
                        rw [ht] at hP
                        have hP : va_P D vwCl (mw M cZ cI ((nI 0)) (enc (root (drawT c0 (delT h0 T)))) (nI (siz (delT h0 T))) (moD (delT h0 T) c0 mo) (ti + nI 1) (dr + nI (siz (subT c0 (delT h0 T)))) u9.1 u9.2.1 u9.2.2.1 u9.2.2.2.1 u9.2.2.2.2.1 u9.2.2.2.2.2.1 u9.2.2.2.2.2.2) H := hP
                        have hD : va_D A (mw M cZ cI ((nI 0)) (enc (root (drawT c0 (delT h0 T)))) (nI (siz (delT h0 T))) (moD (delT h0 T) c0 mo) (ti + nI 1) (dr + nI (siz (subT c0 (delT h0 T)))) u9.1 u9.2.1 u9.2.2.1 u9.2.2.2.1 u9.2.2.2.2.1 u9.2.2.2.2.2.1 u9.2.2.2.2.2.2) := hD
                        obtain ⟨rfl, hr4⟩ := q177
                        refine lv_pop hx hb dX2_discharge_180 rfl ?_
                        refine lv_iconst (v := nI 1) hx hb dX2_discharge_181 (by decide) ?_
                        have ek := kx_nI (show h0 < 2 ^ 31 by omega)
                        have e9 := disS_1 (dr := ti) (ds := dr) c147 hlt hc0
                        have hP : va_P D vwCl (mw M cZ cI ((nI 0)) (enc (root (drawT c0 (delT h0 T)))) (nI (siz (drawT c0 (delT h0 T)))) (moD (delT h0 T) c0 mo) (ti + nI 1) (dr + nI (siz (subT c0 (delT h0 T)))) u9.1 u9.2.1 u9.2.2.1 u9.2.2.2.1 u9.2.2.2.2.1 u9.2.2.2.2.2.1 u9.2.2.2.2.2.2) H := by rw [k2d]; exact hP
                        have hD : va_D A (mw M cZ cI ((nI 0)) (enc (root (drawT c0 (delT h0 T)))) (nI (siz (drawT c0 (delT h0 T)))) (moD (delT h0 T) c0 mo) (ti + nI 1) (dr + nI (siz (subT c0 (delT h0 T)))) u9.1 u9.2.1 u9.2.2.1 u9.2.2.2.1 u9.2.2.2.2.1 u9.2.2.2.2.2.1 u9.2.2.2.2.2.2) := by rw [k2d]; exact hD
                        have hmz : disZ (nI h0) (T, mo, ti, dr) = _ := (if_pos (show kD (nI h0) T = 0 from kD_0 hh0 hm)).trans ((congrArg (fun z => disS z (T, mo, ti, dr)) ek).trans e9.1)
                        have eK : kD (nI h0) T = 0 := kD_0 hh0 hm
                        exact W.zret (v := (nI 1)) hx hb hr rfl (fun t ht hW => ⟨⟨_, (u9.1, u9.2.1, u9.2.2.1, u9.2.2.2.1, u9.2.2.2.2.1, u9.2.2.2.2.2.1, u9.2.2.2.2.2.2), rfl, ⟨fun _ => by rw [ek, e9.2]; rfl, by rw [hmz]; exact hr4⟩, by rw [eK, hmz, ht]; exact hP, hG.moved hW, by rw [eK, hmz]; exact hD⟩, hS.F ht⟩) hS.2.2 dX2_discharge_182
                      · have hlt : ¬ nI 3 * nI (siz (delT h0 T)) < nI 2 * mo := by rw [pk_mul]; exact c167
                        refine lv_iconst (v := nI 0) hx hb dX2_discharge_170 (by decide) ?_
                        have ek := kx_nI (show h0 < 2 ^ 31 by omega)
                        have e9 := disS_2 (dr := ti) (ds := dr) c147 hlt
                        have hmz : disZ (nI h0) (T, mo, ti, dr) = _ := (if_pos (show kD (nI h0) T = 0 from kD_0 hh0 hm)).trans ((congrArg (fun z => disS z (T, mo, ti, dr)) ek).trans e9.1)
                        have eK : kD (nI h0) T = 0 := kD_0 hh0 hm
                        exact W.zret (v := (nI 0)) hx hb hr rfl (fun t ht hW => ⟨⟨_, (nI ((wayT h0 T).length), ma, upd isIn h0 (nI 0), hgL u7.1 (parF h0 none T) h0 (enc (root (nd_ (.inner s1 k1 v1 l1 r1) (mnk (.inner s2 k2 v2 l2 r2)) (dmn (.inner s2 k2 v2 l2 r2))))), hgR u7.2 (parF h0 none T) h0 (enc (root (nd_ (.inner s1 k1 v1 l1 r1) (mnk (.inner s2 k2 v2 l2 r2)) (dmn (.inner s2 k2 v2 l2 r2))))), wy9, rw), rfl, ⟨fun _ => by rw [ek, e9.2]; rfl, by rw [hmz]; exact hr1⟩, by rw [eK, hmz, ht]; exact hP, hG.moved hW, by rw [eK, hmz]; exact hD⟩, hS.F ht⟩) hS.2.2 dX2_discharge_171
                    · replace c147 := (zr_eq0 (by omega)).mp c147
                      refine lv_aload_n hx hb dX2_discharge_150 rfl (lv_at hl 2 rfl) ?_
                      refine lv_iconst (v := nI 0) hx hb dX2_discharge_151 (by decide) ?_
                      refine va_put (D := D) (ci := 2) (v := .int (nI 0)) (ty := .int) (C := RX2) (T := TX2) (N := 13) hx hb hts (by decide +kernel) tyX2 tyX2_ok nmX2 hown hG.1 hP hD hS 0 mw_m rfl 3 (by decide) (hts (.fieldLink RX2 93 "LopsidedRanksModel" "most" "I") (by decide +kernel)) (fun _ h9 => h9) rfl (by decide +kernel) rfl rfl (Nat.le_of_ble_eq_true rfl) dX2_discharge_152 (fun H locs hP hD hS => ?_)
                      have hP : va_P D vwCl (mw M cZ cI ((nI 0)) (enc (root (delT h0 T))) (nI (siz (delT h0 T))) ((nI 0)) ti dr (nI ((wayT h0 T).length)) ma (upd isIn h0 (nI 0)) (hgL u7.1 (parF h0 none T) h0 (enc (root (nd_ (.inner s1 k1 v1 l1 r1) (mnk (.inner s2 k2 v2 l2 r2)) (dmn (.inner s2 k2 v2 l2 r2)))))) (hgR u7.2 (parF h0 none T) h0 (enc (root (nd_ (.inner s1 k1 v1 l1 r1) (mnk (.inner s2 k2 v2 l2 r2)) (dmn (.inner s2 k2 v2 l2 r2)))))) wy9 rw) H := hP
                      have hD : va_D A (mw M cZ cI ((nI 0)) (enc (root (delT h0 T))) (nI (siz (delT h0 T))) ((nI 0)) ti dr (nI ((wayT h0 T).length)) ma (upd isIn h0 (nI 0)) (hgL u7.1 (parF h0 none T) h0 (enc (root (nd_ (.inner s1 k1 v1 l1 r1) (mnk (.inner s2 k2 v2 l2 r2)) (dmn (.inner s2 k2 v2 l2 r2)))))) (hgR u7.2 (parF h0 none T) h0 (enc (root (nd_ (.inner s1 k1 v1 l1 r1) (mnk (.inner s2 k2 v2 l2 r2)) (dmn (.inner s2 k2 v2 l2 r2)))))) wy9 rw) := hD
                      refine lv_iconst (v := nI 3) hx hb dX2_discharge_155 (by decide) ?_
                      refine lv_aload_n hx hb dX2_discharge_156 rfl (lv_at hl 2 rfl) ?_
                      refine va_get (D := D) (ci := 2) (v := .int (nI (siz (delT h0 T)))) (C := RX2) (T := TX2) (N := 13) hx hb hts (by decide +kernel) hown hG.1 hP 0 mw_m rfl 2 (by decide) (hts (.fieldLink RX2 90 "LopsidedRanksModel" "soldiers" "I") (by decide +kernel)) (fun _ h9 => h9) rfl dX2_discharge_157 ?_
                      refine lv_imul hx hb dX2_discharge_160 ?_
                      refine zr_eqi (pk_mul 3 (siz (delT h0 T))) ?_
                      refine lv_iconst (v := nI 2) hx hb dX2_discharge_161 (by decide) ?_
                      refine lv_aload_n hx hb dX2_discharge_162 rfl (lv_at hl 2 rfl) ?_
                      refine va_get (D := D) (ci := 2) (v := .int ((nI 0))) (C := RX2) (T := TX2) (N := 13) hx hb hts (by decide +kernel) hown hG.1 hP 0 mw_m rfl 3 (by decide) (hts (.fieldLink RX2 93 "LopsidedRanksModel" "most" "I") (by decide +kernel)) (fun _ h9 => h9) rfl dX2_discharge_163 ?_
                      refine lv_imul hx hb dX2_discharge_166 ?_
                      refine zr_eqi (pk_mul 2 0) ?_
                      refine lv_icmp_lt (tgt := 172) hx hb dX2_discharge_167 (by decide) (fun c167 => ?_) (fun c167 => ?_)
                      · exact absurd c167 (by rw [c147]; decide)
                      · refine lv_iconst (v := nI 0) hx hb dX2_discharge_170 (by decide) ?_
                        have ek := kx_nI (show h0 < 2 ^ 31 by omega)
                        have e9 := disS_0 (mo := mo) (dr := ti) (ds := dr) c147
                        have hmz : disZ (nI h0) (T, mo, ti, dr) = _ := (if_pos (show kD (nI h0) T = 0 from kD_0 hh0 hm)).trans ((congrArg (fun z => disS z (T, mo, ti, dr)) ek).trans e9.1)
                        have eK : kD (nI h0) T = 0 := kD_0 hh0 hm
                        exact W.zret (v := (nI 0)) hx hb hr rfl (fun t ht hW => ⟨⟨_, (nI ((wayT h0 T).length), ma, upd isIn h0 (nI 0), hgL u7.1 (parF h0 none T) h0 (enc (root (nd_ (.inner s1 k1 v1 l1 r1) (mnk (.inner s2 k2 v2 l2 r2)) (dmn (.inner s2 k2 v2 l2 r2))))), hgR u7.2 (parF h0 none T) h0 (enc (root (nd_ (.inner s1 k1 v1 l1 r1) (mnk (.inner s2 k2 v2 l2 r2)) (dmn (.inner s2 k2 v2 l2 r2))))), wy9, rw), rfl, ⟨fun _ => by rw [ek, e9.2]; rfl, by rw [hmz]; exact hr1⟩, by rw [eK, hmz, ht]; exact hP, hG.moved hW, by rw [eK, hmz]; exact hD⟩, hS.F ht⟩) hS.2.2 dX2_discharge_171
              · exact absurd c74 (nI_m1 (by omega))
        · rw [nI_leI (by omega) (by omega)] at c48
          refine lv_aload_n hx hb dX2_discharge_51 rfl (lv_at hl 0 rfl) ?_
          refine va_get (D := D) (ci := 2) (v := .ref M.2.2.2.2.1) (C := RX2) (T := TX2) (N := 13) hx hb hts (by decide +kernel) hown hG.1 hP 0 mw_m rfl 9 (by decide) (hts (.fieldLink RX2 24 "LopsidedRanksModel" "way" "[I") (by decide +kernel)) (fun _ h9 => h9) rfl dX2_discharge_52 ?_
          refine lv_aload_n hx hb dX2_discharge_55 rfl (lv_at hl 0 rfl) ?_
          refine va_get (D := D) (ci := 2) (v := .int (nI ((wayT h0 T).length))) (C := RX2) (T := TX2) (N := 13) hx hb hts (by decide +kernel) hown hG.1 hP 0 mw_m rfl 10 (by decide) (hts (.fieldLink RX2 33 "LopsidedRanksModel" "steps" "I") (by decide +kernel)) (fun _ h9 => h9) rfl dX2_discharge_56 ?_
          refine lv_iconst (v := nI 2) hx hb dX2_discharge_59 (by decide) ?_
          refine lv_isub hx hb dX2_discharge_60 ?_
          refine zr_eqi (pk_sub (a := (wayT h0 T).length) (b := 2) (by omega)) ?_
          refine zr_iald hx hb hG.1 hP 4 2 mw_w rfl (k := ((wayT h0 T).length) - 2) (by omega) (Nat.le_of_ble_eq_true rfl) dX2_discharge_61 ?_
          refine lv_goto (tgt := 66) hx hb dX2_discharge_62 (by decide) ?_
          refine zr_eqi (show _ = enc (parF h0 none T) from wb (by omega)) ?_
          refine lv_istore_n (lv' := [(2, .int (enc (parF h0 none T))), (0, .ref M.1), (1, .int (nI h0))]) hx hb dX2_discharge_66 rfl hl (by decide) rfl (fun ls hl => ?_)
          cases tl with
          | leaf =>
            have ejT : delT h0 T = rep h0 tr T := by unfold delT; rw [esub]; rfl
            refine lv_aload_n hx hb dX2_discharge_67 rfl (lv_at hl 1 rfl) ?_
            refine va_get (D := D) (ci := 2) (v := .ref M.2.2.1) (C := RX2) (T := TX2) (N := 13) hx hb hts (by decide +kernel) hown hG.1 hP 0 mw_m rfl 7 (by decide) (hts (.fieldLink RX2 17 "LopsidedRanksModel" "left" "[I") (by decide +kernel)) (fun _ h9 => h9) rfl dX2_discharge_68 ?_
            refine lv_iload_n hx hb dX2_discharge_71 rfl (lv_at hl 2 rfl) ?_
            refine zr_iald hx hb hG.1 hP 2 2 mw_l rfl (k := h0) (by omega) (Nat.le_of_ble_eq_true rfl) dX2_discharge_72 ?_
            refine zr_eqi p1 ?_
            refine lv_iconst (v := (-1)) hx hb dX2_discharge_73 (by decide) ?_
            refine lv_icmp_ne (tgt := 86) hx hb dX2_discharge_74 (by decide) (fun c74 => ?_) (fun c74 => ?_)
            · exact absurd rfl c74
            · refine lv_aload_n hx hb dX2_discharge_77 rfl (lv_at hl 1 rfl) ?_
              refine va_get (D := D) (ci := 2) (v := .ref M.2.2.2.1) (C := RX2) (T := TX2) (N := 13) hx hb hts (by decide +kernel) hown hG.1 hP 0 mw_m rfl 8 (by decide) (hts (.fieldLink RX2 21 "LopsidedRanksModel" "right" "[I") (by decide +kernel)) (fun _ h9 => h9) rfl dX2_discharge_78 ?_
              refine lv_iload_n hx hb dX2_discharge_81 rfl (lv_at hl 2 rfl) ?_
              refine zr_iald hx hb hG.1 hP 3 2 mw_r rfl (k := h0) (by omega) (Nat.le_of_ble_eq_true rfl) dX2_discharge_82 ?_
              refine zr_eqi p2 ?_
              refine lv_goto (tgt := 92) hx hb dX2_discharge_83 (by decide) ?_
              refine lv_istore_n (lv' := [(3, .int (enc (root tr))), (2, .int (enc (parF h0 none T))), (0, .ref M.1), (1, .int (nI h0))]) hx hb dX2_discharge_92 rfl hl (by decide) rfl (fun ls hl => ?_)
              refine lv_aload_n hx hb dX2_discharge_93 rfl (lv_at hl 2 rfl) ?_
              refine va_get (D := D) (ci := 2) (v := .ref M.2.2.1) (C := RX2) (T := TX2) (N := 13) hx hb hts (by decide +kernel) hown hG.1 hP 0 mw_m rfl 7 (by decide) (hts (.fieldLink RX2 17 "LopsidedRanksModel" "left" "[I") (by decide +kernel)) (fun _ h9 => h9) rfl dX2_discharge_94 ?_
              refine lv_iload_n hx hb dX2_discharge_97 rfl (lv_at hl 3 rfl) ?_
              refine zr_iald hx hb hG.1 hP 2 2 mw_l rfl (k := h0) (by omega) (Nat.le_of_ble_eq_true rfl) dX2_discharge_98 ?_
              refine zr_eqi p1 ?_
              refine lv_iconst (v := (-1)) hx hb dX2_discharge_99 (by decide) ?_
              refine lv_icmp_eq (tgt := 119) hx hb dX2_discharge_100 (by decide) (fun c100 => ?_) (fun c100 => ?_)
              · obtain ⟨kd1, kd2⟩ := keys_del hb0 esub
                have hjk : ∀ j ∈ keysT tr, j ∈ keysT (subT h0 T) ∧ j ≠ h0 := fun j hj => by
                  obtain ⟨b1, b2, b3, b4⟩ := bst_in.mp hbs
                  rw [esub]
                  exact ⟨(keys_in ..).mpr (Or.inr (Or.inr hj)), by have := b4 j hj; omega⟩
                obtain ⟨s1x, s2x⟩ := kl_sub (h := h0) hb0
                obtain ⟨z1, z2⟩ := hangM (t := tr) hb0 hs p4 (fun k _ _ => ⟨rfl, rfl⟩) (fun j hj => by
                  have q := (hjk j hj).1
                  exact ⟨fun z => by have := s1x j z j q; omega, fun z => by have := s2x j q j z; omega⟩)
                rw [← ejT] at z1 z2
                refine lv_aload_n hx hb dX2_discharge_119 rfl (lv_at hl 2 rfl) ?_
                refine lv_iload_n hx hb dX2_discharge_120 rfl (lv_at hl 1 rfl) ?_
                refine lv_iload_n hx hb dX2_discharge_121 rfl (lv_at hl 3 rfl) ?_
                refine lv_iload_n hx hb dX2_discharge_122 rfl (lv_at hl 0 rfl) ?_
                refine va_callv (va_runV (As := [.int (enc (parF h0 none T)), .int (nI h0), .int (enc (root tr))]) (rest := []) ⟨hx, hb, hml, hown, hts⟩ (c_X2_hang l (p0 := parF h0 none T) (v0 := enc (root tr)) hh0 (fun c e => hin0 c (parF_mem e))) (cwV 3 hts gX2_discharge_X2_hang rfl rfl rfl (by decide +kernel) ⟨Nat.le_of_ble_eq_true rfl, Nat.le_of_ble_eq_true rfl⟩) ⟨PcM.blind, va_recv hG.1 hP (ci := 2) (q0 := 0) rfl mw_m, PcM.at (fun q h => hA q (Nat.le_trans hS.1 h)) hP hG hD⟩ rfl rfl hl.1 rfl (lv_room (Nat.le_of_ble_eq_true rfl)) dX2_discharge_123 ⟨Nat.zero_le _, Nat.zero_le _⟩) hS (fun q _ h => h) (fun q h => h) (fun u123 t H locs ht hvm q123 hB hz1 hk1 hS => ?_)
                obtain ⟨hP, -, hD⟩ := hB
                rw [ht] at hP
                have hP : va_P D vwCl (mw M cZ cI ((nI 0)) (hgTp (enc (root T)) (parF h0 none T) (enc (root tr))) (nI (siz T)) mo ti dr (nI ((wayT h0 T).length)) ma isIn (hgL lf (parF h0 none T) h0 (enc (root tr))) (hgR rt (parF h0 none T) h0 (enc (root tr))) wy9 rw) H := hP
                have hD : va_D A (mw M cZ cI ((nI 0)) (hgTp (enc (root T)) (parF h0 none T) (enc (root tr))) (nI (siz T)) mo ti dr (nI ((wayT h0 T).length)) ma isIn (hgL lf (parF h0 none T) h0 (enc (root tr))) (hgR rt (parF h0 none T) h0 (enc (root tr))) wy9 rw) := hD
                rw [z2] at hP hD
                have hP : va_P D vwCl (mw M cZ cI ((nI 0)) (enc (root (delT h0 T))) (nI (siz T)) mo ti dr (nI ((wayT h0 T).length)) ma isIn (hgL lf (parF h0 none T) h0 (enc (root tr))) (hgR rt (parF h0 none T) h0 (enc (root tr))) wy9 rw) H := hP
                have hD : va_D A (mw M cZ cI ((nI 0)) (enc (root (delT h0 T))) (nI (siz T)) mo ti dr (nI ((wayT h0 T).length)) ma isIn (hgL lf (parF h0 none T) h0 (enc (root tr))) (hgR rt (parF h0 none T) h0 (enc (root tr))) wy9 rw) := hD
                refine lv_aload_n hx hb dX2_discharge_126 rfl (lv_at hl 2 rfl) ?_
                refine va_get (D := D) (ci := 2) (v := .ref M.2.1) (C := RX2) (T := TX2) (N := 13) hx hb hts (by decide +kernel) hown hG.1 hP 0 mw_m rfl 6 (by decide) (hts (.fieldLink RX2 13 "LopsidedRanksModel" "isIn" "[Z") (by decide +kernel)) (fun _ h9 => h9) rfl dX2_discharge_127 ?_
                refine lv_iload_n hx hb dX2_discharge_130 rfl (lv_at hl 3 rfl) ?_
                refine lv_iconst (v := nI 0) hx hb dX2_discharge_131 (by decide) ?_
                refine zr_zast hx hb hG.1 hP hD hS 1 1 mw_i rfl (k := h0) (by omega) (Nat.le_of_ble_eq_true rfl) rfl dX2_discharge_132 (fun H locs hP hD hS => ?_)
                have hP : va_P D vwCl (mw M cZ cI ((nI 0)) (enc (root (delT h0 T))) (nI (siz T)) mo ti dr (nI ((wayT h0 T).length)) ma (upd isIn h0 (nI 0)) (hgL lf (parF h0 none T) h0 (enc (root tr))) (hgR rt (parF h0 none T) h0 (enc (root tr))) wy9 rw) H := hP
                have hD : va_D A (mw M cZ cI ((nI 0)) (enc (root (delT h0 T))) (nI (siz T)) mo ti dr (nI ((wayT h0 T).length)) ma (upd isIn h0 (nI 0)) (hgL lf (parF h0 none T) h0 (enc (root tr))) (hgR rt (parF h0 none T) h0 (enc (root tr))) wy9 rw) := hD
                refine lv_aload_n hx hb dX2_discharge_133 rfl (lv_at hl 2 rfl) ?_
                refine lv_dup hx hb dX2_discharge_134 rfl ?_
                refine va_get (D := D) (ci := 2) (v := .int (nI (siz T))) (C := RX2) (T := TX2) (N := 13) hx hb hts (by decide +kernel) hown hG.1 hP 0 mw_m rfl 2 (by decide) (hts (.fieldLink RX2 90 "LopsidedRanksModel" "soldiers" "I") (by decide +kernel)) (fun _ h9 => h9) rfl dX2_discharge_135 ?_
                refine lv_iconst (v := nI 1) hx hb dX2_discharge_138 (by decide) ?_
                refine lv_isub hx hb dX2_discharge_139 ?_
                refine zr_eqi (pk_sub (a := siz T) (b := 1) (by omega)) ?_
                refine va_put (D := D) (ci := 2) (v := .int (nI ((siz T) - 1))) (ty := .int) (C := RX2) (T := TX2) (N := 13) hx hb hts (by decide +kernel) tyX2 tyX2_ok nmX2 hown hG.1 hP hD hS 0 mw_m rfl 2 (by decide) (hts (.fieldLink RX2 90 "LopsidedRanksModel" "soldiers" "I") (by decide +kernel)) (fun _ h9 => h9) rfl (by decide +kernel) rfl rfl (Nat.le_of_ble_eq_true rfl) dX2_discharge_140 (fun H locs hP hD hS => ?_)
                have hP : va_P D vwCl (mw M cZ cI ((nI 0)) (enc (root (delT h0 T))) ((nI ((siz T) - 1))) mo ti dr (nI ((wayT h0 T).length)) ma (upd isIn h0 (nI 0)) (hgL lf (parF h0 none T) h0 (enc (root tr))) (hgR rt (parF h0 none T) h0 (enc (root tr))) wy9 rw) H := hP
                have hD : va_D A (mw M cZ cI ((nI 0)) (enc (root (delT h0 T))) ((nI ((siz T) - 1))) mo ti dr (nI ((wayT h0 T).length)) ma (upd isIn h0 (nI 0)) (hgL lf (parF h0 none T) h0 (enc (root tr))) (hgR rt (parF h0 none T) h0 (enc (root tr))) wy9 rw) := hD
                have en1 : (nI ((siz T) - 1)) = nI (siz (delT h0 T)) := congrArg nI (by omega)
                rw [en1] at hP hD
                have hP : va_P D vwCl (mw M cZ cI ((nI 0)) (enc (root (delT h0 T))) (nI (siz (delT h0 T))) mo ti dr (nI ((wayT h0 T).length)) ma (upd isIn h0 (nI 0)) (hgL lf (parF h0 none T) h0 (enc (root tr))) (hgR rt (parF h0 none T) h0 (enc (root tr))) wy9 rw) H := hP
                have hD : va_D A (mw M cZ cI ((nI 0)) (enc (root (delT h0 T))) (nI (siz (delT h0 T))) mo ti dr (nI ((wayT h0 T).length)) ma (upd isIn h0 (nI 0)) (hgL lf (parF h0 none T) h0 (enc (root tr))) (hgR rt (parF h0 none T) h0 (enc (root tr))) wy9 rw) := hD
                have hr1 : RepM (delT h0 T) (upd isIn h0 (nI 0)) (hgL lf (parF h0 none T) h0 (enc (root tr))) (hgR rt (parF h0 none T) h0 (enc (root tr))) := ⟨db, fun k hk => hin0 k ((dm k).mp hk).1, by omega, z1, fun k hk => by
                  by_cases e : k = h0
                  · subst e
                    rw [upd_s, decide_eq_false (fun q => ((dm k).mp q).2 rfl)]
                    rfl
                  · rw [upd_n _ _ e, hi k hk]
                    congr 1
                    exact decide_eq_decide.mpr ⟨fun q => (dm k).mpr ⟨q, e⟩, fun q => ((dm k).mp q).1⟩⟩
                refine lv_aload_n hx hb dX2_discharge_143 rfl (lv_at hl 2 rfl) ?_
                refine va_get (D := D) (ci := 2) (v := .int (nI (siz (delT h0 T)))) (C := RX2) (T := TX2) (N := 13) hx hb hts (by decide +kernel) hown hG.1 hP 0 mw_m rfl 2 (by decide) (hts (.fieldLink RX2 90 "LopsidedRanksModel" "soldiers" "I") (by decide +kernel)) (fun _ h9 => h9) rfl dX2_discharge_144 ?_
                refine lv_if_ne (tgt := 155) hx hb dX2_discharge_147 (by decide) (fun c147 => ?_) (fun c147 => ?_)
                · replace c147 := (not_congr (zr_eq0 (by omega))).mp c147
                  refine lv_iconst (v := nI 3) hx hb dX2_discharge_155 (by decide) ?_
                  refine lv_aload_n hx hb dX2_discharge_156 rfl (lv_at hl 2 rfl) ?_
                  refine va_get (D := D) (ci := 2) (v := .int (nI (siz (delT h0 T)))) (C := RX2) (T := TX2) (N := 13) hx hb hts (by decide +kernel) hown hG.1 hP 0 mw_m rfl 2 (by decide) (hts (.fieldLink RX2 90 "LopsidedRanksModel" "soldiers" "I") (by decide +kernel)) (fun _ h9 => h9) rfl dX2_discharge_157 ?_
                  refine lv_imul hx hb dX2_discharge_160 ?_
                  refine zr_eqi (pk_mul 3 (siz (delT h0 T))) ?_
                  refine lv_iconst (v := nI 2) hx hb dX2_discharge_161 (by decide) ?_
                  refine lv_aload_n hx hb dX2_discharge_162 rfl (lv_at hl 2 rfl) ?_
                  refine va_get (D := D) (ci := 2) (v := .int mo) (C := RX2) (T := TX2) (N := 13) hx hb hts (by decide +kernel) hown hG.1 hP 0 mw_m rfl 3 (by decide) (hts (.fieldLink RX2 93 "LopsidedRanksModel" "most" "I") (by decide +kernel)) (fun _ h9 => h9) rfl dX2_discharge_163 ?_
                  refine lv_imul hx hb dX2_discharge_166 ?_
                  refine lv_icmp_lt (tgt := 172) hx hb dX2_discharge_167 (by decide) (fun c167 => ?_) (fun c167 => ?_)
                  · have hlt : nI 3 * nI (siz (delT h0 T)) < nI 2 * mo := by rw [pk_mul]; exact c167
                    refine lv_aload_n hx hb dX2_discharge_172 rfl (lv_at hl 2 rfl) ?_
                    refine lv_aload_n hx hb dX2_discharge_173 rfl (lv_at hl 2 rfl) ?_
                    refine va_get (D := D) (ci := 2) (v := .int (enc (root (delT h0 T)))) (C := RX2) (T := TX2) (N := 13) hx hb hts (by decide +kernel) hown hG.1 hP 0 mw_m rfl 1 (by decide) (hts (.fieldLink RX2 9 "LopsidedRanksModel" "top" "I") (by decide +kernel)) (fun _ h9 => h9) rfl dX2_discharge_174 ?_
                    obtain ⟨c0, hc0⟩ : ∃ c0, root (delT h0 T) = some c0 := by
                      cases e : delT h0 T with
                      | leaf => rw [e] at c147; exact absurd rfl c147
                      | inner s k v l r => exact ⟨k, rfl⟩
                    refine zr_eqi (congrArg enc hc0) ?_
                    obtain ⟨k1d, k2d⟩ := draw_keys (c := c0) hr1.2.2.1
                    refine va_calli (va_runV (As := [.int (nI c0)]) (rest := []) ⟨hx, hb, hml, hown, hts⟩ (c_X2_drawUp l (T := delT h0 T) hr1 (root_in hc0)) (cwV 1 hts gX2_discharge_X2_drawUp rfl rfl rfl (by decide +kernel) ⟨Nat.le_of_ble_eq_true rfl, Nat.le_of_ble_eq_true rfl⟩) ⟨PcM.blind, va_recv hG.1 hP (ci := 2) (q0 := 0) rfl mw_m, PcM.at (fun q h => hA q (Nat.le_trans hS.1 h)) hP hG hD⟩ rfl rfl hl.1 rfl (lv_room (Nat.le_of_ble_eq_true rfl)) dX2_discharge_177 ⟨Nat.zero_le _, Nat.zero_le _⟩) hS (fun q _ h => h) (fun q h => h) (fun r177 u9 t H locs ht hvm q177 hB hz1 hk1 hS => ?_)
                    obtain ⟨hP, -, hD⟩ := hB
                    rw [ht] at hP
                    have hP : va_P D vwCl (mw M cZ cI ((nI 0)) (enc (root (drawT c0 (delT h0 T)))) (nI (siz (delT h0 T))) (moD (delT h0 T) c0 mo) (ti + nI 1) (dr + nI (siz (subT c0 (delT h0 T)))) u9.1 u9.2.1 u9.2.2.1 u9.2.2.2.1 u9.2.2.2.2.1 u9.2.2.2.2.2.1 u9.2.2.2.2.2.2) H := hP
                    have hD : va_D A (mw M cZ cI ((nI 0)) (enc (root (drawT c0 (delT h0 T)))) (nI (siz (delT h0 T))) (moD (delT h0 T) c0 mo) (ti + nI 1) (dr + nI (siz (subT c0 (delT h0 T)))) u9.1 u9.2.1 u9.2.2.1 u9.2.2.2.1 u9.2.2.2.2.1 u9.2.2.2.2.2.1 u9.2.2.2.2.2.2) := hD
                    obtain ⟨rfl, hr4⟩ := q177
                    refine lv_pop hx hb dX2_discharge_180 rfl ?_
                    refine lv_iconst (v := nI 1) hx hb dX2_discharge_181 (by decide) ?_
                    have ek := kx_nI (show h0 < 2 ^ 31 by omega)
                    have e9 := disS_1 (dr := ti) (ds := dr) c147 hlt hc0
                    have hP : va_P D vwCl (mw M cZ cI ((nI 0)) (enc (root (drawT c0 (delT h0 T)))) (nI (siz (drawT c0 (delT h0 T)))) (moD (delT h0 T) c0 mo) (ti + nI 1) (dr + nI (siz (subT c0 (delT h0 T)))) u9.1 u9.2.1 u9.2.2.1 u9.2.2.2.1 u9.2.2.2.2.1 u9.2.2.2.2.2.1 u9.2.2.2.2.2.2) H := by rw [k2d]; exact hP
                    have hD : va_D A (mw M cZ cI ((nI 0)) (enc (root (drawT c0 (delT h0 T)))) (nI (siz (drawT c0 (delT h0 T)))) (moD (delT h0 T) c0 mo) (ti + nI 1) (dr + nI (siz (subT c0 (delT h0 T)))) u9.1 u9.2.1 u9.2.2.1 u9.2.2.2.1 u9.2.2.2.2.1 u9.2.2.2.2.2.1 u9.2.2.2.2.2.2) := by rw [k2d]; exact hD
                    have hmz : disZ (nI h0) (T, mo, ti, dr) = _ := (if_pos (show kD (nI h0) T = 0 from kD_0 hh0 hm)).trans ((congrArg (fun z => disS z (T, mo, ti, dr)) ek).trans e9.1)
                    have eK : kD (nI h0) T = 0 := kD_0 hh0 hm
                    exact W.zret (v := (nI 1)) hx hb hr rfl (fun t ht hW => ⟨⟨_, (u9.1, u9.2.1, u9.2.2.1, u9.2.2.2.1, u9.2.2.2.2.1, u9.2.2.2.2.2.1, u9.2.2.2.2.2.2), rfl, ⟨fun _ => by rw [ek, e9.2]; rfl, by rw [hmz]; exact hr4⟩, by rw [eK, hmz, ht]; exact hP, hG.moved hW, by rw [eK, hmz]; exact hD⟩, hS.F ht⟩) hS.2.2 dX2_discharge_182
                  · have hlt : ¬ nI 3 * nI (siz (delT h0 T)) < nI 2 * mo := by rw [pk_mul]; exact c167
                    refine lv_iconst (v := nI 0) hx hb dX2_discharge_170 (by decide) ?_
                    have ek := kx_nI (show h0 < 2 ^ 31 by omega)
                    have e9 := disS_2 (dr := ti) (ds := dr) c147 hlt
                    have hmz : disZ (nI h0) (T, mo, ti, dr) = _ := (if_pos (show kD (nI h0) T = 0 from kD_0 hh0 hm)).trans ((congrArg (fun z => disS z (T, mo, ti, dr)) ek).trans e9.1)
                    have eK : kD (nI h0) T = 0 := kD_0 hh0 hm
                    exact W.zret (v := (nI 0)) hx hb hr rfl (fun t ht hW => ⟨⟨_, (nI ((wayT h0 T).length), ma, upd isIn h0 (nI 0), hgL lf (parF h0 none T) h0 (enc (root tr)), hgR rt (parF h0 none T) h0 (enc (root tr)), wy9, rw), rfl, ⟨fun _ => by rw [ek, e9.2]; rfl, by rw [hmz]; exact hr1⟩, by rw [eK, hmz, ht]; exact hP, hG.moved hW, by rw [eK, hmz]; exact hD⟩, hS.F ht⟩) hS.2.2 dX2_discharge_171
                · replace c147 := (zr_eq0 (by omega)).mp c147
                  refine lv_aload_n hx hb dX2_discharge_150 rfl (lv_at hl 2 rfl) ?_
                  refine lv_iconst (v := nI 0) hx hb dX2_discharge_151 (by decide) ?_
                  refine va_put (D := D) (ci := 2) (v := .int (nI 0)) (ty := .int) (C := RX2) (T := TX2) (N := 13) hx hb hts (by decide +kernel) tyX2 tyX2_ok nmX2 hown hG.1 hP hD hS 0 mw_m rfl 3 (by decide) (hts (.fieldLink RX2 93 "LopsidedRanksModel" "most" "I") (by decide +kernel)) (fun _ h9 => h9) rfl (by decide +kernel) rfl rfl (Nat.le_of_ble_eq_true rfl) dX2_discharge_152 (fun H locs hP hD hS => ?_)
                  have hP : va_P D vwCl (mw M cZ cI ((nI 0)) (enc (root (delT h0 T))) (nI (siz (delT h0 T))) ((nI 0)) ti dr (nI ((wayT h0 T).length)) ma (upd isIn h0 (nI 0)) (hgL lf (parF h0 none T) h0 (enc (root tr))) (hgR rt (parF h0 none T) h0 (enc (root tr))) wy9 rw) H := hP
                  have hD : va_D A (mw M cZ cI ((nI 0)) (enc (root (delT h0 T))) (nI (siz (delT h0 T))) ((nI 0)) ti dr (nI ((wayT h0 T).length)) ma (upd isIn h0 (nI 0)) (hgL lf (parF h0 none T) h0 (enc (root tr))) (hgR rt (parF h0 none T) h0 (enc (root tr))) wy9 rw) := hD
                  refine lv_iconst (v := nI 3) hx hb dX2_discharge_155 (by decide) ?_
                  refine lv_aload_n hx hb dX2_discharge_156 rfl (lv_at hl 2 rfl) ?_
                  refine va_get (D := D) (ci := 2) (v := .int (nI (siz (delT h0 T)))) (C := RX2) (T := TX2) (N := 13) hx hb hts (by decide +kernel) hown hG.1 hP 0 mw_m rfl 2 (by decide) (hts (.fieldLink RX2 90 "LopsidedRanksModel" "soldiers" "I") (by decide +kernel)) (fun _ h9 => h9) rfl dX2_discharge_157 ?_
                  refine lv_imul hx hb dX2_discharge_160 ?_
                  refine zr_eqi (pk_mul 3 (siz (delT h0 T))) ?_
                  refine lv_iconst (v := nI 2) hx hb dX2_discharge_161 (by decide) ?_
                  refine lv_aload_n hx hb dX2_discharge_162 rfl (lv_at hl 2 rfl) ?_
                  refine va_get (D := D) (ci := 2) (v := .int ((nI 0))) (C := RX2) (T := TX2) (N := 13) hx hb hts (by decide +kernel) hown hG.1 hP 0 mw_m rfl 3 (by decide) (hts (.fieldLink RX2 93 "LopsidedRanksModel" "most" "I") (by decide +kernel)) (fun _ h9 => h9) rfl dX2_discharge_163 ?_
                  refine lv_imul hx hb dX2_discharge_166 ?_
                  refine zr_eqi (pk_mul 2 0) ?_
                  refine lv_icmp_lt (tgt := 172) hx hb dX2_discharge_167 (by decide) (fun c167 => ?_) (fun c167 => ?_)
                  · exact absurd c167 (by rw [c147]; decide)
                  · refine lv_iconst (v := nI 0) hx hb dX2_discharge_170 (by decide) ?_
                    have ek := kx_nI (show h0 < 2 ^ 31 by omega)
                    have e9 := disS_0 (mo := mo) (dr := ti) (ds := dr) c147
                    have hmz : disZ (nI h0) (T, mo, ti, dr) = _ := (if_pos (show kD (nI h0) T = 0 from kD_0 hh0 hm)).trans ((congrArg (fun z => disS z (T, mo, ti, dr)) ek).trans e9.1)
                    have eK : kD (nI h0) T = 0 := kD_0 hh0 hm
                    exact W.zret (v := (nI 0)) hx hb hr rfl (fun t ht hW => ⟨⟨_, (nI ((wayT h0 T).length), ma, upd isIn h0 (nI 0), hgL lf (parF h0 none T) h0 (enc (root tr)), hgR rt (parF h0 none T) h0 (enc (root tr)), wy9, rw), rfl, ⟨fun _ => by rw [ek, e9.2]; rfl, by rw [hmz]; exact hr1⟩, by rw [eK, hmz, ht]; exact hP, hG.moved hW, by rw [eK, hmz]; exact hD⟩, hS.F ht⟩) hS.2.2 dX2_discharge_171
              · exact absurd rfl c100
          | inner s1 k1 v1 l1 r1 =>
            have hk1 := hlo.l.k
            cases tr with
            | leaf =>
              have ejT : delT h0 T = rep h0 (.inner s1 k1 v1 l1 r1) T := by unfold delT; rw [esub]; rfl
              refine lv_aload_n hx hb dX2_discharge_67 rfl (lv_at hl 1 rfl) ?_
              refine va_get (D := D) (ci := 2) (v := .ref M.2.2.1) (C := RX2) (T := TX2) (N := 13) hx hb hts (by decide +kernel) hown hG.1 hP 0 mw_m rfl 7 (by decide) (hts (.fieldLink RX2 17 "LopsidedRanksModel" "left" "[I") (by decide +kernel)) (fun _ h9 => h9) rfl dX2_discharge_68 ?_
              refine lv_iload_n hx hb dX2_discharge_71 rfl (lv_at hl 2 rfl) ?_
              refine zr_iald hx hb hG.1 hP 2 2 mw_l rfl (k := h0) (by omega) (Nat.le_of_ble_eq_true rfl) dX2_discharge_72 ?_
              refine zr_eqi p1 ?_
              refine lv_iconst (v := (-1)) hx hb dX2_discharge_73 (by decide) ?_
              refine lv_icmp_ne (tgt := 86) hx hb dX2_discharge_74 (by decide) (fun c74 => ?_) (fun c74 => ?_)
              · refine lv_aload_n hx hb dX2_discharge_86 rfl (lv_at hl 1 rfl) ?_
                refine va_get (D := D) (ci := 2) (v := .ref M.2.2.1) (C := RX2) (T := TX2) (N := 13) hx hb hts (by decide +kernel) hown hG.1 hP 0 mw_m rfl 7 (by decide) (hts (.fieldLink RX2 17 "LopsidedRanksModel" "left" "[I") (by decide +kernel)) (fun _ h9 => h9) rfl dX2_discharge_87 ?_
                refine lv_iload_n hx hb dX2_discharge_90 rfl (lv_at hl 2 rfl) ?_
                refine zr_iald hx hb hG.1 hP 2 2 mw_l rfl (k := h0) (by omega) (Nat.le_of_ble_eq_true rfl) dX2_discharge_91 ?_
                refine zr_eqi p1 ?_
                refine lv_istore_n (lv' := [(3, .int (nI k1)), (2, .int (enc (parF h0 none T))), (0, .ref M.1), (1, .int (nI h0))]) hx hb dX2_discharge_92 rfl hl (by decide) rfl (fun ls hl => ?_)
                refine lv_aload_n hx hb dX2_discharge_93 rfl (lv_at hl 2 rfl) ?_
                refine va_get (D := D) (ci := 2) (v := .ref M.2.2.1) (C := RX2) (T := TX2) (N := 13) hx hb hts (by decide +kernel) hown hG.1 hP 0 mw_m rfl 7 (by decide) (hts (.fieldLink RX2 17 "LopsidedRanksModel" "left" "[I") (by decide +kernel)) (fun _ h9 => h9) rfl dX2_discharge_94 ?_
                refine lv_iload_n hx hb dX2_discharge_97 rfl (lv_at hl 3 rfl) ?_
                refine zr_iald hx hb hG.1 hP 2 2 mw_l rfl (k := h0) (by omega) (Nat.le_of_ble_eq_true rfl) dX2_discharge_98 ?_
                refine zr_eqi p1 ?_
                refine lv_iconst (v := (-1)) hx hb dX2_discharge_99 (by decide) ?_
                refine lv_icmp_eq (tgt := 119) hx hb dX2_discharge_100 (by decide) (fun c100 => ?_) (fun c100 => ?_)
                · exact absurd c100 (nI_m1 (by omega))
                · refine lv_aload_n hx hb dX2_discharge_103 rfl (lv_at hl 2 rfl) ?_
                  refine va_get (D := D) (ci := 2) (v := .ref M.2.2.2.1) (C := RX2) (T := TX2) (N := 13) hx hb hts (by decide +kernel) hown hG.1 hP 0 mw_m rfl 8 (by decide) (hts (.fieldLink RX2 21 "LopsidedRanksModel" "right" "[I") (by decide +kernel)) (fun _ h9 => h9) rfl dX2_discharge_104 ?_
                  refine lv_iload_n hx hb dX2_discharge_107 rfl (lv_at hl 3 rfl) ?_
                  refine zr_iald hx hb hG.1 hP 3 2 mw_r rfl (k := h0) (by omega) (Nat.le_of_ble_eq_true rfl) dX2_discharge_108 ?_
                  refine zr_eqi p2 ?_
                  refine lv_iconst (v := (-1)) hx hb dX2_discharge_109 (by decide) ?_
                  refine lv_icmp_eq (tgt := 119) hx hb dX2_discharge_110 (by decide) (fun c110 => ?_) (fun c110 => ?_)
                  · obtain ⟨kd1, kd2⟩ := keys_del hb0 esub
                    have hjk : ∀ j ∈ keysT (.inner s1 k1 v1 l1 r1 : Tr), j ∈ keysT (subT h0 T) ∧ j ≠ h0 := fun j hj => by
                      obtain ⟨b1, b2, b3, b4⟩ := bst_in.mp hbs
                      rw [esub]
                      exact ⟨(keys_in ..).mpr (Or.inl hj), by have := b3 j hj; omega⟩
                    obtain ⟨s1x, s2x⟩ := kl_sub (h := h0) hb0
                    obtain ⟨z1, z2⟩ := hangM (t := (.inner s1 k1 v1 l1 r1 : Tr)) hb0 hs p3 (fun k _ _ => ⟨rfl, rfl⟩) (fun j hj => by
                      have q := (hjk j hj).1
                      exact ⟨fun z => by have := s1x j z j q; omega, fun z => by have := s2x j q j z; omega⟩)
                    rw [← ejT] at z1 z2
                    refine lv_aload_n hx hb dX2_discharge_119 rfl (lv_at hl 2 rfl) ?_
                    refine lv_iload_n hx hb dX2_discharge_120 rfl (lv_at hl 1 rfl) ?_
                    refine lv_iload_n hx hb dX2_discharge_121 rfl (lv_at hl 3 rfl) ?_
                    refine lv_iload_n hx hb dX2_discharge_122 rfl (lv_at hl 0 rfl) ?_
                    refine va_callv (va_runV (As := [.int (enc (parF h0 none T)), .int (nI h0), .int (nI k1)]) (rest := []) ⟨hx, hb, hml, hown, hts⟩ (c_X2_hang l (p0 := parF h0 none T) (v0 := enc (root (.inner s1 k1 v1 l1 r1 : Tr))) hh0 (fun c e => hin0 c (parF_mem e))) (cwV 3 hts gX2_discharge_X2_hang rfl rfl rfl (by decide +kernel) ⟨Nat.le_of_ble_eq_true rfl, Nat.le_of_ble_eq_true rfl⟩) ⟨PcM.blind, va_recv hG.1 hP (ci := 2) (q0 := 0) rfl mw_m, PcM.at (fun q h => hA q (Nat.le_trans hS.1 h)) hP hG hD⟩ rfl rfl hl.1 rfl (lv_room (Nat.le_of_ble_eq_true rfl)) dX2_discharge_123 ⟨Nat.zero_le _, Nat.zero_le _⟩) hS (fun q _ h => h) (fun q h => h) (fun u123 t H locs ht hvm q123 hB hz1 hk1 hS => ?_)
                    obtain ⟨hP, -, hD⟩ := hB
                    rw [ht] at hP
                    have hP : va_P D vwCl (mw M cZ cI ((nI 0)) (hgTp (enc (root T)) (parF h0 none T) (enc (root (.inner s1 k1 v1 l1 r1 : Tr)))) (nI (siz T)) mo ti dr (nI ((wayT h0 T).length)) ma isIn (hgL lf (parF h0 none T) h0 (enc (root (.inner s1 k1 v1 l1 r1 : Tr)))) (hgR rt (parF h0 none T) h0 (enc (root (.inner s1 k1 v1 l1 r1 : Tr)))) wy9 rw) H := hP
                    have hD : va_D A (mw M cZ cI ((nI 0)) (hgTp (enc (root T)) (parF h0 none T) (enc (root (.inner s1 k1 v1 l1 r1 : Tr)))) (nI (siz T)) mo ti dr (nI ((wayT h0 T).length)) ma isIn (hgL lf (parF h0 none T) h0 (enc (root (.inner s1 k1 v1 l1 r1 : Tr)))) (hgR rt (parF h0 none T) h0 (enc (root (.inner s1 k1 v1 l1 r1 : Tr)))) wy9 rw) := hD
                    rw [z2] at hP hD
                    have hP : va_P D vwCl (mw M cZ cI ((nI 0)) (enc (root (delT h0 T))) (nI (siz T)) mo ti dr (nI ((wayT h0 T).length)) ma isIn (hgL lf (parF h0 none T) h0 (enc (root (.inner s1 k1 v1 l1 r1 : Tr)))) (hgR rt (parF h0 none T) h0 (enc (root (.inner s1 k1 v1 l1 r1 : Tr)))) wy9 rw) H := hP
                    have hD : va_D A (mw M cZ cI ((nI 0)) (enc (root (delT h0 T))) (nI (siz T)) mo ti dr (nI ((wayT h0 T).length)) ma isIn (hgL lf (parF h0 none T) h0 (enc (root (.inner s1 k1 v1 l1 r1 : Tr)))) (hgR rt (parF h0 none T) h0 (enc (root (.inner s1 k1 v1 l1 r1 : Tr)))) wy9 rw) := hD
                    refine lv_aload_n hx hb dX2_discharge_126 rfl (lv_at hl 2 rfl) ?_
                    refine va_get (D := D) (ci := 2) (v := .ref M.2.1) (C := RX2) (T := TX2) (N := 13) hx hb hts (by decide +kernel) hown hG.1 hP 0 mw_m rfl 6 (by decide) (hts (.fieldLink RX2 13 "LopsidedRanksModel" "isIn" "[Z") (by decide +kernel)) (fun _ h9 => h9) rfl dX2_discharge_127 ?_
                    refine lv_iload_n hx hb dX2_discharge_130 rfl (lv_at hl 3 rfl) ?_
                    refine lv_iconst (v := nI 0) hx hb dX2_discharge_131 (by decide) ?_
                    refine zr_zast hx hb hG.1 hP hD hS 1 1 mw_i rfl (k := h0) (by omega) (Nat.le_of_ble_eq_true rfl) rfl dX2_discharge_132 (fun H locs hP hD hS => ?_)
                    have hP : va_P D vwCl (mw M cZ cI ((nI 0)) (enc (root (delT h0 T))) (nI (siz T)) mo ti dr (nI ((wayT h0 T).length)) ma (upd isIn h0 (nI 0)) (hgL lf (parF h0 none T) h0 (enc (root (.inner s1 k1 v1 l1 r1 : Tr)))) (hgR rt (parF h0 none T) h0 (enc (root (.inner s1 k1 v1 l1 r1 : Tr)))) wy9 rw) H := hP
                    have hD : va_D A (mw M cZ cI ((nI 0)) (enc (root (delT h0 T))) (nI (siz T)) mo ti dr (nI ((wayT h0 T).length)) ma (upd isIn h0 (nI 0)) (hgL lf (parF h0 none T) h0 (enc (root (.inner s1 k1 v1 l1 r1 : Tr)))) (hgR rt (parF h0 none T) h0 (enc (root (.inner s1 k1 v1 l1 r1 : Tr)))) wy9 rw) := hD
                    refine lv_aload_n hx hb dX2_discharge_133 rfl (lv_at hl 2 rfl) ?_
                    refine lv_dup hx hb dX2_discharge_134 rfl ?_
                    refine va_get (D := D) (ci := 2) (v := .int (nI (siz T))) (C := RX2) (T := TX2) (N := 13) hx hb hts (by decide +kernel) hown hG.1 hP 0 mw_m rfl 2 (by decide) (hts (.fieldLink RX2 90 "LopsidedRanksModel" "soldiers" "I") (by decide +kernel)) (fun _ h9 => h9) rfl dX2_discharge_135 ?_
                    refine lv_iconst (v := nI 1) hx hb dX2_discharge_138 (by decide) ?_
                    refine lv_isub hx hb dX2_discharge_139 ?_
                    refine zr_eqi (pk_sub (a := siz T) (b := 1) (by omega)) ?_
                    refine va_put (D := D) (ci := 2) (v := .int (nI ((siz T) - 1))) (ty := .int) (C := RX2) (T := TX2) (N := 13) hx hb hts (by decide +kernel) tyX2 tyX2_ok nmX2 hown hG.1 hP hD hS 0 mw_m rfl 2 (by decide) (hts (.fieldLink RX2 90 "LopsidedRanksModel" "soldiers" "I") (by decide +kernel)) (fun _ h9 => h9) rfl (by decide +kernel) rfl rfl (Nat.le_of_ble_eq_true rfl) dX2_discharge_140 (fun H locs hP hD hS => ?_)
                    have hP : va_P D vwCl (mw M cZ cI ((nI 0)) (enc (root (delT h0 T))) ((nI ((siz T) - 1))) mo ti dr (nI ((wayT h0 T).length)) ma (upd isIn h0 (nI 0)) (hgL lf (parF h0 none T) h0 (enc (root (.inner s1 k1 v1 l1 r1 : Tr)))) (hgR rt (parF h0 none T) h0 (enc (root (.inner s1 k1 v1 l1 r1 : Tr)))) wy9 rw) H := hP
                    have hD : va_D A (mw M cZ cI ((nI 0)) (enc (root (delT h0 T))) ((nI ((siz T) - 1))) mo ti dr (nI ((wayT h0 T).length)) ma (upd isIn h0 (nI 0)) (hgL lf (parF h0 none T) h0 (enc (root (.inner s1 k1 v1 l1 r1 : Tr)))) (hgR rt (parF h0 none T) h0 (enc (root (.inner s1 k1 v1 l1 r1 : Tr)))) wy9 rw) := hD
                    have en1 : (nI ((siz T) - 1)) = nI (siz (delT h0 T)) := congrArg nI (by omega)
                    rw [en1] at hP hD
                    have hP : va_P D vwCl (mw M cZ cI ((nI 0)) (enc (root (delT h0 T))) (nI (siz (delT h0 T))) mo ti dr (nI ((wayT h0 T).length)) ma (upd isIn h0 (nI 0)) (hgL lf (parF h0 none T) h0 (enc (root (.inner s1 k1 v1 l1 r1 : Tr)))) (hgR rt (parF h0 none T) h0 (enc (root (.inner s1 k1 v1 l1 r1 : Tr)))) wy9 rw) H := hP
                    have hD : va_D A (mw M cZ cI ((nI 0)) (enc (root (delT h0 T))) (nI (siz (delT h0 T))) mo ti dr (nI ((wayT h0 T).length)) ma (upd isIn h0 (nI 0)) (hgL lf (parF h0 none T) h0 (enc (root (.inner s1 k1 v1 l1 r1 : Tr)))) (hgR rt (parF h0 none T) h0 (enc (root (.inner s1 k1 v1 l1 r1 : Tr)))) wy9 rw) := hD
                    have hr1 : RepM (delT h0 T) (upd isIn h0 (nI 0)) (hgL lf (parF h0 none T) h0 (enc (root (.inner s1 k1 v1 l1 r1 : Tr)))) (hgR rt (parF h0 none T) h0 (enc (root (.inner s1 k1 v1 l1 r1 : Tr)))) := ⟨db, fun k hk => hin0 k ((dm k).mp hk).1, by omega, z1, fun k hk => by
                      by_cases e : k = h0
                      · subst e
                        rw [upd_s, decide_eq_false (fun q => ((dm k).mp q).2 rfl)]
                        rfl
                      · rw [upd_n _ _ e, hi k hk]
                        congr 1
                        exact decide_eq_decide.mpr ⟨fun q => (dm k).mpr ⟨q, e⟩, fun q => ((dm k).mp q).1⟩⟩
                    refine lv_aload_n hx hb dX2_discharge_143 rfl (lv_at hl 2 rfl) ?_
                    refine va_get (D := D) (ci := 2) (v := .int (nI (siz (delT h0 T)))) (C := RX2) (T := TX2) (N := 13) hx hb hts (by decide +kernel) hown hG.1 hP 0 mw_m rfl 2 (by decide) (hts (.fieldLink RX2 90 "LopsidedRanksModel" "soldiers" "I") (by decide +kernel)) (fun _ h9 => h9) rfl dX2_discharge_144 ?_
                    refine lv_if_ne (tgt := 155) hx hb dX2_discharge_147 (by decide) (fun c147 => ?_) (fun c147 => ?_)
                    · replace c147 := (not_congr (zr_eq0 (by omega))).mp c147
                      refine lv_iconst (v := nI 3) hx hb dX2_discharge_155 (by decide) ?_
                      refine lv_aload_n hx hb dX2_discharge_156 rfl (lv_at hl 2 rfl) ?_
                      refine va_get (D := D) (ci := 2) (v := .int (nI (siz (delT h0 T)))) (C := RX2) (T := TX2) (N := 13) hx hb hts (by decide +kernel) hown hG.1 hP 0 mw_m rfl 2 (by decide) (hts (.fieldLink RX2 90 "LopsidedRanksModel" "soldiers" "I") (by decide +kernel)) (fun _ h9 => h9) rfl dX2_discharge_157 ?_
                      refine lv_imul hx hb dX2_discharge_160 ?_
                      refine zr_eqi (pk_mul 3 (siz (delT h0 T))) ?_
                      refine lv_iconst (v := nI 2) hx hb dX2_discharge_161 (by decide) ?_
                      refine lv_aload_n hx hb dX2_discharge_162 rfl (lv_at hl 2 rfl) ?_
                      refine va_get (D := D) (ci := 2) (v := .int mo) (C := RX2) (T := TX2) (N := 13) hx hb hts (by decide +kernel) hown hG.1 hP 0 mw_m rfl 3 (by decide) (hts (.fieldLink RX2 93 "LopsidedRanksModel" "most" "I") (by decide +kernel)) (fun _ h9 => h9) rfl dX2_discharge_163 ?_
                      refine lv_imul hx hb dX2_discharge_166 ?_
                      refine lv_icmp_lt (tgt := 172) hx hb dX2_discharge_167 (by decide) (fun c167 => ?_) (fun c167 => ?_)
                      · have hlt : nI 3 * nI (siz (delT h0 T)) < nI 2 * mo := by rw [pk_mul]; exact c167
                        refine lv_aload_n hx hb dX2_discharge_172 rfl (lv_at hl 2 rfl) ?_
                        refine lv_aload_n hx hb dX2_discharge_173 rfl (lv_at hl 2 rfl) ?_
                        refine va_get (D := D) (ci := 2) (v := .int (enc (root (delT h0 T)))) (C := RX2) (T := TX2) (N := 13) hx hb hts (by decide +kernel) hown hG.1 hP 0 mw_m rfl 1 (by decide) (hts (.fieldLink RX2 9 "LopsidedRanksModel" "top" "I") (by decide +kernel)) (fun _ h9 => h9) rfl dX2_discharge_174 ?_
                        obtain ⟨c0, hc0⟩ : ∃ c0, root (delT h0 T) = some c0 := by
                          cases e : delT h0 T with
                          | leaf => rw [e] at c147; exact absurd rfl c147
                          | inner s k v l r => exact ⟨k, rfl⟩
                        refine zr_eqi (congrArg enc hc0) ?_
                        obtain ⟨k1d, k2d⟩ := draw_keys (c := c0) hr1.2.2.1
                        refine va_calli (va_runV (As := [.int (nI c0)]) (rest := []) ⟨hx, hb, hml, hown, hts⟩ (c_X2_drawUp l (T := delT h0 T) hr1 (root_in hc0)) (cwV 1 hts gX2_discharge_X2_drawUp rfl rfl rfl (by decide +kernel) ⟨Nat.le_of_ble_eq_true rfl, Nat.le_of_ble_eq_true rfl⟩) ⟨PcM.blind, va_recv hG.1 hP (ci := 2) (q0 := 0) rfl mw_m, PcM.at (fun q h => hA q (Nat.le_trans hS.1 h)) hP hG hD⟩ rfl rfl hl.1 rfl (lv_room (Nat.le_of_ble_eq_true rfl)) dX2_discharge_177 ⟨Nat.zero_le _, Nat.zero_le _⟩) hS (fun q _ h => h) (fun q h => h) (fun r177 u9 t H locs ht hvm q177 hB hz1 hk1 hS => ?_)
                        obtain ⟨hP, -, hD⟩ := hB
                        rw [ht] at hP
                        have hP : va_P D vwCl (mw M cZ cI ((nI 0)) (enc (root (drawT c0 (delT h0 T)))) (nI (siz (delT h0 T))) (moD (delT h0 T) c0 mo) (ti + nI 1) (dr + nI (siz (subT c0 (delT h0 T)))) u9.1 u9.2.1 u9.2.2.1 u9.2.2.2.1 u9.2.2.2.2.1 u9.2.2.2.2.2.1 u9.2.2.2.2.2.2) H := hP
                        have hD : va_D A (mw M cZ cI ((nI 0)) (enc (root (drawT c0 (delT h0 T)))) (nI (siz (delT h0 T))) (moD (delT h0 T) c0 mo) (ti + nI 1) (dr + nI (siz (subT c0 (delT h0 T)))) u9.1 u9.2.1 u9.2.2.1 u9.2.2.2.1 u9.2.2.2.2.1 u9.2.2.2.2.2.1 u9.2.2.2.2.2.2) := hD
                        obtain ⟨rfl, hr4⟩ := q177
                        refine lv_pop hx hb dX2_discharge_180 rfl ?_
                        refine lv_iconst (v := nI 1) hx hb dX2_discharge_181 (by decide) ?_
                        have ek := kx_nI (show h0 < 2 ^ 31 by omega)
                        have e9 := disS_1 (dr := ti) (ds := dr) c147 hlt hc0
                        have hP : va_P D vwCl (mw M cZ cI ((nI 0)) (enc (root (drawT c0 (delT h0 T)))) (nI (siz (drawT c0 (delT h0 T)))) (moD (delT h0 T) c0 mo) (ti + nI 1) (dr + nI (siz (subT c0 (delT h0 T)))) u9.1 u9.2.1 u9.2.2.1 u9.2.2.2.1 u9.2.2.2.2.1 u9.2.2.2.2.2.1 u9.2.2.2.2.2.2) H := by rw [k2d]; exact hP
                        have hD : va_D A (mw M cZ cI ((nI 0)) (enc (root (drawT c0 (delT h0 T)))) (nI (siz (drawT c0 (delT h0 T)))) (moD (delT h0 T) c0 mo) (ti + nI 1) (dr + nI (siz (subT c0 (delT h0 T)))) u9.1 u9.2.1 u9.2.2.1 u9.2.2.2.1 u9.2.2.2.2.1 u9.2.2.2.2.2.1 u9.2.2.2.2.2.2) := by rw [k2d]; exact hD
                        have hmz : disZ (nI h0) (T, mo, ti, dr) = _ := (if_pos (show kD (nI h0) T = 0 from kD_0 hh0 hm)).trans ((congrArg (fun z => disS z (T, mo, ti, dr)) ek).trans e9.1)
                        have eK : kD (nI h0) T = 0 := kD_0 hh0 hm
                        exact W.zret (v := (nI 1)) hx hb hr rfl (fun t ht hW => ⟨⟨_, (u9.1, u9.2.1, u9.2.2.1, u9.2.2.2.1, u9.2.2.2.2.1, u9.2.2.2.2.2.1, u9.2.2.2.2.2.2), rfl, ⟨fun _ => by rw [ek, e9.2]; rfl, by rw [hmz]; exact hr4⟩, by rw [eK, hmz, ht]; exact hP, hG.moved hW, by rw [eK, hmz]; exact hD⟩, hS.F ht⟩) hS.2.2 dX2_discharge_182
                      · have hlt : ¬ nI 3 * nI (siz (delT h0 T)) < nI 2 * mo := by rw [pk_mul]; exact c167
                        refine lv_iconst (v := nI 0) hx hb dX2_discharge_170 (by decide) ?_
                        have ek := kx_nI (show h0 < 2 ^ 31 by omega)
                        have e9 := disS_2 (dr := ti) (ds := dr) c147 hlt
                        have hmz : disZ (nI h0) (T, mo, ti, dr) = _ := (if_pos (show kD (nI h0) T = 0 from kD_0 hh0 hm)).trans ((congrArg (fun z => disS z (T, mo, ti, dr)) ek).trans e9.1)
                        have eK : kD (nI h0) T = 0 := kD_0 hh0 hm
                        exact W.zret (v := (nI 0)) hx hb hr rfl (fun t ht hW => ⟨⟨_, (nI ((wayT h0 T).length), ma, upd isIn h0 (nI 0), hgL lf (parF h0 none T) h0 (enc (root (.inner s1 k1 v1 l1 r1 : Tr))), hgR rt (parF h0 none T) h0 (enc (root (.inner s1 k1 v1 l1 r1 : Tr))), wy9, rw), rfl, ⟨fun _ => by rw [ek, e9.2]; rfl, by rw [hmz]; exact hr1⟩, by rw [eK, hmz, ht]; exact hP, hG.moved hW, by rw [eK, hmz]; exact hD⟩, hS.F ht⟩) hS.2.2 dX2_discharge_171
                    · replace c147 := (zr_eq0 (by omega)).mp c147
                      refine lv_aload_n hx hb dX2_discharge_150 rfl (lv_at hl 2 rfl) ?_
                      refine lv_iconst (v := nI 0) hx hb dX2_discharge_151 (by decide) ?_
                      refine va_put (D := D) (ci := 2) (v := .int (nI 0)) (ty := .int) (C := RX2) (T := TX2) (N := 13) hx hb hts (by decide +kernel) tyX2 tyX2_ok nmX2 hown hG.1 hP hD hS 0 mw_m rfl 3 (by decide) (hts (.fieldLink RX2 93 "LopsidedRanksModel" "most" "I") (by decide +kernel)) (fun _ h9 => h9) rfl (by decide +kernel) rfl rfl (Nat.le_of_ble_eq_true rfl) dX2_discharge_152 (fun H locs hP hD hS => ?_)
                      have hP : va_P D vwCl (mw M cZ cI ((nI 0)) (enc (root (delT h0 T))) (nI (siz (delT h0 T))) ((nI 0)) ti dr (nI ((wayT h0 T).length)) ma (upd isIn h0 (nI 0)) (hgL lf (parF h0 none T) h0 (enc (root (.inner s1 k1 v1 l1 r1 : Tr)))) (hgR rt (parF h0 none T) h0 (enc (root (.inner s1 k1 v1 l1 r1 : Tr)))) wy9 rw) H := hP
                      have hD : va_D A (mw M cZ cI ((nI 0)) (enc (root (delT h0 T))) (nI (siz (delT h0 T))) ((nI 0)) ti dr (nI ((wayT h0 T).length)) ma (upd isIn h0 (nI 0)) (hgL lf (parF h0 none T) h0 (enc (root (.inner s1 k1 v1 l1 r1 : Tr)))) (hgR rt (parF h0 none T) h0 (enc (root (.inner s1 k1 v1 l1 r1 : Tr)))) wy9 rw) := hD
                      refine lv_iconst (v := nI 3) hx hb dX2_discharge_155 (by decide) ?_
                      refine lv_aload_n hx hb dX2_discharge_156 rfl (lv_at hl 2 rfl) ?_
                      refine va_get (D := D) (ci := 2) (v := .int (nI (siz (delT h0 T)))) (C := RX2) (T := TX2) (N := 13) hx hb hts (by decide +kernel) hown hG.1 hP 0 mw_m rfl 2 (by decide) (hts (.fieldLink RX2 90 "LopsidedRanksModel" "soldiers" "I") (by decide +kernel)) (fun _ h9 => h9) rfl dX2_discharge_157 ?_
                      refine lv_imul hx hb dX2_discharge_160 ?_
                      refine zr_eqi (pk_mul 3 (siz (delT h0 T))) ?_
                      refine lv_iconst (v := nI 2) hx hb dX2_discharge_161 (by decide) ?_
                      refine lv_aload_n hx hb dX2_discharge_162 rfl (lv_at hl 2 rfl) ?_
                      refine va_get (D := D) (ci := 2) (v := .int ((nI 0))) (C := RX2) (T := TX2) (N := 13) hx hb hts (by decide +kernel) hown hG.1 hP 0 mw_m rfl 3 (by decide) (hts (.fieldLink RX2 93 "LopsidedRanksModel" "most" "I") (by decide +kernel)) (fun _ h9 => h9) rfl dX2_discharge_163 ?_
                      refine lv_imul hx hb dX2_discharge_166 ?_
                      refine zr_eqi (pk_mul 2 0) ?_
                      refine lv_icmp_lt (tgt := 172) hx hb dX2_discharge_167 (by decide) (fun c167 => ?_) (fun c167 => ?_)
                      · exact absurd c167 (by rw [c147]; decide)
                      · refine lv_iconst (v := nI 0) hx hb dX2_discharge_170 (by decide) ?_
                        have ek := kx_nI (show h0 < 2 ^ 31 by omega)
                        have e9 := disS_0 (mo := mo) (dr := ti) (ds := dr) c147
                        have hmz : disZ (nI h0) (T, mo, ti, dr) = _ := (if_pos (show kD (nI h0) T = 0 from kD_0 hh0 hm)).trans ((congrArg (fun z => disS z (T, mo, ti, dr)) ek).trans e9.1)
                        have eK : kD (nI h0) T = 0 := kD_0 hh0 hm
                        exact W.zret (v := (nI 0)) hx hb hr rfl (fun t ht hW => ⟨⟨_, (nI ((wayT h0 T).length), ma, upd isIn h0 (nI 0), hgL lf (parF h0 none T) h0 (enc (root (.inner s1 k1 v1 l1 r1 : Tr))), hgR rt (parF h0 none T) h0 (enc (root (.inner s1 k1 v1 l1 r1 : Tr))), wy9, rw), rfl, ⟨fun _ => by rw [ek, e9.2]; rfl, by rw [hmz]; exact hr1⟩, by rw [eK, hmz, ht]; exact hP, hG.moved hW, by rw [eK, hmz]; exact hD⟩, hS.F ht⟩) hS.2.2 dX2_discharge_171
                  · exact absurd rfl c110
              · exact absurd c74 (nI_m1 (by omega))
            | inner s2 k2 v2 l2 r2 =>
              have hk2 := hlo.r.k
              have ejT : delT h0 T = rep h0 (nd_ (.inner s1 k1 v1 l1 r1) (mnk (.inner s2 k2 v2 l2 r2)) (dmn (.inner s2 k2 v2 l2 r2))) T := by unfold delT; rw [esub]; rfl
              refine lv_aload_n hx hb dX2_discharge_67 rfl (lv_at hl 1 rfl) ?_
              refine va_get (D := D) (ci := 2) (v := .ref M.2.2.1) (C := RX2) (T := TX2) (N := 13) hx hb hts (by decide +kernel) hown hG.1 hP 0 mw_m rfl 7 (by decide) (hts (.fieldLink RX2 17 "LopsidedRanksModel" "left" "[I") (by decide +kernel)) (fun _ h9 => h9) rfl dX2_discharge_68 ?_
              refine lv_iload_n hx hb dX2_discharge_71 rfl (lv_at hl 2 rfl) ?_
              refine zr_iald hx hb hG.1 hP 2 2 mw_l rfl (k := h0) (by omega) (Nat.le_of_ble_eq_true rfl) dX2_discharge_72 ?_
              refine zr_eqi p1 ?_
              refine lv_iconst (v := (-1)) hx hb dX2_discharge_73 (by decide) ?_
              refine lv_icmp_ne (tgt := 86) hx hb dX2_discharge_74 (by decide) (fun c74 => ?_) (fun c74 => ?_)
              · refine lv_aload_n hx hb dX2_discharge_86 rfl (lv_at hl 1 rfl) ?_
                refine va_get (D := D) (ci := 2) (v := .ref M.2.2.1) (C := RX2) (T := TX2) (N := 13) hx hb hts (by decide +kernel) hown hG.1 hP 0 mw_m rfl 7 (by decide) (hts (.fieldLink RX2 17 "LopsidedRanksModel" "left" "[I") (by decide +kernel)) (fun _ h9 => h9) rfl dX2_discharge_87 ?_
                refine lv_iload_n hx hb dX2_discharge_90 rfl (lv_at hl 2 rfl) ?_
                refine zr_iald hx hb hG.1 hP 2 2 mw_l rfl (k := h0) (by omega) (Nat.le_of_ble_eq_true rfl) dX2_discharge_91 ?_
                refine zr_eqi p1 ?_
                refine lv_istore_n (lv' := [(3, .int (nI k1)), (2, .int (enc (parF h0 none T))), (0, .ref M.1), (1, .int (nI h0))]) hx hb dX2_discharge_92 rfl hl (by decide) rfl (fun ls hl => ?_)
                refine lv_aload_n hx hb dX2_discharge_93 rfl (lv_at hl 2 rfl) ?_
                refine va_get (D := D) (ci := 2) (v := .ref M.2.2.1) (C := RX2) (T := TX2) (N := 13) hx hb hts (by decide +kernel) hown hG.1 hP 0 mw_m rfl 7 (by decide) (hts (.fieldLink RX2 17 "LopsidedRanksModel" "left" "[I") (by decide +kernel)) (fun _ h9 => h9) rfl dX2_discharge_94 ?_
                refine lv_iload_n hx hb dX2_discharge_97 rfl (lv_at hl 3 rfl) ?_
                refine zr_iald hx hb hG.1 hP 2 2 mw_l rfl (k := h0) (by omega) (Nat.le_of_ble_eq_true rfl) dX2_discharge_98 ?_
                refine zr_eqi p1 ?_
                refine lv_iconst (v := (-1)) hx hb dX2_discharge_99 (by decide) ?_
                refine lv_icmp_eq (tgt := 119) hx hb dX2_discharge_100 (by decide) (fun c100 => ?_) (fun c100 => ?_)
                · exact absurd c100 (nI_m1 (by omega))
                · refine lv_aload_n hx hb dX2_discharge_103 rfl (lv_at hl 2 rfl) ?_
                  refine va_get (D := D) (ci := 2) (v := .ref M.2.2.2.1) (C := RX2) (T := TX2) (N := 13) hx hb hts (by decide +kernel) hown hG.1 hP 0 mw_m rfl 8 (by decide) (hts (.fieldLink RX2 21 "LopsidedRanksModel" "right" "[I") (by decide +kernel)) (fun _ h9 => h9) rfl dX2_discharge_104 ?_
                  refine lv_iload_n hx hb dX2_discharge_107 rfl (lv_at hl 3 rfl) ?_
                  refine zr_iald hx hb hG.1 hP 3 2 mw_r rfl (k := h0) (by omega) (Nat.le_of_ble_eq_true rfl) dX2_discharge_108 ?_
                  refine zr_eqi p2 ?_
                  refine lv_iconst (v := (-1)) hx hb dX2_discharge_109 (by decide) ?_
                  refine lv_icmp_eq (tgt := 119) hx hb dX2_discharge_110 (by decide) (fun c110 => ?_) (fun c110 => ?_)
                  · exact absurd c110 (nI_m1 (by omega))
                  · refine lv_aload_n hx hb dX2_discharge_113 rfl (lv_at hl 2 rfl) ?_
                    refine lv_iload_n hx hb dX2_discharge_114 rfl (lv_at hl 3 rfl) ?_
                    refine va_calli (va_runV (As := [.int (nI h0)]) (rest := []) ⟨hx, hb, hml, hown, hts⟩ (c_X2_next l hbs hlo (by intro q; cases q) p1 p2 p3 p4) (cwV 1 hts gX2_discharge_X2_next rfl rfl rfl (by decide +kernel) ⟨Nat.le_of_ble_eq_true rfl, Nat.le_of_ble_eq_true rfl⟩) ⟨PcM.blind, va_recv hG.1 hP (ci := 2) (q0 := 0) rfl mw_m, PcM.at (fun q h => hA q (Nat.le_trans hS.1 h)) hP hG hD⟩ rfl rfl hl.1 rfl (lv_room (Nat.le_of_ble_eq_true rfl)) dX2_discharge_115 ⟨Nat.zero_le _, Nat.zero_le _⟩) hS (fun q _ h => h) (fun q h => h) (fun r115 u7 t H locs ht hvm q115 hB hz1 hk1 hS => ?_)
                    obtain ⟨hP, -, hD⟩ := hB
                    rw [ht] at hP
                    have hP : va_P D vwCl (mw M cZ cI ((nI 0)) (enc (root T)) (nI (siz T)) mo ti dr (nI ((wayT h0 T).length)) ma isIn u7.1 u7.2 wy9 rw) H := hP
                    have hD : va_D A (mw M cZ cI ((nI 0)) (enc (root T)) (nI (siz T)) mo ti dr (nI ((wayT h0 T).length)) ma isIn u7.1 u7.2 wy9 rw) := hD
                    obtain ⟨rfl, n1, n2⟩ := q115
                    refine lv_istore_n (lv' := [(3, .int (nI (mnk (.inner s2 k2 v2 l2 r2)))), (2, .int (enc (parF h0 none T))), (0, .ref M.1), (1, .int (nI h0))]) hx hb dX2_discharge_118 rfl hl (by decide) rfl (fun ls hl => ?_)
                    obtain ⟨kd1, kd2⟩ := keys_del hb0 esub
                    have hjk : ∀ j ∈ keysT (nd_ (.inner s1 k1 v1 l1 r1) (mnk (.inner s2 k2 v2 l2 r2)) (dmn (.inner s2 k2 v2 l2 r2))), j ∈ keysT (subT h0 T) ∧ j ≠ h0 := fun j hj => by
                      have q := keys_join hbs
                      rw [show joinT (.inner s1 k1 v1 l1 r1) (.inner s2 k2 v2 l2 r2) = (nd_ (.inner s1 k1 v1 l1 r1) (mnk (.inner s2 k2 v2 l2 r2)) (dmn (.inner s2 k2 v2 l2 r2))) from rfl] at q
                      rw [q, List.mem_append] at hj
                      obtain ⟨b1, b2, b3, b4⟩ := bst_in.mp hbs
                      rw [esub]
                      rcases hj with z | z
                      · exact ⟨(keys_in ..).mpr (Or.inl z), by have := b3 j z; omega⟩
                      · exact ⟨(keys_in ..).mpr (Or.inr (Or.inr z)), by have := b4 j z; omega⟩
                    obtain ⟨s1x, s2x⟩ := kl_sub (h := h0) hb0
                    obtain ⟨z1, z2⟩ := hangM (t := (nd_ (.inner s1 k1 v1 l1 r1) (mnk (.inner s2 k2 v2 l2 r2)) (dmn (.inner s2 k2 v2 l2 r2)))) hb0 hs n1 (fun k _ hn => n2 k (fun z => hn (by rw [esub]; exact (keys_in ..).mpr (Or.inr (Or.inr z))))) (fun j hj => by
                      have q := (hjk j hj).1
                      exact ⟨fun z => by have := s1x j z j q; omega, fun z => by have := s2x j q j z; omega⟩)
                    rw [← ejT] at z1 z2
                    refine lv_aload_n hx hb dX2_discharge_119 rfl (lv_at hl 2 rfl) ?_
                    refine lv_iload_n hx hb dX2_discharge_120 rfl (lv_at hl 1 rfl) ?_
                    refine lv_iload_n hx hb dX2_discharge_121 rfl (lv_at hl 3 rfl) ?_
                    refine lv_iload_n hx hb dX2_discharge_122 rfl (lv_at hl 0 rfl) ?_
                    refine va_callv (va_runV (As := [.int (enc (parF h0 none T)), .int (nI h0), .int (nI (mnk (.inner s2 k2 v2 l2 r2)))]) (rest := []) ⟨hx, hb, hml, hown, hts⟩ (c_X2_hang l (p0 := parF h0 none T) (v0 := enc (root (nd_ (.inner s1 k1 v1 l1 r1) (mnk (.inner s2 k2 v2 l2 r2)) (dmn (.inner s2 k2 v2 l2 r2))))) hh0 (fun c e => hin0 c (parF_mem e))) (cwV 3 hts gX2_discharge_X2_hang rfl rfl rfl (by decide +kernel) ⟨Nat.le_of_ble_eq_true rfl, Nat.le_of_ble_eq_true rfl⟩) ⟨PcM.blind, va_recv hG.1 hP (ci := 2) (q0 := 0) rfl mw_m, PcM.at (fun q h => hA q (Nat.le_trans hS.1 h)) hP hG hD⟩ rfl rfl hl.1 rfl (lv_room (Nat.le_of_ble_eq_true rfl)) dX2_discharge_123 ⟨Nat.zero_le _, Nat.zero_le _⟩) hS (fun q _ h => h) (fun q h => h) (fun u123 t H locs ht hvm q123 hB hz1 hk1 hS => ?_)
                    obtain ⟨hP, -, hD⟩ := hB
                    rw [ht] at hP
                    have hP : va_P D vwCl (mw M cZ cI ((nI 0)) (hgTp (enc (root T)) (parF h0 none T) (enc (root (nd_ (.inner s1 k1 v1 l1 r1) (mnk (.inner s2 k2 v2 l2 r2)) (dmn (.inner s2 k2 v2 l2 r2)))))) (nI (siz T)) mo ti dr (nI ((wayT h0 T).length)) ma isIn (hgL u7.1 (parF h0 none T) h0 (enc (root (nd_ (.inner s1 k1 v1 l1 r1) (mnk (.inner s2 k2 v2 l2 r2)) (dmn (.inner s2 k2 v2 l2 r2)))))) (hgR u7.2 (parF h0 none T) h0 (enc (root (nd_ (.inner s1 k1 v1 l1 r1) (mnk (.inner s2 k2 v2 l2 r2)) (dmn (.inner s2 k2 v2 l2 r2)))))) wy9 rw) H := hP
                    have hD : va_D A (mw M cZ cI ((nI 0)) (hgTp (enc (root T)) (parF h0 none T) (enc (root (nd_ (.inner s1 k1 v1 l1 r1) (mnk (.inner s2 k2 v2 l2 r2)) (dmn (.inner s2 k2 v2 l2 r2)))))) (nI (siz T)) mo ti dr (nI ((wayT h0 T).length)) ma isIn (hgL u7.1 (parF h0 none T) h0 (enc (root (nd_ (.inner s1 k1 v1 l1 r1) (mnk (.inner s2 k2 v2 l2 r2)) (dmn (.inner s2 k2 v2 l2 r2)))))) (hgR u7.2 (parF h0 none T) h0 (enc (root (nd_ (.inner s1 k1 v1 l1 r1) (mnk (.inner s2 k2 v2 l2 r2)) (dmn (.inner s2 k2 v2 l2 r2)))))) wy9 rw) := hD
                    rw [z2] at hP hD
                    have hP : va_P D vwCl (mw M cZ cI ((nI 0)) (enc (root (delT h0 T))) (nI (siz T)) mo ti dr (nI ((wayT h0 T).length)) ma isIn (hgL u7.1 (parF h0 none T) h0 (enc (root (nd_ (.inner s1 k1 v1 l1 r1) (mnk (.inner s2 k2 v2 l2 r2)) (dmn (.inner s2 k2 v2 l2 r2)))))) (hgR u7.2 (parF h0 none T) h0 (enc (root (nd_ (.inner s1 k1 v1 l1 r1) (mnk (.inner s2 k2 v2 l2 r2)) (dmn (.inner s2 k2 v2 l2 r2)))))) wy9 rw) H := hP
                    have hD : va_D A (mw M cZ cI ((nI 0)) (enc (root (delT h0 T))) (nI (siz T)) mo ti dr (nI ((wayT h0 T).length)) ma isIn (hgL u7.1 (parF h0 none T) h0 (enc (root (nd_ (.inner s1 k1 v1 l1 r1) (mnk (.inner s2 k2 v2 l2 r2)) (dmn (.inner s2 k2 v2 l2 r2)))))) (hgR u7.2 (parF h0 none T) h0 (enc (root (nd_ (.inner s1 k1 v1 l1 r1) (mnk (.inner s2 k2 v2 l2 r2)) (dmn (.inner s2 k2 v2 l2 r2)))))) wy9 rw) := hD
                    refine lv_aload_n hx hb dX2_discharge_126 rfl (lv_at hl 2 rfl) ?_
                    refine va_get (D := D) (ci := 2) (v := .ref M.2.1) (C := RX2) (T := TX2) (N := 13) hx hb hts (by decide +kernel) hown hG.1 hP 0 mw_m rfl 6 (by decide) (hts (.fieldLink RX2 13 "LopsidedRanksModel" "isIn" "[Z") (by decide +kernel)) (fun _ h9 => h9) rfl dX2_discharge_127 ?_
                    refine lv_iload_n hx hb dX2_discharge_130 rfl (lv_at hl 3 rfl) ?_
                    refine lv_iconst (v := nI 0) hx hb dX2_discharge_131 (by decide) ?_
                    refine zr_zast hx hb hG.1 hP hD hS 1 1 mw_i rfl (k := h0) (by omega) (Nat.le_of_ble_eq_true rfl) rfl dX2_discharge_132 (fun H locs hP hD hS => ?_)
                    have hP : va_P D vwCl (mw M cZ cI ((nI 0)) (enc (root (delT h0 T))) (nI (siz T)) mo ti dr (nI ((wayT h0 T).length)) ma (upd isIn h0 (nI 0)) (hgL u7.1 (parF h0 none T) h0 (enc (root (nd_ (.inner s1 k1 v1 l1 r1) (mnk (.inner s2 k2 v2 l2 r2)) (dmn (.inner s2 k2 v2 l2 r2)))))) (hgR u7.2 (parF h0 none T) h0 (enc (root (nd_ (.inner s1 k1 v1 l1 r1) (mnk (.inner s2 k2 v2 l2 r2)) (dmn (.inner s2 k2 v2 l2 r2)))))) wy9 rw) H := hP
                    have hD : va_D A (mw M cZ cI ((nI 0)) (enc (root (delT h0 T))) (nI (siz T)) mo ti dr (nI ((wayT h0 T).length)) ma (upd isIn h0 (nI 0)) (hgL u7.1 (parF h0 none T) h0 (enc (root (nd_ (.inner s1 k1 v1 l1 r1) (mnk (.inner s2 k2 v2 l2 r2)) (dmn (.inner s2 k2 v2 l2 r2)))))) (hgR u7.2 (parF h0 none T) h0 (enc (root (nd_ (.inner s1 k1 v1 l1 r1) (mnk (.inner s2 k2 v2 l2 r2)) (dmn (.inner s2 k2 v2 l2 r2)))))) wy9 rw) := hD
                    refine lv_aload_n hx hb dX2_discharge_133 rfl (lv_at hl 2 rfl) ?_
                    refine lv_dup hx hb dX2_discharge_134 rfl ?_
                    refine va_get (D := D) (ci := 2) (v := .int (nI (siz T))) (C := RX2) (T := TX2) (N := 13) hx hb hts (by decide +kernel) hown hG.1 hP 0 mw_m rfl 2 (by decide) (hts (.fieldLink RX2 90 "LopsidedRanksModel" "soldiers" "I") (by decide +kernel)) (fun _ h9 => h9) rfl dX2_discharge_135 ?_
                    refine lv_iconst (v := nI 1) hx hb dX2_discharge_138 (by decide) ?_
                    refine lv_isub hx hb dX2_discharge_139 ?_
                    refine zr_eqi (pk_sub (a := siz T) (b := 1) (by omega)) ?_
                    refine va_put (D := D) (ci := 2) (v := .int (nI ((siz T) - 1))) (ty := .int) (C := RX2) (T := TX2) (N := 13) hx hb hts (by decide +kernel) tyX2 tyX2_ok nmX2 hown hG.1 hP hD hS 0 mw_m rfl 2 (by decide) (hts (.fieldLink RX2 90 "LopsidedRanksModel" "soldiers" "I") (by decide +kernel)) (fun _ h9 => h9) rfl (by decide +kernel) rfl rfl (Nat.le_of_ble_eq_true rfl) dX2_discharge_140 (fun H locs hP hD hS => ?_)
                    have hP : va_P D vwCl (mw M cZ cI ((nI 0)) (enc (root (delT h0 T))) ((nI ((siz T) - 1))) mo ti dr (nI ((wayT h0 T).length)) ma (upd isIn h0 (nI 0)) (hgL u7.1 (parF h0 none T) h0 (enc (root (nd_ (.inner s1 k1 v1 l1 r1) (mnk (.inner s2 k2 v2 l2 r2)) (dmn (.inner s2 k2 v2 l2 r2)))))) (hgR u7.2 (parF h0 none T) h0 (enc (root (nd_ (.inner s1 k1 v1 l1 r1) (mnk (.inner s2 k2 v2 l2 r2)) (dmn (.inner s2 k2 v2 l2 r2)))))) wy9 rw) H := hP
                    have hD : va_D A (mw M cZ cI ((nI 0)) (enc (root (delT h0 T))) ((nI ((siz T) - 1))) mo ti dr (nI ((wayT h0 T).length)) ma (upd isIn h0 (nI 0)) (hgL u7.1 (parF h0 none T) h0 (enc (root (nd_ (.inner s1 k1 v1 l1 r1) (mnk (.inner s2 k2 v2 l2 r2)) (dmn (.inner s2 k2 v2 l2 r2)))))) (hgR u7.2 (parF h0 none T) h0 (enc (root (nd_ (.inner s1 k1 v1 l1 r1) (mnk (.inner s2 k2 v2 l2 r2)) (dmn (.inner s2 k2 v2 l2 r2)))))) wy9 rw) := hD
                    have en1 : (nI ((siz T) - 1)) = nI (siz (delT h0 T)) := congrArg nI (by omega)
                    rw [en1] at hP hD
                    have hP : va_P D vwCl (mw M cZ cI ((nI 0)) (enc (root (delT h0 T))) (nI (siz (delT h0 T))) mo ti dr (nI ((wayT h0 T).length)) ma (upd isIn h0 (nI 0)) (hgL u7.1 (parF h0 none T) h0 (enc (root (nd_ (.inner s1 k1 v1 l1 r1) (mnk (.inner s2 k2 v2 l2 r2)) (dmn (.inner s2 k2 v2 l2 r2)))))) (hgR u7.2 (parF h0 none T) h0 (enc (root (nd_ (.inner s1 k1 v1 l1 r1) (mnk (.inner s2 k2 v2 l2 r2)) (dmn (.inner s2 k2 v2 l2 r2)))))) wy9 rw) H := hP
                    have hD : va_D A (mw M cZ cI ((nI 0)) (enc (root (delT h0 T))) (nI (siz (delT h0 T))) mo ti dr (nI ((wayT h0 T).length)) ma (upd isIn h0 (nI 0)) (hgL u7.1 (parF h0 none T) h0 (enc (root (nd_ (.inner s1 k1 v1 l1 r1) (mnk (.inner s2 k2 v2 l2 r2)) (dmn (.inner s2 k2 v2 l2 r2)))))) (hgR u7.2 (parF h0 none T) h0 (enc (root (nd_ (.inner s1 k1 v1 l1 r1) (mnk (.inner s2 k2 v2 l2 r2)) (dmn (.inner s2 k2 v2 l2 r2)))))) wy9 rw) := hD
                    have hr1 : RepM (delT h0 T) (upd isIn h0 (nI 0)) (hgL u7.1 (parF h0 none T) h0 (enc (root (nd_ (.inner s1 k1 v1 l1 r1) (mnk (.inner s2 k2 v2 l2 r2)) (dmn (.inner s2 k2 v2 l2 r2)))))) (hgR u7.2 (parF h0 none T) h0 (enc (root (nd_ (.inner s1 k1 v1 l1 r1) (mnk (.inner s2 k2 v2 l2 r2)) (dmn (.inner s2 k2 v2 l2 r2)))))) := ⟨db, fun k hk => hin0 k ((dm k).mp hk).1, by omega, z1, fun k hk => by
                      by_cases e : k = h0
                      · subst e
                        rw [upd_s, decide_eq_false (fun q => ((dm k).mp q).2 rfl)]
                        rfl
                      · rw [upd_n _ _ e, hi k hk]
                        congr 1
                        exact decide_eq_decide.mpr ⟨fun q => (dm k).mpr ⟨q, e⟩, fun q => ((dm k).mp q).1⟩⟩
                    refine lv_aload_n hx hb dX2_discharge_143 rfl (lv_at hl 2 rfl) ?_
                    refine va_get (D := D) (ci := 2) (v := .int (nI (siz (delT h0 T)))) (C := RX2) (T := TX2) (N := 13) hx hb hts (by decide +kernel) hown hG.1 hP 0 mw_m rfl 2 (by decide) (hts (.fieldLink RX2 90 "LopsidedRanksModel" "soldiers" "I") (by decide +kernel)) (fun _ h9 => h9) rfl dX2_discharge_144 ?_
                    refine lv_if_ne (tgt := 155) hx hb dX2_discharge_147 (by decide) (fun c147 => ?_) (fun c147 => ?_)
                    · replace c147 := (not_congr (zr_eq0 (by omega))).mp c147
                      refine lv_iconst (v := nI 3) hx hb dX2_discharge_155 (by decide) ?_
                      refine lv_aload_n hx hb dX2_discharge_156 rfl (lv_at hl 2 rfl) ?_
                      refine va_get (D := D) (ci := 2) (v := .int (nI (siz (delT h0 T)))) (C := RX2) (T := TX2) (N := 13) hx hb hts (by decide +kernel) hown hG.1 hP 0 mw_m rfl 2 (by decide) (hts (.fieldLink RX2 90 "LopsidedRanksModel" "soldiers" "I") (by decide +kernel)) (fun _ h9 => h9) rfl dX2_discharge_157 ?_
                      refine lv_imul hx hb dX2_discharge_160 ?_
                      refine zr_eqi (pk_mul 3 (siz (delT h0 T))) ?_
                      refine lv_iconst (v := nI 2) hx hb dX2_discharge_161 (by decide) ?_
                      refine lv_aload_n hx hb dX2_discharge_162 rfl (lv_at hl 2 rfl) ?_
                      refine va_get (D := D) (ci := 2) (v := .int mo) (C := RX2) (T := TX2) (N := 13) hx hb hts (by decide +kernel) hown hG.1 hP 0 mw_m rfl 3 (by decide) (hts (.fieldLink RX2 93 "LopsidedRanksModel" "most" "I") (by decide +kernel)) (fun _ h9 => h9) rfl dX2_discharge_163 ?_
                      refine lv_imul hx hb dX2_discharge_166 ?_
                      refine lv_icmp_lt (tgt := 172) hx hb dX2_discharge_167 (by decide) (fun c167 => ?_) (fun c167 => ?_)
                      · have hlt : nI 3 * nI (siz (delT h0 T)) < nI 2 * mo := by rw [pk_mul]; exact c167
                        refine lv_aload_n hx hb dX2_discharge_172 rfl (lv_at hl 2 rfl) ?_
                        refine lv_aload_n hx hb dX2_discharge_173 rfl (lv_at hl 2 rfl) ?_
                        refine va_get (D := D) (ci := 2) (v := .int (enc (root (delT h0 T)))) (C := RX2) (T := TX2) (N := 13) hx hb hts (by decide +kernel) hown hG.1 hP 0 mw_m rfl 1 (by decide) (hts (.fieldLink RX2 9 "LopsidedRanksModel" "top" "I") (by decide +kernel)) (fun _ h9 => h9) rfl dX2_discharge_174 ?_
                        obtain ⟨c0, hc0⟩ : ∃ c0, root (delT h0 T) = some c0 := by
                          cases e : delT h0 T with
                          | leaf => rw [e] at c147; exact absurd rfl c147
                          | inner s k v l r => exact ⟨k, rfl⟩
                        refine zr_eqi (congrArg enc hc0) ?_
                        obtain ⟨k1d, k2d⟩ := draw_keys (c := c0) hr1.2.2.1
                        refine va_calli (va_runV (As := [.int (nI c0)]) (rest := []) ⟨hx, hb, hml, hown, hts⟩ (c_X2_drawUp l (T := delT h0 T) hr1 (root_in hc0)) (cwV 1 hts gX2_discharge_X2_drawUp rfl rfl rfl (by decide +kernel) ⟨Nat.le_of_ble_eq_true rfl, Nat.le_of_ble_eq_true rfl⟩) ⟨PcM.blind, va_recv hG.1 hP (ci := 2) (q0 := 0) rfl mw_m, PcM.at (fun q h => hA q (Nat.le_trans hS.1 h)) hP hG hD⟩ rfl rfl hl.1 rfl (lv_room (Nat.le_of_ble_eq_true rfl)) dX2_discharge_177 ⟨Nat.zero_le _, Nat.zero_le _⟩) hS (fun q _ h => h) (fun q h => h) (fun r177 u9 t H locs ht hvm q177 hB hz1 hk1 hS => ?_)
                        obtain ⟨hP, -, hD⟩ := hB
                        rw [ht] at hP
                        have hP : va_P D vwCl (mw M cZ cI ((nI 0)) (enc (root (drawT c0 (delT h0 T)))) (nI (siz (delT h0 T))) (moD (delT h0 T) c0 mo) (ti + nI 1) (dr + nI (siz (subT c0 (delT h0 T)))) u9.1 u9.2.1 u9.2.2.1 u9.2.2.2.1 u9.2.2.2.2.1 u9.2.2.2.2.2.1 u9.2.2.2.2.2.2) H := hP
                        have hD : va_D A (mw M cZ cI ((nI 0)) (enc (root (drawT c0 (delT h0 T)))) (nI (siz (delT h0 T))) (moD (delT h0 T) c0 mo) (ti + nI 1) (dr + nI (siz (subT c0 (delT h0 T)))) u9.1 u9.2.1 u9.2.2.1 u9.2.2.2.1 u9.2.2.2.2.1 u9.2.2.2.2.2.1 u9.2.2.2.2.2.2) := hD
                        obtain ⟨rfl, hr4⟩ := q177
                        refine lv_pop hx hb dX2_discharge_180 rfl ?_
                        refine lv_iconst (v := nI 1) hx hb dX2_discharge_181 (by decide) ?_
                        have ek := kx_nI (show h0 < 2 ^ 31 by omega)
                        have e9 := disS_1 (dr := ti) (ds := dr) c147 hlt hc0
                        have hP : va_P D vwCl (mw M cZ cI ((nI 0)) (enc (root (drawT c0 (delT h0 T)))) (nI (siz (drawT c0 (delT h0 T)))) (moD (delT h0 T) c0 mo) (ti + nI 1) (dr + nI (siz (subT c0 (delT h0 T)))) u9.1 u9.2.1 u9.2.2.1 u9.2.2.2.1 u9.2.2.2.2.1 u9.2.2.2.2.2.1 u9.2.2.2.2.2.2) H := by rw [k2d]; exact hP
                        have hD : va_D A (mw M cZ cI ((nI 0)) (enc (root (drawT c0 (delT h0 T)))) (nI (siz (drawT c0 (delT h0 T)))) (moD (delT h0 T) c0 mo) (ti + nI 1) (dr + nI (siz (subT c0 (delT h0 T)))) u9.1 u9.2.1 u9.2.2.1 u9.2.2.2.1 u9.2.2.2.2.1 u9.2.2.2.2.2.1 u9.2.2.2.2.2.2) := by rw [k2d]; exact hD
                        have hmz : disZ (nI h0) (T, mo, ti, dr) = _ := (if_pos (show kD (nI h0) T = 0 from kD_0 hh0 hm)).trans ((congrArg (fun z => disS z (T, mo, ti, dr)) ek).trans e9.1)
                        have eK : kD (nI h0) T = 0 := kD_0 hh0 hm
                        exact W.zret (v := (nI 1)) hx hb hr rfl (fun t ht hW => ⟨⟨_, (u9.1, u9.2.1, u9.2.2.1, u9.2.2.2.1, u9.2.2.2.2.1, u9.2.2.2.2.2.1, u9.2.2.2.2.2.2), rfl, ⟨fun _ => by rw [ek, e9.2]; rfl, by rw [hmz]; exact hr4⟩, by rw [eK, hmz, ht]; exact hP, hG.moved hW, by rw [eK, hmz]; exact hD⟩, hS.F ht⟩) hS.2.2 dX2_discharge_182
                      · have hlt : ¬ nI 3 * nI (siz (delT h0 T)) < nI 2 * mo := by rw [pk_mul]; exact c167
                        refine lv_iconst (v := nI 0) hx hb dX2_discharge_170 (by decide) ?_
                        have ek := kx_nI (show h0 < 2 ^ 31 by omega)
                        have e9 := disS_2 (dr := ti) (ds := dr) c147 hlt
                        have hmz : disZ (nI h0) (T, mo, ti, dr) = _ := (if_pos (show kD (nI h0) T = 0 from kD_0 hh0 hm)).trans ((congrArg (fun z => disS z (T, mo, ti, dr)) ek).trans e9.1)
                        have eK : kD (nI h0) T = 0 := kD_0 hh0 hm
                        exact W.zret (v := (nI 0)) hx hb hr rfl (fun t ht hW => ⟨⟨_, (nI ((wayT h0 T).length), ma, upd isIn h0 (nI 0), hgL u7.1 (parF h0 none T) h0 (enc (root (nd_ (.inner s1 k1 v1 l1 r1) (mnk (.inner s2 k2 v2 l2 r2)) (dmn (.inner s2 k2 v2 l2 r2))))), hgR u7.2 (parF h0 none T) h0 (enc (root (nd_ (.inner s1 k1 v1 l1 r1) (mnk (.inner s2 k2 v2 l2 r2)) (dmn (.inner s2 k2 v2 l2 r2))))), wy9, rw), rfl, ⟨fun _ => by rw [ek, e9.2]; rfl, by rw [hmz]; exact hr1⟩, by rw [eK, hmz, ht]; exact hP, hG.moved hW, by rw [eK, hmz]; exact hD⟩, hS.F ht⟩) hS.2.2 dX2_discharge_171
                    · replace c147 := (zr_eq0 (by omega)).mp c147
                      refine lv_aload_n hx hb dX2_discharge_150 rfl (lv_at hl 2 rfl) ?_
                      refine lv_iconst (v := nI 0) hx hb dX2_discharge_151 (by decide) ?_
                      refine va_put (D := D) (ci := 2) (v := .int (nI 0)) (ty := .int) (C := RX2) (T := TX2) (N := 13) hx hb hts (by decide +kernel) tyX2 tyX2_ok nmX2 hown hG.1 hP hD hS 0 mw_m rfl 3 (by decide) (hts (.fieldLink RX2 93 "LopsidedRanksModel" "most" "I") (by decide +kernel)) (fun _ h9 => h9) rfl (by decide +kernel) rfl rfl (Nat.le_of_ble_eq_true rfl) dX2_discharge_152 (fun H locs hP hD hS => ?_)
                      have hP : va_P D vwCl (mw M cZ cI ((nI 0)) (enc (root (delT h0 T))) (nI (siz (delT h0 T))) ((nI 0)) ti dr (nI ((wayT h0 T).length)) ma (upd isIn h0 (nI 0)) (hgL u7.1 (parF h0 none T) h0 (enc (root (nd_ (.inner s1 k1 v1 l1 r1) (mnk (.inner s2 k2 v2 l2 r2)) (dmn (.inner s2 k2 v2 l2 r2)))))) (hgR u7.2 (parF h0 none T) h0 (enc (root (nd_ (.inner s1 k1 v1 l1 r1) (mnk (.inner s2 k2 v2 l2 r2)) (dmn (.inner s2 k2 v2 l2 r2)))))) wy9 rw) H := hP
                      have hD : va_D A (mw M cZ cI ((nI 0)) (enc (root (delT h0 T))) (nI (siz (delT h0 T))) ((nI 0)) ti dr (nI ((wayT h0 T).length)) ma (upd isIn h0 (nI 0)) (hgL u7.1 (parF h0 none T) h0 (enc (root (nd_ (.inner s1 k1 v1 l1 r1) (mnk (.inner s2 k2 v2 l2 r2)) (dmn (.inner s2 k2 v2 l2 r2)))))) (hgR u7.2 (parF h0 none T) h0 (enc (root (nd_ (.inner s1 k1 v1 l1 r1) (mnk (.inner s2 k2 v2 l2 r2)) (dmn (.inner s2 k2 v2 l2 r2)))))) wy9 rw) := hD
                      refine lv_iconst (v := nI 3) hx hb dX2_discharge_155 (by decide) ?_
                      refine lv_aload_n hx hb dX2_discharge_156 rfl (lv_at hl 2 rfl) ?_
                      refine va_get (D := D) (ci := 2) (v := .int (nI (siz (delT h0 T)))) (C := RX2) (T := TX2) (N := 13) hx hb hts (by decide +kernel) hown hG.1 hP 0 mw_m rfl 2 (by decide) (hts (.fieldLink RX2 90 "LopsidedRanksModel" "soldiers" "I") (by decide +kernel)) (fun _ h9 => h9) rfl dX2_discharge_157 ?_
                      refine lv_imul hx hb dX2_discharge_160 ?_
                      refine zr_eqi (pk_mul 3 (siz (delT h0 T))) ?_
                      refine lv_iconst (v := nI 2) hx hb dX2_discharge_161 (by decide) ?_
                      refine lv_aload_n hx hb dX2_discharge_162 rfl (lv_at hl 2 rfl) ?_
                      refine va_get (D := D) (ci := 2) (v := .int ((nI 0))) (C := RX2) (T := TX2) (N := 13) hx hb hts (by decide +kernel) hown hG.1 hP 0 mw_m rfl 3 (by decide) (hts (.fieldLink RX2 93 "LopsidedRanksModel" "most" "I") (by decide +kernel)) (fun _ h9 => h9) rfl dX2_discharge_163 ?_
                      refine lv_imul hx hb dX2_discharge_166 ?_
                      refine zr_eqi (pk_mul 2 0) ?_
                      refine lv_icmp_lt (tgt := 172) hx hb dX2_discharge_167 (by decide) (fun c167 => ?_) (fun c167 => ?_)
                      · exact absurd c167 (by rw [c147]; decide)
                      · refine lv_iconst (v := nI 0) hx hb dX2_discharge_170 (by decide) ?_
                        have ek := kx_nI (show h0 < 2 ^ 31 by omega)
                        have e9 := disS_0 (mo := mo) (dr := ti) (ds := dr) c147
                        have hmz : disZ (nI h0) (T, mo, ti, dr) = _ := (if_pos (show kD (nI h0) T = 0 from kD_0 hh0 hm)).trans ((congrArg (fun z => disS z (T, mo, ti, dr)) ek).trans e9.1)
                        have eK : kD (nI h0) T = 0 := kD_0 hh0 hm
                        exact W.zret (v := (nI 0)) hx hb hr rfl (fun t ht hW => ⟨⟨_, (nI ((wayT h0 T).length), ma, upd isIn h0 (nI 0), hgL u7.1 (parF h0 none T) h0 (enc (root (nd_ (.inner s1 k1 v1 l1 r1) (mnk (.inner s2 k2 v2 l2 r2)) (dmn (.inner s2 k2 v2 l2 r2))))), hgR u7.2 (parF h0 none T) h0 (enc (root (nd_ (.inner s1 k1 v1 l1 r1) (mnk (.inner s2 k2 v2 l2 r2)) (dmn (.inner s2 k2 v2 l2 r2))))), wy9, rw), rfl, ⟨fun _ => by rw [ek, e9.2]; rfl, by rw [hmz]; exact hr1⟩, by rw [eK, hmz, ht]; exact hP, hG.moved hW, by rw [eK, hmz]; exact hD⟩, hS.F ht⟩) hS.2.2 dX2_discharge_171
              · exact absurd c74 (nI_m1 (by omega))
      · replace c33 := (not_congr (zr_eq0 (by omega))).mp c33
        exact absurd c33 (by decide)
  · have hno : hiB x0 = false := Bool.eq_false_iff.mpr (b2i_eq c5)
    refine lv_iconst (v := nI 1) hx hb dX2_discharge_8 (by decide) ?_
    refine lv_goto (tgt := 26) hx hb dX2_discharge_9 (by decide) ?_
    refine va_put (D := D) (ci := 2) (v := .int (nI 1)) (ty := .int) (C := RX2) (T := TX2) (N := 13) hx hb hts (by decide +kernel) tyX2 tyX2_ok nmX2 hown hG.1 hP hD hS 0 mw_m rfl 0 (by decide) (hts (.fieldLink RX2 30 "LopsidedRanksModel" "thrown" "I") (by decide +kernel)) (fun _ h9 => h9) rfl (by decide +kernel) rfl rfl (Nat.le_of_ble_eq_true rfl) dX2_discharge_26 (fun H locs hP hD hS => ?_)
    have hP : va_P D vwCl (mw M cZ cI ((nI 1)) (enc (root T)) (nI (siz T)) mo ti dr st ma isIn lf rt wy rw) H := hP
    have hD : va_D A (mw M cZ cI ((nI 1)) (enc (root T)) (nI (siz T)) mo ti dr st ma isIn lf rt wy rw) := hD
    refine lv_aload_n hx hb dX2_discharge_29 rfl (lv_at hl 0 rfl) ?_
    refine va_get (D := D) (ci := 2) (v := .int ((nI 1))) (C := RX2) (T := TX2) (N := 13) hx hb hts (by decide +kernel) hown hG.1 hP 0 mw_m rfl 0 (by decide) (hts (.fieldLink RX2 30 "LopsidedRanksModel" "thrown" "I") (by decide +kernel)) (fun _ h9 => h9) rfl dX2_discharge_30 ?_
    refine lv_if_eq (tgt := 38) hx hb dX2_discharge_33 (by decide) (fun c33 => ?_) (fun c33 => ?_)
    · replace c33 := (zr_eq0 (by omega)).mp c33
      exact absurd c33 (by decide)
    · replace c33 := (not_congr (zr_eq0 (by omega))).mp c33
      refine lv_iconst (v := nI 0) hx hb dX2_discharge_36 (by decide) ?_
      have eK : kD x0 T = 1 := kD_1 hno
      exact W.zret (v := (nI 0)) hx hb hr rfl (fun t ht hW => ⟨⟨_, (st, ma, isIn, lf, rt, wy, rw), rfl, ⟨fun q => absurd (eK.symm.trans q) (by decide), by rw [show disZ x0 (T, mo, ti, dr) = (T, mo, ti, dr) from if_neg (by show ¬ kD x0 T = 0; rw [eK]; decide)]; exact hrep⟩, by rw [eK, show disZ x0 (T, mo, ti, dr) = (T, mo, ti, dr) from if_neg (by show ¬ kD x0 T = 0; rw [eK]; decide), ht]; exact hP, hG.moved hW, by rw [eK, show disZ x0 (T, mo, ti, dr) = (T, mo, ti, dr) from if_neg (by show ¬ kD x0 T = 0; rw [eK]; decide)]; exact hD⟩, hS.F ht⟩) hS.2.2 dX2_discharge_37

