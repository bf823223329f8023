/-! READERS of the class, second part -/
set_option maxHeartbeats 4000000 in
set_option maxRecDepth 100000 in
theorem L_X1_lastOnTheWayTo {D : va_G} {cA cZ cI : ClassId} {x ln : Nat} {n : Int32} {tp : Option Nat} {mo dr ds : Int32} {li : Nat → Option Nat} {K : List Nat} {ad : Nat → Nat} {g : Nat → Nd} {p : Program} {l : Launch} {e : Env} {R : Room} {s : State} {m : MethodId} {args : Array Value} {below : List Frame} {meth : Method} {c : Code} {Q : State → Prop} {cells slots : Nat} {H : Heap} {locs : List Loc} (hx : p.tables.exec = Jvm.exec) (hb : c.code = cX1_lastOnTheWayTo) (hml : c.maxLocals = 4) (hts : ∀ w ∈ wsX1_lastOnTheWayTo, w.before args s = true) (hown : s.vm.findClass RX1 = some m.cls) (hG : GK D (tysA cA cZ cI) s) (hP : va_P D vwCl (cw x ln cA n tp mo dr ds li K ad g) H) (hR : 1 ≤ R.frames ∧ 40 ≤ R.locals) (hC : cells ≤ R.cells ∧ slots ≤ R.slots) {h : Nat} (hh : h < 1000) : ∀ {t : Tr} {a : Option Nat}, ShP g a t → (∀ j ∈ keysT t, j ∈ K ∧ j < 1000) → root (subT h t) = none → (∀ ls, lv_has ls 4 [(3, .null), (2, va_rf ((parF h a t).map ad)), (0, .ref x), (1, .int (nI h))] → W p l e R s m args below meth c H locs cells slots Q (F0 m 22 ls [])) → ∀ ls, lv_has ls 4 [(3, va_rf ((root t).map ad)), (2, va_rf (a.map ad)), (0, .ref x), (1, .int (nI h))] → W p l e R s m args below meth c H locs cells slots Q (F0 m 7 ls []) := by
  intro t
  induction t with
  | leaf =>
    intro a _ hin hn kk ls hl
    have hl : lv_has ls 4 [(3, .null), (2, va_rf (a.map ad)), (0, .ref x), (1, .int (nI h))] := hl
    refine lv_aload_nN hx hb dX1_lastOnTheWayTo_7 rfl (lv_at hl 0 rfl) ?_
    refine lv_ifnullN (tgt := 22) hx hb dX1_lastOnTheWayTo_8 (by decide) ?_
    exact kk _ hl
  | inner sz k v lt rt ihl ihr =>
    intro a hs hin hn kk ls hl
    obtain ⟨h1, h2, h3, h4, h5⟩ := hs
    obtain ⟨hk, hkn⟩ := hin k ((keys_in ..).mpr (Or.inr (Or.inl rfl)))
    have hne : ¬ h = k := by
      intro q
      subst q
      rw [sub_s] at hn
      cases hn
    have hl : lv_has ls 4 [(3, .ref (ad k)), (2, va_rf (a.map ad)), (0, .ref x), (1, .int (nI h))] := hl
    refine lv_aload_n hx hb dX1_lastOnTheWayTo_7 rfl (lv_at hl 0 rfl) ?_
    refine lv_ifnull hx hb dX1_lastOnTheWayTo_8 ?_
    refine lv_aload_n hx hb dX1_lastOnTheWayTo_11 rfl (lv_at hl 0 rfl) ?_
    refine lv_astore_n (lv' := [(2, .ref (ad k)), (3, .ref (ad k)), (0, .ref x), (1, .int (nI h))]) hx hb dX1_lastOnTheWayTo_12 rfl hl (by decide) rfl (fun ls hl => ?_)
    refine lv_aload_n hx hb dX1_lastOnTheWayTo_13 rfl (lv_at hl 1 rfl) ?_
    refine lv_iload_n hx hb dX1_lastOnTheWayTo_14 rfl (lv_at hl 3 rfl) ?_
    obtain ⟨i0, hi0⟩ := cw_s (x := x) (ln := ln) (cA := cA) (n := n) (tp := tp) (mo := mo) (dr := dr) (ds := ds) (li := li) (ad := ad) (g := g) (hk : k ∈ K)
    refine va_csq (va_Run.run (va_runV (As := [.int (nI h)]) (rest := []) ⟨hx, hb, hml, hown, hts⟩ (c_X0_towards l hk (by omega) (by omega)) (cwV 1 hts gX1_lastOnTheWayTo_X0_towards rfl rfl rfl (by decide +kernel) ⟨Nat.le_trans (Nat.le_of_ble_eq_true rfl) hR.1, Nat.le_trans (Nat.le_of_ble_eq_true rfl) hR.2⟩) ⟨PcR.blind, va_recv hG.1 hP (ci := 0) (q0 := i0) rfl hi0, PcR.at hP hG⟩ rfl rfl hl.1 rfl (lv_room (Nat.le_of_ble_eq_true rfl)) dX1_lastOnTheWayTo_15 ⟨hC.1, hC.2⟩)) (fun r15 q15 => ?_)
    subst q15
    refine zr_astore_n (lv' := [(3, va_rf ((if h < k then (g k).2.1 else (g k).2.2.1).map ad)), (2, .ref (ad k)), (0, .ref x), (1, .int (nI h))]) hx hb dX1_lastOnTheWayTo_18 rfl hl (by decide) rfl (fun ls hl => ?_)
    refine lv_goto (tgt := 7) hx hb dX1_lastOnTheWayTo_19 (by decide) ?_
    by_cases hlt : h < k
    · rw [if_pos hlt, h2] at hl
      rw [sub_l hlt] at hn
      have e9 : parF h a (.inner sz k v lt rt) = parF h (some k) lt := by simp [parF, hlt, hne]
      rw [e9] at kk
      exact ihl (a := some k) h4 (fun j hj => hin j ((keys_in ..).mpr (Or.inl hj))) hn kk _ hl
    · rw [if_neg hlt, h3] at hl
      rw [sub_r (by omega)] at hn
      have e9 : parF h a (.inner sz k v lt rt) = parF h (some k) rt := by simp [parF, hlt, hne]
      rw [e9] at kk
      exact ihr (a := some k) h5 (fun j hj => hin j ((keys_in ..).mpr (Or.inr (Or.inr hj)))) hn kk _ hl
set_option maxHeartbeats 4000000 in
set_option maxRecDepth 100000 in
/-- lastOnTheWayTo(h), where h is not there -/
theorem c_X1_lastOnTheWayTo (l : Launch) {D : va_G} {cA cZ cI : ClassId} {x ln : Nat} {n : Int32} {mo dr ds : Int32} {li : Nat → Option Nat} {K : List Nat} {ad : Nat → Nat} {g : Nat → Nd} {T : Tr} {h : Nat} (hh : h < 1000) (hs : ShP g none T) (hin : ∀ j ∈ keysT T, j ∈ K ∧ j < 1000) (hn : root (subT h T) = none) : Met l yX1_lastOnTheWayTo wsX1_lastOnTheWayTo ({ frames := 1, cells := 0, slots := 0, locals := 40 } : Room) (PcR D (tysA cA cZ cI) (cw x ln cA n (root T) mo dr ds li K ad g) [.ref x, .int (nI h)]) (va_Sq (fun r => r = (parF h none T).map ad)) 0 0 (fun _ => False) := by
  refine Met.ofW (cc := cX1_lastOnTheWayTo) (maxL := 4) (ret := (some (.object "LopsidedRanks$Soldier"))) (by decide) rfl ?_
  intro p e s m args below meth c s₁ B hml hv
  obtain ⟨rfl, hP, hG⟩ := hv
  have hx := B.exec
  have hb := B.bytes
  have hr := B.returns
  have hts := atoms_spec (ws := wsX1_lastOnTheWayTo) B.pre
  have hown : s.vm.findClass RX1 = some m.cls := findClass_of_methodNamed B.named
  have hlocks := B.notSynchronized
  have hl := lv_entry ([.ref x, .int (nI h)]) (n := 4) (Nat.le_of_ble_eq_true rfl)
  rw [lg_entry_eq]
  generalize (lg_sl ([.ref x, .int (nI h)]) ++ List.replicate (4 - (lg_sl ([.ref x, .int (nI h)])).length) Slot.unset).toArray = ls at hl ⊢
  have hl : lv_has ls 4 [(0, .ref x), (1, .int (nI h))] := hl
  refine lv_null hx hb dX1_lastOnTheWayTo_0 ?_
  refine lv_astore_nN (lv' := [(2, .null), (0, .ref x), (1, .int (nI h))]) hx hb dX1_lastOnTheWayTo_1 rfl hl (by decide) rfl (fun ls hl => ?_)
  refine lv_aload_n hx hb dX1_lastOnTheWayTo_2 rfl (lv_at hl 1 rfl) ?_
  refine va_get (D := D) (ci := 1) (v := va_rf ((root T).map ad)) (C := RX1) (T := TX1) (N := 6) hx hb hts (by decide +kernel) hown hG.1 hP 0 cw_x rfl 2 (by decide) (hts (.fieldLink RX1 77 "LopsidedRanks" "top" "LLopsidedRanks$Soldier;") (by decide +kernel)) (fun _ h9 => h9) rfl dX1_lastOnTheWayTo_3 ?_
  refine zr_astore_n (lv' := [(3, va_rf ((root T).map ad)), (2, .null), (0, .ref x), (1, .int (nI h))]) hx hb dX1_lastOnTheWayTo_6 rfl hl (by decide) rfl (fun ls hl => ?_)
  refine L_X1_lastOnTheWayTo (t := T) (a := none) hx hb hml hts hown hG hP ⟨Nat.le_of_ble_eq_true rfl, Nat.le_of_ble_eq_true rfl⟩ ⟨Nat.zero_le _, Nat.zero_le _⟩ hh hs hin hn (fun ls hl => ?_) _ hl
  refine zr_aload_n hx hb dX1_lastOnTheWayTo_22 rfl (lv_at hl 1 rfl) ?_
  exact zr_aret (r := (parF h none T).map ad) hx hb hr (Or.inl ⟨_, rfl⟩) (fun t ht hW => ⟨_, rfl, rfl, ht⟩) (fun q hq => absurd hq List.not_mem_nil) dX1_lastOnTheWayTo_23 hlocks

set_option maxHeartbeats 4000000 in
set_option maxRecDepth 100000 in
theorem L_X1_smallerThan {D : va_G} {cA cZ cI : ClassId} {x ln : Nat} {n : Int32} {tp : Option Nat} {mo dr ds : Int32} {li : Nat → Option Nat} {K : List Nat} {ad : Nat → Nat} {g : Nat → Nd} {p : Program} {l : Launch} {e : Env} {R : Room} {s : State} {m : MethodId} {args : Array Value} {below : List Frame} {meth : Method} {c : Code} {Q : State → Prop} {cells slots : Nat} {H : Heap} {locs : List Loc} (hx : p.tables.exec = Jvm.exec) (hb : c.code = cX1_smallerThan) (hml : c.maxLocals = 4) (hts : ∀ w ∈ wsX1_smallerThan, w.before args s = true) (hown : s.vm.findClass RX1 = some m.cls) (hG : GK D (tysA cA cZ cI) s) (hP : va_P D vwCl (cw x ln cA n tp mo dr ds li K ad g) H) (hR : 1 ≤ R.frames ∧ 40 ≤ R.locals) (hC : cells ≤ R.cells ∧ slots ≤ R.slots) (hcl : Cl K g) {h : Nat} (hh : h ≤ 1000) : ∀ {t : Tr} {a : Option Nat} {d : Nat}, ShP g a t → ShC g t → (∀ j ∈ keysT t, j ∈ K ∧ j < 1000) → (∀ ls, W p l e R s m args below meth c H locs cells slots Q (F0 m 28 ls [.int (nI (d + cntLt h t))])) → (∀ ls, W p l e R s m args below meth c H locs cells slots Q (F0 m 59 ls [.int (nI (d + cntLt h t))])) → ∀ ls, lv_has ls 4 [(3, va_rf ((root t).map ad)), (2, .int (nI d)), (0, .ref x), (1, .int (nI h))] → W p l e R s m args below meth c H locs cells slots Q (F0 m 7 ls []) := by
  intro t
  induction t with
  | leaf =>
    intro a d _ _ hin k28 k59 ls hl
    have hl : lv_has ls 4 [(3, .null), (2, .int (nI d)), (0, .ref x), (1, .int (nI h))] := hl
    refine lv_aload_nN hx hb dX1_smallerThan_7 rfl (lv_at hl 0 rfl) ?_
    refine lv_ifnullN (tgt := 58) hx hb dX1_smallerThan_8 (by decide) ?_
    refine lv_iload_n hx hb dX1_smallerThan_58 rfl (lv_at hl 1 rfl) ?_
    exact k59 _
  | inner sz k v lt rt ihl ihr =>
    intro a d hs hc hin k28 k59 ls hl
    obtain ⟨h1, h2, h3, h4, h5⟩ := hs
    obtain ⟨hc1, hc4, hc5⟩ := hc
    obtain ⟨hk, hkn⟩ := hin k ((keys_in ..).mpr (Or.inr (Or.inl rfl)))
    have hco : coOf g (g k).2.1 = nI (siz lt) := by rw [h2]; exact co_root hc4
    have hl : lv_has ls 4 [(3, .ref (ad k)), (2, .int (nI d)), (0, .ref x), (1, .int (nI h))] := hl
    refine lv_aload_n hx hb dX1_smallerThan_7 rfl (lv_at hl 0 rfl) ?_
    refine lv_ifnull hx hb dX1_smallerThan_8 ?_
    refine lv_aload_n hx hb dX1_smallerThan_11 rfl (lv_at hl 0 rfl) ?_
    obtain ⟨i0, hi0⟩ := cw_s (x := x) (ln := ln) (cA := cA) (n := n) (tp := tp) (mo := mo) (dr := dr) (ds := ds) (li := li) (ad := ad) (g := g) (hk : k ∈ K)
    refine va_get (D := D) (ci := 0) (v := .int (nI k)) (C := RX0) (T := TX0) (N := 5) hx hb hts (by decide +kernel) hown hG.1 hP i0 hi0 rfl 0 (by decide) (hts (.fieldLink RX1 100 "LopsidedRanks$Soldier" "height" "I") (by decide +kernel)) (fun _ h9 => h9) rfl dX1_smallerThan_12 ?_
    refine lv_iload_n hx hb dX1_smallerThan_15 rfl (lv_at hl 3 rfl) ?_
    refine lv_icmp_ne (tgt := 29) hx hb dX1_smallerThan_16 (by decide) (fun c16 => ?_) (fun c16 => ?_)
    · rw [nI_eq (by omega) (by omega)] at c16
      have hne : ¬ h = k := fun q => c16 q.symm
      refine lv_aload_n hx hb dX1_smallerThan_29 rfl (lv_at hl 0 rfl) ?_
      obtain ⟨i1, hi1⟩ := cw_s (x := x) (ln := ln) (cA := cA) (n := n) (tp := tp) (mo := mo) (dr := dr) (ds := ds) (li := li) (ad := ad) (g := g) (hk : k ∈ K)
      refine va_get (D := D) (ci := 0) (v := .int (nI k)) (C := RX0) (T := TX0) (N := 5) hx hb hts (by decide +kernel) hown hG.1 hP i1 hi1 rfl 0 (by decide) (hts (.fieldLink RX1 100 "LopsidedRanks$Soldier" "height" "I") (by decide +kernel)) (fun _ h9 => h9) rfl dX1_smallerThan_30 ?_
      refine lv_iload_n hx hb dX1_smallerThan_33 rfl (lv_at hl 3 rfl) ?_
      refine lv_icmp_ge (tgt := 49) hx hb dX1_smallerThan_34 (by decide) (fun c34 => ?_) (fun c34 => ?_)
      · rw [nI_leI (by omega) (by omega)] at c34
        refine lv_aload_n hx hb dX1_smallerThan_49 rfl (lv_at hl 0 rfl) ?_
        refine lv_iload_n hx hb dX1_smallerThan_50 rfl (lv_at hl 3 rfl) ?_
        obtain ⟨i2, hi2⟩ := cw_s (x := x) (ln := ln) (cA := cA) (n := n) (tp := tp) (mo := mo) (dr := dr) (ds := ds) (li := li) (ad := ad) (g := g) (hk : k ∈ K)
        refine va_csq (va_Run.run (va_runV (As := [.int (nI h)]) (rest := []) ⟨hx, hb, hml, hown, hts⟩ (c_X0_towards l hk (by omega) (by omega)) (cwV 1 hts gX1_smallerThan_X0_towards rfl rfl rfl (by decide +kernel) ⟨Nat.le_trans (Nat.le_of_ble_eq_true rfl) hR.1, Nat.le_trans (Nat.le_of_ble_eq_true rfl) hR.2⟩) ⟨PcR.blind, va_recv hG.1 hP (ci := 0) (q0 := i2) rfl hi2, PcR.at hP hG⟩ rfl rfl hl.1 rfl (lv_room (Nat.le_of_ble_eq_true rfl)) dX1_smallerThan_51 ⟨hC.1, hC.2⟩)) (fun r51 q51 => ?_)
        subst q51
        refine zr_astore_n (lv' := [(3, va_rf ((if h < k then (g k).2.1 else (g k).2.2.1).map ad)), (2, .int (nI d)), (0, .ref x), (1, .int (nI h))]) hx hb dX1_smallerThan_54 rfl hl (by decide) rfl (fun ls hl => ?_)
        refine lv_goto (tgt := 7) hx hb dX1_smallerThan_55 (by decide) ?_
        have hlt : h < k := by omega
        rw [if_pos hlt, h2] at hl
        have e9 : cntLt h (.inner sz k v lt rt) = cntLt h lt := by simp [cntLt, hlt, hne]
        rw [e9] at k28 k59
        exact ihl h4 hc4 (fun j hj => hin j ((keys_in ..).mpr (Or.inl hj))) k28 k59 _ (lv_sub hl [0, 1, 2, 3] rfl)
      · rw [nI_leI (by omega) (by omega)] at c34
        refine lv_iload_n hx hb dX1_smallerThan_37 rfl (lv_at hl 1 rfl) ?_
        refine lv_aload_n hx hb dX1_smallerThan_38 rfl (lv_at hl 0 rfl) ?_
        obtain ⟨i3, hi3⟩ := cw_s (x := x) (ln := ln) (cA := cA) (n := n) (tp := tp) (mo := mo) (dr := dr) (ds := ds) (li := li) (ad := ad) (g := g) (hk : k ∈ K)
        refine va_get (D := D) (ci := 0) (v := va_rf ((g k).2.1.map ad)) (C := RX0) (T := TX0) (N := 5) hx hb hts (by decide +kernel) hown hG.1 hP i3 hi3 rfl 2 (by decide) (hts (.fieldLink RX1 150 "LopsidedRanks$Soldier" "left" "LLopsidedRanks$Soldier;") (by decide +kernel)) (fun _ h9 => h9) rfl dX1_smallerThan_39 ?_
        refine vp_callSi (va_Run.run (va_runS (As := [va_rf ((g k).2.1.map ad)]) (rest := [.int (nI d)]) ⟨hx, hb, hml, hown, hts⟩ (c_X1_companyOf l (o := (g k).2.1) (hcl k hk).2.2.1) (va_cwS 1 hts gX1_smallerThan_X1_companyOf rfl rfl rfl (by decide +kernel) ⟨Nat.le_trans (Nat.le_of_ble_eq_true rfl) hR.1, Nat.le_trans (Nat.le_of_ble_eq_true rfl) hR.2⟩) ⟨PcR.blind, PcR.at hP hG⟩ rfl rfl hl.1 rfl (lv_room (Nat.le_of_ble_eq_true rfl)) dX1_smallerThan_42 ⟨hC.1, hC.2⟩)) (fun r42 q42 => ?_)
        subst q42
        refine zr_eqi hco ?_
        refine lv_iconst (v := nI 1) hx hb dX1_smallerThan_45 (by decide) ?_
        refine lv_iadd hx hb dX1_smallerThan_46 ?_
        refine zr_eqi (nI_add (siz lt) 1) ?_
        refine lv_iadd hx hb dX1_smallerThan_47 ?_
        refine zr_eqi (nI_add d ((siz lt) + 1)) ?_
        refine lv_istore_n (lv' := [(2, .int (nI (d + ((siz lt) + 1)))), (3, .ref (ad k)), (0, .ref x), (1, .int (nI h))]) hx hb dX1_smallerThan_48 rfl hl (by decide) rfl (fun ls hl => ?_)
        refine lv_aload_n hx hb dX1_smallerThan_49 rfl (lv_at hl 1 rfl) ?_
        refine lv_iload_n hx hb dX1_smallerThan_50 rfl (lv_at hl 3 rfl) ?_
        obtain ⟨i4, hi4⟩ := cw_s (x := x) (ln := ln) (cA := cA) (n := n) (tp := tp) (mo := mo) (dr := dr) (ds := ds) (li := li) (ad := ad) (g := g) (hk : k ∈ K)
        refine va_csq (va_Run.run (va_runV (As := [.int (nI h)]) (rest := []) ⟨hx, hb, hml, hown, hts⟩ (c_X0_towards l hk (by omega) (by omega)) (cwV 1 hts gX1_smallerThan_X0_towards rfl rfl rfl (by decide +kernel) ⟨Nat.le_trans (Nat.le_of_ble_eq_true rfl) hR.1, Nat.le_trans (Nat.le_of_ble_eq_true rfl) hR.2⟩) ⟨PcR.blind, va_recv hG.1 hP (ci := 0) (q0 := i4) rfl hi4, PcR.at hP hG⟩ rfl rfl hl.1 rfl (lv_room (Nat.le_of_ble_eq_true rfl)) dX1_smallerThan_51 ⟨hC.1, hC.2⟩)) (fun r51 q51 => ?_)
        subst q51
        refine zr_astore_n (lv' := [(3, va_rf ((if h < k then (g k).2.1 else (g k).2.2.1).map ad)), (2, .int (nI (d + ((siz lt) + 1)))), (0, .ref x), (1, .int (nI h))]) hx hb dX1_smallerThan_54 rfl hl (by decide) rfl (fun ls hl => ?_)
        refine lv_goto (tgt := 7) hx hb dX1_smallerThan_55 (by decide) ?_
        have hlt : ¬ h < k := by omega
        rw [if_neg hlt, h3] at hl
        have e9 : d + cntLt h (.inner sz k v lt rt) = d + (siz lt + 1) + cntLt h rt := by simp [cntLt, hlt, hne]; omega
        rw [e9] at k28 k59
        exact ihr (d := d + (siz lt + 1)) h5 hc5 (fun j hj => hin j ((keys_in ..).mpr (Or.inr (Or.inr hj)))) k28 k59 _ (lv_sub hl [0, 1, 2, 3] rfl)
    · rw [nI_eq (by omega) (by omega)] at c16
      refine lv_iload_n hx hb dX1_smallerThan_19 rfl (lv_at hl 1 rfl) ?_
      refine lv_aload_n hx hb dX1_smallerThan_20 rfl (lv_at hl 0 rfl) ?_
      obtain ⟨i5, hi5⟩ := cw_s (x := x) (ln := ln) (cA := cA) (n := n) (tp := tp) (mo := mo) (dr := dr) (ds := ds) (li := li) (ad := ad) (g := g) (hk : k ∈ K)
      refine va_get (D := D) (ci := 0) (v := va_rf ((g k).2.1.map ad)) (C := RX0) (T := TX0) (N := 5) hx hb hts (by decide +kernel) hown hG.1 hP i5 hi5 rfl 2 (by decide) (hts (.fieldLink RX1 150 "LopsidedRanks$Soldier" "left" "LLopsidedRanks$Soldier;") (by decide +kernel)) (fun _ h9 => h9) rfl dX1_smallerThan_21 ?_
      refine vp_callSi (va_Run.run (va_runS (As := [va_rf ((g k).2.1.map ad)]) (rest := [.int (nI d)]) ⟨hx, hb, hml, hown, hts⟩ (c_X1_companyOf l (o := (g k).2.1) (hcl k hk).2.2.1) (va_cwS 1 hts gX1_smallerThan_X1_companyOf rfl rfl rfl (by decide +kernel) ⟨Nat.le_trans (Nat.le_of_ble_eq_true rfl) hR.1, Nat.le_trans (Nat.le_of_ble_eq_true rfl) hR.2⟩) ⟨PcR.blind, PcR.at hP hG⟩ rfl rfl hl.1 rfl (lv_room (Nat.le_of_ble_eq_true rfl)) dX1_smallerThan_24 ⟨hC.1, hC.2⟩)) (fun r24 q24 => ?_)
      subst q24
      refine zr_eqi hco ?_
      refine lv_iadd hx hb dX1_smallerThan_27 ?_
      refine zr_eqi (nI_add d (siz lt)) ?_
      rw [show d + siz lt = d + cntLt h (.inner sz k v lt rt) by simp [cntLt, c16]]
      exact k28 _
set_option maxHeartbeats 4000000 in
set_option maxRecDepth 100000 in
/-- smallerThan(h) -/
theorem c_X1_smallerThan (l : Launch) {D : va_G} {cA cZ cI : ClassId} {x ln : Nat} {n : Int32} {mo dr ds : Int32} {li : Nat → Option Nat} {K : List Nat} {ad : Nat → Nat} {g : Nat → Nd} {T : Tr} {h : Nat} (hcl : Cl K g) (hh : h ≤ 1000) (hs : ShP g none T) (hc : ShC g T) (hin : ∀ j ∈ keysT T, j ∈ K ∧ j < 1000) : Met l yX1_smallerThan wsX1_smallerThan ({ frames := 1, cells := 0, slots := 0, locals := 40 } : Room) (PcR D (tysA cA cZ cI) (cw x ln cA n (root T) mo dr ds li K ad g) [.ref x, .int (nI h)]) (vp_Si (fun r => r = nI (cntLt h T))) 0 0 (fun _ => False) := by
  refine Met.ofW (cc := cX1_smallerThan) (maxL := 4) (ret := (some .int)) (by decide) rfl ?_
  intro p e s m args below meth c s₁ B hml hv
  obtain ⟨rfl, hP, hG⟩ := hv
  have hx := B.exec
  have hb := B.bytes
  have hr := B.returns
  have hts := atoms_spec (ws := wsX1_smallerThan) B.pre
  have hown : s.vm.findClass RX1 = some m.cls := findClass_of_methodNamed B.named
  have hlocks := B.notSynchronized
  have hl := lv_entry ([.ref x, .int (nI h)]) (n := 4) (Nat.le_of_ble_eq_true rfl)
  rw [lg_entry_eq]
  generalize (lg_sl ([.ref x, .int (nI h)]) ++ List.replicate (4 - (lg_sl ([.ref x, .int (nI h)])).length) Slot.unset).toArray = ls at hl ⊢
  have hl : lv_has ls 4 [(0, .ref x), (1, .int (nI h))] := hl
  refine lv_iconst (v := nI 0) hx hb dX1_smallerThan_0 (by decide) ?_
  refine lv_istore_n (lv' := [(2, .int (nI 0)), (0, .ref x), (1, .int (nI h))]) hx hb dX1_smallerThan_1 rfl hl (by decide) rfl (fun ls hl => ?_)
  refine lv_aload_n hx hb dX1_smallerThan_2 rfl (lv_at hl 1 rfl) ?_
  refine va_get (D := D) (ci := 1) (v := va_rf ((root T).map ad)) (C := RX1) (T := TX1) (N := 6) hx hb hts (by decide +kernel) hown hG.1 hP 0 cw_x rfl 2 (by decide) (hts (.fieldLink RX1 77 "LopsidedRanks" "top" "LLopsidedRanks$Soldier;") (by decide +kernel)) (fun _ h9 => h9) rfl dX1_smallerThan_3 ?_
  refine zr_astore_n (lv' := [(3, va_rf ((root T).map ad)), (2, .int (nI 0)), (0, .ref x), (1, .int (nI h))]) hx hb dX1_smallerThan_6 rfl hl (by decide) rfl (fun ls hl => ?_)
  refine L_X1_smallerThan (t := T) (a := none) (d := 0) hx hb hml hts hown hG hP ⟨Nat.le_of_ble_eq_true rfl, Nat.le_of_ble_eq_true rfl⟩ ⟨Nat.zero_le _, Nat.zero_le _⟩ hcl hh hs hc hin (fun ls => ?_) (fun ls => ?_) _ (lv_sub hl [0, 1, 2, 3] rfl)
  · exact W.iret (v := (nI (0 + cntLt h T))) hx hb hr (fun t ht hW => ⟨_, rfl, by rw [Nat.zero_add], ht⟩) (fun q hq => absurd hq List.not_mem_nil) dX1_smallerThan_28
  · exact W.iret (v := (nI (0 + cntLt h T))) hx hb hr (fun t ht hW => ⟨_, rfl, by rw [Nat.zero_add], ht⟩) (fun q hq => absurd hq List.not_mem_nil) dX1_smallerThan_59

set_option maxHeartbeats 4000000 in
set_option maxRecDepth 100000 in
/-- inLine(j) -/
theorem c_X1_inLine (l : Launch) {D : va_G} {cA cZ cI : ClassId} {x ln : Nat} {tp : Option Nat} {mo dr ds : Int32} {li : Nat → Option Nat} {K : List Nat} {ad : Nat → Nat} {g : Nat → Nd} {N j : Nat} (hN : N ≤ 150) (hj : j < 2 ^ 31) : Met l yX1_inLine wsX1_inLine ({ frames := 0, cells := 0, slots := 0, locals := 0 } : Room) (PcR D (tysA cA cZ cI) (cw x ln cA (nI N) tp mo dr ds li K ad g) [.ref x, .int (nI j)]) (va_Sq (fun r => r = (if j < N then li j else none).map ad)) 0 0 (fun _ => False) := by
  refine Met.ofW (cc := cX1_inLine) (maxL := 2) (ret := (some (.object "LopsidedRanks$Soldier"))) (by decide) rfl ?_
  intro p e s m args below meth c s₁ B hml hv
  obtain ⟨rfl, hP, hG⟩ := hv
  have hx := B.exec
  have hb := B.bytes
  have hr := B.returns
  have hts := atoms_spec (ws := wsX1_inLine) B.pre
  have hown : s.vm.findClass RX1 = some m.cls := findClass_of_methodNamed B.named
  have hlocks := B.notSynchronized
  have hl := lv_entry ([.ref x, .int (nI j)]) (n := 2) (Nat.le_of_ble_eq_true rfl)
  rw [lg_entry_eq]
  generalize (lg_sl ([.ref x, .int (nI j)]) ++ List.replicate (2 - (lg_sl ([.ref x, .int (nI j)])).length) Slot.unset).toArray = ls at hl ⊢
  have hl : lv_has ls 2 [(0, .ref x), (1, .int (nI j))] := hl
  refine lv_iload_n hx hb dX1_inLine_0 rfl (lv_at hl 1 rfl) ?_
  refine lv_if_lt (tgt := 30) hx hb dX1_inLine_1 (by decide) (fun c1 => ?_) (fun c1 => ?_)
  · replace c1 := (zr_lt0 (by omega)).mp c1
    exact absurd c1 id
  · replace c1 := (not_congr (zr_lt0 (by omega))).mp c1
    refine lv_iload_n hx hb dX1_inLine_4 rfl (lv_at hl 1 rfl) ?_
    refine lv_aload_n hx hb dX1_inLine_5 rfl (lv_at hl 0 rfl) ?_
    refine va_get (D := D) (ci := 1) (v := .int (nI N)) (C := RX1) (T := TX1) (N := 6) hx hb hts (by decide +kernel) hown hG.1 hP 0 cw_x rfl 1 (by decide) (hts (.fieldLink RX1 19 "LopsidedRanks" "soldiers" "I") (by decide +kernel)) (fun _ h9 => h9) rfl dX1_inLine_6 ?_
    refine lv_icmp_ge (tgt := 30) hx hb dX1_inLine_9 (by decide) (fun c9 => ?_) (fun c9 => ?_)
    · rw [nI_leI (by omega) (by omega)] at c9
      refine lv_null hx hb dX1_inLine_30 ?_
      exact zr_aret (r := none) hx hb hr (Or.inl ⟨_, rfl⟩) (fun t ht hW => ⟨_, rfl, by rw [if_neg (by omega)]; rfl, ht⟩) (fun q hq => absurd hq List.not_mem_nil) dX1_inLine_31 hlocks
    · rw [nI_leI (by omega) (by omega)] at c9
      refine lv_iload_n hx hb dX1_inLine_12 rfl (lv_at hl 1 rfl) ?_
      refine lv_aload_n hx hb dX1_inLine_13 rfl (lv_at hl 0 rfl) ?_
      refine va_get (D := D) (ci := 1) (v := .ref ln) (C := RX1) (T := TX1) (N := 6) hx hb hts (by decide +kernel) hown hG.1 hP 0 cw_x rfl 0 (by decide) (hts (.fieldLink RX1 11 "LopsidedRanks" "line" "[LLopsidedRanks$Soldier;") (by decide +kernel)) (fun _ h9 => h9) rfl dX1_inLine_14 ?_
      refine va_alen hx hb hG.1 hP 1 0 cw_l (ty := .object RX0) rfl (v := nI 150) rfl dX1_inLine_17 ?_
      refine lv_icmp_ge (tgt := 30) hx hb dX1_inLine_18 (by decide) (fun c18 => ?_) (fun c18 => ?_)
      · rw [nI_leI (by omega) (by omega)] at c18
        refine lv_null hx hb dX1_inLine_30 ?_
        exact zr_aret (r := none) hx hb hr (Or.inl ⟨_, rfl⟩) (fun t ht hW => ⟨_, rfl, by rw [if_neg (by omega)]; rfl, ht⟩) (fun q hq => absurd hq List.not_mem_nil) dX1_inLine_31 hlocks
      · rw [nI_leI (by omega) (by omega)] at c18
        refine lv_aload_n hx hb dX1_inLine_21 rfl (lv_at hl 0 rfl) ?_
        refine va_get (D := D) (ci := 1) (v := .ref ln) (C := RX1) (T := TX1) (N := 6) hx hb hts (by decide +kernel) hown hG.1 hP 0 cw_x rfl 0 (by decide) (hts (.fieldLink RX1 11 "LopsidedRanks" "line" "[LLopsidedRanks$Soldier;") (by decide +kernel)) (fun _ h9 => h9) rfl dX1_inLine_22 ?_
        refine lv_iload_n hx hb dX1_inLine_25 rfl (lv_at hl 1 rfl) ?_
        refine zr_aldq hx hb hG.1 hP 1 0 cw_l rfl (k := j) (by omega) (Nat.le_of_ble_eq_true rfl) dX1_inLine_26 ?_
        refine lv_goto (tgt := 31) hx hb dX1_inLine_27 (by decide) ?_
        exact zr_aret (r := (li j).map ad) hx hb hr (Or.inl ⟨_, rfl⟩) (fun t ht hW => ⟨_, rfl, by rw [if_pos (by omega)], ht⟩) (fun q hq => absurd hq List.not_mem_nil) dX1_inLine_31 hlocks

set_option maxHeartbeats 4000000 in
set_option maxRecDepth 100000 in
/-- inLine(j) of a number below 0 -/
theorem c_X1_inLineN (l : Launch) {D : va_G} {cA cZ cI : ClassId} {x ln : Nat} {n : Int32} {tp : Option Nat} {mo dr ds : Int32} {li : Nat → Option Nat} {K : List Nat} {ad : Nat → Nat} {g : Nat → Nd} {pl : Int32} (hj : pl < 0) : Met l yX1_inLine wsX1_inLine ({ frames := 0, cells := 0, slots := 0, locals := 0 } : Room) (PcR D (tysA cA cZ cI) (cw x ln cA n tp mo dr ds li K ad g) [.ref x, .int pl]) (va_Sq (fun r => r = (none : Option Nat).map ad)) 0 0 (fun _ => False) := by
  refine Met.ofW (cc := cX1_inLine) (maxL := 2) (ret := (some (.object "LopsidedRanks$Soldier"))) (by decide) rfl ?_
  intro p e s m args below meth c s₁ B hml hv
  obtain ⟨rfl, hP, hG⟩ := hv
  have hx := B.exec
  have hb := B.bytes
  have hr := B.returns
  have hts := atoms_spec (ws := wsX1_inLine) B.pre
  have hown : s.vm.findClass RX1 = some m.cls := findClass_of_methodNamed B.named
  have hlocks := B.notSynchronized
  have hl := lv_entry ([.ref x, .int pl]) (n := 2) (Nat.le_of_ble_eq_true rfl)
  rw [lg_entry_eq]
  generalize (lg_sl ([.ref x, .int pl]) ++ List.replicate (2 - (lg_sl ([.ref x, .int pl])).length) Slot.unset).toArray = ls at hl ⊢
  have hl : lv_has ls 2 [(0, .ref x), (1, .int pl)] := hl
  refine lv_iload_n hx hb dX1_inLine_0 rfl (lv_at hl 1 rfl) ?_
  refine lv_if_lt (tgt := 30) hx hb dX1_inLine_1 (by decide) (fun c1 => ?_) (fun c1 => ?_)
  · refine lv_null hx hb dX1_inLine_30 ?_
    exact zr_aret (r := none) hx hb hr (Or.inl ⟨_, rfl⟩) (fun t ht hW => ⟨_, rfl, rfl, ht⟩) (fun q hq => absurd hq List.not_mem_nil) dX1_inLine_31 hlocks
  · exact absurd hj c1

theorem b2i_ne {b : Bool} (h : ¬ b2i b = 0) : b = true := by cases b with
  | true => rfl
  | false => exact absurd rfl h
theorem b2i_eq {b : Bool} (h : b2i b = 0) : ¬ b = true := by cases b with
  | true => exact absurd h (by decide)
  | false => decide
set_option maxHeartbeats 4000000 in
set_option maxRecDepth 100000 in
theorem L_X1_firstCrookedFrom {D : va_G} {cA cZ cI : ClassId} {x ln : Nat} {n : Int32} {tp : Option Nat} {mo dr ds : Int32} {li : Nat → Option Nat} {K : List Nat} {ad : Nat → Nat} {g : Nat → Nd} {p : Program} {l : Launch} {e : Env} {R : Room} {s : State} {m : MethodId} {args : Array Value} {below : List Frame} {meth : Method} {c : Code} {Q : State → Prop} {cells slots : Nat} {H : Heap} {locs : List Loc} (hx : p.tables.exec = Jvm.exec) (hb : c.code = cX1_firstCrookedFrom) (hml : c.maxLocals = 2) (hts : ∀ w ∈ wsX1_firstCrookedFrom, w.before args s = true) (hown : s.vm.findClass RX1 = some m.cls) (hG : GK D (tysA cA cZ cI) s) (hP : va_P D vwCl (cw x ln cA n tp mo dr ds li K ad g) H) (hR : 2 ≤ R.frames ∧ 80 ≤ R.locals) (hC : cells ≤ R.cells ∧ slots ≤ R.slots) (hcl : Cl K g) {pr : Nat → Bool} : ∀ {ks : List Nat} {p0 : Option Nat}, UpC g p0 ks → (∀ j ∈ ks, j ∈ K ∧ ∃ a b, coOf g (g j).2.1 = nI a ∧ coOf g (g j).2.2.1 = nI b ∧ a < 10000 ∧ b < 10000 ∧ pr j = crk a b) → (∀ ls, lv_has ls 2 [(1, va_rf ((ks.find? pr).map ad))] → W p l e R s m args below meth c H locs cells slots Q (F0 m 21 ls [])) → ∀ ls, lv_has ls 2 [(1, va_rf (p0.map ad))] → W p l e R s m args below meth c H locs cells slots Q (F0 m 2 ls []) := by
  intro ks
  induction ks with
  | nil =>
    intro p0 hu hin kk ls hl
    have hu : p0 = none := hu
    subst hu
    have hl : lv_has ls 2 [(1, .null)] := hl
    refine lv_aload_nN hx hb dX1_firstCrookedFrom_2 rfl (lv_at hl 0 rfl) ?_
    refine lv_ifnullN (tgt := 21) hx hb dX1_firstCrookedFrom_3 (by decide) ?_
    exact kk _ hl
  | cons k ks ih =>
    intro p0 hu hin kk ls hl
    obtain ⟨rfl, hu2⟩ := hu
    obtain ⟨hk, a, b, e1, e2, e3, e4, e5⟩ := hin k List.mem_cons_self
    have hl : lv_has ls 2 [(1, .ref (ad k))] := hl
    refine lv_aload_n hx hb dX1_firstCrookedFrom_2 rfl (lv_at hl 0 rfl) ?_
    refine lv_ifnull hx hb dX1_firstCrookedFrom_3 ?_
    refine lv_aload_n hx hb dX1_firstCrookedFrom_6 rfl (lv_at hl 0 rfl) ?_
    obtain ⟨i0, hi0⟩ := cw_s (x := x) (ln := ln) (cA := cA) (n := n) (tp := tp) (mo := mo) (dr := dr) (ds := ds) (li := li) (ad := ad) (g := g) (hk : k ∈ K)
    refine vp_callSi (va_Run.run (va_runV (As := []) (rest := []) ⟨hx, hb, hml, hown, hts⟩ (c_X0_hasCrookedCompany l hcl hk e1 e2 e3 e4) (cwV 0 hts gX1_firstCrookedFrom_X0_hasCrookedCompany rfl rfl rfl (by decide +kernel) ⟨Nat.le_trans (Nat.le_of_ble_eq_true rfl) hR.1, Nat.le_trans (Nat.le_of_ble_eq_true rfl) hR.2⟩) ⟨PcR.blind, va_recv hG.1 hP (ci := 0) (q0 := i0) rfl hi0, PcR.at hP hG⟩ rfl rfl hl.1 rfl (lv_room (Nat.le_of_ble_eq_true rfl)) dX1_firstCrookedFrom_7 ⟨hC.1, hC.2⟩)) (fun r7 q7 => ?_)
    subst q7
    refine lv_if_ne (tgt := 21) hx hb dX1_firstCrookedFrom_10 (by decide) (fun c10 => ?_) (fun c10 => ?_)
    · have h9 : pr k = true := e5.trans (b2i_ne c10)
      rw [List.find?_cons_of_pos h9] at kk
      exact kk _ hl
    · have h9 : ¬ pr k = true := by rw [e5]; exact b2i_eq c10
      rw [List.find?_cons_of_neg h9] at kk
      refine lv_aload_n hx hb dX1_firstCrookedFrom_13 rfl (lv_at hl 0 rfl) ?_
      obtain ⟨i1, hi1⟩ := cw_s (x := x) (ln := ln) (cA := cA) (n := n) (tp := tp) (mo := mo) (dr := dr) (ds := ds) (li := li) (ad := ad) (g := g) (hk : k ∈ K)
      refine va_get (D := D) (ci := 0) (v := va_rf ((g k).1.map ad)) (C := RX0) (T := TX0) (N := 5) hx hb hts (by decide +kernel) hown hG.1 hP i1 hi1 rfl 1 (by decide) (hts (.fieldLink RX1 130 "LopsidedRanks$Soldier" "above" "LLopsidedRanks$Soldier;") (by decide +kernel)) (fun _ h9 => h9) rfl dX1_firstCrookedFrom_14 ?_
      refine zr_astore_n (lv' := [(1, va_rf ((g k).1.map ad))]) hx hb dX1_firstCrookedFrom_17 rfl hl (by decide) rfl (fun ls hl => ?_)
      refine lv_goto (tgt := 2) hx hb dX1_firstCrookedFrom_18 (by decide) ?_
      exact ih hu2 (fun j hj => hin j (List.mem_cons_of_mem _ hj)) kk _ hl
set_option maxHeartbeats 4000000 in
set_option maxRecDepth 100000 in
/-- firstCrookedFrom(p): on the way ks up from p -/
theorem c_X1_firstCrookedFrom (l : Launch) {D : va_G} {cA cZ cI : ClassId} {x ln : Nat} {n : Int32} {tp : Option Nat} {mo dr ds : Int32} {li : Nat → Option Nat} {K : List Nat} {ad : Nat → Nat} {g : Nat → Nd} {p0 : Option Nat} {ks : List Nat} {pr : Nat → Bool} (hcl : Cl K g) (hu : UpC g p0 ks) (hin : ∀ j ∈ ks, j ∈ K ∧ ∃ a b, coOf g (g j).2.1 = nI a ∧ coOf g (g j).2.2.1 = nI b ∧ a < 10000 ∧ b < 10000 ∧ pr j = crk a b) : Met l yX1_firstCrookedFrom wsX1_firstCrookedFrom ({ frames := 2, cells := 0, slots := 0, locals := 80 } : Room) (PcR D (tysA cA cZ cI) (cw x ln cA n tp mo dr ds li K ad g) [va_rf (p0.map ad)]) (va_Sq (fun r => r = (ks.find? pr).map ad)) 0 0 (fun _ => False) := by
  refine Met.ofW (cc := cX1_firstCrookedFrom) (maxL := 2) (ret := (some (.object "LopsidedRanks$Soldier"))) (by decide) rfl ?_
  intro p e s m args below meth c s₁ B hml hv
  obtain ⟨rfl, hP, hG⟩ := hv
  have hx := B.exec
  have hb := B.bytes
  have hr := B.returns
  have hts := atoms_spec (ws := wsX1_firstCrookedFrom) B.pre
  have hown : s.vm.findClass RX1 = some m.cls := findClass_of_methodNamed B.named
  have hlocks := B.notSynchronized
  have hl : lv_has ((lg_sl ([va_rf (p0.map ad)]) ++ List.replicate (2 - (lg_sl ([va_rf (p0.map ad)])).length) Slot.unset).toArray) 2 [(0, va_rf (p0.map ad))] := by cases p0 <;> exact lv_entry _ (Nat.le_of_ble_eq_true rfl)
  rw [lg_entry_eq]
  generalize (lg_sl ([va_rf (p0.map ad)]) ++ List.replicate (2 - (lg_sl ([va_rf (p0.map ad)])).length) Slot.unset).toArray = ls at hl ⊢
  have hl : lv_has ls 2 [(0, va_rf (p0.map ad))] := hl
  refine zr_aload_n hx hb dX1_firstCrookedFrom_0 rfl (lv_at hl 0 rfl) ?_
  have hl : lv_has ls 2 [] := lv_sub hl [] rfl
  refine zr_astore_n (lv' := [(1, va_rf (p0.map ad))]) hx hb dX1_firstCrookedFrom_1 rfl hl (by decide) rfl (fun ls hl => ?_)
  refine L_X1_firstCrookedFrom (ks := ks) (p0 := p0) hx hb hml hts hown hG hP ⟨Nat.le_of_ble_eq_true rfl, Nat.le_of_ble_eq_true rfl⟩ ⟨Nat.zero_le _, Nat.zero_le _⟩ hcl hu hin (fun ls hl => ?_) _ hl
  refine zr_aload_n hx hb dX1_firstCrookedFrom_21 rfl (lv_at hl 0 rfl) ?_
  exact zr_aret (r := (ks.find? pr).map ad) hx hb hr (Or.inl ⟨_, rfl⟩) (fun t ht hW => ⟨_, rfl, rfl, ht⟩) (fun q hq => absurd hq List.not_mem_nil) dX1_firstCrookedFrom_22 hlocks

/-- two soldiers have two addresses -/
theorem cw_inj {D : va_G} {cA : ClassId} {x ln : Nat} {n : Int32} {tp : Option Nat} {mo dr ds : Int32} {li : Nat → Option Nat} {K : List Nat} {ad : Nat → Nat} {g : Nat → Nd} {H : Heap} (hP : va_P D vwCl (cw x ln cA n tp mo dr ds li K ad g) H) (hcl : Cl K g) {j k : Nat} (hj : j ∈ K) (hk : k ∈ K) (h : ad j = ad k) : j = k := by
  obtain ⟨i1, e1⟩ := cw_s (x := x) (ln := ln) (cA := cA) (n := n) (tp := tp) (mo := mo) (dr := dr) (ds := ds) (li := li) (ad := ad) (g := g) hj
  obtain ⟨i2, e2⟩ := cw_s (x := x) (ln := ln) (cA := cA) (n := n) (tp := tp) (mo := mo) (dr := dr) (ds := ds) (li := li) (ad := ad) (g := g) hk
  obtain ⟨r1, g1, c1, q1, -, -, q2⟩ := hP i1 _ e1
  obtain ⟨r2, g2, c2, q3, -, -, q4⟩ := hP i2 _ e2
  cases Option.some.inj (g1.symm.trans g2)
  cases Option.some.inj (show some (RX0, TX0, 5) = some r1 from g1)
  simp only [h] at q1
  cases Option.some.inj (q1.symm.trans q3)
  have h1 := q2 0 (by decide)
  have h2 := q4 0 (by decide)
  have h3 := Option.some.inj (h1.symm.trans h2)
  have h4 : Value.int (nI j) = Value.int (nI k) := h3
  have h5 : nI j = nI k := Value.int.inj h4
  have l1 := hcl.lt hj
  have l2 := hcl.lt hk
  exact nI_inj (by omega) (by omega) h5
set_option maxHeartbeats 4000000 in
set_option maxRecDepth 100000 in
theorem L_X1_stepsUp {D : va_G} {cA cZ cI : ClassId} {x ln : Nat} {n : Int32} {tp : Option Nat} {mo dr ds : Int32} {li : Nat → Option Nat} {K : List Nat} {ad : Nat → Nat} {g : Nat → Nd} {p : Program} {l : Launch} {e : Env} {R : Room} {s : State} {m : MethodId} {args : Array Value} {below : List Frame} {meth : Method} {c : Code} {Q : State → Prop} {cells slots : Nat} {H : Heap} {locs : List Loc} (hx : p.tables.exec = Jvm.exec) (hb : c.code = cX1_stepsUp) (hml : c.maxLocals = 4) (hts : ∀ w ∈ wsX1_stepsUp, w.before args s = true) (hown : s.vm.findClass RX1 = some m.cls) (hG : GK D (tysA cA cZ cI) s) (hP : va_P D vwCl (cw x ln cA n tp mo dr ds li K ad g) H) (hcl : Cl K g) {q0 : Option Nat} {k2 : Nat} (hk2 : k2 ∈ K) {rest : List Nat} : ∀ {ks : List Nat} {p0 : Option Nat} {d : Nat}, UpC g p0 (ks ++ k2 :: rest) → (∀ j ∈ ks, j ∈ K) → k2 ∉ ks → (∀ ls, lv_has ls 4 [(3, .ref (ad k2)), (2, .int (nI (d + ks.length))), (0, va_rf (q0.map ad)), (1, .ref (ad k2))] → W p l e R s m args below meth c H locs cells slots Q (F0 m 24 ls [])) → ∀ ls, lv_has ls 4 [(3, va_rf (p0.map ad)), (2, .int (nI d)), (0, va_rf (q0.map ad)), (1, .ref (ad k2))] → W p l e R s m args below meth c H locs cells slots Q (F0 m 4 ls []) := by
  intro ks
  induction ks with
  | nil =>
    intro p0 d hu hin hn kk ls hl
    obtain ⟨rfl, hu2⟩ := hu
    have hl : lv_has ls 4 [(3, .ref (ad k2)), (2, .int (nI d)), (0, va_rf (q0.map ad)), (1, .ref (ad k2))] := hl
    refine lv_aload_n hx hb dX1_stepsUp_4 rfl (lv_at hl 0 rfl) ?_
    refine lv_ifnull hx hb dX1_stepsUp_5 ?_
    refine lv_aload_n hx hb dX1_stepsUp_8 rfl (lv_at hl 0 rfl) ?_
    refine lv_aload_n hx hb dX1_stepsUp_9 rfl (lv_at hl 3 rfl) ?_
    refine lv_acmp_eq (rx := some (ad k2)) (ry := some (ad k2)) (tgt := 24) hx hb dX1_stepsUp_10 (by decide) (fun c10 => ?_) (fun c10 => ?_)
    · exact kk _ hl
    · exact absurd rfl c10
  | cons k ks ih =>
    intro p0 d hu hin hn kk ls hl
    obtain ⟨rfl, hu2⟩ := hu
    have hk := hin k List.mem_cons_self
    have hl : lv_has ls 4 [(3, .ref (ad k)), (2, .int (nI d)), (0, va_rf (q0.map ad)), (1, .ref (ad k2))] := hl
    refine lv_aload_n hx hb dX1_stepsUp_4 rfl (lv_at hl 0 rfl) ?_
    refine lv_ifnull hx hb dX1_stepsUp_5 ?_
    refine lv_aload_n hx hb dX1_stepsUp_8 rfl (lv_at hl 0 rfl) ?_
    refine lv_aload_n hx hb dX1_stepsUp_9 rfl (lv_at hl 3 rfl) ?_
    refine lv_acmp_eq (rx := some (ad k)) (ry := some (ad k2)) (tgt := 24) hx hb dX1_stepsUp_10 (by decide) (fun c10 => ?_) (fun c10 => ?_)
    · exact absurd (cw_inj hP hcl hk hk2 (Option.some.inj c10)) (fun q => hn (List.mem_cons.mpr (Or.inl q.symm)))
    · refine lv_iinc (v := nI (d + 1)) (lv' := [(2, .int (nI (d + 1))), (3, .ref (ad k)), (0, va_rf (q0.map ad)), (1, .ref (ad k2))]) hx hb dX1_stepsUp_13 hl (k := 1) rfl (nI_add d 1) (by decide) rfl (fun ls hl => ?_)
      refine lv_aload_n hx hb dX1_stepsUp_16 rfl (lv_at hl 1 rfl) ?_
      obtain ⟨i0, hi0⟩ := cw_s (x := x) (ln := ln) (cA := cA) (n := n) (tp := tp) (mo := mo) (dr := dr) (ds := ds) (li := li) (ad := ad) (g := g) (hk : k ∈ K)
      refine va_get (D := D) (ci := 0) (v := va_rf ((g k).1.map ad)) (C := RX0) (T := TX0) (N := 5) hx hb hts (by decide +kernel) hown hG.1 hP i0 hi0 rfl 1 (by decide) (hts (.fieldLink RX1 130 "LopsidedRanks$Soldier" "above" "LLopsidedRanks$Soldier;") (by decide +kernel)) (fun _ h9 => h9) rfl dX1_stepsUp_17 ?_
      refine zr_astore_n (lv' := [(3, va_rf ((g k).1.map ad)), (2, .int (nI (d + 1))), (0, va_rf (q0.map ad)), (1, .ref (ad k2))]) hx hb dX1_stepsUp_20 rfl hl (by decide) rfl (fun ls hl => ?_)
      refine lv_goto (tgt := 4) hx hb dX1_stepsUp_21 (by decide) ?_
      exact ih (d := d + 1) hu2 (fun j hj => hin j (List.mem_cons_of_mem _ hj)) (fun q => hn (List.mem_cons_of_mem _ q)) (by rw [show d + 1 + ks.length = d + (ks.length + 1) by omega]; exact kk) _ hl
set_option maxHeartbeats 4000000 in
set_option maxRecDepth 100000 in
/-- stepsUp(p, k2) -/
theorem c_X1_stepsUp (l : Launch) {D : va_G} {cA cZ cI : ClassId} {x ln : Nat} {n : Int32} {tp : Option Nat} {mo dr ds : Int32} {li : Nat → Option Nat} {K : List Nat} {ad : Nat → Nat} {g : Nat → Nd} {p0 : Option Nat} {ks rest : List Nat} {k2 : Nat} (hcl : Cl K g) (hk2 : k2 ∈ K) (hu : UpC g p0 (ks ++ k2 :: rest)) (hin : ∀ j ∈ ks, j ∈ K) (hn : k2 ∉ ks) : Met l yX1_stepsUp wsX1_stepsUp ({ frames := 0, cells := 0, slots := 0, locals := 0 } : Room) (PcR D (tysA cA cZ cI) (cw x ln cA n tp mo dr ds li K ad g) [va_rf (p0.map ad), .ref (ad k2)]) (vp_Si (fun r => r = nI ks.length)) 0 0 (fun _ => False) := by
  refine Met.ofW (cc := cX1_stepsUp) (maxL := 4) (ret := (some .int)) (by decide) rfl ?_
  intro p e s m args below meth c s₁ B hml hv
  obtain ⟨rfl, hP, hG⟩ := hv
  have hx := B.exec
  have hb := B.bytes
  have hr := B.returns
  have hts := atoms_spec (ws := wsX1_stepsUp) B.pre
  have hown : s.vm.findClass RX1 = some m.cls := findClass_of_methodNamed B.named
  have hlocks := B.notSynchronized
  have hl : lv_has ((lg_sl ([va_rf (p0.map ad), .ref (ad k2)]) ++ List.replicate (4 - (lg_sl ([va_rf (p0.map ad), .ref (ad k2)])).length) Slot.unset).toArray) 4 [(0, va_rf (p0.map ad)), (1, .ref (ad k2))] := by cases p0 <;> exact lv_entry _ (Nat.le_of_ble_eq_true rfl)
  rw [lg_entry_eq]
  generalize (lg_sl ([va_rf (p0.map ad), .ref (ad k2)]) ++ List.replicate (4 - (lg_sl ([va_rf (p0.map ad), .ref (ad k2)])).length) Slot.unset).toArray = ls at hl ⊢
  have hl : lv_has ls 4 [(0, va_rf (p0.map ad)), (1, .ref (ad k2))] := hl
  refine lv_iconst (v := nI 0) hx hb dX1_stepsUp_0 (by decide) ?_
  refine lv_istore_n (lv' := [(2, .int (nI 0)), (0, va_rf (p0.map ad)), (1, .ref (ad k2))]) hx hb dX1_stepsUp_1 rfl hl (by decide) rfl (fun ls hl => ?_)
  refine zr_aload_n hx hb dX1_stepsUp_2 rfl (lv_at hl 1 rfl) ?_
  refine zr_astore_n (lv' := [(3, va_rf (p0.map ad)), (2, .int (nI 0)), (0, va_rf (p0.map ad)), (1, .ref (ad k2))]) hx hb dX1_stepsUp_3 rfl hl (by decide) rfl (fun ls hl => ?_)
  refine L_X1_stepsUp (ks := ks) (p0 := p0) (q0 := p0) (d := 0) hx hb hml hts hown hG hP hcl hk2 hu hin hn (fun ls hl => ?_) _ hl
  refine lv_iload_n hx hb dX1_stepsUp_24 rfl (lv_at hl 1 rfl) ?_
  exact W.iret (v := (nI (0 + ks.length))) hx hb hr (fun t ht hW => ⟨_, rfl, by rw [Nat.zero_add], ht⟩) (fun q hq => absurd hq List.not_mem_nil) dX1_stepsUp_25

