/-! WRITERS of the class: the ranks behind a discharge -/
def orE (o1 o2 : Option Nat) : Option Nat := match o1 with
  | none => o2
  | some c => some c
theorem addG_p {d : Int32} {k : Nat} : ∀ {ks : List Nat} {g : Nat → Nd}, (addG d ks g k).1 = (g k).1 ∧ (addG d ks g k).2.1 = (g k).2.1 ∧ (addG d ks g k).2.2.1 = (g k).2.2.1
  | [], g => ⟨rfl, rfl, rfl⟩
  | a :: ks, g => by
    obtain ⟨h1, h2, h3⟩ := addG_p (d := d) (k := k) (ks := ks) (g := va_up g a (sC (g a) ((g a).2.2.2 + d)))
    rw [addG]
    by_cases e : k = a
    · subst e
      rw [h1, h2, h3, va_up_self]
      exact ⟨rfl, rfl, rfl⟩
    · rw [h1, h2, h3, va_up_ne _ _ e]
      exact ⟨rfl, rfl, rfl⟩
theorem leaf_of {t : Tr} (h : root t = none) : t = .leaf := by
  cases t with
  | leaf => rfl
  | inner s k v l r => cases h
theorem not_leaf {t : Tr} {k : Nat} (h : root t = some k) : t ≠ .leaf := by
  intro q; subst q; cases h
set_option maxHeartbeats 4000000 in
set_option maxRecDepth 100000 in
/-- removeWithOneSide(L) -/
theorem c_X1_removeWithOneSide (l : Launch) {D : va_G} {cA cZ cI : ClassId} {x ln : Nat} {n : Int32} {tp : Option Nat} {mo dr ds : Int32} {li : Nat → Option Nat} {K : List Nat} {ad : Nat → Nat} {g : Nat → Nd} {A : Nat → Prop} {L : Nat} {ks : List Nat} (hcl : Cl K g) (hL : L ∈ K) (hu : UpC g (g L).1 ks) (hks : ∀ j ∈ ks, j ∈ K) : Met l yX1_removeWithOneSide wsX1_removeWithOneSide ({ frames := 2, cells := 0, slots := 0, locals := 80 } : Room) (PcM D (tysA cA cZ cI) A (cw x ln cA n tp mo dr ds li K ad g) [.ref x, .ref (ad L)]) (va_Qv (S := Unit) (fun _ => True) (fun _ => BM D (tysA cA cZ cI) A (cw x ln cA n (sbT tp (g L).1 (orE (g L).2.1 (g L).2.2.1)) mo dr ds li K ad (sbG (addG (-1) ks g) (g L).1 L (orE (g L).2.1 (g L).2.2.1)))) A) 0 0 A := by
  refine Met.ofW (cc := cX1_removeWithOneSide) (maxL := 3) (ret := none) (by decide) rfl ?_
  intro p e s m args below meth c s₁ B hml hv
  obtain ⟨rfl, hA, hP, hG, hD⟩ := hv
  have hx := B.exec
  have hb := B.bytes
  have hr := B.returns
  have hts := atoms_spec (ws := wsX1_removeWithOneSide) B.pre
  have hown : s.vm.findClass RX1 = some m.cls := findClass_of_methodNamed B.named
  have hlocks := B.notSynchronized
  have hl := lv_entry ([.ref x, .ref (ad L)]) (n := 3) (Nat.le_of_ble_eq_true rfl)
  rw [lg_entry_eq]
  generalize (lg_sl ([.ref x, .ref (ad L)]) ++ List.replicate (3 - (lg_sl ([.ref x, .ref (ad L)])).length) Slot.unset).toArray = ls at hl ⊢
  have hl : lv_has ls 3 [(0, .ref x), (1, .ref (ad L))] := hl
  have hS : va_S A s.heap s.heap [] := va_S.rf
  have hor : ∀ c, orE (g L).2.1 (g L).2.2.1 = some c → c ∈ K := by
    intro c e
    rcases h9 : (g L).2.1 with _ | c9
    · rw [h9] at e; exact (hcl L hL).2.2.2 c e
    · rw [h9] at e; cases e; exact (hcl L hL).2.2.1 _ h9
  have hLn := hcl.lt hL
  refine lv_aload_n hx hb dX1_removeWithOneSide_0 rfl (lv_at hl 1 rfl) ?_
  obtain ⟨i0, hi0⟩ := cw_s (x := x) (ln := ln) (cA := cA) (n := n) (tp := tp) (mo := mo) (dr := dr) (ds := ds) (li := li) (ad := ad) (g := g) (hL : L ∈ K)
  refine va_get (D := D) (ci := 0) (v := va_rf ((g L).2.1.map ad)) (C := RX0) (T := TX0) (N := 5) hx hb hts (by decide +kernel) hown hG.1 hP i0 hi0 rfl 2 (by decide) (hts (.fieldLink RX1 150 "LopsidedRanks$Soldier" "left" "LLopsidedRanks$Soldier;") (by decide +kernel)) (fun _ h9 => h9) rfl dX1_removeWithOneSide_1 ?_
  refine zr_ifnull (tgt := 14) hx hb dX1_removeWithOneSide_4 (by decide) (fun c4 => ?_) (fun k4 c4 => ?_)
  · refine lv_aload_n hx hb dX1_removeWithOneSide_14 rfl (lv_at hl 1 rfl) ?_
    obtain ⟨i1, hi1⟩ := cw_s (x := x) (ln := ln) (cA := cA) (n := n) (tp := tp) (mo := mo) (dr := dr) (ds := ds) (li := li) (ad := ad) (g := g) (hL : L ∈ K)
    refine va_get (D := D) (ci := 0) (v := va_rf ((g L).2.2.1.map ad)) (C := RX0) (T := TX0) (N := 5) hx hb hts (by decide +kernel) hown hG.1 hP i1 hi1 rfl 3 (by decide) (hts (.fieldLink RX1 160 "LopsidedRanks$Soldier" "right" "LLopsidedRanks$Soldier;") (by decide +kernel)) (fun _ h9 => h9) rfl dX1_removeWithOneSide_15 ?_
    refine zr_eqk (y := orE (g L).2.1 (g L).2.2.1) (by rw [c4]; rfl) ?_
    refine zr_astore_n (lv' := [(2, va_rf ((orE (g L).2.1 (g L).2.2.1).map ad)), (0, .ref x), (1, .ref (ad L))]) hx hb dX1_removeWithOneSide_18 rfl hl (by decide) rfl (fun ls hl => ?_)
    refine lv_aload_n hx hb dX1_removeWithOneSide_19 rfl (lv_at hl 2 rfl) ?_
    refine lv_iconst (v := (-1)) hx hb dX1_removeWithOneSide_20 (by decide) ?_
    refine va_callv (va_runS (As := [.ref (ad L), .int (-1)]) (rest := []) ⟨hx, hb, hml, hown, hts⟩ (c_X1_addToCompaniesAbove l (d := -1) hL hu hks) (va_cwS 2 hts gX1_removeWithOneSide_X1_addToCompaniesAbove rfl rfl rfl (by decide +kernel) ⟨Nat.le_of_ble_eq_true rfl, Nat.le_of_ble_eq_true rfl⟩) ⟨PcM.blind, PcM.at (fun q h => hA q (Nat.le_trans hS.1 h)) hP hG hD⟩ rfl rfl hl.1 rfl (lv_room (Nat.le_of_ble_eq_true rfl)) dX1_removeWithOneSide_21 ⟨Nat.zero_le _, Nat.zero_le _⟩) hS (fun q _ h => h) (fun q h => h) (fun u21 t H locs ht hvm q21 hB hz1 hk1 hS => ?_)
    obtain ⟨hP, -, hD⟩ := hB
    rw [ht] at hP
    have hP : va_P D vwCl (cw x ln cA n tp mo dr ds li K ad (addG (-1) ks g)) H := hP
    have hD : va_D A (cw x ln cA n tp mo dr ds li K ad (addG (-1) ks g)) := hD
    refine lv_aload_n hx hb dX1_removeWithOneSide_24 rfl (lv_at hl 1 rfl) ?_
    refine lv_aload_n hx hb dX1_removeWithOneSide_25 rfl (lv_at hl 2 rfl) ?_
    obtain ⟨i2, hi2⟩ := cw_s (x := x) (ln := ln) (cA := cA) (n := n) (tp := tp) (mo := mo) (dr := dr) (ds := ds) (li := li) (ad := ad) (g := addG (-1) ks g) (hL : L ∈ K)
    refine va_get (D := D) (ci := 0) (v := va_rf (((addG (-1) ks g) L).1.map ad)) (C := RX0) (T := TX0) (N := 5) hx hb hts (by decide +kernel) hown hG.1 hP i2 hi2 rfl 1 (by decide) (hts (.fieldLink RX1 130 "LopsidedRanks$Soldier" "above" "LLopsidedRanks$Soldier;") (by decide +kernel)) (fun _ h9 => h9) rfl dX1_removeWithOneSide_26 ?_
    refine zr_eqk (addG_p.1) ?_
    refine lv_aload_n hx hb dX1_removeWithOneSide_29 rfl (lv_at hl 2 rfl) ?_
    obtain ⟨i3, hi3⟩ := cw_s (x := x) (ln := ln) (cA := cA) (n := n) (tp := tp) (mo := mo) (dr := dr) (ds := ds) (li := li) (ad := ad) (g := addG (-1) ks g) (hL : L ∈ K)
    refine va_get (D := D) (ci := 0) (v := .int (nI L)) (C := RX0) (T := TX0) (N := 5) hx hb hts (by decide +kernel) hown hG.1 hP i3 hi3 rfl 0 (by decide) (hts (.fieldLink RX1 100 "LopsidedRanks$Soldier" "height" "I") (by decide +kernel)) (fun _ h9 => h9) rfl dX1_removeWithOneSide_30 ?_
    refine zr_aload_n hx hb dX1_removeWithOneSide_33 rfl (lv_at hl 0 rfl) ?_
    refine va_callv (va_runV (As := [va_rf ((g L).1.map ad), .int (nI L), va_rf ((orE (g L).2.1 (g L).2.2.1).map ad)]) (rest := []) ⟨hx, hb, hml, hown, hts⟩ (c_X1_standBelow l (p0 := (g L).1) (r0 := orE (g L).2.1 (g L).2.2.1) (hcl L hL).2.1 (fun c e => hcl.lt ((hcl L hL).2.1 c e)) (hcl.lt hL) hor) (cwV 3 hts gX1_removeWithOneSide_X1_standBelow rfl rfl rfl (by decide +kernel) ⟨Nat.le_of_ble_eq_true rfl, Nat.le_of_ble_eq_true rfl⟩) ⟨PcM.blind, va_recv hG.1 hP (ci := 1) (q0 := 0) rfl cw_x, PcM.at (fun q h => hA q (Nat.le_trans hS.1 h)) hP hG hD⟩ rfl rfl hl.1 rfl (lv_room (Nat.le_of_ble_eq_true rfl)) dX1_removeWithOneSide_34 ⟨Nat.zero_le _, Nat.zero_le _⟩) hS (fun q _ h => h) (fun q h => h) (fun u34 t H locs ht hvm q34 hB hz1 hk1 hS => ?_)
    obtain ⟨hP, -, hD⟩ := hB
    rw [ht] at hP
    have hP : va_P D vwCl (cw x ln cA n (sbT tp (g L).1 (orE (g L).2.1 (g L).2.2.1)) mo dr ds li K ad (sbG (addG (-1) ks g) (g L).1 L (orE (g L).2.1 (g L).2.2.1))) H := hP
    have hD : va_D A (cw x ln cA n (sbT tp (g L).1 (orE (g L).2.1 (g L).2.2.1)) mo dr ds li K ad (sbG (addG (-1) ks g) (g L).1 L (orE (g L).2.1 (g L).2.2.1))) := hD
    exact W.vret hx hb hr (fun t ht hW => ⟨⟨(), rfl, trivial, by rw [ht]; exact hP, hG.moved hW, hD⟩, hS.F ht⟩) hS.2.2 dX1_removeWithOneSide_37
  · refine lv_aload_n hx hb dX1_removeWithOneSide_7 rfl (lv_at hl 1 rfl) ?_
    obtain ⟨i4, hi4⟩ := cw_s (x := x) (ln := ln) (cA := cA) (n := n) (tp := tp) (mo := mo) (dr := dr) (ds := ds) (li := li) (ad := ad) (g := g) (hL : L ∈ K)
    refine va_get (D := D) (ci := 0) (v := va_rf ((g L).2.1.map ad)) (C := RX0) (T := TX0) (N := 5) hx hb hts (by decide +kernel) hown hG.1 hP i4 hi4 rfl 2 (by decide) (hts (.fieldLink RX1 150 "LopsidedRanks$Soldier" "left" "LLopsidedRanks$Soldier;") (by decide +kernel)) (fun _ h9 => h9) rfl dX1_removeWithOneSide_8 ?_
    refine lv_goto (tgt := 18) hx hb dX1_removeWithOneSide_11 (by decide) ?_
    refine zr_eqk (y := orE (g L).2.1 (g L).2.2.1) (by rw [c4]; rfl) ?_
    refine zr_astore_n (lv' := [(2, va_rf ((orE (g L).2.1 (g L).2.2.1).map ad)), (0, .ref x), (1, .ref (ad L))]) hx hb dX1_removeWithOneSide_18 rfl hl (by decide) rfl (fun ls hl => ?_)
    refine lv_aload_n hx hb dX1_removeWithOneSide_19 rfl (lv_at hl 2 rfl) ?_
    refine lv_iconst (v := (-1)) hx hb dX1_removeWithOneSide_20 (by decide) ?_
    refine va_callv (va_runS (As := [.ref (ad L), .int (-1)]) (rest := []) ⟨hx, hb, hml, hown, hts⟩ (c_X1_addToCompaniesAbove l (d := -1) hL hu hks) (va_cwS 2 hts gX1_removeWithOneSide_X1_addToCompaniesAbove rfl rfl rfl (by decide +kernel) ⟨Nat.le_of_ble_eq_true rfl, Nat.le_of_ble_eq_true rfl⟩) ⟨PcM.blind, PcM.at (fun q h => hA q (Nat.le_trans hS.1 h)) hP hG hD⟩ rfl rfl hl.1 rfl (lv_room (Nat.le_of_ble_eq_true rfl)) dX1_removeWithOneSide_21 ⟨Nat.zero_le _, Nat.zero_le _⟩) hS (fun q _ h => h) (fun q h => h) (fun u21 t H locs ht hvm q21 hB hz1 hk1 hS => ?_)
    obtain ⟨hP, -, hD⟩ := hB
    rw [ht] at hP
    have hP : va_P D vwCl (cw x ln cA n tp mo dr ds li K ad (addG (-1) ks g)) H := hP
    have hD : va_D A (cw x ln cA n tp mo dr ds li K ad (addG (-1) ks g)) := hD
    refine lv_aload_n hx hb dX1_removeWithOneSide_24 rfl (lv_at hl 1 rfl) ?_
    refine lv_aload_n hx hb dX1_removeWithOneSide_25 rfl (lv_at hl 2 rfl) ?_
    obtain ⟨i5, hi5⟩ := cw_s (x := x) (ln := ln) (cA := cA) (n := n) (tp := tp) (mo := mo) (dr := dr) (ds := ds) (li := li) (ad := ad) (g := addG (-1) ks g) (hL : L ∈ K)
    refine va_get (D := D) (ci := 0) (v := va_rf (((addG (-1) ks g) L).1.map ad)) (C := RX0) (T := TX0) (N := 5) hx hb hts (by decide +kernel) hown hG.1 hP i5 hi5 rfl 1 (by decide) (hts (.fieldLink RX1 130 "LopsidedRanks$Soldier" "above" "LLopsidedRanks$Soldier;") (by decide +kernel)) (fun _ h9 => h9) rfl dX1_removeWithOneSide_26 ?_
    refine zr_eqk (addG_p.1) ?_
    refine lv_aload_n hx hb dX1_removeWithOneSide_29 rfl (lv_at hl 2 rfl) ?_
    obtain ⟨i6, hi6⟩ := cw_s (x := x) (ln := ln) (cA := cA) (n := n) (tp := tp) (mo := mo) (dr := dr) (ds := ds) (li := li) (ad := ad) (g := addG (-1) ks g) (hL : L ∈ K)
    refine va_get (D := D) (ci := 0) (v := .int (nI L)) (C := RX0) (T := TX0) (N := 5) hx hb hts (by decide +kernel) hown hG.1 hP i6 hi6 rfl 0 (by decide) (hts (.fieldLink RX1 100 "LopsidedRanks$Soldier" "height" "I") (by decide +kernel)) (fun _ h9 => h9) rfl dX1_removeWithOneSide_30 ?_
    refine zr_aload_n hx hb dX1_removeWithOneSide_33 rfl (lv_at hl 0 rfl) ?_
    refine va_callv (va_runV (As := [va_rf ((g L).1.map ad), .int (nI L), va_rf ((orE (g L).2.1 (g L).2.2.1).map ad)]) (rest := []) ⟨hx, hb, hml, hown, hts⟩ (c_X1_standBelow l (p0 := (g L).1) (r0 := orE (g L).2.1 (g L).2.2.1) (hcl L hL).2.1 (fun c e => hcl.lt ((hcl L hL).2.1 c e)) (hcl.lt hL) hor) (cwV 3 hts gX1_removeWithOneSide_X1_standBelow rfl rfl rfl (by decide +kernel) ⟨Nat.le_of_ble_eq_true rfl, Nat.le_of_ble_eq_true rfl⟩) ⟨PcM.blind, va_recv hG.1 hP (ci := 1) (q0 := 0) rfl cw_x, PcM.at (fun q h => hA q (Nat.le_trans hS.1 h)) hP hG hD⟩ rfl rfl hl.1 rfl (lv_room (Nat.le_of_ble_eq_true rfl)) dX1_removeWithOneSide_34 ⟨Nat.zero_le _, Nat.zero_le _⟩) hS (fun q _ h => h) (fun q h => h) (fun u34 t H locs ht hvm q34 hB hz1 hk1 hS => ?_)
    obtain ⟨hP, -, hD⟩ := hB
    rw [ht] at hP
    have hP : va_P D vwCl (cw x ln cA n (sbT tp (g L).1 (orE (g L).2.1 (g L).2.2.1)) mo dr ds li K ad (sbG (addG (-1) ks g) (g L).1 L (orE (g L).2.1 (g L).2.2.1))) H := hP
    have hD : va_D A (cw x ln cA n (sbT tp (g L).1 (orE (g L).2.1 (g L).2.2.1)) mo dr ds li K ad (sbG (addG (-1) ks g) (g L).1 L (orE (g L).2.1 (g L).2.2.1))) := hD
    exact W.vret hx hb hr (fun t ht hW => ⟨⟨(), rfl, trivial, by rw [ht]; exact hP, hG.moved hW, hD⟩, hS.F ht⟩) hS.2.2 dX1_removeWithOneSide_37

set_option maxHeartbeats 4000000 in
set_option maxRecDepth 100000 in
theorem L_X1_removeFromRanks {D : va_G} {cA cZ cI : ClassId} {x ln : Nat} {n : Int32} {tp : Option Nat} {mo dr ds : Int32} {li : Nat → Option Nat} {K : List Nat} {ad : Nat → Nat} {g : Nat → Nd} {p : Program} {l : Launch} {e : Env} {R : Room} {s : State} {m : MethodId} {args : Array Value} {below : List Frame} {meth : Method} {c : Code} {Q : State → Prop} {cells slots : Nat} {H : Heap} {locs : List Loc} (hx : p.tables.exec = Jvm.exec) (hb : c.code = cX1_removeFromRanks) (hml : c.maxLocals = 3) (hts : ∀ w ∈ wsX1_removeFromRanks, w.before args s = true) (hown : s.vm.findClass RX1 = some m.cls) (hG : GK D (tysA cA cZ cI) s) (hP : va_P D vwCl (cw x ln cA n tp mo dr ds li K ad g) H) {L : Nat} : ∀ {t : Tr} {a : Option Nat}, t ≠ .leaf → ShP g a t → (∀ j ∈ keysT t, j ∈ K) → (∀ ls, lv_has ls 3 [(2, .ref (ad (mnk t))), (0, .ref x), (1, .ref (ad L))] → W p l e R s m args below meth c H locs cells slots Q (F0 m 40 ls [])) → ∀ ls, lv_has ls 3 [(2, va_rf ((root t).map ad)), (0, .ref x), (1, .ref (ad L))] → W p l e R s m args below meth c H locs cells slots Q (F0 m 25 ls []) := by
  intro t
  induction t with
  | leaf => intro a hn; exact absurd rfl hn
  | inner sz k v lt rt ihl ihr =>
    intro a hn hs hin kk ls hl
    obtain ⟨h1, h2, h3, h4, h5⟩ := hs
    have hk := hin k ((keys_in ..).mpr (Or.inr (Or.inl rfl)))
    have hl : lv_has ls 3 [(2, .ref (ad k)), (0, .ref x), (1, .ref (ad L))] := hl
    refine lv_aload_n hx hb dX1_removeFromRanks_25 rfl (lv_at hl 0 rfl) ?_
    obtain ⟨i0, hi0⟩ := cw_s (x := x) (ln := ln) (cA := cA) (n := n) (tp := tp) (mo := mo) (dr := dr) (ds := ds) (li := li) (ad := ad) (g := g) (hk : k ∈ K)
    refine va_get (D := D) (ci := 0) (v := va_rf ((g k).2.1.map ad)) (C := RX0) (T := TX0) (N := 5) hx hb hts (by decide +kernel) hown hG.1 hP i0 hi0 rfl 2 (by decide) (hts (.fieldLink RX1 150 "LopsidedRanks$Soldier" "left" "LLopsidedRanks$Soldier;") (by decide +kernel)) (fun _ h9 => h9) rfl dX1_removeFromRanks_26 ?_
    refine zr_eqk h2 ?_
    cases lt with
    | leaf =>
      refine lv_ifnullN (tgt := 40) hx hb dX1_removeFromRanks_29 (by decide) ?_
      exact kk _ hl
    | inner s2 kk2 v2 l2 r2 =>
      refine lv_ifnull hx hb dX1_removeFromRanks_29 ?_
      refine lv_aload_n hx hb dX1_removeFromRanks_32 rfl (lv_at hl 0 rfl) ?_
      obtain ⟨i1, hi1⟩ := cw_s (x := x) (ln := ln) (cA := cA) (n := n) (tp := tp) (mo := mo) (dr := dr) (ds := ds) (li := li) (ad := ad) (g := g) (hk : k ∈ K)
      refine va_get (D := D) (ci := 0) (v := va_rf ((g k).2.1.map ad)) (C := RX0) (T := TX0) (N := 5) hx hb hts (by decide +kernel) hown hG.1 hP i1 hi1 rfl 2 (by decide) (hts (.fieldLink RX1 150 "LopsidedRanks$Soldier" "left" "LLopsidedRanks$Soldier;") (by decide +kernel)) (fun _ h9 => h9) rfl dX1_removeFromRanks_33 ?_
      refine zr_eqk h2 ?_
      refine lv_astore_n (lv' := [(2, .ref (ad kk2)), (0, .ref x), (1, .ref (ad L))]) hx hb dX1_removeFromRanks_36 rfl hl (by decide) rfl (fun ls hl => ?_)
      refine lv_goto (tgt := 25) hx hb dX1_removeFromRanks_37 (by decide) ?_
      exact ihl (by intro q; cases q) h4 (fun j hj => hin j ((keys_in ..).mpr (Or.inl hj))) kk _ hl
set_option maxHeartbeats 4000000 in
set_option maxRecDepth 100000 in
/-- removeFromRanks(L) -/
theorem c_X1_removeFromRanks (l : Launch) {D : va_G} {cA cZ cI : ClassId} {x ln : Nat} {n : Int32} {mo dr ds : Int32} {li : Nat → Option Nat} {K : List Nat} {ad : Nat → Nat} {g : Nat → Nd} {A : Nat → Prop} {T : Tr} {L : Nat} (hcl : Cl K g) (hb0 : bst T) (hs : ShP g none T) (hc : ShC g T) (hin : ∀ j ∈ keysT T, j ∈ K ∧ j < 1000) (hLT : L ∈ keysT T) : Met l yX1_removeFromRanks wsX1_removeFromRanks ({ frames := 3, cells := 0, slots := 0, locals := 120 } : Room) (PcM D (tysA cA cZ cI) A (cw x ln cA n (root T) mo dr ds li K ad g) [.ref x, .ref (ad L)]) (va_Qv (S := Nat → Nd) (fun u => ShP u none (delT L T) ∧ ShC u (delT L T)) (fun u => BM D (tysA cA cZ cI) A (cw x ln cA n (root (delT L T)) mo dr ds li K ad u)) A) 0 0 A := by
  refine Met.ofW (cc := cX1_removeFromRanks) (maxL := 3) (ret := none) (by decide) rfl ?_
  intro p e s m args below meth c s₁ B hml hv
  obtain ⟨rfl, hA, hP, hG, hD⟩ := hv
  have hx := B.exec
  have hb := B.bytes
  have hr := B.returns
  have hts := atoms_spec (ws := wsX1_removeFromRanks) B.pre
  have hown : s.vm.findClass RX1 = some m.cls := findClass_of_methodNamed B.named
  have hlocks := B.notSynchronized
  have hl := lv_entry ([.ref x, .ref (ad L)]) (n := 3) (Nat.le_of_ble_eq_true rfl)
  rw [lg_entry_eq]
  generalize (lg_sl ([.ref x, .ref (ad L)]) ++ List.replicate (3 - (lg_sl ([.ref x, .ref (ad L)])).length) Slot.unset).toArray = ls at hl ⊢
  have hl : lv_has ls 3 [(0, .ref x), (1, .ref (ad L))] := hl
  have hS : va_S A s.heap s.heap [] := va_S.rf
  have hLK := (hin L hLT).1
  obtain ⟨sz, v, lt, rt, esub⟩ := sub_at ((subT_mem hb0).mpr hLT)
  have hs1 := ShP_sub (h := L) hs
  have hc1 := ShC_sub (h := L) hc
  have hb1 := sub_bst (c := L) hb0
  rw [esub] at hs1 hc1 hb1
  obtain ⟨p1, p2, p3, p4, p5⟩ := hs1
  obtain ⟨q1, q2, q3⟩ := hc1
  obtain ⟨b1, b2, b3, b4⟩ := bst_in.mp hb1
  have hu := UpC_top (h := L) hs
  have hks : ∀ j ∈ (anc L T).reverse, j ∈ K := fun j hj => (hin j (anc_in (List.mem_reverse.mp hj))).1
  have hsubT : ∀ j ∈ keysT (subT L T), j ∈ keysT T := fun j hj => subT_sub hj
  rw [esub] at hsubT
  have inl : ∀ j ∈ keysT lt, j ∈ keysT T := fun j hj => hsubT j ((keys_in ..).mpr (Or.inl hj))
  have inr : ∀ j ∈ keysT rt, j ∈ keysT T := fun j hj => hsubT j ((keys_in ..).mpr (Or.inr (Or.inr hj)))
  have hLn := (hin L hLT).2
  rcases h9l : root lt with _ | cl
  · have hlf := leaf_of h9l
    have ejl : joinT lt rt = rt := by rw [hlf]; rfl
    refine lv_aload_n hx hb dX1_removeFromRanks_0 rfl (lv_at hl 1 rfl) ?_
    obtain ⟨i0, hi0⟩ := cw_s (x := x) (ln := ln) (cA := cA) (n := n) (tp := root T) (mo := mo) (dr := dr) (ds := ds) (li := li) (ad := ad) (g := g) (hLK : L ∈ K)
    refine va_get (D := D) (ci := 0) (v := va_rf ((g L).2.1.map ad)) (C := RX0) (T := TX0) (N := 5) hx hb hts (by decide +kernel) hown hG.1 hP i0 hi0 rfl 2 (by decide) (hts (.fieldLink RX1 150 "LopsidedRanks$Soldier" "left" "LLopsidedRanks$Soldier;") (by decide +kernel)) (fun _ h9 => h9) rfl dX1_removeFromRanks_1 ?_
    refine zr_eqk (p2.trans h9l) ?_
    refine lv_ifnullN (tgt := 14) hx hb dX1_removeFromRanks_4 (by decide) ?_
    refine lv_aload_n hx hb dX1_removeFromRanks_14 rfl (lv_at hl 0 rfl) ?_
    refine lv_aload_n hx hb dX1_removeFromRanks_15 rfl (lv_at hl 1 rfl) ?_
    refine va_callv (va_runV (As := [.ref (ad L)]) (rest := []) ⟨hx, hb, hml, hown, hts⟩ (c_X1_removeWithOneSide l hcl hLK (by rw [p1]; exact hu) hks) (cwV 1 hts gX1_removeFromRanks_X1_removeWithOneSide rfl rfl rfl (by decide +kernel) ⟨Nat.le_of_ble_eq_true rfl, Nat.le_of_ble_eq_true rfl⟩) ⟨PcM.blind, va_recv hG.1 hP (ci := 1) (q0 := 0) rfl cw_x, PcM.at (fun q h => hA q (Nat.le_trans hS.1 h)) hP hG hD⟩ rfl rfl hl.1 rfl (lv_room (Nat.le_of_ble_eq_true rfl)) dX1_removeFromRanks_16 ⟨Nat.zero_le _, Nat.zero_le _⟩) hS (fun q _ h => h) (fun q h => h) (fun u16 t H locs ht hvm q16 hB hz1 hk1 hS => ?_)
    obtain ⟨hP, -, hD⟩ := hB
    rw [ht] at hP
    have hP : va_P D vwCl (cw x ln cA n (sbT (root T) (g L).1 (orE (g L).2.1 (g L).2.2.1)) mo dr ds li K ad (sbG (addG (-1) (anc L T).reverse g) (g L).1 L (orE (g L).2.1 (g L).2.2.1))) H := hP
    have hD : va_D A (cw x ln cA n (sbT (root T) (g L).1 (orE (g L).2.1 (g L).2.2.1)) mo dr ds li K ad (sbG (addG (-1) (anc L T).reverse g) (g L).1 L (orE (g L).2.1 (g L).2.2.1))) := hD
    have ej : delT L T = rep L (joinT lt rt) T := by unfold delT; rw [esub]
    have er : orE (g L).2.1 (g L).2.2.1 = root (joinT lt rt) := by rw [p2, p3, h9l]; rw [ejl]; rfl
    obtain ⟨d1, d2⟩ := delG (t := joinT lt rt) (b := some L) hb0 hs hc (by rw [ejl]; exact b2) (by rw [ejl]; exact p5) (by rw [ejl]; exact q3) (fun j hj => by rw [esub, keys_in]; rw [keys_join hb1, List.mem_append] at hj; exact hj.elim Or.inl (fun z => Or.inr (Or.inr z))) (by rw [esub, ← keys_len, ← keys_len, keys_join hb1]; simp [keysT]; omega)
    rw [p1, er] at hP hD
    rw [sbT_root] at hP hD
    rw [← ej] at hP hD d1 d2
    exact W.vret hx hb hr (fun t ht hW => ⟨⟨_, rfl, ⟨d1, d2⟩, by rw [ht]; exact hP, hG.moved hW, hD⟩, hS.F ht⟩) hS.2.2 dX1_removeFromRanks_19
  · rcases h9r : root rt with _ | cr
    · have hrf := leaf_of h9r
      have ejl : joinT lt rt = lt := by rw [hrf]; cases lt with | leaf => cases h9l | inner s2 kk2 v2 l2 r2 => rfl
      refine lv_aload_n hx hb dX1_removeFromRanks_0 rfl (lv_at hl 1 rfl) ?_
      obtain ⟨i1, hi1⟩ := cw_s (x := x) (ln := ln) (cA := cA) (n := n) (tp := root T) (mo := mo) (dr := dr) (ds := ds) (li := li) (ad := ad) (g := g) (hLK : L ∈ K)
      refine va_get (D := D) (ci := 0) (v := va_rf ((g L).2.1.map ad)) (C := RX0) (T := TX0) (N := 5) hx hb hts (by decide +kernel) hown hG.1 hP i1 hi1 rfl 2 (by decide) (hts (.fieldLink RX1 150 "LopsidedRanks$Soldier" "left" "LLopsidedRanks$Soldier;") (by decide +kernel)) (fun _ h9 => h9) rfl dX1_removeFromRanks_1 ?_
      refine zr_eqk (p2.trans h9l) ?_
      refine lv_ifnull hx hb dX1_removeFromRanks_4 ?_
      refine lv_aload_n hx hb dX1_removeFromRanks_7 rfl (lv_at hl 1 rfl) ?_
      obtain ⟨i2, hi2⟩ := cw_s (x := x) (ln := ln) (cA := cA) (n := n) (tp := root T) (mo := mo) (dr := dr) (ds := ds) (li := li) (ad := ad) (g := g) (hLK : L ∈ K)
      refine va_get (D := D) (ci := 0) (v := va_rf ((g L).2.2.1.map ad)) (C := RX0) (T := TX0) (N := 5) hx hb hts (by decide +kernel) hown hG.1 hP i2 hi2 rfl 3 (by decide) (hts (.fieldLink RX1 160 "LopsidedRanks$Soldier" "right" "LLopsidedRanks$Soldier;") (by decide +kernel)) (fun _ h9 => h9) rfl dX1_removeFromRanks_8 ?_
      refine zr_eqk (p3.trans h9r) ?_
      refine lv_ifnonnullN hx hb dX1_removeFromRanks_11 ?_
      refine lv_aload_n hx hb dX1_removeFromRanks_14 rfl (lv_at hl 0 rfl) ?_
      refine lv_aload_n hx hb dX1_removeFromRanks_15 rfl (lv_at hl 1 rfl) ?_
      refine va_callv (va_runV (As := [.ref (ad L)]) (rest := []) ⟨hx, hb, hml, hown, hts⟩ (c_X1_removeWithOneSide l hcl hLK (by rw [p1]; exact hu) hks) (cwV 1 hts gX1_removeFromRanks_X1_removeWithOneSide rfl rfl rfl (by decide +kernel) ⟨Nat.le_of_ble_eq_true rfl, Nat.le_of_ble_eq_true rfl⟩) ⟨PcM.blind, va_recv hG.1 hP (ci := 1) (q0 := 0) rfl cw_x, PcM.at (fun q h => hA q (Nat.le_trans hS.1 h)) hP hG hD⟩ rfl rfl hl.1 rfl (lv_room (Nat.le_of_ble_eq_true rfl)) dX1_removeFromRanks_16 ⟨Nat.zero_le _, Nat.zero_le _⟩) hS (fun q _ h => h) (fun q h => h) (fun u16 t H locs ht hvm q16 hB hz1 hk1 hS => ?_)
      obtain ⟨hP, -, hD⟩ := hB
      rw [ht] at hP
      have hP : va_P D vwCl (cw x ln cA n (sbT (root T) (g L).1 (orE (g L).2.1 (g L).2.2.1)) mo dr ds li K ad (sbG (addG (-1) (anc L T).reverse g) (g L).1 L (orE (g L).2.1 (g L).2.2.1))) H := hP
      have hD : va_D A (cw x ln cA n (sbT (root T) (g L).1 (orE (g L).2.1 (g L).2.2.1)) mo dr ds li K ad (sbG (addG (-1) (anc L T).reverse g) (g L).1 L (orE (g L).2.1 (g L).2.2.1))) := hD
      have ej : delT L T = rep L (joinT lt rt) T := by unfold delT; rw [esub]
      have er : orE (g L).2.1 (g L).2.2.1 = root (joinT lt rt) := by rw [p2, p3, h9l]; show some cl = _; rw [ejl, h9l]
      obtain ⟨d1, d2⟩ := delG (t := joinT lt rt) (b := some L) hb0 hs hc (by rw [ejl]; exact b1) (by rw [ejl]; exact p4) (by rw [ejl]; exact q2) (fun j hj => by rw [esub, keys_in]; rw [keys_join hb1, List.mem_append] at hj; exact hj.elim Or.inl (fun z => Or.inr (Or.inr z))) (by rw [esub, ← keys_len, ← keys_len, keys_join hb1]; simp [keysT]; omega)
      rw [p1, er] at hP hD
      rw [sbT_root] at hP hD
      rw [← ej] at hP hD d1 d2
      exact W.vret hx hb hr (fun t ht hW => ⟨⟨_, rfl, ⟨d1, d2⟩, by rw [ht]; exact hP, hG.moved hW, hD⟩, hS.F ht⟩) hS.2.2 dX1_removeFromRanks_19
    · have hnl := not_leaf h9l
      have hnr := not_leaf h9r
      obtain ⟨rr, y1, y2, y3, y4, y5, y6, y7, y8, y9, y10, y11, y12⟩ := delB1 hb0 hs hc esub hnr
      have hmK := (hin _ y4).1
      have hmn := (hin _ y4).2
      have hjn : delT L T = rep L (nd_ lt (mnk rt) (dmn rt)) T := by
        unfold delT; rw [esub]
        show rep L (joinT lt rt) T = _
        cases lt with
        | leaf => exact absurd rfl hnl
        | inner s2 kk2 v2 l2 r2 => cases rt with
          | leaf => exact absurd rfl hnr
          | inner s3 kk3 v3 l3 r3 => rfl
      generalize hm : mnk rt = mm at *
      have hdmT : ∀ j ∈ keysT (dmn rt), j ∈ keysT T := fun j hj => inr j (by
        obtain ⟨s5, v5, r5, w1, w2, w3⟩ := mn_sub b2 hnr
        rw [w3]; exact List.mem_cons_of_mem _ hj)
      refine lv_aload_n hx hb dX1_removeFromRanks_0 rfl (lv_at hl 1 rfl) ?_
      obtain ⟨i3, hi3⟩ := cw_s (x := x) (ln := ln) (cA := cA) (n := n) (tp := root T) (mo := mo) (dr := dr) (ds := ds) (li := li) (ad := ad) (g := g) (hLK : L ∈ K)
      refine va_get (D := D) (ci := 0) (v := va_rf ((g L).2.1.map ad)) (C := RX0) (T := TX0) (N := 5) hx hb hts (by decide +kernel) hown hG.1 hP i3 hi3 rfl 2 (by decide) (hts (.fieldLink RX1 150 "LopsidedRanks$Soldier" "left" "LLopsidedRanks$Soldier;") (by decide +kernel)) (fun _ h9 => h9) rfl dX1_removeFromRanks_1 ?_
      refine zr_eqk (p2.trans h9l) ?_
      refine lv_ifnull hx hb dX1_removeFromRanks_4 ?_
      refine lv_aload_n hx hb dX1_removeFromRanks_7 rfl (lv_at hl 1 rfl) ?_
      obtain ⟨i4, hi4⟩ := cw_s (x := x) (ln := ln) (cA := cA) (n := n) (tp := root T) (mo := mo) (dr := dr) (ds := ds) (li := li) (ad := ad) (g := g) (hLK : L ∈ K)
      refine va_get (D := D) (ci := 0) (v := va_rf ((g L).2.2.1.map ad)) (C := RX0) (T := TX0) (N := 5) hx hb hts (by decide +kernel) hown hG.1 hP i4 hi4 rfl 3 (by decide) (hts (.fieldLink RX1 160 "LopsidedRanks$Soldier" "right" "LLopsidedRanks$Soldier;") (by decide +kernel)) (fun _ h9 => h9) rfl dX1_removeFromRanks_8 ?_
      refine zr_eqk (p3.trans h9r) ?_
      refine lv_ifnonnull (tgt := 20) hx hb dX1_removeFromRanks_11 (by decide) ?_
      refine lv_aload_n hx hb dX1_removeFromRanks_20 rfl (lv_at hl 1 rfl) ?_
      obtain ⟨i5, hi5⟩ := cw_s (x := x) (ln := ln) (cA := cA) (n := n) (tp := root T) (mo := mo) (dr := dr) (ds := ds) (li := li) (ad := ad) (g := g) (hLK : L ∈ K)
      refine va_get (D := D) (ci := 0) (v := va_rf ((g L).2.2.1.map ad)) (C := RX0) (T := TX0) (N := 5) hx hb hts (by decide +kernel) hown hG.1 hP i5 hi5 rfl 3 (by decide) (hts (.fieldLink RX1 160 "LopsidedRanks$Soldier" "right" "LLopsidedRanks$Soldier;") (by decide +kernel)) (fun _ h9 => h9) rfl dX1_removeFromRanks_21 ?_
      refine zr_eqk p3 ?_
      refine zr_astore_n (lv' := [(2, va_rf ((root rt).map ad)), (0, .ref x), (1, .ref (ad L))]) hx hb dX1_removeFromRanks_24 rfl hl (by decide) rfl (fun ls hl => ?_)
      refine L_X1_removeFromRanks (t := rt) hx hb hml hts hown hG hP hnr p5 (fun j hj => (hin j (inr j hj)).1) (fun ls hl => ?_) _ hl
      rw [hm] at hl
      refine lv_aload_n hx hb dX1_removeFromRanks_40 rfl (lv_at hl 1 rfl) ?_
      refine lv_aload_n hx hb dX1_removeFromRanks_41 rfl (lv_at hl 0 rfl) ?_
      refine va_callv (va_runV (As := [.ref (ad mm)]) (rest := []) ⟨hx, hb, hml, hown, hts⟩ (c_X1_removeWithOneSide l (ks := (anc mm T).reverse) hcl hmK (by rw [y1]; exact UpC_top hs) (fun j hj => (hin j (anc_in (List.mem_reverse.mp hj))).1)) (cwV 1 hts gX1_removeFromRanks_X1_removeWithOneSide rfl rfl rfl (by decide +kernel) ⟨Nat.le_of_ble_eq_true rfl, Nat.le_of_ble_eq_true rfl⟩) ⟨PcM.blind, va_recv hG.1 hP (ci := 1) (q0 := 0) rfl cw_x, PcM.at (fun q h => hA q (Nat.le_trans hS.1 h)) hP hG hD⟩ rfl rfl hl.1 rfl (lv_room (Nat.le_of_ble_eq_true rfl)) dX1_removeFromRanks_42 ⟨Nat.zero_le _, Nat.zero_le _⟩) hS (fun q _ h => h) (fun q h => h) (fun u42 t H locs ht hvm q42 hB hz1 hk1 hS => ?_)
      obtain ⟨hP, -, hD⟩ := hB
      rw [ht] at hP
      have hP : va_P D vwCl (cw x ln cA n (sbT (root T) (g mm).1 (orE (g mm).2.1 (g mm).2.2.1)) mo dr ds li K ad (sbG (addG (-1) (anc mm T).reverse g) (g mm).1 mm (orE (g mm).2.1 (g mm).2.2.1))) H := hP
      have hD : va_D A (cw x ln cA n (sbT (root T) (g mm).1 (orE (g mm).2.1 (g mm).2.2.1)) mo dr ds li K ad (sbG (addG (-1) (anc mm T).reverse g) (g mm).1 mm (orE (g mm).2.1 (g mm).2.2.1))) := hD
      have er : orE (g mm).2.1 (g mm).2.2.1 = root rr := by rw [y2, y3]; rfl
      rw [er, y1, ← y11] at hP hD
      obtain ⟨gB, hgB⟩ : ∃ z, z = sbG (addG (-1) (anc mm T).reverse g) (parF mm none T) mm (root rr) := ⟨_, rfl⟩
      rw [← hgB] at hP hD y5 y6
      obtain ⟨T1, hT1⟩ : ∃ z, z = rep mm rr T := ⟨_, rfl⟩
      rw [← hT1] at hP hD y5 y6 y7 y8 y9 y10 y11
      have hLT1 : L ∈ keysT T1 := (subT_mem y7).mp (by rw [y8]; rfl)
      have z1 := ShP_sub (h := L) y5
      have z2 := ShC_sub (h := L) y6
      rw [y8] at z1 z2
      obtain ⟨z11, z12, z13, -, -⟩ := z1
      have hmT1 : mm ∉ keysT T1 := fun q => (y9 mm q).2 rfl
      have hmLne : ¬ L = mm := fun q => (y9 L hLT1).2 q
      have hP : va_P D vwCl (cw x ln cA n (root T1) mo dr ds li K ad gB) H := hP
      have hD : va_D A (cw x ln cA n (root T1) mo dr ds li K ad gB) := hD
      refine lv_aload_n hx hb dX1_removeFromRanks_45 rfl (lv_at hl 0 rfl) ?_
      refine lv_aload_n hx hb dX1_removeFromRanks_46 rfl (lv_at hl 2 rfl) ?_
      obtain ⟨i6, hi6⟩ := cw_s (x := x) (ln := ln) (cA := cA) (n := n) (tp := root T1) (mo := mo) (dr := dr) (ds := ds) (li := li) (ad := ad) (g := gB) (hLK : L ∈ K)
      refine va_get (D := D) (ci := 0) (v := .int (gB L).2.2.2) (C := RX0) (T := TX0) (N := 5) hx hb hts (by decide +kernel) hown hG.1 hP i6 hi6 rfl 4 (by decide) (hts (.fieldLink RX1 147 "LopsidedRanks$Soldier" "company" "I") (by decide +kernel)) (fun _ h9 => h9) rfl dX1_removeFromRanks_47 ?_
      obtain ⟨i7, hi7⟩ := cw_s (x := x) (ln := ln) (cA := cA) (n := n) (tp := root T1) (mo := mo) (dr := dr) (ds := ds) (li := li) (ad := ad) (g := gB) (hmK : mm ∈ K)
      have hDp := hD
      refine va_put (D := D) (ci := 0) (v := .int (gB L).2.2.2) (ty := .int) (C := RX0) (T := TX0) (N := 5) hx hb hts (by decide +kernel) tyX0 tyX0_ok nmX0 hown hG.1 hP hD hS i7 hi7 rfl 4 (by decide) (hts (.fieldLink RX1 147 "LopsidedRanks$Soldier" "company" "I") (by decide +kernel)) (fun _ h9 => h9) rfl (by decide +kernel) rfl rfl (Nat.le_of_ble_eq_true rfl) dX1_removeFromRanks_50 (fun H locs hP hD hS => ?_)
      have hP : va_P D vwCl (cw x ln cA n (root T1) mo dr ds li K ad (va_up gB mm (sC (gB mm) ((gB L).2.2.2)))) H := by rw [← cw_put hDp (hmK : mm ∈ K) hi7 (sC (gB mm) ((gB L).2.2.2)) rfl]; exact hP
      have hD : va_D A (cw x ln cA n (root T1) mo dr ds li K ad (va_up gB mm (sC (gB mm) ((gB L).2.2.2)))) := by rw [← cw_put hDp (hmK : mm ∈ K) hi7 (sC (gB mm) ((gB L).2.2.2)) rfl]; exact hD
      refine lv_aload_n hx hb dX1_removeFromRanks_53 rfl (lv_at hl 0 rfl) ?_
      refine lv_null hx hb dX1_removeFromRanks_54 ?_
      obtain ⟨i8, hi8⟩ := cw_s (x := x) (ln := ln) (cA := cA) (n := n) (tp := root T1) (mo := mo) (dr := dr) (ds := ds) (li := li) (ad := ad) (g := va_up gB mm (sC (gB mm) ((gB L).2.2.2))) (hmK : mm ∈ K)
      have hDp := hD
      refine va_put (D := D) (ci := 0) (v := .null) (ty := .object RX0) (C := RX0) (T := TX0) (N := 5) hx hb hts (by decide +kernel) tyX0 tyX0_ok nmX0 hown hG.1 hP hD hS i8 hi8 rfl 2 (by decide) (hts (.fieldLink RX1 150 "LopsidedRanks$Soldier" "left" "LLopsidedRanks$Soldier;") (by decide +kernel)) (fun _ h9 => h9) rfl (by decide +kernel) rfl rfl (Nat.le_of_ble_eq_true rfl) dX1_removeFromRanks_55 (fun H locs hP hD hS => ?_)
      have hP : va_P D vwCl (cw x ln cA n (root T1) mo dr ds li K ad (va_up (va_up gB mm (sC (gB mm) ((gB L).2.2.2))) mm (sL ((va_up gB mm (sC (gB mm) ((gB L).2.2.2))) mm) none))) H := by rw [← cw_put hDp (hmK : mm ∈ K) hi8 (sL ((va_up gB mm (sC (gB mm) ((gB L).2.2.2))) mm) none) rfl]; exact hP
      have hD : va_D A (cw x ln cA n (root T1) mo dr ds li K ad (va_up (va_up gB mm (sC (gB mm) ((gB L).2.2.2))) mm (sL ((va_up gB mm (sC (gB mm) ((gB L).2.2.2))) mm) none))) := by rw [← cw_put hDp (hmK : mm ∈ K) hi8 (sL ((va_up gB mm (sC (gB mm) ((gB L).2.2.2))) mm) none) rfl]; exact hD
      refine lv_aload_n hx hb dX1_removeFromRanks_58 rfl (lv_at hl 0 rfl) ?_
      refine lv_null hx hb dX1_removeFromRanks_59 ?_
      obtain ⟨i9, hi9⟩ := cw_s (x := x) (ln := ln) (cA := cA) (n := n) (tp := root T1) (mo := mo) (dr := dr) (ds := ds) (li := li) (ad := ad) (g := va_up (va_up gB mm (sC (gB mm) ((gB L).2.2.2))) mm (sL ((va_up gB mm (sC (gB mm) ((gB L).2.2.2))) mm) none)) (hmK : mm ∈ K)
      have hDp := hD
      refine va_put (D := D) (ci := 0) (v := .null) (ty := .object RX0) (C := RX0) (T := TX0) (N := 5) hx hb hts (by decide +kernel) tyX0 tyX0_ok nmX0 hown hG.1 hP hD hS i9 hi9 rfl 3 (by decide) (hts (.fieldLink RX1 160 "LopsidedRanks$Soldier" "right" "LLopsidedRanks$Soldier;") (by decide +kernel)) (fun _ h9 => h9) rfl (by decide +kernel) rfl rfl (Nat.le_of_ble_eq_true rfl) dX1_removeFromRanks_60 (fun H locs hP hD hS => ?_)
      have hP : va_P D vwCl (cw x ln cA n (root T1) mo dr ds li K ad (va_up (va_up (va_up gB mm (sC (gB mm) ((gB L).2.2.2))) mm (sL ((va_up gB mm (sC (gB mm) ((gB L).2.2.2))) mm) none)) mm (sR ((va_up (va_up gB mm (sC (gB mm) ((gB L).2.2.2))) mm (sL ((va_up gB mm (sC (gB mm) ((gB L).2.2.2))) mm) none)) mm) none))) H := by rw [← cw_put hDp (hmK : mm ∈ K) hi9 (sR ((va_up (va_up gB mm (sC (gB mm) ((gB L).2.2.2))) mm (sL ((va_up gB mm (sC (gB mm) ((gB L).2.2.2))) mm) none)) mm) none) rfl]; exact hP
      have hD : va_D A (cw x ln cA n (root T1) mo dr ds li K ad (va_up (va_up (va_up gB mm (sC (gB mm) ((gB L).2.2.2))) mm (sL ((va_up gB mm (sC (gB mm) ((gB L).2.2.2))) mm) none)) mm (sR ((va_up (va_up gB mm (sC (gB mm) ((gB L).2.2.2))) mm (sL ((va_up gB mm (sC (gB mm) ((gB L).2.2.2))) mm) none)) mm) none))) := by rw [← cw_put hDp (hmK : mm ∈ K) hi9 (sR ((va_up (va_up gB mm (sC (gB mm) ((gB L).2.2.2))) mm (sL ((va_up gB mm (sC (gB mm) ((gB L).2.2.2))) mm) none)) mm) none) rfl]; exact hD
      obtain ⟨g3, hg3⟩ : ∃ z, z = va_up (va_up (va_up gB mm (sC (gB mm) ((gB L).2.2.2))) mm (sL ((va_up gB mm (sC (gB mm) ((gB L).2.2.2))) mm) none)) mm (sR ((va_up (va_up gB mm (sC (gB mm) ((gB L).2.2.2))) mm (sL ((va_up gB mm (sC (gB mm) ((gB L).2.2.2))) mm) none)) mm) none) := ⟨_, rfl⟩
      rw [← hg3] at hP hD
      have h3 : ∀ k, k ≠ mm → g3 k = gB k := fun k hk => by rw [hg3, va_up_ne _ _ hk, va_up_ne _ _ hk, va_up_ne _ _ hk]
      have h3l : (g3 mm).2.1 = none := by rw [hg3]; simp [va_up, sR, sL, sC]
      have h3r : (g3 mm).2.2.1 = none := by rw [hg3]; simp [va_up, sR, sL, sC]
      have h3c : (g3 mm).2.2.2 = nI (siz lt + siz (dmn rt) + 1) := by rw [hg3]; simp only [va_up_self, sR, sL, sC]; exact z2.1
      have hmrt : mm ∈ keysT rt := by
        obtain ⟨s5, v5, r5, w1, w2, w3⟩ := mn_sub b2 hnr
        rw [hm] at w3; rw [w3]; exact List.mem_cons_self
      have hmdm : ∀ j ∈ keysT (dmn rt), mm < j := by
        obtain ⟨s5, v5, r5, w1, w2, w3⟩ := mn_sub b2 hnr
        rw [hm] at w3
        have w4 : (keysT rt).Pairwise (· < ·) := b2
        rw [w3] at w4
        exact (List.pairwise_cons.mp w4).1
      obtain ⟨u1, u2, u3, u4, u5⟩ := delB2 y7 y5 y6 y8 hnl hmT1 (b4 mm hmrt) hmdm h3 h3l h3r h3c
      rw [y10, ← hjn] at u3 u4 u5
      refine lv_aload_n hx hb dX1_removeFromRanks_63 rfl (lv_at hl 1 rfl) ?_
      refine lv_aload_n hx hb dX1_removeFromRanks_64 rfl (lv_at hl 2 rfl) ?_
      obtain ⟨i10, hi10⟩ := cw_s (x := x) (ln := ln) (cA := cA) (n := n) (tp := root T1) (mo := mo) (dr := dr) (ds := ds) (li := li) (ad := ad) (g := g3) (hLK : L ∈ K)
      refine va_get (D := D) (ci := 0) (v := va_rf ((g3 L).1.map ad)) (C := RX0) (T := TX0) (N := 5) hx hb hts (by decide +kernel) hown hG.1 hP i10 hi10 rfl 1 (by decide) (hts (.fieldLink RX1 130 "LopsidedRanks$Soldier" "above" "LLopsidedRanks$Soldier;") (by decide +kernel)) (fun _ h9 => h9) rfl dX1_removeFromRanks_65 ?_
      refine zr_eqk (y := parF L none T1) (by rw [h3 L hmLne]; exact z11) ?_
      refine lv_aload_n hx hb dX1_removeFromRanks_68 rfl (lv_at hl 2 rfl) ?_
      obtain ⟨i11, hi11⟩ := cw_s (x := x) (ln := ln) (cA := cA) (n := n) (tp := root T1) (mo := mo) (dr := dr) (ds := ds) (li := li) (ad := ad) (g := g3) (hLK : L ∈ K)
      refine va_get (D := D) (ci := 0) (v := .int (nI L)) (C := RX0) (T := TX0) (N := 5) hx hb hts (by decide +kernel) hown hG.1 hP i11 hi11 rfl 0 (by decide) (hts (.fieldLink RX1 100 "LopsidedRanks$Soldier" "height" "I") (by decide +kernel)) (fun _ h9 => h9) rfl dX1_removeFromRanks_69 ?_
      refine lv_aload_n hx hb dX1_removeFromRanks_72 rfl (lv_at hl 0 rfl) ?_
      refine va_callv (va_runV (As := [va_rf ((parF L none T1).map ad), .int (nI L), .ref (ad mm)]) (rest := []) ⟨hx, hb, hml, hown, hts⟩ (c_X1_standBelow l (p0 := parF L none T1) (r0 := some mm) (fun c e => (hin c (y9 c (parF_mem e)).1).1) (fun c e => (hin c (y9 c (parF_mem e)).1).2) hLn (fun c e => by cases e; exact hmK)) (cwV 3 hts gX1_removeFromRanks_X1_standBelow rfl rfl rfl (by decide +kernel) ⟨Nat.le_of_ble_eq_true rfl, Nat.le_of_ble_eq_true rfl⟩) ⟨PcM.blind, va_recv hG.1 hP (ci := 1) (q0 := 0) rfl cw_x, PcM.at (fun q h => hA q (Nat.le_trans hS.1 h)) hP hG hD⟩ rfl rfl hl.1 rfl (lv_room (Nat.le_of_ble_eq_true rfl)) dX1_removeFromRanks_73 ⟨Nat.zero_le _, Nat.zero_le _⟩) hS (fun q _ h => h) (fun q h => h) (fun u73 t H locs ht hvm q73 hB hz1 hk1 hS => ?_)
      obtain ⟨hP, -, hD⟩ := hB
      rw [ht] at hP
      have hP : va_P D vwCl (cw x ln cA n (sbT (root T1) (parF L none T1) (some mm)) mo dr ds li K ad (sbG g3 (parF L none T1) L (some mm))) H := hP
      have hD : va_D A (cw x ln cA n (sbT (root T1) (parF L none T1) (some mm)) mo dr ds li K ad (sbG g3 (parF L none T1) L (some mm))) := hD
      refine lv_aload_n hx hb dX1_removeFromRanks_76 rfl (lv_at hl 2 rfl) ?_
      obtain ⟨i12, hi12⟩ := cw_s (x := x) (ln := ln) (cA := cA) (n := n) (tp := sbT (root T1) (parF L none T1) (some mm)) (mo := mo) (dr := dr) (ds := ds) (li := li) (ad := ad) (g := sbG g3 (parF L none T1) L (some mm)) (hLK : L ∈ K)
      refine va_get (D := D) (ci := 0) (v := va_rf (((sbG g3 (parF L none T1) L (some mm)) L).2.1.map ad)) (C := RX0) (T := TX0) (N := 5) hx hb hts (by decide +kernel) hown hG.1 hP i12 hi12 rfl 2 (by decide) (hts (.fieldLink RX1 150 "LopsidedRanks$Soldier" "left" "LLopsidedRanks$Soldier;") (by decide +kernel)) (fun _ h9 => h9) rfl dX1_removeFromRanks_77 ?_
      refine zr_eqk u1 ?_
      refine lv_aload_n hx hb dX1_removeFromRanks_80 rfl (lv_at hl 0 rfl) ?_
      refine va_callv (va_runS (As := [va_rf ((root lt).map ad), .ref (ad mm)]) (rest := []) ⟨hx, hb, hml, hown, hts⟩ (c_X1_handOver l (r0 := root lt) (q0 := mm) hmK hmn (fun c e => (hin c (inl c (root_in e))).1) (fun c e => (hin c (inl c (root_in e))).2)) (va_cwS 2 hts gX1_removeFromRanks_X1_handOver rfl rfl rfl (by decide +kernel) ⟨Nat.le_of_ble_eq_true rfl, Nat.le_of_ble_eq_true rfl⟩) ⟨PcM.blind, PcM.at (fun q h => hA q (Nat.le_trans hS.1 h)) hP hG hD⟩ rfl rfl hl.1 rfl (lv_room (Nat.le_of_ble_eq_true rfl)) dX1_removeFromRanks_81 ⟨Nat.zero_le _, Nat.zero_le _⟩) hS (fun q _ h => h) (fun q h => h) (fun u81 t H locs ht hvm q81 hB hz1 hk1 hS => ?_)
      obtain ⟨hP, -, hD⟩ := hB
      rw [ht] at hP
      have hP : va_P D vwCl (cw x ln cA n (sbT (root T1) (parF L none T1) (some mm)) mo dr ds li K ad (hoG (sbG g3 (parF L none T1) L (some mm)) (root lt) mm)) H := hP
      have hD : va_D A (cw x ln cA n (sbT (root T1) (parF L none T1) (some mm)) mo dr ds li K ad (hoG (sbG g3 (parF L none T1) L (some mm)) (root lt) mm)) := hD
      refine lv_aload_n hx hb dX1_removeFromRanks_84 rfl (lv_at hl 2 rfl) ?_
      obtain ⟨i13, hi13⟩ := cw_s (x := x) (ln := ln) (cA := cA) (n := n) (tp := sbT (root T1) (parF L none T1) (some mm)) (mo := mo) (dr := dr) (ds := ds) (li := li) (ad := ad) (g := hoG (sbG g3 (parF L none T1) L (some mm)) (root lt) mm) (hLK : L ∈ K)
      refine va_get (D := D) (ci := 0) (v := va_rf (((hoG (sbG g3 (parF L none T1) L (some mm)) (root lt) mm) L).2.2.1.map ad)) (C := RX0) (T := TX0) (N := 5) hx hb hts (by decide +kernel) hown hG.1 hP i13 hi13 rfl 3 (by decide) (hts (.fieldLink RX1 160 "LopsidedRanks$Soldier" "right" "LLopsidedRanks$Soldier;") (by decide +kernel)) (fun _ h9 => h9) rfl dX1_removeFromRanks_85 ?_
      refine zr_eqk u2 ?_
      refine lv_aload_n hx hb dX1_removeFromRanks_88 rfl (lv_at hl 0 rfl) ?_
      refine va_callv (va_runS (As := [va_rf ((root (dmn rt)).map ad), .ref (ad mm)]) (rest := []) ⟨hx, hb, hml, hown, hts⟩ (c_X1_handOver l (r0 := root (dmn rt)) (q0 := mm) hmK hmn (fun c e => (hin c (hdmT c (root_in e))).1) (fun c e => (hin c (hdmT c (root_in e))).2)) (va_cwS 2 hts gX1_removeFromRanks_X1_handOver rfl rfl rfl (by decide +kernel) ⟨Nat.le_of_ble_eq_true rfl, Nat.le_of_ble_eq_true rfl⟩) ⟨PcM.blind, PcM.at (fun q h => hA q (Nat.le_trans hS.1 h)) hP hG hD⟩ rfl rfl hl.1 rfl (lv_room (Nat.le_of_ble_eq_true rfl)) dX1_removeFromRanks_89 ⟨Nat.zero_le _, Nat.zero_le _⟩) hS (fun q _ h => h) (fun q h => h) (fun u89 t H locs ht hvm q89 hB hz1 hk1 hS => ?_)
      obtain ⟨hP, -, hD⟩ := hB
      rw [ht] at hP
      have hP : va_P D vwCl (cw x ln cA n (sbT (root T1) (parF L none T1) (some mm)) mo dr ds li K ad (hoG (hoG (sbG g3 (parF L none T1) L (some mm)) (root lt) mm) (root (dmn rt)) mm)) H := hP
      have hD : va_D A (cw x ln cA n (sbT (root T1) (parF L none T1) (some mm)) mo dr ds li K ad (hoG (hoG (sbG g3 (parF L none T1) L (some mm)) (root lt) mm) (root (dmn rt)) mm)) := hD
      rw [u5] at hP hD
      exact W.vret hx hb hr (fun t ht hW => ⟨⟨_, rfl, ⟨u3, u4⟩, by rw [ht]; exact hP, hG.moved hW, hD⟩, hS.F ht⟩) hS.2.2 dX1_removeFromRanks_92

