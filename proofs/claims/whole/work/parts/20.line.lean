/-! WRITERS of the class: the line, and the ranks behind a discharge -/
set_option maxHeartbeats 4000000 in
set_option maxRecDepth 100000 in
/-- Soldier(h): the new cell q, behind a world ws -/
theorem c_X0_init (l : Launch) {D : va_G} {cA cZ cI : ClassId} {ws : va_W} {q0 h : Nat} {A : Nat → Prop} : Met l yX0_init wsX0_init ({ frames := 1, cells := 0, slots := 0, locals := 40 } : Room) (PcM D (tysA cA cZ cI) A (ws ++ [(q0, .inr (0, [.int 0, .null, .null, .null, .int 0]))]) [.ref q0, .int (nI h)]) (va_Qv (S := Unit) (fun _ => True) (fun _ => BM D (tysA cA cZ cI) A (ws ++ [(q0, .inr (0, [.int (nI h), .null, .null, .null, .int (nI 1)]))])) A) 0 0 A := by
  refine Met.ofW (cc := cX0_init) (maxL := 2) (ret := none) (by decide) rfl ?_
  intro p e s m args below meth c s₁ B hml hv
  obtain ⟨rfl, hA, hP, hG, hD⟩ := hv
  have hx := B.exec
  have hb := B.bytes
  have hr := B.returns
  have hts := atoms_spec (ws := wsX0_init) B.pre
  have hown : s.vm.findClass RX0 = some m.cls := findClass_of_methodNamed B.named
  have hlocks := B.notSynchronized
  have hl := lv_entry ([.ref q0, .int (nI h)]) (n := 2) (Nat.le_of_ble_eq_true rfl)
  rw [lg_entry_eq]
  generalize (lg_sl ([.ref q0, .int (nI h)]) ++ List.replicate (2 - (lg_sl ([.ref q0, .int (nI h)])).length) Slot.unset).toArray = ls at hl ⊢
  have hl : lv_has ls 2 [(0, .ref q0), (1, .int (nI h))] := hl
  have hS : va_S A s.heap s.heap [] := va_S.rf
  have hin : meth.name = "<init>" := (name_of_methodNamed B.named B.method).1
  have hix : ∀ f : List Value, (ws ++ [(q0, (.inr (0, f) : va_E))])[ws.length]? = some (q0, .inr (0, f)) := fun f => by simp
  have hst : ∀ f f' : List Value, (ws ++ [(q0, (.inr (0, f) : va_E))]).set ws.length (q0, .inr (0, f')) = ws ++ [(q0, .inr (0, f'))] := fun f f' => by simp
  refine lv_aload_n hx hb dX0_init_0 rfl (lv_at hl 0 rfl) ?_
  refine W.objInit hx hb hown (hts (.methodLink RX0 1 objectInit) (by decide +kernel)) (hts (.instanceMethod objectInit) (by decide +kernel)) (hts _ (List.mem_of_getElem? (l := wsX0_init) (i := 3) rfl)) rfl (by rw [hml]; exact hl.1) rfl dX0_init_1 (Nat.le_of_ble_eq_true rfl) (Nat.le_of_ble_eq_true rfl) ?_
  refine W.eq (g2 := F0 m 4 ls []) rfl ?_
  refine lv_aload_n hx hb dX0_init_4 rfl (lv_at hl 0 rfl) ?_
  refine lv_iload_n hx hb dX0_init_5 rfl (lv_at hl 1 rfl) ?_
  refine va_putF (D := D) (ci := 0) (v := .int (nI h)) (ty := .int) (C := RX0) (T := TX0) (N := 5) hx hb hts (by decide +kernel) tyX0 tyX0_ok nmX0 hown hG.1 hP hD hS ws.length (hix _) rfl 0 (by decide) (hts (.fieldLink RX0 7 "LopsidedRanks$Soldier" "height" "I") (by decide +kernel)) (fun _ h9 => h9) rfl hin rfl (by decide +kernel) rfl rfl (Nat.le_of_ble_eq_true rfl) dX0_init_6 (fun H locs hP hD hS => ?_)
  rw [hst] at hP hD
  have hP : va_P D vwCl (ws ++ [(q0, .inr (0, [.int (nI h), .null, .null, .null, .int 0]))]) H := hP
  have hD : va_D A (ws ++ [(q0, .inr (0, [.int (nI h), .null, .null, .null, .int 0]))]) := hD
  refine lv_aload_n hx hb dX0_init_9 rfl (lv_at hl 0 rfl) ?_
  refine lv_iconst (v := nI 1) hx hb dX0_init_10 (by decide) ?_
  refine va_put (D := D) (ci := 0) (v := .int (nI 1)) (ty := .int) (C := RX0) (T := TX0) (N := 5) hx hb hts (by decide +kernel) tyX0 tyX0_ok nmX0 hown hG.1 hP hD hS ws.length (hix _) rfl 4 (by decide) (hts (.fieldLink RX0 13 "LopsidedRanks$Soldier" "company" "I") (by decide +kernel)) (fun _ h9 => h9) rfl (by decide +kernel) rfl rfl (Nat.le_of_ble_eq_true rfl) dX0_init_11 (fun H locs hP hD hS => ?_)
  rw [hst] at hP hD
  have hP : va_P D vwCl (ws ++ [(q0, .inr (0, [.int (nI h), .null, .null, .null, .int (nI 1)]))]) H := hP
  have hD : va_D A (ws ++ [(q0, .inr (0, [.int (nI h), .null, .null, .null, .int (nI 1)]))]) := hD
  exact W.vret hx hb hr (fun t ht hW => ⟨⟨(), rfl, trivial, by rw [ht]; exact hP, hG.moved hW, hD⟩, hS.F ht⟩) hS.2.2 dX0_init_14

theorem li_up {xs ys : List Nat} {q : Nat} (hq : q < ys.length) : va_up (fun i => if i ≤ xs.length + (q + 1) then (xs ++ ys)[i]? else (xs ++ ys)[i - 1]?) (xs.length + (q + 1)) ((xs ++ ys)[xs.length + (q + 1) - 1]?) = (fun i => if i ≤ xs.length + q then (xs ++ ys)[i]? else (xs ++ ys)[i - 1]?) := by
  funext i
  by_cases e : i = xs.length + (q + 1)
  · subst e
    rw [va_up_self, if_neg (by omega)]
  · rw [va_up_ne _ _ e]
    by_cases e2 : i ≤ xs.length + q
    · rw [if_pos e2, if_pos (by omega)]
    · rw [if_neg e2, if_neg (by omega)]
theorem li_end {xs ys : List Nat} {h : Nat} : va_up (fun i => if i ≤ xs.length then (xs ++ ys)[i]? else (xs ++ ys)[i - 1]?) xs.length (some h) = (fun i => (xs ++ h :: ys)[i]?) := by
  funext i
  by_cases e : i = xs.length
  · subst e; rw [va_up_self]; simp
  · rw [va_up_ne _ _ e]
    by_cases e2 : i < xs.length
    · rw [if_pos (by omega), List.getElem?_append_left e2, List.getElem?_append_left e2]
    · rw [if_neg (by omega), List.getElem?_append_right (by omega), List.getElem?_append_right (by omega)]
      obtain ⟨j, rfl⟩ : ∃ j, i = xs.length + (j + 1) := ⟨i - xs.length - 1, by omega⟩
      rw [show xs.length + (j + 1) - 1 - xs.length = j by omega, show xs.length + (j + 1) - xs.length = j + 1 by omega, List.getElem?_cons_succ]
set_option maxHeartbeats 4000000 in
set_option maxRecDepth 100000 in
theorem L_X1_insertIntoLine {D : va_G} {cA cZ cI : ClassId} {x ln : Nat} {tp : Option Nat} {mo dr ds : Int32} {K : List Nat} {ad : Nat → Nat} {g : Nat → Nd} {p : Program} {l : Launch} {e : Env} {R : Room} {s : State} {m : MethodId} {args : Array Value} {below : List Frame} {meth : Method} {c : Code} {Q : State → Prop} {cells slots : Nat} {A : Nat → Prop} {H0 : Heap} (hx : p.tables.exec = Jvm.exec) (hb : c.code = cX1_insertIntoLine) (hml : c.maxLocals = 3) (hts : ∀ w ∈ wsX1_insertIntoLine, w.before args s = true) (hown : s.vm.findClass RX1 = some m.cls) (hG : GK D (tysA cA cZ cI) s) (hR : 1 ≤ R.frames ∧ 40 ≤ R.locals) (hC : cells ≤ R.cells ∧ slots ≤ R.slots) {xs ys : List Nat} {h : Nat} (hh : h ∈ K) (hhn : h < 1000) (hx1 : ∀ j ∈ xs, j < h) (hy1 : ∀ j ∈ ys, h < j) (hxK : ∀ j ∈ xs ++ ys, j ∈ K ∧ j < 1000) (hlen : xs.length + ys.length < 150) : ∀ {q : Nat} {H : Heap} {locs : List Loc}, q ≤ ys.length → va_P D vwCl (cw x ln cA (nI (xs.length + ys.length)) tp mo dr ds (fun i => if i ≤ xs.length + q then (xs ++ ys)[i]? else (xs ++ ys)[i - 1]?) K ad g) H → va_D A (cw x ln cA (nI (xs.length + ys.length)) tp mo dr ds (fun i => if i ≤ xs.length + q then (xs ++ ys)[i]? else (xs ++ ys)[i - 1]?) K ad g) → va_S A H0 H locs → (∀ H locs, va_P D vwCl (cw x ln cA (nI (xs.length + ys.length)) tp mo dr ds (fun i => if i ≤ xs.length then (xs ++ ys)[i]? else (xs ++ ys)[i - 1]?) K ad g) H → va_D A (cw x ln cA (nI (xs.length + ys.length)) tp mo dr ds (fun i => if i ≤ xs.length then (xs ++ ys)[i]? else (xs ++ ys)[i - 1]?) K ad g) → va_S A H0 H locs → ∀ ls, lv_has ls 3 [(2, .int (nI (xs.length))), (0, .ref x), (1, .ref (ad h))] → W p l e R s m args below meth c H locs cells slots Q (F0 m 61 ls [])) → ∀ ls, lv_has ls 3 [(2, .int (nI (xs.length + q))), (0, .ref x), (1, .ref (ad h))] → W p l e R s m args below meth c H locs cells slots Q (F0 m 19 ls []) := by
  intro q
  induction q with
  | zero =>
    intro H locs hq hP hD hS kk ls hl
    simp only [Nat.add_zero] at hP hD hl
    refine lv_iload_n hx hb dX1_insertIntoLine_19 rfl (lv_at hl 0 rfl) ?_
    refine lv_if_le (tgt := 61) hx hb dX1_insertIntoLine_20 (by decide) (fun c20 => ?_) (fun c20 => ?_)
    · replace c20 := (zr_le0 (by omega)).mp c20
      exact kk _ _ hP hD hS _ hl
    · replace c20 := (not_congr (zr_le0 (by omega))).mp c20
      obtain ⟨z, hz⟩ : ∃ z, (xs ++ ys)[xs.length - 1]? = some z := ⟨_, List.getElem?_eq_getElem (by simp; omega)⟩
      have hzx : z ∈ xs := by rw [List.getElem?_append_left (by omega)] at hz; exact List.mem_of_getElem? hz
      have hzl := hx1 z hzx
      refine lv_aload_n hx hb dX1_insertIntoLine_23 rfl (lv_at hl 1 rfl) ?_
      refine va_get (D := D) (ci := 1) (v := .ref ln) (C := RX1) (T := TX1) (N := 6) hx hb hts (by decide +kernel) hown hG.1 hP 0 cw_x rfl 0 (by decide) (hts (.fieldLink RX1 11 "LopsidedRanks" "line" "[LLopsidedRanks$Soldier;") (by decide +kernel)) (fun _ h9 => h9) rfl dX1_insertIntoLine_24 ?_
      refine lv_iload_n hx hb dX1_insertIntoLine_27 rfl (lv_at hl 0 rfl) ?_
      refine lv_iconst (v := nI 1) hx hb dX1_insertIntoLine_28 (by decide) ?_
      refine lv_isub hx hb dX1_insertIntoLine_29 ?_
      refine zr_eqi (pk_sub (a := xs.length) (b := 1) (by omega)) ?_
      refine zr_aldq hx hb hG.1 hP 1 0 cw_l rfl (k := xs.length - 1) (by omega) (Nat.le_of_ble_eq_true rfl) dX1_insertIntoLine_30 ?_
      rw [if_pos (show xs.length - 1 ≤ xs.length by omega), hz]
      refine vp_callSi (va_Run.run (va_runS (As := [.ref (ad z)]) (rest := []) ⟨hx, hb, hml, hown, hts⟩ (c_X1_heightOf l (o := some z) (fun k e => by cases e; exact (hxK z (List.mem_append_left _ hzx)).1)) (va_cwS 1 hts gX1_insertIntoLine_X1_heightOf rfl rfl rfl (by decide +kernel) ⟨Nat.le_trans (Nat.le_of_ble_eq_true rfl) hR.1, Nat.le_trans (Nat.le_of_ble_eq_true rfl) hR.2⟩) ⟨PcR.blind, PcR.at hP hG⟩ rfl rfl hl.1 rfl (lv_room (Nat.le_of_ble_eq_true rfl)) dX1_insertIntoLine_31 ⟨hC.1, hC.2⟩)) (fun r31 q31 => ?_)
      subst q31
      refine zr_eqi (show enc (some z) = nI z from rfl) ?_
      refine lv_aload_n hx hb dX1_insertIntoLine_34 rfl (lv_at hl 2 rfl) ?_
      obtain ⟨i0, hi0⟩ := cw_s (x := x) (ln := ln) (cA := cA) (n := nI (xs.length + ys.length)) (tp := tp) (mo := mo) (dr := dr) (ds := ds) (li := fun i => if i ≤ xs.length then (xs ++ ys)[i]? else (xs ++ ys)[i - 1]?) (ad := ad) (g := g) (hh : h ∈ K)
      refine va_get (D := D) (ci := 0) (v := .int (nI h)) (C := RX0) (T := TX0) (N := 5) hx hb hts (by decide +kernel) hown hG.1 hP i0 hi0 rfl 0 (by decide) (hts (.fieldLink RX1 100 "LopsidedRanks$Soldier" "height" "I") (by decide +kernel)) (fun _ h9 => h9) rfl dX1_insertIntoLine_35 ?_
      refine lv_icmp_le (tgt := 61) hx hb dX1_insertIntoLine_38 (by decide) (fun c38 => ?_) (fun c38 => ?_)
      · rw [nI_leI (by omega) (by omega)] at c38
        exact kk _ _ hP hD hS _ hl
      · rw [nI_leI (by omega) (by omega)] at c38
        exact absurd c38 (by omega)
  | succ q ih =>
    intro H locs hq hP hD hS kk ls hl
    obtain ⟨z, hz⟩ : ∃ z, (xs ++ ys)[xs.length + (q + 1) - 1]? = some z := ⟨_, List.getElem?_eq_getElem (by simp; omega)⟩
    have hzy : z ∈ ys := by
      rw [List.getElem?_append_right (by omega)] at hz
      exact List.mem_of_getElem? hz
    obtain ⟨hzK, hzn⟩ := hxK z (List.mem_append_right _ hzy)
    have hzh := hy1 z hzy
    refine lv_iload_n hx hb dX1_insertIntoLine_19 rfl (lv_at hl 0 rfl) ?_
    refine lv_if_le (tgt := 61) hx hb dX1_insertIntoLine_20 (by decide) (fun c20 => ?_) (fun c20 => ?_)
    · replace c20 := (zr_le0 (by omega)).mp c20
      exact absurd c20 (by omega)
    · replace c20 := (not_congr (zr_le0 (by omega))).mp c20
      refine lv_aload_n hx hb dX1_insertIntoLine_23 rfl (lv_at hl 1 rfl) ?_
      refine va_get (D := D) (ci := 1) (v := .ref ln) (C := RX1) (T := TX1) (N := 6) hx hb hts (by decide +kernel) hown hG.1 hP 0 cw_x rfl 0 (by decide) (hts (.fieldLink RX1 11 "LopsidedRanks" "line" "[LLopsidedRanks$Soldier;") (by decide +kernel)) (fun _ h9 => h9) rfl dX1_insertIntoLine_24 ?_
      refine lv_iload_n hx hb dX1_insertIntoLine_27 rfl (lv_at hl 0 rfl) ?_
      refine lv_iconst (v := nI 1) hx hb dX1_insertIntoLine_28 (by decide) ?_
      refine lv_isub hx hb dX1_insertIntoLine_29 ?_
      refine zr_eqi (pk_sub (a := xs.length + (q + 1)) (b := 1) (by omega)) ?_
      refine zr_aldq hx hb hG.1 hP 1 0 cw_l rfl (k := (xs.length + (q + 1)) - 1) (by omega) (Nat.le_of_ble_eq_true rfl) dX1_insertIntoLine_30 ?_
      rw [if_pos (show xs.length + (q + 1) - 1 ≤ xs.length + (q + 1) by omega), hz]
      refine vp_callSi (va_Run.run (va_runS (As := [.ref (ad z)]) (rest := []) ⟨hx, hb, hml, hown, hts⟩ (c_X1_heightOf l (o := some z) (fun k e => by cases e; exact hzK)) (va_cwS 1 hts gX1_insertIntoLine_X1_heightOf rfl rfl rfl (by decide +kernel) ⟨Nat.le_trans (Nat.le_of_ble_eq_true rfl) hR.1, Nat.le_trans (Nat.le_of_ble_eq_true rfl) hR.2⟩) ⟨PcR.blind, PcR.at hP hG⟩ rfl rfl hl.1 rfl (lv_room (Nat.le_of_ble_eq_true rfl)) dX1_insertIntoLine_31 ⟨hC.1, hC.2⟩)) (fun r31 q31 => ?_)
      subst q31
      refine zr_eqi (show enc (some z) = nI z from rfl) ?_
      refine lv_aload_n hx hb dX1_insertIntoLine_34 rfl (lv_at hl 2 rfl) ?_
      obtain ⟨i0, hi0⟩ := cw_s (x := x) (ln := ln) (cA := cA) (n := nI (xs.length + ys.length)) (tp := tp) (mo := mo) (dr := dr) (ds := ds) (li := fun i => if i ≤ xs.length + (q + 1) then (xs ++ ys)[i]? else (xs ++ ys)[i - 1]?) (ad := ad) (g := g) (hh : h ∈ K)
      refine va_get (D := D) (ci := 0) (v := .int (nI h)) (C := RX0) (T := TX0) (N := 5) hx hb hts (by decide +kernel) hown hG.1 hP i0 hi0 rfl 0 (by decide) (hts (.fieldLink RX1 100 "LopsidedRanks$Soldier" "height" "I") (by decide +kernel)) (fun _ h9 => h9) rfl dX1_insertIntoLine_35 ?_
      refine lv_icmp_le (tgt := 61) hx hb dX1_insertIntoLine_38 (by decide) (fun c38 => ?_) (fun c38 => ?_)
      · rw [nI_leI (by omega) (by omega)] at c38
        exact absurd c38 (by omega)
      · rw [nI_leI (by omega) (by omega)] at c38
        refine lv_aload_n hx hb dX1_insertIntoLine_41 rfl (lv_at hl 1 rfl) ?_
        refine va_get (D := D) (ci := 1) (v := .ref ln) (C := RX1) (T := TX1) (N := 6) hx hb hts (by decide +kernel) hown hG.1 hP 0 cw_x rfl 0 (by decide) (hts (.fieldLink RX1 11 "LopsidedRanks" "line" "[LLopsidedRanks$Soldier;") (by decide +kernel)) (fun _ h9 => h9) rfl dX1_insertIntoLine_42 ?_
        refine lv_iload_n hx hb dX1_insertIntoLine_45 rfl (lv_at hl 0 rfl) ?_
        refine lv_aload_n hx hb dX1_insertIntoLine_46 rfl (lv_at hl 1 rfl) ?_
        refine va_get (D := D) (ci := 1) (v := .ref ln) (C := RX1) (T := TX1) (N := 6) hx hb hts (by decide +kernel) hown hG.1 hP 0 cw_x rfl 0 (by decide) (hts (.fieldLink RX1 11 "LopsidedRanks" "line" "[LLopsidedRanks$Soldier;") (by decide +kernel)) (fun _ h9 => h9) rfl dX1_insertIntoLine_47 ?_
        refine lv_iload_n hx hb dX1_insertIntoLine_50 rfl (lv_at hl 0 rfl) ?_
        refine lv_iconst (v := nI 1) hx hb dX1_insertIntoLine_51 (by decide) ?_
        refine lv_isub hx hb dX1_insertIntoLine_52 ?_
        refine zr_eqi (pk_sub (a := xs.length + (q + 1)) (b := 1) (by omega)) ?_
        refine zr_aldq hx hb hG.1 hP 1 0 cw_l rfl (k := (xs.length + (q + 1)) - 1) (by omega) (Nat.le_of_ble_eq_true rfl) dX1_insertIntoLine_53 ?_
        rw [if_pos (show xs.length + (q + 1) - 1 ≤ xs.length + (q + 1) by omega), hz]
        obtain ⟨i1, hi1⟩ := cw_s (x := x) (ln := ln) (cA := cA) (n := nI (xs.length + ys.length)) (tp := tp) (mo := mo) (dr := dr) (ds := ds) (li := fun i => if i ≤ xs.length + (q + 1) then (xs ++ ys)[i]? else (xs ++ ys)[i - 1]?) (ad := ad) (g := g) (hzK : z ∈ K)
        refine va_astq (r := (RX0, TX0, 5)) hx hb hG.1 hP hD hS 1 0 i1 0 cw_l rfl hi1 rfl (nI_in (show xs.length + (q + 1) < 150 by omega) (Nat.le_of_ble_eq_true rfl)) dX1_insertIntoLine_54 (fun H locs hP hD hS => ?_)
        rw [nI_clamp (show xs.length + (q + 1) < 2 ^ 31 by omega)] at hP hD
        have hP : va_P D vwCl (cw x ln cA (nI (xs.length + ys.length)) tp mo dr ds (va_up (fun i => if i ≤ xs.length + (q + 1) then (xs ++ ys)[i]? else (xs ++ ys)[i - 1]?) (xs.length + (q + 1)) (some z)) K ad g) H := by rw [← cw_setl (v := some z) rfl]; exact hP
        have hD : va_D A (cw x ln cA (nI (xs.length + ys.length)) tp mo dr ds (va_up (fun i => if i ≤ xs.length + (q + 1) then (xs ++ ys)[i]? else (xs ++ ys)[i - 1]?) (xs.length + (q + 1)) (some z)) K ad g) := by rw [← cw_setl (v := some z) rfl]; exact hD
        rw [← hz, li_up (by omega)] at hP hD
        refine lv_iinc (v := nI ((xs.length + (q + 1)) - 1)) (lv' := [(2, .int (nI ((xs.length + (q + 1)) - 1))), (0, .ref x), (1, .ref (ad h))]) hx hb dX1_insertIntoLine_55 hl (k := 0) rfl (zr_dec (k := 1) (by omega)) (by decide) rfl (fun ls hl => ?_)
        refine lv_goto (tgt := 19) hx hb dX1_insertIntoLine_58 (by decide) ?_
        exact ih (by omega) hP hD hS kk _ (lv_sub (lv_re hl (by rw [show xs.length + (q + 1) - 1 = xs.length + q by omega])) [0, 1, 2] rfl)
set_option maxHeartbeats 4000000 in
set_option maxRecDepth 100000 in
/-- insertIntoLine(h) -/
theorem c_X1_insertIntoLine (l : Launch) {D : va_G} {cA cZ cI : ClassId} {x ln : Nat} {tp : Option Nat} {mo dr ds : Int32} {K : List Nat} {ad : Nat → Nat} {g : Nat → Nd} {A : Nat → Prop} {xs ys : List Nat} {h : Nat} (hh : h ∈ K) (hhn : h < 1000) (hx1 : ∀ j ∈ xs, j < h) (hy1 : ∀ j ∈ ys, h < j) (hxK : ∀ j ∈ xs ++ ys, j ∈ K ∧ j < 1000) (hlen : xs.length + ys.length < 150) : Met l yX1_insertIntoLine wsX1_insertIntoLine ({ frames := 1, cells := 0, slots := 0, locals := 40 } : Room) (PcM D (tysA cA cZ cI) A (cw x ln cA (nI (xs.length + ys.length)) tp mo dr ds (fun i => (xs ++ ys)[i]?) K ad g) [.ref x, .ref (ad h)]) (va_Qv (S := Unit) (fun _ => True) (fun _ => BM D (tysA cA cZ cI) A (cw x ln cA (nI (xs.length + ys.length + 1)) tp mo dr ds (fun i => (xs ++ h :: ys)[i]?) K ad g)) A) 0 0 A := by
  refine Met.ofW (cc := cX1_insertIntoLine) (maxL := 3) (ret := none) (by decide) rfl ?_
  intro p e s m args below meth c s₁ B hml hv
  obtain ⟨rfl, hA, hP, hG, hD⟩ := hv
  have hx := B.exec
  have hb := B.bytes
  have hr := B.returns
  have hts := atoms_spec (ws := wsX1_insertIntoLine) B.pre
  have hown : s.vm.findClass RX1 = some m.cls := findClass_of_methodNamed B.named
  have hlocks := B.notSynchronized
  have hl := lv_entry ([.ref x, .ref (ad h)]) (n := 3) (Nat.le_of_ble_eq_true rfl)
  rw [lg_entry_eq]
  generalize (lg_sl ([.ref x, .ref (ad h)]) ++ List.replicate (3 - (lg_sl ([.ref x, .ref (ad h)])).length) Slot.unset).toArray = ls at hl ⊢
  have hl : lv_has ls 3 [(0, .ref x), (1, .ref (ad h))] := hl
  have hS : va_S A s.heap s.heap [] := va_S.rf
  refine lv_aload_n hx hb dX1_insertIntoLine_0 rfl (lv_at hl 0 rfl) ?_
  refine va_get (D := D) (ci := 1) (v := .int (nI (xs.length + ys.length))) (C := RX1) (T := TX1) (N := 6) hx hb hts (by decide +kernel) hown hG.1 hP 0 cw_x rfl 1 (by decide) (hts (.fieldLink RX1 19 "LopsidedRanks" "soldiers" "I") (by decide +kernel)) (fun _ h9 => h9) rfl dX1_insertIntoLine_1 ?_
  refine lv_istore_n (lv' := [(2, .int (nI (xs.length + ys.length))), (0, .ref x), (1, .ref (ad h))]) hx hb dX1_insertIntoLine_4 rfl hl (by decide) rfl (fun ls hl => ?_)
  refine lv_iload_n hx hb dX1_insertIntoLine_5 rfl (lv_at hl 0 rfl) ?_
  refine lv_if_lt (tgt := 18) hx hb dX1_insertIntoLine_6 (by decide) (fun c6 => ?_) (fun c6 => ?_)
  · replace c6 := (zr_lt0 (by omega)).mp c6
    exact absurd c6 id
  · replace c6 := (not_congr (zr_lt0 (by omega))).mp c6
    refine lv_iload_n hx hb dX1_insertIntoLine_9 rfl (lv_at hl 0 rfl) ?_
    refine lv_aload_n hx hb dX1_insertIntoLine_10 rfl (lv_at hl 1 rfl) ?_
    refine va_get (D := D) (ci := 1) (v := .ref ln) (C := RX1) (T := TX1) (N := 6) hx hb hts (by decide +kernel) hown hG.1 hP 0 cw_x rfl 0 (by decide) (hts (.fieldLink RX1 11 "LopsidedRanks" "line" "[LLopsidedRanks$Soldier;") (by decide +kernel)) (fun _ h9 => h9) rfl dX1_insertIntoLine_11 ?_
    refine va_alen hx hb hG.1 hP 1 0 cw_l (ty := .object RX0) rfl (v := nI 150) rfl dX1_insertIntoLine_14 ?_
    refine lv_icmp_lt (tgt := 19) hx hb dX1_insertIntoLine_15 (by decide) (fun c15 => ?_) (fun c15 => ?_)
    · rw [nI_ltI (by omega) (by omega)] at c15
      have e9 : (fun i => (xs ++ ys)[i]?) = (fun i => if i ≤ xs.length + ys.length then (xs ++ ys)[i]? else (xs ++ ys)[i - 1]?) := by
        funext i
        by_cases e : i ≤ xs.length + ys.length
        · rw [if_pos e]
        · rw [if_neg e, List.getElem?_eq_none (by simp; omega), List.getElem?_eq_none (by simp; omega)]
      rw [e9] at hP hD
      refine L_X1_insertIntoLine (q := ys.length) hx hb hml hts hown hG ⟨Nat.le_of_ble_eq_true rfl, Nat.le_of_ble_eq_true rfl⟩ ⟨Nat.zero_le _, Nat.zero_le _⟩ hh hhn hx1 hy1 hxK hlen (Nat.le_refl _) hP hD hS (fun H locs hP hD hS ls hl => ?_) _ hl
      refine lv_aload_n hx hb dX1_insertIntoLine_61 rfl (lv_at hl 1 rfl) ?_
      refine va_get (D := D) (ci := 1) (v := .ref ln) (C := RX1) (T := TX1) (N := 6) hx hb hts (by decide +kernel) hown hG.1 hP 0 cw_x rfl 0 (by decide) (hts (.fieldLink RX1 11 "LopsidedRanks" "line" "[LLopsidedRanks$Soldier;") (by decide +kernel)) (fun _ h9 => h9) rfl dX1_insertIntoLine_62 ?_
      refine lv_iload_n hx hb dX1_insertIntoLine_65 rfl (lv_at hl 0 rfl) ?_
      refine lv_aload_n hx hb dX1_insertIntoLine_66 rfl (lv_at hl 2 rfl) ?_
      obtain ⟨i0, hi0⟩ := cw_s (x := x) (ln := ln) (cA := cA) (n := nI (xs.length + ys.length)) (tp := tp) (mo := mo) (dr := dr) (ds := ds) (li := fun i => if i ≤ xs.length then (xs ++ ys)[i]? else (xs ++ ys)[i - 1]?) (ad := ad) (g := g) (hh : h ∈ K)
      refine va_astq (r := (RX0, TX0, 5)) hx hb hG.1 hP hD hS 1 0 i0 0 cw_l rfl hi0 rfl (nI_in (show xs.length < 150 by omega) (Nat.le_of_ble_eq_true rfl)) dX1_insertIntoLine_67 (fun H locs hP hD hS => ?_)
      rw [nI_clamp (show xs.length < 2 ^ 31 by omega)] at hP hD
      have hP : va_P D vwCl (cw x ln cA (nI (xs.length + ys.length)) tp mo dr ds (va_up (fun i => if i ≤ xs.length then (xs ++ ys)[i]? else (xs ++ ys)[i - 1]?) xs.length (some h)) K ad g) H := by rw [← cw_setl (v := some h) rfl]; exact hP
      have hD : va_D A (cw x ln cA (nI (xs.length + ys.length)) tp mo dr ds (va_up (fun i => if i ≤ xs.length then (xs ++ ys)[i]? else (xs ++ ys)[i - 1]?) xs.length (some h)) K ad g) := by rw [← cw_setl (v := some h) rfl]; exact hD
      rw [li_end] at hP hD
      refine lv_aload_n hx hb dX1_insertIntoLine_68 rfl (lv_at hl 1 rfl) ?_
      refine lv_dup hx hb dX1_insertIntoLine_69 rfl ?_
      refine va_get (D := D) (ci := 1) (v := .int (nI (xs.length + ys.length))) (C := RX1) (T := TX1) (N := 6) hx hb hts (by decide +kernel) hown hG.1 hP 0 cw_x rfl 1 (by decide) (hts (.fieldLink RX1 19 "LopsidedRanks" "soldiers" "I") (by decide +kernel)) (fun _ h9 => h9) rfl dX1_insertIntoLine_70 ?_
      refine lv_iconst (v := nI 1) hx hb dX1_insertIntoLine_73 (by decide) ?_
      refine lv_iadd hx hb dX1_insertIntoLine_74 ?_
      refine zr_eqi (nI_add (xs.length + ys.length) 1) ?_
      refine va_put (D := D) (ci := 1) (v := .int (nI ((xs.length + ys.length) + 1))) (ty := .int) (C := RX1) (T := TX1) (N := 6) hx hb hts (by decide +kernel) tyX1 tyX1_ok nmX1 hown hG.1 hP hD hS 0 cw_x rfl 1 (by decide) (hts (.fieldLink RX1 19 "LopsidedRanks" "soldiers" "I") (by decide +kernel)) (fun _ h9 => h9) rfl (by decide +kernel) rfl rfl (Nat.le_of_ble_eq_true rfl) dX1_insertIntoLine_75 (fun H locs hP hD hS => ?_)
      have hP : va_P D vwCl (cw x ln cA ((nI ((xs.length + ys.length) + 1))) tp mo dr ds (fun i => (xs ++ h :: ys)[i]?) K ad g) H := hP
      have hD : va_D A (cw x ln cA ((nI ((xs.length + ys.length) + 1))) tp mo dr ds (fun i => (xs ++ h :: ys)[i]?) K ad g) := hD
      exact W.vret hx hb hr (fun t ht hW => ⟨⟨(), rfl, trivial, by rw [ht]; exact hP, hG.moved hW, hD⟩, hS.F ht⟩) hS.2.2 dX1_insertIntoLine_78
    · rw [nI_ltI (by omega) (by omega)] at c15
      exact absurd c15 (by omega)

theorem li_dn {xs ys : List Nat} {h q : Nat} (hq : q < ys.length) : va_up (fun i => if i < xs.length + q then (xs ++ ys)[i]? else (xs ++ h :: ys)[i]?) (xs.length + q) ((xs ++ ys)[xs.length + q]?) = (fun i => if i < xs.length + (q + 1) then (xs ++ ys)[i]? else (xs ++ h :: ys)[i]?) := by
  funext i
  by_cases e : i = xs.length + q
  · subst e
    rw [va_up_self, if_pos (by omega)]
  · rw [va_up_ne _ _ e]
    by_cases e2 : i < xs.length + q
    · rw [if_pos e2, if_pos (by omega)]
    · rw [if_neg e2, if_neg (by omega)]
theorem li_nx {xs ys : List Nat} {h q : Nat} : (xs ++ h :: ys)[xs.length + q + 1]? = (xs ++ ys)[xs.length + q]? := by
  rw [List.getElem?_append_right (by omega), List.getElem?_append_right (by omega), show xs.length + q + 1 - xs.length = q + 1 by omega, show xs.length + q - xs.length = q by omega, List.getElem?_cons_succ]
theorem li_fin {xs ys : List Nat} {h : Nat} : va_up (fun i => if i < xs.length + ys.length then (xs ++ ys)[i]? else (xs ++ h :: ys)[i]?) (xs.length + ys.length) none = (fun i => (xs ++ ys)[i]?) := by
  funext i
  by_cases e : i = xs.length + ys.length
  · subst e; rw [va_up_self, List.getElem?_eq_none (by simp)]
  · rw [va_up_ne _ _ e]
    by_cases e2 : i < xs.length + ys.length
    · rw [if_pos e2]
    · rw [if_neg e2, List.getElem?_eq_none (by simp; omega), List.getElem?_eq_none (by simp; omega)]
set_option maxHeartbeats 4000000 in
set_option maxRecDepth 100000 in
theorem L_X1_removeFromLine {D : va_G} {cA cZ cI : ClassId} {x ln : Nat} {tp : Option Nat} {mo dr ds : Int32} {K : List Nat} {ad : Nat → Nat} {g : Nat → Nd} {p : Program} {l : Launch} {e : Env} {R : Room} {s : State} {m : MethodId} {args : Array Value} {below : List Frame} {meth : Method} {c : Code} {Q : State → Prop} {cells slots : Nat} {A : Nat → Prop} {H0 : Heap} (hx : p.tables.exec = Jvm.exec) (hb : c.code = cX1_removeFromLine) (hml : c.maxLocals = 3) (hts : ∀ w ∈ wsX1_removeFromLine, w.before args s = true) (hown : s.vm.findClass RX1 = some m.cls) (hG : GK D (tysA cA cZ cI) s) {xs ys : List Nat} {h : Nat} (hxK : ∀ j ∈ xs ++ ys, j ∈ K ∧ j < 1000) (hlen : xs.length + ys.length < 150) : ∀ (f q : Nat) {H : Heap} {locs : List Loc}, q + f = ys.length → va_P D vwCl (cw x ln cA (nI (xs.length + ys.length)) tp mo dr ds (fun i => if i < xs.length + q then (xs ++ ys)[i]? else (xs ++ h :: ys)[i]?) K ad g) H → va_D A (cw x ln cA (nI (xs.length + ys.length)) tp mo dr ds (fun i => if i < xs.length + q then (xs ++ ys)[i]? else (xs ++ h :: ys)[i]?) K ad g) → va_S A H0 H locs → (∀ H locs, va_P D vwCl (cw x ln cA (nI (xs.length + ys.length)) tp mo dr ds (fun i => if i < xs.length + ys.length then (xs ++ ys)[i]? else (xs ++ h :: ys)[i]?) K ad g) H → va_D A (cw x ln cA (nI (xs.length + ys.length)) tp mo dr ds (fun i => if i < xs.length + ys.length then (xs ++ ys)[i]? else (xs ++ h :: ys)[i]?) K ad g) → va_S A H0 H locs → ∀ ls, lv_has ls 3 [(2, .int (nI (xs.length + ys.length))), (0, .ref x)] → W p l e R s m args below meth c H locs cells slots Q (F0 m 72 ls [])) → ∀ ls, lv_has ls 3 [(2, .int (nI (xs.length + q))), (0, .ref x)] → W p l e R s m args below meth c H locs cells slots Q (F0 m 44 ls []) := by
  intro f
  induction f with
  | zero =>
    intro q H locs hq hP hD hS kk ls hl
    have hq0 : q = ys.length := by omega
    subst hq0
    refine lv_iload_n hx hb dX1_removeFromLine_44 rfl (lv_at hl 0 rfl) ?_
    refine lv_aload_n hx hb dX1_removeFromLine_45 rfl (lv_at hl 1 rfl) ?_
    refine va_get (D := D) (ci := 1) (v := .int (nI (xs.length + ys.length))) (C := RX1) (T := TX1) (N := 6) hx hb hts (by decide +kernel) hown hG.1 hP 0 cw_x rfl 1 (by decide) (hts (.fieldLink RX1 19 "LopsidedRanks" "soldiers" "I") (by decide +kernel)) (fun _ h9 => h9) rfl dX1_removeFromLine_46 ?_
    refine lv_icmp_ge (tgt := 72) hx hb dX1_removeFromLine_49 (by decide) (fun c49 => ?_) (fun c49 => ?_)
    · rw [nI_leI (by omega) (by omega)] at c49
      exact kk _ _ hP hD hS _ hl
    · rw [nI_leI (by omega) (by omega)] at c49
      exact absurd c49 (by omega)
  | succ f ih =>
    intro q H locs hq hP hD hS kk ls hl
    obtain ⟨z, hz⟩ : ∃ z, (xs ++ ys)[xs.length + q]? = some z := ⟨_, List.getElem?_eq_getElem (by simp; omega)⟩
    obtain ⟨hzK, hzn⟩ := hxK z (List.mem_of_getElem? hz)
    refine lv_iload_n hx hb dX1_removeFromLine_44 rfl (lv_at hl 0 rfl) ?_
    refine lv_aload_n hx hb dX1_removeFromLine_45 rfl (lv_at hl 1 rfl) ?_
    refine va_get (D := D) (ci := 1) (v := .int (nI (xs.length + ys.length))) (C := RX1) (T := TX1) (N := 6) hx hb hts (by decide +kernel) hown hG.1 hP 0 cw_x rfl 1 (by decide) (hts (.fieldLink RX1 19 "LopsidedRanks" "soldiers" "I") (by decide +kernel)) (fun _ h9 => h9) rfl dX1_removeFromLine_46 ?_
    refine lv_icmp_ge (tgt := 72) hx hb dX1_removeFromLine_49 (by decide) (fun c49 => ?_) (fun c49 => ?_)
    · rw [nI_leI (by omega) (by omega)] at c49
      exact absurd c49 (by omega)
    · rw [nI_leI (by omega) (by omega)] at c49
      refine lv_aload_n hx hb dX1_removeFromLine_52 rfl (lv_at hl 1 rfl) ?_
      refine va_get (D := D) (ci := 1) (v := .ref ln) (C := RX1) (T := TX1) (N := 6) hx hb hts (by decide +kernel) hown hG.1 hP 0 cw_x rfl 0 (by decide) (hts (.fieldLink RX1 11 "LopsidedRanks" "line" "[LLopsidedRanks$Soldier;") (by decide +kernel)) (fun _ h9 => h9) rfl dX1_removeFromLine_53 ?_
      refine lv_iload_n hx hb dX1_removeFromLine_56 rfl (lv_at hl 0 rfl) ?_
      refine lv_aload_n hx hb dX1_removeFromLine_57 rfl (lv_at hl 1 rfl) ?_
      refine va_get (D := D) (ci := 1) (v := .ref ln) (C := RX1) (T := TX1) (N := 6) hx hb hts (by decide +kernel) hown hG.1 hP 0 cw_x rfl 0 (by decide) (hts (.fieldLink RX1 11 "LopsidedRanks" "line" "[LLopsidedRanks$Soldier;") (by decide +kernel)) (fun _ h9 => h9) rfl dX1_removeFromLine_58 ?_
      refine lv_iload_n hx hb dX1_removeFromLine_61 rfl (lv_at hl 0 rfl) ?_
      refine lv_iconst (v := nI 1) hx hb dX1_removeFromLine_62 (by decide) ?_
      refine lv_iadd hx hb dX1_removeFromLine_63 ?_
      refine zr_eqi (nI_add (xs.length + q) 1) ?_
      refine zr_aldq hx hb hG.1 hP 1 0 cw_l rfl (k := (xs.length + q) + 1) (by omega) (Nat.le_of_ble_eq_true rfl) dX1_removeFromLine_64 ?_
      rw [if_neg (show ¬ xs.length + q + 1 < xs.length + q by omega), li_nx, hz]
      obtain ⟨i0, hi0⟩ := cw_s (x := x) (ln := ln) (cA := cA) (n := nI (xs.length + ys.length)) (tp := tp) (mo := mo) (dr := dr) (ds := ds) (li := fun i => if i < xs.length + q then (xs ++ ys)[i]? else (xs ++ h :: ys)[i]?) (ad := ad) (g := g) (hzK : z ∈ K)
      refine va_astq (r := (RX0, TX0, 5)) hx hb hG.1 hP hD hS 1 0 i0 0 cw_l rfl hi0 rfl (nI_in (show xs.length + q < 150 by omega) (Nat.le_of_ble_eq_true rfl)) dX1_removeFromLine_65 (fun H locs hP hD hS => ?_)
      rw [nI_clamp (show xs.length + q < 2 ^ 31 by omega)] at hP hD
      have hP : va_P D vwCl (cw x ln cA (nI (xs.length + ys.length)) tp mo dr ds (va_up (fun i => if i < xs.length + q then (xs ++ ys)[i]? else (xs ++ h :: ys)[i]?) (xs.length + q) (some z)) K ad g) H := by rw [← cw_setl (v := some z) rfl]; exact hP
      have hD : va_D A (cw x ln cA (nI (xs.length + ys.length)) tp mo dr ds (va_up (fun i => if i < xs.length + q then (xs ++ ys)[i]? else (xs ++ h :: ys)[i]?) (xs.length + q) (some z)) K ad g) := by rw [← cw_setl (v := some z) rfl]; exact hD
      rw [← hz, li_dn (by omega)] at hP hD
      refine lv_iinc (v := nI ((xs.length + q) + 1)) (lv' := [(2, .int (nI ((xs.length + q) + 1))), (0, .ref x)]) hx hb dX1_removeFromLine_66 hl (k := 0) rfl (nI_add (xs.length + q) 1) (by decide) rfl (fun ls hl => ?_)
      refine lv_goto (tgt := 44) hx hb dX1_removeFromLine_69 (by decide) ?_
      exact ih (q + 1) (by omega) hP hD hS kk _ (lv_re hl (by rw [show xs.length + q + 1 = xs.length + (q + 1) by omega]))
set_option maxHeartbeats 4000000 in
set_option maxRecDepth 100000 in
/-- removeFromLine(h) -/
theorem c_X1_removeFromLine (l : Launch) {D : va_G} {cA cZ cI : ClassId} {x ln : Nat} {mo dr ds : Int32} {K : List Nat} {ad : Nat → Nat} {g : Nat → Nd} {A : Nat → Prop} {T : Tr} {xs ys : List Nat} {h : Nat} (hcl : Cl K g) (hs : ShP g none T) (hc : ShC g T) (hin : ∀ j ∈ keysT T, j ∈ K ∧ j < 1000) (hhT : h ∈ keysT T) (hcnt : cntLt h T = xs.length) (hxK : ∀ j ∈ xs ++ ys, j ∈ K ∧ j < 1000) (hlen : xs.length + ys.length < 150) : Met l yX1_removeFromLine wsX1_removeFromLine ({ frames := 2, cells := 0, slots := 0, locals := 80 } : Room) (PcM D (tysA cA cZ cI) A (cw x ln cA (nI (xs.length + ys.length + 1)) (root T) mo dr ds (fun i => (xs ++ h :: ys)[i]?) K ad g) [.ref x, .ref (ad h)]) (va_Qv (S := Unit) (fun _ => True) (fun _ => BM D (tysA cA cZ cI) A (cw x ln cA (nI (xs.length + ys.length)) (root T) mo dr ds (fun i => (xs ++ ys)[i]?) K ad g)) A) 0 0 A := by
  refine Met.ofW (cc := cX1_removeFromLine) (maxL := 3) (ret := none) (by decide) rfl ?_
  intro p e s m args below meth c s₁ B hml hv
  obtain ⟨rfl, hA, hP, hG, hD⟩ := hv
  have hx := B.exec
  have hb := B.bytes
  have hr := B.returns
  have hts := atoms_spec (ws := wsX1_removeFromLine) B.pre
  have hown : s.vm.findClass RX1 = some m.cls := findClass_of_methodNamed B.named
  have hlocks := B.notSynchronized
  have hl := lv_entry ([.ref x, .ref (ad h)]) (n := 3) (Nat.le_of_ble_eq_true rfl)
  rw [lg_entry_eq]
  generalize (lg_sl ([.ref x, .ref (ad h)]) ++ List.replicate (3 - (lg_sl ([.ref x, .ref (ad h)])).length) Slot.unset).toArray = ls at hl ⊢
  have hl : lv_has ls 3 [(0, .ref x), (1, .ref (ad h))] := hl
  have hS : va_S A s.heap s.heap [] := va_S.rf
  have hhn := (hin h hhT).2
  refine lv_aload_n hx hb dX1_removeFromLine_0 rfl (lv_at hl 0 rfl) ?_
  refine lv_aload_n hx hb dX1_removeFromLine_1 rfl (lv_at hl 1 rfl) ?_
  obtain ⟨i0, hi0⟩ := cw_s (x := x) (ln := ln) (cA := cA) (n := nI (xs.length + ys.length + 1)) (tp := root T) (mo := mo) (dr := dr) (ds := ds) (li := fun i => (xs ++ h :: ys)[i]?) (ad := ad) (g := g) ((hin h hhT).1 : h ∈ K)
  refine va_get (D := D) (ci := 0) (v := .int (nI h)) (C := RX0) (T := TX0) (N := 5) hx hb hts (by decide +kernel) hown hG.1 hP i0 hi0 rfl 0 (by decide) (hts (.fieldLink RX1 100 "LopsidedRanks$Soldier" "height" "I") (by decide +kernel)) (fun _ h9 => h9) rfl dX1_removeFromLine_2 ?_
  refine vp_callSi (va_Run.run (va_runV (As := [.int (nI h)]) (rest := []) ⟨hx, hb, hml, hown, hts⟩ (c_X1_smallerThan l hcl (by omega) hs hc hin) (cwV 1 hts gX1_removeFromLine_X1_smallerThan rfl rfl rfl (by decide +kernel) ⟨Nat.le_of_ble_eq_true rfl, Nat.le_of_ble_eq_true rfl⟩) ⟨PcR.blind, va_recv hG.1 hP (ci := 1) (q0 := 0) rfl cw_x, PcR.at hP hG⟩ rfl rfl hl.1 rfl (lv_room (Nat.le_of_ble_eq_true rfl)) dX1_removeFromLine_5 ⟨Nat.zero_le _, Nat.zero_le _⟩)) (fun r5 q5 => ?_)
  subst q5
  refine zr_eqi (congrArg nI hcnt) ?_
  refine lv_istore_n (lv' := [(2, .int (nI xs.length)), (0, .ref x), (1, .ref (ad h))]) hx hb dX1_removeFromLine_8 rfl hl (by decide) rfl (fun ls hl => ?_)
  refine lv_iload_n hx hb dX1_removeFromLine_9 rfl (lv_at hl 0 rfl) ?_
  refine lv_if_lt (tgt := 33) hx hb dX1_removeFromLine_10 (by decide) (fun c10 => ?_) (fun c10 => ?_)
  · replace c10 := (zr_lt0 (by omega)).mp c10
    exact absurd c10 id
  · replace c10 := (not_congr (zr_lt0 (by omega))).mp c10
    refine lv_iload_n hx hb dX1_removeFromLine_13 rfl (lv_at hl 0 rfl) ?_
    refine lv_aload_n hx hb dX1_removeFromLine_14 rfl (lv_at hl 1 rfl) ?_
    refine va_get (D := D) (ci := 1) (v := .int (nI (xs.length + ys.length + 1))) (C := RX1) (T := TX1) (N := 6) hx hb hts (by decide +kernel) hown hG.1 hP 0 cw_x rfl 1 (by decide) (hts (.fieldLink RX1 19 "LopsidedRanks" "soldiers" "I") (by decide +kernel)) (fun _ h9 => h9) rfl dX1_removeFromLine_15 ?_
    refine lv_icmp_ge (tgt := 33) hx hb dX1_removeFromLine_18 (by decide) (fun c18 => ?_) (fun c18 => ?_)
    · rw [nI_leI (by omega) (by omega)] at c18
      exact absurd c18 (by omega)
    · rw [nI_leI (by omega) (by omega)] at c18
      refine lv_aload_n hx hb dX1_removeFromLine_21 rfl (lv_at hl 1 rfl) ?_
      refine va_get (D := D) (ci := 1) (v := .int (nI (xs.length + ys.length + 1))) (C := RX1) (T := TX1) (N := 6) hx hb hts (by decide +kernel) hown hG.1 hP 0 cw_x rfl 1 (by decide) (hts (.fieldLink RX1 19 "LopsidedRanks" "soldiers" "I") (by decide +kernel)) (fun _ h9 => h9) rfl dX1_removeFromLine_22 ?_
      refine lv_aload_n hx hb dX1_removeFromLine_25 rfl (lv_at hl 1 rfl) ?_
      refine va_get (D := D) (ci := 1) (v := .ref ln) (C := RX1) (T := TX1) (N := 6) hx hb hts (by decide +kernel) hown hG.1 hP 0 cw_x rfl 0 (by decide) (hts (.fieldLink RX1 11 "LopsidedRanks" "line" "[LLopsidedRanks$Soldier;") (by decide +kernel)) (fun _ h9 => h9) rfl dX1_removeFromLine_26 ?_
      refine va_alen hx hb hG.1 hP 1 0 cw_l (ty := .object RX0) rfl (v := nI 150) rfl dX1_removeFromLine_29 ?_
      refine lv_icmp_le (tgt := 34) hx hb dX1_removeFromLine_30 (by decide) (fun c30 => ?_) (fun c30 => ?_)
      · rw [nI_leI (by omega) (by omega)] at c30
        refine lv_aload_n hx hb dX1_removeFromLine_34 rfl (lv_at hl 1 rfl) ?_
        refine lv_dup hx hb dX1_removeFromLine_35 rfl ?_
        refine va_get (D := D) (ci := 1) (v := .int (nI (xs.length + ys.length + 1))) (C := RX1) (T := TX1) (N := 6) hx hb hts (by decide +kernel) hown hG.1 hP 0 cw_x rfl 1 (by decide) (hts (.fieldLink RX1 19 "LopsidedRanks" "soldiers" "I") (by decide +kernel)) (fun _ h9 => h9) rfl dX1_removeFromLine_36 ?_
        refine lv_iconst (v := nI 1) hx hb dX1_removeFromLine_39 (by decide) ?_
        refine lv_isub hx hb dX1_removeFromLine_40 ?_
        refine zr_eqi (pk_sub (a := xs.length + ys.length + 1) (b := 1) (by omega)) ?_
        refine zr_eqi (show nI (xs.length + ys.length + 1 - 1) = nI (xs.length + ys.length) from rfl) ?_
        refine va_put (D := D) (ci := 1) (v := .int (nI (xs.length + ys.length))) (ty := .int) (C := RX1) (T := TX1) (N := 6) hx hb hts (by decide +kernel) tyX1 tyX1_ok nmX1 hown hG.1 hP hD hS 0 cw_x rfl 1 (by decide) (hts (.fieldLink RX1 19 "LopsidedRanks" "soldiers" "I") (by decide +kernel)) (fun _ h9 => h9) rfl (by decide +kernel) rfl rfl (Nat.le_of_ble_eq_true rfl) dX1_removeFromLine_41 (fun H locs hP hD hS => ?_)
        have hP : va_P D vwCl (cw x ln cA ((nI (xs.length + ys.length))) (root T) mo dr ds (fun i => (xs ++ h :: ys)[i]?) K ad g) H := hP
        have hD : va_D A (cw x ln cA ((nI (xs.length + ys.length))) (root T) mo dr ds (fun i => (xs ++ h :: ys)[i]?) K ad g) := hD
        have e9 : (fun i => (xs ++ h :: ys)[i]?) = (fun i => if i < xs.length + 0 then (xs ++ ys)[i]? else (xs ++ h :: ys)[i]?) := by
          funext i
          by_cases e : i < xs.length + 0
          · rw [if_pos e, List.getElem?_append_left (by omega), List.getElem?_append_left (by omega)]
          · rw [if_neg e]
        rw [e9] at hP hD
        refine L_X1_removeFromLine hx hb hml hts hown hG hxK hlen ys.length 0 (Nat.zero_add _) hP hD hS (fun H locs hP hD hS ls hl => ?_) _ (lv_sub hl [0, 1] rfl)
        refine lv_aload_n hx hb dX1_removeFromLine_72 rfl (lv_at hl 1 rfl) ?_
        refine va_get (D := D) (ci := 1) (v := .ref ln) (C := RX1) (T := TX1) (N := 6) hx hb hts (by decide +kernel) hown hG.1 hP 0 cw_x rfl 0 (by decide) (hts (.fieldLink RX1 11 "LopsidedRanks" "line" "[LLopsidedRanks$Soldier;") (by decide +kernel)) (fun _ h9 => h9) rfl dX1_removeFromLine_73 ?_
        refine lv_aload_n hx hb dX1_removeFromLine_76 rfl (lv_at hl 1 rfl) ?_
        refine va_get (D := D) (ci := 1) (v := .int ((nI (xs.length + ys.length)))) (C := RX1) (T := TX1) (N := 6) hx hb hts (by decide +kernel) hown hG.1 hP 0 cw_x rfl 1 (by decide) (hts (.fieldLink RX1 19 "LopsidedRanks" "soldiers" "I") (by decide +kernel)) (fun _ h9 => h9) rfl dX1_removeFromLine_77 ?_
        refine lv_null hx hb dX1_removeFromLine_80 ?_
        refine va_astqN hx hb hG.1 hP hD hS 1 0 cw_l rfl (nI_in (show xs.length + ys.length < 150 by omega) (Nat.le_of_ble_eq_true rfl)) dX1_removeFromLine_81 (fun H locs hP hD hS => ?_)
        rw [nI_clamp (show xs.length + ys.length < 2 ^ 31 by omega)] at hP hD
        have hP : va_P D vwCl (cw x ln cA ((nI (xs.length + ys.length))) (root T) mo dr ds (va_up (fun i => if i < xs.length + ys.length then (xs ++ ys)[i]? else (xs ++ h :: ys)[i]?) (xs.length + ys.length) (none)) K ad g) H := by rw [← cw_setl (v := none) rfl]; exact hP
        have hD : va_D A (cw x ln cA ((nI (xs.length + ys.length))) (root T) mo dr ds (va_up (fun i => if i < xs.length + ys.length then (xs ++ ys)[i]? else (xs ++ h :: ys)[i]?) (xs.length + ys.length) (none)) K ad g) := by rw [← cw_setl (v := none) rfl]; exact hD
        rw [li_fin] at hP hD
        exact W.vret hx hb hr (fun t ht hW => ⟨⟨(), rfl, trivial, by rw [ht]; exact hP, hG.moved hW, hD⟩, hS.F ht⟩) hS.2.2 dX1_removeFromLine_82
      · rw [nI_leI (by omega) (by omega)] at c30
        exact absurd c30 (by omega)

