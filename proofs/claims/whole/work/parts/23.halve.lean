/-! halve and drawUp of the class -/
set_option maxHeartbeats 4000000 in
set_option maxRecDepth 100000 in
/-- halve of nobody -/
theorem c_X1_halve0 (l : Launch) {D : va_G} {cA cZ cI : ClassId} {x ln : Nat} {n : Int32} {tp : Option Nat} {mo dr ds : Int32} {li : Nat → Option Nat} {K : List Nat} {ad : Nat → Nat} {g : Nat → Nd} {A : Nat → Prop} {d : Nat} {xs : List Nat} {first level : Nat} (rm : Room) (hrm : rm.cells = 0 ∧ rm.slots = 0) (hxs : xs = []) : Met l yX1_halve wsX1_halve rm (PcM D (tysA cA cZ cI) A (cw x ln cA n tp mo dr ds li K ad g) [.ref ln, .int (nI first), .int (nI 0), .int (nI level)]) (va_Qq (S := Nat → Nd) (fun r u => r = (root (balF d xs)).map ad ∧ (∀ k, k ∉ xs → u k = g k) ∧ (∃ b, ShP u b (balF d xs)) ∧ ShC u (balF d xs)) (fun u => BM D (tysA cA cZ cI) A (cw x ln cA n tp mo dr ds li K ad u)) A) 0 0 A := by
  have hbal : balF d xs = .leaf := by rw [hxs]; cases d <;> rfl
  refine Met.ofW (cc := cX1_halve) (maxL := 7) (ret := (some (.object "LopsidedRanks$Soldier"))) (by decide) rfl ?_
  intro p e s m args below meth c s₁ B hml hv
  obtain ⟨rfl, hA, hP, hG, hD⟩ := hv
  have hx := B.exec
  have hb := B.bytes
  have hr := B.returns
  have hts := atoms_spec (ws := wsX1_halve) B.pre
  have hown : s.vm.findClass RX1 = some m.cls := findClass_of_methodNamed B.named
  have hlocks := B.notSynchronized
  have hl := lv_entry ([.ref ln, .int (nI first), .int (nI 0), .int (nI level)]) (n := 7) (Nat.le_of_ble_eq_true rfl)
  rw [lg_entry_eq]
  generalize (lg_sl ([.ref ln, .int (nI first), .int (nI 0), .int (nI level)]) ++ List.replicate (7 - (lg_sl ([.ref ln, .int (nI first), .int (nI 0), .int (nI level)])).length) Slot.unset).toArray = ls at hl ⊢
  have hl : lv_has ls 7 [(0, .ref ln), (1, .int (nI first)), (2, .int (nI 0)), (3, .int (nI level))] := hl
  have hS : va_S A s.heap s.heap [] := va_S.rf
  refine lv_iload_n hx hb dX1_halve_0 rfl (lv_at hl 2 rfl) ?_
  refine lv_if_le (tgt := 10) hx hb dX1_halve_1 (by decide) (fun c1 => ?_) (fun c1 => ?_)
  · replace c1 := (zr_le0 (by omega)).mp c1
    refine lv_null hx hb dX1_halve_10 ?_
    exact zr_aret (r := none) hx hb hr (Or.inl ⟨_, rfl⟩) (fun t ht hW => ⟨⟨_, g, rfl, ⟨by rw [hbal]; rfl, fun _ _ => rfl, ⟨none, by rw [hbal]; trivial⟩, by rw [hbal]; trivial⟩, by rw [ht]; exact hP, hG.moved hW, hD⟩, hS.F ht⟩) hS.2.2 dX1_halve_11 hlocks
  · replace c1 := (not_congr (zr_le0 (by omega))).mp c1
    exact absurd rfl c1

set_option maxHeartbeats 4000000 in
set_option maxRecDepth 100000 in
/-- halve: so many from a place of the line on, by halves -/
theorem c_X1_halve (l : Launch) {D : va_G} {cA cZ cI : ClassId} {x ln : Nat} {n : Int32} {tp : Option Nat} {mo dr ds : Int32} {li : Nat → Option Nat} {K : List Nat} {ad : Nat → Nat} {A : Nat → Prop} : ∀ {d : Nat} {g : Nat → Nd} {xs : List Nat} {first n0 level : Nat} (hli : ∀ i, i < xs.length → li (first + i) = xs[i]?) (hxK : ∀ j ∈ xs, j ∈ K ∧ j < 1000) (hnd : xs.Pairwise (· < ·)) (hn : xs.length = n0) (hlen : xs.length < 2 ^ d) (hf : first + xs.length ≤ 150) (hlev : level + d ≤ 40), Met l yX1_halve wsX1_halve ({ frames := d + 2, cells := 0, slots := 0, locals := 40 * (d + 2) } : Room) (PcM D (tysA cA cZ cI) A (cw x ln cA n tp mo dr ds li K ad g) [.ref ln, .int (nI first), .int (nI n0), .int (nI level)]) (va_Qq (S := Nat → Nd) (fun r u => r = (root (balF d xs)).map ad ∧ (∀ k, k ∉ xs → u k = g k) ∧ (∃ b, ShP u b (balF d xs)) ∧ ShC u (balF d xs)) (fun u => BM D (tysA cA cZ cI) A (cw x ln cA n tp mo dr ds li K ad u)) A) 0 0 A := by
  intro d
  induction d with
  | zero =>
    intro g xs first n0 level hli hxK hnd hn hlen hf hlev
    have h0 : xs.length = 0 := by simpa using hlen
    rw [h0] at hn
    subst hn
    exact c_X1_halve0 l _ ⟨rfl, rfl⟩ (List.length_eq_zero_iff.mp h0)
  | succ d ih =>
    intro g xs first n0 level hli hxK hnd hn hlen hf hlev
    rcases Nat.eq_zero_or_pos n0 with hz | hpos
    · subst hz
      exact c_X1_halve0 l _ ⟨rfl, rfl⟩ (List.length_eq_zero_iff.mp hn)
    have hpow : 2 ^ (d + 1) = 2 * 2 ^ d := by rw [Nat.pow_succ]; omega
    obtain ⟨h1, h2, h3⟩ := half_lt hlen (by omega)
    rw [hn] at h1 h2 h3
    obtain ⟨q, hq⟩ : ∃ q, xs[(n0 - 1) / 2]? = some q := ⟨_, List.getElem?_eq_getElem (by omega)⟩
    have hbal : balF (d + 1) xs = nd_ (balF d (xs.take ((n0 - 1) / 2))) q (balF d (xs.drop ((n0 - 1) / 2 + 1))) := by
      have := balF_some (d := d) (xs := xs) (k := q) (by rw [hn]; exact hq)
      rw [hn] at this; exact this
    have hli2 : li (first + (n0 - 1) / 2) = some q := (hli _ (by omega)).trans hq
    have hqx : q ∈ xs := List.mem_of_getElem? hq
    obtain ⟨hqK, hqn⟩ := hxK q hqx
    have htk : ∀ j ∈ keysT (balF d (xs.take ((n0 - 1) / 2))), j ∈ xs := fun j hj => by
      rw [balF_keys d _ (by rw [List.length_take]; omega)] at hj; exact List.mem_of_mem_take hj
    have hdk : ∀ j ∈ keysT (balF d (xs.drop ((n0 - 1) / 2 + 1))), j ∈ xs := fun j hj => by
      rw [balF_keys d _ (by rw [List.length_drop]; omega)] at hj; exact List.mem_of_mem_drop hj
    have hsplit : xs = xs.take ((n0 - 1) / 2) ++ q :: xs.drop ((n0 - 1) / 2 + 1) := by
      have e := List.drop_eq_getElem_cons (l := xs) (i := (n0 - 1) / 2) (by omega)
      rw [List.getElem?_eq_getElem (by omega)] at hq
      rw [Option.some.inj hq] at e
      rw [← e, List.take_append_drop]
    have hlq : ∀ j ∈ xs.take ((n0 - 1) / 2), j < q := by
      have z := hnd
      rw [hsplit, List.pairwise_append] at z
      exact fun j hj => z.2.2 j hj q List.mem_cons_self
    have hgq : ∀ j ∈ xs.drop ((n0 - 1) / 2 + 1), q < j := by
      have z := hnd
      rw [hsplit, List.pairwise_append] at z
      exact (List.pairwise_cons.mp z.2.1).1
    refine Met.ofW (cc := cX1_halve) (maxL := 7) (ret := (some (.object "LopsidedRanks$Soldier"))) (by decide) rfl ?_
    intro p e s m args below meth c s₁ B hml hv
    obtain ⟨rfl, hA, hP, hG, hD⟩ := hv
    have hx := B.exec
    have hb := B.bytes
    have hr := B.returns
    have hts := atoms_spec (ws := wsX1_halve) B.pre
    have hown : s.vm.findClass RX1 = some m.cls := findClass_of_methodNamed B.named
    have hlocks := B.notSynchronized
    have hl := lv_entry ([.ref ln, .int (nI first), .int (nI n0), .int (nI level)]) (n := 7) (Nat.le_of_ble_eq_true rfl)
    rw [lg_entry_eq]
    generalize (lg_sl ([.ref ln, .int (nI first), .int (nI n0), .int (nI level)]) ++ List.replicate (7 - (lg_sl ([.ref ln, .int (nI first), .int (nI n0), .int (nI level)])).length) Slot.unset).toArray = ls at hl ⊢
    have hl : lv_has ls 7 [(0, .ref ln), (1, .int (nI first)), (2, .int (nI n0)), (3, .int (nI level))] := hl
    have hS : va_S A s.heap s.heap [] := va_S.rf
    refine lv_iload_n hx hb dX1_halve_0 rfl (lv_at hl 2 rfl) ?_
    refine lv_if_le (tgt := 10) hx hb dX1_halve_1 (by decide) (fun c1 => ?_) (fun c1 => ?_)
    · replace c1 := (zr_le0 (by omega)).mp c1
      exact absurd c1 (by omega)
    · replace c1 := (not_congr (zr_le0 (by omega))).mp c1
      refine lv_iload_n hx hb dX1_halve_4 rfl (lv_at hl 3 rfl) ?_
      refine lv_bipush (v := nI 40) hx hb dX1_halve_5 (by decide) ?_
      refine lv_icmp_le (tgt := 12) hx hb dX1_halve_7 (by decide) (fun c7 => ?_) (fun c7 => ?_)
      · rw [nI_leI (by omega) (by omega)] at c7
        refine lv_iload_n hx hb dX1_halve_12 rfl (lv_at hl 2 rfl) ?_
        refine lv_iconst (v := nI 1) hx hb dX1_halve_13 (by decide) ?_
        refine lv_isub hx hb dX1_halve_14 ?_
        refine zr_eqi (pk_sub (a := n0) (b := 1) (by omega)) ?_
        refine lv_iconst (v := nI 2) hx hb dX1_halve_15 (by decide) ?_
        refine lv_idiv hx hb dX1_halve_16 (nI_ne0 (by omega) (by omega)) ?_
        refine zr_eqi (pk_div (a := n0 - 1) (d := 2) (by omega) (by omega) (by omega)) ?_
        refine lv_istore (lv' := [(4, .int (nI ((n0 - 1) / 2))), (0, .ref ln), (1, .int (nI first)), (2, .int (nI n0)), (3, .int (nI level))]) hx hb dX1_halve_17 hl (by decide) rfl (fun ls hl => ?_)
        refine lv_iload_n hx hb dX1_halve_19 rfl (lv_at hl 2 rfl) ?_
        refine lv_iload hx hb dX1_halve_20 (lv_at hl 0 rfl) ?_
        refine lv_iadd hx hb dX1_halve_22 ?_
        refine zr_eqi (nI_add first ((n0 - 1) / 2)) ?_
        refine lv_istore (lv' := [(5, .int (nI (first + ((n0 - 1) / 2)))), (4, .int (nI ((n0 - 1) / 2))), (0, .ref ln), (1, .int (nI first)), (2, .int (nI n0)), (3, .int (nI level))]) hx hb dX1_halve_23 hl (by decide) rfl (fun ls hl => ?_)
        refine lv_aload_n hx hb dX1_halve_25 rfl (lv_at hl 2 rfl) ?_
        refine lv_ifnull hx hb dX1_halve_26 ?_
        refine lv_iload hx hb dX1_halve_29 (lv_at hl 0 rfl) ?_
        refine lv_if_lt (tgt := 48) hx hb dX1_halve_31 (by decide) (fun c31 => ?_) (fun c31 => ?_)
        · replace c31 := (zr_lt0 (by omega)).mp c31
          exact absurd c31 id
        · replace c31 := (not_congr (zr_lt0 (by omega))).mp c31
          refine lv_iload hx hb dX1_halve_34 (lv_at hl 0 rfl) ?_
          refine lv_aload_n hx hb dX1_halve_36 rfl (lv_at hl 2 rfl) ?_
          refine va_alen hx hb hG.1 hP 1 0 cw_l (ty := .object RX0) rfl (v := nI 150) rfl dX1_halve_37 ?_
          refine lv_icmp_ge (tgt := 48) hx hb dX1_halve_38 (by decide) (fun c38 => ?_) (fun c38 => ?_)
          · rw [nI_leI (by omega) (by omega)] at c38
            exact absurd c38 (by omega)
          · rw [nI_leI (by omega) (by omega)] at c38
            refine lv_aload_n hx hb dX1_halve_41 rfl (lv_at hl 2 rfl) ?_
            refine lv_iload hx hb dX1_halve_42 (lv_at hl 0 rfl) ?_
            refine zr_aldq hx hb hG.1 hP 1 0 cw_l rfl (k := first + ((n0 - 1) / 2)) (by omega) (Nat.le_of_ble_eq_true rfl) dX1_halve_44 ?_
            rw [show li (first + (n0 - 1) / 2) = some q from hli2]
            refine lv_ifnonnull (tgt := 50) hx hb dX1_halve_45 (by decide) ?_
            refine lv_aload_n hx hb dX1_halve_50 rfl (lv_at hl 2 rfl) ?_
            refine lv_iload hx hb dX1_halve_51 (lv_at hl 0 rfl) ?_
            refine zr_aldq hx hb hG.1 hP 1 0 cw_l rfl (k := first + ((n0 - 1) / 2)) (by omega) (Nat.le_of_ble_eq_true rfl) dX1_halve_53 ?_
            rw [show li (first + (n0 - 1) / 2) = some q from hli2]
            refine lv_astore (lv' := [(6, .ref (ad q)), (5, .int (nI (first + ((n0 - 1) / 2)))), (4, .int (nI ((n0 - 1) / 2))), (0, .ref ln), (1, .int (nI first)), (2, .int (nI n0)), (3, .int (nI level))]) hx hb dX1_halve_54 hl (by decide) rfl (fun ls hl => ?_)
            refine lv_aload hx hb dX1_halve_56 (lv_at hl 0 rfl) ?_
            refine lv_iload_n hx hb dX1_halve_58 rfl (lv_at hl 5 rfl) ?_
            obtain ⟨i0, hi0⟩ := cw_s (x := x) (ln := ln) (cA := cA) (n := n) (tp := tp) (mo := mo) (dr := dr) (ds := ds) (li := li) (ad := ad) (g := g) (hqK : q ∈ K)
            have hDp := hD
            refine va_put (D := D) (ci := 0) (v := .int (nI n0)) (ty := .int) (C := RX0) (T := TX0) (N := 5) hx hb hts (by decide +kernel) tyX0 tyX0_ok nmX0 hown hG.1 hP hD hS i0 hi0 rfl 4 (by decide) (hts (.fieldLink RX1 147 "LopsidedRanks$Soldier" "company" "I") (by decide +kernel)) (fun _ h9 => h9) rfl (by decide +kernel) rfl rfl (Nat.le_of_ble_eq_true rfl) dX1_halve_59 (fun H locs hP hD hS => ?_)
            have hP : va_P D vwCl (cw x ln cA n tp mo dr ds li K ad (va_up g q (sC (g q) (nI n0)))) H := by rw [← cw_put hDp (hqK : q ∈ K) hi0 (sC (g q) (nI n0)) rfl]; exact hP
            have hD : va_D A (cw x ln cA n tp mo dr ds li K ad (va_up g q (sC (g q) (nI n0)))) := by rw [← cw_put hDp (hqK : q ∈ K) hi0 (sC (g q) (nI n0)) rfl]; exact hD
            refine lv_aload hx hb dX1_halve_62 (lv_at hl 0 rfl) ?_
            refine lv_null hx hb dX1_halve_64 ?_
            obtain ⟨i1, hi1⟩ := cw_s (x := x) (ln := ln) (cA := cA) (n := n) (tp := tp) (mo := mo) (dr := dr) (ds := ds) (li := li) (ad := ad) (g := va_up g q (sC (g q) (nI n0))) (hqK : q ∈ K)
            have hDp := hD
            refine va_put (D := D) (ci := 0) (v := .null) (ty := .object RX0) (C := RX0) (T := TX0) (N := 5) hx hb hts (by decide +kernel) tyX0 tyX0_ok nmX0 hown hG.1 hP hD hS i1 hi1 rfl 2 (by decide) (hts (.fieldLink RX1 150 "LopsidedRanks$Soldier" "left" "LLopsidedRanks$Soldier;") (by decide +kernel)) (fun _ h9 => h9) rfl (by decide +kernel) rfl rfl (Nat.le_of_ble_eq_true rfl) dX1_halve_65 (fun H locs hP hD hS => ?_)
            have hP : va_P D vwCl (cw x ln cA n tp mo dr ds li K ad (va_up (va_up g q (sC (g q) (nI n0))) q (sL ((va_up g q (sC (g q) (nI n0))) q) none))) H := by rw [← cw_put hDp (hqK : q ∈ K) hi1 (sL ((va_up g q (sC (g q) (nI n0))) q) none) rfl]; exact hP
            have hD : va_D A (cw x ln cA n tp mo dr ds li K ad (va_up (va_up g q (sC (g q) (nI n0))) q (sL ((va_up g q (sC (g q) (nI n0))) q) none))) := by rw [← cw_put hDp (hqK : q ∈ K) hi1 (sL ((va_up g q (sC (g q) (nI n0))) q) none) rfl]; exact hD
            refine lv_aload hx hb dX1_halve_68 (lv_at hl 0 rfl) ?_
            refine lv_null hx hb dX1_halve_70 ?_
            obtain ⟨i2, hi2⟩ := cw_s (x := x) (ln := ln) (cA := cA) (n := n) (tp := tp) (mo := mo) (dr := dr) (ds := ds) (li := li) (ad := ad) (g := va_up (va_up g q (sC (g q) (nI n0))) q (sL ((va_up g q (sC (g q) (nI n0))) q) none)) (hqK : q ∈ K)
            have hDp := hD
            refine va_put (D := D) (ci := 0) (v := .null) (ty := .object RX0) (C := RX0) (T := TX0) (N := 5) hx hb hts (by decide +kernel) tyX0 tyX0_ok nmX0 hown hG.1 hP hD hS i2 hi2 rfl 3 (by decide) (hts (.fieldLink RX1 160 "LopsidedRanks$Soldier" "right" "LLopsidedRanks$Soldier;") (by decide +kernel)) (fun _ h9 => h9) rfl (by decide +kernel) rfl rfl (Nat.le_of_ble_eq_true rfl) dX1_halve_71 (fun H locs hP hD hS => ?_)
            have hP : va_P D vwCl (cw x ln cA n tp mo dr ds li K ad (va_up (va_up (va_up g q (sC (g q) (nI n0))) q (sL ((va_up g q (sC (g q) (nI n0))) q) none)) q (sR ((va_up (va_up g q (sC (g q) (nI n0))) q (sL ((va_up g q (sC (g q) (nI n0))) q) none)) q) none))) H := by rw [← cw_put hDp (hqK : q ∈ K) hi2 (sR ((va_up (va_up g q (sC (g q) (nI n0))) q (sL ((va_up g q (sC (g q) (nI n0))) q) none)) q) none) rfl]; exact hP
            have hD : va_D A (cw x ln cA n tp mo dr ds li K ad (va_up (va_up (va_up g q (sC (g q) (nI n0))) q (sL ((va_up g q (sC (g q) (nI n0))) q) none)) q (sR ((va_up (va_up g q (sC (g q) (nI n0))) q (sL ((va_up g q (sC (g q) (nI n0))) q) none)) q) none))) := by rw [← cw_put hDp (hqK : q ∈ K) hi2 (sR ((va_up (va_up g q (sC (g q) (nI n0))) q (sL ((va_up g q (sC (g q) (nI n0))) q) none)) q) none) rfl]; exact hD
            obtain ⟨g0, hg0⟩ : ∃ z, z = va_up (va_up (va_up g q (sC (g q) (nI n0))) q (sL ((va_up g q (sC (g q) (nI n0))) q) none)) q (sR ((va_up (va_up g q (sC (g q) (nI n0))) q (sL ((va_up g q (sC (g q) (nI n0))) q) none)) q) none) := ⟨_, rfl⟩
            rw [← hg0] at hP hD
            have h0 : ∀ k, k ≠ q → g0 k = g k := fun k hk => by rw [hg0, va_up_ne _ _ hk, va_up_ne _ _ hk, va_up_ne _ _ hk]
            have h0q : (g0 q).2.1 = none ∧ (g0 q).2.2.1 = none ∧ (g0 q).2.2.2 = nI n0 := by rw [hg0]; simp [va_up, sR, sL, sC]
            refine lv_aload_n hx hb dX1_halve_74 rfl (lv_at hl 3 rfl) ?_
            refine lv_iload_n hx hb dX1_halve_75 rfl (lv_at hl 4 rfl) ?_
            refine lv_iload hx hb dX1_halve_76 (lv_at hl 2 rfl) ?_
            refine lv_iload_n hx hb dX1_halve_78 rfl (lv_at hl 6 rfl) ?_
            refine lv_iconst (v := nI 1) hx hb dX1_halve_79 (by decide) ?_
            refine lv_iadd hx hb dX1_halve_80 ?_
            refine zr_eqi (nI_add level 1) ?_
            refine va_callq (va_runS (As := [.ref ln, .int (nI first), .int (nI ((n0 - 1) / 2)), .int (nI (level + 1))]) (rest := []) ⟨hx, hb, hml, hown, hts⟩ (ih (g := g0) (xs := xs.take ((n0 - 1) / 2)) (first := first) (n0 := (n0 - 1) / 2) (level := level + 1) (fun i hi => by rw [hli i (by rw [List.length_take] at hi; omega), List.getElem?_take_of_lt (by rw [List.length_take] at hi; omega)]) (fun j hj => hxK j (List.mem_of_mem_take hj)) (hnd.sublist (List.take_sublist _ _)) (by rw [List.length_take]; omega) (by rw [List.length_take]; omega) (by rw [List.length_take]; omega) (by omega)) (va_cwS 4 hts gX1_halve_X1_halve rfl rfl rfl (by decide +kernel) ⟨by show d + 2 + 1 ≤ d + 1 + 2; omega, by show 8 + (7 + 11) + 40 * (d + 2) ≤ 40 * (d + 1 + 2); omega⟩) ⟨PcM.blind, PcM.at (fun q h => hA q (Nat.le_trans hS.1 h)) hP hG hD⟩ rfl rfl hl.1 rfl (lv_room (Nat.le_of_ble_eq_true rfl)) dX1_halve_81 ⟨Nat.zero_le _, Nat.zero_le _⟩) hS (fun q _ h => h) (fun q h => h) (fun r81 g1 t H locs ht hvm q81 hB hz1 hk1 hS => ?_)
            obtain ⟨hP, -, hD⟩ := hB
            rw [ht] at hP
            have hP : va_P D vwCl (cw x ln cA n tp mo dr ds li K ad g1) H := hP
            have hD : va_D A (cw x ln cA n tp mo dr ds li K ad g1) := hD
            obtain ⟨rfl, f1, ⟨b1, f2⟩, f3⟩ := q81
            refine lv_aload hx hb dX1_halve_84 (lv_at hl 0 rfl) ?_
            refine va_callv (va_runS (As := [va_rf ((root (balF d (xs.take ((n0 - 1) / 2)))).map ad), .ref (ad q)]) (rest := []) ⟨hx, hb, hml, hown, hts⟩ (c_X1_handOver l (r0 := root (balF d (xs.take ((n0 - 1) / 2)))) (q0 := q) hqK hqn (fun c e => (hxK c (htk c (root_in e))).1) (fun c e => (hxK c (htk c (root_in e))).2)) (va_cwS 2 hts gX1_halve_X1_handOver rfl rfl rfl (by decide +kernel) ⟨by show 1 + 1 ≤ d + 1 + 2; omega, by show 8 + (2 + 11) + 40 ≤ 40 * (d + 1 + 2); omega⟩) ⟨PcM.blind, PcM.at (fun q h => hA q (Nat.le_trans hS.1 h)) hP hG hD⟩ rfl rfl hl.1 rfl (lv_room (Nat.le_of_ble_eq_true rfl)) dX1_halve_86 ⟨Nat.zero_le _, Nat.zero_le _⟩) hS (fun q _ h => h) (fun q h => h) (fun u86 t H locs ht hvm q86 hB hz1 hk1 hS => ?_)
            obtain ⟨hP, -, hD⟩ := hB
            rw [ht] at hP
            have hP : va_P D vwCl (cw x ln cA n tp mo dr ds li K ad (hoG g1 (root (balF d (xs.take ((n0 - 1) / 2)))) q)) H := hP
            have hD : va_D A (cw x ln cA n tp mo dr ds li K ad (hoG g1 (root (balF d (xs.take ((n0 - 1) / 2)))) q)) := hD
            refine lv_aload_n hx hb dX1_halve_89 rfl (lv_at hl 3 rfl) ?_
            refine lv_iload hx hb dX1_halve_90 (lv_at hl 1 rfl) ?_
            refine lv_iconst (v := nI 1) hx hb dX1_halve_92 (by decide) ?_
            refine lv_iadd hx hb dX1_halve_93 ?_
            refine zr_eqi (nI_add (first + ((n0 - 1) / 2)) 1) ?_
            refine lv_iload_n hx hb dX1_halve_94 rfl (lv_at hl 5 rfl) ?_
            refine lv_iconst (v := nI 1) hx hb dX1_halve_95 (by decide) ?_
            refine lv_isub hx hb dX1_halve_96 ?_
            refine zr_eqi (pk_sub (a := n0) (b := 1) (by omega)) ?_
            refine lv_iload hx hb dX1_halve_97 (lv_at hl 2 rfl) ?_
            refine lv_isub hx hb dX1_halve_99 ?_
            refine zr_eqi (pk_sub (a := n0 - 1) (b := (n0 - 1) / 2) (by omega)) ?_
            refine zr_eqi (show nI (n0 - 1 - (n0 - 1) / 2) = nI (n0 - ((n0 - 1) / 2 + 1)) from congrArg nI (by omega)) ?_
            refine lv_iload_n hx hb dX1_halve_100 rfl (lv_at hl 6 rfl) ?_
            refine lv_iconst (v := nI 1) hx hb dX1_halve_101 (by decide) ?_
            refine lv_iadd hx hb dX1_halve_102 ?_
            refine zr_eqi (nI_add level 1) ?_
            refine va_callq (va_runS (As := [.ref ln, .int (nI ((first + ((n0 - 1) / 2)) + 1)), .int (nI (n0 - ((n0 - 1) / 2 + 1))), .int (nI (level + 1))]) (rest := []) ⟨hx, hb, hml, hown, hts⟩ (ih (g := hoG g1 (root (balF d (xs.take ((n0 - 1) / 2)))) q) (xs := xs.drop ((n0 - 1) / 2 + 1)) (first := first + (n0 - 1) / 2 + 1) (n0 := n0 - ((n0 - 1) / 2 + 1)) (level := level + 1) (fun i hi => by rw [List.getElem?_drop, ← hli _ (by rw [List.length_drop] at hi; omega)]; congr 1; omega) (fun j hj => hxK j (List.mem_of_mem_drop hj)) (hnd.sublist (List.drop_sublist _ _)) (by rw [List.length_drop, hn]) (by rw [List.length_drop]; omega) (by rw [List.length_drop]; omega) (by omega)) (va_cwS 4 hts gX1_halve_X1_halve rfl rfl rfl (by decide +kernel) ⟨by show d + 2 + 1 ≤ d + 1 + 2; omega, by show 8 + (7 + 11) + 40 * (d + 2) ≤ 40 * (d + 1 + 2); omega⟩) ⟨PcM.blind, PcM.at (fun q h => hA q (Nat.le_trans hS.1 h)) hP hG hD⟩ rfl rfl hl.1 rfl (lv_room (Nat.le_of_ble_eq_true rfl)) dX1_halve_103 ⟨Nat.zero_le _, Nat.zero_le _⟩) hS (fun q _ h => h) (fun q h => h) (fun r103 g3 t H locs ht hvm q103 hB hz1 hk1 hS => ?_)
            obtain ⟨hP, -, hD⟩ := hB
            rw [ht] at hP
            have hP : va_P D vwCl (cw x ln cA n tp mo dr ds li K ad g3) H := hP
            have hD : va_D A (cw x ln cA n tp mo dr ds li K ad g3) := hD
            obtain ⟨rfl, f4, ⟨b3, f5⟩, f6⟩ := q103
            refine lv_aload hx hb dX1_halve_106 (lv_at hl 0 rfl) ?_
            refine va_callv (va_runS (As := [va_rf ((root (balF d (xs.drop ((n0 - 1) / 2 + 1)))).map ad), .ref (ad q)]) (rest := []) ⟨hx, hb, hml, hown, hts⟩ (c_X1_handOver l (r0 := root (balF d (xs.drop ((n0 - 1) / 2 + 1)))) (q0 := q) hqK hqn (fun c e => (hxK c (hdk c (root_in e))).1) (fun c e => (hxK c (hdk c (root_in e))).2)) (va_cwS 2 hts gX1_halve_X1_handOver rfl rfl rfl (by decide +kernel) ⟨by show 1 + 1 ≤ d + 1 + 2; omega, by show 8 + (2 + 11) + 40 ≤ 40 * (d + 1 + 2); omega⟩) ⟨PcM.blind, PcM.at (fun q h => hA q (Nat.le_trans hS.1 h)) hP hG hD⟩ rfl rfl hl.1 rfl (lv_room (Nat.le_of_ble_eq_true rfl)) dX1_halve_108 ⟨Nat.zero_le _, Nat.zero_le _⟩) hS (fun q _ h => h) (fun q h => h) (fun u108 t H locs ht hvm q108 hB hz1 hk1 hS => ?_)
            obtain ⟨hP, -, hD⟩ := hB
            rw [ht] at hP
            have hP : va_P D vwCl (cw x ln cA n tp mo dr ds li K ad (hoG g3 (root (balF d (xs.drop ((n0 - 1) / 2 + 1)))) q)) H := hP
            have hD : va_D A (cw x ln cA n tp mo dr ds li K ad (hoG g3 (root (balF d (xs.drop ((n0 - 1) / 2 + 1)))) q)) := hD
            refine lv_aload hx hb dX1_halve_111 (lv_at hl 0 rfl) ?_
            have hkl := balF_keys d (xs.take ((n0 - 1) / 2)) (by rw [List.length_take]; omega)
            have hkr := balF_keys d (xs.drop ((n0 - 1) / 2 + 1)) (by rw [List.length_drop]; omega)
            obtain ⟨w1, w2, w3⟩ := halve_fin (g := g) (g0 := g0) (g1 := g1) (g3 := g3) (q := q) (tl := (balF d (xs.take ((n0 - 1) / 2)))) (tr := (balF d (xs.drop ((n0 - 1) / 2 + 1)))) ⟨h0q.1, h0q.2.1, by rw [h0q.2.2]; congr 1; rw [← keys_len, ← keys_len, hkl, hkr, List.length_take, List.length_drop]; omega⟩ h0 (fun k hk => f1 k (by rw [hkl] at hk; exact hk)) f2 f3 (fun k hk => f4 k (by rw [hkr] at hk; exact hk)) f5 f6 (by show List.Pairwise _ (keysT _); rw [hkl]; exact hnd.sublist (List.take_sublist _ _)) (by show List.Pairwise _ (keysT _); rw [hkr]; exact hnd.sublist (List.drop_sublist _ _)) (fun j hj => hlq j (by rw [hkl] at hj; exact hj)) (fun j hj => hgq j (by rw [hkr] at hj; exact hj))
            rw [hkl, hkr] at w1
            exact zr_aret (r := some (ad q)) hx hb hr (Or.inl ⟨_, rfl⟩) (fun t ht hW => ⟨⟨_, _, rfl, ⟨by rw [hbal]; rfl, fun k hk => w1 k (fun z => hk (z ▸ hqx)) (fun z => hk (List.mem_of_mem_take z)) (fun z => hk (List.mem_of_mem_drop z)), by rw [hbal]; exact w2, by rw [hbal]; exact w3⟩, by rw [ht]; exact hP, hG.moved hW, hD⟩, hS.F ht⟩) hS.2.2 dX1_halve_113 hlocks
      · rw [nI_leI (by omega) (by omega)] at c7
        exact absurd c7 (by omega)

