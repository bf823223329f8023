/-! WHAT IS TOLD by the class, of a tree -/
/-- the soldiers' cells, as the tree T has them -/
def RepC (T : Tr) (K : List Nat) (g : Nat → Nd) : Prop := bst T ∧ (∀ k ∈ keysT T, k < 1000) ∧ siz T ≤ 150 ∧ ShP g none T ∧ ShC g T ∧ ∀ k, k ∈ K ↔ k ∈ keysT T
theorem parF_in {h : Nat} : ∀ {T : Tr} {a : Option Nat} {j : Nat}, parF h a T = some j → a = some j ∨ j ∈ keysT T
  | .leaf, a, j, e => Or.inl e
  | .inner s k v l r, a, j, e => by
    simp only [parF] at e
    rw [keys_in]
    split at e
    · exact Or.inl e
    · split at e
      · rcases parF_in e with q | q
        · cases q; exact Or.inr (Or.inr (Or.inl rfl))
        · exact Or.inr (Or.inl q)
      · rcases parF_in e with q | q
        · cases q; exact Or.inr (Or.inr (Or.inl rfl))
        · exact Or.inr (Or.inr (Or.inr q))
theorem parF_mem {h j : Nat} {T : Tr} (e : parF h none T = some j) : j ∈ keysT T := by
  rcases parF_in e with q | q
  · cases q
  · exact q
theorem RepC.in1 {T : Tr} {K : List Nat} {g : Nat → Nd} (h : RepC T K g) : ∀ j ∈ keysT T, j ∈ K ∧ j < 1000 := fun j hj => ⟨(h.2.2.2.2.2 j).mpr hj, h.2.1 j hj⟩
theorem RepC.at {T : Tr} {K : List Nat} {g : Nat → Nd} (h : RepC T K g) {k : Nat} (hk : k ∈ keysT T) : ∃ s v l r, subT k T = .inner s k v l r ∧ (g k).1 = parF k none T ∧ (g k).2.1 = root l ∧ (g k).2.2.1 = root r ∧ (g k).2.2.2 = nI (siz l + siz r + 1) ∧ ShP g (some k) l ∧ ShP g (some k) r ∧ ShC g l ∧ ShC g r := by
  obtain ⟨hb, -, -, hs, hc, -⟩ := h
  obtain ⟨s, v, l, r, e⟩ := sub_at ((subT_mem hb).mpr hk)
  have h1 := ShP_sub (h := k) hs
  have h2 := ShC_sub (h := k) hc
  rw [e] at h1 h2
  obtain ⟨p1, p2, p3, p4, p5⟩ := h1
  obtain ⟨q1, q2, q3⟩ := h2
  exact ⟨s, v, l, r, e, p1, p2, p3, q1, p4, p5, q2, q3⟩
theorem RepC.cl {T : Tr} {K : List Nat} {g : Nat → Nd} (h : RepC T K g) : Cl K g := by
  intro k hk
  have hk1 := (h.2.2.2.2.2 k).mp hk
  obtain ⟨s, v, l, r, e, p1, p2, p3, -⟩ := h.at hk1
  have hsub : ∀ j ∈ keysT (.inner s k v l r : Tr), j ∈ K := fun j hj => (h.2.2.2.2.2 j).mpr (subT_sub (h := k) (by rw [e]; exact hj))
  refine ⟨h.2.1 k hk1, fun j hj => ?_, fun j hj => ?_, fun j hj => ?_⟩
  · rw [p1] at hj; exact (h.2.2.2.2.2 j).mpr (parF_mem hj)
  · rw [p2] at hj; exact hsub j ((keys_in ..).mpr (Or.inl (root_in hj)))
  · rw [p3] at hj; exact hsub j ((keys_in ..).mpr (Or.inr (Or.inr (root_in hj))))
theorem sub_siz {h : Nat} {T : Tr} : siz (subT h T) ≤ siz T := by
  induction T with
  | leaf => exact Nat.le_refl _
  | inner s k v l r ihl ihr =>
    simp only [subT]
    split
    · exact Nat.le_refl _
    · split <;> simp only [siz] <;> omega
theorem cnt_le {h : Nat} {T : Tr} : cntLt h T ≤ siz T := by
  induction T with
  | leaf => exact Nat.le_refl _
  | inner s k v l r ihl ihr =>
    simp only [cntLt, siz]
    split
    · omega
    · split <;> omega
theorem ofs_le {h : Nat} {T : Tr} : ofs h T + siz (subT h T) ≤ siz T := by
  induction T with
  | leaf => exact Nat.le_refl _
  | inner s k v l r ihl ihr =>
    simp only [ofs, subT]
    split
    · omega
    · split <;> simp only [siz] <;> omega
set_option maxHeartbeats 4000000 in
set_option maxRecDepth 100000 in
theorem L_X1_deepestBelow {D : va_G} {cA cZ cI : ClassId} {x ln : Nat} {mo dr ds : Int32} {K : List Nat} {ad : Nat → Nat} {g : Nat → Nd} {T : Tr} {p : Program} {l : Launch} {e : Env} {R : Room} {s : State} {m : MethodId} {args : Array Value} {below : List Frame} {meth : Method} {c : Code} {Q : State → Prop} {cells slots : Nat} {H : Heap} {locs : List Loc} (hx : p.tables.exec = Jvm.exec) (hb : c.code = cX1_deepestBelow) (hml : c.maxLocals = 5) (hts : ∀ w ∈ wsX1_deepestBelow, w.before args s = true) (hown : s.vm.findClass RX1 = some m.cls) (hG : GK D (tysA cA cZ cI) s) (hP : va_P D vwCl (cw x ln cA (nI (siz T)) (root T) mo dr ds (fun i => (keysT T)[i]?) K ad g) H) (hR : 2 ≤ R.frames ∧ 80 ≤ R.locals) (hC : cells ≤ R.cells ∧ slots ≤ R.slots) (hrep : RepC T K g) {c1 : Nat} (hc1 : c1 ∈ keysT T) : ∀ (n i d : Nat), i + n = siz (subT c1 T) → d ≤ 150 → (∀ ls, lv_has ls 5 [(4, .int (nI (siz (subT c1 T)))), (3, .int (nI (mxl (fun j => (anc j (subT c1 T)).length) ((keysT (subT c1 T)).drop i) d))), (2, .int (nI (ofs c1 T))), (0, .ref x), (1, .ref (ad c1))] → W p l e R s m args below meth c H locs cells slots Q (F0 m 60 ls [])) → ∀ ls, lv_has ls 5 [(4, .int (nI i)), (3, .int (nI d)), (2, .int (nI (ofs c1 T))), (0, .ref x), (1, .ref (ad c1))] → W p l e R s m args below meth c H locs cells slots Q (F0 m 28 ls []) := by
  have hcl := hrep.cl
  have hk := (hrep.in1 c1 hc1).1
  obtain ⟨hb0, hin0, hsz, hs, hc, hK0⟩ := id hrep
  obtain ⟨sz, v, lt, rt, esub, p1, p2, p3, p4, p5, p6, p7, p8⟩ := hrep.at hc1
  have hco : (g c1).2.2.2 = nI (siz (subT c1 T)) := by rw [esub]; exact p4
  have hsub := sub_siz (h := c1) (T := T)
  have hofs := ofs_le (h := c1) (T := T)
  intro n
  induction n with
  | zero =>
    intro i d hi hd kk ls hl
    refine lv_iload hx hb dX1_deepestBelow_28 (lv_at hl 0 rfl) ?_
    refine lv_aload_n hx hb dX1_deepestBelow_30 rfl (lv_at hl 4 rfl) ?_
    obtain ⟨i0, hi0⟩ := cw_s (x := x) (ln := ln) (cA := cA) (n := nI (siz T)) (tp := root T) (mo := mo) (dr := dr) (ds := ds) (li := fun i => (keysT T)[i]?) (ad := ad) (g := g) (hk : c1 ∈ K)
    refine va_get (D := D) (ci := 0) (v := .int (g c1).2.2.2) (C := RX0) (T := TX0) (N := 5) hx hb hts (by decide +kernel) hown hG.1 hP i0 hi0 rfl 4 (by decide) (hts (.fieldLink RX1 147 "LopsidedRanks$Soldier" "company" "I") (by decide +kernel)) (fun _ h9 => h9) rfl dX1_deepestBelow_31 ?_
    refine zr_eqi hco ?_
    refine lv_icmp_ge (tgt := 60) hx hb dX1_deepestBelow_34 (by decide) (fun c34 => ?_) (fun c34 => ?_)
    · rw [nI_leI (by omega) (by omega)] at c34
      have e9 : (keysT (subT c1 T)).drop i = [] := List.drop_eq_nil_of_le (by rw [keys_len]; omega)
      rw [e9] at kk
      have e8 : i = siz (subT c1 T) := by omega
      subst e8
      exact kk _ hl
    · rw [nI_leI (by omega) (by omega)] at c34
      exact absurd c34 (by omega)
  | succ n ih =>
    intro i d hi hd kk ls hl
    have hil : i < (keysT (subT c1 T)).length := by rw [keys_len]; omega
    obtain ⟨j, hj⟩ : ∃ j, (keysT (subT c1 T))[i]? = some j := ⟨_, List.getElem?_eq_getElem hil⟩
    have hdr : (keysT (subT c1 T)).drop i = j :: (keysT (subT c1 T)).drop (i + 1) := by
      rw [List.drop_eq_getElem_cons hil]
      rw [List.getElem?_eq_getElem hil] at hj
      rw [Option.some.inj hj]
    have hjm : j ∈ keysT (subT c1 T) := List.mem_of_getElem? hj
    have hjT : j ∈ keysT T := subT_sub hjm
    have hw := UpC_top (h := j) hs
    rw [(anc_sub hb0 hjm).1, List.reverse_append] at hw
    obtain ⟨pre, rest, hsp, hlen, hpn⟩ : ∃ pre rest, j :: ((anc j (subT c1 T)).reverse ++ (anc c1 T).reverse) = pre ++ c1 :: rest ∧ pre.length = (anc j (subT c1 T)).length ∧ c1 ∉ pre := by
      rw [esub]
      have h1 := sub_bst (c := c1) hb0
      rw [esub] at h1
      exact way_split h1 (by rw [← esub]; exact hjm) _
    have hup : UpC g (some j) (pre ++ c1 :: rest) := by
      rw [← hsp]
      refine ⟨rfl, ?_⟩
      rw [above_eq hs ((subT_mem hb0).mpr hjT)]
      exact hw
    have hpin : ∀ z ∈ pre, z ∈ K := fun z hz => hcl.up hup (fun k e => by cases e; exact (hrep.in1 j hjT).1) z (List.mem_append_left _ hz)
    have hle := anc_len (h := j) (T := subT c1 T)
    refine lv_iload hx hb dX1_deepestBelow_28 (lv_at hl 0 rfl) ?_
    refine lv_aload_n hx hb dX1_deepestBelow_30 rfl (lv_at hl 4 rfl) ?_
    obtain ⟨i0, hi0⟩ := cw_s (x := x) (ln := ln) (cA := cA) (n := nI (siz T)) (tp := root T) (mo := mo) (dr := dr) (ds := ds) (li := fun i => (keysT T)[i]?) (ad := ad) (g := g) (hk : c1 ∈ K)
    refine va_get (D := D) (ci := 0) (v := .int (g c1).2.2.2) (C := RX0) (T := TX0) (N := 5) hx hb hts (by decide +kernel) hown hG.1 hP i0 hi0 rfl 4 (by decide) (hts (.fieldLink RX1 147 "LopsidedRanks$Soldier" "company" "I") (by decide +kernel)) (fun _ h9 => h9) rfl dX1_deepestBelow_31 ?_
    refine zr_eqi hco ?_
    refine lv_icmp_ge (tgt := 60) hx hb dX1_deepestBelow_34 (by decide) (fun c34 => ?_) (fun c34 => ?_)
    · rw [nI_leI (by omega) (by omega)] at c34
      exact absurd c34 (by omega)
    · rw [nI_leI (by omega) (by omega)] at c34
      refine lv_iload_n hx hb dX1_deepestBelow_37 rfl (lv_at hl 1 rfl) ?_
      refine lv_aload_n hx hb dX1_deepestBelow_38 rfl (lv_at hl 3 rfl) ?_
      refine lv_iload_n hx hb dX1_deepestBelow_39 rfl (lv_at hl 2 rfl) ?_
      refine lv_iload hx hb dX1_deepestBelow_40 (lv_at hl 0 rfl) ?_
      refine lv_iadd hx hb dX1_deepestBelow_42 ?_
      refine zr_eqi (nI_add (ofs c1 T) i) ?_
      refine va_csq (va_Run.run (va_runV (As := [.int (nI ((ofs c1 T) + i))]) (rest := [.int (nI d)]) ⟨hx, hb, hml, hown, hts⟩ (c_X1_inLine l (N := siz T) (j := ofs c1 T + i) hsz (by omega)) (cwV 1 hts gX1_deepestBelow_X1_inLine rfl rfl rfl (by decide +kernel) ⟨Nat.le_trans (Nat.le_of_ble_eq_true rfl) hR.1, Nat.le_trans (Nat.le_of_ble_eq_true rfl) hR.2⟩) ⟨PcR.blind, va_recv hG.1 hP (ci := 1) (q0 := 0) rfl cw_x, PcR.at hP hG⟩ rfl rfl hl.1 rfl (lv_room (Nat.le_of_ble_eq_true rfl)) dX1_deepestBelow_43 ⟨hC.1, hC.2⟩)) (fun r43 q43 => ?_)
      subst q43
      rw [if_pos (show ofs c1 T + i < siz T by omega), ofs_key (show i < siz (subT c1 T) by omega), hj]
      refine lv_aload_n hx hb dX1_deepestBelow_46 rfl (lv_at hl 4 rfl) ?_
      refine vp_callSi (va_Run.run (va_runS (As := [va_rf ((some j).map ad), .ref (ad c1)]) (rest := [.int (nI d)]) ⟨hx, hb, hml, hown, hts⟩ (c_X1_stepsUp l (p0 := some j) (ks := pre) (rest := rest) hcl hk hup hpin hpn) (va_cwS 2 hts gX1_deepestBelow_X1_stepsUp rfl rfl rfl (by decide +kernel) ⟨Nat.le_trans (Nat.le_of_ble_eq_true rfl) hR.1, Nat.le_trans (Nat.le_of_ble_eq_true rfl) hR.2⟩) ⟨PcR.blind, PcR.at hP hG⟩ rfl rfl hl.1 rfl (lv_room (Nat.le_of_ble_eq_true rfl)) dX1_deepestBelow_47 ⟨hC.1, hC.2⟩)) (fun r47 q47 => ?_)
      subst q47
      have h150 : pre.length ≤ 150 := by omega
      refine va_mmax hx hb (hml.trans hl.1.symm) hown (hts (.methodLink RX1 114 Lib.Math.max.name) (by decide +kernel)) (hts (.static Lib.Math.max.name) (by decide +kernel)) (hts (.initialized "java/lang/Math") (by decide +kernel)) (hts (.code Lib.Math.max.name Lib.Math.max.code 2 (some .int)) (by decide +kernel)) (Nat.le_trans (Nat.le_of_ble_eq_true rfl) hR.1) (Nat.le_trans (Nat.le_of_ble_eq_true rfl) hR.2) hC.1 hC.2 dX1_deepestBelow_50 ?_
      refine zr_eqi (zr_max (by omega) (by omega)) ?_
      refine lv_istore_n (lv' := [(3, .int (nI (max d pre.length))), (4, .int (nI i)), (2, .int (nI (ofs c1 T))), (0, .ref x), (1, .ref (ad c1))]) hx hb dX1_deepestBelow_53 rfl hl (by decide) rfl (fun ls hl => ?_)
      refine lv_iinc (v := nI (i + 1)) (lv' := [(4, .int (nI (i + 1))), (3, .int (nI (max d pre.length))), (2, .int (nI (ofs c1 T))), (0, .ref x), (1, .ref (ad c1))]) hx hb dX1_deepestBelow_54 hl (k := 1) rfl (nI_add i 1) (by decide) rfl (fun ls hl => ?_)
      refine lv_goto (tgt := 28) hx hb dX1_deepestBelow_57 (by decide) ?_
      exact ih (i + 1) (max d pre.length) (by omega) (by omega) (by rw [hdr, mxl_cons, ← hlen] at kk; exact kk) _ hl
set_option maxHeartbeats 4000000 in
set_option maxRecDepth 100000 in
/-- deepestBelow(c) -/
theorem c_X1_deepestBelow (l : Launch) {D : va_G} {cA cZ cI : ClassId} {x ln : Nat} {mo dr ds : Int32} {K : List Nat} {ad : Nat → Nat} {g : Nat → Nd} {T : Tr} {c1 : Nat} (hrep : RepC T K g) (hc1 : c1 ∈ keysT T) : Met l yX1_deepestBelow wsX1_deepestBelow ({ frames := 2, cells := 0, slots := 0, locals := 80 } : Room) (PcR D (tysA cA cZ cI) (cw x ln cA (nI (siz T)) (root T) mo dr ds (fun i => (keysT T)[i]?) K ad g) [.ref x, .ref (ad c1)]) (vp_Si (fun r => r = nI (hgt (subT c1 T) - 1))) 0 0 (fun _ => False) := by
  refine Met.ofW (cc := cX1_deepestBelow) (maxL := 5) (ret := (some .int)) (by decide) rfl ?_
  intro p e s m args below meth c s₁ B hml hv
  obtain ⟨rfl, hP, hG⟩ := hv
  have hx := B.exec
  have hb := B.bytes
  have hr := B.returns
  have hts := atoms_spec (ws := wsX1_deepestBelow) B.pre
  have hown : s.vm.findClass RX1 = some m.cls := findClass_of_methodNamed B.named
  have hlocks := B.notSynchronized
  have hl := lv_entry ([.ref x, .ref (ad c1)]) (n := 5) (Nat.le_of_ble_eq_true rfl)
  rw [lg_entry_eq]
  generalize (lg_sl ([.ref x, .ref (ad c1)]) ++ List.replicate (5 - (lg_sl ([.ref x, .ref (ad c1)])).length) Slot.unset).toArray = ls at hl ⊢
  have hl : lv_has ls 5 [(0, .ref x), (1, .ref (ad c1))] := hl
  have hcl := hrep.cl
  have hk := (hrep.in1 c1 hc1).1
  obtain ⟨hb0, hin0, hsz, hs, hc, hK0⟩ := id hrep
  obtain ⟨sz, v, lt, rt, esub, p1, p2, p3, p4, p5, p6, p7, p8⟩ := hrep.at hc1
  have hlt := hin0 c1 hc1
  have hof := cnt_ofs c1 T
  have hcl9 := cnt_le (h := c1) (T := T)
  refine lv_aload_n hx hb dX1_deepestBelow_0 rfl (lv_at hl 1 rfl) ?_
  refine lv_ifnonnull (tgt := 6) hx hb dX1_deepestBelow_1 (by decide) ?_
  refine lv_aload_n hx hb dX1_deepestBelow_6 rfl (lv_at hl 0 rfl) ?_
  refine lv_aload_n hx hb dX1_deepestBelow_7 rfl (lv_at hl 1 rfl) ?_
  obtain ⟨i0, hi0⟩ := cw_s (x := x) (ln := ln) (cA := cA) (n := nI (siz T)) (tp := root T) (mo := mo) (dr := dr) (ds := ds) (li := fun i => (keysT T)[i]?) (ad := ad) (g := g) (hk : c1 ∈ K)
  refine va_get (D := D) (ci := 0) (v := .int (nI c1)) (C := RX0) (T := TX0) (N := 5) hx hb hts (by decide +kernel) hown hG.1 hP i0 hi0 rfl 0 (by decide) (hts (.fieldLink RX1 100 "LopsidedRanks$Soldier" "height" "I") (by decide +kernel)) (fun _ h9 => h9) rfl dX1_deepestBelow_8 ?_
  refine vp_callSi (va_Run.run (va_runV (As := [.int (nI c1)]) (rest := []) ⟨hx, hb, hml, hown, hts⟩ (c_X1_smallerThan l hcl (by omega) hs hc hrep.in1) (cwV 1 hts gX1_deepestBelow_X1_smallerThan rfl rfl rfl (by decide +kernel) ⟨Nat.le_of_ble_eq_true rfl, Nat.le_of_ble_eq_true rfl⟩) ⟨PcR.blind, va_recv hG.1 hP (ci := 1) (q0 := 0) rfl cw_x, PcR.at hP hG⟩ rfl rfl hl.1 rfl (lv_room (Nat.le_of_ble_eq_true rfl)) dX1_deepestBelow_11 ⟨Nat.zero_le _, Nat.zero_le _⟩)) (fun r11 q11 => ?_)
  subst q11
  refine lv_aload_n hx hb dX1_deepestBelow_14 rfl (lv_at hl 1 rfl) ?_
  obtain ⟨i1, hi1⟩ := cw_s (x := x) (ln := ln) (cA := cA) (n := nI (siz T)) (tp := root T) (mo := mo) (dr := dr) (ds := ds) (li := fun i => (keysT T)[i]?) (ad := ad) (g := g) (hk : c1 ∈ K)
  refine va_get (D := D) (ci := 0) (v := va_rf ((g c1).2.1.map ad)) (C := RX0) (T := TX0) (N := 5) hx hb hts (by decide +kernel) hown hG.1 hP i1 hi1 rfl 2 (by decide) (hts (.fieldLink RX1 150 "LopsidedRanks$Soldier" "left" "LLopsidedRanks$Soldier;") (by decide +kernel)) (fun _ h9 => h9) rfl dX1_deepestBelow_15 ?_
  refine vp_callSi (va_Run.run (va_runS (As := [va_rf ((g c1).2.1.map ad)]) (rest := [.int (nI (cntLt c1 T))]) ⟨hx, hb, hml, hown, hts⟩ (c_X1_companyOf l (o := (g c1).2.1) (hcl c1 hk).2.2.1) (va_cwS 1 hts gX1_deepestBelow_X1_companyOf rfl rfl rfl (by decide +kernel) ⟨Nat.le_of_ble_eq_true rfl, Nat.le_of_ble_eq_true rfl⟩) ⟨PcR.blind, PcR.at hP hG⟩ rfl rfl hl.1 rfl (lv_room (Nat.le_of_ble_eq_true rfl)) dX1_deepestBelow_18 ⟨Nat.zero_le _, Nat.zero_le _⟩)) (fun r18 q18 => ?_)
  subst q18
  refine zr_eqi (show coOf g (g c1).2.1 = nI (sizL (subT c1 T)) by rw [p2, esub]; exact co_root p7) ?_
  refine lv_isub hx hb dX1_deepestBelow_21 ?_
  refine zr_eqi (pk_sub (a := cntLt c1 T) (b := sizL (subT c1 T)) (by omega)) ?_
  refine zr_eqi (show nI (cntLt c1 T - sizL (subT c1 T)) = nI (ofs c1 T) by rw [hof, Nat.add_sub_cancel]) ?_
  refine lv_istore_n (lv' := [(2, .int (nI (ofs c1 T))), (0, .ref x), (1, .ref (ad c1))]) hx hb dX1_deepestBelow_22 rfl hl (by decide) rfl (fun ls hl => ?_)
  refine lv_iconst (v := nI 0) hx hb dX1_deepestBelow_23 (by decide) ?_
  refine lv_istore_n (lv' := [(3, .int (nI 0)), (2, .int (nI (ofs c1 T))), (0, .ref x), (1, .ref (ad c1))]) hx hb dX1_deepestBelow_24 rfl hl (by decide) rfl (fun ls hl => ?_)
  refine lv_iconst (v := nI 0) hx hb dX1_deepestBelow_25 (by decide) ?_
  refine lv_istore (lv' := [(4, .int (nI 0)), (3, .int (nI 0)), (2, .int (nI (ofs c1 T))), (0, .ref x), (1, .ref (ad c1))]) hx hb dX1_deepestBelow_26 hl (by decide) rfl (fun ls hl => ?_)
  refine L_X1_deepestBelow (c1 := c1) hx hb hml hts hown hG hP ⟨Nat.le_of_ble_eq_true rfl, Nat.le_of_ble_eq_true rfl⟩ ⟨Nat.zero_le _, Nat.zero_le _⟩ hrep hc1 (siz (subT c1 T)) 0 0 (Nat.zero_add _) (Nat.zero_le _) (fun ls hl => ?_) _ hl
  refine lv_iload_n hx hb dX1_deepestBelow_60 rfl (lv_at hl 1 rfl) ?_
  exact W.iret (v := (nI (mxl (fun j => (anc j (subT c1 T)).length) ((keysT (subT c1 T)).drop 0) 0))) hx hb hr (fun t ht hW => ⟨_, rfl, by rw [List.drop_zero]; have h9 := hgt_mxl (sub_bst (c := c1) hb0) 0 0; rw [if_neg (show ¬ siz (subT c1 T) = 0 by rw [esub]; simp [siz])] at h9; simp only [Nat.add_zero, Nat.zero_max] at h9; rw [h9], ht⟩) (fun q hq => absurd hq List.not_mem_nil) dX1_deepestBelow_61

set_option maxHeartbeats 4000000 in
set_option maxRecDepth 100000 in
/-- deepestBelow(nobody) -/
theorem c_X1_deepestBelowN (l : Launch) {D : va_G} {cA cZ cI : ClassId} {x ln : Nat} {n : Int32} {tp : Option Nat} {mo dr ds : Int32} {li : Nat → Option Nat} {K : List Nat} {ad : Nat → Nat} {g : Nat → Nd} : Met l yX1_deepestBelow wsX1_deepestBelow ({ frames := 2, cells := 0, slots := 0, locals := 80 } : Room) (PcR D (tysA cA cZ cI) (cw x ln cA n tp mo dr ds li K ad g) [.ref x, .null]) (vp_Si (fun r => r = -1)) 0 0 (fun _ => False) := by
  refine Met.ofW (cc := cX1_deepestBelow) (maxL := 5) (ret := (some .int)) (by decide) rfl ?_
  intro p e s m args below meth c s₁ B hml hv
  obtain ⟨rfl, hP, hG⟩ := hv
  have hx := B.exec
  have hb := B.bytes
  have hr := B.returns
  have hts := atoms_spec (ws := wsX1_deepestBelow) B.pre
  have hown : s.vm.findClass RX1 = some m.cls := findClass_of_methodNamed B.named
  have hlocks := B.notSynchronized
  have hl := lv_entry ([.ref x, .null]) (n := 5) (Nat.le_of_ble_eq_true rfl)
  rw [lg_entry_eq]
  generalize (lg_sl ([.ref x, .null]) ++ List.replicate (5 - (lg_sl ([.ref x, .null])).length) Slot.unset).toArray = ls at hl ⊢
  have hl : lv_has ls 5 [(0, .ref x), (1, .null)] := hl
  refine lv_aload_nN hx hb dX1_deepestBelow_0 rfl (lv_at hl 1 rfl) ?_
  refine lv_ifnonnullN hx hb dX1_deepestBelow_1 ?_
  refine lv_iconst (v := (-1)) hx hb dX1_deepestBelow_4 (by decide) ?_
  exact W.iret (v := (-1)) hx hb hr (fun t ht hW => ⟨_, rfl, rfl, ht⟩) (fun q hq => absurd hq List.not_mem_nil) dX1_deepestBelow_5

set_option maxHeartbeats 4000000 in
set_option maxRecDepth 100000 in
theorem L_X1_crookedCompanies {D : va_G} {cA cZ cI : ClassId} {x ln : Nat} {mo dr ds : Int32} {K : List Nat} {ad : Nat → Nat} {g : Nat → Nd} {T : Tr} {p : Program} {l : Launch} {e : Env} {R : Room} {s : State} {m : MethodId} {args : Array Value} {below : List Frame} {meth : Method} {c : Code} {Q : State → Prop} {cells slots : Nat} {H : Heap} {locs : List Loc} (hx : p.tables.exec = Jvm.exec) (hb : c.code = cX1_crookedCompanies) (hml : c.maxLocals = 4) (hts : ∀ w ∈ wsX1_crookedCompanies, w.before args s = true) (hown : s.vm.findClass RX1 = some m.cls) (hG : GK D (tysA cA cZ cI) s) (hP : va_P D vwCl (cw x ln cA (nI (siz T)) (root T) mo dr ds (fun i => (keysT T)[i]?) K ad g) H) (hR : 2 ≤ R.frames ∧ 80 ≤ R.locals) (hC : cells ≤ R.cells ∧ slots ≤ R.slots) (hrep : RepC T K g) : ∀ (n i d : Nat), i + n = siz T → d ≤ i → (∀ ls, lv_has ls 4 [(2, .int (nI (siz T))), (1, .int (nI (d + ((keysT T).drop i).countP (crT T)))), (0, .ref x)] → W p l e R s m args below meth c H locs cells slots Q (F0 m 38 ls [])) → ∀ ls, lv_has ls 4 [(2, .int (nI i)), (1, .int (nI d)), (0, .ref x)] → W p l e R s m args below meth c H locs cells slots Q (F0 m 4 ls []) := by
  have hcl := hrep.cl
  obtain ⟨hb0, hin0, hsz, hs, hc, hK0⟩ := id hrep
  intro n
  induction n with
  | zero =>
    intro i d hi hd kk ls hl
    refine lv_iload_n hx hb dX1_crookedCompanies_4 rfl (lv_at hl 0 rfl) ?_
    refine lv_aload_n hx hb dX1_crookedCompanies_5 rfl (lv_at hl 2 rfl) ?_
    refine va_get (D := D) (ci := 1) (v := .int (nI (siz T))) (C := RX1) (T := TX1) (N := 6) hx hb hts (by decide +kernel) hown hG.1 hP 0 cw_x rfl 1 (by decide) (hts (.fieldLink RX1 19 "LopsidedRanks" "soldiers" "I") (by decide +kernel)) (fun _ h9 => h9) rfl dX1_crookedCompanies_6 ?_
    refine lv_icmp_ge (tgt := 38) hx hb dX1_crookedCompanies_9 (by decide) (fun c9 => ?_) (fun c9 => ?_)
    · rw [nI_leI (by omega) (by omega)] at c9
      have e9 : (keysT T).drop i = [] := List.drop_eq_nil_of_le (by rw [keys_len]; omega)
      have e8 : i = siz T := by omega
      rw [e9] at kk
      subst e8
      exact kk _ (lv_sub hl [0, 1, 2] rfl)
    · rw [nI_leI (by omega) (by omega)] at c9
      exact absurd c9 (by omega)
  | succ n ih =>
    intro i d hi hd kk ls hl
    have hil : i < (keysT T).length := by rw [keys_len]; omega
    obtain ⟨j, hj⟩ : ∃ j, (keysT T)[i]? = some j := ⟨_, List.getElem?_eq_getElem hil⟩
    have hdr : (keysT T).drop i = j :: (keysT T).drop (i + 1) := by
      rw [List.drop_eq_getElem_cons hil]
      rw [List.getElem?_eq_getElem hil] at hj
      rw [Option.some.inj hj]
    have hjT : j ∈ keysT T := List.mem_of_getElem? hj
    have hjK := (hrep.in1 j hjT).1
    obtain ⟨sz, v, lt, rt, esub, p1, p2, p3, p4, p5, p6, p7, p8⟩ := hrep.at hjT
    have hsub := sub_siz (h := j) (T := T)
    rw [esub] at hsub
    simp only [siz] at hsub
    refine lv_iload_n hx hb dX1_crookedCompanies_4 rfl (lv_at hl 0 rfl) ?_
    refine lv_aload_n hx hb dX1_crookedCompanies_5 rfl (lv_at hl 2 rfl) ?_
    refine va_get (D := D) (ci := 1) (v := .int (nI (siz T))) (C := RX1) (T := TX1) (N := 6) hx hb hts (by decide +kernel) hown hG.1 hP 0 cw_x rfl 1 (by decide) (hts (.fieldLink RX1 19 "LopsidedRanks" "soldiers" "I") (by decide +kernel)) (fun _ h9 => h9) rfl dX1_crookedCompanies_6 ?_
    refine lv_icmp_ge (tgt := 38) hx hb dX1_crookedCompanies_9 (by decide) (fun c9 => ?_) (fun c9 => ?_)
    · rw [nI_leI (by omega) (by omega)] at c9
      exact absurd c9 (by omega)
    · rw [nI_leI (by omega) (by omega)] at c9
      refine lv_aload_n hx hb dX1_crookedCompanies_12 rfl (lv_at hl 2 rfl) ?_
      refine lv_iload_n hx hb dX1_crookedCompanies_13 rfl (lv_at hl 0 rfl) ?_
      refine va_csq (va_Run.run (va_runV (As := [.int (nI i)]) (rest := []) ⟨hx, hb, hml, hown, hts⟩ (c_X1_inLine l (N := siz T) (j := i) hsz (by omega)) (cwV 1 hts gX1_crookedCompanies_X1_inLine rfl rfl rfl (by decide +kernel) ⟨Nat.le_trans (Nat.le_of_ble_eq_true rfl) hR.1, Nat.le_trans (Nat.le_of_ble_eq_true rfl) hR.2⟩) ⟨PcR.blind, va_recv hG.1 hP (ci := 1) (q0 := 0) rfl cw_x, PcR.at hP hG⟩ rfl rfl hl.1 rfl (lv_room (Nat.le_of_ble_eq_true rfl)) dX1_crookedCompanies_14 ⟨hC.1, hC.2⟩)) (fun r14 q14 => ?_)
      subst q14
      rw [if_pos (show i < siz T by omega), hj]
      refine lv_astore_n (lv' := [(3, .ref (ad j)), (2, .int (nI i)), (1, .int (nI d)), (0, .ref x)]) hx hb dX1_crookedCompanies_17 rfl hl (by decide) rfl (fun ls hl => ?_)
      refine lv_aload_n hx hb dX1_crookedCompanies_18 rfl (lv_at hl 0 rfl) ?_
      refine lv_ifnull hx hb dX1_crookedCompanies_19 ?_
      refine lv_aload_n hx hb dX1_crookedCompanies_22 rfl (lv_at hl 0 rfl) ?_
      obtain ⟨i0, hi0⟩ := cw_s (x := x) (ln := ln) (cA := cA) (n := nI (siz T)) (tp := root T) (mo := mo) (dr := dr) (ds := ds) (li := fun i => (keysT T)[i]?) (ad := ad) (g := g) (hjK : j ∈ K)
      refine vp_callSi (va_Run.run (va_runV (As := []) (rest := []) ⟨hx, hb, hml, hown, hts⟩ (c_X0_hasCrookedCompany l hcl hjK (a := siz lt) (b := siz rt) (by rw [p2]; exact co_root p7) (by rw [p3]; exact co_root p8) (by omega) (by omega)) (cwV 0 hts gX1_crookedCompanies_X0_hasCrookedCompany rfl rfl rfl (by decide +kernel) ⟨Nat.le_trans (Nat.le_of_ble_eq_true rfl) hR.1, Nat.le_trans (Nat.le_of_ble_eq_true rfl) hR.2⟩) ⟨PcR.blind, va_recv hG.1 hP (ci := 0) (q0 := i0) rfl hi0, PcR.at hP hG⟩ rfl rfl hl.1 rfl (lv_room (Nat.le_of_ble_eq_true rfl)) dX1_crookedCompanies_23 ⟨hC.1, hC.2⟩)) (fun r23 q23 => ?_)
      subst q23
      refine lv_if_eq (tgt := 32) hx hb dX1_crookedCompanies_26 (by decide) (fun c26 => ?_) (fun c26 => ?_)
      · have h9 : crT T j = false := by simp only [crT, esub]; exact Bool.eq_false_iff.mpr (b2i_eq c26)
        refine lv_iinc (v := nI (i + 1)) (lv' := [(2, .int (nI (i + 1))), (3, .ref (ad j)), (1, .int (nI d)), (0, .ref x)]) hx hb dX1_crookedCompanies_32 hl (k := 1) rfl (nI_add i 1) (by decide) rfl (fun ls hl => ?_)
        refine lv_goto (tgt := 4) hx hb dX1_crookedCompanies_35 (by decide) ?_
        exact ih (i + 1) d (by omega) (by omega) (by rw [hdr, List.countP_cons_of_neg (by rw [h9]; decide)] at kk; exact kk) _ (lv_sub hl [0, 2, 3] rfl)
      · have h9 : crT T j = true := by simp only [crT, esub]; exact b2i_ne c26
        refine lv_iinc (v := nI (d + 1)) (lv' := [(1, .int (nI (d + 1))), (3, .ref (ad j)), (2, .int (nI i)), (0, .ref x)]) hx hb dX1_crookedCompanies_29 hl (k := 2) rfl (nI_add d 1) (by decide) rfl (fun ls hl => ?_)
        refine lv_iinc (v := nI (i + 1)) (lv' := [(2, .int (nI (i + 1))), (1, .int (nI (d + 1))), (3, .ref (ad j)), (0, .ref x)]) hx hb dX1_crookedCompanies_32 hl (k := 2) rfl (nI_add i 1) (by decide) rfl (fun ls hl => ?_)
        refine lv_goto (tgt := 4) hx hb dX1_crookedCompanies_35 (by decide) ?_
        exact ih (i + 1) (d + 1) (by omega) (by omega) (by rw [hdr, List.countP_cons_of_pos h9] at kk; rw [show d + 1 + List.countP (crT T) ((keysT T).drop (i + 1)) = d + (List.countP (crT T) ((keysT T).drop (i + 1)) + 1) by omega]; exact kk) _ (lv_sub hl [0, 1, 3] rfl)
set_option maxHeartbeats 4000000 in
set_option maxRecDepth 100000 in
/-- crookedCompanies() -/
theorem c_X1_crookedCompanies (l : Launch) {D : va_G} {cA cZ cI : ClassId} {x ln : Nat} {mo dr ds : Int32} {K : List Nat} {ad : Nat → Nat} {g : Nat → Nd} {T : Tr} (hrep : RepC T K g) : Met l yX1_crookedCompanies wsX1_crookedCompanies ({ frames := 2, cells := 0, slots := 0, locals := 80 } : Room) (PcR D (tysA cA cZ cI) (cw x ln cA (nI (siz T)) (root T) mo dr ds (fun i => (keysT T)[i]?) K ad g) [.ref x]) (vp_Si (fun r => r = nI (ckn T))) 0 0 (fun _ => False) := by
  refine Met.ofW (cc := cX1_crookedCompanies) (maxL := 4) (ret := (some .int)) (by decide) rfl ?_
  intro p e s m args below meth c s₁ B hml hv
  obtain ⟨rfl, hP, hG⟩ := hv
  have hx := B.exec
  have hb := B.bytes
  have hr := B.returns
  have hts := atoms_spec (ws := wsX1_crookedCompanies) B.pre
  have hown : s.vm.findClass RX1 = some m.cls := findClass_of_methodNamed B.named
  have hlocks := B.notSynchronized
  have hl := lv_entry ([.ref x]) (n := 4) (Nat.le_of_ble_eq_true rfl)
  rw [lg_entry_eq]
  generalize (lg_sl ([.ref x]) ++ List.replicate (4 - (lg_sl ([.ref x])).length) Slot.unset).toArray = ls at hl ⊢
  have hl : lv_has ls 4 [(0, .ref x)] := hl
  obtain ⟨hb0, hin0, hsz, hs, hc, hK0⟩ := id hrep
  refine lv_iconst (v := nI 0) hx hb dX1_crookedCompanies_0 (by decide) ?_
  refine lv_istore_n (lv' := [(1, .int (nI 0)), (0, .ref x)]) hx hb dX1_crookedCompanies_1 rfl hl (by decide) rfl (fun ls hl => ?_)
  refine lv_iconst (v := nI 0) hx hb dX1_crookedCompanies_2 (by decide) ?_
  refine lv_istore_n (lv' := [(2, .int (nI 0)), (1, .int (nI 0)), (0, .ref x)]) hx hb dX1_crookedCompanies_3 rfl hl (by decide) rfl (fun ls hl => ?_)
  refine L_X1_crookedCompanies hx hb hml hts hown hG hP ⟨Nat.le_of_ble_eq_true rfl, Nat.le_of_ble_eq_true rfl⟩ ⟨Nat.zero_le _, Nat.zero_le _⟩ hrep (siz T) 0 0 (Nat.zero_add _) (Nat.zero_le _) (fun ls hl => ?_) _ hl
  refine lv_iload_n hx hb dX1_crookedCompanies_38 rfl (lv_at hl 1 rfl) ?_
  exact W.iret (v := (nI (0 + ((keysT T).drop 0).countP (crT T)))) hx hb hr (fun t ht hW => ⟨_, rfl, by rw [List.drop_zero, Nat.zero_add, ckn_count hb0], ht⟩) (fun q hq => absurd hq List.not_mem_nil) dX1_crookedCompanies_39

theorem lg_gt {x y : Int64} : 0 < lg_cmp x y ↔ y < x := by
  unfold lg_cmp
  split
  · rename_i h; exact ⟨fun _ => h, fun _ => by decide⟩
  · rename_i h; split
    · exact ⟨fun q => absurd q (by decide), fun q => absurd q h⟩
    · exact ⟨fun q => absurd q (by decide), fun q => absurd q h⟩
set_option maxHeartbeats 4000000 in
set_option maxRecDepth 100000 in
theorem L_X1_allowedDepth {p : Program} {l : Launch} {e : Env} {R : Room} {s : State} {m : MethodId} {args : Array Value} {below : List Frame} {meth : Method} {c : Code} {Q : State → Prop} {cells slots : Nat} {H : Heap} {locs : List Loc} (hx : p.tables.exec = Jvm.exec) (hb : c.code = cX1_allowedDepth) (hml : c.maxLocals = 6) (hts : ∀ w ∈ wsX1_allowedDepth, w.before args s = true) (hown : s.vm.findClass RX1 = some m.cls) {n : Nat} (hn : n ≤ 151) : ∀ (f d : Nat), d + f = lim n → (∀ ls, lv_has ls 6 [(5, .int (pd (lim n))), (3, .long (lN (n * 2 ^ (lim n)))), (1, .long (lN (3 ^ (lim n)))), (0, .int (nI n))] → W p l e R s m args below meth c H locs cells slots Q (F0 m 39 ls [])) → ∀ ls, lv_has ls 6 [(5, .int (pd d)), (3, .long (lN (n * 2 ^ d))), (1, .long (lN (3 ^ d))), (0, .int (nI n))] → W p l e R s m args below meth c H locs cells slots Q (F0 m 8 ls []) := by
  obtain ⟨l1, l2, l3⟩ := lim_spec hn
  have hp3 : ∀ d, d ≤ 13 → 3 ^ d ≤ 1594323 := fun d hd => Nat.le_trans (Nat.pow_le_pow_right (by decide) hd) (by decide)
  have hp2 : ∀ d, d ≤ 13 → n * 2 ^ d ≤ 1236992 := fun d hd => Nat.le_trans (Nat.mul_le_mul hn (Nat.pow_le_pow_right (by decide) hd)) (by decide)
  intro f
  induction f with
  | zero =>
    intro d hd kk ls hl
    have hd0 : d = lim n := by omega
    subst hd0
    have hx2 := l2
    have hb3 := hp3 _ l1
    have hb2 := hp2 _ l1
    refine lv_iload hx hb dX1_allowedDepth_8 (lv_at hl 0 rfl) ?_
    refine lv_bipush (v := nI 30) hx hb dX1_allowedDepth_10 (by decide) ?_
    refine lv_icmp_ge (tgt := 39) hx hb dX1_allowedDepth_12 (by decide) (fun c12 => ?_) (fun c12 => ?_)
    · exact absurd c12 (pd_lt (by omega))
    · refine lv_lload_n hx hb dX1_allowedDepth_15 rfl (lv_at hl 2 rfl) ?_
      refine lv_lload_n hx hb dX1_allowedDepth_16 rfl (lv_at hl 1 rfl) ?_
      refine zr_lcmp hx hb dX1_allowedDepth_17 ?_
      refine lv_if_gt (tgt := 39) hx hb dX1_allowedDepth_18 (by decide) (fun c18 => ?_) (fun c18 => ?_)
      · exact kk _ hl
      · exact absurd (lg_gt.mpr ((pk_lLT (by omega) (by omega)).mpr hx2)) c18
  | succ f ih =>
    intro d hd kk ls hl
    have hx3 := l3 d (by omega)
    have hb3 := hp3 d (by omega)
    have hb2 := hp2 d (by omega)
    refine lv_iload hx hb dX1_allowedDepth_8 (lv_at hl 0 rfl) ?_
    refine lv_bipush (v := nI 30) hx hb dX1_allowedDepth_10 (by decide) ?_
    refine lv_icmp_ge (tgt := 39) hx hb dX1_allowedDepth_12 (by decide) (fun c12 => ?_) (fun c12 => ?_)
    · exact absurd c12 (pd_lt (by omega))
    · refine lv_lload_n hx hb dX1_allowedDepth_15 rfl (lv_at hl 2 rfl) ?_
      refine lv_lload_n hx hb dX1_allowedDepth_16 rfl (lv_at hl 1 rfl) ?_
      refine zr_lcmp hx hb dX1_allowedDepth_17 ?_
      refine lv_if_gt (tgt := 39) hx hb dX1_allowedDepth_18 (by decide) (fun c18 => ?_) (fun c18 => ?_)
      · exact absurd c18 (by rw [lg_gt, pk_lLT (by omega) (by omega)]; omega)
      · refine lv_iinc (v := (pd d) + nI 1) (lv' := [(5, .int ((pd d) + nI 1)), (3, .long (lN (n * 2 ^ d))), (1, .long (lN (3 ^ d))), (0, .int (nI n))]) hx hb dX1_allowedDepth_21 hl (k := 0) rfl rfl (by decide) rfl (fun ls hl => ?_)
        refine lv_lload_n hx hb dX1_allowedDepth_24 rfl (lv_at hl 2 rfl) ?_
        refine lv_ldc2 hx hb hown (v := 3) (hts (.constantLong RX1 170 (3)) (by decide +kernel)) dX1_allowedDepth_25 ?_
        refine lv_lmul hx hb dX1_allowedDepth_28 ?_
        refine lv_lstore_n (lv' := [(1, .long ((lN (3 ^ d)) * 3)), (5, .int ((pd d) + nI 1)), (3, .long (lN (n * 2 ^ d))), (0, .int (nI n))]) hx hb dX1_allowedDepth_29 rfl hl (by decide) rfl (fun ls hl => ?_)
        refine lv_lload_n hx hb dX1_allowedDepth_30 rfl (lv_at hl 2 rfl) ?_
        refine lv_ldc2 hx hb hown (v := 2) (hts (.constantLong RX1 172 (2)) (by decide +kernel)) dX1_allowedDepth_31 ?_
        refine lv_lmul hx hb dX1_allowedDepth_34 ?_
        refine lv_lstore_n (lv' := [(3, .long ((lN (n * 2 ^ d)) * 2)), (1, .long ((lN (3 ^ d)) * 3)), (5, .int ((pd d) + nI 1)), (0, .int (nI n))]) hx hb dX1_allowedDepth_35 rfl hl (by decide) rfl (fun ls hl => ?_)
        refine lv_goto (tgt := 8) hx hb dX1_allowedDepth_36 (by decide) ?_
        exact ih (d + 1) (by omega) kk _ (lv_re (lv_sub hl [2, 0, 1, 3] rfl) (by rw [pd_1, show (3 : Int64) = lN 3 from rfl, show (2 : Int64) = lN 2 from rfl, lN_mul, lN_mul, Nat.pow_succ, Nat.pow_succ, Nat.mul_assoc]; rfl))
set_option maxHeartbeats 4000000 in
set_option maxRecDepth 100000 in
/-- allowedDepth(n) -/
theorem c_X1_allowedDepth (l : Launch) {n : Nat} (hn : n ≤ 151) : Met l yX1_allowedDepth wsX1_allowedDepth ({ frames := 0, cells := 0, slots := 0, locals := 0 } : Room) (va_Pc [.int (nI n)] (fun _ => True)) (vp_Si (fun r => r = pd (lim n))) 0 0 (fun _ => False) := by
  refine Met.ofW (cc := cX1_allowedDepth) (maxL := 6) (ret := (some .int)) (by decide) rfl ?_
  intro p e s m args below meth c s₁ B hml hv
  obtain ⟨rfl, -⟩ := hv
  have hx := B.exec
  have hb := B.bytes
  have hr := B.returns
  have hts := atoms_spec (ws := wsX1_allowedDepth) B.pre
  have hown : s.vm.findClass RX1 = some m.cls := findClass_of_methodNamed B.named
  have hlocks := B.notSynchronized
  have hl := lv_entry ([.int (nI n)]) (n := 6) (Nat.le_of_ble_eq_true rfl)
  rw [lg_entry_eq]
  generalize (lg_sl ([.int (nI n)]) ++ List.replicate (6 - (lg_sl ([.int (nI n)])).length) Slot.unset).toArray = ls at hl ⊢
  have hl : lv_has ls 6 [(0, .int (nI n))] := hl
  refine lv_lconst (v := lN 1) hx hb dX1_allowedDepth_0 (by decide) ?_
  refine lv_lstore_n (lv' := [(1, .long (lN 1)), (0, .int (nI n))]) hx hb dX1_allowedDepth_1 rfl hl (by decide) rfl (fun ls hl => ?_)
  refine lv_iload_n hx hb dX1_allowedDepth_2 rfl (lv_at hl 1 rfl) ?_
  refine lv_i2l hx hb dX1_allowedDepth_3 rfl ?_
  refine lv_lstore_n (lv' := [(3, .long (nI n).toInt64), (1, .long (lN 1)), (0, .int (nI n))]) hx hb dX1_allowedDepth_4 rfl hl (by decide) rfl (fun ls hl => ?_)
  refine lv_iconst (v := (-1)) hx hb dX1_allowedDepth_5 (by decide) ?_
  refine lv_istore (lv' := [(5, .int (-1)), (3, .long (nI n).toInt64), (1, .long (lN 1)), (0, .int (nI n))]) hx hb dX1_allowedDepth_6 hl (by decide) rfl (fun ls hl => ?_)
  refine L_X1_allowedDepth hx hb hml hts hown hn (lim n) 0 (Nat.zero_add _) (fun ls hl => ?_) _ (lv_re hl (by rw [nI_l (by omega)]; simp [pd]; rfl))
  refine lv_iload hx hb dX1_allowedDepth_39 (lv_at hl 0 rfl) ?_
  exact W.iret (v := (pd (lim n))) hx hb hr (fun t ht hW => ⟨_, rfl, rfl, ht⟩) (fun q hq => absurd hq List.not_mem_nil) dX1_allowedDepth_41

