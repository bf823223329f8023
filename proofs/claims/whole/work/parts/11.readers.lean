/-! READERS of the class -/
/-- the keys are closed: whoever is named is there -/
def Cl (K : List Nat) (g : Nat → Nd) : Prop := ∀ k ∈ K, k < 1000 ∧ (∀ j, (g k).1 = some j → j ∈ K) ∧ (∀ j, (g k).2.1 = some j → j ∈ K) ∧ ∀ j, (g k).2.2.1 = some j → j ∈ K
theorem Cl.lt {K : List Nat} {g : Nat → Nd} (h : Cl K g) {k : Nat} (hk : k ∈ K) : k < 1000 := (h k hk).1
theorem Cl.up {K : List Nat} {g : Nat → Nd} (h : Cl K g) : ∀ {ks : List Nat} {p : Option Nat}, UpC g p ks → (∀ k, p = some k → k ∈ K) → ∀ j ∈ ks, j ∈ K
  | [], _, _, _ => fun j hj => by cases hj
  | k :: ks, p, hu, hp => fun j hj => by
    have hk := hp k hu.1
    rcases List.mem_cons.mp hj with q | q
    · rw [q]; exact hk
    · exact Cl.up h hu.2 (h k hk).2.1 j q
set_option maxHeartbeats 4000000 in
set_option maxRecDepth 100000 in
theorem L_X0_depth {D : va_G} {cA cZ cI : ClassId} {x ln : Nat} {n : Int32} {tp : Option Nat} {mo dr ds : Int32} {li : Nat → Option Nat} {K : List Nat} {ad : Nat → Nat} {g : Nat → Nd} {p : Program} {l : Launch} {e : Env} {R : Room} {s : State} {m : MethodId} {args : Array Value} {below : List Frame} {meth : Method} {c : Code} {Q : State → Prop} {cells slots : Nat} {H : Heap} {locs : List Loc} (hx : p.tables.exec = Jvm.exec) (hb : c.code = cX0_depth) (hml : c.maxLocals = 3) (hts : ∀ w ∈ wsX0_depth, w.before args s = true) (hown : s.vm.findClass RX0 = some m.cls) (hG : GK D (tysA cA cZ cI) s) (hP : va_P D vwCl (cw x ln cA n tp mo dr ds li K ad g) H) {q0 : Nat} : ∀ {ks : List Nat} {p0 : Option Nat} {d : Nat}, UpC g p0 ks → (∀ j ∈ ks, j ∈ K) → (∀ ls, lv_has ls 3 [(2, .null), (1, .int (nI (d + ks.length))), (0, .ref q0)] → W p l e R s m args below meth c H locs cells slots Q (F0 m 22 ls [])) → ∀ ls, lv_has ls 3 [(2, va_rf (p0.map ad)), (1, .int (nI d)), (0, .ref q0)] → W p l e R s m args below meth c H locs cells slots Q (F0 m 7 ls []) := by
  intro ks
  induction ks with
  | nil =>
    intro p0 d hu hin kk ls hl
    have hu : p0 = none := hu
    subst hu
    have hl : lv_has ls 3 [(2, .null), (1, .int (nI d)), (0, .ref q0)] := hl
    refine lv_aload_nN hx hb dX0_depth_7 rfl (lv_at hl 0 rfl) ?_
    refine lv_ifnullN (tgt := 22) hx hb dX0_depth_8 (by decide) ?_
    exact kk _ hl
  | cons k ks ih =>
    intro p0 d hu hin kk ls hl
    obtain ⟨rfl, hu2⟩ := id hu
    have hl : lv_has ls 3 [(2, .ref (ad k)), (1, .int (nI d)), (0, .ref q0)] := hl
    refine lv_aload_n hx hb dX0_depth_7 rfl (lv_at hl 0 rfl) ?_
    refine lv_ifnull hx hb dX0_depth_8 ?_
    refine lv_iinc (v := nI (d + 1)) (lv' := [(1, .int (nI (d + 1))), (2, .ref (ad k)), (0, .ref q0)]) hx hb dX0_depth_11 hl (k := 1) rfl (nI_add d 1) (by decide) rfl (fun ls hl => ?_)
    refine lv_aload_n hx hb dX0_depth_14 rfl (lv_at hl 1 rfl) ?_
    obtain ⟨i0, hi0⟩ := cw_s (x := x) (ln := ln) (cA := cA) (n := n) (tp := tp) (mo := mo) (dr := dr) (ds := ds) (li := li) (ad := ad) (g := g) ((hin k List.mem_cons_self) : k ∈ K)
    refine va_get (D := D) (ci := 0) (v := va_rf ((g k).1.map ad)) (C := RX0) (T := TX0) (N := 5) hx hb hts (by decide +kernel) hown hG.1 hP i0 hi0 rfl 1 (by decide) (hts (.fieldLink RX0 23 "LopsidedRanks$Soldier" "above" "LLopsidedRanks$Soldier;") (by decide +kernel)) (fun _ h9 => h9) rfl dX0_depth_15 ?_
    refine zr_astore_n (lv' := [(2, va_rf ((g k).1.map ad)), (1, .int (nI (d + 1))), (0, .ref q0)]) hx hb dX0_depth_18 rfl hl (by decide) rfl (fun ls hl => ?_)
    refine lv_goto (tgt := 7) hx hb dX0_depth_19 (by decide) ?_
    exact ih (d := d + 1) hu.2 (fun j hj => hin j (List.mem_cons_of_mem _ hj)) (by rw [show d + 1 + ks.length = d + (ks.length + 1) by omega]; exact kk) _ (lv_sub hl [0, 1, 2] rfl)
set_option maxHeartbeats 4000000 in
set_option maxRecDepth 100000 in
/-- Soldier.depth() -/
theorem c_X0_depth (l : Launch) {D : va_G} {cA cZ cI : ClassId} {x ln : Nat} {n : Int32} {tp : Option Nat} {mo dr ds : Int32} {li : Nat → Option Nat} {K : List Nat} {ad : Nat → Nat} {g : Nat → Nd} {k : Nat} {ks : List Nat} (hk : k ∈ K) (hu : UpC g (g k).1 ks) (hin : ∀ j ∈ ks, j ∈ K) : Met l yX0_depth wsX0_depth ({ frames := 0, cells := 0, slots := 0, locals := 0 } : Room) (PcR D (tysA cA cZ cI) (cw x ln cA n tp mo dr ds li K ad g) [.ref (ad k)]) (vp_Si (fun r => r = nI ks.length)) 0 0 (fun _ => False) := by
  refine Met.ofW (cc := cX0_depth) (maxL := 3) (ret := (some .int)) (by decide) rfl ?_
  intro p e s m args below meth c s₁ B hml hv
  obtain ⟨rfl, hP, hG⟩ := hv
  have hx := B.exec
  have hb := B.bytes
  have hr := B.returns
  have hts := atoms_spec (ws := wsX0_depth) B.pre
  have hown : s.vm.findClass RX0 = some m.cls := findClass_of_methodNamed B.named
  have hlocks := B.notSynchronized
  have hl := lv_entry ([.ref (ad k)]) (n := 3) (Nat.le_of_ble_eq_true rfl)
  rw [lg_entry_eq]
  generalize (lg_sl ([.ref (ad k)]) ++ List.replicate (3 - (lg_sl ([.ref (ad k)])).length) Slot.unset).toArray = ls at hl ⊢
  have hl : lv_has ls 3 [(0, .ref (ad k))] := hl
  refine lv_iconst (v := nI 0) hx hb dX0_depth_0 (by decide) ?_
  refine lv_istore_n (lv' := [(1, .int (nI 0)), (0, .ref (ad k))]) hx hb dX0_depth_1 rfl hl (by decide) rfl (fun ls hl => ?_)
  refine lv_aload_n hx hb dX0_depth_2 rfl (lv_at hl 1 rfl) ?_
  obtain ⟨i0, hi0⟩ := cw_s (x := x) (ln := ln) (cA := cA) (n := n) (tp := tp) (mo := mo) (dr := dr) (ds := ds) (li := li) (ad := ad) (g := g) (hk : k ∈ K)
  refine va_get (D := D) (ci := 0) (v := va_rf ((g k).1.map ad)) (C := RX0) (T := TX0) (N := 5) hx hb hts (by decide +kernel) hown hG.1 hP i0 hi0 rfl 1 (by decide) (hts (.fieldLink RX0 23 "LopsidedRanks$Soldier" "above" "LLopsidedRanks$Soldier;") (by decide +kernel)) (fun _ h9 => h9) rfl dX0_depth_3 ?_
  refine zr_astore_n (lv' := [(2, va_rf ((g k).1.map ad)), (1, .int (nI 0)), (0, .ref (ad k))]) hx hb dX0_depth_6 rfl hl (by decide) rfl (fun ls hl => ?_)
  refine L_X0_depth (ks := ks) (d := 0) hx hb hml hts hown hG hP hu hin (fun ls hl => ?_) _ (lv_sub hl [0, 1, 2] rfl)
  refine lv_iload_n hx hb dX0_depth_22 rfl (lv_at hl 1 rfl) ?_
  exact W.iret (v := (nI (0 + ks.length))) hx hb hr (fun t ht hW => ⟨_, rfl, by rw [Nat.zero_add], ht⟩) (fun q hq => absurd hq List.not_mem_nil) dX0_depth_23

theorem PcT.blind {av : List Value} : FrameBlind (va_Pc av (fun _ => True)) := fun _ _ _ _ q => ⟨q.1, trivial⟩
theorem PcT.at {av : List Value} {s : State} {H : Heap} : ∀ U : State, U.heap = H → s.WarmedH U.vm → va_Pc av (fun _ => True) av.toArray U := fun _ _ _ => ⟨rfl, trivial⟩
theorem b2i_nar (b : Bool) : narrow .boolean (.int (b2i b)) = .int (b2i b) := by cases b <;> rfl
set_option maxHeartbeats 4000000 in
set_option maxRecDepth 100000 in
/-- Soldier.hasCrookedCompany() -/
theorem c_X0_hasCrookedCompany (l : Launch) {D : va_G} {cA cZ cI : ClassId} {x ln : Nat} {n : Int32} {tp : Option Nat} {mo dr ds : Int32} {li : Nat → Option Nat} {K : List Nat} {ad : Nat → Nat} {g : Nat → Nd} {k a b : Nat} (hcl : Cl K g) (hk : k ∈ K) (ha : coOf g (g k).2.1 = nI a) (hb0 : coOf g (g k).2.2.1 = nI b) (ha1 : a < 10000) (hb1 : b < 10000) : Met l yX0_hasCrookedCompany wsX0_hasCrookedCompany ({ frames := 1, cells := 0, slots := 0, locals := 30 } : Room) (PcR D (tysA cA cZ cI) (cw x ln cA n tp mo dr ds li K ad g) [.ref (ad k)]) (vp_Si (fun r => r = b2i (crk a b))) 0 0 (fun _ => False) := by
  refine Met.ofW (cc := cX0_hasCrookedCompany) (maxL := 1) (ret := (some .boolean)) (by decide) rfl ?_
  intro p e s m args below meth c s₁ B hml hv
  obtain ⟨rfl, hP, hG⟩ := hv
  have hx := B.exec
  have hb := B.bytes
  have hr := B.returns
  have hts := atoms_spec (ws := wsX0_hasCrookedCompany) B.pre
  have hown : s.vm.findClass RX0 = some m.cls := findClass_of_methodNamed B.named
  have hlocks := B.notSynchronized
  have hl := lv_entry ([.ref (ad k)]) (n := 1) (Nat.le_of_ble_eq_true rfl)
  rw [lg_entry_eq]
  generalize (lg_sl ([.ref (ad k)]) ++ List.replicate (1 - (lg_sl ([.ref (ad k)])).length) Slot.unset).toArray = ls at hl ⊢
  have hl : lv_has ls 1 [(0, .ref (ad k))] := hl
  refine lv_aload_n hx hb dX0_hasCrookedCompany_0 rfl (lv_at hl 0 rfl) ?_
  obtain ⟨i0, hi0⟩ := cw_s (x := x) (ln := ln) (cA := cA) (n := n) (tp := tp) (mo := mo) (dr := dr) (ds := ds) (li := li) (ad := ad) (g := g) (hk : k ∈ K)
  refine va_get (D := D) (ci := 0) (v := va_rf ((g k).2.1.map ad)) (C := RX0) (T := TX0) (N := 5) hx hb hts (by decide +kernel) hown hG.1 hP i0 hi0 rfl 2 (by decide) (hts (.fieldLink RX0 16 "LopsidedRanks$Soldier" "left" "LLopsidedRanks$Soldier;") (by decide +kernel)) (fun _ h9 => h9) rfl dX0_hasCrookedCompany_1 ?_
  refine vp_callSi (va_Run.run (va_runSN (As := [va_rf ((g k).2.1.map ad)]) (rest := []) ⟨hx, hb, hml, hown, hts⟩ (c_X1_companyOf l (o := (g k).2.1) (hcl k hk).2.2.1) ⟨va_cnB 1 hts gX0_hasCrookedCompany_X1_companyOf_n26 rfl rfl rfl hG.2.1 (hts _ (by decide +kernel)) (by decide +kernel) ⟨Nat.le_of_ble_eq_true rfl, Nat.le_of_ble_eq_true rfl⟩, hts _ (by decide +kernel), trivial⟩ ⟨PcR.blind, PcR.at hP hG⟩ rfl rfl hl.1 rfl (lv_room (Nat.le_of_ble_eq_true rfl)) dX0_hasCrookedCompany_4 ⟨Nat.le_of_ble_eq_true rfl, Nat.le_of_ble_eq_true rfl⟩)) (fun r4 q4 => ?_)
  subst q4
  refine zr_eqi ha ?_
  refine lv_aload_n hx hb dX0_hasCrookedCompany_7 rfl (lv_at hl 0 rfl) ?_
  obtain ⟨i1, hi1⟩ := cw_s (x := x) (ln := ln) (cA := cA) (n := n) (tp := tp) (mo := mo) (dr := dr) (ds := ds) (li := li) (ad := ad) (g := g) (hk : k ∈ K)
  refine va_get (D := D) (ci := 0) (v := va_rf ((g k).2.2.1.map ad)) (C := RX0) (T := TX0) (N := 5) hx hb hts (by decide +kernel) hown hG.1 hP i1 hi1 rfl 3 (by decide) (hts (.fieldLink RX0 20 "LopsidedRanks$Soldier" "right" "LLopsidedRanks$Soldier;") (by decide +kernel)) (fun _ h9 => h9) rfl dX0_hasCrookedCompany_8 ?_
  refine vp_callSi (va_Run.run (va_runSN (As := [va_rf ((g k).2.2.1.map ad)]) (rest := [.int (nI a)]) ⟨hx, hb, hml, hown, hts⟩ (c_X1_companyOf l (o := (g k).2.2.1) (hcl k hk).2.2.2) ⟨va_cnB 1 hts gX0_hasCrookedCompany_X1_companyOf_n26 rfl rfl rfl hG.2.1 (hts _ (by decide +kernel)) (by decide +kernel) ⟨Nat.le_of_ble_eq_true rfl, Nat.le_of_ble_eq_true rfl⟩, hts _ (by decide +kernel), trivial⟩ ⟨PcR.blind, PcR.at hP hG⟩ rfl rfl hl.1 rfl (lv_room (Nat.le_of_ble_eq_true rfl)) dX0_hasCrookedCompany_11 ⟨Nat.le_of_ble_eq_true rfl, Nat.le_of_ble_eq_true rfl⟩)) (fun r11 q11 => ?_)
  subst q11
  refine zr_eqi hb0 ?_
  refine vp_callSi (va_Run.run (va_runSN (As := [.int (nI a), .int (nI b)]) (rest := []) ⟨hx, hb, hml, hown, hts⟩ (c_X1_isCrooked l ha1 hb1) ⟨va_cnB 2 hts gX0_hasCrookedCompany_X1_isCrooked_n32 rfl rfl rfl hG.2.2 (hts _ (by decide +kernel)) (by decide +kernel) ⟨Nat.le_of_ble_eq_true rfl, Nat.le_of_ble_eq_true rfl⟩, hts _ (by decide +kernel), trivial⟩ ⟨PcT.blind, PcT.at⟩ rfl rfl hl.1 rfl (lv_room (Nat.le_of_ble_eq_true rfl)) dX0_hasCrookedCompany_14 ⟨Nat.le_of_ble_eq_true rfl, Nat.le_of_ble_eq_true rfl⟩)) (fun r14 q14 => ?_)
  subst q14
  exact W.zret (v := (b2i (crk a b))) hx hb hr (b2i_nar _) (fun t ht hW => ⟨_, rfl, rfl, ht⟩) (fun q hq => absurd hq List.not_mem_nil) dX0_hasCrookedCompany_17

set_option maxHeartbeats 4000000 in
set_option maxRecDepth 100000 in
/-- Soldier.wouldBeCrookedWith(h) -/
theorem c_X0_wouldBeCrookedWith (l : Launch) {D : va_G} {cA cZ cI : ClassId} {x ln : Nat} {n : Int32} {tp : Option Nat} {mo dr ds : Int32} {li : Nat → Option Nat} {K : List Nat} {ad : Nat → Nat} {g : Nat → Nd} {k a b h : Nat} (hcl : Cl K g) (hk : k ∈ K) (hkn : k < 1000) (hh : h < 1000) (ha : coOf g (g k).2.1 = nI a) (hb0 : coOf g (g k).2.2.1 = nI b) (ha1 : a < 9000) (hb1 : b < 9000) : Met l yX0_wouldBeCrookedWith wsX0_wouldBeCrookedWith ({ frames := 1, cells := 0, slots := 0, locals := 30 } : Room) (PcR D (tysA cA cZ cI) (cw x ln cA n tp mo dr ds li K ad g) [.ref (ad k), .int (nI h)]) (vp_Si (fun r => r = b2i (if h < k then crk (a + 1) b else crk a (b + 1)))) 0 0 (fun _ => False) := by
  refine Met.ofW (cc := cX0_wouldBeCrookedWith) (maxL := 3) (ret := (some .boolean)) (by decide) rfl ?_
  intro p e s m args below meth c s₁ B hml hv
  obtain ⟨rfl, hP, hG⟩ := hv
  have hx := B.exec
  have hb := B.bytes
  have hr := B.returns
  have hts := atoms_spec (ws := wsX0_wouldBeCrookedWith) B.pre
  have hown : s.vm.findClass RX0 = some m.cls := findClass_of_methodNamed B.named
  have hlocks := B.notSynchronized
  have hl := lv_entry ([.ref (ad k), .int (nI h)]) (n := 3) (Nat.le_of_ble_eq_true rfl)
  rw [lg_entry_eq]
  generalize (lg_sl ([.ref (ad k), .int (nI h)]) ++ List.replicate (3 - (lg_sl ([.ref (ad k), .int (nI h)])).length) Slot.unset).toArray = ls at hl ⊢
  have hl : lv_has ls 3 [(0, .ref (ad k)), (1, .int (nI h))] := hl
  refine lv_iload_n hx hb dX0_wouldBeCrookedWith_0 rfl (lv_at hl 1 rfl) ?_
  refine lv_aload_n hx hb dX0_wouldBeCrookedWith_1 rfl (lv_at hl 0 rfl) ?_
  obtain ⟨i0, hi0⟩ := cw_s (x := x) (ln := ln) (cA := cA) (n := n) (tp := tp) (mo := mo) (dr := dr) (ds := ds) (li := li) (ad := ad) (g := g) (hk : k ∈ K)
  refine va_get (D := D) (ci := 0) (v := .int (nI k)) (C := RX0) (T := TX0) (N := 5) hx hb hts (by decide +kernel) hown hG.1 hP i0 hi0 rfl 0 (by decide) (hts (.fieldLink RX0 7 "LopsidedRanks$Soldier" "height" "I") (by decide +kernel)) (fun _ h9 => h9) rfl dX0_wouldBeCrookedWith_2 ?_
  refine lv_icmp_ge (tgt := 12) hx hb dX0_wouldBeCrookedWith_5 (by decide) (fun c5 => ?_) (fun c5 => ?_)
  · rw [nI_leI (by omega) (by omega)] at c5
    refine lv_iconst (v := nI 0) hx hb dX0_wouldBeCrookedWith_12 (by decide) ?_
    refine lv_istore_n (lv' := [(2, .int (nI 0)), (0, .ref (ad k)), (1, .int (nI h))]) hx hb dX0_wouldBeCrookedWith_13 rfl hl (by decide) rfl (fun ls hl => ?_)
    refine lv_aload_n hx hb dX0_wouldBeCrookedWith_14 rfl (lv_at hl 1 rfl) ?_
    obtain ⟨i1, hi1⟩ := cw_s (x := x) (ln := ln) (cA := cA) (n := n) (tp := tp) (mo := mo) (dr := dr) (ds := ds) (li := li) (ad := ad) (g := g) (hk : k ∈ K)
    refine va_get (D := D) (ci := 0) (v := va_rf ((g k).2.1.map ad)) (C := RX0) (T := TX0) (N := 5) hx hb hts (by decide +kernel) hown hG.1 hP i1 hi1 rfl 2 (by decide) (hts (.fieldLink RX0 16 "LopsidedRanks$Soldier" "left" "LLopsidedRanks$Soldier;") (by decide +kernel)) (fun _ h9 => h9) rfl dX0_wouldBeCrookedWith_15 ?_
    refine vp_callSi (va_Run.run (va_runSN (As := [va_rf ((g k).2.1.map ad)]) (rest := []) ⟨hx, hb, hml, hown, hts⟩ (c_X1_companyOf l (o := (g k).2.1) (hcl k hk).2.2.1) ⟨va_cnB 1 hts gX0_wouldBeCrookedWith_X1_companyOf_n26 rfl rfl rfl hG.2.1 (hts _ (by decide +kernel)) (by decide +kernel) ⟨Nat.le_of_ble_eq_true rfl, Nat.le_of_ble_eq_true rfl⟩, hts _ (by decide +kernel), trivial⟩ ⟨PcR.blind, PcR.at hP hG⟩ rfl rfl hl.1 rfl (lv_room (Nat.le_of_ble_eq_true rfl)) dX0_wouldBeCrookedWith_18 ⟨Nat.le_of_ble_eq_true rfl, Nat.le_of_ble_eq_true rfl⟩)) (fun r18 q18 => ?_)
    subst q18
    refine zr_eqi ha ?_
    refine lv_iload_n hx hb dX0_wouldBeCrookedWith_21 rfl (lv_at hl 0 rfl) ?_
    refine lv_iadd hx hb dX0_wouldBeCrookedWith_22 ?_
    refine zr_eqi (nI_add a 0) ?_
    refine lv_aload_n hx hb dX0_wouldBeCrookedWith_23 rfl (lv_at hl 1 rfl) ?_
    obtain ⟨i2, hi2⟩ := cw_s (x := x) (ln := ln) (cA := cA) (n := n) (tp := tp) (mo := mo) (dr := dr) (ds := ds) (li := li) (ad := ad) (g := g) (hk : k ∈ K)
    refine va_get (D := D) (ci := 0) (v := va_rf ((g k).2.2.1.map ad)) (C := RX0) (T := TX0) (N := 5) hx hb hts (by decide +kernel) hown hG.1 hP i2 hi2 rfl 3 (by decide) (hts (.fieldLink RX0 20 "LopsidedRanks$Soldier" "right" "LLopsidedRanks$Soldier;") (by decide +kernel)) (fun _ h9 => h9) rfl dX0_wouldBeCrookedWith_24 ?_
    refine vp_callSi (va_Run.run (va_runSN (As := [va_rf ((g k).2.2.1.map ad)]) (rest := [.int (nI (a + 0))]) ⟨hx, hb, hml, hown, hts⟩ (c_X1_companyOf l (o := (g k).2.2.1) (hcl k hk).2.2.2) ⟨va_cnB 1 hts gX0_wouldBeCrookedWith_X1_companyOf_n26 rfl rfl rfl hG.2.1 (hts _ (by decide +kernel)) (by decide +kernel) ⟨Nat.le_of_ble_eq_true rfl, Nat.le_of_ble_eq_true rfl⟩, hts _ (by decide +kernel), trivial⟩ ⟨PcR.blind, PcR.at hP hG⟩ rfl rfl hl.1 rfl (lv_room (Nat.le_of_ble_eq_true rfl)) dX0_wouldBeCrookedWith_27 ⟨Nat.le_of_ble_eq_true rfl, Nat.le_of_ble_eq_true rfl⟩)) (fun r27 q27 => ?_)
    subst q27
    refine zr_eqi hb0 ?_
    refine lv_iconst (v := nI 1) hx hb dX0_wouldBeCrookedWith_30 (by decide) ?_
    refine lv_iadd hx hb dX0_wouldBeCrookedWith_31 ?_
    refine zr_eqi (nI_add b 1) ?_
    refine lv_iload_n hx hb dX0_wouldBeCrookedWith_32 rfl (lv_at hl 0 rfl) ?_
    refine lv_isub hx hb dX0_wouldBeCrookedWith_33 ?_
    refine zr_eqi (pk_sub (a := b + 1) (b := 0) (by omega)) ?_
    refine vp_callSi (va_Run.run (va_runSN (As := [.int (nI (a + 0)), .int (nI ((b + 1) - 0))]) (rest := []) ⟨hx, hb, hml, hown, hts⟩ (c_X1_isCrooked l (a := a + 0) (b := (b + 1) - 0) (by omega) (by omega)) ⟨va_cnB 2 hts gX0_wouldBeCrookedWith_X1_isCrooked_n32 rfl rfl rfl hG.2.2 (hts _ (by decide +kernel)) (by decide +kernel) ⟨Nat.le_of_ble_eq_true rfl, Nat.le_of_ble_eq_true rfl⟩, hts _ (by decide +kernel), trivial⟩ ⟨PcT.blind, PcT.at⟩ rfl rfl hl.1 rfl (lv_room (Nat.le_of_ble_eq_true rfl)) dX0_wouldBeCrookedWith_34 ⟨Nat.le_of_ble_eq_true rfl, Nat.le_of_ble_eq_true rfl⟩)) (fun r34 q34 => ?_)
    subst q34
    exact W.zret (v := (b2i (crk (a + 0) ((b + 1) - 0)))) hx hb hr (b2i_nar _) (fun t ht hW => ⟨_, rfl, by rw [if_neg (by omega)]; rfl, ht⟩) (fun q hq => absurd hq List.not_mem_nil) dX0_wouldBeCrookedWith_37
  · rw [nI_leI (by omega) (by omega)] at c5
    refine lv_iconst (v := nI 1) hx hb dX0_wouldBeCrookedWith_8 (by decide) ?_
    refine lv_goto (tgt := 13) hx hb dX0_wouldBeCrookedWith_9 (by decide) ?_
    refine lv_istore_n (lv' := [(2, .int (nI 1)), (0, .ref (ad k)), (1, .int (nI h))]) hx hb dX0_wouldBeCrookedWith_13 rfl hl (by decide) rfl (fun ls hl => ?_)
    refine lv_aload_n hx hb dX0_wouldBeCrookedWith_14 rfl (lv_at hl 1 rfl) ?_
    obtain ⟨i3, hi3⟩ := cw_s (x := x) (ln := ln) (cA := cA) (n := n) (tp := tp) (mo := mo) (dr := dr) (ds := ds) (li := li) (ad := ad) (g := g) (hk : k ∈ K)
    refine va_get (D := D) (ci := 0) (v := va_rf ((g k).2.1.map ad)) (C := RX0) (T := TX0) (N := 5) hx hb hts (by decide +kernel) hown hG.1 hP i3 hi3 rfl 2 (by decide) (hts (.fieldLink RX0 16 "LopsidedRanks$Soldier" "left" "LLopsidedRanks$Soldier;") (by decide +kernel)) (fun _ h9 => h9) rfl dX0_wouldBeCrookedWith_15 ?_
    refine vp_callSi (va_Run.run (va_runSN (As := [va_rf ((g k).2.1.map ad)]) (rest := []) ⟨hx, hb, hml, hown, hts⟩ (c_X1_companyOf l (o := (g k).2.1) (hcl k hk).2.2.1) ⟨va_cnB 1 hts gX0_wouldBeCrookedWith_X1_companyOf_n26 rfl rfl rfl hG.2.1 (hts _ (by decide +kernel)) (by decide +kernel) ⟨Nat.le_of_ble_eq_true rfl, Nat.le_of_ble_eq_true rfl⟩, hts _ (by decide +kernel), trivial⟩ ⟨PcR.blind, PcR.at hP hG⟩ rfl rfl hl.1 rfl (lv_room (Nat.le_of_ble_eq_true rfl)) dX0_wouldBeCrookedWith_18 ⟨Nat.le_of_ble_eq_true rfl, Nat.le_of_ble_eq_true rfl⟩)) (fun r18 q18 => ?_)
    subst q18
    refine zr_eqi ha ?_
    refine lv_iload_n hx hb dX0_wouldBeCrookedWith_21 rfl (lv_at hl 0 rfl) ?_
    refine lv_iadd hx hb dX0_wouldBeCrookedWith_22 ?_
    refine zr_eqi (nI_add a 1) ?_
    refine lv_aload_n hx hb dX0_wouldBeCrookedWith_23 rfl (lv_at hl 1 rfl) ?_
    obtain ⟨i4, hi4⟩ := cw_s (x := x) (ln := ln) (cA := cA) (n := n) (tp := tp) (mo := mo) (dr := dr) (ds := ds) (li := li) (ad := ad) (g := g) (hk : k ∈ K)
    refine va_get (D := D) (ci := 0) (v := va_rf ((g k).2.2.1.map ad)) (C := RX0) (T := TX0) (N := 5) hx hb hts (by decide +kernel) hown hG.1 hP i4 hi4 rfl 3 (by decide) (hts (.fieldLink RX0 20 "LopsidedRanks$Soldier" "right" "LLopsidedRanks$Soldier;") (by decide +kernel)) (fun _ h9 => h9) rfl dX0_wouldBeCrookedWith_24 ?_
    refine vp_callSi (va_Run.run (va_runSN (As := [va_rf ((g k).2.2.1.map ad)]) (rest := [.int (nI (a + 1))]) ⟨hx, hb, hml, hown, hts⟩ (c_X1_companyOf l (o := (g k).2.2.1) (hcl k hk).2.2.2) ⟨va_cnB 1 hts gX0_wouldBeCrookedWith_X1_companyOf_n26 rfl rfl rfl hG.2.1 (hts _ (by decide +kernel)) (by decide +kernel) ⟨Nat.le_of_ble_eq_true rfl, Nat.le_of_ble_eq_true rfl⟩, hts _ (by decide +kernel), trivial⟩ ⟨PcR.blind, PcR.at hP hG⟩ rfl rfl hl.1 rfl (lv_room (Nat.le_of_ble_eq_true rfl)) dX0_wouldBeCrookedWith_27 ⟨Nat.le_of_ble_eq_true rfl, Nat.le_of_ble_eq_true rfl⟩)) (fun r27 q27 => ?_)
    subst q27
    refine zr_eqi hb0 ?_
    refine lv_iconst (v := nI 1) hx hb dX0_wouldBeCrookedWith_30 (by decide) ?_
    refine lv_iadd hx hb dX0_wouldBeCrookedWith_31 ?_
    refine zr_eqi (nI_add b 1) ?_
    refine lv_iload_n hx hb dX0_wouldBeCrookedWith_32 rfl (lv_at hl 0 rfl) ?_
    refine lv_isub hx hb dX0_wouldBeCrookedWith_33 ?_
    refine zr_eqi (pk_sub (a := b + 1) (b := 1) (by omega)) ?_
    refine vp_callSi (va_Run.run (va_runSN (As := [.int (nI (a + 1)), .int (nI ((b + 1) - 1))]) (rest := []) ⟨hx, hb, hml, hown, hts⟩ (c_X1_isCrooked l (a := a + 1) (b := (b + 1) - 1) (by omega) (by omega)) ⟨va_cnB 2 hts gX0_wouldBeCrookedWith_X1_isCrooked_n32 rfl rfl rfl hG.2.2 (hts _ (by decide +kernel)) (by decide +kernel) ⟨Nat.le_of_ble_eq_true rfl, Nat.le_of_ble_eq_true rfl⟩, hts _ (by decide +kernel), trivial⟩ ⟨PcT.blind, PcT.at⟩ rfl rfl hl.1 rfl (lv_room (Nat.le_of_ble_eq_true rfl)) dX0_wouldBeCrookedWith_34 ⟨Nat.le_of_ble_eq_true rfl, Nat.le_of_ble_eq_true rfl⟩)) (fun r34 q34 => ?_)
    subst q34
    exact W.zret (v := (b2i (crk (a + 1) ((b + 1) - 1)))) hx hb hr (b2i_nar _) (fun t ht hW => ⟨_, rfl, by rw [if_pos (by omega)]; rfl, ht⟩) (fun q hq => absurd hq List.not_mem_nil) dX0_wouldBeCrookedWith_37

def lnOf (p0 : Option Nat) (ks : List Nat) : Int32 := match p0 with
  | none => -1
  | some _ => nI (ks.length - 1)
set_option maxHeartbeats 4000000 in
set_option maxRecDepth 100000 in
/-- depthOf(p) -/
theorem c_X1_depthOf (l : Launch) {D : va_G} {cA cZ cI : ClassId} {x ln : Nat} {n : Int32} {tp : Option Nat} {mo dr ds : Int32} {li : Nat → Option Nat} {K : List Nat} {ad : Nat → Nat} {g : Nat → Nd} {p0 : Option Nat} {ks : List Nat} (hcl : Cl K g) (hp : ∀ k, p0 = some k → k ∈ K) (hu : UpC g p0 ks) : Met l yX1_depthOf wsX1_depthOf ({ frames := 1, cells := 0, slots := 0, locals := 30 } : Room) (PcR D (tysA cA cZ cI) (cw x ln cA n tp mo dr ds li K ad g) [va_rf (p0.map ad)]) (vp_Si (fun r => r = lnOf p0 ks)) 0 0 (fun _ => False) := by
  refine Met.ofW (cc := cX1_depthOf) (maxL := 1) (ret := (some .int)) (by decide) rfl ?_
  intro p e s m args below meth c s₁ B hml hv
  obtain ⟨rfl, hP, hG⟩ := hv
  have hx := B.exec
  have hb := B.bytes
  have hr := B.returns
  have hts := atoms_spec (ws := wsX1_depthOf) B.pre
  have hown : s.vm.findClass RX1 = some m.cls := findClass_of_methodNamed B.named
  have hlocks := B.notSynchronized
  have hl : lv_has ((lg_sl ([va_rf (p0.map ad)]) ++ List.replicate (1 - (lg_sl ([va_rf (p0.map ad)])).length) Slot.unset).toArray) 1 [(0, va_rf (p0.map ad))] := by cases p0 <;> exact lv_entry _ (Nat.le_of_ble_eq_true rfl)
  rw [lg_entry_eq]
  generalize (lg_sl ([va_rf (p0.map ad)]) ++ List.replicate (1 - (lg_sl ([va_rf (p0.map ad)])).length) Slot.unset).toArray = ls at hl ⊢
  have hl : lv_has ls 1 [(0, va_rf (p0.map ad))] := hl
  refine zr_aload_n hx hb dX1_depthOf_0 rfl (lv_at hl 0 rfl) ?_
  refine zr_ifnonnull (tgt := 8) hx hb dX1_depthOf_1 (by decide) (fun c1 => ?_) (fun k1 c1 => ?_)
  · subst c1
    have hl : lv_has ls 1 [(0, .null)] := hl
    refine lv_iconst (v := (-1)) hx hb dX1_depthOf_4 (by decide) ?_
    refine lv_goto (tgt := 12) hx hb dX1_depthOf_5 (by decide) ?_
    exact W.iret (v := (-1)) hx hb hr (fun t ht hW => ⟨_, rfl, rfl, ht⟩) (fun q hq => absurd hq List.not_mem_nil) dX1_depthOf_12
  · subst c1
    have hl : lv_has ls 1 [(0, .ref (ad k1))] := hl
    cases ks with
    | nil => cases hu
    | cons k9 ks =>
      obtain ⟨e9, hu2⟩ := hu
      cases e9
      refine lv_aload_n hx hb dX1_depthOf_8 rfl (lv_at hl 0 rfl) ?_
      obtain ⟨i0, hi0⟩ := cw_s (x := x) (ln := ln) (cA := cA) (n := n) (tp := tp) (mo := mo) (dr := dr) (ds := ds) (li := li) (ad := ad) (g := g) ((hp k1 rfl) : k1 ∈ K)
      refine vp_callSi (va_Run.run (va_runV (As := []) (rest := []) ⟨hx, hb, hml, hown, hts⟩ (c_X0_depth l (hp k1 rfl) hu2 (hcl.up hu2 (hcl k1 (hp k1 rfl)).2.1)) (cwV 0 hts gX1_depthOf_X0_depth rfl rfl rfl (by decide +kernel) ⟨Nat.le_of_ble_eq_true rfl, Nat.le_of_ble_eq_true rfl⟩) ⟨PcR.blind, va_recv hG.1 hP (ci := 0) (q0 := i0) rfl hi0, PcR.at hP hG⟩ rfl rfl hl.1 rfl (lv_room (Nat.le_of_ble_eq_true rfl)) dX1_depthOf_9 ⟨Nat.le_of_ble_eq_true rfl, Nat.le_of_ble_eq_true rfl⟩)) (fun r9 q9 => ?_)
      subst q9
      exact W.iret (v := (nI ks.length)) hx hb hr (fun t ht hW => ⟨_, rfl, rfl, ht⟩) (fun q hq => absurd hq List.not_mem_nil) dX1_depthOf_12

theorem lnOf_1 {g : Nat → Nd} {p0 : Option Nat} {ks : List Nat} (hu : UpC g p0 ks) : lnOf p0 ks + nI 1 = nI ks.length := by
  cases ks with
  | nil =>
    have hu : p0 = none := hu
    subst hu; rfl
  | cons k ks =>
    obtain ⟨rfl, -⟩ := hu
    show nI (ks.length + 1 - 1) + nI 1 = nI (ks.length + 1)
    rw [nI_add]; rfl
set_option maxHeartbeats 4000000 in
set_option maxRecDepth 100000 in
/-- newDepth(p) -/
theorem c_X1_newDepth (l : Launch) {D : va_G} {cA cZ cI : ClassId} {x ln : Nat} {n : Int32} {tp : Option Nat} {mo dr ds : Int32} {li : Nat → Option Nat} {K : List Nat} {ad : Nat → Nat} {g : Nat → Nd} {p0 : Option Nat} {ks : List Nat} (hcl : Cl K g) (hp : ∀ k, p0 = some k → k ∈ K) (hu : UpC g p0 ks) : Met l yX1_newDepth wsX1_newDepth ({ frames := 2, cells := 0, slots := 0, locals := 60 } : Room) (PcR D (tysA cA cZ cI) (cw x ln cA n tp mo dr ds li K ad g) [va_rf (p0.map ad)]) (vp_Si (fun r => r = nI ks.length)) 0 0 (fun _ => False) := by
  refine Met.ofW (cc := cX1_newDepth) (maxL := 1) (ret := (some .int)) (by decide) rfl ?_
  intro p e s m args below meth c s₁ B hml hv
  obtain ⟨rfl, hP, hG⟩ := hv
  have hx := B.exec
  have hb := B.bytes
  have hr := B.returns
  have hts := atoms_spec (ws := wsX1_newDepth) B.pre
  have hown : s.vm.findClass RX1 = some m.cls := findClass_of_methodNamed B.named
  have hlocks := B.notSynchronized
  have hl : lv_has ((lg_sl ([va_rf (p0.map ad)]) ++ List.replicate (1 - (lg_sl ([va_rf (p0.map ad)])).length) Slot.unset).toArray) 1 [(0, va_rf (p0.map ad))] := by cases p0 <;> exact lv_entry _ (Nat.le_of_ble_eq_true rfl)
  rw [lg_entry_eq]
  generalize (lg_sl ([va_rf (p0.map ad)]) ++ List.replicate (1 - (lg_sl ([va_rf (p0.map ad)])).length) Slot.unset).toArray = ls at hl ⊢
  have hl : lv_has ls 1 [(0, va_rf (p0.map ad))] := hl
  refine zr_aload_n hx hb dX1_newDepth_0 rfl (lv_at hl 0 rfl) ?_
  refine vp_callSi (va_Run.run (va_runS (As := [va_rf (p0.map ad)]) (rest := []) ⟨hx, hb, hml, hown, hts⟩ (c_X1_depthOf l hcl hp hu) (va_cwS 1 hts gX1_newDepth_X1_depthOf rfl rfl rfl (by decide +kernel) ⟨Nat.le_of_ble_eq_true rfl, Nat.le_of_ble_eq_true rfl⟩) ⟨PcR.blind, PcR.at hP hG⟩ rfl rfl hl.1 rfl (lv_room (Nat.le_of_ble_eq_true rfl)) dX1_newDepth_1 ⟨Nat.le_of_ble_eq_true rfl, Nat.le_of_ble_eq_true rfl⟩)) (fun r1 q1 => ?_)
  subst q1
  refine lv_iconst (v := nI 1) hx hb dX1_newDepth_4 (by decide) ?_
  refine lv_iadd hx hb dX1_newDepth_5 ?_
  exact W.iret (v := ((lnOf p0 ks) + (nI 1))) hx hb hr (fun t ht hW => ⟨_, rfl, lnOf_1 hu, ht⟩) (fun q hq => absurd hq List.not_mem_nil) dX1_newDepth_6

set_option maxHeartbeats 4000000 in
set_option maxRecDepth 100000 in
theorem L_X1_find {D : va_G} {cA cZ cI : ClassId} {x ln : Nat} {n : Int32} {tp : Option Nat} {mo dr ds : Int32} {li : Nat → Option Nat} {K : List Nat} {ad : Nat → Nat} {g : Nat → Nd} {p : Program} {l : Launch} {e : Env} {R : Room} {s : State} {m : MethodId} {args : Array Value} {below : List Frame} {meth : Method} {c : Code} {Q : State → Prop} {cells slots : Nat} {H : Heap} {locs : List Loc} (hx : p.tables.exec = Jvm.exec) (hb : c.code = cX1_find) (hml : c.maxLocals = 3) (hts : ∀ w ∈ wsX1_find, w.before args s = true) (hown : s.vm.findClass RX1 = some m.cls) (hG : GK D (tysA cA cZ cI) s) (hP : va_P D vwCl (cw x ln cA n tp mo dr ds li K ad g) H) (hR : 1 ≤ R.frames ∧ 40 ≤ R.locals) (hC : cells ≤ R.cells ∧ slots ≤ R.slots) {h : Nat} (hh : h < 1000) : ∀ {t : Tr} {a : Option Nat}, ShP g a t → (∀ j ∈ keysT t, j ∈ K ∧ j < 1000) → (∀ ls, lv_has ls 3 [(2, va_rf ((root (subT h t)).map ad)), (0, .ref x), (1, .int (nI h))] → W p l e R s m args below meth c H locs cells slots Q (F0 m 26 ls [])) → ∀ ls, lv_has ls 3 [(2, va_rf ((root t).map ad)), (0, .ref x), (1, .int (nI h))] → W p l e R s m args below meth c H locs cells slots Q (F0 m 5 ls []) := by
  intro t
  induction t with
  | leaf =>
    intro a _ hin kk ls hl
    have hl : lv_has ls 3 [(2, .null), (0, .ref x), (1, .int (nI h))] := hl
    refine lv_aload_nN hx hb dX1_find_5 rfl (lv_at hl 0 rfl) ?_
    refine lv_ifnullN (tgt := 26) hx hb dX1_find_6 (by decide) ?_
    exact kk _ hl
  | inner sz k v lt rt ihl ihr =>
    intro a hs hin kk ls hl
    obtain ⟨h1, h2, h3, h4, h5⟩ := hs
    obtain ⟨hk, hkn⟩ := hin k ((keys_in ..).mpr (Or.inr (Or.inl rfl)))
    have hl : lv_has ls 3 [(2, .ref (ad k)), (0, .ref x), (1, .int (nI h))] := hl
    refine lv_aload_n hx hb dX1_find_5 rfl (lv_at hl 0 rfl) ?_
    refine lv_ifnull hx hb dX1_find_6 ?_
    refine lv_aload_n hx hb dX1_find_9 rfl (lv_at hl 0 rfl) ?_
    obtain ⟨i0, hi0⟩ := cw_s (x := x) (ln := ln) (cA := cA) (n := n) (tp := tp) (mo := mo) (dr := dr) (ds := ds) (li := li) (ad := ad) (g := g) (hk : k ∈ K)
    refine va_get (D := D) (ci := 0) (v := .int (nI k)) (C := RX0) (T := TX0) (N := 5) hx hb hts (by decide +kernel) hown hG.1 hP i0 hi0 rfl 0 (by decide) (hts (.fieldLink RX1 100 "LopsidedRanks$Soldier" "height" "I") (by decide +kernel)) (fun _ h9 => h9) rfl dX1_find_10 ?_
    refine lv_iload_n hx hb dX1_find_13 rfl (lv_at hl 2 rfl) ?_
    refine lv_icmp_eq (tgt := 26) hx hb dX1_find_14 (by decide) (fun c14 => ?_) (fun c14 => ?_)
    · rw [nI_eq (by omega) (by omega)] at c14
      have e9 : subT h (.inner sz k v lt rt) = .inner sz k v lt rt := by simp [subT, c14]
      rw [e9] at kk
      exact kk _ hl
    · rw [nI_eq (by omega) (by omega)] at c14
      have c14s : ¬ h = k := fun q => c14 q.symm
      refine lv_aload_n hx hb dX1_find_17 rfl (lv_at hl 0 rfl) ?_
      refine lv_iload_n hx hb dX1_find_18 rfl (lv_at hl 2 rfl) ?_
      obtain ⟨i1, hi1⟩ := cw_s (x := x) (ln := ln) (cA := cA) (n := n) (tp := tp) (mo := mo) (dr := dr) (ds := ds) (li := li) (ad := ad) (g := g) (hk : k ∈ K)
      refine va_csq (va_Run.run (va_runV (As := [.int (nI h)]) (rest := []) ⟨hx, hb, hml, hown, hts⟩ (c_X0_towards l hk (by omega) (by omega)) (cwV 1 hts gX1_find_X0_towards rfl rfl rfl (by decide +kernel) ⟨hR.1, Nat.le_trans (Nat.le_of_ble_eq_true rfl) hR.2⟩) ⟨PcR.blind, va_recv hG.1 hP (ci := 0) (q0 := i1) rfl hi1, PcR.at hP hG⟩ rfl rfl hl.1 rfl (lv_room (Nat.le_of_ble_eq_true rfl)) dX1_find_19 ⟨hC.1, hC.2⟩)) (fun r19 q19 => ?_)
      subst q19
      refine zr_astore_n (lv' := [(2, va_rf ((if h < k then (g k).2.1 else (g k).2.2.1).map ad)), (0, .ref x), (1, .int (nI h))]) hx hb dX1_find_22 rfl hl (by decide) rfl (fun ls hl => ?_)
      refine lv_goto (tgt := 5) hx hb dX1_find_23 (by decide) ?_
      by_cases hlt : h < k
      · rw [if_pos hlt, h2] at hl
        have e9 : subT h (.inner sz k v lt rt) = subT h lt := by simp [subT, hlt, c14s]
        rw [e9] at kk
        exact ihl h4 (fun j hj => hin j ((keys_in ..).mpr (Or.inl hj))) kk _ (lv_sub hl [0, 1, 2] rfl)
      · rw [if_neg hlt, h3] at hl
        have e9 : subT h (.inner sz k v lt rt) = subT h rt := by simp [subT, hlt, c14s]
        rw [e9] at kk
        exact ihr h5 (fun j hj => hin j ((keys_in ..).mpr (Or.inr (Or.inr hj)))) kk _ (lv_sub hl [0, 1, 2] rfl)
set_option maxHeartbeats 4000000 in
set_option maxRecDepth 100000 in
/-- find(h) -/
theorem c_X1_find (l : Launch) {D : va_G} {cA cZ cI : ClassId} {x ln : Nat} {n : Int32} {mo dr ds : Int32} {li : Nat → Option Nat} {K : List Nat} {ad : Nat → Nat} {g : Nat → Nd} {T : Tr} {h : Nat} (hh : h < 1000) (hs : ShP g none T) (hin : ∀ j ∈ keysT T, j ∈ K ∧ j < 1000) : Met l yX1_find wsX1_find ({ frames := 1, cells := 0, slots := 0, locals := 40 } : Room) (PcR D (tysA cA cZ cI) (cw x ln cA n (root T) mo dr ds li K ad g) [.ref x, .int (nI h)]) (va_Sq (fun r => r = (root (subT h T)).map ad)) 0 0 (fun _ => False) := by
  refine Met.ofW (cc := cX1_find) (maxL := 3) (ret := (some (.object "LopsidedRanks$Soldier"))) (by decide) rfl ?_
  intro p e s m args below meth c s₁ B hml hv
  obtain ⟨rfl, hP, hG⟩ := hv
  have hx := B.exec
  have hb := B.bytes
  have hr := B.returns
  have hts := atoms_spec (ws := wsX1_find) B.pre
  have hown : s.vm.findClass RX1 = some m.cls := findClass_of_methodNamed B.named
  have hlocks := B.notSynchronized
  have hl := lv_entry ([.ref x, .int (nI h)]) (n := 3) (Nat.le_of_ble_eq_true rfl)
  rw [lg_entry_eq]
  generalize (lg_sl ([.ref x, .int (nI h)]) ++ List.replicate (3 - (lg_sl ([.ref x, .int (nI h)])).length) Slot.unset).toArray = ls at hl ⊢
  have hl : lv_has ls 3 [(0, .ref x), (1, .int (nI h))] := hl
  refine lv_aload_n hx hb dX1_find_0 rfl (lv_at hl 0 rfl) ?_
  refine va_get (D := D) (ci := 1) (v := va_rf ((root T).map ad)) (C := RX1) (T := TX1) (N := 6) hx hb hts (by decide +kernel) hown hG.1 hP 0 cw_x rfl 2 (by decide) (hts (.fieldLink RX1 77 "LopsidedRanks" "top" "LLopsidedRanks$Soldier;") (by decide +kernel)) (fun _ h9 => h9) rfl dX1_find_1 ?_
  refine zr_astore_n (lv' := [(2, va_rf ((root T).map ad)), (0, .ref x), (1, .int (nI h))]) hx hb dX1_find_4 rfl hl (by decide) rfl (fun ls hl => ?_)
  refine L_X1_find (t := T) hx hb hml hts hown hG hP ⟨Nat.le_of_ble_eq_true rfl, Nat.le_of_ble_eq_true rfl⟩ ⟨Nat.zero_le _, Nat.zero_le _⟩ hh hs hin (fun ls hl => ?_) _ (lv_sub hl [0, 1, 2] rfl)
  refine zr_aload_n hx hb dX1_find_26 rfl (lv_at hl 0 rfl) ?_
  exact zr_aret (r := (root (subT h T)).map ad) hx hb hr (Or.inl ⟨_, rfl⟩) (fun t ht hW => ⟨_, rfl, rfl, ht⟩) (fun q hq => absurd hq List.not_mem_nil) dX1_find_27 hlocks

