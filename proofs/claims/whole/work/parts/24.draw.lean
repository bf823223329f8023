/-! DRAWING UP a company of the class -/
/-- the tree, with the company of c drawn up anew -/
def drawT (c : Nat) (T : Tr) : Tr := rep c (balF 8 (keysT (subT c T))) T
def moD (T : Tr) (c : Nat) (mo : Int32) : Int32 := match parF c none T with
  | none => nI (siz T)
  | some _ => mo
theorem draw_keys {c : Nat} {T : Tr} (hz : siz T ≤ 150) : keysT (drawT c T) = keysT T ∧ siz (drawT c T) = siz T := by
  have h1 : (keysT (subT c T)).length < 2 ^ 8 := by rw [keys_len]; have := sub_siz (h := c) (T := T); omega
  have h2 : keysT (drawT c T) = keysT T := by
    unfold drawT
    rw [keys_rep, balF_keys 8 _ h1, ← keys_split]
  exact ⟨h2, by rw [← keys_len, h2, keys_len]⟩
theorem draw_rep {T : Tr} {K : List Nat} {g g1 : Nat → Nd} {c : Nat} {b : Option Nat} (hrep : RepC T K g) (hc : c ∈ keysT T) (f1 : ∀ k, k ∉ keysT (subT c T) → g1 k = g k) (f2 : ShP g1 b (balF 8 (keysT (subT c T)))) (f3 : ShC g1 (balF 8 (keysT (subT c T)))) : RepC (drawT c T) K (sbG g1 (parF c none T) c (root (balF 8 (keysT (subT c T))))) := by
  obtain ⟨hb, hin, hz, hs, hco, hK⟩ := hrep
  obtain ⟨k1, k2⟩ := draw_keys (c := c) hz
  have h1 : (keysT (subT c T)).length < 2 ^ 8 := by rw [keys_len]; have := sub_siz (h := c) (T := T); omega
  have hk := balF_keys 8 _ h1
  have hbs := sub_bst (c := c) hb
  obtain ⟨s1, s2⟩ := kl_sub (h := c) hb
  refine ⟨by show List.Pairwise _ (keysT _); rw [k1]; exact hb, by rw [k1]; exact hin, by rw [k2]; exact hz, ?_, ?_, by rw [k1]; exact hK⟩
  · refine SB hb (by show List.Pairwise _ (keysT _); rw [hk]; exact hbs) hs f2 (fun k hk1 hk2 => by rw [f1 k hk2]; exact ⟨rfl, rfl, rfl⟩) (fun j hj => ?_)
    rw [hk] at hj
    exact ⟨fun q => by have := s1 j q j hj; omega, fun q => by have := s2 j hj j q; omega⟩
  · refine (rep_co (d := 0) hb hco (fun k hk1 hk2 => ?_) (ShC_cong (fun k _ => sbG_co) f3) ?_).1
    · rw [sbG_co, f1 k hk2]
      split <;> exact (Int32.add_zero _).symm
    · rw [← keys_len, hk, keys_len]; exact (Int32.add_zero _).symm
set_option maxHeartbeats 4000000 in
set_option maxRecDepth 100000 in
/-- drawUp(c1) -/
theorem c_X1_drawUp (l : Launch) {D : va_G} {cA cZ cI : ClassId} {x ln : Nat} {mo dr ds : Int32} {K : List Nat} {ad : Nat → Nat} {g : Nat → Nd} {A : Nat → Prop} {T : Tr} {c1 : Nat} (hrep : RepC T K g) (hc1 : c1 ∈ keysT T) : Met l yX1_drawUp wsX1_drawUp ({ frames := 12, cells := 0, slots := 0, locals := 480 } : Room) (PcM D (tysA cA cZ cI) A (cw x ln cA (nI (siz T)) (root T) mo dr ds (fun i => (keysT T)[i]?) K ad g) [.ref x, .ref (ad c1)]) (va_Qq (S := Nat → Nd) (fun r u => r = (root (balF 8 (keysT (subT c1 T)))).map ad ∧ RepC (drawT c1 T) K u) (fun u => BM D (tysA cA cZ cI) A (cw x ln cA (nI (siz T)) (root (drawT c1 T)) (moD T c1 mo) (dr + nI 1) (ds + nI (siz (subT c1 T))) (fun i => (keysT T)[i]?) K ad u)) A) 0 0 A := by
  refine Met.ofW (cc := cX1_drawUp) (maxL := 7) (ret := (some (.object "LopsidedRanks$Soldier"))) (by decide) rfl ?_
  intro p e s m args below meth c s₁ B hml hv
  obtain ⟨rfl, hA, hP, hG, hD⟩ := hv
  have hx := B.exec
  have hb := B.bytes
  have hr := B.returns
  have hts := atoms_spec (ws := wsX1_drawUp) B.pre
  have hown : s.vm.findClass RX1 = some m.cls := findClass_of_methodNamed B.named
  have hlocks := B.notSynchronized
  have hl := lv_entry ([.ref x, .ref (ad c1)]) (n := 7) (Nat.le_of_ble_eq_true rfl)
  rw [lg_entry_eq]
  generalize (lg_sl ([.ref x, .ref (ad c1)]) ++ List.replicate (7 - (lg_sl ([.ref x, .ref (ad c1)])).length) Slot.unset).toArray = ls at hl ⊢
  have hl : lv_has ls 7 [(0, .ref x), (1, .ref (ad c1))] := hl
  have hS : va_S A s.heap s.heap [] := va_S.rf
  have hcl := hrep.cl
  have hk := (hrep.in1 c1 hc1).1
  obtain ⟨hb0, hin0, hsz, hs, hc, hK0⟩ := id hrep
  obtain ⟨sz, v, lt, rt, esub, p1, p2, p3, p4, p5, p6, p7, p8⟩ := hrep.at hc1
  have hlt := hin0 c1 hc1
  have hof := cnt_ofs c1 T
  have hcl9 := cnt_le (h := c1) (T := T)
  have hol := ofs_le (h := c1) (T := T)
  have hss := sub_siz (h := c1) (T := T)
  have h256 : (keysT (subT c1 T)).length < 2 ^ 8 := by rw [keys_len]; omega
  refine lv_aload_n hx hb dX1_drawUp_0 rfl (lv_at hl 1 rfl) ?_
  refine lv_ifnonnull (tgt := 6) hx hb dX1_drawUp_1 (by decide) ?_
  refine lv_aload_n hx hb dX1_drawUp_6 rfl (lv_at hl 1 rfl) ?_
  obtain ⟨i0, hi0⟩ := cw_s (x := x) (ln := ln) (cA := cA) (n := nI (siz T)) (tp := root T) (mo := mo) (dr := dr) (ds := ds) (li := fun i => (keysT T)[i]?) (ad := ad) (g := g) (hk : c1 ∈ K)
  refine va_get (D := D) (ci := 0) (v := va_rf ((g c1).1.map ad)) (C := RX0) (T := TX0) (N := 5) hx hb hts (by decide +kernel) hown hG.1 hP i0 hi0 rfl 1 (by decide) (hts (.fieldLink RX1 130 "LopsidedRanks$Soldier" "above" "LLopsidedRanks$Soldier;") (by decide +kernel)) (fun _ h9 => h9) rfl dX1_drawUp_7 ?_
  refine zr_eqk p1 ?_
  refine zr_astore_n (lv' := [(2, va_rf ((parF c1 none T).map ad)), (0, .ref x), (1, .ref (ad c1))]) hx hb dX1_drawUp_10 rfl hl (by decide) rfl (fun ls hl => ?_)
  refine lv_aload_n hx hb dX1_drawUp_11 rfl (lv_at hl 2 rfl) ?_
  obtain ⟨i1, hi1⟩ := cw_s (x := x) (ln := ln) (cA := cA) (n := nI (siz T)) (tp := root T) (mo := mo) (dr := dr) (ds := ds) (li := fun i => (keysT T)[i]?) (ad := ad) (g := g) (hk : c1 ∈ K)
  refine va_get (D := D) (ci := 0) (v := .int (nI c1)) (C := RX0) (T := TX0) (N := 5) hx hb hts (by decide +kernel) hown hG.1 hP i1 hi1 rfl 0 (by decide) (hts (.fieldLink RX1 100 "LopsidedRanks$Soldier" "height" "I") (by decide +kernel)) (fun _ h9 => h9) rfl dX1_drawUp_12 ?_
  refine lv_istore_n (i := 3) (lv' := [(3, .int (nI c1)), (2, va_rf ((parF c1 none T).map ad)), (0, .ref x), (1, .ref (ad c1))]) hx hb dX1_drawUp_15 rfl hl (by decide) (by simp [zr_cat]) (fun ls hl => ?_)
  refine lv_aload_n hx hb dX1_drawUp_16 rfl (lv_at hl 3 rfl) ?_
  obtain ⟨i2, hi2⟩ := cw_s (x := x) (ln := ln) (cA := cA) (n := nI (siz T)) (tp := root T) (mo := mo) (dr := dr) (ds := ds) (li := fun i => (keysT T)[i]?) (ad := ad) (g := g) (hk : c1 ∈ K)
  refine va_get (D := D) (ci := 0) (v := .int (g c1).2.2.2) (C := RX0) (T := TX0) (N := 5) hx hb hts (by decide +kernel) hown hG.1 hP i2 hi2 rfl 4 (by decide) (hts (.fieldLink RX1 147 "LopsidedRanks$Soldier" "company" "I") (by decide +kernel)) (fun _ h9 => h9) rfl dX1_drawUp_17 ?_
  refine zr_eqi (show (g c1).2.2.2 = nI (siz (subT c1 T)) by rw [p4, esub]; rfl) ?_
  refine lv_istore (lv' := [(4, .int (nI (siz (subT c1 T)))), (3, .int (nI c1)), (2, va_rf ((parF c1 none T).map ad)), (0, .ref x), (1, .ref (ad c1))]) hx hb dX1_drawUp_20 hl (by decide) rfl (fun ls hl => ?_)
  refine lv_aload_n hx hb dX1_drawUp_22 rfl (lv_at hl 3 rfl) ?_
  refine lv_iload_n hx hb dX1_drawUp_23 rfl (lv_at hl 1 rfl) ?_
  refine vp_callSi (va_Run.run (va_runV (As := [.int (nI c1)]) (rest := []) ⟨hx, hb, hml, hown, hts⟩ (c_X1_smallerThan l hcl (by omega) hs hc hrep.in1) (cwV 1 hts gX1_drawUp_X1_smallerThan rfl rfl rfl (by decide +kernel) ⟨Nat.le_of_ble_eq_true rfl, Nat.le_of_ble_eq_true rfl⟩) ⟨PcR.blind, va_recv hG.1 hP (ci := 1) (q0 := 0) rfl cw_x, PcR.at hP hG⟩ rfl rfl hl.1 rfl (lv_room (Nat.le_of_ble_eq_true rfl)) dX1_drawUp_24 ⟨Nat.zero_le _, Nat.zero_le _⟩)) (fun r24 q24 => ?_)
  subst q24
  refine lv_aload_n hx hb dX1_drawUp_27 rfl (lv_at hl 4 rfl) ?_
  obtain ⟨i3, hi3⟩ := cw_s (x := x) (ln := ln) (cA := cA) (n := nI (siz T)) (tp := root T) (mo := mo) (dr := dr) (ds := ds) (li := fun i => (keysT T)[i]?) (ad := ad) (g := g) (hk : c1 ∈ K)
  refine va_get (D := D) (ci := 0) (v := va_rf ((g c1).2.1.map ad)) (C := RX0) (T := TX0) (N := 5) hx hb hts (by decide +kernel) hown hG.1 hP i3 hi3 rfl 2 (by decide) (hts (.fieldLink RX1 150 "LopsidedRanks$Soldier" "left" "LLopsidedRanks$Soldier;") (by decide +kernel)) (fun _ h9 => h9) rfl dX1_drawUp_28 ?_
  refine vp_callSi (va_Run.run (va_runS (As := [va_rf ((g c1).2.1.map ad)]) (rest := [.int (nI (cntLt c1 T))]) ⟨hx, hb, hml, hown, hts⟩ (c_X1_companyOf l (o := (g c1).2.1) (hcl c1 hk).2.2.1) (va_cwS 1 hts gX1_drawUp_X1_companyOf rfl rfl rfl (by decide +kernel) ⟨Nat.le_of_ble_eq_true rfl, Nat.le_of_ble_eq_true rfl⟩) ⟨PcR.blind, PcR.at hP hG⟩ rfl rfl hl.1 rfl (lv_room (Nat.le_of_ble_eq_true rfl)) dX1_drawUp_31 ⟨Nat.zero_le _, Nat.zero_le _⟩)) (fun r31 q31 => ?_)
  subst q31
  refine zr_eqi (show coOf g (g c1).2.1 = nI (sizL (subT c1 T)) by rw [p2, esub]; exact co_root p7) ?_
  refine lv_isub hx hb dX1_drawUp_34 ?_
  refine zr_eqi (pk_sub (a := cntLt c1 T) (b := sizL (subT c1 T)) (by omega)) ?_
  refine zr_eqi (show nI (cntLt c1 T - sizL (subT c1 T)) = nI (ofs c1 T) by rw [hof, Nat.add_sub_cancel]) ?_
  refine lv_istore (lv' := [(5, .int (nI (ofs c1 T))), (4, .int (nI (siz (subT c1 T)))), (3, .int (nI c1)), (2, va_rf ((parF c1 none T).map ad)), (0, .ref x), (1, .ref (ad c1))]) hx hb dX1_drawUp_35 hl (by decide) rfl (fun ls hl => ?_)
  refine lv_aload_n hx hb dX1_drawUp_37 rfl (lv_at hl 4 rfl) ?_
  refine va_get (D := D) (ci := 1) (v := .ref ln) (C := RX1) (T := TX1) (N := 6) hx hb hts (by decide +kernel) hown hG.1 hP 0 cw_x rfl 0 (by decide) (hts (.fieldLink RX1 11 "LopsidedRanks" "line" "[LLopsidedRanks$Soldier;") (by decide +kernel)) (fun _ h9 => h9) rfl dX1_drawUp_38 ?_
  refine lv_iload hx hb dX1_drawUp_41 (lv_at hl 0 rfl) ?_
  refine lv_iload hx hb dX1_drawUp_43 (lv_at hl 1 rfl) ?_
  refine lv_iconst (v := nI 0) hx hb dX1_drawUp_45 (by decide) ?_
  refine va_callq (va_runS (As := [.ref ln, .int (nI (ofs c1 T)), .int (nI (siz (subT c1 T))), .int (nI 0)]) (rest := []) ⟨hx, hb, hml, hown, hts⟩ (c_X1_halve l (d := 8) (xs := keysT (subT c1 T)) (first := ofs c1 T) (n0 := siz (subT c1 T)) (level := 0) (fun i hi => ofs_key (by rw [keys_len] at hi; exact hi)) (fun j hj => hrep.in1 j (subT_sub hj)) (sub_bst (c := c1) hb0) (keys_len _) (by rw [keys_len]; omega) (by rw [keys_len]; omega) (by omega)) (va_cwS 4 hts gX1_drawUp_X1_halve rfl rfl rfl (by decide +kernel) ⟨Nat.le_of_ble_eq_true rfl, Nat.le_of_ble_eq_true rfl⟩) ⟨PcM.blind, PcM.at (fun q h => hA q (Nat.le_trans hS.1 h)) hP hG hD⟩ rfl rfl hl.1 rfl (lv_room (Nat.le_of_ble_eq_true rfl)) dX1_drawUp_46 ⟨Nat.zero_le _, Nat.zero_le _⟩) hS (fun q _ h => h) (fun q h => h) (fun r46 g1 t H locs ht hvm q46 hB hz1 hk1 hS => ?_)
  obtain ⟨hP, -, hD⟩ := hB
  rw [ht] at hP
  have hP : va_P D vwCl (cw x ln cA (nI (siz T)) (root T) mo dr ds (fun i => (keysT T)[i]?) K ad g1) H := hP
  have hD : va_D A (cw x ln cA (nI (siz T)) (root T) mo dr ds (fun i => (keysT T)[i]?) K ad g1) := hD
  obtain ⟨rfl, f1, ⟨b1, f2⟩, f3⟩ := q46
  refine zr_astore (lv' := [(6, va_rf ((root (balF 8 (keysT (subT c1 T)))).map ad)), (5, .int (nI (ofs c1 T))), (4, .int (nI (siz (subT c1 T)))), (3, .int (nI c1)), (2, va_rf ((parF c1 none T).map ad)), (0, .ref x), (1, .ref (ad c1))]) hx hb dX1_drawUp_49 hl (by decide) rfl (fun ls hl => ?_)
  refine lv_aload_n hx hb dX1_drawUp_51 rfl (lv_at hl 5 rfl) ?_
  refine zr_aload_n hx hb dX1_drawUp_52 rfl (lv_at hl 4 rfl) ?_
  refine lv_iload_n hx hb dX1_drawUp_53 rfl (lv_at hl 3 rfl) ?_
  refine zr_aload hx hb dX1_drawUp_54 (lv_at hl 0 rfl) ?_
  refine va_callv (va_runV (As := [va_rf ((parF c1 none T).map ad), .int (nI c1), va_rf ((root (balF 8 (keysT (subT c1 T)))).map ad)]) (rest := []) ⟨hx, hb, hml, hown, hts⟩ (c_X1_standBelow l (p0 := parF c1 none T) (r0 := root (balF 8 (keysT (subT c1 T)))) (fun c e => (hrep.in1 c (parF_mem e)).1) (fun c e => (hrep.in1 c (parF_mem e)).2) hlt (fun c e => (hrep.in1 c (subT_sub (h := c1) (by rw [← balF_keys 8 _ h256]; exact root_in e))).1)) (cwV 3 hts gX1_drawUp_X1_standBelow rfl rfl rfl (by decide +kernel) ⟨Nat.le_of_ble_eq_true rfl, Nat.le_of_ble_eq_true rfl⟩) ⟨PcM.blind, va_recv hG.1 hP (ci := 1) (q0 := 0) rfl cw_x, PcM.at (fun q h => hA q (Nat.le_trans hS.1 h)) hP hG hD⟩ rfl rfl hl.1 rfl (lv_room (Nat.le_of_ble_eq_true rfl)) dX1_drawUp_56 ⟨Nat.zero_le _, Nat.zero_le _⟩) hS (fun q _ h => h) (fun q h => h) (fun u56 t H locs ht hvm q56 hB hz1 hk1 hS => ?_)
  obtain ⟨hP, -, hD⟩ := hB
  rw [ht] at hP
  have hP : va_P D vwCl (cw x ln cA (nI (siz T)) (sbT (root T) (parF c1 none T) (root (balF 8 (keysT (subT c1 T))))) mo dr ds (fun i => (keysT T)[i]?) K ad (sbG g1 (parF c1 none T) c1 (root (balF 8 (keysT (subT c1 T)))))) H := hP
  have hD : va_D A (cw x ln cA (nI (siz T)) (sbT (root T) (parF c1 none T) (root (balF 8 (keysT (subT c1 T))))) mo dr ds (fun i => (keysT T)[i]?) K ad (sbG g1 (parF c1 none T) c1 (root (balF 8 (keysT (subT c1 T)))))) := hD
  have hfin := draw_rep hrep hc1 f1 f2 f3
  rw [sbT_root] at hP hD
  obtain ⟨gu, hgu⟩ : ∃ z, z = sbG g1 (parF c1 none T) c1 (root (balF 8 (keysT (subT c1 T)))) := ⟨_, rfl⟩
  rw [← hgu] at hP hD hfin
  have hP : va_P D vwCl (cw x ln cA (nI (siz T)) (root (drawT c1 T)) mo dr ds (fun i => (keysT T)[i]?) K ad gu) H := hP
  have hD : va_D A (cw x ln cA (nI (siz T)) (root (drawT c1 T)) mo dr ds (fun i => (keysT T)[i]?) K ad gu) := hD
  refine lv_aload_n hx hb dX1_drawUp_59 rfl (lv_at hl 5 rfl) ?_
  refine lv_dup hx hb dX1_drawUp_60 rfl ?_
  refine va_get (D := D) (ci := 1) (v := .int dr) (C := RX1) (T := TX1) (N := 6) hx hb hts (by decide +kernel) hown hG.1 hP 0 cw_x rfl 4 (by decide) (hts (.fieldLink RX1 182 "LopsidedRanks" "drawings" "I") (by decide +kernel)) (fun _ h9 => h9) rfl dX1_drawUp_61 ?_
  refine lv_iconst (v := nI 1) hx hb dX1_drawUp_64 (by decide) ?_
  refine lv_iadd hx hb dX1_drawUp_65 ?_
  refine va_put (D := D) (ci := 1) (v := .int (dr + (nI 1))) (ty := .int) (C := RX1) (T := TX1) (N := 6) hx hb hts (by decide +kernel) tyX1 tyX1_ok nmX1 hown hG.1 hP hD hS 0 cw_x rfl 4 (by decide) (hts (.fieldLink RX1 182 "LopsidedRanks" "drawings" "I") (by decide +kernel)) (fun _ h9 => h9) rfl (by decide +kernel) rfl rfl (Nat.le_of_ble_eq_true rfl) dX1_drawUp_66 (fun H locs hP hD hS => ?_)
  have hP : va_P D vwCl (cw x ln cA (nI (siz T)) (root (drawT c1 T)) mo ((dr + (nI 1))) ds (fun i => (keysT T)[i]?) K ad gu) H := hP
  have hD : va_D A (cw x ln cA (nI (siz T)) (root (drawT c1 T)) mo ((dr + (nI 1))) ds (fun i => (keysT T)[i]?) K ad gu) := hD
  refine lv_aload_n hx hb dX1_drawUp_69 rfl (lv_at hl 5 rfl) ?_
  refine lv_dup hx hb dX1_drawUp_70 rfl ?_
  refine va_get (D := D) (ci := 1) (v := .int ds) (C := RX1) (T := TX1) (N := 6) hx hb hts (by decide +kernel) hown hG.1 hP 0 cw_x rfl 5 (by decide) (hts (.fieldLink RX1 185 "LopsidedRanks" "drawnSoldiers" "I") (by decide +kernel)) (fun _ h9 => h9) rfl dX1_drawUp_71 ?_
  refine lv_iload hx hb dX1_drawUp_74 (lv_at hl 2 rfl) ?_
  refine lv_iadd hx hb dX1_drawUp_76 ?_
  refine va_put (D := D) (ci := 1) (v := .int (ds + (nI (siz (subT c1 T))))) (ty := .int) (C := RX1) (T := TX1) (N := 6) hx hb hts (by decide +kernel) tyX1 tyX1_ok nmX1 hown hG.1 hP hD hS 0 cw_x rfl 5 (by decide) (hts (.fieldLink RX1 185 "LopsidedRanks" "drawnSoldiers" "I") (by decide +kernel)) (fun _ h9 => h9) rfl (by decide +kernel) rfl rfl (Nat.le_of_ble_eq_true rfl) dX1_drawUp_77 (fun H locs hP hD hS => ?_)
  have hP : va_P D vwCl (cw x ln cA (nI (siz T)) (root (drawT c1 T)) mo ((dr + (nI 1))) ((ds + (nI (siz (subT c1 T))))) (fun i => (keysT T)[i]?) K ad gu) H := hP
  have hD : va_D A (cw x ln cA (nI (siz T)) (root (drawT c1 T)) mo ((dr + (nI 1))) ((ds + (nI (siz (subT c1 T))))) (fun i => (keysT T)[i]?) K ad gu) := hD
  refine zr_aload_n hx hb dX1_drawUp_80 rfl (lv_at hl 4 rfl) ?_
  refine zr_ifnonnull (tgt := 92) hx hb dX1_drawUp_81 (by decide) (fun c81 => ?_) (fun k81 c81 => ?_)
  · refine lv_aload_n hx hb dX1_drawUp_84 rfl (lv_at hl 5 rfl) ?_
    refine lv_aload_n hx hb dX1_drawUp_85 rfl (lv_at hl 5 rfl) ?_
    refine va_get (D := D) (ci := 1) (v := .int (nI (siz T))) (C := RX1) (T := TX1) (N := 6) hx hb hts (by decide +kernel) hown hG.1 hP 0 cw_x rfl 1 (by decide) (hts (.fieldLink RX1 19 "LopsidedRanks" "soldiers" "I") (by decide +kernel)) (fun _ h9 => h9) rfl dX1_drawUp_86 ?_
    refine va_put (D := D) (ci := 1) (v := .int (nI (siz T))) (ty := .int) (C := RX1) (T := TX1) (N := 6) hx hb hts (by decide +kernel) tyX1 tyX1_ok nmX1 hown hG.1 hP hD hS 0 cw_x rfl 3 (by decide) (hts (.fieldLink RX1 51 "LopsidedRanks" "most" "I") (by decide +kernel)) (fun _ h9 => h9) rfl (by decide +kernel) rfl rfl (Nat.le_of_ble_eq_true rfl) dX1_drawUp_89 (fun H locs hP hD hS => ?_)
    have hP : va_P D vwCl (cw x ln cA (nI (siz T)) (root (drawT c1 T)) ((nI (siz T))) ((dr + (nI 1))) ((ds + (nI (siz (subT c1 T))))) (fun i => (keysT T)[i]?) K ad gu) H := hP
    have hD : va_D A (cw x ln cA (nI (siz T)) (root (drawT c1 T)) ((nI (siz T))) ((dr + (nI 1))) ((ds + (nI (siz (subT c1 T))))) (fun i => (keysT T)[i]?) K ad gu) := hD
    have em : moD T c1 mo = (nI (siz T)) := by unfold moD; rw [c81]
    have hP : va_P D vwCl (cw x ln cA (nI (siz T)) (root (drawT c1 T)) (moD T c1 mo) ((dr + (nI 1))) ((ds + (nI (siz (subT c1 T))))) (fun i => (keysT T)[i]?) K ad gu) H := by rw [em]; exact hP
    have hD : va_D A (cw x ln cA (nI (siz T)) (root (drawT c1 T)) (moD T c1 mo) ((dr + (nI 1))) ((ds + (nI (siz (subT c1 T))))) (fun i => (keysT T)[i]?) K ad gu) := by rw [em]; exact hD
    refine zr_aload hx hb dX1_drawUp_92 (lv_at hl 0 rfl) ?_
    exact zr_aret (r := (root (balF 8 (keysT (subT c1 T)))).map ad) hx hb hr (Or.inl ⟨_, rfl⟩) (fun t ht hW => ⟨⟨_, gu, rfl, ⟨rfl, hfin⟩, by rw [ht]; exact hP, hG.moved hW, hD⟩, hS.F ht⟩) hS.2.2 dX1_drawUp_94 hlocks
  · have em : moD T c1 mo = mo := by unfold moD; rw [c81]
    have hP : va_P D vwCl (cw x ln cA (nI (siz T)) (root (drawT c1 T)) (moD T c1 mo) ((dr + (nI 1))) ((ds + (nI (siz (subT c1 T))))) (fun i => (keysT T)[i]?) K ad gu) H := by rw [em]; exact hP
    have hD : va_D A (cw x ln cA (nI (siz T)) (root (drawT c1 T)) (moD T c1 mo) ((dr + (nI 1))) ((ds + (nI (siz (subT c1 T))))) (fun i => (keysT T)[i]?) K ad gu) := by rw [em]; exact hD
    refine zr_aload hx hb dX1_drawUp_92 (lv_at hl 0 rfl) ?_
    exact zr_aret (r := (root (balF 8 (keysT (subT c1 T)))).map ad) hx hb hr (Or.inl ⟨_, rfl⟩) (fun t ht hW => ⟨⟨_, gu, rfl, ⟨rfl, hfin⟩, by rw [ht]; exact hP, hG.moved hW, hD⟩, hS.F ht⟩) hS.2.2 dX1_drawUp_94 hlocks

set_option maxHeartbeats 4000000 in
set_option maxRecDepth 100000 in
/-- drawUp(nobody) -/
theorem c_X1_drawUpN (l : Launch) {D : va_G} {cA cZ cI : ClassId} {x ln : Nat} {n : Int32} {tp : Option Nat} {mo dr ds : Int32} {li : Nat → Option Nat} {K : List Nat} {ad : Nat → Nat} {g : Nat → Nd} {A : Nat → Prop} : Met l yX1_drawUp wsX1_drawUp ({ frames := 12, cells := 0, slots := 0, locals := 480 } : Room) (PcM D (tysA cA cZ cI) A (cw x ln cA n tp mo dr ds li K ad g) [.ref x, .null]) (va_Qq (S := Unit) (fun r _ => r = none) (fun _ => BM D (tysA cA cZ cI) A (cw x ln cA n tp mo dr ds li K ad g)) A) 0 0 A := by
  refine Met.ofW (cc := cX1_drawUp) (maxL := 7) (ret := (some (.object "LopsidedRanks$Soldier"))) (by decide) rfl ?_
  intro p e s m args below meth c s₁ B hml hv
  obtain ⟨rfl, hA, hP, hG, hD⟩ := hv
  have hx := B.exec
  have hb := B.bytes
  have hr := B.returns
  have hts := atoms_spec (ws := wsX1_drawUp) B.pre
  have hown : s.vm.findClass RX1 = some m.cls := findClass_of_methodNamed B.named
  have hlocks := B.notSynchronized
  have hl := lv_entry ([.ref x, .null]) (n := 7) (Nat.le_of_ble_eq_true rfl)
  rw [lg_entry_eq]
  generalize (lg_sl ([.ref x, .null]) ++ List.replicate (7 - (lg_sl ([.ref x, .null])).length) Slot.unset).toArray = ls at hl ⊢
  have hl : lv_has ls 7 [(0, .ref x), (1, .null)] := hl
  have hS : va_S A s.heap s.heap [] := va_S.rf
  refine lv_aload_nN hx hb dX1_drawUp_0 rfl (lv_at hl 1 rfl) ?_
  refine lv_ifnonnullN hx hb dX1_drawUp_1 ?_
  refine lv_null hx hb dX1_drawUp_4 ?_
  exact zr_aret (r := none) hx hb hr (Or.inl ⟨_, rfl⟩) (fun t ht hW => ⟨⟨none, (), rfl, rfl, by rw [ht]; exact hP, hG.moved hW, hD⟩, hS.F ht⟩) hS.2.2 dX1_drawUp_5 hlocks

