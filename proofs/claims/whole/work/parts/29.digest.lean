/-! THE MEAN DEPTH and the digest, of a tree -/
def dps : Nat → Tr → Nat
  | _, .leaf => 0
  | d, .inner _ _ _ l r => d + dps (d + 1) l + dps (d + 1) r
def sml (f : Nat → Nat) (xs : List Nat) (d : Nat) : Nat := xs.foldl (fun m j => m + f j) d
theorem sml_cons {f : Nat → Nat} {x : Nat} {xs : List Nat} {d : Nat} : sml f (x :: xs) d = sml f xs (d + f x) := rfl
theorem sml_app {f : Nat → Nat} {xs ys : List Nat} {d : Nat} : sml f (xs ++ ys) d = sml f ys (sml f xs d) := List.foldl_append
theorem sml_cong {f g : Nat → Nat} : ∀ {xs : List Nat}, (∀ j ∈ xs, f j = g j) → ∀ d, sml f xs d = sml g xs d
  | [], _, _ => rfl
  | x :: xs, h, d => by rw [sml_cons, sml_cons, h x List.mem_cons_self]; exact sml_cong (fun j hj => h j (List.mem_cons_of_mem _ hj)) _
theorem dps_sml {T : Tr} (hb : bst T) (c d : Nat) : sml (fun j => (anc j T).length + c) (keysT T) d = d + dps c T := by
  induction T generalizing c d with
  | leaf => rfl
  | inner s k v l r ihl ihr =>
    obtain ⟨b1, b2, b3, b4⟩ := bst_in.mp hb
    have e1 : ∀ d, sml (fun j => (anc j (.inner s k v l r : Tr)).length + c) (keysT l) d = sml (fun j => (anc j l).length + (c + 1)) (keysT l) d := fun d => sml_cong (fun j hj => by rw [anc_l (b3 j hj), List.length_cons]; omega) d
    have e2 : ∀ d, sml (fun j => (anc j (.inner s k v l r : Tr)).length + c) (keysT r) d = sml (fun j => (anc j r).length + (c + 1)) (keysT r) d := fun d => sml_cong (fun j hj => by rw [anc_r (b4 j hj), List.length_cons]; omega) d
    have e3 : (anc k (.inner s k v l r : Tr)).length + c = c := by simp [anc]
    rw [show keysT (.inner s k v l r : Tr) = keysT l ++ k :: keysT r from rfl, sml_app, sml_cons, e1, e2, ihl b1, ihr b2, e3]
    simp only [dps]
    omega
theorem sml_le {f : Nat → Nat} {N : Nat} : ∀ {xs : List Nat}, (∀ j ∈ xs, f j ≤ N) → ∀ d, sml f xs d ≤ d + xs.length * N
  | [], _, d => by simp [sml]
  | x :: xs, h, d => by
    rw [sml_cons, List.length_cons, Nat.succ_mul]
    have h1 := sml_le (fun j hj => h j (List.mem_cons_of_mem _ hj)) (d + f x)
    have h2 := h x List.mem_cons_self
    omega
theorem n64_div {a b : UInt64} (ha : Jvm.FP.Core.DFin a) (hb : Jvm.FP.Core.DFin b) (hz : b.toNat % 2 ^ 63 ≠ 0) : vf_n64 (FP.ddiv a b) := by
  have h := Jvm.FP.Core.ddiv_out (Jvm.FP.Core.DFin.notNaN ha) hb (fun q => hz ((Jvm.FP.Core.zero_bits2 b).mp q))
  have h2 : ¬ 9218868437227405312 < (FP.ddiv a b).toNat % 2 ^ 63 := fun q => by
    have := (Jvm.FP.Core.isNaN_bits _).mpr q
    rw [show Jvm.FP.Core.dIsNaN (FP.ddiv a b) = false from h] at this
    cases this
  unfold vf_n64
  rw [UInt64.le_iff_toNat_le, UInt64.toNat_and, show (0x7fffffffffffffff : UInt64).toNat = 2 ^ 63 - 1 from rfl, Nat.and_two_pow_sub_one_eq_mod, show (0x7ff0000000000000 : UInt64).toNat = 9218868437227405312 from rfl]
  omega
def mnT (T : Tr) : UInt64 := if siz T = 0 then FP.dconst0 else FP.ddiv (FP.i2d (nI (dps 0 T))) (FP.i2d (nI (siz T)))
def fld (f : Nat → Int32) : Nat → Nat → Int64 → Int64
  | 0, _, d => d
  | n + 1, i, d => fld f n (i + 1) (d * 31 + (f i).toInt64)
def dgS (T : Tr) (d : Int64) (k : Nat) : Int64 := fld (tellT T k) 8 0 (d * 31 + (nI k).toInt64)
def dgT (T : Tr) (dr ds mo : Int32) : Int64 := (keysT T).foldl (dgS T) (fld (tallyT T dr ds mo) 8 0 1289)
set_option maxHeartbeats 4000000 in
set_option maxRecDepth 100000 in
theorem L_X1_mean {D : va_G} {cA cZ cI : ClassId} {x ln : Nat} {mo dr ds : Int32} {K : List Nat} {ad : Nat → Nat} {g : Nat → Nd} {T : Tr} {p : Program} {l : Launch} {e : Env} {R : Room} {s : State} {m : MethodId} {args : Array Value} {below : List Frame} {meth : Method} {c : Code} {Q : State → Prop} {cells slots : Nat} {H : Heap} {locs : List Loc} (hx : p.tables.exec = Jvm.exec) (hb : c.code = cX1_mean) (hml : c.maxLocals = 3) (hts : ∀ w ∈ wsX1_mean, w.before args s = true) (hown : s.vm.findClass RX1 = some m.cls) (hG : GK D (tysA cA cZ cI) s) (hP : va_P D vwCl (cw x ln cA (nI (siz T)) (root T) mo dr ds (fun i => (keysT T)[i]?) K ad g) H) (hR : 2 ≤ R.frames ∧ 80 ≤ R.locals) (hC : cells ≤ R.cells ∧ slots ≤ R.slots) (hrep : RepC T K g) : ∀ (n i d : Nat), i + n = siz T → (∀ ls, lv_has ls 3 [(1, .int (nI (sml (fun j => (anc j T).length) ((keysT T).drop i) d))), (0, .ref x)] → W p l e R s m args below meth c H locs cells slots Q (F0 m 38 ls [])) → ∀ ls, lv_has ls 3 [(2, .int (nI i)), (1, .int (nI d)), (0, .ref x)] → W p l e R s m args below meth c H locs cells slots Q (F0 m 13 ls []) := by
  have hcl := hrep.cl
  obtain ⟨hb0, hin0, hsz, hs, hc, hK0⟩ := id hrep
  intro n
  induction n with
  | zero =>
    intro i d hi kk ls hl
    refine lv_iload_n hx hb dX1_mean_13 rfl (lv_at hl 0 rfl) ?_
    refine lv_aload_n hx hb dX1_mean_14 rfl (lv_at hl 2 rfl) ?_
    refine va_get (D := D) (ci := 1) (v := .int (nI (siz T))) (C := RX1) (T := TX1) (N := 6) hx hb hts (by decide +kernel) hown hG.1 hP 0 cw_x rfl 1 (by decide) (hts (.fieldLink RX1 19 "LopsidedRanks" "soldiers" "I") (by decide +kernel)) (fun _ h9 => h9) rfl dX1_mean_15 ?_
    refine lv_icmp_ge (tgt := 38) hx hb dX1_mean_18 (by decide) (fun c18 => ?_) (fun c18 => ?_)
    · rw [nI_leI (by omega) (by omega)] at c18
      have e9 : (keysT T).drop i = [] := List.drop_eq_nil_of_le (by rw [keys_len]; omega)
      have e8 : i = siz T := by omega
      rw [e9] at kk
      exact kk _ (lv_sub hl [1, 2] rfl)
    · rw [nI_leI (by omega) (by omega)] at c18
      exact absurd c18 (by omega)
  | succ n ih =>
    intro i d hi kk ls hl
    have hil : i < (keysT T).length := by rw [keys_len]; omega
    obtain ⟨j, hj⟩ : ∃ j, (keysT T)[i]? = some j := ⟨_, List.getElem?_eq_getElem hil⟩
    have hdr : (keysT T).drop i = j :: (keysT T).drop (i + 1) := by
      rw [List.drop_eq_getElem_cons hil]
      rw [List.getElem?_eq_getElem hil] at hj
      rw [Option.some.inj hj]
    have hjT : j ∈ keysT T := List.mem_of_getElem? hj
    have hjK := (hrep.in1 j hjT).1
    obtain ⟨sz, v, lt, rt, esub, p1, p2, p3, p4, p5, p6, p7, p8⟩ := hrep.at hjT
    refine lv_iload_n hx hb dX1_mean_13 rfl (lv_at hl 0 rfl) ?_
    refine lv_aload_n hx hb dX1_mean_14 rfl (lv_at hl 2 rfl) ?_
    refine va_get (D := D) (ci := 1) (v := .int (nI (siz T))) (C := RX1) (T := TX1) (N := 6) hx hb hts (by decide +kernel) hown hG.1 hP 0 cw_x rfl 1 (by decide) (hts (.fieldLink RX1 19 "LopsidedRanks" "soldiers" "I") (by decide +kernel)) (fun _ h9 => h9) rfl dX1_mean_15 ?_
    refine lv_icmp_ge (tgt := 38) hx hb dX1_mean_18 (by decide) (fun c18 => ?_) (fun c18 => ?_)
    · rw [nI_leI (by omega) (by omega)] at c18
      exact absurd c18 (by omega)
    · rw [nI_leI (by omega) (by omega)] at c18
      refine lv_iload_n hx hb dX1_mean_21 rfl (lv_at hl 1 rfl) ?_
      refine lv_aload_n hx hb dX1_mean_22 rfl (lv_at hl 2 rfl) ?_
      refine lv_iload_n hx hb dX1_mean_23 rfl (lv_at hl 0 rfl) ?_
      refine va_csq (va_Run.run (va_runV (As := [.int (nI i)]) (rest := [.int (nI d)]) ⟨hx, hb, hml, hown, hts⟩ (c_X1_inLine l (N := siz T) (j := i) hsz (by omega)) (cwV 1 hts gX1_mean_X1_inLine rfl rfl rfl (by decide +kernel) ⟨Nat.le_trans (Nat.le_of_ble_eq_true rfl) hR.1, Nat.le_trans (Nat.le_of_ble_eq_true rfl) hR.2⟩) ⟨PcR.blind, va_recv hG.1 hP (ci := 1) (q0 := 0) rfl cw_x, PcR.at hP hG⟩ rfl rfl hl.1 rfl (lv_room (Nat.le_of_ble_eq_true rfl)) dX1_mean_24 ⟨hC.1, hC.2⟩)) (fun r24 q24 => ?_)
      subst q24
      rw [if_pos (show i < siz T by omega), hj]
      refine vp_callSi (va_Run.run (va_runS (As := [va_rf ((some j).map ad)]) (rest := [.int (nI d)]) ⟨hx, hb, hml, hown, hts⟩ (c_X1_depthOf l (p0 := some j) (ks := j :: (anc j T).reverse) hcl (fun k e => by cases e; exact hjK) ⟨rfl, by rw [p1]; exact UpC_top hs⟩) (va_cwS 1 hts gX1_mean_X1_depthOf rfl rfl rfl (by decide +kernel) ⟨Nat.le_trans (Nat.le_of_ble_eq_true rfl) hR.1, Nat.le_trans (Nat.le_of_ble_eq_true rfl) hR.2⟩) ⟨PcR.blind, PcR.at hP hG⟩ rfl rfl hl.1 rfl (lv_room (Nat.le_of_ble_eq_true rfl)) dX1_mean_27 ⟨hC.1, hC.2⟩)) (fun r27 q27 => ?_)
      subst q27
      refine zr_eqi (show lnOf (some j) (j :: (anc j T).reverse) = nI ((anc j T).length) from by simp [lnOf]) ?_
      refine lv_iadd hx hb dX1_mean_30 ?_
      refine zr_eqi (nI_add d ((anc j T).length)) ?_
      refine lv_istore_n (lv' := [(1, .int (nI (d + ((anc j T).length)))), (2, .int (nI i)), (0, .ref x)]) hx hb dX1_mean_31 rfl hl (by decide) rfl (fun ls hl => ?_)
      refine lv_iinc (v := nI (i + 1)) (lv' := [(2, .int (nI (i + 1))), (1, .int (nI (d + ((anc j T).length)))), (0, .ref x)]) hx hb dX1_mean_32 hl (k := 1) rfl (nI_add i 1) (by decide) rfl (fun ls hl => ?_)
      refine lv_goto (tgt := 13) hx hb dX1_mean_35 (by decide) ?_
      exact ih (i + 1) (d + (anc j T).length) (by omega) (by rw [hdr, sml_cons] at kk; exact kk) _ hl
set_option maxHeartbeats 4000000 in
set_option maxRecDepth 100000 in
/-- mean() -/
theorem c_X1_mean (l : Launch) {D : va_G} {cA cZ cI : ClassId} {x ln : Nat} {mo dr ds : Int32} {K : List Nat} {ad : Nat → Nat} {g : Nat → Nd} {T : Tr} (hrep : RepC T K g) : Met l yX1_mean wsX1_mean ({ frames := 2, cells := 0, slots := 0, locals := 80 } : Room) (PcR D (tysA cA cZ cI) (cw x ln cA (nI (siz T)) (root T) mo dr ds (fun i => (keysT T)[i]?) K ad g) [.ref x]) (vp_Sd (fun r => r = mnT T)) 0 0 (fun _ => False) := by
  refine Met.ofW (cc := cX1_mean) (maxL := 3) (ret := (some .double)) (by decide) rfl ?_
  intro p e s m args below meth c s₁ B hml hv
  obtain ⟨rfl, hP, hG⟩ := hv
  have hx := B.exec
  have hb := B.bytes
  have hr := B.returns
  have hts := atoms_spec (ws := wsX1_mean) B.pre
  have hown : s.vm.findClass RX1 = some m.cls := findClass_of_methodNamed B.named
  have hlocks := B.notSynchronized
  have hl := lv_entry ([.ref x]) (n := 3) (Nat.le_of_ble_eq_true rfl)
  rw [lg_entry_eq]
  generalize (lg_sl ([.ref x]) ++ List.replicate (3 - (lg_sl ([.ref x])).length) Slot.unset).toArray = ls at hl ⊢
  have hl : lv_has ls 3 [(0, .ref x)] := hl
  obtain ⟨hb0, hin0, hsz, hs, hc, hK0⟩ := id hrep
  refine lv_aload_n hx hb dX1_mean_0 rfl (lv_at hl 0 rfl) ?_
  refine va_get (D := D) (ci := 1) (v := .int (nI (siz T))) (C := RX1) (T := TX1) (N := 6) hx hb hts (by decide +kernel) hown hG.1 hP 0 cw_x rfl 1 (by decide) (hts (.fieldLink RX1 19 "LopsidedRanks" "soldiers" "I") (by decide +kernel)) (fun _ h9 => h9) rfl dX1_mean_1 ?_
  refine lv_if_ne (tgt := 9) hx hb dX1_mean_4 (by decide) (fun c4 => ?_) (fun c4 => ?_)
  · replace c4 := (not_congr (zr_eq0 (by omega))).mp c4
    refine lv_iconst (v := nI 0) hx hb dX1_mean_9 (by decide) ?_
    refine lv_istore_n (lv' := [(1, .int (nI 0)), (0, .ref x)]) hx hb dX1_mean_10 rfl hl (by decide) rfl (fun ls hl => ?_)
    refine lv_iconst (v := nI 0) hx hb dX1_mean_11 (by decide) ?_
    refine lv_istore_n (lv' := [(2, .int (nI 0)), (1, .int (nI 0)), (0, .ref x)]) hx hb dX1_mean_12 rfl hl (by decide) rfl (fun ls hl => ?_)
    refine L_X1_mean hx hb hml hts hown hG hP ⟨Nat.le_of_ble_eq_true rfl, Nat.le_of_ble_eq_true rfl⟩ ⟨Nat.zero_le _, Nat.zero_le _⟩ hrep (siz T) 0 0 (Nat.zero_add _) (fun ls hl => ?_) _ hl
    rw [List.drop_zero, show sml (fun j => (anc j T).length) (keysT T) 0 = dps 0 T from (dps_sml hb0 0 0).trans (Nat.zero_add _)] at hl
    refine lv_iload_n hx hb dX1_mean_38 rfl (lv_at hl 0 rfl) ?_
    refine lv_i2d hx hb dX1_mean_39 ?_
    refine lv_aload_n hx hb dX1_mean_40 rfl (lv_at hl 1 rfl) ?_
    refine va_get (D := D) (ci := 1) (v := .int (nI (siz T))) (C := RX1) (T := TX1) (N := 6) hx hb hts (by decide +kernel) hown hG.1 hP 0 cw_x rfl 1 (by decide) (hts (.fieldLink RX1 19 "LopsidedRanks" "soldiers" "I") (by decide +kernel)) (fun _ h9 => h9) rfl dX1_mean_41 ?_
    refine lv_i2d hx hb dX1_mean_44 ?_
    refine lv_ddiv hx hb dX1_mean_45 (n64_div (Jvm.FP.Core.i2d_fin _) (Jvm.FP.Core.i2d_fin _) (Jvm.FP.Core.i2d_ne_zero (nI_ne0 (by omega) (by omega)))) ?_
    exact W.dret (v := FP.ddiv (FP.i2d (nI (dps 0 T))) (FP.i2d (nI (siz T)))) hx hb hr (fun t ht hW => ⟨_, rfl, (if_neg c4).symm, ht⟩) (fun q hq => absurd hq List.not_mem_nil) dX1_mean_46
  · replace c4 := (zr_eq0 (by omega)).mp c4
    refine lv_dconst0 hx hb dX1_mean_7 ?_
    exact W.dret (v := FP.dconst0) hx hb hr (fun t ht hW => ⟨_, rfl, (if_pos c4).symm, ht⟩) (fun q hq => absurd hq List.not_mem_nil) dX1_mean_8

set_option maxHeartbeats 4000000 in
set_option maxRecDepth 100000 in
theorem L_X1_digest6 {D : va_G} {cA cZ cI : ClassId} {x ln : Nat} {mo dr ds : Int32} {K : List Nat} {ad : Nat → Nat} {g : Nat → Nd} {T : Tr} {p : Program} {l : Launch} {e : Env} {R : Room} {s : State} {m : MethodId} {args : Array Value} {below : List Frame} {meth : Method} {c : Code} {Q : State → Prop} {cells slots : Nat} {H : Heap} {locs : List Loc} (hx : p.tables.exec = Jvm.exec) (hb : c.code = cX1_digest) (hml : c.maxLocals = 6) (hts : ∀ w ∈ wsX1_digest, w.before args s = true) (hown : s.vm.findClass RX1 = some m.cls) (hG : GK D (tysA cA cZ cI) s) (hP : va_P D vwCl (cw x ln cA (nI (siz T)) (root T) mo dr ds (fun i => (keysT T)[i]?) K ad g) H) (hR : 4 ≤ R.frames ∧ 160 ≤ R.locals) (hC : cells ≤ R.cells ∧ slots ≤ R.slots) (hrep : RepC T K g) : ∀ (n i : Nat) (d : Int64), i + n = 8 → (∀ ls, lv_has ls 6 [(1, .long (fld (tallyT T dr ds mo) n i d)), (0, .ref x)] → W p l e R s m args below meth c H locs cells slots Q (F0 m 31 ls [])) → ∀ ls, lv_has ls 6 [(3, .int (nI i)), (1, .long d), (0, .ref x)] → W p l e R s m args below meth c H locs cells slots Q (F0 m 6 ls []) := by
  intro n
  induction n with
  | zero =>
    intro i d hi kk ls hl
    refine lv_iload_n hx hb dX1_digest_6 rfl (lv_at hl 0 rfl) ?_
    refine lv_bipush (v := nI 7) hx hb dX1_digest_7 (by decide) ?_
    refine lv_icmp_gt (tgt := 31) hx hb dX1_digest_9 (by decide) (fun c9 => ?_) (fun c9 => ?_)
    · rw [nI_ltI (by omega) (by omega)] at c9
      exact kk _ (lv_sub hl [1, 2] rfl)
    · rw [nI_ltI (by omega) (by omega)] at c9
      exact absurd c9 (by omega)
  | succ n ih =>
    intro i d hi kk ls hl
    refine lv_iload_n hx hb dX1_digest_6 rfl (lv_at hl 0 rfl) ?_
    refine lv_bipush (v := nI 7) hx hb dX1_digest_7 (by decide) ?_
    refine lv_icmp_gt (tgt := 31) hx hb dX1_digest_9 (by decide) (fun c9 => ?_) (fun c9 => ?_)
    · rw [nI_ltI (by omega) (by omega)] at c9
      exact absurd c9 (by omega)
    · rw [nI_ltI (by omega) (by omega)] at c9
      refine lv_lload_n hx hb dX1_digest_12 rfl (lv_at hl 1 rfl) ?_
      refine lv_ldc2 hx hb hown (v := 31) (hts (.constantLong RX1 138 (31)) (by decide +kernel)) dX1_digest_13 ?_
      refine lv_lmul hx hb dX1_digest_16 ?_
      refine lv_aload_n hx hb dX1_digest_17 rfl (lv_at hl 2 rfl) ?_
      refine lv_iload_n hx hb dX1_digest_18 rfl (lv_at hl 0 rfl) ?_
      refine vp_callSi (va_Run.run (va_runV (As := [.int (nI i)]) (rest := [.long (d * 31)]) ⟨hx, hb, hml, hown, hts⟩ (c_X1_tally l hrep (w0 := i) (by omega)) (cwV 1 hts gX1_digest_X1_tally rfl rfl rfl (by decide +kernel) ⟨Nat.le_trans (Nat.le_of_ble_eq_true rfl) hR.1, Nat.le_trans (Nat.le_of_ble_eq_true rfl) hR.2⟩) ⟨PcR.blind, va_recv hG.1 hP (ci := 1) (q0 := 0) rfl cw_x, PcR.at hP hG⟩ rfl rfl hl.1 rfl (lv_room (Nat.le_of_ble_eq_true rfl)) dX1_digest_19 ⟨hC.1, hC.2⟩)) (fun r19 q19 => ?_)
      subst q19
      refine lv_i2l hx hb dX1_digest_22 rfl ?_
      refine lv_ladd hx hb dX1_digest_23 ?_
      refine lv_lstore_n (lv' := [(1, .long ((d * 31) + ((tallyT T dr ds mo i).toInt64))), (3, .int (nI i)), (0, .ref x)]) hx hb dX1_digest_24 rfl hl (by decide) rfl (fun ls hl => ?_)
      refine lv_iinc (v := nI (i + 1)) (lv' := [(3, .int (nI (i + 1))), (1, .long ((d * 31) + ((tallyT T dr ds mo i).toInt64))), (0, .ref x)]) hx hb dX1_digest_25 hl (k := 1) rfl (nI_add i 1) (by decide) rfl (fun ls hl => ?_)
      refine lv_goto (tgt := 6) hx hb dX1_digest_28 (by decide) ?_
      exact ih (i + 1) _ (by omega) kk _ hl
set_option maxHeartbeats 4000000 in
set_option maxRecDepth 100000 in
theorem L_X1_digest64 {D : va_G} {cA cZ cI : ClassId} {x ln : Nat} {mo dr ds : Int32} {K : List Nat} {ad : Nat → Nat} {g : Nat → Nd} {T : Tr} {p : Program} {l : Launch} {e : Env} {R : Room} {s : State} {m : MethodId} {args : Array Value} {below : List Frame} {meth : Method} {c : Code} {Q : State → Prop} {cells slots : Nat} {H : Heap} {locs : List Loc} (hx : p.tables.exec = Jvm.exec) (hb : c.code = cX1_digest) (hml : c.maxLocals = 6) (hts : ∀ w ∈ wsX1_digest, w.before args s = true) (hown : s.vm.findClass RX1 = some m.cls) (hG : GK D (tysA cA cZ cI) s) (hP : va_P D vwCl (cw x ln cA (nI (siz T)) (root T) mo dr ds (fun i => (keysT T)[i]?) K ad g) H) (hR : 4 ≤ R.frames ∧ 160 ≤ R.locals) (hC : cells ≤ R.cells ∧ slots ≤ R.slots) (hrep : RepC T K g) {j q0 : Nat} (hjT : j ∈ keysT T) : ∀ (n i : Nat) (d : Int64), i + n = 8 → (∀ ls, lv_has ls 6 [(1, .long (fld (tellT T j) n i d)), (3, .int (nI q0)), (0, .ref x)] → W p l e R s m args below meth c H locs cells slots Q (F0 m 93 ls [])) → ∀ ls, lv_has ls 6 [(5, .int (nI i)), (1, .long d), (4, .ref (ad j)), (3, .int (nI q0)), (0, .ref x)] → W p l e R s m args below meth c H locs cells slots Q (F0 m 64 ls []) := by
  have hjK := (hrep.in1 j hjT).1
  intro n
  induction n with
  | zero =>
    intro i d hi kk ls hl
    refine lv_iload hx hb dX1_digest_64 (lv_at hl 0 rfl) ?_
    refine lv_bipush (v := nI 7) hx hb dX1_digest_66 (by decide) ?_
    refine lv_icmp_gt (tgt := 93) hx hb dX1_digest_68 (by decide) (fun c68 => ?_) (fun c68 => ?_)
    · rw [nI_ltI (by omega) (by omega)] at c68
      exact kk _ (lv_sub hl [1, 3, 4] rfl)
    · rw [nI_ltI (by omega) (by omega)] at c68
      exact absurd c68 (by omega)
  | succ n ih =>
    intro i d hi kk ls hl
    refine lv_iload hx hb dX1_digest_64 (lv_at hl 0 rfl) ?_
    refine lv_bipush (v := nI 7) hx hb dX1_digest_66 (by decide) ?_
    refine lv_icmp_gt (tgt := 93) hx hb dX1_digest_68 (by decide) (fun c68 => ?_) (fun c68 => ?_)
    · rw [nI_ltI (by omega) (by omega)] at c68
      exact absurd c68 (by omega)
    · rw [nI_ltI (by omega) (by omega)] at c68
      refine lv_lload_n hx hb dX1_digest_71 rfl (lv_at hl 1 rfl) ?_
      refine lv_ldc2 hx hb hown (v := 31) (hts (.constantLong RX1 138 (31)) (by decide +kernel)) dX1_digest_72 ?_
      refine lv_lmul hx hb dX1_digest_75 ?_
      refine lv_aload_n hx hb dX1_digest_76 rfl (lv_at hl 4 rfl) ?_
      refine lv_aload hx hb dX1_digest_77 (lv_at hl 2 rfl) ?_
      refine lv_iload hx hb dX1_digest_79 (lv_at hl 0 rfl) ?_
      refine vp_callSi (va_Run.run (va_runV (As := [.ref (ad j), .int (nI i)]) (rest := [.long (d * 31)]) ⟨hx, hb, hml, hown, hts⟩ (c_X1_tell l hrep hjT (w0 := i) (by omega)) (cwV 2 hts gX1_digest_X1_tell rfl rfl rfl (by decide +kernel) ⟨Nat.le_trans (Nat.le_of_ble_eq_true rfl) hR.1, Nat.le_trans (Nat.le_of_ble_eq_true rfl) hR.2⟩) ⟨PcR.blind, va_recv hG.1 hP (ci := 1) (q0 := 0) rfl cw_x, PcR.at hP hG⟩ rfl rfl hl.1 rfl (lv_room (Nat.le_of_ble_eq_true rfl)) dX1_digest_81 ⟨hC.1, hC.2⟩)) (fun r81 q81 => ?_)
      subst q81
      refine lv_i2l hx hb dX1_digest_84 rfl ?_
      refine lv_ladd hx hb dX1_digest_85 ?_
      refine lv_lstore_n (lv' := [(1, .long ((d * 31) + ((tellT T j i).toInt64))), (5, .int (nI i)), (4, .ref (ad j)), (3, .int (nI q0)), (0, .ref x)]) hx hb dX1_digest_86 rfl hl (by decide) rfl (fun ls hl => ?_)
      refine lv_iinc (v := nI (i + 1)) (lv' := [(5, .int (nI (i + 1))), (1, .long ((d * 31) + ((tellT T j i).toInt64))), (4, .ref (ad j)), (3, .int (nI q0)), (0, .ref x)]) hx hb dX1_digest_87 hl (k := 1) rfl (nI_add i 1) (by decide) rfl (fun ls hl => ?_)
      refine lv_goto (tgt := 64) hx hb dX1_digest_90 (by decide) ?_
      exact ih (i + 1) _ (by omega) kk _ hl
set_option maxHeartbeats 4000000 in
set_option maxRecDepth 100000 in
theorem L_X1_digest33 {D : va_G} {cA cZ cI : ClassId} {x ln : Nat} {mo dr ds : Int32} {K : List Nat} {ad : Nat → Nat} {g : Nat → Nd} {T : Tr} {p : Program} {l : Launch} {e : Env} {R : Room} {s : State} {m : MethodId} {args : Array Value} {below : List Frame} {meth : Method} {c : Code} {Q : State → Prop} {cells slots : Nat} {H : Heap} {locs : List Loc} (hx : p.tables.exec = Jvm.exec) (hb : c.code = cX1_digest) (hml : c.maxLocals = 6) (hts : ∀ w ∈ wsX1_digest, w.before args s = true) (hown : s.vm.findClass RX1 = some m.cls) (hG : GK D (tysA cA cZ cI) s) (hP : va_P D vwCl (cw x ln cA (nI (siz T)) (root T) mo dr ds (fun i => (keysT T)[i]?) K ad g) H) (hR : 4 ≤ R.frames ∧ 160 ≤ R.locals) (hC : cells ≤ R.cells ∧ slots ≤ R.slots) (hrep : RepC T K g) : ∀ (n i : Nat) (d : Int64), i + n = siz T → (∀ ls, lv_has ls 6 [(1, .long (((keysT T).drop i).foldl (dgS T) d)), (0, .ref x)] → W p l e R s m args below meth c H locs cells slots Q (F0 m 99 ls [])) → ∀ ls, lv_has ls 6 [(3, .int (nI i)), (1, .long d), (0, .ref x)] → W p l e R s m args below meth c H locs cells slots Q (F0 m 33 ls []) := by
  have hcl := hrep.cl
  obtain ⟨hb0, hin0, hsz, hs, hc, hK0⟩ := id hrep
  intro n
  induction n with
  | zero =>
    intro i d hi kk ls hl
    refine lv_iload_n hx hb dX1_digest_33 rfl (lv_at hl 0 rfl) ?_
    refine lv_aload_n hx hb dX1_digest_34 rfl (lv_at hl 2 rfl) ?_
    refine va_get (D := D) (ci := 1) (v := .int (nI (siz T))) (C := RX1) (T := TX1) (N := 6) hx hb hts (by decide +kernel) hown hG.1 hP 0 cw_x rfl 1 (by decide) (hts (.fieldLink RX1 19 "LopsidedRanks" "soldiers" "I") (by decide +kernel)) (fun _ h9 => h9) rfl dX1_digest_35 ?_
    refine lv_icmp_ge (tgt := 99) hx hb dX1_digest_38 (by decide) (fun c38 => ?_) (fun c38 => ?_)
    · rw [nI_leI (by omega) (by omega)] at c38
      have e9 : (keysT T).drop i = [] := List.drop_eq_nil_of_le (by rw [keys_len]; omega)
      rw [e9] at kk
      exact kk _ (lv_sub hl [1, 2] rfl)
    · rw [nI_leI (by omega) (by omega)] at c38
      exact absurd c38 (by omega)
  | succ n ih =>
    intro i d hi kk ls hl
    have hil : i < (keysT T).length := by rw [keys_len]; omega
    obtain ⟨j, hj⟩ : ∃ j, (keysT T)[i]? = some j := ⟨_, List.getElem?_eq_getElem hil⟩
    have hdr : (keysT T).drop i = j :: (keysT T).drop (i + 1) := by
      rw [List.drop_eq_getElem_cons hil]
      rw [List.getElem?_eq_getElem hil] at hj
      rw [Option.some.inj hj]
    have hjT : j ∈ keysT T := List.mem_of_getElem? hj
    have hjK := (hrep.in1 j hjT).1
    obtain ⟨sz, v, lt, rt, esub, p1, p2, p3, p4, p5, p6, p7, p8⟩ := hrep.at hjT
    refine lv_iload_n hx hb dX1_digest_33 rfl (lv_at hl 0 rfl) ?_
    refine lv_aload_n hx hb dX1_digest_34 rfl (lv_at hl 2 rfl) ?_
    refine va_get (D := D) (ci := 1) (v := .int (nI (siz T))) (C := RX1) (T := TX1) (N := 6) hx hb hts (by decide +kernel) hown hG.1 hP 0 cw_x rfl 1 (by decide) (hts (.fieldLink RX1 19 "LopsidedRanks" "soldiers" "I") (by decide +kernel)) (fun _ h9 => h9) rfl dX1_digest_35 ?_
    refine lv_icmp_ge (tgt := 99) hx hb dX1_digest_38 (by decide) (fun c38 => ?_) (fun c38 => ?_)
    · rw [nI_leI (by omega) (by omega)] at c38
      exact absurd c38 (by omega)
    · rw [nI_leI (by omega) (by omega)] at c38
      refine lv_aload_n hx hb dX1_digest_41 rfl (lv_at hl 2 rfl) ?_
      refine lv_iload_n hx hb dX1_digest_42 rfl (lv_at hl 0 rfl) ?_
      refine va_csq (va_Run.run (va_runV (As := [.int (nI i)]) (rest := []) ⟨hx, hb, hml, hown, hts⟩ (c_X1_inLine l (N := siz T) (j := i) hsz (by omega)) (cwV 1 hts gX1_digest_X1_inLine rfl rfl rfl (by decide +kernel) ⟨Nat.le_trans (Nat.le_of_ble_eq_true rfl) hR.1, Nat.le_trans (Nat.le_of_ble_eq_true rfl) hR.2⟩) ⟨PcR.blind, va_recv hG.1 hP (ci := 1) (q0 := 0) rfl cw_x, PcR.at hP hG⟩ rfl rfl hl.1 rfl (lv_room (Nat.le_of_ble_eq_true rfl)) dX1_digest_43 ⟨hC.1, hC.2⟩)) (fun r43 q43 => ?_)
      subst q43
      rw [if_pos (show i < siz T by omega), hj]
      refine lv_astore (lv' := [(4, .ref (ad j)), (3, .int (nI i)), (1, .long d), (0, .ref x)]) hx hb dX1_digest_46 hl (by decide) rfl (fun ls hl => ?_)
      refine lv_lload_n hx hb dX1_digest_48 rfl (lv_at hl 2 rfl) ?_
      refine lv_ldc2 hx hb hown (v := 31) (hts (.constantLong RX1 138 (31)) (by decide +kernel)) dX1_digest_49 ?_
      refine lv_lmul hx hb dX1_digest_52 ?_
      refine lv_aload hx hb dX1_digest_53 (lv_at hl 0 rfl) ?_
      refine vp_callSi (va_Run.run (va_runS (As := [.ref (ad j)]) (rest := [.long (d * 31)]) ⟨hx, hb, hml, hown, hts⟩ (c_X1_heightOf l (o := some j) (fun k e => by cases e; exact hjK)) (va_cwS 1 hts gX1_digest_X1_heightOf rfl rfl rfl (by decide +kernel) ⟨Nat.le_trans (Nat.le_of_ble_eq_true rfl) hR.1, Nat.le_trans (Nat.le_of_ble_eq_true rfl) hR.2⟩) ⟨PcR.blind, PcR.at hP hG⟩ rfl rfl hl.1 rfl (lv_room (Nat.le_of_ble_eq_true rfl)) dX1_digest_55 ⟨hC.1, hC.2⟩)) (fun r55 q55 => ?_)
      subst q55
      refine lv_i2l hx hb dX1_digest_58 rfl ?_
      refine lv_ladd hx hb dX1_digest_59 ?_
      refine lv_lstore_n (lv' := [(1, .long ((d * 31) + ((nI j).toInt64))), (4, .ref (ad j)), (3, .int (nI i)), (0, .ref x)]) hx hb dX1_digest_60 rfl hl (by decide) rfl (fun ls hl => ?_)
      refine lv_iconst (v := nI 0) hx hb dX1_digest_61 (by decide) ?_
      refine lv_istore (lv' := [(5, .int (nI 0)), (1, .long ((d * 31) + ((nI j).toInt64))), (4, .ref (ad j)), (3, .int (nI i)), (0, .ref x)]) hx hb dX1_digest_62 hl (by decide) rfl (fun ls hl => ?_)
      have hl : lv_has ls 6 [(5, .int (nI 0)), (1, .long ((d * 31) + ((nI j).toInt64))), (4, .ref (ad j)), (3, .int (nI i)), (0, .ref x)] := lv_sub hl [0, 1, 2, 3, 4] rfl
      refine L_X1_digest64 hx hb hml hts hown hG hP hR hC hrep hjT 8 0 _ rfl (fun ls hl => ?_) _ hl
      refine lv_iinc (v := nI (i + 1)) (lv' := [(3, .int (nI (i + 1))), (1, .long (dgS T d j)), (0, .ref x)]) hx hb dX1_digest_93 hl (k := 1) rfl (nI_add i 1) (by decide) rfl (fun ls hl => ?_)
      refine lv_goto (tgt := 33) hx hb dX1_digest_96 (by decide) ?_
      exact ih (i + 1) _ (by omega) (by rw [hdr, List.foldl_cons] at kk; exact kk) _ hl
set_option maxHeartbeats 4000000 in
set_option maxRecDepth 100000 in
/-- digest() -/
theorem c_X1_digest (l : Launch) {D : va_G} {cA cZ cI : ClassId} {x ln : Nat} {mo dr ds : Int32} {K : List Nat} {ad : Nat → Nat} {g : Nat → Nd} {T : Tr} (hrep : RepC T K g) : Met l yX1_digest wsX1_digest ({ frames := 4, cells := 0, slots := 0, locals := 160 } : Room) (PcR D (tysA cA cZ cI) (cw x ln cA (nI (siz T)) (root T) mo dr ds (fun i => (keysT T)[i]?) K ad g) [.ref x]) (vp_Sl (fun r => r = dgT T dr ds mo)) 0 0 (fun _ => False) := by
  refine Met.ofW (cc := cX1_digest) (maxL := 6) (ret := (some .long)) (by decide) rfl ?_
  intro p e s m args below meth c s₁ B hml hv
  obtain ⟨rfl, hP, hG⟩ := hv
  have hx := B.exec
  have hb := B.bytes
  have hr := B.returns
  have hts := atoms_spec (ws := wsX1_digest) B.pre
  have hown : s.vm.findClass RX1 = some m.cls := findClass_of_methodNamed B.named
  have hlocks := B.notSynchronized
  have hl := lv_entry ([.ref x]) (n := 6) (Nat.le_of_ble_eq_true rfl)
  rw [lg_entry_eq]
  generalize (lg_sl ([.ref x]) ++ List.replicate (6 - (lg_sl ([.ref x])).length) Slot.unset).toArray = ls at hl ⊢
  have hl : lv_has ls 6 [(0, .ref x)] := hl
  obtain ⟨hb0, hin0, hsz, hs, hc, hK0⟩ := id hrep
  refine lv_ldc2 hx hb hown (v := 1289) (hts (.constantLong RX1 136 (1289)) (by decide +kernel)) dX1_digest_0 ?_
  refine lv_lstore_n (lv' := [(1, .long (1289)), (0, .ref x)]) hx hb dX1_digest_3 rfl hl (by decide) rfl (fun ls hl => ?_)
  refine lv_iconst (v := nI 0) hx hb dX1_digest_4 (by decide) ?_
  refine lv_istore_n (lv' := [(3, .int (nI 0)), (1, .long (1289)), (0, .ref x)]) hx hb dX1_digest_5 rfl hl (by decide) rfl (fun ls hl => ?_)
  refine L_X1_digest6 hx hb hml hts hown hG hP ⟨Nat.le_of_ble_eq_true rfl, Nat.le_of_ble_eq_true rfl⟩ ⟨Nat.zero_le _, Nat.zero_le _⟩ hrep 8 0 _ rfl (fun ls hl => ?_) _ hl
  refine lv_iconst (v := nI 0) hx hb dX1_digest_31 (by decide) ?_
  refine lv_istore_n (lv' := [(3, .int (nI 0)), (1, .long (fld (tallyT T dr ds mo) 8 0 1289)), (0, .ref x)]) hx hb dX1_digest_32 rfl hl (by decide) rfl (fun ls hl => ?_)
  refine L_X1_digest33 hx hb hml hts hown hG hP ⟨Nat.le_of_ble_eq_true rfl, Nat.le_of_ble_eq_true rfl⟩ ⟨Nat.zero_le _, Nat.zero_le _⟩ hrep (siz T) 0 _ (Nat.zero_add _) (fun ls hl => ?_) _ hl
  rw [List.drop_zero] at hl
  have hl : lv_has ls 6 [(1, .long (dgT T dr ds mo)), (0, .ref x)] := hl
  refine lv_lload_n hx hb dX1_digest_99 rfl (lv_at hl 0 rfl) ?_
  exact W.lret (v := dgT T dr ds mo) hx hb hr (fun t ht hW => ⟨_, rfl, rfl, ht⟩) (fun q hq => absurd hq List.not_mem_nil) dX1_digest_100

