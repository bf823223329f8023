/-! WRITERS of the class: the soldiers' references -/
def sA (d : Nd) (a : Option Nat) : Nd := (a, d.2.1, d.2.2.1, d.2.2.2)
def sL (d : Nd) (v : Option Nat) : Nd := (d.1, v, d.2.2.1, d.2.2.2)
def sR (d : Nd) (v : Option Nat) : Nd := (d.1, d.2.1, v, d.2.2.2)
def sC (d : Nd) (v : Int32) : Nd := (d.1, d.2.1, d.2.2.1, v)
def stG (g : Nat → Nd) (q h : Nat) (r : Option Nat) : Nat → Nd := match r with
  | none => va_up g q (if h < q then sL (g q) none else sR (g q) none)
  | some c => va_up (va_up g q (if h < q then sL (g q) (some c) else sR (g q) (some c))) c (sA ((va_up g q (if h < q then sL (g q) (some c) else sR (g q) (some c))) c) (some q))
def hoG (g : Nat → Nd) (r : Option Nat) (q : Nat) : Nat → Nd := match r with
  | none => g
  | some c => stG g q c (some c)
def sbG (g : Nat → Nd) (p : Option Nat) (h : Nat) (r : Option Nat) : Nat → Nd := match p with
  | some q => stG g q h r
  | none => match r with
    | none => g
    | some c => va_up g c (sA (g c) none)
def sbT (tp p r : Option Nat) : Option Nat := match p with
  | some _ => tp
  | none => r
def addG (d : Int32) : List Nat → (Nat → Nd) → Nat → Nd
  | [], g => g
  | k :: ks, g => addG d ks (va_up g k (sC (g k) ((g k).2.2.2 + d)))
set_option maxHeartbeats 4000000 in
set_option maxRecDepth 100000 in
/-- setTowards(h, r) of q0 -/
theorem c_X0_setTowards (l : Launch) {D : va_G} {cA cZ cI : ClassId} {x ln : Nat} {n : Int32} {tp : Option Nat} {mo dr ds : Int32} {li : Nat → Option Nat} {K : List Nat} {ad : Nat → Nat} {g : Nat → Nd} {A : Nat → Prop} {q0 h : Nat} {r0 : Option Nat} (hq : q0 ∈ K) (hqn : q0 < 1000) (hh : h < 1000) (hr0 : ∀ c, r0 = some c → c ∈ K) : Met l yX0_setTowards wsX0_setTowards ({ frames := 0, cells := 0, slots := 0, locals := 0 } : Room) (PcM D (tysA cA cZ cI) A (cw x ln cA n tp mo dr ds li K ad g) [.ref (ad q0), .int (nI h), va_rf (r0.map ad)]) (va_Qv (S := Unit) (fun _ => True) (fun _ => BM D (tysA cA cZ cI) A (cw x ln cA n tp mo dr ds li K ad (stG g q0 h r0))) A) 0 0 A := by
  refine Met.ofW (cc := cX0_setTowards) (maxL := 3) (ret := none) (by decide) rfl ?_
  intro p e s m args below meth c s₁ B hml hv
  obtain ⟨rfl, hA, hP, hG, hD⟩ := hv
  have hx := B.exec
  have hb := B.bytes
  have hr := B.returns
  have hts := atoms_spec (ws := wsX0_setTowards) B.pre
  have hown : s.vm.findClass RX0 = some m.cls := findClass_of_methodNamed B.named
  have hlocks := B.notSynchronized
  have hl : lv_has ((lg_sl ([.ref (ad q0), .int (nI h), va_rf (r0.map ad)]) ++ List.replicate (3 - (lg_sl ([.ref (ad q0), .int (nI h), va_rf (r0.map ad)])).length) Slot.unset).toArray) 3 [(0, .ref (ad q0)), (1, .int (nI h)), (2, va_rf (r0.map ad))] := by cases r0 <;> exact lv_entry _ (Nat.le_of_ble_eq_true rfl)
  rw [lg_entry_eq]
  generalize (lg_sl ([.ref (ad q0), .int (nI h), va_rf (r0.map ad)]) ++ List.replicate (3 - (lg_sl ([.ref (ad q0), .int (nI h), va_rf (r0.map ad)])).length) Slot.unset).toArray = ls at hl ⊢
  have hl : lv_has ls 3 [(0, .ref (ad q0)), (1, .int (nI h)), (2, va_rf (r0.map ad))] := hl
  have hS : va_S A s.heap s.heap [] := va_S.rf
  refine lv_iload_n hx hb dX0_setTowards_0 rfl (lv_at hl 1 rfl) ?_
  refine lv_aload_n hx hb dX0_setTowards_1 rfl (lv_at hl 0 rfl) ?_
  obtain ⟨i0, hi0⟩ := cw_s (x := x) (ln := ln) (cA := cA) (n := n) (tp := tp) (mo := mo) (dr := dr) (ds := ds) (li := li) (ad := ad) (g := g) (hq : q0 ∈ K)
  refine va_get (D := D) (ci := 0) (v := .int (nI q0)) (C := RX0) (T := TX0) (N := 5) hx hb hts (by decide +kernel) hown hG.1 hP i0 hi0 rfl 0 (by decide) (hts (.fieldLink RX0 7 "LopsidedRanks$Soldier" "height" "I") (by decide +kernel)) (fun _ h9 => h9) rfl dX0_setTowards_2 ?_
  refine lv_icmp_ge (tgt := 16) hx hb dX0_setTowards_5 (by decide) (fun c5 => ?_) (fun c5 => ?_)
  · rw [nI_leI (by omega) (by omega)] at c5
    have hlt : ¬ h < q0 := by omega
    refine lv_aload_n hx hb dX0_setTowards_16 rfl (lv_at hl 0 rfl) ?_
    refine zr_aload_n hx hb dX0_setTowards_17 rfl (lv_at hl 2 rfl) ?_
    obtain ⟨i1, hi1⟩ := cw_s (x := x) (ln := ln) (cA := cA) (n := n) (tp := tp) (mo := mo) (dr := dr) (ds := ds) (li := li) (ad := ad) (g := g) (hq : q0 ∈ K)
    have hDp := hD
    refine va_put (D := D) (ci := 0) (v := va_rf (r0.map ad)) (ty := .object RX0) (C := RX0) (T := TX0) (N := 5) hx hb hts (by decide +kernel) tyX0 tyX0_ok nmX0 hown hG.1 hP hD hS i1 hi1 rfl 3 (by decide) (hts (.fieldLink RX0 20 "LopsidedRanks$Soldier" "right" "LLopsidedRanks$Soldier;") (by decide +kernel)) (fun _ h9 => h9) rfl (by decide +kernel) (zr_nar _) (zr_fit _) (Nat.le_of_ble_eq_true rfl) dX0_setTowards_18 (fun H locs hP hD hS => ?_)
    have hP : va_P D vwCl (cw x ln cA n tp mo dr ds li K ad (va_up g q0 (sR (g q0) r0))) H := by rw [← cw_put hDp (hq : q0 ∈ K) hi1 (sR (g q0) r0) rfl]; exact hP
    have hD : va_D A (cw x ln cA n tp mo dr ds li K ad (va_up g q0 (sR (g q0) r0))) := by rw [← cw_put hDp (hq : q0 ∈ K) hi1 (sR (g q0) r0) rfl]; exact hD
    refine zr_aload_n hx hb dX0_setTowards_21 rfl (lv_at hl 2 rfl) ?_
    refine zr_ifnull (tgt := 30) hx hb dX0_setTowards_22 (by decide) (fun c22 => ?_) (fun k22 c22 => ?_)
    · subst c22
      have e9 : va_up g q0 (sR (g q0) none) = stG g q0 h none := by simp only [stG]; rw [if_neg hlt]
      rw [e9] at hP hD
      exact W.vret hx hb hr (fun t ht hW => ⟨⟨(), rfl, trivial, by rw [ht]; exact hP, hG.moved hW, hD⟩, hS.F ht⟩) hS.2.2 dX0_setTowards_30
    · subst c22
      have hl : lv_has ls 3 [(0, .ref (ad q0)), (1, .int (nI h)), (2, .ref (ad k22))] := hl
      refine lv_aload_n hx hb dX0_setTowards_25 rfl (lv_at hl 2 rfl) ?_
      refine lv_aload_n hx hb dX0_setTowards_26 rfl (lv_at hl 0 rfl) ?_
      obtain ⟨i2, hi2⟩ := cw_s (x := x) (ln := ln) (cA := cA) (n := n) (tp := tp) (mo := mo) (dr := dr) (ds := ds) (li := li) (ad := ad) (g := va_up g q0 (sR (g q0) (some k22))) ((hr0 k22 rfl) : k22 ∈ K)
      have hDp := hD
      refine va_put (D := D) (ci := 0) (v := .ref (ad q0)) (ty := .object RX0) (C := RX0) (T := TX0) (N := 5) hx hb hts (by decide +kernel) tyX0 tyX0_ok nmX0 hown hG.1 hP hD hS i2 hi2 rfl 1 (by decide) (hts (.fieldLink RX0 23 "LopsidedRanks$Soldier" "above" "LLopsidedRanks$Soldier;") (by decide +kernel)) (fun _ h9 => h9) rfl (by decide +kernel) rfl rfl (Nat.le_of_ble_eq_true rfl) dX0_setTowards_27 (fun H locs hP hD hS => ?_)
      have hP : va_P D vwCl (cw x ln cA n tp mo dr ds li K ad (va_up (va_up g q0 (sR (g q0) (some k22))) k22 (sA ((va_up g q0 (sR (g q0) (some k22))) k22) (some q0)))) H := by rw [← cw_put hDp ((hr0 k22 rfl) : k22 ∈ K) hi2 (sA ((va_up g q0 (sR (g q0) (some k22))) k22) (some q0)) rfl]; exact hP
      have hD : va_D A (cw x ln cA n tp mo dr ds li K ad (va_up (va_up g q0 (sR (g q0) (some k22))) k22 (sA ((va_up g q0 (sR (g q0) (some k22))) k22) (some q0)))) := by rw [← cw_put hDp ((hr0 k22 rfl) : k22 ∈ K) hi2 (sA ((va_up g q0 (sR (g q0) (some k22))) k22) (some q0)) rfl]; exact hD
      have e9 : va_up (va_up g q0 (sR (g q0) (some k22))) k22 (sA ((va_up g q0 (sR (g q0) (some k22))) k22) (some q0)) = stG g q0 h (some k22) := by simp only [stG]; rw [if_neg hlt]
      rw [e9] at hP hD
      exact W.vret hx hb hr (fun t ht hW => ⟨⟨(), rfl, trivial, by rw [ht]; exact hP, hG.moved hW, hD⟩, hS.F ht⟩) hS.2.2 dX0_setTowards_30
  · rw [nI_leI (by omega) (by omega)] at c5
    have hlt : h < q0 := by omega
    refine lv_aload_n hx hb dX0_setTowards_8 rfl (lv_at hl 0 rfl) ?_
    refine zr_aload_n hx hb dX0_setTowards_9 rfl (lv_at hl 2 rfl) ?_
    obtain ⟨i3, hi3⟩ := cw_s (x := x) (ln := ln) (cA := cA) (n := n) (tp := tp) (mo := mo) (dr := dr) (ds := ds) (li := li) (ad := ad) (g := g) (hq : q0 ∈ K)
    have hDp := hD
    refine va_put (D := D) (ci := 0) (v := va_rf (r0.map ad)) (ty := .object RX0) (C := RX0) (T := TX0) (N := 5) hx hb hts (by decide +kernel) tyX0 tyX0_ok nmX0 hown hG.1 hP hD hS i3 hi3 rfl 2 (by decide) (hts (.fieldLink RX0 16 "LopsidedRanks$Soldier" "left" "LLopsidedRanks$Soldier;") (by decide +kernel)) (fun _ h9 => h9) rfl (by decide +kernel) (zr_nar _) (zr_fit _) (Nat.le_of_ble_eq_true rfl) dX0_setTowards_10 (fun H locs hP hD hS => ?_)
    have hP : va_P D vwCl (cw x ln cA n tp mo dr ds li K ad (va_up g q0 (sL (g q0) r0))) H := by rw [← cw_put hDp (hq : q0 ∈ K) hi3 (sL (g q0) r0) rfl]; exact hP
    have hD : va_D A (cw x ln cA n tp mo dr ds li K ad (va_up g q0 (sL (g q0) r0))) := by rw [← cw_put hDp (hq : q0 ∈ K) hi3 (sL (g q0) r0) rfl]; exact hD
    refine lv_goto (tgt := 21) hx hb dX0_setTowards_13 (by decide) ?_
    refine zr_aload_n hx hb dX0_setTowards_21 rfl (lv_at hl 2 rfl) ?_
    refine zr_ifnull (tgt := 30) hx hb dX0_setTowards_22 (by decide) (fun c22 => ?_) (fun k22 c22 => ?_)
    · subst c22
      have e9 : va_up g q0 (sL (g q0) none) = stG g q0 h none := by simp only [stG]; rw [if_pos hlt]
      rw [e9] at hP hD
      exact W.vret hx hb hr (fun t ht hW => ⟨⟨(), rfl, trivial, by rw [ht]; exact hP, hG.moved hW, hD⟩, hS.F ht⟩) hS.2.2 dX0_setTowards_30
    · subst c22
      have hl : lv_has ls 3 [(0, .ref (ad q0)), (1, .int (nI h)), (2, .ref (ad k22))] := hl
      refine lv_aload_n hx hb dX0_setTowards_25 rfl (lv_at hl 2 rfl) ?_
      refine lv_aload_n hx hb dX0_setTowards_26 rfl (lv_at hl 0 rfl) ?_
      obtain ⟨i4, hi4⟩ := cw_s (x := x) (ln := ln) (cA := cA) (n := n) (tp := tp) (mo := mo) (dr := dr) (ds := ds) (li := li) (ad := ad) (g := va_up g q0 (sL (g q0) (some k22))) ((hr0 k22 rfl) : k22 ∈ K)
      have hDp := hD
      refine va_put (D := D) (ci := 0) (v := .ref (ad q0)) (ty := .object RX0) (C := RX0) (T := TX0) (N := 5) hx hb hts (by decide +kernel) tyX0 tyX0_ok nmX0 hown hG.1 hP hD hS i4 hi4 rfl 1 (by decide) (hts (.fieldLink RX0 23 "LopsidedRanks$Soldier" "above" "LLopsidedRanks$Soldier;") (by decide +kernel)) (fun _ h9 => h9) rfl (by decide +kernel) rfl rfl (Nat.le_of_ble_eq_true rfl) dX0_setTowards_27 (fun H locs hP hD hS => ?_)
      have hP : va_P D vwCl (cw x ln cA n tp mo dr ds li K ad (va_up (va_up g q0 (sL (g q0) (some k22))) k22 (sA ((va_up g q0 (sL (g q0) (some k22))) k22) (some q0)))) H := by rw [← cw_put hDp ((hr0 k22 rfl) : k22 ∈ K) hi4 (sA ((va_up g q0 (sL (g q0) (some k22))) k22) (some q0)) rfl]; exact hP
      have hD : va_D A (cw x ln cA n tp mo dr ds li K ad (va_up (va_up g q0 (sL (g q0) (some k22))) k22 (sA ((va_up g q0 (sL (g q0) (some k22))) k22) (some q0)))) := by rw [← cw_put hDp ((hr0 k22 rfl) : k22 ∈ K) hi4 (sA ((va_up g q0 (sL (g q0) (some k22))) k22) (some q0)) rfl]; exact hD
      have e9 : va_up (va_up g q0 (sL (g q0) (some k22))) k22 (sA ((va_up g q0 (sL (g q0) (some k22))) k22) (some q0)) = stG g q0 h (some k22) := by simp only [stG]; rw [if_pos hlt]
      rw [e9] at hP hD
      exact W.vret hx hb hr (fun t ht hW => ⟨⟨(), rfl, trivial, by rw [ht]; exact hP, hG.moved hW, hD⟩, hS.F ht⟩) hS.2.2 dX0_setTowards_30

set_option maxHeartbeats 4000000 in
set_option maxRecDepth 100000 in
/-- handOver(r, q0) -/
theorem c_X1_handOver (l : Launch) {D : va_G} {cA cZ cI : ClassId} {x ln : Nat} {n : Int32} {tp : Option Nat} {mo dr ds : Int32} {li : Nat → Option Nat} {K : List Nat} {ad : Nat → Nat} {g : Nat → Nd} {A : Nat → Prop} {q0 : Nat} {r0 : Option Nat} (hq : q0 ∈ K) (hqn : q0 < 1000) (hr0 : ∀ c, r0 = some c → c ∈ K) (hrn : ∀ c, r0 = some c → c < 1000) : Met l yX1_handOver wsX1_handOver ({ frames := 1, cells := 0, slots := 0, locals := 40 } : Room) (PcM D (tysA cA cZ cI) A (cw x ln cA n tp mo dr ds li K ad g) [va_rf (r0.map ad), .ref (ad q0)]) (va_Qv (S := Unit) (fun _ => True) (fun _ => BM D (tysA cA cZ cI) A (cw x ln cA n tp mo dr ds li K ad (hoG g r0 q0))) A) 0 0 A := by
  refine Met.ofW (cc := cX1_handOver) (maxL := 2) (ret := none) (by decide) rfl ?_
  intro p e s m args below meth c s₁ B hml hv
  obtain ⟨rfl, hA, hP, hG, hD⟩ := hv
  have hx := B.exec
  have hb := B.bytes
  have hr := B.returns
  have hts := atoms_spec (ws := wsX1_handOver) B.pre
  have hown : s.vm.findClass RX1 = some m.cls := findClass_of_methodNamed B.named
  have hlocks := B.notSynchronized
  have hl : lv_has ((lg_sl ([va_rf (r0.map ad), .ref (ad q0)]) ++ List.replicate (2 - (lg_sl ([va_rf (r0.map ad), .ref (ad q0)])).length) Slot.unset).toArray) 2 [(0, va_rf (r0.map ad)), (1, .ref (ad q0))] := by cases r0 <;> exact lv_entry _ (Nat.le_of_ble_eq_true rfl)
  rw [lg_entry_eq]
  generalize (lg_sl ([va_rf (r0.map ad), .ref (ad q0)]) ++ List.replicate (2 - (lg_sl ([va_rf (r0.map ad), .ref (ad q0)])).length) Slot.unset).toArray = ls at hl ⊢
  have hl : lv_has ls 2 [(0, va_rf (r0.map ad)), (1, .ref (ad q0))] := hl
  have hS : va_S A s.heap s.heap [] := va_S.rf
  refine zr_aload_n hx hb dX1_handOver_0 rfl (lv_at hl 0 rfl) ?_
  refine zr_ifnull (tgt := 13) hx hb dX1_handOver_1 (by decide) (fun c1 => ?_) (fun k1 c1 => ?_)
  · subst c1
    have hP : va_P D vwCl (cw x ln cA n tp mo dr ds li K ad (hoG g none q0)) s.heap := hP
    have hD : va_D A (cw x ln cA n tp mo dr ds li K ad (hoG g none q0)) := hD
    exact W.vret hx hb hr (fun t ht hW => ⟨⟨(), rfl, trivial, by rw [ht]; exact hP, hG.moved hW, hD⟩, hS.F ht⟩) hS.2.2 dX1_handOver_13
  · subst c1
    have hl : lv_has ls 2 [(0, .ref (ad k1)), (1, .ref (ad q0))] := hl
    refine lv_aload_n hx hb dX1_handOver_4 rfl (lv_at hl 1 rfl) ?_
    refine lv_aload_n hx hb dX1_handOver_5 rfl (lv_at hl 0 rfl) ?_
    obtain ⟨i0, hi0⟩ := cw_s (x := x) (ln := ln) (cA := cA) (n := n) (tp := tp) (mo := mo) (dr := dr) (ds := ds) (li := li) (ad := ad) (g := g) ((hr0 k1 rfl) : k1 ∈ K)
    refine va_get (D := D) (ci := 0) (v := .int (nI k1)) (C := RX0) (T := TX0) (N := 5) hx hb hts (by decide +kernel) hown hG.1 hP i0 hi0 rfl 0 (by decide) (hts (.fieldLink RX1 100 "LopsidedRanks$Soldier" "height" "I") (by decide +kernel)) (fun _ h9 => h9) rfl dX1_handOver_6 ?_
    refine lv_aload_n hx hb dX1_handOver_9 rfl (lv_at hl 0 rfl) ?_
    obtain ⟨i1, hi1⟩ := cw_s (x := x) (ln := ln) (cA := cA) (n := n) (tp := tp) (mo := mo) (dr := dr) (ds := ds) (li := li) (ad := ad) (g := g) (hq : q0 ∈ K)
    refine va_callv (va_runV (As := [.int (nI k1), .ref (ad k1)]) (rest := []) ⟨hx, hb, hml, hown, hts⟩ (c_X0_setTowards l (r0 := some k1) hq hqn (hrn k1 rfl) (fun c e => by cases e; exact hr0 k1 rfl)) (cwV 2 hts gX1_handOver_X0_setTowards rfl rfl rfl (by decide +kernel) ⟨Nat.le_of_ble_eq_true rfl, Nat.le_of_ble_eq_true rfl⟩) ⟨PcM.blind, va_recv hG.1 hP (ci := 0) (q0 := i1) rfl hi1, PcM.at (fun q h => hA q (Nat.le_trans hS.1 h)) hP hG hD⟩ rfl rfl hl.1 rfl (lv_room (Nat.le_of_ble_eq_true rfl)) dX1_handOver_10 ⟨Nat.zero_le _, Nat.zero_le _⟩) hS (fun q _ h => h) (fun q h => h) (fun u10 t H locs ht hvm q10 hB hz1 hk1 hS => ?_)
    obtain ⟨hP, -, hD⟩ := hB
    rw [ht] at hP
    have hP : va_P D vwCl (cw x ln cA n tp mo dr ds li K ad (hoG g (some k1) q0)) H := hP
    have hD : va_D A (cw x ln cA n tp mo dr ds li K ad (hoG g (some k1) q0)) := hD
    exact W.vret hx hb hr (fun t ht hW => ⟨⟨(), rfl, trivial, by rw [ht]; exact hP, hG.moved hW, hD⟩, hS.F ht⟩) hS.2.2 dX1_handOver_13

set_option maxHeartbeats 4000000 in
set_option maxRecDepth 100000 in
/-- standBelow(p0, h, r0) -/
theorem c_X1_standBelow (l : Launch) {D : va_G} {cA cZ cI : ClassId} {x ln : Nat} {n : Int32} {tp : Option Nat} {mo dr ds : Int32} {li : Nat → Option Nat} {K : List Nat} {ad : Nat → Nat} {g : Nat → Nd} {A : Nat → Prop} {h : Nat} {p0 r0 : Option Nat} (hp0 : ∀ c, p0 = some c → c ∈ K) (hpn : ∀ c, p0 = some c → c < 1000) (hh : h < 1000) (hr0 : ∀ c, r0 = some c → c ∈ K) : Met l yX1_standBelow wsX1_standBelow ({ frames := 1, cells := 0, slots := 0, locals := 40 } : Room) (PcM D (tysA cA cZ cI) A (cw x ln cA n tp mo dr ds li K ad g) [.ref x, va_rf (p0.map ad), .int (nI h), va_rf (r0.map ad)]) (va_Qv (S := Unit) (fun _ => True) (fun _ => BM D (tysA cA cZ cI) A (cw x ln cA n (sbT tp p0 r0) mo dr ds li K ad (sbG g p0 h r0))) A) 0 0 A := by
  refine Met.ofW (cc := cX1_standBelow) (maxL := 4) (ret := none) (by decide) rfl ?_
  intro p e s m args below meth c s₁ B hml hv
  obtain ⟨rfl, hA, hP, hG, hD⟩ := hv
  have hx := B.exec
  have hb := B.bytes
  have hr := B.returns
  have hts := atoms_spec (ws := wsX1_standBelow) B.pre
  have hown : s.vm.findClass RX1 = some m.cls := findClass_of_methodNamed B.named
  have hlocks := B.notSynchronized
  have hl : lv_has ((lg_sl ([.ref x, va_rf (p0.map ad), .int (nI h), va_rf (r0.map ad)]) ++ List.replicate (4 - (lg_sl ([.ref x, va_rf (p0.map ad), .int (nI h), va_rf (r0.map ad)])).length) Slot.unset).toArray) 4 [(0, .ref x), (1, va_rf (p0.map ad)), (2, .int (nI h)), (3, va_rf (r0.map ad))] := by cases p0 <;> cases r0 <;> exact lv_entry _ (Nat.le_of_ble_eq_true rfl)
  rw [lg_entry_eq]
  generalize (lg_sl ([.ref x, va_rf (p0.map ad), .int (nI h), va_rf (r0.map ad)]) ++ List.replicate (4 - (lg_sl ([.ref x, va_rf (p0.map ad), .int (nI h), va_rf (r0.map ad)])).length) Slot.unset).toArray = ls at hl ⊢
  have hl : lv_has ls 4 [(0, .ref x), (1, va_rf (p0.map ad)), (2, .int (nI h)), (3, va_rf (r0.map ad))] := hl
  have hS : va_S A s.heap s.heap [] := va_S.rf
  refine zr_aload_n hx hb dX1_standBelow_0 rfl (lv_at hl 1 rfl) ?_
  refine zr_ifnull (tgt := 11) hx hb dX1_standBelow_1 (by decide) (fun c1 => ?_) (fun k1 c1 => ?_)
  · subst c1
    have hl : lv_has ls 4 [(0, .ref x), (1, .null), (2, .int (nI h)), (3, va_rf (r0.map ad))] := hl
    refine lv_aload_n hx hb dX1_standBelow_11 rfl (lv_at hl 0 rfl) ?_
    refine zr_aload_n hx hb dX1_standBelow_12 rfl (lv_at hl 3 rfl) ?_
    refine va_put (D := D) (ci := 1) (v := va_rf (r0.map ad)) (ty := .object RX0) (C := RX1) (T := TX1) (N := 6) hx hb hts (by decide +kernel) tyX1 tyX1_ok nmX1 hown hG.1 hP hD hS 0 cw_x rfl 2 (by decide) (hts (.fieldLink RX1 77 "LopsidedRanks" "top" "LLopsidedRanks$Soldier;") (by decide +kernel)) (fun _ h9 => h9) rfl (by decide +kernel) (zr_nar _) (zr_fit _) (Nat.le_of_ble_eq_true rfl) dX1_standBelow_13 (fun H locs hP hD hS => ?_)
    have hP : va_P D vwCl (cw x ln cA n r0 mo dr ds li K ad g) H := hP
    have hD : va_D A (cw x ln cA n r0 mo dr ds li K ad g) := hD
    refine zr_aload_n hx hb dX1_standBelow_16 rfl (lv_at hl 3 rfl) ?_
    refine zr_ifnull (tgt := 25) hx hb dX1_standBelow_17 (by decide) (fun c17 => ?_) (fun k17 c17 => ?_)
    · subst c17
      have hP : va_P D vwCl (cw x ln cA n (sbT tp none none) mo dr ds li K ad (sbG g none h none)) H := hP
      have hD : va_D A (cw x ln cA n (sbT tp none none) mo dr ds li K ad (sbG g none h none)) := hD
      exact W.vret hx hb hr (fun t ht hW => ⟨⟨(), rfl, trivial, by rw [ht]; exact hP, hG.moved hW, hD⟩, hS.F ht⟩) hS.2.2 dX1_standBelow_25
    · subst c17
      have hP : va_P D vwCl (cw x ln cA n (sbT tp none (some k17)) mo dr ds li K ad g) H := hP
      have hD : va_D A (cw x ln cA n (sbT tp none (some k17)) mo dr ds li K ad g) := hD
      have hl : lv_has ls 4 [(0, .ref x), (1, .null), (2, .int (nI h)), (3, .ref (ad k17))] := hl
      refine lv_aload_n hx hb dX1_standBelow_20 rfl (lv_at hl 3 rfl) ?_
      refine lv_null hx hb dX1_standBelow_21 ?_
      obtain ⟨i0, hi0⟩ := cw_s (x := x) (ln := ln) (cA := cA) (n := n) (tp := sbT tp none (some k17)) (mo := mo) (dr := dr) (ds := ds) (li := li) (ad := ad) (g := g) ((hr0 k17 rfl) : k17 ∈ K)
      have hDp := hD
      refine va_put (D := D) (ci := 0) (v := .null) (ty := .object RX0) (C := RX0) (T := TX0) (N := 5) hx hb hts (by decide +kernel) tyX0 tyX0_ok nmX0 hown hG.1 hP hD hS i0 hi0 rfl 1 (by decide) (hts (.fieldLink RX1 130 "LopsidedRanks$Soldier" "above" "LLopsidedRanks$Soldier;") (by decide +kernel)) (fun _ h9 => h9) rfl (by decide +kernel) rfl rfl (Nat.le_of_ble_eq_true rfl) dX1_standBelow_22 (fun H locs hP hD hS => ?_)
      have hP : va_P D vwCl (cw x ln cA n (sbT tp none (some k17)) mo dr ds li K ad (va_up g k17 (sA (g k17) none))) H := by rw [← cw_put hDp ((hr0 k17 rfl) : k17 ∈ K) hi0 (sA (g k17) none) rfl]; exact hP
      have hD : va_D A (cw x ln cA n (sbT tp none (some k17)) mo dr ds li K ad (va_up g k17 (sA (g k17) none))) := by rw [← cw_put hDp ((hr0 k17 rfl) : k17 ∈ K) hi0 (sA (g k17) none) rfl]; exact hD
      have hP : va_P D vwCl (cw x ln cA n (sbT tp none (some k17)) mo dr ds li K ad (sbG g none h (some k17))) H := hP
      have hD : va_D A (cw x ln cA n (sbT tp none (some k17)) mo dr ds li K ad (sbG g none h (some k17))) := hD
      exact W.vret hx hb hr (fun t ht hW => ⟨⟨(), rfl, trivial, by rw [ht]; exact hP, hG.moved hW, hD⟩, hS.F ht⟩) hS.2.2 dX1_standBelow_25
  · subst c1
    have hl : lv_has ls 4 [(0, .ref x), (1, .ref (ad k1)), (2, .int (nI h)), (3, va_rf (r0.map ad))] := hl
    refine lv_aload_n hx hb dX1_standBelow_4 rfl (lv_at hl 1 rfl) ?_
    refine lv_iload_n hx hb dX1_standBelow_5 rfl (lv_at hl 2 rfl) ?_
    refine zr_aload_n hx hb dX1_standBelow_6 rfl (lv_at hl 3 rfl) ?_
    obtain ⟨i1, hi1⟩ := cw_s (x := x) (ln := ln) (cA := cA) (n := n) (tp := tp) (mo := mo) (dr := dr) (ds := ds) (li := li) (ad := ad) (g := g) ((hp0 k1 rfl) : k1 ∈ K)
    refine va_callv (va_runV (As := [.int (nI h), va_rf (r0.map ad)]) (rest := []) ⟨hx, hb, hml, hown, hts⟩ (c_X0_setTowards l (r0 := r0) (hp0 k1 rfl) (hpn k1 rfl) hh hr0) (cwV 2 hts gX1_standBelow_X0_setTowards rfl rfl rfl (by decide +kernel) ⟨Nat.le_of_ble_eq_true rfl, Nat.le_of_ble_eq_true rfl⟩) ⟨PcM.blind, va_recv hG.1 hP (ci := 0) (q0 := i1) rfl hi1, PcM.at (fun q h => hA q (Nat.le_trans hS.1 h)) hP hG hD⟩ rfl rfl hl.1 rfl (lv_room (Nat.le_of_ble_eq_true rfl)) dX1_standBelow_7 ⟨Nat.zero_le _, Nat.zero_le _⟩) hS (fun q _ h => h) (fun q h => h) (fun u7 t H locs ht hvm q7 hB hz1 hk1 hS => ?_)
    obtain ⟨hP, -, hD⟩ := hB
    rw [ht] at hP
    have hP : va_P D vwCl (cw x ln cA n (sbT tp (some k1) r0) mo dr ds li K ad (sbG g (some k1) h r0)) H := hP
    have hD : va_D A (cw x ln cA n (sbT tp (some k1) r0) mo dr ds li K ad (sbG g (some k1) h r0)) := hD
    exact W.vret hx hb hr (fun t ht hW => ⟨⟨(), rfl, trivial, by rw [ht]; exact hP, hG.moved hW, hD⟩, hS.F ht⟩) hS.2.2 dX1_standBelow_10

theorem UpC_cong {g g' : Nat → Nd} (h : ∀ k, (g' k).1 = (g k).1) : ∀ {ks : List Nat} {p : Option Nat}, UpC g p ks → UpC g' p ks
  | [], _, e => e
  | k :: ks, _, e => ⟨e.1, by rw [h k]; exact UpC_cong h e.2⟩
theorem UpC_addco {g : Nat → Nd} {k : Nat} {c : Int32} {ks : List Nat} (h : UpC g (g k).1 ks) : UpC (va_up g k (sC (g k) c)) (sC (g k) c).1 ks := by
  refine UpC_cong (g := g) (fun j => ?_) h
  by_cases e : j = k
  · subst e; rw [va_up_self]; rfl
  · rw [va_up_ne _ _ e]
set_option maxHeartbeats 4000000 in
set_option maxRecDepth 100000 in
theorem L_X1_addToCompaniesAbove {D : va_G} {cA cZ cI : ClassId} {x ln : Nat} {n : Int32} {tp : Option Nat} {mo dr ds : Int32} {li : Nat → Option Nat} {K : List Nat} {ad : Nat → Nat} {p : Program} {l : Launch} {e : Env} {R : Room} {s : State} {m : MethodId} {args : Array Value} {below : List Frame} {meth : Method} {c : Code} {Q : State → Prop} {cells slots : Nat} {A : Nat → Prop} {H0 : Heap} (hx : p.tables.exec = Jvm.exec) (hb : c.code = cX1_addToCompaniesAbove) (hml : c.maxLocals = 3) (hts : ∀ w ∈ wsX1_addToCompaniesAbove, w.before args s = true) (hown : s.vm.findClass RX1 = some m.cls) (hG : GK D (tysA cA cZ cI) s) {d : Int32} : ∀ {ks : List Nat} {g : Nat → Nd} {p0 : Option Nat} {H : Heap} {locs : List Loc}, UpC g p0 ks → (∀ j ∈ ks, j ∈ K) → va_P D vwCl (cw x ln cA n tp mo dr ds li K ad g) H → va_D A (cw x ln cA n tp mo dr ds li K ad g) → va_S A H0 H locs → (∀ H locs, va_P D vwCl (cw x ln cA n tp mo dr ds li K ad (addG d ks g)) H → va_D A (cw x ln cA n tp mo dr ds li K ad (addG d ks g)) → va_S A H0 H locs → ∀ ls, lv_has ls 3 [(2, .null), (1, .int d)] → W p l e R s m args below meth c H locs cells slots Q (F0 m 27 ls [])) → ∀ ls, lv_has ls 3 [(2, va_rf (p0.map ad)), (1, .int d)] → W p l e R s m args below meth c H locs cells slots Q (F0 m 5 ls []) := by
  intro ks
  induction ks with
  | nil =>
    intro g p0 H locs hu hin hP hD hS kk ls hl
    have hu : p0 = none := hu
    subst hu
    have hl : lv_has ls 3 [(2, .null), (1, .int d)] := hl
    refine lv_aload_nN hx hb dX1_addToCompaniesAbove_5 rfl (lv_at hl 0 rfl) ?_
    refine lv_ifnullN (tgt := 27) hx hb dX1_addToCompaniesAbove_6 (by decide) ?_
    exact kk _ _ hP hD hS _ hl
  | cons k ks ih =>
    intro g p0 H locs hu hin hP hD hS kk ls hl
    obtain ⟨rfl, hu2⟩ := hu
    have hk := hin k List.mem_cons_self
    have hl : lv_has ls 3 [(2, .ref (ad k)), (1, .int d)] := hl
    refine lv_aload_n hx hb dX1_addToCompaniesAbove_5 rfl (lv_at hl 0 rfl) ?_
    refine lv_ifnull hx hb dX1_addToCompaniesAbove_6 ?_
    refine lv_aload_n hx hb dX1_addToCompaniesAbove_9 rfl (lv_at hl 0 rfl) ?_
    refine lv_dup hx hb dX1_addToCompaniesAbove_10 rfl ?_
    obtain ⟨i0, hi0⟩ := cw_s (x := x) (ln := ln) (cA := cA) (n := n) (tp := tp) (mo := mo) (dr := dr) (ds := ds) (li := li) (ad := ad) (g := g) (hk : k ∈ K)
    refine va_get (D := D) (ci := 0) (v := .int (g k).2.2.2) (C := RX0) (T := TX0) (N := 5) hx hb hts (by decide +kernel) hown hG.1 hP i0 hi0 rfl 4 (by decide) (hts (.fieldLink RX1 147 "LopsidedRanks$Soldier" "company" "I") (by decide +kernel)) (fun _ h9 => h9) rfl dX1_addToCompaniesAbove_11 ?_
    refine lv_iload_n hx hb dX1_addToCompaniesAbove_14 rfl (lv_at hl 1 rfl) ?_
    refine lv_iadd hx hb dX1_addToCompaniesAbove_15 ?_
    obtain ⟨i1, hi1⟩ := cw_s (x := x) (ln := ln) (cA := cA) (n := n) (tp := tp) (mo := mo) (dr := dr) (ds := ds) (li := li) (ad := ad) (g := g) (hk : k ∈ K)
    have hDp := hD
    refine va_put (D := D) (ci := 0) (v := .int (((g k).2.2.2) + d)) (ty := .int) (C := RX0) (T := TX0) (N := 5) hx hb hts (by decide +kernel) tyX0 tyX0_ok nmX0 hown hG.1 hP hD hS i1 hi1 rfl 4 (by decide) (hts (.fieldLink RX1 147 "LopsidedRanks$Soldier" "company" "I") (by decide +kernel)) (fun _ h9 => h9) rfl (by decide +kernel) rfl rfl (Nat.le_of_ble_eq_true rfl) dX1_addToCompaniesAbove_16 (fun H locs hP hD hS => ?_)
    have hP : va_P D vwCl (cw x ln cA n tp mo dr ds li K ad (va_up g k (sC (g k) (((g k).2.2.2) + d)))) H := by rw [← cw_put hDp (hk : k ∈ K) hi1 (sC (g k) (((g k).2.2.2) + d)) rfl]; exact hP
    have hD : va_D A (cw x ln cA n tp mo dr ds li K ad (va_up g k (sC (g k) (((g k).2.2.2) + d)))) := by rw [← cw_put hDp (hk : k ∈ K) hi1 (sC (g k) (((g k).2.2.2) + d)) rfl]; exact hD
    refine lv_aload_n hx hb dX1_addToCompaniesAbove_19 rfl (lv_at hl 0 rfl) ?_
    obtain ⟨i2, hi2⟩ := cw_s (x := x) (ln := ln) (cA := cA) (n := n) (tp := tp) (mo := mo) (dr := dr) (ds := ds) (li := li) (ad := ad) (g := va_up g k (sC (g k) (((g k).2.2.2) + d))) (hk : k ∈ K)
    refine va_get (D := D) (ci := 0) (v := va_rf (((va_up g k (sC (g k) (((g k).2.2.2) + d))) k).1.map ad)) (C := RX0) (T := TX0) (N := 5) hx hb hts (by decide +kernel) hown hG.1 hP i2 hi2 rfl 1 (by decide) (hts (.fieldLink RX1 130 "LopsidedRanks$Soldier" "above" "LLopsidedRanks$Soldier;") (by decide +kernel)) (fun _ h9 => h9) rfl dX1_addToCompaniesAbove_20 ?_
    refine zr_astore_n (lv' := [(2, va_rf (((va_up g k (sC (g k) (((g k).2.2.2) + d))) k).1.map ad)), (1, .int d)]) hx hb dX1_addToCompaniesAbove_23 rfl hl (by decide) rfl (fun ls hl => ?_)
    refine lv_goto (tgt := 5) hx hb dX1_addToCompaniesAbove_24 (by decide) ?_
    exact ih (UpC_addco hu2) (fun j hj => hin j (List.mem_cons_of_mem _ hj)) hP hD hS kk _ (lv_re hl (by rw [va_up_self]))
set_option maxHeartbeats 4000000 in
set_option maxRecDepth 100000 in
/-- addToCompaniesAbove(k1, d) -/
theorem c_X1_addToCompaniesAbove (l : Launch) {D : va_G} {cA cZ cI : ClassId} {x ln : Nat} {n : Int32} {tp : Option Nat} {mo dr ds : Int32} {li : Nat → Option Nat} {K : List Nat} {ad : Nat → Nat} {g : Nat → Nd} {A : Nat → Prop} {k1 : Nat} {d : Int32} {ks : List Nat} (hk : k1 ∈ K) (hu : UpC g (g k1).1 ks) (hin : ∀ j ∈ ks, j ∈ K) : Met l yX1_addToCompaniesAbove wsX1_addToCompaniesAbove ({ frames := 0, cells := 0, slots := 0, locals := 0 } : Room) (PcM D (tysA cA cZ cI) A (cw x ln cA n tp mo dr ds li K ad g) [.ref (ad k1), .int d]) (va_Qv (S := Unit) (fun _ => True) (fun _ => BM D (tysA cA cZ cI) A (cw x ln cA n tp mo dr ds li K ad (addG d ks g))) A) 0 0 A := by
  refine Met.ofW (cc := cX1_addToCompaniesAbove) (maxL := 3) (ret := none) (by decide) rfl ?_
  intro p e s m args below meth c s₁ B hml hv
  obtain ⟨rfl, hA, hP, hG, hD⟩ := hv
  have hx := B.exec
  have hb := B.bytes
  have hr := B.returns
  have hts := atoms_spec (ws := wsX1_addToCompaniesAbove) B.pre
  have hown : s.vm.findClass RX1 = some m.cls := findClass_of_methodNamed B.named
  have hlocks := B.notSynchronized
  have hl := lv_entry ([.ref (ad k1), .int d]) (n := 3) (Nat.le_of_ble_eq_true rfl)
  rw [lg_entry_eq]
  generalize (lg_sl ([.ref (ad k1), .int d]) ++ List.replicate (3 - (lg_sl ([.ref (ad k1), .int d])).length) Slot.unset).toArray = ls at hl ⊢
  have hl : lv_has ls 3 [(0, .ref (ad k1)), (1, .int d)] := hl
  have hS : va_S A s.heap s.heap [] := va_S.rf
  refine lv_aload_n hx hb dX1_addToCompaniesAbove_0 rfl (lv_at hl 0 rfl) ?_
  obtain ⟨i0, hi0⟩ := cw_s (x := x) (ln := ln) (cA := cA) (n := n) (tp := tp) (mo := mo) (dr := dr) (ds := ds) (li := li) (ad := ad) (g := g) (hk : k1 ∈ K)
  refine va_get (D := D) (ci := 0) (v := va_rf ((g k1).1.map ad)) (C := RX0) (T := TX0) (N := 5) hx hb hts (by decide +kernel) hown hG.1 hP i0 hi0 rfl 1 (by decide) (hts (.fieldLink RX1 130 "LopsidedRanks$Soldier" "above" "LLopsidedRanks$Soldier;") (by decide +kernel)) (fun _ h9 => h9) rfl dX1_addToCompaniesAbove_1 ?_
  refine zr_astore_n (lv' := [(2, va_rf ((g k1).1.map ad)), (0, .ref (ad k1)), (1, .int d)]) hx hb dX1_addToCompaniesAbove_4 rfl hl (by decide) rfl (fun ls hl => ?_)
  refine L_X1_addToCompaniesAbove (ks := ks) (p0 := (g k1).1) hx hb hml hts hown hG hu hin hP hD hS (fun H locs hP hD hS ls hl => ?_) _ (lv_sub hl [0, 2] rfl)
  exact W.vret hx hb hr (fun t ht hW => ⟨⟨(), rfl, trivial, by rw [ht]; exact hP, hG.moved hW, hD⟩, hS.F ht⟩) hS.2.2 dX1_addToCompaniesAbove_27

