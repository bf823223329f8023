/-! THE REFERENCE: collect, halve, hang, drawUp -/
theorem nI_pd (a : Nat) : nI a - nI 1 = pd a := by
  unfold pd
  rw [Int32.sub_eq_add_neg]
  rfl
theorem pd_sub {a b : Nat} (h : 1 ≤ b) : pd (a + b) - nI a = nI (b - 1) := by
  obtain ⟨c, rfl⟩ : ∃ c, b = c + 1 := ⟨b - 1, by omega⟩
  rw [show a + (c + 1) = (a + c) + 1 by omega, pd_s, pk_sub (by omega)]
  congr 1
  omega
theorem nI_le_pd {a b : Nat} (ha : a < 2 ^ 31) (hb : b < 2 ^ 31) : nI a ≤ pd b ↔ a < b := by
  rw [Int32.le_iff_toInt_le, pd_toInt hb, nI_toInt ha]
  omega
theorem upd_s (f : Nat → Int32) (k : Nat) (v : Int32) : upd f k v k = v := by simp [upd]
theorem upd_n (f : Nat → Int32) {k j : Nat} (v : Int32) (h : j ≠ k) : upd f k v j = f j := by simp [upd, h]
theorem parF_last {h : Nat} : ∀ {T : Tr} {a : Option Nat}, parF h a T = ((anc h T).getLast?).or a
  | .leaf, a => rfl
  | .inner s k v l r, a => by
    simp only [parF, anc]
    split
    · rfl
    · split <;> rw [parF_last, List.getLast?_cons] <;> cases (List.getLast? _) <;> rfl
theorem way_above {wy : Nat → Int32} {h : Nat} {T : Tr} (hb : bst T) (hm : h ∈ keysT T) (hw : ∀ j k, (wayT h T)[j]? = some k → wy j = nI k) : (wayT h T).length = (anc h T).length + 1 ∧ ((wayT h T).length ≤ 1 → enc (parF h none T) = -1) ∧ (¬ (wayT h T).length ≤ 1 → wy ((wayT h T).length - 2) = enc (parF h none T)) := by
  rw [way_in hb hm] at hw ⊢
  rw [List.length_append, List.length_singleton, parF_last]
  refine ⟨rfl, fun h1 => ?_, fun h1 => ?_⟩
  · rw [List.length_eq_zero_iff.mp (show (anc h T).length = 0 by omega)]
    rfl
  · obtain ⟨z, hz⟩ : ∃ z, (anc h T)[(anc h T).length - 1]? = some z := ⟨_, List.getElem?_eq_getElem (by omega)⟩
    rw [List.getLast?_eq_getElem?, hz, show (anc h T).length + 1 - 2 = (anc h T).length - 1 by omega, hw _ z (by rw [List.getElem?_append_left (by omega)]; exact hz)]
    rfl
theorem col_step {rw0 rw1 rw2 : Nat → Int32} {a k : Nat} {xs ys : List Nat} (h1 : ∀ j k', xs[j]? = some k' → rw1 (a + j) = nI k') (h2 : ∀ j, j < a → rw1 j = rw0 j) (h3 : ∀ j k', ys[j]? = some k' → rw2 (a + xs.length + 1 + j) = nI k') (h4 : ∀ j, j < a + xs.length + 1 → rw2 j = upd rw1 (a + xs.length) (nI k) j) : (∀ j k', (xs ++ k :: ys)[j]? = some k' → rw2 (a + j) = nI k') ∧ ∀ j, j < a → rw2 j = rw0 j := by
  refine ⟨fun j k' e => ?_, fun j hj => ?_⟩
  · rcases Nat.lt_trichotomy j xs.length with q | q | q
    · rw [List.getElem?_append_left q] at e
      rw [h4 _ (by omega), upd_n _ _ (by omega)]
      exact h1 j k' e
    · subst q
      rw [List.getElem?_append_right (Nat.le_refl _), Nat.sub_self] at e
      cases e
      rw [h4 _ (by omega), upd_s]
    · rw [List.getElem?_append_right (by omega)] at e
      obtain ⟨i, rfl⟩ : ∃ i, j = xs.length + 1 + i := ⟨j - xs.length - 1, by omega⟩
      rw [show xs.length + 1 + i - xs.length = i + 1 by omega, List.getElem?_cons_succ] at e
      have := h3 i k' e
      rw [show a + (xs.length + 1 + i) = a + xs.length + 1 + i by omega]
      exact this
  · rw [h4 _ (by omega), upd_n _ _ (by omega)]
    exact h2 j hj
def hgTp (tp : Int32) (p : Option Nat) (v : Int32) : Int32 := match p with
  | none => v
  | some _ => tp
def hgL (lf : Nat → Int32) (p : Option Nat) (h : Nat) (v : Int32) : Nat → Int32 := match p with
  | none => lf
  | some a => if h < a then upd lf a v else lf
def hgR (rt : Nat → Int32) (p : Option Nat) (h : Nat) (v : Int32) : Nat → Int32 := match p with
  | none => rt
  | some a => if h < a then rt else upd rt a v
theorem hgL_at {lf : Nat → Int32} {p : Option Nat} {h k : Nat} {v : Int32} : hgL lf p h v k = if p = some k ∧ h < k then v else lf k := by
  cases p with
  | none => simp [hgL]
  | some a =>
    simp only [hgL]
    by_cases e : a = k
    · subst e
      by_cases e2 : h < a
      · rw [if_pos e2, upd_s, if_pos ⟨rfl, e2⟩]
      · rw [if_neg e2, if_neg (fun q => e2 q.2)]
    · have e3 : ¬ (some a = some k ∧ h < k) := fun q => e (Option.some.inj q.1)
      rw [if_neg e3]
      split
      · exact upd_n _ _ (fun q => e q.symm)
      · rfl
theorem hgR_at {rt : Nat → Int32} {p : Option Nat} {h k : Nat} {v : Int32} : hgR rt p h v k = if p = some k ∧ ¬ h < k then v else rt k := by
  cases p with
  | none => simp [hgR]
  | some a =>
    simp only [hgR]
    by_cases e : a = k
    · subst e
      by_cases e2 : h < a
      · rw [if_pos e2, if_neg (fun q => q.2 e2)]
      · rw [if_neg e2, upd_s, if_pos ⟨rfl, e2⟩]
    · have e3 : ¬ (some a = some k ∧ ¬ h < k) := fun q => e (Option.some.inj q.1)
      rw [if_neg e3]
      split
      · rfl
      · exact upd_n _ _ (fun q => e q.symm)
theorem hang_shape {lf rt lf' rt' : Nat → Int32} {h : Nat} {t : Tr} : ∀ {T : Tr} {a : Option Nat}, bst T → (∀ b, a = some b → b ∉ keysT T) → ShM lf rt T → (∀ k ∈ keysT T, k ∉ keysT (subT h T) → (parF h a T ≠ some k → lf' k = lf k ∧ rt' k = rt k) ∧ (parF h a T = some k → h < k → lf' k = enc (root t) ∧ rt' k = rt k) ∧ (parF h a T = some k → ¬ h < k → lf' k = lf k ∧ rt' k = enc (root t))) → ShM lf' rt' t → ShM lf' rt' (rep h t T)
  | .leaf, a, _, _, _, _, ht => ht
  | .inner s k v l r, a, hb, ha, hs, hk, ht => by
    obtain ⟨b1, b2, b3, b4⟩ := bst_in.mp hb
    obtain ⟨h2, h3, h4, h5⟩ := hs
    by_cases e : h = k
    · subst e
      simpa [rep, parF] using ht
    · by_cases e2 : h < k
      · have ep : parF h a (.inner s k v l r) = parF h (some k) l := by simp [parF, e, e2]
        have er : rep h t (.inner s k v l r) = nd_ (rep h t l) k r := by simp [rep, e, e2]
        rw [sub_l e2] at hk
        rw [ep] at hk
        rw [er]
        have hkl : ∀ j ∈ keysT l, j ≠ k := fun j hj q => by have := b3 j hj; omega
        have hpl : ∀ j, parF h (some k) l = some j → j = k ∨ j ∈ keysT l := fun j q => by
          rcases parF_in q with z | z
          · cases z; exact Or.inl rfl
          · exact Or.inr z
        obtain ⟨z2, z3, z4⟩ := hk k ((keys_in ..).mpr (Or.inr (Or.inl rfl))) (fun q => hkl k (subT_sub q) rfl)
        have hleft : lf' k = enc (root (rep h t l)) ∧ rt' k = enc (root r) := by
          rcases hrl : root l with _ | c
          · obtain ⟨y1, y2⟩ := (root_rep (h := h) (t := t) (T := l) (a := some k)).1 (Or.inl hrl)
            obtain ⟨x1, x2⟩ := z3 y2 e2
            exact ⟨x1.trans (congrArg enc y1.symm), x2.trans h3⟩
          · by_cases ec : c = h
            · subst ec
              obtain ⟨y1, y2⟩ := (root_rep (h := c) (t := t) (T := l) (a := some k)).1 (Or.inr hrl)
              obtain ⟨x1, x2⟩ := z3 y2 e2
              exact ⟨x1.trans (congrArg enc y1.symm), x2.trans h3⟩
            · obtain ⟨y1, q, y2, y3⟩ := (root_rep (h := h) (t := t) (T := l) (a := some k)).2 c hrl ec
              obtain ⟨x1, x2⟩ := z2 (by rw [y3]; exact fun w => hkl q y2 (Option.some.inj w))
              exact ⟨x1.trans (h2.trans (congrArg enc (hrl.trans y1.symm))), x2.trans h3⟩
        refine ⟨hleft.1, hleft.2, hang_shape (a := some k) b1 (fun b q => by cases q; exact fun w => hkl k w rfl) h4 (fun j hj hn => ?_) ht, ShM_cong (fun j hj => ?_) h5⟩
        · exact hk j ((keys_in ..).mpr (Or.inl hj)) hn
        · have hjk := b4 j hj
          obtain ⟨x2, -, -⟩ := hk j ((keys_in ..).mpr (Or.inr (Or.inr hj))) (fun q => by have := b3 j (subT_sub q); omega)
          exact x2 (fun q => by rcases hpl j q with w | w; (· omega); (· have := b3 j w; omega))
      · have e3 : k < h := by omega
        have ep : parF h a (.inner s k v l r) = parF h (some k) r := by simp [parF, e, e2]
        have er : rep h t (.inner s k v l r) = nd_ l k (rep h t r) := by simp [rep, e, e2]
        rw [sub_r e3] at hk
        rw [ep] at hk
        rw [er]
        have hkr : ∀ j ∈ keysT r, j ≠ k := fun j hj q => by have := b4 j hj; omega
        have hpl : ∀ j, parF h (some k) r = some j → j = k ∨ j ∈ keysT r := fun j q => by
          rcases parF_in q with z | z
          · cases z; exact Or.inl rfl
          · exact Or.inr z
        obtain ⟨z2, z3, z4⟩ := hk k ((keys_in ..).mpr (Or.inr (Or.inl rfl))) (fun q => hkr k (subT_sub q) rfl)
        have hright : lf' k = enc (root l) ∧ rt' k = enc (root (rep h t r)) := by
          rcases hrl : root r with _ | c
          · obtain ⟨y1, y2⟩ := (root_rep (h := h) (t := t) (T := r) (a := some k)).1 (Or.inl hrl)
            obtain ⟨x1, x2⟩ := z4 y2 e2
            exact ⟨x1.trans h2, x2.trans (congrArg enc y1.symm)⟩
          · by_cases ec : c = h
            · subst ec
              obtain ⟨y1, y2⟩ := (root_rep (h := c) (t := t) (T := r) (a := some k)).1 (Or.inr hrl)
              obtain ⟨x1, x2⟩ := z4 y2 e2
              exact ⟨x1.trans h2, x2.trans (congrArg enc y1.symm)⟩
            · obtain ⟨y1, q, y2, y3⟩ := (root_rep (h := h) (t := t) (T := r) (a := some k)).2 c hrl ec
              obtain ⟨x1, x2⟩ := z2 (by rw [y3]; exact fun w => hkr q y2 (Option.some.inj w))
              exact ⟨x1.trans h2, x2.trans (h3.trans (congrArg enc (hrl.trans y1.symm)))⟩
        refine ⟨hright.1, hright.2, ShM_cong (fun j hj => ?_) h4, hang_shape (a := some k) b2 (fun b q => by cases q; exact fun w => hkr k w rfl) h5 (fun j hj hn => ?_) ht⟩
        · have hjk := b3 j hj
          obtain ⟨x2, -, -⟩ := hk j ((keys_in ..).mpr (Or.inl hj)) (fun q => by have := b4 j (subT_sub q); omega)
          exact x2 (fun q => by rcases hpl j q with w | w; (· omega); (· have := b4 j w; omega))
        · exact hk j ((keys_in ..).mpr (Or.inr (Or.inr hj))) hn
/-- hang: t into the place of h -/
theorem hangM {lf rt lf1 rt1 : Nat → Int32} {h : Nat} {t T : Tr} (hb : bst T) (hs : ShM lf rt T) (ht : ShM lf1 rt1 t) (hag : ∀ k ∈ keysT T, k ∉ keysT (subT h T) → lf1 k = lf k ∧ rt1 k = rt k) (hdis : ∀ j ∈ keysT t, j ∉ kl h T ∧ j ∉ kr h T) : ShM (hgL lf1 (parF h none T) h (enc (root t))) (hgR rt1 (parF h none T) h (enc (root t))) (rep h t T) ∧ hgTp (enc (root T)) (parF h none T) (enc (root t)) = enc (root (rep h t T)) := by
  refine ⟨hang_shape (a := none) hb (fun b q => by cases q) hs (fun k hk hn => ?_) ?_, ?_⟩
  · obtain ⟨e1, e2⟩ := hag k hk hn
    rw [hgL_at, hgR_at]
    refine ⟨fun hp => ?_, fun hp hl => ?_, fun hp hl => ?_⟩
    · rw [if_neg (fun q => hp q.1), if_neg (fun q => hp q.1)]; exact ⟨e1, e2⟩
    · rw [if_pos ⟨hp, hl⟩, if_neg (fun q => q.2 hl)]; exact ⟨rfl, e2⟩
    · rw [if_neg (fun q => hl q.2), if_pos ⟨hp, hl⟩]; exact ⟨e1, rfl⟩
  · refine ShM_cong (fun k hk => ?_) ht
    obtain ⟨z1, z2⟩ := hdis k hk
    have hp : ¬ parF h none T = some k := fun q => by
      rcases parF_out q with w | w
      · exact z1 w
      · exact z2 w
    rw [hgL_at, hgR_at, if_neg (fun q => hp q.1), if_neg (fun q => hp q.1)]
    exact ⟨rfl, rfl⟩
  · rw [← sbT_root]
    cases parF h none T <;> rfl
theorem halveM {lf rt : Nat → Int32} {q : Nat} {u1 u2 : (Nat → Int32) × (Nat → Int32)} {tl tr : Tr} (s1 : ShM u1.1 u1.2 tl) (f1 : ∀ k, k ∉ keysT tl → u1.1 k = lf k ∧ u1.2 k = rt k) (s2 : ShM u2.1 u2.2 tr) (f2 : ∀ k, k ∉ keysT tr → u2.1 k = upd u1.1 q (enc (root tl)) k ∧ u2.2 k = u1.2 k) (hl : ∀ j ∈ keysT tl, j < q) (hr : ∀ j ∈ keysT tr, q < j) : ShM u2.1 (upd u2.2 q (enc (root tr))) (nd_ tl q tr) ∧ ∀ k, k ≠ q → k ∉ keysT tl → k ∉ keysT tr → u2.1 k = lf k ∧ upd u2.2 q (enc (root tr)) k = rt k := by
  have hq3 : q ∉ keysT tr := fun z => by have := hr q z; omega
  have hlr : ∀ j, j ∈ keysT tl → j ∉ keysT tr := fun j z w => by have := hl j z; have := hr j w; omega
  refine ⟨⟨?_, upd_s _ _ _, ShM_cong (fun k hk => ?_) s1, ShM_cong (fun k hk => ⟨rfl, ?_⟩) s2⟩, fun k h1 h2 h3 => ?_⟩
  · rw [(f2 q hq3).1, upd_s]
  · have hk1 := hl k hk
    rw [(f2 k (hlr k hk)).1, upd_n _ _ (by omega), upd_n _ _ (by omega), (f2 k (hlr k hk)).2]
    exact ⟨rfl, rfl⟩
  · have hk1 := hr k hk
    exact upd_n _ _ (by omega)
  · rw [(f2 k h3).1, upd_n _ _ h1, upd_n _ _ h1, (f2 k h3).2]
    exact f1 k h2
set_option maxHeartbeats 4000000 in
set_option maxRecDepth 100000 in
/-- collect -/
theorem c_X2_collect (l : Launch) {D : va_G} {cA cZ cI : ClassId} {M : Nat × Nat × Nat × Nat × Nat × Nat} {th tp n mo ti dr st : Int32} {isIn lf rt wy : Nat → Int32} {A : Nat → Prop} : ∀ {t : Tr} {d a0 : Nat} {rw : Nat → Int32} (hs : ShM lf rt t) (hlo : Low t) (hh : hgt t ≤ d) (ha : a0 + siz t ≤ 150), Met l yX2_collect wsX2_collect ({ frames := d, cells := 0, slots := 0, locals := 40 * d } : Room) (PcM D (tysA cA cZ cI) A (mw M cZ cI th tp n mo ti dr st (nI a0) isIn lf rt wy rw) [.ref M.1, .int (enc (root t))]) (va_Qv (S := Nat → Int32) (fun u => (∀ j k, (keysT t)[j]? = some k → u (a0 + j) = nI k) ∧ ∀ j, j < a0 → u j = rw j) (fun u => BM D (tysA cA cZ cI) A (mw M cZ cI th tp n mo ti dr st (nI (a0 + siz t)) isIn lf rt wy u)) A) 0 0 A := by
  intro t
  induction t with
  | leaf =>
    intro d a0 rw hs hlo hh ha
    refine Met.ofW (cc := cX2_collect) (maxL := 2) (ret := none) (by decide) rfl ?_
    intro p e s m args below meth c s₁ B hml hv
    obtain ⟨rfl, hA, hP, hG, hD⟩ := hv
    have hx := B.exec
    have hb := B.bytes
    have hr := B.returns
    have hts := atoms_spec (ws := wsX2_collect) B.pre
    have hown : s.vm.findClass RX2 = some m.cls := findClass_of_methodNamed B.named
    have hlocks := B.notSynchronized
    have hl := lv_entry ([.ref M.1, .int (enc (root (.leaf : Tr)))]) (n := 2) (Nat.le_of_ble_eq_true rfl)
    rw [lg_entry_eq]
    generalize (lg_sl ([.ref M.1, .int (enc (root (.leaf : Tr)))]) ++ List.replicate (2 - (lg_sl ([.ref M.1, .int (enc (root (.leaf : Tr)))])).length) Slot.unset).toArray = ls at hl ⊢
    have hl : lv_has ls 2 [(0, .ref M.1), (1, .int (enc (root (.leaf : Tr))))] := hl
    have hS : va_S A s.heap s.heap [] := va_S.rf
    have hl : lv_has ls 2 [(0, .ref M.1), (1, .int (-1))] := hl
    refine lv_iload_n hx hb dX2_collect_0 rfl (lv_at hl 1 rfl) ?_
    refine lv_iconst (v := (-1)) hx hb dX2_collect_1 (by decide) ?_
    refine lv_icmp_ne (tgt := 6) hx hb dX2_collect_2 (by decide) (fun c2 => ?_) (fun c2 => ?_)
    · exact absurd rfl c2
    · exact W.vret hx hb hr (fun t ht hW => ⟨⟨rw, rfl, ⟨fun j k e => (by cases e), fun j hj => rfl⟩, by rw [ht]; exact hP, hG.moved hW, hD⟩, hS.F ht⟩) hS.2.2 dX2_collect_5

  | inner sz k v tl tr ihl ihr =>
    intro d0 a0 rw hs hlo hh ha
    simp only [hgt] at hh
    obtain ⟨d, rfl⟩ : ∃ d, d0 = d + 1 := ⟨d0 - 1, by omega⟩
    refine Met.ofW (cc := cX2_collect) (maxL := 2) (ret := none) (by decide) rfl ?_
    intro p e s m args below meth c s₁ B hml hv
    obtain ⟨rfl, hA, hP, hG, hD⟩ := hv
    have hx := B.exec
    have hb := B.bytes
    have hr := B.returns
    have hts := atoms_spec (ws := wsX2_collect) B.pre
    have hown : s.vm.findClass RX2 = some m.cls := findClass_of_methodNamed B.named
    have hlocks := B.notSynchronized
    have hl := lv_entry ([.ref M.1, .int (enc (root (.inner sz k v tl tr : Tr)))]) (n := 2) (Nat.le_of_ble_eq_true rfl)
    rw [lg_entry_eq]
    generalize (lg_sl ([.ref M.1, .int (enc (root (.inner sz k v tl tr : Tr)))]) ++ List.replicate (2 - (lg_sl ([.ref M.1, .int (enc (root (.inner sz k v tl tr : Tr)))])).length) Slot.unset).toArray = ls at hl ⊢
    have hl : lv_has ls 2 [(0, .ref M.1), (1, .int (enc (root (.inner sz k v tl tr : Tr))))] := hl
    have hS : va_S A s.heap s.heap [] := va_S.rf
    have hl : lv_has ls 2 [(0, .ref M.1), (1, .int (nI k))] := hl
    obtain ⟨h1, h2, h3, h4⟩ := hs
    have hk := hlo.k
    simp only [siz] at ha
    refine lv_iload_n hx hb dX2_collect_0 rfl (lv_at hl 1 rfl) ?_
    refine lv_iconst (v := (-1)) hx hb dX2_collect_1 (by decide) ?_
    refine lv_icmp_ne (tgt := 6) hx hb dX2_collect_2 (by decide) (fun c2 => ?_) (fun c2 => ?_)
    · refine lv_aload_n hx hb dX2_collect_6 rfl (lv_at hl 0 rfl) ?_
      refine lv_aload_n hx hb dX2_collect_7 rfl (lv_at hl 0 rfl) ?_
      refine va_get (D := D) (ci := 2) (v := .ref M.2.2.1) (C := RX2) (T := TX2) (N := 13) hx hb hts (by decide +kernel) hown hG.1 hP 0 mw_m rfl 7 (by decide) (hts (.fieldLink RX2 17 "LopsidedRanksModel" "left" "[I") (by decide +kernel)) (fun _ h9 => h9) rfl dX2_collect_8 ?_
      refine lv_iload_n hx hb dX2_collect_11 rfl (lv_at hl 1 rfl) ?_
      refine zr_iald hx hb hG.1 hP 2 2 mw_l rfl (k := k) (by omega) (Nat.le_of_ble_eq_true rfl) dX2_collect_12 ?_
      refine zr_eqi h1 ?_
      refine va_callv (va_runV (As := [.int (enc (root tl))]) (rest := []) ⟨hx, hb, hml, hown, hts⟩ (ihl (d := d) (a0 := a0) h3 hlo.l (by omega) (by omega)) (cwV 1 hts gX2_collect_X2_collect rfl rfl rfl (by decide +kernel) ⟨by show d + 1 ≤ d + 1; omega, by show 8 + (2 + 11) + 40 * d ≤ 40 * (d + 1); omega⟩) ⟨PcM.blind, va_recv hG.1 hP (ci := 2) (q0 := 0) rfl mw_m, PcM.at (fun q h => hA q (Nat.le_trans hS.1 h)) hP hG hD⟩ rfl rfl hl.1 rfl (lv_room (Nat.le_of_ble_eq_true rfl)) dX2_collect_13 ⟨Nat.zero_le _, Nat.zero_le _⟩) hS (fun q _ h => h) (fun q h => h) (fun rw1 t H locs ht hvm q13 hB hz1 hk1 hS => ?_)
      obtain ⟨hP, -, hD⟩ := hB
      rw [ht] at hP
      have hP : va_P D vwCl (mw M cZ cI th tp n mo ti dr st (nI (a0 + siz tl)) isIn lf rt wy rw1) H := hP
      have hD : va_D A (mw M cZ cI th tp n mo ti dr st (nI (a0 + siz tl)) isIn lf rt wy rw1) := hD
      obtain ⟨w1, w2⟩ := q13
      refine lv_aload_n hx hb dX2_collect_16 rfl (lv_at hl 0 rfl) ?_
      refine va_get (D := D) (ci := 2) (v := .ref M.2.2.2.2.2) (C := RX2) (T := TX2) (N := 13) hx hb hts (by decide +kernel) hown hG.1 hP 0 mw_m rfl 11 (by decide) (hts (.fieldLink RX2 27 "LopsidedRanksModel" "row" "[I") (by decide +kernel)) (fun _ h9 => h9) rfl dX2_collect_17 ?_
      refine lv_aload_n hx hb dX2_collect_20 rfl (lv_at hl 0 rfl) ?_
      refine va_get (D := D) (ci := 2) (v := .int (nI (a0 + siz tl))) (C := RX2) (T := TX2) (N := 13) hx hb hts (by decide +kernel) hown hG.1 hP 0 mw_m rfl 12 (by decide) (hts (.fieldLink RX2 71 "LopsidedRanksModel" "many" "I") (by decide +kernel)) (fun _ h9 => h9) rfl dX2_collect_21 ?_
      refine lv_iload_n hx hb dX2_collect_24 rfl (lv_at hl 1 rfl) ?_
      refine zr_iast hx hb hG.1 hP hD hS 5 2 mw_o rfl (k := a0 + siz tl) (by omega) (Nat.le_of_ble_eq_true rfl) dX2_collect_25 (fun H locs hP hD hS => ?_)
      have hP : va_P D vwCl (mw M cZ cI th tp n mo ti dr st (nI (a0 + siz tl)) isIn lf rt wy (upd rw1 (a0 + siz tl) (nI k))) H := hP
      have hD : va_D A (mw M cZ cI th tp n mo ti dr st (nI (a0 + siz tl)) isIn lf rt wy (upd rw1 (a0 + siz tl) (nI k))) := hD
      refine lv_aload_n hx hb dX2_collect_26 rfl (lv_at hl 0 rfl) ?_
      refine lv_dup hx hb dX2_collect_27 rfl ?_
      refine va_get (D := D) (ci := 2) (v := .int (nI (a0 + siz tl))) (C := RX2) (T := TX2) (N := 13) hx hb hts (by decide +kernel) hown hG.1 hP 0 mw_m rfl 12 (by decide) (hts (.fieldLink RX2 71 "LopsidedRanksModel" "many" "I") (by decide +kernel)) (fun _ h9 => h9) rfl dX2_collect_28 ?_
      refine lv_iconst (v := nI 1) hx hb dX2_collect_31 (by decide) ?_
      refine lv_iadd hx hb dX2_collect_32 ?_
      refine zr_eqi (nI_add (a0 + siz tl) 1) ?_
      refine va_put (D := D) (ci := 2) (v := .int (nI ((a0 + siz tl) + 1))) (ty := .int) (C := RX2) (T := TX2) (N := 13) hx hb hts (by decide +kernel) tyX2 tyX2_ok nmX2 hown hG.1 hP hD hS 0 mw_m rfl 12 (by decide) (hts (.fieldLink RX2 71 "LopsidedRanksModel" "many" "I") (by decide +kernel)) (fun _ h9 => h9) rfl (by decide +kernel) rfl rfl (Nat.le_of_ble_eq_true rfl) dX2_collect_33 (fun H locs hP hD hS => ?_)
      have hP : va_P D vwCl (mw M cZ cI th tp n mo ti dr st ((nI ((a0 + siz tl) + 1))) isIn lf rt wy (upd rw1 (a0 + siz tl) (nI k))) H := hP
      have hD : va_D A (mw M cZ cI th tp n mo ti dr st ((nI ((a0 + siz tl) + 1))) isIn lf rt wy (upd rw1 (a0 + siz tl) (nI k))) := hD
      refine lv_aload_n hx hb dX2_collect_36 rfl (lv_at hl 0 rfl) ?_
      refine lv_aload_n hx hb dX2_collect_37 rfl (lv_at hl 0 rfl) ?_
      refine va_get (D := D) (ci := 2) (v := .ref M.2.2.2.1) (C := RX2) (T := TX2) (N := 13) hx hb hts (by decide +kernel) hown hG.1 hP 0 mw_m rfl 8 (by decide) (hts (.fieldLink RX2 21 "LopsidedRanksModel" "right" "[I") (by decide +kernel)) (fun _ h9 => h9) rfl dX2_collect_38 ?_
      refine lv_iload_n hx hb dX2_collect_41 rfl (lv_at hl 1 rfl) ?_
      refine zr_iald hx hb hG.1 hP 3 2 mw_r rfl (k := k) (by omega) (Nat.le_of_ble_eq_true rfl) dX2_collect_42 ?_
      refine zr_eqi h2 ?_
      refine va_callv (va_runV (As := [.int (enc (root tr))]) (rest := []) ⟨hx, hb, hml, hown, hts⟩ (ihr (d := d) (a0 := a0 + siz tl + 1) h4 hlo.r (by omega) (by omega)) (cwV 1 hts gX2_collect_X2_collect rfl rfl rfl (by decide +kernel) ⟨by show d + 1 ≤ d + 1; omega, by show 8 + (2 + 11) + 40 * d ≤ 40 * (d + 1); omega⟩) ⟨PcM.blind, va_recv hG.1 hP (ci := 2) (q0 := 0) rfl mw_m, PcM.at (fun q h => hA q (Nat.le_trans hS.1 h)) hP hG hD⟩ rfl rfl hl.1 rfl (lv_room (Nat.le_of_ble_eq_true rfl)) dX2_collect_43 ⟨Nat.zero_le _, Nat.zero_le _⟩) hS (fun q _ h => h) (fun q h => h) (fun rw2 t H locs ht hvm q43 hB hz1 hk1 hS => ?_)
      obtain ⟨hP, -, hD⟩ := hB
      rw [ht] at hP
      have hP : va_P D vwCl (mw M cZ cI th tp n mo ti dr st (nI (a0 + siz tl + 1 + siz tr)) isIn lf rt wy rw2) H := hP
      have hD : va_D A (mw M cZ cI th tp n mo ti dr st (nI (a0 + siz tl + 1 + siz tr)) isIn lf rt wy rw2) := hD
      obtain ⟨w3, w4⟩ := q43
      exact W.vret hx hb hr (fun t ht hW => ⟨⟨rw2, rfl, (by have e9 := keys_len tl; rw [← e9] at w3 w4; exact col_step w1 w2 w3 w4), by rw [ht, show a0 + siz (.inner sz k v tl tr : Tr) = a0 + siz tl + 1 + siz tr by simp only [siz]; omega]; exact hP, hG.moved hW, by rw [show a0 + siz (.inner sz k v tl tr : Tr) = a0 + siz tl + 1 + siz tr by simp only [siz]; omega]; exact hD⟩, hS.F ht⟩) hS.2.2 dX2_collect_46
    · exact absurd c2 (nI_m1 (by omega))

set_option maxHeartbeats 4000000 in
set_option maxRecDepth 100000 in
/-- halve of nobody -/
theorem c_X2_halve0 (l : Launch) {D : va_G} {cA cZ cI : ClassId} {M : Nat × Nat × Nat × Nat × Nat × Nat} {th tp n mo ti dr st ma : Int32} {isIn lf rt wy rw : Nat → Int32} {A : Nat → Prop} {d first : Nat} {xs : List Nat} (rm : Room) (hrm : rm.cells = 0 ∧ rm.slots = 0) (hxs : xs = []) (hf : first ≤ 1000) : Met l yX2_halve wsX2_halve rm (PcM D (tysA cA cZ cI) A (mw M cZ cI th tp n mo ti dr st ma isIn lf rt wy rw) [.ref M.1, .int (nI first), .int (pd (first + 0))]) (va_Qi (S := (Nat → Int32) × (Nat → Int32)) (fun r u => r = enc (root (balF d xs)) ∧ ShM u.1 u.2 (balF d xs) ∧ ∀ k, k ∉ xs → u.1 k = lf k ∧ u.2 k = rt k) (fun u => BM D (tysA cA cZ cI) A (mw M cZ cI th tp n mo ti dr st ma isIn u.1 u.2 wy rw)) A) 0 0 A := by
  have hbal : balF d xs = .leaf := by rw [hxs]; cases d <;> rfl
  refine Met.ofW (cc := cX2_halve) (maxL := 4) (ret := (some .int)) (by decide) rfl ?_
  intro p e s m args below meth c s₁ B hml hv
  obtain ⟨rfl, hA, hP, hG, hD⟩ := hv
  have hx := B.exec
  have hb := B.bytes
  have hr := B.returns
  have hts := atoms_spec (ws := wsX2_halve) B.pre
  have hown : s.vm.findClass RX2 = some m.cls := findClass_of_methodNamed B.named
  have hlocks := B.notSynchronized
  have hl := lv_entry ([.ref M.1, .int (nI first), .int (pd (first + 0))]) (n := 4) (Nat.le_of_ble_eq_true rfl)
  rw [lg_entry_eq]
  generalize (lg_sl ([.ref M.1, .int (nI first), .int (pd (first + 0))]) ++ List.replicate (4 - (lg_sl ([.ref M.1, .int (nI first), .int (pd (first + 0))])).length) Slot.unset).toArray = ls at hl ⊢
  have hl : lv_has ls 4 [(0, .ref M.1), (1, .int (nI first)), (2, .int (pd (first + 0)))] := hl
  have hS : va_S A s.heap s.heap [] := va_S.rf
  refine lv_iload_n hx hb dX2_halve_0 rfl (lv_at hl 1 rfl) ?_
  refine lv_iload_n hx hb dX2_halve_1 rfl (lv_at hl 2 rfl) ?_
  refine lv_icmp_le (tgt := 7) hx hb dX2_halve_2 (by decide) (fun c2 => ?_) (fun c2 => ?_)
  · exact absurd ((nI_le_pd (by omega) (by omega)).mp c2) (by omega)
  · refine lv_iconst (v := (-1)) hx hb dX2_halve_5 (by decide) ?_
    exact W.iret (v := (-1)) hx hb hr (fun t ht hW => ⟨⟨_, (lf, rt), rfl, ⟨by rw [hbal]; rfl, by rw [hbal]; trivial, fun k _ => ⟨rfl, rfl⟩⟩, by rw [ht]; exact hP, hG.moved hW, hD⟩, hS.F ht⟩) hS.2.2 dX2_halve_6

set_option maxHeartbeats 4000000 in
set_option maxRecDepth 100000 in
/-- halve: so many of the row from a place on, by halves -/
theorem c_X2_halve (l : Launch) {D : va_G} {cA cZ cI : ClassId} {M : Nat × Nat × Nat × Nat × Nat × Nat} {th tp n mo ti dr st ma : Int32} {isIn wy rw : Nat → Int32} {A : Nat → Prop} : ∀ {d : Nat} {lf rt : Nat → Int32} {xs : List Nat} {first n0 : Nat} (hrw : ∀ j k, xs[j]? = some k → rw (first + j) = nI k) (hx0 : ∀ j ∈ xs, j < 1000) (hnd : xs.Pairwise (· < ·)) (hn : xs.length = n0) (hlen : xs.length < 2 ^ d) (hf : first + n0 ≤ 150), Met l yX2_halve wsX2_halve ({ frames := d, cells := 0, slots := 0, locals := 40 * d } : Room) (PcM D (tysA cA cZ cI) A (mw M cZ cI th tp n mo ti dr st ma isIn lf rt wy rw) [.ref M.1, .int (nI first), .int (pd (first + n0))]) (va_Qi (S := (Nat → Int32) × (Nat → Int32)) (fun r u => r = enc (root (balF d xs)) ∧ ShM u.1 u.2 (balF d xs) ∧ ∀ k, k ∉ xs → u.1 k = lf k ∧ u.2 k = rt k) (fun u => BM D (tysA cA cZ cI) A (mw M cZ cI th tp n mo ti dr st ma isIn u.1 u.2 wy rw)) A) 0 0 A := by
  intro d
  induction d with
  | zero =>
    intro lf rt xs first n0 hrw hx0 hnd hn hlen hf
    have h0 : xs.length = 0 := by simpa using hlen
    rw [h0] at hn
    subst hn
    exact c_X2_halve0 l _ ⟨rfl, rfl⟩ (List.length_eq_zero_iff.mp h0) (by omega)
  | succ d ih =>
    intro lf rt xs first n0 hrw hx0 hnd hn hlen hf
    rcases Nat.eq_zero_or_pos n0 with hz | hpos
    · subst hz
      exact c_X2_halve0 l _ ⟨rfl, rfl⟩ (List.length_eq_zero_iff.mp hn) (by omega)
    have hpow : 2 ^ (d + 1) = 2 * 2 ^ d := by rw [Nat.pow_succ]; omega
    obtain ⟨h1, h2, h3⟩ := half_lt hlen (by omega)
    rw [hn] at h1 h2 h3
    obtain ⟨q, hq⟩ : ∃ q, xs[(n0 - 1) / 2]? = some q := ⟨_, List.getElem?_eq_getElem (by omega)⟩
    have hbal : balF (d + 1) xs = nd_ (balF d (xs.take ((n0 - 1) / 2))) q (balF d (xs.drop ((n0 - 1) / 2 + 1))) := by
      have := balF_some (d := d) (xs := xs) (k := q) (by rw [hn]; exact hq)
      rw [hn] at this; exact this
    have hrq : rw (first + (n0 - 1) / 2) = nI q := hrw _ q hq
    have hqx : q ∈ xs := List.mem_of_getElem? hq
    have hqn := hx0 q hqx
    have hsplit : xs = xs.take ((n0 - 1) / 2) ++ q :: xs.drop ((n0 - 1) / 2 + 1) := by
      have e := List.drop_eq_getElem_cons (l := xs) (i := (n0 - 1) / 2) (by omega)
      rw [List.getElem?_eq_getElem (by omega)] at hq
      rw [Option.some.inj hq] at e
      rw [← e, List.take_append_drop]
    have hlq : ∀ j ∈ xs.take ((n0 - 1) / 2), j < q := by
      have z := hnd
      rw [hsplit, List.pairwise_append] at z
      exact fun j hj => z.2.2 j hj q List.mem_cons_self
    have hgq : ∀ j ∈ xs.drop ((n0 - 1) / 2 + 1), q < j := by
      have z := hnd
      rw [hsplit, List.pairwise_append] at z
      exact (List.pairwise_cons.mp z.2.1).1
    refine Met.ofW (cc := cX2_halve) (maxL := 4) (ret := (some .int)) (by decide) rfl ?_
    intro p e s m args below meth c s₁ B hml hv
    obtain ⟨rfl, hA, hP, hG, hD⟩ := hv
    have hx := B.exec
    have hb := B.bytes
    have hr := B.returns
    have hts := atoms_spec (ws := wsX2_halve) B.pre
    have hown : s.vm.findClass RX2 = some m.cls := findClass_of_methodNamed B.named
    have hlocks := B.notSynchronized
    have hl := lv_entry ([.ref M.1, .int (nI first), .int (pd (first + n0))]) (n := 4) (Nat.le_of_ble_eq_true rfl)
    rw [lg_entry_eq]
    generalize (lg_sl ([.ref M.1, .int (nI first), .int (pd (first + n0))]) ++ List.replicate (4 - (lg_sl ([.ref M.1, .int (nI first), .int (pd (first + n0))])).length) Slot.unset).toArray = ls at hl ⊢
    have hl : lv_has ls 4 [(0, .ref M.1), (1, .int (nI first)), (2, .int (pd (first + n0)))] := hl
    have hS : va_S A s.heap s.heap [] := va_S.rf
    refine lv_iload_n hx hb dX2_halve_0 rfl (lv_at hl 1 rfl) ?_
    refine lv_iload_n hx hb dX2_halve_1 rfl (lv_at hl 2 rfl) ?_
    refine lv_icmp_le (tgt := 7) hx hb dX2_halve_2 (by decide) (fun c2 => ?_) (fun c2 => ?_)
    · refine lv_iload_n hx hb dX2_halve_7 rfl (lv_at hl 1 rfl) ?_
      refine lv_iload_n hx hb dX2_halve_8 rfl (lv_at hl 2 rfl) ?_
      refine lv_iload_n hx hb dX2_halve_9 rfl (lv_at hl 1 rfl) ?_
      refine lv_isub hx hb dX2_halve_10 ?_
      refine zr_eqi (pd_sub hpos) ?_
      refine lv_iconst (v := nI 2) hx hb dX2_halve_11 (by decide) ?_
      refine lv_idiv hx hb dX2_halve_12 (nI_ne0 (by omega) (by omega)) ?_
      refine zr_eqi (pk_div (a := n0 - 1) (d := 2) (by omega) (by omega) (by omega)) ?_
      refine lv_iadd hx hb dX2_halve_13 ?_
      refine zr_eqi (nI_add first ((n0 - 1) / 2)) ?_
      refine lv_istore_n (lv' := [(3, .int (nI (first + ((n0 - 1) / 2)))), (0, .ref M.1), (1, .int (nI first)), (2, .int (pd (first + n0)))]) hx hb dX2_halve_14 rfl hl (by decide) rfl (fun ls hl => ?_)
      refine lv_aload_n hx hb dX2_halve_15 rfl (lv_at hl 1 rfl) ?_
      refine va_get (D := D) (ci := 2) (v := .ref M.2.2.1) (C := RX2) (T := TX2) (N := 13) hx hb hts (by decide +kernel) hown hG.1 hP 0 mw_m rfl 7 (by decide) (hts (.fieldLink RX2 17 "LopsidedRanksModel" "left" "[I") (by decide +kernel)) (fun _ h9 => h9) rfl dX2_halve_16 ?_
      refine lv_aload_n hx hb dX2_halve_19 rfl (lv_at hl 1 rfl) ?_
      refine va_get (D := D) (ci := 2) (v := .ref M.2.2.2.2.2) (C := RX2) (T := TX2) (N := 13) hx hb hts (by decide +kernel) hown hG.1 hP 0 mw_m rfl 11 (by decide) (hts (.fieldLink RX2 27 "LopsidedRanksModel" "row" "[I") (by decide +kernel)) (fun _ h9 => h9) rfl dX2_halve_20 ?_
      refine lv_iload_n hx hb dX2_halve_23 rfl (lv_at hl 0 rfl) ?_
      refine zr_iald hx hb hG.1 hP 5 2 mw_o rfl (k := first + ((n0 - 1) / 2)) (by omega) (Nat.le_of_ble_eq_true rfl) dX2_halve_24 ?_
      refine zr_eqi hrq ?_
      refine lv_aload_n hx hb dX2_halve_25 rfl (lv_at hl 1 rfl) ?_
      refine lv_iload_n hx hb dX2_halve_26 rfl (lv_at hl 2 rfl) ?_
      refine lv_iload_n hx hb dX2_halve_27 rfl (lv_at hl 0 rfl) ?_
      refine lv_iconst (v := nI 1) hx hb dX2_halve_28 (by decide) ?_
      refine lv_isub hx hb dX2_halve_29 ?_
      refine zr_eqi (nI_pd _) ?_
      refine va_calli (va_runV (As := [.int (nI first), .int (pd (first + (n0 - 1) / 2))]) (rest := [.int (nI q), .ref M.2.2.1]) ⟨hx, hb, hml, hown, hts⟩ (ih (lf := lf) (rt := rt) (xs := xs.take ((n0 - 1) / 2)) (first := first) (n0 := (n0 - 1) / 2) (fun j k e => hrw j k (by rw [List.getElem?_take] at e; split at e; (· exact e); (· cases e))) (fun j hj => hx0 j (List.mem_of_mem_take hj)) (hnd.sublist (List.take_sublist _ _)) (by rw [List.length_take]; omega) (by rw [List.length_take]; omega) (by omega)) (cwV 2 hts gX2_halve_X2_halve rfl rfl rfl (by decide +kernel) ⟨by show d + 1 ≤ d + 1; omega, by show 8 + (4 + 11) + 40 * d ≤ 40 * (d + 1); omega⟩) ⟨PcM.blind, va_recv hG.1 hP (ci := 2) (q0 := 0) rfl mw_m, PcM.at (fun q h => hA q (Nat.le_trans hS.1 h)) hP hG hD⟩ rfl rfl hl.1 rfl (lv_room (Nat.le_of_ble_eq_true rfl)) dX2_halve_30 ⟨Nat.zero_le _, Nat.zero_le _⟩) hS (fun q _ h => h) (fun q h => h) (fun r30 u1 t H locs ht hvm q30 hB hz1 hk1 hS => ?_)
      obtain ⟨hP, -, hD⟩ := hB
      rw [ht] at hP
      have hP : va_P D vwCl (mw M cZ cI th tp n mo ti dr st ma isIn u1.1 u1.2 wy rw) H := hP
      have hD : va_D A (mw M cZ cI th tp n mo ti dr st ma isIn u1.1 u1.2 wy rw) := hD
      obtain ⟨rfl, s1, f1⟩ := q30
      refine zr_iast hx hb hG.1 hP hD hS 2 2 mw_l rfl (k := q) (by omega) (Nat.le_of_ble_eq_true rfl) dX2_halve_33 (fun H locs hP hD hS => ?_)
      have hP : va_P D vwCl (mw M cZ cI th tp n mo ti dr st ma isIn (upd u1.1 q (enc (root (balF d (xs.take ((n0 - 1) / 2)))))) u1.2 wy rw) H := hP
      have hD : va_D A (mw M cZ cI th tp n mo ti dr st ma isIn (upd u1.1 q (enc (root (balF d (xs.take ((n0 - 1) / 2)))))) u1.2 wy rw) := hD
      refine lv_aload_n hx hb dX2_halve_34 rfl (lv_at hl 1 rfl) ?_
      refine va_get (D := D) (ci := 2) (v := .ref M.2.2.2.1) (C := RX2) (T := TX2) (N := 13) hx hb hts (by decide +kernel) hown hG.1 hP 0 mw_m rfl 8 (by decide) (hts (.fieldLink RX2 21 "LopsidedRanksModel" "right" "[I") (by decide +kernel)) (fun _ h9 => h9) rfl dX2_halve_35 ?_
      refine lv_aload_n hx hb dX2_halve_38 rfl (lv_at hl 1 rfl) ?_
      refine va_get (D := D) (ci := 2) (v := .ref M.2.2.2.2.2) (C := RX2) (T := TX2) (N := 13) hx hb hts (by decide +kernel) hown hG.1 hP 0 mw_m rfl 11 (by decide) (hts (.fieldLink RX2 27 "LopsidedRanksModel" "row" "[I") (by decide +kernel)) (fun _ h9 => h9) rfl dX2_halve_39 ?_
      refine lv_iload_n hx hb dX2_halve_42 rfl (lv_at hl 0 rfl) ?_
      refine zr_iald hx hb hG.1 hP 5 2 mw_o rfl (k := first + ((n0 - 1) / 2)) (by omega) (Nat.le_of_ble_eq_true rfl) dX2_halve_43 ?_
      refine zr_eqi hrq ?_
      refine lv_aload_n hx hb dX2_halve_44 rfl (lv_at hl 1 rfl) ?_
      refine lv_iload_n hx hb dX2_halve_45 rfl (lv_at hl 0 rfl) ?_
      refine lv_iconst (v := nI 1) hx hb dX2_halve_46 (by decide) ?_
      refine lv_iadd hx hb dX2_halve_47 ?_
      refine zr_eqi (nI_add (first + ((n0 - 1) / 2)) 1) ?_
      refine lv_iload_n hx hb dX2_halve_48 rfl (lv_at hl 3 rfl) ?_
      refine zr_eqi (show pd (first + n0) = pd (first + (n0 - 1) / 2 + 1 + (n0 - ((n0 - 1) / 2 + 1))) from congrArg pd (by omega)) ?_
      refine va_calli (va_runV (As := [.int (nI ((first + ((n0 - 1) / 2)) + 1)), .int (pd (first + (n0 - 1) / 2 + 1 + (n0 - ((n0 - 1) / 2 + 1))))]) (rest := [.int (nI q), .ref M.2.2.2.1]) ⟨hx, hb, hml, hown, hts⟩ (ih (lf := upd u1.1 q (enc (root (balF d (xs.take ((n0 - 1) / 2)))))) (rt := u1.2) (xs := xs.drop ((n0 - 1) / 2 + 1)) (first := first + (n0 - 1) / 2 + 1) (n0 := n0 - ((n0 - 1) / 2 + 1)) (fun j k e => by rw [List.getElem?_drop] at e; have := hrw _ k e; rw [show first + (n0 - 1) / 2 + 1 + j = first + ((n0 - 1) / 2 + 1 + j) by omega]; exact this) (fun j hj => hx0 j (List.mem_of_mem_drop hj)) (hnd.sublist (List.drop_sublist _ _)) (by rw [List.length_drop, hn]) (by rw [List.length_drop]; omega) (by omega)) (cwV 2 hts gX2_halve_X2_halve rfl rfl rfl (by decide +kernel) ⟨by show d + 1 ≤ d + 1; omega, by show 8 + (4 + 11) + 40 * d ≤ 40 * (d + 1); omega⟩) ⟨PcM.blind, va_recv hG.1 hP (ci := 2) (q0 := 0) rfl mw_m, PcM.at (fun q h => hA q (Nat.le_trans hS.1 h)) hP hG hD⟩ rfl rfl hl.1 rfl (lv_room (Nat.le_of_ble_eq_true rfl)) dX2_halve_49 ⟨Nat.zero_le _, Nat.zero_le _⟩) hS (fun q _ h => h) (fun q h => h) (fun r49 u2 t H locs ht hvm q49 hB hz1 hk1 hS => ?_)
      obtain ⟨hP, -, hD⟩ := hB
      rw [ht] at hP
      have hP : va_P D vwCl (mw M cZ cI th tp n mo ti dr st ma isIn u2.1 u2.2 wy rw) H := hP
      have hD : va_D A (mw M cZ cI th tp n mo ti dr st ma isIn u2.1 u2.2 wy rw) := hD
      obtain ⟨rfl, s2, f2⟩ := q49
      refine zr_iast hx hb hG.1 hP hD hS 3 2 mw_r rfl (k := q) (by omega) (Nat.le_of_ble_eq_true rfl) dX2_halve_52 (fun H locs hP hD hS => ?_)
      have hP : va_P D vwCl (mw M cZ cI th tp n mo ti dr st ma isIn u2.1 (upd u2.2 q (enc (root (balF d (xs.drop ((n0 - 1) / 2 + 1)))))) wy rw) H := hP
      have hD : va_D A (mw M cZ cI th tp n mo ti dr st ma isIn u2.1 (upd u2.2 q (enc (root (balF d (xs.drop ((n0 - 1) / 2 + 1)))))) wy rw) := hD
      refine lv_aload_n hx hb dX2_halve_53 rfl (lv_at hl 1 rfl) ?_
      refine va_get (D := D) (ci := 2) (v := .ref M.2.2.2.2.2) (C := RX2) (T := TX2) (N := 13) hx hb hts (by decide +kernel) hown hG.1 hP 0 mw_m rfl 11 (by decide) (hts (.fieldLink RX2 27 "LopsidedRanksModel" "row" "[I") (by decide +kernel)) (fun _ h9 => h9) rfl dX2_halve_54 ?_
      refine lv_iload_n hx hb dX2_halve_57 rfl (lv_at hl 0 rfl) ?_
      refine zr_iald hx hb hG.1 hP 5 2 mw_o rfl (k := first + ((n0 - 1) / 2)) (by omega) (Nat.le_of_ble_eq_true rfl) dX2_halve_58 ?_
      refine zr_eqi hrq ?_
      have hkl := balF_keys d (xs.take ((n0 - 1) / 2)) (by rw [List.length_take]; omega)
      have hkr := balF_keys d (xs.drop ((n0 - 1) / 2 + 1)) (by rw [List.length_drop]; omega)
      obtain ⟨z1, z2⟩ := halveM (lf := lf) (rt := rt) (q := q) s1 (fun k hk => f1 k (by rw [hkl] at hk; exact hk)) s2 (fun k hk => f2 k (by rw [hkr] at hk; exact hk)) (fun j hj => hlq j (by rw [hkl] at hj; exact hj)) (fun j hj => hgq j (by rw [hkr] at hj; exact hj))
      rw [hkl, hkr] at z2
      exact W.iret (v := (nI q)) hx hb hr (fun t ht hW => ⟨⟨_, (u2.1, upd u2.2 q (enc (root (balF d (xs.drop ((n0 - 1) / 2 + 1)))))), rfl, ⟨by rw [hbal]; rfl, by rw [hbal]; exact z1, fun k hk => z2 k (fun z => hk (z ▸ hqx)) (fun z => hk (List.mem_of_mem_take z)) (fun z => hk (List.mem_of_mem_drop z))⟩, by rw [ht]; exact hP, hG.moved hW, hD⟩, hS.F ht⟩) hS.2.2 dX2_halve_59
    · exact absurd ((nI_le_pd (by omega) (by omega)).mpr (by omega)) c2

set_option maxHeartbeats 4000000 in
set_option maxRecDepth 100000 in
/-- hang -/
theorem c_X2_hang (l : Launch) {D : va_G} {cA cZ cI : ClassId} {M : Nat × Nat × Nat × Nat × Nat × Nat} {th tp n mo ti dr st ma : Int32} {isIn lf rt wy rw : Nat → Int32} {A : Nat → Prop} {p0 : Option Nat} {h : Nat} {v0 : Int32} (hh : h < 1000) (hp : ∀ a, p0 = some a → a < 1000) : Met l yX2_hang wsX2_hang ({ frames := 0, cells := 0, slots := 0, locals := 0 } : Room) (PcM D (tysA cA cZ cI) A (mw M cZ cI th tp n mo ti dr st ma isIn lf rt wy rw) [.ref M.1, .int (enc p0), .int (nI h), .int v0]) (va_Qv (S := Unit) (fun _ => True) (fun _ => BM D (tysA cA cZ cI) A (mw M cZ cI th (hgTp tp p0 v0) n mo ti dr st ma isIn (hgL lf p0 h v0) (hgR rt p0 h v0) wy rw)) A) 0 0 A := by
  refine Met.ofW (cc := cX2_hang) (maxL := 4) (ret := none) (by decide) rfl ?_
  intro p e s m args below meth c s₁ B hml hv
  obtain ⟨rfl, hA, hP, hG, hD⟩ := hv
  have hx := B.exec
  have hb := B.bytes
  have hr := B.returns
  have hts := atoms_spec (ws := wsX2_hang) B.pre
  have hown : s.vm.findClass RX2 = some m.cls := findClass_of_methodNamed B.named
  have hlocks := B.notSynchronized
  have hl := lv_entry ([.ref M.1, .int (enc p0), .int (nI h), .int v0]) (n := 4) (Nat.le_of_ble_eq_true rfl)
  rw [lg_entry_eq]
  generalize (lg_sl ([.ref M.1, .int (enc p0), .int (nI h), .int v0]) ++ List.replicate (4 - (lg_sl ([.ref M.1, .int (enc p0), .int (nI h), .int v0])).length) Slot.unset).toArray = ls at hl ⊢
  have hl : lv_has ls 4 [(0, .ref M.1), (1, .int (enc p0)), (2, .int (nI h)), (3, .int v0)] := hl
  have hS : va_S A s.heap s.heap [] := va_S.rf
  cases p0 with
  | none =>
    have hl : lv_has ls 4 [(0, .ref M.1), (1, .int (-1)), (2, .int (nI h)), (3, .int v0)] := hl
    refine lv_iload_n hx hb dX2_hang_0 rfl (lv_at hl 1 rfl) ?_
    refine lv_iconst (v := (-1)) hx hb dX2_hang_1 (by decide) ?_
    refine lv_icmp_ne (tgt := 13) hx hb dX2_hang_2 (by decide) (fun c2 => ?_) (fun c2 => ?_)
    · exact absurd rfl c2
    · refine lv_aload_n hx hb dX2_hang_5 rfl (lv_at hl 0 rfl) ?_
      refine lv_iload_n hx hb dX2_hang_6 rfl (lv_at hl 3 rfl) ?_
      refine va_put (D := D) (ci := 2) (v := .int v0) (ty := .int) (C := RX2) (T := TX2) (N := 13) hx hb hts (by decide +kernel) tyX2 tyX2_ok nmX2 hown hG.1 hP hD hS 0 mw_m rfl 1 (by decide) (hts (.fieldLink RX2 9 "LopsidedRanksModel" "top" "I") (by decide +kernel)) (fun _ h9 => h9) rfl (by decide +kernel) rfl rfl (Nat.le_of_ble_eq_true rfl) dX2_hang_7 (fun H locs hP hD hS => ?_)
      have hP : va_P D vwCl (mw M cZ cI th v0 n mo ti dr st ma isIn lf rt wy rw) H := hP
      have hD : va_D A (mw M cZ cI th v0 n mo ti dr st ma isIn lf rt wy rw) := hD
      refine lv_goto (tgt := 35) hx hb dX2_hang_10 (by decide) ?_
      exact W.vret hx hb hr (fun t ht hW => ⟨⟨(), rfl, trivial, by rw [ht]; exact hP, hG.moved hW, hD⟩, hS.F ht⟩) hS.2.2 dX2_hang_35
  | some a =>
    have hl : lv_has ls 4 [(0, .ref M.1), (1, .int (nI a)), (2, .int (nI h)), (3, .int v0)] := hl
    have ha := hp a rfl
    refine lv_iload_n hx hb dX2_hang_0 rfl (lv_at hl 1 rfl) ?_
    refine lv_iconst (v := (-1)) hx hb dX2_hang_1 (by decide) ?_
    refine lv_icmp_ne (tgt := 13) hx hb dX2_hang_2 (by decide) (fun c2 => ?_) (fun c2 => ?_)
    · refine lv_iload_n hx hb dX2_hang_13 rfl (lv_at hl 2 rfl) ?_
      refine lv_iload_n hx hb dX2_hang_14 rfl (lv_at hl 1 rfl) ?_
      refine lv_icmp_ge (tgt := 28) hx hb dX2_hang_15 (by decide) (fun c15 => ?_) (fun c15 => ?_)
      · rw [nI_leI (by omega) (by omega)] at c15
        refine lv_aload_n hx hb dX2_hang_28 rfl (lv_at hl 0 rfl) ?_
        refine va_get (D := D) (ci := 2) (v := .ref M.2.2.2.1) (C := RX2) (T := TX2) (N := 13) hx hb hts (by decide +kernel) hown hG.1 hP 0 mw_m rfl 8 (by decide) (hts (.fieldLink RX2 21 "LopsidedRanksModel" "right" "[I") (by decide +kernel)) (fun _ h9 => h9) rfl dX2_hang_29 ?_
        refine lv_iload_n hx hb dX2_hang_32 rfl (lv_at hl 1 rfl) ?_
        refine lv_iload_n hx hb dX2_hang_33 rfl (lv_at hl 3 rfl) ?_
        refine zr_iast hx hb hG.1 hP hD hS 3 2 mw_r rfl (k := a) (by omega) (Nat.le_of_ble_eq_true rfl) dX2_hang_34 (fun H locs hP hD hS => ?_)
        have hP : va_P D vwCl (mw M cZ cI th tp n mo ti dr st ma isIn lf (upd rt a v0) wy rw) H := hP
        have hD : va_D A (mw M cZ cI th tp n mo ti dr st ma isIn lf (upd rt a v0) wy rw) := hD
        exact W.vret hx hb hr (fun t ht hW => ⟨⟨(), rfl, trivial, by rw [ht]; rw [show hgL lf (some a) h v0 = lf from if_neg (show ¬ h < a by omega), show hgR rt (some a) h v0 = upd rt a v0 from if_neg (show ¬ h < a by omega)]; exact hP, hG.moved hW, by rw [show hgL lf (some a) h v0 = lf from if_neg (show ¬ h < a by omega), show hgR rt (some a) h v0 = upd rt a v0 from if_neg (show ¬ h < a by omega)]; exact hD⟩, hS.F ht⟩) hS.2.2 dX2_hang_35
      · rw [nI_leI (by omega) (by omega)] at c15
        refine lv_aload_n hx hb dX2_hang_18 rfl (lv_at hl 0 rfl) ?_
        refine va_get (D := D) (ci := 2) (v := .ref M.2.2.1) (C := RX2) (T := TX2) (N := 13) hx hb hts (by decide +kernel) hown hG.1 hP 0 mw_m rfl 7 (by decide) (hts (.fieldLink RX2 17 "LopsidedRanksModel" "left" "[I") (by decide +kernel)) (fun _ h9 => h9) rfl dX2_hang_19 ?_
        refine lv_iload_n hx hb dX2_hang_22 rfl (lv_at hl 1 rfl) ?_
        refine lv_iload_n hx hb dX2_hang_23 rfl (lv_at hl 3 rfl) ?_
        refine zr_iast hx hb hG.1 hP hD hS 2 2 mw_l rfl (k := a) (by omega) (Nat.le_of_ble_eq_true rfl) dX2_hang_24 (fun H locs hP hD hS => ?_)
        have hP : va_P D vwCl (mw M cZ cI th tp n mo ti dr st ma isIn (upd lf a v0) rt wy rw) H := hP
        have hD : va_D A (mw M cZ cI th tp n mo ti dr st ma isIn (upd lf a v0) rt wy rw) := hD
        refine lv_goto (tgt := 35) hx hb dX2_hang_25 (by decide) ?_
        exact W.vret hx hb hr (fun t ht hW => ⟨⟨(), rfl, trivial, by rw [ht]; rw [show hgL lf (some a) h v0 = upd lf a v0 from if_pos (show h < a by omega), show hgR rt (some a) h v0 = rt from if_pos (show h < a by omega)]; exact hP, hG.moved hW, by rw [show hgL lf (some a) h v0 = upd lf a v0 from if_pos (show h < a by omega), show hgR rt (some a) h v0 = rt from if_pos (show h < a by omega)]; exact hD⟩, hS.F ht⟩) hS.2.2 dX2_hang_35
    · exact absurd c2 (nI_m1 (by omega))

