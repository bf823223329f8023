/-! THE TREE'S SHAPE behind standBelow, handOver and the counting -/
theorem sbG_at (g : Nat → Nd) (p : Option Nat) (h : Nat) (r : Option Nat) (k : Nat) : sbG g p h r k = (if r = some k then p else (g k).1, if p = some k ∧ h < k then r else (g k).2.1, if p = some k ∧ ¬ h < k then r else (g k).2.2.1, (g k).2.2.2) := by
  have e : ∀ d : Nd, d = (d.1, d.2.1, d.2.2.1, d.2.2.2) := fun d => rfl
  cases p with
  | none =>
    cases r with
    | none => simp [sbG]
    | some c =>
      simp only [sbG]
      by_cases hk : k = c
      · subst hk; simp [va_up, sA]
      · have h1 : ¬ c = k := fun q => hk q.symm
        simp [va_up, hk, h1]
  | some q =>
    cases r with
    | none =>
      simp only [sbG, stG]
      by_cases hk : k = q
      · subst hk
        by_cases hl : h < k <;> simp [va_up, sL, sR, hl]
      · have h1 : ¬ q = k := fun z => hk z.symm
        simp [va_up, hk, h1]
    | some c =>
      simp only [sbG, stG]
      by_cases hk : k = q
      · subst hk
        by_cases hc : k = c
        · subst hc
          by_cases hl : h < k <;> simp [va_up, sL, sR, sA, hl]
        · have h1 : ¬ c = k := fun z => hc z.symm
          by_cases hl : h < k <;> simp [va_up, sL, sR, hl, hc, h1]
      · have h1 : ¬ q = k := fun z => hk z.symm
        by_cases hc : k = c
        · subst hc
          simp [va_up, sA, hk, h1]
        · have h2 : ¬ c = k := fun z => hc z.symm
          simp [va_up, hk, h1, hc, h2]
theorem hoG_eq (g : Nat → Nd) (c q : Nat) : hoG g (some c) q = sbG g (some q) c (some c) := rfl
theorem addG_at {d : Int32} {k : Nat} : ∀ {ks : List Nat} {g : Nat → Nd}, ks.Nodup → addG d ks g k = if k ∈ ks then sC (g k) ((g k).2.2.2 + d) else g k
  | [], g, _ => by simp [addG]
  | a :: ks, g, hn => by
    obtain ⟨h1, h2⟩ := List.nodup_cons.mp hn
    rw [addG, addG_at h2]
    by_cases e : k = a
    · subst e
      rw [if_neg h1, if_pos List.mem_cons_self, va_up_self]
    · rw [va_up_ne _ _ e]
      by_cases e2 : k ∈ ks
      · rw [if_pos e2, if_pos (List.mem_cons_of_mem _ e2)]
      · rw [if_neg e2, if_neg (fun q => by rcases List.mem_cons.mp q with z | z; exact e z; exact e2 z)]
theorem addG_ptr {d : Int32} {k : Nat} {ks : List Nat} {g : Nat → Nd} (hn : ks.Nodup) : (addG d ks g k).1 = (g k).1 ∧ (addG d ks g k).2.1 = (g k).2.1 ∧ (addG d ks g k).2.2.1 = (g k).2.2.1 := by
  rw [addG_at hn]
  split <;> exact ⟨rfl, rfl, rfl⟩
theorem addG_co {d : Int32} {k : Nat} {ks : List Nat} {g : Nat → Nd} (hn : ks.Nodup) : (addG d ks g k).2.2.2 = (g k).2.2.2 + (if k ∈ ks then d else 0) := by
  rw [addG_at hn]
  split
  · rfl
  · exact (Int32.add_zero _).symm
theorem anc_nodup {h : Nat} {T : Tr} (hb : bst T) : (anc h T).Nodup := by
  induction T with
  | leaf => exact List.nodup_nil
  | inner s k v l r ihl ihr =>
    obtain ⟨b1, b2, b3, b4⟩ := bst_in.mp hb
    simp only [anc]
    split
    · exact List.nodup_nil
    · split
      · exact List.nodup_cons.mpr ⟨fun q => by have := b3 k (anc_in q); omega, ihl b1⟩
      · exact List.nodup_cons.mpr ⟨fun q => by have := b4 k (anc_in q); omega, ihr b2⟩
theorem anc_out {h j : Nat} {T : Tr} (hj : j ∈ anc h T) : j ∈ kl h T ∨ j ∈ kr h T := by
  induction T with
  | leaf => cases hj
  | inner s k v l r ihl ihr =>
    simp only [anc] at hj
    simp only [kl, kr]
    split at hj
    · cases hj
    · rename_i e
      rw [if_neg e, if_neg e]
      by_cases e2 : h < k
      · rw [if_pos e2] at hj
        rw [if_pos e2, if_pos e2]
        rcases List.mem_cons.mp hj with q | q
        · exact Or.inr (List.mem_append_right _ (q ▸ List.mem_cons_self))
        · rcases ihl q with z | z
          · exact Or.inl z
          · exact Or.inr (List.mem_append_left _ z)
      · rw [if_neg e2] at hj
        rw [if_neg e2, if_neg e2]
        rcases List.mem_cons.mp hj with q | q
        · exact Or.inl (List.mem_append_right _ (q ▸ List.mem_cons_self))
        · rcases ihr q with z | z
          · exact Or.inl (List.mem_append_right _ (List.mem_cons_of_mem _ z))
          · exact Or.inr z
theorem parF_anc {h j : Nat} : ∀ {T : Tr} {a : Option Nat}, parF h a T = some j → a = some j ∨ j ∈ anc h T
  | .leaf, a, e => Or.inl e
  | .inner s k v l r, a, e => by
    simp only [parF] at e
    simp only [anc]
    split at e
    · exact Or.inl e
    · rename_i e1
      rw [if_neg e1]
      split at e
      · rename_i e2
        rw [if_pos e2]
        rcases parF_anc e with q | q
        · cases q; exact Or.inr List.mem_cons_self
        · exact Or.inr (List.mem_cons_of_mem _ q)
      · rename_i e2
        rw [if_neg e2]
        rcases parF_anc e with q | q
        · cases q; exact Or.inr List.mem_cons_self
        · exact Or.inr (List.mem_cons_of_mem _ q)
theorem parF_out {h j : Nat} {T : Tr} (e : parF h none T = some j) : j ∈ kl h T ∨ j ∈ kr h T := by
  rcases parF_anc e with q | q
  · cases q
  · exact anc_out q
/-- standBelow hangs a tree into the place of h -/
theorem SB {g g1 : Nat → Nd} {h : Nat} {t T : Tr} {b : Option Nat} (hb : bst T) (hbt : bst t) (hs : ShP g none T) (ht : ShP g1 b t) (hag : ∀ k ∈ keysT T, k ∉ keysT (subT h T) → (g1 k).1 = (g k).1 ∧ (g1 k).2.1 = (g k).2.1 ∧ (g1 k).2.2.1 = (g k).2.2.1) (hdis : ∀ j ∈ keysT t, j ∉ kl h T ∧ j ∉ kr h T) : ShP (sbG g1 (parF h none T) h (root t)) none (rep h t T) := by
  refine rep_shape hb (fun b q => by cases q) hs (fun k hk hn => ?_) ?_
  · obtain ⟨e1, e2, e3⟩ := hag k hk hn
    have hout := (out_iff hb).mp ⟨hk, hn⟩
    have hr : ¬ root t = some k := fun q => by
      obtain ⟨z1, z2⟩ := hdis k (root_in q)
      rcases hout with w | w
      · exact z1 w
      · exact z2 w
    rw [sbG_at]
    refine ⟨?_, fun hp => ?_, fun hp hl => ?_, fun hp hl => ?_⟩
    · simp only [hr, if_false]; exact e1
    · simp only [hp, false_and, if_false]; exact ⟨e2, e3⟩
    · simp only [hp, hl, not_true, and_false, and_self, if_true, if_false]; exact ⟨trivial, e3⟩
    · simp only [hp, hl, not_false_eq_true, and_false, and_self, if_true, if_false]; exact ⟨e2, trivial⟩
  · refine ShP_under hbt (fun k hk => ?_) ht
    obtain ⟨z1, z2⟩ := hdis k hk
    have hp : ¬ parF h none T = some k := fun q => by
      rcases parF_out q with w | w
      · exact z1 w
      · exact z2 w
    rw [sbG_at]
    refine ⟨fun q => ?_, fun q => ?_, ?_, ?_⟩
    · simp only [q, if_false]
    · simp only [q, if_true]
    · simp only [hp, false_and, if_false]
    · simp only [hp, false_and, if_false]
theorem sbT_root {h : Nat} {t T : Tr} : sbT (root T) (parF h none T) (root t) = root (rep h t T) := by
  rcases hr : root T with _ | c
  · obtain ⟨y1, y2⟩ := (root_rep (h := h) (t := t) (T := T) (a := none)).1 (Or.inl hr)
    rw [y1, y2]; rfl
  · by_cases ec : c = h
    · obtain ⟨y1, y2⟩ := (root_rep (h := h) (t := t) (T := T) (a := none)).1 (Or.inr (by rw [hr, ec]))
      rw [y1, y2]; rfl
    · obtain ⟨y1, q, y2, y3⟩ := (root_rep (h := h) (t := t) (T := T) (a := none)).2 c hr ec
      rw [y1, y3]; rfl
/-- the companies, where a tree was hung into the place of h -/
theorem rep_co {g g' : Nat → Nd} {h : Nat} {t : Tr} {d : Int32} : ∀ {T : Tr}, bst T → ShC g T → (∀ k ∈ keysT T, k ∉ keysT (subT h T) → (g' k).2.2.2 = (g k).2.2.2 + (if k ∈ anc h T then d else 0)) → ShC g' t → nI (siz t) = nI (siz (subT h T)) + d → ShC g' (rep h t T) ∧ nI (siz (rep h t T)) = nI (siz T) + d
  | .leaf, _, _, _, ht, hd => ⟨ht, hd⟩
  | .inner s k v l r, hb, hc, hk, ht, hd => by
    obtain ⟨b1, b2, b3, b4⟩ := bst_in.mp hb
    obtain ⟨c1, c2, c3⟩ := hc
    by_cases e : h = k
    · subst e
      rw [sub_s] at hd
      have er : rep h t (.inner s h v l r) = t := by simp [rep]
      rw [er]
      exact ⟨ht, hd⟩
    · by_cases e2 : h < k
      · have er : rep h t (.inner s k v l r) = nd_ (rep h t l) k r := by simp [rep, e, e2]
        rw [sub_l e2] at hk hd
        rw [anc_l e2] at hk
        have hkl : ∀ j ∈ keysT l, j ≠ k := fun j hj q => by have := b3 j hj; omega
        have hz := hk k ((keys_in ..).mpr (Or.inr (Or.inl rfl))) (fun q => hkl k (subT_sub q) rfl)
        rw [if_pos List.mem_cons_self] at hz
        obtain ⟨i1, i2⟩ := rep_co b1 c2 (fun j hj hn => by
          have h9 := hk j ((keys_in ..).mpr (Or.inl hj)) hn
          have e9 : (j ∈ k :: anc h l) ↔ j ∈ anc h l := ⟨fun q => by rcases List.mem_cons.mp q with z | z; exact absurd z (hkl j hj); exact z, fun q => List.mem_cons_of_mem _ q⟩
          simp only [e9] at h9
          exact h9) ht hd
        rw [er]
        refine ⟨⟨?_, i1, ShC_cong (fun j hj => ?_) c3⟩, ?_⟩
        · rw [hz, c1, ← nI_add, ← nI_add, ← nI_add, ← nI_add, i2]; ac_rfl
        · have hjk := b4 j hj
          have h9 := hk j ((keys_in ..).mpr (Or.inr (Or.inr hj))) (fun q => by have := b3 j (subT_sub q); omega)
          rw [if_neg (fun q => by rcases List.mem_cons.mp q with z | z; (· omega); (· have := b3 j (anc_in z); omega))] at h9
          rw [h9]; exact Int32.add_zero _
        · show nI (siz (rep h t l) + siz r + 1) = nI (siz l + siz r + 1) + d
          rw [← nI_add, ← nI_add, ← nI_add, ← nI_add, i2]; ac_rfl
      · have e3 : k < h := by omega
        have er : rep h t (.inner s k v l r) = nd_ l k (rep h t r) := by simp [rep, e, e2]
        rw [sub_r e3] at hk hd
        rw [anc_r e3] at hk
        have hkr : ∀ j ∈ keysT r, j ≠ k := fun j hj q => by have := b4 j hj; omega
        have hz := hk k ((keys_in ..).mpr (Or.inr (Or.inl rfl))) (fun q => hkr k (subT_sub q) rfl)
        rw [if_pos List.mem_cons_self] at hz
        obtain ⟨i1, i2⟩ := rep_co b2 c3 (fun j hj hn => by
          have h9 := hk j ((keys_in ..).mpr (Or.inr (Or.inr hj))) hn
          have e9 : (j ∈ k :: anc h r) ↔ j ∈ anc h r := ⟨fun q => by rcases List.mem_cons.mp q with z | z; exact absurd z (hkr j hj); exact z, fun q => List.mem_cons_of_mem _ q⟩
          simp only [e9] at h9
          exact h9) ht hd
        rw [er]
        refine ⟨⟨?_, ShC_cong (fun j hj => ?_) c2, i1⟩, ?_⟩
        · rw [hz, c1, ← nI_add, ← nI_add, ← nI_add, ← nI_add, i2]; ac_rfl
        · have hjk := b3 j hj
          have h9 := hk j ((keys_in ..).mpr (Or.inl hj)) (fun q => by have := b4 j (subT_sub q); omega)
          rw [if_neg (fun q => by rcases List.mem_cons.mp q with z | z; (· omega); (· have := b4 j (anc_in z); omega))] at h9
          rw [h9]; exact Int32.add_zero _
        · show nI (siz l + siz (rep h t r) + 1) = nI (siz l + siz r + 1) + d
          rw [← nI_add, ← nI_add, ← nI_add, ← nI_add, i2]; ac_rfl
theorem sbG_co {g : Nat → Nd} {p : Option Nat} {h : Nat} {r : Option Nat} {k : Nat} : (sbG g p h r k).2.2.2 = (g k).2.2.2 := by rw [sbG_at]
