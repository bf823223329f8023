/-! THE TREE'S SHAPE, behind each writing -/
theorem ShP_cong {g g' : Nat → Nd} : ∀ {T : Tr} {a : Option Nat}, (∀ k ∈ keysT T, (g' k).1 = (g k).1 ∧ (g' k).2.1 = (g k).2.1 ∧ (g' k).2.2.1 = (g k).2.2.1) → ShP g a T → ShP g' a T
  | .leaf, _, _, _ => trivial
  | .inner s k v l r, a, h, hs => by
    obtain ⟨h1, h2, h3, h4, h5⟩ := hs
    obtain ⟨e1, e2, e3⟩ := h k ((keys_in ..).mpr (Or.inr (Or.inl rfl)))
    exact ⟨e1.trans h1, e2.trans h2, e3.trans h3, ShP_cong (fun j hj => h j ((keys_in ..).mpr (Or.inl hj))) h4, ShP_cong (fun j hj => h j ((keys_in ..).mpr (Or.inr (Or.inr hj)))) h5⟩
theorem ShC_cong {g g' : Nat → Nd} : ∀ {T : Tr}, (∀ k ∈ keysT T, (g' k).2.2.2 = (g k).2.2.2) → ShC g T → ShC g' T
  | .leaf, _, _ => trivial
  | .inner s k v l r, h, hs => by
    obtain ⟨h1, h2, h3⟩ := hs
    exact ⟨(h k ((keys_in ..).mpr (Or.inr (Or.inl rfl)))).trans h1, ShC_cong (fun j hj => h j ((keys_in ..).mpr (Or.inl hj))) h2, ShC_cong (fun j hj => h j ((keys_in ..).mpr (Or.inr (Or.inr hj)))) h3⟩
/-- the same tree under somebody else -/
theorem ShP_under {g g' : Nat → Nd} {T : Tr} {a b : Option Nat} (hb : bst T) (h : ∀ k ∈ keysT T, (root T ≠ some k → (g' k).1 = (g k).1) ∧ (root T = some k → (g' k).1 = b) ∧ (g' k).2.1 = (g k).2.1 ∧ (g' k).2.2.1 = (g k).2.2.1) (hs : ShP g a T) : ShP g' b T := by
  cases T with
  | leaf => trivial
  | inner s k v l r =>
    obtain ⟨b1, b2, b3, b4⟩ := bst_in.mp hb
    obtain ⟨h1, h2, h3, h4, h5⟩ := hs
    obtain ⟨-, e1, e2, e3⟩ := h k ((keys_in ..).mpr (Or.inr (Or.inl rfl)))
    refine ⟨e1 rfl, e2.trans h2, e3.trans h3, ShP_cong (fun j hj => ?_) h4, ShP_cong (fun j hj => ?_) h5⟩
    · obtain ⟨z1, -, z2, z3⟩ := h j ((keys_in ..).mpr (Or.inl hj))
      exact ⟨z1 (fun q => by cases q; have := b3 _ hj; omega), z2, z3⟩
    · obtain ⟨z1, -, z2, z3⟩ := h j ((keys_in ..).mpr (Or.inr (Or.inr hj)))
      exact ⟨z1 (fun q => by cases q; have := b4 _ hj; omega), z2, z3⟩
def kl (h : Nat) : Tr → List Nat
  | .leaf => []
  | .inner _ k _ l r => if h = k then [] else if h < k then kl h l else keysT l ++ k :: kl h r
def kr (h : Nat) : Tr → List Nat
  | .leaf => []
  | .inner _ k _ l r => if h = k then [] else if h < k then kr h l ++ k :: keysT r else kr h r
theorem keys_split (h : Nat) (T : Tr) : keysT T = kl h T ++ keysT (subT h T) ++ kr h T := by
  induction T with
  | leaf => rfl
  | inner s k v l r ihl ihr =>
    simp only [kl, kr, subT]
    split
    · simp
    · split
      · rw [show keysT (.inner s k v l r : Tr) = keysT l ++ k :: keysT r from rfl, ihl]; simp
      · rw [show keysT (.inner s k v l r : Tr) = keysT l ++ k :: keysT r from rfl, ihr]; simp
theorem keys_rep (h : Nat) (t T : Tr) : keysT (rep h t T) = kl h T ++ keysT t ++ kr h T := by
  induction T with
  | leaf => simp [rep, kl, kr]
  | inner s k v l r ihl ihr =>
    simp only [kl, kr, rep]
    split
    · simp
    · split
      · rw [show keysT (nd_ (rep h t l) k r) = keysT (rep h t l) ++ k :: keysT r from rfl, ihl]; simp
      · rw [show keysT (nd_ l k (rep h t r)) = keysT l ++ k :: keysT (rep h t r) from rfl, ihr]; simp
theorem kl_len (h : Nat) (T : Tr) : (kl h T).length = ofs h T := by
  induction T with
  | leaf => rfl
  | inner s k v l r ihl ihr =>
    simp only [kl, ofs]
    split
    · rfl
    · split
      · exact ihl
      · simp [keys_len, ihr]; omega
theorem kl_lt {h : Nat} {T : Tr} (hb : bst T) : ∀ j ∈ kl h T, j < h := by
  induction T with
  | leaf => intro j hj; cases hj
  | inner s k v l r ihl ihr =>
    obtain ⟨b1, b2, b3, b4⟩ := bst_in.mp hb
    intro j hj
    simp only [kl] at hj
    split at hj
    · cases hj
    · split at hj
      · exact ihl b1 j hj
      · rcases List.mem_append.mp hj with q | q
        · have := b3 j q; omega
        · rcases List.mem_cons.mp q with q | q
          · omega
          · exact ihr b2 j q
theorem kr_gt {h : Nat} {T : Tr} (hb : bst T) : ∀ j ∈ kr h T, h < j := by
  induction T with
  | leaf => intro j hj; cases hj
  | inner s k v l r ihl ihr =>
    obtain ⟨b1, b2, b3, b4⟩ := bst_in.mp hb
    intro j hj
    simp only [kr] at hj
    split at hj
    · cases hj
    · split at hj
      · rcases List.mem_append.mp hj with q | q
        · exact ihl b1 j q
        · rcases List.mem_cons.mp q with q | q
          · omega
          · have := b4 j q; omega
      · exact ihr b2 j hj
/-- who is not below the place of h -/
theorem out_iff {h j : Nat} {T : Tr} (hb : bst T) : j ∈ keysT T ∧ j ∉ keysT (subT h T) ↔ j ∈ kl h T ∨ j ∈ kr h T := by
  have e := keys_split h T
  have hn : (keysT T).Pairwise (· < ·) := hb
  rw [e, List.pairwise_append, List.pairwise_append] at hn
  obtain ⟨⟨-, -, h1⟩, -, h2⟩ := hn
  rw [e, List.mem_append, List.mem_append]
  constructor
  · rintro ⟨(q | q) | q, n⟩
    · exact Or.inl q
    · exact absurd q n
    · exact Or.inr q
  · rintro (q | q)
    · exact ⟨Or.inl (Or.inl q), fun z => by have := h1 j q j z; omega⟩
    · exact ⟨Or.inr q, fun z => by have := h2 j (List.mem_append_right _ z) j q; omega⟩
theorem bst_rep {h : Nat} {t T : Tr} (hb : bst T) (ht : bst t) (h1 : ∀ a ∈ kl h T, ∀ b ∈ keysT t, a < b) (h2 : ∀ a ∈ keysT t, ∀ b ∈ kr h T, a < b) : bst (rep h t T) := by
  have hn : (keysT T).Pairwise (· < ·) := hb
  rw [keys_split h T, List.pairwise_append, List.pairwise_append] at hn
  obtain ⟨⟨g1, -, -⟩, g2, g3⟩ := hn
  show (keysT (rep h t T)).Pairwise (· < ·)
  rw [keys_rep, List.pairwise_append, List.pairwise_append]
  refine ⟨⟨g1, ht, h1⟩, g2, fun a ha b hb => ?_⟩
  rcases List.mem_append.mp ha with q | q
  · exact g3 a (List.mem_append_left _ q) b hb
  · exact h2 a q b hb
theorem kl_sub {h : Nat} {T : Tr} (hb : bst T) : (∀ a ∈ kl h T, ∀ b ∈ keysT (subT h T), a < b) ∧ ∀ a ∈ keysT (subT h T), ∀ b ∈ kr h T, a < b := by
  have hn : (keysT T).Pairwise (· < ·) := hb
  rw [keys_split h T, List.pairwise_append, List.pairwise_append] at hn
  exact ⟨hn.1.2.2, fun a ha b hb => hn.2.2 a (List.mem_append_right _ ha) b hb⟩
theorem root_rep {h : Nat} {t T : Tr} {a : Option Nat} : (root T = none ∨ root T = some h → root (rep h t T) = root t ∧ parF h a T = a) ∧ (∀ k, root T = some k → k ≠ h → root (rep h t T) = some k ∧ ∃ q ∈ keysT T, parF h a T = some q) := by
  cases T with
  | leaf => exact ⟨fun _ => ⟨rfl, rfl⟩, fun k e => by cases e⟩
  | inner s k v l r =>
    refine ⟨fun e => ?_, fun j e hne => ?_⟩
    · rcases e with e | e
      · cases e
      · cases e; simp [rep, parF]
    · cases e
      have h1 : ¬ h = k := fun q => hne q.symm
      by_cases h2 : h < k
      · simp only [rep, parF, if_neg h1, if_pos h2]
        refine ⟨rfl, ?_⟩
        cases e : parF h (some k) l with
        | none => 
          exfalso
          have : ∀ (T : Tr) (b : Nat), parF h (some b) T ≠ none := by
            intro T
            induction T with
            | leaf => intro b q; cases q
            | inner s2 k2 v2 l2 r2 i1 i2 =>
              intro b
              simp only [parF]
              split
              · intro q; cases q
              · split
                · exact i1 k2
                · exact i2 k2
          exact this l k e
        | some q =>
          refine ⟨q, ?_, rfl⟩
          rw [keys_in]
          rcases parF_in e with z | z
          · cases z; exact Or.inr (Or.inl rfl)
          · exact Or.inl z
      · simp only [rep, parF, if_neg h1, if_neg h2]
        refine ⟨rfl, ?_⟩
        cases e : parF h (some k) r with
        | none => 
          exfalso
          have : ∀ (T : Tr) (b : Nat), parF h (some b) T ≠ none := by
            intro T
            induction T with
            | leaf => intro b q; cases q
            | inner s2 k2 v2 l2 r2 i1 i2 =>
              intro b
              simp only [parF]
              split
              · intro q; cases q
              · split
                · exact i1 k2
                · exact i2 k2
          exact this r k e
        | some q =>
          refine ⟨q, ?_, rfl⟩
          rw [keys_in]
          rcases parF_in e with z | z
          · cases z; exact Or.inr (Or.inl rfl)
          · exact Or.inr (Or.inr z)
/-- a tree hung into the place of h: the parent's reference, and the tree's own, make the whole -/
theorem rep_shape {g g' : Nat → Nd} {h : Nat} {t : Tr} : ∀ {T : Tr} {a : Option Nat}, bst T → (∀ b, a = some b → b ∉ keysT T) → ShP g a T → (∀ k ∈ keysT T, k ∉ keysT (subT h T) → (g' k).1 = (g k).1 ∧ (parF h a T ≠ some k → (g' k).2.1 = (g k).2.1 ∧ (g' k).2.2.1 = (g k).2.2.1) ∧ (parF h a T = some k → h < k → (g' k).2.1 = root t ∧ (g' k).2.2.1 = (g k).2.2.1) ∧ (parF h a T = some k → ¬ h < k → (g' k).2.1 = (g k).2.1 ∧ (g' k).2.2.1 = root t)) → ShP g' (parF h a T) t → ShP g' a (rep h t T)
  | .leaf, a, _, _, _, _, ht => ht
  | .inner s k v l r, a, hb, ha, hs, hk, ht => by
    obtain ⟨b1, b2, b3, b4⟩ := bst_in.mp hb
    obtain ⟨h1, h2, h3, h4, h5⟩ := hs
    by_cases e : h = k
    · subst e
      simpa [rep, parF] using ht
    · by_cases e2 : h < k
      · have ep : parF h a (.inner s k v l r) = parF h (some k) l := by simp [parF, e, e2]
        have er : rep h t (.inner s k v l r) = nd_ (rep h t l) k r := by simp [rep, e, e2]
        rw [sub_l e2] at hk
        rw [ep] at hk ht
        rw [er]
        have hkl : ∀ j ∈ keysT l, j ≠ k := fun j hj q => by have := b3 j hj; omega
        have hpl : ∀ j, parF h (some k) l = some j → j = k ∨ j ∈ keysT l := fun j q => by
          rcases parF_in q with z | z
          · cases z; exact Or.inl rfl
          · exact Or.inr z
        obtain ⟨z1, z2, z3, z4⟩ := hk k ((keys_in ..).mpr (Or.inr (Or.inl rfl))) (fun q => hkl k (subT_sub q) rfl)
        have hleft : (g' k).2.1 = root (rep h t l) ∧ (g' k).2.2.1 = root r := by
          rcases hrl : root l with _ | c
          · obtain ⟨y1, y2⟩ := (root_rep (h := h) (t := t) (T := l) (a := some k)).1 (Or.inl hrl)
            obtain ⟨x1, x2⟩ := z3 y2 e2
            exact ⟨x1.trans y1.symm, x2.trans h3⟩
          · by_cases ec : c = h
            · subst ec
              obtain ⟨y1, y2⟩ := (root_rep (h := c) (t := t) (T := l) (a := some k)).1 (Or.inr hrl)
              obtain ⟨x1, x2⟩ := z3 y2 e2
              exact ⟨x1.trans y1.symm, x2.trans h3⟩
            · obtain ⟨y1, q, y2, y3⟩ := (root_rep (h := h) (t := t) (T := l) (a := some k)).2 c hrl ec
              obtain ⟨x1, x2⟩ := z2 (by rw [y3]; exact fun w => hkl q y2 (Option.some.inj w))
              exact ⟨x1.trans (h2.trans (hrl.trans y1.symm)), x2.trans h3⟩
        refine ⟨z1.trans h1, hleft.1, hleft.2, rep_shape b1 (fun b q => by cases q; exact fun w => hkl k w rfl) h4 (fun j hj hn => ?_) ht, ShP_cong (fun j hj => ?_) h5⟩
        · exact hk j ((keys_in ..).mpr (Or.inl hj)) hn
        · have hjk := b4 j hj
          obtain ⟨x1, x2, -, -⟩ := hk j ((keys_in ..).mpr (Or.inr (Or.inr hj))) (fun q => by have := b3 j (subT_sub q); omega)
          obtain ⟨x3, x4⟩ := x2 (fun q => by rcases hpl j q with w | w; (· omega); (· have := b3 j w; omega))
          exact ⟨x1, x3, x4⟩
      · have e3 : k < h := by omega
        have ep : parF h a (.inner s k v l r) = parF h (some k) r := by simp [parF, e, e2]
        have er : rep h t (.inner s k v l r) = nd_ l k (rep h t r) := by simp [rep, e, e2]
        rw [sub_r e3] at hk
        rw [ep] at hk ht
        rw [er]
        have hkr : ∀ j ∈ keysT r, j ≠ k := fun j hj q => by have := b4 j hj; omega
        have hpl : ∀ j, parF h (some k) r = some j → j = k ∨ j ∈ keysT r := fun j q => by
          rcases parF_in q with z | z
          · cases z; exact Or.inl rfl
          · exact Or.inr z
        obtain ⟨z1, z2, z3, z4⟩ := hk k ((keys_in ..).mpr (Or.inr (Or.inl rfl))) (fun q => hkr k (subT_sub q) rfl)
        have hright : (g' k).2.1 = root l ∧ (g' k).2.2.1 = root (rep h t r) := by
          rcases hrl : root r with _ | c
          · obtain ⟨y1, y2⟩ := (root_rep (h := h) (t := t) (T := r) (a := some k)).1 (Or.inl hrl)
            obtain ⟨x1, x2⟩ := z4 y2 e2
            exact ⟨x1.trans h2, x2.trans y1.symm⟩
          · by_cases ec : c = h
            · subst ec
              obtain ⟨y1, y2⟩ := (root_rep (h := c) (t := t) (T := r) (a := some k)).1 (Or.inr hrl)
              obtain ⟨x1, x2⟩ := z4 y2 e2
              exact ⟨x1.trans h2, x2.trans y1.symm⟩
            · obtain ⟨y1, q, y2, y3⟩ := (root_rep (h := h) (t := t) (T := r) (a := some k)).2 c hrl ec
              obtain ⟨x1, x2⟩ := z2 (by rw [y3]; exact fun w => hkr q y2 (Option.some.inj w))
              exact ⟨x1.trans h2, x2.trans (h3.trans (hrl.trans y1.symm))⟩
        refine ⟨z1.trans h1, hright.1, hright.2, ShP_cong (fun j hj => ?_) h4, rep_shape b2 (fun b q => by cases q; exact fun w => hkr k w rfl) h5 (fun j hj hn => ?_) ht⟩
        · have hjk := b3 j hj
          obtain ⟨x1, x2, -, -⟩ := hk j ((keys_in ..).mpr (Or.inl hj)) (fun q => by have := b4 j (subT_sub q); omega)
          obtain ⟨x3, x4⟩ := x2 (fun q => by rcases hpl j q with w | w; (· omega); (· have := b4 j w; omega))
          exact ⟨x1, x3, x4⟩
        · exact hk j ((keys_in ..).mpr (Or.inr (Or.inr hj))) hn
