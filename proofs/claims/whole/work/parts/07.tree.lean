/-! TREES OF KEYS: the mathematical value of both sides -/
abbrev Tr : Type := Std.DTreeMap.Internal.Impl Nat (fun _ => Unit)
abbrev lf_ : Tr := Std.DTreeMap.Internal.Impl.leaf
abbrev nd_ (l : Tr) (k : Nat) (r : Tr) : Tr := Std.DTreeMap.Internal.Impl.inner 0 k () l r
def keysT : Tr → List Nat
  | .leaf => []
  | .inner _ k _ l r => keysT l ++ k :: keysT r
def root : Tr → Option Nat
  | .leaf => none
  | .inner _ k _ _ _ => some k
def siz : Tr → Nat
  | .leaf => 0
  | .inner _ _ _ l r => siz l + siz r + 1
def hgt : Tr → Nat
  | .leaf => 0
  | .inner _ _ _ l r => max (hgt l) (hgt r) + 1
/-- the part below the place of h: with h at its top, or empty -/
def subT (h : Nat) : Tr → Tr
  | .leaf => .leaf
  | .inner s k v l r => if h = k then .inner s k v l r else if h < k then subT h l else subT h r
/-- t hung into the place of h -/
def rep (h : Nat) (t : Tr) : Tr → Tr
  | .leaf => t
  | .inner _ k _ l r => if h = k then t else if h < k then nd_ (rep h t l) k r else nd_ l k (rep h t r)
/-- who stands above the place of h, from the top -/
def anc (h : Nat) : Tr → List Nat
  | .leaf => []
  | .inner _ k _ l r => if h = k then [] else k :: (if h < k then anc h l else anc h r)
def parF (h : Nat) : Option Nat → Tr → Option Nat
  | a, .leaf => a
  | a, .inner _ k _ l r => if h = k then a else if h < k then parF h (some k) l else parF h (some k) r
def cntLt (h : Nat) : Tr → Nat
  | .leaf => 0
  | .inner _ k _ l r => if h = k then siz l else if h < k then cntLt h l else siz l + 1 + cntLt h r
def bst (T : Tr) : Prop := (keysT T).Pairwise (· < ·)
/-- the soldiers' references, as the tree has them -/
def ShP (g : Nat → Nd) : Option Nat → Tr → Prop
  | _, .leaf => True
  | a, .inner _ k _ l r => (g k).1 = a ∧ (g k).2.1 = root l ∧ (g k).2.2.1 = root r ∧ ShP g (some k) l ∧ ShP g (some k) r
/-- the soldiers' companies, as the tree has them -/
def ShC (g : Nat → Nd) : Tr → Prop
  | .leaf => True
  | .inner _ k _ l r => (g k).2.2.2 = nI (siz l + siz r + 1) ∧ ShC g l ∧ ShC g r
/-- the way up -/
def UpC (g : Nat → Nd) : Option Nat → List Nat → Prop
  | p, [] => p = none
  | p, k :: ks => p = some k ∧ UpC g (g k).1 ks
def coOf (g : Nat → Nd) (o : Option Nat) : Int32 := match o with
  | none => 0
  | some k => (g k).2.2.2
theorem keys_in (s k : Nat) (v : Unit) (l r : Tr) (j : Nat) : j ∈ keysT (.inner s k v l r) ↔ j ∈ keysT l ∨ j = k ∨ j ∈ keysT r := by simp [keysT]
theorem keys_len (T : Tr) : (keysT T).length = siz T := by
  induction T with
  | leaf => rfl
  | inner s k v l r ihl ihr => simp [keysT, siz, ihl, ihr]; omega
theorem bst_in {s k : Nat} {v : Unit} {l r : Tr} : bst (.inner s k v l r) ↔ bst l ∧ bst r ∧ (∀ j ∈ keysT l, j < k) ∧ ∀ j ∈ keysT r, k < j := by
  simp only [bst, keysT, List.pairwise_append, List.pairwise_cons, List.mem_cons]
  constructor
  · rintro ⟨h1, ⟨h2, h3⟩, h4⟩
    exact ⟨h1, h3, fun j hj => h4 j hj k (Or.inl rfl), h2⟩
  · rintro ⟨h1, h2, h3, h4⟩
    refine ⟨h1, ⟨h4, h2⟩, fun a ha b hb => ?_⟩
    rcases hb with rfl | hb
    · exact h3 a ha
    · exact Nat.lt_trans (h3 a ha) (h4 b hb)
theorem root_in {T : Tr} {k : Nat} (h : root T = some k) : k ∈ keysT T := by
  cases T with
  | leaf => cases h
  | inner s j v l r => cases h; simp [keysT]
theorem subT_root {h : Nat} {T : Tr} : root (subT h T) = none ∨ root (subT h T) = some h := by
  induction T with
  | leaf => exact Or.inl rfl
  | inner s k v l r ihl ihr =>
    simp only [subT]
    split
    · rename_i e; subst e; exact Or.inr rfl
    · split
      · exact ihl
      · exact ihr
theorem subT_mem {h : Nat} {T : Tr} (hb : bst T) : root (subT h T) = some h ↔ h ∈ keysT T := by
  induction T with
  | leaf => simp [subT, root, keysT]
  | inner s k v l r ihl ihr =>
    obtain ⟨b1, b2, b3, b4⟩ := bst_in.mp hb
    rw [keys_in]
    simp only [subT]
    split
    · rename_i e; subst e; simp [root]
    · rename_i e
      split
      · rename_i e2
        rw [ihl b1]
        constructor
        · exact Or.inl
        · rintro (q | q | q)
          · exact q
          · exact absurd q e
          · have := b4 h q; omega
      · rename_i e2
        rw [ihr b2]
        constructor
        · exact fun q => Or.inr (Or.inr q)
        · rintro (q | q | q)
          · have := b3 h q; omega
          · exact absurd q e
          · exact q
theorem subT_sub {h j : Nat} {T : Tr} (hj : j ∈ keysT (subT h T)) : j ∈ keysT T := by
  induction T with
  | leaf => exact hj
  | inner s k v l r ihl ihr =>
    rw [keys_in]
    simp only [subT] at hj
    split at hj
    · rw [keys_in] at hj; exact hj
    · split at hj
      · exact Or.inl (ihl hj)
      · exact Or.inr (Or.inr (ihr hj))
theorem ShP_sub {g : Nat → Nd} {h : Nat} : ∀ {T : Tr} {a : Option Nat}, ShP g a T → ShP g (parF h a T) (subT h T)
  | .leaf, _, _ => trivial
  | .inner s k v l r, a, hs => by
    simp only [subT, parF]
    split
    · exact hs
    · obtain ⟨-, -, -, h4, h5⟩ := hs
      split
      · exact ShP_sub h4
      · exact ShP_sub h5
theorem ShC_sub {g : Nat → Nd} {h : Nat} {T : Tr} (hs : ShC g T) : ShC g (subT h T) := by
  induction T with
  | leaf => trivial
  | inner s k v l r ihl ihr =>
    simp only [subT]
    split
    · exact hs
    · split
      · exact ihl hs.2.1
      · exact ihr hs.2.2
theorem co_root {g : Nat → Nd} {T : Tr} (h : ShC g T) : coOf g (root T) = nI (siz T) := by
  cases T with
  | leaf => rfl
  | inner s k v l r => exact h.1
/-- the way up from the place of h -/
theorem UpC_anc {g : Nat → Nd} {h : Nat} : ∀ {T : Tr} {a : Option Nat} {up : List Nat}, ShP g a T → UpC g a up → UpC g (parF h a T) ((anc h T).reverse ++ up)
  | .leaf, _, _, _, hu => by simpa [anc, parF] using hu
  | .inner s k v l r, a, up, hs, hu => by
    obtain ⟨h1, -, -, h4, h5⟩ := hs
    have hk : UpC g (some k) (k :: up) := ⟨rfl, by rw [h1]; exact hu⟩
    simp only [parF, anc]
    split
    · simpa using hu
    · split
      · simpa using UpC_anc (h := h) h4 hk
      · simpa using UpC_anc (h := h) h5 hk
theorem anc_in {h j : Nat} {T : Tr} (hj : j ∈ anc h T) : j ∈ keysT T := by
  induction T with
  | leaf => cases hj
  | inner s k v l r ihl ihr =>
    rw [keys_in]
    simp only [anc] at hj
    split at hj
    · cases hj
    · rcases List.mem_cons.mp hj with q | q
      · exact Or.inr (Or.inl q)
      · split at q
        · exact Or.inl (ihl q)
        · exact Or.inr (Or.inr (ihr q))
theorem anc_len {h : Nat} {T : Tr} : (anc h T).length ≤ siz T := by
  induction T with
  | leaf => exact Nat.le_refl _
  | inner s k v l r ihl ihr =>
    simp only [anc, siz]
    split
    · simp
    · split <;> simp <;> omega
theorem UpC_top {g : Nat → Nd} {h : Nat} {T : Tr} (hs : ShP g none T) : UpC g (parF h none T) (anc h T).reverse := by
  have := UpC_anc (h := h) (up := []) hs rfl
  simpa using this
/-- who stands above one who is there -/
theorem above_eq {g : Nat → Nd} {h : Nat} {T : Tr} {a : Option Nat} (hs : ShP g a T) (hr : root (subT h T) = some h) : (g h).1 = parF h a T := by
  have h1 := ShP_sub (h := h) hs
  cases e : subT h T with
  | leaf => rw [e] at hr; cases hr
  | inner s k v l r =>
    rw [e] at hr h1
    cases hr
    exact h1.1
