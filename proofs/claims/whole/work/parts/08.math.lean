/-! WHAT IS TOLD OF A TREE -/
def crk (a b : Nat) : Bool := decide (2 * (a + 1 + b) < 3 * a) || decide (2 * (a + 1 + b) < 3 * b)
def b2i (b : Bool) : Int32 := if b then nI 1 else nI 0
def ckn : Tr → Nat
  | .leaf => 0
  | .inner _ _ _ l r => (if crk (siz l) (siz r) then 1 else 0) + ckn l + ckn r
def crT (T : Tr) (k : Nat) : Bool := match subT k T with
  | .leaf => false
  | .inner _ _ _ l r => crk (siz l) (siz r)
def mxl (f : Nat → Nat) (xs : List Nat) (d : Nat) : Nat := xs.foldl (fun m j => max m (f j)) d
theorem mxl_cong {f g : Nat → Nat} {xs : List Nat} (h : ∀ j ∈ xs, f j = g j) (d : Nat) : mxl f xs d = mxl g xs d := by
  induction xs generalizing d with
  | nil => rfl
  | cons a xs ih =>
    show mxl f xs (max d (f a)) = mxl g xs (max d (g a))
    rw [h a List.mem_cons_self]
    exact ih (fun j hj => h j (List.mem_cons_of_mem _ hj)) _
theorem mxl_app (f : Nat → Nat) (xs ys : List Nat) (d : Nat) : mxl f (xs ++ ys) d = mxl f ys (mxl f xs d) := by simp [mxl, List.foldl_append]
theorem mxl_cons (f : Nat → Nat) (a : Nat) (xs : List Nat) (d : Nat) : mxl f (a :: xs) d = mxl f xs (max d (f a)) := rfl
theorem anc_l {s k j : Nat} {v : Unit} {l r : Tr} (h : j < k) : anc j (.inner s k v l r) = k :: anc j l := by
  have : ¬ j = k := by omega
  simp [anc, h, this]
theorem anc_r {s k j : Nat} {v : Unit} {l r : Tr} (h : k < j) : anc j (.inner s k v l r) = k :: anc j r := by
  have h1 : ¬ j = k := by omega
  have h2 : ¬ j < k := by omega
  simp [anc, h1, h2]
theorem sub_l {s k j : Nat} {v : Unit} {l r : Tr} (h : j < k) : subT j (.inner s k v l r) = subT j l := by
  have : ¬ j = k := by omega
  simp [subT, h, this]
theorem sub_r {s k j : Nat} {v : Unit} {l r : Tr} (h : k < j) : subT j (.inner s k v l r) = subT j r := by
  have h1 : ¬ j = k := by omega
  have h2 : ¬ j < k := by omega
  simp [subT, h1, h2]
theorem sub_s {s k : Nat} {v : Unit} {l r : Tr} : subT k (.inner s k v l r) = .inner s k v l r := by simp [subT]
theorem hgt_mxl {T : Tr} (hb : bst T) (c d : Nat) : mxl (fun j => (anc j T).length + c) (keysT T) d = if siz T = 0 then d else max d (hgt T - 1 + c) := by
  induction T generalizing c d with
  | leaf => rfl
  | inner s k v l r ihl ihr =>
    obtain ⟨b1, b2, b3, b4⟩ := bst_in.mp hb
    have e1 : ∀ d, mxl (fun j => (anc j (.inner s k v l r : Tr)).length + c) (keysT l) d = mxl (fun j => (anc j l).length + (c + 1)) (keysT l) d := fun d => mxl_cong (fun j hj => by rw [anc_l (b3 j hj), List.length_cons]; omega) d
    have e2 : ∀ d, mxl (fun j => (anc j (.inner s k v l r : Tr)).length + c) (keysT r) d = mxl (fun j => (anc j r).length + (c + 1)) (keysT r) d := fun d => mxl_cong (fun j hj => by rw [anc_r (b4 j hj), List.length_cons]; omega) d
    have e3 : (anc k (.inner s k v l r : Tr)).length + c = c := by simp [anc]
    have z : ∀ t : Tr, siz t = 0 ↔ hgt t = 0 := by
      intro t; cases t <;> simp [siz, hgt]
    have zl := z l
    have zr := z r
    rw [show keysT (.inner s k v l r : Tr) = keysT l ++ k :: keysT r from rfl, mxl_app, mxl_cons, e1, e2, ihl b1, ihr b2]
    rw [if_neg (show ¬ siz (.inner s k v l r : Tr) = 0 by simp [siz]), e3]
    simp only [hgt]
    split <;> split <;> omega
theorem ckn_count {T : Tr} (hb : bst T) : (keysT T).countP (crT T) = ckn T := by
  induction T with
  | leaf => rfl
  | inner s k v l r ihl ihr =>
    obtain ⟨b1, b2, b3, b4⟩ := bst_in.mp hb
    have e1 : (keysT l).countP (crT (.inner s k v l r)) = (keysT l).countP (crT l) := List.countP_congr (fun j hj => by simp only [crT, sub_l (b3 j hj)])
    have e2 : (keysT r).countP (crT (.inner s k v l r)) = (keysT r).countP (crT r) := List.countP_congr (fun j hj => by simp only [crT, sub_r (b4 j hj)])
    have e3 : crT (.inner s k v l r) k = crk (siz l) (siz r) := by simp only [crT, sub_s]
    rw [show keysT (.inner s k v l r : Tr) = keysT l ++ k :: keysT r from rfl, List.countP_append, List.countP_cons, e1, e2, e3, ihl b1, ihr b2]
    simp only [ckn]
    omega
/-- how many stand ahead of the part at h, by height -/
def ofs (h : Nat) : Tr → Nat
  | .leaf => 0
  | .inner _ k _ l r => if h = k then 0 else if h < k then ofs h l else siz l + 1 + ofs h r
def sizL : Tr → Nat
  | .leaf => 0
  | .inner _ _ _ l _ => siz l
theorem cnt_ofs (h : Nat) (T : Tr) : cntLt h T = ofs h T + sizL (subT h T) := by
  induction T with
  | leaf => rfl
  | inner s k v l r ihl ihr =>
    simp only [cntLt, ofs, subT]
    split
    · simp [sizL]
    · split
      · exact ihl
      · rw [ihr]; omega
theorem ofs_key {h : Nat} {T : Tr} {i : Nat} (hi : i < siz (subT h T)) : (keysT T)[ofs h T + i]? = (keysT (subT h T))[i]? := by
  induction T with
  | leaf => simp [subT, siz] at hi
  | inner s k v l r ihl ihr =>
    simp only [ofs, subT] at hi ⊢
    split
    · simp
    · rename_i e
      rw [if_neg e] at hi
      split
      · rename_i e2
        rw [if_pos e2] at hi
        have h1 := ihl hi
        have hb : ofs h l + i < (keysT l).length := by
          have h3 : i < (keysT (subT h l)).length := by rw [keys_len]; exact hi
          have h2 : (keysT (subT h l))[i]? = some (keysT (subT h l))[i] := List.getElem?_eq_getElem h3
          rw [h2] at h1
          exact (List.getElem?_eq_some_iff.mp h1).1
        rw [show keysT (.inner s k v l r : Tr) = keysT l ++ k :: keysT r from rfl, List.getElem?_append_left hb]
        exact h1
      · rename_i e2
        rw [if_neg e2] at hi
        have h1 := ihr hi
        rw [show keysT (.inner s k v l r : Tr) = keysT l ++ k :: keysT r from rfl, List.getElem?_append_right (by rw [keys_len]; omega), keys_len, show siz l + 1 + ofs h r + i - siz l = (ofs h r + i) + 1 by omega, List.getElem?_cons_succ]
        exact h1
theorem sub_at {c : Nat} {T : Tr} (hr : root (subT c T) = some c) : ∃ s v l r, subT c T = .inner s c v l r := by
  cases e : subT c T with
  | leaf => rw [e] at hr; cases hr
  | inner s k v l r => rw [e] at hr; cases hr; exact ⟨s, v, l, r, rfl⟩
theorem anc_sub {c j : Nat} {T : Tr} (hb : bst T) (hj : j ∈ keysT (subT c T)) : anc j T = anc c T ++ anc j (subT c T) ∧ subT j T = subT j (subT c T) := by
  induction T with
  | leaf => cases hj
  | inner s k v l r ihl ihr =>
    obtain ⟨b1, b2, b3, b4⟩ := bst_in.mp hb
    by_cases e : c = k
    · subst e; simp [subT, anc]
    · by_cases e2 : c < k
      · rw [sub_l e2] at hj ⊢
        have h1 := b3 j (subT_sub hj)
        rw [anc_l h1, anc_l e2, sub_l h1, (ihl b1 hj).1, (ihl b1 hj).2]
        exact ⟨rfl, rfl⟩
      · have e3 : k < c := by omega
        rw [sub_r e3] at hj ⊢
        have h1 := b4 j (subT_sub hj)
        rw [anc_r h1, anc_r e3, sub_r h1, (ihr b2 hj).1, (ihr b2 hj).2]
        exact ⟨rfl, rfl⟩
theorem sub_bst {c : Nat} {T : Tr} (hb : bst T) : bst (subT c T) := by
  induction T with
  | leaf => exact hb
  | inner s k v l r ihl ihr =>
    obtain ⟨b1, b2, -, -⟩ := bst_in.mp hb
    simp only [subT]
    split
    · exact hb
    · split
      · exact ihl b1
      · exact ihr b2
/-- the way from j up to the captain c of its company -/
theorem way_split {c j s : Nat} {v : Unit} {l r : Tr} (hb : bst (.inner s c v l r)) (hj : j ∈ keysT (.inner s c v l r)) (up : List Nat) : ∃ pre rest, j :: ((anc j (.inner s c v l r)).reverse ++ up) = pre ++ c :: rest ∧ pre.length = (anc j (.inner s c v l r)).length ∧ c ∉ pre := by
  obtain ⟨b1, b2, b3, b4⟩ := bst_in.mp hb
  by_cases e : j = c
  · subst e
    exact ⟨[], up, by simp [anc], by simp [anc], by simp⟩
  · rw [keys_in] at hj
    rcases hj with q | q | q
    · refine ⟨j :: (anc j l).reverse, up, ?_, ?_, ?_⟩
      · rw [anc_l (b3 j q)]; simp
      · rw [anc_l (b3 j q)]; simp
      · intro z
        rcases List.mem_cons.mp z with z | z
        · exact e z.symm
        · have := b3 c (anc_in (List.mem_reverse.mp z)); omega
    · exact absurd q e
    · refine ⟨j :: (anc j r).reverse, up, ?_, ?_, ?_⟩
      · rw [anc_r (b4 j q)]; simp
      · rw [anc_r (b4 j q)]; simp
      · intro z
        rcases List.mem_cons.mp z with z | z
        · exact e z.symm
        · have := b4 c (anc_in (List.mem_reverse.mp z)); omega
/-- the allowed depth and one -/
def lim (n : Nat) : Nat := ((List.range 14).find? (fun d => decide (n * 2 ^ d < 3 ^ d))).getD 14
def lim_ok (n : Nat) : Bool := decide (lim n ≤ 13) && decide (n * 2 ^ lim n < 3 ^ lim n) && (List.range (lim n)).all (fun d => decide (3 ^ d ≤ n * 2 ^ d))
theorem lim_all : (List.range 152).all lim_ok = true := by decide +kernel
theorem lim_spec {n : Nat} (h : n ≤ 151) : lim n ≤ 13 ∧ n * 2 ^ lim n < 3 ^ lim n ∧ ∀ d, d < lim n → 3 ^ d ≤ n * 2 ^ d := by
  have h1 := List.all_eq_true.mp lim_all n (List.mem_range.mpr (by omega))
  simp only [lim_ok, Bool.and_eq_true, decide_eq_true_eq, List.all_eq_true, List.mem_range] at h1
  exact ⟨h1.1.1, h1.1.2, h1.2⟩
/-- one less, where 0 is -1 -/
def pd (d : Nat) : Int32 := nI d + (-1)
theorem pd_0 : pd 0 = -1 := rfl
theorem pd_s (d : Nat) : pd (d + 1) = nI d := pk_m1 d
theorem pd_1 (d : Nat) : pd d + nI 1 = pd (d + 1) := by
  rw [pd_s]; unfold pd
  rw [Int32.add_assoc]
  exact Int32.add_zero _
theorem pd_lt {d : Nat} (h : d ≤ 30) : ¬ nI 30 ≤ pd d := by
  cases d with
  | zero => decide
  | succ d => rw [pd_s]; exact fun q => absurd ((nI_leI (by decide) (by omega)).mp q) (by omega)
