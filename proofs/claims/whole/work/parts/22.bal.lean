/-! DRAWING UP by halves -/
def balF : Nat → List Nat → Tr
  | 0, _ => .leaf
  | d + 1, xs => match xs[(xs.length - 1) / 2]? with
    | none => .leaf
    | some k => nd_ (balF d (xs.take ((xs.length - 1) / 2))) k (balF d (xs.drop ((xs.length - 1) / 2 + 1)))
theorem half_lt {n d : Nat} (h : n < 2 ^ (d + 1)) (h0 : 0 < n) : (n - 1) / 2 < 2 ^ d ∧ n - ((n - 1) / 2 + 1) < 2 ^ d ∧ (n - 1) / 2 < n := by
  rw [Nat.pow_succ] at h
  omega
theorem balF_keys : ∀ (d : Nat) (xs : List Nat), xs.length < 2 ^ d → keysT (balF d xs) = xs
  | 0, xs, h => by
    have : xs = [] := List.length_eq_zero_iff.mp (by simpa using h)
    subst this; rfl
  | d + 1, xs, h => by
    rcases Nat.eq_zero_or_pos xs.length with h0 | h0
    · have : xs = [] := List.length_eq_zero_iff.mp h0
      subst this; rfl
    · obtain ⟨h1, h2, h3⟩ := half_lt h h0
      obtain ⟨k, hk⟩ : ∃ k, xs[(xs.length - 1) / 2]? = some k := ⟨_, List.getElem?_eq_getElem h3⟩
      rw [balF, hk]
      show keysT (balF d _) ++ k :: keysT (balF d _) = xs
      rw [balF_keys d _ (by rw [List.length_take]; omega), balF_keys d _ (by rw [List.length_drop]; exact h2)]
      have e := List.drop_eq_getElem_cons h3
      rw [List.getElem?_eq_getElem h3] at hk
      rw [Option.some.inj hk] at e
      rw [← e, List.take_append_drop]
theorem balF_some {d : Nat} {xs : List Nat} {k : Nat} (hk : xs[(xs.length - 1) / 2]? = some k) : balF (d + 1) xs = nd_ (balF d (xs.take ((xs.length - 1) / 2))) k (balF d (xs.drop ((xs.length - 1) / 2 + 1))) := by
  rw [balF, hk]
/-- what halving leaves of the soldiers -/
theorem halve_fin {g g0 g1 g3 : Nat → Nd} {q : Nat} {b1 b3 : Option Nat} {tl tr : Tr} (h0q : (g0 q).2.1 = none ∧ (g0 q).2.2.1 = none ∧ (g0 q).2.2.2 = nI (siz tl + siz tr + 1)) (h0 : ∀ k, k ≠ q → g0 k = g k) (h1 : ∀ k, k ∉ keysT tl → g1 k = g0 k) (s1 : ShP g1 b1 tl) (c1 : ShC g1 tl) (h3 : ∀ k, k ∉ keysT tr → g3 k = hoG g1 (root tl) q k) (s3 : ShP g3 b3 tr) (c3 : ShC g3 tr) (bl : bst tl) (br : bst tr) (hl : ∀ j ∈ keysT tl, j < q) (hr : ∀ j ∈ keysT tr, q < j) :
    (∀ k, k ≠ q → k ∉ keysT tl → k ∉ keysT tr → hoG g3 (root tr) q k = g k) ∧ (∃ b, ShP (hoG g3 (root tr) q) b (nd_ tl q tr)) ∧ ShC (hoG g3 (root tr) q) (nd_ tl q tr) := by
  have hq1 : q ∉ keysT tl := fun z => by have := hl q z; omega
  have hq3 : q ∉ keysT tr := fun z => by have := hr q z; omega
  have hlr : ∀ j, j ∈ keysT tl → j ∉ keysT tr := fun j z w => by have := hl j z; have := hr j w; omega
  -- behind the first handing over
  have e2 : ∀ k, hoG g1 (root tl) q k = (if root tl = some k then some q else (g1 k).1, if q = k then root tl else (g1 k).2.1, (g1 k).2.2.1, (g1 k).2.2.2) := by
    intro k
    rcases hrt : root tl with _ | c
    · show g1 k = _
      by_cases z : q = k
      · subst z
        rw [h1 q hq1, if_neg (by simp), if_pos rfl]
        show g0 q = ((g0 q).1, none, (g0 q).2.2.1, (g0 q).2.2.2)
        rw [← h0q.1]
      · simp [z]
    · have hc := hl c (root_in hrt)
      rw [hoG_eq, sbG_at]
      by_cases z : q = k
      · subst z; simp [hc]
      · simp [z]
  have e4 : ∀ k, hoG g3 (root tr) q k = (if root tr = some k then some q else (g3 k).1, (g3 k).2.1, if q = k then root tr else (g3 k).2.2.1, (g3 k).2.2.2) := by
    intro k
    rcases hrt : root tr with _ | c
    · show g3 k = _
      by_cases z : q = k
      · subst z
        have w : (g3 q).2.2.1 = none := by
          rw [h3 q hq3, e2 q]
          show (g1 q).2.2.1 = none
          rw [h1 q hq1]; exact h0q.2.1
        rw [if_neg (by simp), if_pos rfl]
        show g3 q = ((g3 q).1, (g3 q).2.1, none, (g3 q).2.2.2)
        rw [← w]
      · simp [z]
    · have hc := hr c (root_in hrt)
      have hc2 : ¬ c < q := by omega
      rw [hoG_eq, sbG_at]
      by_cases z : q = k
      · subst z; simp [hc2]
      · simp [z]
  refine ⟨fun k hk k1 k3 => ?_, ⟨(hoG g3 (root tr) q q).1, rfl, ?_, ?_, ?_, ?_⟩, ?_, ?_, ?_⟩
  · have z1 : ¬ root tl = some k := fun w => k1 (root_in w)
    have z3 : ¬ root tr = some k := fun w => k3 (root_in w)
    have zq : ¬ q = k := fun w => hk w.symm
    rw [e4 k, if_neg z3, if_neg zq, h3 k k3, e2 k, if_neg z1, if_neg zq, h1 k k1, h0 k hk]
  · rw [e4 q, h3 q hq3, e2 q]
    show (if q = q then root tl else _) = root tl
    rw [if_pos rfl]
  · rw [e4 q]
    show (if q = q then root tr else _) = root tr
    rw [if_pos rfl]
  · refine ShP_under (g := g1) bl (fun k hk => ?_) s1
    have z3 : ¬ root tr = some k := fun w => hlr k hk (root_in w)
    have zq : ¬ q = k := fun w => hq1 (w ▸ hk)
    rw [e4 k, if_neg z3, if_neg zq, h3 k (hlr k hk), e2 k, if_neg zq]
    exact ⟨fun w => if_neg w, fun w => if_pos w, rfl, rfl⟩
  · refine ShP_under (g := g3) br (fun k hk => ?_) s3
    have zq : ¬ q = k := fun w => hq3 (w ▸ hk)
    rw [e4 k, if_neg zq]
    exact ⟨fun w => if_neg w, fun w => if_pos w, rfl, rfl⟩
  · rw [e4 q]
    show (g3 q).2.2.2 = _
    rw [h3 q hq3, e2 q]
    show (g1 q).2.2.2 = _
    rw [h1 q hq1]; exact h0q.2.2
  · refine ShC_cong (g := g1) (fun k hk => ?_) c1
    rw [e4 k]
    show (g3 k).2.2.2 = _
    rw [h3 k (hlr k hk), e2 k]
  · refine ShC_cong (g := g3) (fun k hk => ?_) c3
    rw [e4 k]
