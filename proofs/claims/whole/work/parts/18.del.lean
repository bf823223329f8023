/-! THE TREE behind a discharge -/
def mnk : Tr → Nat
  | .leaf => 0
  | .inner _ k _ .leaf _ => k
  | .inner _ _ _ (.inner s2 k2 v2 l2 r2) _ => mnk (.inner s2 k2 v2 l2 r2)
def dmn : Tr → Tr
  | .leaf => .leaf
  | .inner _ _ _ .leaf r => r
  | .inner _ k _ (.inner s2 k2 v2 l2 r2) r => nd_ (dmn (.inner s2 k2 v2 l2 r2)) k r
def joinT : Tr → Tr → Tr
  | .leaf, r => r
  | .inner s k v l r, .leaf => .inner s k v l r
  | .inner s k v l r, .inner s2 k2 v2 l2 r2 => nd_ (.inner s k v l r) (mnk (.inner s2 k2 v2 l2 r2)) (dmn (.inner s2 k2 v2 l2 r2))
def delT (L : Nat) (T : Tr) : Tr := match subT L T with
  | .leaf => T
  | .inner _ _ _ l r => rep L (joinT l r) T
theorem sub_rep (h : Nat) (X T : Tr) : subT h (rep h X T) = subT h X := by
  induction T with
  | leaf => rfl
  | inner s k v l r ihl ihr =>
    simp only [rep]
    split
    · rfl
    · rename_i e
      split
      · rename_i e2; rw [sub_l e2]; exact ihl
      · rename_i e2; rw [sub_r (by omega)]; exact ihr
theorem rep_rep (h : Nat) (Y X T : Tr) : rep h Y (rep h X T) = rep h (rep h Y X) T := by
  induction T with
  | leaf => rfl
  | inner s k v l r ihl ihr =>
    by_cases e : h = k
    · simp [rep, e]
    · by_cases e2 : h < k
      · simp [rep, e, e2, ihl]
      · simp [rep, e, e2, ihr]
theorem anc_rep (h : Nat) (X T : Tr) : anc h (rep h X T) = anc h T ++ anc h X := by
  induction T with
  | leaf => rfl
  | inner s k v l r ihl ihr =>
    by_cases e : h = k
    · simp [rep, anc, e]
    · by_cases e2 : h < k
      · simp [rep, anc, e, e2, ihl]
      · simp [rep, anc, e, e2, ihr]
theorem parF_rep (h : Nat) (X : Tr) : ∀ (T : Tr) (a : Option Nat), parF h a (rep h X T) = parF h (parF h a T) X
  | .leaf, _ => rfl
  | .inner s k v l r, a => by
    by_cases e : h = k
    · simp [rep, parF, e]
    · by_cases e2 : h < k
      · simp [rep, parF, e, e2, parF_rep h X l]
      · simp [rep, parF, e, e2, parF_rep h X r]
theorem kl_rep (h : Nat) (X T : Tr) : kl h (rep h X T) = kl h T ++ kl h X ∧ kr h (rep h X T) = kr h X ++ kr h T := by
  induction T with
  | leaf => simp [rep, kl, kr]
  | inner s k v l r ihl ihr =>
    by_cases e : h = k
    · simp [rep, kl, kr, e]
    · by_cases e2 : h < k
      · simp [rep, kl, kr, e, e2, ihl.1, ihl.2]
      · simp [rep, kl, kr, e, e2, ihr.1, ihr.2]
/-- a place inside a part -/
theorem rep_in {c j : Nat} {X T : Tr} (hb : bst T) (hj : j ∈ keysT (subT c T)) : rep j X T = rep c (rep j X (subT c T)) T := by
  induction T with
  | leaf => cases hj
  | inner s k v l r ihl ihr =>
    obtain ⟨b1, b2, b3, b4⟩ := bst_in.mp hb
    by_cases e : c = k
    · subst e; rw [sub_s]; simp [rep]
    · by_cases e2 : c < k
      · rw [sub_l e2] at hj ⊢
        have h1 := b3 j (subT_sub hj)
        have h2 : ¬ j = k := by omega
        simp only [rep, if_neg h2, if_pos h1, if_neg e, if_pos e2]
        rw [ihl b1 hj]
      · have e3 : k < c := by omega
        rw [sub_r e3] at hj ⊢
        have h1 := b4 j (subT_sub hj)
        have h2 : ¬ j = k := by omega
        have h3 : ¬ j < k := by omega
        simp only [rep, if_neg h2, if_neg h3, if_neg e, if_neg e2]
        rw [ihr b2 hj]
theorem mn_sub {r : Tr} (hb : bst r) (hn : r ≠ .leaf) : ∃ s v rr, subT (mnk r) r = .inner s (mnk r) v .leaf rr ∧ rep (mnk r) rr r = dmn r ∧ keysT r = mnk r :: keysT (dmn r) := by
  induction r with
  | leaf => exact absurd rfl hn
  | inner s k v l r ihl ihr =>
    obtain ⟨b1, b2, b3, b4⟩ := bst_in.mp hb
    cases l with
    | leaf => exact ⟨s, v, r, sub_s, by simp [rep, mnk, dmn], rfl⟩
    | inner s2 k2 v2 l2 r2 =>
      obtain ⟨s3, v3, rr, e1, e2, e3⟩ := ihl b1 (by intro q; cases q)
      have hm : mnk (.inner s2 k2 v2 l2 r2) ∈ keysT (.inner s2 k2 v2 l2 r2 : Tr) := by rw [e3]; exact List.mem_cons_self
      have hlt := b3 _ hm
      refine ⟨s3, v3, rr, ?_, ?_, ?_⟩
      · show subT (mnk (.inner s2 k2 v2 l2 r2)) _ = _
        rw [sub_l hlt]; exact e1
      · show rep (mnk (.inner s2 k2 v2 l2 r2)) rr _ = nd_ (dmn (.inner s2 k2 v2 l2 r2)) k r
        have h2 : ¬ mnk (.inner s2 k2 v2 l2 r2) = k := by omega
        rw [rep, if_neg h2, if_pos hlt, e2]
      · show keysT (.inner s2 k2 v2 l2 r2 : Tr) ++ k :: keysT r = _
        rw [e3]; rfl
theorem keys_join {s L : Nat} {v : Unit} {l r : Tr} (hb : bst (.inner s L v l r)) : keysT (joinT l r) = keysT l ++ keysT r := by
  obtain ⟨b1, b2, b3, b4⟩ := bst_in.mp hb
  cases l with
  | leaf => rfl
  | inner s1 k1 v1 l1 r1 =>
    cases r with
    | leaf => simp [joinT, keysT]
    | inner s2 k2 v2 l2 r2 =>
      obtain ⟨s3, v3, rr, e1, e2, e3⟩ := mn_sub b2 (by intro q; cases q)
      show keysT (.inner s1 k1 v1 l1 r1 : Tr) ++ mnk (.inner s2 k2 v2 l2 r2) :: keysT (dmn (.inner s2 k2 v2 l2 r2)) = _
      rw [e3]
/-- the keys behind a discharge -/
theorem keys_del {L s : Nat} {v : Unit} {l r T : Tr} (hb : bst T) (e : subT L T = .inner s L v l r) : keysT T = (kl L T ++ keysT l) ++ L :: (keysT r ++ kr L T) ∧ keysT (delT L T) = (kl L T ++ keysT l) ++ (keysT r ++ kr L T) := by
  have h1 := keys_split L T
  have h2 := sub_bst (c := L) hb
  rw [e] at h1 h2
  refine ⟨by rw [h1]; simp [keysT], ?_⟩
  unfold delT
  rw [e]
  show keysT (rep L (joinT l r) T) = _
  rw [keys_rep, keys_join h2]
  simp
theorem del_bst {L s : Nat} {v : Unit} {l r T : Tr} (hb : bst T) (e : subT L T = .inner s L v l r) : bst (delT L T) ∧ siz (delT L T) + 1 = siz T ∧ (∀ j, j ∈ keysT (delT L T) ↔ j ∈ keysT T ∧ j ≠ L) := by
  obtain ⟨h1, h2⟩ := keys_del hb e
  have hp : (keysT T).Pairwise (· < ·) := hb
  refine ⟨?_, ?_, fun j => ?_⟩
  · show (keysT (delT L T)).Pairwise (· < ·)
    rw [h2]
    rw [h1] at hp
    exact hp.sublist (List.Sublist.append_left (List.sublist_cons_self _ _) _)
  · rw [← keys_len, ← keys_len, h1, h2]; simp; omega
  · rw [h1, List.pairwise_append] at hp
    obtain ⟨-, h4, h5⟩ := hp
    have h6 := (List.pairwise_cons.mp h4).1
    rw [h1, h2]
    generalize kl L T ++ keysT l = A at *
    generalize keysT r ++ kr L T = B at *
    simp only [List.mem_append, List.mem_cons]
    constructor
    · rintro (q | q)
      · exact ⟨Or.inl q, fun z => by have := h5 j q L List.mem_cons_self; omega⟩
      · exact ⟨Or.inr (Or.inr q), fun z => by have := h6 j q; omega⟩
    · rintro ⟨q | q | q, hne⟩
      · exact Or.inl q
      · exact absurd q hne
      · exact Or.inr q
/-- one goes, with somebody on one side at most -/
theorem delG {g : Nat → Nd} {L : Nat} {t T : Tr} {b : Option Nat} (hb : bst T) (hs : ShP g none T) (hc : ShC g T) (hbt : bst t) (ht : ShP g b t) (htc : ShC g t) (hk : ∀ j ∈ keysT t, j ∈ keysT (subT L T)) (hz : siz t + 1 = siz (subT L T)) : ShP (sbG (addG (-1) (anc L T).reverse g) (parF L none T) L (root t)) none (rep L t T) ∧ ShC (sbG (addG (-1) (anc L T).reverse g) (parF L none T) L (root t)) (rep L t T) := by
  have hn : (anc L T).reverse.Nodup := List.pairwise_reverse.mpr ((anc_nodup hb).imp (fun h => h.symm))
  obtain ⟨k1, k2⟩ := kl_sub (h := L) hb
  refine ⟨SB hb hbt hs (ShP_cong (fun k _ => addG_ptr hn) ht) (fun k _ _ => addG_ptr hn) (fun j hj => ⟨fun q => ?_, fun q => ?_⟩), ?_⟩
  · have := k1 j q j (hk j hj); omega
  · have := k2 j (hk j hj) j q; omega
  · refine (rep_co (d := -1) hb hc (fun k hk1 hk2 => ?_) (ShC_cong (fun k hk1 => ?_) htc) ?_).1
    · rw [sbG_co, addG_co hn]
      simp only [List.mem_reverse]
    · rw [sbG_co, addG_co hn, if_neg]
      · exact Int32.add_zero _
      · intro q
        rcases anc_out (List.mem_reverse.mp q) with z | z
        · have := k1 k z k (hk k hk1); omega
        · have := k2 k (hk k hk1) k z; omega
    · rw [← hz]; exact (pk_m1 _).symm
