/-! ONE GOES, with somebody on both sides -/
theorem rep_mem {h j : Nat} {t T : Tr} (hj : j ∈ keysT (rep h t T)) : j ∈ kl h T ∨ j ∈ keysT t ∨ j ∈ kr h T := by
  rw [keys_rep, List.mem_append, List.mem_append] at hj
  rcases hj with (q | q) | q
  · exact Or.inl q
  · exact Or.inr (Or.inl q)
  · exact Or.inr (Or.inr q)
theorem delB1 {g : Nat → Nd} {L s : Nat} {v : Unit} {l r T : Tr} (hb : bst T) (hs : ShP g none T) (hc : ShC g T) (e : subT L T = .inner s L v l r) (hr : r ≠ .leaf) : ∃ rr, (g (mnk r)).1 = parF (mnk r) none T ∧ (g (mnk r)).2.1 = none ∧ (g (mnk r)).2.2.1 = root rr ∧ mnk r ∈ keysT T ∧ ShP (sbG (addG (-1) (anc (mnk r) T).reverse g) (parF (mnk r) none T) (mnk r) (root rr)) none (rep (mnk r) rr T) ∧ ShC (sbG (addG (-1) (anc (mnk r) T).reverse g) (parF (mnk r) none T) (mnk r) (root rr)) (rep (mnk r) rr T) ∧ bst (rep (mnk r) rr T) ∧ subT L (rep (mnk r) rr T) = nd_ l L (dmn r) ∧ (∀ j, j ∈ keysT (rep (mnk r) rr T) → j ∈ keysT T ∧ j ≠ mnk r) ∧ rep L (nd_ l (mnk r) (dmn r)) (rep (mnk r) rr T) = rep L (nd_ l (mnk r) (dmn r)) T ∧ root (rep (mnk r) rr T) = sbT (root T) (parF (mnk r) none T) (root rr) ∧ siz (dmn r) + 1 = siz r := by
  have hbs := sub_bst (c := L) hb
  rw [e] at hbs
  obtain ⟨b1, b2, b3, b4⟩ := bst_in.mp hbs
  obtain ⟨s3, v3, rr, e1, e2, e3⟩ := mn_sub b2 hr
  have hmr : mnk r ∈ keysT r := by rw [e3]; exact List.mem_cons_self
  have hms : mnk r ∈ keysT (subT L T) := by rw [e, keys_in]; exact Or.inr (Or.inr hmr)
  have hmL := b4 _ hmr
  have hmT : mnk r ∈ keysT T := subT_sub hms
  have esub : subT (mnk r) T = .inner s3 (mnk r) v3 .leaf rr := by
    rw [(anc_sub hb hms).2, e, sub_r hmL]; exact e1
  have h1 := ShP_sub (h := mnk r) hs
  have h2 := ShC_sub (h := mnk r) hc
  have h3 := sub_bst (c := mnk r) hb
  rw [esub] at h1 h2 h3
  obtain ⟨p1, p2, p3, p4, p5⟩ := h1
  obtain ⟨q1, q2, q3⟩ := h2
  obtain ⟨-, bb2, -, bb4⟩ := bst_in.mp h3
  have hsub : ∀ j ∈ keysT rr, j ∈ keysT (subT (mnk r) T) := fun j hj => by rw [esub, keys_in]; exact Or.inr (Or.inr hj)
  have hz : siz rr + 1 = siz (subT (mnk r) T) := by rw [esub]; simp [siz]
  obtain ⟨d1, d2⟩ := delG hb hs hc bb2 p5 q3 hsub hz
  obtain ⟨k1, k2⟩ := kl_sub (h := mnk r) hb
  have hbr : bst (rep (mnk r) rr T) := bst_rep hb bb2 (fun a ha b hb => k1 a ha b (hsub b hb)) (fun a ha b hb => k2 a (hsub a ha) b hb)
  have hin := rep_in (X := rr) hb hms
  have hnode : rep (mnk r) rr (subT L T) = nd_ l L (dmn r) := by
    rw [e]
    have z1 : ¬ mnk r = L := by omega
    have z2 : ¬ mnk r < L := by omega
    simp only [rep, if_neg z1, if_neg z2]
    rw [e2]
  rw [hnode] at hin
  refine ⟨rr, p1, p2, p3, hmT, d1, d2, hbr, ?_, fun j hj => ?_, ?_, sbT_root.symm, ?_⟩
  · rw [hin, sub_rep]; exact sub_s
  · rcases rep_mem hj with q | q | q
    · refine ⟨((out_iff hb).mpr (Or.inl q)).1, fun z => ?_⟩
      have := kl_lt hb j q; omega
    · exact ⟨subT_sub (hsub j q), fun z => by have := bb4 j q; omega⟩
    · refine ⟨((out_iff hb).mpr (Or.inr q)).1, fun z => ?_⟩
      have := kr_gt hb j q; omega
  · rw [hin, rep_rep]
    congr 1
    simp [rep]
  · rw [← keys_len, ← keys_len, e3]; rfl
theorem delB2 {gB g3 : Nat → Nd} {L m s : Nat} {v : Unit} {l r1 T1 : Tr} (hb : bst T1) (hs : ShP gB none T1) (hc : ShC gB T1) (e : subT L T1 = .inner s L v l r1) (hl : l ≠ .leaf) (hm : m ∉ keysT T1) (hLm : L < m) (hmr : ∀ j ∈ keysT r1, m < j) (h3 : ∀ k, k ≠ m → g3 k = gB k) (h3l : (g3 m).2.1 = none) (h3r : (g3 m).2.2.1 = none) (h3c : (g3 m).2.2.2 = nI (siz l + siz r1 + 1)) :
    (sbG g3 (parF L none T1) L (some m) L).2.1 = root l ∧ (hoG (sbG g3 (parF L none T1) L (some m)) (root l) m L).2.2.1 = root r1 ∧ ShP (hoG (hoG (sbG g3 (parF L none T1) L (some m)) (root l) m) (root r1) m) none (rep L (nd_ l m r1) T1) ∧ ShC (hoG (hoG (sbG g3 (parF L none T1) L (some m)) (root l) m) (root r1) m) (rep L (nd_ l m r1) T1) ∧ sbT (root T1) (parF L none T1) (some m) = root (rep L (nd_ l m r1) T1) := by
  have hbs := sub_bst (c := L) hb
  have hs1 := ShP_sub (h := L) hs
  have hc1 := ShC_sub (h := L) hc
  rw [e] at hbs hs1 hc1
  obtain ⟨b1, b2, b3, b4⟩ := bst_in.mp hbs
  obtain ⟨p1, p2, p3, p4, p5⟩ := hs1
  obtain ⟨c1, c2, c3⟩ := hc1
  obtain ⟨k1, k2⟩ := kl_sub (h := L) hb
  rw [e] at k1 k2
  have inl : ∀ j ∈ keysT l, j ∈ keysT (.inner s L v l r1 : Tr) := fun j hj => (keys_in ..).mpr (Or.inl hj)
  have inr : ∀ j ∈ keysT r1, j ∈ keysT (.inner s L v l r1 : Tr) := fun j hj => (keys_in ..).mpr (Or.inr (Or.inr hj))
  have inL : L ∈ keysT (.inner s L v l r1 : Tr) := (keys_in ..).mpr (Or.inr (Or.inl rfl))
  have toT : ∀ j ∈ keysT (.inner s L v l r1 : Tr), j ∈ keysT T1 := fun j hj => subT_sub (h := L) (by rw [e]; exact hj)
  have hLm' : ¬ L = m := by omega
  have hmL' : ¬ m = L := by omega
  obtain ⟨cl, hcl⟩ : ∃ cl, root l = some cl := by
    cases l with
    | leaf => exact absurd rfl hl
    | inner s2 kk2 v2 l2 r2 => exact ⟨kk2, rfl⟩
  have hclm := root_in hcl
  have hclL := b3 cl hclm
  have hp : ∀ j ∈ keysT (.inner s L v l r1 : Tr), ¬ parF L none T1 = some j := fun j hj q => by
    rcases parF_out q with w | w
    · have := k1 j w j hj; omega
    · have := k2 j hj j w; omega
  have hpm : ¬ parF L none T1 = some m := fun q => hm (parF_mem q)
  have hpcl := hp cl (inl cl hclm)
  have hpL := hp L inL
  have e1 : (sbG g3 (parF L none T1) L (some m) L).2.1 = root l := by
    rw [sbG_at]
    simp only [hpL, false_and, if_false]
    rw [h3 L hLm', p2]
  -- the soldiers, each, behind all
  have hE : ∀ k, (hoG (hoG (sbG g3 (parF L none T1) L (some m)) (root l) m) (root r1) m k).1 = (if root r1 = some k then some m else if root l = some k then some m else if m = k then parF L none T1 else (g3 k).1) ∧
      (hoG (hoG (sbG g3 (parF L none T1) L (some m)) (root l) m) (root r1) m k).2.1 = (if m = k then root l else if parF L none T1 = some k ∧ L < k then some m else (g3 k).2.1) ∧
      (hoG (hoG (sbG g3 (parF L none T1) L (some m)) (root l) m) (root r1) m k).2.2.1 = (if m = k then root r1 else if parF L none T1 = some k ∧ ¬ L < k then some m else (g3 k).2.2.1) ∧
      (hoG (hoG (sbG g3 (parF L none T1) L (some m)) (root l) m) (root r1) m k).2.2.2 = (g3 k).2.2.2 := by
    intro k
    have hclm2 : cl < m := by omega
    rw [hcl]
    rcases hrr : root r1 with _ | cr
    · show (hoG (sbG g3 (parF L none T1) L (some m)) (some cl) m k).1 = _ ∧ (hoG (sbG g3 (parF L none T1) L (some m)) (some cl) m k).2.1 = _ ∧ (hoG (sbG g3 (parF L none T1) L (some m)) (some cl) m k).2.2.1 = _ ∧ (hoG (sbG g3 (parF L none T1) L (some m)) (some cl) m k).2.2.2 = _
      rw [hoG_eq, sbG_at, sbG_at]
      by_cases hmk : m = k
      · subst hmk
        have z1 : ¬ cl = m := by omega
        simp [z1, hpm, hclm2, h3r]
      · simp [hmk]
    · have hcr := hmr cr (root_in hrr)
      rw [hoG_eq, hoG_eq, sbG_at, sbG_at, sbG_at]
      by_cases hmk : m = k
      · subst hmk
        have z1 : ¬ cl = m := by omega
        have z2 : ¬ cr = m := by omega
        have z3 : ¬ cr < m := by omega
        simp [z1, z2, z3, hpm, hclm2, h3r]
      · simp [hmk]
  refine ⟨e1, ?_, ?_, ?_, sbT_root (t := nd_ l m r1)⟩
  · rw [hcl, hoG_eq, sbG_at, sbG_at]
    simp only [Option.some.injEq, hmL', hpL, false_and, if_false]
    rw [h3 L hLm', p3]
  · refine rep_shape hb (fun b q => by cases q) hs (fun k hk hn => ?_) ?_
    · have hkm : ¬ m = k := fun q => hm (q ▸ hk)
      obtain ⟨f1, f2, f3, -⟩ := hE k
      have hkl : ¬ root l = some k := fun q => hn (by rw [e]; exact inl k (root_in q))
      have hkr : ¬ root r1 = some k := fun q => hn (by rw [e]; exact inr k (root_in q))
      rw [f1, f2, f3, if_neg hkr, if_neg hkl, if_neg hkm, if_neg hkm, if_neg hkm, h3 k (fun q => hkm q.symm)]
      refine ⟨rfl, fun hq => ?_, fun hq hlt => ?_, fun hq hlt => ?_⟩
      · rw [if_neg (fun q => hq q.1), if_neg (fun q => hq q.1)]; exact ⟨rfl, rfl⟩
      · rw [if_pos ⟨hq, hlt⟩, if_neg (fun q => q.2 hlt)]; exact ⟨rfl, rfl⟩
      · rw [if_neg (fun q => hlt q.2), if_pos ⟨hq, hlt⟩]; exact ⟨rfl, rfl⟩
    · obtain ⟨f1, f2, f3, -⟩ := hE m
      have zm1 : ¬ root r1 = some m := fun q => hm (toT m (inr m (root_in q)))
      have zm2 : ¬ root l = some m := fun q => hm (toT m (inl m (root_in q)))
      refine ⟨?_, ?_, ?_, ShP_under b1 (fun k hk => ?_) p4, ShP_under b2 (fun k hk => ?_) p5⟩
      · rw [f1, if_neg zm1, if_neg zm2, if_pos rfl]
      · rw [f2, if_pos rfl]
      · rw [f3, if_pos rfl]
      · have hkm : ¬ m = k := fun q => hm (q ▸ toT k (inl k hk))
        obtain ⟨f1, f2, f3, -⟩ := hE k
        have zr : ¬ root r1 = some k := fun q => by have := b3 k hk; have := b4 k (root_in q); omega
        have zp := hp k (inl k hk)
        have x1 : ¬ (parF L none T1 = some k ∧ L < k) := fun q => zp q.1
        have x2 : ¬ (parF L none T1 = some k ∧ ¬ L < k) := fun q => zp q.1
        rw [f1, f2, f3, if_neg zr, if_neg hkm, if_neg hkm, if_neg hkm, if_neg x1, if_neg x2, h3 k (fun q => hkm q.symm)]
        exact ⟨fun q => by rw [if_neg q], fun q => by rw [if_pos q], rfl, rfl⟩
      · have hkm : ¬ m = k := fun q => hm (q ▸ toT k (inr k hk))
        obtain ⟨f1, f2, f3, -⟩ := hE k
        have zl : ¬ root l = some k := fun q => by have := b4 k hk; have := b3 k (root_in q); omega
        have zp := hp k (inr k hk)
        have x1 : ¬ (parF L none T1 = some k ∧ L < k) := fun q => zp q.1
        have x2 : ¬ (parF L none T1 = some k ∧ ¬ L < k) := fun q => zp q.1
        rw [f1, f2, f3, if_neg zl, if_neg hkm, if_neg hkm, if_neg hkm, if_neg x1, if_neg x2, h3 k (fun q => hkm q.symm)]
        exact ⟨fun q => by rw [if_neg q], fun q => by rw [if_pos q], rfl, rfl⟩
  · refine (rep_co (d := 0) hb hc (fun k hk hn => ?_) ?_ ?_).1
    · have hkm : ¬ m = k := fun q => hm (q ▸ hk)
      rw [(hE k).2.2.2, h3 k (fun q => hkm q.symm)]
      split <;> exact (Int32.add_zero _).symm
    · refine ⟨?_, ShC_cong (fun k hk => ?_) c2, ShC_cong (fun k hk => ?_) c3⟩
      · rw [(hE m).2.2.2]; exact h3c
      · rw [(hE k).2.2.2, h3 k (fun q => hm (q ▸ toT k (inl k hk)))]
      · rw [(hE k).2.2.2, h3 k (fun q => hm (q ▸ toT k (inr k hk)))]
    · rw [e]; exact (Int32.add_zero _).symm
