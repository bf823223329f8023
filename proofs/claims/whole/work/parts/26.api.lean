/-! THE CLASS's calls: what they answer, by the tree -/
def kx (x : Int32) : Nat := x.toNatClampNeg
theorem kx_nI {j : Nat} (h : j < 2 ^ 31) : kx (nI j) = j := nI_clamp h
theorem nodup_ix {α : Type} {l : List α} : l.Nodup ↔ ∀ i j, i < j → j < l.length → l[i]? ≠ l[j]? := by
  unfold List.Nodup
  rw [List.pairwise_iff_getElem]
  constructor
  · intro h i j hij hj e
    rw [List.getElem?_eq_getElem (by omega), List.getElem?_eq_getElem hj] at e
    exact h i j _ _ hij (Option.some.inj e)
  · intro h i j hi hj hij e
    exact h i j hij hj (by rw [List.getElem?_eq_getElem hi, List.getElem?_eq_getElem hj, e])
/-- fewer keys are named -/
theorem cw_mem {x ln : Nat} {cA : ClassId} {n : Int32} {tp : Option Nat} {mo dr ds : Int32} {li : Nat → Option Nat} {K : List Nat} {ad : Nat → Nat} {g : Nat → Nd} {q : Nat × va_E} : q ∈ cw x ln cA n tp mo dr ds li K ad g ↔ q ∈ cX x ln cA n tp mo dr ds li ad ∨ ∃ k ∈ K, q = (ad k, gF ad g k) := by
  unfold cw kp
  rw [List.mem_append, List.mem_map]
  constructor
  · rintro (h | ⟨k, h1, h2⟩)
    · exact Or.inl h
    · exact Or.inr ⟨k, h1, h2.symm⟩
  · rintro (h | ⟨k, h1, h2⟩)
    · exact Or.inl h
    · exact Or.inr ⟨k, h1, h2.symm⟩
theorem va_P.mem {D : va_G} {cl : List vw_C} {ws ws' : va_W} {H : Heap} (h : va_P D cl ws H) (hm : ∀ q ∈ ws', q ∈ ws) : va_P D cl ws' H := by
  intro k q hk
  obtain ⟨i, hi⟩ := List.getElem?_of_mem (hm q (List.mem_of_getElem? hk))
  exact h i q hi
/-- addresses that are apart, as a list without a pair -/
theorem va_D.nodup {A : Nat → Prop} {ws : va_W} : va_D A ws ↔ (ws.map (·.1)).Nodup ∧ ∀ q ∈ ws, A q.1 := by
  constructor
  · rintro ⟨h1, h2⟩
    refine ⟨?_, fun q hq => ?_⟩
    · rw [nodup_ix]
      intro i j hij hj
      rw [List.length_map] at hj
      intro e
      rw [List.getElem?_map, List.getElem?_map, List.getElem?_eq_getElem (by omega), List.getElem?_eq_getElem hj] at e
      have := h1 i j _ _ (List.getElem?_eq_getElem (by omega)) (List.getElem?_eq_getElem hj) (Option.some.inj e)
      omega
    · obtain ⟨i, hi⟩ := List.getElem?_of_mem hq
      exact h2 i q hi
  · rintro ⟨h1, h2⟩
    refine ⟨fun i j p q hi hj e => ?_, fun k q hk => h2 q (List.mem_of_getElem? hk)⟩
    rw [nodup_ix] at h1
    rcases Nat.lt_trichotomy i j with w | w | w
    · exact absurd (by rw [List.getElem?_map, List.getElem?_map, hi, hj]; exact congrArg some e) (h1 i j w (by rw [List.length_map]; exact (List.getElem?_eq_some_iff.mp hj).1))
    · exact w
    · exact absurd (by rw [List.getElem?_map, List.getElem?_map, hi, hj]; exact congrArg some e.symm) (h1 j i w (by rw [List.length_map]; exact (List.getElem?_eq_some_iff.mp hi).1))
theorem cw_sub {D : va_G} {A : Nat → Prop} {x ln : Nat} {cA : ClassId} {n : Int32} {tp : Option Nat} {mo dr ds : Int32} {li : Nat → Option Nat} {K K' : List Nat} {ad : Nat → Nat} {g : Nat → Nd} {H : Heap} (hP : va_P D vwCl (cw x ln cA n tp mo dr ds li K ad g) H) (hD : va_D A (cw x ln cA n tp mo dr ds li K ad g)) (hs : ∀ k ∈ K', k ∈ K) (hn : K'.Nodup) : va_P D vwCl (cw x ln cA n tp mo dr ds li K' ad g) H ∧ va_D A (cw x ln cA n tp mo dr ds li K' ad g) := by
  have hm : ∀ q ∈ cw x ln cA n tp mo dr ds li K' ad g, q ∈ cw x ln cA n tp mo dr ds li K ad g := by
    intro q hq
    rcases cw_mem.mp hq with h | ⟨k, h1, h2⟩
    · exact cw_mem.mpr (Or.inl h)
    · exact cw_mem.mpr (Or.inr ⟨k, hs k h1, h2⟩)
  refine ⟨hP.mem hm, va_D.nodup.mpr ⟨?_, fun q hq => (va_D.nodup.mp hD).2 q (hm q hq)⟩⟩
  have h1 := (va_D.nodup.mp hD).1
  have e1 : ∀ K'' : List Nat, (cw x ln cA n tp mo dr ds li K'' ad g).map (·.1) = [x, ln] ++ K''.map ad := by
    intro K''
    simp [cw, cX, kp]
  rw [e1, List.nodup_append] at h1 ⊢
  obtain ⟨a1, a2, a3⟩ := h1
  refine ⟨a1, ?_, fun a ha b hb => ?_⟩
  · have hinj : ∀ i ∈ K, ∀ j ∈ K, ad i = ad j → i = j := by
      intro i hi j hj e
      obtain ⟨p1, q1⟩ := List.getElem?_of_mem hi
      obtain ⟨p2, q2⟩ := List.getElem?_of_mem hj
      rw [nodup_ix] at a2
      have l1 := (List.getElem?_eq_some_iff.mp q1).1
      have l2 := (List.getElem?_eq_some_iff.mp q2).1
      rcases Nat.lt_trichotomy p1 p2 with w | w | w
      · exact absurd (by rw [List.getElem?_map, List.getElem?_map, q1, q2]; exact congrArg some e) (a2 p1 p2 w (by rw [List.length_map]; exact l2))
      · subst w; exact Option.some.inj (q1.symm.trans q2)
      · exact absurd (by rw [List.getElem?_map, List.getElem?_map, q1, q2]; exact congrArg some e.symm) (a2 p2 p1 w (by rw [List.length_map]; exact l1))
    refine List.pairwise_map.mpr (List.Pairwise.imp_of_mem (fun {a b} ha hb hab e => hab (hinj a (hs a ha) b (hs b hb) e)) hn)
  · obtain ⟨k, hk, rfl⟩ := List.mem_map.mp hb
    exact a3 a ha _ (List.mem_map.mpr ⟨k, hs k hk, rfl⟩)
/-- one more soldier, at a new address -/
theorem cw_push {x ln : Nat} {cA : ClassId} {n : Int32} {tp : Option Nat} {mo dr ds : Int32} {li : Nat → Option Nat} {K : List Nat} {ad : Nat → Nat} {g : Nat → Nd} {h q : Nat} (hh : h ∉ K) (hcl : Cl K g) (ht : ∀ k, tp = some k → k ∈ K) (hl : ∀ i k, li i = some k → k ∈ K) : cw x ln cA n tp mo dr ds li K ad g ++ [(q, .inr (0, [.int (nI h), .null, .null, .null, .int (nI 1)]))] = cw x ln cA n tp mo dr ds li (K ++ [h]) (va_up ad h q) (va_up g h (none, none, none, nI 1)) := by
  have e0 : ∀ k ∈ K, va_up ad h q k = ad k := fun k hk => va_up_ne _ _ (fun e => hh (e ▸ hk))
  have e1 : ∀ o : Option Nat, (∀ k, o = some k → k ∈ K) → o.map (va_up ad h q) = o.map ad := by
    intro o ho
    cases o with
    | none => rfl
    | some k => exact congrArg some (e0 k (ho k rfl))
  unfold cw kp
  rw [List.append_assoc, List.map_append]
  have e2 : cX x ln cA n tp mo dr ds li (va_up ad h q) = cX x ln cA n tp mo dr ds li ad := by
    have e3 : (fun i => (li i).map (va_up ad h q)) = (fun i => (li i).map ad) := funext fun i => e1 (li i) (hl i)
    unfold cX
    rw [e1 tp ht, e3]
  rw [e2]
  congr 2
  · refine List.map_congr_left (fun k hk => ?_)
    have hkh : k ≠ h := fun e => hh (e ▸ hk)
    obtain ⟨-, c1, c2, c3⟩ := hcl k hk
    rw [e0 k hk]
    unfold gF sF
    rw [va_up_ne _ _ hkh, e1 _ c1, e1 _ c2, e1 _ c3]
  · simp [gF, sF, va_up_self, va_rf]
def CWT (x ln : Nat) (cA : ClassId) (T : Tr) (mo dr ds : Int32) (ad : Nat → Nat) (g : Nat → Nd) : va_W := cw x ln cA (nI (siz T)) (root T) mo dr ds (fun i => (keysT T)[i]?) (keysT T) ad g
def lca (s l : Nat) : Tr → Option Nat
  | .leaf => none
  | .inner _ k _ lt rt => if l < k ∨ k < s then (if s < k then lca s l lt else lca s l rt) else some k
/-- crooked with one more of height h -/
def mvP (T : Tr) (h k : Nat) : Bool := match subT k T with
  | .leaf => false
  | .inner _ _ _ l r => if h < k then crk (siz l + 1) (siz r) else crk (siz l) (siz r + 1)
def movT (T : Tr) (h : Nat) : Option Nat := if h ∈ keysT T then none else if (anc h T).length + 1 ≤ lim (siz T + 1) then none else (anc h T).reverse.find? (mvP T h)
def insT (h : Nat) (T : Tr) : Tr := rep h (nd_ lf_ h lf_) T
def mcT (T : Tr) (h : Nat) : Option Nat := if (anc h T).length + 1 ≤ lim (siz T + 1) then none else (h :: (anc h T).reverse).find? (crT (insT h T))
def moM (mo n : Int32) : Int32 := if n ≤ mo then mo else n
/-- the state of both sides: the tree, the most, the drawings, the drawn -/
abbrev RS : Type := Tr × Int32 × Int32 × Int32
def drawS (c : Nat) (S : RS) : RS := (drawT c S.1, moD S.1 c S.2.1, S.2.2.1 + nI 1, S.2.2.2 + nI (siz (subT c S.1)))
def musS (h : Nat) (S : RS) : RS := match mcT S.1 h with
  | none => (insT h S.1, moM S.2.1 (nI (siz S.1 + 1)), S.2.2)
  | some c => drawS c (insT h S.1, moM S.2.1 (nI (siz S.1 + 1)), S.2.2)
def disB (h : Nat) (S : RS) : Bool := decide (siz (delT h S.1) ≠ 0) && decide (nI 3 * nI (siz (delT h S.1)) < nI 2 * S.2.1)
def disS (h : Nat) (S : RS) : RS := if siz (delT h S.1) = 0 then (delT h S.1, 0, S.2.2) else if nI 3 * nI (siz (delT h S.1)) < nI 2 * S.2.1 then drawS ((root (delT h S.1)).getD 0) (delT h S.1, S.2) else (delT h S.1, S.2)
/-- what holds of the state at every call -/
def okS (S : RS) : Prop := bst S.1 ∧ (∀ k ∈ keysT S.1, k < 1000) ∧ siz S.1 ≤ 150
theorem RepC.own {T : Tr} {g : Nat → Nd} {K : List Nat} (h : RepC T K g) : RepC T (keysT T) g := ⟨h.1, h.2.1, h.2.2.1, h.2.2.2.1, h.2.2.2.2.1, fun _ => Iff.rfl⟩
theorem bst_nodup {T : Tr} (h : bst T) : (keysT T).Nodup := List.Pairwise.imp (fun {a b} (w : a < b) (e : a = b) => by omega) h
