/-! THE WORLDS: the class's cells by keys (heights), the reference's cells -/
/-- a soldier: who stands above, to the left, to the right; the company as it is kept -/
abbrev Nd : Type := Option Nat × Option Nat × Option Nat × Int32
def sF (ad : Nat → Nat) (k : Nat) (d : Nd) : List Value := [.int (nI k), va_rf (d.1.map ad), va_rf (d.2.1.map ad), va_rf (d.2.2.1.map ad), .int d.2.2.2]
def kp (K : List Nat) (ad : Nat → Nat) (F : Nat → va_E) : va_W := K.map (fun k => (ad k, F k))
theorem kp_get {X : va_W} {K : List Nat} {ad : Nat → Nat} {F : Nat → va_E} {k : Nat} (h : k ∈ K) : ∃ i : Nat, (X ++ kp K ad F)[i]? = some (ad k, F k) := by
  apply List.getElem?_of_mem
  exact List.mem_append_right _ (List.mem_map.mpr ⟨k, h, rfl⟩)
theorem kp_set {A : Nat → Prop} {X : va_W} {K : List Nat} {ad : Nat → Nat} {F : Nat → va_E} {k i : Nat} {e : va_E} (hD : va_D A (X ++ kp K ad F)) (hk : k ∈ K) (hi : (X ++ kp K ad F)[i]? = some (ad k, F k)) : (X ++ kp K ad F).set i (ad k, e) = X ++ kp K ad (va_up F k e) := by
  have hl := (List.getElem?_eq_some_iff.mp hi).1
  obtain ⟨j, hj⟩ := List.getElem?_of_mem hk
  have hjX : ∀ (j' k' : Nat), K[j']? = some k' → (X ++ kp K ad F)[X.length + j']? = some (ad k', F k') := by
    intro j' k' h'
    rw [List.getElem?_append_right (by omega), Nat.add_sub_cancel_left]
    simp [kp, h']
  have hij : i = X.length + j := hD.1 _ _ _ _ hi (hjX j k hj) rfl
  subst hij
  apply List.ext_getElem?
  intro q
  by_cases hq : q = X.length + j
  · subst hq
    rw [List.getElem?_set_self hl, List.getElem?_append_right (by omega), Nat.add_sub_cancel_left]
    simp [kp, hj, va_up]
  · rw [List.getElem?_set_ne (Ne.symm hq)]
    by_cases hqX : q < X.length
    · rw [List.getElem?_append_left hqX, List.getElem?_append_left hqX]
    · obtain ⟨j', rfl⟩ : ∃ j', q = X.length + j' := ⟨q - X.length, by omega⟩
      rw [List.getElem?_append_right (by omega), List.getElem?_append_right (by omega), Nat.add_sub_cancel_left]
      cases hk' : K[j']? with
      | none => simp [kp, hk']
      | some k' =>
        have hne : k' ≠ k := by
          intro z
          subst z
          exact hq (hD.1 _ _ _ _ (hjX j' k' hk') (hjX j k' hj) rfl)
        simp [kp, hk', va_up, hne]
/-- the class's world: the object x, its line, the soldiers -/
def cX (x ln : Nat) (cA : ClassId) (n : Int32) (tp : Option Nat) (mo dr ds : Int32) (li : Nat → Option Nat) (ad : Nat → Nat) : va_W := [(x, .inr (1, [.ref ln, .int n, va_rf (tp.map ad), .int mo, .int dr, .int ds])), (ln, .inl (cA, 150, .inr (.inr (.inr (.inr (fun i => (li i).map ad))))))]
def gF (ad : Nat → Nat) (g : Nat → Nd) : Nat → va_E := fun k => .inr (0, sF ad k (g k))
def cw (x ln : Nat) (cA : ClassId) (n : Int32) (tp : Option Nat) (mo dr ds : Int32) (li : Nat → Option Nat) (K : List Nat) (ad : Nat → Nat) (g : Nat → Nd) : va_W := cX x ln cA n tp mo dr ds li ad ++ kp K ad (gF ad g)
section CW
variable {x ln : Nat} {cA : ClassId} {n : Int32} {tp : Option Nat} {mo dr ds : Int32} {li : Nat → Option Nat} {K : List Nat} {ad : Nat → Nat} {g : Nat → Nd}
theorem cw_x : (cw x ln cA n tp mo dr ds li K ad g)[0]? = some (x, .inr (1, [.ref ln, .int n, va_rf (tp.map ad), .int mo, .int dr, .int ds])) := rfl
theorem cw_l : (cw x ln cA n tp mo dr ds li K ad g)[1]? = some (ln, .inl (cA, 150, .inr (.inr (.inr (.inr (fun i => (li i).map ad)))))) := rfl
theorem cw_s {k : Nat} (h : k ∈ K) : ∃ i : Nat, (cw x ln cA n tp mo dr ds li K ad g)[i]? = some (ad k, .inr (0, [.int (nI k), va_rf ((g k).1.map ad), va_rf ((g k).2.1.map ad), va_rf ((g k).2.2.1.map ad), .int (g k).2.2.2])) := kp_get (F := gF ad g) h
theorem gF_up {k : Nat} {d : Nd} : va_up (gF ad g) k (.inr (0, sF ad k d)) = gF ad (va_up g k d) := by
  funext j
  by_cases h : j = k
  · subst h; simp [va_up, gF]
  · simp [va_up, gF, h]
/-- a soldier's field is written -/
theorem cw_put {A : Nat → Prop} {k i : Nat} {e0 : va_E} (hD : va_D A (cw x ln cA n tp mo dr ds li K ad g)) (hk : k ∈ K) (hi : (cw x ln cA n tp mo dr ds li K ad g)[i]? = some (ad k, e0)) (d : Nd) {fs : List Value} (hfs : fs = sF ad k d) : (cw x ln cA n tp mo dr ds li K ad g).set i (ad k, .inr (0, fs)) = cw x ln cA n tp mo dr ds li K ad (va_up g k d) := by
  subst hfs
  have he : e0 = gF ad g k := by
    obtain ⟨j, hj⟩ := kp_get (X := cX x ln cA n tp mo dr ds li ad) (ad := ad) (F := gF ad g) hk
    have hij : i = j := hD.1 _ _ _ _ hi hj rfl
    subst hij
    have h1 := hi.symm.trans hj
    exact congrArg Prod.snd (Option.some.inj h1)
  subst he
  show (cX x ln cA n tp mo dr ds li ad ++ kp K ad (gF ad g)).set i _ = cX x ln cA n tp mo dr ds li ad ++ kp K ad (gF ad (va_up g k d))
  rw [kp_set hD hk hi, gF_up]
/-- a cell of the line is written -/
theorem cw_line {i : Nat} {v : Option Nat} : (fun j => (va_up (fun j => (li j).map ad) i (v.map ad)) j) = (fun j => ((va_up li i v) j).map ad) := by
  funext j
  by_cases h : j = i
  · subst h; simp [va_up]
  · simp [va_up, h]
theorem cw_setl {i : Nat} {v : Option Nat} {f : Nat → Option Nat} (hf : f = va_up (fun j => (li j).map ad) i (v.map ad)) : (cw x ln cA n tp mo dr ds li K ad g).set 1 (ln, .inl (cA, 150, .inr (.inr (.inr (.inr f))))) = cw x ln cA n tp mo dr ds (va_up li i v) K ad g := by
  subst hf
  have h : va_up (fun j => (li j).map ad) i (v.map ad) = fun j => ((va_up li i v) j).map ad := cw_line
  rw [h]
  rfl
end CW
/-- the reference's world -/
def mw (M : Nat × Nat × Nat × Nat × Nat × Nat) (cZ cI : ClassId) (th tp n mo ti dr st ma : Int32) (isIn lf rt wy rw : Nat → Int32) : va_W :=
  [(M.1, .inr (2, [.int th, .int tp, .int n, .int mo, .int ti, .int dr, .ref M.2.1, .ref M.2.2.1, .ref M.2.2.2.1, .ref M.2.2.2.2.1, .int st, .ref M.2.2.2.2.2, .int ma])),
   (M.2.1, .inl (cZ, 1000, .inl isIn)), (M.2.2.1, .inl (cI, 1000, .inl lf)), (M.2.2.2.1, .inl (cI, 1000, .inl rt)), (M.2.2.2.2.1, .inl (cI, 151, .inl wy)), (M.2.2.2.2.2, .inl (cI, 150, .inl rw))]
section MWS
variable {M : Nat × Nat × Nat × Nat × Nat × Nat} {cZ cI : ClassId} {th tp n mo ti dr st ma : Int32} {isIn lf rt wy rw : Nat → Int32}
theorem mw_m : (mw M cZ cI th tp n mo ti dr st ma isIn lf rt wy rw)[0]? = some (M.1, .inr (2, [.int th, .int tp, .int n, .int mo, .int ti, .int dr, .ref M.2.1, .ref M.2.2.1, .ref M.2.2.2.1, .ref M.2.2.2.2.1, .int st, .ref M.2.2.2.2.2, .int ma])) := rfl
theorem mw_i : (mw M cZ cI th tp n mo ti dr st ma isIn lf rt wy rw)[1]? = some (M.2.1, .inl (cZ, 1000, .inl isIn)) := rfl
theorem mw_l : (mw M cZ cI th tp n mo ti dr st ma isIn lf rt wy rw)[2]? = some (M.2.2.1, .inl (cI, 1000, .inl lf)) := rfl
theorem mw_r : (mw M cZ cI th tp n mo ti dr st ma isIn lf rt wy rw)[3]? = some (M.2.2.2.1, .inl (cI, 1000, .inl rt)) := rfl
theorem mw_w : (mw M cZ cI th tp n mo ti dr st ma isIn lf rt wy rw)[4]? = some (M.2.2.2.2.1, .inl (cI, 151, .inl wy)) := rfl
theorem mw_o : (mw M cZ cI th tp n mo ti dr st ma isIn lf rt wy rw)[5]? = some (M.2.2.2.2.2, .inl (cI, 150, .inl rw)) := rfl
end MWS
/-- what the tables say, for every method of both: classes, array classes, nest mates -/
abbrev w26 : Cond := .methodLinkNest RX0 26 yX1_companyOf RX1
abbrev w32 : Cond := .methodLinkNest RX0 32 yX1_isCrooked RX1
abbrev tysA (cA cZ cI : ClassId) : List (ClassId × FieldType) := [(cA, .object RX0), (cZ, .boolean), (cI, .int)]
def GK (D : va_G) (tys : List (ClassId × FieldType)) (U : State) : Prop := va_K D vwCl tys U ∧ va_Nw w26 U ∧ va_Nw w32 U
theorem GK.moved {D : va_G} {tys : List (ClassId × FieldType)} {u U : State} (hW : u.WarmedH U.vm) (h : GK D tys u) : GK D tys U := ⟨va_K.moved hW.alike h.1, va_Nw.warmM hW h.2.1, va_Nw.warmM hW h.2.2⟩
theorem va_K.eqvm {D : va_G} {tys : List (ClassId × FieldType)} {u U : State} (h : va_K D vwCl tys u) (e : U.vm = u.vm) : va_K D vwCl tys U := va_K.moved (by rw [e]; exact Vm.Alike.refl u.vm) h
/-- a start that reads a world -/
def PcR (D : va_G) (tys : List (ClassId × FieldType)) (ws : va_W) (av : List Value) : Array Value → State → Prop := va_Pc av (fun U => va_P D vwCl ws U.heap ∧ GK D tys U)
theorem GK.calling {D : va_G} {tys : List (ClassId × FieldType)} {U : State} {g : JFrame} {mk : MethodId} {a : Array Value} (h : GK D tys U) : GK D tys (U.calling g mk a) := GK.moved (U := U.calling g mk a) (State.WarmedH.refl U) h
theorem PcR.blind {D : va_G} {tys : List (ClassId × FieldType)} {ws : va_W} {av : List Value} : FrameBlind (PcR D tys ws av) := fun _ _ _ _ q => ⟨q.1, q.2.1, q.2.2.calling⟩
theorem PcR.at {D : va_G} {tys : List (ClassId × FieldType)} {ws : va_W} {av : List Value} {s : State} {H : Heap} (hP : va_P D vwCl ws H) (hG : GK D tys s) : ∀ U : State, U.heap = H → s.WarmedH U.vm → PcR D tys ws av av.toArray U := fun _ hU hW => ⟨rfl, by rw [hU]; exact hP, hG.moved hW⟩
/-- a start that may write a world -/
def PcM (D : va_G) (tys : List (ClassId × FieldType)) (A : Nat → Prop) (ws : va_W) (av : List Value) : Array Value → State → Prop := va_Pc av (fun U => (∀ q, U.heap.size ≤ q → A q) ∧ va_P D vwCl ws U.heap ∧ GK D tys U ∧ va_D A ws)
theorem PcM.blind {D : va_G} {tys : List (ClassId × FieldType)} {A : Nat → Prop} {ws : va_W} {av : List Value} : FrameBlind (PcM D tys A ws av) := fun _ _ _ _ q => ⟨q.1, q.2.1, q.2.2.1, q.2.2.2.1.calling, q.2.2.2.2⟩
theorem PcM.at {D : va_G} {tys : List (ClassId × FieldType)} {A : Nat → Prop} {ws : va_W} {av : List Value} {s : State} {H : Heap} (hA : ∀ q, H.size ≤ q → A q) (hP : va_P D vwCl ws H) (hG : GK D tys s) (hD : va_D A ws) : ∀ U : State, U.heap = H → s.WarmedH U.vm → PcM D tys A ws av av.toArray U := fun _ hU hW => ⟨rfl, by rw [hU]; exact hA, by rw [hU]; exact hP, hG.moved hW, hD⟩
/-- the world behind a method that writes -/
def BM (D : va_G) (tys : List (ClassId × FieldType)) (A : Nat → Prop) (ws : va_W) (t : State) : Prop := va_P D vwCl ws t.heap ∧ GK D tys t ∧ va_D A ws
