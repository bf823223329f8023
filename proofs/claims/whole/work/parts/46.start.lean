/-! THE LAW's start -/
theorem perm_D {A : Nat → Prop} {W1 W2 : va_W} (hp : W1.Perm W2) (h : va_D A W1) : va_D A W2 := by
  rw [va_D.nodup] at h ⊢
  exact ⟨(hp.map _).nodup_iff.mp h.1, fun q hq => h.2 q (hp.mem_iff.mpr hq)⟩
theorem lw_str {s : State} {b : Nat} {k : Nat} {tx : String} (h1 : (Cond.stringRef RX1 k tx).before #[Value.ref b] s = true) (h2 : (Cond.exactly (.string RX1 k) "java/lang/String").before #[Value.ref b] s = true) : ∃ a, vk_R RX1 k tx a s := by
  obtain ⟨a, _, _, _, h3, -⟩ := Cond.exactly_spec h2
  exact ⟨a, vk_R.of h1 h3⟩
theorem lw_GX {s : State} {b : Nat} (hts0 : ∀ w ∈ lw_tbl, w.before #[Value.ref b] s = true) (hgv : (Jvm.Cond.and given_1 narrow_1).before #[Value.ref b] s = true) : ∃ sa, GX sa (fun q => s.heap.size ≤ q) s s.heap ∧ NcX s ∧ va_Nw w26 s ∧ va_Nw w32 s ∧ va_AO RX0 s := by
  have hq := flat_of_before _ hgv
  obtain ⟨a0, h0⟩ := lw_str (hts0 (.stringRef RX1 142 "a height is 0 to 999") (by decide +kernel)) (hq (.exactly (.string RX1 142) "java/lang/String") (by decide +kernel))
  obtain ⟨a1, h1⟩ := lw_str (hts0 (.stringRef RX1 29 "one of this height is there, or there are 150") (by decide +kernel)) (hq (.exactly (.string RX1 29) "java/lang/String") (by decide +kernel))
  obtain ⟨a2, h2⟩ := lw_str (hts0 (.stringRef RX1 69 "nobody has this height") (by decide +kernel)) (hq (.exactly (.string RX1 69) "java/lang/String") (by decide +kernel))
  obtain ⟨a3, h3⟩ := lw_str (hts0 (.stringRef RX1 145 "what is 0 to 7") (by decide +kernel)) (hq (.exactly (.string RX1 145) "java/lang/String") (by decide +kernel))
  obtain ⟨a4, h4⟩ := lw_str (hts0 (.stringRef RX1 97 "there is no such place") (by decide +kernel)) (hq (.exactly (.string RX1 97) "java/lang/String") (by decide +kernel))
  obtain ⟨a5, h5⟩ := lw_str (hts0 (.stringRef RX1 106 "nobody has one of these heights") (by decide +kernel)) (hq (.exactly (.string RX1 106) "java/lang/String") (by decide +kernel))
  have hA : ∀ a : Nat, a < s.heap.size → ¬ (fun q => s.heap.size ≤ q) a := fun a h => Nat.not_le.mpr h
  have z1 : vx_Zq Bundle.tN "UNASSIGNED_STACK" Bundle.steD (fun q => s.heap.size ≤ q) s s.heap := vx_Zqof (hts0 (.laysStatic Bundle.tN "UNASSIGNED_STACK" Bundle.steD) (by decide +kernel)) (hts0 (.initialized Bundle.tN) (by decide +kernel)) (hq (.isRef (.static Bundle.tN "UNASSIGNED_STACK" Bundle.steD)) (by decide +kernel)) hA
  have z2 : vx_Zq Bundle.tN "SUPPRESSED_SENTINEL" Bundle.listD (fun q => s.heap.size ≤ q) s s.heap := vx_Zqof (hts0 (.laysStatic Bundle.tN "SUPPRESSED_SENTINEL" Bundle.listD) (by decide +kernel)) (hts0 (.initialized Bundle.tN) (by decide +kernel)) (hq (.isRef (.static Bundle.tN "SUPPRESSED_SENTINEL" Bundle.listD)) (by decide +kernel)) hA
  refine ⟨fun i => [a0, a1, a2, a3, a4, a5].getD i 0, ⟨⟨va_Nw.of rfl (hts0 (.castable eIA eIA) (by decide +kernel)), va_Nw.of rfl (hts0 (.castable eIS eIS) (by decide +kernel)), va_Nw.of rfl (hts0 (.castable eIO eIO) (by decide +kernel)), va_Nw.of rfl (hts0 (.declares (Bundle.initS "java/lang/RuntimeException")) (by decide +kernel)), va_Nw.of rfl (hts0 (.declares (Bundle.initS "java/lang/Exception")) (by decide +kernel)), va_Nw.of rfl (hts0 (.declares (Bundle.initS Bundle.tN)) (by decide +kernel))⟩, ⟨h0, h1, h2, h3, h4, h5⟩, z1, z2⟩, ⟨va_Nc.of (hq (.not (.castable eIS eIA)) (by decide +kernel)), va_Nc.of (hq (.not (.castable eIO eIA)) (by decide +kernel)), va_Nc.of (hq (.not (.castable eIS eIO)) (by decide +kernel))⟩, va_Nw.of rfl (hts0 w26 (by decide +kernel)), va_Nw.of rfl (hts0 w32 (by decide +kernel)), va_AO.of (hts0 (.arrayOver (.object RX0)) (by decide +kernel))⟩
