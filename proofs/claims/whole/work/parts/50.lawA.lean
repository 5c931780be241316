def RL : String := "SealedLedgerLaw"
def law_A (s : State) : Nat → Prop := fun q => s.heap.size ≤ q
theorem hs_0 : ∀ w ∈ hw_l0, w ∈ lw_tbl := by decide +kernel
theorem hs_1 : ∀ w ∈ hw_l1, w ∈ lw_tbl := by decide +kernel
theorem hs_2 : ∀ w ∈ hw_l2, w ∈ lw_tbl := by decide +kernel
theorem hs_3 : ∀ w ∈ hw_l3, w ∈ lw_tbl := by decide +kernel
theorem hs_4 : ∀ w ∈ hw_l4, w ∈ lw_tbl := by decide +kernel
theorem hs_5 : ∀ w ∈ hw_l5, w ∈ lw_tbl := by decide +kernel
theorem hs_6 : ∀ w ∈ hw_l6, w ∈ lw_tbl := by decide +kernel
theorem hs_7 : ∀ w ∈ hw_l7, w ∈ lw_tbl := by decide +kernel
theorem hs_8 : ∀ w ∈ hw_l8, w ∈ lw_tbl := by decide +kernel
theorem hs_9 : ∀ w ∈ hw_l9, w ∈ lw_tbl := by decide +kernel
theorem hs_10 : ∀ w ∈ hw_l10, w ∈ lw_tbl := by decide +kernel
theorem hs_11 : ∀ w ∈ hw_l11, w ∈ lw_tbl := by decide +kernel
theorem hs_12 : ∀ w ∈ hw_l12, w ∈ lw_tbl := by decide +kernel
theorem hs_13 : ∀ w ∈ hw_l13, w ∈ lw_tbl := by decide +kernel
theorem hs_14 : ∀ w ∈ hw_l14, w ∈ lw_tbl := by decide +kernel
theorem hu_X0 : ∀ w ∈ u_ws RX0 TX0 3, w ∈ lw_tbl := by decide +kernel
theorem hu_X1 : ∀ w ∈ u_ws RX1 TX1 3, w ∈ lw_tbl := by decide +kernel
theorem hu_X2 : ∀ w ∈ u_ws RX2 TX2 7, w ∈ lw_tbl := by decide +kernel
theorem hu_X3 : ∀ w ∈ u_ws RX3 TX3 2, w ∈ lw_tbl := by decide +kernel
theorem hu_X5 : ∀ w ∈ u_ws RX5 TX5 6, w ∈ lw_tbl := by decide +kernel
theorem hu_X6 : ∀ w ∈ u_ws RX6 TX6 22, w ∈ lw_tbl := by decide +kernel
theorem hw_inAll {w : Cond} (h : w ∈ hw_all) : w ∈ lw_tbl := by
  unfold hw_all at h
  rcases List.mem_append.mp h with h | h
  · exact hs_0 _ h
  rcases List.mem_append.mp h with h | h
  · exact hs_1 _ h
  rcases List.mem_append.mp h with h | h
  · exact hs_2 _ h
  rcases List.mem_append.mp h with h | h
  · exact hs_3 _ h
  rcases List.mem_append.mp h with h | h
  · exact hs_4 _ h
  rcases List.mem_append.mp h with h | h
  · exact hs_5 _ h
  rcases List.mem_append.mp h with h | h
  · exact hs_6 _ h
  rcases List.mem_append.mp h with h | h
  · exact hs_7 _ h
  rcases List.mem_append.mp h with h | h
  · exact hs_8 _ h
  rcases List.mem_append.mp h with h | h
  · exact hs_9 _ h
  rcases List.mem_append.mp h with h | h
  · exact hs_10 _ h
  rcases List.mem_append.mp h with h | h
  · exact hs_11 _ h
  rcases List.mem_append.mp h with h | h
  · exact hs_12 _ h
  rcases List.mem_append.mp h with h | h
  · exact hs_13 _ h
  rcases List.mem_append.mp h with h | h
  · exact hs_14 _ h
  rcases List.mem_append.mp h with h | h
  · exact hu_X0 _ h
  rcases List.mem_append.mp h with h | h
  · exact hu_X1 _ h
  rcases List.mem_append.mp h with h | h
  · exact hu_X2 _ h
  rcases List.mem_append.mp h with h | h
  · exact hu_X3 _ h
  rcases List.mem_append.mp h with h | h
  · exact hu_X5 _ h
  exact hu_X6 _ h
theorem hw_inNest : ∀ q ∈ hw_nest, Cond.methodLinkNest q.1 q.2.1 q.2.2.1 q.2.2.2 ∈ lw_tbl := by decide +kernel
theorem law_NE {s : State} {args : Array Value} (hts : ∀ w ∈ lw_tbl, w.before args s = true) : hw_NE s := fun q hq => va_Nw.of rfl (hts _ (hw_inNest q hq))
theorem law_gV {own C : String} {idx : Nat} {y : MethodName} {bytes : ByteArray} {maxL : Nat} {ret : Option FieldType} (h1 : Cond.methodLink own idx y ∈ lw_tbl) (h2 : Cond.instanceMethod y ∈ lw_tbl) (h3 : Cond.selects C y y ∈ lw_tbl) (h4 : Cond.initialized C ∈ lw_tbl) (h5 : Cond.code y bytes maxL ret ∈ hw_all) : GoodIn lw_tbl (wsV own idx C y (Cond.code y bytes maxL ret :: hw_all)) := by
  intro w hw
  rcases List.mem_append.mp hw with h | h
  · rcases List.mem_cons.mp h with rfl | h
    · exact ⟨h1, Or.inl rfl⟩
    rcases List.mem_cons.mp h with rfl | h
    · exact ⟨h2, Or.inl rfl⟩
    rcases List.mem_cons.mp h with rfl | h
    · exact ⟨h3, Or.inl rfl⟩
    rcases List.mem_cons.mp h with rfl | h
    · exact ⟨h4, Or.inl rfl⟩
    cases h
  · rcases List.mem_cons.mp h with rfl | h
    · exact ⟨hw_inAll h5, hw_good _ h5⟩
    · exact ⟨hw_inAll h, hw_good _ h⟩
theorem law_gC {y : MethodName} {bytes : ByteArray} {maxL : Nat} {ret : Option FieldType} (h5 : Cond.code y bytes maxL ret ∈ hw_all) : GoodIn lw_tbl (Cond.code y bytes maxL ret :: hw_all) := by
  intro w h
  rcases List.mem_cons.mp h with rfl | h
  · exact ⟨hw_inAll h5, hw_good _ h5⟩
  · exact ⟨hw_inAll h, hw_good _ h⟩
theorem law_arr {s : State} {args : Array Value} {ty : FieldType} (h : (Cond.arrayClass ty).before args s = true) (hr : ∀ cA, s.vm.findClass ("[" ++ ty.toString) = some cA → va_RA s cA ty) : ∃ cA : ClassId, ArrOfT s cA ty ∧ va_RA s cA ty := by
  obtain ⟨cA, kA, comp, h1, h2, h3⟩ := Cond.arrayClass_spec h
  exact ⟨cA, fun n z => ⟨fun k h => (by cases h), kA, h2, comp, h3⟩, hr cA h1⟩
theorem law_K {s : State} {args : Array Value} (hts : ∀ w ∈ lw_tbl, w.before args s = true) : ∃ (D : va_G) (cA cZ : ClassId), va_K D vwCl [(cA, .int), (cZ, .boolean)] s := by
  obtain ⟨c0, i0, u0⟩ := u_known (C := RX0) (T := TX0) (N := 3) (n := 3) hts hu_X0 (hts (.instantiable RX0 3) (by decide +kernel))
  obtain ⟨c1, i1, u1⟩ := u_known (C := RX1) (T := TX1) (N := 3) (n := 3) hts hu_X1 (hts (.instantiable RX1 3) (by decide +kernel))
  obtain ⟨c2, i2, u2⟩ := u_known (C := RX2) (T := TX2) (N := 7) (n := 7) hts hu_X2 (hts (.instantiable RX2 7) (by decide +kernel))
  obtain ⟨c3, i3, u3⟩ := u_known (C := RX3) (T := TX3) (N := 2) (n := 2) hts hu_X3 (hts (.instantiable RX3 2) (by decide +kernel))
  obtain ⟨c4, i4, u4⟩ := u_known (C := RX5) (T := TX5) (N := 6) (n := 6) hts hu_X5 (hts (.instantiable RX5 6) (by decide +kernel))
  obtain ⟨c5, i5, u5⟩ := u_known (C := RX6) (T := TX6) (N := 22) (n := 22) hts hu_X6 (hts (.instantiable RX6 22) (by decide +kernel))
  obtain ⟨cA, a1, a2⟩ := law_arr (hts (.arrayClass .int) (by decide +kernel)) (fun cA h => h)
  obtain ⟨cZ, z1, z2⟩ := law_arr (hts (.arrayClass .boolean) (by decide +kernel)) (fun cA h => h)
  refine ⟨(fun k => match k with | 0 => c0 | 1 => c1 | 2 => c2 | 3 => c3 | 4 => c4 | _ => c5, fun k => match k with | 0 => i0 | 1 => i1 | 2 => i2 | 3 => i3 | 4 => i4 | _ => i5), cA, cZ, fun k q hk => ?_, fun k q hk => ?_⟩
  · match k, hk with
    | 0, hk => cases hk; exact u0
    | 1, hk => cases hk; exact u1
    | 2, hk => cases hk; exact u2
    | 3, hk => cases hk; exact u3
    | 4, hk => cases hk; exact u4
    | 5, hk => cases hk; exact u5
    | k + 6, hk => simp [vwCl] at hk
  · match k, hk with
    | 0, hk => cases hk; exact ⟨a1, a2⟩
    | 1, hk => cases hk; exact ⟨z1, z2⟩
    | k + 2, hk => simp at hk
theorem hw_sld {p : Program} {l : Launch} {e : Env} {R : Room} {s : State} {m : MethodId} {args : Array Value} {below : List Frame} {meth : Method} {c : Code} {H : Heap} {locs : List Loc} {cells slots : Nat} {Q : State → Prop} {cc : ByteArray} {pc : Nat} {ls : Array Slot} {rest : List Value} {b L q : Nat} {xs : Nat → Int32} {i : Int32} (hx : p.tables.exec = Jvm.exec) (hb : c.code = cc) (hX : va_X b L xs s s.heap) (hbl : b < s.heap.size) (hS : va_S (law_A s) s.heap H locs) (hi : i = nI q) (hq : q < L) (hL : L < 2 ^ 31) (hdg : decode cc pc = .ok (.iaload, 1)) (kk : W p l e R s m args below meth c H locs cells slots Q (F0 m (pc + 1) ls (.int (xs q) :: rest))) : W p l e R s m args below meth c H locs cells slots Q (F0 m pc ls (.int i :: .ref b :: rest)) := by
  subst hi
  refine va_sld hx hb hX hbl (fun h => Nat.not_le_of_lt hbl h) hS (nI_in hq hL) hdg ?_
  rw [nI_clamp (by omega)]
  exact kk
