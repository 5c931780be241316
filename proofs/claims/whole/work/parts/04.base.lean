section HW1
def hw_rd (n : Nat) (f : Nat → Int32) (i : Int32) : Option Int32 := if i < 0 ∨ n ≤ i.toNatClampNeg then none else some (f i.toNatClampNeg)
def hw_wr (n : Nat) (f : Nat → Int32) (i x : Int32) : Option (Nat → Int32) := if i < 0 ∨ n ≤ i.toNatClampNeg then none else some (upd f i.toNatClampNeg x)
def hw_wz (n : Nat) (f : Nat → Int32) (i x : Int32) : Option (Nat → Int32) := if i < 0 ∨ n ≤ i.toNatClampNeg then none else some (upd f i.toNatClampNeg (x &&& 1))
def hw_z (v : Int32) : Option Int32 := if v = 0 ∨ v = 1 then some v else none
def hw_ushr (x y : Int32) : Int32 := (x.toUInt32 >>> (y.toUInt32 &&& Int32.toUInt32 31)).toInt32
def hw_min (x y : Int32) : Int32 := if y < x then y else x
def hw_max (x y : Int32) : Int32 := if x < y then y else x
theorem hw_rd_some {n : Nat} {f : Nat → Int32} {i v : Int32} (h : hw_rd n f i = some v) : vp_in i n ∧ f i.toNatClampNeg = v := by
  unfold hw_rd at h
  by_cases hc : i < 0 ∨ n ≤ i.toNatClampNeg
  · rw [if_pos hc] at h; cases h
  · rw [if_neg hc] at h; exact ⟨hc, Option.some.inj h⟩
theorem hw_wr_some {n : Nat} {f g : Nat → Int32} {i x : Int32} (h : hw_wr n f i x = some g) : vp_in i n ∧ upd f i.toNatClampNeg x = g := by
  unfold hw_wr at h
  by_cases hc : i < 0 ∨ n ≤ i.toNatClampNeg
  · rw [if_pos hc] at h; cases h
  · rw [if_neg hc] at h; exact ⟨hc, Option.some.inj h⟩
theorem hw_wz_some {n : Nat} {f g : Nat → Int32} {i x : Int32} (h : hw_wz n f i x = some g) : vp_in i n ∧ upd f i.toNatClampNeg (vp_nar .boolean x) = g := by
  unfold hw_wz at h
  by_cases hc : i < 0 ∨ n ≤ i.toNatClampNeg
  · rw [if_pos hc] at h; cases h
  · rw [if_neg hc] at h; exact ⟨hc, Option.some.inj h⟩
theorem hw_z_some {v w : Int32} (h : hw_z v = some w) : v = w ∧ narrow .boolean (.int v) = .int v := by
  unfold hw_z at h
  by_cases hc : v = 0 ∨ v = 1
  · rw [if_pos hc] at h
    refine ⟨Option.some.inj h, ?_⟩
    rcases hc with rfl | rfl <;> rfl
  · rw [if_neg hc] at h; cases h
theorem hw_bind {α β : Type} {o : Option α} {k : α → Option β} {b : β} (h : o.bind k = some b) : ∃ a, o = some a ∧ k a = some b := by
  cases o with
  | none => cases h
  | some a => exact ⟨a, rfl, h⟩
def hw_NE (U : State) : Prop := ∀ q ∈ hw_nest, va_Nw (.methodLinkNest q.1 q.2.1 q.2.2.1 q.2.2.2) U
theorem hw_NE.warm {s U : State} (hW : s.WarmedH U.vm) (h : hw_NE s) : hw_NE U := fun q hq => va_Nw.warmM hW (h q hq)
theorem hw_NE.same {s U : State} (hv : s.vm = U.vm) (h : hw_NE s) : hw_NE U := fun q hq => va_Nw.same rfl hv (h q hq)
abbrev hw_pre (D : va_G) (cl : List vw_C) (cA cZ : ClassId) (sz : Nat) (av : List Value) (ws : va_W) : Array Value → State → Prop := va_Pc av (fun U => U.heap.size = sz ∧ va_P D cl ws U.heap ∧ va_K D cl [(cA, .int), (cZ, .boolean)] U ∧ va_D (fun _ => True) ws ∧ hw_NE U)
def hw_Q (D : va_G) (cl : List vw_C) (A : Nat → Prop) (w1 : va_W) (r : Option Value) : Array Value → State → Outcome → State → Prop := fun _ st oc t => oc = .returned r ∧ va_P D cl w1 t.heap ∧ va_D A w1 ∧ va_F A st t
def hw_C (l : Launch) (y : MethodName) (wy : List Cond) (rm : Room) (D : va_G) (cl : List vw_C) (cA cZ : ClassId) (av : List Value) (wc w1 : va_W) (r : Option Value) : Prop := ∀ sz : Nat, Met l y wy rm (hw_pre D cl cA cZ sz av wc) (hw_Q D cl (va_A wc sz) w1 r) 0 0 (va_A wc sz)
def hw_QN (D : va_G) (cl : List vw_C) (A : Nat → Prop) (w1 : (Nat → Nat) → va_W) (r : Option Value) : Array Value → State → Outcome → State → Prop := fun _ st oc t => oc = .returned r ∧ (∃ u : Nat → Nat, va_P D cl (w1 u) t.heap ∧ va_D A (w1 u)) ∧ va_F A st t
def hw_N (l : Launch) (y : MethodName) (wy : List Cond) (rm : Room) (D : va_G) (cl : List vw_C) (cA cZ : ClassId) (av : List Value) (wc : va_W) (w1 : (Nat → Nat) → va_W) (r : Option Value) (mc ms : Nat) : Prop := ∀ sz : Nat, Met l y wy rm (hw_pre D cl cA cZ sz av wc) (hw_QN D cl (va_A wc sz) w1 r) mc ms (va_A wc sz)
def hw_Z (below : List Frame) (args : Array Value) (s : State) (D : va_G) (cl : List vw_C) (A : Nat → Prop) (w1 : va_W) (r : Option Value) : State → Prop := MQ below (hw_Q D cl A w1 r) args s 0 0 A
def hw_ZN (below : List Frame) (args : Array Value) (s : State) (D : va_G) (cl : List vw_C) (A : Nat → Prop) (w1 : (Nat → Nat) → va_W) (r : Option Value) (mc ms : Nat) : State → Prop := MQ below (hw_QN D cl A w1 r) args s mc ms A
end HW1
section HWG
theorem hw_gC {y : MethodName} {bytes : ByteArray} {maxL : Nat} {ret : Option FieldType} (h5 : Cond.code y bytes maxL ret ∈ hw_all) : GoodIn hw_all (Cond.code y bytes maxL ret :: hw_all) := by
  intro w hw
  rcases List.mem_cons.mp hw with rfl | h
  · exact ⟨h5, hw_good _ h5⟩
  · exact ⟨h, hw_good _ h⟩
theorem hw_gS {own : String} {idx : Nat} {y : MethodName} {bytes : ByteArray} {maxL : Nat} {ret : Option FieldType} (h1 : Cond.methodLink own idx y ∈ hw_all) (h2 : Cond.static y ∈ hw_all) (h3 : Cond.initialized own ∈ hw_all) (h5 : Cond.code y bytes maxL ret ∈ hw_all) : GoodIn hw_all (wsS own idx y (Cond.code y bytes maxL ret :: hw_all)) := by
  intro w hw
  rcases List.mem_append.mp hw with h | h
  · have hm : w ∈ hw_all := by
      rcases List.mem_cons.mp h with rfl | h
      · exact h1
      rcases List.mem_cons.mp h with rfl | h
      · exact h2
      rcases List.mem_cons.mp h with rfl | h
      · exact h3
      cases h
    exact ⟨hm, hw_good _ hm⟩
  · exact hw_gC h5 w h
theorem hw_gA {own : String} {idx : Nat} {y : MethodName} {bytes : ByteArray} {maxL : Nat} {ret : Option FieldType} (h1 : Cond.methodLink own idx y ∈ hw_all) (h2 : Cond.static y ∈ hw_all) (h3 : Cond.initialized y.cls ∈ hw_all) (h5 : Cond.code y bytes maxL ret ∈ hw_all) : GoodIn hw_all (va_wsS own idx y (Cond.code y bytes maxL ret :: hw_all)) := by
  intro w hw
  rcases List.mem_append.mp hw with h | h
  · have hm : w ∈ hw_all := by
      rcases List.mem_cons.mp h with rfl | h
      · exact h1
      rcases List.mem_cons.mp h with rfl | h
      · exact h2
      rcases List.mem_cons.mp h with rfl | h
      · exact h3
      cases h
    exact ⟨hm, hw_good _ hm⟩
  · exact hw_gC h5 w h
theorem hw_gV {own C : String} {idx : Nat} {y : MethodName} {bytes : ByteArray} {maxL : Nat} {ret : Option FieldType} (h1 : Cond.methodLink own idx y ∈ hw_all) (h2 : Cond.instanceMethod y ∈ hw_all) (h3 : Cond.selects C y y ∈ hw_all) (h4 : Cond.initialized C ∈ hw_all) (h5 : Cond.code y bytes maxL ret ∈ hw_all) : GoodIn hw_all (wsV own idx C y (Cond.code y bytes maxL ret :: hw_all)) := by
  intro w hw
  rcases List.mem_append.mp hw with h | h
  · have hm : w ∈ hw_all := by
      rcases List.mem_cons.mp h with rfl | h
      · exact h1
      rcases List.mem_cons.mp h with rfl | h
      · exact h2
      rcases List.mem_cons.mp h with rfl | h
      · exact h3
      rcases List.mem_cons.mp h with rfl | h
      · exact h4
      cases h
    exact ⟨hm, hw_good _ hm⟩
  · exact hw_gC h5 w h
end HWG
section HW2
variable {l : Launch} {y : MethodName} {w : List Cond} {rm : Room} {D : va_G} {cl : List vw_C} {cA cZ : ClassId} {av : List Value} {ws : va_W} {r : Option Value} {cc : ByteArray} {maxL : Nat} {ret : Option FieldType}
theorem hw_of {w1 : va_W} (hy : plainName y.cls = true) (hw : w = Cond.code y cc maxL ret :: hw_all) (hav : (lg_sl av).length ≤ maxL)
    (body : ∀ (p : Program) (e : Env) (s : State) (m : MethodId) (args : Array Value) (below : List Frame) (meth : Method) (c : Code) (A : Nat → Prop) (ls : Array Slot), p.tables.exec = Jvm.exec → c.code = cc → meth.sig.returnType = ret → meth.locks = false → c.maxLocals = maxL → s.vm.findClass y.cls = some m.cls → (∀ x ∈ hw_all, x.before args s = true) → (∀ q, s.heap.size ≤ q → A q) → va_K D cl [(cA, .int), (cZ, .boolean)] s → hw_NE s → va_P D cl ws s.heap → va_D A ws → va_S A s.heap s.heap [] → lv_has ls maxL (lv_args 0 av) →
      W p l e rm s m args below meth c s.heap [] 0 0 (hw_Z below args s D cl A w1 r) (F0 m 0 ls [])) :
    hw_C l y w rm D cl cA cZ av ws w1 r := by
  intro sz
  refine Met.ofW (cc := cc) (maxL := maxL) (ret := ret) hy hw ?_
  intro p e s m args below meth c s₁ B hml hv
  obtain ⟨rfl, hsz, hP, hK, hD0, hE⟩ := hv
  subst hsz
  have hl := lv_entry av (n := maxL) hav
  rw [lg_entry_eq]
  exact body p e s m _ below meth c (va_A ws s.heap.size) _ B.exec B.bytes B.returns B.notSynchronized hml (findClass_of_methodNamed B.named) (fun x hx => atoms_spec (ws := w) B.pre x (hw ▸ List.mem_cons_of_mem _ hx)) (fun q h => Or.inr h) hK hE hP hD0.self va_S.rf hl
theorem hw_ofN {w1 : (Nat → Nat) → va_W} {mc ms : Nat} (hy : plainName y.cls = true) (hw : w = Cond.code y cc maxL ret :: hw_all) (hav : (lg_sl av).length ≤ maxL)
    (body : ∀ (p : Program) (e : Env) (s : State) (m : MethodId) (args : Array Value) (below : List Frame) (meth : Method) (c : Code) (A : Nat → Prop) (ls : Array Slot), p.tables.exec = Jvm.exec → c.code = cc → meth.sig.returnType = ret → meth.locks = false → c.maxLocals = maxL → s.vm.findClass y.cls = some m.cls → meth.name = y.name → (∀ x ∈ hw_all, x.before args s = true) → (∀ q, s.heap.size ≤ q → A q) → va_K D cl [(cA, .int), (cZ, .boolean)] s → hw_NE s → va_P D cl ws s.heap → va_D A ws → va_S A s.heap s.heap [] → lv_has ls maxL (lv_args 0 av) →
      W p l e rm s m args below meth c s.heap [] 0 0 (hw_ZN below args s D cl A w1 r mc ms) (F0 m 0 ls [])) :
    hw_N l y w rm D cl cA cZ av ws w1 r mc ms := by
  intro sz
  refine Met.ofW (cc := cc) (maxL := maxL) (ret := ret) hy hw ?_
  intro p e s m args below meth c s₁ B hml hv
  obtain ⟨rfl, hsz, hP, hK, hD0, hE⟩ := hv
  subst hsz
  have hl := lv_entry av (n := maxL) hav
  rw [lg_entry_eq]
  exact body p e s m _ below meth c (va_A ws s.heap.size) _ B.exec B.bytes B.returns B.notSynchronized hml (findClass_of_methodNamed B.named) (name_of_methodNamed B.named B.method).1 (fun x hx => atoms_spec (ws := w) B.pre x (hw ▸ List.mem_cons_of_mem _ hx)) (fun q h => Or.inr h) hK hE hP hD0.self va_S.rf hl
end HW2
section HW3
variable {p : Program} {l : Launch} {e : Env} {R : Room} {s : State} {m : MethodId} {args : Array Value} {below : List Frame} {meth : Method} {c : Code} {H : Heap} {locs : List Loc} {cells slots : Nat} {Q : State → Prop}
variable {cc : ByteArray} {pc : Nat} {ls : Array Slot} {rest st0 : List Value} {D : va_G} {cl : List vw_C} {cA cZ : ClassId} {A : Nat → Prop} {ws wc wr w1 : va_W} {a : Array Value} {r : Option Value} {a0 : Nat}
theorem hw_ri {v : Int32} (hx : p.tables.exec = Jvm.exec) (hb : c.code = cc) (hr : meth.sig.returnType = some .int) (hlocks : meth.locks = false) (hP : va_P D cl w1 H) (hD : va_D A w1) (hS : va_S A s.heap H locs) (hdg : decode cc pc = .ok (.ireturn, 1)) : W p l e R s m args below meth c H locs 0 0 (hw_Z below args s D cl A w1 (some (.int v))) (F0 m pc ls [.int v]) :=
  W.iret hx hb hr (fun t ht hW => ⟨rfl, by rw [ht]; exact hP, hD, hS.F ht⟩) hS.2.2 hdg hlocks
theorem hw_rz {v : Int32} (hx : p.tables.exec = Jvm.exec) (hb : c.code = cc) (hr : meth.sig.returnType = some .boolean) (hlocks : meth.locks = false) (hn : narrow .boolean (.int v) = .int v) (hP : va_P D cl w1 H) (hD : va_D A w1) (hS : va_S A s.heap H locs) (hdg : decode cc pc = .ok (.ireturn, 1)) : W p l e R s m args below meth c H locs 0 0 (hw_Z below args s D cl A w1 (some (.int v))) (F0 m pc ls [.int v]) :=
  W.zret hx hb hr hn (fun t ht hW => ⟨rfl, by rw [ht]; exact hP, hD, hS.F ht⟩) hS.2.2 hdg hlocks
theorem hw_rv (hx : p.tables.exec = Jvm.exec) (hb : c.code = cc) (hr : meth.sig.returnType = none) (hlocks : meth.locks = false) (hP : va_P D cl w1 H) (hD : va_D A w1) (hS : va_S A s.heap H locs) (hdg : decode cc pc = .ok (.return_, 1)) : W p l e R s m args below meth c H locs 0 0 (hw_Z below args s D cl A w1 none) (F0 m pc ls []) :=
  W.vret hx hb hr (fun t ht hW => ⟨rfl, by rw [ht]; exact hP, hD, hS.F ht⟩) hS.2.2 hdg hlocks
theorem hw_rvN {w1 : (Nat → Nat) → va_W} {mc ms : Nat} (u : Nat → Nat) (hx : p.tables.exec = Jvm.exec) (hb : c.code = cc) (hr : meth.sig.returnType = none) (hlocks : meth.locks = false) (hP : va_P D cl (w1 u) H) (hD : va_D A (w1 u)) (hS : va_S A s.heap H locs) (hdg : decode cc pc = .ok (.return_, 1)) : W p l e R s m args below meth c H locs mc ms (hw_ZN below args s D cl A w1 none mc ms) (F0 m pc ls []) :=
  W.vret hx hb hr (fun t ht hW => ⟨rfl, ⟨u, by rw [ht]; exact hP, hD⟩, hS.F ht⟩) hS.2.2 hdg hlocks
theorem hw_iald (hx : p.tables.exec = Jvm.exec) (hb : c.code = cc) (hK : va_K D cl [(cA, .int), (cZ, .boolean)] s) (hP : va_P D cl ws H) (q0 : Nat) {n : Nat} {f : Nat → Int32} (ha : ws[q0]? = some (a0, .inl (cA, n, .inl f))) {i v : Int32} (hv : hw_rd n f i = some v) (hdg : decode cc pc = .ok (.iaload, 1)) (kk : W p l e R s m args below meth c H locs cells slots Q (F0 m (pc + 1) ls (.int v :: rest))) : W p l e R s m args below meth c H locs cells slots Q (F0 m pc ls (.int i :: .ref a0 :: rest)) := by
  obtain ⟨h1, rfl⟩ := hw_rd_some hv
  exact va_iald hx hb hK hP q0 0 ha rfl h1 hdg kk
theorem hw_iast {H0 : Heap} (hx : p.tables.exec = Jvm.exec) (hb : c.code = cc) (hK : va_K D cl [(cA, .int), (cZ, .boolean)] s) (hP : va_P D cl ws H) (hD : va_D A ws) (hS : va_S A H0 H locs) (q0 : Nat) {n : Nat} {f g : Nat → Int32} (ha : ws[q0]? = some (a0, .inl (cA, n, .inl f))) {i x : Int32} (hv : hw_wr n f i x = some g) (hdg : decode cc pc = .ok (.iastore, 1)) (kk : ∀ (H1 : Heap) (locs1 : List Loc), va_P D cl (ws.set q0 (a0, .inl (cA, n, .inl g))) H1 → va_D A (ws.set q0 (a0, .inl (cA, n, .inl g))) → va_S A H0 H1 locs1 → W p l e R s m args below meth c H1 locs1 cells slots Q (F0 m (pc + 1) ls rest)) : W p l e R s m args below meth c H locs cells slots Q (F0 m pc ls (.int x :: .int i :: .ref a0 :: rest)) := by
  obtain ⟨h1, rfl⟩ := hw_wr_some hv
  exact va_iast hx hb hK hP hD hS q0 0 ha rfl h1 hdg kk
theorem hw_newa {H0 : Heap} (hx : p.tables.exec = Jvm.exec) (hb : c.code = cc) {atype : ArrayType} (harr : (Cond.arrayClass (newarray.typeOf atype)).before args s = true) (hty : newarray.typeOf atype = .int) (hK : va_K D cl [(cA, .int), (cZ, .boolean)] s) (hP : va_P D cl ws H) (hD : va_D A ws) (hS : va_S A H0 H locs) (hA : ∀ q, H0.size ≤ q → A q) {n : Int32} (N : Nat) (hn : ¬ n < 0) (hN : n.toNatClampNeg = N) (hbytes : N * componentBytes .int ≤ 536870912) (hcells : cells + 1 ≤ R.cells) (hslots : slots + N ≤ R.slots) (hdg : decode cc pc = .ok (.newarray atype, 2)) (kk : ∀ (q : Nat) (H1 : Heap), va_P D cl (ws ++ [(q, .inl (cA, N, .inl (fun _ => 0)))]) H1 → va_D A (ws ++ [(q, .inl (cA, N, .inl (fun _ => 0)))]) → va_S A H0 H1 locs → W p l e R s m args below meth c H1 locs (cells + 1) (slots + N) Q (F0 m (pc + 2) ls (.ref q :: rest))) : W p l e R s m args below meth c H locs cells slots Q (F0 m pc ls (.int n :: rest)) := by
  refine va_newa (a0 := (N, .inl (fun _ => 0))) hx hb harr hty hK hP hD hS hA (fun _ => rfl) hn hN hbytes hcells hslots hdg (fun q cB H1 hK1 hP1 hD1 hS1 => ?_)
  have h1 := (hK1.2 0 (cA, .int) rfl).2
  have h2 := (hK1.2 2 (cB, .int) rfl).2
  have h3 : some cA = some cB := h1.symm.trans h2
  cases h3
  exact kk q H1 hP1 hD1 hS1
theorem hw_zald (hx : p.tables.exec = Jvm.exec) (hb : c.code = cc) (hK : va_K D cl [(cA, .int), (cZ, .boolean)] s) (hP : va_P D cl ws H) (q0 : Nat) {n : Nat} {f : Nat → Int32} (ha : ws[q0]? = some (a0, .inl (cZ, n, .inl f))) {i v : Int32} (hv : hw_rd n f i = some v) (hdg : decode cc pc = .ok (.baload, 1)) (kk : W p l e R s m args below meth c H locs cells slots Q (F0 m (pc + 1) ls (.int v :: rest))) : W p l e R s m args below meth c H locs cells slots Q (F0 m pc ls (.int i :: .ref a0 :: rest)) := by
  obtain ⟨h1, rfl⟩ := hw_rd_some hv
  exact va_zald hx hb hK hP q0 1 ha rfl h1 hdg kk
theorem hw_zast {H0 : Heap} (hx : p.tables.exec = Jvm.exec) (hb : c.code = cc) (hK : va_K D cl [(cA, .int), (cZ, .boolean)] s) (hP : va_P D cl ws H) (hD : va_D A ws) (hS : va_S A H0 H locs) (q0 : Nat) {n : Nat} {f g : Nat → Int32} (ha : ws[q0]? = some (a0, .inl (cZ, n, .inl f))) {i x : Int32} (hv : hw_wz n f i x = some g) (hdg : decode cc pc = .ok (.bastore, 1)) (kk : ∀ (H1 : Heap) (locs1 : List Loc), va_P D cl (ws.set q0 (a0, .inl (cZ, n, .inl g))) H1 → va_D A (ws.set q0 (a0, .inl (cZ, n, .inl g))) → va_S A H0 H1 locs1 → W p l e R s m args below meth c H1 locs1 cells slots Q (F0 m (pc + 1) ls rest)) : W p l e R s m args below meth c H locs cells slots Q (F0 m pc ls (.int x :: .int i :: .ref a0 :: rest)) := by
  obtain ⟨h1, rfl⟩ := hw_wz_some hv
  exact va_zast hx hb hK hP hD hS q0 1 ha rfl h1 hdg kk
theorem hw_newz {H0 : Heap} (hx : p.tables.exec = Jvm.exec) (hb : c.code = cc) {atype : ArrayType} (harr : (Cond.arrayClass (newarray.typeOf atype)).before args s = true) (hty : newarray.typeOf atype = .boolean) (hK : va_K D cl [(cA, .int), (cZ, .boolean)] s) (hP : va_P D cl ws H) (hD : va_D A ws) (hS : va_S A H0 H locs) (hA : ∀ q, H0.size ≤ q → A q) {n : Int32} (N : Nat) (hn : ¬ n < 0) (hN : n.toNatClampNeg = N) (hbytes : N * componentBytes .boolean ≤ 536870912) (hcells : cells + 1 ≤ R.cells) (hslots : slots + N ≤ R.slots) (hdg : decode cc pc = .ok (.newarray atype, 2)) (kk : ∀ (q : Nat) (H1 : Heap), va_P D cl (ws ++ [(q, .inl (cZ, N, .inl (fun _ => 0)))]) H1 → va_D A (ws ++ [(q, .inl (cZ, N, .inl (fun _ => 0)))]) → va_S A H0 H1 locs → W p l e R s m args below meth c H1 locs (cells + 1) (slots + N) Q (F0 m (pc + 2) ls (.ref q :: rest))) : W p l e R s m args below meth c H locs cells slots Q (F0 m pc ls (.int n :: rest)) := by
  refine va_newa (a0 := (N, .inl (fun _ => 0))) hx hb harr hty hK hP hD hS hA (fun _ => rfl) hn hN hbytes hcells hslots hdg (fun q cB H1 hK1 hP1 hD1 hS1 => ?_)
  have h1 := (hK1.2 1 (cZ, .boolean) rfl).2
  have h2 := (hK1.2 2 (cB, .boolean) rfl).2
  have h3 : some cZ = some cB := h1.symm.trans h2
  cases h3
  exact kk q H1 hP1 hD1 hS1
theorem hw_mmin (hx : p.tables.exec = Jvm.exec) (hb : c.code = cc) (hml : c.maxLocals = ls.size) {own : String} {index : Nat} (hown : s.vm.findClass own = some m.cls) (hlink : (Cond.methodLink own index Lib.Math.min.name).before args s = true) (hstat : (Cond.static Lib.Math.min.name).before args s = true) (hini : (Cond.initialized "java/lang/Math").before args s = true) (hcode : (Cond.code Lib.Math.min.name Lib.Math.min.code 2 (some .int)).before args s = true) (hframes : 1 ≤ R.frames) (hlocals : (rest.map fun v => v.category).sum + 13 ≤ R.locals) (hc : cells ≤ R.cells) (hs : slots ≤ R.slots) {x y : Int32} (hdg : decode cc pc = .ok (.invokestatic index, 3)) (kk : W p l e R s m args below meth c H locs cells slots Q (F0 m (pc + 3) ls (.int (hw_min x y) :: rest))) : W p l e R s m args below meth c H locs cells slots Q (F0 m pc ls (.int y :: .int x :: rest)) :=
  va_mmin hx hb hml hown hlink hstat hini hcode hframes hlocals hc hs hdg kk
theorem hw_mmax (hx : p.tables.exec = Jvm.exec) (hb : c.code = cc) (hml : c.maxLocals = ls.size) {own : String} {index : Nat} (hown : s.vm.findClass own = some m.cls) (hlink : (Cond.methodLink own index Lib.Math.max.name).before args s = true) (hstat : (Cond.static Lib.Math.max.name).before args s = true) (hini : (Cond.initialized "java/lang/Math").before args s = true) (hcode : (Cond.code Lib.Math.max.name Lib.Math.max.code 2 (some .int)).before args s = true) (hframes : 1 ≤ R.frames) (hlocals : (rest.map fun v => v.category).sum + 13 ≤ R.locals) (hc : cells ≤ R.cells) (hs : slots ≤ R.slots) {x y : Int32} (hdg : decode cc pc = .ok (.invokestatic index, 3)) (kk : W p l e R s m args below meth c H locs cells slots Q (F0 m (pc + 3) ls (.int (hw_max x y) :: rest))) : W p l e R s m args below meth c H locs cells slots Q (F0 m pc ls (.int y :: .int x :: rest)) :=
  va_mmax hx hb hml hown hlink hstat hini hcode hframes hlocals hc hs hdg kk
theorem hw_iushr (hx : p.tables.exec = Jvm.exec) (hb : c.code = cc) {x y : Int32} (hdg : decode cc pc = .ok (.iushr, 1)) (k : W p l e R s m args below meth c H locs cells slots Q (F0 m (pc + 1) ls (.int (hw_ushr x y) :: rest))) : W p l e R s m args below meth c H locs cells slots Q (F0 m pc ls (.int y :: .int x :: rest)) :=
  lv_iushr hx hb hdg rfl k
variable {β : Type} {f1 f2 : Option β} {res : β} {off : Int} {tgt : Nat}
theorem hi_icmp_eq (hx : p.tables.exec = Jvm.exec) (hb : c.code = cc) {x y : Int32} (hdg : decode cc pc = .ok (.if_icmp .eq off, 3)) (ht : (pc : Int) + off = (tgt : Int)) (hf : (if x = y then f1 else f2) = some res) (kt : x = y → f1 = some res → W p l e R s m args below meth c H locs cells slots Q (F0 m tgt ls rest)) (kf : ¬ x = y → f2 = some res → W p l e R s m args below meth c H locs cells slots Q (F0 m (pc + 3) ls rest)) : W p l e R s m args below meth c H locs cells slots Q (F0 m pc ls (.int y :: .int x :: rest)) := lv_icmp_eq hx hb hdg ht (fun hc => kt hc ((if_pos hc).symm.trans hf)) (fun hc => kf hc ((if_neg hc).symm.trans hf))
theorem hi_icmp_ne (hx : p.tables.exec = Jvm.exec) (hb : c.code = cc) {x y : Int32} (hdg : decode cc pc = .ok (.if_icmp .ne off, 3)) (ht : (pc : Int) + off = (tgt : Int)) (hf : (if x = y then f2 else f1) = some res) (kt : ¬ x = y → f1 = some res → W p l e R s m args below meth c H locs cells slots Q (F0 m tgt ls rest)) (kf : x = y → f2 = some res → W p l e R s m args below meth c H locs cells slots Q (F0 m (pc + 3) ls rest)) : W p l e R s m args below meth c H locs cells slots Q (F0 m pc ls (.int y :: .int x :: rest)) := lv_icmp_ne hx hb hdg ht (fun hc => kt hc ((if_neg hc).symm.trans hf)) (fun hc => kf hc ((if_pos hc).symm.trans hf))
theorem hi_icmp_lt (hx : p.tables.exec = Jvm.exec) (hb : c.code = cc) {x y : Int32} (hdg : decode cc pc = .ok (.if_icmp .lt off, 3)) (ht : (pc : Int) + off = (tgt : Int)) (hf : (if x < y then f1 else f2) = some res) (kt : x < y → f1 = some res → W p l e R s m args below meth c H locs cells slots Q (F0 m tgt ls rest)) (kf : ¬ x < y → f2 = some res → W p l e R s m args below meth c H locs cells slots Q (F0 m (pc + 3) ls rest)) : W p l e R s m args below meth c H locs cells slots Q (F0 m pc ls (.int y :: .int x :: rest)) := lv_icmp_lt hx hb hdg ht (fun hc => kt hc ((if_pos hc).symm.trans hf)) (fun hc => kf hc ((if_neg hc).symm.trans hf))
theorem hi_icmp_ge (hx : p.tables.exec = Jvm.exec) (hb : c.code = cc) {x y : Int32} (hdg : decode cc pc = .ok (.if_icmp .ge off, 3)) (ht : (pc : Int) + off = (tgt : Int)) (hf : (if y ≤ x then f1 else f2) = some res) (kt : y ≤ x → f1 = some res → W p l e R s m args below meth c H locs cells slots Q (F0 m tgt ls rest)) (kf : ¬ y ≤ x → f2 = some res → W p l e R s m args below meth c H locs cells slots Q (F0 m (pc + 3) ls rest)) : W p l e R s m args below meth c H locs cells slots Q (F0 m pc ls (.int y :: .int x :: rest)) := lv_icmp_ge hx hb hdg ht (fun hc => kt hc ((if_pos hc).symm.trans hf)) (fun hc => kf hc ((if_neg hc).symm.trans hf))
theorem hi_icmp_gt (hx : p.tables.exec = Jvm.exec) (hb : c.code = cc) {x y : Int32} (hdg : decode cc pc = .ok (.if_icmp .gt off, 3)) (ht : (pc : Int) + off = (tgt : Int)) (hf : (if y < x then f1 else f2) = some res) (kt : y < x → f1 = some res → W p l e R s m args below meth c H locs cells slots Q (F0 m tgt ls rest)) (kf : ¬ y < x → f2 = some res → W p l e R s m args below meth c H locs cells slots Q (F0 m (pc + 3) ls rest)) : W p l e R s m args below meth c H locs cells slots Q (F0 m pc ls (.int y :: .int x :: rest)) := lv_icmp_gt hx hb hdg ht (fun hc => kt hc ((if_pos hc).symm.trans hf)) (fun hc => kf hc ((if_neg hc).symm.trans hf))
theorem hi_icmp_le (hx : p.tables.exec = Jvm.exec) (hb : c.code = cc) {x y : Int32} (hdg : decode cc pc = .ok (.if_icmp .le off, 3)) (ht : (pc : Int) + off = (tgt : Int)) (hf : (if x ≤ y then f1 else f2) = some res) (kt : x ≤ y → f1 = some res → W p l e R s m args below meth c H locs cells slots Q (F0 m tgt ls rest)) (kf : ¬ x ≤ y → f2 = some res → W p l e R s m args below meth c H locs cells slots Q (F0 m (pc + 3) ls rest)) : W p l e R s m args below meth c H locs cells slots Q (F0 m pc ls (.int y :: .int x :: rest)) := lv_icmp_le hx hb hdg ht (fun hc => kt hc ((if_pos hc).symm.trans hf)) (fun hc => kf hc ((if_neg hc).symm.trans hf))
theorem hi_if_eq (hx : p.tables.exec = Jvm.exec) (hb : c.code = cc) {x : Int32} (hdg : decode cc pc = .ok (.ifCond .eq off, 3)) (ht : (pc : Int) + off = (tgt : Int)) (hf : (if x = 0 then f1 else f2) = some res) (kt : x = 0 → f1 = some res → W p l e R s m args below meth c H locs cells slots Q (F0 m tgt ls rest)) (kf : ¬ x = 0 → f2 = some res → W p l e R s m args below meth c H locs cells slots Q (F0 m (pc + 3) ls rest)) : W p l e R s m args below meth c H locs cells slots Q (F0 m pc ls (.int x :: rest)) := lv_if_eq hx hb hdg ht (fun hc => kt hc ((if_pos hc).symm.trans hf)) (fun hc => kf hc ((if_neg hc).symm.trans hf))
theorem hi_if_ne (hx : p.tables.exec = Jvm.exec) (hb : c.code = cc) {x : Int32} (hdg : decode cc pc = .ok (.ifCond .ne off, 3)) (ht : (pc : Int) + off = (tgt : Int)) (hf : (if x = 0 then f2 else f1) = some res) (kt : ¬ x = 0 → f1 = some res → W p l e R s m args below meth c H locs cells slots Q (F0 m tgt ls rest)) (kf : x = 0 → f2 = some res → W p l e R s m args below meth c H locs cells slots Q (F0 m (pc + 3) ls rest)) : W p l e R s m args below meth c H locs cells slots Q (F0 m pc ls (.int x :: rest)) := lv_if_ne hx hb hdg ht (fun hc => kt hc ((if_neg hc).symm.trans hf)) (fun hc => kf hc ((if_pos hc).symm.trans hf))
theorem hi_if_lt (hx : p.tables.exec = Jvm.exec) (hb : c.code = cc) {x : Int32} (hdg : decode cc pc = .ok (.ifCond .lt off, 3)) (ht : (pc : Int) + off = (tgt : Int)) (hf : (if x < 0 then f1 else f2) = some res) (kt : x < 0 → f1 = some res → W p l e R s m args below meth c H locs cells slots Q (F0 m tgt ls rest)) (kf : ¬ x < 0 → f2 = some res → W p l e R s m args below meth c H locs cells slots Q (F0 m (pc + 3) ls rest)) : W p l e R s m args below meth c H locs cells slots Q (F0 m pc ls (.int x :: rest)) := lv_if_lt hx hb hdg ht (fun hc => kt hc ((if_pos hc).symm.trans hf)) (fun hc => kf hc ((if_neg hc).symm.trans hf))
theorem hi_if_ge (hx : p.tables.exec = Jvm.exec) (hb : c.code = cc) {x : Int32} (hdg : decode cc pc = .ok (.ifCond .ge off, 3)) (ht : (pc : Int) + off = (tgt : Int)) (hf : (if 0 ≤ x then f1 else f2) = some res) (kt : 0 ≤ x → f1 = some res → W p l e R s m args below meth c H locs cells slots Q (F0 m tgt ls rest)) (kf : ¬ 0 ≤ x → f2 = some res → W p l e R s m args below meth c H locs cells slots Q (F0 m (pc + 3) ls rest)) : W p l e R s m args below meth c H locs cells slots Q (F0 m pc ls (.int x :: rest)) := lv_if_ge hx hb hdg ht (fun hc => kt hc ((if_pos hc).symm.trans hf)) (fun hc => kf hc ((if_neg hc).symm.trans hf))
theorem hi_if_gt (hx : p.tables.exec = Jvm.exec) (hb : c.code = cc) {x : Int32} (hdg : decode cc pc = .ok (.ifCond .gt off, 3)) (ht : (pc : Int) + off = (tgt : Int)) (hf : (if 0 < x then f1 else f2) = some res) (kt : 0 < x → f1 = some res → W p l e R s m args below meth c H locs cells slots Q (F0 m tgt ls rest)) (kf : ¬ 0 < x → f2 = some res → W p l e R s m args below meth c H locs cells slots Q (F0 m (pc + 3) ls rest)) : W p l e R s m args below meth c H locs cells slots Q (F0 m pc ls (.int x :: rest)) := lv_if_gt hx hb hdg ht (fun hc => kt hc ((if_pos hc).symm.trans hf)) (fun hc => kf hc ((if_neg hc).symm.trans hf))
theorem hi_if_le (hx : p.tables.exec = Jvm.exec) (hb : c.code = cc) {x : Int32} (hdg : decode cc pc = .ok (.ifCond .le off, 3)) (ht : (pc : Int) + off = (tgt : Int)) (hf : (if x ≤ 0 then f1 else f2) = some res) (kt : x ≤ 0 → f1 = some res → W p l e R s m args below meth c H locs cells slots Q (F0 m tgt ls rest)) (kf : ¬ x ≤ 0 → f2 = some res → W p l e R s m args below meth c H locs cells slots Q (F0 m (pc + 3) ls rest)) : W p l e R s m args below meth c H locs cells slots Q (F0 m pc ls (.int x :: rest)) := lv_if_le hx hb hdg ht (fun hc => kt hc ((if_pos hc).symm.trans hf)) (fun hc => kf hc ((if_neg hc).symm.trans hf))
end HW3
section HW4
variable {p : Program} {l : Launch} {e : Env} {R : Room} {s : State} {m : MethodId} {args : Array Value} {below : List Frame} {meth : Method} {c : Code} {H : Heap} {locs : List Loc} {cells slots : Nat} {Q : State → Prop}
variable {cc : ByteArray} {pc : Nat} {ls : Array Slot} {rest st0 : List Value} {D : va_G} {cl : List vw_C} {cA cZ : ClassId} {A : Nat → Prop} {ws wc wr w1 : va_W} {a : Array Value} {r : Option Value} {H0 : Heap}
theorem hw_go (hr : va_Run p l e R s m args below meth c H locs cells slots 0 0 (F0 m pc ls st0) rest (hw_Q D cl (va_A wc H.size) w1 r a) (va_A wc H.size)) (isC isR : List Nat) (hC : isC.map (fun i => ws[i]?) = wc.map some) (hR : isR.map (fun i => ws[i]?) = wr.map some) (hn : va_nd isR = true) (hdis : ∀ i ∈ isR, i ∉ isC) (hP : va_P D cl ws H) (hD : va_D A ws) (hS : va_S A H0 H locs) (hA : ∀ q, H0.size ≤ q → A q)
    (kk : ∀ (H1 : Heap) (locs1 : List Loc), va_P D cl (wr ++ w1) H1 → va_D A (wr ++ w1) → va_S A H0 H1 locs1 → W p l e R s m args below meth c H1 locs1 cells slots Q (F0 m (pc + 3) ls (r.toList ++ rest))) : W p l e R s m args below meth c H locs cells slots Q (F0 m pc ls st0) := by
  have hF := va_free hD hS hA isC hC
  intro T hT X
  obtain ⟨v, st₀, t, T', L, h0, X', hL, e1, e2, ⟨hv, hP1, hD1, hz, hk⟩, st⟩ := hr T hT X
  cases hv
  rw [h0] at hz hk
  have hk1 : ∀ q : Nat, q < H.size → ¬ va_A wc H.size q → T'.heap[q]? = H[q]? := fun q h1 h2 => by rw [e1]; exact hk q h1 h2
  have hz1 : H.size ≤ T'.heap.size := by rw [e1]; exact hz
  obtain ⟨hP2, hD2⟩ := va_join (wr := wr) (w1 := w1) hP hD isC isR hC hR hn hdis hk1 hF (by rw [e1]; exact hP1) hD1
  obtain ⟨t2, a1, b1⟩ := kk T'.heap (locs ++ L) hP2 hD2 ⟨Nat.le_trans hS.1 hz1, fun q h1 h2 => by
      rw [hk1 q (Nat.lt_of_lt_of_le h1 hS.1) (fun z => h2 (hF q z))]; exact hS.2.1 q h1 h2, fun q hq => by
      rcases List.mem_append.mp hq with h | h
      · exact hS.2.2 q h
      · exact hF _ (hL q h)⟩ T' rfl X'
  exact ⟨t2, st t2 a1, b1⟩
theorem hw_goN {w1 : (Nat → Nat) → va_W} {mc ms : Nat} (hr : va_Run p l e R s m args below meth c H locs cells slots mc ms (F0 m pc ls st0) rest (hw_QN D cl (va_A wc H.size) w1 r a) (va_A wc H.size)) (isC isR : List Nat) (hC : isC.map (fun i => ws[i]?) = wc.map some) (hR : isR.map (fun i => ws[i]?) = wr.map some) (hn : va_nd isR = true) (hdis : ∀ i ∈ isR, i ∉ isC) (hP : va_P D cl ws H) (hD : va_D A ws) (hS : va_S A H0 H locs) (hA : ∀ q, H0.size ≤ q → A q)
    (kk : ∀ (u : Nat → Nat) (H1 : Heap) (locs1 : List Loc), va_P D cl (wr ++ w1 u) H1 → va_D A (wr ++ w1 u) → va_S A H0 H1 locs1 → W p l e R s m args below meth c H1 locs1 (cells + mc) (slots + ms) Q (F0 m (pc + 3) ls (r.toList ++ rest))) : W p l e R s m args below meth c H locs cells slots Q (F0 m pc ls st0) := by
  have hF := va_free hD hS hA isC hC
  intro T hT X
  obtain ⟨v, st₀, t, T', L, h0, X', hL, e1, e2, ⟨hv, ⟨u, hP1, hD1⟩, hz, hk⟩, st⟩ := hr T hT X
  cases hv
  rw [h0] at hz hk
  have hk1 : ∀ q : Nat, q < H.size → ¬ va_A wc H.size q → T'.heap[q]? = H[q]? := fun q h1 h2 => by rw [e1]; exact hk q h1 h2
  have hz1 : H.size ≤ T'.heap.size := by rw [e1]; exact hz
  obtain ⟨hP2, hD2⟩ := va_join (wr := wr) (w1 := w1 u) hP hD isC isR hC hR hn hdis hk1 hF (by rw [e1]; exact hP1) hD1
  obtain ⟨t2, a1, b1⟩ := kk u T'.heap (locs ++ L) hP2 hD2 ⟨Nat.le_trans hS.1 hz1, fun q h1 h2 => by
      rw [hk1 q (Nat.lt_of_lt_of_le h1 hS.1) (fun z => h2 (hF q z))]; exact hS.2.1 q h1 h2, fun q hq => by
      rcases List.mem_append.mp hq with h | h
      · exact hS.2.2 q h
      · exact hF _ (hL q h)⟩ T' rfl X'
  exact ⟨t2, st t2 a1, b1⟩
theorem hw_preS {As : List Value} (isC : List Nat) (hnC : va_nd isC = true) (hC : isC.map (fun i => ws[i]?) = wc.map some) (hK : va_K D cl [(cA, .int), (cZ, .boolean)] s) (hE : hw_NE s) (hP : va_P D cl ws H) (hD : va_D A ws) : PreS s H (hw_pre D cl cA cZ H.size As wc) As := by
  have hPc : va_P D cl wc H := by
    intro k q hk
    have h1 : (wc.map some)[k]? = some (some q) := by rw [List.getElem?_map, hk]; rfl
    rw [← hC, List.getElem?_map] at h1
    cases h2 : isC[k]? with
    | none => rw [h2] at h1; cases h1
    | some i =>
      rw [h2] at h1
      exact hP i q (Option.some.inj h1)
  refine ⟨fun a U g mk q => ?_, fun U hU hW => ⟨rfl, by rw [hU], by rw [hU]; exact hPc, va_K.moved hW.alike hK, (hD.sub isC hnC hC).weaken (fun _ _ _ _ => trivial), hE.warm hW⟩⟩
  obtain ⟨q0, q1, qP, qK, qD, qE⟩ := q
  exact ⟨q0, q1, qP, va_K.moved (u := U) (U := U.calling g mk a) (Vm.Alike.refl U.vm) qK, qD, hw_NE.same (s := U) (U := U.calling g mk a) rfl qE⟩
variable {Ts : List Cond} {own host : String} {nL index maxL n : Nat} {y : MethodName} {bytes : ByteArray} {ret : Option FieldType} {wy : List Cond} {rm : Room} {As : List Value} {b : Nat}
theorem hw_goS (S : CallFix p m c cc nL s args Ts own) (hM : hw_C l y wy rm D cl cA cZ As wc w1 r) (cw : CallB R s args own index y bytes maxL ret wy rm 0 0 n ∧ (Cond.static y).before args s = true) (isC isR : List Nat) (hC : isC.map (fun i => ws[i]?) = wc.map some) (hR : isR.map (fun i => ws[i]?) = wr.map some) (hnC : va_nd isC = true) (hnR : va_nd isR = true) (hdis : ∀ i ∈ isR, i ∉ isC) (hK : va_K D cl [(cA, .int), (cZ, .boolean)] s) (hE : hw_NE s) (hP : va_P D cl ws H) (hD : va_D A ws) (hS : va_S A H0 H locs) (hA : ∀ q, H0.size ≤ q → A q) (hsize : ls.size = nL) (hn : As.length = n) (hst : st0 = As.reverse ++ rest) (hW : (rest.map fun v => v.category).sum ≤ 8) (hdg : decode cc pc = .ok (.invokestatic index, 3)) (hf : cells ≤ R.cells ∧ slots ≤ R.slots)
    (kk : ∀ (H1 : Heap) (locs1 : List Loc), va_P D cl (wr ++ w1) H1 → va_D A (wr ++ w1) → va_S A H0 H1 locs1 → W p l e R s m args below meth c H1 locs1 cells slots Q (F0 m (pc + 3) ls (r.toList ++ rest))) : W p l e R s m args below meth c H locs cells slots Q (F0 m pc ls st0) :=
  hw_go (va_runS S (hM H.size) cw (hw_preS isC hnC hC hK hE hP hD) rfl hn hsize hst (lv_room hW) hdg hf) isC isR hC hR hnR hdis hP hD hS hA kk
theorem hw_goSN (S : CallFix p m c cc nL s args Ts own) (hM : hw_C l y wy rm D cl cA cZ As wc w1 r) (cw : va_CN R s args own index y host bytes maxL ret wy rm 0 0 n ∧ (Cond.static y).before args s = true ∧ True) (isC isR : List Nat) (hC : isC.map (fun i => ws[i]?) = wc.map some) (hR : isR.map (fun i => ws[i]?) = wr.map some) (hnC : va_nd isC = true) (hnR : va_nd isR = true) (hdis : ∀ i ∈ isR, i ∉ isC) (hK : va_K D cl [(cA, .int), (cZ, .boolean)] s) (hE : hw_NE s) (hP : va_P D cl ws H) (hD : va_D A ws) (hS : va_S A H0 H locs) (hA : ∀ q, H0.size ≤ q → A q) (hsize : ls.size = nL) (hn : As.length = n) (hst : st0 = As.reverse ++ rest) (hW : (rest.map fun v => v.category).sum ≤ 8) (hdg : decode cc pc = .ok (.invokestatic index, 3)) (hf : cells ≤ R.cells ∧ slots ≤ R.slots)
    (kk : ∀ (H1 : Heap) (locs1 : List Loc), va_P D cl (wr ++ w1) H1 → va_D A (wr ++ w1) → va_S A H0 H1 locs1 → W p l e R s m args below meth c H1 locs1 cells slots Q (F0 m (pc + 3) ls (r.toList ++ rest))) : W p l e R s m args below meth c H locs cells slots Q (F0 m pc ls st0) :=
  hw_go (va_runSN S (hM H.size) cw (hw_preS isC hnC hC hK hE hP hD) rfl hn hsize hst (lv_room hW) hdg hf) isC isR hC hR hnR hdis hP hD hS hA kk
theorem hw_goV {C : String} {T : u_T} {N ci : Nat} {fs : List Value} (S : CallFix p m c cc nL s args Ts own) (hM : hw_C l y wy rm D cl cA cZ (.ref b :: As) wc w1 r) (cw : CallW R s args own C index y bytes maxL ret wy rm 0 0 n) (q0 : Nat) (hc : cl[ci]? = some (C, T, N)) (he : ws[q0]? = some (b, .inr (ci, fs))) (isC isR : List Nat) (hC : isC.map (fun i => ws[i]?) = wc.map some) (hR : isR.map (fun i => ws[i]?) = wr.map some) (hnC : va_nd isC = true) (hnR : va_nd isR = true) (hdis : ∀ i ∈ isR, i ∉ isC) (hK : va_K D cl [(cA, .int), (cZ, .boolean)] s) (hE : hw_NE s) (hP : va_P D cl ws H) (hD : va_D A ws) (hS : va_S A H0 H locs) (hA : ∀ q, H0.size ≤ q → A q) (hsize : ls.size = nL) (hn : As.length = n) (hst : st0 = As.reverse ++ .ref b :: rest) (hW : (rest.map fun v => v.category).sum ≤ 8) (hdg : decode cc pc = .ok (.invokevirtual index, 3)) (hf : cells ≤ R.cells ∧ slots ≤ R.slots)
    (kk : ∀ (H1 : Heap) (locs1 : List Loc), va_P D cl (wr ++ w1) H1 → va_D A (wr ++ w1) → va_S A H0 H1 locs1 → W p l e R s m args below meth c H1 locs1 cells slots Q (F0 m (pc + 3) ls (r.toList ++ rest))) : W p l e R s m args below meth c H locs cells slots Q (F0 m pc ls st0) :=
  hw_go (va_runV S (hM H.size) cw ⟨(hw_preS isC hnC hC hK hE hP hD).1, va_recv hK hP hc he, (hw_preS isC hnC hC hK hE hP hD).2⟩ rfl hn hsize hst (lv_room hW) hdg hf) isC isR hC hR hnR hdis hP hD hS hA kk
theorem hw_goVN {C : String} {T : u_T} {N ci : Nat} {fs : List Value} (S : CallFix p m c cc nL s args Ts own) (hM : hw_C l y wy rm D cl cA cZ (.ref b :: As) wc w1 r) (cw : va_CN R s args own index y host bytes maxL ret wy rm 0 0 n ∧ (Cond.instanceMethod y).before args s = true ∧ (Cond.selects C y y).before args s = true) (q0 : Nat) (hc : cl[ci]? = some (C, T, N)) (he : ws[q0]? = some (b, .inr (ci, fs))) (isC isR : List Nat) (hC : isC.map (fun i => ws[i]?) = wc.map some) (hR : isR.map (fun i => ws[i]?) = wr.map some) (hnC : va_nd isC = true) (hnR : va_nd isR = true) (hdis : ∀ i ∈ isR, i ∉ isC) (hK : va_K D cl [(cA, .int), (cZ, .boolean)] s) (hE : hw_NE s) (hP : va_P D cl ws H) (hD : va_D A ws) (hS : va_S A H0 H locs) (hA : ∀ q, H0.size ≤ q → A q) (hsize : ls.size = nL) (hn : As.length = n) (hst : st0 = As.reverse ++ .ref b :: rest) (hW : (rest.map fun v => v.category).sum ≤ 8) (hdg : decode cc pc = .ok (.invokevirtual index, 3)) (hf : cells ≤ R.cells ∧ slots ≤ R.slots)
    (kk : ∀ (H1 : Heap) (locs1 : List Loc), va_P D cl (wr ++ w1) H1 → va_D A (wr ++ w1) → va_S A H0 H1 locs1 → W p l e R s m args below meth c H1 locs1 cells slots Q (F0 m (pc + 3) ls (r.toList ++ rest))) : W p l e R s m args below meth c H locs cells slots Q (F0 m pc ls st0) :=
  hw_go (va_runVN S (hM H.size) cw ⟨(hw_preS isC hnC hC hK hE hP hD).1, va_recv hK hP hc he, (hw_preS isC hnC hC hK hE hP hD).2⟩ rfl hn hsize hst (lv_room hW) hdg hf) isC isR hC hR hnR hdis hP hD hS hA kk
theorem hw_goI {w1 : (Nat → Nat) → va_W} {mc ms : Nat} (S : CallFix p m c cc nL s args Ts own) (hM : hw_N l y wy rm D cl cA cZ (.ref b :: As) wc w1 r mc ms) (cw : CallB R s args own index y bytes maxL none wy rm mc ms n ∧ y.name = "<init>" ∧ (Cond.instanceMethod y).before args s = true) (isC isR : List Nat) (hC : isC.map (fun i => ws[i]?) = wc.map some) (hR : isR.map (fun i => ws[i]?) = wr.map some) (hnC : va_nd isC = true) (hnR : va_nd isR = true) (hdis : ∀ i ∈ isR, i ∉ isC) (hK : va_K D cl [(cA, .int), (cZ, .boolean)] s) (hE : hw_NE s) (hP : va_P D cl ws H) (hD : va_D A ws) (hS : va_S A H0 H locs) (hA : ∀ q, H0.size ≤ q → A q) (hsize : ls.size = nL) (hn : As.length = n) (hst : st0 = As.reverse ++ .ref b :: rest) (hW : (rest.map fun v => v.category).sum ≤ 8) (hdg : decode cc pc = .ok (.invokespecial index, 3)) (hf : cells + mc ≤ R.cells ∧ slots + ms ≤ R.slots)
    (kk : ∀ (u : Nat → Nat) (H1 : Heap) (locs1 : List Loc), va_P D cl (wr ++ w1 u) H1 → va_D A (wr ++ w1 u) → va_S A H0 H1 locs1 → W p l e R s m args below meth c H1 locs1 (cells + mc) (slots + ms) Q (F0 m (pc + 3) ls (r.toList ++ rest))) : W p l e R s m args below meth c H locs cells slots Q (F0 m pc ls st0) :=
  hw_goN (va_runI S (hM H.size) cw (hw_preS isC hnC hC hK hE hP hD) rfl hn hsize hst (lv_room hW) hdg hf) isC isR hC hR hnR hdis hP hD hS hA kk
end HW4
theorem ne_0 {U : State} (h : hw_NE U) : va_Nw (.methodLinkNest RX2 50 yX5_entryCells "SealedLedger") U := h (RX2, 50, yX5_entryCells, "SealedLedger") mn_0
theorem ne_1 {U : State} (h : hw_NE U) : va_Nw (.methodLinkNest RX2 75 yX5_mix "SealedLedger") U := h (RX2, 75, yX5_mix, "SealedLedger") mn_1
theorem ne_2 {U : State} (h : hw_NE U) : va_Nw (.methodLinkNest RX2 111 yX5_isAccount "SealedLedger") U := h (RX2, 111, yX5_isAccount, "SealedLedger") mn_2
theorem ne_3 {U : State} (h : hw_NE U) : va_Nw (.methodLinkNest RX2 115 yX5_isAmount "SealedLedger") U := h (RX2, 115, yX5_isAmount, "SealedLedger") mn_3
theorem ne_4 {U : State} (h : hw_NE U) : va_Nw (.methodLinkNest RX4 33 yX5_split "SealedLedger") U := h (RX4, 33, yX5_split, "SealedLedger") mn_4
theorem ne_5 {U : State} (h : hw_NE U) : va_Nw (.methodLinkNest RX4 36 yX5_node "SealedLedger") U := h (RX4, 36, yX5_node, "SealedLedger") mn_5
theorem ne_6 {U : State} (h : hw_NE U) : va_Nw (.methodLinkNest RX4 9 yX5_mix "SealedLedger") U := h (RX4, 9, yX5_mix, "SealedLedger") mn_6
theorem ne_7 {U : State} (h : hw_NE U) : va_Nw (.methodLinkNest RX3 44 yX5_split "SealedLedger") U := h (RX3, 44, yX5_split, "SealedLedger") mn_7
theorem ne_8 {U : State} (h : hw_NE U) : va_Nw (.methodLinkNest RX3 47 yX5_node "SealedLedger") U := h (RX3, 47, yX5_node, "SealedLedger") mn_8
theorem ks_X5_15 : GoodIn hw_all wX1_init := hw_gC mw_6
theorem ks_X5_22 : GoodIn hw_all wX2_init := hw_gC mw_11
theorem ks_X5_29 : GoodIn hw_all wX0_init := hw_gC mw_14
theorem ks_X5_36 : GoodIn hw_all wX3_init := hw_gC mw_17
theorem ks_X5_45 : GoodIn hw_all (wsS RX5 45 yX5_isAccount wX5_isAccount) := hw_gS mw_47 mw_48 mw_49 mw_46
theorem ks_X5_50 : GoodIn hw_all (wsS RX5 50 yX5_isAmount wX5_isAmount) := hw_gS mw_55 mw_56 mw_49 mw_52
theorem ks_X5_53 : GoodIn hw_all (wsV RX5 53 RX1 yX1_add wX1_add) := hw_gV mw_58 mw_59 mw_57 mw_22 mw_54
theorem ks_X5_57 : GoodIn hw_all (wsV RX5 57 RX1 yX1_clear wX1_clear) := hw_gV mw_63 mw_64 mw_62 mw_22 mw_61
theorem ks_X2_53 : GoodIn hw_all (wsS RX2 53 yX2_accountCell wX2_accountCell) := hw_gS mw_74 mw_75 mw_28 mw_72
theorem ks_X2_60 : GoodIn hw_all (wsS RX2 60 yX2_amountCell wX2_amountCell) := hw_gS mw_76 mw_77 mw_28 mw_73
theorem ks_X2_101 : GoodIn hw_all (wsV RX2 101 RX2 yX2_totalAt wX2_totalAt) := hw_gV mw_87 mw_88 mw_86 mw_28 mw_78
theorem ks_X5_157 : GoodIn hw_all (wsV RX5 157 RX1 yX1_size wX1_size) := hw_gV mw_92 mw_93 mw_91 mw_22 mw_69
theorem ks_X5_158 : GoodIn hw_all (wsV RX5 158 RX1 yX1_accountAt wX1_accountAt) := hw_gV mw_95 mw_96 mw_94 mw_22 mw_70
theorem ks_X5_99 : GoodIn hw_all (wsV RX5 99 RX2 yX2_size wX2_size) := hw_gV mw_98 mw_99 mw_97 mw_28 mw_71
theorem ks_X5_105 : GoodIn hw_all (wsV RX5 105 RX2 yX2_total wX2_total) := hw_gV mw_101 mw_102 mw_100 mw_28 mw_89
theorem ks_X5_161 : GoodIn hw_all (wsV RX5 161 RX1 yX1_change wX1_change) := hw_gV mw_104 mw_105 mw_103 mw_22 mw_90
theorem ks_X2_50 : GoodIn hw_all wX5_entryCells := hw_gC mw_107
theorem ks_X2_75 : GoodIn hw_all wX5_mix := hw_gC mw_115
theorem ks_X2_72 : GoodIn hw_all (wsV RX2 72 RX2 yX2_leafFrom wX2_leafFrom) := hw_gV mw_119 mw_120 mw_118 mw_28 mw_117
theorem ks_X2_44 : GoodIn hw_all (wsV RX2 44 RX1 yX1_size wX1_size) := hw_gV mw_122 mw_93 mw_91 mw_22 mw_69
theorem ks_X2_66 : GoodIn hw_all (wsV RX2 66 RX2 yX2_sealCell wX2_sealCell) := hw_gV mw_124 mw_125 mw_123 mw_28 mw_110
theorem ks_X2_69 : GoodIn hw_all (wsV RX2 69 RX2 yX2_lastSeal wX2_lastSeal) := hw_gV mw_127 mw_128 mw_126 mw_28 mw_112
theorem ks_X2_78 : GoodIn hw_all (wsV RX2 78 RX2 yX2_acceptNext wX2_acceptNext) := hw_gV mw_130 mw_131 mw_129 mw_28 mw_121
theorem ks_X2_57 : GoodIn hw_all (wsV RX2 57 RX1 yX1_accountAt wX1_accountAt) := hw_gV mw_132 mw_96 mw_94 mw_22 mw_70
theorem ks_X2_63 : GoodIn hw_all (wsV RX2 63 RX1 yX1_amountAt wX1_amountAt) := hw_gV mw_134 mw_135 mw_133 mw_22 mw_108
theorem ks_X5_150 : GoodIn hw_all (wsV RX5 150 RX5 yX5_isPoor wX5_isPoor) := hw_gV mw_138 mw_139 mw_137 mw_49 mw_106
theorem ks_X5_153 : GoodIn hw_all (wsV RX5 153 RX2 yX2_append wX2_append) := hw_gV mw_141 mw_142 mw_140 mw_28 mw_136
theorem ks_X5_60 : GoodIn hw_all (wsV RX5 60 RX1 yX1_isEven wX1_isEven) := hw_gV mw_146 mw_147 mw_145 mw_22 mw_66
theorem ks_X5_64 : GoodIn hw_all (wsV RX5 64 RX2 yX2_firstWith wX2_firstWith) := hw_gV mw_149 mw_150 mw_148 mw_28 mw_68
theorem ks_X5_71 : GoodIn hw_all (wsV RX5 71 RX2 yX2_hasLegsOf wX2_hasLegsOf) := hw_gV mw_152 mw_153 mw_151 mw_28 mw_144
theorem ks_X5_68 : GoodIn hw_all (wsV RX5 68 RX5 yX5_commitNew wX5_commitNew) := hw_gV mw_155 mw_156 mw_154 mw_49 mw_143
theorem ks_X2_31 : GoodIn hw_all (wsS RX2 31 yX2_blockOf wX2_blockOf) := hw_gS mw_160 mw_161 mw_28 mw_158
theorem ks_X0_22 : GoodIn hw_all (wsV RX0 22 RX2 yX2_cellAt wX2_cellAt) := hw_gV mw_168 mw_169 mw_167 mw_28 mw_164
theorem ks_X2_38 : GoodIn hw_all (wsV RX2 38 RX2 yX2_markSynced wX2_markSynced) := hw_gV mw_175 mw_176 mw_174 mw_28 mw_172
theorem ks_X2_41 : GoodIn hw_all (wsV RX2 41 RX2 yX2_clearBehindEnd wX2_clearBehindEnd) := hw_gV mw_178 mw_179 mw_177 mw_28 mw_173
theorem ks_X5_171 : GoodIn hw_all (wsV RX5 171 RX2 yX2_clear wX2_clear) := hw_gV mw_182 mw_183 mw_181 mw_28 mw_180
theorem ks_X5_164 : GoodIn hw_all (wsV RX5 164 RX0 yX0_write wX0_write) := hw_gV mw_186 mw_187 mw_185 mw_34 mw_170
theorem ks_X5_168 : GoodIn hw_all (wsV RX5 168 RX5 yX5_losePower wX5_losePower) := hw_gV mw_189 mw_190 mw_188 mw_49 mw_184
theorem ks_X5_75 : GoodIn hw_all (wsV RX5 75 RX2 yX2_syncedBlock wX2_syncedBlock) := hw_gV mw_193 mw_194 mw_192 mw_28 mw_162
theorem ks_X5_79 : GoodIn hw_all (wsV RX5 79 RX2 yX2_endBlock wX2_endBlock) := hw_gV mw_196 mw_197 mw_195 mw_28 mw_163
theorem ks_X5_85 : GoodIn hw_all (wsV RX5 85 RX2 yX2_markSynced wX2_markSynced) := hw_gV mw_198 mw_176 mw_174 mw_28 mw_172
theorem ks_X5_82 : GoodIn hw_all (wsV RX5 82 RX5 yX5_writeBlock wX5_writeBlock) := hw_gV mw_200 mw_201 mw_199 mw_49 mw_191
theorem ks_X5_88 : GoodIn hw_all (wsV RX5 88 RX0 yX0_failAt wX0_failAt) := hw_gV mw_205 mw_206 mw_204 mw_34 mw_203
theorem ks_X2_111 : GoodIn hw_all wX5_isAccount := hw_gC mw_46
theorem ks_X2_115 : GoodIn hw_all wX5_isAmount := hw_gC mw_52
theorem ks_X2_105 : GoodIn hw_all (wsV RX2 105 RX2 yX2_nextFits wX2_nextFits) := hw_gV mw_212 mw_213 mw_211 mw_28 mw_209
theorem ks_X2_108 : GoodIn hw_all (wsV RX2 108 RX2 yX2_nextLegsAreSound wX2_nextLegsAreSound) := hw_gV mw_215 mw_216 mw_214 mw_28 mw_210
theorem ks_X2_81 : GoodIn hw_all (wsV RX2 81 RX2 yX2_clear wX2_clear) := hw_gV mw_218 mw_183 mw_181 mw_28 mw_180
theorem ks_X2_84 : GoodIn hw_all (wsV RX2 84 RX0 yX0_cellAt wX0_cellAt) := hw_gV mw_220 mw_221 mw_219 mw_34 mw_208
theorem ks_X2_89 : GoodIn hw_all (wsV RX2 89 RX2 yX2_nextIsSound wX2_nextIsSound) := hw_gV mw_223 mw_224 mw_222 mw_28 mw_217
theorem ks_X5_92 : GoodIn hw_all (wsV RX5 92 RX2 yX2_load wX2_load) := hw_gV mw_228 mw_229 mw_227 mw_28 mw_225
theorem ks_X5_96 : GoodIn hw_all (wsV RX5 96 RX2 yX2_endsInBlock wX2_endsInBlock) := hw_gV mw_231 mw_232 mw_230 mw_28 mw_226
theorem ks_X5_102 : GoodIn hw_all (wsV RX5 102 RX2 yX2_syncedSize wX2_syncedSize) := hw_gV mw_238 mw_239 mw_237 mw_28 mw_236
theorem ks_X5_109 : GoodIn hw_all (wsV RX5 109 RX2 yX2_leafOf wX2_leafOf) := hw_gV mw_246 mw_247 mw_245 mw_28 mw_244
theorem ks_X5_174 : GoodIn hw_all (wsS RX5 174 yX5_mix wX5_mix) := hw_gS mw_250 mw_116 mw_49 mw_115
theorem ks_X4_27 : GoodIn hw_all (wsV RX4 27 RX2 yX2_leafOf wX2_leafOf) := hw_gV mw_252 mw_247 mw_245 mw_28 mw_244
theorem ks_X4_33 : GoodIn hw_all wX5_split := hw_gC mw_249
theorem ks_X4_13 : GoodIn hw_all (wsS RX4 13 yX4_hash wX4_hash) := hw_gS mw_255 mw_256 mw_257 mw_254
theorem ks_X4_36 : GoodIn hw_all wX5_node := hw_gC mw_251
theorem ks_X4_9 : GoodIn hw_all wX5_mix := hw_gC mw_115
theorem ks_X5_112 : GoodIn hw_all (va_wsS RX5 112 yX4_headOf wX4_headOf) := hw_gA mw_260 mw_261 mw_257 mw_259
theorem ks_X4_19 : GoodIn hw_all (wsS RX4 19 yX4_inclusion wX4_inclusion) := hw_gS mw_267 mw_268 mw_257 mw_266
theorem ks_X4_39 : GoodIn hw_all (wsV RX4 39 RX3 yX3_add wX3_add) := hw_gV mw_270 mw_271 mw_269 mw_40 mw_265
theorem ks_X5_118 : GoodIn hw_all (wsV RX5 118 RX3 yX3_clear wX3_clear) := hw_gV mw_275 mw_276 mw_274 mw_40 mw_264
theorem ks_X5_119 : GoodIn hw_all (va_wsS RX5 119 yX4_addInclusion wX4_addInclusion) := hw_gA mw_277 mw_278 mw_257 mw_272
theorem ks_X5_123 : GoodIn hw_all (wsV RX5 123 RX3 yX3_length wX3_length) := hw_gV mw_280 mw_281 mw_279 mw_40 mw_273
theorem ks_X4_23 : GoodIn hw_all (wsS RX4 23 yX4_consistency wX4_consistency) := hw_gS mw_284 mw_285 mw_257 mw_283
theorem ks_X5_126 : GoodIn hw_all (va_wsS RX5 126 yX4_addConsistency wX4_addConsistency) := hw_gA mw_287 mw_288 mw_257 mw_286
theorem ks_X5_129 : GoodIn hw_all (wsV RX5 129 RX3 yX3_add wX3_add) := hw_gV mw_290 mw_271 mw_269 mw_40 mw_265
theorem ks_X5_131 : GoodIn hw_all (wsV RX5 131 RX3 yX3_removeLast wX3_removeLast) := hw_gV mw_294 mw_295 mw_293 mw_40 mw_292
theorem ks_X5_134 : GoodIn hw_all (wsV RX5 134 RX3 yX3_intAt wX3_intAt) := hw_gV mw_299 mw_300 mw_298 mw_40 mw_297
theorem ks_X3_44 : GoodIn hw_all wX5_split := hw_gC mw_249
theorem ks_X3_34 : GoodIn hw_all (wsV RX3 34 RX3 yX3_intAt wX3_intAt) := hw_gV mw_303 mw_300 mw_298 mw_40 mw_297
theorem ks_X3_23 : GoodIn hw_all (wsS RX3 23 yX3_shownAbove wX3_shownAbove) := hw_gS mw_305 mw_306 mw_40 mw_304
theorem ks_X3_47 : GoodIn hw_all wX5_node := hw_gC mw_251
theorem ks_X3_19 : GoodIn hw_all (wsS RX3 19 yX3_inclusionLength wX3_inclusionLength) := hw_gS mw_307 mw_308 mw_40 mw_302
theorem ks_X5_137 : GoodIn hw_all (wsV RX5 137 RX3 yX3_showsInclusion wX3_showsInclusion) := hw_gV mw_311 mw_312 mw_310 mw_40 mw_309
theorem ks_X3_38 : GoodIn hw_all (wsS RX3 38 yX3_shownOld wX3_shownOld) := hw_gS mw_317 mw_318 mw_40 mw_316
theorem ks_X3_41 : GoodIn hw_all (wsS RX3 41 yX3_shownNew wX3_shownNew) := hw_gS mw_320 mw_321 mw_40 mw_319
theorem ks_X3_27 : GoodIn hw_all (wsS RX3 27 yX3_consistencySteps wX3_consistencySteps) := hw_gS mw_322 mw_323 mw_40 mw_314
theorem ks_X3_30 : GoodIn hw_all (wsS RX3 30 yX3_isOwn wX3_isOwn) := hw_gS mw_324 mw_325 mw_40 mw_315
theorem ks_X5_141 : GoodIn hw_all (wsV RX5 141 RX3 yX3_showsConsistency wX3_showsConsistency) := hw_gV mw_328 mw_329 mw_327 mw_40 mw_326
theorem ks_X5_144 : GoodIn hw_all (wsV RX5 144 RX0 yX0_cellAt wX0_cellAt) := hw_gV mw_331 mw_221 mw_219 mw_34 mw_208
theorem ks_X5_147 : GoodIn hw_all (wsV RX5 147 RX0 yX0_writesDone wX0_writesDone) := hw_gV mw_335 mw_336 mw_334 mw_34 mw_333
theorem ks_X6_55 : GoodIn hw_all (wsS RX6 55 yX6_mix wX6_mix) := hw_gS mw_358 mw_359 mw_360 mw_357
theorem ks_X6_59 : GoodIn hw_all (wsS RX6 59 yX6_isAccount wX6_isAccount) := hw_gS mw_363 mw_364 mw_360 mw_362
theorem ks_X6_72 : GoodIn hw_all (wsV RX6 72 RX6 yX6_leafOf wX6_leafOf) := hw_gV mw_373 mw_374 mw_372 mw_360 mw_371
theorem ks_X6_120 : GoodIn hw_all (wsV RX6 120 RX6 yX6_statement wX6_statement) := hw_gV mw_381 mw_382 mw_380 mw_360 mw_379
theorem ks_X6_79 : GoodIn hw_all (wsV RX6 79 RX6 yX6_balance wX6_balance) := hw_gV mw_385 mw_386 mw_384 mw_360 mw_383
theorem ks_X6_82 : GoodIn hw_all (wsV RX6 82 RX6 yX6_find wX6_find) := hw_gV mw_390 mw_391 mw_389 mw_360 mw_388
theorem ks_X6_88 : GoodIn hw_all (wsV RX6 88 RX6 yX6_total wX6_total) := hw_gV mw_393 mw_394 mw_392 mw_360 mw_377
theorem ks_X6_92 : GoodIn hw_all (wsV RX6 92 RX6 yX6_poor wX6_poor) := hw_gV mw_396 mw_397 mw_395 mw_360 mw_387
theorem ks_X6_85 : GoodIn hw_all (wsV RX6 85 RX6 yX6_sameLegs wX6_sameLegs) := hw_gV mw_399 mw_400 mw_398 mw_360 mw_376
theorem ks_X6_96 : GoodIn hw_all (wsV RX6 96 RX6 yX6_sealOf wX6_sealOf) := hw_gV mw_402 mw_403 mw_401 mw_360 mw_375
theorem ks_X6_105 : GoodIn hw_all (wsV RX6 105 RX6 yX6_logged wX6_logged) := hw_gV mw_410 mw_411 mw_409 mw_360 mw_405
theorem ks_X6_114 : GoodIn hw_all (wsV RX6 114 RX6 yX6_write wX6_write) := hw_gV mw_415 mw_416 mw_414 mw_360 mw_412
theorem ks_X6_117 : GoodIn hw_all (wsV RX6 117 RX6 yX6_sound wX6_sound) := hw_gV mw_421 mw_422 mw_420 mw_360 mw_419
theorem ks_X6_124 : GoodIn hw_all (wsS RX6 124 yX6_node wX6_node) := hw_gS mw_428 mw_429 mw_360 mw_361
theorem ks_X6_127 : GoodIn hw_all (wsV RX6 127 RX6 yX6_hash wX6_hash) := hw_gV mw_432 mw_433 mw_431 mw_360 mw_430
theorem ks_X6_133 : GoodIn hw_all (wsS RX6 133 yX6_part wX6_part) := hw_gS mw_438 mw_439 mw_360 mw_435
theorem ks_X6_136 : GoodIn hw_all (wsV RX6 136 RX6 yX6_lay wX6_lay) := hw_gV mw_441 mw_442 mw_440 mw_360 mw_437
