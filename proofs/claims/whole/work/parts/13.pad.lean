set_option maxHeartbeats 4000000 in
set_option maxRecDepth 100000 in
theorem cPd_init (l : Launch) (D : va_G) (cA cZ : ClassId) (h0 : Nat) : hw_N l yX3_init wX3_init { frames := 1, cells := 1, slots := 16, locals := 12 } D vwCl cA cZ [.ref h0] [(h0, .inr (3, [.null, .int 0]))] (fun u => [(h0, .inr (3, [.ref (u 0), .int 0])), ((u 0), .inl (cA, 16, .inl (fun _ => 0)))]) none 1 16 := by
  refine hw_ofN (cc := cX3_init) (maxL := 1) (ret := none) (by decide) rfl (Nat.le_of_ble_eq_true rfl) ?_
  intro p e s m args below meth c A ls hx hb hr hlk hml hown hin hts hA hK hE hP hD hS hl
  have hown : s.vm.findClass RX3 = some m.cls := hown
  have hin : meth.name = "<init>" := hin
  have hl : lv_has ls 1 [(0, .ref h0)] := hl
  refine lv_aload_n hx hb dX3_init_0 rfl (lv_at hl 0 rfl) ?_
  refine W.objInit hx hb hown (hts _ mw_15) (hts _ mw_1) (hts _ mw_2) rfl (by rw [hml]; exact hl.1) rfl dX3_init_1 (Nat.le_of_ble_eq_true rfl) (Nat.le_of_ble_eq_true rfl) ?_
  refine W.eq (g2 := F0 m 4 ls []) rfl ?_
  refine lv_aload_n hx hb dX3_init_4 rfl (lv_at hl 0 rfl) ?_
  refine lv_bipush (v := (16 : Int32)) hx hb dX3_init_5 (by decide) ?_
  refine hw_newa (atype := .int) hx hb (hts _ mw_3) rfl hK hP hD hS hA 16 (by decide) (by decide) (by decide) (Nat.le_of_ble_eq_true rfl) (Nat.le_of_ble_eq_true rfl) dX3_init_7 (fun z7 H (hP : va_P D vwCl [(h0, .inr (3, [.null, .int 0])), (z7, .inl (cA, 16, .inl (fun _ => 0)))] H) (hD : va_D A [(h0, .inr (3, [.null, .int 0])), (z7, .inl (cA, 16, .inl (fun _ => 0)))]) hS => ?_)
  refine va_putF (D := D) (ci := 3) (v := .ref z7) (ty := .array .int) (C := RX3) (T := TX3) (N := 2) hx hb hts in_X3 tyX3 tyX3_ok nX3 hown hK hP hD hS 0 rfl rfl 0 (by decide) (hts _ mw_16) (fun _ h9 => h9) rfl hin rfl (by decide +kernel) rfl rfl (Nat.le_of_ble_eq_true rfl) dX3_init_9 (fun H locs (hP : va_P D vwCl [(h0, .inr (3, [.ref z7, .int 0])), (z7, .inl (cA, 16, .inl (fun _ => 0)))] H) (hD : va_D A [(h0, .inr (3, [.ref z7, .int 0])), (z7, .inl (cA, 16, .inl (fun _ => 0)))]) hS => ?_)
  exact hw_rvN (fun k => [z7].getD k 0) hx hb hr hlk (hP.sub [0, 1] rfl) (hD.sub [0, 1] (by decide) rfl) hS dX3_init_12
set_option maxHeartbeats 4000000 in
set_option maxRecDepth 100000 in
theorem cPd_clear (l : Launch) (D : va_G) (cA cZ : ClassId) (h0 : Nat) (h0_ints : Nat) (x0_count : Int32) (ox0_count : Int32) (hf : fPd_clear x0_count = some ox0_count) : hw_C l yX3_clear wX3_clear { frames := 0, cells := 0, slots := 0, locals := 0 } D vwCl cA cZ [.ref h0] [(h0, .inr (3, [.ref h0_ints, .int x0_count]))] [(h0, .inr (3, [.ref h0_ints, .int ox0_count]))] none := by
  refine hw_of (cc := cX3_clear) (maxL := 1) (ret := none) (by decide) rfl (Nat.le_of_ble_eq_true rfl) ?_
  intro p e s m args below meth c A ls hx hb hr hlk hml hown hts hA hK hE hP hD hS hl
  have hown : s.vm.findClass RX3 = some m.cls := hown
  have hl : lv_has ls 1 [(0, .ref h0)] := hl
  rw [fPd_clear] at hf
  refine lv_aload_n hx hb dX3_clear_0 rfl (lv_at hl 0 rfl) ?_
  refine lv_iconst (v := (0 : Int32)) hx hb dX3_clear_1 (by decide) ?_
  refine va_put (D := D) (ci := 3) (v := .int (0 : Int32)) (ty := .int) (C := RX3) (T := TX3) (N := 2) hx hb hts in_X3 tyX3 tyX3_ok nX3 hown hK hP hD hS 0 rfl rfl 1 (by decide) (hts _ mw_263) (fun _ h9 => h9) rfl (by decide +kernel) rfl rfl (Nat.le_of_ble_eq_true rfl) dX3_clear_2 (fun H locs (hP : va_P D vwCl [(h0, .inr (3, [.ref h0_ints, .int (0 : Int32)]))] H) (hD : va_D A [(h0, .inr (3, [.ref h0_ints, .int (0 : Int32)]))]) hS => ?_)
  cases hf
  exact hw_rv hx hb hr hlk (hP.sub [0] rfl) (hD.sub [0] (by decide) rfl) hS dX3_clear_5
set_option maxHeartbeats 4000000 in
set_option maxRecDepth 100000 in
theorem cPd_add (l : Launch) (D : va_G) (cA cZ : ClassId) (h0 : Nat) (h0_ints : Nat) (x0_count : Int32) (g0_ints : Nat → Int32) (k1 : Int32) (rr : Int32) (ox0_count : Int32) (og0_ints : Nat → Int32) (hf : fPd_add x0_count g0_ints k1 = some (rr, ox0_count, og0_ints)) : hw_C l yX3_add wX3_add { frames := 0, cells := 0, slots := 0, locals := 0 } D vwCl cA cZ [.ref h0, .int k1] [(h0, .inr (3, [.ref h0_ints, .int x0_count])), (h0_ints, .inl (cA, 16, .inl g0_ints))] [(h0, .inr (3, [.ref h0_ints, .int ox0_count])), (h0_ints, .inl (cA, 16, .inl og0_ints))] (some (.int rr)) := by
  refine hw_of (cc := cX3_add) (maxL := 2) (ret := (some .boolean)) (by decide) rfl (Nat.le_of_ble_eq_true rfl) ?_
  intro p e s m args below meth c A ls hx hb hr hlk hml hown hts hA hK hE hP hD hS hl
  have hown : s.vm.findClass RX3 = some m.cls := hown
  have hl : lv_has ls 2 [(0, .ref h0), (1, .int k1)] := hl
  rw [fPd_add] at hf
  refine lv_aload_n hx hb dX3_add_0 rfl (lv_at hl 0 rfl) ?_
  refine va_get (D := D) (ci := 3) (v := .int x0_count) (C := RX3) (T := TX3) (N := 2) hx hb hts in_X3 hown hK hP 0 rfl rfl 1 (by decide) (hts _ mw_263) (fun _ h9 => h9) rfl dX3_add_1 ?_
  refine lv_bipush (v := (16 : Int32)) hx hb dX3_add_4 (by decide) ?_
  refine hi_icmp_lt (tgt := 11) hx hb dX3_add_6 rfl hf (fun hc hf => ?_) (fun hc hf => ?_)
  · refine lv_aload_n hx hb dX3_add_11 rfl (lv_at hl 0 rfl) ?_
    refine va_get (D := D) (ci := 3) (v := .ref h0_ints) (C := RX3) (T := TX3) (N := 2) hx hb hts in_X3 hown hK hP 0 rfl rfl 0 (by decide) (hts _ mw_16) (fun _ h9 => h9) rfl dX3_add_12 ?_
    refine lv_aload_n hx hb dX3_add_15 rfl (lv_at hl 0 rfl) ?_
    refine va_get (D := D) (ci := 3) (v := .int x0_count) (C := RX3) (T := TX3) (N := 2) hx hb hts in_X3 hown hK hP 0 rfl rfl 1 (by decide) (hts _ mw_263) (fun _ h9 => h9) rfl dX3_add_16 ?_
    refine lv_iload_n hx hb dX3_add_19 rfl (lv_at hl 1 rfl) ?_
    obtain ⟨u1, e2, hf⟩ := hw_bind hf
    refine hw_iast hx hb hK hP hD hS 1 rfl e2 dX3_add_20 (fun H locs (hP : va_P D vwCl [(h0, .inr (3, [.ref h0_ints, .int x0_count])), (h0_ints, .inl (cA, 16, .inl u1))] H) (hD : va_D A [(h0, .inr (3, [.ref h0_ints, .int x0_count])), (h0_ints, .inl (cA, 16, .inl u1))]) hS => ?_)
    refine lv_aload_n hx hb dX3_add_21 rfl (lv_at hl 0 rfl) ?_
    refine lv_dup hx hb dX3_add_22 rfl ?_
    refine va_get (D := D) (ci := 3) (v := .int x0_count) (C := RX3) (T := TX3) (N := 2) hx hb hts in_X3 hown hK hP 0 rfl rfl 1 (by decide) (hts _ mw_263) (fun _ h9 => h9) rfl dX3_add_23 ?_
    refine lv_iconst (v := (1 : Int32)) hx hb dX3_add_26 (by decide) ?_
    refine lv_iadd hx hb dX3_add_27 ?_
    refine va_put (D := D) (ci := 3) (v := .int (x0_count + (1 : Int32))) (ty := .int) (C := RX3) (T := TX3) (N := 2) hx hb hts in_X3 tyX3 tyX3_ok nX3 hown hK hP hD hS 0 rfl rfl 1 (by decide) (hts _ mw_263) (fun _ h9 => h9) rfl (by decide +kernel) rfl rfl (Nat.le_of_ble_eq_true rfl) dX3_add_28 (fun H locs (hP : va_P D vwCl [(h0, .inr (3, [.ref h0_ints, .int (x0_count + (1 : Int32))])), (h0_ints, .inl (cA, 16, .inl u1))] H) (hD : va_D A [(h0, .inr (3, [.ref h0_ints, .int (x0_count + (1 : Int32))])), (h0_ints, .inl (cA, 16, .inl u1))]) hS => ?_)
    refine lv_iconst (v := (1 : Int32)) hx hb dX3_add_31 (by decide) ?_
    cases hf
    exact hw_rz hx hb hr hlk rfl (hP.sub [0, 1] rfl) (hD.sub [0, 1] (by decide) rfl) hS dX3_add_32
  · refine lv_iconst (v := (0 : Int32)) hx hb dX3_add_9 (by decide) ?_
    cases hf
    exact hw_rz hx hb hr hlk rfl (hP.sub [0, 1] rfl) (hD.sub [0, 1] (by decide) rfl) hS dX3_add_10
set_option maxHeartbeats 4000000 in
set_option maxRecDepth 100000 in
theorem cPd_length (l : Launch) (D : va_G) (cA cZ : ClassId) (h0 : Nat) (h0_ints : Nat) (x0_count : Int32) (rr : Int32) (hf : fPd_length x0_count = some rr) : hw_C l yX3_length wX3_length { frames := 0, cells := 0, slots := 0, locals := 0 } D vwCl cA cZ [.ref h0] [(h0, .inr (3, [.ref h0_ints, .int x0_count]))] [(h0, .inr (3, [.ref h0_ints, .int x0_count]))] (some (.int rr)) := by
  refine hw_of (cc := cX3_length) (maxL := 1) (ret := (some .int)) (by decide) rfl (Nat.le_of_ble_eq_true rfl) ?_
  intro p e s m args below meth c A ls hx hb hr hlk hml hown hts hA hK hE hP hD hS hl
  have hown : s.vm.findClass RX3 = some m.cls := hown
  have hl : lv_has ls 1 [(0, .ref h0)] := hl
  rw [fPd_length] at hf
  refine lv_aload_n hx hb dX3_length_0 rfl (lv_at hl 0 rfl) ?_
  refine va_get (D := D) (ci := 3) (v := .int x0_count) (C := RX3) (T := TX3) (N := 2) hx hb hts in_X3 hown hK hP 0 rfl rfl 1 (by decide) (hts _ mw_263) (fun _ h9 => h9) rfl dX3_length_1 ?_
  cases hf
  exact hw_ri hx hb hr hlk (hP.sub [0] rfl) (hD.sub [0] (by decide) rfl) hS dX3_length_4
set_option maxHeartbeats 4000000 in
set_option maxRecDepth 100000 in
theorem cPd_removeLast (l : Launch) (D : va_G) (cA cZ : ClassId) (h0 : Nat) (h0_ints : Nat) (x0_count : Int32) (rr : Int32) (ox0_count : Int32) (hf : fPd_removeLast x0_count = some (rr, ox0_count)) : hw_C l yX3_removeLast wX3_removeLast { frames := 0, cells := 0, slots := 0, locals := 0 } D vwCl cA cZ [.ref h0] [(h0, .inr (3, [.ref h0_ints, .int x0_count]))] [(h0, .inr (3, [.ref h0_ints, .int ox0_count]))] (some (.int rr)) := by
  refine hw_of (cc := cX3_removeLast) (maxL := 1) (ret := (some .boolean)) (by decide) rfl (Nat.le_of_ble_eq_true rfl) ?_
  intro p e s m args below meth c A ls hx hb hr hlk hml hown hts hA hK hE hP hD hS hl
  have hown : s.vm.findClass RX3 = some m.cls := hown
  have hl : lv_has ls 1 [(0, .ref h0)] := hl
  rw [fPd_removeLast] at hf
  refine lv_aload_n hx hb dX3_removeLast_0 rfl (lv_at hl 0 rfl) ?_
  refine va_get (D := D) (ci := 3) (v := .int x0_count) (C := RX3) (T := TX3) (N := 2) hx hb hts in_X3 hown hK hP 0 rfl rfl 1 (by decide) (hts _ mw_263) (fun _ h9 => h9) rfl dX3_removeLast_1 ?_
  refine hi_if_gt (tgt := 9) hx hb dX3_removeLast_4 rfl hf (fun hc hf => ?_) (fun hc hf => ?_)
  · refine lv_aload_n hx hb dX3_removeLast_9 rfl (lv_at hl 0 rfl) ?_
    refine lv_dup hx hb dX3_removeLast_10 rfl ?_
    refine va_get (D := D) (ci := 3) (v := .int x0_count) (C := RX3) (T := TX3) (N := 2) hx hb hts in_X3 hown hK hP 0 rfl rfl 1 (by decide) (hts _ mw_263) (fun _ h9 => h9) rfl dX3_removeLast_11 ?_
    refine lv_iconst (v := (1 : Int32)) hx hb dX3_removeLast_14 (by decide) ?_
    refine lv_isub hx hb dX3_removeLast_15 ?_
    refine va_put (D := D) (ci := 3) (v := .int (x0_count - (1 : Int32))) (ty := .int) (C := RX3) (T := TX3) (N := 2) hx hb hts in_X3 tyX3 tyX3_ok nX3 hown hK hP hD hS 0 rfl rfl 1 (by decide) (hts _ mw_263) (fun _ h9 => h9) rfl (by decide +kernel) rfl rfl (Nat.le_of_ble_eq_true rfl) dX3_removeLast_16 (fun H locs (hP : va_P D vwCl [(h0, .inr (3, [.ref h0_ints, .int (x0_count - (1 : Int32))]))] H) (hD : va_D A [(h0, .inr (3, [.ref h0_ints, .int (x0_count - (1 : Int32))]))]) hS => ?_)
    refine lv_iconst (v := (1 : Int32)) hx hb dX3_removeLast_19 (by decide) ?_
    cases hf
    exact hw_rz hx hb hr hlk rfl (hP.sub [0] rfl) (hD.sub [0] (by decide) rfl) hS dX3_removeLast_20
  · refine lv_iconst (v := (0 : Int32)) hx hb dX3_removeLast_7 (by decide) ?_
    cases hf
    exact hw_rz hx hb hr hlk rfl (hP.sub [0] rfl) (hD.sub [0] (by decide) rfl) hS dX3_removeLast_8
set_option maxHeartbeats 4000000 in
set_option maxRecDepth 100000 in
theorem cPd_intAt (l : Launch) (D : va_G) (cA cZ : ClassId) (h0 : Nat) (h0_ints : Nat) (x0_count : Int32) (g0_ints : Nat → Int32) (k1 : Int32) (rr : Int32) (hf : fPd_intAt x0_count g0_ints k1 = some rr) : hw_C l yX3_intAt wX3_intAt { frames := 0, cells := 0, slots := 0, locals := 0 } D vwCl cA cZ [.ref h0, .int k1] [(h0, .inr (3, [.ref h0_ints, .int x0_count])), (h0_ints, .inl (cA, 16, .inl g0_ints))] [(h0, .inr (3, [.ref h0_ints, .int x0_count])), (h0_ints, .inl (cA, 16, .inl g0_ints))] (some (.int rr)) := by
  refine hw_of (cc := cX3_intAt) (maxL := 2) (ret := (some .int)) (by decide) rfl (Nat.le_of_ble_eq_true rfl) ?_
  intro p e s m args below meth c A ls hx hb hr hlk hml hown hts hA hK hE hP hD hS hl
  have hown : s.vm.findClass RX3 = some m.cls := hown
  have hl : lv_has ls 2 [(0, .ref h0), (1, .int k1)] := hl
  rw [fPd_intAt] at hf
  refine lv_iload_n hx hb dX3_intAt_0 rfl (lv_at hl 1 rfl) ?_
  refine hi_if_lt (tgt := 21) hx hb dX3_intAt_1 rfl hf (fun hc hf => ?_) (fun hc hf => ?_)
  · refine lv_iconst (v := (0 : Int32)) hx hb dX3_intAt_21 (by decide) ?_
    cases hf
    exact hw_ri hx hb hr hlk (hP.sub [0, 1] rfl) (hD.sub [0, 1] (by decide) rfl) hS dX3_intAt_22
  · refine lv_iload_n hx hb dX3_intAt_4 rfl (lv_at hl 1 rfl) ?_
    refine lv_aload_n hx hb dX3_intAt_5 rfl (lv_at hl 0 rfl) ?_
    refine va_get (D := D) (ci := 3) (v := .int x0_count) (C := RX3) (T := TX3) (N := 2) hx hb hts in_X3 hown hK hP 0 rfl rfl 1 (by decide) (hts _ mw_263) (fun _ h9 => h9) rfl dX3_intAt_6 ?_
    refine hi_icmp_ge (tgt := 21) hx hb dX3_intAt_9 rfl hf (fun hc hf => ?_) (fun hc hf => ?_)
    · refine lv_iconst (v := (0 : Int32)) hx hb dX3_intAt_21 (by decide) ?_
      cases hf
      exact hw_ri hx hb hr hlk (hP.sub [0, 1] rfl) (hD.sub [0, 1] (by decide) rfl) hS dX3_intAt_22
    · refine lv_aload_n hx hb dX3_intAt_12 rfl (lv_at hl 0 rfl) ?_
      refine va_get (D := D) (ci := 3) (v := .ref h0_ints) (C := RX3) (T := TX3) (N := 2) hx hb hts in_X3 hown hK hP 0 rfl rfl 0 (by decide) (hts _ mw_16) (fun _ h9 => h9) rfl dX3_intAt_13 ?_
      refine lv_iload_n hx hb dX3_intAt_16 rfl (lv_at hl 1 rfl) ?_
      obtain ⟨v1, e2, hf⟩ := hw_bind hf
      refine hw_iald hx hb hK hP 1 rfl e2 dX3_intAt_17 ?_
      refine lv_goto (tgt := 22) hx hb dX3_intAt_18 rfl ?_
      cases hf
      exact hw_ri hx hb hr hlk (hP.sub [0, 1] rfl) (hD.sub [0, 1] (by decide) rfl) hS dX3_intAt_22
set_option maxHeartbeats 4000000 in
set_option maxRecDepth 100000 in
theorem cPd_inclusionLength (l : Launch) (D : va_G) (cA cZ : ClassId) (k0 : Int32) (k1 : Int32) (rr : Int32) (hf : fPd_inclusionLength k0 k1 = some rr) : hw_C l yX3_inclusionLength wX3_inclusionLength { frames := 1, cells := 0, slots := 0, locals := 22 } D vwCl cA cZ [.int k0, .int k1] [] [] (some (.int rr)) := by
  refine hw_of (cc := cX3_inclusionLength) (maxL := 4) (ret := (some .int)) (by decide) rfl (Nat.le_of_ble_eq_true rfl) ?_
  intro p e s m args below meth c A ls hx hb hr hlk hml hown hts hA hK hE hP hD hS hl
  have hown : s.vm.findClass RX3 = some m.cls := hown
  have hl : lv_has ls 4 [(0, .int k0), (1, .int k1)] := hl
  have L2 : ∀ (n2 : Nat) (ls : Array Slot) (H : Heap) (locs : List Loc) (k0 : Int32) (k1 : Int32) (k2 : Int32), lv_has ls 4 [(0, .int k0), (1, .int k1), (2, .int k2)] → va_P D vwCl [] H → va_D A [] → va_S A s.heap H locs → fPd_inclusionLength_L2 n2 k0 k1 k2 = some rr → W p l e { frames := 1, cells := 0, slots := 0, locals := 22 } s m args below meth c H locs 0 0 (hw_Z below args s D vwCl A [] (some (.int rr))) (F0 m 2 ls []) := by
    intro n2
    induction n2 with
    | zero => intro ls H locs k0 k1 k2 hl hP hD hS hf; simp only [fPd_inclusionLength_L2] at hf; cases hf
    | succ n2 ih2 =>
      intro ls H locs k0 k1 k2 hl hP hD hS hf
      rw [fPd_inclusionLength_L2] at hf
      refine lv_iload_n hx hb dX3_inclusionLength_2 rfl (lv_at hl 1 rfl) ?_
      refine lv_iconst (v := (1 : Int32)) hx hb dX3_inclusionLength_3 (by decide) ?_
      refine hi_icmp_le (tgt := 42) hx hb dX3_inclusionLength_4 rfl hf (fun hc hf => ?_) (fun hc hf => ?_)
      · refine lv_iload_n hx hb dX3_inclusionLength_42 rfl (lv_at hl 2 rfl) ?_
        cases hf
        exact hw_ri hx hb hr hlk (hP.sub [] rfl) (hD.sub [] (by decide) rfl) hS dX3_inclusionLength_43
      · refine lv_iload_n hx hb dX3_inclusionLength_7 rfl (lv_at hl 2 rfl) ?_
        refine lv_bipush (v := (16 : Int32)) hx hb dX3_inclusionLength_8 (by decide) ?_
        refine hi_icmp_ge (tgt := 42) hx hb dX3_inclusionLength_10 rfl hf (fun hc hf => ?_) (fun hc hf => ?_)
        · refine lv_iload_n hx hb dX3_inclusionLength_42 rfl (lv_at hl 2 rfl) ?_
          cases hf
          exact hw_ri hx hb hr hlk (hP.sub [] rfl) (hD.sub [] (by decide) rfl) hS dX3_inclusionLength_43
        · refine lv_iload_n hx hb dX3_inclusionLength_13 rfl (lv_at hl 1 rfl) ?_
          obtain ⟨v1, e2, hf⟩ := hw_bind hf
          refine hw_goSN (wr := []) (rest := []) ⟨hx, hb, hml, hown, hts⟩ (cSl_split l D cA cZ k1 v1 e2) ⟨va_cnB 1 hts ks_X3_44 rfl rfl rfl (ne_7 hE) (hts _ mw_49) (by decide +kernel) ⟨Nat.le_of_ble_eq_true rfl, Nat.le_of_ble_eq_true rfl⟩, hts _ mw_253, trivial⟩ [] [] rfl rfl (by decide) (by decide) (by decide) hK hE hP hD hS hA hl.1 rfl rfl (Nat.le_of_ble_eq_true rfl) dX3_inclusionLength_14 ⟨Nat.zero_le _, Nat.zero_le _⟩ (fun H locs (hP : va_P D vwCl [] H) (hD : va_D A []) hS => ?_)
          refine lv_istore_n (lv' := [(3, .int v1), (0, .int k0), (1, .int k1), (2, .int k2)]) hx hb dX3_inclusionLength_17 rfl hl (by decide) rfl (fun ls hl => ?_)
          refine lv_iload_n hx hb dX3_inclusionLength_18 rfl (lv_at hl 1 rfl) ?_
          refine lv_iload_n hx hb dX3_inclusionLength_19 rfl (lv_at hl 0 rfl) ?_
          refine hi_icmp_ge (tgt := 28) hx hb dX3_inclusionLength_20 rfl hf (fun hc hf => ?_) (fun hc hf => ?_)
          · refine lv_iload_n hx hb dX3_inclusionLength_28 rfl (lv_at hl 1 rfl) ?_
            refine lv_iload_n hx hb dX3_inclusionLength_29 rfl (lv_at hl 0 rfl) ?_
            refine lv_isub hx hb dX3_inclusionLength_30 ?_
            refine lv_istore_n (lv' := [(0, .int (k0 - v1)), (3, .int v1), (1, .int k1), (2, .int k2)]) hx hb dX3_inclusionLength_31 rfl hl (by decide) rfl (fun ls hl => ?_)
            refine lv_iload_n hx hb dX3_inclusionLength_32 rfl (lv_at hl 2 rfl) ?_
            refine lv_iload_n hx hb dX3_inclusionLength_33 rfl (lv_at hl 1 rfl) ?_
            refine lv_isub hx hb dX3_inclusionLength_34 ?_
            refine lv_istore_n (lv' := [(1, .int (k1 - v1)), (0, .int (k0 - v1)), (3, .int v1), (2, .int k2)]) hx hb dX3_inclusionLength_35 rfl hl (by decide) rfl (fun ls hl => ?_)
            refine lv_iinc (v := k2 + (1 : Int32)) (lv' := [(2, .int (k2 + (1 : Int32))), (1, .int (k1 - v1)), (0, .int (k0 - v1)), (3, .int v1)]) hx hb dX3_inclusionLength_36 hl (k := 3) rfl (congrArg (fun z => k2 + z) (by decide)) (by decide) rfl (fun ls hl => ?_)
            refine lv_goto (tgt := 2) hx hb dX3_inclusionLength_39 rfl ?_
            exact ih2 _ _ _ (k0 - v1) (k1 - v1) (k2 + (1 : Int32)) (lv_sub hl [2, 1, 0] rfl) (hP.sub [] rfl) (hD.sub [] (by decide) rfl) hS hf
          · refine lv_iload_n hx hb dX3_inclusionLength_23 rfl (lv_at hl 0 rfl) ?_
            refine lv_istore_n (lv' := [(1, .int v1), (3, .int v1), (0, .int k0), (2, .int k2)]) hx hb dX3_inclusionLength_24 rfl hl (by decide) rfl (fun ls hl => ?_)
            refine lv_goto (tgt := 36) hx hb dX3_inclusionLength_25 rfl ?_
            refine lv_iinc (v := k2 + (1 : Int32)) (lv' := [(2, .int (k2 + (1 : Int32))), (1, .int v1), (3, .int v1), (0, .int k0)]) hx hb dX3_inclusionLength_36 hl (k := 3) rfl (congrArg (fun z => k2 + z) (by decide)) (by decide) rfl (fun ls hl => ?_)
            refine lv_goto (tgt := 2) hx hb dX3_inclusionLength_39 rfl ?_
            exact ih2 _ _ _ k0 v1 (k2 + (1 : Int32)) (lv_sub hl [3, 1, 0] rfl) (hP.sub [] rfl) (hD.sub [] (by decide) rfl) hS hf
  rw [fPd_inclusionLength] at hf
  refine lv_iconst (v := (0 : Int32)) hx hb dX3_inclusionLength_0 (by decide) ?_
  refine lv_istore_n (lv' := [(2, .int (0 : Int32)), (0, .int k0), (1, .int k1)]) hx hb dX3_inclusionLength_1 rfl hl (by decide) rfl (fun ls hl => ?_)
  exact L2 600 _ _ _ k0 k1 (0 : Int32) (lv_sub hl [1, 2, 0] rfl) (hP.sub [] rfl) (hD.sub [] (by decide) rfl) hS hf
set_option maxHeartbeats 4000000 in
set_option maxRecDepth 100000 in
theorem cPd_shownAbove (l : Launch) (D : va_G) (cA cZ : ClassId) : ∀ (d : Nat) (h0 : Nat) (h0_ints : Nat) (x0_count : Int32) (g0_ints : Nat → Int32) (k1 : Int32) (k2 : Int32) (k3 : Int32) (k4 : Int32) (rr : Int32) (hf : fPd_shownAbove x0_count g0_ints d k1 k2 k3 k4 = some rr), hw_C l yX3_shownAbove wX3_shownAbove { frames := 2 + d, cells := 0, slots := 0, locals := 44 + d * 26 } D vwCl cA cZ [.ref h0, .int k1, .int k2, .int k3, .int k4] [(h0, .inr (3, [.ref h0_ints, .int x0_count])), (h0_ints, .inl (cA, 16, .inl g0_ints))] [(h0, .inr (3, [.ref h0_ints, .int x0_count])), (h0_ints, .inl (cA, 16, .inl g0_ints))] (some (.int rr)) := by
  intro d
  induction d with
  | zero => intro h0 h0_ints x0_count g0_ints k1 k2 k3 k4 rr hf; simp only [fPd_shownAbove] at hf; cases hf
  | succ d ih =>
    intro h0 h0_ints x0_count g0_ints k1 k2 k3 k4 rr hf
    refine hw_of (cc := cX3_shownAbove) (maxL := 7) (ret := (some .int)) (by decide) rfl (Nat.le_of_ble_eq_true rfl) ?_
    intro p e s m args below meth c A ls hx hb hr hlk hml hown hts hA hK hE hP hD hS hl
    have hown : s.vm.findClass RX3 = some m.cls := hown
    have hl : lv_has ls 7 [(0, .ref h0), (1, .int k1), (2, .int k2), (3, .int k3), (4, .int k4)] := hl
    rw [fPd_shownAbove] at hf
    refine lv_iload_n hx hb dX3_shownAbove_0 rfl (lv_at hl 3 rfl) ?_
    refine lv_iconst (v := (1 : Int32)) hx hb dX3_shownAbove_1 (by decide) ?_
    refine hi_icmp_le (tgt := 10) hx hb dX3_shownAbove_2 rfl hf (fun hc hf => ?_) (fun hc hf => ?_)
    · refine lv_iload_n hx hb dX3_shownAbove_10 rfl (lv_at hl 1 rfl) ?_
      cases hf
      exact hw_ri hx hb hr hlk (hP.sub [0, 1] rfl) (hD.sub [0, 1] (by decide) rfl) hS dX3_shownAbove_11
    · refine lv_iload hx hb dX3_shownAbove_5 (lv_at hl 4 rfl) ?_
      refine hi_if_gt (tgt := 12) hx hb dX3_shownAbove_7 rfl hf (fun hc hf => ?_) (fun hc hf => ?_)
      · refine lv_iload_n hx hb dX3_shownAbove_12 rfl (lv_at hl 3 rfl) ?_
        obtain ⟨v1, e2, hf⟩ := hw_bind hf
        refine hw_goSN (wr := [(h0, .inr (3, [.ref h0_ints, .int x0_count])), (h0_ints, .inl (cA, 16, .inl g0_ints))]) (rest := []) ⟨hx, hb, hml, hown, hts⟩ (cSl_split l D cA cZ k3 v1 e2) ⟨va_cnB 1 hts ks_X3_44 rfl rfl rfl (ne_7 hE) (hts _ mw_49) (by decide +kernel) ⟨by dsimp only; omega, by dsimp only; omega⟩, hts _ mw_253, trivial⟩ [] [0, 1] rfl rfl (by decide) (by decide) (by decide) hK hE hP hD hS hA hl.1 rfl rfl (Nat.le_of_ble_eq_true rfl) dX3_shownAbove_13 ⟨Nat.zero_le _, Nat.zero_le _⟩ (fun H locs (hP : va_P D vwCl [(h0, .inr (3, [.ref h0_ints, .int x0_count])), (h0_ints, .inl (cA, 16, .inl g0_ints))] H) (hD : va_D A [(h0, .inr (3, [.ref h0_ints, .int x0_count])), (h0_ints, .inl (cA, 16, .inl g0_ints))]) hS => ?_)
        refine lv_istore (lv' := [(5, .int v1), (0, .ref h0), (1, .int k1), (2, .int k2), (3, .int k3), (4, .int k4)]) hx hb dX3_shownAbove_16 hl (by decide) rfl (fun ls hl => ?_)
        refine lv_aload_n hx hb dX3_shownAbove_18 rfl (lv_at hl 1 rfl) ?_
        refine lv_iload hx hb dX3_shownAbove_19 (lv_at hl 5 rfl) ?_
        refine lv_iconst (v := (1 : Int32)) hx hb dX3_shownAbove_21 (by decide) ?_
        refine lv_isub hx hb dX3_shownAbove_22 ?_
        obtain ⟨v3, e4, hf⟩ := hw_bind hf
        refine hw_goV (wr := []) (rest := []) ⟨hx, hb, hml, hown, hts⟩ (cPd_intAt l D cA cZ h0 h0_ints x0_count g0_ints (k4 - (1 : Int32)) v3 e4) (cwV 1 hts ks_X3_34 rfl rfl rfl (by decide +kernel) ⟨by dsimp only; omega, by dsimp only; omega⟩) 0 rfl rfl [0, 1] [] rfl rfl (by decide) (by decide) (by decide) hK hE hP hD hS hA hl.1 rfl rfl (Nat.le_of_ble_eq_true rfl) dX3_shownAbove_23 ⟨Nat.zero_le _, Nat.zero_le _⟩ (fun H locs (hP : va_P D vwCl [(h0, .inr (3, [.ref h0_ints, .int x0_count])), (h0_ints, .inl (cA, 16, .inl g0_ints))] H) (hD : va_D A [(h0, .inr (3, [.ref h0_ints, .int x0_count])), (h0_ints, .inl (cA, 16, .inl g0_ints))]) hS => ?_)
        refine lv_istore (lv' := [(6, .int v3), (5, .int v1), (0, .ref h0), (1, .int k1), (2, .int k2), (3, .int k3), (4, .int k4)]) hx hb dX3_shownAbove_26 hl (by decide) rfl (fun ls hl => ?_)
        refine lv_iload_n hx hb dX3_shownAbove_28 rfl (lv_at hl 4 rfl) ?_
        refine lv_iload hx hb dX3_shownAbove_29 (lv_at hl 1 rfl) ?_
        refine hi_icmp_ge (tgt := 52) hx hb dX3_shownAbove_31 rfl hf (fun hc hf => ?_) (fun hc hf => ?_)
        · refine lv_iload hx hb dX3_shownAbove_52 (lv_at hl 0 rfl) ?_
          refine lv_aload_n hx hb dX3_shownAbove_54 rfl (lv_at hl 2 rfl) ?_
          refine lv_iload_n hx hb dX3_shownAbove_55 rfl (lv_at hl 3 rfl) ?_
          refine lv_iload_n hx hb dX3_shownAbove_56 rfl (lv_at hl 4 rfl) ?_
          refine lv_iload hx hb dX3_shownAbove_57 (lv_at hl 1 rfl) ?_
          refine lv_isub hx hb dX3_shownAbove_59 ?_
          refine lv_iload_n hx hb dX3_shownAbove_60 rfl (lv_at hl 5 rfl) ?_
          refine lv_iload hx hb dX3_shownAbove_61 (lv_at hl 1 rfl) ?_
          refine lv_isub hx hb dX3_shownAbove_63 ?_
          refine lv_iload hx hb dX3_shownAbove_64 (lv_at hl 6 rfl) ?_
          refine lv_iconst (v := (1 : Int32)) hx hb dX3_shownAbove_66 (by decide) ?_
          refine lv_isub hx hb dX3_shownAbove_67 ?_
          obtain ⟨v5, e6, hf⟩ := hw_bind hf
          refine hw_goS (wr := []) (rest := [.int v3]) ⟨hx, hb, hml, hown, hts⟩ (ih h0 h0_ints x0_count g0_ints k1 (k2 - v1) (k3 - v1) (k4 - (1 : Int32)) v5 e6) (cwS 5 hts ks_X3_23 rfl rfl rfl (by decide +kernel) ⟨by dsimp only; omega, by dsimp only; omega⟩) [0, 1] [] rfl rfl (by decide) (by decide) (by decide) hK hE hP hD hS hA hl.1 rfl rfl (Nat.le_of_ble_eq_true rfl) dX3_shownAbove_68 ⟨Nat.zero_le _, Nat.zero_le _⟩ (fun H locs (hP : va_P D vwCl [(h0, .inr (3, [.ref h0_ints, .int x0_count])), (h0_ints, .inl (cA, 16, .inl g0_ints))] H) (hD : va_D A [(h0, .inr (3, [.ref h0_ints, .int x0_count])), (h0_ints, .inl (cA, 16, .inl g0_ints))]) hS => ?_)
          obtain ⟨v7, e8, hf⟩ := hw_bind hf
          refine hw_goSN (wr := [(h0, .inr (3, [.ref h0_ints, .int x0_count])), (h0_ints, .inl (cA, 16, .inl g0_ints))]) (rest := []) ⟨hx, hb, hml, hown, hts⟩ (cSl_node l D cA cZ v3 v5 v7 e8) ⟨va_cnB 2 hts ks_X3_47 rfl rfl rfl (ne_8 hE) (hts _ mw_49) (by decide +kernel) ⟨by dsimp only; omega, by dsimp only; omega⟩, hts _ mw_258, trivial⟩ [] [0, 1] rfl rfl (by decide) (by decide) (by decide) hK hE hP hD hS hA hl.1 rfl rfl (Nat.le_of_ble_eq_true rfl) dX3_shownAbove_71 ⟨Nat.zero_le _, Nat.zero_le _⟩ (fun H locs (hP : va_P D vwCl [(h0, .inr (3, [.ref h0_ints, .int x0_count])), (h0_ints, .inl (cA, 16, .inl g0_ints))] H) (hD : va_D A [(h0, .inr (3, [.ref h0_ints, .int x0_count])), (h0_ints, .inl (cA, 16, .inl g0_ints))]) hS => ?_)
          cases hf
          exact hw_ri hx hb hr hlk (hP.sub [0, 1] rfl) (hD.sub [0, 1] (by decide) rfl) hS dX3_shownAbove_74
        · refine lv_aload_n hx hb dX3_shownAbove_34 rfl (lv_at hl 2 rfl) ?_
          refine lv_iload_n hx hb dX3_shownAbove_35 rfl (lv_at hl 3 rfl) ?_
          refine lv_iload_n hx hb dX3_shownAbove_36 rfl (lv_at hl 4 rfl) ?_
          refine lv_iload hx hb dX3_shownAbove_37 (lv_at hl 1 rfl) ?_
          refine lv_iload hx hb dX3_shownAbove_39 (lv_at hl 6 rfl) ?_
          refine lv_iconst (v := (1 : Int32)) hx hb dX3_shownAbove_41 (by decide) ?_
          refine lv_isub hx hb dX3_shownAbove_42 ?_
          obtain ⟨v9, e10, hf⟩ := hw_bind hf
          refine hw_goS (wr := []) (rest := []) ⟨hx, hb, hml, hown, hts⟩ (ih h0 h0_ints x0_count g0_ints k1 k2 v1 (k4 - (1 : Int32)) v9 e10) (cwS 5 hts ks_X3_23 rfl rfl rfl (by decide +kernel) ⟨by dsimp only; omega, by dsimp only; omega⟩) [0, 1] [] rfl rfl (by decide) (by decide) (by decide) hK hE hP hD hS hA hl.1 rfl rfl (Nat.le_of_ble_eq_true rfl) dX3_shownAbove_43 ⟨Nat.zero_le _, Nat.zero_le _⟩ (fun H locs (hP : va_P D vwCl [(h0, .inr (3, [.ref h0_ints, .int x0_count])), (h0_ints, .inl (cA, 16, .inl g0_ints))] H) (hD : va_D A [(h0, .inr (3, [.ref h0_ints, .int x0_count])), (h0_ints, .inl (cA, 16, .inl g0_ints))]) hS => ?_)
          refine lv_iload hx hb dX3_shownAbove_46 (lv_at hl 0 rfl) ?_
          obtain ⟨v11, e12, hf⟩ := hw_bind hf
          refine hw_goSN (wr := [(h0, .inr (3, [.ref h0_ints, .int x0_count])), (h0_ints, .inl (cA, 16, .inl g0_ints))]) (rest := []) ⟨hx, hb, hml, hown, hts⟩ (cSl_node l D cA cZ v9 v3 v11 e12) ⟨va_cnB 2 hts ks_X3_47 rfl rfl rfl (ne_8 hE) (hts _ mw_49) (by decide +kernel) ⟨by dsimp only; omega, by dsimp only; omega⟩, hts _ mw_258, trivial⟩ [] [0, 1] rfl rfl (by decide) (by decide) (by decide) hK hE hP hD hS hA hl.1 rfl rfl (Nat.le_of_ble_eq_true rfl) dX3_shownAbove_48 ⟨Nat.zero_le _, Nat.zero_le _⟩ (fun H locs (hP : va_P D vwCl [(h0, .inr (3, [.ref h0_ints, .int x0_count])), (h0_ints, .inl (cA, 16, .inl g0_ints))] H) (hD : va_D A [(h0, .inr (3, [.ref h0_ints, .int x0_count])), (h0_ints, .inl (cA, 16, .inl g0_ints))]) hS => ?_)
          cases hf
          exact hw_ri hx hb hr hlk (hP.sub [0, 1] rfl) (hD.sub [0, 1] (by decide) rfl) hS dX3_shownAbove_51
      · refine lv_iload_n hx hb dX3_shownAbove_10 rfl (lv_at hl 1 rfl) ?_
        cases hf
        exact hw_ri hx hb hr hlk (hP.sub [0, 1] rfl) (hD.sub [0, 1] (by decide) rfl) hS dX3_shownAbove_11
set_option maxHeartbeats 4000000 in
set_option maxRecDepth 100000 in
theorem cPd_showsInclusion (l : Launch) (D : va_G) (cA cZ : ClassId) (h0 : Nat) (h0_ints : Nat) (x0_count : Int32) (g0_ints : Nat → Int32) (k1 : Int32) (k2 : Int32) (k3 : Int32) (k4 : Int32) (rr : Int32) (hf : fPd_showsInclusion x0_count g0_ints k1 k2 k3 k4 = some rr) : hw_C l yX3_showsInclusion wX3_showsInclusion { frames := 21, cells := 0, slots := 0, locals := 538 } D vwCl cA cZ [.ref h0, .int k1, .int k2, .int k3, .int k4] [(h0, .inr (3, [.ref h0_ints, .int x0_count])), (h0_ints, .inl (cA, 16, .inl g0_ints))] [(h0, .inr (3, [.ref h0_ints, .int x0_count])), (h0_ints, .inl (cA, 16, .inl g0_ints))] (some (.int rr)) := by
  refine hw_of (cc := cX3_showsInclusion) (maxL := 5) (ret := (some .boolean)) (by decide) rfl (Nat.le_of_ble_eq_true rfl) ?_
  intro p e s m args below meth c A ls hx hb hr hlk hml hown hts hA hK hE hP hD hS hl
  have hown : s.vm.findClass RX3 = some m.cls := hown
  have hl : lv_has ls 5 [(0, .ref h0), (1, .int k1), (2, .int k2), (3, .int k3), (4, .int k4)] := hl
  rw [fPd_showsInclusion] at hf
  refine lv_aload_n hx hb dX3_showsInclusion_0 rfl (lv_at hl 0 rfl) ?_
  refine va_get (D := D) (ci := 3) (v := .int x0_count) (C := RX3) (T := TX3) (N := 2) hx hb hts in_X3 hown hK hP 0 rfl rfl 1 (by decide) (hts _ mw_263) (fun _ h9 => h9) rfl dX3_showsInclusion_1 ?_
  refine lv_iload_n hx hb dX3_showsInclusion_4 rfl (lv_at hl 2 rfl) ?_
  refine lv_iload_n hx hb dX3_showsInclusion_5 rfl (lv_at hl 3 rfl) ?_
  obtain ⟨v1, e2, hf⟩ := hw_bind hf
  refine hw_goS (wr := [(h0, .inr (3, [.ref h0_ints, .int x0_count])), (h0_ints, .inl (cA, 16, .inl g0_ints))]) (rest := [.int x0_count]) ⟨hx, hb, hml, hown, hts⟩ (cPd_inclusionLength l D cA cZ k2 k3 v1 e2) (cwS 2 hts ks_X3_19 rfl rfl rfl (by decide +kernel) ⟨Nat.le_of_ble_eq_true rfl, Nat.le_of_ble_eq_true rfl⟩) [] [0, 1] rfl rfl (by decide) (by decide) (by decide) hK hE hP hD hS hA hl.1 rfl rfl (Nat.le_of_ble_eq_true rfl) dX3_showsInclusion_6 ⟨Nat.zero_le _, Nat.zero_le _⟩ (fun H locs (hP : va_P D vwCl [(h0, .inr (3, [.ref h0_ints, .int x0_count])), (h0_ints, .inl (cA, 16, .inl g0_ints))] H) (hD : va_D A [(h0, .inr (3, [.ref h0_ints, .int x0_count])), (h0_ints, .inl (cA, 16, .inl g0_ints))]) hS => ?_)
  refine hi_icmp_ne (tgt := 32) hx hb dX3_showsInclusion_9 rfl hf (fun hc hf => ?_) (fun hc hf => ?_)
  · refine lv_iconst (v := (0 : Int32)) hx hb dX3_showsInclusion_32 (by decide) ?_
    cases hf
    exact hw_rz hx hb hr hlk rfl (hP.sub [0, 1] rfl) (hD.sub [0, 1] (by decide) rfl) hS dX3_showsInclusion_33
  · refine lv_aload_n hx hb dX3_showsInclusion_12 rfl (lv_at hl 0 rfl) ?_
    refine lv_iload_n hx hb dX3_showsInclusion_13 rfl (lv_at hl 1 rfl) ?_
    refine lv_iload_n hx hb dX3_showsInclusion_14 rfl (lv_at hl 2 rfl) ?_
    refine lv_iload_n hx hb dX3_showsInclusion_15 rfl (lv_at hl 3 rfl) ?_
    refine lv_aload_n hx hb dX3_showsInclusion_16 rfl (lv_at hl 0 rfl) ?_
    refine va_get (D := D) (ci := 3) (v := .int x0_count) (C := RX3) (T := TX3) (N := 2) hx hb hts in_X3 hown hK hP 0 rfl rfl 1 (by decide) (hts _ mw_263) (fun _ h9 => h9) rfl dX3_showsInclusion_17 ?_
    obtain ⟨v3, e4, hf⟩ := hw_bind hf
    refine hw_goS (wr := []) (rest := []) ⟨hx, hb, hml, hown, hts⟩ (cPd_shownAbove l D cA cZ 18 h0 h0_ints x0_count g0_ints k1 k2 k3 x0_count v3 e4) (cwS 5 hts ks_X3_23 rfl rfl rfl (by decide +kernel) ⟨Nat.le_of_ble_eq_true rfl, Nat.le_of_ble_eq_true rfl⟩) [0, 1] [] rfl rfl (by decide) (by decide) (by decide) hK hE hP hD hS hA hl.1 rfl rfl (Nat.le_of_ble_eq_true rfl) dX3_showsInclusion_20 ⟨Nat.zero_le _, Nat.zero_le _⟩ (fun H locs (hP : va_P D vwCl [(h0, .inr (3, [.ref h0_ints, .int x0_count])), (h0_ints, .inl (cA, 16, .inl g0_ints))] H) (hD : va_D A [(h0, .inr (3, [.ref h0_ints, .int x0_count])), (h0_ints, .inl (cA, 16, .inl g0_ints))]) hS => ?_)
    refine lv_iload hx hb dX3_showsInclusion_23 (lv_at hl 4 rfl) ?_
    refine hi_icmp_ne (tgt := 32) hx hb dX3_showsInclusion_25 rfl hf (fun hc hf => ?_) (fun hc hf => ?_)
    · refine lv_iconst (v := (0 : Int32)) hx hb dX3_showsInclusion_32 (by decide) ?_
      cases hf
      exact hw_rz hx hb hr hlk rfl (hP.sub [0, 1] rfl) (hD.sub [0, 1] (by decide) rfl) hS dX3_showsInclusion_33
    · refine lv_iconst (v := (1 : Int32)) hx hb dX3_showsInclusion_28 (by decide) ?_
      refine lv_goto (tgt := 33) hx hb dX3_showsInclusion_29 rfl ?_
      cases hf
      exact hw_rz hx hb hr hlk rfl (hP.sub [0, 1] rfl) (hD.sub [0, 1] (by decide) rfl) hS dX3_showsInclusion_33
set_option maxHeartbeats 4000000 in
set_option maxRecDepth 100000 in
theorem cPd_consistencySteps (l : Launch) (D : va_G) (cA cZ : ClassId) (k0 : Int32) (k1 : Int32) (rr : Int32) (hf : fPd_consistencySteps k0 k1 = some rr) : hw_C l yX3_consistencySteps wX3_consistencySteps { frames := 1, cells := 0, slots := 0, locals := 22 } D vwCl cA cZ [.int k0, .int k1] [] [] (some (.int rr)) := by
  refine hw_of (cc := cX3_consistencySteps) (maxL := 4) (ret := (some .int)) (by decide) rfl (Nat.le_of_ble_eq_true rfl) ?_
  intro p e s m args below meth c A ls hx hb hr hlk hml hown hts hA hK hE hP hD hS hl
  have hown : s.vm.findClass RX3 = some m.cls := hown
  have hl : lv_has ls 4 [(0, .int k0), (1, .int k1)] := hl
  have L2 : ∀ (n2 : Nat) (ls : Array Slot) (H : Heap) (locs : List Loc) (k0 : Int32) (k1 : Int32) (k2 : Int32), lv_has ls 4 [(0, .int k0), (1, .int k1), (2, .int k2)] → va_P D vwCl [] H → va_D A [] → va_S A s.heap H locs → fPd_consistencySteps_L2 n2 k0 k1 k2 = some rr → W p l e { frames := 1, cells := 0, slots := 0, locals := 22 } s m args below meth c H locs 0 0 (hw_Z below args s D vwCl A [] (some (.int rr))) (F0 m 2 ls []) := by
    intro n2
    induction n2 with
    | zero => intro ls H locs k0 k1 k2 hl hP hD hS hf; simp only [fPd_consistencySteps_L2] at hf; cases hf
    | succ n2 ih2 =>
      intro ls H locs k0 k1 k2 hl hP hD hS hf
      rw [fPd_consistencySteps_L2] at hf
      refine lv_iload_n hx hb dX3_consistencySteps_2 rfl (lv_at hl 0 rfl) ?_
      refine lv_iload_n hx hb dX3_consistencySteps_3 rfl (lv_at hl 1 rfl) ?_
      refine hi_icmp_eq (tgt := 42) hx hb dX3_consistencySteps_4 rfl hf (fun hc hf => ?_) (fun hc hf => ?_)
      · refine lv_iload_n hx hb dX3_consistencySteps_42 rfl (lv_at hl 2 rfl) ?_
        cases hf
        exact hw_ri hx hb hr hlk (hP.sub [] rfl) (hD.sub [] (by decide) rfl) hS dX3_consistencySteps_43
      · refine lv_iload_n hx hb dX3_consistencySteps_7 rfl (lv_at hl 2 rfl) ?_
        refine lv_bipush (v := (16 : Int32)) hx hb dX3_consistencySteps_8 (by decide) ?_
        refine hi_icmp_ge (tgt := 42) hx hb dX3_consistencySteps_10 rfl hf (fun hc hf => ?_) (fun hc hf => ?_)
        · refine lv_iload_n hx hb dX3_consistencySteps_42 rfl (lv_at hl 2 rfl) ?_
          cases hf
          exact hw_ri hx hb hr hlk (hP.sub [] rfl) (hD.sub [] (by decide) rfl) hS dX3_consistencySteps_43
        · refine lv_iload_n hx hb dX3_consistencySteps_13 rfl (lv_at hl 1 rfl) ?_
          obtain ⟨v1, e2, hf⟩ := hw_bind hf
          refine hw_goSN (wr := []) (rest := []) ⟨hx, hb, hml, hown, hts⟩ (cSl_split l D cA cZ k1 v1 e2) ⟨va_cnB 1 hts ks_X3_44 rfl rfl rfl (ne_7 hE) (hts _ mw_49) (by decide +kernel) ⟨Nat.le_of_ble_eq_true rfl, Nat.le_of_ble_eq_true rfl⟩, hts _ mw_253, trivial⟩ [] [] rfl rfl (by decide) (by decide) (by decide) hK hE hP hD hS hA hl.1 rfl rfl (Nat.le_of_ble_eq_true rfl) dX3_consistencySteps_14 ⟨Nat.zero_le _, Nat.zero_le _⟩ (fun H locs (hP : va_P D vwCl [] H) (hD : va_D A []) hS => ?_)
          refine lv_istore_n (lv' := [(3, .int v1), (0, .int k0), (1, .int k1), (2, .int k2)]) hx hb dX3_consistencySteps_17 rfl hl (by decide) rfl (fun ls hl => ?_)
          refine lv_iload_n hx hb dX3_consistencySteps_18 rfl (lv_at hl 1 rfl) ?_
          refine lv_iload_n hx hb dX3_consistencySteps_19 rfl (lv_at hl 0 rfl) ?_
          refine hi_icmp_gt (tgt := 28) hx hb dX3_consistencySteps_20 rfl hf (fun hc hf => ?_) (fun hc hf => ?_)
          · refine lv_iload_n hx hb dX3_consistencySteps_28 rfl (lv_at hl 1 rfl) ?_
            refine lv_iload_n hx hb dX3_consistencySteps_29 rfl (lv_at hl 0 rfl) ?_
            refine lv_isub hx hb dX3_consistencySteps_30 ?_
            refine lv_istore_n (lv' := [(0, .int (k0 - v1)), (3, .int v1), (1, .int k1), (2, .int k2)]) hx hb dX3_consistencySteps_31 rfl hl (by decide) rfl (fun ls hl => ?_)
            refine lv_iload_n hx hb dX3_consistencySteps_32 rfl (lv_at hl 2 rfl) ?_
            refine lv_iload_n hx hb dX3_consistencySteps_33 rfl (lv_at hl 1 rfl) ?_
            refine lv_isub hx hb dX3_consistencySteps_34 ?_
            refine lv_istore_n (lv' := [(1, .int (k1 - v1)), (0, .int (k0 - v1)), (3, .int v1), (2, .int k2)]) hx hb dX3_consistencySteps_35 rfl hl (by decide) rfl (fun ls hl => ?_)
            refine lv_iinc (v := k2 + (1 : Int32)) (lv' := [(2, .int (k2 + (1 : Int32))), (1, .int (k1 - v1)), (0, .int (k0 - v1)), (3, .int v1)]) hx hb dX3_consistencySteps_36 hl (k := 3) rfl (congrArg (fun z => k2 + z) (by decide)) (by decide) rfl (fun ls hl => ?_)
            refine lv_goto (tgt := 2) hx hb dX3_consistencySteps_39 rfl ?_
            exact ih2 _ _ _ (k0 - v1) (k1 - v1) (k2 + (1 : Int32)) (lv_sub hl [2, 1, 0] rfl) (hP.sub [] rfl) (hD.sub [] (by decide) rfl) hS hf
          · refine lv_iload_n hx hb dX3_consistencySteps_23 rfl (lv_at hl 0 rfl) ?_
            refine lv_istore_n (lv' := [(1, .int v1), (3, .int v1), (0, .int k0), (2, .int k2)]) hx hb dX3_consistencySteps_24 rfl hl (by decide) rfl (fun ls hl => ?_)
            refine lv_goto (tgt := 36) hx hb dX3_consistencySteps_25 rfl ?_
            refine lv_iinc (v := k2 + (1 : Int32)) (lv' := [(2, .int (k2 + (1 : Int32))), (1, .int v1), (3, .int v1), (0, .int k0)]) hx hb dX3_consistencySteps_36 hl (k := 3) rfl (congrArg (fun z => k2 + z) (by decide)) (by decide) rfl (fun ls hl => ?_)
            refine lv_goto (tgt := 2) hx hb dX3_consistencySteps_39 rfl ?_
            exact ih2 _ _ _ k0 v1 (k2 + (1 : Int32)) (lv_sub hl [3, 1, 0] rfl) (hP.sub [] rfl) (hD.sub [] (by decide) rfl) hS hf
  rw [fPd_consistencySteps] at hf
  refine lv_iconst (v := (0 : Int32)) hx hb dX3_consistencySteps_0 (by decide) ?_
  refine lv_istore_n (lv' := [(2, .int (0 : Int32)), (0, .int k0), (1, .int k1)]) hx hb dX3_consistencySteps_1 rfl hl (by decide) rfl (fun ls hl => ?_)
  exact L2 600 _ _ _ k0 k1 (0 : Int32) (lv_sub hl [1, 2, 0] rfl) (hP.sub [] rfl) (hD.sub [] (by decide) rfl) hS hf
set_option maxHeartbeats 4000000 in
set_option maxRecDepth 100000 in
theorem cPd_isOwn (l : Launch) (D : va_G) (cA cZ : ClassId) (k0 : Int32) (k1 : Int32) (rr : Int32) (hf : fPd_isOwn k0 k1 = some rr) : hw_C l yX3_isOwn wX3_isOwn { frames := 1, cells := 0, slots := 0, locals := 22 } D vwCl cA cZ [.int k0, .int k1] [] [] (some (.int rr)) := by
  refine hw_of (cc := cX3_isOwn) (maxL := 3) (ret := (some .boolean)) (by decide) rfl (Nat.le_of_ble_eq_true rfl) ?_
  intro p e s m args below meth c A ls hx hb hr hlk hml hown hts hA hK hE hP hD hS hl
  have hown : s.vm.findClass RX3 = some m.cls := hown
  have hl : lv_has ls 3 [(0, .int k0), (1, .int k1)] := hl
  have L2 : ∀ (n2 : Nat) (ls : Array Slot) (H : Heap) (locs : List Loc) (k0 : Int32) (k1 : Int32) (k2 : Int32), lv_has ls 3 [(0, .int k0), (1, .int k1), (2, .int k2)] → va_P D vwCl [] H → va_D A [] → va_S A s.heap H locs → fPd_isOwn_L2 k0 n2 k1 k2 = some rr → W p l e { frames := 1, cells := 0, slots := 0, locals := 22 } s m args below meth c H locs 0 0 (hw_Z below args s D vwCl A [] (some (.int rr))) (F0 m 2 ls []) := by
    intro n2
    induction n2 with
    | zero => intro ls H locs k0 k1 k2 hl hP hD hS hf; simp only [fPd_isOwn_L2] at hf; cases hf
    | succ n2 ih2 =>
      intro ls H locs k0 k1 k2 hl hP hD hS hf
      rw [fPd_isOwn_L2] at hf
      refine lv_iload_n hx hb dX3_isOwn_2 rfl (lv_at hl 2 rfl) ?_
      refine lv_bipush (v := (10 : Int32)) hx hb dX3_isOwn_3 (by decide) ?_
      refine hi_icmp_ge (tgt := 31) hx hb dX3_isOwn_5 rfl hf (fun hc hf => ?_) (fun hc hf => ?_)
      · refine lv_iconst (v := (1 : Int32)) hx hb dX3_isOwn_31 (by decide) ?_
        cases hf
        exact hw_rz hx hb hr hlk rfl (hP.sub [] rfl) (hD.sub [] (by decide) rfl) hS dX3_isOwn_32
      · refine lv_iload_n hx hb dX3_isOwn_8 rfl (lv_at hl 0 rfl) ?_
        refine lv_iload_n hx hb dX3_isOwn_9 rfl (lv_at hl 1 rfl) ?_
        refine hi_icmp_eq (tgt := 31) hx hb dX3_isOwn_10 rfl hf (fun hc hf => ?_) (fun hc hf => ?_)
        · refine lv_iconst (v := (1 : Int32)) hx hb dX3_isOwn_31 (by decide) ?_
          cases hf
          exact hw_rz hx hb hr hlk rfl (hP.sub [] rfl) (hD.sub [] (by decide) rfl) hS dX3_isOwn_32
        · refine lv_iload_n hx hb dX3_isOwn_13 rfl (lv_at hl 1 rfl) ?_
          obtain ⟨v1, e2, hf⟩ := hw_bind hf
          refine hw_goSN (wr := []) (rest := []) ⟨hx, hb, hml, hown, hts⟩ (cSl_split l D cA cZ k1 v1 e2) ⟨va_cnB 1 hts ks_X3_44 rfl rfl rfl (ne_7 hE) (hts _ mw_49) (by decide +kernel) ⟨Nat.le_of_ble_eq_true rfl, Nat.le_of_ble_eq_true rfl⟩, hts _ mw_253, trivial⟩ [] [] rfl rfl (by decide) (by decide) (by decide) hK hE hP hD hS hA hl.1 rfl rfl (Nat.le_of_ble_eq_true rfl) dX3_isOwn_14 ⟨Nat.zero_le _, Nat.zero_le _⟩ (fun H locs (hP : va_P D vwCl [] H) (hD : va_D A []) hS => ?_)
          refine lv_istore_n (lv' := [(1, .int v1), (0, .int k0), (2, .int k2)]) hx hb dX3_isOwn_17 rfl hl (by decide) rfl (fun ls hl => ?_)
          refine lv_iload_n hx hb dX3_isOwn_18 rfl (lv_at hl 1 rfl) ?_
          refine lv_iload_n hx hb dX3_isOwn_19 rfl (lv_at hl 0 rfl) ?_
          refine hi_icmp_le (tgt := 25) hx hb dX3_isOwn_20 rfl hf (fun hc hf => ?_) (fun hc hf => ?_)
          · refine lv_iinc (v := k2 + (1 : Int32)) (lv' := [(2, .int (k2 + (1 : Int32))), (1, .int v1), (0, .int k0)]) hx hb dX3_isOwn_25 hl (k := 2) rfl (congrArg (fun z => k2 + z) (by decide)) (by decide) rfl (fun ls hl => ?_)
            refine lv_goto (tgt := 2) hx hb dX3_isOwn_28 rfl ?_
            exact ih2 _ _ _ k0 v1 (k2 + (1 : Int32)) (lv_sub hl [2, 1, 0] rfl) (hP.sub [] rfl) (hD.sub [] (by decide) rfl) hS hf
          · refine lv_iconst (v := (0 : Int32)) hx hb dX3_isOwn_23 (by decide) ?_
            cases hf
            exact hw_rz hx hb hr hlk rfl (hP.sub [] rfl) (hD.sub [] (by decide) rfl) hS dX3_isOwn_24
  rw [fPd_isOwn] at hf
  refine lv_iconst (v := (0 : Int32)) hx hb dX3_isOwn_0 (by decide) ?_
  refine lv_istore_n (lv' := [(2, .int (0 : Int32)), (0, .int k0), (1, .int k1)]) hx hb dX3_isOwn_1 rfl hl (by decide) rfl (fun ls hl => ?_)
  exact L2 600 _ _ _ k0 k1 (0 : Int32) (lv_sub hl [1, 2, 0] rfl) (hP.sub [] rfl) (hD.sub [] (by decide) rfl) hS hf
set_option maxHeartbeats 4000000 in
set_option maxRecDepth 100000 in
theorem cPd_shownOld (l : Launch) (D : va_G) (cA cZ : ClassId) : ∀ (d : Nat) (h0 : Nat) (h0_ints : Nat) (x0_count : Int32) (g0_ints : Nat → Int32) (k1 : Int32) (k2 : Int32) (k3 : Int32) (k4 : Int32) (rr : Int32) (hf : fPd_shownOld x0_count g0_ints d k1 k2 k3 k4 = some rr), hw_C l yX3_shownOld wX3_shownOld { frames := 2 + d, cells := 0, slots := 0, locals := 44 + d * 25 } D vwCl cA cZ [.ref h0, .int k1, .int k2, .int k3, .int k4] [(h0, .inr (3, [.ref h0_ints, .int x0_count])), (h0_ints, .inl (cA, 16, .inl g0_ints))] [(h0, .inr (3, [.ref h0_ints, .int x0_count])), (h0_ints, .inl (cA, 16, .inl g0_ints))] (some (.int rr)) := by
  intro d
  induction d with
  | zero => intro h0 h0_ints x0_count g0_ints k1 k2 k3 k4 rr hf; simp only [fPd_shownOld] at hf; cases hf
  | succ d ih =>
    intro h0 h0_ints x0_count g0_ints k1 k2 k3 k4 rr hf
    refine hw_of (cc := cX3_shownOld) (maxL := 6) (ret := (some .int)) (by decide) rfl (Nat.le_of_ble_eq_true rfl) ?_
    intro p e s m args below meth c A ls hx hb hr hlk hml hown hts hA hK hE hP hD hS hl
    have hown : s.vm.findClass RX3 = some m.cls := hown
    have hl : lv_has ls 6 [(0, .ref h0), (1, .int k1), (2, .int k2), (3, .int k3), (4, .int k4)] := hl
    rw [fPd_shownOld] at hf
    refine lv_iload_n hx hb dX3_shownOld_0 rfl (lv_at hl 2 rfl) ?_
    refine lv_iload_n hx hb dX3_shownOld_1 rfl (lv_at hl 3 rfl) ?_
    refine hi_icmp_eq (tgt := 10) hx hb dX3_shownOld_2 rfl hf (fun hc hf => ?_) (fun hc hf => ?_)
    · refine lv_iload_n hx hb dX3_shownOld_10 rfl (lv_at hl 1 rfl) ?_
      cases hf
      exact hw_ri hx hb hr hlk (hP.sub [0, 1] rfl) (hD.sub [0, 1] (by decide) rfl) hS dX3_shownOld_11
    · refine lv_iload hx hb dX3_shownOld_5 (lv_at hl 4 rfl) ?_
      refine hi_if_gt (tgt := 12) hx hb dX3_shownOld_7 rfl hf (fun hc hf => ?_) (fun hc hf => ?_)
      · refine lv_iload_n hx hb dX3_shownOld_12 rfl (lv_at hl 3 rfl) ?_
        obtain ⟨v1, e2, hf⟩ := hw_bind hf
        refine hw_goSN (wr := [(h0, .inr (3, [.ref h0_ints, .int x0_count])), (h0_ints, .inl (cA, 16, .inl g0_ints))]) (rest := []) ⟨hx, hb, hml, hown, hts⟩ (cSl_split l D cA cZ k3 v1 e2) ⟨va_cnB 1 hts ks_X3_44 rfl rfl rfl (ne_7 hE) (hts _ mw_49) (by decide +kernel) ⟨by dsimp only; omega, by dsimp only; omega⟩, hts _ mw_253, trivial⟩ [] [0, 1] rfl rfl (by decide) (by decide) (by decide) hK hE hP hD hS hA hl.1 rfl rfl (Nat.le_of_ble_eq_true rfl) dX3_shownOld_13 ⟨Nat.zero_le _, Nat.zero_le _⟩ (fun H locs (hP : va_P D vwCl [(h0, .inr (3, [.ref h0_ints, .int x0_count])), (h0_ints, .inl (cA, 16, .inl g0_ints))] H) (hD : va_D A [(h0, .inr (3, [.ref h0_ints, .int x0_count])), (h0_ints, .inl (cA, 16, .inl g0_ints))]) hS => ?_)
        refine lv_istore (lv' := [(5, .int v1), (0, .ref h0), (1, .int k1), (2, .int k2), (3, .int k3), (4, .int k4)]) hx hb dX3_shownOld_16 hl (by decide) rfl (fun ls hl => ?_)
        refine lv_iload_n hx hb dX3_shownOld_18 rfl (lv_at hl 3 rfl) ?_
        refine lv_iload hx hb dX3_shownOld_19 (lv_at hl 0 rfl) ?_
        refine hi_icmp_gt (tgt := 37) hx hb dX3_shownOld_21 rfl hf (fun hc hf => ?_) (fun hc hf => ?_)
        · refine lv_aload_n hx hb dX3_shownOld_37 rfl (lv_at hl 1 rfl) ?_
          refine lv_iload hx hb dX3_shownOld_38 (lv_at hl 5 rfl) ?_
          refine lv_iconst (v := (1 : Int32)) hx hb dX3_shownOld_40 (by decide) ?_
          refine lv_isub hx hb dX3_shownOld_41 ?_
          obtain ⟨v3, e4, hf⟩ := hw_bind hf
          refine hw_goV (wr := []) (rest := []) ⟨hx, hb, hml, hown, hts⟩ (cPd_intAt l D cA cZ h0 h0_ints x0_count g0_ints (k4 - (1 : Int32)) v3 e4) (cwV 1 hts ks_X3_34 rfl rfl rfl (by decide +kernel) ⟨by dsimp only; omega, by dsimp only; omega⟩) 0 rfl rfl [0, 1] [] rfl rfl (by decide) (by decide) (by decide) hK hE hP hD hS hA hl.1 rfl rfl (Nat.le_of_ble_eq_true rfl) dX3_shownOld_42 ⟨Nat.zero_le _, Nat.zero_le _⟩ (fun H locs (hP : va_P D vwCl [(h0, .inr (3, [.ref h0_ints, .int x0_count])), (h0_ints, .inl (cA, 16, .inl g0_ints))] H) (hD : va_D A [(h0, .inr (3, [.ref h0_ints, .int x0_count])), (h0_ints, .inl (cA, 16, .inl g0_ints))]) hS => ?_)
          refine lv_aload_n hx hb dX3_shownOld_45 rfl (lv_at hl 1 rfl) ?_
          refine lv_iload_n hx hb dX3_shownOld_46 rfl (lv_at hl 2 rfl) ?_
          refine lv_iload_n hx hb dX3_shownOld_47 rfl (lv_at hl 3 rfl) ?_
          refine lv_iload hx hb dX3_shownOld_48 (lv_at hl 0 rfl) ?_
          refine lv_isub hx hb dX3_shownOld_50 ?_
          refine lv_iload_n hx hb dX3_shownOld_51 rfl (lv_at hl 4 rfl) ?_
          refine lv_iload hx hb dX3_shownOld_52 (lv_at hl 0 rfl) ?_
          refine lv_isub hx hb dX3_shownOld_54 ?_
          refine lv_iload hx hb dX3_shownOld_55 (lv_at hl 5 rfl) ?_
          refine lv_iconst (v := (1 : Int32)) hx hb dX3_shownOld_57 (by decide) ?_
          refine lv_isub hx hb dX3_shownOld_58 ?_
          obtain ⟨v5, e6, hf⟩ := hw_bind hf
          refine hw_goS (wr := []) (rest := [.int v3]) ⟨hx, hb, hml, hown, hts⟩ (ih h0 h0_ints x0_count g0_ints k1 (k2 - v1) (k3 - v1) (k4 - (1 : Int32)) v5 e6) (cwS 5 hts ks_X3_38 rfl rfl rfl (by decide +kernel) ⟨by dsimp only; omega, by dsimp only; omega⟩) [0, 1] [] rfl rfl (by decide) (by decide) (by decide) hK hE hP hD hS hA hl.1 rfl rfl (Nat.le_of_ble_eq_true rfl) dX3_shownOld_59 ⟨Nat.zero_le _, Nat.zero_le _⟩ (fun H locs (hP : va_P D vwCl [(h0, .inr (3, [.ref h0_ints, .int x0_count])), (h0_ints, .inl (cA, 16, .inl g0_ints))] H) (hD : va_D A [(h0, .inr (3, [.ref h0_ints, .int x0_count])), (h0_ints, .inl (cA, 16, .inl g0_ints))]) hS => ?_)
          obtain ⟨v7, e8, hf⟩ := hw_bind hf
          refine hw_goSN (wr := [(h0, .inr (3, [.ref h0_ints, .int x0_count])), (h0_ints, .inl (cA, 16, .inl g0_ints))]) (rest := []) ⟨hx, hb, hml, hown, hts⟩ (cSl_node l D cA cZ v3 v5 v7 e8) ⟨va_cnB 2 hts ks_X3_47 rfl rfl rfl (ne_8 hE) (hts _ mw_49) (by decide +kernel) ⟨by dsimp only; omega, by dsimp only; omega⟩, hts _ mw_258, trivial⟩ [] [0, 1] rfl rfl (by decide) (by decide) (by decide) hK hE hP hD hS hA hl.1 rfl rfl (Nat.le_of_ble_eq_true rfl) dX3_shownOld_62 ⟨Nat.zero_le _, Nat.zero_le _⟩ (fun H locs (hP : va_P D vwCl [(h0, .inr (3, [.ref h0_ints, .int x0_count])), (h0_ints, .inl (cA, 16, .inl g0_ints))] H) (hD : va_D A [(h0, .inr (3, [.ref h0_ints, .int x0_count])), (h0_ints, .inl (cA, 16, .inl g0_ints))]) hS => ?_)
          cases hf
          exact hw_ri hx hb hr hlk (hP.sub [0, 1] rfl) (hD.sub [0, 1] (by decide) rfl) hS dX3_shownOld_65
        · refine lv_aload_n hx hb dX3_shownOld_24 rfl (lv_at hl 1 rfl) ?_
          refine lv_iload_n hx hb dX3_shownOld_25 rfl (lv_at hl 2 rfl) ?_
          refine lv_iload_n hx hb dX3_shownOld_26 rfl (lv_at hl 3 rfl) ?_
          refine lv_iload hx hb dX3_shownOld_27 (lv_at hl 0 rfl) ?_
          refine lv_iload hx hb dX3_shownOld_29 (lv_at hl 5 rfl) ?_
          refine lv_iconst (v := (1 : Int32)) hx hb dX3_shownOld_31 (by decide) ?_
          refine lv_isub hx hb dX3_shownOld_32 ?_
          obtain ⟨v9, e10, hf⟩ := hw_bind hf
          refine hw_goS (wr := []) (rest := []) ⟨hx, hb, hml, hown, hts⟩ (ih h0 h0_ints x0_count g0_ints k1 k2 v1 (k4 - (1 : Int32)) v9 e10) (cwS 5 hts ks_X3_38 rfl rfl rfl (by decide +kernel) ⟨by dsimp only; omega, by dsimp only; omega⟩) [0, 1] [] rfl rfl (by decide) (by decide) (by decide) hK hE hP hD hS hA hl.1 rfl rfl (Nat.le_of_ble_eq_true rfl) dX3_shownOld_33 ⟨Nat.zero_le _, Nat.zero_le _⟩ (fun H locs (hP : va_P D vwCl [(h0, .inr (3, [.ref h0_ints, .int x0_count])), (h0_ints, .inl (cA, 16, .inl g0_ints))] H) (hD : va_D A [(h0, .inr (3, [.ref h0_ints, .int x0_count])), (h0_ints, .inl (cA, 16, .inl g0_ints))]) hS => ?_)
          cases hf
          exact hw_ri hx hb hr hlk (hP.sub [0, 1] rfl) (hD.sub [0, 1] (by decide) rfl) hS dX3_shownOld_36
      · refine lv_iload_n hx hb dX3_shownOld_10 rfl (lv_at hl 1 rfl) ?_
        cases hf
        exact hw_ri hx hb hr hlk (hP.sub [0, 1] rfl) (hD.sub [0, 1] (by decide) rfl) hS dX3_shownOld_11
set_option maxHeartbeats 4000000 in
set_option maxRecDepth 100000 in
theorem cPd_shownNew (l : Launch) (D : va_G) (cA cZ : ClassId) : ∀ (d : Nat) (h0 : Nat) (h0_ints : Nat) (x0_count : Int32) (g0_ints : Nat → Int32) (k1 : Int32) (k2 : Int32) (k3 : Int32) (k4 : Int32) (rr : Int32) (hf : fPd_shownNew x0_count g0_ints d k1 k2 k3 k4 = some rr), hw_C l yX3_shownNew wX3_shownNew { frames := 2 + d, cells := 0, slots := 0, locals := 44 + d * 26 } D vwCl cA cZ [.ref h0, .int k1, .int k2, .int k3, .int k4] [(h0, .inr (3, [.ref h0_ints, .int x0_count])), (h0_ints, .inl (cA, 16, .inl g0_ints))] [(h0, .inr (3, [.ref h0_ints, .int x0_count])), (h0_ints, .inl (cA, 16, .inl g0_ints))] (some (.int rr)) := by
  intro d
  induction d with
  | zero => intro h0 h0_ints x0_count g0_ints k1 k2 k3 k4 rr hf; simp only [fPd_shownNew] at hf; cases hf
  | succ d ih =>
    intro h0 h0_ints x0_count g0_ints k1 k2 k3 k4 rr hf
    refine hw_of (cc := cX3_shownNew) (maxL := 7) (ret := (some .int)) (by decide) rfl (Nat.le_of_ble_eq_true rfl) ?_
    intro p e s m args below meth c A ls hx hb hr hlk hml hown hts hA hK hE hP hD hS hl
    have hown : s.vm.findClass RX3 = some m.cls := hown
    have hl : lv_has ls 7 [(0, .ref h0), (1, .int k1), (2, .int k2), (3, .int k3), (4, .int k4)] := hl
    rw [fPd_shownNew] at hf
    refine lv_iload_n hx hb dX3_shownNew_0 rfl (lv_at hl 2 rfl) ?_
    refine lv_iload_n hx hb dX3_shownNew_1 rfl (lv_at hl 3 rfl) ?_
    refine hi_icmp_eq (tgt := 10) hx hb dX3_shownNew_2 rfl hf (fun hc hf => ?_) (fun hc hf => ?_)
    · refine lv_iload_n hx hb dX3_shownNew_10 rfl (lv_at hl 1 rfl) ?_
      cases hf
      exact hw_ri hx hb hr hlk (hP.sub [0, 1] rfl) (hD.sub [0, 1] (by decide) rfl) hS dX3_shownNew_11
    · refine lv_iload hx hb dX3_shownNew_5 (lv_at hl 4 rfl) ?_
      refine hi_if_gt (tgt := 12) hx hb dX3_shownNew_7 rfl hf (fun hc hf => ?_) (fun hc hf => ?_)
      · refine lv_iload_n hx hb dX3_shownNew_12 rfl (lv_at hl 3 rfl) ?_
        obtain ⟨v1, e2, hf⟩ := hw_bind hf
        refine hw_goSN (wr := [(h0, .inr (3, [.ref h0_ints, .int x0_count])), (h0_ints, .inl (cA, 16, .inl g0_ints))]) (rest := []) ⟨hx, hb, hml, hown, hts⟩ (cSl_split l D cA cZ k3 v1 e2) ⟨va_cnB 1 hts ks_X3_44 rfl rfl rfl (ne_7 hE) (hts _ mw_49) (by decide +kernel) ⟨by dsimp only; omega, by dsimp only; omega⟩, hts _ mw_253, trivial⟩ [] [0, 1] rfl rfl (by decide) (by decide) (by decide) hK hE hP hD hS hA hl.1 rfl rfl (Nat.le_of_ble_eq_true rfl) dX3_shownNew_13 ⟨Nat.zero_le _, Nat.zero_le _⟩ (fun H locs (hP : va_P D vwCl [(h0, .inr (3, [.ref h0_ints, .int x0_count])), (h0_ints, .inl (cA, 16, .inl g0_ints))] H) (hD : va_D A [(h0, .inr (3, [.ref h0_ints, .int x0_count])), (h0_ints, .inl (cA, 16, .inl g0_ints))]) hS => ?_)
        refine lv_istore (lv' := [(5, .int v1), (0, .ref h0), (1, .int k1), (2, .int k2), (3, .int k3), (4, .int k4)]) hx hb dX3_shownNew_16 hl (by decide) rfl (fun ls hl => ?_)
        refine lv_aload_n hx hb dX3_shownNew_18 rfl (lv_at hl 1 rfl) ?_
        refine lv_iload hx hb dX3_shownNew_19 (lv_at hl 5 rfl) ?_
        refine lv_iconst (v := (1 : Int32)) hx hb dX3_shownNew_21 (by decide) ?_
        refine lv_isub hx hb dX3_shownNew_22 ?_
        obtain ⟨v3, e4, hf⟩ := hw_bind hf
        refine hw_goV (wr := []) (rest := []) ⟨hx, hb, hml, hown, hts⟩ (cPd_intAt l D cA cZ h0 h0_ints x0_count g0_ints (k4 - (1 : Int32)) v3 e4) (cwV 1 hts ks_X3_34 rfl rfl rfl (by decide +kernel) ⟨by dsimp only; omega, by dsimp only; omega⟩) 0 rfl rfl [0, 1] [] rfl rfl (by decide) (by decide) (by decide) hK hE hP hD hS hA hl.1 rfl rfl (Nat.le_of_ble_eq_true rfl) dX3_shownNew_23 ⟨Nat.zero_le _, Nat.zero_le _⟩ (fun H locs (hP : va_P D vwCl [(h0, .inr (3, [.ref h0_ints, .int x0_count])), (h0_ints, .inl (cA, 16, .inl g0_ints))] H) (hD : va_D A [(h0, .inr (3, [.ref h0_ints, .int x0_count])), (h0_ints, .inl (cA, 16, .inl g0_ints))]) hS => ?_)
        refine lv_istore (lv' := [(6, .int v3), (5, .int v1), (0, .ref h0), (1, .int k1), (2, .int k2), (3, .int k3), (4, .int k4)]) hx hb dX3_shownNew_26 hl (by decide) rfl (fun ls hl => ?_)
        refine lv_iload_n hx hb dX3_shownNew_28 rfl (lv_at hl 4 rfl) ?_
        refine lv_iload hx hb dX3_shownNew_29 (lv_at hl 1 rfl) ?_
        refine hi_icmp_gt (tgt := 52) hx hb dX3_shownNew_31 rfl hf (fun hc hf => ?_) (fun hc hf => ?_)
        · refine lv_iload hx hb dX3_shownNew_52 (lv_at hl 0 rfl) ?_
          refine lv_aload_n hx hb dX3_shownNew_54 rfl (lv_at hl 2 rfl) ?_
          refine lv_iload_n hx hb dX3_shownNew_55 rfl (lv_at hl 3 rfl) ?_
          refine lv_iload_n hx hb dX3_shownNew_56 rfl (lv_at hl 4 rfl) ?_
          refine lv_iload hx hb dX3_shownNew_57 (lv_at hl 1 rfl) ?_
          refine lv_isub hx hb dX3_shownNew_59 ?_
          refine lv_iload_n hx hb dX3_shownNew_60 rfl (lv_at hl 5 rfl) ?_
          refine lv_iload hx hb dX3_shownNew_61 (lv_at hl 1 rfl) ?_
          refine lv_isub hx hb dX3_shownNew_63 ?_
          refine lv_iload hx hb dX3_shownNew_64 (lv_at hl 6 rfl) ?_
          refine lv_iconst (v := (1 : Int32)) hx hb dX3_shownNew_66 (by decide) ?_
          refine lv_isub hx hb dX3_shownNew_67 ?_
          obtain ⟨v5, e6, hf⟩ := hw_bind hf
          refine hw_goS (wr := []) (rest := [.int v3]) ⟨hx, hb, hml, hown, hts⟩ (ih h0 h0_ints x0_count g0_ints k1 (k2 - v1) (k3 - v1) (k4 - (1 : Int32)) v5 e6) (cwS 5 hts ks_X3_41 rfl rfl rfl (by decide +kernel) ⟨by dsimp only; omega, by dsimp only; omega⟩) [0, 1] [] rfl rfl (by decide) (by decide) (by decide) hK hE hP hD hS hA hl.1 rfl rfl (Nat.le_of_ble_eq_true rfl) dX3_shownNew_68 ⟨Nat.zero_le _, Nat.zero_le _⟩ (fun H locs (hP : va_P D vwCl [(h0, .inr (3, [.ref h0_ints, .int x0_count])), (h0_ints, .inl (cA, 16, .inl g0_ints))] H) (hD : va_D A [(h0, .inr (3, [.ref h0_ints, .int x0_count])), (h0_ints, .inl (cA, 16, .inl g0_ints))]) hS => ?_)
          obtain ⟨v7, e8, hf⟩ := hw_bind hf
          refine hw_goSN (wr := [(h0, .inr (3, [.ref h0_ints, .int x0_count])), (h0_ints, .inl (cA, 16, .inl g0_ints))]) (rest := []) ⟨hx, hb, hml, hown, hts⟩ (cSl_node l D cA cZ v3 v5 v7 e8) ⟨va_cnB 2 hts ks_X3_47 rfl rfl rfl (ne_8 hE) (hts _ mw_49) (by decide +kernel) ⟨by dsimp only; omega, by dsimp only; omega⟩, hts _ mw_258, trivial⟩ [] [0, 1] rfl rfl (by decide) (by decide) (by decide) hK hE hP hD hS hA hl.1 rfl rfl (Nat.le_of_ble_eq_true rfl) dX3_shownNew_71 ⟨Nat.zero_le _, Nat.zero_le _⟩ (fun H locs (hP : va_P D vwCl [(h0, .inr (3, [.ref h0_ints, .int x0_count])), (h0_ints, .inl (cA, 16, .inl g0_ints))] H) (hD : va_D A [(h0, .inr (3, [.ref h0_ints, .int x0_count])), (h0_ints, .inl (cA, 16, .inl g0_ints))]) hS => ?_)
          cases hf
          exact hw_ri hx hb hr hlk (hP.sub [0, 1] rfl) (hD.sub [0, 1] (by decide) rfl) hS dX3_shownNew_74
        · refine lv_aload_n hx hb dX3_shownNew_34 rfl (lv_at hl 2 rfl) ?_
          refine lv_iload_n hx hb dX3_shownNew_35 rfl (lv_at hl 3 rfl) ?_
          refine lv_iload_n hx hb dX3_shownNew_36 rfl (lv_at hl 4 rfl) ?_
          refine lv_iload hx hb dX3_shownNew_37 (lv_at hl 1 rfl) ?_
          refine lv_iload hx hb dX3_shownNew_39 (lv_at hl 6 rfl) ?_
          refine lv_iconst (v := (1 : Int32)) hx hb dX3_shownNew_41 (by decide) ?_
          refine lv_isub hx hb dX3_shownNew_42 ?_
          obtain ⟨v9, e10, hf⟩ := hw_bind hf
          refine hw_goS (wr := []) (rest := []) ⟨hx, hb, hml, hown, hts⟩ (ih h0 h0_ints x0_count g0_ints k1 k2 v1 (k4 - (1 : Int32)) v9 e10) (cwS 5 hts ks_X3_41 rfl rfl rfl (by decide +kernel) ⟨by dsimp only; omega, by dsimp only; omega⟩) [0, 1] [] rfl rfl (by decide) (by decide) (by decide) hK hE hP hD hS hA hl.1 rfl rfl (Nat.le_of_ble_eq_true rfl) dX3_shownNew_43 ⟨Nat.zero_le _, Nat.zero_le _⟩ (fun H locs (hP : va_P D vwCl [(h0, .inr (3, [.ref h0_ints, .int x0_count])), (h0_ints, .inl (cA, 16, .inl g0_ints))] H) (hD : va_D A [(h0, .inr (3, [.ref h0_ints, .int x0_count])), (h0_ints, .inl (cA, 16, .inl g0_ints))]) hS => ?_)
          refine lv_iload hx hb dX3_shownNew_46 (lv_at hl 0 rfl) ?_
          obtain ⟨v11, e12, hf⟩ := hw_bind hf
          refine hw_goSN (wr := [(h0, .inr (3, [.ref h0_ints, .int x0_count])), (h0_ints, .inl (cA, 16, .inl g0_ints))]) (rest := []) ⟨hx, hb, hml, hown, hts⟩ (cSl_node l D cA cZ v9 v3 v11 e12) ⟨va_cnB 2 hts ks_X3_47 rfl rfl rfl (ne_8 hE) (hts _ mw_49) (by decide +kernel) ⟨by dsimp only; omega, by dsimp only; omega⟩, hts _ mw_258, trivial⟩ [] [0, 1] rfl rfl (by decide) (by decide) (by decide) hK hE hP hD hS hA hl.1 rfl rfl (Nat.le_of_ble_eq_true rfl) dX3_shownNew_48 ⟨Nat.zero_le _, Nat.zero_le _⟩ (fun H locs (hP : va_P D vwCl [(h0, .inr (3, [.ref h0_ints, .int x0_count])), (h0_ints, .inl (cA, 16, .inl g0_ints))] H) (hD : va_D A [(h0, .inr (3, [.ref h0_ints, .int x0_count])), (h0_ints, .inl (cA, 16, .inl g0_ints))]) hS => ?_)
          cases hf
          exact hw_ri hx hb hr hlk (hP.sub [0, 1] rfl) (hD.sub [0, 1] (by decide) rfl) hS dX3_shownNew_51
      · refine lv_iload_n hx hb dX3_shownNew_10 rfl (lv_at hl 1 rfl) ?_
        cases hf
        exact hw_ri hx hb hr hlk (hP.sub [0, 1] rfl) (hD.sub [0, 1] (by decide) rfl) hS dX3_shownNew_11
set_option maxHeartbeats 4000000 in
set_option maxRecDepth 100000 in
theorem cPd_showsConsistency (l : Launch) (D : va_G) (cA cZ : ClassId) (h0 : Nat) (h0_ints : Nat) (x0_count : Int32) (g0_ints : Nat → Int32) (k1 : Int32) (k2 : Int32) (k3 : Int32) (k4 : Int32) (rr : Int32) (hf : fPd_showsConsistency x0_count g0_ints k1 k2 k3 k4 = some rr) : hw_C l yX3_showsConsistency wX3_showsConsistency { frames := 21, cells := 0, slots := 0, locals := 538 } D vwCl cA cZ [.ref h0, .int k1, .int k2, .int k3, .int k4] [(h0, .inr (3, [.ref h0_ints, .int x0_count])), (h0_ints, .inl (cA, 16, .inl g0_ints))] [(h0, .inr (3, [.ref h0_ints, .int x0_count])), (h0_ints, .inl (cA, 16, .inl g0_ints))] (some (.int rr)) := by
  refine hw_of (cc := cX3_showsConsistency) (maxL := 8) (ret := (some .boolean)) (by decide) rfl (Nat.le_of_ble_eq_true rfl) ?_
  intro p e s m args below meth c A ls hx hb hr hlk hml hown hts hA hK hE hP hD hS hl
  have hown : s.vm.findClass RX3 = some m.cls := hown
  have hl : lv_has ls 8 [(0, .ref h0), (1, .int k1), (2, .int k2), (3, .int k3), (4, .int k4)] := hl
  rw [fPd_showsConsistency] at hf
  refine lv_iload_n hx hb dX3_showsConsistency_0 rfl (lv_at hl 2 rfl) ?_
  refine lv_iload hx hb dX3_showsConsistency_1 (lv_at hl 4 rfl) ?_
  obtain ⟨v1, e2, hf⟩ := hw_bind hf
  refine hw_goS (wr := [(h0, .inr (3, [.ref h0_ints, .int x0_count])), (h0_ints, .inl (cA, 16, .inl g0_ints))]) (rest := []) ⟨hx, hb, hml, hown, hts⟩ (cPd_consistencySteps l D cA cZ k2 k4 v1 e2) (cwS 2 hts ks_X3_27 rfl rfl rfl (by decide +kernel) ⟨Nat.le_of_ble_eq_true rfl, Nat.le_of_ble_eq_true rfl⟩) [] [0, 1] rfl rfl (by decide) (by decide) (by decide) hK hE hP hD hS hA hl.1 rfl rfl (Nat.le_of_ble_eq_true rfl) dX3_showsConsistency_3 ⟨Nat.zero_le _, Nat.zero_le _⟩ (fun H locs (hP : va_P D vwCl [(h0, .inr (3, [.ref h0_ints, .int x0_count])), (h0_ints, .inl (cA, 16, .inl g0_ints))] H) (hD : va_D A [(h0, .inr (3, [.ref h0_ints, .int x0_count])), (h0_ints, .inl (cA, 16, .inl g0_ints))]) hS => ?_)
  refine lv_istore (lv' := [(5, .int v1), (0, .ref h0), (1, .int k1), (2, .int k2), (3, .int k3), (4, .int k4)]) hx hb dX3_showsConsistency_6 hl (by decide) rfl (fun ls hl => ?_)
  refine lv_iload_n hx hb dX3_showsConsistency_8 rfl (lv_at hl 3 rfl) ?_
  refine lv_iload hx hb dX3_showsConsistency_9 (lv_at hl 5 rfl) ?_
  obtain ⟨v3, e4, hf⟩ := hw_bind hf
  refine hw_goS (wr := [(h0, .inr (3, [.ref h0_ints, .int x0_count])), (h0_ints, .inl (cA, 16, .inl g0_ints))]) (rest := []) ⟨hx, hb, hml, hown, hts⟩ (cPd_isOwn l D cA cZ k2 k4 v3 e4) (cwS 2 hts ks_X3_30 rfl rfl rfl (by decide +kernel) ⟨Nat.le_of_ble_eq_true rfl, Nat.le_of_ble_eq_true rfl⟩) [] [0, 1] rfl rfl (by decide) (by decide) (by decide) hK hE hP hD hS hA hl.1 rfl rfl (Nat.le_of_ble_eq_true rfl) dX3_showsConsistency_11 ⟨Nat.zero_le _, Nat.zero_le _⟩ (fun H locs (hP : va_P D vwCl [(h0, .inr (3, [.ref h0_ints, .int x0_count])), (h0_ints, .inl (cA, 16, .inl g0_ints))] H) (hD : va_D A [(h0, .inr (3, [.ref h0_ints, .int x0_count])), (h0_ints, .inl (cA, 16, .inl g0_ints))]) hS => ?_)
  refine lv_istore (lv' := [(6, .int v3), (5, .int v1), (0, .ref h0), (1, .int k1), (2, .int k2), (3, .int k3), (4, .int k4)]) hx hb dX3_showsConsistency_14 hl (by decide) rfl (fun ls hl => ?_)
  refine lv_aload_n hx hb dX3_showsConsistency_16 rfl (lv_at hl 2 rfl) ?_
  refine va_get (D := D) (ci := 3) (v := .int x0_count) (C := RX3) (T := TX3) (N := 2) hx hb hts in_X3 hown hK hP 0 rfl rfl 1 (by decide) (hts _ mw_263) (fun _ h9 => h9) rfl dX3_showsConsistency_17 ?_
  refine lv_iload hx hb dX3_showsConsistency_20 (lv_at hl 0 rfl) ?_
  refine hi_if_eq (tgt := 30) hx hb dX3_showsConsistency_22 rfl hf (fun hc hf => ?_) (fun hc hf => ?_)
  · refine lv_iload hx hb dX3_showsConsistency_30 (lv_at hl 1 rfl) ?_
    refine lv_iconst (v := (1 : Int32)) hx hb dX3_showsConsistency_32 (by decide) ?_
    refine lv_iadd hx hb dX3_showsConsistency_33 ?_
    refine hi_icmp_eq (tgt := 39) hx hb dX3_showsConsistency_34 rfl hf (fun hc hf => ?_) (fun hc hf => ?_)
    · refine lv_iload hx hb dX3_showsConsistency_39 (lv_at hl 0 rfl) ?_
      refine hi_if_eq (tgt := 48) hx hb dX3_showsConsistency_41 rfl hf (fun hc hf => ?_) (fun hc hf => ?_)
      · refine lv_aload_n hx hb dX3_showsConsistency_48 rfl (lv_at hl 2 rfl) ?_
        refine lv_iconst (v := (0 : Int32)) hx hb dX3_showsConsistency_49 (by decide) ?_
        obtain ⟨v5, e6, hf⟩ := hw_bind hf
        refine hw_goV (wr := []) (rest := []) ⟨hx, hb, hml, hown, hts⟩ (cPd_intAt l D cA cZ h0 h0_ints x0_count g0_ints (0 : Int32) v5 e6) (cwV 1 hts ks_X3_34 rfl rfl rfl (by decide +kernel) ⟨Nat.le_of_ble_eq_true rfl, Nat.le_of_ble_eq_true rfl⟩) 0 rfl rfl [0, 1] [] rfl rfl (by decide) (by decide) (by decide) hK hE hP hD hS hA hl.1 rfl rfl (Nat.le_of_ble_eq_true rfl) dX3_showsConsistency_50 ⟨Nat.zero_le _, Nat.zero_le _⟩ (fun H locs (hP : va_P D vwCl [(h0, .inr (3, [.ref h0_ints, .int x0_count])), (h0_ints, .inl (cA, 16, .inl g0_ints))] H) (hD : va_D A [(h0, .inr (3, [.ref h0_ints, .int x0_count])), (h0_ints, .inl (cA, 16, .inl g0_ints))]) hS => ?_)
        refine lv_istore (lv' := [(7, .int v5), (6, .int v3), (5, .int v1), (0, .ref h0), (1, .int k1), (2, .int k2), (3, .int k3), (4, .int k4)]) hx hb dX3_showsConsistency_53 hl (by decide) rfl (fun ls hl => ?_)
        refine lv_aload_n hx hb dX3_showsConsistency_55 rfl (lv_at hl 3 rfl) ?_
        refine lv_iload hx hb dX3_showsConsistency_56 (lv_at hl 0 rfl) ?_
        refine lv_iload_n hx hb dX3_showsConsistency_58 rfl (lv_at hl 5 rfl) ?_
        refine lv_iload hx hb dX3_showsConsistency_59 (lv_at hl 7 rfl) ?_
        refine lv_aload_n hx hb dX3_showsConsistency_61 rfl (lv_at hl 3 rfl) ?_
        refine va_get (D := D) (ci := 3) (v := .int x0_count) (C := RX3) (T := TX3) (N := 2) hx hb hts in_X3 hown hK hP 0 rfl rfl 1 (by decide) (hts _ mw_263) (fun _ h9 => h9) rfl dX3_showsConsistency_62 ?_
        obtain ⟨v7, e8, hf⟩ := hw_bind hf
        refine hw_goS (wr := []) (rest := []) ⟨hx, hb, hml, hown, hts⟩ (cPd_shownOld l D cA cZ 18 h0 h0_ints x0_count g0_ints v5 k2 k4 x0_count v7 e8) (cwS 5 hts ks_X3_38 rfl rfl rfl (by decide +kernel) ⟨Nat.le_of_ble_eq_true rfl, Nat.le_of_ble_eq_true rfl⟩) [0, 1] [] rfl rfl (by decide) (by decide) (by decide) hK hE hP hD hS hA hl.1 rfl rfl (Nat.le_of_ble_eq_true rfl) dX3_showsConsistency_65 ⟨Nat.zero_le _, Nat.zero_le _⟩ (fun H locs (hP : va_P D vwCl [(h0, .inr (3, [.ref h0_ints, .int x0_count])), (h0_ints, .inl (cA, 16, .inl g0_ints))] H) (hD : va_D A [(h0, .inr (3, [.ref h0_ints, .int x0_count])), (h0_ints, .inl (cA, 16, .inl g0_ints))]) hS => ?_)
        refine lv_iload_n hx hb dX3_showsConsistency_68 rfl (lv_at hl 4 rfl) ?_
        refine hi_icmp_ne (tgt := 93) hx hb dX3_showsConsistency_69 rfl hf (fun hc hf => ?_) (fun hc hf => ?_)
        · refine lv_iconst (v := (0 : Int32)) hx hb dX3_showsConsistency_93 (by decide) ?_
          cases hf
          exact hw_rz hx hb hr hlk rfl (hP.sub [0, 1] rfl) (hD.sub [0, 1] (by decide) rfl) hS dX3_showsConsistency_94
        · refine lv_aload_n hx hb dX3_showsConsistency_72 rfl (lv_at hl 3 rfl) ?_
          refine lv_iload hx hb dX3_showsConsistency_73 (lv_at hl 0 rfl) ?_
          refine lv_iload_n hx hb dX3_showsConsistency_75 rfl (lv_at hl 5 rfl) ?_
          refine lv_iload hx hb dX3_showsConsistency_76 (lv_at hl 7 rfl) ?_
          refine lv_aload_n hx hb dX3_showsConsistency_78 rfl (lv_at hl 3 rfl) ?_
          refine va_get (D := D) (ci := 3) (v := .int x0_count) (C := RX3) (T := TX3) (N := 2) hx hb hts in_X3 hown hK hP 0 rfl rfl 1 (by decide) (hts _ mw_263) (fun _ h9 => h9) rfl dX3_showsConsistency_79 ?_
          obtain ⟨v9, e10, hf⟩ := hw_bind hf
          refine hw_goS (wr := []) (rest := []) ⟨hx, hb, hml, hown, hts⟩ (cPd_shownNew l D cA cZ 18 h0 h0_ints x0_count g0_ints v5 k2 k4 x0_count v9 e10) (cwS 5 hts ks_X3_41 rfl rfl rfl (by decide +kernel) ⟨Nat.le_of_ble_eq_true rfl, Nat.le_of_ble_eq_true rfl⟩) [0, 1] [] rfl rfl (by decide) (by decide) (by decide) hK hE hP hD hS hA hl.1 rfl rfl (Nat.le_of_ble_eq_true rfl) dX3_showsConsistency_82 ⟨Nat.zero_le _, Nat.zero_le _⟩ (fun H locs (hP : va_P D vwCl [(h0, .inr (3, [.ref h0_ints, .int x0_count])), (h0_ints, .inl (cA, 16, .inl g0_ints))] H) (hD : va_D A [(h0, .inr (3, [.ref h0_ints, .int x0_count])), (h0_ints, .inl (cA, 16, .inl g0_ints))]) hS => ?_)
          refine lv_iload_n hx hb dX3_showsConsistency_85 rfl (lv_at hl 6 rfl) ?_
          refine hi_icmp_ne (tgt := 93) hx hb dX3_showsConsistency_86 rfl hf (fun hc hf => ?_) (fun hc hf => ?_)
          · refine lv_iconst (v := (0 : Int32)) hx hb dX3_showsConsistency_93 (by decide) ?_
            cases hf
            exact hw_rz hx hb hr hlk rfl (hP.sub [0, 1] rfl) (hD.sub [0, 1] (by decide) rfl) hS dX3_showsConsistency_94
          · refine lv_iconst (v := (1 : Int32)) hx hb dX3_showsConsistency_89 (by decide) ?_
            refine lv_goto (tgt := 94) hx hb dX3_showsConsistency_90 rfl ?_
            cases hf
            exact hw_rz hx hb hr hlk rfl (hP.sub [0, 1] rfl) (hD.sub [0, 1] (by decide) rfl) hS dX3_showsConsistency_94
      · refine lv_iload_n hx hb dX3_showsConsistency_44 rfl (lv_at hl 3 rfl) ?_
        refine lv_goto (tgt := 53) hx hb dX3_showsConsistency_45 rfl ?_
        refine lv_istore (lv' := [(7, .int k1), (6, .int v3), (5, .int v1), (0, .ref h0), (1, .int k1), (2, .int k2), (3, .int k3), (4, .int k4)]) hx hb dX3_showsConsistency_53 hl (by decide) rfl (fun ls hl => ?_)
        refine lv_aload_n hx hb dX3_showsConsistency_55 rfl (lv_at hl 3 rfl) ?_
        refine lv_iload hx hb dX3_showsConsistency_56 (lv_at hl 0 rfl) ?_
        refine lv_iload_n hx hb dX3_showsConsistency_58 rfl (lv_at hl 5 rfl) ?_
        refine lv_iload hx hb dX3_showsConsistency_59 (lv_at hl 7 rfl) ?_
        refine lv_aload_n hx hb dX3_showsConsistency_61 rfl (lv_at hl 3 rfl) ?_
        refine va_get (D := D) (ci := 3) (v := .int x0_count) (C := RX3) (T := TX3) (N := 2) hx hb hts in_X3 hown hK hP 0 rfl rfl 1 (by decide) (hts _ mw_263) (fun _ h9 => h9) rfl dX3_showsConsistency_62 ?_
        obtain ⟨v11, e12, hf⟩ := hw_bind hf
        refine hw_goS (wr := []) (rest := []) ⟨hx, hb, hml, hown, hts⟩ (cPd_shownOld l D cA cZ 18 h0 h0_ints x0_count g0_ints k1 k2 k4 x0_count v11 e12) (cwS 5 hts ks_X3_38 rfl rfl rfl (by decide +kernel) ⟨Nat.le_of_ble_eq_true rfl, Nat.le_of_ble_eq_true rfl⟩) [0, 1] [] rfl rfl (by decide) (by decide) (by decide) hK hE hP hD hS hA hl.1 rfl rfl (Nat.le_of_ble_eq_true rfl) dX3_showsConsistency_65 ⟨Nat.zero_le _, Nat.zero_le _⟩ (fun H locs (hP : va_P D vwCl [(h0, .inr (3, [.ref h0_ints, .int x0_count])), (h0_ints, .inl (cA, 16, .inl g0_ints))] H) (hD : va_D A [(h0, .inr (3, [.ref h0_ints, .int x0_count])), (h0_ints, .inl (cA, 16, .inl g0_ints))]) hS => ?_)
        refine lv_iload_n hx hb dX3_showsConsistency_68 rfl (lv_at hl 4 rfl) ?_
        refine hi_icmp_ne (tgt := 93) hx hb dX3_showsConsistency_69 rfl hf (fun hc hf => ?_) (fun hc hf => ?_)
        · refine lv_iconst (v := (0 : Int32)) hx hb dX3_showsConsistency_93 (by decide) ?_
          cases hf
          exact hw_rz hx hb hr hlk rfl (hP.sub [0, 1] rfl) (hD.sub [0, 1] (by decide) rfl) hS dX3_showsConsistency_94
        · refine lv_aload_n hx hb dX3_showsConsistency_72 rfl (lv_at hl 3 rfl) ?_
          refine lv_iload hx hb dX3_showsConsistency_73 (lv_at hl 0 rfl) ?_
          refine lv_iload_n hx hb dX3_showsConsistency_75 rfl (lv_at hl 5 rfl) ?_
          refine lv_iload hx hb dX3_showsConsistency_76 (lv_at hl 7 rfl) ?_
          refine lv_aload_n hx hb dX3_showsConsistency_78 rfl (lv_at hl 3 rfl) ?_
          refine va_get (D := D) (ci := 3) (v := .int x0_count) (C := RX3) (T := TX3) (N := 2) hx hb hts in_X3 hown hK hP 0 rfl rfl 1 (by decide) (hts _ mw_263) (fun _ h9 => h9) rfl dX3_showsConsistency_79 ?_
          obtain ⟨v13, e14, hf⟩ := hw_bind hf
          refine hw_goS (wr := []) (rest := []) ⟨hx, hb, hml, hown, hts⟩ (cPd_shownNew l D cA cZ 18 h0 h0_ints x0_count g0_ints k1 k2 k4 x0_count v13 e14) (cwS 5 hts ks_X3_41 rfl rfl rfl (by decide +kernel) ⟨Nat.le_of_ble_eq_true rfl, Nat.le_of_ble_eq_true rfl⟩) [0, 1] [] rfl rfl (by decide) (by decide) (by decide) hK hE hP hD hS hA hl.1 rfl rfl (Nat.le_of_ble_eq_true rfl) dX3_showsConsistency_82 ⟨Nat.zero_le _, Nat.zero_le _⟩ (fun H locs (hP : va_P D vwCl [(h0, .inr (3, [.ref h0_ints, .int x0_count])), (h0_ints, .inl (cA, 16, .inl g0_ints))] H) (hD : va_D A [(h0, .inr (3, [.ref h0_ints, .int x0_count])), (h0_ints, .inl (cA, 16, .inl g0_ints))]) hS => ?_)
          refine lv_iload_n hx hb dX3_showsConsistency_85 rfl (lv_at hl 6 rfl) ?_
          refine hi_icmp_ne (tgt := 93) hx hb dX3_showsConsistency_86 rfl hf (fun hc hf => ?_) (fun hc hf => ?_)
          · refine lv_iconst (v := (0 : Int32)) hx hb dX3_showsConsistency_93 (by decide) ?_
            cases hf
            exact hw_rz hx hb hr hlk rfl (hP.sub [0, 1] rfl) (hD.sub [0, 1] (by decide) rfl) hS dX3_showsConsistency_94
          · refine lv_iconst (v := (1 : Int32)) hx hb dX3_showsConsistency_89 (by decide) ?_
            refine lv_goto (tgt := 94) hx hb dX3_showsConsistency_90 rfl ?_
            cases hf
            exact hw_rz hx hb hr hlk rfl (hP.sub [0, 1] rfl) (hD.sub [0, 1] (by decide) rfl) hS dX3_showsConsistency_94
    · refine lv_iconst (v := (0 : Int32)) hx hb dX3_showsConsistency_37 (by decide) ?_
      cases hf
      exact hw_rz hx hb hr hlk rfl (hP.sub [0, 1] rfl) (hD.sub [0, 1] (by decide) rfl) hS dX3_showsConsistency_38
  · refine lv_iload hx hb dX3_showsConsistency_25 (lv_at hl 1 rfl) ?_
    refine lv_goto (tgt := 34) hx hb dX3_showsConsistency_27 rfl ?_
    refine hi_icmp_eq (tgt := 39) hx hb dX3_showsConsistency_34 rfl hf (fun hc hf => ?_) (fun hc hf => ?_)
    · refine lv_iload hx hb dX3_showsConsistency_39 (lv_at hl 0 rfl) ?_
      refine hi_if_eq (tgt := 48) hx hb dX3_showsConsistency_41 rfl hf (fun hc hf => ?_) (fun hc hf => ?_)
      · refine lv_aload_n hx hb dX3_showsConsistency_48 rfl (lv_at hl 2 rfl) ?_
        refine lv_iconst (v := (0 : Int32)) hx hb dX3_showsConsistency_49 (by decide) ?_
        obtain ⟨v15, e16, hf⟩ := hw_bind hf
        refine hw_goV (wr := []) (rest := []) ⟨hx, hb, hml, hown, hts⟩ (cPd_intAt l D cA cZ h0 h0_ints x0_count g0_ints (0 : Int32) v15 e16) (cwV 1 hts ks_X3_34 rfl rfl rfl (by decide +kernel) ⟨Nat.le_of_ble_eq_true rfl, Nat.le_of_ble_eq_true rfl⟩) 0 rfl rfl [0, 1] [] rfl rfl (by decide) (by decide) (by decide) hK hE hP hD hS hA hl.1 rfl rfl (Nat.le_of_ble_eq_true rfl) dX3_showsConsistency_50 ⟨Nat.zero_le _, Nat.zero_le _⟩ (fun H locs (hP : va_P D vwCl [(h0, .inr (3, [.ref h0_ints, .int x0_count])), (h0_ints, .inl (cA, 16, .inl g0_ints))] H) (hD : va_D A [(h0, .inr (3, [.ref h0_ints, .int x0_count])), (h0_ints, .inl (cA, 16, .inl g0_ints))]) hS => ?_)
        refine lv_istore (lv' := [(7, .int v15), (6, .int v3), (5, .int v1), (0, .ref h0), (1, .int k1), (2, .int k2), (3, .int k3), (4, .int k4)]) hx hb dX3_showsConsistency_53 hl (by decide) rfl (fun ls hl => ?_)
        refine lv_aload_n hx hb dX3_showsConsistency_55 rfl (lv_at hl 3 rfl) ?_
        refine lv_iload hx hb dX3_showsConsistency_56 (lv_at hl 0 rfl) ?_
        refine lv_iload_n hx hb dX3_showsConsistency_58 rfl (lv_at hl 5 rfl) ?_
        refine lv_iload hx hb dX3_showsConsistency_59 (lv_at hl 7 rfl) ?_
        refine lv_aload_n hx hb dX3_showsConsistency_61 rfl (lv_at hl 3 rfl) ?_
        refine va_get (D := D) (ci := 3) (v := .int x0_count) (C := RX3) (T := TX3) (N := 2) hx hb hts in_X3 hown hK hP 0 rfl rfl 1 (by decide) (hts _ mw_263) (fun _ h9 => h9) rfl dX3_showsConsistency_62 ?_
        obtain ⟨v17, e18, hf⟩ := hw_bind hf
        refine hw_goS (wr := []) (rest := []) ⟨hx, hb, hml, hown, hts⟩ (cPd_shownOld l D cA cZ 18 h0 h0_ints x0_count g0_ints v15 k2 k4 x0_count v17 e18) (cwS 5 hts ks_X3_38 rfl rfl rfl (by decide +kernel) ⟨Nat.le_of_ble_eq_true rfl, Nat.le_of_ble_eq_true rfl⟩) [0, 1] [] rfl rfl (by decide) (by decide) (by decide) hK hE hP hD hS hA hl.1 rfl rfl (Nat.le_of_ble_eq_true rfl) dX3_showsConsistency_65 ⟨Nat.zero_le _, Nat.zero_le _⟩ (fun H locs (hP : va_P D vwCl [(h0, .inr (3, [.ref h0_ints, .int x0_count])), (h0_ints, .inl (cA, 16, .inl g0_ints))] H) (hD : va_D A [(h0, .inr (3, [.ref h0_ints, .int x0_count])), (h0_ints, .inl (cA, 16, .inl g0_ints))]) hS => ?_)
        refine lv_iload_n hx hb dX3_showsConsistency_68 rfl (lv_at hl 4 rfl) ?_
        refine hi_icmp_ne (tgt := 93) hx hb dX3_showsConsistency_69 rfl hf (fun hc hf => ?_) (fun hc hf => ?_)
        · refine lv_iconst (v := (0 : Int32)) hx hb dX3_showsConsistency_93 (by decide) ?_
          cases hf
          exact hw_rz hx hb hr hlk rfl (hP.sub [0, 1] rfl) (hD.sub [0, 1] (by decide) rfl) hS dX3_showsConsistency_94
        · refine lv_aload_n hx hb dX3_showsConsistency_72 rfl (lv_at hl 3 rfl) ?_
          refine lv_iload hx hb dX3_showsConsistency_73 (lv_at hl 0 rfl) ?_
          refine lv_iload_n hx hb dX3_showsConsistency_75 rfl (lv_at hl 5 rfl) ?_
          refine lv_iload hx hb dX3_showsConsistency_76 (lv_at hl 7 rfl) ?_
          refine lv_aload_n hx hb dX3_showsConsistency_78 rfl (lv_at hl 3 rfl) ?_
          refine va_get (D := D) (ci := 3) (v := .int x0_count) (C := RX3) (T := TX3) (N := 2) hx hb hts in_X3 hown hK hP 0 rfl rfl 1 (by decide) (hts _ mw_263) (fun _ h9 => h9) rfl dX3_showsConsistency_79 ?_
          obtain ⟨v19, e20, hf⟩ := hw_bind hf
          refine hw_goS (wr := []) (rest := []) ⟨hx, hb, hml, hown, hts⟩ (cPd_shownNew l D cA cZ 18 h0 h0_ints x0_count g0_ints v15 k2 k4 x0_count v19 e20) (cwS 5 hts ks_X3_41 rfl rfl rfl (by decide +kernel) ⟨Nat.le_of_ble_eq_true rfl, Nat.le_of_ble_eq_true rfl⟩) [0, 1] [] rfl rfl (by decide) (by decide) (by decide) hK hE hP hD hS hA hl.1 rfl rfl (Nat.le_of_ble_eq_true rfl) dX3_showsConsistency_82 ⟨Nat.zero_le _, Nat.zero_le _⟩ (fun H locs (hP : va_P D vwCl [(h0, .inr (3, [.ref h0_ints, .int x0_count])), (h0_ints, .inl (cA, 16, .inl g0_ints))] H) (hD : va_D A [(h0, .inr (3, [.ref h0_ints, .int x0_count])), (h0_ints, .inl (cA, 16, .inl g0_ints))]) hS => ?_)
          refine lv_iload_n hx hb dX3_showsConsistency_85 rfl (lv_at hl 6 rfl) ?_
          refine hi_icmp_ne (tgt := 93) hx hb dX3_showsConsistency_86 rfl hf (fun hc hf => ?_) (fun hc hf => ?_)
          · refine lv_iconst (v := (0 : Int32)) hx hb dX3_showsConsistency_93 (by decide) ?_
            cases hf
            exact hw_rz hx hb hr hlk rfl (hP.sub [0, 1] rfl) (hD.sub [0, 1] (by decide) rfl) hS dX3_showsConsistency_94
          · refine lv_iconst (v := (1 : Int32)) hx hb dX3_showsConsistency_89 (by decide) ?_
            refine lv_goto (tgt := 94) hx hb dX3_showsConsistency_90 rfl ?_
            cases hf
            exact hw_rz hx hb hr hlk rfl (hP.sub [0, 1] rfl) (hD.sub [0, 1] (by decide) rfl) hS dX3_showsConsistency_94
      · refine lv_iload_n hx hb dX3_showsConsistency_44 rfl (lv_at hl 3 rfl) ?_
        refine lv_goto (tgt := 53) hx hb dX3_showsConsistency_45 rfl ?_
        refine lv_istore (lv' := [(7, .int k1), (6, .int v3), (5, .int v1), (0, .ref h0), (1, .int k1), (2, .int k2), (3, .int k3), (4, .int k4)]) hx hb dX3_showsConsistency_53 hl (by decide) rfl (fun ls hl => ?_)
        refine lv_aload_n hx hb dX3_showsConsistency_55 rfl (lv_at hl 3 rfl) ?_
        refine lv_iload hx hb dX3_showsConsistency_56 (lv_at hl 0 rfl) ?_
        refine lv_iload_n hx hb dX3_showsConsistency_58 rfl (lv_at hl 5 rfl) ?_
        refine lv_iload hx hb dX3_showsConsistency_59 (lv_at hl 7 rfl) ?_
        refine lv_aload_n hx hb dX3_showsConsistency_61 rfl (lv_at hl 3 rfl) ?_
        refine va_get (D := D) (ci := 3) (v := .int x0_count) (C := RX3) (T := TX3) (N := 2) hx hb hts in_X3 hown hK hP 0 rfl rfl 1 (by decide) (hts _ mw_263) (fun _ h9 => h9) rfl dX3_showsConsistency_62 ?_
        obtain ⟨v21, e22, hf⟩ := hw_bind hf
        refine hw_goS (wr := []) (rest := []) ⟨hx, hb, hml, hown, hts⟩ (cPd_shownOld l D cA cZ 18 h0 h0_ints x0_count g0_ints k1 k2 k4 x0_count v21 e22) (cwS 5 hts ks_X3_38 rfl rfl rfl (by decide +kernel) ⟨Nat.le_of_ble_eq_true rfl, Nat.le_of_ble_eq_true rfl⟩) [0, 1] [] rfl rfl (by decide) (by decide) (by decide) hK hE hP hD hS hA hl.1 rfl rfl (Nat.le_of_ble_eq_true rfl) dX3_showsConsistency_65 ⟨Nat.zero_le _, Nat.zero_le _⟩ (fun H locs (hP : va_P D vwCl [(h0, .inr (3, [.ref h0_ints, .int x0_count])), (h0_ints, .inl (cA, 16, .inl g0_ints))] H) (hD : va_D A [(h0, .inr (3, [.ref h0_ints, .int x0_count])), (h0_ints, .inl (cA, 16, .inl g0_ints))]) hS => ?_)
        refine lv_iload_n hx hb dX3_showsConsistency_68 rfl (lv_at hl 4 rfl) ?_
        refine hi_icmp_ne (tgt := 93) hx hb dX3_showsConsistency_69 rfl hf (fun hc hf => ?_) (fun hc hf => ?_)
        · refine lv_iconst (v := (0 : Int32)) hx hb dX3_showsConsistency_93 (by decide) ?_
          cases hf
          exact hw_rz hx hb hr hlk rfl (hP.sub [0, 1] rfl) (hD.sub [0, 1] (by decide) rfl) hS dX3_showsConsistency_94
        · refine lv_aload_n hx hb dX3_showsConsistency_72 rfl (lv_at hl 3 rfl) ?_
          refine lv_iload hx hb dX3_showsConsistency_73 (lv_at hl 0 rfl) ?_
          refine lv_iload_n hx hb dX3_showsConsistency_75 rfl (lv_at hl 5 rfl) ?_
          refine lv_iload hx hb dX3_showsConsistency_76 (lv_at hl 7 rfl) ?_
          refine lv_aload_n hx hb dX3_showsConsistency_78 rfl (lv_at hl 3 rfl) ?_
          refine va_get (D := D) (ci := 3) (v := .int x0_count) (C := RX3) (T := TX3) (N := 2) hx hb hts in_X3 hown hK hP 0 rfl rfl 1 (by decide) (hts _ mw_263) (fun _ h9 => h9) rfl dX3_showsConsistency_79 ?_
          obtain ⟨v23, e24, hf⟩ := hw_bind hf
          refine hw_goS (wr := []) (rest := []) ⟨hx, hb, hml, hown, hts⟩ (cPd_shownNew l D cA cZ 18 h0 h0_ints x0_count g0_ints k1 k2 k4 x0_count v23 e24) (cwS 5 hts ks_X3_41 rfl rfl rfl (by decide +kernel) ⟨Nat.le_of_ble_eq_true rfl, Nat.le_of_ble_eq_true rfl⟩) [0, 1] [] rfl rfl (by decide) (by decide) (by decide) hK hE hP hD hS hA hl.1 rfl rfl (Nat.le_of_ble_eq_true rfl) dX3_showsConsistency_82 ⟨Nat.zero_le _, Nat.zero_le _⟩ (fun H locs (hP : va_P D vwCl [(h0, .inr (3, [.ref h0_ints, .int x0_count])), (h0_ints, .inl (cA, 16, .inl g0_ints))] H) (hD : va_D A [(h0, .inr (3, [.ref h0_ints, .int x0_count])), (h0_ints, .inl (cA, 16, .inl g0_ints))]) hS => ?_)
          refine lv_iload_n hx hb dX3_showsConsistency_85 rfl (lv_at hl 6 rfl) ?_
          refine hi_icmp_ne (tgt := 93) hx hb dX3_showsConsistency_86 rfl hf (fun hc hf => ?_) (fun hc hf => ?_)
          · refine lv_iconst (v := (0 : Int32)) hx hb dX3_showsConsistency_93 (by decide) ?_
            cases hf
            exact hw_rz hx hb hr hlk rfl (hP.sub [0, 1] rfl) (hD.sub [0, 1] (by decide) rfl) hS dX3_showsConsistency_94
          · refine lv_iconst (v := (1 : Int32)) hx hb dX3_showsConsistency_89 (by decide) ?_
            refine lv_goto (tgt := 94) hx hb dX3_showsConsistency_90 rfl ?_
            cases hf
            exact hw_rz hx hb hr hlk rfl (hP.sub [0, 1] rfl) (hD.sub [0, 1] (by decide) rfl) hS dX3_showsConsistency_94
    · refine lv_iconst (v := (0 : Int32)) hx hb dX3_showsConsistency_37 (by decide) ?_
      cases hf
      exact hw_rz hx hb hr hlk rfl (hP.sub [0, 1] rfl) (hD.sub [0, 1] (by decide) rfl) hS dX3_showsConsistency_38
