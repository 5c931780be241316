set_option maxHeartbeats 4000000 in
set_option maxRecDepth 100000 in
theorem cLg_init (l : Launch) (D : va_G) (cA cZ : ClassId) (h0 : Nat) : hw_N l yX2_init wX2_init { frames := 1, cells := 3, slots := 658, locals := 12 } D vwCl cA cZ [.ref h0] [(h0, .inr (2, [.null, .null, .null, .int 0, .int 0, .int 0, .int 0]))] (fun u => [(h0, .inr (2, [.ref (u 0), .ref (u 1), .ref (u 2), .int 0, .int 0, .int 0, .int 0])), ((u 0), .inl (cA, 512, .inl (fun _ => 0))), ((u 1), .inl (cA, 73, .inl (fun _ => 0))), ((u 2), .inl (cA, 73, .inl (fun _ => 0)))]) none 3 658 := by
  refine hw_ofN (cc := cX2_init) (maxL := 1) (ret := none) (by decide) rfl (Nat.le_of_ble_eq_true rfl) ?_
  intro p e s m args below meth c A ls hx hb hr hlk hml hown hin hts hA hK hE hP hD hS hl
  have hown : s.vm.findClass RX2 = some m.cls := hown
  have hin : meth.name = "<init>" := hin
  have hl : lv_has ls 1 [(0, .ref h0)] := hl
  refine lv_aload_n hx hb dX2_init_0 rfl (lv_at hl 0 rfl) ?_
  refine W.objInit hx hb hown (hts _ mw_7) (hts _ mw_1) (hts _ mw_2) rfl (by rw [hml]; exact hl.1) rfl dX2_init_1 (Nat.le_of_ble_eq_true rfl) (Nat.le_of_ble_eq_true rfl) ?_
  refine W.eq (g2 := F0 m 4 ls []) rfl ?_
  refine lv_aload_n hx hb dX2_init_4 rfl (lv_at hl 0 rfl) ?_
  refine lv_sipush (v := (512 : Int32)) hx hb dX2_init_5 (by decide) ?_
  refine hw_newa (atype := .int) hx hb (hts _ mw_3) rfl hK hP hD hS hA 512 (by decide) (by decide) (by decide) (Nat.le_of_ble_eq_true rfl) (Nat.le_of_ble_eq_true rfl) dX2_init_8 (fun z8 H (hP : va_P D vwCl [(h0, .inr (2, [.null, .null, .null, .int 0, .int 0, .int 0, .int 0])), (z8, .inl (cA, 512, .inl (fun _ => 0)))] H) (hD : va_D A [(h0, .inr (2, [.null, .null, .null, .int 0, .int 0, .int 0, .int 0])), (z8, .inl (cA, 512, .inl (fun _ => 0)))]) hS => ?_)
  refine va_putF (D := D) (ci := 2) (v := .ref z8) (ty := .array .int) (C := RX2) (T := TX2) (N := 7) hx hb hts in_X2 tyX2 tyX2_ok nX2 hown hK hP hD hS 0 rfl rfl 0 (by decide) (hts _ mw_8) (fun _ h9 => h9) rfl hin rfl (by decide +kernel) rfl rfl (Nat.le_of_ble_eq_true rfl) dX2_init_10 (fun H locs (hP : va_P D vwCl [(h0, .inr (2, [.ref z8, .null, .null, .int 0, .int 0, .int 0, .int 0])), (z8, .inl (cA, 512, .inl (fun _ => 0)))] H) (hD : va_D A [(h0, .inr (2, [.ref z8, .null, .null, .int 0, .int 0, .int 0, .int 0])), (z8, .inl (cA, 512, .inl (fun _ => 0)))]) hS => ?_)
  refine lv_aload_n hx hb dX2_init_13 rfl (lv_at hl 0 rfl) ?_
  refine lv_bipush (v := (73 : Int32)) hx hb dX2_init_14 (by decide) ?_
  refine hw_newa (atype := .int) hx hb (hts _ mw_3) rfl hK hP hD hS hA 73 (by decide) (by decide) (by decide) (Nat.le_of_ble_eq_true rfl) (Nat.le_of_ble_eq_true rfl) dX2_init_16 (fun z16 H (hP : va_P D vwCl [(h0, .inr (2, [.ref z8, .null, .null, .int 0, .int 0, .int 0, .int 0])), (z8, .inl (cA, 512, .inl (fun _ => 0))), (z16, .inl (cA, 73, .inl (fun _ => 0)))] H) (hD : va_D A [(h0, .inr (2, [.ref z8, .null, .null, .int 0, .int 0, .int 0, .int 0])), (z8, .inl (cA, 512, .inl (fun _ => 0))), (z16, .inl (cA, 73, .inl (fun _ => 0)))]) hS => ?_)
  refine va_putF (D := D) (ci := 2) (v := .ref z16) (ty := .array .int) (C := RX2) (T := TX2) (N := 7) hx hb hts in_X2 tyX2 tyX2_ok nX2 hown hK hP hD hS 0 rfl rfl 1 (by decide) (hts _ mw_9) (fun _ h9 => h9) rfl hin rfl (by decide +kernel) rfl rfl (Nat.le_of_ble_eq_true rfl) dX2_init_18 (fun H locs (hP : va_P D vwCl [(h0, .inr (2, [.ref z8, .ref z16, .null, .int 0, .int 0, .int 0, .int 0])), (z8, .inl (cA, 512, .inl (fun _ => 0))), (z16, .inl (cA, 73, .inl (fun _ => 0)))] H) (hD : va_D A [(h0, .inr (2, [.ref z8, .ref z16, .null, .int 0, .int 0, .int 0, .int 0])), (z8, .inl (cA, 512, .inl (fun _ => 0))), (z16, .inl (cA, 73, .inl (fun _ => 0)))]) hS => ?_)
  refine lv_aload_n hx hb dX2_init_21 rfl (lv_at hl 0 rfl) ?_
  refine lv_bipush (v := (73 : Int32)) hx hb dX2_init_22 (by decide) ?_
  refine hw_newa (atype := .int) hx hb (hts _ mw_3) rfl hK hP hD hS hA 73 (by decide) (by decide) (by decide) (Nat.le_of_ble_eq_true rfl) (Nat.le_of_ble_eq_true rfl) dX2_init_24 (fun z24 H (hP : va_P D vwCl [(h0, .inr (2, [.ref z8, .ref z16, .null, .int 0, .int 0, .int 0, .int 0])), (z8, .inl (cA, 512, .inl (fun _ => 0))), (z16, .inl (cA, 73, .inl (fun _ => 0))), (z24, .inl (cA, 73, .inl (fun _ => 0)))] H) (hD : va_D A [(h0, .inr (2, [.ref z8, .ref z16, .null, .int 0, .int 0, .int 0, .int 0])), (z8, .inl (cA, 512, .inl (fun _ => 0))), (z16, .inl (cA, 73, .inl (fun _ => 0))), (z24, .inl (cA, 73, .inl (fun _ => 0)))]) hS => ?_)
  refine va_putF (D := D) (ci := 2) (v := .ref z24) (ty := .array .int) (C := RX2) (T := TX2) (N := 7) hx hb hts in_X2 tyX2 tyX2_ok nX2 hown hK hP hD hS 0 rfl rfl 2 (by decide) (hts _ mw_10) (fun _ h9 => h9) rfl hin rfl (by decide +kernel) rfl rfl (Nat.le_of_ble_eq_true rfl) dX2_init_26 (fun H locs (hP : va_P D vwCl [(h0, .inr (2, [.ref z8, .ref z16, .ref z24, .int 0, .int 0, .int 0, .int 0])), (z8, .inl (cA, 512, .inl (fun _ => 0))), (z16, .inl (cA, 73, .inl (fun _ => 0))), (z24, .inl (cA, 73, .inl (fun _ => 0)))] H) (hD : va_D A [(h0, .inr (2, [.ref z8, .ref z16, .ref z24, .int 0, .int 0, .int 0, .int 0])), (z8, .inl (cA, 512, .inl (fun _ => 0))), (z16, .inl (cA, 73, .inl (fun _ => 0))), (z24, .inl (cA, 73, .inl (fun _ => 0)))]) hS => ?_)
  exact hw_rvN (fun k => [z8, z16, z24].getD k 0) hx hb hr hlk (hP.sub [0, 1, 2, 3] rfl) (hD.sub [0, 1, 2, 3] (by decide) rfl) hS dX2_init_29
set_option maxHeartbeats 4000000 in
set_option maxRecDepth 100000 in
theorem cLg_firstWith (l : Launch) (D : va_G) (cA cZ : ClassId) (h0 : Nat) (h0_cells : Nat) (h0_starts : Nat) (h0_leaves : Nat) (x0_count : Int32) (x0_end : Int32) (x0_syncedCount : Int32) (x0_syncedEnd : Int32) (g0_cells : Nat → Int32) (g0_starts : Nat → Int32) (k1 : Int32) (rr : Int32) (hf : fLg_firstWith x0_count g0_cells g0_starts k1 = some rr) : hw_C l yX2_firstWith wX2_firstWith { frames := 0, cells := 0, slots := 0, locals := 0 } D vwCl cA cZ [.ref h0, .int k1] [(h0, .inr (2, [.ref h0_cells, .ref h0_starts, .ref h0_leaves, .int x0_count, .int x0_end, .int x0_syncedCount, .int x0_syncedEnd])), (h0_cells, .inl (cA, 512, .inl g0_cells)), (h0_starts, .inl (cA, 73, .inl g0_starts))] [(h0, .inr (2, [.ref h0_cells, .ref h0_starts, .ref h0_leaves, .int x0_count, .int x0_end, .int x0_syncedCount, .int x0_syncedEnd])), (h0_cells, .inl (cA, 512, .inl g0_cells)), (h0_starts, .inl (cA, 73, .inl g0_starts))] (some (.int rr)) := by
  refine hw_of (cc := cX2_firstWith) (maxL := 3) (ret := (some .int)) (by decide) rfl (Nat.le_of_ble_eq_true rfl) ?_
  intro p e s m args below meth c A ls hx hb hr hlk hml hown hts hA hK hE hP hD hS hl
  have hown : s.vm.findClass RX2 = some m.cls := hown
  have hl : lv_has ls 3 [(0, .ref h0), (1, .int k1)] := hl
  have L2 : ∀ (n2 : Nat) (ls : Array Slot) (H : Heap) (locs : List Loc) (k1 : Int32) (k2 : Int32), lv_has ls 3 [(0, .ref h0), (1, .int k1), (2, .int k2)] → va_P D vwCl [(h0, .inr (2, [.ref h0_cells, .ref h0_starts, .ref h0_leaves, .int x0_count, .int x0_end, .int x0_syncedCount, .int x0_syncedEnd])), (h0_cells, .inl (cA, 512, .inl g0_cells)), (h0_starts, .inl (cA, 73, .inl g0_starts))] H → va_D A [(h0, .inr (2, [.ref h0_cells, .ref h0_starts, .ref h0_leaves, .int x0_count, .int x0_end, .int x0_syncedCount, .int x0_syncedEnd])), (h0_cells, .inl (cA, 512, .inl g0_cells)), (h0_starts, .inl (cA, 73, .inl g0_starts))] → va_S A s.heap H locs → fLg_firstWith_L2 x0_count g0_cells g0_starts k1 n2 k2 = some rr → W p l e { frames := 0, cells := 0, slots := 0, locals := 0 } s m args below meth c H locs 0 0 (hw_Z below args s D vwCl A [(h0, .inr (2, [.ref h0_cells, .ref h0_starts, .ref h0_leaves, .int x0_count, .int x0_end, .int x0_syncedCount, .int x0_syncedEnd])), (h0_cells, .inl (cA, 512, .inl g0_cells)), (h0_starts, .inl (cA, 73, .inl g0_starts))] (some (.int rr))) (F0 m 2 ls []) := by
    intro n2
    induction n2 with
    | zero => intro ls H locs k1 k2 hl hP hD hS hf; simp only [fLg_firstWith_L2] at hf; cases hf
    | succ n2 ih2 =>
      intro ls H locs k1 k2 hl hP hD hS hf
      rw [fLg_firstWith_L2] at hf
      refine lv_iload_n hx hb dX2_firstWith_2 rfl (lv_at hl 2 rfl) ?_
      refine lv_aload_n hx hb dX2_firstWith_3 rfl (lv_at hl 0 rfl) ?_
      refine va_get (D := D) (ci := 2) (v := .int x0_count) (C := RX2) (T := TX2) (N := 7) hx hb hts in_X2 hown hK hP 0 rfl rfl 3 (by decide) (hts _ mw_67) (fun _ h9 => h9) rfl dX2_firstWith_4 ?_
      refine hi_icmp_ge (tgt := 35) hx hb dX2_firstWith_7 rfl hf (fun hc hf => ?_) (fun hc hf => ?_)
      · refine lv_iconst (v := (-1 : Int32)) hx hb dX2_firstWith_35 (by decide) ?_
        cases hf
        exact hw_ri hx hb hr hlk (hP.sub [0, 1, 2] rfl) (hD.sub [0, 1, 2] (by decide) rfl) hS dX2_firstWith_36
      · refine lv_aload_n hx hb dX2_firstWith_10 rfl (lv_at hl 0 rfl) ?_
        refine va_get (D := D) (ci := 2) (v := .ref h0_cells) (C := RX2) (T := TX2) (N := 7) hx hb hts in_X2 hown hK hP 0 rfl rfl 0 (by decide) (hts _ mw_8) (fun _ h9 => h9) rfl dX2_firstWith_11 ?_
        refine lv_aload_n hx hb dX2_firstWith_14 rfl (lv_at hl 0 rfl) ?_
        refine va_get (D := D) (ci := 2) (v := .ref h0_starts) (C := RX2) (T := TX2) (N := 7) hx hb hts in_X2 hown hK hP 0 rfl rfl 1 (by decide) (hts _ mw_9) (fun _ h9 => h9) rfl dX2_firstWith_15 ?_
        refine lv_iload_n hx hb dX2_firstWith_18 rfl (lv_at hl 2 rfl) ?_
        obtain ⟨v1, e2, hf⟩ := hw_bind hf
        refine hw_iald hx hb hK hP 2 rfl e2 dX2_firstWith_19 ?_
        refine lv_iconst (v := (1 : Int32)) hx hb dX2_firstWith_20 (by decide) ?_
        refine lv_iadd hx hb dX2_firstWith_21 ?_
        obtain ⟨v3, e4, hf⟩ := hw_bind hf
        refine hw_iald hx hb hK hP 1 rfl e4 dX2_firstWith_22 ?_
        refine lv_iload_n hx hb dX2_firstWith_23 rfl (lv_at hl 1 rfl) ?_
        refine hi_icmp_ne (tgt := 29) hx hb dX2_firstWith_24 rfl hf (fun hc hf => ?_) (fun hc hf => ?_)
        · refine lv_iinc (v := k2 + (1 : Int32)) (lv' := [(2, .int (k2 + (1 : Int32))), (0, .ref h0), (1, .int k1)]) hx hb dX2_firstWith_29 hl (k := 2) rfl (congrArg (fun z => k2 + z) (by decide)) (by decide) rfl (fun ls hl => ?_)
          refine lv_goto (tgt := 2) hx hb dX2_firstWith_32 rfl ?_
          exact ih2 _ _ _ k1 (k2 + (1 : Int32)) (lv_sub hl [1, 2, 0] rfl) (hP.sub [0, 1, 2] rfl) (hD.sub [0, 1, 2] (by decide) rfl) hS hf
        · refine lv_iload_n hx hb dX2_firstWith_27 rfl (lv_at hl 2 rfl) ?_
          cases hf
          exact hw_ri hx hb hr hlk (hP.sub [0, 1, 2] rfl) (hD.sub [0, 1, 2] (by decide) rfl) hS dX2_firstWith_28
  rw [fLg_firstWith] at hf
  refine lv_iconst (v := (0 : Int32)) hx hb dX2_firstWith_0 (by decide) ?_
  refine lv_istore_n (lv' := [(2, .int (0 : Int32)), (0, .ref h0), (1, .int k1)]) hx hb dX2_firstWith_1 rfl hl (by decide) rfl (fun ls hl => ?_)
  exact L2 600 _ _ _ k1 (0 : Int32) (lv_sub hl [1, 2, 0] rfl) (hP.sub [0, 1, 2] rfl) (hD.sub [0, 1, 2] (by decide) rfl) hS hf
set_option maxHeartbeats 4000000 in
set_option maxRecDepth 100000 in
theorem cLg_size (l : Launch) (D : va_G) (cA cZ : ClassId) (h0 : Nat) (h0_cells : Nat) (h0_starts : Nat) (h0_leaves : Nat) (x0_count : Int32) (x0_end : Int32) (x0_syncedCount : Int32) (x0_syncedEnd : Int32) (rr : Int32) (hf : fLg_size x0_count = some rr) : hw_C l yX2_size wX2_size { frames := 0, cells := 0, slots := 0, locals := 0 } D vwCl cA cZ [.ref h0] [(h0, .inr (2, [.ref h0_cells, .ref h0_starts, .ref h0_leaves, .int x0_count, .int x0_end, .int x0_syncedCount, .int x0_syncedEnd]))] [(h0, .inr (2, [.ref h0_cells, .ref h0_starts, .ref h0_leaves, .int x0_count, .int x0_end, .int x0_syncedCount, .int x0_syncedEnd]))] (some (.int rr)) := by
  refine hw_of (cc := cX2_size) (maxL := 1) (ret := (some .int)) (by decide) rfl (Nat.le_of_ble_eq_true rfl) ?_
  intro p e s m args below meth c A ls hx hb hr hlk hml hown hts hA hK hE hP hD hS hl
  have hown : s.vm.findClass RX2 = some m.cls := hown
  have hl : lv_has ls 1 [(0, .ref h0)] := hl
  rw [fLg_size] at hf
  refine lv_aload_n hx hb dX2_size_0 rfl (lv_at hl 0 rfl) ?_
  refine va_get (D := D) (ci := 2) (v := .int x0_count) (C := RX2) (T := TX2) (N := 7) hx hb hts in_X2 hown hK hP 0 rfl rfl 3 (by decide) (hts _ mw_67) (fun _ h9 => h9) rfl dX2_size_1 ?_
  cases hf
  exact hw_ri hx hb hr hlk (hP.sub [0] rfl) (hD.sub [0] (by decide) rfl) hS dX2_size_4
set_option maxHeartbeats 4000000 in
set_option maxRecDepth 100000 in
theorem cLg_accountCell (l : Launch) (D : va_G) (cA cZ : ClassId) (k0 : Int32) (k1 : Int32) (rr : Int32) (hf : fLg_accountCell k0 k1 = some rr) : hw_C l yX2_accountCell wX2_accountCell { frames := 0, cells := 0, slots := 0, locals := 0 } D vwCl cA cZ [.int k0, .int k1] [] [] (some (.int rr)) := by
  refine hw_of (cc := cX2_accountCell) (maxL := 2) (ret := (some .int)) (by decide) rfl (Nat.le_of_ble_eq_true rfl) ?_
  intro p e s m args below meth c A ls hx hb hr hlk hml hown hts hA hK hE hP hD hS hl
  have hown : s.vm.findClass RX2 = some m.cls := hown
  have hl : lv_has ls 2 [(0, .int k0), (1, .int k1)] := hl
  rw [fLg_accountCell] at hf
  refine lv_iload_n hx hb dX2_accountCell_0 rfl (lv_at hl 0 rfl) ?_
  refine lv_iconst (v := (2 : Int32)) hx hb dX2_accountCell_1 (by decide) ?_
  refine lv_iadd hx hb dX2_accountCell_2 ?_
  refine lv_iconst (v := (2 : Int32)) hx hb dX2_accountCell_3 (by decide) ?_
  refine lv_iload_n hx hb dX2_accountCell_4 rfl (lv_at hl 1 rfl) ?_
  refine lv_imul hx hb dX2_accountCell_5 ?_
  refine lv_iadd hx hb dX2_accountCell_6 ?_
  cases hf
  exact hw_ri hx hb hr hlk (hP.sub [] rfl) (hD.sub [] (by decide) rfl) hS dX2_accountCell_7
set_option maxHeartbeats 4000000 in
set_option maxRecDepth 100000 in
theorem cLg_amountCell (l : Launch) (D : va_G) (cA cZ : ClassId) (k0 : Int32) (k1 : Int32) (rr : Int32) (hf : fLg_amountCell k0 k1 = some rr) : hw_C l yX2_amountCell wX2_amountCell { frames := 0, cells := 0, slots := 0, locals := 0 } D vwCl cA cZ [.int k0, .int k1] [] [] (some (.int rr)) := by
  refine hw_of (cc := cX2_amountCell) (maxL := 2) (ret := (some .int)) (by decide) rfl (Nat.le_of_ble_eq_true rfl) ?_
  intro p e s m args below meth c A ls hx hb hr hlk hml hown hts hA hK hE hP hD hS hl
  have hown : s.vm.findClass RX2 = some m.cls := hown
  have hl : lv_has ls 2 [(0, .int k0), (1, .int k1)] := hl
  rw [fLg_amountCell] at hf
  refine lv_iload_n hx hb dX2_amountCell_0 rfl (lv_at hl 0 rfl) ?_
  refine lv_iconst (v := (3 : Int32)) hx hb dX2_amountCell_1 (by decide) ?_
  refine lv_iadd hx hb dX2_amountCell_2 ?_
  refine lv_iconst (v := (2 : Int32)) hx hb dX2_amountCell_3 (by decide) ?_
  refine lv_iload_n hx hb dX2_amountCell_4 rfl (lv_at hl 1 rfl) ?_
  refine lv_imul hx hb dX2_amountCell_5 ?_
  refine lv_iadd hx hb dX2_amountCell_6 ?_
  cases hf
  exact hw_ri hx hb hr hlk (hP.sub [] rfl) (hD.sub [] (by decide) rfl) hS dX2_amountCell_7
set_option maxHeartbeats 4000000 in
set_option maxRecDepth 100000 in
theorem cLg_totalAt (l : Launch) (D : va_G) (cA cZ : ClassId) (h0 : Nat) (h0_cells : Nat) (h0_starts : Nat) (h0_leaves : Nat) (x0_count : Int32) (x0_end : Int32) (x0_syncedCount : Int32) (x0_syncedEnd : Int32) (g0_cells : Nat → Int32) (k1 : Int32) (k2 : Int32) (k3 : Int32) (rr : Int32) (hf : fLg_totalAt g0_cells k1 k2 k3 = some rr) : hw_C l yX2_totalAt wX2_totalAt { frames := 1, cells := 0, slots := 0, locals := 21 } D vwCl cA cZ [.ref h0, .int k1, .int k2, .int k3] [(h0, .inr (2, [.ref h0_cells, .ref h0_starts, .ref h0_leaves, .int x0_count, .int x0_end, .int x0_syncedCount, .int x0_syncedEnd])), (h0_cells, .inl (cA, 512, .inl g0_cells))] [(h0, .inr (2, [.ref h0_cells, .ref h0_starts, .ref h0_leaves, .int x0_count, .int x0_end, .int x0_syncedCount, .int x0_syncedEnd])), (h0_cells, .inl (cA, 512, .inl g0_cells))] (some (.int rr)) := by
  refine hw_of (cc := cX2_totalAt) (maxL := 6) (ret := (some .int)) (by decide) rfl (Nat.le_of_ble_eq_true rfl) ?_
  intro p e s m args below meth c A ls hx hb hr hlk hml hown hts hA hK hE hP hD hS hl
  have hown : s.vm.findClass RX2 = some m.cls := hown
  have hl : lv_has ls 6 [(0, .ref h0), (1, .int k1), (2, .int k2), (3, .int k3)] := hl
  have L6 : ∀ (n6 : Nat) (ls : Array Slot) (H : Heap) (locs : List Loc) (k1 : Int32) (k2 : Int32) (k3 : Int32) (k4 : Int32) (k5 : Int32), lv_has ls 6 [(0, .ref h0), (1, .int k1), (2, .int k2), (3, .int k3), (4, .int k4), (5, .int k5)] → va_P D vwCl [(h0, .inr (2, [.ref h0_cells, .ref h0_starts, .ref h0_leaves, .int x0_count, .int x0_end, .int x0_syncedCount, .int x0_syncedEnd])), (h0_cells, .inl (cA, 512, .inl g0_cells))] H → va_D A [(h0, .inr (2, [.ref h0_cells, .ref h0_starts, .ref h0_leaves, .int x0_count, .int x0_end, .int x0_syncedCount, .int x0_syncedEnd])), (h0_cells, .inl (cA, 512, .inl g0_cells))] → va_S A s.heap H locs → fLg_totalAt_L6 g0_cells k1 k2 k3 n6 k4 k5 = some rr → W p l e { frames := 1, cells := 0, slots := 0, locals := 21 } s m args below meth c H locs 0 0 (hw_Z below args s D vwCl A [(h0, .inr (2, [.ref h0_cells, .ref h0_starts, .ref h0_leaves, .int x0_count, .int x0_end, .int x0_syncedCount, .int x0_syncedEnd])), (h0_cells, .inl (cA, 512, .inl g0_cells))] (some (.int rr))) (F0 m 6 ls []) := by
    intro n6
    induction n6 with
    | zero => intro ls H locs k1 k2 k3 k4 k5 hl hP hD hS hf; simp only [fLg_totalAt_L6] at hf; cases hf
    | succ n6 ih6 =>
      intro ls H locs k1 k2 k3 k4 k5 hl hP hD hS hf
      rw [fLg_totalAt_L6] at hf
      refine lv_iload hx hb dX2_totalAt_6 (lv_at hl 5 rfl) ?_
      refine lv_aload_n hx hb dX2_totalAt_8 rfl (lv_at hl 0 rfl) ?_
      refine va_get (D := D) (ci := 2) (v := .ref h0_cells) (C := RX2) (T := TX2) (N := 7) hx hb hts in_X2 hown hK hP 0 rfl rfl 0 (by decide) (hts _ mw_8) (fun _ h9 => h9) rfl dX2_totalAt_9 ?_
      refine lv_iload_n hx hb dX2_totalAt_12 rfl (lv_at hl 1 rfl) ?_
      obtain ⟨v1, e2, hf⟩ := hw_bind hf
      refine hw_iald hx hb hK hP 1 rfl e2 dX2_totalAt_13 ?_
      refine hi_icmp_ge (tgt := 62) hx hb dX2_totalAt_14 rfl hf (fun hc hf => ?_) (fun hc hf => ?_)
      · refine lv_iload hx hb dX2_totalAt_62 (lv_at hl 4 rfl) ?_
        cases hf
        exact hw_ri hx hb hr hlk (hP.sub [0, 1] rfl) (hD.sub [0, 1] (by decide) rfl) hS dX2_totalAt_64
      · refine lv_aload_n hx hb dX2_totalAt_17 rfl (lv_at hl 0 rfl) ?_
        refine va_get (D := D) (ci := 2) (v := .ref h0_cells) (C := RX2) (T := TX2) (N := 7) hx hb hts in_X2 hown hK hP 0 rfl rfl 0 (by decide) (hts _ mw_8) (fun _ h9 => h9) rfl dX2_totalAt_18 ?_
        refine lv_iload_n hx hb dX2_totalAt_21 rfl (lv_at hl 1 rfl) ?_
        refine lv_iload hx hb dX2_totalAt_22 (lv_at hl 5 rfl) ?_
        obtain ⟨v3, e4, hf⟩ := hw_bind hf
        refine hw_goS (wr := [(h0, .inr (2, [.ref h0_cells, .ref h0_starts, .ref h0_leaves, .int x0_count, .int x0_end, .int x0_syncedCount, .int x0_syncedEnd])), (h0_cells, .inl (cA, 512, .inl g0_cells))]) (rest := [.ref h0_cells]) ⟨hx, hb, hml, hown, hts⟩ (cLg_accountCell l D cA cZ k1 k5 v3 e4) (cwS 2 hts ks_X2_53 rfl rfl rfl (by decide +kernel) ⟨Nat.le_of_ble_eq_true rfl, Nat.le_of_ble_eq_true rfl⟩) [] [0, 1] rfl rfl (by decide) (by decide) (by decide) hK hE hP hD hS hA hl.1 rfl rfl (Nat.le_of_ble_eq_true rfl) dX2_totalAt_24 ⟨Nat.zero_le _, Nat.zero_le _⟩ (fun H locs (hP : va_P D vwCl [(h0, .inr (2, [.ref h0_cells, .ref h0_starts, .ref h0_leaves, .int x0_count, .int x0_end, .int x0_syncedCount, .int x0_syncedEnd])), (h0_cells, .inl (cA, 512, .inl g0_cells))] H) (hD : va_D A [(h0, .inr (2, [.ref h0_cells, .ref h0_starts, .ref h0_leaves, .int x0_count, .int x0_end, .int x0_syncedCount, .int x0_syncedEnd])), (h0_cells, .inl (cA, 512, .inl g0_cells))]) hS => ?_)
        obtain ⟨v5, e6, hf⟩ := hw_bind hf
        refine hw_iald hx hb hK hP 1 rfl e6 dX2_totalAt_27 ?_
        refine lv_iload_n hx hb dX2_totalAt_28 rfl (lv_at hl 2 rfl) ?_
        refine hi_icmp_ne (tgt := 56) hx hb dX2_totalAt_29 rfl hf (fun hc hf => ?_) (fun hc hf => ?_)
        · refine lv_iinc (v := k5 + (1 : Int32)) (lv' := [(5, .int (k5 + (1 : Int32))), (0, .ref h0), (1, .int k1), (2, .int k2), (3, .int k3), (4, .int k4)]) hx hb dX2_totalAt_56 hl (k := 5) rfl (congrArg (fun z => k5 + z) (by decide)) (by decide) rfl (fun ls hl => ?_)
          refine lv_goto (tgt := 6) hx hb dX2_totalAt_59 rfl ?_
          exact ih6 _ _ _ k1 k2 k3 k4 (k5 + (1 : Int32)) (lv_sub hl [1, 2, 3, 4, 5, 0] rfl) (hP.sub [0, 1] rfl) (hD.sub [0, 1] (by decide) rfl) hS hf
        · refine lv_iload hx hb dX2_totalAt_32 (lv_at hl 4 rfl) ?_
          refine lv_iload_n hx hb dX2_totalAt_34 rfl (lv_at hl 3 rfl) ?_
          refine hi_if_eq (tgt := 52) hx hb dX2_totalAt_35 rfl hf (fun hc hf => ?_) (fun hc hf => ?_)
          · refine lv_iconst (v := (1 : Int32)) hx hb dX2_totalAt_52 (by decide) ?_
            refine lv_iadd hx hb dX2_totalAt_53 ?_
            refine lv_istore (lv' := [(4, .int (k4 + (1 : Int32))), (0, .ref h0), (1, .int k1), (2, .int k2), (3, .int k3), (5, .int k5)]) hx hb dX2_totalAt_54 hl (by decide) rfl (fun ls hl => ?_)
            refine lv_iinc (v := k5 + (1 : Int32)) (lv' := [(5, .int (k5 + (1 : Int32))), (4, .int (k4 + (1 : Int32))), (0, .ref h0), (1, .int k1), (2, .int k2), (3, .int k3)]) hx hb dX2_totalAt_56 hl (k := 5) rfl (congrArg (fun z => k5 + z) (by decide)) (by decide) rfl (fun ls hl => ?_)
            refine lv_goto (tgt := 6) hx hb dX2_totalAt_59 rfl ?_
            exact ih6 _ _ _ k1 k2 k3 (k4 + (1 : Int32)) (k5 + (1 : Int32)) (lv_sub hl [2, 3, 4, 5, 1, 0] rfl) (hP.sub [0, 1] rfl) (hD.sub [0, 1] (by decide) rfl) hS hf
          · refine lv_aload_n hx hb dX2_totalAt_38 rfl (lv_at hl 0 rfl) ?_
            refine va_get (D := D) (ci := 2) (v := .ref h0_cells) (C := RX2) (T := TX2) (N := 7) hx hb hts in_X2 hown hK hP 0 rfl rfl 0 (by decide) (hts _ mw_8) (fun _ h9 => h9) rfl dX2_totalAt_39 ?_
            refine lv_iload_n hx hb dX2_totalAt_42 rfl (lv_at hl 1 rfl) ?_
            refine lv_iload hx hb dX2_totalAt_43 (lv_at hl 5 rfl) ?_
            obtain ⟨v7, e8, hf⟩ := hw_bind hf
            refine hw_goS (wr := [(h0, .inr (2, [.ref h0_cells, .ref h0_starts, .ref h0_leaves, .int x0_count, .int x0_end, .int x0_syncedCount, .int x0_syncedEnd])), (h0_cells, .inl (cA, 512, .inl g0_cells))]) (rest := [.ref h0_cells, .int k4]) ⟨hx, hb, hml, hown, hts⟩ (cLg_amountCell l D cA cZ k1 k5 v7 e8) (cwS 2 hts ks_X2_60 rfl rfl rfl (by decide +kernel) ⟨Nat.le_of_ble_eq_true rfl, Nat.le_of_ble_eq_true rfl⟩) [] [0, 1] rfl rfl (by decide) (by decide) (by decide) hK hE hP hD hS hA hl.1 rfl rfl (Nat.le_of_ble_eq_true rfl) dX2_totalAt_45 ⟨Nat.zero_le _, Nat.zero_le _⟩ (fun H locs (hP : va_P D vwCl [(h0, .inr (2, [.ref h0_cells, .ref h0_starts, .ref h0_leaves, .int x0_count, .int x0_end, .int x0_syncedCount, .int x0_syncedEnd])), (h0_cells, .inl (cA, 512, .inl g0_cells))] H) (hD : va_D A [(h0, .inr (2, [.ref h0_cells, .ref h0_starts, .ref h0_leaves, .int x0_count, .int x0_end, .int x0_syncedCount, .int x0_syncedEnd])), (h0_cells, .inl (cA, 512, .inl g0_cells))]) hS => ?_)
            obtain ⟨v9, e10, hf⟩ := hw_bind hf
            refine hw_iald hx hb hK hP 1 rfl e10 dX2_totalAt_48 ?_
            refine lv_goto (tgt := 53) hx hb dX2_totalAt_49 rfl ?_
            refine lv_iadd hx hb dX2_totalAt_53 ?_
            refine lv_istore (lv' := [(4, .int (k4 + v9)), (0, .ref h0), (1, .int k1), (2, .int k2), (3, .int k3), (5, .int k5)]) hx hb dX2_totalAt_54 hl (by decide) rfl (fun ls hl => ?_)
            refine lv_iinc (v := k5 + (1 : Int32)) (lv' := [(5, .int (k5 + (1 : Int32))), (4, .int (k4 + v9)), (0, .ref h0), (1, .int k1), (2, .int k2), (3, .int k3)]) hx hb dX2_totalAt_56 hl (k := 5) rfl (congrArg (fun z => k5 + z) (by decide)) (by decide) rfl (fun ls hl => ?_)
            refine lv_goto (tgt := 6) hx hb dX2_totalAt_59 rfl ?_
            exact ih6 _ _ _ k1 k2 k3 (k4 + v9) (k5 + (1 : Int32)) (lv_sub hl [2, 3, 4, 5, 1, 0] rfl) (hP.sub [0, 1] rfl) (hD.sub [0, 1] (by decide) rfl) hS hf
  rw [fLg_totalAt] at hf
  refine lv_iconst (v := (0 : Int32)) hx hb dX2_totalAt_0 (by decide) ?_
  refine lv_istore (lv' := [(4, .int (0 : Int32)), (0, .ref h0), (1, .int k1), (2, .int k2), (3, .int k3)]) hx hb dX2_totalAt_1 hl (by decide) rfl (fun ls hl => ?_)
  refine lv_iconst (v := (0 : Int32)) hx hb dX2_totalAt_3 (by decide) ?_
  refine lv_istore (lv' := [(5, .int (0 : Int32)), (4, .int (0 : Int32)), (0, .ref h0), (1, .int k1), (2, .int k2), (3, .int k3)]) hx hb dX2_totalAt_4 hl (by decide) rfl (fun ls hl => ?_)
  exact L6 600 _ _ _ k1 k2 k3 (0 : Int32) (0 : Int32) (lv_sub hl [2, 3, 4, 5, 1, 0] rfl) (hP.sub [0, 1] rfl) (hD.sub [0, 1] (by decide) rfl) hS hf
set_option maxHeartbeats 4000000 in
set_option maxRecDepth 100000 in
theorem cLg_total (l : Launch) (D : va_G) (cA cZ : ClassId) (h0 : Nat) (h0_cells : Nat) (h0_starts : Nat) (h0_leaves : Nat) (x0_count : Int32) (x0_end : Int32) (x0_syncedCount : Int32) (x0_syncedEnd : Int32) (g0_cells : Nat → Int32) (g0_starts : Nat → Int32) (k1 : Int32) (k2 : Int32) (k3 : Int32) (k4 : Int32) (rr : Int32) (hf : fLg_total x0_count g0_cells g0_starts k1 k2 k3 k4 = some rr) : hw_C l yX2_total wX2_total { frames := 2, cells := 0, slots := 0, locals := 46 } D vwCl cA cZ [.ref h0, .int k1, .int k2, .int k3, .int k4] [(h0, .inr (2, [.ref h0_cells, .ref h0_starts, .ref h0_leaves, .int x0_count, .int x0_end, .int x0_syncedCount, .int x0_syncedEnd])), (h0_cells, .inl (cA, 512, .inl g0_cells)), (h0_starts, .inl (cA, 73, .inl g0_starts))] [(h0, .inr (2, [.ref h0_cells, .ref h0_starts, .ref h0_leaves, .int x0_count, .int x0_end, .int x0_syncedCount, .int x0_syncedEnd])), (h0_cells, .inl (cA, 512, .inl g0_cells)), (h0_starts, .inl (cA, 73, .inl g0_starts))] (some (.int rr)) := by
  refine hw_of (cc := cX2_total) (maxL := 8) (ret := (some .int)) (by decide) rfl (Nat.le_of_ble_eq_true rfl) ?_
  intro p e s m args below meth c A ls hx hb hr hlk hml hown hts hA hK hE hP hD hS hl
  have hown : s.vm.findClass RX2 = some m.cls := hown
  have hl : lv_has ls 8 [(0, .ref h0), (1, .int k1), (2, .int k2), (3, .int k3), (4, .int k4)] := hl
  have L20 : ∀ (n20 : Nat) (ls : Array Slot) (H : Heap) (locs : List Loc) (k1 : Int32) (k4 : Int32) (k6 : Int32) (k5 : Int32) (k7 : Int32), lv_has ls 8 [(0, .ref h0), (1, .int k1), (4, .int k4), (5, .int k5), (6, .int k6), (7, .int k7)] → va_P D vwCl [(h0, .inr (2, [.ref h0_cells, .ref h0_starts, .ref h0_leaves, .int x0_count, .int x0_end, .int x0_syncedCount, .int x0_syncedEnd])), (h0_cells, .inl (cA, 512, .inl g0_cells)), (h0_starts, .inl (cA, 73, .inl g0_starts))] H → va_D A [(h0, .inr (2, [.ref h0_cells, .ref h0_starts, .ref h0_leaves, .int x0_count, .int x0_end, .int x0_syncedCount, .int x0_syncedEnd])), (h0_cells, .inl (cA, 512, .inl g0_cells)), (h0_starts, .inl (cA, 73, .inl g0_starts))] → va_S A s.heap H locs → fLg_total_L20 x0_count g0_cells g0_starts k1 k4 k6 n20 k5 k7 = some rr → W p l e { frames := 2, cells := 0, slots := 0, locals := 46 } s m args below meth c H locs 0 0 (hw_Z below args s D vwCl A [(h0, .inr (2, [.ref h0_cells, .ref h0_starts, .ref h0_leaves, .int x0_count, .int x0_end, .int x0_syncedCount, .int x0_syncedEnd])), (h0_cells, .inl (cA, 512, .inl g0_cells)), (h0_starts, .inl (cA, 73, .inl g0_starts))] (some (.int rr))) (F0 m 20 ls []) := by
    intro n20
    induction n20 with
    | zero => intro ls H locs k1 k4 k6 k5 k7 hl hP hD hS hf; simp only [fLg_total_L20] at hf; cases hf
    | succ n20 ih20 =>
      intro ls H locs k1 k4 k6 k5 k7 hl hP hD hS hf
      rw [fLg_total_L20] at hf
      refine lv_iload hx hb dX2_total_20 (lv_at hl 5 rfl) ?_
      refine lv_iload hx hb dX2_total_22 (lv_at hl 4 rfl) ?_
      refine hi_icmp_ge (tgt := 52) hx hb dX2_total_24 rfl hf (fun hc hf => ?_) (fun hc hf => ?_)
      · refine lv_iload hx hb dX2_total_52 (lv_at hl 3 rfl) ?_
        cases hf
        exact hw_ri hx hb hr hlk (hP.sub [0, 1, 2] rfl) (hD.sub [0, 1, 2] (by decide) rfl) hS dX2_total_54
      · refine lv_iload hx hb dX2_total_27 (lv_at hl 3 rfl) ?_
        refine lv_aload_n hx hb dX2_total_29 rfl (lv_at hl 0 rfl) ?_
        refine lv_aload_n hx hb dX2_total_30 rfl (lv_at hl 0 rfl) ?_
        refine va_get (D := D) (ci := 2) (v := .ref h0_starts) (C := RX2) (T := TX2) (N := 7) hx hb hts in_X2 hown hK hP 0 rfl rfl 1 (by decide) (hts _ mw_9) (fun _ h9 => h9) rfl dX2_total_31 ?_
        refine lv_iload hx hb dX2_total_34 (lv_at hl 5 rfl) ?_
        obtain ⟨v1, e2, hf⟩ := hw_bind hf
        refine hw_iald hx hb hK hP 2 rfl e2 dX2_total_36 ?_
        refine lv_iload_n hx hb dX2_total_37 rfl (lv_at hl 1 rfl) ?_
        refine lv_iload hx hb dX2_total_38 (lv_at hl 2 rfl) ?_
        obtain ⟨v3, e4, hf⟩ := hw_bind hf
        refine hw_goV (wr := [(h0_starts, .inl (cA, 73, .inl g0_starts))]) (rest := [.int k5]) ⟨hx, hb, hml, hown, hts⟩ (cLg_totalAt l D cA cZ h0 h0_cells h0_starts h0_leaves x0_count x0_end x0_syncedCount x0_syncedEnd g0_cells v1 k1 k4 v3 e4) (cwV 3 hts ks_X2_101 rfl rfl rfl (by decide +kernel) ⟨Nat.le_of_ble_eq_true rfl, Nat.le_of_ble_eq_true rfl⟩) 0 rfl rfl [0, 1] [2] rfl rfl (by decide) (by decide) (by decide) hK hE hP hD hS hA hl.1 rfl rfl (Nat.le_of_ble_eq_true rfl) dX2_total_40 ⟨Nat.zero_le _, Nat.zero_le _⟩ (fun H locs (hP : va_P D vwCl [(h0_starts, .inl (cA, 73, .inl g0_starts)), (h0, .inr (2, [.ref h0_cells, .ref h0_starts, .ref h0_leaves, .int x0_count, .int x0_end, .int x0_syncedCount, .int x0_syncedEnd])), (h0_cells, .inl (cA, 512, .inl g0_cells))] H) (hD : va_D A [(h0_starts, .inl (cA, 73, .inl g0_starts)), (h0, .inr (2, [.ref h0_cells, .ref h0_starts, .ref h0_leaves, .int x0_count, .int x0_end, .int x0_syncedCount, .int x0_syncedEnd])), (h0_cells, .inl (cA, 512, .inl g0_cells))]) hS => ?_)
        refine lv_iadd hx hb dX2_total_43 ?_
        refine lv_istore (lv' := [(5, .int (k5 + v3)), (0, .ref h0), (1, .int k1), (4, .int k4), (6, .int k6), (7, .int k7)]) hx hb dX2_total_44 hl (by decide) rfl (fun ls hl => ?_)
        refine lv_iinc (v := k7 + (1 : Int32)) (lv' := [(7, .int (k7 + (1 : Int32))), (5, .int (k5 + v3)), (0, .ref h0), (1, .int k1), (4, .int k4), (6, .int k6)]) hx hb dX2_total_46 hl (k := 5) rfl (congrArg (fun z => k7 + z) (by decide)) (by decide) rfl (fun ls hl => ?_)
        refine lv_goto (tgt := 20) hx hb dX2_total_49 rfl ?_
        exact ih20 _ _ _ k1 k4 k6 (k5 + v3) (k7 + (1 : Int32)) (lv_sub hl [2, 3, 4, 1, 5, 0] rfl) (hP.sub [1, 2, 0] rfl) (hD.sub [1, 2, 0] (by decide) rfl) hS hf
  rw [fLg_total] at hf
  refine lv_iconst (v := (0 : Int32)) hx hb dX2_total_0 (by decide) ?_
  refine lv_istore (lv' := [(5, .int (0 : Int32)), (0, .ref h0), (1, .int k1), (2, .int k2), (3, .int k3), (4, .int k4)]) hx hb dX2_total_1 hl (by decide) rfl (fun ls hl => ?_)
  refine lv_iload_n hx hb dX2_total_3 rfl (lv_at hl 4 rfl) ?_
  refine lv_aload_n hx hb dX2_total_4 rfl (lv_at hl 1 rfl) ?_
  refine va_get (D := D) (ci := 2) (v := .int x0_count) (C := RX2) (T := TX2) (N := 7) hx hb hts in_X2 hown hK hP 0 rfl rfl 3 (by decide) (hts _ mw_67) (fun _ h9 => h9) rfl dX2_total_5 ?_
  refine hw_mmin hx hb (hml.trans hl.1.symm) hown (hts _ mw_79) (hts _ mw_80) (hts _ mw_81) (hts _ mw_82) (Nat.le_of_ble_eq_true rfl) (Nat.le_of_ble_eq_true rfl) (Nat.zero_le _) (Nat.zero_le _) dX2_total_8 ?_
  refine lv_istore (lv' := [(6, .int (hw_min k3 x0_count)), (5, .int (0 : Int32)), (0, .ref h0), (1, .int k1), (2, .int k2), (3, .int k3), (4, .int k4)]) hx hb dX2_total_11 hl (by decide) rfl (fun ls hl => ?_)
  refine lv_iload_n hx hb dX2_total_13 rfl (lv_at hl 4 rfl) ?_
  refine lv_iconst (v := (0 : Int32)) hx hb dX2_total_14 (by decide) ?_
  refine hw_mmax hx hb (hml.trans hl.1.symm) hown (hts _ mw_83) (hts _ mw_84) (hts _ mw_81) (hts _ mw_85) (Nat.le_of_ble_eq_true rfl) (Nat.le_of_ble_eq_true rfl) (Nat.zero_le _) (Nat.zero_le _) dX2_total_15 ?_
  refine lv_istore (lv' := [(7, .int (hw_max k2 (0 : Int32))), (6, .int (hw_min k3 x0_count)), (5, .int (0 : Int32)), (0, .ref h0), (1, .int k1), (2, .int k2), (3, .int k3), (4, .int k4)]) hx hb dX2_total_18 hl (by decide) rfl (fun ls hl => ?_)
  exact L20 600 _ _ _ k1 k4 (hw_min k3 x0_count) (0 : Int32) (hw_max k2 (0 : Int32)) (lv_sub hl [3, 4, 7, 2, 1, 0] rfl) (hP.sub [0, 1, 2] rfl) (hD.sub [0, 1, 2] (by decide) rfl) hS hf
set_option maxHeartbeats 4000000 in
set_option maxRecDepth 100000 in
theorem cLg_sealCell (l : Launch) (D : va_G) (cA cZ : ClassId) (h0 : Nat) (h0_cells : Nat) (h0_starts : Nat) (h0_leaves : Nat) (x0_count : Int32) (x0_end : Int32) (x0_syncedCount : Int32) (x0_syncedEnd : Int32) (g0_cells : Nat → Int32) (k1 : Int32) (rr : Int32) (hf : fLg_sealCell g0_cells k1 = some rr) : hw_C l yX2_sealCell wX2_sealCell { frames := 1, cells := 0, slots := 0, locals := 20 } D vwCl cA cZ [.ref h0, .int k1] [(h0, .inr (2, [.ref h0_cells, .ref h0_starts, .ref h0_leaves, .int x0_count, .int x0_end, .int x0_syncedCount, .int x0_syncedEnd])), (h0_cells, .inl (cA, 512, .inl g0_cells))] [(h0, .inr (2, [.ref h0_cells, .ref h0_starts, .ref h0_leaves, .int x0_count, .int x0_end, .int x0_syncedCount, .int x0_syncedEnd])), (h0_cells, .inl (cA, 512, .inl g0_cells))] (some (.int rr)) := by
  refine hw_of (cc := cX2_sealCell) (maxL := 2) (ret := (some .int)) (by decide) rfl (Nat.le_of_ble_eq_true rfl) ?_
  intro p e s m args below meth c A ls hx hb hr hlk hml hown hts hA hK hE hP hD hS hl
  have hown : s.vm.findClass RX2 = some m.cls := hown
  have hl : lv_has ls 2 [(0, .ref h0), (1, .int k1)] := hl
  rw [fLg_sealCell] at hf
  refine lv_iload_n hx hb dX2_sealCell_0 rfl (lv_at hl 1 rfl) ?_
  refine lv_aload_n hx hb dX2_sealCell_1 rfl (lv_at hl 0 rfl) ?_
  refine va_get (D := D) (ci := 2) (v := .ref h0_cells) (C := RX2) (T := TX2) (N := 7) hx hb hts in_X2 hown hK hP 0 rfl rfl 0 (by decide) (hts _ mw_8) (fun _ h9 => h9) rfl dX2_sealCell_2 ?_
  refine lv_iload_n hx hb dX2_sealCell_5 rfl (lv_at hl 1 rfl) ?_
  obtain ⟨v1, e2, hf⟩ := hw_bind hf
  refine hw_iald hx hb hK hP 1 rfl e2 dX2_sealCell_6 ?_
  obtain ⟨v3, e4, hf⟩ := hw_bind hf
  refine hw_goSN (wr := [(h0, .inr (2, [.ref h0_cells, .ref h0_starts, .ref h0_leaves, .int x0_count, .int x0_end, .int x0_syncedCount, .int x0_syncedEnd])), (h0_cells, .inl (cA, 512, .inl g0_cells))]) (rest := [.int k1]) ⟨hx, hb, hml, hown, hts⟩ (cSl_entryCells l D cA cZ v1 v3 e4) ⟨va_cnB 1 hts ks_X2_50 rfl rfl rfl (ne_0 hE) (hts _ mw_49) (by decide +kernel) ⟨Nat.le_of_ble_eq_true rfl, Nat.le_of_ble_eq_true rfl⟩, hts _ mw_109, trivial⟩ [] [0, 1] rfl rfl (by decide) (by decide) (by decide) hK hE hP hD hS hA hl.1 rfl rfl (Nat.le_of_ble_eq_true rfl) dX2_sealCell_7 ⟨Nat.zero_le _, Nat.zero_le _⟩ (fun H locs (hP : va_P D vwCl [(h0, .inr (2, [.ref h0_cells, .ref h0_starts, .ref h0_leaves, .int x0_count, .int x0_end, .int x0_syncedCount, .int x0_syncedEnd])), (h0_cells, .inl (cA, 512, .inl g0_cells))] H) (hD : va_D A [(h0, .inr (2, [.ref h0_cells, .ref h0_starts, .ref h0_leaves, .int x0_count, .int x0_end, .int x0_syncedCount, .int x0_syncedEnd])), (h0_cells, .inl (cA, 512, .inl g0_cells))]) hS => ?_)
  refine lv_iadd hx hb dX2_sealCell_10 ?_
  refine lv_iconst (v := (1 : Int32)) hx hb dX2_sealCell_11 (by decide) ?_
  refine lv_isub hx hb dX2_sealCell_12 ?_
  cases hf
  exact hw_ri hx hb hr hlk (hP.sub [0, 1] rfl) (hD.sub [0, 1] (by decide) rfl) hS dX2_sealCell_13
set_option maxHeartbeats 4000000 in
set_option maxRecDepth 100000 in
theorem cLg_lastSeal (l : Launch) (D : va_G) (cA cZ : ClassId) (h0 : Nat) (h0_cells : Nat) (h0_starts : Nat) (h0_leaves : Nat) (x0_count : Int32) (x0_end : Int32) (x0_syncedCount : Int32) (x0_syncedEnd : Int32) (g0_cells : Nat → Int32) (rr : Int32) (hf : fLg_lastSeal x0_end g0_cells = some rr) : hw_C l yX2_lastSeal wX2_lastSeal { frames := 0, cells := 0, slots := 0, locals := 0 } D vwCl cA cZ [.ref h0] [(h0, .inr (2, [.ref h0_cells, .ref h0_starts, .ref h0_leaves, .int x0_count, .int x0_end, .int x0_syncedCount, .int x0_syncedEnd])), (h0_cells, .inl (cA, 512, .inl g0_cells))] [(h0, .inr (2, [.ref h0_cells, .ref h0_starts, .ref h0_leaves, .int x0_count, .int x0_end, .int x0_syncedCount, .int x0_syncedEnd])), (h0_cells, .inl (cA, 512, .inl g0_cells))] (some (.int rr)) := by
  refine hw_of (cc := cX2_lastSeal) (maxL := 1) (ret := (some .int)) (by decide) rfl (Nat.le_of_ble_eq_true rfl) ?_
  intro p e s m args below meth c A ls hx hb hr hlk hml hown hts hA hK hE hP hD hS hl
  have hown : s.vm.findClass RX2 = some m.cls := hown
  have hl : lv_has ls 1 [(0, .ref h0)] := hl
  rw [fLg_lastSeal] at hf
  refine lv_aload_n hx hb dX2_lastSeal_0 rfl (lv_at hl 0 rfl) ?_
  refine va_get (D := D) (ci := 2) (v := .int x0_end) (C := RX2) (T := TX2) (N := 7) hx hb hts in_X2 hown hK hP 0 rfl rfl 4 (by decide) (hts _ mw_111) (fun _ h9 => h9) rfl dX2_lastSeal_1 ?_
  refine hi_if_le (tgt := 21) hx hb dX2_lastSeal_4 rfl hf (fun hc hf => ?_) (fun hc hf => ?_)
  · refine lv_iconst (v := (0 : Int32)) hx hb dX2_lastSeal_21 (by decide) ?_
    cases hf
    exact hw_ri hx hb hr hlk (hP.sub [0, 1] rfl) (hD.sub [0, 1] (by decide) rfl) hS dX2_lastSeal_22
  · refine lv_aload_n hx hb dX2_lastSeal_7 rfl (lv_at hl 0 rfl) ?_
    refine va_get (D := D) (ci := 2) (v := .ref h0_cells) (C := RX2) (T := TX2) (N := 7) hx hb hts in_X2 hown hK hP 0 rfl rfl 0 (by decide) (hts _ mw_8) (fun _ h9 => h9) rfl dX2_lastSeal_8 ?_
    refine lv_aload_n hx hb dX2_lastSeal_11 rfl (lv_at hl 0 rfl) ?_
    refine va_get (D := D) (ci := 2) (v := .int x0_end) (C := RX2) (T := TX2) (N := 7) hx hb hts in_X2 hown hK hP 0 rfl rfl 4 (by decide) (hts _ mw_111) (fun _ h9 => h9) rfl dX2_lastSeal_12 ?_
    refine lv_iconst (v := (1 : Int32)) hx hb dX2_lastSeal_15 (by decide) ?_
    refine lv_isub hx hb dX2_lastSeal_16 ?_
    obtain ⟨v1, e2, hf⟩ := hw_bind hf
    refine hw_iald hx hb hK hP 1 rfl e2 dX2_lastSeal_17 ?_
    refine lv_goto (tgt := 22) hx hb dX2_lastSeal_18 rfl ?_
    cases hf
    exact hw_ri hx hb hr hlk (hP.sub [0, 1] rfl) (hD.sub [0, 1] (by decide) rfl) hS dX2_lastSeal_22
set_option maxHeartbeats 4000000 in
set_option maxRecDepth 100000 in
theorem cLg_leafFrom (l : Launch) (D : va_G) (cA cZ : ClassId) (h0 : Nat) (h0_cells : Nat) (h0_starts : Nat) (h0_leaves : Nat) (x0_count : Int32) (x0_end : Int32) (x0_syncedCount : Int32) (x0_syncedEnd : Int32) (g0_cells : Nat → Int32) (k1 : Int32) (rr : Int32) (hf : fLg_leafFrom g0_cells k1 = some rr) : hw_C l yX2_leafFrom wX2_leafFrom { frames := 1, cells := 0, slots := 0, locals := 23 } D vwCl cA cZ [.ref h0, .int k1] [(h0, .inr (2, [.ref h0_cells, .ref h0_starts, .ref h0_leaves, .int x0_count, .int x0_end, .int x0_syncedCount, .int x0_syncedEnd])), (h0_cells, .inl (cA, 512, .inl g0_cells))] [(h0, .inr (2, [.ref h0_cells, .ref h0_starts, .ref h0_leaves, .int x0_count, .int x0_end, .int x0_syncedCount, .int x0_syncedEnd])), (h0_cells, .inl (cA, 512, .inl g0_cells))] (some (.int rr)) := by
  refine hw_of (cc := cX2_leafFrom) (maxL := 4) (ret := (some .int)) (by decide) rfl (Nat.le_of_ble_eq_true rfl) ?_
  intro p e s m args below meth c A ls hx hb hr hlk hml hown hts hA hK hE hP hD hS hl
  have hown : s.vm.findClass RX2 = some m.cls := hown
  have hl : lv_has ls 4 [(0, .ref h0), (1, .int k1)] := hl
  have L15 : ∀ (n15 : Nat) (ls : Array Slot) (H : Heap) (locs : List Loc) (k1 : Int32) (k2 : Int32) (k3 : Int32), lv_has ls 4 [(0, .ref h0), (1, .int k1), (2, .int k2), (3, .int k3)] → va_P D vwCl [(h0, .inr (2, [.ref h0_cells, .ref h0_starts, .ref h0_leaves, .int x0_count, .int x0_end, .int x0_syncedCount, .int x0_syncedEnd])), (h0_cells, .inl (cA, 512, .inl g0_cells))] H → va_D A [(h0, .inr (2, [.ref h0_cells, .ref h0_starts, .ref h0_leaves, .int x0_count, .int x0_end, .int x0_syncedCount, .int x0_syncedEnd])), (h0_cells, .inl (cA, 512, .inl g0_cells))] → va_S A s.heap H locs → fLg_leafFrom_L15 g0_cells k1 n15 k2 k3 = some rr → W p l e { frames := 1, cells := 0, slots := 0, locals := 23 } s m args below meth c H locs 0 0 (hw_Z below args s D vwCl A [(h0, .inr (2, [.ref h0_cells, .ref h0_starts, .ref h0_leaves, .int x0_count, .int x0_end, .int x0_syncedCount, .int x0_syncedEnd])), (h0_cells, .inl (cA, 512, .inl g0_cells))] (some (.int rr))) (F0 m 15 ls []) := by
    intro n15
    induction n15 with
    | zero => intro ls H locs k1 k2 k3 hl hP hD hS hf; simp only [fLg_leafFrom_L15] at hf; cases hf
    | succ n15 ih15 =>
      intro ls H locs k1 k2 k3 hl hP hD hS hf
      rw [fLg_leafFrom_L15] at hf
      refine lv_iload_n hx hb dX2_leafFrom_15 rfl (lv_at hl 3 rfl) ?_
      refine lv_aload_n hx hb dX2_leafFrom_16 rfl (lv_at hl 0 rfl) ?_
      refine va_get (D := D) (ci := 2) (v := .ref h0_cells) (C := RX2) (T := TX2) (N := 7) hx hb hts in_X2 hown hK hP 0 rfl rfl 0 (by decide) (hts _ mw_8) (fun _ h9 => h9) rfl dX2_leafFrom_17 ?_
      refine lv_iload_n hx hb dX2_leafFrom_20 rfl (lv_at hl 1 rfl) ?_
      obtain ⟨v5, e6, hf⟩ := hw_bind hf
      refine hw_iald hx hb hK hP 1 rfl e6 dX2_leafFrom_21 ?_
      refine hi_icmp_ge (tgt := 60) hx hb dX2_leafFrom_22 rfl hf (fun hc hf => ?_) (fun hc hf => ?_)
      · refine lv_iload_n hx hb dX2_leafFrom_60 rfl (lv_at hl 2 rfl) ?_
        cases hf
        exact hw_ri hx hb hr hlk (hP.sub [0, 1] rfl) (hD.sub [0, 1] (by decide) rfl) hS dX2_leafFrom_61
      · refine lv_iload_n hx hb dX2_leafFrom_25 rfl (lv_at hl 2 rfl) ?_
        refine lv_bipush (v := (16 : Int32)) hx hb dX2_leafFrom_26 (by decide) ?_
        refine lv_aload_n hx hb dX2_leafFrom_28 rfl (lv_at hl 0 rfl) ?_
        refine va_get (D := D) (ci := 2) (v := .ref h0_cells) (C := RX2) (T := TX2) (N := 7) hx hb hts in_X2 hown hK hP 0 rfl rfl 0 (by decide) (hts _ mw_8) (fun _ h9 => h9) rfl dX2_leafFrom_29 ?_
        refine lv_iload_n hx hb dX2_leafFrom_32 rfl (lv_at hl 1 rfl) ?_
        refine lv_iload_n hx hb dX2_leafFrom_33 rfl (lv_at hl 3 rfl) ?_
        obtain ⟨v7, e8, hf⟩ := hw_bind hf
        refine hw_goS (wr := [(h0, .inr (2, [.ref h0_cells, .ref h0_starts, .ref h0_leaves, .int x0_count, .int x0_end, .int x0_syncedCount, .int x0_syncedEnd])), (h0_cells, .inl (cA, 512, .inl g0_cells))]) (rest := [.ref h0_cells, .int (16 : Int32), .int k2]) ⟨hx, hb, hml, hown, hts⟩ (cLg_amountCell l D cA cZ k1 k3 v7 e8) (cwS 2 hts ks_X2_60 rfl rfl rfl (by decide +kernel) ⟨Nat.le_of_ble_eq_true rfl, Nat.le_of_ble_eq_true rfl⟩) [] [0, 1] rfl rfl (by decide) (by decide) (by decide) hK hE hP hD hS hA hl.1 rfl rfl (Nat.le_of_ble_eq_true rfl) dX2_leafFrom_34 ⟨Nat.zero_le _, Nat.zero_le _⟩ (fun H locs (hP : va_P D vwCl [(h0, .inr (2, [.ref h0_cells, .ref h0_starts, .ref h0_leaves, .int x0_count, .int x0_end, .int x0_syncedCount, .int x0_syncedEnd])), (h0_cells, .inl (cA, 512, .inl g0_cells))] H) (hD : va_D A [(h0, .inr (2, [.ref h0_cells, .ref h0_starts, .ref h0_leaves, .int x0_count, .int x0_end, .int x0_syncedCount, .int x0_syncedEnd])), (h0_cells, .inl (cA, 512, .inl g0_cells))]) hS => ?_)
        obtain ⟨v9, e10, hf⟩ := hw_bind hf
        refine hw_iald hx hb hK hP 1 rfl e10 dX2_leafFrom_37 ?_
        refine lv_imul hx hb dX2_leafFrom_38 ?_
        refine lv_aload_n hx hb dX2_leafFrom_39 rfl (lv_at hl 0 rfl) ?_
        refine va_get (D := D) (ci := 2) (v := .ref h0_cells) (C := RX2) (T := TX2) (N := 7) hx hb hts in_X2 hown hK hP 0 rfl rfl 0 (by decide) (hts _ mw_8) (fun _ h9 => h9) rfl dX2_leafFrom_40 ?_
        refine lv_iload_n hx hb dX2_leafFrom_43 rfl (lv_at hl 1 rfl) ?_
        refine lv_iload_n hx hb dX2_leafFrom_44 rfl (lv_at hl 3 rfl) ?_
        obtain ⟨v11, e12, hf⟩ := hw_bind hf
        refine hw_goS (wr := [(h0, .inr (2, [.ref h0_cells, .ref h0_starts, .ref h0_leaves, .int x0_count, .int x0_end, .int x0_syncedCount, .int x0_syncedEnd])), (h0_cells, .inl (cA, 512, .inl g0_cells))]) (rest := [.ref h0_cells, .int ((16 : Int32) * v9), .int k2]) ⟨hx, hb, hml, hown, hts⟩ (cLg_accountCell l D cA cZ k1 k3 v11 e12) (cwS 2 hts ks_X2_53 rfl rfl rfl (by decide +kernel) ⟨Nat.le_of_ble_eq_true rfl, Nat.le_of_ble_eq_true rfl⟩) [] [0, 1] rfl rfl (by decide) (by decide) (by decide) hK hE hP hD hS hA hl.1 rfl rfl (Nat.le_of_ble_eq_true rfl) dX2_leafFrom_45 ⟨Nat.zero_le _, Nat.zero_le _⟩ (fun H locs (hP : va_P D vwCl [(h0, .inr (2, [.ref h0_cells, .ref h0_starts, .ref h0_leaves, .int x0_count, .int x0_end, .int x0_syncedCount, .int x0_syncedEnd])), (h0_cells, .inl (cA, 512, .inl g0_cells))] H) (hD : va_D A [(h0, .inr (2, [.ref h0_cells, .ref h0_starts, .ref h0_leaves, .int x0_count, .int x0_end, .int x0_syncedCount, .int x0_syncedEnd])), (h0_cells, .inl (cA, 512, .inl g0_cells))]) hS => ?_)
        obtain ⟨v13, e14, hf⟩ := hw_bind hf
        refine hw_iald hx hb hK hP 1 rfl e14 dX2_leafFrom_48 ?_
        refine lv_iadd hx hb dX2_leafFrom_49 ?_
        obtain ⟨v15, e16, hf⟩ := hw_bind hf
        refine hw_goSN (wr := [(h0, .inr (2, [.ref h0_cells, .ref h0_starts, .ref h0_leaves, .int x0_count, .int x0_end, .int x0_syncedCount, .int x0_syncedEnd])), (h0_cells, .inl (cA, 512, .inl g0_cells))]) (rest := []) ⟨hx, hb, hml, hown, hts⟩ (cSl_mix l D cA cZ k2 (((16 : Int32) * v9) + v13) v15 e16) ⟨va_cnB 2 hts ks_X2_75 rfl rfl rfl (ne_1 hE) (hts _ mw_49) (by decide +kernel) ⟨Nat.le_of_ble_eq_true rfl, Nat.le_of_ble_eq_true rfl⟩, hts _ mw_116, trivial⟩ [] [0, 1] rfl rfl (by decide) (by decide) (by decide) hK hE hP hD hS hA hl.1 rfl rfl (Nat.le_of_ble_eq_true rfl) dX2_leafFrom_50 ⟨Nat.zero_le _, Nat.zero_le _⟩ (fun H locs (hP : va_P D vwCl [(h0, .inr (2, [.ref h0_cells, .ref h0_starts, .ref h0_leaves, .int x0_count, .int x0_end, .int x0_syncedCount, .int x0_syncedEnd])), (h0_cells, .inl (cA, 512, .inl g0_cells))] H) (hD : va_D A [(h0, .inr (2, [.ref h0_cells, .ref h0_starts, .ref h0_leaves, .int x0_count, .int x0_end, .int x0_syncedCount, .int x0_syncedEnd])), (h0_cells, .inl (cA, 512, .inl g0_cells))]) hS => ?_)
        refine lv_istore_n (lv' := [(2, .int v15), (0, .ref h0), (1, .int k1), (3, .int k3)]) hx hb dX2_leafFrom_53 rfl hl (by decide) rfl (fun ls hl => ?_)
        refine lv_iinc (v := k3 + (1 : Int32)) (lv' := [(3, .int (k3 + (1 : Int32))), (2, .int v15), (0, .ref h0), (1, .int k1)]) hx hb dX2_leafFrom_54 hl (k := 3) rfl (congrArg (fun z => k3 + z) (by decide)) (by decide) rfl (fun ls hl => ?_)
        refine lv_goto (tgt := 15) hx hb dX2_leafFrom_57 rfl ?_
        exact ih15 _ _ _ k1 v15 (k3 + (1 : Int32)) (lv_sub hl [2, 3, 1, 0] rfl) (hP.sub [0, 1] rfl) (hD.sub [0, 1] (by decide) rfl) hS hf
  rw [fLg_leafFrom] at hf
  refine lv_iconst (v := (0 : Int32)) hx hb dX2_leafFrom_0 (by decide) ?_
  refine lv_aload_n hx hb dX2_leafFrom_1 rfl (lv_at hl 0 rfl) ?_
  refine va_get (D := D) (ci := 2) (v := .ref h0_cells) (C := RX2) (T := TX2) (N := 7) hx hb hts in_X2 hown hK hP 0 rfl rfl 0 (by decide) (hts _ mw_8) (fun _ h9 => h9) rfl dX2_leafFrom_2 ?_
  refine lv_iload_n hx hb dX2_leafFrom_5 rfl (lv_at hl 1 rfl) ?_
  refine lv_iconst (v := (1 : Int32)) hx hb dX2_leafFrom_6 (by decide) ?_
  refine lv_iadd hx hb dX2_leafFrom_7 ?_
  obtain ⟨v1, e2, hf⟩ := hw_bind hf
  refine hw_iald hx hb hK hP 1 rfl e2 dX2_leafFrom_8 ?_
  obtain ⟨v3, e4, hf⟩ := hw_bind hf
  refine hw_goSN (wr := [(h0, .inr (2, [.ref h0_cells, .ref h0_starts, .ref h0_leaves, .int x0_count, .int x0_end, .int x0_syncedCount, .int x0_syncedEnd])), (h0_cells, .inl (cA, 512, .inl g0_cells))]) (rest := []) ⟨hx, hb, hml, hown, hts⟩ (cSl_mix l D cA cZ (0 : Int32) v1 v3 e4) ⟨va_cnB 2 hts ks_X2_75 rfl rfl rfl (ne_1 hE) (hts _ mw_49) (by decide +kernel) ⟨Nat.le_of_ble_eq_true rfl, Nat.le_of_ble_eq_true rfl⟩, hts _ mw_116, trivial⟩ [] [0, 1] rfl rfl (by decide) (by decide) (by decide) hK hE hP hD hS hA hl.1 rfl rfl (Nat.le_of_ble_eq_true rfl) dX2_leafFrom_9 ⟨Nat.zero_le _, Nat.zero_le _⟩ (fun H locs (hP : va_P D vwCl [(h0, .inr (2, [.ref h0_cells, .ref h0_starts, .ref h0_leaves, .int x0_count, .int x0_end, .int x0_syncedCount, .int x0_syncedEnd])), (h0_cells, .inl (cA, 512, .inl g0_cells))] H) (hD : va_D A [(h0, .inr (2, [.ref h0_cells, .ref h0_starts, .ref h0_leaves, .int x0_count, .int x0_end, .int x0_syncedCount, .int x0_syncedEnd])), (h0_cells, .inl (cA, 512, .inl g0_cells))]) hS => ?_)
  refine lv_istore_n (lv' := [(2, .int v3), (0, .ref h0), (1, .int k1)]) hx hb dX2_leafFrom_12 rfl hl (by decide) rfl (fun ls hl => ?_)
  refine lv_iconst (v := (0 : Int32)) hx hb dX2_leafFrom_13 (by decide) ?_
  refine lv_istore_n (lv' := [(3, .int (0 : Int32)), (2, .int v3), (0, .ref h0), (1, .int k1)]) hx hb dX2_leafFrom_14 rfl hl (by decide) rfl (fun ls hl => ?_)
  exact L15 600 _ _ _ k1 v3 (0 : Int32) (lv_sub hl [2, 3, 1, 0] rfl) (hP.sub [0, 1] rfl) (hD.sub [0, 1] (by decide) rfl) hS hf
set_option maxHeartbeats 4000000 in
set_option maxRecDepth 100000 in
theorem cLg_acceptNext (l : Launch) (D : va_G) (cA cZ : ClassId) (h0 : Nat) (h0_cells : Nat) (h0_starts : Nat) (h0_leaves : Nat) (x0_count : Int32) (x0_end : Int32) (x0_syncedCount : Int32) (x0_syncedEnd : Int32) (g0_cells : Nat → Int32) (g0_starts : Nat → Int32) (g0_leaves : Nat → Int32) (ox0_count : Int32) (ox0_end : Int32) (og0_starts : Nat → Int32) (og0_leaves : Nat → Int32) (hf : fLg_acceptNext x0_count x0_end g0_cells g0_starts g0_leaves = some (ox0_count, ox0_end, og0_starts, og0_leaves)) : hw_C l yX2_acceptNext wX2_acceptNext { frames := 2, cells := 0, slots := 0, locals := 46 } D vwCl cA cZ [.ref h0] [(h0, .inr (2, [.ref h0_cells, .ref h0_starts, .ref h0_leaves, .int x0_count, .int x0_end, .int x0_syncedCount, .int x0_syncedEnd])), (h0_cells, .inl (cA, 512, .inl g0_cells)), (h0_starts, .inl (cA, 73, .inl g0_starts)), (h0_leaves, .inl (cA, 73, .inl g0_leaves))] [(h0, .inr (2, [.ref h0_cells, .ref h0_starts, .ref h0_leaves, .int ox0_count, .int ox0_end, .int x0_syncedCount, .int x0_syncedEnd])), (h0_cells, .inl (cA, 512, .inl g0_cells)), (h0_starts, .inl (cA, 73, .inl og0_starts)), (h0_leaves, .inl (cA, 73, .inl og0_leaves))] none := by
  refine hw_of (cc := cX2_acceptNext) (maxL := 1) (ret := none) (by decide) rfl (Nat.le_of_ble_eq_true rfl) ?_
  intro p e s m args below meth c A ls hx hb hr hlk hml hown hts hA hK hE hP hD hS hl
  have hown : s.vm.findClass RX2 = some m.cls := hown
  have hl : lv_has ls 1 [(0, .ref h0)] := hl
  rw [fLg_acceptNext] at hf
  refine lv_aload_n hx hb dX2_acceptNext_0 rfl (lv_at hl 0 rfl) ?_
  refine va_get (D := D) (ci := 2) (v := .ref h0_starts) (C := RX2) (T := TX2) (N := 7) hx hb hts in_X2 hown hK hP 0 rfl rfl 1 (by decide) (hts _ mw_9) (fun _ h9 => h9) rfl dX2_acceptNext_1 ?_
  refine lv_aload_n hx hb dX2_acceptNext_4 rfl (lv_at hl 0 rfl) ?_
  refine va_get (D := D) (ci := 2) (v := .int x0_count) (C := RX2) (T := TX2) (N := 7) hx hb hts in_X2 hown hK hP 0 rfl rfl 3 (by decide) (hts _ mw_67) (fun _ h9 => h9) rfl dX2_acceptNext_5 ?_
  refine lv_aload_n hx hb dX2_acceptNext_8 rfl (lv_at hl 0 rfl) ?_
  refine va_get (D := D) (ci := 2) (v := .int x0_end) (C := RX2) (T := TX2) (N := 7) hx hb hts in_X2 hown hK hP 0 rfl rfl 4 (by decide) (hts _ mw_111) (fun _ h9 => h9) rfl dX2_acceptNext_9 ?_
  obtain ⟨u1, e2, hf⟩ := hw_bind hf
  refine hw_iast hx hb hK hP hD hS 2 rfl e2 dX2_acceptNext_12 (fun H locs (hP : va_P D vwCl [(h0, .inr (2, [.ref h0_cells, .ref h0_starts, .ref h0_leaves, .int x0_count, .int x0_end, .int x0_syncedCount, .int x0_syncedEnd])), (h0_cells, .inl (cA, 512, .inl g0_cells)), (h0_starts, .inl (cA, 73, .inl u1)), (h0_leaves, .inl (cA, 73, .inl g0_leaves))] H) (hD : va_D A [(h0, .inr (2, [.ref h0_cells, .ref h0_starts, .ref h0_leaves, .int x0_count, .int x0_end, .int x0_syncedCount, .int x0_syncedEnd])), (h0_cells, .inl (cA, 512, .inl g0_cells)), (h0_starts, .inl (cA, 73, .inl u1)), (h0_leaves, .inl (cA, 73, .inl g0_leaves))]) hS => ?_)
  refine lv_aload_n hx hb dX2_acceptNext_13 rfl (lv_at hl 0 rfl) ?_
  refine va_get (D := D) (ci := 2) (v := .ref h0_leaves) (C := RX2) (T := TX2) (N := 7) hx hb hts in_X2 hown hK hP 0 rfl rfl 2 (by decide) (hts _ mw_10) (fun _ h9 => h9) rfl dX2_acceptNext_14 ?_
  refine lv_aload_n hx hb dX2_acceptNext_17 rfl (lv_at hl 0 rfl) ?_
  refine va_get (D := D) (ci := 2) (v := .int x0_count) (C := RX2) (T := TX2) (N := 7) hx hb hts in_X2 hown hK hP 0 rfl rfl 3 (by decide) (hts _ mw_67) (fun _ h9 => h9) rfl dX2_acceptNext_18 ?_
  refine lv_aload_n hx hb dX2_acceptNext_21 rfl (lv_at hl 0 rfl) ?_
  refine lv_aload_n hx hb dX2_acceptNext_22 rfl (lv_at hl 0 rfl) ?_
  refine va_get (D := D) (ci := 2) (v := .int x0_end) (C := RX2) (T := TX2) (N := 7) hx hb hts in_X2 hown hK hP 0 rfl rfl 4 (by decide) (hts _ mw_111) (fun _ h9 => h9) rfl dX2_acceptNext_23 ?_
  obtain ⟨v3, e4, hf⟩ := hw_bind hf
  refine hw_goV (wr := [(h0_starts, .inl (cA, 73, .inl u1)), (h0_leaves, .inl (cA, 73, .inl g0_leaves))]) (rest := [.int x0_count, .ref h0_leaves]) ⟨hx, hb, hml, hown, hts⟩ (cLg_leafFrom l D cA cZ h0 h0_cells h0_starts h0_leaves x0_count x0_end x0_syncedCount x0_syncedEnd g0_cells x0_end v3 e4) (cwV 1 hts ks_X2_72 rfl rfl rfl (by decide +kernel) ⟨Nat.le_of_ble_eq_true rfl, Nat.le_of_ble_eq_true rfl⟩) 0 rfl rfl [0, 1] [2, 3] rfl rfl (by decide) (by decide) (by decide) hK hE hP hD hS hA hl.1 rfl rfl (Nat.le_of_ble_eq_true rfl) dX2_acceptNext_26 ⟨Nat.zero_le _, Nat.zero_le _⟩ (fun H locs (hP : va_P D vwCl [(h0_starts, .inl (cA, 73, .inl u1)), (h0_leaves, .inl (cA, 73, .inl g0_leaves)), (h0, .inr (2, [.ref h0_cells, .ref h0_starts, .ref h0_leaves, .int x0_count, .int x0_end, .int x0_syncedCount, .int x0_syncedEnd])), (h0_cells, .inl (cA, 512, .inl g0_cells))] H) (hD : va_D A [(h0_starts, .inl (cA, 73, .inl u1)), (h0_leaves, .inl (cA, 73, .inl g0_leaves)), (h0, .inr (2, [.ref h0_cells, .ref h0_starts, .ref h0_leaves, .int x0_count, .int x0_end, .int x0_syncedCount, .int x0_syncedEnd])), (h0_cells, .inl (cA, 512, .inl g0_cells))]) hS => ?_)
  obtain ⟨u5, e6, hf⟩ := hw_bind hf
  refine hw_iast hx hb hK hP hD hS 1 rfl e6 dX2_acceptNext_29 (fun H locs (hP : va_P D vwCl [(h0_starts, .inl (cA, 73, .inl u1)), (h0_leaves, .inl (cA, 73, .inl u5)), (h0, .inr (2, [.ref h0_cells, .ref h0_starts, .ref h0_leaves, .int x0_count, .int x0_end, .int x0_syncedCount, .int x0_syncedEnd])), (h0_cells, .inl (cA, 512, .inl g0_cells))] H) (hD : va_D A [(h0_starts, .inl (cA, 73, .inl u1)), (h0_leaves, .inl (cA, 73, .inl u5)), (h0, .inr (2, [.ref h0_cells, .ref h0_starts, .ref h0_leaves, .int x0_count, .int x0_end, .int x0_syncedCount, .int x0_syncedEnd])), (h0_cells, .inl (cA, 512, .inl g0_cells))]) hS => ?_)
  refine lv_aload_n hx hb dX2_acceptNext_30 rfl (lv_at hl 0 rfl) ?_
  refine lv_dup hx hb dX2_acceptNext_31 rfl ?_
  refine va_get (D := D) (ci := 2) (v := .int x0_count) (C := RX2) (T := TX2) (N := 7) hx hb hts in_X2 hown hK hP 2 rfl rfl 3 (by decide) (hts _ mw_67) (fun _ h9 => h9) rfl dX2_acceptNext_32 ?_
  refine lv_iconst (v := (1 : Int32)) hx hb dX2_acceptNext_35 (by decide) ?_
  refine lv_iadd hx hb dX2_acceptNext_36 ?_
  refine va_put (D := D) (ci := 2) (v := .int (x0_count + (1 : Int32))) (ty := .int) (C := RX2) (T := TX2) (N := 7) hx hb hts in_X2 tyX2 tyX2_ok nX2 hown hK hP hD hS 2 rfl rfl 3 (by decide) (hts _ mw_67) (fun _ h9 => h9) rfl (by decide +kernel) rfl rfl (Nat.le_of_ble_eq_true rfl) dX2_acceptNext_37 (fun H locs (hP : va_P D vwCl [(h0_starts, .inl (cA, 73, .inl u1)), (h0_leaves, .inl (cA, 73, .inl u5)), (h0, .inr (2, [.ref h0_cells, .ref h0_starts, .ref h0_leaves, .int (x0_count + (1 : Int32)), .int x0_end, .int x0_syncedCount, .int x0_syncedEnd])), (h0_cells, .inl (cA, 512, .inl g0_cells))] H) (hD : va_D A [(h0_starts, .inl (cA, 73, .inl u1)), (h0_leaves, .inl (cA, 73, .inl u5)), (h0, .inr (2, [.ref h0_cells, .ref h0_starts, .ref h0_leaves, .int (x0_count + (1 : Int32)), .int x0_end, .int x0_syncedCount, .int x0_syncedEnd])), (h0_cells, .inl (cA, 512, .inl g0_cells))]) hS => ?_)
  refine lv_aload_n hx hb dX2_acceptNext_40 rfl (lv_at hl 0 rfl) ?_
  refine lv_dup hx hb dX2_acceptNext_41 rfl ?_
  refine va_get (D := D) (ci := 2) (v := .int x0_end) (C := RX2) (T := TX2) (N := 7) hx hb hts in_X2 hown hK hP 2 rfl rfl 4 (by decide) (hts _ mw_111) (fun _ h9 => h9) rfl dX2_acceptNext_42 ?_
  refine lv_aload_n hx hb dX2_acceptNext_45 rfl (lv_at hl 0 rfl) ?_
  refine va_get (D := D) (ci := 2) (v := .ref h0_cells) (C := RX2) (T := TX2) (N := 7) hx hb hts in_X2 hown hK hP 2 rfl rfl 0 (by decide) (hts _ mw_8) (fun _ h9 => h9) rfl dX2_acceptNext_46 ?_
  refine lv_aload_n hx hb dX2_acceptNext_49 rfl (lv_at hl 0 rfl) ?_
  refine va_get (D := D) (ci := 2) (v := .int x0_end) (C := RX2) (T := TX2) (N := 7) hx hb hts in_X2 hown hK hP 2 rfl rfl 4 (by decide) (hts _ mw_111) (fun _ h9 => h9) rfl dX2_acceptNext_50 ?_
  obtain ⟨v7, e8, hf⟩ := hw_bind hf
  refine hw_iald hx hb hK hP 3 rfl e8 dX2_acceptNext_53 ?_
  obtain ⟨v9, e10, hf⟩ := hw_bind hf
  refine hw_goSN (wr := [(h0_starts, .inl (cA, 73, .inl u1)), (h0_leaves, .inl (cA, 73, .inl u5)), (h0, .inr (2, [.ref h0_cells, .ref h0_starts, .ref h0_leaves, .int (x0_count + (1 : Int32)), .int x0_end, .int x0_syncedCount, .int x0_syncedEnd])), (h0_cells, .inl (cA, 512, .inl g0_cells))]) (rest := [.int x0_end, .ref h0]) ⟨hx, hb, hml, hown, hts⟩ (cSl_entryCells l D cA cZ v7 v9 e10) ⟨va_cnB 1 hts ks_X2_50 rfl rfl rfl (ne_0 hE) (hts _ mw_49) (by decide +kernel) ⟨Nat.le_of_ble_eq_true rfl, Nat.le_of_ble_eq_true rfl⟩, hts _ mw_109, trivial⟩ [] [0, 1, 2, 3] rfl rfl (by decide) (by decide) (by decide) hK hE hP hD hS hA hl.1 rfl rfl (Nat.le_of_ble_eq_true rfl) dX2_acceptNext_54 ⟨Nat.zero_le _, Nat.zero_le _⟩ (fun H locs (hP : va_P D vwCl [(h0_starts, .inl (cA, 73, .inl u1)), (h0_leaves, .inl (cA, 73, .inl u5)), (h0, .inr (2, [.ref h0_cells, .ref h0_starts, .ref h0_leaves, .int (x0_count + (1 : Int32)), .int x0_end, .int x0_syncedCount, .int x0_syncedEnd])), (h0_cells, .inl (cA, 512, .inl g0_cells))] H) (hD : va_D A [(h0_starts, .inl (cA, 73, .inl u1)), (h0_leaves, .inl (cA, 73, .inl u5)), (h0, .inr (2, [.ref h0_cells, .ref h0_starts, .ref h0_leaves, .int (x0_count + (1 : Int32)), .int x0_end, .int x0_syncedCount, .int x0_syncedEnd])), (h0_cells, .inl (cA, 512, .inl g0_cells))]) hS => ?_)
  refine lv_iadd hx hb dX2_acceptNext_57 ?_
  refine va_put (D := D) (ci := 2) (v := .int (x0_end + v9)) (ty := .int) (C := RX2) (T := TX2) (N := 7) hx hb hts in_X2 tyX2 tyX2_ok nX2 hown hK hP hD hS 2 rfl rfl 4 (by decide) (hts _ mw_111) (fun _ h9 => h9) rfl (by decide +kernel) rfl rfl (Nat.le_of_ble_eq_true rfl) dX2_acceptNext_58 (fun H locs (hP : va_P D vwCl [(h0_starts, .inl (cA, 73, .inl u1)), (h0_leaves, .inl (cA, 73, .inl u5)), (h0, .inr (2, [.ref h0_cells, .ref h0_starts, .ref h0_leaves, .int (x0_count + (1 : Int32)), .int (x0_end + v9), .int x0_syncedCount, .int x0_syncedEnd])), (h0_cells, .inl (cA, 512, .inl g0_cells))] H) (hD : va_D A [(h0_starts, .inl (cA, 73, .inl u1)), (h0_leaves, .inl (cA, 73, .inl u5)), (h0, .inr (2, [.ref h0_cells, .ref h0_starts, .ref h0_leaves, .int (x0_count + (1 : Int32)), .int (x0_end + v9), .int x0_syncedCount, .int x0_syncedEnd])), (h0_cells, .inl (cA, 512, .inl g0_cells))]) hS => ?_)
  cases hf
  exact hw_rv hx hb hr hlk (hP.sub [2, 3, 0, 1] rfl) (hD.sub [2, 3, 0, 1] (by decide) rfl) hS dX2_acceptNext_61
set_option maxHeartbeats 4000000 in
set_option maxRecDepth 100000 in
theorem cLg_hasLegsOf (l : Launch) (D : va_G) (cA cZ : ClassId) (h0 : Nat) (h1 : Nat) (h0_cells : Nat) (h0_starts : Nat) (h0_leaves : Nat) (h1_accounts : Nat) (h1_amounts : Nat) (x0_count : Int32) (x0_end : Int32) (x0_syncedCount : Int32) (x0_syncedEnd : Int32) (g0_cells : Nat → Int32) (g0_starts : Nat → Int32) (x1_count : Int32) (g1_accounts : Nat → Int32) (g1_amounts : Nat → Int32) (k2 : Int32) (rr : Int32) (hf : fLg_hasLegsOf x0_count g0_cells g0_starts x1_count g1_accounts g1_amounts k2 = some rr) : hw_C l yX2_hasLegsOf wX2_hasLegsOf { frames := 1, cells := 0, slots := 0, locals := 21 } D vwCl cA cZ [.ref h0, .ref h1, .int k2] [(h0, .inr (2, [.ref h0_cells, .ref h0_starts, .ref h0_leaves, .int x0_count, .int x0_end, .int x0_syncedCount, .int x0_syncedEnd])), (h0_cells, .inl (cA, 512, .inl g0_cells)), (h0_starts, .inl (cA, 73, .inl g0_starts)), (h1, .inr (1, [.ref h1_accounts, .ref h1_amounts, .int x1_count])), (h1_accounts, .inl (cA, 4, .inl g1_accounts)), (h1_amounts, .inl (cA, 4, .inl g1_amounts))] [(h0, .inr (2, [.ref h0_cells, .ref h0_starts, .ref h0_leaves, .int x0_count, .int x0_end, .int x0_syncedCount, .int x0_syncedEnd])), (h0_cells, .inl (cA, 512, .inl g0_cells)), (h0_starts, .inl (cA, 73, .inl g0_starts)), (h1, .inr (1, [.ref h1_accounts, .ref h1_amounts, .int x1_count])), (h1_accounts, .inl (cA, 4, .inl g1_accounts)), (h1_amounts, .inl (cA, 4, .inl g1_amounts))] (some (.int rr)) := by
  refine hw_of (cc := cX2_hasLegsOf) (maxL := 5) (ret := (some .boolean)) (by decide) rfl (Nat.le_of_ble_eq_true rfl) ?_
  intro p e s m args below meth c A ls hx hb hr hlk hml hown hts hA hK hE hP hD hS hl
  have hown : s.vm.findClass RX2 = some m.cls := hown
  have hl : lv_has ls 5 [(0, .ref h0), (1, .ref h1), (2, .int k2)] := hl
  have L42 : ∀ (n42 : Nat) (ls : Array Slot) (H : Heap) (locs : List Loc) (k3 : Int32) (k4 : Int32), lv_has ls 5 [(0, .ref h0), (1, .ref h1), (3, .int k3), (4, .int k4)] → va_P D vwCl [(h0, .inr (2, [.ref h0_cells, .ref h0_starts, .ref h0_leaves, .int x0_count, .int x0_end, .int x0_syncedCount, .int x0_syncedEnd])), (h0_cells, .inl (cA, 512, .inl g0_cells)), (h0_starts, .inl (cA, 73, .inl g0_starts)), (h1, .inr (1, [.ref h1_accounts, .ref h1_amounts, .int x1_count])), (h1_accounts, .inl (cA, 4, .inl g1_accounts)), (h1_amounts, .inl (cA, 4, .inl g1_amounts))] H → va_D A [(h0, .inr (2, [.ref h0_cells, .ref h0_starts, .ref h0_leaves, .int x0_count, .int x0_end, .int x0_syncedCount, .int x0_syncedEnd])), (h0_cells, .inl (cA, 512, .inl g0_cells)), (h0_starts, .inl (cA, 73, .inl g0_starts)), (h1, .inr (1, [.ref h1_accounts, .ref h1_amounts, .int x1_count])), (h1_accounts, .inl (cA, 4, .inl g1_accounts)), (h1_amounts, .inl (cA, 4, .inl g1_amounts))] → va_S A s.heap H locs → fLg_hasLegsOf_L42 x0_count g0_cells g0_starts x1_count g1_accounts g1_amounts k3 n42 k4 = some rr → W p l e { frames := 1, cells := 0, slots := 0, locals := 21 } s m args below meth c H locs 0 0 (hw_Z below args s D vwCl A [(h0, .inr (2, [.ref h0_cells, .ref h0_starts, .ref h0_leaves, .int x0_count, .int x0_end, .int x0_syncedCount, .int x0_syncedEnd])), (h0_cells, .inl (cA, 512, .inl g0_cells)), (h0_starts, .inl (cA, 73, .inl g0_starts)), (h1, .inr (1, [.ref h1_accounts, .ref h1_amounts, .int x1_count])), (h1_accounts, .inl (cA, 4, .inl g1_accounts)), (h1_amounts, .inl (cA, 4, .inl g1_amounts))] (some (.int rr))) (F0 m 42 ls []) := by
    intro n42
    induction n42 with
    | zero => intro ls H locs k3 k4 hl hP hD hS hf; simp only [fLg_hasLegsOf_L42] at hf; cases hf
    | succ n42 ih42 =>
      intro ls H locs k3 k4 hl hP hD hS hf
      rw [fLg_hasLegsOf_L42] at hf
      refine lv_iload hx hb dX2_hasLegsOf_42 (lv_at hl 3 rfl) ?_
      refine lv_aload_n hx hb dX2_hasLegsOf_44 rfl (lv_at hl 1 rfl) ?_
      obtain ⟨v9, e10, hf⟩ := hw_bind hf
      refine hw_goV (wr := [(h0, .inr (2, [.ref h0_cells, .ref h0_starts, .ref h0_leaves, .int x0_count, .int x0_end, .int x0_syncedCount, .int x0_syncedEnd])), (h0_cells, .inl (cA, 512, .inl g0_cells)), (h0_starts, .inl (cA, 73, .inl g0_starts)), (h1_accounts, .inl (cA, 4, .inl g1_accounts)), (h1_amounts, .inl (cA, 4, .inl g1_amounts))]) (rest := [.int k4]) ⟨hx, hb, hml, hown, hts⟩ (cDr_size l D cA cZ h1 h1_accounts h1_amounts x1_count v9 e10) (cwV 0 hts ks_X2_44 rfl rfl rfl (by decide +kernel) ⟨Nat.le_of_ble_eq_true rfl, Nat.le_of_ble_eq_true rfl⟩) 3 rfl rfl [3] [0, 1, 2, 4, 5] rfl rfl (by decide) (by decide) (by decide) hK hE hP hD hS hA hl.1 rfl rfl (Nat.le_of_ble_eq_true rfl) dX2_hasLegsOf_45 ⟨Nat.zero_le _, Nat.zero_le _⟩ (fun H locs (hP : va_P D vwCl [(h0, .inr (2, [.ref h0_cells, .ref h0_starts, .ref h0_leaves, .int x0_count, .int x0_end, .int x0_syncedCount, .int x0_syncedEnd])), (h0_cells, .inl (cA, 512, .inl g0_cells)), (h0_starts, .inl (cA, 73, .inl g0_starts)), (h1_accounts, .inl (cA, 4, .inl g1_accounts)), (h1_amounts, .inl (cA, 4, .inl g1_amounts)), (h1, .inr (1, [.ref h1_accounts, .ref h1_amounts, .int x1_count]))] H) (hD : va_D A [(h0, .inr (2, [.ref h0_cells, .ref h0_starts, .ref h0_leaves, .int x0_count, .int x0_end, .int x0_syncedCount, .int x0_syncedEnd])), (h0_cells, .inl (cA, 512, .inl g0_cells)), (h0_starts, .inl (cA, 73, .inl g0_starts)), (h1_accounts, .inl (cA, 4, .inl g1_accounts)), (h1_amounts, .inl (cA, 4, .inl g1_amounts)), (h1, .inr (1, [.ref h1_accounts, .ref h1_amounts, .int x1_count]))]) hS => ?_)
      refine hi_icmp_ge (tgt := 99) hx hb dX2_hasLegsOf_48 rfl hf (fun hc hf => ?_) (fun hc hf => ?_)
      · refine lv_iconst (v := (1 : Int32)) hx hb dX2_hasLegsOf_99 (by decide) ?_
        cases hf
        exact hw_rz hx hb hr hlk rfl (hP.sub [0, 1, 2, 5, 3, 4] rfl) (hD.sub [0, 1, 2, 5, 3, 4] (by decide) rfl) hS dX2_hasLegsOf_100
      · refine lv_aload_n hx hb dX2_hasLegsOf_51 rfl (lv_at hl 0 rfl) ?_
        refine va_get (D := D) (ci := 2) (v := .ref h0_cells) (C := RX2) (T := TX2) (N := 7) hx hb hts in_X2 hown hK hP 0 rfl rfl 0 (by decide) (hts _ mw_8) (fun _ h9 => h9) rfl dX2_hasLegsOf_52 ?_
        refine lv_iload_n hx hb dX2_hasLegsOf_55 rfl (lv_at hl 2 rfl) ?_
        refine lv_iload hx hb dX2_hasLegsOf_56 (lv_at hl 3 rfl) ?_
        obtain ⟨v11, e12, hf⟩ := hw_bind hf
        refine hw_goS (wr := [(h0, .inr (2, [.ref h0_cells, .ref h0_starts, .ref h0_leaves, .int x0_count, .int x0_end, .int x0_syncedCount, .int x0_syncedEnd])), (h0_cells, .inl (cA, 512, .inl g0_cells)), (h0_starts, .inl (cA, 73, .inl g0_starts)), (h1_accounts, .inl (cA, 4, .inl g1_accounts)), (h1_amounts, .inl (cA, 4, .inl g1_amounts)), (h1, .inr (1, [.ref h1_accounts, .ref h1_amounts, .int x1_count]))]) (rest := [.ref h0_cells]) ⟨hx, hb, hml, hown, hts⟩ (cLg_accountCell l D cA cZ k3 k4 v11 e12) (cwS 2 hts ks_X2_53 rfl rfl rfl (by decide +kernel) ⟨Nat.le_of_ble_eq_true rfl, Nat.le_of_ble_eq_true rfl⟩) [] [0, 1, 2, 3, 4, 5] rfl rfl (by decide) (by decide) (by decide) hK hE hP hD hS hA hl.1 rfl rfl (Nat.le_of_ble_eq_true rfl) dX2_hasLegsOf_58 ⟨Nat.zero_le _, Nat.zero_le _⟩ (fun H locs (hP : va_P D vwCl [(h0, .inr (2, [.ref h0_cells, .ref h0_starts, .ref h0_leaves, .int x0_count, .int x0_end, .int x0_syncedCount, .int x0_syncedEnd])), (h0_cells, .inl (cA, 512, .inl g0_cells)), (h0_starts, .inl (cA, 73, .inl g0_starts)), (h1_accounts, .inl (cA, 4, .inl g1_accounts)), (h1_amounts, .inl (cA, 4, .inl g1_amounts)), (h1, .inr (1, [.ref h1_accounts, .ref h1_amounts, .int x1_count]))] H) (hD : va_D A [(h0, .inr (2, [.ref h0_cells, .ref h0_starts, .ref h0_leaves, .int x0_count, .int x0_end, .int x0_syncedCount, .int x0_syncedEnd])), (h0_cells, .inl (cA, 512, .inl g0_cells)), (h0_starts, .inl (cA, 73, .inl g0_starts)), (h1_accounts, .inl (cA, 4, .inl g1_accounts)), (h1_amounts, .inl (cA, 4, .inl g1_amounts)), (h1, .inr (1, [.ref h1_accounts, .ref h1_amounts, .int x1_count]))]) hS => ?_)
        obtain ⟨v13, e14, hf⟩ := hw_bind hf
        refine hw_iald hx hb hK hP 1 rfl e14 dX2_hasLegsOf_61 ?_
        refine lv_aload_n hx hb dX2_hasLegsOf_62 rfl (lv_at hl 1 rfl) ?_
        refine lv_iload hx hb dX2_hasLegsOf_63 (lv_at hl 3 rfl) ?_
        obtain ⟨v15, e16, hf⟩ := hw_bind hf
        refine hw_goV (wr := [(h0, .inr (2, [.ref h0_cells, .ref h0_starts, .ref h0_leaves, .int x0_count, .int x0_end, .int x0_syncedCount, .int x0_syncedEnd])), (h0_cells, .inl (cA, 512, .inl g0_cells)), (h0_starts, .inl (cA, 73, .inl g0_starts)), (h1_amounts, .inl (cA, 4, .inl g1_amounts))]) (rest := [.int v13]) ⟨hx, hb, hml, hown, hts⟩ (cDr_accountAt l D cA cZ h1 h1_accounts h1_amounts x1_count g1_accounts k4 v15 e16) (cwV 1 hts ks_X2_57 rfl rfl rfl (by decide +kernel) ⟨Nat.le_of_ble_eq_true rfl, Nat.le_of_ble_eq_true rfl⟩) 5 rfl rfl [5, 3] [0, 1, 2, 4] rfl rfl (by decide) (by decide) (by decide) hK hE hP hD hS hA hl.1 rfl rfl (Nat.le_of_ble_eq_true rfl) dX2_hasLegsOf_65 ⟨Nat.zero_le _, Nat.zero_le _⟩ (fun H locs (hP : va_P D vwCl [(h0, .inr (2, [.ref h0_cells, .ref h0_starts, .ref h0_leaves, .int x0_count, .int x0_end, .int x0_syncedCount, .int x0_syncedEnd])), (h0_cells, .inl (cA, 512, .inl g0_cells)), (h0_starts, .inl (cA, 73, .inl g0_starts)), (h1_amounts, .inl (cA, 4, .inl g1_amounts)), (h1, .inr (1, [.ref h1_accounts, .ref h1_amounts, .int x1_count])), (h1_accounts, .inl (cA, 4, .inl g1_accounts))] H) (hD : va_D A [(h0, .inr (2, [.ref h0_cells, .ref h0_starts, .ref h0_leaves, .int x0_count, .int x0_end, .int x0_syncedCount, .int x0_syncedEnd])), (h0_cells, .inl (cA, 512, .inl g0_cells)), (h0_starts, .inl (cA, 73, .inl g0_starts)), (h1_amounts, .inl (cA, 4, .inl g1_amounts)), (h1, .inr (1, [.ref h1_accounts, .ref h1_amounts, .int x1_count])), (h1_accounts, .inl (cA, 4, .inl g1_accounts))]) hS => ?_)
        refine hi_icmp_ne (tgt := 91) hx hb dX2_hasLegsOf_68 rfl hf (fun hc hf => ?_) (fun hc hf => ?_)
        · refine lv_iconst (v := (0 : Int32)) hx hb dX2_hasLegsOf_91 (by decide) ?_
          cases hf
          exact hw_rz hx hb hr hlk rfl (hP.sub [0, 1, 2, 4, 5, 3] rfl) (hD.sub [0, 1, 2, 4, 5, 3] (by decide) rfl) hS dX2_hasLegsOf_92
        · refine lv_aload_n hx hb dX2_hasLegsOf_71 rfl (lv_at hl 0 rfl) ?_
          refine va_get (D := D) (ci := 2) (v := .ref h0_cells) (C := RX2) (T := TX2) (N := 7) hx hb hts in_X2 hown hK hP 0 rfl rfl 0 (by decide) (hts _ mw_8) (fun _ h9 => h9) rfl dX2_hasLegsOf_72 ?_
          refine lv_iload_n hx hb dX2_hasLegsOf_75 rfl (lv_at hl 2 rfl) ?_
          refine lv_iload hx hb dX2_hasLegsOf_76 (lv_at hl 3 rfl) ?_
          obtain ⟨v17, e18, hf⟩ := hw_bind hf
          refine hw_goS (wr := [(h0, .inr (2, [.ref h0_cells, .ref h0_starts, .ref h0_leaves, .int x0_count, .int x0_end, .int x0_syncedCount, .int x0_syncedEnd])), (h0_cells, .inl (cA, 512, .inl g0_cells)), (h0_starts, .inl (cA, 73, .inl g0_starts)), (h1_amounts, .inl (cA, 4, .inl g1_amounts)), (h1, .inr (1, [.ref h1_accounts, .ref h1_amounts, .int x1_count])), (h1_accounts, .inl (cA, 4, .inl g1_accounts))]) (rest := [.ref h0_cells]) ⟨hx, hb, hml, hown, hts⟩ (cLg_amountCell l D cA cZ k3 k4 v17 e18) (cwS 2 hts ks_X2_60 rfl rfl rfl (by decide +kernel) ⟨Nat.le_of_ble_eq_true rfl, Nat.le_of_ble_eq_true rfl⟩) [] [0, 1, 2, 3, 4, 5] rfl rfl (by decide) (by decide) (by decide) hK hE hP hD hS hA hl.1 rfl rfl (Nat.le_of_ble_eq_true rfl) dX2_hasLegsOf_78 ⟨Nat.zero_le _, Nat.zero_le _⟩ (fun H locs (hP : va_P D vwCl [(h0, .inr (2, [.ref h0_cells, .ref h0_starts, .ref h0_leaves, .int x0_count, .int x0_end, .int x0_syncedCount, .int x0_syncedEnd])), (h0_cells, .inl (cA, 512, .inl g0_cells)), (h0_starts, .inl (cA, 73, .inl g0_starts)), (h1_amounts, .inl (cA, 4, .inl g1_amounts)), (h1, .inr (1, [.ref h1_accounts, .ref h1_amounts, .int x1_count])), (h1_accounts, .inl (cA, 4, .inl g1_accounts))] H) (hD : va_D A [(h0, .inr (2, [.ref h0_cells, .ref h0_starts, .ref h0_leaves, .int x0_count, .int x0_end, .int x0_syncedCount, .int x0_syncedEnd])), (h0_cells, .inl (cA, 512, .inl g0_cells)), (h0_starts, .inl (cA, 73, .inl g0_starts)), (h1_amounts, .inl (cA, 4, .inl g1_amounts)), (h1, .inr (1, [.ref h1_accounts, .ref h1_amounts, .int x1_count])), (h1_accounts, .inl (cA, 4, .inl g1_accounts))]) hS => ?_)
          obtain ⟨v19, e20, hf⟩ := hw_bind hf
          refine hw_iald hx hb hK hP 1 rfl e20 dX2_hasLegsOf_81 ?_
          refine lv_aload_n hx hb dX2_hasLegsOf_82 rfl (lv_at hl 1 rfl) ?_
          refine lv_iload hx hb dX2_hasLegsOf_83 (lv_at hl 3 rfl) ?_
          obtain ⟨v21, e22, hf⟩ := hw_bind hf
          refine hw_goV (wr := [(h0, .inr (2, [.ref h0_cells, .ref h0_starts, .ref h0_leaves, .int x0_count, .int x0_end, .int x0_syncedCount, .int x0_syncedEnd])), (h0_cells, .inl (cA, 512, .inl g0_cells)), (h0_starts, .inl (cA, 73, .inl g0_starts)), (h1_accounts, .inl (cA, 4, .inl g1_accounts))]) (rest := [.int v19]) ⟨hx, hb, hml, hown, hts⟩ (cDr_amountAt l D cA cZ h1 h1_accounts h1_amounts x1_count g1_amounts k4 v21 e22) (cwV 1 hts ks_X2_63 rfl rfl rfl (by decide +kernel) ⟨Nat.le_of_ble_eq_true rfl, Nat.le_of_ble_eq_true rfl⟩) 4 rfl rfl [4, 3] [0, 1, 2, 5] rfl rfl (by decide) (by decide) (by decide) hK hE hP hD hS hA hl.1 rfl rfl (Nat.le_of_ble_eq_true rfl) dX2_hasLegsOf_85 ⟨Nat.zero_le _, Nat.zero_le _⟩ (fun H locs (hP : va_P D vwCl [(h0, .inr (2, [.ref h0_cells, .ref h0_starts, .ref h0_leaves, .int x0_count, .int x0_end, .int x0_syncedCount, .int x0_syncedEnd])), (h0_cells, .inl (cA, 512, .inl g0_cells)), (h0_starts, .inl (cA, 73, .inl g0_starts)), (h1_accounts, .inl (cA, 4, .inl g1_accounts)), (h1, .inr (1, [.ref h1_accounts, .ref h1_amounts, .int x1_count])), (h1_amounts, .inl (cA, 4, .inl g1_amounts))] H) (hD : va_D A [(h0, .inr (2, [.ref h0_cells, .ref h0_starts, .ref h0_leaves, .int x0_count, .int x0_end, .int x0_syncedCount, .int x0_syncedEnd])), (h0_cells, .inl (cA, 512, .inl g0_cells)), (h0_starts, .inl (cA, 73, .inl g0_starts)), (h1_accounts, .inl (cA, 4, .inl g1_accounts)), (h1, .inr (1, [.ref h1_accounts, .ref h1_amounts, .int x1_count])), (h1_amounts, .inl (cA, 4, .inl g1_amounts))]) hS => ?_)
          refine hi_icmp_eq (tgt := 93) hx hb dX2_hasLegsOf_88 rfl hf (fun hc hf => ?_) (fun hc hf => ?_)
          · refine lv_iinc (v := k4 + (1 : Int32)) (lv' := [(4, .int (k4 + (1 : Int32))), (0, .ref h0), (1, .ref h1), (3, .int k3)]) hx hb dX2_hasLegsOf_93 hl (k := 3) rfl (congrArg (fun z => k4 + z) (by decide)) (by decide) rfl (fun ls hl => ?_)
            refine lv_goto (tgt := 42) hx hb dX2_hasLegsOf_96 rfl ?_
            exact ih42 _ _ _ k3 (k4 + (1 : Int32)) (lv_sub hl [1, 2, 3, 0] rfl) (hP.sub [0, 1, 2, 4, 3, 5] rfl) (hD.sub [0, 1, 2, 4, 3, 5] (by decide) rfl) hS hf
          · refine lv_iconst (v := (0 : Int32)) hx hb dX2_hasLegsOf_91 (by decide) ?_
            cases hf
            exact hw_rz hx hb hr hlk rfl (hP.sub [0, 1, 2, 4, 3, 5] rfl) (hD.sub [0, 1, 2, 4, 3, 5] (by decide) rfl) hS dX2_hasLegsOf_92
  rw [fLg_hasLegsOf] at hf
  refine lv_iload_n hx hb dX2_hasLegsOf_0 rfl (lv_at hl 2 rfl) ?_
  refine hi_if_lt (tgt := 30) hx hb dX2_hasLegsOf_1 rfl hf (fun hc hf => ?_) (fun hc hf => ?_)
  · refine lv_iconst (v := (0 : Int32)) hx hb dX2_hasLegsOf_30 (by decide) ?_
    cases hf
    exact hw_rz hx hb hr hlk rfl (hP.sub [0, 1, 2, 3, 4, 5] rfl) (hD.sub [0, 1, 2, 3, 4, 5] (by decide) rfl) hS dX2_hasLegsOf_31
  · refine lv_iload_n hx hb dX2_hasLegsOf_4 rfl (lv_at hl 2 rfl) ?_
    refine lv_aload_n hx hb dX2_hasLegsOf_5 rfl (lv_at hl 0 rfl) ?_
    refine va_get (D := D) (ci := 2) (v := .int x0_count) (C := RX2) (T := TX2) (N := 7) hx hb hts in_X2 hown hK hP 0 rfl rfl 3 (by decide) (hts _ mw_67) (fun _ h9 => h9) rfl dX2_hasLegsOf_6 ?_
    refine hi_icmp_ge (tgt := 30) hx hb dX2_hasLegsOf_9 rfl hf (fun hc hf => ?_) (fun hc hf => ?_)
    · refine lv_iconst (v := (0 : Int32)) hx hb dX2_hasLegsOf_30 (by decide) ?_
      cases hf
      exact hw_rz hx hb hr hlk rfl (hP.sub [0, 1, 2, 3, 4, 5] rfl) (hD.sub [0, 1, 2, 3, 4, 5] (by decide) rfl) hS dX2_hasLegsOf_31
    · refine lv_aload_n hx hb dX2_hasLegsOf_12 rfl (lv_at hl 0 rfl) ?_
      refine va_get (D := D) (ci := 2) (v := .ref h0_cells) (C := RX2) (T := TX2) (N := 7) hx hb hts in_X2 hown hK hP 0 rfl rfl 0 (by decide) (hts _ mw_8) (fun _ h9 => h9) rfl dX2_hasLegsOf_13 ?_
      refine lv_aload_n hx hb dX2_hasLegsOf_16 rfl (lv_at hl 0 rfl) ?_
      refine va_get (D := D) (ci := 2) (v := .ref h0_starts) (C := RX2) (T := TX2) (N := 7) hx hb hts in_X2 hown hK hP 0 rfl rfl 1 (by decide) (hts _ mw_9) (fun _ h9 => h9) rfl dX2_hasLegsOf_17 ?_
      refine lv_iload_n hx hb dX2_hasLegsOf_20 rfl (lv_at hl 2 rfl) ?_
      obtain ⟨v1, e2, hf⟩ := hw_bind hf
      refine hw_iald hx hb hK hP 2 rfl e2 dX2_hasLegsOf_21 ?_
      obtain ⟨v3, e4, hf⟩ := hw_bind hf
      refine hw_iald hx hb hK hP 1 rfl e4 dX2_hasLegsOf_22 ?_
      refine lv_aload_n hx hb dX2_hasLegsOf_23 rfl (lv_at hl 1 rfl) ?_
      obtain ⟨v5, e6, hf⟩ := hw_bind hf
      refine hw_goV (wr := [(h0, .inr (2, [.ref h0_cells, .ref h0_starts, .ref h0_leaves, .int x0_count, .int x0_end, .int x0_syncedCount, .int x0_syncedEnd])), (h0_cells, .inl (cA, 512, .inl g0_cells)), (h0_starts, .inl (cA, 73, .inl g0_starts)), (h1_accounts, .inl (cA, 4, .inl g1_accounts)), (h1_amounts, .inl (cA, 4, .inl g1_amounts))]) (rest := [.int v3]) ⟨hx, hb, hml, hown, hts⟩ (cDr_size l D cA cZ h1 h1_accounts h1_amounts x1_count v5 e6) (cwV 0 hts ks_X2_44 rfl rfl rfl (by decide +kernel) ⟨Nat.le_of_ble_eq_true rfl, Nat.le_of_ble_eq_true rfl⟩) 3 rfl rfl [3] [0, 1, 2, 4, 5] rfl rfl (by decide) (by decide) (by decide) hK hE hP hD hS hA hl.1 rfl rfl (Nat.le_of_ble_eq_true rfl) dX2_hasLegsOf_24 ⟨Nat.zero_le _, Nat.zero_le _⟩ (fun H locs (hP : va_P D vwCl [(h0, .inr (2, [.ref h0_cells, .ref h0_starts, .ref h0_leaves, .int x0_count, .int x0_end, .int x0_syncedCount, .int x0_syncedEnd])), (h0_cells, .inl (cA, 512, .inl g0_cells)), (h0_starts, .inl (cA, 73, .inl g0_starts)), (h1_accounts, .inl (cA, 4, .inl g1_accounts)), (h1_amounts, .inl (cA, 4, .inl g1_amounts)), (h1, .inr (1, [.ref h1_accounts, .ref h1_amounts, .int x1_count]))] H) (hD : va_D A [(h0, .inr (2, [.ref h0_cells, .ref h0_starts, .ref h0_leaves, .int x0_count, .int x0_end, .int x0_syncedCount, .int x0_syncedEnd])), (h0_cells, .inl (cA, 512, .inl g0_cells)), (h0_starts, .inl (cA, 73, .inl g0_starts)), (h1_accounts, .inl (cA, 4, .inl g1_accounts)), (h1_amounts, .inl (cA, 4, .inl g1_amounts)), (h1, .inr (1, [.ref h1_accounts, .ref h1_amounts, .int x1_count]))]) hS => ?_)
      refine hi_icmp_eq (tgt := 32) hx hb dX2_hasLegsOf_27 rfl hf (fun hc hf => ?_) (fun hc hf => ?_)
      · refine lv_aload_n hx hb dX2_hasLegsOf_32 rfl (lv_at hl 0 rfl) ?_
        refine va_get (D := D) (ci := 2) (v := .ref h0_starts) (C := RX2) (T := TX2) (N := 7) hx hb hts in_X2 hown hK hP 0 rfl rfl 1 (by decide) (hts _ mw_9) (fun _ h9 => h9) rfl dX2_hasLegsOf_33 ?_
        refine lv_iload_n hx hb dX2_hasLegsOf_36 rfl (lv_at hl 2 rfl) ?_
        obtain ⟨v7, e8, hf⟩ := hw_bind hf
        refine hw_iald hx hb hK hP 2 rfl e8 dX2_hasLegsOf_37 ?_
        refine lv_istore_n (lv' := [(3, .int v7), (0, .ref h0), (1, .ref h1), (2, .int k2)]) hx hb dX2_hasLegsOf_38 rfl hl (by decide) rfl (fun ls hl => ?_)
        refine lv_iconst (v := (0 : Int32)) hx hb dX2_hasLegsOf_39 (by decide) ?_
        refine lv_istore (lv' := [(4, .int (0 : Int32)), (3, .int v7), (0, .ref h0), (1, .ref h1), (2, .int k2)]) hx hb dX2_hasLegsOf_40 hl (by decide) rfl (fun ls hl => ?_)
        exact L42 600 _ _ _ v7 (0 : Int32) (lv_sub hl [2, 3, 1, 0] rfl) (hP.sub [0, 1, 2, 5, 3, 4] rfl) (hD.sub [0, 1, 2, 5, 3, 4] (by decide) rfl) hS hf
      · refine lv_iconst (v := (0 : Int32)) hx hb dX2_hasLegsOf_30 (by decide) ?_
        cases hf
        exact hw_rz hx hb hr hlk rfl (hP.sub [0, 1, 2, 5, 3, 4] rfl) (hD.sub [0, 1, 2, 5, 3, 4] (by decide) rfl) hS dX2_hasLegsOf_31
set_option maxHeartbeats 4000000 in
set_option maxRecDepth 100000 in
theorem cLg_blockOf (l : Launch) (D : va_G) (cA cZ : ClassId) (k0 : Int32) (rr : Int32) (hf : fLg_blockOf k0 = some rr) : hw_C l yX2_blockOf wX2_blockOf { frames := 1, cells := 0, slots := 0, locals := 22 } D vwCl cA cZ [.int k0] [] [] (some (.int rr)) := by
  refine hw_of (cc := cX2_blockOf) (maxL := 1) (ret := (some .int)) (by decide) rfl (Nat.le_of_ble_eq_true rfl) ?_
  intro p e s m args below meth c A ls hx hb hr hlk hml hown hts hA hK hE hP hD hS hl
  have hown : s.vm.findClass RX2 = some m.cls := hown
  have hl : lv_has ls 1 [(0, .int k0)] := hl
  rw [fLg_blockOf] at hf
  refine lv_iload_n hx hb dX2_blockOf_0 rfl (lv_at hl 0 rfl) ?_
  refine lv_bipush (v := (8 : Int32)) hx hb dX2_blockOf_1 (by decide) ?_
  refine lv_idiv hx hb dX2_blockOf_3 (by decide) ?_
  refine lv_bipush (v := (63 : Int32)) hx hb dX2_blockOf_4 (by decide) ?_
  refine hw_mmin hx hb (hml.trans hl.1.symm) hown (hts _ mw_79) (hts _ mw_80) (hts _ mw_81) (hts _ mw_82) (Nat.le_of_ble_eq_true rfl) (Nat.le_of_ble_eq_true rfl) (Nat.zero_le _) (Nat.zero_le _) dX2_blockOf_6 ?_
  cases hf
  exact hw_ri hx hb hr hlk (hP.sub [] rfl) (hD.sub [] (by decide) rfl) hS dX2_blockOf_9
set_option maxHeartbeats 4000000 in
set_option maxRecDepth 100000 in
theorem cLg_syncedBlock (l : Launch) (D : va_G) (cA cZ : ClassId) (h0 : Nat) (h0_cells : Nat) (h0_starts : Nat) (h0_leaves : Nat) (x0_count : Int32) (x0_end : Int32) (x0_syncedCount : Int32) (x0_syncedEnd : Int32) (rr : Int32) (hf : fLg_syncedBlock x0_syncedEnd = some rr) : hw_C l yX2_syncedBlock wX2_syncedBlock { frames := 2, cells := 0, slots := 0, locals := 42 } D vwCl cA cZ [.ref h0] [(h0, .inr (2, [.ref h0_cells, .ref h0_starts, .ref h0_leaves, .int x0_count, .int x0_end, .int x0_syncedCount, .int x0_syncedEnd]))] [(h0, .inr (2, [.ref h0_cells, .ref h0_starts, .ref h0_leaves, .int x0_count, .int x0_end, .int x0_syncedCount, .int x0_syncedEnd]))] (some (.int rr)) := by
  refine hw_of (cc := cX2_syncedBlock) (maxL := 1) (ret := (some .int)) (by decide) rfl (Nat.le_of_ble_eq_true rfl) ?_
  intro p e s m args below meth c A ls hx hb hr hlk hml hown hts hA hK hE hP hD hS hl
  have hown : s.vm.findClass RX2 = some m.cls := hown
  have hl : lv_has ls 1 [(0, .ref h0)] := hl
  rw [fLg_syncedBlock] at hf
  refine lv_aload_n hx hb dX2_syncedBlock_0 rfl (lv_at hl 0 rfl) ?_
  refine va_get (D := D) (ci := 2) (v := .int x0_syncedEnd) (C := RX2) (T := TX2) (N := 7) hx hb hts in_X2 hown hK hP 0 rfl rfl 6 (by decide) (hts _ mw_159) (fun _ h9 => h9) rfl dX2_syncedBlock_1 ?_
  obtain ⟨v1, e2, hf⟩ := hw_bind hf
  refine hw_goS (wr := [(h0, .inr (2, [.ref h0_cells, .ref h0_starts, .ref h0_leaves, .int x0_count, .int x0_end, .int x0_syncedCount, .int x0_syncedEnd]))]) (rest := []) ⟨hx, hb, hml, hown, hts⟩ (cLg_blockOf l D cA cZ x0_syncedEnd v1 e2) (cwS 1 hts ks_X2_31 rfl rfl rfl (by decide +kernel) ⟨Nat.le_of_ble_eq_true rfl, Nat.le_of_ble_eq_true rfl⟩) [] [0] rfl rfl (by decide) (by decide) (by decide) hK hE hP hD hS hA hl.1 rfl rfl (Nat.le_of_ble_eq_true rfl) dX2_syncedBlock_4 ⟨Nat.zero_le _, Nat.zero_le _⟩ (fun H locs (hP : va_P D vwCl [(h0, .inr (2, [.ref h0_cells, .ref h0_starts, .ref h0_leaves, .int x0_count, .int x0_end, .int x0_syncedCount, .int x0_syncedEnd]))] H) (hD : va_D A [(h0, .inr (2, [.ref h0_cells, .ref h0_starts, .ref h0_leaves, .int x0_count, .int x0_end, .int x0_syncedCount, .int x0_syncedEnd]))]) hS => ?_)
  cases hf
  exact hw_ri hx hb hr hlk (hP.sub [0] rfl) (hD.sub [0] (by decide) rfl) hS dX2_syncedBlock_7
set_option maxHeartbeats 4000000 in
set_option maxRecDepth 100000 in
theorem cLg_endBlock (l : Launch) (D : va_G) (cA cZ : ClassId) (h0 : Nat) (h0_cells : Nat) (h0_starts : Nat) (h0_leaves : Nat) (x0_count : Int32) (x0_end : Int32) (x0_syncedCount : Int32) (x0_syncedEnd : Int32) (rr : Int32) (hf : fLg_endBlock x0_end = some rr) : hw_C l yX2_endBlock wX2_endBlock { frames := 2, cells := 0, slots := 0, locals := 42 } D vwCl cA cZ [.ref h0] [(h0, .inr (2, [.ref h0_cells, .ref h0_starts, .ref h0_leaves, .int x0_count, .int x0_end, .int x0_syncedCount, .int x0_syncedEnd]))] [(h0, .inr (2, [.ref h0_cells, .ref h0_starts, .ref h0_leaves, .int x0_count, .int x0_end, .int x0_syncedCount, .int x0_syncedEnd]))] (some (.int rr)) := by
  refine hw_of (cc := cX2_endBlock) (maxL := 1) (ret := (some .int)) (by decide) rfl (Nat.le_of_ble_eq_true rfl) ?_
  intro p e s m args below meth c A ls hx hb hr hlk hml hown hts hA hK hE hP hD hS hl
  have hown : s.vm.findClass RX2 = some m.cls := hown
  have hl : lv_has ls 1 [(0, .ref h0)] := hl
  rw [fLg_endBlock] at hf
  refine lv_aload_n hx hb dX2_endBlock_0 rfl (lv_at hl 0 rfl) ?_
  refine va_get (D := D) (ci := 2) (v := .int x0_end) (C := RX2) (T := TX2) (N := 7) hx hb hts in_X2 hown hK hP 0 rfl rfl 4 (by decide) (hts _ mw_111) (fun _ h9 => h9) rfl dX2_endBlock_1 ?_
  obtain ⟨v1, e2, hf⟩ := hw_bind hf
  refine hw_goS (wr := [(h0, .inr (2, [.ref h0_cells, .ref h0_starts, .ref h0_leaves, .int x0_count, .int x0_end, .int x0_syncedCount, .int x0_syncedEnd]))]) (rest := []) ⟨hx, hb, hml, hown, hts⟩ (cLg_blockOf l D cA cZ x0_end v1 e2) (cwS 1 hts ks_X2_31 rfl rfl rfl (by decide +kernel) ⟨Nat.le_of_ble_eq_true rfl, Nat.le_of_ble_eq_true rfl⟩) [] [0] rfl rfl (by decide) (by decide) (by decide) hK hE hP hD hS hA hl.1 rfl rfl (Nat.le_of_ble_eq_true rfl) dX2_endBlock_4 ⟨Nat.zero_le _, Nat.zero_le _⟩ (fun H locs (hP : va_P D vwCl [(h0, .inr (2, [.ref h0_cells, .ref h0_starts, .ref h0_leaves, .int x0_count, .int x0_end, .int x0_syncedCount, .int x0_syncedEnd]))] H) (hD : va_D A [(h0, .inr (2, [.ref h0_cells, .ref h0_starts, .ref h0_leaves, .int x0_count, .int x0_end, .int x0_syncedCount, .int x0_syncedEnd]))]) hS => ?_)
  cases hf
  exact hw_ri hx hb hr hlk (hP.sub [0] rfl) (hD.sub [0] (by decide) rfl) hS dX2_endBlock_7
set_option maxHeartbeats 4000000 in
set_option maxRecDepth 100000 in
theorem cLg_cellAt (l : Launch) (D : va_G) (cA cZ : ClassId) (h0 : Nat) (h0_cells : Nat) (h0_starts : Nat) (h0_leaves : Nat) (x0_count : Int32) (x0_end : Int32) (x0_syncedCount : Int32) (x0_syncedEnd : Int32) (g0_cells : Nat → Int32) (k1 : Int32) (rr : Int32) (hf : fLg_cellAt g0_cells k1 = some rr) : hw_C l yX2_cellAt wX2_cellAt { frames := 0, cells := 0, slots := 0, locals := 0 } D vwCl cA cZ [.ref h0, .int k1] [(h0, .inr (2, [.ref h0_cells, .ref h0_starts, .ref h0_leaves, .int x0_count, .int x0_end, .int x0_syncedCount, .int x0_syncedEnd])), (h0_cells, .inl (cA, 512, .inl g0_cells))] [(h0, .inr (2, [.ref h0_cells, .ref h0_starts, .ref h0_leaves, .int x0_count, .int x0_end, .int x0_syncedCount, .int x0_syncedEnd])), (h0_cells, .inl (cA, 512, .inl g0_cells))] (some (.int rr)) := by
  refine hw_of (cc := cX2_cellAt) (maxL := 2) (ret := (some .int)) (by decide) rfl (Nat.le_of_ble_eq_true rfl) ?_
  intro p e s m args below meth c A ls hx hb hr hlk hml hown hts hA hK hE hP hD hS hl
  have hown : s.vm.findClass RX2 = some m.cls := hown
  have hl : lv_has ls 2 [(0, .ref h0), (1, .int k1)] := hl
  rw [fLg_cellAt] at hf
  refine lv_iload_n hx hb dX2_cellAt_0 rfl (lv_at hl 1 rfl) ?_
  refine hi_if_lt (tgt := 20) hx hb dX2_cellAt_1 rfl hf (fun hc hf => ?_) (fun hc hf => ?_)
  · refine lv_iconst (v := (0 : Int32)) hx hb dX2_cellAt_20 (by decide) ?_
    cases hf
    exact hw_ri hx hb hr hlk (hP.sub [0, 1] rfl) (hD.sub [0, 1] (by decide) rfl) hS dX2_cellAt_21
  · refine lv_iload_n hx hb dX2_cellAt_4 rfl (lv_at hl 1 rfl) ?_
    refine lv_sipush (v := (512 : Int32)) hx hb dX2_cellAt_5 (by decide) ?_
    refine hi_icmp_ge (tgt := 20) hx hb dX2_cellAt_8 rfl hf (fun hc hf => ?_) (fun hc hf => ?_)
    · refine lv_iconst (v := (0 : Int32)) hx hb dX2_cellAt_20 (by decide) ?_
      cases hf
      exact hw_ri hx hb hr hlk (hP.sub [0, 1] rfl) (hD.sub [0, 1] (by decide) rfl) hS dX2_cellAt_21
    · refine lv_aload_n hx hb dX2_cellAt_11 rfl (lv_at hl 0 rfl) ?_
      refine va_get (D := D) (ci := 2) (v := .ref h0_cells) (C := RX2) (T := TX2) (N := 7) hx hb hts in_X2 hown hK hP 0 rfl rfl 0 (by decide) (hts _ mw_8) (fun _ h9 => h9) rfl dX2_cellAt_12 ?_
      refine lv_iload_n hx hb dX2_cellAt_15 rfl (lv_at hl 1 rfl) ?_
      obtain ⟨v1, e2, hf⟩ := hw_bind hf
      refine hw_iald hx hb hK hP 1 rfl e2 dX2_cellAt_16 ?_
      refine lv_goto (tgt := 21) hx hb dX2_cellAt_17 rfl ?_
      cases hf
      exact hw_ri hx hb hr hlk (hP.sub [0, 1] rfl) (hD.sub [0, 1] (by decide) rfl) hS dX2_cellAt_21
set_option maxHeartbeats 4000000 in
set_option maxRecDepth 100000 in
theorem cLg_markSynced (l : Launch) (D : va_G) (cA cZ : ClassId) (h0 : Nat) (h0_cells : Nat) (h0_starts : Nat) (h0_leaves : Nat) (x0_count : Int32) (x0_end : Int32) (x0_syncedCount : Int32) (x0_syncedEnd : Int32) (ox0_syncedCount : Int32) (ox0_syncedEnd : Int32) (hf : fLg_markSynced x0_count x0_end x0_syncedCount x0_syncedEnd = some (ox0_syncedCount, ox0_syncedEnd)) : hw_C l yX2_markSynced wX2_markSynced { frames := 0, cells := 0, slots := 0, locals := 0 } D vwCl cA cZ [.ref h0] [(h0, .inr (2, [.ref h0_cells, .ref h0_starts, .ref h0_leaves, .int x0_count, .int x0_end, .int x0_syncedCount, .int x0_syncedEnd]))] [(h0, .inr (2, [.ref h0_cells, .ref h0_starts, .ref h0_leaves, .int x0_count, .int x0_end, .int ox0_syncedCount, .int ox0_syncedEnd]))] none := by
  refine hw_of (cc := cX2_markSynced) (maxL := 1) (ret := none) (by decide) rfl (Nat.le_of_ble_eq_true rfl) ?_
  intro p e s m args below meth c A ls hx hb hr hlk hml hown hts hA hK hE hP hD hS hl
  have hown : s.vm.findClass RX2 = some m.cls := hown
  have hl : lv_has ls 1 [(0, .ref h0)] := hl
  rw [fLg_markSynced] at hf
  refine lv_aload_n hx hb dX2_markSynced_0 rfl (lv_at hl 0 rfl) ?_
  refine lv_aload_n hx hb dX2_markSynced_1 rfl (lv_at hl 0 rfl) ?_
  refine va_get (D := D) (ci := 2) (v := .int x0_count) (C := RX2) (T := TX2) (N := 7) hx hb hts in_X2 hown hK hP 0 rfl rfl 3 (by decide) (hts _ mw_67) (fun _ h9 => h9) rfl dX2_markSynced_2 ?_
  refine va_put (D := D) (ci := 2) (v := .int x0_count) (ty := .int) (C := RX2) (T := TX2) (N := 7) hx hb hts in_X2 tyX2 tyX2_ok nX2 hown hK hP hD hS 0 rfl rfl 5 (by decide) (hts _ mw_171) (fun _ h9 => h9) rfl (by decide +kernel) rfl rfl (Nat.le_of_ble_eq_true rfl) dX2_markSynced_5 (fun H locs (hP : va_P D vwCl [(h0, .inr (2, [.ref h0_cells, .ref h0_starts, .ref h0_leaves, .int x0_count, .int x0_end, .int x0_count, .int x0_syncedEnd]))] H) (hD : va_D A [(h0, .inr (2, [.ref h0_cells, .ref h0_starts, .ref h0_leaves, .int x0_count, .int x0_end, .int x0_count, .int x0_syncedEnd]))]) hS => ?_)
  refine lv_aload_n hx hb dX2_markSynced_8 rfl (lv_at hl 0 rfl) ?_
  refine lv_aload_n hx hb dX2_markSynced_9 rfl (lv_at hl 0 rfl) ?_
  refine va_get (D := D) (ci := 2) (v := .int x0_end) (C := RX2) (T := TX2) (N := 7) hx hb hts in_X2 hown hK hP 0 rfl rfl 4 (by decide) (hts _ mw_111) (fun _ h9 => h9) rfl dX2_markSynced_10 ?_
  refine va_put (D := D) (ci := 2) (v := .int x0_end) (ty := .int) (C := RX2) (T := TX2) (N := 7) hx hb hts in_X2 tyX2 tyX2_ok nX2 hown hK hP hD hS 0 rfl rfl 6 (by decide) (hts _ mw_159) (fun _ h9 => h9) rfl (by decide +kernel) rfl rfl (Nat.le_of_ble_eq_true rfl) dX2_markSynced_13 (fun H locs (hP : va_P D vwCl [(h0, .inr (2, [.ref h0_cells, .ref h0_starts, .ref h0_leaves, .int x0_count, .int x0_end, .int x0_count, .int x0_end]))] H) (hD : va_D A [(h0, .inr (2, [.ref h0_cells, .ref h0_starts, .ref h0_leaves, .int x0_count, .int x0_end, .int x0_count, .int x0_end]))]) hS => ?_)
  cases hf
  exact hw_rv hx hb hr hlk (hP.sub [0] rfl) (hD.sub [0] (by decide) rfl) hS dX2_markSynced_16
set_option maxHeartbeats 4000000 in
set_option maxRecDepth 100000 in
theorem cLg_clearBehindEnd (l : Launch) (D : va_G) (cA cZ : ClassId) (h0 : Nat) (h0_cells : Nat) (h0_starts : Nat) (h0_leaves : Nat) (x0_count : Int32) (x0_end : Int32) (x0_syncedCount : Int32) (x0_syncedEnd : Int32) (g0_cells : Nat → Int32) (og0_cells : Nat → Int32) (hf : fLg_clearBehindEnd x0_end g0_cells = some og0_cells) : hw_C l yX2_clearBehindEnd wX2_clearBehindEnd { frames := 0, cells := 0, slots := 0, locals := 0 } D vwCl cA cZ [.ref h0] [(h0, .inr (2, [.ref h0_cells, .ref h0_starts, .ref h0_leaves, .int x0_count, .int x0_end, .int x0_syncedCount, .int x0_syncedEnd])), (h0_cells, .inl (cA, 512, .inl g0_cells))] [(h0, .inr (2, [.ref h0_cells, .ref h0_starts, .ref h0_leaves, .int x0_count, .int x0_end, .int x0_syncedCount, .int x0_syncedEnd])), (h0_cells, .inl (cA, 512, .inl og0_cells))] none := by
  refine hw_of (cc := cX2_clearBehindEnd) (maxL := 2) (ret := none) (by decide) rfl (Nat.le_of_ble_eq_true rfl) ?_
  intro p e s m args below meth c A ls hx hb hr hlk hml hown hts hA hK hE hP hD hS hl
  have hown : s.vm.findClass RX2 = some m.cls := hown
  have hl : lv_has ls 2 [(0, .ref h0)] := hl
  have L5 : ∀ (n5 : Nat) (ls : Array Slot) (H : Heap) (locs : List Loc) (k1 : Int32) (g0_cells : Nat → Int32), lv_has ls 2 [(0, .ref h0), (1, .int k1)] → va_P D vwCl [(h0, .inr (2, [.ref h0_cells, .ref h0_starts, .ref h0_leaves, .int x0_count, .int x0_end, .int x0_syncedCount, .int x0_syncedEnd])), (h0_cells, .inl (cA, 512, .inl g0_cells))] H → va_D A [(h0, .inr (2, [.ref h0_cells, .ref h0_starts, .ref h0_leaves, .int x0_count, .int x0_end, .int x0_syncedCount, .int x0_syncedEnd])), (h0_cells, .inl (cA, 512, .inl g0_cells))] → va_S A s.heap H locs → fLg_clearBehindEnd_L5 x0_end n5 k1 g0_cells = some og0_cells → W p l e { frames := 0, cells := 0, slots := 0, locals := 0 } s m args below meth c H locs 0 0 (hw_Z below args s D vwCl A [(h0, .inr (2, [.ref h0_cells, .ref h0_starts, .ref h0_leaves, .int x0_count, .int x0_end, .int x0_syncedCount, .int x0_syncedEnd])), (h0_cells, .inl (cA, 512, .inl og0_cells))] none) (F0 m 5 ls []) := by
    intro n5
    induction n5 with
    | zero => intro ls H locs k1 g0_cells hl hP hD hS hf; simp only [fLg_clearBehindEnd_L5] at hf; cases hf
    | succ n5 ih5 =>
      intro ls H locs k1 g0_cells hl hP hD hS hf
      rw [fLg_clearBehindEnd_L5] at hf
      refine lv_iload_n hx hb dX2_clearBehindEnd_5 rfl (lv_at hl 1 rfl) ?_
      refine lv_sipush (v := (512 : Int32)) hx hb dX2_clearBehindEnd_6 (by decide) ?_
      refine hi_icmp_ge (tgt := 25) hx hb dX2_clearBehindEnd_9 rfl hf (fun hc hf => ?_) (fun hc hf => ?_)
      · cases hf
        exact hw_rv hx hb hr hlk (hP.sub [0, 1] rfl) (hD.sub [0, 1] (by decide) rfl) hS dX2_clearBehindEnd_25
      · refine lv_aload_n hx hb dX2_clearBehindEnd_12 rfl (lv_at hl 0 rfl) ?_
        refine va_get (D := D) (ci := 2) (v := .ref h0_cells) (C := RX2) (T := TX2) (N := 7) hx hb hts in_X2 hown hK hP 0 rfl rfl 0 (by decide) (hts _ mw_8) (fun _ h9 => h9) rfl dX2_clearBehindEnd_13 ?_
        refine lv_iload_n hx hb dX2_clearBehindEnd_16 rfl (lv_at hl 1 rfl) ?_
        refine lv_iconst (v := (0 : Int32)) hx hb dX2_clearBehindEnd_17 (by decide) ?_
        obtain ⟨u1, e2, hf⟩ := hw_bind hf
        refine hw_iast hx hb hK hP hD hS 1 rfl e2 dX2_clearBehindEnd_18 (fun H locs (hP : va_P D vwCl [(h0, .inr (2, [.ref h0_cells, .ref h0_starts, .ref h0_leaves, .int x0_count, .int x0_end, .int x0_syncedCount, .int x0_syncedEnd])), (h0_cells, .inl (cA, 512, .inl u1))] H) (hD : va_D A [(h0, .inr (2, [.ref h0_cells, .ref h0_starts, .ref h0_leaves, .int x0_count, .int x0_end, .int x0_syncedCount, .int x0_syncedEnd])), (h0_cells, .inl (cA, 512, .inl u1))]) hS => ?_)
        refine lv_iinc (v := k1 + (1 : Int32)) (lv' := [(1, .int (k1 + (1 : Int32))), (0, .ref h0)]) hx hb dX2_clearBehindEnd_19 hl (k := 1) rfl (congrArg (fun z => k1 + z) (by decide)) (by decide) rfl (fun ls hl => ?_)
        refine lv_goto (tgt := 5) hx hb dX2_clearBehindEnd_22 rfl ?_
        exact ih5 _ _ _ (k1 + (1 : Int32)) u1 (lv_sub hl [1, 0] rfl) (hP.sub [0, 1] rfl) (hD.sub [0, 1] (by decide) rfl) hS hf
  rw [fLg_clearBehindEnd] at hf
  refine lv_aload_n hx hb dX2_clearBehindEnd_0 rfl (lv_at hl 0 rfl) ?_
  refine va_get (D := D) (ci := 2) (v := .int x0_end) (C := RX2) (T := TX2) (N := 7) hx hb hts in_X2 hown hK hP 0 rfl rfl 4 (by decide) (hts _ mw_111) (fun _ h9 => h9) rfl dX2_clearBehindEnd_1 ?_
  refine lv_istore_n (lv' := [(1, .int x0_end), (0, .ref h0)]) hx hb dX2_clearBehindEnd_4 rfl hl (by decide) rfl (fun ls hl => ?_)
  exact L5 600 _ _ _ x0_end g0_cells (lv_sub hl [1, 0] rfl) (hP.sub [0, 1] rfl) (hD.sub [0, 1] (by decide) rfl) hS hf
set_option maxHeartbeats 4000000 in
set_option maxRecDepth 100000 in
theorem cLg_clear (l : Launch) (D : va_G) (cA cZ : ClassId) (h0 : Nat) (h0_cells : Nat) (h0_starts : Nat) (h0_leaves : Nat) (x0_count : Int32) (x0_end : Int32) (x0_syncedCount : Int32) (x0_syncedEnd : Int32) (g0_cells : Nat → Int32) (ox0_count : Int32) (ox0_end : Int32) (ox0_syncedCount : Int32) (ox0_syncedEnd : Int32) (og0_cells : Nat → Int32) (hf : fLg_clear x0_count x0_end x0_syncedCount x0_syncedEnd g0_cells = some (ox0_count, ox0_end, ox0_syncedCount, ox0_syncedEnd, og0_cells)) : hw_C l yX2_clear wX2_clear { frames := 1, cells := 0, slots := 0, locals := 21 } D vwCl cA cZ [.ref h0] [(h0, .inr (2, [.ref h0_cells, .ref h0_starts, .ref h0_leaves, .int x0_count, .int x0_end, .int x0_syncedCount, .int x0_syncedEnd])), (h0_cells, .inl (cA, 512, .inl g0_cells))] [(h0, .inr (2, [.ref h0_cells, .ref h0_starts, .ref h0_leaves, .int ox0_count, .int ox0_end, .int ox0_syncedCount, .int ox0_syncedEnd])), (h0_cells, .inl (cA, 512, .inl og0_cells))] none := by
  refine hw_of (cc := cX2_clear) (maxL := 1) (ret := none) (by decide) rfl (Nat.le_of_ble_eq_true rfl) ?_
  intro p e s m args below meth c A ls hx hb hr hlk hml hown hts hA hK hE hP hD hS hl
  have hown : s.vm.findClass RX2 = some m.cls := hown
  have hl : lv_has ls 1 [(0, .ref h0)] := hl
  rw [fLg_clear] at hf
  refine lv_aload_n hx hb dX2_clear_0 rfl (lv_at hl 0 rfl) ?_
  refine lv_iconst (v := (0 : Int32)) hx hb dX2_clear_1 (by decide) ?_
  refine va_put (D := D) (ci := 2) (v := .int (0 : Int32)) (ty := .int) (C := RX2) (T := TX2) (N := 7) hx hb hts in_X2 tyX2 tyX2_ok nX2 hown hK hP hD hS 0 rfl rfl 3 (by decide) (hts _ mw_67) (fun _ h9 => h9) rfl (by decide +kernel) rfl rfl (Nat.le_of_ble_eq_true rfl) dX2_clear_2 (fun H locs (hP : va_P D vwCl [(h0, .inr (2, [.ref h0_cells, .ref h0_starts, .ref h0_leaves, .int (0 : Int32), .int x0_end, .int x0_syncedCount, .int x0_syncedEnd])), (h0_cells, .inl (cA, 512, .inl g0_cells))] H) (hD : va_D A [(h0, .inr (2, [.ref h0_cells, .ref h0_starts, .ref h0_leaves, .int (0 : Int32), .int x0_end, .int x0_syncedCount, .int x0_syncedEnd])), (h0_cells, .inl (cA, 512, .inl g0_cells))]) hS => ?_)
  refine lv_aload_n hx hb dX2_clear_5 rfl (lv_at hl 0 rfl) ?_
  refine lv_iconst (v := (0 : Int32)) hx hb dX2_clear_6 (by decide) ?_
  refine va_put (D := D) (ci := 2) (v := .int (0 : Int32)) (ty := .int) (C := RX2) (T := TX2) (N := 7) hx hb hts in_X2 tyX2 tyX2_ok nX2 hown hK hP hD hS 0 rfl rfl 4 (by decide) (hts _ mw_111) (fun _ h9 => h9) rfl (by decide +kernel) rfl rfl (Nat.le_of_ble_eq_true rfl) dX2_clear_7 (fun H locs (hP : va_P D vwCl [(h0, .inr (2, [.ref h0_cells, .ref h0_starts, .ref h0_leaves, .int (0 : Int32), .int (0 : Int32), .int x0_syncedCount, .int x0_syncedEnd])), (h0_cells, .inl (cA, 512, .inl g0_cells))] H) (hD : va_D A [(h0, .inr (2, [.ref h0_cells, .ref h0_starts, .ref h0_leaves, .int (0 : Int32), .int (0 : Int32), .int x0_syncedCount, .int x0_syncedEnd])), (h0_cells, .inl (cA, 512, .inl g0_cells))]) hS => ?_)
  refine lv_aload_n hx hb dX2_clear_10 rfl (lv_at hl 0 rfl) ?_
  obtain ⟨⟨u1, u2⟩, e3, hf⟩ := hw_bind hf
  refine hw_goV (wr := [(h0_cells, .inl (cA, 512, .inl g0_cells))]) (rest := []) ⟨hx, hb, hml, hown, hts⟩ (cLg_markSynced l D cA cZ h0 h0_cells h0_starts h0_leaves (0 : Int32) (0 : Int32) x0_syncedCount x0_syncedEnd u1 u2 e3) (cwV 0 hts ks_X2_38 rfl rfl rfl (by decide +kernel) ⟨Nat.le_of_ble_eq_true rfl, Nat.le_of_ble_eq_true rfl⟩) 0 rfl rfl [0] [1] rfl rfl (by decide) (by decide) (by decide) hK hE hP hD hS hA hl.1 rfl rfl (Nat.le_of_ble_eq_true rfl) dX2_clear_11 ⟨Nat.zero_le _, Nat.zero_le _⟩ (fun H locs (hP : va_P D vwCl [(h0_cells, .inl (cA, 512, .inl g0_cells)), (h0, .inr (2, [.ref h0_cells, .ref h0_starts, .ref h0_leaves, .int (0 : Int32), .int (0 : Int32), .int u1, .int u2]))] H) (hD : va_D A [(h0_cells, .inl (cA, 512, .inl g0_cells)), (h0, .inr (2, [.ref h0_cells, .ref h0_starts, .ref h0_leaves, .int (0 : Int32), .int (0 : Int32), .int u1, .int u2]))]) hS => ?_)
  refine lv_aload_n hx hb dX2_clear_14 rfl (lv_at hl 0 rfl) ?_
  obtain ⟨u4, e5, hf⟩ := hw_bind hf
  refine hw_goV (wr := []) (rest := []) ⟨hx, hb, hml, hown, hts⟩ (cLg_clearBehindEnd l D cA cZ h0 h0_cells h0_starts h0_leaves (0 : Int32) (0 : Int32) u1 u2 g0_cells u4 e5) (cwV 0 hts ks_X2_41 rfl rfl rfl (by decide +kernel) ⟨Nat.le_of_ble_eq_true rfl, Nat.le_of_ble_eq_true rfl⟩) 1 rfl rfl [1, 0] [] rfl rfl (by decide) (by decide) (by decide) hK hE hP hD hS hA hl.1 rfl rfl (Nat.le_of_ble_eq_true rfl) dX2_clear_15 ⟨Nat.zero_le _, Nat.zero_le _⟩ (fun H locs (hP : va_P D vwCl [(h0, .inr (2, [.ref h0_cells, .ref h0_starts, .ref h0_leaves, .int (0 : Int32), .int (0 : Int32), .int u1, .int u2])), (h0_cells, .inl (cA, 512, .inl u4))] H) (hD : va_D A [(h0, .inr (2, [.ref h0_cells, .ref h0_starts, .ref h0_leaves, .int (0 : Int32), .int (0 : Int32), .int u1, .int u2])), (h0_cells, .inl (cA, 512, .inl u4))]) hS => ?_)
  cases hf
  exact hw_rv hx hb hr hlk (hP.sub [0, 1] rfl) (hD.sub [0, 1] (by decide) rfl) hS dX2_clear_18
set_option maxHeartbeats 4000000 in
set_option maxRecDepth 100000 in
theorem cLg_nextFits (l : Launch) (D : va_G) (cA cZ : ClassId) (h0 : Nat) (h0_cells : Nat) (h0_starts : Nat) (h0_leaves : Nat) (x0_count : Int32) (x0_end : Int32) (x0_syncedCount : Int32) (x0_syncedEnd : Int32) (g0_cells : Nat → Int32) (rr : Int32) (hf : fLg_nextFits x0_end g0_cells = some rr) : hw_C l yX2_nextFits wX2_nextFits { frames := 1, cells := 0, slots := 0, locals := 20 } D vwCl cA cZ [.ref h0] [(h0, .inr (2, [.ref h0_cells, .ref h0_starts, .ref h0_leaves, .int x0_count, .int x0_end, .int x0_syncedCount, .int x0_syncedEnd])), (h0_cells, .inl (cA, 512, .inl g0_cells))] [(h0, .inr (2, [.ref h0_cells, .ref h0_starts, .ref h0_leaves, .int x0_count, .int x0_end, .int x0_syncedCount, .int x0_syncedEnd])), (h0_cells, .inl (cA, 512, .inl g0_cells))] (some (.int rr)) := by
  refine hw_of (cc := cX2_nextFits) (maxL := 1) (ret := (some .boolean)) (by decide) rfl (Nat.le_of_ble_eq_true rfl) ?_
  intro p e s m args below meth c A ls hx hb hr hlk hml hown hts hA hK hE hP hD hS hl
  have hown : s.vm.findClass RX2 = some m.cls := hown
  have hl : lv_has ls 1 [(0, .ref h0)] := hl
  rw [fLg_nextFits] at hf
  refine lv_aload_n hx hb dX2_nextFits_0 rfl (lv_at hl 0 rfl) ?_
  refine va_get (D := D) (ci := 2) (v := .int x0_end) (C := RX2) (T := TX2) (N := 7) hx hb hts in_X2 hown hK hP 0 rfl rfl 4 (by decide) (hts _ mw_111) (fun _ h9 => h9) rfl dX2_nextFits_1 ?_
  refine lv_sipush (v := (512 : Int32)) hx hb dX2_nextFits_4 (by decide) ?_
  refine hi_icmp_ge (tgt := 63) hx hb dX2_nextFits_7 rfl hf (fun hc hf => ?_) (fun hc hf => ?_)
  · refine lv_iconst (v := (0 : Int32)) hx hb dX2_nextFits_63 (by decide) ?_
    cases hf
    exact hw_rz hx hb hr hlk rfl (hP.sub [0, 1] rfl) (hD.sub [0, 1] (by decide) rfl) hS dX2_nextFits_64
  · refine lv_aload_n hx hb dX2_nextFits_10 rfl (lv_at hl 0 rfl) ?_
    refine va_get (D := D) (ci := 2) (v := .ref h0_cells) (C := RX2) (T := TX2) (N := 7) hx hb hts in_X2 hown hK hP 0 rfl rfl 0 (by decide) (hts _ mw_8) (fun _ h9 => h9) rfl dX2_nextFits_11 ?_
    refine lv_aload_n hx hb dX2_nextFits_14 rfl (lv_at hl 0 rfl) ?_
    refine va_get (D := D) (ci := 2) (v := .int x0_end) (C := RX2) (T := TX2) (N := 7) hx hb hts in_X2 hown hK hP 0 rfl rfl 4 (by decide) (hts _ mw_111) (fun _ h9 => h9) rfl dX2_nextFits_15 ?_
    obtain ⟨v1, e2, hf⟩ := hw_bind hf
    refine hw_iald hx hb hK hP 1 rfl e2 dX2_nextFits_18 ?_
    refine lv_iconst (v := (2 : Int32)) hx hb dX2_nextFits_19 (by decide) ?_
    refine hi_icmp_lt (tgt := 63) hx hb dX2_nextFits_20 rfl hf (fun hc hf => ?_) (fun hc hf => ?_)
    · refine lv_iconst (v := (0 : Int32)) hx hb dX2_nextFits_63 (by decide) ?_
      cases hf
      exact hw_rz hx hb hr hlk rfl (hP.sub [0, 1] rfl) (hD.sub [0, 1] (by decide) rfl) hS dX2_nextFits_64
    · refine lv_aload_n hx hb dX2_nextFits_23 rfl (lv_at hl 0 rfl) ?_
      refine va_get (D := D) (ci := 2) (v := .ref h0_cells) (C := RX2) (T := TX2) (N := 7) hx hb hts in_X2 hown hK hP 0 rfl rfl 0 (by decide) (hts _ mw_8) (fun _ h9 => h9) rfl dX2_nextFits_24 ?_
      refine lv_aload_n hx hb dX2_nextFits_27 rfl (lv_at hl 0 rfl) ?_
      refine va_get (D := D) (ci := 2) (v := .int x0_end) (C := RX2) (T := TX2) (N := 7) hx hb hts in_X2 hown hK hP 0 rfl rfl 4 (by decide) (hts _ mw_111) (fun _ h9 => h9) rfl dX2_nextFits_28 ?_
      obtain ⟨v3, e4, hf⟩ := hw_bind hf
      refine hw_iald hx hb hK hP 1 rfl e4 dX2_nextFits_31 ?_
      refine lv_iconst (v := (4 : Int32)) hx hb dX2_nextFits_32 (by decide) ?_
      refine hi_icmp_gt (tgt := 63) hx hb dX2_nextFits_33 rfl hf (fun hc hf => ?_) (fun hc hf => ?_)
      · refine lv_iconst (v := (0 : Int32)) hx hb dX2_nextFits_63 (by decide) ?_
        cases hf
        exact hw_rz hx hb hr hlk rfl (hP.sub [0, 1] rfl) (hD.sub [0, 1] (by decide) rfl) hS dX2_nextFits_64
      · refine lv_aload_n hx hb dX2_nextFits_36 rfl (lv_at hl 0 rfl) ?_
        refine va_get (D := D) (ci := 2) (v := .int x0_end) (C := RX2) (T := TX2) (N := 7) hx hb hts in_X2 hown hK hP 0 rfl rfl 4 (by decide) (hts _ mw_111) (fun _ h9 => h9) rfl dX2_nextFits_37 ?_
        refine lv_aload_n hx hb dX2_nextFits_40 rfl (lv_at hl 0 rfl) ?_
        refine va_get (D := D) (ci := 2) (v := .ref h0_cells) (C := RX2) (T := TX2) (N := 7) hx hb hts in_X2 hown hK hP 0 rfl rfl 0 (by decide) (hts _ mw_8) (fun _ h9 => h9) rfl dX2_nextFits_41 ?_
        refine lv_aload_n hx hb dX2_nextFits_44 rfl (lv_at hl 0 rfl) ?_
        refine va_get (D := D) (ci := 2) (v := .int x0_end) (C := RX2) (T := TX2) (N := 7) hx hb hts in_X2 hown hK hP 0 rfl rfl 4 (by decide) (hts _ mw_111) (fun _ h9 => h9) rfl dX2_nextFits_45 ?_
        obtain ⟨v5, e6, hf⟩ := hw_bind hf
        refine hw_iald hx hb hK hP 1 rfl e6 dX2_nextFits_48 ?_
        obtain ⟨v7, e8, hf⟩ := hw_bind hf
        refine hw_goSN (wr := [(h0, .inr (2, [.ref h0_cells, .ref h0_starts, .ref h0_leaves, .int x0_count, .int x0_end, .int x0_syncedCount, .int x0_syncedEnd])), (h0_cells, .inl (cA, 512, .inl g0_cells))]) (rest := [.int x0_end]) ⟨hx, hb, hml, hown, hts⟩ (cSl_entryCells l D cA cZ v5 v7 e8) ⟨va_cnB 1 hts ks_X2_50 rfl rfl rfl (ne_0 hE) (hts _ mw_49) (by decide +kernel) ⟨Nat.le_of_ble_eq_true rfl, Nat.le_of_ble_eq_true rfl⟩, hts _ mw_109, trivial⟩ [] [0, 1] rfl rfl (by decide) (by decide) (by decide) hK hE hP hD hS hA hl.1 rfl rfl (Nat.le_of_ble_eq_true rfl) dX2_nextFits_49 ⟨Nat.zero_le _, Nat.zero_le _⟩ (fun H locs (hP : va_P D vwCl [(h0, .inr (2, [.ref h0_cells, .ref h0_starts, .ref h0_leaves, .int x0_count, .int x0_end, .int x0_syncedCount, .int x0_syncedEnd])), (h0_cells, .inl (cA, 512, .inl g0_cells))] H) (hD : va_D A [(h0, .inr (2, [.ref h0_cells, .ref h0_starts, .ref h0_leaves, .int x0_count, .int x0_end, .int x0_syncedCount, .int x0_syncedEnd])), (h0_cells, .inl (cA, 512, .inl g0_cells))]) hS => ?_)
        refine lv_iadd hx hb dX2_nextFits_52 ?_
        refine lv_sipush (v := (512 : Int32)) hx hb dX2_nextFits_53 (by decide) ?_
        refine hi_icmp_gt (tgt := 63) hx hb dX2_nextFits_56 rfl hf (fun hc hf => ?_) (fun hc hf => ?_)
        · refine lv_iconst (v := (0 : Int32)) hx hb dX2_nextFits_63 (by decide) ?_
          cases hf
          exact hw_rz hx hb hr hlk rfl (hP.sub [0, 1] rfl) (hD.sub [0, 1] (by decide) rfl) hS dX2_nextFits_64
        · refine lv_iconst (v := (1 : Int32)) hx hb dX2_nextFits_59 (by decide) ?_
          refine lv_goto (tgt := 64) hx hb dX2_nextFits_60 rfl ?_
          cases hf
          exact hw_rz hx hb hr hlk rfl (hP.sub [0, 1] rfl) (hD.sub [0, 1] (by decide) rfl) hS dX2_nextFits_64
set_option maxHeartbeats 4000000 in
set_option maxRecDepth 100000 in
theorem cLg_nextLegsAreSound (l : Launch) (D : va_G) (cA cZ : ClassId) (h0 : Nat) (h0_cells : Nat) (h0_starts : Nat) (h0_leaves : Nat) (x0_count : Int32) (x0_end : Int32) (x0_syncedCount : Int32) (x0_syncedEnd : Int32) (g0_cells : Nat → Int32) (rr : Int32) (hf : fLg_nextLegsAreSound x0_end g0_cells = some rr) : hw_C l yX2_nextLegsAreSound wX2_nextLegsAreSound { frames := 1, cells := 0, slots := 0, locals := 21 } D vwCl cA cZ [.ref h0] [(h0, .inr (2, [.ref h0_cells, .ref h0_starts, .ref h0_leaves, .int x0_count, .int x0_end, .int x0_syncedCount, .int x0_syncedEnd])), (h0_cells, .inl (cA, 512, .inl g0_cells))] [(h0, .inr (2, [.ref h0_cells, .ref h0_starts, .ref h0_leaves, .int x0_count, .int x0_end, .int x0_syncedCount, .int x0_syncedEnd])), (h0_cells, .inl (cA, 512, .inl g0_cells))] (some (.int rr)) := by
  refine hw_of (cc := cX2_nextLegsAreSound) (maxL := 4) (ret := (some .boolean)) (by decide) rfl (Nat.le_of_ble_eq_true rfl) ?_
  intro p e s m args below meth c A ls hx hb hr hlk hml hown hts hA hK hE hP hD hS hl
  have hown : s.vm.findClass RX2 = some m.cls := hown
  have hl : lv_has ls 4 [(0, .ref h0)] := hl
  have L4 : ∀ (n4 : Nat) (ls : Array Slot) (H : Heap) (locs : List Loc) (k1 : Int32) (k2 : Int32), lv_has ls 4 [(0, .ref h0), (1, .int k1), (2, .int k2)] → va_P D vwCl [(h0, .inr (2, [.ref h0_cells, .ref h0_starts, .ref h0_leaves, .int x0_count, .int x0_end, .int x0_syncedCount, .int x0_syncedEnd])), (h0_cells, .inl (cA, 512, .inl g0_cells))] H → va_D A [(h0, .inr (2, [.ref h0_cells, .ref h0_starts, .ref h0_leaves, .int x0_count, .int x0_end, .int x0_syncedCount, .int x0_syncedEnd])), (h0_cells, .inl (cA, 512, .inl g0_cells))] → va_S A s.heap H locs → fLg_nextLegsAreSound_L4 x0_end g0_cells n4 k1 k2 = some rr → W p l e { frames := 1, cells := 0, slots := 0, locals := 21 } s m args below meth c H locs 0 0 (hw_Z below args s D vwCl A [(h0, .inr (2, [.ref h0_cells, .ref h0_starts, .ref h0_leaves, .int x0_count, .int x0_end, .int x0_syncedCount, .int x0_syncedEnd])), (h0_cells, .inl (cA, 512, .inl g0_cells))] (some (.int rr))) (F0 m 4 ls []) := by
    intro n4
    induction n4 with
    | zero => intro ls H locs k1 k2 hl hP hD hS hf; simp only [fLg_nextLegsAreSound_L4] at hf; cases hf
    | succ n4 ih4 =>
      intro ls H locs k1 k2 hl hP hD hS hf
      rw [fLg_nextLegsAreSound_L4] at hf
      refine lv_iload_n hx hb dX2_nextLegsAreSound_4 rfl (lv_at hl 2 rfl) ?_
      refine lv_aload_n hx hb dX2_nextLegsAreSound_5 rfl (lv_at hl 0 rfl) ?_
      refine va_get (D := D) (ci := 2) (v := .ref h0_cells) (C := RX2) (T := TX2) (N := 7) hx hb hts in_X2 hown hK hP 0 rfl rfl 0 (by decide) (hts _ mw_8) (fun _ h9 => h9) rfl dX2_nextLegsAreSound_6 ?_
      refine lv_aload_n hx hb dX2_nextLegsAreSound_9 rfl (lv_at hl 0 rfl) ?_
      refine va_get (D := D) (ci := 2) (v := .int x0_end) (C := RX2) (T := TX2) (N := 7) hx hb hts in_X2 hown hK hP 0 rfl rfl 4 (by decide) (hts _ mw_111) (fun _ h9 => h9) rfl dX2_nextLegsAreSound_10 ?_
      obtain ⟨v1, e2, hf⟩ := hw_bind hf
      refine hw_iald hx hb hK hP 1 rfl e2 dX2_nextLegsAreSound_13 ?_
      refine hi_icmp_ge (tgt := 69) hx hb dX2_nextLegsAreSound_14 rfl hf (fun hc hf => ?_) (fun hc hf => ?_)
      · refine lv_iload_n hx hb dX2_nextLegsAreSound_69 rfl (lv_at hl 1 rfl) ?_
        refine hi_if_ne (tgt := 77) hx hb dX2_nextLegsAreSound_70 rfl hf (fun hc hf => ?_) (fun hc hf => ?_)
        · refine lv_iconst (v := (0 : Int32)) hx hb dX2_nextLegsAreSound_77 (by decide) ?_
          cases hf
          exact hw_rz hx hb hr hlk rfl (hP.sub [0, 1] rfl) (hD.sub [0, 1] (by decide) rfl) hS dX2_nextLegsAreSound_78
        · refine lv_iconst (v := (1 : Int32)) hx hb dX2_nextLegsAreSound_73 (by decide) ?_
          refine lv_goto (tgt := 78) hx hb dX2_nextLegsAreSound_74 rfl ?_
          cases hf
          exact hw_rz hx hb hr hlk rfl (hP.sub [0, 1] rfl) (hD.sub [0, 1] (by decide) rfl) hS dX2_nextLegsAreSound_78
      · refine lv_aload_n hx hb dX2_nextLegsAreSound_17 rfl (lv_at hl 0 rfl) ?_
        refine va_get (D := D) (ci := 2) (v := .ref h0_cells) (C := RX2) (T := TX2) (N := 7) hx hb hts in_X2 hown hK hP 0 rfl rfl 0 (by decide) (hts _ mw_8) (fun _ h9 => h9) rfl dX2_nextLegsAreSound_18 ?_
        refine lv_aload_n hx hb dX2_nextLegsAreSound_21 rfl (lv_at hl 0 rfl) ?_
        refine va_get (D := D) (ci := 2) (v := .int x0_end) (C := RX2) (T := TX2) (N := 7) hx hb hts in_X2 hown hK hP 0 rfl rfl 4 (by decide) (hts _ mw_111) (fun _ h9 => h9) rfl dX2_nextLegsAreSound_22 ?_
        refine lv_iload_n hx hb dX2_nextLegsAreSound_25 rfl (lv_at hl 2 rfl) ?_
        obtain ⟨v3, e4, hf⟩ := hw_bind hf
        refine hw_goS (wr := [(h0, .inr (2, [.ref h0_cells, .ref h0_starts, .ref h0_leaves, .int x0_count, .int x0_end, .int x0_syncedCount, .int x0_syncedEnd])), (h0_cells, .inl (cA, 512, .inl g0_cells))]) (rest := [.ref h0_cells]) ⟨hx, hb, hml, hown, hts⟩ (cLg_amountCell l D cA cZ x0_end k2 v3 e4) (cwS 2 hts ks_X2_60 rfl rfl rfl (by decide +kernel) ⟨Nat.le_of_ble_eq_true rfl, Nat.le_of_ble_eq_true rfl⟩) [] [0, 1] rfl rfl (by decide) (by decide) (by decide) hK hE hP hD hS hA hl.1 rfl rfl (Nat.le_of_ble_eq_true rfl) dX2_nextLegsAreSound_26 ⟨Nat.zero_le _, Nat.zero_le _⟩ (fun H locs (hP : va_P D vwCl [(h0, .inr (2, [.ref h0_cells, .ref h0_starts, .ref h0_leaves, .int x0_count, .int x0_end, .int x0_syncedCount, .int x0_syncedEnd])), (h0_cells, .inl (cA, 512, .inl g0_cells))] H) (hD : va_D A [(h0, .inr (2, [.ref h0_cells, .ref h0_starts, .ref h0_leaves, .int x0_count, .int x0_end, .int x0_syncedCount, .int x0_syncedEnd])), (h0_cells, .inl (cA, 512, .inl g0_cells))]) hS => ?_)
        obtain ⟨v5, e6, hf⟩ := hw_bind hf
        refine hw_iald hx hb hK hP 1 rfl e6 dX2_nextLegsAreSound_29 ?_
        refine lv_istore_n (lv' := [(3, .int v5), (0, .ref h0), (1, .int k1), (2, .int k2)]) hx hb dX2_nextLegsAreSound_30 rfl hl (by decide) rfl (fun ls hl => ?_)
        refine lv_aload_n hx hb dX2_nextLegsAreSound_31 rfl (lv_at hl 1 rfl) ?_
        refine va_get (D := D) (ci := 2) (v := .ref h0_cells) (C := RX2) (T := TX2) (N := 7) hx hb hts in_X2 hown hK hP 0 rfl rfl 0 (by decide) (hts _ mw_8) (fun _ h9 => h9) rfl dX2_nextLegsAreSound_32 ?_
        refine lv_aload_n hx hb dX2_nextLegsAreSound_35 rfl (lv_at hl 1 rfl) ?_
        refine va_get (D := D) (ci := 2) (v := .int x0_end) (C := RX2) (T := TX2) (N := 7) hx hb hts in_X2 hown hK hP 0 rfl rfl 4 (by decide) (hts _ mw_111) (fun _ h9 => h9) rfl dX2_nextLegsAreSound_36 ?_
        refine lv_iload_n hx hb dX2_nextLegsAreSound_39 rfl (lv_at hl 3 rfl) ?_
        obtain ⟨v7, e8, hf⟩ := hw_bind hf
        refine hw_goS (wr := [(h0, .inr (2, [.ref h0_cells, .ref h0_starts, .ref h0_leaves, .int x0_count, .int x0_end, .int x0_syncedCount, .int x0_syncedEnd])), (h0_cells, .inl (cA, 512, .inl g0_cells))]) (rest := [.ref h0_cells]) ⟨hx, hb, hml, hown, hts⟩ (cLg_accountCell l D cA cZ x0_end k2 v7 e8) (cwS 2 hts ks_X2_53 rfl rfl rfl (by decide +kernel) ⟨Nat.le_of_ble_eq_true rfl, Nat.le_of_ble_eq_true rfl⟩) [] [0, 1] rfl rfl (by decide) (by decide) (by decide) hK hE hP hD hS hA hl.1 rfl rfl (Nat.le_of_ble_eq_true rfl) dX2_nextLegsAreSound_40 ⟨Nat.zero_le _, Nat.zero_le _⟩ (fun H locs (hP : va_P D vwCl [(h0, .inr (2, [.ref h0_cells, .ref h0_starts, .ref h0_leaves, .int x0_count, .int x0_end, .int x0_syncedCount, .int x0_syncedEnd])), (h0_cells, .inl (cA, 512, .inl g0_cells))] H) (hD : va_D A [(h0, .inr (2, [.ref h0_cells, .ref h0_starts, .ref h0_leaves, .int x0_count, .int x0_end, .int x0_syncedCount, .int x0_syncedEnd])), (h0_cells, .inl (cA, 512, .inl g0_cells))]) hS => ?_)
        obtain ⟨v9, e10, hf⟩ := hw_bind hf
        refine hw_iald hx hb hK hP 1 rfl e10 dX2_nextLegsAreSound_43 ?_
        obtain ⟨v11, e12, hf⟩ := hw_bind hf
        refine hw_goSN (wr := [(h0, .inr (2, [.ref h0_cells, .ref h0_starts, .ref h0_leaves, .int x0_count, .int x0_end, .int x0_syncedCount, .int x0_syncedEnd])), (h0_cells, .inl (cA, 512, .inl g0_cells))]) (rest := []) ⟨hx, hb, hml, hown, hts⟩ (cSl_isAccount l D cA cZ v9 v11 e12) ⟨va_cnB 1 hts ks_X2_111 rfl rfl rfl (ne_2 hE) (hts _ mw_49) (by decide +kernel) ⟨Nat.le_of_ble_eq_true rfl, Nat.le_of_ble_eq_true rfl⟩, hts _ mw_48, trivial⟩ [] [0, 1] rfl rfl (by decide) (by decide) (by decide) hK hE hP hD hS hA hl.1 rfl rfl (Nat.le_of_ble_eq_true rfl) dX2_nextLegsAreSound_44 ⟨Nat.zero_le _, Nat.zero_le _⟩ (fun H locs (hP : va_P D vwCl [(h0, .inr (2, [.ref h0_cells, .ref h0_starts, .ref h0_leaves, .int x0_count, .int x0_end, .int x0_syncedCount, .int x0_syncedEnd])), (h0_cells, .inl (cA, 512, .inl g0_cells))] H) (hD : va_D A [(h0, .inr (2, [.ref h0_cells, .ref h0_starts, .ref h0_leaves, .int x0_count, .int x0_end, .int x0_syncedCount, .int x0_syncedEnd])), (h0_cells, .inl (cA, 512, .inl g0_cells))]) hS => ?_)
        refine hi_if_eq (tgt := 57) hx hb dX2_nextLegsAreSound_47 rfl hf (fun hc hf => ?_) (fun hc hf => ?_)
        · refine lv_iconst (v := (0 : Int32)) hx hb dX2_nextLegsAreSound_57 (by decide) ?_
          cases hf
          exact hw_rz hx hb hr hlk rfl (hP.sub [0, 1] rfl) (hD.sub [0, 1] (by decide) rfl) hS dX2_nextLegsAreSound_58
        · refine lv_iload_n hx hb dX2_nextLegsAreSound_50 rfl (lv_at hl 0 rfl) ?_
          obtain ⟨v13, e14, hf⟩ := hw_bind hf
          refine hw_goSN (wr := [(h0, .inr (2, [.ref h0_cells, .ref h0_starts, .ref h0_leaves, .int x0_count, .int x0_end, .int x0_syncedCount, .int x0_syncedEnd])), (h0_cells, .inl (cA, 512, .inl g0_cells))]) (rest := []) ⟨hx, hb, hml, hown, hts⟩ (cSl_isAmount l D cA cZ v5 v13 e14) ⟨va_cnB 1 hts ks_X2_115 rfl rfl rfl (ne_3 hE) (hts _ mw_49) (by decide +kernel) ⟨Nat.le_of_ble_eq_true rfl, Nat.le_of_ble_eq_true rfl⟩, hts _ mw_56, trivial⟩ [] [0, 1] rfl rfl (by decide) (by decide) (by decide) hK hE hP hD hS hA hl.1 rfl rfl (Nat.le_of_ble_eq_true rfl) dX2_nextLegsAreSound_51 ⟨Nat.zero_le _, Nat.zero_le _⟩ (fun H locs (hP : va_P D vwCl [(h0, .inr (2, [.ref h0_cells, .ref h0_starts, .ref h0_leaves, .int x0_count, .int x0_end, .int x0_syncedCount, .int x0_syncedEnd])), (h0_cells, .inl (cA, 512, .inl g0_cells))] H) (hD : va_D A [(h0, .inr (2, [.ref h0_cells, .ref h0_starts, .ref h0_leaves, .int x0_count, .int x0_end, .int x0_syncedCount, .int x0_syncedEnd])), (h0_cells, .inl (cA, 512, .inl g0_cells))]) hS => ?_)
          refine hi_if_ne (tgt := 59) hx hb dX2_nextLegsAreSound_54 rfl hf (fun hc hf => ?_) (fun hc hf => ?_)
          · refine lv_iload_n hx hb dX2_nextLegsAreSound_59 rfl (lv_at hl 2 rfl) ?_
            refine lv_iload_n hx hb dX2_nextLegsAreSound_60 rfl (lv_at hl 0 rfl) ?_
            refine lv_iadd hx hb dX2_nextLegsAreSound_61 ?_
            refine lv_istore_n (lv' := [(1, .int (k1 + v5)), (3, .int v5), (0, .ref h0), (2, .int k2)]) hx hb dX2_nextLegsAreSound_62 rfl hl (by decide) rfl (fun ls hl => ?_)
            refine lv_iinc (v := k2 + (1 : Int32)) (lv' := [(2, .int (k2 + (1 : Int32))), (1, .int (k1 + v5)), (3, .int v5), (0, .ref h0)]) hx hb dX2_nextLegsAreSound_63 hl (k := 3) rfl (congrArg (fun z => k2 + z) (by decide)) (by decide) rfl (fun ls hl => ?_)
            refine lv_goto (tgt := 4) hx hb dX2_nextLegsAreSound_66 rfl ?_
            exact ih4 _ _ _ (k1 + v5) (k2 + (1 : Int32)) (lv_sub hl [3, 1, 0] rfl) (hP.sub [0, 1] rfl) (hD.sub [0, 1] (by decide) rfl) hS hf
          · refine lv_iconst (v := (0 : Int32)) hx hb dX2_nextLegsAreSound_57 (by decide) ?_
            cases hf
            exact hw_rz hx hb hr hlk rfl (hP.sub [0, 1] rfl) (hD.sub [0, 1] (by decide) rfl) hS dX2_nextLegsAreSound_58
  rw [fLg_nextLegsAreSound] at hf
  refine lv_iconst (v := (0 : Int32)) hx hb dX2_nextLegsAreSound_0 (by decide) ?_
  refine lv_istore_n (lv' := [(1, .int (0 : Int32)), (0, .ref h0)]) hx hb dX2_nextLegsAreSound_1 rfl hl (by decide) rfl (fun ls hl => ?_)
  refine lv_iconst (v := (0 : Int32)) hx hb dX2_nextLegsAreSound_2 (by decide) ?_
  refine lv_istore_n (lv' := [(2, .int (0 : Int32)), (1, .int (0 : Int32)), (0, .ref h0)]) hx hb dX2_nextLegsAreSound_3 rfl hl (by decide) rfl (fun ls hl => ?_)
  exact L4 600 _ _ _ (0 : Int32) (0 : Int32) (lv_sub hl [2, 1, 0] rfl) (hP.sub [0, 1] rfl) (hD.sub [0, 1] (by decide) rfl) hS hf
set_option maxHeartbeats 4000000 in
set_option maxRecDepth 100000 in
theorem cLg_nextIsSound (l : Launch) (D : va_G) (cA cZ : ClassId) (h0 : Nat) (h0_cells : Nat) (h0_starts : Nat) (h0_leaves : Nat) (x0_count : Int32) (x0_end : Int32) (x0_syncedCount : Int32) (x0_syncedEnd : Int32) (g0_cells : Nat → Int32) (rr : Int32) (hf : fLg_nextIsSound x0_end g0_cells = some rr) : hw_C l yX2_nextIsSound wX2_nextIsSound { frames := 2, cells := 0, slots := 0, locals := 46 } D vwCl cA cZ [.ref h0] [(h0, .inr (2, [.ref h0_cells, .ref h0_starts, .ref h0_leaves, .int x0_count, .int x0_end, .int x0_syncedCount, .int x0_syncedEnd])), (h0_cells, .inl (cA, 512, .inl g0_cells))] [(h0, .inr (2, [.ref h0_cells, .ref h0_starts, .ref h0_leaves, .int x0_count, .int x0_end, .int x0_syncedCount, .int x0_syncedEnd])), (h0_cells, .inl (cA, 512, .inl g0_cells))] (some (.int rr)) := by
  refine hw_of (cc := cX2_nextIsSound) (maxL := 1) (ret := (some .boolean)) (by decide) rfl (Nat.le_of_ble_eq_true rfl) ?_
  intro p e s m args below meth c A ls hx hb hr hlk hml hown hts hA hK hE hP hD hS hl
  have hown : s.vm.findClass RX2 = some m.cls := hown
  have hl : lv_has ls 1 [(0, .ref h0)] := hl
  rw [fLg_nextIsSound] at hf
  refine lv_aload_n hx hb dX2_nextIsSound_0 rfl (lv_at hl 0 rfl) ?_
  obtain ⟨v1, e2, hf⟩ := hw_bind hf
  refine hw_goV (wr := []) (rest := []) ⟨hx, hb, hml, hown, hts⟩ (cLg_nextFits l D cA cZ h0 h0_cells h0_starts h0_leaves x0_count x0_end x0_syncedCount x0_syncedEnd g0_cells v1 e2) (cwV 0 hts ks_X2_105 rfl rfl rfl (by decide +kernel) ⟨Nat.le_of_ble_eq_true rfl, Nat.le_of_ble_eq_true rfl⟩) 0 rfl rfl [0, 1] [] rfl rfl (by decide) (by decide) (by decide) hK hE hP hD hS hA hl.1 rfl rfl (Nat.le_of_ble_eq_true rfl) dX2_nextIsSound_1 ⟨Nat.zero_le _, Nat.zero_le _⟩ (fun H locs (hP : va_P D vwCl [(h0, .inr (2, [.ref h0_cells, .ref h0_starts, .ref h0_leaves, .int x0_count, .int x0_end, .int x0_syncedCount, .int x0_syncedEnd])), (h0_cells, .inl (cA, 512, .inl g0_cells))] H) (hD : va_D A [(h0, .inr (2, [.ref h0_cells, .ref h0_starts, .ref h0_leaves, .int x0_count, .int x0_end, .int x0_syncedCount, .int x0_syncedEnd])), (h0_cells, .inl (cA, 512, .inl g0_cells))]) hS => ?_)
  refine hi_if_eq (tgt := 49) hx hb dX2_nextIsSound_4 rfl hf (fun hc hf => ?_) (fun hc hf => ?_)
  · refine lv_iconst (v := (0 : Int32)) hx hb dX2_nextIsSound_49 (by decide) ?_
    cases hf
    exact hw_rz hx hb hr hlk rfl (hP.sub [0, 1] rfl) (hD.sub [0, 1] (by decide) rfl) hS dX2_nextIsSound_50
  · refine lv_aload_n hx hb dX2_nextIsSound_7 rfl (lv_at hl 0 rfl) ?_
    obtain ⟨v3, e4, hf⟩ := hw_bind hf
    refine hw_goV (wr := []) (rest := []) ⟨hx, hb, hml, hown, hts⟩ (cLg_nextLegsAreSound l D cA cZ h0 h0_cells h0_starts h0_leaves x0_count x0_end x0_syncedCount x0_syncedEnd g0_cells v3 e4) (cwV 0 hts ks_X2_108 rfl rfl rfl (by decide +kernel) ⟨Nat.le_of_ble_eq_true rfl, Nat.le_of_ble_eq_true rfl⟩) 0 rfl rfl [0, 1] [] rfl rfl (by decide) (by decide) (by decide) hK hE hP hD hS hA hl.1 rfl rfl (Nat.le_of_ble_eq_true rfl) dX2_nextIsSound_8 ⟨Nat.zero_le _, Nat.zero_le _⟩ (fun H locs (hP : va_P D vwCl [(h0, .inr (2, [.ref h0_cells, .ref h0_starts, .ref h0_leaves, .int x0_count, .int x0_end, .int x0_syncedCount, .int x0_syncedEnd])), (h0_cells, .inl (cA, 512, .inl g0_cells))] H) (hD : va_D A [(h0, .inr (2, [.ref h0_cells, .ref h0_starts, .ref h0_leaves, .int x0_count, .int x0_end, .int x0_syncedCount, .int x0_syncedEnd])), (h0_cells, .inl (cA, 512, .inl g0_cells))]) hS => ?_)
    refine hi_if_eq (tgt := 49) hx hb dX2_nextIsSound_11 rfl hf (fun hc hf => ?_) (fun hc hf => ?_)
    · refine lv_iconst (v := (0 : Int32)) hx hb dX2_nextIsSound_49 (by decide) ?_
      cases hf
      exact hw_rz hx hb hr hlk rfl (hP.sub [0, 1] rfl) (hD.sub [0, 1] (by decide) rfl) hS dX2_nextIsSound_50
    · refine lv_aload_n hx hb dX2_nextIsSound_14 rfl (lv_at hl 0 rfl) ?_
      refine va_get (D := D) (ci := 2) (v := .ref h0_cells) (C := RX2) (T := TX2) (N := 7) hx hb hts in_X2 hown hK hP 0 rfl rfl 0 (by decide) (hts _ mw_8) (fun _ h9 => h9) rfl dX2_nextIsSound_15 ?_
      refine lv_aload_n hx hb dX2_nextIsSound_18 rfl (lv_at hl 0 rfl) ?_
      refine lv_aload_n hx hb dX2_nextIsSound_19 rfl (lv_at hl 0 rfl) ?_
      refine va_get (D := D) (ci := 2) (v := .int x0_end) (C := RX2) (T := TX2) (N := 7) hx hb hts in_X2 hown hK hP 0 rfl rfl 4 (by decide) (hts _ mw_111) (fun _ h9 => h9) rfl dX2_nextIsSound_20 ?_
      obtain ⟨v5, e6, hf⟩ := hw_bind hf
      refine hw_goV (wr := []) (rest := [.ref h0_cells]) ⟨hx, hb, hml, hown, hts⟩ (cLg_sealCell l D cA cZ h0 h0_cells h0_starts h0_leaves x0_count x0_end x0_syncedCount x0_syncedEnd g0_cells x0_end v5 e6) (cwV 1 hts ks_X2_66 rfl rfl rfl (by decide +kernel) ⟨Nat.le_of_ble_eq_true rfl, Nat.le_of_ble_eq_true rfl⟩) 0 rfl rfl [0, 1] [] rfl rfl (by decide) (by decide) (by decide) hK hE hP hD hS hA hl.1 rfl rfl (Nat.le_of_ble_eq_true rfl) dX2_nextIsSound_23 ⟨Nat.zero_le _, Nat.zero_le _⟩ (fun H locs (hP : va_P D vwCl [(h0, .inr (2, [.ref h0_cells, .ref h0_starts, .ref h0_leaves, .int x0_count, .int x0_end, .int x0_syncedCount, .int x0_syncedEnd])), (h0_cells, .inl (cA, 512, .inl g0_cells))] H) (hD : va_D A [(h0, .inr (2, [.ref h0_cells, .ref h0_starts, .ref h0_leaves, .int x0_count, .int x0_end, .int x0_syncedCount, .int x0_syncedEnd])), (h0_cells, .inl (cA, 512, .inl g0_cells))]) hS => ?_)
      obtain ⟨v7, e8, hf⟩ := hw_bind hf
      refine hw_iald hx hb hK hP 1 rfl e8 dX2_nextIsSound_26 ?_
      refine lv_aload_n hx hb dX2_nextIsSound_27 rfl (lv_at hl 0 rfl) ?_
      obtain ⟨v9, e10, hf⟩ := hw_bind hf
      refine hw_goV (wr := []) (rest := [.int v7]) ⟨hx, hb, hml, hown, hts⟩ (cLg_lastSeal l D cA cZ h0 h0_cells h0_starts h0_leaves x0_count x0_end x0_syncedCount x0_syncedEnd g0_cells v9 e10) (cwV 0 hts ks_X2_69 rfl rfl rfl (by decide +kernel) ⟨Nat.le_of_ble_eq_true rfl, Nat.le_of_ble_eq_true rfl⟩) 0 rfl rfl [0, 1] [] rfl rfl (by decide) (by decide) (by decide) hK hE hP hD hS hA hl.1 rfl rfl (Nat.le_of_ble_eq_true rfl) dX2_nextIsSound_28 ⟨Nat.zero_le _, Nat.zero_le _⟩ (fun H locs (hP : va_P D vwCl [(h0, .inr (2, [.ref h0_cells, .ref h0_starts, .ref h0_leaves, .int x0_count, .int x0_end, .int x0_syncedCount, .int x0_syncedEnd])), (h0_cells, .inl (cA, 512, .inl g0_cells))] H) (hD : va_D A [(h0, .inr (2, [.ref h0_cells, .ref h0_starts, .ref h0_leaves, .int x0_count, .int x0_end, .int x0_syncedCount, .int x0_syncedEnd])), (h0_cells, .inl (cA, 512, .inl g0_cells))]) hS => ?_)
      refine lv_aload_n hx hb dX2_nextIsSound_31 rfl (lv_at hl 0 rfl) ?_
      refine lv_aload_n hx hb dX2_nextIsSound_32 rfl (lv_at hl 0 rfl) ?_
      refine va_get (D := D) (ci := 2) (v := .int x0_end) (C := RX2) (T := TX2) (N := 7) hx hb hts in_X2 hown hK hP 0 rfl rfl 4 (by decide) (hts _ mw_111) (fun _ h9 => h9) rfl dX2_nextIsSound_33 ?_
      obtain ⟨v11, e12, hf⟩ := hw_bind hf
      refine hw_goV (wr := []) (rest := [.int v9, .int v7]) ⟨hx, hb, hml, hown, hts⟩ (cLg_leafFrom l D cA cZ h0 h0_cells h0_starts h0_leaves x0_count x0_end x0_syncedCount x0_syncedEnd g0_cells x0_end v11 e12) (cwV 1 hts ks_X2_72 rfl rfl rfl (by decide +kernel) ⟨Nat.le_of_ble_eq_true rfl, Nat.le_of_ble_eq_true rfl⟩) 0 rfl rfl [0, 1] [] rfl rfl (by decide) (by decide) (by decide) hK hE hP hD hS hA hl.1 rfl rfl (Nat.le_of_ble_eq_true rfl) dX2_nextIsSound_36 ⟨Nat.zero_le _, Nat.zero_le _⟩ (fun H locs (hP : va_P D vwCl [(h0, .inr (2, [.ref h0_cells, .ref h0_starts, .ref h0_leaves, .int x0_count, .int x0_end, .int x0_syncedCount, .int x0_syncedEnd])), (h0_cells, .inl (cA, 512, .inl g0_cells))] H) (hD : va_D A [(h0, .inr (2, [.ref h0_cells, .ref h0_starts, .ref h0_leaves, .int x0_count, .int x0_end, .int x0_syncedCount, .int x0_syncedEnd])), (h0_cells, .inl (cA, 512, .inl g0_cells))]) hS => ?_)
      obtain ⟨v13, e14, hf⟩ := hw_bind hf
      refine hw_goSN (wr := [(h0, .inr (2, [.ref h0_cells, .ref h0_starts, .ref h0_leaves, .int x0_count, .int x0_end, .int x0_syncedCount, .int x0_syncedEnd])), (h0_cells, .inl (cA, 512, .inl g0_cells))]) (rest := [.int v7]) ⟨hx, hb, hml, hown, hts⟩ (cSl_mix l D cA cZ v9 v11 v13 e14) ⟨va_cnB 2 hts ks_X2_75 rfl rfl rfl (ne_1 hE) (hts _ mw_49) (by decide +kernel) ⟨Nat.le_of_ble_eq_true rfl, Nat.le_of_ble_eq_true rfl⟩, hts _ mw_116, trivial⟩ [] [0, 1] rfl rfl (by decide) (by decide) (by decide) hK hE hP hD hS hA hl.1 rfl rfl (Nat.le_of_ble_eq_true rfl) dX2_nextIsSound_39 ⟨Nat.zero_le _, Nat.zero_le _⟩ (fun H locs (hP : va_P D vwCl [(h0, .inr (2, [.ref h0_cells, .ref h0_starts, .ref h0_leaves, .int x0_count, .int x0_end, .int x0_syncedCount, .int x0_syncedEnd])), (h0_cells, .inl (cA, 512, .inl g0_cells))] H) (hD : va_D A [(h0, .inr (2, [.ref h0_cells, .ref h0_starts, .ref h0_leaves, .int x0_count, .int x0_end, .int x0_syncedCount, .int x0_syncedEnd])), (h0_cells, .inl (cA, 512, .inl g0_cells))]) hS => ?_)
      refine hi_icmp_ne (tgt := 49) hx hb dX2_nextIsSound_42 rfl hf (fun hc hf => ?_) (fun hc hf => ?_)
      · refine lv_iconst (v := (0 : Int32)) hx hb dX2_nextIsSound_49 (by decide) ?_
        cases hf
        exact hw_rz hx hb hr hlk rfl (hP.sub [0, 1] rfl) (hD.sub [0, 1] (by decide) rfl) hS dX2_nextIsSound_50
      · refine lv_iconst (v := (1 : Int32)) hx hb dX2_nextIsSound_45 (by decide) ?_
        refine lv_goto (tgt := 50) hx hb dX2_nextIsSound_46 rfl ?_
        cases hf
        exact hw_rz hx hb hr hlk rfl (hP.sub [0, 1] rfl) (hD.sub [0, 1] (by decide) rfl) hS dX2_nextIsSound_50
set_option maxHeartbeats 4000000 in
set_option maxRecDepth 100000 in
theorem cLg_endsInBlock (l : Launch) (D : va_G) (cA cZ : ClassId) (h0 : Nat) (h0_cells : Nat) (h0_starts : Nat) (h0_leaves : Nat) (x0_count : Int32) (x0_end : Int32) (x0_syncedCount : Int32) (x0_syncedEnd : Int32) (rr : Int32) (hf : fLg_endsInBlock x0_end = some rr) : hw_C l yX2_endsInBlock wX2_endsInBlock { frames := 0, cells := 0, slots := 0, locals := 0 } D vwCl cA cZ [.ref h0] [(h0, .inr (2, [.ref h0_cells, .ref h0_starts, .ref h0_leaves, .int x0_count, .int x0_end, .int x0_syncedCount, .int x0_syncedEnd]))] [(h0, .inr (2, [.ref h0_cells, .ref h0_starts, .ref h0_leaves, .int x0_count, .int x0_end, .int x0_syncedCount, .int x0_syncedEnd]))] (some (.int rr)) := by
  refine hw_of (cc := cX2_endsInBlock) (maxL := 1) (ret := (some .boolean)) (by decide) rfl (Nat.le_of_ble_eq_true rfl) ?_
  intro p e s m args below meth c A ls hx hb hr hlk hml hown hts hA hK hE hP hD hS hl
  have hown : s.vm.findClass RX2 = some m.cls := hown
  have hl : lv_has ls 1 [(0, .ref h0)] := hl
  rw [fLg_endsInBlock] at hf
  refine lv_aload_n hx hb dX2_endsInBlock_0 rfl (lv_at hl 0 rfl) ?_
  refine va_get (D := D) (ci := 2) (v := .int x0_end) (C := RX2) (T := TX2) (N := 7) hx hb hts in_X2 hown hK hP 0 rfl rfl 4 (by decide) (hts _ mw_111) (fun _ h9 => h9) rfl dX2_endsInBlock_1 ?_
  refine lv_sipush (v := (512 : Int32)) hx hb dX2_endsInBlock_4 (by decide) ?_
  refine hi_icmp_ge (tgt := 14) hx hb dX2_endsInBlock_7 rfl hf (fun hc hf => ?_) (fun hc hf => ?_)
  · refine lv_iconst (v := (0 : Int32)) hx hb dX2_endsInBlock_14 (by decide) ?_
    cases hf
    exact hw_rz hx hb hr hlk rfl (hP.sub [0] rfl) (hD.sub [0] (by decide) rfl) hS dX2_endsInBlock_15
  · refine lv_iconst (v := (1 : Int32)) hx hb dX2_endsInBlock_10 (by decide) ?_
    refine lv_goto (tgt := 15) hx hb dX2_endsInBlock_11 rfl ?_
    cases hf
    exact hw_rz hx hb hr hlk rfl (hP.sub [0] rfl) (hD.sub [0] (by decide) rfl) hS dX2_endsInBlock_15
set_option maxHeartbeats 4000000 in
set_option maxRecDepth 100000 in
theorem cLg_syncedSize (l : Launch) (D : va_G) (cA cZ : ClassId) (h0 : Nat) (h0_cells : Nat) (h0_starts : Nat) (h0_leaves : Nat) (x0_count : Int32) (x0_end : Int32) (x0_syncedCount : Int32) (x0_syncedEnd : Int32) (rr : Int32) (hf : fLg_syncedSize x0_syncedCount = some rr) : hw_C l yX2_syncedSize wX2_syncedSize { frames := 0, cells := 0, slots := 0, locals := 0 } D vwCl cA cZ [.ref h0] [(h0, .inr (2, [.ref h0_cells, .ref h0_starts, .ref h0_leaves, .int x0_count, .int x0_end, .int x0_syncedCount, .int x0_syncedEnd]))] [(h0, .inr (2, [.ref h0_cells, .ref h0_starts, .ref h0_leaves, .int x0_count, .int x0_end, .int x0_syncedCount, .int x0_syncedEnd]))] (some (.int rr)) := by
  refine hw_of (cc := cX2_syncedSize) (maxL := 1) (ret := (some .int)) (by decide) rfl (Nat.le_of_ble_eq_true rfl) ?_
  intro p e s m args below meth c A ls hx hb hr hlk hml hown hts hA hK hE hP hD hS hl
  have hown : s.vm.findClass RX2 = some m.cls := hown
  have hl : lv_has ls 1 [(0, .ref h0)] := hl
  rw [fLg_syncedSize] at hf
  refine lv_aload_n hx hb dX2_syncedSize_0 rfl (lv_at hl 0 rfl) ?_
  refine va_get (D := D) (ci := 2) (v := .int x0_syncedCount) (C := RX2) (T := TX2) (N := 7) hx hb hts in_X2 hown hK hP 0 rfl rfl 5 (by decide) (hts _ mw_171) (fun _ h9 => h9) rfl dX2_syncedSize_1 ?_
  cases hf
  exact hw_ri hx hb hr hlk (hP.sub [0] rfl) (hD.sub [0] (by decide) rfl) hS dX2_syncedSize_4
set_option maxHeartbeats 4000000 in
set_option maxRecDepth 100000 in
theorem cLg_leafOf (l : Launch) (D : va_G) (cA cZ : ClassId) (h0 : Nat) (h0_cells : Nat) (h0_starts : Nat) (h0_leaves : Nat) (x0_count : Int32) (x0_end : Int32) (x0_syncedCount : Int32) (x0_syncedEnd : Int32) (g0_leaves : Nat → Int32) (k1 : Int32) (rr : Int32) (hf : fLg_leafOf x0_count g0_leaves k1 = some rr) : hw_C l yX2_leafOf wX2_leafOf { frames := 0, cells := 0, slots := 0, locals := 0 } D vwCl cA cZ [.ref h0, .int k1] [(h0, .inr (2, [.ref h0_cells, .ref h0_starts, .ref h0_leaves, .int x0_count, .int x0_end, .int x0_syncedCount, .int x0_syncedEnd])), (h0_leaves, .inl (cA, 73, .inl g0_leaves))] [(h0, .inr (2, [.ref h0_cells, .ref h0_starts, .ref h0_leaves, .int x0_count, .int x0_end, .int x0_syncedCount, .int x0_syncedEnd])), (h0_leaves, .inl (cA, 73, .inl g0_leaves))] (some (.int rr)) := by
  refine hw_of (cc := cX2_leafOf) (maxL := 2) (ret := (some .int)) (by decide) rfl (Nat.le_of_ble_eq_true rfl) ?_
  intro p e s m args below meth c A ls hx hb hr hlk hml hown hts hA hK hE hP hD hS hl
  have hown : s.vm.findClass RX2 = some m.cls := hown
  have hl : lv_has ls 2 [(0, .ref h0), (1, .int k1)] := hl
  rw [fLg_leafOf] at hf
  refine lv_iload_n hx hb dX2_leafOf_0 rfl (lv_at hl 1 rfl) ?_
  refine hi_if_lt (tgt := 21) hx hb dX2_leafOf_1 rfl hf (fun hc hf => ?_) (fun hc hf => ?_)
  · refine lv_iconst (v := (0 : Int32)) hx hb dX2_leafOf_21 (by decide) ?_
    cases hf
    exact hw_ri hx hb hr hlk (hP.sub [0, 1] rfl) (hD.sub [0, 1] (by decide) rfl) hS dX2_leafOf_22
  · refine lv_iload_n hx hb dX2_leafOf_4 rfl (lv_at hl 1 rfl) ?_
    refine lv_aload_n hx hb dX2_leafOf_5 rfl (lv_at hl 0 rfl) ?_
    refine va_get (D := D) (ci := 2) (v := .int x0_count) (C := RX2) (T := TX2) (N := 7) hx hb hts in_X2 hown hK hP 0 rfl rfl 3 (by decide) (hts _ mw_67) (fun _ h9 => h9) rfl dX2_leafOf_6 ?_
    refine hi_icmp_ge (tgt := 21) hx hb dX2_leafOf_9 rfl hf (fun hc hf => ?_) (fun hc hf => ?_)
    · refine lv_iconst (v := (0 : Int32)) hx hb dX2_leafOf_21 (by decide) ?_
      cases hf
      exact hw_ri hx hb hr hlk (hP.sub [0, 1] rfl) (hD.sub [0, 1] (by decide) rfl) hS dX2_leafOf_22
    · refine lv_aload_n hx hb dX2_leafOf_12 rfl (lv_at hl 0 rfl) ?_
      refine va_get (D := D) (ci := 2) (v := .ref h0_leaves) (C := RX2) (T := TX2) (N := 7) hx hb hts in_X2 hown hK hP 0 rfl rfl 2 (by decide) (hts _ mw_10) (fun _ h9 => h9) rfl dX2_leafOf_13 ?_
      refine lv_iload_n hx hb dX2_leafOf_16 rfl (lv_at hl 1 rfl) ?_
      obtain ⟨v1, e2, hf⟩ := hw_bind hf
      refine hw_iald hx hb hK hP 1 rfl e2 dX2_leafOf_17 ?_
      refine lv_goto (tgt := 22) hx hb dX2_leafOf_18 rfl ?_
      cases hf
      exact hw_ri hx hb hr hlk (hP.sub [0, 1] rfl) (hD.sub [0, 1] (by decide) rfl) hS dX2_leafOf_22
