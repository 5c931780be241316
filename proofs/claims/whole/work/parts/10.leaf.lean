set_option maxHeartbeats 4000000 in
set_option maxRecDepth 100000 in
theorem cDr_init (l : Launch) (D : va_G) (cA cZ : ClassId) (h0 : Nat) : hw_N l yX1_init wX1_init { frames := 1, cells := 2, slots := 8, locals := 12 } D vwCl cA cZ [.ref h0] [(h0, .inr (1, [.null, .null, .int 0]))] (fun u => [(h0, .inr (1, [.ref (u 0), .ref (u 1), .int 0])), ((u 0), .inl (cA, 4, .inl (fun _ => 0))), ((u 1), .inl (cA, 4, .inl (fun _ => 0)))]) none 2 8 := by
  refine hw_ofN (cc := cX1_init) (maxL := 1) (ret := none) (by decide) rfl (Nat.le_of_ble_eq_true rfl) ?_
  intro p e s m args below meth c A ls hx hb hr hlk hml hown hin hts hA hK hE hP hD hS hl
  have hown : s.vm.findClass RX1 = some m.cls := hown
  have hin : meth.name = "<init>" := hin
  have hl : lv_has ls 1 [(0, .ref h0)] := hl
  refine lv_aload_n hx hb dX1_init_0 rfl (lv_at hl 0 rfl) ?_
  refine W.objInit hx hb hown (hts _ mw_0) (hts _ mw_1) (hts _ mw_2) rfl (by rw [hml]; exact hl.1) rfl dX1_init_1 (Nat.le_of_ble_eq_true rfl) (Nat.le_of_ble_eq_true rfl) ?_
  refine W.eq (g2 := F0 m 4 ls []) rfl ?_
  refine lv_aload_n hx hb dX1_init_4 rfl (lv_at hl 0 rfl) ?_
  refine lv_iconst (v := (4 : Int32)) hx hb dX1_init_5 (by decide) ?_
  refine hw_newa (atype := .int) hx hb (hts _ mw_3) rfl hK hP hD hS hA 4 (by decide) (by decide) (by decide) (Nat.le_of_ble_eq_true rfl) (Nat.le_of_ble_eq_true rfl) dX1_init_6 (fun z6 H (hP : va_P D vwCl [(h0, .inr (1, [.null, .null, .int 0])), (z6, .inl (cA, 4, .inl (fun _ => 0)))] H) (hD : va_D A [(h0, .inr (1, [.null, .null, .int 0])), (z6, .inl (cA, 4, .inl (fun _ => 0)))]) hS => ?_)
  refine va_putF (D := D) (ci := 1) (v := .ref z6) (ty := .array .int) (C := RX1) (T := TX1) (N := 3) hx hb hts in_X1 tyX1 tyX1_ok nX1 hown hK hP hD hS 0 rfl rfl 0 (by decide) (hts _ mw_4) (fun _ h9 => h9) rfl hin rfl (by decide +kernel) rfl rfl (Nat.le_of_ble_eq_true rfl) dX1_init_8 (fun H locs (hP : va_P D vwCl [(h0, .inr (1, [.ref z6, .null, .int 0])), (z6, .inl (cA, 4, .inl (fun _ => 0)))] H) (hD : va_D A [(h0, .inr (1, [.ref z6, .null, .int 0])), (z6, .inl (cA, 4, .inl (fun _ => 0)))]) hS => ?_)
  refine lv_aload_n hx hb dX1_init_11 rfl (lv_at hl 0 rfl) ?_
  refine lv_iconst (v := (4 : Int32)) hx hb dX1_init_12 (by decide) ?_
  refine hw_newa (atype := .int) hx hb (hts _ mw_3) rfl hK hP hD hS hA 4 (by decide) (by decide) (by decide) (Nat.le_of_ble_eq_true rfl) (Nat.le_of_ble_eq_true rfl) dX1_init_13 (fun z13 H (hP : va_P D vwCl [(h0, .inr (1, [.ref z6, .null, .int 0])), (z6, .inl (cA, 4, .inl (fun _ => 0))), (z13, .inl (cA, 4, .inl (fun _ => 0)))] H) (hD : va_D A [(h0, .inr (1, [.ref z6, .null, .int 0])), (z6, .inl (cA, 4, .inl (fun _ => 0))), (z13, .inl (cA, 4, .inl (fun _ => 0)))]) hS => ?_)
  refine va_putF (D := D) (ci := 1) (v := .ref z13) (ty := .array .int) (C := RX1) (T := TX1) (N := 3) hx hb hts in_X1 tyX1 tyX1_ok nX1 hown hK hP hD hS 0 rfl rfl 1 (by decide) (hts _ mw_5) (fun _ h9 => h9) rfl hin rfl (by decide +kernel) rfl rfl (Nat.le_of_ble_eq_true rfl) dX1_init_15 (fun H locs (hP : va_P D vwCl [(h0, .inr (1, [.ref z6, .ref z13, .int 0])), (z6, .inl (cA, 4, .inl (fun _ => 0))), (z13, .inl (cA, 4, .inl (fun _ => 0)))] H) (hD : va_D A [(h0, .inr (1, [.ref z6, .ref z13, .int 0])), (z6, .inl (cA, 4, .inl (fun _ => 0))), (z13, .inl (cA, 4, .inl (fun _ => 0)))]) hS => ?_)
  exact hw_rvN (fun k => [z6, z13].getD k 0) hx hb hr hlk (hP.sub [0, 1, 2] rfl) (hD.sub [0, 1, 2] (by decide) rfl) hS dX1_init_18
set_option maxHeartbeats 4000000 in
set_option maxRecDepth 100000 in
theorem cSl_isAccount (l : Launch) (D : va_G) (cA cZ : ClassId) (k0 : Int32) (rr : Int32) (hf : fSl_isAccount k0 = some rr) : hw_C l yX5_isAccount wX5_isAccount { frames := 0, cells := 0, slots := 0, locals := 0 } D vwCl cA cZ [.int k0] [] [] (some (.int rr)) := by
  refine hw_of (cc := cX5_isAccount) (maxL := 1) (ret := (some .boolean)) (by decide) rfl (Nat.le_of_ble_eq_true rfl) ?_
  intro p e s m args below meth c A ls hx hb hr hlk hml hown hts hA hK hE hP hD hS hl
  have hown : s.vm.findClass RX5 = some m.cls := hown
  have hl : lv_has ls 1 [(0, .int k0)] := hl
  rw [fSl_isAccount] at hf
  refine lv_iload_n hx hb dX5_isAccount_0 rfl (lv_at hl 0 rfl) ?_
  refine hi_if_lt (tgt := 14) hx hb dX5_isAccount_1 rfl hf (fun hc hf => ?_) (fun hc hf => ?_)
  · refine lv_iconst (v := (0 : Int32)) hx hb dX5_isAccount_14 (by decide) ?_
    cases hf
    exact hw_rz hx hb hr hlk rfl (hP.sub [] rfl) (hD.sub [] (by decide) rfl) hS dX5_isAccount_15
  · refine lv_iload_n hx hb dX5_isAccount_4 rfl (lv_at hl 0 rfl) ?_
    refine lv_bipush (v := (8 : Int32)) hx hb dX5_isAccount_5 (by decide) ?_
    refine hi_icmp_ge (tgt := 14) hx hb dX5_isAccount_7 rfl hf (fun hc hf => ?_) (fun hc hf => ?_)
    · refine lv_iconst (v := (0 : Int32)) hx hb dX5_isAccount_14 (by decide) ?_
      cases hf
      exact hw_rz hx hb hr hlk rfl (hP.sub [] rfl) (hD.sub [] (by decide) rfl) hS dX5_isAccount_15
    · refine lv_iconst (v := (1 : Int32)) hx hb dX5_isAccount_10 (by decide) ?_
      refine lv_goto (tgt := 15) hx hb dX5_isAccount_11 rfl ?_
      cases hf
      exact hw_rz hx hb hr hlk rfl (hP.sub [] rfl) (hD.sub [] (by decide) rfl) hS dX5_isAccount_15
set_option maxHeartbeats 4000000 in
set_option maxRecDepth 100000 in
theorem cSl_isAmount (l : Launch) (D : va_G) (cA cZ : ClassId) (k0 : Int32) (rr : Int32) (hf : fSl_isAmount k0 = some rr) : hw_C l yX5_isAmount wX5_isAmount { frames := 0, cells := 0, slots := 0, locals := 0 } D vwCl cA cZ [.int k0] [] [] (some (.int rr)) := by
  refine hw_of (cc := cX5_isAmount) (maxL := 1) (ret := (some .boolean)) (by decide) rfl (Nat.le_of_ble_eq_true rfl) ?_
  intro p e s m args below meth c A ls hx hb hr hlk hml hown hts hA hK hE hP hD hS hl
  have hown : s.vm.findClass RX5 = some m.cls := hown
  have hl : lv_has ls 1 [(0, .int k0)] := hl
  rw [fSl_isAmount] at hf
  refine lv_iload_n hx hb dX5_isAmount_0 rfl (lv_at hl 0 rfl) ?_
  refine lv_sipush (v := (-9999 : Int32)) hx hb dX5_isAmount_1 (by decide) ?_
  refine hi_icmp_lt (tgt := 18) hx hb dX5_isAmount_4 rfl hf (fun hc hf => ?_) (fun hc hf => ?_)
  · refine lv_iconst (v := (0 : Int32)) hx hb dX5_isAmount_18 (by decide) ?_
    cases hf
    exact hw_rz hx hb hr hlk rfl (hP.sub [] rfl) (hD.sub [] (by decide) rfl) hS dX5_isAmount_19
  · refine lv_iload_n hx hb dX5_isAmount_7 rfl (lv_at hl 0 rfl) ?_
    refine lv_sipush (v := (9999 : Int32)) hx hb dX5_isAmount_8 (by decide) ?_
    refine hi_icmp_gt (tgt := 18) hx hb dX5_isAmount_11 rfl hf (fun hc hf => ?_) (fun hc hf => ?_)
    · refine lv_iconst (v := (0 : Int32)) hx hb dX5_isAmount_18 (by decide) ?_
      cases hf
      exact hw_rz hx hb hr hlk rfl (hP.sub [] rfl) (hD.sub [] (by decide) rfl) hS dX5_isAmount_19
    · refine lv_iconst (v := (1 : Int32)) hx hb dX5_isAmount_14 (by decide) ?_
      refine lv_goto (tgt := 19) hx hb dX5_isAmount_15 rfl ?_
      cases hf
      exact hw_rz hx hb hr hlk rfl (hP.sub [] rfl) (hD.sub [] (by decide) rfl) hS dX5_isAmount_19
set_option maxHeartbeats 4000000 in
set_option maxRecDepth 100000 in
theorem cDr_add (l : Launch) (D : va_G) (cA cZ : ClassId) (h0 : Nat) (h0_accounts : Nat) (h0_amounts : Nat) (x0_count : Int32) (g0_accounts : Nat → Int32) (g0_amounts : Nat → Int32) (k1 : Int32) (k2 : Int32) (rr : Int32) (ox0_count : Int32) (og0_accounts : Nat → Int32) (og0_amounts : Nat → Int32) (hf : fDr_add x0_count g0_accounts g0_amounts k1 k2 = some (rr, ox0_count, og0_accounts, og0_amounts)) : hw_C l yX1_add wX1_add { frames := 0, cells := 0, slots := 0, locals := 0 } D vwCl cA cZ [.ref h0, .int k1, .int k2] [(h0, .inr (1, [.ref h0_accounts, .ref h0_amounts, .int x0_count])), (h0_accounts, .inl (cA, 4, .inl g0_accounts)), (h0_amounts, .inl (cA, 4, .inl g0_amounts))] [(h0, .inr (1, [.ref h0_accounts, .ref h0_amounts, .int ox0_count])), (h0_accounts, .inl (cA, 4, .inl og0_accounts)), (h0_amounts, .inl (cA, 4, .inl og0_amounts))] (some (.int rr)) := by
  refine hw_of (cc := cX1_add) (maxL := 3) (ret := (some .boolean)) (by decide) rfl (Nat.le_of_ble_eq_true rfl) ?_
  intro p e s m args below meth c A ls hx hb hr hlk hml hown hts hA hK hE hP hD hS hl
  have hown : s.vm.findClass RX1 = some m.cls := hown
  have hl : lv_has ls 3 [(0, .ref h0), (1, .int k1), (2, .int k2)] := hl
  rw [fDr_add] at hf
  refine lv_aload_n hx hb dX1_add_0 rfl (lv_at hl 0 rfl) ?_
  refine va_get (D := D) (ci := 1) (v := .int x0_count) (C := RX1) (T := TX1) (N := 3) hx hb hts in_X1 hown hK hP 0 rfl rfl 2 (by decide) (hts _ mw_53) (fun _ h9 => h9) rfl dX1_add_1 ?_
  refine lv_iconst (v := (4 : Int32)) hx hb dX1_add_4 (by decide) ?_
  refine hi_icmp_lt (tgt := 10) hx hb dX1_add_5 rfl hf (fun hc hf => ?_) (fun hc hf => ?_)
  · refine lv_aload_n hx hb dX1_add_10 rfl (lv_at hl 0 rfl) ?_
    refine va_get (D := D) (ci := 1) (v := .ref h0_accounts) (C := RX1) (T := TX1) (N := 3) hx hb hts in_X1 hown hK hP 0 rfl rfl 0 (by decide) (hts _ mw_4) (fun _ h9 => h9) rfl dX1_add_11 ?_
    refine lv_aload_n hx hb dX1_add_14 rfl (lv_at hl 0 rfl) ?_
    refine va_get (D := D) (ci := 1) (v := .int x0_count) (C := RX1) (T := TX1) (N := 3) hx hb hts in_X1 hown hK hP 0 rfl rfl 2 (by decide) (hts _ mw_53) (fun _ h9 => h9) rfl dX1_add_15 ?_
    refine lv_iload_n hx hb dX1_add_18 rfl (lv_at hl 1 rfl) ?_
    obtain ⟨u1, e2, hf⟩ := hw_bind hf
    refine hw_iast hx hb hK hP hD hS 1 rfl e2 dX1_add_19 (fun H locs (hP : va_P D vwCl [(h0, .inr (1, [.ref h0_accounts, .ref h0_amounts, .int x0_count])), (h0_accounts, .inl (cA, 4, .inl u1)), (h0_amounts, .inl (cA, 4, .inl g0_amounts))] H) (hD : va_D A [(h0, .inr (1, [.ref h0_accounts, .ref h0_amounts, .int x0_count])), (h0_accounts, .inl (cA, 4, .inl u1)), (h0_amounts, .inl (cA, 4, .inl g0_amounts))]) hS => ?_)
    refine lv_aload_n hx hb dX1_add_20 rfl (lv_at hl 0 rfl) ?_
    refine va_get (D := D) (ci := 1) (v := .ref h0_amounts) (C := RX1) (T := TX1) (N := 3) hx hb hts in_X1 hown hK hP 0 rfl rfl 1 (by decide) (hts _ mw_5) (fun _ h9 => h9) rfl dX1_add_21 ?_
    refine lv_aload_n hx hb dX1_add_24 rfl (lv_at hl 0 rfl) ?_
    refine va_get (D := D) (ci := 1) (v := .int x0_count) (C := RX1) (T := TX1) (N := 3) hx hb hts in_X1 hown hK hP 0 rfl rfl 2 (by decide) (hts _ mw_53) (fun _ h9 => h9) rfl dX1_add_25 ?_
    refine lv_iload_n hx hb dX1_add_28 rfl (lv_at hl 2 rfl) ?_
    obtain ⟨u3, e4, hf⟩ := hw_bind hf
    refine hw_iast hx hb hK hP hD hS 2 rfl e4 dX1_add_29 (fun H locs (hP : va_P D vwCl [(h0, .inr (1, [.ref h0_accounts, .ref h0_amounts, .int x0_count])), (h0_accounts, .inl (cA, 4, .inl u1)), (h0_amounts, .inl (cA, 4, .inl u3))] H) (hD : va_D A [(h0, .inr (1, [.ref h0_accounts, .ref h0_amounts, .int x0_count])), (h0_accounts, .inl (cA, 4, .inl u1)), (h0_amounts, .inl (cA, 4, .inl u3))]) hS => ?_)
    refine lv_aload_n hx hb dX1_add_30 rfl (lv_at hl 0 rfl) ?_
    refine lv_dup hx hb dX1_add_31 rfl ?_
    refine va_get (D := D) (ci := 1) (v := .int x0_count) (C := RX1) (T := TX1) (N := 3) hx hb hts in_X1 hown hK hP 0 rfl rfl 2 (by decide) (hts _ mw_53) (fun _ h9 => h9) rfl dX1_add_32 ?_
    refine lv_iconst (v := (1 : Int32)) hx hb dX1_add_35 (by decide) ?_
    refine lv_iadd hx hb dX1_add_36 ?_
    refine va_put (D := D) (ci := 1) (v := .int (x0_count + (1 : Int32))) (ty := .int) (C := RX1) (T := TX1) (N := 3) hx hb hts in_X1 tyX1 tyX1_ok nX1 hown hK hP hD hS 0 rfl rfl 2 (by decide) (hts _ mw_53) (fun _ h9 => h9) rfl (by decide +kernel) rfl rfl (Nat.le_of_ble_eq_true rfl) dX1_add_37 (fun H locs (hP : va_P D vwCl [(h0, .inr (1, [.ref h0_accounts, .ref h0_amounts, .int (x0_count + (1 : Int32))])), (h0_accounts, .inl (cA, 4, .inl u1)), (h0_amounts, .inl (cA, 4, .inl u3))] H) (hD : va_D A [(h0, .inr (1, [.ref h0_accounts, .ref h0_amounts, .int (x0_count + (1 : Int32))])), (h0_accounts, .inl (cA, 4, .inl u1)), (h0_amounts, .inl (cA, 4, .inl u3))]) hS => ?_)
    refine lv_iconst (v := (1 : Int32)) hx hb dX1_add_40 (by decide) ?_
    cases hf
    exact hw_rz hx hb hr hlk rfl (hP.sub [0, 1, 2] rfl) (hD.sub [0, 1, 2] (by decide) rfl) hS dX1_add_41
  · refine lv_iconst (v := (0 : Int32)) hx hb dX1_add_8 (by decide) ?_
    cases hf
    exact hw_rz hx hb hr hlk rfl (hP.sub [0, 1, 2] rfl) (hD.sub [0, 1, 2] (by decide) rfl) hS dX1_add_9
set_option maxHeartbeats 4000000 in
set_option maxRecDepth 100000 in
theorem cDr_clear (l : Launch) (D : va_G) (cA cZ : ClassId) (h0 : Nat) (h0_accounts : Nat) (h0_amounts : Nat) (x0_count : Int32) (ox0_count : Int32) (hf : fDr_clear x0_count = some ox0_count) : hw_C l yX1_clear wX1_clear { frames := 0, cells := 0, slots := 0, locals := 0 } D vwCl cA cZ [.ref h0] [(h0, .inr (1, [.ref h0_accounts, .ref h0_amounts, .int x0_count]))] [(h0, .inr (1, [.ref h0_accounts, .ref h0_amounts, .int ox0_count]))] none := by
  refine hw_of (cc := cX1_clear) (maxL := 1) (ret := none) (by decide) rfl (Nat.le_of_ble_eq_true rfl) ?_
  intro p e s m args below meth c A ls hx hb hr hlk hml hown hts hA hK hE hP hD hS hl
  have hown : s.vm.findClass RX1 = some m.cls := hown
  have hl : lv_has ls 1 [(0, .ref h0)] := hl
  rw [fDr_clear] at hf
  refine lv_aload_n hx hb dX1_clear_0 rfl (lv_at hl 0 rfl) ?_
  refine lv_iconst (v := (0 : Int32)) hx hb dX1_clear_1 (by decide) ?_
  refine va_put (D := D) (ci := 1) (v := .int (0 : Int32)) (ty := .int) (C := RX1) (T := TX1) (N := 3) hx hb hts in_X1 tyX1 tyX1_ok nX1 hown hK hP hD hS 0 rfl rfl 2 (by decide) (hts _ mw_53) (fun _ h9 => h9) rfl (by decide +kernel) rfl rfl (Nat.le_of_ble_eq_true rfl) dX1_clear_2 (fun H locs (hP : va_P D vwCl [(h0, .inr (1, [.ref h0_accounts, .ref h0_amounts, .int (0 : Int32)]))] H) (hD : va_D A [(h0, .inr (1, [.ref h0_accounts, .ref h0_amounts, .int (0 : Int32)]))]) hS => ?_)
  cases hf
  exact hw_rv hx hb hr hlk (hP.sub [0] rfl) (hD.sub [0] (by decide) rfl) hS dX1_clear_5
set_option maxHeartbeats 4000000 in
set_option maxRecDepth 100000 in
theorem cDr_isEven (l : Launch) (D : va_G) (cA cZ : ClassId) (h0 : Nat) (h0_accounts : Nat) (h0_amounts : Nat) (x0_count : Int32) (g0_amounts : Nat → Int32) (rr : Int32) (hf : fDr_isEven x0_count g0_amounts = some rr) : hw_C l yX1_isEven wX1_isEven { frames := 0, cells := 0, slots := 0, locals := 0 } D vwCl cA cZ [.ref h0] [(h0, .inr (1, [.ref h0_accounts, .ref h0_amounts, .int x0_count])), (h0_amounts, .inl (cA, 4, .inl g0_amounts))] [(h0, .inr (1, [.ref h0_accounts, .ref h0_amounts, .int x0_count])), (h0_amounts, .inl (cA, 4, .inl g0_amounts))] (some (.int rr)) := by
  refine hw_of (cc := cX1_isEven) (maxL := 3) (ret := (some .boolean)) (by decide) rfl (Nat.le_of_ble_eq_true rfl) ?_
  intro p e s m args below meth c A ls hx hb hr hlk hml hown hts hA hK hE hP hD hS hl
  have hown : s.vm.findClass RX1 = some m.cls := hown
  have hl : lv_has ls 3 [(0, .ref h0)] := hl
  have L4 : ∀ (n4 : Nat) (ls : Array Slot) (H : Heap) (locs : List Loc) (k1 : Int32) (k2 : Int32), lv_has ls 3 [(0, .ref h0), (1, .int k1), (2, .int k2)] → va_P D vwCl [(h0, .inr (1, [.ref h0_accounts, .ref h0_amounts, .int x0_count])), (h0_amounts, .inl (cA, 4, .inl g0_amounts))] H → va_D A [(h0, .inr (1, [.ref h0_accounts, .ref h0_amounts, .int x0_count])), (h0_amounts, .inl (cA, 4, .inl g0_amounts))] → va_S A s.heap H locs → fDr_isEven_L4 x0_count g0_amounts n4 k1 k2 = some rr → W p l e { frames := 0, cells := 0, slots := 0, locals := 0 } s m args below meth c H locs 0 0 (hw_Z below args s D vwCl A [(h0, .inr (1, [.ref h0_accounts, .ref h0_amounts, .int x0_count])), (h0_amounts, .inl (cA, 4, .inl g0_amounts))] (some (.int rr))) (F0 m 4 ls []) := by
    intro n4
    induction n4 with
    | zero => intro ls H locs k1 k2 hl hP hD hS hf; simp only [fDr_isEven_L4] at hf; cases hf
    | succ n4 ih4 =>
      intro ls H locs k1 k2 hl hP hD hS hf
      rw [fDr_isEven_L4] at hf
      refine lv_iload_n hx hb dX1_isEven_4 rfl (lv_at hl 2 rfl) ?_
      refine lv_aload_n hx hb dX1_isEven_5 rfl (lv_at hl 0 rfl) ?_
      refine va_get (D := D) (ci := 1) (v := .int x0_count) (C := RX1) (T := TX1) (N := 3) hx hb hts in_X1 hown hK hP 0 rfl rfl 2 (by decide) (hts _ mw_53) (fun _ h9 => h9) rfl dX1_isEven_6 ?_
      refine hi_icmp_ge (tgt := 27) hx hb dX1_isEven_9 rfl hf (fun hc hf => ?_) (fun hc hf => ?_)
      · refine lv_aload_n hx hb dX1_isEven_27 rfl (lv_at hl 0 rfl) ?_
        refine va_get (D := D) (ci := 1) (v := .int x0_count) (C := RX1) (T := TX1) (N := 3) hx hb hts in_X1 hown hK hP 0 rfl rfl 2 (by decide) (hts _ mw_53) (fun _ h9 => h9) rfl dX1_isEven_28 ?_
        refine lv_iconst (v := (2 : Int32)) hx hb dX1_isEven_31 (by decide) ?_
        refine hi_icmp_lt (tgt := 43) hx hb dX1_isEven_32 rfl hf (fun hc hf => ?_) (fun hc hf => ?_)
        · refine lv_iconst (v := (0 : Int32)) hx hb dX1_isEven_43 (by decide) ?_
          cases hf
          exact hw_rz hx hb hr hlk rfl (hP.sub [0, 1] rfl) (hD.sub [0, 1] (by decide) rfl) hS dX1_isEven_44
        · refine lv_iload_n hx hb dX1_isEven_35 rfl (lv_at hl 1 rfl) ?_
          refine hi_if_ne (tgt := 43) hx hb dX1_isEven_36 rfl hf (fun hc hf => ?_) (fun hc hf => ?_)
          · refine lv_iconst (v := (0 : Int32)) hx hb dX1_isEven_43 (by decide) ?_
            cases hf
            exact hw_rz hx hb hr hlk rfl (hP.sub [0, 1] rfl) (hD.sub [0, 1] (by decide) rfl) hS dX1_isEven_44
          · refine lv_iconst (v := (1 : Int32)) hx hb dX1_isEven_39 (by decide) ?_
            refine lv_goto (tgt := 44) hx hb dX1_isEven_40 rfl ?_
            cases hf
            exact hw_rz hx hb hr hlk rfl (hP.sub [0, 1] rfl) (hD.sub [0, 1] (by decide) rfl) hS dX1_isEven_44
      · refine lv_iload_n hx hb dX1_isEven_12 rfl (lv_at hl 1 rfl) ?_
        refine lv_aload_n hx hb dX1_isEven_13 rfl (lv_at hl 0 rfl) ?_
        refine va_get (D := D) (ci := 1) (v := .ref h0_amounts) (C := RX1) (T := TX1) (N := 3) hx hb hts in_X1 hown hK hP 0 rfl rfl 1 (by decide) (hts _ mw_5) (fun _ h9 => h9) rfl dX1_isEven_14 ?_
        refine lv_iload_n hx hb dX1_isEven_17 rfl (lv_at hl 2 rfl) ?_
        obtain ⟨v1, e2, hf⟩ := hw_bind hf
        refine hw_iald hx hb hK hP 1 rfl e2 dX1_isEven_18 ?_
        refine lv_iadd hx hb dX1_isEven_19 ?_
        refine lv_istore_n (lv' := [(1, .int (k1 + v1)), (0, .ref h0), (2, .int k2)]) hx hb dX1_isEven_20 rfl hl (by decide) rfl (fun ls hl => ?_)
        refine lv_iinc (v := k2 + (1 : Int32)) (lv' := [(2, .int (k2 + (1 : Int32))), (1, .int (k1 + v1)), (0, .ref h0)]) hx hb dX1_isEven_21 hl (k := 2) rfl (congrArg (fun z => k2 + z) (by decide)) (by decide) rfl (fun ls hl => ?_)
        refine lv_goto (tgt := 4) hx hb dX1_isEven_24 rfl ?_
        exact ih4 _ _ _ (k1 + v1) (k2 + (1 : Int32)) (lv_sub hl [2, 1, 0] rfl) (hP.sub [0, 1] rfl) (hD.sub [0, 1] (by decide) rfl) hS hf
  rw [fDr_isEven] at hf
  refine lv_iconst (v := (0 : Int32)) hx hb dX1_isEven_0 (by decide) ?_
  refine lv_istore_n (lv' := [(1, .int (0 : Int32)), (0, .ref h0)]) hx hb dX1_isEven_1 rfl hl (by decide) rfl (fun ls hl => ?_)
  refine lv_iconst (v := (0 : Int32)) hx hb dX1_isEven_2 (by decide) ?_
  refine lv_istore_n (lv' := [(2, .int (0 : Int32)), (1, .int (0 : Int32)), (0, .ref h0)]) hx hb dX1_isEven_3 rfl hl (by decide) rfl (fun ls hl => ?_)
  exact L4 600 _ _ _ (0 : Int32) (0 : Int32) (lv_sub hl [2, 1, 0] rfl) (hP.sub [0, 1] rfl) (hD.sub [0, 1] (by decide) rfl) hS hf
set_option maxHeartbeats 4000000 in
set_option maxRecDepth 100000 in
theorem cDr_size (l : Launch) (D : va_G) (cA cZ : ClassId) (h0 : Nat) (h0_accounts : Nat) (h0_amounts : Nat) (x0_count : Int32) (rr : Int32) (hf : fDr_size x0_count = some rr) : hw_C l yX1_size wX1_size { frames := 0, cells := 0, slots := 0, locals := 0 } D vwCl cA cZ [.ref h0] [(h0, .inr (1, [.ref h0_accounts, .ref h0_amounts, .int x0_count]))] [(h0, .inr (1, [.ref h0_accounts, .ref h0_amounts, .int x0_count]))] (some (.int rr)) := by
  refine hw_of (cc := cX1_size) (maxL := 1) (ret := (some .int)) (by decide) rfl (Nat.le_of_ble_eq_true rfl) ?_
  intro p e s m args below meth c A ls hx hb hr hlk hml hown hts hA hK hE hP hD hS hl
  have hown : s.vm.findClass RX1 = some m.cls := hown
  have hl : lv_has ls 1 [(0, .ref h0)] := hl
  rw [fDr_size] at hf
  refine lv_aload_n hx hb dX1_size_0 rfl (lv_at hl 0 rfl) ?_
  refine va_get (D := D) (ci := 1) (v := .int x0_count) (C := RX1) (T := TX1) (N := 3) hx hb hts in_X1 hown hK hP 0 rfl rfl 2 (by decide) (hts _ mw_53) (fun _ h9 => h9) rfl dX1_size_1 ?_
  cases hf
  exact hw_ri hx hb hr hlk (hP.sub [0] rfl) (hD.sub [0] (by decide) rfl) hS dX1_size_4
set_option maxHeartbeats 4000000 in
set_option maxRecDepth 100000 in
theorem cDr_accountAt (l : Launch) (D : va_G) (cA cZ : ClassId) (h0 : Nat) (h0_accounts : Nat) (h0_amounts : Nat) (x0_count : Int32) (g0_accounts : Nat → Int32) (k1 : Int32) (rr : Int32) (hf : fDr_accountAt x0_count g0_accounts k1 = some rr) : hw_C l yX1_accountAt wX1_accountAt { frames := 0, cells := 0, slots := 0, locals := 0 } D vwCl cA cZ [.ref h0, .int k1] [(h0, .inr (1, [.ref h0_accounts, .ref h0_amounts, .int x0_count])), (h0_accounts, .inl (cA, 4, .inl g0_accounts))] [(h0, .inr (1, [.ref h0_accounts, .ref h0_amounts, .int x0_count])), (h0_accounts, .inl (cA, 4, .inl g0_accounts))] (some (.int rr)) := by
  refine hw_of (cc := cX1_accountAt) (maxL := 2) (ret := (some .int)) (by decide) rfl (Nat.le_of_ble_eq_true rfl) ?_
  intro p e s m args below meth c A ls hx hb hr hlk hml hown hts hA hK hE hP hD hS hl
  have hown : s.vm.findClass RX1 = some m.cls := hown
  have hl : lv_has ls 2 [(0, .ref h0), (1, .int k1)] := hl
  rw [fDr_accountAt] at hf
  refine lv_iload_n hx hb dX1_accountAt_0 rfl (lv_at hl 1 rfl) ?_
  refine hi_if_lt (tgt := 21) hx hb dX1_accountAt_1 rfl hf (fun hc hf => ?_) (fun hc hf => ?_)
  · refine lv_iconst (v := (0 : Int32)) hx hb dX1_accountAt_21 (by decide) ?_
    cases hf
    exact hw_ri hx hb hr hlk (hP.sub [0, 1] rfl) (hD.sub [0, 1] (by decide) rfl) hS dX1_accountAt_22
  · refine lv_iload_n hx hb dX1_accountAt_4 rfl (lv_at hl 1 rfl) ?_
    refine lv_aload_n hx hb dX1_accountAt_5 rfl (lv_at hl 0 rfl) ?_
    refine va_get (D := D) (ci := 1) (v := .int x0_count) (C := RX1) (T := TX1) (N := 3) hx hb hts in_X1 hown hK hP 0 rfl rfl 2 (by decide) (hts _ mw_53) (fun _ h9 => h9) rfl dX1_accountAt_6 ?_
    refine hi_icmp_ge (tgt := 21) hx hb dX1_accountAt_9 rfl hf (fun hc hf => ?_) (fun hc hf => ?_)
    · refine lv_iconst (v := (0 : Int32)) hx hb dX1_accountAt_21 (by decide) ?_
      cases hf
      exact hw_ri hx hb hr hlk (hP.sub [0, 1] rfl) (hD.sub [0, 1] (by decide) rfl) hS dX1_accountAt_22
    · refine lv_aload_n hx hb dX1_accountAt_12 rfl (lv_at hl 0 rfl) ?_
      refine va_get (D := D) (ci := 1) (v := .ref h0_accounts) (C := RX1) (T := TX1) (N := 3) hx hb hts in_X1 hown hK hP 0 rfl rfl 0 (by decide) (hts _ mw_4) (fun _ h9 => h9) rfl dX1_accountAt_13 ?_
      refine lv_iload_n hx hb dX1_accountAt_16 rfl (lv_at hl 1 rfl) ?_
      obtain ⟨v1, e2, hf⟩ := hw_bind hf
      refine hw_iald hx hb hK hP 1 rfl e2 dX1_accountAt_17 ?_
      refine lv_goto (tgt := 22) hx hb dX1_accountAt_18 rfl ?_
      cases hf
      exact hw_ri hx hb hr hlk (hP.sub [0, 1] rfl) (hD.sub [0, 1] (by decide) rfl) hS dX1_accountAt_22
set_option maxHeartbeats 4000000 in
set_option maxRecDepth 100000 in
theorem cDr_change (l : Launch) (D : va_G) (cA cZ : ClassId) (h0 : Nat) (h0_accounts : Nat) (h0_amounts : Nat) (x0_count : Int32) (g0_accounts : Nat → Int32) (g0_amounts : Nat → Int32) (k1 : Int32) (rr : Int32) (hf : fDr_change x0_count g0_accounts g0_amounts k1 = some rr) : hw_C l yX1_change wX1_change { frames := 0, cells := 0, slots := 0, locals := 0 } D vwCl cA cZ [.ref h0, .int k1] [(h0, .inr (1, [.ref h0_accounts, .ref h0_amounts, .int x0_count])), (h0_accounts, .inl (cA, 4, .inl g0_accounts)), (h0_amounts, .inl (cA, 4, .inl g0_amounts))] [(h0, .inr (1, [.ref h0_accounts, .ref h0_amounts, .int x0_count])), (h0_accounts, .inl (cA, 4, .inl g0_accounts)), (h0_amounts, .inl (cA, 4, .inl g0_amounts))] (some (.int rr)) := by
  refine hw_of (cc := cX1_change) (maxL := 4) (ret := (some .int)) (by decide) rfl (Nat.le_of_ble_eq_true rfl) ?_
  intro p e s m args below meth c A ls hx hb hr hlk hml hown hts hA hK hE hP hD hS hl
  have hown : s.vm.findClass RX1 = some m.cls := hown
  have hl : lv_has ls 4 [(0, .ref h0), (1, .int k1)] := hl
  have L4 : ∀ (n4 : Nat) (ls : Array Slot) (H : Heap) (locs : List Loc) (k1 : Int32) (k2 : Int32) (k3 : Int32), lv_has ls 4 [(0, .ref h0), (1, .int k1), (2, .int k2), (3, .int k3)] → va_P D vwCl [(h0, .inr (1, [.ref h0_accounts, .ref h0_amounts, .int x0_count])), (h0_accounts, .inl (cA, 4, .inl g0_accounts)), (h0_amounts, .inl (cA, 4, .inl g0_amounts))] H → va_D A [(h0, .inr (1, [.ref h0_accounts, .ref h0_amounts, .int x0_count])), (h0_accounts, .inl (cA, 4, .inl g0_accounts)), (h0_amounts, .inl (cA, 4, .inl g0_amounts))] → va_S A s.heap H locs → fDr_change_L4 x0_count g0_accounts g0_amounts k1 n4 k2 k3 = some rr → W p l e { frames := 0, cells := 0, slots := 0, locals := 0 } s m args below meth c H locs 0 0 (hw_Z below args s D vwCl A [(h0, .inr (1, [.ref h0_accounts, .ref h0_amounts, .int x0_count])), (h0_accounts, .inl (cA, 4, .inl g0_accounts)), (h0_amounts, .inl (cA, 4, .inl g0_amounts))] (some (.int rr))) (F0 m 4 ls []) := by
    intro n4
    induction n4 with
    | zero => intro ls H locs k1 k2 k3 hl hP hD hS hf; simp only [fDr_change_L4] at hf; cases hf
    | succ n4 ih4 =>
      intro ls H locs k1 k2 k3 hl hP hD hS hf
      rw [fDr_change_L4] at hf
      refine lv_iload_n hx hb dX1_change_4 rfl (lv_at hl 3 rfl) ?_
      refine lv_aload_n hx hb dX1_change_5 rfl (lv_at hl 0 rfl) ?_
      refine va_get (D := D) (ci := 1) (v := .int x0_count) (C := RX1) (T := TX1) (N := 3) hx hb hts in_X1 hown hK hP 0 rfl rfl 2 (by decide) (hts _ mw_53) (fun _ h9 => h9) rfl dX1_change_6 ?_
      refine hi_icmp_ge (tgt := 37) hx hb dX1_change_9 rfl hf (fun hc hf => ?_) (fun hc hf => ?_)
      · refine lv_iload_n hx hb dX1_change_37 rfl (lv_at hl 2 rfl) ?_
        cases hf
        exact hw_ri hx hb hr hlk (hP.sub [0, 1, 2] rfl) (hD.sub [0, 1, 2] (by decide) rfl) hS dX1_change_38
      · refine lv_aload_n hx hb dX1_change_12 rfl (lv_at hl 0 rfl) ?_
        refine va_get (D := D) (ci := 1) (v := .ref h0_accounts) (C := RX1) (T := TX1) (N := 3) hx hb hts in_X1 hown hK hP 0 rfl rfl 0 (by decide) (hts _ mw_4) (fun _ h9 => h9) rfl dX1_change_13 ?_
        refine lv_iload_n hx hb dX1_change_16 rfl (lv_at hl 3 rfl) ?_
        obtain ⟨v1, e2, hf⟩ := hw_bind hf
        refine hw_iald hx hb hK hP 1 rfl e2 dX1_change_17 ?_
        refine lv_iload_n hx hb dX1_change_18 rfl (lv_at hl 1 rfl) ?_
        refine hi_icmp_ne (tgt := 31) hx hb dX1_change_19 rfl hf (fun hc hf => ?_) (fun hc hf => ?_)
        · refine lv_iinc (v := k3 + (1 : Int32)) (lv' := [(3, .int (k3 + (1 : Int32))), (0, .ref h0), (1, .int k1), (2, .int k2)]) hx hb dX1_change_31 hl (k := 3) rfl (congrArg (fun z => k3 + z) (by decide)) (by decide) rfl (fun ls hl => ?_)
          refine lv_goto (tgt := 4) hx hb dX1_change_34 rfl ?_
          exact ih4 _ _ _ k1 k2 (k3 + (1 : Int32)) (lv_sub hl [1, 2, 3, 0] rfl) (hP.sub [0, 1, 2] rfl) (hD.sub [0, 1, 2] (by decide) rfl) hS hf
        · refine lv_iload_n hx hb dX1_change_22 rfl (lv_at hl 2 rfl) ?_
          refine lv_aload_n hx hb dX1_change_23 rfl (lv_at hl 0 rfl) ?_
          refine va_get (D := D) (ci := 1) (v := .ref h0_amounts) (C := RX1) (T := TX1) (N := 3) hx hb hts in_X1 hown hK hP 0 rfl rfl 1 (by decide) (hts _ mw_5) (fun _ h9 => h9) rfl dX1_change_24 ?_
          refine lv_iload_n hx hb dX1_change_27 rfl (lv_at hl 3 rfl) ?_
          obtain ⟨v3, e4, hf⟩ := hw_bind hf
          refine hw_iald hx hb hK hP 2 rfl e4 dX1_change_28 ?_
          refine lv_iadd hx hb dX1_change_29 ?_
          refine lv_istore_n (lv' := [(2, .int (k2 + v3)), (0, .ref h0), (1, .int k1), (3, .int k3)]) hx hb dX1_change_30 rfl hl (by decide) rfl (fun ls hl => ?_)
          refine lv_iinc (v := k3 + (1 : Int32)) (lv' := [(3, .int (k3 + (1 : Int32))), (2, .int (k2 + v3)), (0, .ref h0), (1, .int k1)]) hx hb dX1_change_31 hl (k := 3) rfl (congrArg (fun z => k3 + z) (by decide)) (by decide) rfl (fun ls hl => ?_)
          refine lv_goto (tgt := 4) hx hb dX1_change_34 rfl ?_
          exact ih4 _ _ _ k1 (k2 + v3) (k3 + (1 : Int32)) (lv_sub hl [2, 3, 1, 0] rfl) (hP.sub [0, 1, 2] rfl) (hD.sub [0, 1, 2] (by decide) rfl) hS hf
  rw [fDr_change] at hf
  refine lv_iconst (v := (0 : Int32)) hx hb dX1_change_0 (by decide) ?_
  refine lv_istore_n (lv' := [(2, .int (0 : Int32)), (0, .ref h0), (1, .int k1)]) hx hb dX1_change_1 rfl hl (by decide) rfl (fun ls hl => ?_)
  refine lv_iconst (v := (0 : Int32)) hx hb dX1_change_2 (by decide) ?_
  refine lv_istore_n (lv' := [(3, .int (0 : Int32)), (2, .int (0 : Int32)), (0, .ref h0), (1, .int k1)]) hx hb dX1_change_3 rfl hl (by decide) rfl (fun ls hl => ?_)
  exact L4 600 _ _ _ k1 (0 : Int32) (0 : Int32) (lv_sub hl [2, 3, 1, 0] rfl) (hP.sub [0, 1, 2] rfl) (hD.sub [0, 1, 2] (by decide) rfl) hS hf
set_option maxHeartbeats 4000000 in
set_option maxRecDepth 100000 in
theorem cSl_entryCells (l : Launch) (D : va_G) (cA cZ : ClassId) (k0 : Int32) (rr : Int32) (hf : fSl_entryCells k0 = some rr) : hw_C l yX5_entryCells wX5_entryCells { frames := 0, cells := 0, slots := 0, locals := 0 } D vwCl cA cZ [.int k0] [] [] (some (.int rr)) := by
  refine hw_of (cc := cX5_entryCells) (maxL := 1) (ret := (some .int)) (by decide) rfl (Nat.le_of_ble_eq_true rfl) ?_
  intro p e s m args below meth c A ls hx hb hr hlk hml hown hts hA hK hE hP hD hS hl
  have hown : s.vm.findClass RX5 = some m.cls := hown
  have hl : lv_has ls 1 [(0, .int k0)] := hl
  rw [fSl_entryCells] at hf
  refine lv_iconst (v := (3 : Int32)) hx hb dX5_entryCells_0 (by decide) ?_
  refine lv_iconst (v := (2 : Int32)) hx hb dX5_entryCells_1 (by decide) ?_
  refine lv_iload_n hx hb dX5_entryCells_2 rfl (lv_at hl 0 rfl) ?_
  refine lv_imul hx hb dX5_entryCells_3 ?_
  refine lv_iadd hx hb dX5_entryCells_4 ?_
  cases hf
  exact hw_ri hx hb hr hlk (hP.sub [] rfl) (hD.sub [] (by decide) rfl) hS dX5_entryCells_5
set_option maxHeartbeats 4000000 in
set_option maxRecDepth 100000 in
theorem cDr_amountAt (l : Launch) (D : va_G) (cA cZ : ClassId) (h0 : Nat) (h0_accounts : Nat) (h0_amounts : Nat) (x0_count : Int32) (g0_amounts : Nat → Int32) (k1 : Int32) (rr : Int32) (hf : fDr_amountAt x0_count g0_amounts k1 = some rr) : hw_C l yX1_amountAt wX1_amountAt { frames := 0, cells := 0, slots := 0, locals := 0 } D vwCl cA cZ [.ref h0, .int k1] [(h0, .inr (1, [.ref h0_accounts, .ref h0_amounts, .int x0_count])), (h0_amounts, .inl (cA, 4, .inl g0_amounts))] [(h0, .inr (1, [.ref h0_accounts, .ref h0_amounts, .int x0_count])), (h0_amounts, .inl (cA, 4, .inl g0_amounts))] (some (.int rr)) := by
  refine hw_of (cc := cX1_amountAt) (maxL := 2) (ret := (some .int)) (by decide) rfl (Nat.le_of_ble_eq_true rfl) ?_
  intro p e s m args below meth c A ls hx hb hr hlk hml hown hts hA hK hE hP hD hS hl
  have hown : s.vm.findClass RX1 = some m.cls := hown
  have hl : lv_has ls 2 [(0, .ref h0), (1, .int k1)] := hl
  rw [fDr_amountAt] at hf
  refine lv_iload_n hx hb dX1_amountAt_0 rfl (lv_at hl 1 rfl) ?_
  refine hi_if_lt (tgt := 21) hx hb dX1_amountAt_1 rfl hf (fun hc hf => ?_) (fun hc hf => ?_)
  · refine lv_iconst (v := (0 : Int32)) hx hb dX1_amountAt_21 (by decide) ?_
    cases hf
    exact hw_ri hx hb hr hlk (hP.sub [0, 1] rfl) (hD.sub [0, 1] (by decide) rfl) hS dX1_amountAt_22
  · refine lv_iload_n hx hb dX1_amountAt_4 rfl (lv_at hl 1 rfl) ?_
    refine lv_aload_n hx hb dX1_amountAt_5 rfl (lv_at hl 0 rfl) ?_
    refine va_get (D := D) (ci := 1) (v := .int x0_count) (C := RX1) (T := TX1) (N := 3) hx hb hts in_X1 hown hK hP 0 rfl rfl 2 (by decide) (hts _ mw_53) (fun _ h9 => h9) rfl dX1_amountAt_6 ?_
    refine hi_icmp_ge (tgt := 21) hx hb dX1_amountAt_9 rfl hf (fun hc hf => ?_) (fun hc hf => ?_)
    · refine lv_iconst (v := (0 : Int32)) hx hb dX1_amountAt_21 (by decide) ?_
      cases hf
      exact hw_ri hx hb hr hlk (hP.sub [0, 1] rfl) (hD.sub [0, 1] (by decide) rfl) hS dX1_amountAt_22
    · refine lv_aload_n hx hb dX1_amountAt_12 rfl (lv_at hl 0 rfl) ?_
      refine va_get (D := D) (ci := 1) (v := .ref h0_amounts) (C := RX1) (T := TX1) (N := 3) hx hb hts in_X1 hown hK hP 0 rfl rfl 1 (by decide) (hts _ mw_5) (fun _ h9 => h9) rfl dX1_amountAt_13 ?_
      refine lv_iload_n hx hb dX1_amountAt_16 rfl (lv_at hl 1 rfl) ?_
      obtain ⟨v1, e2, hf⟩ := hw_bind hf
      refine hw_iald hx hb hK hP 1 rfl e2 dX1_amountAt_17 ?_
      refine lv_goto (tgt := 22) hx hb dX1_amountAt_18 rfl ?_
      cases hf
      exact hw_ri hx hb hr hlk (hP.sub [0, 1] rfl) (hD.sub [0, 1] (by decide) rfl) hS dX1_amountAt_22
set_option maxHeartbeats 4000000 in
set_option maxRecDepth 100000 in
theorem cSl_mix (l : Launch) (D : va_G) (cA cZ : ClassId) (k0 : Int32) (k1 : Int32) (rr : Int32) (hf : fSl_mix k0 k1 = some rr) : hw_C l yX5_mix wX5_mix { frames := 0, cells := 0, slots := 0, locals := 0 } D vwCl cA cZ [.int k0, .int k1] [] [] (some (.int rr)) := by
  refine hw_of (cc := cX5_mix) (maxL := 4) (ret := (some .int)) (by decide) rfl (Nat.le_of_ble_eq_true rfl) ?_
  intro p e s m args below meth c A ls hx hb hr hlk hml hown hts hA hK hE hP hD hS hl
  have hown : s.vm.findClass RX5 = some m.cls := hown
  have hl : lv_has ls 4 [(0, .int k0), (1, .int k1)] := hl
  rw [fSl_mix] at hf
  refine lv_iload_n hx hb dX5_mix_0 rfl (lv_at hl 0 rfl) ?_
  refine lv_ldc (v := (16777619 : Int32)) hx hb hown (hts _ mw_113) dX5_mix_1 ?_
  refine lv_imul hx hb dX5_mix_3 ?_
  refine lv_iload_n hx hb dX5_mix_4 rfl (lv_at hl 1 rfl) ?_
  refine lv_iadd hx hb dX5_mix_5 ?_
  refine lv_istore_n (lv' := [(2, .int ((k0 * (16777619 : Int32)) + k1)), (0, .int k0), (1, .int k1)]) hx hb dX5_mix_6 rfl hl (by decide) rfl (fun ls hl => ?_)
  refine lv_iload_n hx hb dX5_mix_7 rfl (lv_at hl 0 rfl) ?_
  refine lv_iload_n hx hb dX5_mix_8 rfl (lv_at hl 0 rfl) ?_
  refine lv_bipush (v := (15 : Int32)) hx hb dX5_mix_9 (by decide) ?_
  refine hw_iushr hx hb dX5_mix_11 ?_
  refine lv_ixor hx hb dX5_mix_12 ?_
  refine lv_ldc (v := (739982445 : Int32)) hx hb hown (hts _ mw_114) dX5_mix_13 ?_
  refine lv_imul hx hb dX5_mix_15 ?_
  refine lv_istore_n (lv' := [(3, .int ((((k0 * (16777619 : Int32)) + k1) ^^^ (hw_ushr ((k0 * (16777619 : Int32)) + k1) (15 : Int32))) * (739982445 : Int32))), (2, .int ((k0 * (16777619 : Int32)) + k1)), (0, .int k0), (1, .int k1)]) hx hb dX5_mix_16 rfl hl (by decide) rfl (fun ls hl => ?_)
  refine lv_iload_n hx hb dX5_mix_17 rfl (lv_at hl 0 rfl) ?_
  refine lv_iload_n hx hb dX5_mix_18 rfl (lv_at hl 0 rfl) ?_
  refine lv_bipush (v := (12 : Int32)) hx hb dX5_mix_19 (by decide) ?_
  refine hw_iushr hx hb dX5_mix_21 ?_
  refine lv_ixor hx hb dX5_mix_22 ?_
  cases hf
  exact hw_ri hx hb hr hlk (hP.sub [] rfl) (hD.sub [] (by decide) rfl) hS dX5_mix_23
set_option maxHeartbeats 4000000 in
set_option maxRecDepth 100000 in
theorem cSl_split (l : Launch) (D : va_G) (cA cZ : ClassId) (k0 : Int32) (rr : Int32) (hf : fSl_split k0 = some rr) : hw_C l yX5_split wX5_split { frames := 0, cells := 0, slots := 0, locals := 0 } D vwCl cA cZ [.int k0] [] [] (some (.int rr)) := by
  refine hw_of (cc := cX5_split) (maxL := 3) (ret := (some .int)) (by decide) rfl (Nat.le_of_ble_eq_true rfl) ?_
  intro p e s m args below meth c A ls hx hb hr hlk hml hown hts hA hK hE hP hD hS hl
  have hown : s.vm.findClass RX5 = some m.cls := hown
  have hl : lv_has ls 3 [(0, .int k0)] := hl
  have L4 : ∀ (n4 : Nat) (ls : Array Slot) (H : Heap) (locs : List Loc) (k0 : Int32) (k1 : Int32) (k2 : Int32), lv_has ls 3 [(0, .int k0), (1, .int k1), (2, .int k2)] → va_P D vwCl [] H → va_D A [] → va_S A s.heap H locs → fSl_split_L4 k0 n4 k1 k2 = some rr → W p l e { frames := 0, cells := 0, slots := 0, locals := 0 } s m args below meth c H locs 0 0 (hw_Z below args s D vwCl A [] (some (.int rr))) (F0 m 4 ls []) := by
    intro n4
    induction n4 with
    | zero => intro ls H locs k0 k1 k2 hl hP hD hS hf; simp only [fSl_split_L4] at hf; cases hf
    | succ n4 ih4 =>
      intro ls H locs k0 k1 k2 hl hP hD hS hf
      rw [fSl_split_L4] at hf
      refine lv_iload_n hx hb dX5_split_4 rfl (lv_at hl 2 rfl) ?_
      refine lv_bipush (v := (10 : Int32)) hx hb dX5_split_5 (by decide) ?_
      refine hi_icmp_ge (tgt := 27) hx hb dX5_split_7 rfl hf (fun hc hf => ?_) (fun hc hf => ?_)
      · refine lv_iload_n hx hb dX5_split_27 rfl (lv_at hl 1 rfl) ?_
        cases hf
        exact hw_ri hx hb hr hlk (hP.sub [] rfl) (hD.sub [] (by decide) rfl) hS dX5_split_28
      · refine lv_iconst (v := (2 : Int32)) hx hb dX5_split_10 (by decide) ?_
        refine lv_iload_n hx hb dX5_split_11 rfl (lv_at hl 1 rfl) ?_
        refine lv_imul hx hb dX5_split_12 ?_
        refine lv_iload_n hx hb dX5_split_13 rfl (lv_at hl 0 rfl) ?_
        refine hi_icmp_ge (tgt := 27) hx hb dX5_split_14 rfl hf (fun hc hf => ?_) (fun hc hf => ?_)
        · refine lv_iload_n hx hb dX5_split_27 rfl (lv_at hl 1 rfl) ?_
          cases hf
          exact hw_ri hx hb hr hlk (hP.sub [] rfl) (hD.sub [] (by decide) rfl) hS dX5_split_28
        · refine lv_iconst (v := (2 : Int32)) hx hb dX5_split_17 (by decide) ?_
          refine lv_iload_n hx hb dX5_split_18 rfl (lv_at hl 1 rfl) ?_
          refine lv_imul hx hb dX5_split_19 ?_
          refine lv_istore_n (lv' := [(1, .int ((2 : Int32) * k1)), (0, .int k0), (2, .int k2)]) hx hb dX5_split_20 rfl hl (by decide) rfl (fun ls hl => ?_)
          refine lv_iinc (v := k2 + (1 : Int32)) (lv' := [(2, .int (k2 + (1 : Int32))), (1, .int ((2 : Int32) * k1)), (0, .int k0)]) hx hb dX5_split_21 hl (k := 2) rfl (congrArg (fun z => k2 + z) (by decide)) (by decide) rfl (fun ls hl => ?_)
          refine lv_goto (tgt := 4) hx hb dX5_split_24 rfl ?_
          exact ih4 _ _ _ k0 ((2 : Int32) * k1) (k2 + (1 : Int32)) (lv_sub hl [2, 1, 0] rfl) (hP.sub [] rfl) (hD.sub [] (by decide) rfl) hS hf
  rw [fSl_split] at hf
  refine lv_iconst (v := (1 : Int32)) hx hb dX5_split_0 (by decide) ?_
  refine lv_istore_n (lv' := [(1, .int (1 : Int32)), (0, .int k0)]) hx hb dX5_split_1 rfl hl (by decide) rfl (fun ls hl => ?_)
  refine lv_iconst (v := (0 : Int32)) hx hb dX5_split_2 (by decide) ?_
  refine lv_istore_n (lv' := [(2, .int (0 : Int32)), (1, .int (1 : Int32)), (0, .int k0)]) hx hb dX5_split_3 rfl hl (by decide) rfl (fun ls hl => ?_)
  exact L4 600 _ _ _ k0 (1 : Int32) (0 : Int32) (lv_sub hl [2, 1, 0] rfl) (hP.sub [] rfl) (hD.sub [] (by decide) rfl) hS hf
set_option maxHeartbeats 4000000 in
set_option maxRecDepth 100000 in
theorem cSl_node (l : Launch) (D : va_G) (cA cZ : ClassId) (k0 : Int32) (k1 : Int32) (rr : Int32) (hf : fSl_node k0 k1 = some rr) : hw_C l yX5_node wX5_node { frames := 1, cells := 0, slots := 0, locals := 23 } D vwCl cA cZ [.int k0, .int k1] [] [] (some (.int rr)) := by
  refine hw_of (cc := cX5_node) (maxL := 2) (ret := (some .int)) (by decide) rfl (Nat.le_of_ble_eq_true rfl) ?_
  intro p e s m args below meth c A ls hx hb hr hlk hml hown hts hA hK hE hP hD hS hl
  have hown : s.vm.findClass RX5 = some m.cls := hown
  have hl : lv_has ls 2 [(0, .int k0), (1, .int k1)] := hl
  rw [fSl_node] at hf
  refine lv_iconst (v := (1 : Int32)) hx hb dX5_node_0 (by decide) ?_
  refine lv_iload_n hx hb dX5_node_1 rfl (lv_at hl 0 rfl) ?_
  obtain ⟨v1, e2, hf⟩ := hw_bind hf
  refine hw_goS (wr := []) (rest := []) ⟨hx, hb, hml, hown, hts⟩ (cSl_mix l D cA cZ (1 : Int32) k0 v1 e2) (cwS 2 hts ks_X5_174 rfl rfl rfl (by decide +kernel) ⟨Nat.le_of_ble_eq_true rfl, Nat.le_of_ble_eq_true rfl⟩) [] [] rfl rfl (by decide) (by decide) (by decide) hK hE hP hD hS hA hl.1 rfl rfl (Nat.le_of_ble_eq_true rfl) dX5_node_2 ⟨Nat.zero_le _, Nat.zero_le _⟩ (fun H locs (hP : va_P D vwCl [] H) (hD : va_D A []) hS => ?_)
  refine lv_iload_n hx hb dX5_node_5 rfl (lv_at hl 1 rfl) ?_
  obtain ⟨v3, e4, hf⟩ := hw_bind hf
  refine hw_goS (wr := []) (rest := []) ⟨hx, hb, hml, hown, hts⟩ (cSl_mix l D cA cZ v1 k1 v3 e4) (cwS 2 hts ks_X5_174 rfl rfl rfl (by decide +kernel) ⟨Nat.le_of_ble_eq_true rfl, Nat.le_of_ble_eq_true rfl⟩) [] [] rfl rfl (by decide) (by decide) (by decide) hK hE hP hD hS hA hl.1 rfl rfl (Nat.le_of_ble_eq_true rfl) dX5_node_6 ⟨Nat.zero_le _, Nat.zero_le _⟩ (fun H locs (hP : va_P D vwCl [] H) (hD : va_D A []) hS => ?_)
  cases hf
  exact hw_ri hx hb hr hlk (hP.sub [] rfl) (hD.sub [] (by decide) rfl) hS dX5_node_9
