set_option maxHeartbeats 4000000 in
set_option maxRecDepth 100000 in
theorem cMo_mix (l : Launch) (D : va_G) (cA cZ : ClassId) (k0 : Int32) (k1 : Int32) (rr : Int32) (hf : fMo_mix k0 k1 = some rr) : hw_C l yX6_mix wX6_mix { frames := 0, cells := 0, slots := 0, locals := 0 } D vwCl cA cZ [.int k0, .int k1] [] [] (some (.int rr)) := by
  refine hw_of (cc := cX6_mix) (maxL := 4) (ret := (some .int)) (by decide) rfl (Nat.le_of_ble_eq_true rfl) ?_
  intro p e s m args below meth c A ls hx hb hr hlk hml hown hts hA hK hE hP hD hS hl
  have hown : s.vm.findClass RX6 = some m.cls := hown
  have hl : lv_has ls 4 [(0, .int k0), (1, .int k1)] := hl
  rw [fMo_mix] at hf
  refine lv_iload_n hx hb dX6_mix_0 rfl (lv_at hl 0 rfl) ?_
  refine lv_ldc (v := (16777619 : Int32)) hx hb hown (hts _ mw_355) dX6_mix_1 ?_
  refine lv_imul hx hb dX6_mix_3 ?_
  refine lv_iload_n hx hb dX6_mix_4 rfl (lv_at hl 1 rfl) ?_
  refine lv_iadd hx hb dX6_mix_5 ?_
  refine lv_istore_n (lv' := [(2, .int ((k0 * (16777619 : Int32)) + k1)), (0, .int k0), (1, .int k1)]) hx hb dX6_mix_6 rfl hl (by decide) rfl (fun ls hl => ?_)
  refine lv_iload_n hx hb dX6_mix_7 rfl (lv_at hl 0 rfl) ?_
  refine lv_iload_n hx hb dX6_mix_8 rfl (lv_at hl 0 rfl) ?_
  refine lv_bipush (v := (15 : Int32)) hx hb dX6_mix_9 (by decide) ?_
  refine hw_iushr hx hb dX6_mix_11 ?_
  refine lv_ixor hx hb dX6_mix_12 ?_
  refine lv_ldc (v := (739982445 : Int32)) hx hb hown (hts _ mw_356) dX6_mix_13 ?_
  refine lv_imul hx hb dX6_mix_15 ?_
  refine lv_istore_n (lv' := [(3, .int ((((k0 * (16777619 : Int32)) + k1) ^^^ (hw_ushr ((k0 * (16777619 : Int32)) + k1) (15 : Int32))) * (739982445 : Int32))), (2, .int ((k0 * (16777619 : Int32)) + k1)), (0, .int k0), (1, .int k1)]) hx hb dX6_mix_16 rfl hl (by decide) rfl (fun ls hl => ?_)
  refine lv_iload_n hx hb dX6_mix_17 rfl (lv_at hl 0 rfl) ?_
  refine lv_iload_n hx hb dX6_mix_18 rfl (lv_at hl 0 rfl) ?_
  refine lv_bipush (v := (12 : Int32)) hx hb dX6_mix_19 (by decide) ?_
  refine hw_iushr hx hb dX6_mix_21 ?_
  refine lv_ixor hx hb dX6_mix_22 ?_
  cases hf
  exact hw_ri hx hb hr hlk (hP.sub [] rfl) (hD.sub [] (by decide) rfl) hS dX6_mix_23
set_option maxHeartbeats 4000000 in
set_option maxRecDepth 100000 in
theorem cMo_node (l : Launch) (D : va_G) (cA cZ : ClassId) (k0 : Int32) (k1 : Int32) (rr : Int32) (hf : fMo_node k0 k1 = some rr) : hw_C l yX6_node wX6_node { frames := 1, cells := 0, slots := 0, locals := 23 } D vwCl cA cZ [.int k0, .int k1] [] [] (some (.int rr)) := by
  refine hw_of (cc := cX6_node) (maxL := 2) (ret := (some .int)) (by decide) rfl (Nat.le_of_ble_eq_true rfl) ?_
  intro p e s m args below meth c A ls hx hb hr hlk hml hown hts hA hK hE hP hD hS hl
  have hown : s.vm.findClass RX6 = some m.cls := hown
  have hl : lv_has ls 2 [(0, .int k0), (1, .int k1)] := hl
  rw [fMo_node] at hf
  refine lv_iconst (v := (1 : Int32)) hx hb dX6_node_0 (by decide) ?_
  refine lv_iload_n hx hb dX6_node_1 rfl (lv_at hl 0 rfl) ?_
  obtain ⟨v1, e2, hf⟩ := hw_bind hf
  refine hw_goS (wr := []) (rest := []) ⟨hx, hb, hml, hown, hts⟩ (cMo_mix l D cA cZ (1 : Int32) k0 v1 e2) (cwS 2 hts ks_X6_55 rfl rfl rfl (by decide +kernel) ⟨Nat.le_of_ble_eq_true rfl, Nat.le_of_ble_eq_true rfl⟩) [] [] rfl rfl (by decide) (by decide) (by decide) hK hE hP hD hS hA hl.1 rfl rfl (Nat.le_of_ble_eq_true rfl) dX6_node_2 ⟨Nat.zero_le _, Nat.zero_le _⟩ (fun H locs (hP : va_P D vwCl [] H) (hD : va_D A []) hS => ?_)
  refine lv_iload_n hx hb dX6_node_5 rfl (lv_at hl 1 rfl) ?_
  obtain ⟨v3, e4, hf⟩ := hw_bind hf
  refine hw_goS (wr := []) (rest := []) ⟨hx, hb, hml, hown, hts⟩ (cMo_mix l D cA cZ v1 k1 v3 e4) (cwS 2 hts ks_X6_55 rfl rfl rfl (by decide +kernel) ⟨Nat.le_of_ble_eq_true rfl, Nat.le_of_ble_eq_true rfl⟩) [] [] rfl rfl (by decide) (by decide) (by decide) hK hE hP hD hS hA hl.1 rfl rfl (Nat.le_of_ble_eq_true rfl) dX6_node_6 ⟨Nat.zero_le _, Nat.zero_le _⟩ (fun H locs (hP : va_P D vwCl [] H) (hD : va_D A []) hS => ?_)
  cases hf
  exact hw_ri hx hb hr hlk (hP.sub [] rfl) (hD.sub [] (by decide) rfl) hS dX6_node_9
set_option maxHeartbeats 4000000 in
set_option maxRecDepth 100000 in
theorem cMo_isAccount (l : Launch) (D : va_G) (cA cZ : ClassId) (k0 : Int32) (rr : Int32) (hf : fMo_isAccount k0 = some rr) : hw_C l yX6_isAccount wX6_isAccount { frames := 0, cells := 0, slots := 0, locals := 0 } D vwCl cA cZ [.int k0] [] [] (some (.int rr)) := by
  refine hw_of (cc := cX6_isAccount) (maxL := 1) (ret := (some .boolean)) (by decide) rfl (Nat.le_of_ble_eq_true rfl) ?_
  intro p e s m args below meth c A ls hx hb hr hlk hml hown hts hA hK hE hP hD hS hl
  have hown : s.vm.findClass RX6 = some m.cls := hown
  have hl : lv_has ls 1 [(0, .int k0)] := hl
  rw [fMo_isAccount] at hf
  refine lv_iload_n hx hb dX6_isAccount_0 rfl (lv_at hl 0 rfl) ?_
  refine hi_if_lt (tgt := 14) hx hb dX6_isAccount_1 rfl hf (fun hc hf => ?_) (fun hc hf => ?_)
  · refine lv_iconst (v := (0 : Int32)) hx hb dX6_isAccount_14 (by decide) ?_
    cases hf
    exact hw_rz hx hb hr hlk rfl (hP.sub [] rfl) (hD.sub [] (by decide) rfl) hS dX6_isAccount_15
  · refine lv_iload_n hx hb dX6_isAccount_4 rfl (lv_at hl 0 rfl) ?_
    refine lv_bipush (v := (7 : Int32)) hx hb dX6_isAccount_5 (by decide) ?_
    refine hi_icmp_gt (tgt := 14) hx hb dX6_isAccount_7 rfl hf (fun hc hf => ?_) (fun hc hf => ?_)
    · refine lv_iconst (v := (0 : Int32)) hx hb dX6_isAccount_14 (by decide) ?_
      cases hf
      exact hw_rz hx hb hr hlk rfl (hP.sub [] rfl) (hD.sub [] (by decide) rfl) hS dX6_isAccount_15
    · refine lv_iconst (v := (1 : Int32)) hx hb dX6_isAccount_10 (by decide) ?_
      refine lv_goto (tgt := 15) hx hb dX6_isAccount_11 rfl ?_
      cases hf
      exact hw_rz hx hb hr hlk rfl (hP.sub [] rfl) (hD.sub [] (by decide) rfl) hS dX6_isAccount_15
set_option maxHeartbeats 4000000 in
set_option maxRecDepth 100000 in
theorem cMo_limit (l : Launch) (D : va_G) (cA cZ : ClassId) (h0 : Nat) (h0_keys : Nat) (h0_legs : Nat) (h0_account : Nat) (h0_amount : Nat) (h0_seals : Nat) (h0_ends : Nat) (h0_draftAccount : Nat) (h0_draftAmount : Nat) (h0_limits : Nat) (h0_disk : Nat) (h0_pad : Nat) (h0_stack : Nat) (h0_firsts : Nat) (h0_others : Nat) (x0_count : Int32) (x0_synced : Int32) (x0_syncedEnd : Int32) (x0_draft : Int32) (x0_off : Int32) (x0_failing : Int32) (x0_written : Int32) (x0_padded : Int32) (g0_limits : Nat → Int32) (k1 : Int32) (k2 : Int32) (rr : Int32) (og0_limits : Nat → Int32) (hf : fMo_limit g0_limits k1 k2 = some (rr, og0_limits)) : hw_C l yX6_limit wX6_limit { frames := 1, cells := 0, slots := 0, locals := 20 } D vwCl cA cZ [.ref h0, .int k1, .int k2] [(h0, .inr (5, [.int x0_count, .ref h0_keys, .ref h0_legs, .ref h0_account, .ref h0_amount, .ref h0_seals, .ref h0_ends, .int x0_synced, .int x0_syncedEnd, .int x0_draft, .ref h0_draftAccount, .ref h0_draftAmount, .ref h0_limits, .ref h0_disk, .int x0_off, .int x0_failing, .int x0_written, .int x0_padded, .ref h0_pad, .ref h0_stack, .ref h0_firsts, .ref h0_others])), (h0_limits, .inl (cA, 8, .inl g0_limits))] [(h0, .inr (5, [.int x0_count, .ref h0_keys, .ref h0_legs, .ref h0_account, .ref h0_amount, .ref h0_seals, .ref h0_ends, .int x0_synced, .int x0_syncedEnd, .int x0_draft, .ref h0_draftAccount, .ref h0_draftAmount, .ref h0_limits, .ref h0_disk, .int x0_off, .int x0_failing, .int x0_written, .int x0_padded, .ref h0_pad, .ref h0_stack, .ref h0_firsts, .ref h0_others])), (h0_limits, .inl (cA, 8, .inl og0_limits))] (some (.int rr)) := by
  refine hw_of (cc := cX6_limit) (maxL := 3) (ret := (some .boolean)) (by decide) rfl (Nat.le_of_ble_eq_true rfl) ?_
  intro p e s m args below meth c A ls hx hb hr hlk hml hown hts hA hK hE hP hD hS hl
  have hown : s.vm.findClass RX6 = some m.cls := hown
  have hl : lv_has ls 3 [(0, .ref h0), (1, .int k1), (2, .int k2)] := hl
  rw [fMo_limit] at hf
  refine lv_iload_n hx hb dX6_limit_0 rfl (lv_at hl 1 rfl) ?_
  obtain ⟨v1, e2, hf⟩ := hw_bind hf
  refine hw_goS (wr := [(h0, .inr (5, [.int x0_count, .ref h0_keys, .ref h0_legs, .ref h0_account, .ref h0_amount, .ref h0_seals, .ref h0_ends, .int x0_synced, .int x0_syncedEnd, .int x0_draft, .ref h0_draftAccount, .ref h0_draftAmount, .ref h0_limits, .ref h0_disk, .int x0_off, .int x0_failing, .int x0_written, .int x0_padded, .ref h0_pad, .ref h0_stack, .ref h0_firsts, .ref h0_others])), (h0_limits, .inl (cA, 8, .inl g0_limits))]) (rest := []) ⟨hx, hb, hml, hown, hts⟩ (cMo_isAccount l D cA cZ k1 v1 e2) (cwS 1 hts ks_X6_59 rfl rfl rfl (by decide +kernel) ⟨Nat.le_of_ble_eq_true rfl, Nat.le_of_ble_eq_true rfl⟩) [] [0, 1] rfl rfl (by decide) (by decide) (by decide) hK hE hP hD hS hA hl.1 rfl rfl (Nat.le_of_ble_eq_true rfl) dX6_limit_1 ⟨Nat.zero_le _, Nat.zero_le _⟩ (fun H locs (hP : va_P D vwCl [(h0, .inr (5, [.int x0_count, .ref h0_keys, .ref h0_legs, .ref h0_account, .ref h0_amount, .ref h0_seals, .ref h0_ends, .int x0_synced, .int x0_syncedEnd, .int x0_draft, .ref h0_draftAccount, .ref h0_draftAmount, .ref h0_limits, .ref h0_disk, .int x0_off, .int x0_failing, .int x0_written, .int x0_padded, .ref h0_pad, .ref h0_stack, .ref h0_firsts, .ref h0_others])), (h0_limits, .inl (cA, 8, .inl g0_limits))] H) (hD : va_D A [(h0, .inr (5, [.int x0_count, .ref h0_keys, .ref h0_legs, .ref h0_account, .ref h0_amount, .ref h0_seals, .ref h0_ends, .int x0_synced, .int x0_syncedEnd, .int x0_draft, .ref h0_draftAccount, .ref h0_draftAmount, .ref h0_limits, .ref h0_disk, .int x0_off, .int x0_failing, .int x0_written, .int x0_padded, .ref h0_pad, .ref h0_stack, .ref h0_firsts, .ref h0_others])), (h0_limits, .inl (cA, 8, .inl g0_limits))]) hS => ?_)
  refine hi_if_eq (tgt := 17) hx hb dX6_limit_4 rfl hf (fun hc hf => ?_) (fun hc hf => ?_)
  · refine lv_iconst (v := (0 : Int32)) hx hb dX6_limit_17 (by decide) ?_
    cases hf
    exact hw_rz hx hb hr hlk rfl (hP.sub [0, 1] rfl) (hD.sub [0, 1] (by decide) rfl) hS dX6_limit_18
  · refine lv_iload_n hx hb dX6_limit_7 rfl (lv_at hl 2 rfl) ?_
    refine hi_if_lt (tgt := 17) hx hb dX6_limit_8 rfl hf (fun hc hf => ?_) (fun hc hf => ?_)
    · refine lv_iconst (v := (0 : Int32)) hx hb dX6_limit_17 (by decide) ?_
      cases hf
      exact hw_rz hx hb hr hlk rfl (hP.sub [0, 1] rfl) (hD.sub [0, 1] (by decide) rfl) hS dX6_limit_18
    · refine lv_iload_n hx hb dX6_limit_11 rfl (lv_at hl 2 rfl) ?_
      refine lv_ldc (v := (99999 : Int32)) hx hb hown (hts _ mw_365) dX6_limit_12 ?_
      refine hi_icmp_le (tgt := 19) hx hb dX6_limit_14 rfl hf (fun hc hf => ?_) (fun hc hf => ?_)
      · refine lv_aload_n hx hb dX6_limit_19 rfl (lv_at hl 0 rfl) ?_
        refine va_get (D := D) (ci := 5) (v := .ref h0_limits) (C := RX6) (T := TX6) (N := 22) hx hb hts in_X6 hown hK hP 0 rfl rfl 12 (by decide) (hts _ mw_347) (fun _ h9 => h9) rfl dX6_limit_20 ?_
        refine lv_iload_n hx hb dX6_limit_23 rfl (lv_at hl 1 rfl) ?_
        refine lv_iload_n hx hb dX6_limit_24 rfl (lv_at hl 2 rfl) ?_
        obtain ⟨u3, e4, hf⟩ := hw_bind hf
        refine hw_iast hx hb hK hP hD hS 1 rfl e4 dX6_limit_25 (fun H locs (hP : va_P D vwCl [(h0, .inr (5, [.int x0_count, .ref h0_keys, .ref h0_legs, .ref h0_account, .ref h0_amount, .ref h0_seals, .ref h0_ends, .int x0_synced, .int x0_syncedEnd, .int x0_draft, .ref h0_draftAccount, .ref h0_draftAmount, .ref h0_limits, .ref h0_disk, .int x0_off, .int x0_failing, .int x0_written, .int x0_padded, .ref h0_pad, .ref h0_stack, .ref h0_firsts, .ref h0_others])), (h0_limits, .inl (cA, 8, .inl u3))] H) (hD : va_D A [(h0, .inr (5, [.int x0_count, .ref h0_keys, .ref h0_legs, .ref h0_account, .ref h0_amount, .ref h0_seals, .ref h0_ends, .int x0_synced, .int x0_syncedEnd, .int x0_draft, .ref h0_draftAccount, .ref h0_draftAmount, .ref h0_limits, .ref h0_disk, .int x0_off, .int x0_failing, .int x0_written, .int x0_padded, .ref h0_pad, .ref h0_stack, .ref h0_firsts, .ref h0_others])), (h0_limits, .inl (cA, 8, .inl u3))]) hS => ?_)
        refine lv_iconst (v := (1 : Int32)) hx hb dX6_limit_26 (by decide) ?_
        cases hf
        exact hw_rz hx hb hr hlk rfl (hP.sub [0, 1] rfl) (hD.sub [0, 1] (by decide) rfl) hS dX6_limit_27
      · refine lv_iconst (v := (0 : Int32)) hx hb dX6_limit_17 (by decide) ?_
        cases hf
        exact hw_rz hx hb hr hlk rfl (hP.sub [0, 1] rfl) (hD.sub [0, 1] (by decide) rfl) hS dX6_limit_18
set_option maxHeartbeats 4000000 in
set_option maxRecDepth 100000 in
theorem cMo_leg (l : Launch) (D : va_G) (cA cZ : ClassId) (h0 : Nat) (h0_keys : Nat) (h0_legs : Nat) (h0_account : Nat) (h0_amount : Nat) (h0_seals : Nat) (h0_ends : Nat) (h0_draftAccount : Nat) (h0_draftAmount : Nat) (h0_limits : Nat) (h0_disk : Nat) (h0_pad : Nat) (h0_stack : Nat) (h0_firsts : Nat) (h0_others : Nat) (x0_count : Int32) (x0_synced : Int32) (x0_syncedEnd : Int32) (x0_draft : Int32) (x0_off : Int32) (x0_failing : Int32) (x0_written : Int32) (x0_padded : Int32) (g0_draftAccount : Nat → Int32) (g0_draftAmount : Nat → Int32) (k1 : Int32) (k2 : Int32) (rr : Int32) (ox0_draft : Int32) (og0_draftAccount : Nat → Int32) (og0_draftAmount : Nat → Int32) (hf : fMo_leg x0_draft x0_off g0_draftAccount g0_draftAmount k1 k2 = some (rr, ox0_draft, og0_draftAccount, og0_draftAmount)) : hw_C l yX6_leg wX6_leg { frames := 1, cells := 0, slots := 0, locals := 20 } D vwCl cA cZ [.ref h0, .int k1, .int k2] [(h0, .inr (5, [.int x0_count, .ref h0_keys, .ref h0_legs, .ref h0_account, .ref h0_amount, .ref h0_seals, .ref h0_ends, .int x0_synced, .int x0_syncedEnd, .int x0_draft, .ref h0_draftAccount, .ref h0_draftAmount, .ref h0_limits, .ref h0_disk, .int x0_off, .int x0_failing, .int x0_written, .int x0_padded, .ref h0_pad, .ref h0_stack, .ref h0_firsts, .ref h0_others])), (h0_draftAccount, .inl (cA, 4, .inl g0_draftAccount)), (h0_draftAmount, .inl (cA, 4, .inl g0_draftAmount))] [(h0, .inr (5, [.int x0_count, .ref h0_keys, .ref h0_legs, .ref h0_account, .ref h0_amount, .ref h0_seals, .ref h0_ends, .int x0_synced, .int x0_syncedEnd, .int ox0_draft, .ref h0_draftAccount, .ref h0_draftAmount, .ref h0_limits, .ref h0_disk, .int x0_off, .int x0_failing, .int x0_written, .int x0_padded, .ref h0_pad, .ref h0_stack, .ref h0_firsts, .ref h0_others])), (h0_draftAccount, .inl (cA, 4, .inl og0_draftAccount)), (h0_draftAmount, .inl (cA, 4, .inl og0_draftAmount))] (some (.int rr)) := by
  refine hw_of (cc := cX6_leg) (maxL := 3) (ret := (some .boolean)) (by decide) rfl (Nat.le_of_ble_eq_true rfl) ?_
  intro p e s m args below meth c A ls hx hb hr hlk hml hown hts hA hK hE hP hD hS hl
  have hown : s.vm.findClass RX6 = some m.cls := hown
  have hl : lv_has ls 3 [(0, .ref h0), (1, .int k1), (2, .int k2)] := hl
  rw [fMo_leg] at hf
  refine lv_aload_n hx hb dX6_leg_0 rfl (lv_at hl 0 rfl) ?_
  refine va_get (D := D) (ci := 5) (v := .int x0_off) (C := RX6) (T := TX6) (N := 22) hx hb hts in_X6 hown hK hP 0 rfl rfl 14 (by decide) (hts _ mw_367) (fun _ h9 => h9) rfl dX6_leg_1 ?_
  refine hi_if_ne (tgt := 36) hx hb dX6_leg_4 rfl hf (fun hc hf => ?_) (fun hc hf => ?_)
  · refine lv_iconst (v := (0 : Int32)) hx hb dX6_leg_36 (by decide) ?_
    cases hf
    exact hw_rz hx hb hr hlk rfl (hP.sub [0, 1, 2] rfl) (hD.sub [0, 1, 2] (by decide) rfl) hS dX6_leg_37
  · refine lv_aload_n hx hb dX6_leg_7 rfl (lv_at hl 0 rfl) ?_
    refine va_get (D := D) (ci := 5) (v := .int x0_draft) (C := RX6) (T := TX6) (N := 22) hx hb hts in_X6 hown hK hP 0 rfl rfl 9 (by decide) (hts _ mw_368) (fun _ h9 => h9) rfl dX6_leg_8 ?_
    refine lv_iconst (v := (4 : Int32)) hx hb dX6_leg_11 (by decide) ?_
    refine hi_icmp_eq (tgt := 36) hx hb dX6_leg_12 rfl hf (fun hc hf => ?_) (fun hc hf => ?_)
    · refine lv_iconst (v := (0 : Int32)) hx hb dX6_leg_36 (by decide) ?_
      cases hf
      exact hw_rz hx hb hr hlk rfl (hP.sub [0, 1, 2] rfl) (hD.sub [0, 1, 2] (by decide) rfl) hS dX6_leg_37
    · refine lv_iload_n hx hb dX6_leg_15 rfl (lv_at hl 1 rfl) ?_
      obtain ⟨v1, e2, hf⟩ := hw_bind hf
      refine hw_goS (wr := [(h0, .inr (5, [.int x0_count, .ref h0_keys, .ref h0_legs, .ref h0_account, .ref h0_amount, .ref h0_seals, .ref h0_ends, .int x0_synced, .int x0_syncedEnd, .int x0_draft, .ref h0_draftAccount, .ref h0_draftAmount, .ref h0_limits, .ref h0_disk, .int x0_off, .int x0_failing, .int x0_written, .int x0_padded, .ref h0_pad, .ref h0_stack, .ref h0_firsts, .ref h0_others])), (h0_draftAccount, .inl (cA, 4, .inl g0_draftAccount)), (h0_draftAmount, .inl (cA, 4, .inl g0_draftAmount))]) (rest := []) ⟨hx, hb, hml, hown, hts⟩ (cMo_isAccount l D cA cZ k1 v1 e2) (cwS 1 hts ks_X6_59 rfl rfl rfl (by decide +kernel) ⟨Nat.le_of_ble_eq_true rfl, Nat.le_of_ble_eq_true rfl⟩) [] [0, 1, 2] rfl rfl (by decide) (by decide) (by decide) hK hE hP hD hS hA hl.1 rfl rfl (Nat.le_of_ble_eq_true rfl) dX6_leg_16 ⟨Nat.zero_le _, Nat.zero_le _⟩ (fun H locs (hP : va_P D vwCl [(h0, .inr (5, [.int x0_count, .ref h0_keys, .ref h0_legs, .ref h0_account, .ref h0_amount, .ref h0_seals, .ref h0_ends, .int x0_synced, .int x0_syncedEnd, .int x0_draft, .ref h0_draftAccount, .ref h0_draftAmount, .ref h0_limits, .ref h0_disk, .int x0_off, .int x0_failing, .int x0_written, .int x0_padded, .ref h0_pad, .ref h0_stack, .ref h0_firsts, .ref h0_others])), (h0_draftAccount, .inl (cA, 4, .inl g0_draftAccount)), (h0_draftAmount, .inl (cA, 4, .inl g0_draftAmount))] H) (hD : va_D A [(h0, .inr (5, [.int x0_count, .ref h0_keys, .ref h0_legs, .ref h0_account, .ref h0_amount, .ref h0_seals, .ref h0_ends, .int x0_synced, .int x0_syncedEnd, .int x0_draft, .ref h0_draftAccount, .ref h0_draftAmount, .ref h0_limits, .ref h0_disk, .int x0_off, .int x0_failing, .int x0_written, .int x0_padded, .ref h0_pad, .ref h0_stack, .ref h0_firsts, .ref h0_others])), (h0_draftAccount, .inl (cA, 4, .inl g0_draftAccount)), (h0_draftAmount, .inl (cA, 4, .inl g0_draftAmount))]) hS => ?_)
      refine hi_if_eq (tgt := 36) hx hb dX6_leg_19 rfl hf (fun hc hf => ?_) (fun hc hf => ?_)
      · refine lv_iconst (v := (0 : Int32)) hx hb dX6_leg_36 (by decide) ?_
        cases hf
        exact hw_rz hx hb hr hlk rfl (hP.sub [0, 1, 2] rfl) (hD.sub [0, 1, 2] (by decide) rfl) hS dX6_leg_37
      · refine lv_iload_n hx hb dX6_leg_22 rfl (lv_at hl 2 rfl) ?_
        refine lv_sipush (v := (-9999 : Int32)) hx hb dX6_leg_23 (by decide) ?_
        refine hi_icmp_lt (tgt := 36) hx hb dX6_leg_26 rfl hf (fun hc hf => ?_) (fun hc hf => ?_)
        · refine lv_iconst (v := (0 : Int32)) hx hb dX6_leg_36 (by decide) ?_
          cases hf
          exact hw_rz hx hb hr hlk rfl (hP.sub [0, 1, 2] rfl) (hD.sub [0, 1, 2] (by decide) rfl) hS dX6_leg_37
        · refine lv_iload_n hx hb dX6_leg_29 rfl (lv_at hl 2 rfl) ?_
          refine lv_sipush (v := (9999 : Int32)) hx hb dX6_leg_30 (by decide) ?_
          refine hi_icmp_le (tgt := 38) hx hb dX6_leg_33 rfl hf (fun hc hf => ?_) (fun hc hf => ?_)
          · refine lv_aload_n hx hb dX6_leg_38 rfl (lv_at hl 0 rfl) ?_
            refine va_get (D := D) (ci := 5) (v := .ref h0_draftAccount) (C := RX6) (T := TX6) (N := 22) hx hb hts in_X6 hown hK hP 0 rfl rfl 10 (by decide) (hts _ mw_345) (fun _ h9 => h9) rfl dX6_leg_39 ?_
            refine lv_aload_n hx hb dX6_leg_42 rfl (lv_at hl 0 rfl) ?_
            refine va_get (D := D) (ci := 5) (v := .int x0_draft) (C := RX6) (T := TX6) (N := 22) hx hb hts in_X6 hown hK hP 0 rfl rfl 9 (by decide) (hts _ mw_368) (fun _ h9 => h9) rfl dX6_leg_43 ?_
            refine lv_iload_n hx hb dX6_leg_46 rfl (lv_at hl 1 rfl) ?_
            obtain ⟨u3, e4, hf⟩ := hw_bind hf
            refine hw_iast hx hb hK hP hD hS 1 rfl e4 dX6_leg_47 (fun H locs (hP : va_P D vwCl [(h0, .inr (5, [.int x0_count, .ref h0_keys, .ref h0_legs, .ref h0_account, .ref h0_amount, .ref h0_seals, .ref h0_ends, .int x0_synced, .int x0_syncedEnd, .int x0_draft, .ref h0_draftAccount, .ref h0_draftAmount, .ref h0_limits, .ref h0_disk, .int x0_off, .int x0_failing, .int x0_written, .int x0_padded, .ref h0_pad, .ref h0_stack, .ref h0_firsts, .ref h0_others])), (h0_draftAccount, .inl (cA, 4, .inl u3)), (h0_draftAmount, .inl (cA, 4, .inl g0_draftAmount))] H) (hD : va_D A [(h0, .inr (5, [.int x0_count, .ref h0_keys, .ref h0_legs, .ref h0_account, .ref h0_amount, .ref h0_seals, .ref h0_ends, .int x0_synced, .int x0_syncedEnd, .int x0_draft, .ref h0_draftAccount, .ref h0_draftAmount, .ref h0_limits, .ref h0_disk, .int x0_off, .int x0_failing, .int x0_written, .int x0_padded, .ref h0_pad, .ref h0_stack, .ref h0_firsts, .ref h0_others])), (h0_draftAccount, .inl (cA, 4, .inl u3)), (h0_draftAmount, .inl (cA, 4, .inl g0_draftAmount))]) hS => ?_)
            refine lv_aload_n hx hb dX6_leg_48 rfl (lv_at hl 0 rfl) ?_
            refine va_get (D := D) (ci := 5) (v := .ref h0_draftAmount) (C := RX6) (T := TX6) (N := 22) hx hb hts in_X6 hown hK hP 0 rfl rfl 11 (by decide) (hts _ mw_346) (fun _ h9 => h9) rfl dX6_leg_49 ?_
            refine lv_aload_n hx hb dX6_leg_52 rfl (lv_at hl 0 rfl) ?_
            refine va_get (D := D) (ci := 5) (v := .int x0_draft) (C := RX6) (T := TX6) (N := 22) hx hb hts in_X6 hown hK hP 0 rfl rfl 9 (by decide) (hts _ mw_368) (fun _ h9 => h9) rfl dX6_leg_53 ?_
            refine lv_iload_n hx hb dX6_leg_56 rfl (lv_at hl 2 rfl) ?_
            obtain ⟨u5, e6, hf⟩ := hw_bind hf
            refine hw_iast hx hb hK hP hD hS 2 rfl e6 dX6_leg_57 (fun H locs (hP : va_P D vwCl [(h0, .inr (5, [.int x0_count, .ref h0_keys, .ref h0_legs, .ref h0_account, .ref h0_amount, .ref h0_seals, .ref h0_ends, .int x0_synced, .int x0_syncedEnd, .int x0_draft, .ref h0_draftAccount, .ref h0_draftAmount, .ref h0_limits, .ref h0_disk, .int x0_off, .int x0_failing, .int x0_written, .int x0_padded, .ref h0_pad, .ref h0_stack, .ref h0_firsts, .ref h0_others])), (h0_draftAccount, .inl (cA, 4, .inl u3)), (h0_draftAmount, .inl (cA, 4, .inl u5))] H) (hD : va_D A [(h0, .inr (5, [.int x0_count, .ref h0_keys, .ref h0_legs, .ref h0_account, .ref h0_amount, .ref h0_seals, .ref h0_ends, .int x0_synced, .int x0_syncedEnd, .int x0_draft, .ref h0_draftAccount, .ref h0_draftAmount, .ref h0_limits, .ref h0_disk, .int x0_off, .int x0_failing, .int x0_written, .int x0_padded, .ref h0_pad, .ref h0_stack, .ref h0_firsts, .ref h0_others])), (h0_draftAccount, .inl (cA, 4, .inl u3)), (h0_draftAmount, .inl (cA, 4, .inl u5))]) hS => ?_)
            refine lv_aload_n hx hb dX6_leg_58 rfl (lv_at hl 0 rfl) ?_
            refine lv_dup hx hb dX6_leg_59 rfl ?_
            refine va_get (D := D) (ci := 5) (v := .int x0_draft) (C := RX6) (T := TX6) (N := 22) hx hb hts in_X6 hown hK hP 0 rfl rfl 9 (by decide) (hts _ mw_368) (fun _ h9 => h9) rfl dX6_leg_60 ?_
            refine lv_iconst (v := (1 : Int32)) hx hb dX6_leg_63 (by decide) ?_
            refine lv_iadd hx hb dX6_leg_64 ?_
            refine va_put (D := D) (ci := 5) (v := .int (x0_draft + (1 : Int32))) (ty := .int) (C := RX6) (T := TX6) (N := 22) hx hb hts in_X6 tyX6 tyX6_ok nX6 hown hK hP hD hS 0 rfl rfl 9 (by decide) (hts _ mw_368) (fun _ h9 => h9) rfl (by decide +kernel) rfl rfl (Nat.le_of_ble_eq_true rfl) dX6_leg_65 (fun H locs (hP : va_P D vwCl [(h0, .inr (5, [.int x0_count, .ref h0_keys, .ref h0_legs, .ref h0_account, .ref h0_amount, .ref h0_seals, .ref h0_ends, .int x0_synced, .int x0_syncedEnd, .int (x0_draft + (1 : Int32)), .ref h0_draftAccount, .ref h0_draftAmount, .ref h0_limits, .ref h0_disk, .int x0_off, .int x0_failing, .int x0_written, .int x0_padded, .ref h0_pad, .ref h0_stack, .ref h0_firsts, .ref h0_others])), (h0_draftAccount, .inl (cA, 4, .inl u3)), (h0_draftAmount, .inl (cA, 4, .inl u5))] H) (hD : va_D A [(h0, .inr (5, [.int x0_count, .ref h0_keys, .ref h0_legs, .ref h0_account, .ref h0_amount, .ref h0_seals, .ref h0_ends, .int x0_synced, .int x0_syncedEnd, .int (x0_draft + (1 : Int32)), .ref h0_draftAccount, .ref h0_draftAmount, .ref h0_limits, .ref h0_disk, .int x0_off, .int x0_failing, .int x0_written, .int x0_padded, .ref h0_pad, .ref h0_stack, .ref h0_firsts, .ref h0_others])), (h0_draftAccount, .inl (cA, 4, .inl u3)), (h0_draftAmount, .inl (cA, 4, .inl u5))]) hS => ?_)
            refine lv_iconst (v := (1 : Int32)) hx hb dX6_leg_68 (by decide) ?_
            cases hf
            exact hw_rz hx hb hr hlk rfl (hP.sub [0, 1, 2] rfl) (hD.sub [0, 1, 2] (by decide) rfl) hS dX6_leg_69
          · refine lv_iconst (v := (0 : Int32)) hx hb dX6_leg_36 (by decide) ?_
            cases hf
            exact hw_rz hx hb hr hlk rfl (hP.sub [0, 1, 2] rfl) (hD.sub [0, 1, 2] (by decide) rfl) hS dX6_leg_37
set_option maxHeartbeats 4000000 in
set_option maxRecDepth 100000 in
theorem cMo_drop (l : Launch) (D : va_G) (cA cZ : ClassId) (h0 : Nat) (h0_keys : Nat) (h0_legs : Nat) (h0_account : Nat) (h0_amount : Nat) (h0_seals : Nat) (h0_ends : Nat) (h0_draftAccount : Nat) (h0_draftAmount : Nat) (h0_limits : Nat) (h0_disk : Nat) (h0_pad : Nat) (h0_stack : Nat) (h0_firsts : Nat) (h0_others : Nat) (x0_count : Int32) (x0_synced : Int32) (x0_syncedEnd : Int32) (x0_draft : Int32) (x0_off : Int32) (x0_failing : Int32) (x0_written : Int32) (x0_padded : Int32) (ox0_draft : Int32) (hf : fMo_drop x0_draft = some ox0_draft) : hw_C l yX6_drop wX6_drop { frames := 0, cells := 0, slots := 0, locals := 0 } D vwCl cA cZ [.ref h0] [(h0, .inr (5, [.int x0_count, .ref h0_keys, .ref h0_legs, .ref h0_account, .ref h0_amount, .ref h0_seals, .ref h0_ends, .int x0_synced, .int x0_syncedEnd, .int x0_draft, .ref h0_draftAccount, .ref h0_draftAmount, .ref h0_limits, .ref h0_disk, .int x0_off, .int x0_failing, .int x0_written, .int x0_padded, .ref h0_pad, .ref h0_stack, .ref h0_firsts, .ref h0_others]))] [(h0, .inr (5, [.int x0_count, .ref h0_keys, .ref h0_legs, .ref h0_account, .ref h0_amount, .ref h0_seals, .ref h0_ends, .int x0_synced, .int x0_syncedEnd, .int ox0_draft, .ref h0_draftAccount, .ref h0_draftAmount, .ref h0_limits, .ref h0_disk, .int x0_off, .int x0_failing, .int x0_written, .int x0_padded, .ref h0_pad, .ref h0_stack, .ref h0_firsts, .ref h0_others]))] none := by
  refine hw_of (cc := cX6_drop) (maxL := 1) (ret := none) (by decide) rfl (Nat.le_of_ble_eq_true rfl) ?_
  intro p e s m args below meth c A ls hx hb hr hlk hml hown hts hA hK hE hP hD hS hl
  have hown : s.vm.findClass RX6 = some m.cls := hown
  have hl : lv_has ls 1 [(0, .ref h0)] := hl
  rw [fMo_drop] at hf
  refine lv_aload_n hx hb dX6_drop_0 rfl (lv_at hl 0 rfl) ?_
  refine lv_iconst (v := (0 : Int32)) hx hb dX6_drop_1 (by decide) ?_
  refine va_put (D := D) (ci := 5) (v := .int (0 : Int32)) (ty := .int) (C := RX6) (T := TX6) (N := 22) hx hb hts in_X6 tyX6 tyX6_ok nX6 hown hK hP hD hS 0 rfl rfl 9 (by decide) (hts _ mw_368) (fun _ h9 => h9) rfl (by decide +kernel) rfl rfl (Nat.le_of_ble_eq_true rfl) dX6_drop_2 (fun H locs (hP : va_P D vwCl [(h0, .inr (5, [.int x0_count, .ref h0_keys, .ref h0_legs, .ref h0_account, .ref h0_amount, .ref h0_seals, .ref h0_ends, .int x0_synced, .int x0_syncedEnd, .int (0 : Int32), .ref h0_draftAccount, .ref h0_draftAmount, .ref h0_limits, .ref h0_disk, .int x0_off, .int x0_failing, .int x0_written, .int x0_padded, .ref h0_pad, .ref h0_stack, .ref h0_firsts, .ref h0_others]))] H) (hD : va_D A [(h0, .inr (5, [.int x0_count, .ref h0_keys, .ref h0_legs, .ref h0_account, .ref h0_amount, .ref h0_seals, .ref h0_ends, .int x0_synced, .int x0_syncedEnd, .int (0 : Int32), .ref h0_draftAccount, .ref h0_draftAmount, .ref h0_limits, .ref h0_disk, .int x0_off, .int x0_failing, .int x0_written, .int x0_padded, .ref h0_pad, .ref h0_stack, .ref h0_firsts, .ref h0_others]))]) hS => ?_)
  cases hf
  exact hw_rv hx hb hr hlk (hP.sub [0] rfl) (hD.sub [0] (by decide) rfl) hS dX6_drop_5
set_option maxHeartbeats 4000000 in
set_option maxRecDepth 100000 in
theorem cMo_leafOf (l : Launch) (D : va_G) (cA cZ : ClassId) (h0 : Nat) (h0_keys : Nat) (h0_legs : Nat) (h0_account : Nat) (h0_amount : Nat) (h0_seals : Nat) (h0_ends : Nat) (h0_draftAccount : Nat) (h0_draftAmount : Nat) (h0_limits : Nat) (h0_disk : Nat) (h0_pad : Nat) (h0_stack : Nat) (h0_firsts : Nat) (h0_others : Nat) (x0_count : Int32) (x0_synced : Int32) (x0_syncedEnd : Int32) (x0_draft : Int32) (x0_off : Int32) (x0_failing : Int32) (x0_written : Int32) (x0_padded : Int32) (g0_keys : Nat → Int32) (g0_legs : Nat → Int32) (g0_account : Nat → Int32) (g0_amount : Nat → Int32) (k1 : Int32) (rr : Int32) (hf : fMo_leafOf g0_keys g0_legs g0_account g0_amount k1 = some rr) : hw_C l yX6_leafOf wX6_leafOf { frames := 1, cells := 0, slots := 0, locals := 23 } D vwCl cA cZ [.ref h0, .int k1] [(h0, .inr (5, [.int x0_count, .ref h0_keys, .ref h0_legs, .ref h0_account, .ref h0_amount, .ref h0_seals, .ref h0_ends, .int x0_synced, .int x0_syncedEnd, .int x0_draft, .ref h0_draftAccount, .ref h0_draftAmount, .ref h0_limits, .ref h0_disk, .int x0_off, .int x0_failing, .int x0_written, .int x0_padded, .ref h0_pad, .ref h0_stack, .ref h0_firsts, .ref h0_others])), (h0_keys, .inl (cA, 76, .inl g0_keys)), (h0_legs, .inl (cA, 76, .inl g0_legs)), (h0_account, .inl (cA, 304, .inl g0_account)), (h0_amount, .inl (cA, 304, .inl g0_amount))] [(h0, .inr (5, [.int x0_count, .ref h0_keys, .ref h0_legs, .ref h0_account, .ref h0_amount, .ref h0_seals, .ref h0_ends, .int x0_synced, .int x0_syncedEnd, .int x0_draft, .ref h0_draftAccount, .ref h0_draftAmount, .ref h0_limits, .ref h0_disk, .int x0_off, .int x0_failing, .int x0_written, .int x0_padded, .ref h0_pad, .ref h0_stack, .ref h0_firsts, .ref h0_others])), (h0_keys, .inl (cA, 76, .inl g0_keys)), (h0_legs, .inl (cA, 76, .inl g0_legs)), (h0_account, .inl (cA, 304, .inl g0_account)), (h0_amount, .inl (cA, 304, .inl g0_amount))] (some (.int rr)) := by
  refine hw_of (cc := cX6_leafOf) (maxL := 4) (ret := (some .int)) (by decide) rfl (Nat.le_of_ble_eq_true rfl) ?_
  intro p e s m args below meth c A ls hx hb hr hlk hml hown hts hA hK hE hP hD hS hl
  have hown : s.vm.findClass RX6 = some m.cls := hown
  have hl : lv_has ls 4 [(0, .ref h0), (1, .int k1)] := hl
  have L13 : ∀ (n13 : Nat) (ls : Array Slot) (H : Heap) (locs : List Loc) (k1 : Int32) (k2 : Int32) (k3 : Int32), lv_has ls 4 [(0, .ref h0), (1, .int k1), (2, .int k2), (3, .int k3)] → va_P D vwCl [(h0, .inr (5, [.int x0_count, .ref h0_keys, .ref h0_legs, .ref h0_account, .ref h0_amount, .ref h0_seals, .ref h0_ends, .int x0_synced, .int x0_syncedEnd, .int x0_draft, .ref h0_draftAccount, .ref h0_draftAmount, .ref h0_limits, .ref h0_disk, .int x0_off, .int x0_failing, .int x0_written, .int x0_padded, .ref h0_pad, .ref h0_stack, .ref h0_firsts, .ref h0_others])), (h0_keys, .inl (cA, 76, .inl g0_keys)), (h0_legs, .inl (cA, 76, .inl g0_legs)), (h0_account, .inl (cA, 304, .inl g0_account)), (h0_amount, .inl (cA, 304, .inl g0_amount))] H → va_D A [(h0, .inr (5, [.int x0_count, .ref h0_keys, .ref h0_legs, .ref h0_account, .ref h0_amount, .ref h0_seals, .ref h0_ends, .int x0_synced, .int x0_syncedEnd, .int x0_draft, .ref h0_draftAccount, .ref h0_draftAmount, .ref h0_limits, .ref h0_disk, .int x0_off, .int x0_failing, .int x0_written, .int x0_padded, .ref h0_pad, .ref h0_stack, .ref h0_firsts, .ref h0_others])), (h0_keys, .inl (cA, 76, .inl g0_keys)), (h0_legs, .inl (cA, 76, .inl g0_legs)), (h0_account, .inl (cA, 304, .inl g0_account)), (h0_amount, .inl (cA, 304, .inl g0_amount))] → va_S A s.heap H locs → fMo_leafOf_L13 g0_keys g0_legs g0_account g0_amount k1 n13 k2 k3 = some rr → W p l e { frames := 1, cells := 0, slots := 0, locals := 23 } s m args below meth c H locs 0 0 (hw_Z below args s D vwCl A [(h0, .inr (5, [.int x0_count, .ref h0_keys, .ref h0_legs, .ref h0_account, .ref h0_amount, .ref h0_seals, .ref h0_ends, .int x0_synced, .int x0_syncedEnd, .int x0_draft, .ref h0_draftAccount, .ref h0_draftAmount, .ref h0_limits, .ref h0_disk, .int x0_off, .int x0_failing, .int x0_written, .int x0_padded, .ref h0_pad, .ref h0_stack, .ref h0_firsts, .ref h0_others])), (h0_keys, .inl (cA, 76, .inl g0_keys)), (h0_legs, .inl (cA, 76, .inl g0_legs)), (h0_account, .inl (cA, 304, .inl g0_account)), (h0_amount, .inl (cA, 304, .inl g0_amount))] (some (.int rr))) (F0 m 13 ls []) := by
    intro n13
    induction n13 with
    | zero => intro ls H locs k1 k2 k3 hl hP hD hS hf; simp only [fMo_leafOf_L13] at hf; cases hf
    | succ n13 ih13 =>
      intro ls H locs k1 k2 k3 hl hP hD hS hf
      rw [fMo_leafOf_L13] at hf
      refine lv_iload_n hx hb dX6_leafOf_13 rfl (lv_at hl 3 rfl) ?_
      refine lv_aload_n hx hb dX6_leafOf_14 rfl (lv_at hl 0 rfl) ?_
      refine va_get (D := D) (ci := 5) (v := .ref h0_legs) (C := RX6) (T := TX6) (N := 22) hx hb hts in_X6 hown hK hP 0 rfl rfl 2 (by decide) (hts _ mw_340) (fun _ h9 => h9) rfl dX6_leafOf_15 ?_
      refine lv_iload_n hx hb dX6_leafOf_18 rfl (lv_at hl 1 rfl) ?_
      obtain ⟨v5, e6, hf⟩ := hw_bind hf
      refine hw_iald hx hb hK hP 2 rfl e6 dX6_leafOf_19 ?_
      refine hi_icmp_ge (tgt := 58) hx hb dX6_leafOf_20 rfl hf (fun hc hf => ?_) (fun hc hf => ?_)
      · refine lv_iload_n hx hb dX6_leafOf_58 rfl (lv_at hl 2 rfl) ?_
        cases hf
        exact hw_ri hx hb hr hlk (hP.sub [0, 1, 2, 3, 4] rfl) (hD.sub [0, 1, 2, 3, 4] (by decide) rfl) hS dX6_leafOf_59
      · refine lv_iload_n hx hb dX6_leafOf_23 rfl (lv_at hl 2 rfl) ?_
        refine lv_bipush (v := (16 : Int32)) hx hb dX6_leafOf_24 (by decide) ?_
        refine lv_aload_n hx hb dX6_leafOf_26 rfl (lv_at hl 0 rfl) ?_
        refine va_get (D := D) (ci := 5) (v := .ref h0_amount) (C := RX6) (T := TX6) (N := 22) hx hb hts in_X6 hown hK hP 0 rfl rfl 4 (by decide) (hts _ mw_342) (fun _ h9 => h9) rfl dX6_leafOf_27 ?_
        refine lv_iconst (v := (4 : Int32)) hx hb dX6_leafOf_30 (by decide) ?_
        refine lv_iload_n hx hb dX6_leafOf_31 rfl (lv_at hl 1 rfl) ?_
        refine lv_imul hx hb dX6_leafOf_32 ?_
        refine lv_iload_n hx hb dX6_leafOf_33 rfl (lv_at hl 3 rfl) ?_
        refine lv_iadd hx hb dX6_leafOf_34 ?_
        obtain ⟨v7, e8, hf⟩ := hw_bind hf
        refine hw_iald hx hb hK hP 4 rfl e8 dX6_leafOf_35 ?_
        refine lv_imul hx hb dX6_leafOf_36 ?_
        refine lv_aload_n hx hb dX6_leafOf_37 rfl (lv_at hl 0 rfl) ?_
        refine va_get (D := D) (ci := 5) (v := .ref h0_account) (C := RX6) (T := TX6) (N := 22) hx hb hts in_X6 hown hK hP 0 rfl rfl 3 (by decide) (hts _ mw_341) (fun _ h9 => h9) rfl dX6_leafOf_38 ?_
        refine lv_iconst (v := (4 : Int32)) hx hb dX6_leafOf_41 (by decide) ?_
        refine lv_iload_n hx hb dX6_leafOf_42 rfl (lv_at hl 1 rfl) ?_
        refine lv_imul hx hb dX6_leafOf_43 ?_
        refine lv_iload_n hx hb dX6_leafOf_44 rfl (lv_at hl 3 rfl) ?_
        refine lv_iadd hx hb dX6_leafOf_45 ?_
        obtain ⟨v9, e10, hf⟩ := hw_bind hf
        refine hw_iald hx hb hK hP 3 rfl e10 dX6_leafOf_46 ?_
        refine lv_iadd hx hb dX6_leafOf_47 ?_
        obtain ⟨v11, e12, hf⟩ := hw_bind hf
        refine hw_goS (wr := [(h0, .inr (5, [.int x0_count, .ref h0_keys, .ref h0_legs, .ref h0_account, .ref h0_amount, .ref h0_seals, .ref h0_ends, .int x0_synced, .int x0_syncedEnd, .int x0_draft, .ref h0_draftAccount, .ref h0_draftAmount, .ref h0_limits, .ref h0_disk, .int x0_off, .int x0_failing, .int x0_written, .int x0_padded, .ref h0_pad, .ref h0_stack, .ref h0_firsts, .ref h0_others])), (h0_keys, .inl (cA, 76, .inl g0_keys)), (h0_legs, .inl (cA, 76, .inl g0_legs)), (h0_account, .inl (cA, 304, .inl g0_account)), (h0_amount, .inl (cA, 304, .inl g0_amount))]) (rest := []) ⟨hx, hb, hml, hown, hts⟩ (cMo_mix l D cA cZ k2 (((16 : Int32) * v7) + v9) v11 e12) (cwS 2 hts ks_X6_55 rfl rfl rfl (by decide +kernel) ⟨Nat.le_of_ble_eq_true rfl, Nat.le_of_ble_eq_true rfl⟩) [] [0, 1, 2, 3, 4] rfl rfl (by decide) (by decide) (by decide) hK hE hP hD hS hA hl.1 rfl rfl (Nat.le_of_ble_eq_true rfl) dX6_leafOf_48 ⟨Nat.zero_le _, Nat.zero_le _⟩ (fun H locs (hP : va_P D vwCl [(h0, .inr (5, [.int x0_count, .ref h0_keys, .ref h0_legs, .ref h0_account, .ref h0_amount, .ref h0_seals, .ref h0_ends, .int x0_synced, .int x0_syncedEnd, .int x0_draft, .ref h0_draftAccount, .ref h0_draftAmount, .ref h0_limits, .ref h0_disk, .int x0_off, .int x0_failing, .int x0_written, .int x0_padded, .ref h0_pad, .ref h0_stack, .ref h0_firsts, .ref h0_others])), (h0_keys, .inl (cA, 76, .inl g0_keys)), (h0_legs, .inl (cA, 76, .inl g0_legs)), (h0_account, .inl (cA, 304, .inl g0_account)), (h0_amount, .inl (cA, 304, .inl g0_amount))] H) (hD : va_D A [(h0, .inr (5, [.int x0_count, .ref h0_keys, .ref h0_legs, .ref h0_account, .ref h0_amount, .ref h0_seals, .ref h0_ends, .int x0_synced, .int x0_syncedEnd, .int x0_draft, .ref h0_draftAccount, .ref h0_draftAmount, .ref h0_limits, .ref h0_disk, .int x0_off, .int x0_failing, .int x0_written, .int x0_padded, .ref h0_pad, .ref h0_stack, .ref h0_firsts, .ref h0_others])), (h0_keys, .inl (cA, 76, .inl g0_keys)), (h0_legs, .inl (cA, 76, .inl g0_legs)), (h0_account, .inl (cA, 304, .inl g0_account)), (h0_amount, .inl (cA, 304, .inl g0_amount))]) hS => ?_)
        refine lv_istore_n (lv' := [(2, .int v11), (0, .ref h0), (1, .int k1), (3, .int k3)]) hx hb dX6_leafOf_51 rfl hl (by decide) rfl (fun ls hl => ?_)
        refine lv_iinc (v := k3 + (1 : Int32)) (lv' := [(3, .int (k3 + (1 : Int32))), (2, .int v11), (0, .ref h0), (1, .int k1)]) hx hb dX6_leafOf_52 hl (k := 3) rfl (congrArg (fun z => k3 + z) (by decide)) (by decide) rfl (fun ls hl => ?_)
        refine lv_goto (tgt := 13) hx hb dX6_leafOf_55 rfl ?_
        exact ih13 _ _ _ k1 v11 (k3 + (1 : Int32)) (lv_sub hl [2, 3, 1, 0] rfl) (hP.sub [0, 1, 2, 3, 4] rfl) (hD.sub [0, 1, 2, 3, 4] (by decide) rfl) hS hf
  rw [fMo_leafOf] at hf
  refine lv_iconst (v := (0 : Int32)) hx hb dX6_leafOf_0 (by decide) ?_
  refine lv_aload_n hx hb dX6_leafOf_1 rfl (lv_at hl 0 rfl) ?_
  refine va_get (D := D) (ci := 5) (v := .ref h0_keys) (C := RX6) (T := TX6) (N := 22) hx hb hts in_X6 hown hK hP 0 rfl rfl 1 (by decide) (hts _ mw_339) (fun _ h9 => h9) rfl dX6_leafOf_2 ?_
  refine lv_iload_n hx hb dX6_leafOf_5 rfl (lv_at hl 1 rfl) ?_
  obtain ⟨v1, e2, hf⟩ := hw_bind hf
  refine hw_iald hx hb hK hP 1 rfl e2 dX6_leafOf_6 ?_
  obtain ⟨v3, e4, hf⟩ := hw_bind hf
  refine hw_goS (wr := [(h0, .inr (5, [.int x0_count, .ref h0_keys, .ref h0_legs, .ref h0_account, .ref h0_amount, .ref h0_seals, .ref h0_ends, .int x0_synced, .int x0_syncedEnd, .int x0_draft, .ref h0_draftAccount, .ref h0_draftAmount, .ref h0_limits, .ref h0_disk, .int x0_off, .int x0_failing, .int x0_written, .int x0_padded, .ref h0_pad, .ref h0_stack, .ref h0_firsts, .ref h0_others])), (h0_keys, .inl (cA, 76, .inl g0_keys)), (h0_legs, .inl (cA, 76, .inl g0_legs)), (h0_account, .inl (cA, 304, .inl g0_account)), (h0_amount, .inl (cA, 304, .inl g0_amount))]) (rest := []) ⟨hx, hb, hml, hown, hts⟩ (cMo_mix l D cA cZ (0 : Int32) v1 v3 e4) (cwS 2 hts ks_X6_55 rfl rfl rfl (by decide +kernel) ⟨Nat.le_of_ble_eq_true rfl, Nat.le_of_ble_eq_true rfl⟩) [] [0, 1, 2, 3, 4] rfl rfl (by decide) (by decide) (by decide) hK hE hP hD hS hA hl.1 rfl rfl (Nat.le_of_ble_eq_true rfl) dX6_leafOf_7 ⟨Nat.zero_le _, Nat.zero_le _⟩ (fun H locs (hP : va_P D vwCl [(h0, .inr (5, [.int x0_count, .ref h0_keys, .ref h0_legs, .ref h0_account, .ref h0_amount, .ref h0_seals, .ref h0_ends, .int x0_synced, .int x0_syncedEnd, .int x0_draft, .ref h0_draftAccount, .ref h0_draftAmount, .ref h0_limits, .ref h0_disk, .int x0_off, .int x0_failing, .int x0_written, .int x0_padded, .ref h0_pad, .ref h0_stack, .ref h0_firsts, .ref h0_others])), (h0_keys, .inl (cA, 76, .inl g0_keys)), (h0_legs, .inl (cA, 76, .inl g0_legs)), (h0_account, .inl (cA, 304, .inl g0_account)), (h0_amount, .inl (cA, 304, .inl g0_amount))] H) (hD : va_D A [(h0, .inr (5, [.int x0_count, .ref h0_keys, .ref h0_legs, .ref h0_account, .ref h0_amount, .ref h0_seals, .ref h0_ends, .int x0_synced, .int x0_syncedEnd, .int x0_draft, .ref h0_draftAccount, .ref h0_draftAmount, .ref h0_limits, .ref h0_disk, .int x0_off, .int x0_failing, .int x0_written, .int x0_padded, .ref h0_pad, .ref h0_stack, .ref h0_firsts, .ref h0_others])), (h0_keys, .inl (cA, 76, .inl g0_keys)), (h0_legs, .inl (cA, 76, .inl g0_legs)), (h0_account, .inl (cA, 304, .inl g0_account)), (h0_amount, .inl (cA, 304, .inl g0_amount))]) hS => ?_)
  refine lv_istore_n (lv' := [(2, .int v3), (0, .ref h0), (1, .int k1)]) hx hb dX6_leafOf_10 rfl hl (by decide) rfl (fun ls hl => ?_)
  refine lv_iconst (v := (0 : Int32)) hx hb dX6_leafOf_11 (by decide) ?_
  refine lv_istore_n (lv' := [(3, .int (0 : Int32)), (2, .int v3), (0, .ref h0), (1, .int k1)]) hx hb dX6_leafOf_12 rfl hl (by decide) rfl (fun ls hl => ?_)
  exact L13 600 _ _ _ k1 v3 (0 : Int32) (lv_sub hl [2, 3, 1, 0] rfl) (hP.sub [0, 1, 2, 3, 4] rfl) (hD.sub [0, 1, 2, 3, 4] (by decide) rfl) hS hf
set_option maxHeartbeats 4000000 in
set_option maxRecDepth 100000 in
theorem cMo_sealOf (l : Launch) (D : va_G) (cA cZ : ClassId) (h0 : Nat) (h0_keys : Nat) (h0_legs : Nat) (h0_account : Nat) (h0_amount : Nat) (h0_seals : Nat) (h0_ends : Nat) (h0_draftAccount : Nat) (h0_draftAmount : Nat) (h0_limits : Nat) (h0_disk : Nat) (h0_pad : Nat) (h0_stack : Nat) (h0_firsts : Nat) (h0_others : Nat) (x0_count : Int32) (x0_synced : Int32) (x0_syncedEnd : Int32) (x0_draft : Int32) (x0_off : Int32) (x0_failing : Int32) (x0_written : Int32) (x0_padded : Int32) (g0_keys : Nat → Int32) (g0_legs : Nat → Int32) (g0_account : Nat → Int32) (g0_amount : Nat → Int32) (g0_seals : Nat → Int32) (k1 : Int32) (rr : Int32) (hf : fMo_sealOf g0_keys g0_legs g0_account g0_amount g0_seals k1 = some rr) : hw_C l yX6_sealOf wX6_sealOf { frames := 2, cells := 0, slots := 0, locals := 46 } D vwCl cA cZ [.ref h0, .int k1] [(h0, .inr (5, [.int x0_count, .ref h0_keys, .ref h0_legs, .ref h0_account, .ref h0_amount, .ref h0_seals, .ref h0_ends, .int x0_synced, .int x0_syncedEnd, .int x0_draft, .ref h0_draftAccount, .ref h0_draftAmount, .ref h0_limits, .ref h0_disk, .int x0_off, .int x0_failing, .int x0_written, .int x0_padded, .ref h0_pad, .ref h0_stack, .ref h0_firsts, .ref h0_others])), (h0_keys, .inl (cA, 76, .inl g0_keys)), (h0_legs, .inl (cA, 76, .inl g0_legs)), (h0_account, .inl (cA, 304, .inl g0_account)), (h0_amount, .inl (cA, 304, .inl g0_amount)), (h0_seals, .inl (cA, 76, .inl g0_seals))] [(h0, .inr (5, [.int x0_count, .ref h0_keys, .ref h0_legs, .ref h0_account, .ref h0_amount, .ref h0_seals, .ref h0_ends, .int x0_synced, .int x0_syncedEnd, .int x0_draft, .ref h0_draftAccount, .ref h0_draftAmount, .ref h0_limits, .ref h0_disk, .int x0_off, .int x0_failing, .int x0_written, .int x0_padded, .ref h0_pad, .ref h0_stack, .ref h0_firsts, .ref h0_others])), (h0_keys, .inl (cA, 76, .inl g0_keys)), (h0_legs, .inl (cA, 76, .inl g0_legs)), (h0_account, .inl (cA, 304, .inl g0_account)), (h0_amount, .inl (cA, 304, .inl g0_amount)), (h0_seals, .inl (cA, 76, .inl g0_seals))] (some (.int rr)) := by
  refine hw_of (cc := cX6_sealOf) (maxL := 2) (ret := (some .int)) (by decide) rfl (Nat.le_of_ble_eq_true rfl) ?_
  intro p e s m args below meth c A ls hx hb hr hlk hml hown hts hA hK hE hP hD hS hl
  have hown : s.vm.findClass RX6 = some m.cls := hown
  have hl : lv_has ls 2 [(0, .ref h0), (1, .int k1)] := hl
  rw [fMo_sealOf] at hf
  refine lv_iload_n hx hb dX6_sealOf_0 rfl (lv_at hl 1 rfl) ?_
  refine hi_if_ne (tgt := 8) hx hb dX6_sealOf_1 rfl hf (fun hc hf => ?_) (fun hc hf => ?_)
  · refine lv_aload_n hx hb dX6_sealOf_8 rfl (lv_at hl 0 rfl) ?_
    refine va_get (D := D) (ci := 5) (v := .ref h0_seals) (C := RX6) (T := TX6) (N := 22) hx hb hts in_X6 hown hK hP 0 rfl rfl 5 (by decide) (hts _ mw_343) (fun _ h9 => h9) rfl dX6_sealOf_9 ?_
    refine lv_iload_n hx hb dX6_sealOf_12 rfl (lv_at hl 1 rfl) ?_
    refine lv_iconst (v := (1 : Int32)) hx hb dX6_sealOf_13 (by decide) ?_
    refine lv_isub hx hb dX6_sealOf_14 ?_
    obtain ⟨v1, e2, hf⟩ := hw_bind hf
    refine hw_iald hx hb hK hP 5 rfl e2 dX6_sealOf_15 ?_
    refine lv_aload_n hx hb dX6_sealOf_16 rfl (lv_at hl 0 rfl) ?_
    refine lv_iload_n hx hb dX6_sealOf_17 rfl (lv_at hl 1 rfl) ?_
    obtain ⟨v3, e4, hf⟩ := hw_bind hf
    refine hw_goV (wr := [(h0_seals, .inl (cA, 76, .inl g0_seals))]) (rest := [.int v1]) ⟨hx, hb, hml, hown, hts⟩ (cMo_leafOf l D cA cZ h0 h0_keys h0_legs h0_account h0_amount h0_seals h0_ends h0_draftAccount h0_draftAmount h0_limits h0_disk h0_pad h0_stack h0_firsts h0_others x0_count x0_synced x0_syncedEnd x0_draft x0_off x0_failing x0_written x0_padded g0_keys g0_legs g0_account g0_amount k1 v3 e4) (cwV 1 hts ks_X6_72 rfl rfl rfl (by decide +kernel) ⟨Nat.le_of_ble_eq_true rfl, Nat.le_of_ble_eq_true rfl⟩) 0 rfl rfl [0, 1, 2, 3, 4] [5] rfl rfl (by decide) (by decide) (by decide) hK hE hP hD hS hA hl.1 rfl rfl (Nat.le_of_ble_eq_true rfl) dX6_sealOf_18 ⟨Nat.zero_le _, Nat.zero_le _⟩ (fun H locs (hP : va_P D vwCl [(h0_seals, .inl (cA, 76, .inl g0_seals)), (h0, .inr (5, [.int x0_count, .ref h0_keys, .ref h0_legs, .ref h0_account, .ref h0_amount, .ref h0_seals, .ref h0_ends, .int x0_synced, .int x0_syncedEnd, .int x0_draft, .ref h0_draftAccount, .ref h0_draftAmount, .ref h0_limits, .ref h0_disk, .int x0_off, .int x0_failing, .int x0_written, .int x0_padded, .ref h0_pad, .ref h0_stack, .ref h0_firsts, .ref h0_others])), (h0_keys, .inl (cA, 76, .inl g0_keys)), (h0_legs, .inl (cA, 76, .inl g0_legs)), (h0_account, .inl (cA, 304, .inl g0_account)), (h0_amount, .inl (cA, 304, .inl g0_amount))] H) (hD : va_D A [(h0_seals, .inl (cA, 76, .inl g0_seals)), (h0, .inr (5, [.int x0_count, .ref h0_keys, .ref h0_legs, .ref h0_account, .ref h0_amount, .ref h0_seals, .ref h0_ends, .int x0_synced, .int x0_syncedEnd, .int x0_draft, .ref h0_draftAccount, .ref h0_draftAmount, .ref h0_limits, .ref h0_disk, .int x0_off, .int x0_failing, .int x0_written, .int x0_padded, .ref h0_pad, .ref h0_stack, .ref h0_firsts, .ref h0_others])), (h0_keys, .inl (cA, 76, .inl g0_keys)), (h0_legs, .inl (cA, 76, .inl g0_legs)), (h0_account, .inl (cA, 304, .inl g0_account)), (h0_amount, .inl (cA, 304, .inl g0_amount))]) hS => ?_)
    obtain ⟨v5, e6, hf⟩ := hw_bind hf
    refine hw_goS (wr := [(h0_seals, .inl (cA, 76, .inl g0_seals)), (h0, .inr (5, [.int x0_count, .ref h0_keys, .ref h0_legs, .ref h0_account, .ref h0_amount, .ref h0_seals, .ref h0_ends, .int x0_synced, .int x0_syncedEnd, .int x0_draft, .ref h0_draftAccount, .ref h0_draftAmount, .ref h0_limits, .ref h0_disk, .int x0_off, .int x0_failing, .int x0_written, .int x0_padded, .ref h0_pad, .ref h0_stack, .ref h0_firsts, .ref h0_others])), (h0_keys, .inl (cA, 76, .inl g0_keys)), (h0_legs, .inl (cA, 76, .inl g0_legs)), (h0_account, .inl (cA, 304, .inl g0_account)), (h0_amount, .inl (cA, 304, .inl g0_amount))]) (rest := []) ⟨hx, hb, hml, hown, hts⟩ (cMo_mix l D cA cZ v1 v3 v5 e6) (cwS 2 hts ks_X6_55 rfl rfl rfl (by decide +kernel) ⟨Nat.le_of_ble_eq_true rfl, Nat.le_of_ble_eq_true rfl⟩) [] [0, 1, 2, 3, 4, 5] rfl rfl (by decide) (by decide) (by decide) hK hE hP hD hS hA hl.1 rfl rfl (Nat.le_of_ble_eq_true rfl) dX6_sealOf_21 ⟨Nat.zero_le _, Nat.zero_le _⟩ (fun H locs (hP : va_P D vwCl [(h0_seals, .inl (cA, 76, .inl g0_seals)), (h0, .inr (5, [.int x0_count, .ref h0_keys, .ref h0_legs, .ref h0_account, .ref h0_amount, .ref h0_seals, .ref h0_ends, .int x0_synced, .int x0_syncedEnd, .int x0_draft, .ref h0_draftAccount, .ref h0_draftAmount, .ref h0_limits, .ref h0_disk, .int x0_off, .int x0_failing, .int x0_written, .int x0_padded, .ref h0_pad, .ref h0_stack, .ref h0_firsts, .ref h0_others])), (h0_keys, .inl (cA, 76, .inl g0_keys)), (h0_legs, .inl (cA, 76, .inl g0_legs)), (h0_account, .inl (cA, 304, .inl g0_account)), (h0_amount, .inl (cA, 304, .inl g0_amount))] H) (hD : va_D A [(h0_seals, .inl (cA, 76, .inl g0_seals)), (h0, .inr (5, [.int x0_count, .ref h0_keys, .ref h0_legs, .ref h0_account, .ref h0_amount, .ref h0_seals, .ref h0_ends, .int x0_synced, .int x0_syncedEnd, .int x0_draft, .ref h0_draftAccount, .ref h0_draftAmount, .ref h0_limits, .ref h0_disk, .int x0_off, .int x0_failing, .int x0_written, .int x0_padded, .ref h0_pad, .ref h0_stack, .ref h0_firsts, .ref h0_others])), (h0_keys, .inl (cA, 76, .inl g0_keys)), (h0_legs, .inl (cA, 76, .inl g0_legs)), (h0_account, .inl (cA, 304, .inl g0_account)), (h0_amount, .inl (cA, 304, .inl g0_amount))]) hS => ?_)
    cases hf
    exact hw_ri hx hb hr hlk (hP.sub [1, 2, 3, 4, 5, 0] rfl) (hD.sub [1, 2, 3, 4, 5, 0] (by decide) rfl) hS dX6_sealOf_24
  · refine lv_iconst (v := (0 : Int32)) hx hb dX6_sealOf_4 (by decide) ?_
    refine lv_goto (tgt := 16) hx hb dX6_sealOf_5 rfl ?_
    refine lv_aload_n hx hb dX6_sealOf_16 rfl (lv_at hl 0 rfl) ?_
    refine lv_iload_n hx hb dX6_sealOf_17 rfl (lv_at hl 1 rfl) ?_
    obtain ⟨v7, e8, hf⟩ := hw_bind hf
    refine hw_goV (wr := [(h0_seals, .inl (cA, 76, .inl g0_seals))]) (rest := [.int (0 : Int32)]) ⟨hx, hb, hml, hown, hts⟩ (cMo_leafOf l D cA cZ h0 h0_keys h0_legs h0_account h0_amount h0_seals h0_ends h0_draftAccount h0_draftAmount h0_limits h0_disk h0_pad h0_stack h0_firsts h0_others x0_count x0_synced x0_syncedEnd x0_draft x0_off x0_failing x0_written x0_padded g0_keys g0_legs g0_account g0_amount k1 v7 e8) (cwV 1 hts ks_X6_72 rfl rfl rfl (by decide +kernel) ⟨Nat.le_of_ble_eq_true rfl, Nat.le_of_ble_eq_true rfl⟩) 0 rfl rfl [0, 1, 2, 3, 4] [5] rfl rfl (by decide) (by decide) (by decide) hK hE hP hD hS hA hl.1 rfl rfl (Nat.le_of_ble_eq_true rfl) dX6_sealOf_18 ⟨Nat.zero_le _, Nat.zero_le _⟩ (fun H locs (hP : va_P D vwCl [(h0_seals, .inl (cA, 76, .inl g0_seals)), (h0, .inr (5, [.int x0_count, .ref h0_keys, .ref h0_legs, .ref h0_account, .ref h0_amount, .ref h0_seals, .ref h0_ends, .int x0_synced, .int x0_syncedEnd, .int x0_draft, .ref h0_draftAccount, .ref h0_draftAmount, .ref h0_limits, .ref h0_disk, .int x0_off, .int x0_failing, .int x0_written, .int x0_padded, .ref h0_pad, .ref h0_stack, .ref h0_firsts, .ref h0_others])), (h0_keys, .inl (cA, 76, .inl g0_keys)), (h0_legs, .inl (cA, 76, .inl g0_legs)), (h0_account, .inl (cA, 304, .inl g0_account)), (h0_amount, .inl (cA, 304, .inl g0_amount))] H) (hD : va_D A [(h0_seals, .inl (cA, 76, .inl g0_seals)), (h0, .inr (5, [.int x0_count, .ref h0_keys, .ref h0_legs, .ref h0_account, .ref h0_amount, .ref h0_seals, .ref h0_ends, .int x0_synced, .int x0_syncedEnd, .int x0_draft, .ref h0_draftAccount, .ref h0_draftAmount, .ref h0_limits, .ref h0_disk, .int x0_off, .int x0_failing, .int x0_written, .int x0_padded, .ref h0_pad, .ref h0_stack, .ref h0_firsts, .ref h0_others])), (h0_keys, .inl (cA, 76, .inl g0_keys)), (h0_legs, .inl (cA, 76, .inl g0_legs)), (h0_account, .inl (cA, 304, .inl g0_account)), (h0_amount, .inl (cA, 304, .inl g0_amount))]) hS => ?_)
    obtain ⟨v9, e10, hf⟩ := hw_bind hf
    refine hw_goS (wr := [(h0_seals, .inl (cA, 76, .inl g0_seals)), (h0, .inr (5, [.int x0_count, .ref h0_keys, .ref h0_legs, .ref h0_account, .ref h0_amount, .ref h0_seals, .ref h0_ends, .int x0_synced, .int x0_syncedEnd, .int x0_draft, .ref h0_draftAccount, .ref h0_draftAmount, .ref h0_limits, .ref h0_disk, .int x0_off, .int x0_failing, .int x0_written, .int x0_padded, .ref h0_pad, .ref h0_stack, .ref h0_firsts, .ref h0_others])), (h0_keys, .inl (cA, 76, .inl g0_keys)), (h0_legs, .inl (cA, 76, .inl g0_legs)), (h0_account, .inl (cA, 304, .inl g0_account)), (h0_amount, .inl (cA, 304, .inl g0_amount))]) (rest := []) ⟨hx, hb, hml, hown, hts⟩ (cMo_mix l D cA cZ (0 : Int32) v7 v9 e10) (cwS 2 hts ks_X6_55 rfl rfl rfl (by decide +kernel) ⟨Nat.le_of_ble_eq_true rfl, Nat.le_of_ble_eq_true rfl⟩) [] [0, 1, 2, 3, 4, 5] rfl rfl (by decide) (by decide) (by decide) hK hE hP hD hS hA hl.1 rfl rfl (Nat.le_of_ble_eq_true rfl) dX6_sealOf_21 ⟨Nat.zero_le _, Nat.zero_le _⟩ (fun H locs (hP : va_P D vwCl [(h0_seals, .inl (cA, 76, .inl g0_seals)), (h0, .inr (5, [.int x0_count, .ref h0_keys, .ref h0_legs, .ref h0_account, .ref h0_amount, .ref h0_seals, .ref h0_ends, .int x0_synced, .int x0_syncedEnd, .int x0_draft, .ref h0_draftAccount, .ref h0_draftAmount, .ref h0_limits, .ref h0_disk, .int x0_off, .int x0_failing, .int x0_written, .int x0_padded, .ref h0_pad, .ref h0_stack, .ref h0_firsts, .ref h0_others])), (h0_keys, .inl (cA, 76, .inl g0_keys)), (h0_legs, .inl (cA, 76, .inl g0_legs)), (h0_account, .inl (cA, 304, .inl g0_account)), (h0_amount, .inl (cA, 304, .inl g0_amount))] H) (hD : va_D A [(h0_seals, .inl (cA, 76, .inl g0_seals)), (h0, .inr (5, [.int x0_count, .ref h0_keys, .ref h0_legs, .ref h0_account, .ref h0_amount, .ref h0_seals, .ref h0_ends, .int x0_synced, .int x0_syncedEnd, .int x0_draft, .ref h0_draftAccount, .ref h0_draftAmount, .ref h0_limits, .ref h0_disk, .int x0_off, .int x0_failing, .int x0_written, .int x0_padded, .ref h0_pad, .ref h0_stack, .ref h0_firsts, .ref h0_others])), (h0_keys, .inl (cA, 76, .inl g0_keys)), (h0_legs, .inl (cA, 76, .inl g0_legs)), (h0_account, .inl (cA, 304, .inl g0_account)), (h0_amount, .inl (cA, 304, .inl g0_amount))]) hS => ?_)
    cases hf
    exact hw_ri hx hb hr hlk (hP.sub [1, 2, 3, 4, 5, 0] rfl) (hD.sub [1, 2, 3, 4, 5, 0] (by decide) rfl) hS dX6_sealOf_24
set_option maxHeartbeats 4000000 in
set_option maxRecDepth 100000 in
theorem cMo_sameLegs (l : Launch) (D : va_G) (cA cZ : ClassId) (h0 : Nat) (h0_keys : Nat) (h0_legs : Nat) (h0_account : Nat) (h0_amount : Nat) (h0_seals : Nat) (h0_ends : Nat) (h0_draftAccount : Nat) (h0_draftAmount : Nat) (h0_limits : Nat) (h0_disk : Nat) (h0_pad : Nat) (h0_stack : Nat) (h0_firsts : Nat) (h0_others : Nat) (x0_count : Int32) (x0_synced : Int32) (x0_syncedEnd : Int32) (x0_draft : Int32) (x0_off : Int32) (x0_failing : Int32) (x0_written : Int32) (x0_padded : Int32) (g0_legs : Nat → Int32) (g0_account : Nat → Int32) (g0_amount : Nat → Int32) (g0_draftAccount : Nat → Int32) (g0_draftAmount : Nat → Int32) (k1 : Int32) (rr : Int32) (hf : fMo_sameLegs x0_draft g0_legs g0_account g0_amount g0_draftAccount g0_draftAmount k1 = some rr) : hw_C l yX6_sameLegs wX6_sameLegs { frames := 0, cells := 0, slots := 0, locals := 0 } D vwCl cA cZ [.ref h0, .int k1] [(h0, .inr (5, [.int x0_count, .ref h0_keys, .ref h0_legs, .ref h0_account, .ref h0_amount, .ref h0_seals, .ref h0_ends, .int x0_synced, .int x0_syncedEnd, .int x0_draft, .ref h0_draftAccount, .ref h0_draftAmount, .ref h0_limits, .ref h0_disk, .int x0_off, .int x0_failing, .int x0_written, .int x0_padded, .ref h0_pad, .ref h0_stack, .ref h0_firsts, .ref h0_others])), (h0_legs, .inl (cA, 76, .inl g0_legs)), (h0_account, .inl (cA, 304, .inl g0_account)), (h0_amount, .inl (cA, 304, .inl g0_amount)), (h0_draftAccount, .inl (cA, 4, .inl g0_draftAccount)), (h0_draftAmount, .inl (cA, 4, .inl g0_draftAmount))] [(h0, .inr (5, [.int x0_count, .ref h0_keys, .ref h0_legs, .ref h0_account, .ref h0_amount, .ref h0_seals, .ref h0_ends, .int x0_synced, .int x0_syncedEnd, .int x0_draft, .ref h0_draftAccount, .ref h0_draftAmount, .ref h0_limits, .ref h0_disk, .int x0_off, .int x0_failing, .int x0_written, .int x0_padded, .ref h0_pad, .ref h0_stack, .ref h0_firsts, .ref h0_others])), (h0_legs, .inl (cA, 76, .inl g0_legs)), (h0_account, .inl (cA, 304, .inl g0_account)), (h0_amount, .inl (cA, 304, .inl g0_amount)), (h0_draftAccount, .inl (cA, 4, .inl g0_draftAccount)), (h0_draftAmount, .inl (cA, 4, .inl g0_draftAmount))] (some (.int rr)) := by
  refine hw_of (cc := cX6_sameLegs) (maxL := 4) (ret := (some .boolean)) (by decide) rfl (Nat.le_of_ble_eq_true rfl) ?_
  intro p e s m args below meth c A ls hx hb hr hlk hml hown hts hA hK hE hP hD hS hl
  have hown : s.vm.findClass RX6 = some m.cls := hown
  have hl : lv_has ls 4 [(0, .ref h0), (1, .int k1)] := hl
  have L21 : ∀ (n21 : Nat) (ls : Array Slot) (H : Heap) (locs : List Loc) (k1 : Int32) (k2 : Int32) (k3 : Int32), lv_has ls 4 [(0, .ref h0), (1, .int k1), (2, .int k2), (3, .int k3)] → va_P D vwCl [(h0, .inr (5, [.int x0_count, .ref h0_keys, .ref h0_legs, .ref h0_account, .ref h0_amount, .ref h0_seals, .ref h0_ends, .int x0_synced, .int x0_syncedEnd, .int x0_draft, .ref h0_draftAccount, .ref h0_draftAmount, .ref h0_limits, .ref h0_disk, .int x0_off, .int x0_failing, .int x0_written, .int x0_padded, .ref h0_pad, .ref h0_stack, .ref h0_firsts, .ref h0_others])), (h0_legs, .inl (cA, 76, .inl g0_legs)), (h0_account, .inl (cA, 304, .inl g0_account)), (h0_amount, .inl (cA, 304, .inl g0_amount)), (h0_draftAccount, .inl (cA, 4, .inl g0_draftAccount)), (h0_draftAmount, .inl (cA, 4, .inl g0_draftAmount))] H → va_D A [(h0, .inr (5, [.int x0_count, .ref h0_keys, .ref h0_legs, .ref h0_account, .ref h0_amount, .ref h0_seals, .ref h0_ends, .int x0_synced, .int x0_syncedEnd, .int x0_draft, .ref h0_draftAccount, .ref h0_draftAmount, .ref h0_limits, .ref h0_disk, .int x0_off, .int x0_failing, .int x0_written, .int x0_padded, .ref h0_pad, .ref h0_stack, .ref h0_firsts, .ref h0_others])), (h0_legs, .inl (cA, 76, .inl g0_legs)), (h0_account, .inl (cA, 304, .inl g0_account)), (h0_amount, .inl (cA, 304, .inl g0_amount)), (h0_draftAccount, .inl (cA, 4, .inl g0_draftAccount)), (h0_draftAmount, .inl (cA, 4, .inl g0_draftAmount))] → va_S A s.heap H locs → fMo_sameLegs_L21 x0_draft g0_legs g0_account g0_amount g0_draftAccount g0_draftAmount k1 n21 k2 k3 = some rr → W p l e { frames := 0, cells := 0, slots := 0, locals := 0 } s m args below meth c H locs 0 0 (hw_Z below args s D vwCl A [(h0, .inr (5, [.int x0_count, .ref h0_keys, .ref h0_legs, .ref h0_account, .ref h0_amount, .ref h0_seals, .ref h0_ends, .int x0_synced, .int x0_syncedEnd, .int x0_draft, .ref h0_draftAccount, .ref h0_draftAmount, .ref h0_limits, .ref h0_disk, .int x0_off, .int x0_failing, .int x0_written, .int x0_padded, .ref h0_pad, .ref h0_stack, .ref h0_firsts, .ref h0_others])), (h0_legs, .inl (cA, 76, .inl g0_legs)), (h0_account, .inl (cA, 304, .inl g0_account)), (h0_amount, .inl (cA, 304, .inl g0_amount)), (h0_draftAccount, .inl (cA, 4, .inl g0_draftAccount)), (h0_draftAmount, .inl (cA, 4, .inl g0_draftAmount))] (some (.int rr))) (F0 m 21 ls []) := by
    intro n21
    induction n21 with
    | zero => intro ls H locs k1 k2 k3 hl hP hD hS hf; simp only [fMo_sameLegs_L21] at hf; cases hf
    | succ n21 ih21 =>
      intro ls H locs k1 k2 k3 hl hP hD hS hf
      rw [fMo_sameLegs_L21] at hf
      refine lv_iload_n hx hb dX6_sameLegs_21 rfl (lv_at hl 3 rfl) ?_
      refine lv_aload_n hx hb dX6_sameLegs_22 rfl (lv_at hl 0 rfl) ?_
      refine va_get (D := D) (ci := 5) (v := .int x0_draft) (C := RX6) (T := TX6) (N := 22) hx hb hts in_X6 hown hK hP 0 rfl rfl 9 (by decide) (hts _ mw_368) (fun _ h9 => h9) rfl dX6_sameLegs_23 ?_
      refine hi_icmp_ge (tgt := 83) hx hb dX6_sameLegs_26 rfl hf (fun hc hf => ?_) (fun hc hf => ?_)
      · refine lv_iload_n hx hb dX6_sameLegs_83 rfl (lv_at hl 2 rfl) ?_
        obtain ⟨v4, e3, hf⟩ := hw_bind hf
        cases hf
        exact hw_rz hx hb hr hlk (hw_z_some e3).2 (hP.sub [0, 1, 2, 3, 4, 5] rfl) (hD.sub [0, 1, 2, 3, 4, 5] (by decide) rfl) hS dX6_sameLegs_84
      · refine lv_iload_n hx hb dX6_sameLegs_29 rfl (lv_at hl 2 rfl) ?_
        refine hi_if_eq (tgt := 75) hx hb dX6_sameLegs_30 rfl hf (fun hc hf => ?_) (fun hc hf => ?_)
        · refine lv_iconst (v := (0 : Int32)) hx hb dX6_sameLegs_75 (by decide) ?_
          refine lv_istore_n (lv' := [(2, .int (0 : Int32)), (0, .ref h0), (1, .int k1), (3, .int k3)]) hx hb dX6_sameLegs_76 rfl hl (by decide) rfl (fun ls hl => ?_)
          refine lv_iinc (v := k3 + (1 : Int32)) (lv' := [(3, .int (k3 + (1 : Int32))), (2, .int (0 : Int32)), (0, .ref h0), (1, .int k1)]) hx hb dX6_sameLegs_77 hl (k := 3) rfl (congrArg (fun z => k3 + z) (by decide)) (by decide) rfl (fun ls hl => ?_)
          refine lv_goto (tgt := 21) hx hb dX6_sameLegs_80 rfl ?_
          exact ih21 _ _ _ k1 (0 : Int32) (k3 + (1 : Int32)) (lv_sub hl [2, 3, 1, 0] rfl) (hP.sub [0, 1, 2, 3, 4, 5] rfl) (hD.sub [0, 1, 2, 3, 4, 5] (by decide) rfl) hS hf
        · refine lv_aload_n hx hb dX6_sameLegs_33 rfl (lv_at hl 0 rfl) ?_
          refine va_get (D := D) (ci := 5) (v := .ref h0_account) (C := RX6) (T := TX6) (N := 22) hx hb hts in_X6 hown hK hP 0 rfl rfl 3 (by decide) (hts _ mw_341) (fun _ h9 => h9) rfl dX6_sameLegs_34 ?_
          refine lv_iconst (v := (4 : Int32)) hx hb dX6_sameLegs_37 (by decide) ?_
          refine lv_iload_n hx hb dX6_sameLegs_38 rfl (lv_at hl 1 rfl) ?_
          refine lv_imul hx hb dX6_sameLegs_39 ?_
          refine lv_iload_n hx hb dX6_sameLegs_40 rfl (lv_at hl 3 rfl) ?_
          refine lv_iadd hx hb dX6_sameLegs_41 ?_
          obtain ⟨v5, e6, hf⟩ := hw_bind hf
          refine hw_iald hx hb hK hP 2 rfl e6 dX6_sameLegs_42 ?_
          refine lv_aload_n hx hb dX6_sameLegs_43 rfl (lv_at hl 0 rfl) ?_
          refine va_get (D := D) (ci := 5) (v := .ref h0_draftAccount) (C := RX6) (T := TX6) (N := 22) hx hb hts in_X6 hown hK hP 0 rfl rfl 10 (by decide) (hts _ mw_345) (fun _ h9 => h9) rfl dX6_sameLegs_44 ?_
          refine lv_iload_n hx hb dX6_sameLegs_47 rfl (lv_at hl 3 rfl) ?_
          obtain ⟨v7, e8, hf⟩ := hw_bind hf
          refine hw_iald hx hb hK hP 4 rfl e8 dX6_sameLegs_48 ?_
          refine hi_icmp_ne (tgt := 75) hx hb dX6_sameLegs_49 rfl hf (fun hc hf => ?_) (fun hc hf => ?_)
          · refine lv_iconst (v := (0 : Int32)) hx hb dX6_sameLegs_75 (by decide) ?_
            refine lv_istore_n (lv' := [(2, .int (0 : Int32)), (0, .ref h0), (1, .int k1), (3, .int k3)]) hx hb dX6_sameLegs_76 rfl hl (by decide) rfl (fun ls hl => ?_)
            refine lv_iinc (v := k3 + (1 : Int32)) (lv' := [(3, .int (k3 + (1 : Int32))), (2, .int (0 : Int32)), (0, .ref h0), (1, .int k1)]) hx hb dX6_sameLegs_77 hl (k := 3) rfl (congrArg (fun z => k3 + z) (by decide)) (by decide) rfl (fun ls hl => ?_)
            refine lv_goto (tgt := 21) hx hb dX6_sameLegs_80 rfl ?_
            exact ih21 _ _ _ k1 (0 : Int32) (k3 + (1 : Int32)) (lv_sub hl [2, 3, 1, 0] rfl) (hP.sub [0, 1, 2, 3, 4, 5] rfl) (hD.sub [0, 1, 2, 3, 4, 5] (by decide) rfl) hS hf
          · refine lv_aload_n hx hb dX6_sameLegs_52 rfl (lv_at hl 0 rfl) ?_
            refine va_get (D := D) (ci := 5) (v := .ref h0_amount) (C := RX6) (T := TX6) (N := 22) hx hb hts in_X6 hown hK hP 0 rfl rfl 4 (by decide) (hts _ mw_342) (fun _ h9 => h9) rfl dX6_sameLegs_53 ?_
            refine lv_iconst (v := (4 : Int32)) hx hb dX6_sameLegs_56 (by decide) ?_
            refine lv_iload_n hx hb dX6_sameLegs_57 rfl (lv_at hl 1 rfl) ?_
            refine lv_imul hx hb dX6_sameLegs_58 ?_
            refine lv_iload_n hx hb dX6_sameLegs_59 rfl (lv_at hl 3 rfl) ?_
            refine lv_iadd hx hb dX6_sameLegs_60 ?_
            obtain ⟨v9, e10, hf⟩ := hw_bind hf
            refine hw_iald hx hb hK hP 3 rfl e10 dX6_sameLegs_61 ?_
            refine lv_aload_n hx hb dX6_sameLegs_62 rfl (lv_at hl 0 rfl) ?_
            refine va_get (D := D) (ci := 5) (v := .ref h0_draftAmount) (C := RX6) (T := TX6) (N := 22) hx hb hts in_X6 hown hK hP 0 rfl rfl 11 (by decide) (hts _ mw_346) (fun _ h9 => h9) rfl dX6_sameLegs_63 ?_
            refine lv_iload_n hx hb dX6_sameLegs_66 rfl (lv_at hl 3 rfl) ?_
            obtain ⟨v11, e12, hf⟩ := hw_bind hf
            refine hw_iald hx hb hK hP 5 rfl e12 dX6_sameLegs_67 ?_
            refine hi_icmp_ne (tgt := 75) hx hb dX6_sameLegs_68 rfl hf (fun hc hf => ?_) (fun hc hf => ?_)
            · refine lv_iconst (v := (0 : Int32)) hx hb dX6_sameLegs_75 (by decide) ?_
              refine lv_istore_n (lv' := [(2, .int (0 : Int32)), (0, .ref h0), (1, .int k1), (3, .int k3)]) hx hb dX6_sameLegs_76 rfl hl (by decide) rfl (fun ls hl => ?_)
              refine lv_iinc (v := k3 + (1 : Int32)) (lv' := [(3, .int (k3 + (1 : Int32))), (2, .int (0 : Int32)), (0, .ref h0), (1, .int k1)]) hx hb dX6_sameLegs_77 hl (k := 3) rfl (congrArg (fun z => k3 + z) (by decide)) (by decide) rfl (fun ls hl => ?_)
              refine lv_goto (tgt := 21) hx hb dX6_sameLegs_80 rfl ?_
              exact ih21 _ _ _ k1 (0 : Int32) (k3 + (1 : Int32)) (lv_sub hl [2, 3, 1, 0] rfl) (hP.sub [0, 1, 2, 3, 4, 5] rfl) (hD.sub [0, 1, 2, 3, 4, 5] (by decide) rfl) hS hf
            · refine lv_iconst (v := (1 : Int32)) hx hb dX6_sameLegs_71 (by decide) ?_
              refine lv_goto (tgt := 76) hx hb dX6_sameLegs_72 rfl ?_
              refine lv_istore_n (lv' := [(2, .int (1 : Int32)), (0, .ref h0), (1, .int k1), (3, .int k3)]) hx hb dX6_sameLegs_76 rfl hl (by decide) rfl (fun ls hl => ?_)
              refine lv_iinc (v := k3 + (1 : Int32)) (lv' := [(3, .int (k3 + (1 : Int32))), (2, .int (1 : Int32)), (0, .ref h0), (1, .int k1)]) hx hb dX6_sameLegs_77 hl (k := 3) rfl (congrArg (fun z => k3 + z) (by decide)) (by decide) rfl (fun ls hl => ?_)
              refine lv_goto (tgt := 21) hx hb dX6_sameLegs_80 rfl ?_
              exact ih21 _ _ _ k1 (1 : Int32) (k3 + (1 : Int32)) (lv_sub hl [2, 3, 1, 0] rfl) (hP.sub [0, 1, 2, 3, 4, 5] rfl) (hD.sub [0, 1, 2, 3, 4, 5] (by decide) rfl) hS hf
  rw [fMo_sameLegs] at hf
  refine lv_aload_n hx hb dX6_sameLegs_0 rfl (lv_at hl 0 rfl) ?_
  refine va_get (D := D) (ci := 5) (v := .ref h0_legs) (C := RX6) (T := TX6) (N := 22) hx hb hts in_X6 hown hK hP 0 rfl rfl 2 (by decide) (hts _ mw_340) (fun _ h9 => h9) rfl dX6_sameLegs_1 ?_
  refine lv_iload_n hx hb dX6_sameLegs_4 rfl (lv_at hl 1 rfl) ?_
  obtain ⟨v1, e2, hf⟩ := hw_bind hf
  refine hw_iald hx hb hK hP 1 rfl e2 dX6_sameLegs_5 ?_
  refine lv_aload_n hx hb dX6_sameLegs_6 rfl (lv_at hl 0 rfl) ?_
  refine va_get (D := D) (ci := 5) (v := .int x0_draft) (C := RX6) (T := TX6) (N := 22) hx hb hts in_X6 hown hK hP 0 rfl rfl 9 (by decide) (hts _ mw_368) (fun _ h9 => h9) rfl dX6_sameLegs_7 ?_
  refine hi_icmp_ne (tgt := 17) hx hb dX6_sameLegs_10 rfl hf (fun hc hf => ?_) (fun hc hf => ?_)
  · refine lv_iconst (v := (0 : Int32)) hx hb dX6_sameLegs_17 (by decide) ?_
    refine lv_istore_n (lv' := [(2, .int (0 : Int32)), (0, .ref h0), (1, .int k1)]) hx hb dX6_sameLegs_18 rfl hl (by decide) rfl (fun ls hl => ?_)
    refine lv_iconst (v := (0 : Int32)) hx hb dX6_sameLegs_19 (by decide) ?_
    refine lv_istore_n (lv' := [(3, .int (0 : Int32)), (2, .int (0 : Int32)), (0, .ref h0), (1, .int k1)]) hx hb dX6_sameLegs_20 rfl hl (by decide) rfl (fun ls hl => ?_)
    exact L21 600 _ _ _ k1 (0 : Int32) (0 : Int32) (lv_sub hl [2, 3, 1, 0] rfl) (hP.sub [0, 1, 2, 3, 4, 5] rfl) (hD.sub [0, 1, 2, 3, 4, 5] (by decide) rfl) hS hf
  · refine lv_iconst (v := (1 : Int32)) hx hb dX6_sameLegs_13 (by decide) ?_
    refine lv_goto (tgt := 18) hx hb dX6_sameLegs_14 rfl ?_
    refine lv_istore_n (lv' := [(2, .int (1 : Int32)), (0, .ref h0), (1, .int k1)]) hx hb dX6_sameLegs_18 rfl hl (by decide) rfl (fun ls hl => ?_)
    refine lv_iconst (v := (0 : Int32)) hx hb dX6_sameLegs_19 (by decide) ?_
    refine lv_istore_n (lv' := [(3, .int (0 : Int32)), (2, .int (1 : Int32)), (0, .ref h0), (1, .int k1)]) hx hb dX6_sameLegs_20 rfl hl (by decide) rfl (fun ls hl => ?_)
    exact L21 600 _ _ _ k1 (1 : Int32) (0 : Int32) (lv_sub hl [2, 3, 1, 0] rfl) (hP.sub [0, 1, 2, 3, 4, 5] rfl) (hD.sub [0, 1, 2, 3, 4, 5] (by decide) rfl) hS hf
set_option maxHeartbeats 4000000 in
set_option maxRecDepth 100000 in
theorem cMo_total (l : Launch) (D : va_G) (cA cZ : ClassId) (h0 : Nat) (h0_keys : Nat) (h0_legs : Nat) (h0_account : Nat) (h0_amount : Nat) (h0_seals : Nat) (h0_ends : Nat) (h0_draftAccount : Nat) (h0_draftAmount : Nat) (h0_limits : Nat) (h0_disk : Nat) (h0_pad : Nat) (h0_stack : Nat) (h0_firsts : Nat) (h0_others : Nat) (x0_count : Int32) (x0_synced : Int32) (x0_syncedEnd : Int32) (x0_draft : Int32) (x0_off : Int32) (x0_failing : Int32) (x0_written : Int32) (x0_padded : Int32) (g0_draftAmount : Nat → Int32) (rr : Int32) (hf : fMo_total x0_draft g0_draftAmount = some rr) : hw_C l yX6_total wX6_total { frames := 0, cells := 0, slots := 0, locals := 0 } D vwCl cA cZ [.ref h0] [(h0, .inr (5, [.int x0_count, .ref h0_keys, .ref h0_legs, .ref h0_account, .ref h0_amount, .ref h0_seals, .ref h0_ends, .int x0_synced, .int x0_syncedEnd, .int x0_draft, .ref h0_draftAccount, .ref h0_draftAmount, .ref h0_limits, .ref h0_disk, .int x0_off, .int x0_failing, .int x0_written, .int x0_padded, .ref h0_pad, .ref h0_stack, .ref h0_firsts, .ref h0_others])), (h0_draftAmount, .inl (cA, 4, .inl g0_draftAmount))] [(h0, .inr (5, [.int x0_count, .ref h0_keys, .ref h0_legs, .ref h0_account, .ref h0_amount, .ref h0_seals, .ref h0_ends, .int x0_synced, .int x0_syncedEnd, .int x0_draft, .ref h0_draftAccount, .ref h0_draftAmount, .ref h0_limits, .ref h0_disk, .int x0_off, .int x0_failing, .int x0_written, .int x0_padded, .ref h0_pad, .ref h0_stack, .ref h0_firsts, .ref h0_others])), (h0_draftAmount, .inl (cA, 4, .inl g0_draftAmount))] (some (.int rr)) := by
  refine hw_of (cc := cX6_total) (maxL := 3) (ret := (some .int)) (by decide) rfl (Nat.le_of_ble_eq_true rfl) ?_
  intro p e s m args below meth c A ls hx hb hr hlk hml hown hts hA hK hE hP hD hS hl
  have hown : s.vm.findClass RX6 = some m.cls := hown
  have hl : lv_has ls 3 [(0, .ref h0)] := hl
  have L4 : ∀ (n4 : Nat) (ls : Array Slot) (H : Heap) (locs : List Loc) (k1 : Int32) (k2 : Int32), lv_has ls 3 [(0, .ref h0), (1, .int k1), (2, .int k2)] → va_P D vwCl [(h0, .inr (5, [.int x0_count, .ref h0_keys, .ref h0_legs, .ref h0_account, .ref h0_amount, .ref h0_seals, .ref h0_ends, .int x0_synced, .int x0_syncedEnd, .int x0_draft, .ref h0_draftAccount, .ref h0_draftAmount, .ref h0_limits, .ref h0_disk, .int x0_off, .int x0_failing, .int x0_written, .int x0_padded, .ref h0_pad, .ref h0_stack, .ref h0_firsts, .ref h0_others])), (h0_draftAmount, .inl (cA, 4, .inl g0_draftAmount))] H → va_D A [(h0, .inr (5, [.int x0_count, .ref h0_keys, .ref h0_legs, .ref h0_account, .ref h0_amount, .ref h0_seals, .ref h0_ends, .int x0_synced, .int x0_syncedEnd, .int x0_draft, .ref h0_draftAccount, .ref h0_draftAmount, .ref h0_limits, .ref h0_disk, .int x0_off, .int x0_failing, .int x0_written, .int x0_padded, .ref h0_pad, .ref h0_stack, .ref h0_firsts, .ref h0_others])), (h0_draftAmount, .inl (cA, 4, .inl g0_draftAmount))] → va_S A s.heap H locs → fMo_total_L4 x0_draft g0_draftAmount n4 k1 k2 = some rr → W p l e { frames := 0, cells := 0, slots := 0, locals := 0 } s m args below meth c H locs 0 0 (hw_Z below args s D vwCl A [(h0, .inr (5, [.int x0_count, .ref h0_keys, .ref h0_legs, .ref h0_account, .ref h0_amount, .ref h0_seals, .ref h0_ends, .int x0_synced, .int x0_syncedEnd, .int x0_draft, .ref h0_draftAccount, .ref h0_draftAmount, .ref h0_limits, .ref h0_disk, .int x0_off, .int x0_failing, .int x0_written, .int x0_padded, .ref h0_pad, .ref h0_stack, .ref h0_firsts, .ref h0_others])), (h0_draftAmount, .inl (cA, 4, .inl g0_draftAmount))] (some (.int rr))) (F0 m 4 ls []) := by
    intro n4
    induction n4 with
    | zero => intro ls H locs k1 k2 hl hP hD hS hf; simp only [fMo_total_L4] at hf; cases hf
    | succ n4 ih4 =>
      intro ls H locs k1 k2 hl hP hD hS hf
      rw [fMo_total_L4] at hf
      refine lv_iload_n hx hb dX6_total_4 rfl (lv_at hl 2 rfl) ?_
      refine lv_aload_n hx hb dX6_total_5 rfl (lv_at hl 0 rfl) ?_
      refine va_get (D := D) (ci := 5) (v := .int x0_draft) (C := RX6) (T := TX6) (N := 22) hx hb hts in_X6 hown hK hP 0 rfl rfl 9 (by decide) (hts _ mw_368) (fun _ h9 => h9) rfl dX6_total_6 ?_
      refine hi_icmp_ge (tgt := 27) hx hb dX6_total_9 rfl hf (fun hc hf => ?_) (fun hc hf => ?_)
      · refine lv_iload_n hx hb dX6_total_27 rfl (lv_at hl 1 rfl) ?_
        cases hf
        exact hw_ri hx hb hr hlk (hP.sub [0, 1] rfl) (hD.sub [0, 1] (by decide) rfl) hS dX6_total_28
      · refine lv_iload_n hx hb dX6_total_12 rfl (lv_at hl 1 rfl) ?_
        refine lv_aload_n hx hb dX6_total_13 rfl (lv_at hl 0 rfl) ?_
        refine va_get (D := D) (ci := 5) (v := .ref h0_draftAmount) (C := RX6) (T := TX6) (N := 22) hx hb hts in_X6 hown hK hP 0 rfl rfl 11 (by decide) (hts _ mw_346) (fun _ h9 => h9) rfl dX6_total_14 ?_
        refine lv_iload_n hx hb dX6_total_17 rfl (lv_at hl 2 rfl) ?_
        obtain ⟨v1, e2, hf⟩ := hw_bind hf
        refine hw_iald hx hb hK hP 1 rfl e2 dX6_total_18 ?_
        refine lv_iadd hx hb dX6_total_19 ?_
        refine lv_istore_n (lv' := [(1, .int (k1 + v1)), (0, .ref h0), (2, .int k2)]) hx hb dX6_total_20 rfl hl (by decide) rfl (fun ls hl => ?_)
        refine lv_iinc (v := k2 + (1 : Int32)) (lv' := [(2, .int (k2 + (1 : Int32))), (1, .int (k1 + v1)), (0, .ref h0)]) hx hb dX6_total_21 hl (k := 2) rfl (congrArg (fun z => k2 + z) (by decide)) (by decide) rfl (fun ls hl => ?_)
        refine lv_goto (tgt := 4) hx hb dX6_total_24 rfl ?_
        exact ih4 _ _ _ (k1 + v1) (k2 + (1 : Int32)) (lv_sub hl [2, 1, 0] rfl) (hP.sub [0, 1] rfl) (hD.sub [0, 1] (by decide) rfl) hS hf
  rw [fMo_total] at hf
  refine lv_iconst (v := (0 : Int32)) hx hb dX6_total_0 (by decide) ?_
  refine lv_istore_n (lv' := [(1, .int (0 : Int32)), (0, .ref h0)]) hx hb dX6_total_1 rfl hl (by decide) rfl (fun ls hl => ?_)
  refine lv_iconst (v := (0 : Int32)) hx hb dX6_total_2 (by decide) ?_
  refine lv_istore_n (lv' := [(2, .int (0 : Int32)), (1, .int (0 : Int32)), (0, .ref h0)]) hx hb dX6_total_3 rfl hl (by decide) rfl (fun ls hl => ?_)
  exact L4 600 _ _ _ (0 : Int32) (0 : Int32) (lv_sub hl [2, 1, 0] rfl) (hP.sub [0, 1] rfl) (hD.sub [0, 1] (by decide) rfl) hS hf
set_option maxHeartbeats 4000000 in
set_option maxRecDepth 100000 in
theorem cMo_statement (l : Launch) (D : va_G) (cA cZ : ClassId) (h0 : Nat) (h0_keys : Nat) (h0_legs : Nat) (h0_account : Nat) (h0_amount : Nat) (h0_seals : Nat) (h0_ends : Nat) (h0_draftAccount : Nat) (h0_draftAmount : Nat) (h0_limits : Nat) (h0_disk : Nat) (h0_pad : Nat) (h0_stack : Nat) (h0_firsts : Nat) (h0_others : Nat) (x0_count : Int32) (x0_synced : Int32) (x0_syncedEnd : Int32) (x0_draft : Int32) (x0_off : Int32) (x0_failing : Int32) (x0_written : Int32) (x0_padded : Int32) (g0_legs : Nat → Int32) (g0_account : Nat → Int32) (g0_amount : Nat → Int32) (k1 : Int32) (k2 : Int32) (k3 : Int32) (k4 : Int32) (rr : Int32) (hf : fMo_statement x0_count g0_legs g0_account g0_amount k1 k2 k3 k4 = some rr) : hw_C l yX6_statement wX6_statement { frames := 1, cells := 0, slots := 0, locals := 20 } D vwCl cA cZ [.ref h0, .int k1, .int k2, .int k3, .int k4] [(h0, .inr (5, [.int x0_count, .ref h0_keys, .ref h0_legs, .ref h0_account, .ref h0_amount, .ref h0_seals, .ref h0_ends, .int x0_synced, .int x0_syncedEnd, .int x0_draft, .ref h0_draftAccount, .ref h0_draftAmount, .ref h0_limits, .ref h0_disk, .int x0_off, .int x0_failing, .int x0_written, .int x0_padded, .ref h0_pad, .ref h0_stack, .ref h0_firsts, .ref h0_others])), (h0_legs, .inl (cA, 76, .inl g0_legs)), (h0_account, .inl (cA, 304, .inl g0_account)), (h0_amount, .inl (cA, 304, .inl g0_amount))] [(h0, .inr (5, [.int x0_count, .ref h0_keys, .ref h0_legs, .ref h0_account, .ref h0_amount, .ref h0_seals, .ref h0_ends, .int x0_synced, .int x0_syncedEnd, .int x0_draft, .ref h0_draftAccount, .ref h0_draftAmount, .ref h0_limits, .ref h0_disk, .int x0_off, .int x0_failing, .int x0_written, .int x0_padded, .ref h0_pad, .ref h0_stack, .ref h0_firsts, .ref h0_others])), (h0_legs, .inl (cA, 76, .inl g0_legs)), (h0_account, .inl (cA, 304, .inl g0_account)), (h0_amount, .inl (cA, 304, .inl g0_amount))] (some (.int rr)) := by
  refine hw_of (cc := cX6_statement) (maxL := 8) (ret := (some .int)) (by decide) rfl (Nat.le_of_ble_eq_true rfl) ?_
  intro p e s m args below meth c A ls hx hb hr hlk hml hown hts hA hK hE hP hD hS hl
  have hown : s.vm.findClass RX6 = some m.cls := hown
  have hl : lv_has ls 8 [(0, .ref h0), (1, .int k1), (2, .int k2), (3, .int k3), (4, .int k4)] := hl
  have L14 : ∀ (n14 : Nat) (ls : Array Slot) (H : Heap) (locs : List Loc) (k1 : Int32) (k3 : Int32) (k4 : Int32) (k5 : Int32) (k6 : Int32), lv_has ls 8 [(0, .ref h0), (1, .int k1), (3, .int k3), (4, .int k4), (5, .int k5), (6, .int k6)] → va_P D vwCl [(h0, .inr (5, [.int x0_count, .ref h0_keys, .ref h0_legs, .ref h0_account, .ref h0_amount, .ref h0_seals, .ref h0_ends, .int x0_synced, .int x0_syncedEnd, .int x0_draft, .ref h0_draftAccount, .ref h0_draftAmount, .ref h0_limits, .ref h0_disk, .int x0_off, .int x0_failing, .int x0_written, .int x0_padded, .ref h0_pad, .ref h0_stack, .ref h0_firsts, .ref h0_others])), (h0_legs, .inl (cA, 76, .inl g0_legs)), (h0_account, .inl (cA, 304, .inl g0_account)), (h0_amount, .inl (cA, 304, .inl g0_amount))] H → va_D A [(h0, .inr (5, [.int x0_count, .ref h0_keys, .ref h0_legs, .ref h0_account, .ref h0_amount, .ref h0_seals, .ref h0_ends, .int x0_synced, .int x0_syncedEnd, .int x0_draft, .ref h0_draftAccount, .ref h0_draftAmount, .ref h0_limits, .ref h0_disk, .int x0_off, .int x0_failing, .int x0_written, .int x0_padded, .ref h0_pad, .ref h0_stack, .ref h0_firsts, .ref h0_others])), (h0_legs, .inl (cA, 76, .inl g0_legs)), (h0_account, .inl (cA, 304, .inl g0_account)), (h0_amount, .inl (cA, 304, .inl g0_amount))] → va_S A s.heap H locs → fMo_statement_L14 x0_count g0_legs g0_account g0_amount k1 k3 k4 n14 k5 k6 = some rr → W p l e { frames := 1, cells := 0, slots := 0, locals := 20 } s m args below meth c H locs 0 0 (hw_Z below args s D vwCl A [(h0, .inr (5, [.int x0_count, .ref h0_keys, .ref h0_legs, .ref h0_account, .ref h0_amount, .ref h0_seals, .ref h0_ends, .int x0_synced, .int x0_syncedEnd, .int x0_draft, .ref h0_draftAccount, .ref h0_draftAmount, .ref h0_limits, .ref h0_disk, .int x0_off, .int x0_failing, .int x0_written, .int x0_padded, .ref h0_pad, .ref h0_stack, .ref h0_firsts, .ref h0_others])), (h0_legs, .inl (cA, 76, .inl g0_legs)), (h0_account, .inl (cA, 304, .inl g0_account)), (h0_amount, .inl (cA, 304, .inl g0_amount))] (some (.int rr))) (F0 m 14 ls []) := by
    intro n14
    induction n14 with
    | zero => intro ls H locs k1 k3 k4 k5 k6 hl hP hD hS hf; simp only [fMo_statement_L14] at hf; cases hf
    | succ n14 ih14 =>
      intro ls H locs k1 k3 k4 k5 k6 hl hP hD hS hf
      rw [fMo_statement_L14] at hf
      have L42 : ∀ (n42 : Nat) (ls : Array Slot) (H : Heap) (locs : List Loc) (j6 : Int32) (j5 : Int32) (j7 : Int32), lv_has ls 8 [(0, .ref h0), (1, .int k1), (3, .int k3), (4, .int k4), (5, .int j5), (6, .int j6), (7, .int j7)] → va_P D vwCl [(h0, .inr (5, [.int x0_count, .ref h0_keys, .ref h0_legs, .ref h0_account, .ref h0_amount, .ref h0_seals, .ref h0_ends, .int x0_synced, .int x0_syncedEnd, .int x0_draft, .ref h0_draftAccount, .ref h0_draftAmount, .ref h0_limits, .ref h0_disk, .int x0_off, .int x0_failing, .int x0_written, .int x0_padded, .ref h0_pad, .ref h0_stack, .ref h0_firsts, .ref h0_others])), (h0_legs, .inl (cA, 76, .inl g0_legs)), (h0_account, .inl (cA, 304, .inl g0_account)), (h0_amount, .inl (cA, 304, .inl g0_amount))] H → va_D A [(h0, .inr (5, [.int x0_count, .ref h0_keys, .ref h0_legs, .ref h0_account, .ref h0_amount, .ref h0_seals, .ref h0_ends, .int x0_synced, .int x0_syncedEnd, .int x0_draft, .ref h0_draftAccount, .ref h0_draftAmount, .ref h0_limits, .ref h0_disk, .int x0_off, .int x0_failing, .int x0_written, .int x0_padded, .ref h0_pad, .ref h0_stack, .ref h0_firsts, .ref h0_others])), (h0_legs, .inl (cA, 76, .inl g0_legs)), (h0_account, .inl (cA, 304, .inl g0_account)), (h0_amount, .inl (cA, 304, .inl g0_amount))] → va_S A s.heap H locs → fMo_statement_L42 x0_count g0_legs g0_account g0_amount k1 k3 k4 j6 (fun y0 y1 => fMo_statement_L14 x0_count g0_legs g0_account g0_amount k1 k3 k4 n14 y0 y1) n42 j5 j7 = some rr → W p l e { frames := 1, cells := 0, slots := 0, locals := 20 } s m args below meth c H locs 0 0 (hw_Z below args s D vwCl A [(h0, .inr (5, [.int x0_count, .ref h0_keys, .ref h0_legs, .ref h0_account, .ref h0_amount, .ref h0_seals, .ref h0_ends, .int x0_synced, .int x0_syncedEnd, .int x0_draft, .ref h0_draftAccount, .ref h0_draftAmount, .ref h0_limits, .ref h0_disk, .int x0_off, .int x0_failing, .int x0_written, .int x0_padded, .ref h0_pad, .ref h0_stack, .ref h0_firsts, .ref h0_others])), (h0_legs, .inl (cA, 76, .inl g0_legs)), (h0_account, .inl (cA, 304, .inl g0_account)), (h0_amount, .inl (cA, 304, .inl g0_amount))] (some (.int rr))) (F0 m 42 ls []) := by
        intro n42
        induction n42 with
        | zero => intro ls H locs j6 j5 j7 hl hP hD hS hf; simp only [fMo_statement_L42] at hf; cases hf
        | succ n42 ih42 =>
          intro ls H locs j6 j5 j7 hl hP hD hS hf
          rw [fMo_statement_L42] at hf
          refine lv_iload hx hb dX6_statement_42 (lv_at hl 6 rfl) ?_
          refine lv_iconst (v := (4 : Int32)) hx hb dX6_statement_44 (by decide) ?_
          refine lv_iload hx hb dX6_statement_45 (lv_at hl 5 rfl) ?_
          refine lv_imul hx hb dX6_statement_47 ?_
          refine lv_aload_n hx hb dX6_statement_48 rfl (lv_at hl 0 rfl) ?_
          refine va_get (D := D) (ci := 5) (v := .ref h0_legs) (C := RX6) (T := TX6) (N := 22) hx hb hts in_X6 hown hK hP 0 rfl rfl 2 (by decide) (hts _ mw_340) (fun _ h9 => h9) rfl dX6_statement_49 ?_
          refine lv_iload hx hb dX6_statement_52 (lv_at hl 5 rfl) ?_
          obtain ⟨v3, e4, hf⟩ := hw_bind hf
          refine hw_iald hx hb hK hP 1 rfl e4 dX6_statement_54 ?_
          refine lv_iadd hx hb dX6_statement_55 ?_
          refine hi_icmp_ge (tgt := 101) hx hb dX6_statement_56 rfl hf (fun hc hf => ?_) (fun hc hf => ?_)
          · refine lv_iinc (v := j6 + (1 : Int32)) (lv' := [(6, .int (j6 + (1 : Int32))), (0, .ref h0), (1, .int k1), (3, .int k3), (4, .int k4), (5, .int j5), (7, .int j7)]) hx hb dX6_statement_101 hl (k := 5) rfl (congrArg (fun z => j6 + z) (by decide)) (by decide) rfl (fun ls hl => ?_)
            refine lv_goto (tgt := 14) hx hb dX6_statement_104 rfl ?_
            exact ih14 _ _ _ k1 k3 k4 j5 (j6 + (1 : Int32)) (lv_sub hl [1, 2, 3, 4, 5, 0] rfl) (hP.sub [0, 1, 2, 3] rfl) (hD.sub [0, 1, 2, 3] (by decide) rfl) hS hf
          · refine lv_iload hx hb dX6_statement_59 (lv_at hl 4 rfl) ?_
            refine lv_aload_n hx hb dX6_statement_61 rfl (lv_at hl 0 rfl) ?_
            refine va_get (D := D) (ci := 5) (v := .ref h0_account) (C := RX6) (T := TX6) (N := 22) hx hb hts in_X6 hown hK hP 0 rfl rfl 3 (by decide) (hts _ mw_341) (fun _ h9 => h9) rfl dX6_statement_62 ?_
            refine lv_iload hx hb dX6_statement_65 (lv_at hl 6 rfl) ?_
            obtain ⟨v5, e6, hf⟩ := hw_bind hf
            refine hw_iald hx hb hK hP 2 rfl e6 dX6_statement_67 ?_
            refine lv_iload_n hx hb dX6_statement_68 rfl (lv_at hl 1 rfl) ?_
            refine hi_icmp_eq (tgt := 76) hx hb dX6_statement_69 rfl hf (fun hc hf => ?_) (fun hc hf => ?_)
            · refine lv_iload hx hb dX6_statement_76 (lv_at hl 3 rfl) ?_
              refine hi_if_eq (tgt := 91) hx hb dX6_statement_78 rfl hf (fun hc hf => ?_) (fun hc hf => ?_)
              · refine lv_iconst (v := (1 : Int32)) hx hb dX6_statement_91 (by decide) ?_
                refine lv_iadd hx hb dX6_statement_92 ?_
                refine lv_istore (lv' := [(5, .int (j5 + (1 : Int32))), (0, .ref h0), (1, .int k1), (3, .int k3), (4, .int k4), (6, .int j6), (7, .int j7)]) hx hb dX6_statement_93 hl (by decide) rfl (fun ls hl => ?_)
                refine lv_iinc (v := j7 + (1 : Int32)) (lv' := [(7, .int (j7 + (1 : Int32))), (5, .int (j5 + (1 : Int32))), (0, .ref h0), (1, .int k1), (3, .int k3), (4, .int k4), (6, .int j6)]) hx hb dX6_statement_95 hl (k := 6) rfl (congrArg (fun z => j7 + z) (by decide)) (by decide) rfl (fun ls hl => ?_)
                refine lv_goto (tgt := 42) hx hb dX6_statement_98 rfl ?_
                exact ih42 _ _ _ j6 (j5 + (1 : Int32)) (j7 + (1 : Int32)) (lv_sub hl [2, 3, 4, 5, 1, 6, 0] rfl) (hP.sub [0, 1, 2, 3] rfl) (hD.sub [0, 1, 2, 3] (by decide) rfl) hS hf
              · refine lv_aload_n hx hb dX6_statement_81 rfl (lv_at hl 0 rfl) ?_
                refine va_get (D := D) (ci := 5) (v := .ref h0_amount) (C := RX6) (T := TX6) (N := 22) hx hb hts in_X6 hown hK hP 0 rfl rfl 4 (by decide) (hts _ mw_342) (fun _ h9 => h9) rfl dX6_statement_82 ?_
                refine lv_iload hx hb dX6_statement_85 (lv_at hl 6 rfl) ?_
                obtain ⟨v7, e8, hf⟩ := hw_bind hf
                refine hw_iald hx hb hK hP 3 rfl e8 dX6_statement_87 ?_
                refine lv_goto (tgt := 92) hx hb dX6_statement_88 rfl ?_
                refine lv_iadd hx hb dX6_statement_92 ?_
                refine lv_istore (lv' := [(5, .int (j5 + v7)), (0, .ref h0), (1, .int k1), (3, .int k3), (4, .int k4), (6, .int j6), (7, .int j7)]) hx hb dX6_statement_93 hl (by decide) rfl (fun ls hl => ?_)
                refine lv_iinc (v := j7 + (1 : Int32)) (lv' := [(7, .int (j7 + (1 : Int32))), (5, .int (j5 + v7)), (0, .ref h0), (1, .int k1), (3, .int k3), (4, .int k4), (6, .int j6)]) hx hb dX6_statement_95 hl (k := 6) rfl (congrArg (fun z => j7 + z) (by decide)) (by decide) rfl (fun ls hl => ?_)
                refine lv_goto (tgt := 42) hx hb dX6_statement_98 rfl ?_
                exact ih42 _ _ _ j6 (j5 + v7) (j7 + (1 : Int32)) (lv_sub hl [2, 3, 4, 5, 1, 6, 0] rfl) (hP.sub [0, 1, 2, 3] rfl) (hD.sub [0, 1, 2, 3] (by decide) rfl) hS hf
            · refine lv_iconst (v := (0 : Int32)) hx hb dX6_statement_72 (by decide) ?_
              refine lv_goto (tgt := 92) hx hb dX6_statement_73 rfl ?_
              refine lv_iadd hx hb dX6_statement_92 ?_
              refine lv_istore (lv' := [(5, .int (j5 + (0 : Int32))), (0, .ref h0), (1, .int k1), (3, .int k3), (4, .int k4), (6, .int j6), (7, .int j7)]) hx hb dX6_statement_93 hl (by decide) rfl (fun ls hl => ?_)
              refine lv_iinc (v := j7 + (1 : Int32)) (lv' := [(7, .int (j7 + (1 : Int32))), (5, .int (j5 + (0 : Int32))), (0, .ref h0), (1, .int k1), (3, .int k3), (4, .int k4), (6, .int j6)]) hx hb dX6_statement_95 hl (k := 6) rfl (congrArg (fun z => j7 + z) (by decide)) (by decide) rfl (fun ls hl => ?_)
              refine lv_goto (tgt := 42) hx hb dX6_statement_98 rfl ?_
              exact ih42 _ _ _ j6 (j5 + (0 : Int32)) (j7 + (1 : Int32)) (lv_sub hl [2, 3, 4, 5, 1, 6, 0] rfl) (hP.sub [0, 1, 2, 3] rfl) (hD.sub [0, 1, 2, 3] (by decide) rfl) hS hf
      refine lv_iload hx hb dX6_statement_14 (lv_at hl 5 rfl) ?_
      refine lv_iload_n hx hb dX6_statement_16 rfl (lv_at hl 2 rfl) ?_
      refine hi_icmp_ge (tgt := 107) hx hb dX6_statement_17 rfl hf (fun hc hf => ?_) (fun hc hf => ?_)
      · refine lv_iload hx hb dX6_statement_107 (lv_at hl 4 rfl) ?_
        cases hf
        exact hw_ri hx hb hr hlk (hP.sub [0, 1, 2, 3] rfl) (hD.sub [0, 1, 2, 3] (by decide) rfl) hS dX6_statement_109
      · refine lv_iload hx hb dX6_statement_20 (lv_at hl 5 rfl) ?_
        refine lv_aload_n hx hb dX6_statement_22 rfl (lv_at hl 0 rfl) ?_
        refine va_get (D := D) (ci := 5) (v := .int x0_count) (C := RX6) (T := TX6) (N := 22) hx hb hts in_X6 hown hK hP 0 rfl rfl 0 (by decide) (hts _ mw_378) (fun _ h9 => h9) rfl dX6_statement_23 ?_
        refine hi_icmp_ge (tgt := 107) hx hb dX6_statement_26 rfl hf (fun hc hf => ?_) (fun hc hf => ?_)
        · refine lv_iload hx hb dX6_statement_107 (lv_at hl 4 rfl) ?_
          cases hf
          exact hw_ri hx hb hr hlk (hP.sub [0, 1, 2, 3] rfl) (hD.sub [0, 1, 2, 3] (by decide) rfl) hS dX6_statement_109
        · refine lv_iload_n hx hb dX6_statement_29 rfl (lv_at hl 1 rfl) ?_
          obtain ⟨v1, e2, hf⟩ := hw_bind hf
          refine hw_goS (wr := [(h0, .inr (5, [.int x0_count, .ref h0_keys, .ref h0_legs, .ref h0_account, .ref h0_amount, .ref h0_seals, .ref h0_ends, .int x0_synced, .int x0_syncedEnd, .int x0_draft, .ref h0_draftAccount, .ref h0_draftAmount, .ref h0_limits, .ref h0_disk, .int x0_off, .int x0_failing, .int x0_written, .int x0_padded, .ref h0_pad, .ref h0_stack, .ref h0_firsts, .ref h0_others])), (h0_legs, .inl (cA, 76, .inl g0_legs)), (h0_account, .inl (cA, 304, .inl g0_account)), (h0_amount, .inl (cA, 304, .inl g0_amount))]) (rest := []) ⟨hx, hb, hml, hown, hts⟩ (cMo_isAccount l D cA cZ k1 v1 e2) (cwS 1 hts ks_X6_59 rfl rfl rfl (by decide +kernel) ⟨Nat.le_of_ble_eq_true rfl, Nat.le_of_ble_eq_true rfl⟩) [] [0, 1, 2, 3] rfl rfl (by decide) (by decide) (by decide) hK hE hP hD hS hA hl.1 rfl rfl (Nat.le_of_ble_eq_true rfl) dX6_statement_30 ⟨Nat.zero_le _, Nat.zero_le _⟩ (fun H locs (hP : va_P D vwCl [(h0, .inr (5, [.int x0_count, .ref h0_keys, .ref h0_legs, .ref h0_account, .ref h0_amount, .ref h0_seals, .ref h0_ends, .int x0_synced, .int x0_syncedEnd, .int x0_draft, .ref h0_draftAccount, .ref h0_draftAmount, .ref h0_limits, .ref h0_disk, .int x0_off, .int x0_failing, .int x0_written, .int x0_padded, .ref h0_pad, .ref h0_stack, .ref h0_firsts, .ref h0_others])), (h0_legs, .inl (cA, 76, .inl g0_legs)), (h0_account, .inl (cA, 304, .inl g0_account)), (h0_amount, .inl (cA, 304, .inl g0_amount))] H) (hD : va_D A [(h0, .inr (5, [.int x0_count, .ref h0_keys, .ref h0_legs, .ref h0_account, .ref h0_amount, .ref h0_seals, .ref h0_ends, .int x0_synced, .int x0_syncedEnd, .int x0_draft, .ref h0_draftAccount, .ref h0_draftAmount, .ref h0_limits, .ref h0_disk, .int x0_off, .int x0_failing, .int x0_written, .int x0_padded, .ref h0_pad, .ref h0_stack, .ref h0_firsts, .ref h0_others])), (h0_legs, .inl (cA, 76, .inl g0_legs)), (h0_account, .inl (cA, 304, .inl g0_account)), (h0_amount, .inl (cA, 304, .inl g0_amount))]) hS => ?_)
          refine hi_if_eq (tgt := 107) hx hb dX6_statement_33 rfl hf (fun hc hf => ?_) (fun hc hf => ?_)
          · refine lv_iload hx hb dX6_statement_107 (lv_at hl 4 rfl) ?_
            cases hf
            exact hw_ri hx hb hr hlk (hP.sub [0, 1, 2, 3] rfl) (hD.sub [0, 1, 2, 3] (by decide) rfl) hS dX6_statement_109
          · refine lv_iconst (v := (4 : Int32)) hx hb dX6_statement_36 (by decide) ?_
            refine lv_iload hx hb dX6_statement_37 (lv_at hl 5 rfl) ?_
            refine lv_imul hx hb dX6_statement_39 ?_
            refine lv_istore (lv' := [(7, .int ((4 : Int32) * k6)), (0, .ref h0), (1, .int k1), (3, .int k3), (4, .int k4), (5, .int k5), (6, .int k6)]) hx hb dX6_statement_40 hl (by decide) rfl (fun ls hl => ?_)
            exact L42 600 _ _ _ k6 k5 ((4 : Int32) * k6) (lv_sub hl [1, 2, 3, 4, 5, 6, 0] rfl) (hP.sub [0, 1, 2, 3] rfl) (hD.sub [0, 1, 2, 3] (by decide) rfl) hS hf
  rw [fMo_statement] at hf
  refine lv_iconst (v := (0 : Int32)) hx hb dX6_statement_0 (by decide) ?_
  refine lv_istore (lv' := [(5, .int (0 : Int32)), (0, .ref h0), (1, .int k1), (2, .int k2), (3, .int k3), (4, .int k4)]) hx hb dX6_statement_1 hl (by decide) rfl (fun ls hl => ?_)
  refine lv_iload_n hx hb dX6_statement_3 rfl (lv_at hl 3 rfl) ?_
  refine hi_if_ge (tgt := 11) hx hb dX6_statement_4 rfl hf (fun hc hf => ?_) (fun hc hf => ?_)
  · refine lv_iload_n hx hb dX6_statement_11 rfl (lv_at hl 3 rfl) ?_
    refine lv_istore (lv' := [(6, .int k2), (5, .int (0 : Int32)), (0, .ref h0), (1, .int k1), (2, .int k2), (3, .int k3), (4, .int k4)]) hx hb dX6_statement_12 hl (by decide) rfl (fun ls hl => ?_)
    exact L14 600 _ _ _ k1 k3 k4 (0 : Int32) k2 (lv_sub hl [2, 3, 5, 6, 1, 0] rfl) (hP.sub [0, 1, 2, 3] rfl) (hD.sub [0, 1, 2, 3] (by decide) rfl) hS hf
  · refine lv_iconst (v := (0 : Int32)) hx hb dX6_statement_7 (by decide) ?_
    refine lv_goto (tgt := 12) hx hb dX6_statement_8 rfl ?_
    refine lv_istore (lv' := [(6, .int (0 : Int32)), (5, .int (0 : Int32)), (0, .ref h0), (1, .int k1), (2, .int k2), (3, .int k3), (4, .int k4)]) hx hb dX6_statement_12 hl (by decide) rfl (fun ls hl => ?_)
    exact L14 600 _ _ _ k1 k3 k4 (0 : Int32) (0 : Int32) (lv_sub hl [2, 3, 5, 6, 1, 0] rfl) (hP.sub [0, 1, 2, 3] rfl) (hD.sub [0, 1, 2, 3] (by decide) rfl) hS hf
set_option maxHeartbeats 4000000 in
set_option maxRecDepth 100000 in
theorem cMo_balance (l : Launch) (D : va_G) (cA cZ : ClassId) (h0 : Nat) (h0_keys : Nat) (h0_legs : Nat) (h0_account : Nat) (h0_amount : Nat) (h0_seals : Nat) (h0_ends : Nat) (h0_draftAccount : Nat) (h0_draftAmount : Nat) (h0_limits : Nat) (h0_disk : Nat) (h0_pad : Nat) (h0_stack : Nat) (h0_firsts : Nat) (h0_others : Nat) (x0_count : Int32) (x0_synced : Int32) (x0_syncedEnd : Int32) (x0_draft : Int32) (x0_off : Int32) (x0_failing : Int32) (x0_written : Int32) (x0_padded : Int32) (g0_legs : Nat → Int32) (g0_account : Nat → Int32) (g0_amount : Nat → Int32) (k1 : Int32) (k2 : Int32) (rr : Int32) (hf : fMo_balance x0_count g0_legs g0_account g0_amount k1 k2 = some rr) : hw_C l yX6_balance wX6_balance { frames := 2, cells := 0, slots := 0, locals := 47 } D vwCl cA cZ [.ref h0, .int k1, .int k2] [(h0, .inr (5, [.int x0_count, .ref h0_keys, .ref h0_legs, .ref h0_account, .ref h0_amount, .ref h0_seals, .ref h0_ends, .int x0_synced, .int x0_syncedEnd, .int x0_draft, .ref h0_draftAccount, .ref h0_draftAmount, .ref h0_limits, .ref h0_disk, .int x0_off, .int x0_failing, .int x0_written, .int x0_padded, .ref h0_pad, .ref h0_stack, .ref h0_firsts, .ref h0_others])), (h0_legs, .inl (cA, 76, .inl g0_legs)), (h0_account, .inl (cA, 304, .inl g0_account)), (h0_amount, .inl (cA, 304, .inl g0_amount))] [(h0, .inr (5, [.int x0_count, .ref h0_keys, .ref h0_legs, .ref h0_account, .ref h0_amount, .ref h0_seals, .ref h0_ends, .int x0_synced, .int x0_syncedEnd, .int x0_draft, .ref h0_draftAccount, .ref h0_draftAmount, .ref h0_limits, .ref h0_disk, .int x0_off, .int x0_failing, .int x0_written, .int x0_padded, .ref h0_pad, .ref h0_stack, .ref h0_firsts, .ref h0_others])), (h0_legs, .inl (cA, 76, .inl g0_legs)), (h0_account, .inl (cA, 304, .inl g0_account)), (h0_amount, .inl (cA, 304, .inl g0_amount))] (some (.int rr)) := by
  refine hw_of (cc := cX6_balance) (maxL := 3) (ret := (some .int)) (by decide) rfl (Nat.le_of_ble_eq_true rfl) ?_
  intro p e s m args below meth c A ls hx hb hr hlk hml hown hts hA hK hE hP hD hS hl
  have hown : s.vm.findClass RX6 = some m.cls := hown
  have hl : lv_has ls 3 [(0, .ref h0), (1, .int k1), (2, .int k2)] := hl
  rw [fMo_balance] at hf
  refine lv_iload_n hx hb dX6_balance_0 rfl (lv_at hl 2 rfl) ?_
  refine lv_aload_n hx hb dX6_balance_1 rfl (lv_at hl 0 rfl) ?_
  refine va_get (D := D) (ci := 5) (v := .int x0_count) (C := RX6) (T := TX6) (N := 22) hx hb hts in_X6 hown hK hP 0 rfl rfl 0 (by decide) (hts _ mw_378) (fun _ h9 => h9) rfl dX6_balance_2 ?_
  refine hi_icmp_le (tgt := 12) hx hb dX6_balance_5 rfl hf (fun hc hf => ?_) (fun hc hf => ?_)
  · refine lv_aload_n hx hb dX6_balance_12 rfl (lv_at hl 0 rfl) ?_
    refine lv_iload_n hx hb dX6_balance_13 rfl (lv_at hl 1 rfl) ?_
    refine lv_iconst (v := (0 : Int32)) hx hb dX6_balance_14 (by decide) ?_
    refine lv_iload_n hx hb dX6_balance_15 rfl (lv_at hl 2 rfl) ?_
    refine lv_iconst (v := (1 : Int32)) hx hb dX6_balance_16 (by decide) ?_
    obtain ⟨v1, e2, hf⟩ := hw_bind hf
    refine hw_goV (wr := []) (rest := []) ⟨hx, hb, hml, hown, hts⟩ (cMo_statement l D cA cZ h0 h0_keys h0_legs h0_account h0_amount h0_seals h0_ends h0_draftAccount h0_draftAmount h0_limits h0_disk h0_pad h0_stack h0_firsts h0_others x0_count x0_synced x0_syncedEnd x0_draft x0_off x0_failing x0_written x0_padded g0_legs g0_account g0_amount k1 (0 : Int32) k2 (1 : Int32) v1 e2) (cwV 4 hts ks_X6_120 rfl rfl rfl (by decide +kernel) ⟨Nat.le_of_ble_eq_true rfl, Nat.le_of_ble_eq_true rfl⟩) 0 rfl rfl [0, 1, 2, 3] [] rfl rfl (by decide) (by decide) (by decide) hK hE hP hD hS hA hl.1 rfl rfl (Nat.le_of_ble_eq_true rfl) dX6_balance_17 ⟨Nat.zero_le _, Nat.zero_le _⟩ (fun H locs (hP : va_P D vwCl [(h0, .inr (5, [.int x0_count, .ref h0_keys, .ref h0_legs, .ref h0_account, .ref h0_amount, .ref h0_seals, .ref h0_ends, .int x0_synced, .int x0_syncedEnd, .int x0_draft, .ref h0_draftAccount, .ref h0_draftAmount, .ref h0_limits, .ref h0_disk, .int x0_off, .int x0_failing, .int x0_written, .int x0_padded, .ref h0_pad, .ref h0_stack, .ref h0_firsts, .ref h0_others])), (h0_legs, .inl (cA, 76, .inl g0_legs)), (h0_account, .inl (cA, 304, .inl g0_account)), (h0_amount, .inl (cA, 304, .inl g0_amount))] H) (hD : va_D A [(h0, .inr (5, [.int x0_count, .ref h0_keys, .ref h0_legs, .ref h0_account, .ref h0_amount, .ref h0_seals, .ref h0_ends, .int x0_synced, .int x0_syncedEnd, .int x0_draft, .ref h0_draftAccount, .ref h0_draftAmount, .ref h0_limits, .ref h0_disk, .int x0_off, .int x0_failing, .int x0_written, .int x0_padded, .ref h0_pad, .ref h0_stack, .ref h0_firsts, .ref h0_others])), (h0_legs, .inl (cA, 76, .inl g0_legs)), (h0_account, .inl (cA, 304, .inl g0_account)), (h0_amount, .inl (cA, 304, .inl g0_amount))]) hS => ?_)
    cases hf
    exact hw_ri hx hb hr hlk (hP.sub [0, 1, 2, 3] rfl) (hD.sub [0, 1, 2, 3] (by decide) rfl) hS dX6_balance_20
  · refine lv_iconst (v := (0 : Int32)) hx hb dX6_balance_8 (by decide) ?_
    refine lv_goto (tgt := 20) hx hb dX6_balance_9 rfl ?_
    cases hf
    exact hw_ri hx hb hr hlk (hP.sub [0, 1, 2, 3] rfl) (hD.sub [0, 1, 2, 3] (by decide) rfl) hS dX6_balance_20
set_option maxHeartbeats 4000000 in
set_option maxRecDepth 100000 in
theorem cMo_find (l : Launch) (D : va_G) (cA cZ : ClassId) (h0 : Nat) (h0_keys : Nat) (h0_legs : Nat) (h0_account : Nat) (h0_amount : Nat) (h0_seals : Nat) (h0_ends : Nat) (h0_draftAccount : Nat) (h0_draftAmount : Nat) (h0_limits : Nat) (h0_disk : Nat) (h0_pad : Nat) (h0_stack : Nat) (h0_firsts : Nat) (h0_others : Nat) (x0_count : Int32) (x0_synced : Int32) (x0_syncedEnd : Int32) (x0_draft : Int32) (x0_off : Int32) (x0_failing : Int32) (x0_written : Int32) (x0_padded : Int32) (g0_keys : Nat → Int32) (k1 : Int32) (rr : Int32) (hf : fMo_find x0_count g0_keys k1 = some rr) : hw_C l yX6_find wX6_find { frames := 0, cells := 0, slots := 0, locals := 0 } D vwCl cA cZ [.ref h0, .int k1] [(h0, .inr (5, [.int x0_count, .ref h0_keys, .ref h0_legs, .ref h0_account, .ref h0_amount, .ref h0_seals, .ref h0_ends, .int x0_synced, .int x0_syncedEnd, .int x0_draft, .ref h0_draftAccount, .ref h0_draftAmount, .ref h0_limits, .ref h0_disk, .int x0_off, .int x0_failing, .int x0_written, .int x0_padded, .ref h0_pad, .ref h0_stack, .ref h0_firsts, .ref h0_others])), (h0_keys, .inl (cA, 76, .inl g0_keys))] [(h0, .inr (5, [.int x0_count, .ref h0_keys, .ref h0_legs, .ref h0_account, .ref h0_amount, .ref h0_seals, .ref h0_ends, .int x0_synced, .int x0_syncedEnd, .int x0_draft, .ref h0_draftAccount, .ref h0_draftAmount, .ref h0_limits, .ref h0_disk, .int x0_off, .int x0_failing, .int x0_written, .int x0_padded, .ref h0_pad, .ref h0_stack, .ref h0_firsts, .ref h0_others])), (h0_keys, .inl (cA, 76, .inl g0_keys))] (some (.int rr)) := by
  refine hw_of (cc := cX6_find) (maxL := 3) (ret := (some .int)) (by decide) rfl (Nat.le_of_ble_eq_true rfl) ?_
  intro p e s m args below meth c A ls hx hb hr hlk hml hown hts hA hK hE hP hD hS hl
  have hown : s.vm.findClass RX6 = some m.cls := hown
  have hl : lv_has ls 3 [(0, .ref h0), (1, .int k1)] := hl
  have L2 : ∀ (n2 : Nat) (ls : Array Slot) (H : Heap) (locs : List Loc) (k1 : Int32) (k2 : Int32), lv_has ls 3 [(0, .ref h0), (1, .int k1), (2, .int k2)] → va_P D vwCl [(h0, .inr (5, [.int x0_count, .ref h0_keys, .ref h0_legs, .ref h0_account, .ref h0_amount, .ref h0_seals, .ref h0_ends, .int x0_synced, .int x0_syncedEnd, .int x0_draft, .ref h0_draftAccount, .ref h0_draftAmount, .ref h0_limits, .ref h0_disk, .int x0_off, .int x0_failing, .int x0_written, .int x0_padded, .ref h0_pad, .ref h0_stack, .ref h0_firsts, .ref h0_others])), (h0_keys, .inl (cA, 76, .inl g0_keys))] H → va_D A [(h0, .inr (5, [.int x0_count, .ref h0_keys, .ref h0_legs, .ref h0_account, .ref h0_amount, .ref h0_seals, .ref h0_ends, .int x0_synced, .int x0_syncedEnd, .int x0_draft, .ref h0_draftAccount, .ref h0_draftAmount, .ref h0_limits, .ref h0_disk, .int x0_off, .int x0_failing, .int x0_written, .int x0_padded, .ref h0_pad, .ref h0_stack, .ref h0_firsts, .ref h0_others])), (h0_keys, .inl (cA, 76, .inl g0_keys))] → va_S A s.heap H locs → fMo_find_L2 x0_count g0_keys k1 n2 k2 = some rr → W p l e { frames := 0, cells := 0, slots := 0, locals := 0 } s m args below meth c H locs 0 0 (hw_Z below args s D vwCl A [(h0, .inr (5, [.int x0_count, .ref h0_keys, .ref h0_legs, .ref h0_account, .ref h0_amount, .ref h0_seals, .ref h0_ends, .int x0_synced, .int x0_syncedEnd, .int x0_draft, .ref h0_draftAccount, .ref h0_draftAmount, .ref h0_limits, .ref h0_disk, .int x0_off, .int x0_failing, .int x0_written, .int x0_padded, .ref h0_pad, .ref h0_stack, .ref h0_firsts, .ref h0_others])), (h0_keys, .inl (cA, 76, .inl g0_keys))] (some (.int rr))) (F0 m 2 ls []) := by
    intro n2
    induction n2 with
    | zero => intro ls H locs k1 k2 hl hP hD hS hf; simp only [fMo_find_L2] at hf; cases hf
    | succ n2 ih2 =>
      intro ls H locs k1 k2 hl hP hD hS hf
      rw [fMo_find_L2] at hf
      refine lv_iload_n hx hb dX6_find_2 rfl (lv_at hl 2 rfl) ?_
      refine lv_aload_n hx hb dX6_find_3 rfl (lv_at hl 0 rfl) ?_
      refine va_get (D := D) (ci := 5) (v := .int x0_count) (C := RX6) (T := TX6) (N := 22) hx hb hts in_X6 hown hK hP 0 rfl rfl 0 (by decide) (hts _ mw_378) (fun _ h9 => h9) rfl dX6_find_4 ?_
      refine hi_icmp_ge (tgt := 28) hx hb dX6_find_7 rfl hf (fun hc hf => ?_) (fun hc hf => ?_)
      · refine lv_iconst (v := (-1 : Int32)) hx hb dX6_find_28 (by decide) ?_
        cases hf
        exact hw_ri hx hb hr hlk (hP.sub [0, 1] rfl) (hD.sub [0, 1] (by decide) rfl) hS dX6_find_29
      · refine lv_aload_n hx hb dX6_find_10 rfl (lv_at hl 0 rfl) ?_
        refine va_get (D := D) (ci := 5) (v := .ref h0_keys) (C := RX6) (T := TX6) (N := 22) hx hb hts in_X6 hown hK hP 0 rfl rfl 1 (by decide) (hts _ mw_339) (fun _ h9 => h9) rfl dX6_find_11 ?_
        refine lv_iload_n hx hb dX6_find_14 rfl (lv_at hl 2 rfl) ?_
        obtain ⟨v1, e2, hf⟩ := hw_bind hf
        refine hw_iald hx hb hK hP 1 rfl e2 dX6_find_15 ?_
        refine lv_iload_n hx hb dX6_find_16 rfl (lv_at hl 1 rfl) ?_
        refine hi_icmp_ne (tgt := 22) hx hb dX6_find_17 rfl hf (fun hc hf => ?_) (fun hc hf => ?_)
        · refine lv_iinc (v := k2 + (1 : Int32)) (lv' := [(2, .int (k2 + (1 : Int32))), (0, .ref h0), (1, .int k1)]) hx hb dX6_find_22 hl (k := 2) rfl (congrArg (fun z => k2 + z) (by decide)) (by decide) rfl (fun ls hl => ?_)
          refine lv_goto (tgt := 2) hx hb dX6_find_25 rfl ?_
          exact ih2 _ _ _ k1 (k2 + (1 : Int32)) (lv_sub hl [1, 2, 0] rfl) (hP.sub [0, 1] rfl) (hD.sub [0, 1] (by decide) rfl) hS hf
        · refine lv_iload_n hx hb dX6_find_20 rfl (lv_at hl 2 rfl) ?_
          cases hf
          exact hw_ri hx hb hr hlk (hP.sub [0, 1] rfl) (hD.sub [0, 1] (by decide) rfl) hS dX6_find_21
  rw [fMo_find] at hf
  refine lv_iconst (v := (0 : Int32)) hx hb dX6_find_0 (by decide) ?_
  refine lv_istore_n (lv' := [(2, .int (0 : Int32)), (0, .ref h0), (1, .int k1)]) hx hb dX6_find_1 rfl hl (by decide) rfl (fun ls hl => ?_)
  exact L2 600 _ _ _ k1 (0 : Int32) (lv_sub hl [1, 2, 0] rfl) (hP.sub [0, 1] rfl) (hD.sub [0, 1] (by decide) rfl) hS hf
set_option maxHeartbeats 4000000 in
set_option maxRecDepth 100000 in
theorem cMo_logged (l : Launch) (D : va_G) (cA cZ : ClassId) (h0 : Nat) (h0_keys : Nat) (h0_legs : Nat) (h0_account : Nat) (h0_amount : Nat) (h0_seals : Nat) (h0_ends : Nat) (h0_draftAccount : Nat) (h0_draftAmount : Nat) (h0_limits : Nat) (h0_disk : Nat) (h0_pad : Nat) (h0_stack : Nat) (h0_firsts : Nat) (h0_others : Nat) (x0_count : Int32) (x0_synced : Int32) (x0_syncedEnd : Int32) (x0_draft : Int32) (x0_off : Int32) (x0_failing : Int32) (x0_written : Int32) (x0_padded : Int32) (g0_keys : Nat → Int32) (g0_legs : Nat → Int32) (g0_account : Nat → Int32) (g0_amount : Nat → Int32) (g0_seals : Nat → Int32) (g0_ends : Nat → Int32) (k1 : Int32) (rr : Int32) (hf : fMo_logged x0_count g0_keys g0_legs g0_account g0_amount g0_seals g0_ends k1 = some rr) : hw_C l yX6_logged wX6_logged { frames := 0, cells := 0, slots := 0, locals := 0 } D vwCl cA cZ [.ref h0, .int k1] [(h0, .inr (5, [.int x0_count, .ref h0_keys, .ref h0_legs, .ref h0_account, .ref h0_amount, .ref h0_seals, .ref h0_ends, .int x0_synced, .int x0_syncedEnd, .int x0_draft, .ref h0_draftAccount, .ref h0_draftAmount, .ref h0_limits, .ref h0_disk, .int x0_off, .int x0_failing, .int x0_written, .int x0_padded, .ref h0_pad, .ref h0_stack, .ref h0_firsts, .ref h0_others])), (h0_keys, .inl (cA, 76, .inl g0_keys)), (h0_legs, .inl (cA, 76, .inl g0_legs)), (h0_account, .inl (cA, 304, .inl g0_account)), (h0_amount, .inl (cA, 304, .inl g0_amount)), (h0_seals, .inl (cA, 76, .inl g0_seals)), (h0_ends, .inl (cA, 77, .inl g0_ends))] [(h0, .inr (5, [.int x0_count, .ref h0_keys, .ref h0_legs, .ref h0_account, .ref h0_amount, .ref h0_seals, .ref h0_ends, .int x0_synced, .int x0_syncedEnd, .int x0_draft, .ref h0_draftAccount, .ref h0_draftAmount, .ref h0_limits, .ref h0_disk, .int x0_off, .int x0_failing, .int x0_written, .int x0_padded, .ref h0_pad, .ref h0_stack, .ref h0_firsts, .ref h0_others])), (h0_keys, .inl (cA, 76, .inl g0_keys)), (h0_legs, .inl (cA, 76, .inl g0_legs)), (h0_account, .inl (cA, 304, .inl g0_account)), (h0_amount, .inl (cA, 304, .inl g0_amount)), (h0_seals, .inl (cA, 76, .inl g0_seals)), (h0_ends, .inl (cA, 77, .inl g0_ends))] (some (.int rr)) := by
  refine hw_of (cc := cX6_logged) (maxL := 5) (ret := (some .int)) (by decide) rfl (Nat.le_of_ble_eq_true rfl) ?_
  intro p e s m args below meth c A ls hx hb hr hlk hml hown hts hA hK hE hP hD hS hl
  have hown : s.vm.findClass RX6 = some m.cls := hown
  have hl : lv_has ls 5 [(0, .ref h0), (1, .int k1)] := hl
  have L17 : ∀ (n17 : Nat) (ls : Array Slot) (H : Heap) (locs : List Loc) (k1 : Int32) (k2 : Int32), lv_has ls 5 [(0, .ref h0), (1, .int k1), (2, .int k2)] → va_P D vwCl [(h0, .inr (5, [.int x0_count, .ref h0_keys, .ref h0_legs, .ref h0_account, .ref h0_amount, .ref h0_seals, .ref h0_ends, .int x0_synced, .int x0_syncedEnd, .int x0_draft, .ref h0_draftAccount, .ref h0_draftAmount, .ref h0_limits, .ref h0_disk, .int x0_off, .int x0_failing, .int x0_written, .int x0_padded, .ref h0_pad, .ref h0_stack, .ref h0_firsts, .ref h0_others])), (h0_keys, .inl (cA, 76, .inl g0_keys)), (h0_legs, .inl (cA, 76, .inl g0_legs)), (h0_account, .inl (cA, 304, .inl g0_account)), (h0_amount, .inl (cA, 304, .inl g0_amount)), (h0_seals, .inl (cA, 76, .inl g0_seals)), (h0_ends, .inl (cA, 77, .inl g0_ends))] H → va_D A [(h0, .inr (5, [.int x0_count, .ref h0_keys, .ref h0_legs, .ref h0_account, .ref h0_amount, .ref h0_seals, .ref h0_ends, .int x0_synced, .int x0_syncedEnd, .int x0_draft, .ref h0_draftAccount, .ref h0_draftAmount, .ref h0_limits, .ref h0_disk, .int x0_off, .int x0_failing, .int x0_written, .int x0_padded, .ref h0_pad, .ref h0_stack, .ref h0_firsts, .ref h0_others])), (h0_keys, .inl (cA, 76, .inl g0_keys)), (h0_legs, .inl (cA, 76, .inl g0_legs)), (h0_account, .inl (cA, 304, .inl g0_account)), (h0_amount, .inl (cA, 304, .inl g0_amount)), (h0_seals, .inl (cA, 76, .inl g0_seals)), (h0_ends, .inl (cA, 77, .inl g0_ends))] → va_S A s.heap H locs → fMo_logged_L17 x0_count g0_keys g0_legs g0_account g0_amount g0_seals g0_ends k1 n17 k2 = some rr → W p l e { frames := 0, cells := 0, slots := 0, locals := 0 } s m args below meth c H locs 0 0 (hw_Z below args s D vwCl A [(h0, .inr (5, [.int x0_count, .ref h0_keys, .ref h0_legs, .ref h0_account, .ref h0_amount, .ref h0_seals, .ref h0_ends, .int x0_synced, .int x0_syncedEnd, .int x0_draft, .ref h0_draftAccount, .ref h0_draftAmount, .ref h0_limits, .ref h0_disk, .int x0_off, .int x0_failing, .int x0_written, .int x0_padded, .ref h0_pad, .ref h0_stack, .ref h0_firsts, .ref h0_others])), (h0_keys, .inl (cA, 76, .inl g0_keys)), (h0_legs, .inl (cA, 76, .inl g0_legs)), (h0_account, .inl (cA, 304, .inl g0_account)), (h0_amount, .inl (cA, 304, .inl g0_amount)), (h0_seals, .inl (cA, 76, .inl g0_seals)), (h0_ends, .inl (cA, 77, .inl g0_ends))] (some (.int rr))) (F0 m 17 ls []) := by
    intro n17
    induction n17 with
    | zero => intro ls H locs k1 k2 hl hP hD hS hf; simp only [fMo_logged_L17] at hf; cases hf
    | succ n17 ih17 =>
      intro ls H locs k1 k2 hl hP hD hS hf
      rw [fMo_logged_L17] at hf
      refine lv_aload_n hx hb dX6_logged_17 rfl (lv_at hl 0 rfl) ?_
      refine va_get (D := D) (ci := 5) (v := .ref h0_ends) (C := RX6) (T := TX6) (N := 22) hx hb hts in_X6 hown hK hP 0 rfl rfl 6 (by decide) (hts _ mw_344) (fun _ h9 => h9) rfl dX6_logged_18 ?_
      refine lv_iload_n hx hb dX6_logged_21 rfl (lv_at hl 2 rfl) ?_
      refine lv_iconst (v := (1 : Int32)) hx hb dX6_logged_22 (by decide) ?_
      refine lv_iadd hx hb dX6_logged_23 ?_
      obtain ⟨v3, e4, hf⟩ := hw_bind hf
      refine hw_iald hx hb hK hP 6 rfl e4 dX6_logged_24 ?_
      refine lv_iload_n hx hb dX6_logged_25 rfl (lv_at hl 1 rfl) ?_
      refine hi_icmp_gt (tgt := 35) hx hb dX6_logged_26 rfl hf (fun hc hf => ?_) (fun hc hf => ?_)
      · refine lv_iload_n hx hb dX6_logged_35 rfl (lv_at hl 1 rfl) ?_
        refine lv_aload_n hx hb dX6_logged_36 rfl (lv_at hl 0 rfl) ?_
        refine va_get (D := D) (ci := 5) (v := .ref h0_ends) (C := RX6) (T := TX6) (N := 22) hx hb hts in_X6 hown hK hP 0 rfl rfl 6 (by decide) (hts _ mw_344) (fun _ h9 => h9) rfl dX6_logged_37 ?_
        refine lv_iload_n hx hb dX6_logged_40 rfl (lv_at hl 2 rfl) ?_
        obtain ⟨v5, e6, hf⟩ := hw_bind hf
        refine hw_iald hx hb hK hP 6 rfl e6 dX6_logged_41 ?_
        refine lv_isub hx hb dX6_logged_42 ?_
        refine lv_istore_n (lv' := [(3, .int (k1 - v5)), (0, .ref h0), (1, .int k1), (2, .int k2)]) hx hb dX6_logged_43 rfl hl (by decide) rfl (fun ls hl => ?_)
        refine lv_iload_n hx hb dX6_logged_44 rfl (lv_at hl 0 rfl) ?_
        refine hi_if_ne (tgt := 55) hx hb dX6_logged_45 rfl hf (fun hc hf => ?_) (fun hc hf => ?_)
        · refine lv_iload_n hx hb dX6_logged_55 rfl (lv_at hl 0 rfl) ?_
          refine lv_iconst (v := (1 : Int32)) hx hb dX6_logged_56 (by decide) ?_
          refine hi_icmp_ne (tgt := 67) hx hb dX6_logged_57 rfl hf (fun hc hf => ?_) (fun hc hf => ?_)
          · refine lv_iload_n hx hb dX6_logged_67 rfl (lv_at hl 0 rfl) ?_
            refine lv_iconst (v := (2 : Int32)) hx hb dX6_logged_68 (by decide) ?_
            refine lv_iconst (v := (2 : Int32)) hx hb dX6_logged_69 (by decide) ?_
            refine lv_aload_n hx hb dX6_logged_70 rfl (lv_at hl 1 rfl) ?_
            refine va_get (D := D) (ci := 5) (v := .ref h0_legs) (C := RX6) (T := TX6) (N := 22) hx hb hts in_X6 hown hK hP 0 rfl rfl 2 (by decide) (hts _ mw_340) (fun _ h9 => h9) rfl dX6_logged_71 ?_
            refine lv_iload_n hx hb dX6_logged_74 rfl (lv_at hl 3 rfl) ?_
            obtain ⟨v7, e8, hf⟩ := hw_bind hf
            refine hw_iald hx hb hK hP 2 rfl e8 dX6_logged_75 ?_
            refine lv_imul hx hb dX6_logged_76 ?_
            refine lv_iadd hx hb dX6_logged_77 ?_
            refine hi_icmp_ne (tgt := 88) hx hb dX6_logged_78 rfl hf (fun hc hf => ?_) (fun hc hf => ?_)
            · refine lv_iconst (v := (4 : Int32)) hx hb dX6_logged_88 (by decide) ?_
              refine lv_iload_n hx hb dX6_logged_89 rfl (lv_at hl 3 rfl) ?_
              refine lv_imul hx hb dX6_logged_90 ?_
              refine lv_iload_n hx hb dX6_logged_91 rfl (lv_at hl 0 rfl) ?_
              refine lv_iconst (v := (2 : Int32)) hx hb dX6_logged_92 (by decide) ?_
              refine lv_isub hx hb dX6_logged_93 ?_
              refine lv_iconst (v := (2 : Int32)) hx hb dX6_logged_94 (by decide) ?_
              refine lv_idiv hx hb dX6_logged_95 (by decide) ?_
              refine lv_iadd hx hb dX6_logged_96 ?_
              refine lv_istore (lv' := [(4, .int (((4 : Int32) * k2) + (((k1 - v5) - (2 : Int32)) / (2 : Int32)))), (3, .int (k1 - v5)), (0, .ref h0), (1, .int k1), (2, .int k2)]) hx hb dX6_logged_97 hl (by decide) rfl (fun ls hl => ?_)
              refine lv_iload_n hx hb dX6_logged_99 rfl (lv_at hl 1 rfl) ?_
              refine lv_iconst (v := (2 : Int32)) hx hb dX6_logged_100 (by decide) ?_
              refine lv_irem hx hb dX6_logged_101 (by decide) ?_
              refine hi_if_ne (tgt := 115) hx hb dX6_logged_102 rfl hf (fun hc hf => ?_) (fun hc hf => ?_)
              · refine lv_aload_n hx hb dX6_logged_115 rfl (lv_at hl 2 rfl) ?_
                refine va_get (D := D) (ci := 5) (v := .ref h0_amount) (C := RX6) (T := TX6) (N := 22) hx hb hts in_X6 hown hK hP 0 rfl rfl 4 (by decide) (hts _ mw_342) (fun _ h9 => h9) rfl dX6_logged_116 ?_
                refine lv_iload hx hb dX6_logged_119 (lv_at hl 0 rfl) ?_
                obtain ⟨v9, e10, hf⟩ := hw_bind hf
                refine hw_iald hx hb hK hP 4 rfl e10 dX6_logged_121 ?_
                cases hf
                exact hw_ri hx hb hr hlk (hP.sub [0, 1, 2, 3, 4, 5, 6] rfl) (hD.sub [0, 1, 2, 3, 4, 5, 6] (by decide) rfl) hS dX6_logged_122
              · refine lv_aload_n hx hb dX6_logged_105 rfl (lv_at hl 2 rfl) ?_
                refine va_get (D := D) (ci := 5) (v := .ref h0_account) (C := RX6) (T := TX6) (N := 22) hx hb hts in_X6 hown hK hP 0 rfl rfl 3 (by decide) (hts _ mw_341) (fun _ h9 => h9) rfl dX6_logged_106 ?_
                refine lv_iload hx hb dX6_logged_109 (lv_at hl 0 rfl) ?_
                obtain ⟨v11, e12, hf⟩ := hw_bind hf
                refine hw_iald hx hb hK hP 3 rfl e12 dX6_logged_111 ?_
                refine lv_goto (tgt := 122) hx hb dX6_logged_112 rfl ?_
                cases hf
                exact hw_ri hx hb hr hlk (hP.sub [0, 1, 2, 3, 4, 5, 6] rfl) (hD.sub [0, 1, 2, 3, 4, 5, 6] (by decide) rfl) hS dX6_logged_122
            · refine lv_aload_n hx hb dX6_logged_81 rfl (lv_at hl 1 rfl) ?_
              refine va_get (D := D) (ci := 5) (v := .ref h0_seals) (C := RX6) (T := TX6) (N := 22) hx hb hts in_X6 hown hK hP 0 rfl rfl 5 (by decide) (hts _ mw_343) (fun _ h9 => h9) rfl dX6_logged_82 ?_
              refine lv_iload_n hx hb dX6_logged_85 rfl (lv_at hl 3 rfl) ?_
              obtain ⟨v13, e14, hf⟩ := hw_bind hf
              refine hw_iald hx hb hK hP 5 rfl e14 dX6_logged_86 ?_
              cases hf
              exact hw_ri hx hb hr hlk (hP.sub [0, 1, 2, 3, 4, 5, 6] rfl) (hD.sub [0, 1, 2, 3, 4, 5, 6] (by decide) rfl) hS dX6_logged_87
          · refine lv_aload_n hx hb dX6_logged_60 rfl (lv_at hl 1 rfl) ?_
            refine va_get (D := D) (ci := 5) (v := .ref h0_keys) (C := RX6) (T := TX6) (N := 22) hx hb hts in_X6 hown hK hP 0 rfl rfl 1 (by decide) (hts _ mw_339) (fun _ h9 => h9) rfl dX6_logged_61 ?_
            refine lv_iload_n hx hb dX6_logged_64 rfl (lv_at hl 3 rfl) ?_
            obtain ⟨v15, e16, hf⟩ := hw_bind hf
            refine hw_iald hx hb hK hP 1 rfl e16 dX6_logged_65 ?_
            cases hf
            exact hw_ri hx hb hr hlk (hP.sub [0, 1, 2, 3, 4, 5, 6] rfl) (hD.sub [0, 1, 2, 3, 4, 5, 6] (by decide) rfl) hS dX6_logged_66
        · refine lv_aload_n hx hb dX6_logged_48 rfl (lv_at hl 1 rfl) ?_
          refine va_get (D := D) (ci := 5) (v := .ref h0_legs) (C := RX6) (T := TX6) (N := 22) hx hb hts in_X6 hown hK hP 0 rfl rfl 2 (by decide) (hts _ mw_340) (fun _ h9 => h9) rfl dX6_logged_49 ?_
          refine lv_iload_n hx hb dX6_logged_52 rfl (lv_at hl 3 rfl) ?_
          obtain ⟨v17, e18, hf⟩ := hw_bind hf
          refine hw_iald hx hb hK hP 2 rfl e18 dX6_logged_53 ?_
          cases hf
          exact hw_ri hx hb hr hlk (hP.sub [0, 1, 2, 3, 4, 5, 6] rfl) (hD.sub [0, 1, 2, 3, 4, 5, 6] (by decide) rfl) hS dX6_logged_54
      · refine lv_iinc (v := k2 + (1 : Int32)) (lv' := [(2, .int (k2 + (1 : Int32))), (0, .ref h0), (1, .int k1)]) hx hb dX6_logged_29 hl (k := 2) rfl (congrArg (fun z => k2 + z) (by decide)) (by decide) rfl (fun ls hl => ?_)
        refine lv_goto (tgt := 17) hx hb dX6_logged_32 rfl ?_
        exact ih17 _ _ _ k1 (k2 + (1 : Int32)) (lv_sub hl [1, 2, 0] rfl) (hP.sub [0, 1, 2, 3, 4, 5, 6] rfl) (hD.sub [0, 1, 2, 3, 4, 5, 6] (by decide) rfl) hS hf
  rw [fMo_logged] at hf
  refine lv_iload_n hx hb dX6_logged_0 rfl (lv_at hl 1 rfl) ?_
  refine lv_aload_n hx hb dX6_logged_1 rfl (lv_at hl 0 rfl) ?_
  refine va_get (D := D) (ci := 5) (v := .ref h0_ends) (C := RX6) (T := TX6) (N := 22) hx hb hts in_X6 hown hK hP 0 rfl rfl 6 (by decide) (hts _ mw_344) (fun _ h9 => h9) rfl dX6_logged_2 ?_
  refine lv_aload_n hx hb dX6_logged_5 rfl (lv_at hl 0 rfl) ?_
  refine va_get (D := D) (ci := 5) (v := .int x0_count) (C := RX6) (T := TX6) (N := 22) hx hb hts in_X6 hown hK hP 0 rfl rfl 0 (by decide) (hts _ mw_378) (fun _ h9 => h9) rfl dX6_logged_6 ?_
  obtain ⟨v1, e2, hf⟩ := hw_bind hf
  refine hw_iald hx hb hK hP 6 rfl e2 dX6_logged_9 ?_
  refine hi_icmp_lt (tgt := 15) hx hb dX6_logged_10 rfl hf (fun hc hf => ?_) (fun hc hf => ?_)
  · refine lv_iconst (v := (0 : Int32)) hx hb dX6_logged_15 (by decide) ?_
    refine lv_istore_n (lv' := [(2, .int (0 : Int32)), (0, .ref h0), (1, .int k1)]) hx hb dX6_logged_16 rfl hl (by decide) rfl (fun ls hl => ?_)
    exact L17 600 _ _ _ k1 (0 : Int32) (lv_sub hl [1, 2, 0] rfl) (hP.sub [0, 1, 2, 3, 4, 5, 6] rfl) (hD.sub [0, 1, 2, 3, 4, 5, 6] (by decide) rfl) hS hf
  · refine lv_iconst (v := (0 : Int32)) hx hb dX6_logged_13 (by decide) ?_
    cases hf
    exact hw_ri hx hb hr hlk (hP.sub [0, 1, 2, 3, 4, 5, 6] rfl) (hD.sub [0, 1, 2, 3, 4, 5, 6] (by decide) rfl) hS dX6_logged_14
set_option maxHeartbeats 4000000 in
set_option maxRecDepth 100000 in
theorem cMo_fail (l : Launch) (D : va_G) (cA cZ : ClassId) (h0 : Nat) (h0_keys : Nat) (h0_legs : Nat) (h0_account : Nat) (h0_amount : Nat) (h0_seals : Nat) (h0_ends : Nat) (h0_draftAccount : Nat) (h0_draftAmount : Nat) (h0_limits : Nat) (h0_disk : Nat) (h0_pad : Nat) (h0_stack : Nat) (h0_firsts : Nat) (h0_others : Nat) (x0_count : Int32) (x0_synced : Int32) (x0_syncedEnd : Int32) (x0_draft : Int32) (x0_off : Int32) (x0_failing : Int32) (x0_written : Int32) (x0_padded : Int32) (k1 : Int32) (rr : Int32) (ox0_failing : Int32) (hf : fMo_fail x0_failing k1 = some (rr, ox0_failing)) : hw_C l yX6_fail wX6_fail { frames := 0, cells := 0, slots := 0, locals := 0 } D vwCl cA cZ [.ref h0, .int k1] [(h0, .inr (5, [.int x0_count, .ref h0_keys, .ref h0_legs, .ref h0_account, .ref h0_amount, .ref h0_seals, .ref h0_ends, .int x0_synced, .int x0_syncedEnd, .int x0_draft, .ref h0_draftAccount, .ref h0_draftAmount, .ref h0_limits, .ref h0_disk, .int x0_off, .int x0_failing, .int x0_written, .int x0_padded, .ref h0_pad, .ref h0_stack, .ref h0_firsts, .ref h0_others]))] [(h0, .inr (5, [.int x0_count, .ref h0_keys, .ref h0_legs, .ref h0_account, .ref h0_amount, .ref h0_seals, .ref h0_ends, .int x0_synced, .int x0_syncedEnd, .int x0_draft, .ref h0_draftAccount, .ref h0_draftAmount, .ref h0_limits, .ref h0_disk, .int x0_off, .int ox0_failing, .int x0_written, .int x0_padded, .ref h0_pad, .ref h0_stack, .ref h0_firsts, .ref h0_others]))] (some (.int rr)) := by
  refine hw_of (cc := cX6_fail) (maxL := 2) (ret := (some .boolean)) (by decide) rfl (Nat.le_of_ble_eq_true rfl) ?_
  intro p e s m args below meth c A ls hx hb hr hlk hml hown hts hA hK hE hP hD hS hl
  have hown : s.vm.findClass RX6 = some m.cls := hown
  have hl : lv_has ls 2 [(0, .ref h0), (1, .int k1)] := hl
  rw [fMo_fail] at hf
  refine lv_iload_n hx hb dX6_fail_0 rfl (lv_at hl 1 rfl) ?_
  refine hi_if_lt (tgt := 10) hx hb dX6_fail_1 rfl hf (fun hc hf => ?_) (fun hc hf => ?_)
  · refine lv_iconst (v := (0 : Int32)) hx hb dX6_fail_10 (by decide) ?_
    cases hf
    exact hw_rz hx hb hr hlk rfl (hP.sub [0] rfl) (hD.sub [0] (by decide) rfl) hS dX6_fail_11
  · refine lv_iload_n hx hb dX6_fail_4 rfl (lv_at hl 1 rfl) ?_
    refine lv_bipush (v := (40 : Int32)) hx hb dX6_fail_5 (by decide) ?_
    refine hi_icmp_le (tgt := 12) hx hb dX6_fail_7 rfl hf (fun hc hf => ?_) (fun hc hf => ?_)
    · refine lv_aload_n hx hb dX6_fail_12 rfl (lv_at hl 0 rfl) ?_
      refine lv_iload_n hx hb dX6_fail_13 rfl (lv_at hl 1 rfl) ?_
      refine va_put (D := D) (ci := 5) (v := .int k1) (ty := .int) (C := RX6) (T := TX6) (N := 22) hx hb hts in_X6 tyX6 tyX6_ok nX6 hown hK hP hD hS 0 rfl rfl 15 (by decide) (hts _ mw_406) (fun _ h9 => h9) rfl (by decide +kernel) rfl rfl (Nat.le_of_ble_eq_true rfl) dX6_fail_14 (fun H locs (hP : va_P D vwCl [(h0, .inr (5, [.int x0_count, .ref h0_keys, .ref h0_legs, .ref h0_account, .ref h0_amount, .ref h0_seals, .ref h0_ends, .int x0_synced, .int x0_syncedEnd, .int x0_draft, .ref h0_draftAccount, .ref h0_draftAmount, .ref h0_limits, .ref h0_disk, .int x0_off, .int k1, .int x0_written, .int x0_padded, .ref h0_pad, .ref h0_stack, .ref h0_firsts, .ref h0_others]))] H) (hD : va_D A [(h0, .inr (5, [.int x0_count, .ref h0_keys, .ref h0_legs, .ref h0_account, .ref h0_amount, .ref h0_seals, .ref h0_ends, .int x0_synced, .int x0_syncedEnd, .int x0_draft, .ref h0_draftAccount, .ref h0_draftAmount, .ref h0_limits, .ref h0_disk, .int x0_off, .int k1, .int x0_written, .int x0_padded, .ref h0_pad, .ref h0_stack, .ref h0_firsts, .ref h0_others]))]) hS => ?_)
      refine lv_iconst (v := (1 : Int32)) hx hb dX6_fail_17 (by decide) ?_
      cases hf
      exact hw_rz hx hb hr hlk rfl (hP.sub [0] rfl) (hD.sub [0] (by decide) rfl) hS dX6_fail_18
    · refine lv_iconst (v := (0 : Int32)) hx hb dX6_fail_10 (by decide) ?_
      cases hf
      exact hw_rz hx hb hr hlk rfl (hP.sub [0] rfl) (hD.sub [0] (by decide) rfl) hS dX6_fail_11
set_option maxHeartbeats 4000000 in
set_option maxRecDepth 100000 in
theorem cMo_on (l : Launch) (D : va_G) (cA cZ : ClassId) (h0 : Nat) (h0_keys : Nat) (h0_legs : Nat) (h0_account : Nat) (h0_amount : Nat) (h0_seals : Nat) (h0_ends : Nat) (h0_draftAccount : Nat) (h0_draftAmount : Nat) (h0_limits : Nat) (h0_disk : Nat) (h0_pad : Nat) (h0_stack : Nat) (h0_firsts : Nat) (h0_others : Nat) (x0_count : Int32) (x0_synced : Int32) (x0_syncedEnd : Int32) (x0_draft : Int32) (x0_off : Int32) (x0_failing : Int32) (x0_written : Int32) (x0_padded : Int32) (rr : Int32) (hf : fMo_on x0_off = some rr) : hw_C l yX6_on wX6_on { frames := 0, cells := 0, slots := 0, locals := 0 } D vwCl cA cZ [.ref h0] [(h0, .inr (5, [.int x0_count, .ref h0_keys, .ref h0_legs, .ref h0_account, .ref h0_amount, .ref h0_seals, .ref h0_ends, .int x0_synced, .int x0_syncedEnd, .int x0_draft, .ref h0_draftAccount, .ref h0_draftAmount, .ref h0_limits, .ref h0_disk, .int x0_off, .int x0_failing, .int x0_written, .int x0_padded, .ref h0_pad, .ref h0_stack, .ref h0_firsts, .ref h0_others]))] [(h0, .inr (5, [.int x0_count, .ref h0_keys, .ref h0_legs, .ref h0_account, .ref h0_amount, .ref h0_seals, .ref h0_ends, .int x0_synced, .int x0_syncedEnd, .int x0_draft, .ref h0_draftAccount, .ref h0_draftAmount, .ref h0_limits, .ref h0_disk, .int x0_off, .int x0_failing, .int x0_written, .int x0_padded, .ref h0_pad, .ref h0_stack, .ref h0_firsts, .ref h0_others]))] (some (.int rr)) := by
  refine hw_of (cc := cX6_on) (maxL := 1) (ret := (some .boolean)) (by decide) rfl (Nat.le_of_ble_eq_true rfl) ?_
  intro p e s m args below meth c A ls hx hb hr hlk hml hown hts hA hK hE hP hD hS hl
  have hown : s.vm.findClass RX6 = some m.cls := hown
  have hl : lv_has ls 1 [(0, .ref h0)] := hl
  rw [fMo_on] at hf
  refine lv_aload_n hx hb dX6_on_0 rfl (lv_at hl 0 rfl) ?_
  refine va_get (D := D) (ci := 5) (v := .int x0_off) (C := RX6) (T := TX6) (N := 22) hx hb hts in_X6 hown hK hP 0 rfl rfl 14 (by decide) (hts _ mw_367) (fun _ h9 => h9) rfl dX6_on_1 ?_
  refine hi_if_ne (tgt := 11) hx hb dX6_on_4 rfl hf (fun hc hf => ?_) (fun hc hf => ?_)
  · refine lv_iconst (v := (0 : Int32)) hx hb dX6_on_11 (by decide) ?_
    cases hf
    exact hw_rz hx hb hr hlk rfl (hP.sub [0] rfl) (hD.sub [0] (by decide) rfl) hS dX6_on_12
  · refine lv_iconst (v := (1 : Int32)) hx hb dX6_on_7 (by decide) ?_
    refine lv_goto (tgt := 12) hx hb dX6_on_8 rfl ?_
    cases hf
    exact hw_rz hx hb hr hlk rfl (hP.sub [0] rfl) (hD.sub [0] (by decide) rfl) hS dX6_on_12
set_option maxHeartbeats 4000000 in
set_option maxRecDepth 100000 in
theorem cMo_entries (l : Launch) (D : va_G) (cA cZ : ClassId) (h0 : Nat) (h0_keys : Nat) (h0_legs : Nat) (h0_account : Nat) (h0_amount : Nat) (h0_seals : Nat) (h0_ends : Nat) (h0_draftAccount : Nat) (h0_draftAmount : Nat) (h0_limits : Nat) (h0_disk : Nat) (h0_pad : Nat) (h0_stack : Nat) (h0_firsts : Nat) (h0_others : Nat) (x0_count : Int32) (x0_synced : Int32) (x0_syncedEnd : Int32) (x0_draft : Int32) (x0_off : Int32) (x0_failing : Int32) (x0_written : Int32) (x0_padded : Int32) (rr : Int32) (hf : fMo_entries x0_count = some rr) : hw_C l yX6_entries wX6_entries { frames := 0, cells := 0, slots := 0, locals := 0 } D vwCl cA cZ [.ref h0] [(h0, .inr (5, [.int x0_count, .ref h0_keys, .ref h0_legs, .ref h0_account, .ref h0_amount, .ref h0_seals, .ref h0_ends, .int x0_synced, .int x0_syncedEnd, .int x0_draft, .ref h0_draftAccount, .ref h0_draftAmount, .ref h0_limits, .ref h0_disk, .int x0_off, .int x0_failing, .int x0_written, .int x0_padded, .ref h0_pad, .ref h0_stack, .ref h0_firsts, .ref h0_others]))] [(h0, .inr (5, [.int x0_count, .ref h0_keys, .ref h0_legs, .ref h0_account, .ref h0_amount, .ref h0_seals, .ref h0_ends, .int x0_synced, .int x0_syncedEnd, .int x0_draft, .ref h0_draftAccount, .ref h0_draftAmount, .ref h0_limits, .ref h0_disk, .int x0_off, .int x0_failing, .int x0_written, .int x0_padded, .ref h0_pad, .ref h0_stack, .ref h0_firsts, .ref h0_others]))] (some (.int rr)) := by
  refine hw_of (cc := cX6_entries) (maxL := 1) (ret := (some .int)) (by decide) rfl (Nat.le_of_ble_eq_true rfl) ?_
  intro p e s m args below meth c A ls hx hb hr hlk hml hown hts hA hK hE hP hD hS hl
  have hown : s.vm.findClass RX6 = some m.cls := hown
  have hl : lv_has ls 1 [(0, .ref h0)] := hl
  rw [fMo_entries] at hf
  refine lv_aload_n hx hb dX6_entries_0 rfl (lv_at hl 0 rfl) ?_
  refine va_get (D := D) (ci := 5) (v := .int x0_count) (C := RX6) (T := TX6) (N := 22) hx hb hts in_X6 hown hK hP 0 rfl rfl 0 (by decide) (hts _ mw_378) (fun _ h9 => h9) rfl dX6_entries_1 ?_
  cases hf
  exact hw_ri hx hb hr hlk (hP.sub [0] rfl) (hD.sub [0] (by decide) rfl) hS dX6_entries_4
set_option maxHeartbeats 4000000 in
set_option maxRecDepth 100000 in
theorem cMo_synced (l : Launch) (D : va_G) (cA cZ : ClassId) (h0 : Nat) (h0_keys : Nat) (h0_legs : Nat) (h0_account : Nat) (h0_amount : Nat) (h0_seals : Nat) (h0_ends : Nat) (h0_draftAccount : Nat) (h0_draftAmount : Nat) (h0_limits : Nat) (h0_disk : Nat) (h0_pad : Nat) (h0_stack : Nat) (h0_firsts : Nat) (h0_others : Nat) (x0_count : Int32) (x0_synced : Int32) (x0_syncedEnd : Int32) (x0_draft : Int32) (x0_off : Int32) (x0_failing : Int32) (x0_written : Int32) (x0_padded : Int32) (rr : Int32) (hf : fMo_synced x0_synced = some rr) : hw_C l yX6_synced wX6_synced { frames := 0, cells := 0, slots := 0, locals := 0 } D vwCl cA cZ [.ref h0] [(h0, .inr (5, [.int x0_count, .ref h0_keys, .ref h0_legs, .ref h0_account, .ref h0_amount, .ref h0_seals, .ref h0_ends, .int x0_synced, .int x0_syncedEnd, .int x0_draft, .ref h0_draftAccount, .ref h0_draftAmount, .ref h0_limits, .ref h0_disk, .int x0_off, .int x0_failing, .int x0_written, .int x0_padded, .ref h0_pad, .ref h0_stack, .ref h0_firsts, .ref h0_others]))] [(h0, .inr (5, [.int x0_count, .ref h0_keys, .ref h0_legs, .ref h0_account, .ref h0_amount, .ref h0_seals, .ref h0_ends, .int x0_synced, .int x0_syncedEnd, .int x0_draft, .ref h0_draftAccount, .ref h0_draftAmount, .ref h0_limits, .ref h0_disk, .int x0_off, .int x0_failing, .int x0_written, .int x0_padded, .ref h0_pad, .ref h0_stack, .ref h0_firsts, .ref h0_others]))] (some (.int rr)) := by
  refine hw_of (cc := cX6_synced) (maxL := 1) (ret := (some .int)) (by decide) rfl (Nat.le_of_ble_eq_true rfl) ?_
  intro p e s m args below meth c A ls hx hb hr hlk hml hown hts hA hK hE hP hD hS hl
  have hown : s.vm.findClass RX6 = some m.cls := hown
  have hl : lv_has ls 1 [(0, .ref h0)] := hl
  rw [fMo_synced] at hf
  refine lv_aload_n hx hb dX6_synced_0 rfl (lv_at hl 0 rfl) ?_
  refine va_get (D := D) (ci := 5) (v := .int x0_synced) (C := RX6) (T := TX6) (N := 22) hx hb hts in_X6 hown hK hP 0 rfl rfl 7 (by decide) (hts _ mw_407) (fun _ h9 => h9) rfl dX6_synced_1 ?_
  cases hf
  exact hw_ri hx hb hr hlk (hP.sub [0] rfl) (hD.sub [0] (by decide) rfl) hS dX6_synced_4
set_option maxHeartbeats 4000000 in
set_option maxRecDepth 100000 in
theorem cMo_leaf (l : Launch) (D : va_G) (cA cZ : ClassId) (h0 : Nat) (h0_keys : Nat) (h0_legs : Nat) (h0_account : Nat) (h0_amount : Nat) (h0_seals : Nat) (h0_ends : Nat) (h0_draftAccount : Nat) (h0_draftAmount : Nat) (h0_limits : Nat) (h0_disk : Nat) (h0_pad : Nat) (h0_stack : Nat) (h0_firsts : Nat) (h0_others : Nat) (x0_count : Int32) (x0_synced : Int32) (x0_syncedEnd : Int32) (x0_draft : Int32) (x0_off : Int32) (x0_failing : Int32) (x0_written : Int32) (x0_padded : Int32) (g0_keys : Nat → Int32) (g0_legs : Nat → Int32) (g0_account : Nat → Int32) (g0_amount : Nat → Int32) (k1 : Int32) (rr : Int32) (hf : fMo_leaf x0_count g0_keys g0_legs g0_account g0_amount k1 = some rr) : hw_C l yX6_leaf wX6_leaf { frames := 2, cells := 0, slots := 0, locals := 46 } D vwCl cA cZ [.ref h0, .int k1] [(h0, .inr (5, [.int x0_count, .ref h0_keys, .ref h0_legs, .ref h0_account, .ref h0_amount, .ref h0_seals, .ref h0_ends, .int x0_synced, .int x0_syncedEnd, .int x0_draft, .ref h0_draftAccount, .ref h0_draftAmount, .ref h0_limits, .ref h0_disk, .int x0_off, .int x0_failing, .int x0_written, .int x0_padded, .ref h0_pad, .ref h0_stack, .ref h0_firsts, .ref h0_others])), (h0_keys, .inl (cA, 76, .inl g0_keys)), (h0_legs, .inl (cA, 76, .inl g0_legs)), (h0_account, .inl (cA, 304, .inl g0_account)), (h0_amount, .inl (cA, 304, .inl g0_amount))] [(h0, .inr (5, [.int x0_count, .ref h0_keys, .ref h0_legs, .ref h0_account, .ref h0_amount, .ref h0_seals, .ref h0_ends, .int x0_synced, .int x0_syncedEnd, .int x0_draft, .ref h0_draftAccount, .ref h0_draftAmount, .ref h0_limits, .ref h0_disk, .int x0_off, .int x0_failing, .int x0_written, .int x0_padded, .ref h0_pad, .ref h0_stack, .ref h0_firsts, .ref h0_others])), (h0_keys, .inl (cA, 76, .inl g0_keys)), (h0_legs, .inl (cA, 76, .inl g0_legs)), (h0_account, .inl (cA, 304, .inl g0_account)), (h0_amount, .inl (cA, 304, .inl g0_amount))] (some (.int rr)) := by
  refine hw_of (cc := cX6_leaf) (maxL := 2) (ret := (some .int)) (by decide) rfl (Nat.le_of_ble_eq_true rfl) ?_
  intro p e s m args below meth c A ls hx hb hr hlk hml hown hts hA hK hE hP hD hS hl
  have hown : s.vm.findClass RX6 = some m.cls := hown
  have hl : lv_has ls 2 [(0, .ref h0), (1, .int k1)] := hl
  rw [fMo_leaf] at hf
  refine lv_iload_n hx hb dX6_leaf_0 rfl (lv_at hl 1 rfl) ?_
  refine hi_if_lt (tgt := 12) hx hb dX6_leaf_1 rfl hf (fun hc hf => ?_) (fun hc hf => ?_)
  · refine lv_iconst (v := (0 : Int32)) hx hb dX6_leaf_12 (by decide) ?_
    refine lv_goto (tgt := 21) hx hb dX6_leaf_13 rfl ?_
    cases hf
    exact hw_ri hx hb hr hlk (hP.sub [0, 1, 2, 3, 4] rfl) (hD.sub [0, 1, 2, 3, 4] (by decide) rfl) hS dX6_leaf_21
  · refine lv_iload_n hx hb dX6_leaf_4 rfl (lv_at hl 1 rfl) ?_
    refine lv_aload_n hx hb dX6_leaf_5 rfl (lv_at hl 0 rfl) ?_
    refine va_get (D := D) (ci := 5) (v := .int x0_count) (C := RX6) (T := TX6) (N := 22) hx hb hts in_X6 hown hK hP 0 rfl rfl 0 (by decide) (hts _ mw_378) (fun _ h9 => h9) rfl dX6_leaf_6 ?_
    refine hi_icmp_lt (tgt := 16) hx hb dX6_leaf_9 rfl hf (fun hc hf => ?_) (fun hc hf => ?_)
    · refine lv_aload_n hx hb dX6_leaf_16 rfl (lv_at hl 0 rfl) ?_
      refine lv_iload_n hx hb dX6_leaf_17 rfl (lv_at hl 1 rfl) ?_
      obtain ⟨v1, e2, hf⟩ := hw_bind hf
      refine hw_goV (wr := []) (rest := []) ⟨hx, hb, hml, hown, hts⟩ (cMo_leafOf l D cA cZ h0 h0_keys h0_legs h0_account h0_amount h0_seals h0_ends h0_draftAccount h0_draftAmount h0_limits h0_disk h0_pad h0_stack h0_firsts h0_others x0_count x0_synced x0_syncedEnd x0_draft x0_off x0_failing x0_written x0_padded g0_keys g0_legs g0_account g0_amount k1 v1 e2) (cwV 1 hts ks_X6_72 rfl rfl rfl (by decide +kernel) ⟨Nat.le_of_ble_eq_true rfl, Nat.le_of_ble_eq_true rfl⟩) 0 rfl rfl [0, 1, 2, 3, 4] [] rfl rfl (by decide) (by decide) (by decide) hK hE hP hD hS hA hl.1 rfl rfl (Nat.le_of_ble_eq_true rfl) dX6_leaf_18 ⟨Nat.zero_le _, Nat.zero_le _⟩ (fun H locs (hP : va_P D vwCl [(h0, .inr (5, [.int x0_count, .ref h0_keys, .ref h0_legs, .ref h0_account, .ref h0_amount, .ref h0_seals, .ref h0_ends, .int x0_synced, .int x0_syncedEnd, .int x0_draft, .ref h0_draftAccount, .ref h0_draftAmount, .ref h0_limits, .ref h0_disk, .int x0_off, .int x0_failing, .int x0_written, .int x0_padded, .ref h0_pad, .ref h0_stack, .ref h0_firsts, .ref h0_others])), (h0_keys, .inl (cA, 76, .inl g0_keys)), (h0_legs, .inl (cA, 76, .inl g0_legs)), (h0_account, .inl (cA, 304, .inl g0_account)), (h0_amount, .inl (cA, 304, .inl g0_amount))] H) (hD : va_D A [(h0, .inr (5, [.int x0_count, .ref h0_keys, .ref h0_legs, .ref h0_account, .ref h0_amount, .ref h0_seals, .ref h0_ends, .int x0_synced, .int x0_syncedEnd, .int x0_draft, .ref h0_draftAccount, .ref h0_draftAmount, .ref h0_limits, .ref h0_disk, .int x0_off, .int x0_failing, .int x0_written, .int x0_padded, .ref h0_pad, .ref h0_stack, .ref h0_firsts, .ref h0_others])), (h0_keys, .inl (cA, 76, .inl g0_keys)), (h0_legs, .inl (cA, 76, .inl g0_legs)), (h0_account, .inl (cA, 304, .inl g0_account)), (h0_amount, .inl (cA, 304, .inl g0_amount))]) hS => ?_)
      cases hf
      exact hw_ri hx hb hr hlk (hP.sub [0, 1, 2, 3, 4] rfl) (hD.sub [0, 1, 2, 3, 4] (by decide) rfl) hS dX6_leaf_21
    · refine lv_iconst (v := (0 : Int32)) hx hb dX6_leaf_12 (by decide) ?_
      refine lv_goto (tgt := 21) hx hb dX6_leaf_13 rfl ?_
      cases hf
      exact hw_ri hx hb hr hlk (hP.sub [0, 1, 2, 3, 4] rfl) (hD.sub [0, 1, 2, 3, 4] (by decide) rfl) hS dX6_leaf_21
set_option maxHeartbeats 4000000 in
set_option maxRecDepth 100000 in
theorem cMo_hash (l : Launch) (D : va_G) (cA cZ : ClassId) (h0 : Nat) (h0_keys : Nat) (h0_legs : Nat) (h0_account : Nat) (h0_amount : Nat) (h0_seals : Nat) (h0_ends : Nat) (h0_draftAccount : Nat) (h0_draftAmount : Nat) (h0_limits : Nat) (h0_disk : Nat) (h0_pad : Nat) (h0_stack : Nat) (h0_firsts : Nat) (h0_others : Nat) (x0_count : Int32) (x0_synced : Int32) (x0_syncedEnd : Int32) (x0_draft : Int32) (x0_off : Int32) (x0_failing : Int32) (x0_written : Int32) (x0_padded : Int32) (g0_keys : Nat → Int32) (g0_legs : Nat → Int32) (g0_account : Nat → Int32) (g0_amount : Nat → Int32) (g0_stack : Nat → Int32) (k1 : Int32) (k2 : Int32) (rr : Int32) (og0_stack : Nat → Int32) (hf : fMo_hash g0_keys g0_legs g0_account g0_amount g0_stack k1 k2 = some (rr, og0_stack)) : hw_C l yX6_hash wX6_hash { frames := 2, cells := 0, slots := 0, locals := 46 } D vwCl cA cZ [.ref h0, .int k1, .int k2] [(h0, .inr (5, [.int x0_count, .ref h0_keys, .ref h0_legs, .ref h0_account, .ref h0_amount, .ref h0_seals, .ref h0_ends, .int x0_synced, .int x0_syncedEnd, .int x0_draft, .ref h0_draftAccount, .ref h0_draftAmount, .ref h0_limits, .ref h0_disk, .int x0_off, .int x0_failing, .int x0_written, .int x0_padded, .ref h0_pad, .ref h0_stack, .ref h0_firsts, .ref h0_others])), (h0_keys, .inl (cA, 76, .inl g0_keys)), (h0_legs, .inl (cA, 76, .inl g0_legs)), (h0_account, .inl (cA, 304, .inl g0_account)), (h0_amount, .inl (cA, 304, .inl g0_amount)), (h0_stack, .inl (cA, 16, .inl g0_stack))] [(h0, .inr (5, [.int x0_count, .ref h0_keys, .ref h0_legs, .ref h0_account, .ref h0_amount, .ref h0_seals, .ref h0_ends, .int x0_synced, .int x0_syncedEnd, .int x0_draft, .ref h0_draftAccount, .ref h0_draftAmount, .ref h0_limits, .ref h0_disk, .int x0_off, .int x0_failing, .int x0_written, .int x0_padded, .ref h0_pad, .ref h0_stack, .ref h0_firsts, .ref h0_others])), (h0_keys, .inl (cA, 76, .inl g0_keys)), (h0_legs, .inl (cA, 76, .inl g0_legs)), (h0_account, .inl (cA, 304, .inl g0_account)), (h0_amount, .inl (cA, 304, .inl g0_amount)), (h0_stack, .inl (cA, 16, .inl og0_stack))] (some (.int rr)) := by
  refine hw_of (cc := cX6_hash) (maxL := 7) (ret := (some .int)) (by decide) rfl (Nat.le_of_ble_eq_true rfl) ?_
  intro p e s m args below meth c A ls hx hb hr hlk hml hown hts hA hK hE hP hD hS hl
  have hown : s.vm.findClass RX6 = some m.cls := hown
  have hl : lv_has ls 7 [(0, .ref h0), (1, .int k1), (2, .int k2)] := hl
  have L100 : ∀ (n100 : Nat) (ls : Array Slot) (H : Heap) (locs : List Loc) (k4 : Int32) (k5 : Int32) (g0_stack : Nat → Int32), lv_has ls 7 [(0, .ref h0), (4, .int k4), (5, .int k5)] → va_P D vwCl [(h0, .inr (5, [.int x0_count, .ref h0_keys, .ref h0_legs, .ref h0_account, .ref h0_amount, .ref h0_seals, .ref h0_ends, .int x0_synced, .int x0_syncedEnd, .int x0_draft, .ref h0_draftAccount, .ref h0_draftAmount, .ref h0_limits, .ref h0_disk, .int x0_off, .int x0_failing, .int x0_written, .int x0_padded, .ref h0_pad, .ref h0_stack, .ref h0_firsts, .ref h0_others])), (h0_keys, .inl (cA, 76, .inl g0_keys)), (h0_legs, .inl (cA, 76, .inl g0_legs)), (h0_account, .inl (cA, 304, .inl g0_account)), (h0_amount, .inl (cA, 304, .inl g0_amount)), (h0_stack, .inl (cA, 16, .inl g0_stack))] H → va_D A [(h0, .inr (5, [.int x0_count, .ref h0_keys, .ref h0_legs, .ref h0_account, .ref h0_amount, .ref h0_seals, .ref h0_ends, .int x0_synced, .int x0_syncedEnd, .int x0_draft, .ref h0_draftAccount, .ref h0_draftAmount, .ref h0_limits, .ref h0_disk, .int x0_off, .int x0_failing, .int x0_written, .int x0_padded, .ref h0_pad, .ref h0_stack, .ref h0_firsts, .ref h0_others])), (h0_keys, .inl (cA, 76, .inl g0_keys)), (h0_legs, .inl (cA, 76, .inl g0_legs)), (h0_account, .inl (cA, 304, .inl g0_account)), (h0_amount, .inl (cA, 304, .inl g0_amount)), (h0_stack, .inl (cA, 16, .inl g0_stack))] → va_S A s.heap H locs → fMo_hash_L100 g0_keys g0_legs g0_account g0_amount n100 k4 k5 g0_stack = some (rr, og0_stack) → W p l e { frames := 2, cells := 0, slots := 0, locals := 46 } s m args below meth c H locs 0 0 (hw_Z below args s D vwCl A [(h0, .inr (5, [.int x0_count, .ref h0_keys, .ref h0_legs, .ref h0_account, .ref h0_amount, .ref h0_seals, .ref h0_ends, .int x0_synced, .int x0_syncedEnd, .int x0_draft, .ref h0_draftAccount, .ref h0_draftAmount, .ref h0_limits, .ref h0_disk, .int x0_off, .int x0_failing, .int x0_written, .int x0_padded, .ref h0_pad, .ref h0_stack, .ref h0_firsts, .ref h0_others])), (h0_keys, .inl (cA, 76, .inl g0_keys)), (h0_legs, .inl (cA, 76, .inl g0_legs)), (h0_account, .inl (cA, 304, .inl g0_account)), (h0_amount, .inl (cA, 304, .inl g0_amount)), (h0_stack, .inl (cA, 16, .inl og0_stack))] (some (.int rr))) (F0 m 100 ls []) := by
    intro n100
    induction n100 with
    | zero => intro ls H locs k4 k5 g0_stack hl hP hD hS hf; simp only [fMo_hash_L100] at hf; cases hf
    | succ n100 ih100 =>
      intro ls H locs k4 k5 g0_stack hl hP hD hS hf
      rw [fMo_hash_L100] at hf
      refine lv_iload hx hb dX6_hash_100 (lv_at hl 2 rfl) ?_
      refine hi_if_lt (tgt := 125) hx hb dX6_hash_102 rfl hf (fun hc hf => ?_) (fun hc hf => ?_)
      · refine lv_iload hx hb dX6_hash_125 (lv_at hl 1 rfl) ?_
        cases hf
        exact hw_ri hx hb hr hlk (hP.sub [0, 1, 2, 3, 4, 5] rfl) (hD.sub [0, 1, 2, 3, 4, 5] (by decide) rfl) hS dX6_hash_127
      · refine lv_aload_n hx hb dX6_hash_105 rfl (lv_at hl 0 rfl) ?_
        refine va_get (D := D) (ci := 5) (v := .ref h0_stack) (C := RX6) (T := TX6) (N := 22) hx hb hts in_X6 hown hK hP 0 rfl rfl 19 (by decide) (hts _ mw_350) (fun _ h9 => h9) rfl dX6_hash_106 ?_
        refine lv_iload hx hb dX6_hash_109 (lv_at hl 2 rfl) ?_
        obtain ⟨v7, e8, hf⟩ := hw_bind hf
        refine hw_iald hx hb hK hP 5 rfl e8 dX6_hash_111 ?_
        refine lv_iload hx hb dX6_hash_112 (lv_at hl 1 rfl) ?_
        obtain ⟨v9, e10, hf⟩ := hw_bind hf
        refine hw_goS (wr := [(h0, .inr (5, [.int x0_count, .ref h0_keys, .ref h0_legs, .ref h0_account, .ref h0_amount, .ref h0_seals, .ref h0_ends, .int x0_synced, .int x0_syncedEnd, .int x0_draft, .ref h0_draftAccount, .ref h0_draftAmount, .ref h0_limits, .ref h0_disk, .int x0_off, .int x0_failing, .int x0_written, .int x0_padded, .ref h0_pad, .ref h0_stack, .ref h0_firsts, .ref h0_others])), (h0_keys, .inl (cA, 76, .inl g0_keys)), (h0_legs, .inl (cA, 76, .inl g0_legs)), (h0_account, .inl (cA, 304, .inl g0_account)), (h0_amount, .inl (cA, 304, .inl g0_amount)), (h0_stack, .inl (cA, 16, .inl g0_stack))]) (rest := []) ⟨hx, hb, hml, hown, hts⟩ (cMo_node l D cA cZ v7 k4 v9 e10) (cwS 2 hts ks_X6_124 rfl rfl rfl (by decide +kernel) ⟨Nat.le_of_ble_eq_true rfl, Nat.le_of_ble_eq_true rfl⟩) [] [0, 1, 2, 3, 4, 5] rfl rfl (by decide) (by decide) (by decide) hK hE hP hD hS hA hl.1 rfl rfl (Nat.le_of_ble_eq_true rfl) dX6_hash_114 ⟨Nat.zero_le _, Nat.zero_le _⟩ (fun H locs (hP : va_P D vwCl [(h0, .inr (5, [.int x0_count, .ref h0_keys, .ref h0_legs, .ref h0_account, .ref h0_amount, .ref h0_seals, .ref h0_ends, .int x0_synced, .int x0_syncedEnd, .int x0_draft, .ref h0_draftAccount, .ref h0_draftAmount, .ref h0_limits, .ref h0_disk, .int x0_off, .int x0_failing, .int x0_written, .int x0_padded, .ref h0_pad, .ref h0_stack, .ref h0_firsts, .ref h0_others])), (h0_keys, .inl (cA, 76, .inl g0_keys)), (h0_legs, .inl (cA, 76, .inl g0_legs)), (h0_account, .inl (cA, 304, .inl g0_account)), (h0_amount, .inl (cA, 304, .inl g0_amount)), (h0_stack, .inl (cA, 16, .inl g0_stack))] H) (hD : va_D A [(h0, .inr (5, [.int x0_count, .ref h0_keys, .ref h0_legs, .ref h0_account, .ref h0_amount, .ref h0_seals, .ref h0_ends, .int x0_synced, .int x0_syncedEnd, .int x0_draft, .ref h0_draftAccount, .ref h0_draftAmount, .ref h0_limits, .ref h0_disk, .int x0_off, .int x0_failing, .int x0_written, .int x0_padded, .ref h0_pad, .ref h0_stack, .ref h0_firsts, .ref h0_others])), (h0_keys, .inl (cA, 76, .inl g0_keys)), (h0_legs, .inl (cA, 76, .inl g0_legs)), (h0_account, .inl (cA, 304, .inl g0_account)), (h0_amount, .inl (cA, 304, .inl g0_amount)), (h0_stack, .inl (cA, 16, .inl g0_stack))]) hS => ?_)
        refine lv_istore (lv' := [(4, .int v9), (0, .ref h0), (5, .int k5)]) hx hb dX6_hash_117 hl (by decide) rfl (fun ls hl => ?_)
        refine lv_iinc (v := k5 + (-1 : Int32)) (lv' := [(5, .int (k5 + (-1 : Int32))), (4, .int v9), (0, .ref h0)]) hx hb dX6_hash_119 hl (k := 2) rfl (congrArg (fun z => k5 + z) (by decide)) (by decide) rfl (fun ls hl => ?_)
        refine lv_goto (tgt := 100) hx hb dX6_hash_122 rfl ?_
        exact ih100 _ _ _ v9 (k5 + (-1 : Int32)) g0_stack (lv_sub hl [2, 1, 0] rfl) (hP.sub [0, 1, 2, 3, 4, 5] rfl) (hD.sub [0, 1, 2, 3, 4, 5] (by decide) rfl) hS hf
  have L15 : ∀ (n15 : Nat) (ls : Array Slot) (H : Heap) (locs : List Loc) (k1 : Int32) (k2 : Int32) (k3 : Int32) (k4 : Int32) (g0_stack : Nat → Int32), lv_has ls 7 [(0, .ref h0), (1, .int k1), (2, .int k2), (3, .int k3), (4, .int k4)] → va_P D vwCl [(h0, .inr (5, [.int x0_count, .ref h0_keys, .ref h0_legs, .ref h0_account, .ref h0_amount, .ref h0_seals, .ref h0_ends, .int x0_synced, .int x0_syncedEnd, .int x0_draft, .ref h0_draftAccount, .ref h0_draftAmount, .ref h0_limits, .ref h0_disk, .int x0_off, .int x0_failing, .int x0_written, .int x0_padded, .ref h0_pad, .ref h0_stack, .ref h0_firsts, .ref h0_others])), (h0_keys, .inl (cA, 76, .inl g0_keys)), (h0_legs, .inl (cA, 76, .inl g0_legs)), (h0_account, .inl (cA, 304, .inl g0_account)), (h0_amount, .inl (cA, 304, .inl g0_amount)), (h0_stack, .inl (cA, 16, .inl g0_stack))] H → va_D A [(h0, .inr (5, [.int x0_count, .ref h0_keys, .ref h0_legs, .ref h0_account, .ref h0_amount, .ref h0_seals, .ref h0_ends, .int x0_synced, .int x0_syncedEnd, .int x0_draft, .ref h0_draftAccount, .ref h0_draftAmount, .ref h0_limits, .ref h0_disk, .int x0_off, .int x0_failing, .int x0_written, .int x0_padded, .ref h0_pad, .ref h0_stack, .ref h0_firsts, .ref h0_others])), (h0_keys, .inl (cA, 76, .inl g0_keys)), (h0_legs, .inl (cA, 76, .inl g0_legs)), (h0_account, .inl (cA, 304, .inl g0_account)), (h0_amount, .inl (cA, 304, .inl g0_amount)), (h0_stack, .inl (cA, 16, .inl g0_stack))] → va_S A s.heap H locs → fMo_hash_L15 g0_keys g0_legs g0_account g0_amount k1 k2 n15 k3 k4 g0_stack = some (rr, og0_stack) → W p l e { frames := 2, cells := 0, slots := 0, locals := 46 } s m args below meth c H locs 0 0 (hw_Z below args s D vwCl A [(h0, .inr (5, [.int x0_count, .ref h0_keys, .ref h0_legs, .ref h0_account, .ref h0_amount, .ref h0_seals, .ref h0_ends, .int x0_synced, .int x0_syncedEnd, .int x0_draft, .ref h0_draftAccount, .ref h0_draftAmount, .ref h0_limits, .ref h0_disk, .int x0_off, .int x0_failing, .int x0_written, .int x0_padded, .ref h0_pad, .ref h0_stack, .ref h0_firsts, .ref h0_others])), (h0_keys, .inl (cA, 76, .inl g0_keys)), (h0_legs, .inl (cA, 76, .inl g0_legs)), (h0_account, .inl (cA, 304, .inl g0_account)), (h0_amount, .inl (cA, 304, .inl g0_amount)), (h0_stack, .inl (cA, 16, .inl og0_stack))] (some (.int rr))) (F0 m 15 ls []) := by
    intro n15
    induction n15 with
    | zero => intro ls H locs k1 k2 k3 k4 g0_stack hl hP hD hS hf; simp only [fMo_hash_L15] at hf; cases hf
    | succ n15 ih15 =>
      intro ls H locs k1 k2 k3 k4 g0_stack hl hP hD hS hf
      rw [fMo_hash_L15] at hf
      have L35 : ∀ (n35 : Nat) (ls : Array Slot) (H : Heap) (locs : List Loc) (j4 : Int32) (j3 : Int32) (j5 : Int32) (j6 : Int32) (g0_stack : Nat → Int32), lv_has ls 7 [(0, .ref h0), (1, .int k1), (2, .int k2), (3, .int j3), (4, .int j4), (5, .int j5), (6, .int j6)] → va_P D vwCl [(h0, .inr (5, [.int x0_count, .ref h0_keys, .ref h0_legs, .ref h0_account, .ref h0_amount, .ref h0_seals, .ref h0_ends, .int x0_synced, .int x0_syncedEnd, .int x0_draft, .ref h0_draftAccount, .ref h0_draftAmount, .ref h0_limits, .ref h0_disk, .int x0_off, .int x0_failing, .int x0_written, .int x0_padded, .ref h0_pad, .ref h0_stack, .ref h0_firsts, .ref h0_others])), (h0_keys, .inl (cA, 76, .inl g0_keys)), (h0_legs, .inl (cA, 76, .inl g0_legs)), (h0_account, .inl (cA, 304, .inl g0_account)), (h0_amount, .inl (cA, 304, .inl g0_amount)), (h0_stack, .inl (cA, 16, .inl g0_stack))] H → va_D A [(h0, .inr (5, [.int x0_count, .ref h0_keys, .ref h0_legs, .ref h0_account, .ref h0_amount, .ref h0_seals, .ref h0_ends, .int x0_synced, .int x0_syncedEnd, .int x0_draft, .ref h0_draftAccount, .ref h0_draftAmount, .ref h0_limits, .ref h0_disk, .int x0_off, .int x0_failing, .int x0_written, .int x0_padded, .ref h0_pad, .ref h0_stack, .ref h0_firsts, .ref h0_others])), (h0_keys, .inl (cA, 76, .inl g0_keys)), (h0_legs, .inl (cA, 76, .inl g0_legs)), (h0_account, .inl (cA, 304, .inl g0_account)), (h0_amount, .inl (cA, 304, .inl g0_amount)), (h0_stack, .inl (cA, 16, .inl g0_stack))] → va_S A s.heap H locs → fMo_hash_L35 g0_keys g0_legs g0_account g0_amount k1 k2 j4 (fun y0 y1 y2 => fMo_hash_L15 g0_keys g0_legs g0_account g0_amount k1 k2 n15 y0 y1 y2) n35 j3 j5 j6 g0_stack = some (rr, og0_stack) → W p l e { frames := 2, cells := 0, slots := 0, locals := 46 } s m args below meth c H locs 0 0 (hw_Z below args s D vwCl A [(h0, .inr (5, [.int x0_count, .ref h0_keys, .ref h0_legs, .ref h0_account, .ref h0_amount, .ref h0_seals, .ref h0_ends, .int x0_synced, .int x0_syncedEnd, .int x0_draft, .ref h0_draftAccount, .ref h0_draftAmount, .ref h0_limits, .ref h0_disk, .int x0_off, .int x0_failing, .int x0_written, .int x0_padded, .ref h0_pad, .ref h0_stack, .ref h0_firsts, .ref h0_others])), (h0_keys, .inl (cA, 76, .inl g0_keys)), (h0_legs, .inl (cA, 76, .inl g0_legs)), (h0_account, .inl (cA, 304, .inl g0_account)), (h0_amount, .inl (cA, 304, .inl g0_amount)), (h0_stack, .inl (cA, 16, .inl og0_stack))] (some (.int rr))) (F0 m 35 ls []) := by
        intro n35
        induction n35 with
        | zero => intro ls H locs j4 j3 j5 j6 g0_stack hl hP hD hS hf; simp only [fMo_hash_L35] at hf; cases hf
        | succ n35 ih35 =>
          intro ls H locs j4 j3 j5 j6 g0_stack hl hP hD hS hf
          rw [fMo_hash_L35] at hf
          refine lv_iload hx hb dX6_hash_35 (lv_at hl 6 rfl) ?_
          refine lv_iconst (v := (2 : Int32)) hx hb dX6_hash_37 (by decide) ?_
          refine lv_irem hx hb dX6_hash_38 (by decide) ?_
          refine lv_iconst (v := (1 : Int32)) hx hb dX6_hash_39 (by decide) ?_
          refine hi_icmp_ne (tgt := 68) hx hb dX6_hash_40 rfl hf (fun hc hf => ?_) (fun hc hf => ?_)
          · refine lv_aload_n hx hb dX6_hash_68 rfl (lv_at hl 0 rfl) ?_
            refine va_get (D := D) (ci := 5) (v := .ref h0_stack) (C := RX6) (T := TX6) (N := 22) hx hb hts in_X6 hown hK hP 0 rfl rfl 19 (by decide) (hts _ mw_350) (fun _ h9 => h9) rfl dX6_hash_69 ?_
            refine lv_iload_n hx hb dX6_hash_72 rfl (lv_at hl 3 rfl) ?_
            refine lv_iload hx hb dX6_hash_73 (lv_at hl 5 rfl) ?_
            obtain ⟨u11, e12, hf⟩ := hw_bind hf
            refine hw_iast hx hb hK hP hD hS 5 rfl e12 dX6_hash_75 (fun H locs (hP : va_P D vwCl [(h0, .inr (5, [.int x0_count, .ref h0_keys, .ref h0_legs, .ref h0_account, .ref h0_amount, .ref h0_seals, .ref h0_ends, .int x0_synced, .int x0_syncedEnd, .int x0_draft, .ref h0_draftAccount, .ref h0_draftAmount, .ref h0_limits, .ref h0_disk, .int x0_off, .int x0_failing, .int x0_written, .int x0_padded, .ref h0_pad, .ref h0_stack, .ref h0_firsts, .ref h0_others])), (h0_keys, .inl (cA, 76, .inl g0_keys)), (h0_legs, .inl (cA, 76, .inl g0_legs)), (h0_account, .inl (cA, 304, .inl g0_account)), (h0_amount, .inl (cA, 304, .inl g0_amount)), (h0_stack, .inl (cA, 16, .inl u11))] H) (hD : va_D A [(h0, .inr (5, [.int x0_count, .ref h0_keys, .ref h0_legs, .ref h0_account, .ref h0_amount, .ref h0_seals, .ref h0_ends, .int x0_synced, .int x0_syncedEnd, .int x0_draft, .ref h0_draftAccount, .ref h0_draftAmount, .ref h0_limits, .ref h0_disk, .int x0_off, .int x0_failing, .int x0_written, .int x0_padded, .ref h0_pad, .ref h0_stack, .ref h0_firsts, .ref h0_others])), (h0_keys, .inl (cA, 76, .inl g0_keys)), (h0_legs, .inl (cA, 76, .inl g0_legs)), (h0_account, .inl (cA, 304, .inl g0_account)), (h0_amount, .inl (cA, 304, .inl g0_amount)), (h0_stack, .inl (cA, 16, .inl u11))]) hS => ?_)
            refine lv_iinc (v := j3 + (1 : Int32)) (lv' := [(3, .int (j3 + (1 : Int32))), (0, .ref h0), (1, .int k1), (2, .int k2), (4, .int j4), (5, .int j5), (6, .int j6)]) hx hb dX6_hash_76 hl (k := 3) rfl (congrArg (fun z => j3 + z) (by decide)) (by decide) rfl (fun ls hl => ?_)
            refine lv_iinc (v := j4 + (1 : Int32)) (lv' := [(4, .int (j4 + (1 : Int32))), (3, .int (j3 + (1 : Int32))), (0, .ref h0), (1, .int k1), (2, .int k2), (5, .int j5), (6, .int j6)]) hx hb dX6_hash_79 hl (k := 4) rfl (congrArg (fun z => j4 + z) (by decide)) (by decide) rfl (fun ls hl => ?_)
            refine lv_goto (tgt := 15) hx hb dX6_hash_82 rfl ?_
            exact ih15 _ _ _ k1 k2 (j3 + (1 : Int32)) (j4 + (1 : Int32)) u11 (lv_sub hl [2, 3, 4, 1, 0] rfl) (hP.sub [0, 1, 2, 3, 4, 5] rfl) (hD.sub [0, 1, 2, 3, 4, 5] (by decide) rfl) hS hf
          · refine lv_iinc (v := j3 + (-1 : Int32)) (lv' := [(3, .int (j3 + (-1 : Int32))), (0, .ref h0), (1, .int k1), (2, .int k2), (4, .int j4), (5, .int j5), (6, .int j6)]) hx hb dX6_hash_43 hl (k := 3) rfl (congrArg (fun z => j3 + z) (by decide)) (by decide) rfl (fun ls hl => ?_)
            refine lv_aload_n hx hb dX6_hash_46 rfl (lv_at hl 1 rfl) ?_
            refine va_get (D := D) (ci := 5) (v := .ref h0_stack) (C := RX6) (T := TX6) (N := 22) hx hb hts in_X6 hown hK hP 0 rfl rfl 19 (by decide) (hts _ mw_350) (fun _ h9 => h9) rfl dX6_hash_47 ?_
            refine lv_iload_n hx hb dX6_hash_50 rfl (lv_at hl 0 rfl) ?_
            obtain ⟨v13, e14, hf⟩ := hw_bind hf
            refine hw_iald hx hb hK hP 5 rfl e14 dX6_hash_51 ?_
            refine lv_iload hx hb dX6_hash_52 (lv_at hl 5 rfl) ?_
            obtain ⟨v15, e16, hf⟩ := hw_bind hf
            refine hw_goS (wr := [(h0, .inr (5, [.int x0_count, .ref h0_keys, .ref h0_legs, .ref h0_account, .ref h0_amount, .ref h0_seals, .ref h0_ends, .int x0_synced, .int x0_syncedEnd, .int x0_draft, .ref h0_draftAccount, .ref h0_draftAmount, .ref h0_limits, .ref h0_disk, .int x0_off, .int x0_failing, .int x0_written, .int x0_padded, .ref h0_pad, .ref h0_stack, .ref h0_firsts, .ref h0_others])), (h0_keys, .inl (cA, 76, .inl g0_keys)), (h0_legs, .inl (cA, 76, .inl g0_legs)), (h0_account, .inl (cA, 304, .inl g0_account)), (h0_amount, .inl (cA, 304, .inl g0_amount)), (h0_stack, .inl (cA, 16, .inl g0_stack))]) (rest := []) ⟨hx, hb, hml, hown, hts⟩ (cMo_node l D cA cZ v13 j5 v15 e16) (cwS 2 hts ks_X6_124 rfl rfl rfl (by decide +kernel) ⟨Nat.le_of_ble_eq_true rfl, Nat.le_of_ble_eq_true rfl⟩) [] [0, 1, 2, 3, 4, 5] rfl rfl (by decide) (by decide) (by decide) hK hE hP hD hS hA hl.1 rfl rfl (Nat.le_of_ble_eq_true rfl) dX6_hash_54 ⟨Nat.zero_le _, Nat.zero_le _⟩ (fun H locs (hP : va_P D vwCl [(h0, .inr (5, [.int x0_count, .ref h0_keys, .ref h0_legs, .ref h0_account, .ref h0_amount, .ref h0_seals, .ref h0_ends, .int x0_synced, .int x0_syncedEnd, .int x0_draft, .ref h0_draftAccount, .ref h0_draftAmount, .ref h0_limits, .ref h0_disk, .int x0_off, .int x0_failing, .int x0_written, .int x0_padded, .ref h0_pad, .ref h0_stack, .ref h0_firsts, .ref h0_others])), (h0_keys, .inl (cA, 76, .inl g0_keys)), (h0_legs, .inl (cA, 76, .inl g0_legs)), (h0_account, .inl (cA, 304, .inl g0_account)), (h0_amount, .inl (cA, 304, .inl g0_amount)), (h0_stack, .inl (cA, 16, .inl g0_stack))] H) (hD : va_D A [(h0, .inr (5, [.int x0_count, .ref h0_keys, .ref h0_legs, .ref h0_account, .ref h0_amount, .ref h0_seals, .ref h0_ends, .int x0_synced, .int x0_syncedEnd, .int x0_draft, .ref h0_draftAccount, .ref h0_draftAmount, .ref h0_limits, .ref h0_disk, .int x0_off, .int x0_failing, .int x0_written, .int x0_padded, .ref h0_pad, .ref h0_stack, .ref h0_firsts, .ref h0_others])), (h0_keys, .inl (cA, 76, .inl g0_keys)), (h0_legs, .inl (cA, 76, .inl g0_legs)), (h0_account, .inl (cA, 304, .inl g0_account)), (h0_amount, .inl (cA, 304, .inl g0_amount)), (h0_stack, .inl (cA, 16, .inl g0_stack))]) hS => ?_)
            refine lv_istore (lv' := [(5, .int v15), (3, .int (j3 + (-1 : Int32))), (0, .ref h0), (1, .int k1), (2, .int k2), (4, .int j4), (6, .int j6)]) hx hb dX6_hash_57 hl (by decide) rfl (fun ls hl => ?_)
            refine lv_iload hx hb dX6_hash_59 (lv_at hl 6 rfl) ?_
            refine lv_iconst (v := (2 : Int32)) hx hb dX6_hash_61 (by decide) ?_
            refine lv_idiv hx hb dX6_hash_62 (by decide) ?_
            refine lv_istore (lv' := [(6, .int (j6 / (2 : Int32))), (5, .int v15), (3, .int (j3 + (-1 : Int32))), (0, .ref h0), (1, .int k1), (2, .int k2), (4, .int j4)]) hx hb dX6_hash_63 hl (by decide) rfl (fun ls hl => ?_)
            refine lv_goto (tgt := 35) hx hb dX6_hash_65 rfl ?_
            exact ih35 _ _ _ j4 (j3 + (-1 : Int32)) v15 (j6 / (2 : Int32)) g0_stack (lv_sub hl [3, 4, 5, 2, 6, 1, 0] rfl) (hP.sub [0, 1, 2, 3, 4, 5] rfl) (hD.sub [0, 1, 2, 3, 4, 5] (by decide) rfl) hS hf
      refine lv_iload hx hb dX6_hash_15 (lv_at hl 4 rfl) ?_
      refine lv_iload_n hx hb dX6_hash_17 rfl (lv_at hl 2 rfl) ?_
      refine hi_icmp_ge (tgt := 85) hx hb dX6_hash_18 rfl hf (fun hc hf => ?_) (fun hc hf => ?_)
      · refine lv_aload_n hx hb dX6_hash_85 rfl (lv_at hl 0 rfl) ?_
        refine va_get (D := D) (ci := 5) (v := .ref h0_stack) (C := RX6) (T := TX6) (N := 22) hx hb hts in_X6 hown hK hP 0 rfl rfl 19 (by decide) (hts _ mw_350) (fun _ h9 => h9) rfl dX6_hash_86 ?_
        refine lv_iload_n hx hb dX6_hash_89 rfl (lv_at hl 3 rfl) ?_
        refine lv_iconst (v := (1 : Int32)) hx hb dX6_hash_90 (by decide) ?_
        refine lv_isub hx hb dX6_hash_91 ?_
        obtain ⟨v3, e4, hf⟩ := hw_bind hf
        refine hw_iald hx hb hK hP 5 rfl e4 dX6_hash_92 ?_
        refine lv_istore (lv' := [(4, .int v3), (0, .ref h0), (1, .int k1), (2, .int k2), (3, .int k3)]) hx hb dX6_hash_93 hl (by decide) rfl (fun ls hl => ?_)
        refine lv_iload_n hx hb dX6_hash_95 rfl (lv_at hl 4 rfl) ?_
        refine lv_iconst (v := (2 : Int32)) hx hb dX6_hash_96 (by decide) ?_
        refine lv_isub hx hb dX6_hash_97 ?_
        refine lv_istore (lv' := [(5, .int (k3 - (2 : Int32))), (4, .int v3), (0, .ref h0), (1, .int k1), (2, .int k2), (3, .int k3)]) hx hb dX6_hash_98 hl (by decide) rfl (fun ls hl => ?_)
        exact L100 600 _ _ _ v3 (k3 - (2 : Int32)) g0_stack (lv_sub hl [2, 1, 0] rfl) (hP.sub [0, 1, 2, 3, 4, 5] rfl) (hD.sub [0, 1, 2, 3, 4, 5] (by decide) rfl) hS hf
      · refine lv_aload_n hx hb dX6_hash_21 rfl (lv_at hl 0 rfl) ?_
        refine lv_iload_n hx hb dX6_hash_22 rfl (lv_at hl 1 rfl) ?_
        refine lv_iload hx hb dX6_hash_23 (lv_at hl 4 rfl) ?_
        refine lv_iadd hx hb dX6_hash_25 ?_
        obtain ⟨v5, e6, hf⟩ := hw_bind hf
        refine hw_goV (wr := [(h0_stack, .inl (cA, 16, .inl g0_stack))]) (rest := []) ⟨hx, hb, hml, hown, hts⟩ (cMo_leafOf l D cA cZ h0 h0_keys h0_legs h0_account h0_amount h0_seals h0_ends h0_draftAccount h0_draftAmount h0_limits h0_disk h0_pad h0_stack h0_firsts h0_others x0_count x0_synced x0_syncedEnd x0_draft x0_off x0_failing x0_written x0_padded g0_keys g0_legs g0_account g0_amount (k1 + k4) v5 e6) (cwV 1 hts ks_X6_72 rfl rfl rfl (by decide +kernel) ⟨Nat.le_of_ble_eq_true rfl, Nat.le_of_ble_eq_true rfl⟩) 0 rfl rfl [0, 1, 2, 3, 4] [5] rfl rfl (by decide) (by decide) (by decide) hK hE hP hD hS hA hl.1 rfl rfl (Nat.le_of_ble_eq_true rfl) dX6_hash_26 ⟨Nat.zero_le _, Nat.zero_le _⟩ (fun H locs (hP : va_P D vwCl [(h0_stack, .inl (cA, 16, .inl g0_stack)), (h0, .inr (5, [.int x0_count, .ref h0_keys, .ref h0_legs, .ref h0_account, .ref h0_amount, .ref h0_seals, .ref h0_ends, .int x0_synced, .int x0_syncedEnd, .int x0_draft, .ref h0_draftAccount, .ref h0_draftAmount, .ref h0_limits, .ref h0_disk, .int x0_off, .int x0_failing, .int x0_written, .int x0_padded, .ref h0_pad, .ref h0_stack, .ref h0_firsts, .ref h0_others])), (h0_keys, .inl (cA, 76, .inl g0_keys)), (h0_legs, .inl (cA, 76, .inl g0_legs)), (h0_account, .inl (cA, 304, .inl g0_account)), (h0_amount, .inl (cA, 304, .inl g0_amount))] H) (hD : va_D A [(h0_stack, .inl (cA, 16, .inl g0_stack)), (h0, .inr (5, [.int x0_count, .ref h0_keys, .ref h0_legs, .ref h0_account, .ref h0_amount, .ref h0_seals, .ref h0_ends, .int x0_synced, .int x0_syncedEnd, .int x0_draft, .ref h0_draftAccount, .ref h0_draftAmount, .ref h0_limits, .ref h0_disk, .int x0_off, .int x0_failing, .int x0_written, .int x0_padded, .ref h0_pad, .ref h0_stack, .ref h0_firsts, .ref h0_others])), (h0_keys, .inl (cA, 76, .inl g0_keys)), (h0_legs, .inl (cA, 76, .inl g0_legs)), (h0_account, .inl (cA, 304, .inl g0_account)), (h0_amount, .inl (cA, 304, .inl g0_amount))]) hS => ?_)
        refine lv_istore (lv' := [(5, .int v5), (0, .ref h0), (1, .int k1), (2, .int k2), (3, .int k3), (4, .int k4)]) hx hb dX6_hash_29 hl (by decide) rfl (fun ls hl => ?_)
        refine lv_iload hx hb dX6_hash_31 (lv_at hl 5 rfl) ?_
        refine lv_istore (lv' := [(6, .int k4), (5, .int v5), (0, .ref h0), (1, .int k1), (2, .int k2), (3, .int k3), (4, .int k4)]) hx hb dX6_hash_33 hl (by decide) rfl (fun ls hl => ?_)
        exact L35 600 _ _ _ k4 k3 v5 k4 g0_stack (lv_sub hl [2, 3, 4, 5, 6, 1, 0] rfl) (hP.sub [1, 2, 3, 4, 5, 0] rfl) (hD.sub [1, 2, 3, 4, 5, 0] (by decide) rfl) hS hf
  rw [fMo_hash] at hf
  refine lv_iload_n hx hb dX6_hash_0 rfl (lv_at hl 2 rfl) ?_
  refine hi_if_ne (tgt := 10) hx hb dX6_hash_1 rfl hf (fun hc hf => ?_) (fun hc hf => ?_)
  · refine lv_iconst (v := (0 : Int32)) hx hb dX6_hash_10 (by decide) ?_
    refine lv_istore_n (lv' := [(3, .int (0 : Int32)), (0, .ref h0), (1, .int k1), (2, .int k2)]) hx hb dX6_hash_11 rfl hl (by decide) rfl (fun ls hl => ?_)
    refine lv_iconst (v := (0 : Int32)) hx hb dX6_hash_12 (by decide) ?_
    refine lv_istore (lv' := [(4, .int (0 : Int32)), (3, .int (0 : Int32)), (0, .ref h0), (1, .int k1), (2, .int k2)]) hx hb dX6_hash_13 hl (by decide) rfl (fun ls hl => ?_)
    exact L15 600 _ _ _ k1 k2 (0 : Int32) (0 : Int32) g0_stack (lv_sub hl [2, 3, 4, 1, 0] rfl) (hP.sub [0, 1, 2, 3, 4, 5] rfl) (hD.sub [0, 1, 2, 3, 4, 5] (by decide) rfl) hS hf
  · refine lv_iconst (v := (2 : Int32)) hx hb dX6_hash_4 (by decide) ?_
    refine lv_iconst (v := (0 : Int32)) hx hb dX6_hash_5 (by decide) ?_
    obtain ⟨v1, e2, hf⟩ := hw_bind hf
    refine hw_goS (wr := [(h0, .inr (5, [.int x0_count, .ref h0_keys, .ref h0_legs, .ref h0_account, .ref h0_amount, .ref h0_seals, .ref h0_ends, .int x0_synced, .int x0_syncedEnd, .int x0_draft, .ref h0_draftAccount, .ref h0_draftAmount, .ref h0_limits, .ref h0_disk, .int x0_off, .int x0_failing, .int x0_written, .int x0_padded, .ref h0_pad, .ref h0_stack, .ref h0_firsts, .ref h0_others])), (h0_keys, .inl (cA, 76, .inl g0_keys)), (h0_legs, .inl (cA, 76, .inl g0_legs)), (h0_account, .inl (cA, 304, .inl g0_account)), (h0_amount, .inl (cA, 304, .inl g0_amount)), (h0_stack, .inl (cA, 16, .inl g0_stack))]) (rest := []) ⟨hx, hb, hml, hown, hts⟩ (cMo_mix l D cA cZ (2 : Int32) (0 : Int32) v1 e2) (cwS 2 hts ks_X6_55 rfl rfl rfl (by decide +kernel) ⟨Nat.le_of_ble_eq_true rfl, Nat.le_of_ble_eq_true rfl⟩) [] [0, 1, 2, 3, 4, 5] rfl rfl (by decide) (by decide) (by decide) hK hE hP hD hS hA hl.1 rfl rfl (Nat.le_of_ble_eq_true rfl) dX6_hash_6 ⟨Nat.zero_le _, Nat.zero_le _⟩ (fun H locs (hP : va_P D vwCl [(h0, .inr (5, [.int x0_count, .ref h0_keys, .ref h0_legs, .ref h0_account, .ref h0_amount, .ref h0_seals, .ref h0_ends, .int x0_synced, .int x0_syncedEnd, .int x0_draft, .ref h0_draftAccount, .ref h0_draftAmount, .ref h0_limits, .ref h0_disk, .int x0_off, .int x0_failing, .int x0_written, .int x0_padded, .ref h0_pad, .ref h0_stack, .ref h0_firsts, .ref h0_others])), (h0_keys, .inl (cA, 76, .inl g0_keys)), (h0_legs, .inl (cA, 76, .inl g0_legs)), (h0_account, .inl (cA, 304, .inl g0_account)), (h0_amount, .inl (cA, 304, .inl g0_amount)), (h0_stack, .inl (cA, 16, .inl g0_stack))] H) (hD : va_D A [(h0, .inr (5, [.int x0_count, .ref h0_keys, .ref h0_legs, .ref h0_account, .ref h0_amount, .ref h0_seals, .ref h0_ends, .int x0_synced, .int x0_syncedEnd, .int x0_draft, .ref h0_draftAccount, .ref h0_draftAmount, .ref h0_limits, .ref h0_disk, .int x0_off, .int x0_failing, .int x0_written, .int x0_padded, .ref h0_pad, .ref h0_stack, .ref h0_firsts, .ref h0_others])), (h0_keys, .inl (cA, 76, .inl g0_keys)), (h0_legs, .inl (cA, 76, .inl g0_legs)), (h0_account, .inl (cA, 304, .inl g0_account)), (h0_amount, .inl (cA, 304, .inl g0_amount)), (h0_stack, .inl (cA, 16, .inl g0_stack))]) hS => ?_)
    cases hf
    exact hw_ri hx hb hr hlk (hP.sub [0, 1, 2, 3, 4, 5] rfl) (hD.sub [0, 1, 2, 3, 4, 5] (by decide) rfl) hS dX6_hash_9
set_option maxHeartbeats 4000000 in
set_option maxRecDepth 100000 in
theorem cMo_head (l : Launch) (D : va_G) (cA cZ : ClassId) (h0 : Nat) (h0_keys : Nat) (h0_legs : Nat) (h0_account : Nat) (h0_amount : Nat) (h0_seals : Nat) (h0_ends : Nat) (h0_draftAccount : Nat) (h0_draftAmount : Nat) (h0_limits : Nat) (h0_disk : Nat) (h0_pad : Nat) (h0_stack : Nat) (h0_firsts : Nat) (h0_others : Nat) (x0_count : Int32) (x0_synced : Int32) (x0_syncedEnd : Int32) (x0_draft : Int32) (x0_off : Int32) (x0_failing : Int32) (x0_written : Int32) (x0_padded : Int32) (g0_keys : Nat → Int32) (g0_legs : Nat → Int32) (g0_account : Nat → Int32) (g0_amount : Nat → Int32) (g0_stack : Nat → Int32) (k1 : Int32) (rr : Int32) (og0_stack : Nat → Int32) (hf : fMo_head x0_synced g0_keys g0_legs g0_account g0_amount g0_stack k1 = some (rr, og0_stack)) : hw_C l yX6_head wX6_head { frames := 3, cells := 0, slots := 0, locals := 72 } D vwCl cA cZ [.ref h0, .int k1] [(h0, .inr (5, [.int x0_count, .ref h0_keys, .ref h0_legs, .ref h0_account, .ref h0_amount, .ref h0_seals, .ref h0_ends, .int x0_synced, .int x0_syncedEnd, .int x0_draft, .ref h0_draftAccount, .ref h0_draftAmount, .ref h0_limits, .ref h0_disk, .int x0_off, .int x0_failing, .int x0_written, .int x0_padded, .ref h0_pad, .ref h0_stack, .ref h0_firsts, .ref h0_others])), (h0_keys, .inl (cA, 76, .inl g0_keys)), (h0_legs, .inl (cA, 76, .inl g0_legs)), (h0_account, .inl (cA, 304, .inl g0_account)), (h0_amount, .inl (cA, 304, .inl g0_amount)), (h0_stack, .inl (cA, 16, .inl g0_stack))] [(h0, .inr (5, [.int x0_count, .ref h0_keys, .ref h0_legs, .ref h0_account, .ref h0_amount, .ref h0_seals, .ref h0_ends, .int x0_synced, .int x0_syncedEnd, .int x0_draft, .ref h0_draftAccount, .ref h0_draftAmount, .ref h0_limits, .ref h0_disk, .int x0_off, .int x0_failing, .int x0_written, .int x0_padded, .ref h0_pad, .ref h0_stack, .ref h0_firsts, .ref h0_others])), (h0_keys, .inl (cA, 76, .inl g0_keys)), (h0_legs, .inl (cA, 76, .inl g0_legs)), (h0_account, .inl (cA, 304, .inl g0_account)), (h0_amount, .inl (cA, 304, .inl g0_amount)), (h0_stack, .inl (cA, 16, .inl og0_stack))] (some (.int rr)) := by
  refine hw_of (cc := cX6_head) (maxL := 2) (ret := (some .int)) (by decide) rfl (Nat.le_of_ble_eq_true rfl) ?_
  intro p e s m args below meth c A ls hx hb hr hlk hml hown hts hA hK hE hP hD hS hl
  have hown : s.vm.findClass RX6 = some m.cls := hown
  have hl : lv_has ls 2 [(0, .ref h0), (1, .int k1)] := hl
  rw [fMo_head] at hf
  refine lv_iload_n hx hb dX6_head_0 rfl (lv_at hl 1 rfl) ?_
  refine hi_if_lt (tgt := 12) hx hb dX6_head_1 rfl hf (fun hc hf => ?_) (fun hc hf => ?_)
  · refine lv_iconst (v := (0 : Int32)) hx hb dX6_head_12 (by decide) ?_
    refine lv_goto (tgt := 22) hx hb dX6_head_13 rfl ?_
    cases hf
    exact hw_ri hx hb hr hlk (hP.sub [0, 1, 2, 3, 4, 5] rfl) (hD.sub [0, 1, 2, 3, 4, 5] (by decide) rfl) hS dX6_head_22
  · refine lv_iload_n hx hb dX6_head_4 rfl (lv_at hl 1 rfl) ?_
    refine lv_aload_n hx hb dX6_head_5 rfl (lv_at hl 0 rfl) ?_
    refine va_get (D := D) (ci := 5) (v := .int x0_synced) (C := RX6) (T := TX6) (N := 22) hx hb hts in_X6 hown hK hP 0 rfl rfl 7 (by decide) (hts _ mw_407) (fun _ h9 => h9) rfl dX6_head_6 ?_
    refine hi_icmp_le (tgt := 16) hx hb dX6_head_9 rfl hf (fun hc hf => ?_) (fun hc hf => ?_)
    · refine lv_aload_n hx hb dX6_head_16 rfl (lv_at hl 0 rfl) ?_
      refine lv_iconst (v := (0 : Int32)) hx hb dX6_head_17 (by decide) ?_
      refine lv_iload_n hx hb dX6_head_18 rfl (lv_at hl 1 rfl) ?_
      obtain ⟨⟨v1, u2⟩, e3, hf⟩ := hw_bind hf
      refine hw_goV (wr := []) (rest := []) ⟨hx, hb, hml, hown, hts⟩ (cMo_hash l D cA cZ h0 h0_keys h0_legs h0_account h0_amount h0_seals h0_ends h0_draftAccount h0_draftAmount h0_limits h0_disk h0_pad h0_stack h0_firsts h0_others x0_count x0_synced x0_syncedEnd x0_draft x0_off x0_failing x0_written x0_padded g0_keys g0_legs g0_account g0_amount g0_stack (0 : Int32) k1 v1 u2 e3) (cwV 2 hts ks_X6_127 rfl rfl rfl (by decide +kernel) ⟨Nat.le_of_ble_eq_true rfl, Nat.le_of_ble_eq_true rfl⟩) 0 rfl rfl [0, 1, 2, 3, 4, 5] [] rfl rfl (by decide) (by decide) (by decide) hK hE hP hD hS hA hl.1 rfl rfl (Nat.le_of_ble_eq_true rfl) dX6_head_19 ⟨Nat.zero_le _, Nat.zero_le _⟩ (fun H locs (hP : va_P D vwCl [(h0, .inr (5, [.int x0_count, .ref h0_keys, .ref h0_legs, .ref h0_account, .ref h0_amount, .ref h0_seals, .ref h0_ends, .int x0_synced, .int x0_syncedEnd, .int x0_draft, .ref h0_draftAccount, .ref h0_draftAmount, .ref h0_limits, .ref h0_disk, .int x0_off, .int x0_failing, .int x0_written, .int x0_padded, .ref h0_pad, .ref h0_stack, .ref h0_firsts, .ref h0_others])), (h0_keys, .inl (cA, 76, .inl g0_keys)), (h0_legs, .inl (cA, 76, .inl g0_legs)), (h0_account, .inl (cA, 304, .inl g0_account)), (h0_amount, .inl (cA, 304, .inl g0_amount)), (h0_stack, .inl (cA, 16, .inl u2))] H) (hD : va_D A [(h0, .inr (5, [.int x0_count, .ref h0_keys, .ref h0_legs, .ref h0_account, .ref h0_amount, .ref h0_seals, .ref h0_ends, .int x0_synced, .int x0_syncedEnd, .int x0_draft, .ref h0_draftAccount, .ref h0_draftAmount, .ref h0_limits, .ref h0_disk, .int x0_off, .int x0_failing, .int x0_written, .int x0_padded, .ref h0_pad, .ref h0_stack, .ref h0_firsts, .ref h0_others])), (h0_keys, .inl (cA, 76, .inl g0_keys)), (h0_legs, .inl (cA, 76, .inl g0_legs)), (h0_account, .inl (cA, 304, .inl g0_account)), (h0_amount, .inl (cA, 304, .inl g0_amount)), (h0_stack, .inl (cA, 16, .inl u2))]) hS => ?_)
      cases hf
      exact hw_ri hx hb hr hlk (hP.sub [0, 1, 2, 3, 4, 5] rfl) (hD.sub [0, 1, 2, 3, 4, 5] (by decide) rfl) hS dX6_head_22
    · refine lv_iconst (v := (0 : Int32)) hx hb dX6_head_12 (by decide) ?_
      refine lv_goto (tgt := 22) hx hb dX6_head_13 rfl ?_
      cases hf
      exact hw_ri hx hb hr hlk (hP.sub [0, 1, 2, 3, 4, 5] rfl) (hD.sub [0, 1, 2, 3, 4, 5] (by decide) rfl) hS dX6_head_22
set_option maxHeartbeats 4000000 in
set_option maxRecDepth 100000 in
theorem cMo_part (l : Launch) (D : va_G) (cA cZ : ClassId) (k0 : Int32) (rr : Int32) (hf : fMo_part k0 = some rr) : hw_C l yX6_part wX6_part { frames := 0, cells := 0, slots := 0, locals := 0 } D vwCl cA cZ [.int k0] [] [] (some (.int rr)) := by
  refine hw_of (cc := cX6_part) (maxL := 2) (ret := (some .int)) (by decide) rfl (Nat.le_of_ble_eq_true rfl) ?_
  intro p e s m args below meth c A ls hx hb hr hlk hml hown hts hA hK hE hP hD hS hl
  have hown : s.vm.findClass RX6 = some m.cls := hown
  have hl : lv_has ls 2 [(0, .int k0)] := hl
  have L2 : ∀ (n2 : Nat) (ls : Array Slot) (H : Heap) (locs : List Loc) (k0 : Int32) (k1 : Int32), lv_has ls 2 [(0, .int k0), (1, .int k1)] → va_P D vwCl [] H → va_D A [] → va_S A s.heap H locs → fMo_part_L2 k0 n2 k1 = some rr → W p l e { frames := 0, cells := 0, slots := 0, locals := 0 } s m args below meth c H locs 0 0 (hw_Z below args s D vwCl A [] (some (.int rr))) (F0 m 2 ls []) := by
    intro n2
    induction n2 with
    | zero => intro ls H locs k0 k1 hl hP hD hS hf; simp only [fMo_part_L2] at hf; cases hf
    | succ n2 ih2 =>
      intro ls H locs k0 k1 hl hP hD hS hf
      rw [fMo_part_L2] at hf
      refine lv_iconst (v := (2 : Int32)) hx hb dX6_part_2 (by decide) ?_
      refine lv_iload_n hx hb dX6_part_3 rfl (lv_at hl 1 rfl) ?_
      refine lv_imul hx hb dX6_part_4 ?_
      refine lv_iload_n hx hb dX6_part_5 rfl (lv_at hl 0 rfl) ?_
      refine hi_icmp_ge (tgt := 16) hx hb dX6_part_6 rfl hf (fun hc hf => ?_) (fun hc hf => ?_)
      · refine lv_iload_n hx hb dX6_part_16 rfl (lv_at hl 1 rfl) ?_
        cases hf
        exact hw_ri hx hb hr hlk (hP.sub [] rfl) (hD.sub [] (by decide) rfl) hS dX6_part_17
      · refine lv_iload_n hx hb dX6_part_9 rfl (lv_at hl 1 rfl) ?_
        refine lv_iconst (v := (2 : Int32)) hx hb dX6_part_10 (by decide) ?_
        refine lv_imul hx hb dX6_part_11 ?_
        refine lv_istore_n (lv' := [(1, .int (k1 * (2 : Int32))), (0, .int k0)]) hx hb dX6_part_12 rfl hl (by decide) rfl (fun ls hl => ?_)
        refine lv_goto (tgt := 2) hx hb dX6_part_13 rfl ?_
        exact ih2 _ _ _ k0 (k1 * (2 : Int32)) (lv_sub hl [1, 0] rfl) (hP.sub [] rfl) (hD.sub [] (by decide) rfl) hS hf
  rw [fMo_part] at hf
  refine lv_iconst (v := (1 : Int32)) hx hb dX6_part_0 (by decide) ?_
  refine lv_istore_n (lv' := [(1, .int (1 : Int32)), (0, .int k0)]) hx hb dX6_part_1 rfl hl (by decide) rfl (fun ls hl => ?_)
  exact L2 600 _ _ _ k0 (1 : Int32) (lv_sub hl [1, 0] rfl) (hP.sub [] rfl) (hD.sub [] (by decide) rfl) hS hf
set_option maxHeartbeats 4000000 in
set_option maxRecDepth 100000 in
theorem cMo_lay (l : Launch) (D : va_G) (cA cZ : ClassId) (h0 : Nat) (h0_keys : Nat) (h0_legs : Nat) (h0_account : Nat) (h0_amount : Nat) (h0_seals : Nat) (h0_ends : Nat) (h0_draftAccount : Nat) (h0_draftAmount : Nat) (h0_limits : Nat) (h0_disk : Nat) (h0_pad : Nat) (h0_stack : Nat) (h0_firsts : Nat) (h0_others : Nat) (x0_count : Int32) (x0_synced : Int32) (x0_syncedEnd : Int32) (x0_draft : Int32) (x0_off : Int32) (x0_failing : Int32) (x0_written : Int32) (x0_padded : Int32) (g0_pad : Nat → Int32) (k1 : Int32) (ox0_padded : Int32) (og0_pad : Nat → Int32) (hf : fMo_lay x0_padded g0_pad k1 = some (ox0_padded, og0_pad)) : hw_C l yX6_lay wX6_lay { frames := 0, cells := 0, slots := 0, locals := 0 } D vwCl cA cZ [.ref h0, .int k1] [(h0, .inr (5, [.int x0_count, .ref h0_keys, .ref h0_legs, .ref h0_account, .ref h0_amount, .ref h0_seals, .ref h0_ends, .int x0_synced, .int x0_syncedEnd, .int x0_draft, .ref h0_draftAccount, .ref h0_draftAmount, .ref h0_limits, .ref h0_disk, .int x0_off, .int x0_failing, .int x0_written, .int x0_padded, .ref h0_pad, .ref h0_stack, .ref h0_firsts, .ref h0_others])), (h0_pad, .inl (cA, 16, .inl g0_pad))] [(h0, .inr (5, [.int x0_count, .ref h0_keys, .ref h0_legs, .ref h0_account, .ref h0_amount, .ref h0_seals, .ref h0_ends, .int x0_synced, .int x0_syncedEnd, .int x0_draft, .ref h0_draftAccount, .ref h0_draftAmount, .ref h0_limits, .ref h0_disk, .int x0_off, .int x0_failing, .int x0_written, .int ox0_padded, .ref h0_pad, .ref h0_stack, .ref h0_firsts, .ref h0_others])), (h0_pad, .inl (cA, 16, .inl og0_pad))] none := by
  refine hw_of (cc := cX6_lay) (maxL := 2) (ret := none) (by decide) rfl (Nat.le_of_ble_eq_true rfl) ?_
  intro p e s m args below meth c A ls hx hb hr hlk hml hown hts hA hK hE hP hD hS hl
  have hown : s.vm.findClass RX6 = some m.cls := hown
  have hl : lv_has ls 2 [(0, .ref h0), (1, .int k1)] := hl
  rw [fMo_lay] at hf
  refine lv_aload_n hx hb dX6_lay_0 rfl (lv_at hl 0 rfl) ?_
  refine va_get (D := D) (ci := 5) (v := .ref h0_pad) (C := RX6) (T := TX6) (N := 22) hx hb hts in_X6 hown hK hP 0 rfl rfl 18 (by decide) (hts _ mw_349) (fun _ h9 => h9) rfl dX6_lay_1 ?_
  refine lv_aload_n hx hb dX6_lay_4 rfl (lv_at hl 0 rfl) ?_
  refine va_get (D := D) (ci := 5) (v := .int x0_padded) (C := RX6) (T := TX6) (N := 22) hx hb hts in_X6 hown hK hP 0 rfl rfl 17 (by decide) (hts _ mw_436) (fun _ h9 => h9) rfl dX6_lay_5 ?_
  refine lv_iload_n hx hb dX6_lay_8 rfl (lv_at hl 1 rfl) ?_
  obtain ⟨u1, e2, hf⟩ := hw_bind hf
  refine hw_iast hx hb hK hP hD hS 1 rfl e2 dX6_lay_9 (fun H locs (hP : va_P D vwCl [(h0, .inr (5, [.int x0_count, .ref h0_keys, .ref h0_legs, .ref h0_account, .ref h0_amount, .ref h0_seals, .ref h0_ends, .int x0_synced, .int x0_syncedEnd, .int x0_draft, .ref h0_draftAccount, .ref h0_draftAmount, .ref h0_limits, .ref h0_disk, .int x0_off, .int x0_failing, .int x0_written, .int x0_padded, .ref h0_pad, .ref h0_stack, .ref h0_firsts, .ref h0_others])), (h0_pad, .inl (cA, 16, .inl u1))] H) (hD : va_D A [(h0, .inr (5, [.int x0_count, .ref h0_keys, .ref h0_legs, .ref h0_account, .ref h0_amount, .ref h0_seals, .ref h0_ends, .int x0_synced, .int x0_syncedEnd, .int x0_draft, .ref h0_draftAccount, .ref h0_draftAmount, .ref h0_limits, .ref h0_disk, .int x0_off, .int x0_failing, .int x0_written, .int x0_padded, .ref h0_pad, .ref h0_stack, .ref h0_firsts, .ref h0_others])), (h0_pad, .inl (cA, 16, .inl u1))]) hS => ?_)
  refine lv_aload_n hx hb dX6_lay_10 rfl (lv_at hl 0 rfl) ?_
  refine lv_dup hx hb dX6_lay_11 rfl ?_
  refine va_get (D := D) (ci := 5) (v := .int x0_padded) (C := RX6) (T := TX6) (N := 22) hx hb hts in_X6 hown hK hP 0 rfl rfl 17 (by decide) (hts _ mw_436) (fun _ h9 => h9) rfl dX6_lay_12 ?_
  refine lv_iconst (v := (1 : Int32)) hx hb dX6_lay_15 (by decide) ?_
  refine lv_iadd hx hb dX6_lay_16 ?_
  refine va_put (D := D) (ci := 5) (v := .int (x0_padded + (1 : Int32))) (ty := .int) (C := RX6) (T := TX6) (N := 22) hx hb hts in_X6 tyX6 tyX6_ok nX6 hown hK hP hD hS 0 rfl rfl 17 (by decide) (hts _ mw_436) (fun _ h9 => h9) rfl (by decide +kernel) rfl rfl (Nat.le_of_ble_eq_true rfl) dX6_lay_17 (fun H locs (hP : va_P D vwCl [(h0, .inr (5, [.int x0_count, .ref h0_keys, .ref h0_legs, .ref h0_account, .ref h0_amount, .ref h0_seals, .ref h0_ends, .int x0_synced, .int x0_syncedEnd, .int x0_draft, .ref h0_draftAccount, .ref h0_draftAmount, .ref h0_limits, .ref h0_disk, .int x0_off, .int x0_failing, .int x0_written, .int (x0_padded + (1 : Int32)), .ref h0_pad, .ref h0_stack, .ref h0_firsts, .ref h0_others])), (h0_pad, .inl (cA, 16, .inl u1))] H) (hD : va_D A [(h0, .inr (5, [.int x0_count, .ref h0_keys, .ref h0_legs, .ref h0_account, .ref h0_amount, .ref h0_seals, .ref h0_ends, .int x0_synced, .int x0_syncedEnd, .int x0_draft, .ref h0_draftAccount, .ref h0_draftAmount, .ref h0_limits, .ref h0_disk, .int x0_off, .int x0_failing, .int x0_written, .int (x0_padded + (1 : Int32)), .ref h0_pad, .ref h0_stack, .ref h0_firsts, .ref h0_others])), (h0_pad, .inl (cA, 16, .inl u1))]) hS => ?_)
  cases hf
  exact hw_rv hx hb hr hlk (hP.sub [0, 1] rfl) (hD.sub [0, 1] (by decide) rfl) hS dX6_lay_20
set_option maxHeartbeats 4000000 in
set_option maxRecDepth 100000 in
theorem cMo_put (l : Launch) (D : va_G) (cA cZ : ClassId) (h0 : Nat) (h0_keys : Nat) (h0_legs : Nat) (h0_account : Nat) (h0_amount : Nat) (h0_seals : Nat) (h0_ends : Nat) (h0_draftAccount : Nat) (h0_draftAmount : Nat) (h0_limits : Nat) (h0_disk : Nat) (h0_pad : Nat) (h0_stack : Nat) (h0_firsts : Nat) (h0_others : Nat) (x0_count : Int32) (x0_synced : Int32) (x0_syncedEnd : Int32) (x0_draft : Int32) (x0_off : Int32) (x0_failing : Int32) (x0_written : Int32) (x0_padded : Int32) (g0_pad : Nat → Int32) (k1 : Int32) (rr : Int32) (ox0_padded : Int32) (og0_pad : Nat → Int32) (hf : fMo_put x0_padded g0_pad k1 = some (rr, ox0_padded, og0_pad)) : hw_C l yX6_put wX6_put { frames := 1, cells := 0, slots := 0, locals := 21 } D vwCl cA cZ [.ref h0, .int k1] [(h0, .inr (5, [.int x0_count, .ref h0_keys, .ref h0_legs, .ref h0_account, .ref h0_amount, .ref h0_seals, .ref h0_ends, .int x0_synced, .int x0_syncedEnd, .int x0_draft, .ref h0_draftAccount, .ref h0_draftAmount, .ref h0_limits, .ref h0_disk, .int x0_off, .int x0_failing, .int x0_written, .int x0_padded, .ref h0_pad, .ref h0_stack, .ref h0_firsts, .ref h0_others])), (h0_pad, .inl (cA, 16, .inl g0_pad))] [(h0, .inr (5, [.int x0_count, .ref h0_keys, .ref h0_legs, .ref h0_account, .ref h0_amount, .ref h0_seals, .ref h0_ends, .int x0_synced, .int x0_syncedEnd, .int x0_draft, .ref h0_draftAccount, .ref h0_draftAmount, .ref h0_limits, .ref h0_disk, .int x0_off, .int x0_failing, .int x0_written, .int ox0_padded, .ref h0_pad, .ref h0_stack, .ref h0_firsts, .ref h0_others])), (h0_pad, .inl (cA, 16, .inl og0_pad))] (some (.int rr)) := by
  refine hw_of (cc := cX6_put) (maxL := 2) (ret := (some .boolean)) (by decide) rfl (Nat.le_of_ble_eq_true rfl) ?_
  intro p e s m args below meth c A ls hx hb hr hlk hml hown hts hA hK hE hP hD hS hl
  have hown : s.vm.findClass RX6 = some m.cls := hown
  have hl : lv_has ls 2 [(0, .ref h0), (1, .int k1)] := hl
  rw [fMo_put] at hf
  refine lv_aload_n hx hb dX6_put_0 rfl (lv_at hl 0 rfl) ?_
  refine va_get (D := D) (ci := 5) (v := .int x0_padded) (C := RX6) (T := TX6) (N := 22) hx hb hts in_X6 hown hK hP 0 rfl rfl 17 (by decide) (hts _ mw_436) (fun _ h9 => h9) rfl dX6_put_1 ?_
  refine lv_bipush (v := (16 : Int32)) hx hb dX6_put_4 (by decide) ?_
  refine hi_icmp_ne (tgt := 11) hx hb dX6_put_6 rfl hf (fun hc hf => ?_) (fun hc hf => ?_)
  · refine lv_aload_n hx hb dX6_put_11 rfl (lv_at hl 0 rfl) ?_
    refine lv_iload_n hx hb dX6_put_12 rfl (lv_at hl 1 rfl) ?_
    obtain ⟨⟨u1, u2⟩, e3, hf⟩ := hw_bind hf
    refine hw_goV (wr := []) (rest := []) ⟨hx, hb, hml, hown, hts⟩ (cMo_lay l D cA cZ h0 h0_keys h0_legs h0_account h0_amount h0_seals h0_ends h0_draftAccount h0_draftAmount h0_limits h0_disk h0_pad h0_stack h0_firsts h0_others x0_count x0_synced x0_syncedEnd x0_draft x0_off x0_failing x0_written x0_padded g0_pad k1 u1 u2 e3) (cwV 1 hts ks_X6_136 rfl rfl rfl (by decide +kernel) ⟨Nat.le_of_ble_eq_true rfl, Nat.le_of_ble_eq_true rfl⟩) 0 rfl rfl [0, 1] [] rfl rfl (by decide) (by decide) (by decide) hK hE hP hD hS hA hl.1 rfl rfl (Nat.le_of_ble_eq_true rfl) dX6_put_13 ⟨Nat.zero_le _, Nat.zero_le _⟩ (fun H locs (hP : va_P D vwCl [(h0, .inr (5, [.int x0_count, .ref h0_keys, .ref h0_legs, .ref h0_account, .ref h0_amount, .ref h0_seals, .ref h0_ends, .int x0_synced, .int x0_syncedEnd, .int x0_draft, .ref h0_draftAccount, .ref h0_draftAmount, .ref h0_limits, .ref h0_disk, .int x0_off, .int x0_failing, .int x0_written, .int u1, .ref h0_pad, .ref h0_stack, .ref h0_firsts, .ref h0_others])), (h0_pad, .inl (cA, 16, .inl u2))] H) (hD : va_D A [(h0, .inr (5, [.int x0_count, .ref h0_keys, .ref h0_legs, .ref h0_account, .ref h0_amount, .ref h0_seals, .ref h0_ends, .int x0_synced, .int x0_syncedEnd, .int x0_draft, .ref h0_draftAccount, .ref h0_draftAmount, .ref h0_limits, .ref h0_disk, .int x0_off, .int x0_failing, .int x0_written, .int u1, .ref h0_pad, .ref h0_stack, .ref h0_firsts, .ref h0_others])), (h0_pad, .inl (cA, 16, .inl u2))]) hS => ?_)
    refine lv_iconst (v := (1 : Int32)) hx hb dX6_put_16 (by decide) ?_
    cases hf
    exact hw_rz hx hb hr hlk rfl (hP.sub [0, 1] rfl) (hD.sub [0, 1] (by decide) rfl) hS dX6_put_17
  · refine lv_iconst (v := (0 : Int32)) hx hb dX6_put_9 (by decide) ?_
    cases hf
    exact hw_rz hx hb hr hlk rfl (hP.sub [0, 1] rfl) (hD.sub [0, 1] (by decide) rfl) hS dX6_put_10
set_option maxHeartbeats 4000000 in
set_option maxRecDepth 100000 in
theorem cMo_take (l : Launch) (D : va_G) (cA cZ : ClassId) (h0 : Nat) (h0_keys : Nat) (h0_legs : Nat) (h0_account : Nat) (h0_amount : Nat) (h0_seals : Nat) (h0_ends : Nat) (h0_draftAccount : Nat) (h0_draftAmount : Nat) (h0_limits : Nat) (h0_disk : Nat) (h0_pad : Nat) (h0_stack : Nat) (h0_firsts : Nat) (h0_others : Nat) (x0_count : Int32) (x0_synced : Int32) (x0_syncedEnd : Int32) (x0_draft : Int32) (x0_off : Int32) (x0_failing : Int32) (x0_written : Int32) (x0_padded : Int32) (rr : Int32) (ox0_padded : Int32) (hf : fMo_take x0_padded = some (rr, ox0_padded)) : hw_C l yX6_take wX6_take { frames := 0, cells := 0, slots := 0, locals := 0 } D vwCl cA cZ [.ref h0] [(h0, .inr (5, [.int x0_count, .ref h0_keys, .ref h0_legs, .ref h0_account, .ref h0_amount, .ref h0_seals, .ref h0_ends, .int x0_synced, .int x0_syncedEnd, .int x0_draft, .ref h0_draftAccount, .ref h0_draftAmount, .ref h0_limits, .ref h0_disk, .int x0_off, .int x0_failing, .int x0_written, .int x0_padded, .ref h0_pad, .ref h0_stack, .ref h0_firsts, .ref h0_others]))] [(h0, .inr (5, [.int x0_count, .ref h0_keys, .ref h0_legs, .ref h0_account, .ref h0_amount, .ref h0_seals, .ref h0_ends, .int x0_synced, .int x0_syncedEnd, .int x0_draft, .ref h0_draftAccount, .ref h0_draftAmount, .ref h0_limits, .ref h0_disk, .int x0_off, .int x0_failing, .int x0_written, .int ox0_padded, .ref h0_pad, .ref h0_stack, .ref h0_firsts, .ref h0_others]))] (some (.int rr)) := by
  refine hw_of (cc := cX6_take) (maxL := 1) (ret := (some .boolean)) (by decide) rfl (Nat.le_of_ble_eq_true rfl) ?_
  intro p e s m args below meth c A ls hx hb hr hlk hml hown hts hA hK hE hP hD hS hl
  have hown : s.vm.findClass RX6 = some m.cls := hown
  have hl : lv_has ls 1 [(0, .ref h0)] := hl
  rw [fMo_take] at hf
  refine lv_aload_n hx hb dX6_take_0 rfl (lv_at hl 0 rfl) ?_
  refine va_get (D := D) (ci := 5) (v := .int x0_padded) (C := RX6) (T := TX6) (N := 22) hx hb hts in_X6 hown hK hP 0 rfl rfl 17 (by decide) (hts _ mw_436) (fun _ h9 => h9) rfl dX6_take_1 ?_
  refine hi_if_ne (tgt := 9) hx hb dX6_take_4 rfl hf (fun hc hf => ?_) (fun hc hf => ?_)
  · refine lv_aload_n hx hb dX6_take_9 rfl (lv_at hl 0 rfl) ?_
    refine lv_dup hx hb dX6_take_10 rfl ?_
    refine va_get (D := D) (ci := 5) (v := .int x0_padded) (C := RX6) (T := TX6) (N := 22) hx hb hts in_X6 hown hK hP 0 rfl rfl 17 (by decide) (hts _ mw_436) (fun _ h9 => h9) rfl dX6_take_11 ?_
    refine lv_iconst (v := (1 : Int32)) hx hb dX6_take_14 (by decide) ?_
    refine lv_isub hx hb dX6_take_15 ?_
    refine va_put (D := D) (ci := 5) (v := .int (x0_padded - (1 : Int32))) (ty := .int) (C := RX6) (T := TX6) (N := 22) hx hb hts in_X6 tyX6 tyX6_ok nX6 hown hK hP hD hS 0 rfl rfl 17 (by decide) (hts _ mw_436) (fun _ h9 => h9) rfl (by decide +kernel) rfl rfl (Nat.le_of_ble_eq_true rfl) dX6_take_16 (fun H locs (hP : va_P D vwCl [(h0, .inr (5, [.int x0_count, .ref h0_keys, .ref h0_legs, .ref h0_account, .ref h0_amount, .ref h0_seals, .ref h0_ends, .int x0_synced, .int x0_syncedEnd, .int x0_draft, .ref h0_draftAccount, .ref h0_draftAmount, .ref h0_limits, .ref h0_disk, .int x0_off, .int x0_failing, .int x0_written, .int (x0_padded - (1 : Int32)), .ref h0_pad, .ref h0_stack, .ref h0_firsts, .ref h0_others]))] H) (hD : va_D A [(h0, .inr (5, [.int x0_count, .ref h0_keys, .ref h0_legs, .ref h0_account, .ref h0_amount, .ref h0_seals, .ref h0_ends, .int x0_synced, .int x0_syncedEnd, .int x0_draft, .ref h0_draftAccount, .ref h0_draftAmount, .ref h0_limits, .ref h0_disk, .int x0_off, .int x0_failing, .int x0_written, .int (x0_padded - (1 : Int32)), .ref h0_pad, .ref h0_stack, .ref h0_firsts, .ref h0_others]))]) hS => ?_)
    refine lv_iconst (v := (1 : Int32)) hx hb dX6_take_19 (by decide) ?_
    cases hf
    exact hw_rz hx hb hr hlk rfl (hP.sub [0] rfl) (hD.sub [0] (by decide) rfl) hS dX6_take_20
  · refine lv_iconst (v := (0 : Int32)) hx hb dX6_take_7 (by decide) ?_
    cases hf
    exact hw_rz hx hb hr hlk rfl (hP.sub [0] rfl) (hD.sub [0] (by decide) rfl) hS dX6_take_8
set_option maxHeartbeats 4000000 in
set_option maxRecDepth 100000 in
theorem cMo_pad (l : Launch) (D : va_G) (cA cZ : ClassId) (h0 : Nat) (h0_keys : Nat) (h0_legs : Nat) (h0_account : Nat) (h0_amount : Nat) (h0_seals : Nat) (h0_ends : Nat) (h0_draftAccount : Nat) (h0_draftAmount : Nat) (h0_limits : Nat) (h0_disk : Nat) (h0_pad : Nat) (h0_stack : Nat) (h0_firsts : Nat) (h0_others : Nat) (x0_count : Int32) (x0_synced : Int32) (x0_syncedEnd : Int32) (x0_draft : Int32) (x0_off : Int32) (x0_failing : Int32) (x0_written : Int32) (x0_padded : Int32) (g0_pad : Nat → Int32) (k1 : Int32) (rr : Int32) (hf : fMo_pad x0_padded g0_pad k1 = some rr) : hw_C l yX6_pad wX6_pad { frames := 0, cells := 0, slots := 0, locals := 0 } D vwCl cA cZ [.ref h0, .int k1] [(h0, .inr (5, [.int x0_count, .ref h0_keys, .ref h0_legs, .ref h0_account, .ref h0_amount, .ref h0_seals, .ref h0_ends, .int x0_synced, .int x0_syncedEnd, .int x0_draft, .ref h0_draftAccount, .ref h0_draftAmount, .ref h0_limits, .ref h0_disk, .int x0_off, .int x0_failing, .int x0_written, .int x0_padded, .ref h0_pad, .ref h0_stack, .ref h0_firsts, .ref h0_others])), (h0_pad, .inl (cA, 16, .inl g0_pad))] [(h0, .inr (5, [.int x0_count, .ref h0_keys, .ref h0_legs, .ref h0_account, .ref h0_amount, .ref h0_seals, .ref h0_ends, .int x0_synced, .int x0_syncedEnd, .int x0_draft, .ref h0_draftAccount, .ref h0_draftAmount, .ref h0_limits, .ref h0_disk, .int x0_off, .int x0_failing, .int x0_written, .int x0_padded, .ref h0_pad, .ref h0_stack, .ref h0_firsts, .ref h0_others])), (h0_pad, .inl (cA, 16, .inl g0_pad))] (some (.int rr)) := by
  refine hw_of (cc := cX6_pad) (maxL := 2) (ret := (some .int)) (by decide) rfl (Nat.le_of_ble_eq_true rfl) ?_
  intro p e s m args below meth c A ls hx hb hr hlk hml hown hts hA hK hE hP hD hS hl
  have hown : s.vm.findClass RX6 = some m.cls := hown
  have hl : lv_has ls 2 [(0, .ref h0), (1, .int k1)] := hl
  rw [fMo_pad] at hf
  refine lv_iload_n hx hb dX6_pad_0 rfl (lv_at hl 1 rfl) ?_
  refine hi_if_lt (tgt := 12) hx hb dX6_pad_1 rfl hf (fun hc hf => ?_) (fun hc hf => ?_)
  · refine lv_iconst (v := (0 : Int32)) hx hb dX6_pad_12 (by decide) ?_
    refine lv_goto (tgt := 22) hx hb dX6_pad_13 rfl ?_
    cases hf
    exact hw_ri hx hb hr hlk (hP.sub [0, 1] rfl) (hD.sub [0, 1] (by decide) rfl) hS dX6_pad_22
  · refine lv_iload_n hx hb dX6_pad_4 rfl (lv_at hl 1 rfl) ?_
    refine lv_aload_n hx hb dX6_pad_5 rfl (lv_at hl 0 rfl) ?_
    refine va_get (D := D) (ci := 5) (v := .int x0_padded) (C := RX6) (T := TX6) (N := 22) hx hb hts in_X6 hown hK hP 0 rfl rfl 17 (by decide) (hts _ mw_436) (fun _ h9 => h9) rfl dX6_pad_6 ?_
    refine hi_icmp_lt (tgt := 16) hx hb dX6_pad_9 rfl hf (fun hc hf => ?_) (fun hc hf => ?_)
    · refine lv_aload_n hx hb dX6_pad_16 rfl (lv_at hl 0 rfl) ?_
      refine va_get (D := D) (ci := 5) (v := .ref h0_pad) (C := RX6) (T := TX6) (N := 22) hx hb hts in_X6 hown hK hP 0 rfl rfl 18 (by decide) (hts _ mw_349) (fun _ h9 => h9) rfl dX6_pad_17 ?_
      refine lv_iload_n hx hb dX6_pad_20 rfl (lv_at hl 1 rfl) ?_
      obtain ⟨v1, e2, hf⟩ := hw_bind hf
      refine hw_iald hx hb hK hP 1 rfl e2 dX6_pad_21 ?_
      cases hf
      exact hw_ri hx hb hr hlk (hP.sub [0, 1] rfl) (hD.sub [0, 1] (by decide) rfl) hS dX6_pad_22
    · refine lv_iconst (v := (0 : Int32)) hx hb dX6_pad_12 (by decide) ?_
      refine lv_goto (tgt := 22) hx hb dX6_pad_13 rfl ?_
      cases hf
      exact hw_ri hx hb hr hlk (hP.sub [0, 1] rfl) (hD.sub [0, 1] (by decide) rfl) hS dX6_pad_22
set_option maxHeartbeats 4000000 in
set_option maxRecDepth 100000 in
theorem cMo_cell (l : Launch) (D : va_G) (cA cZ : ClassId) (h0 : Nat) (h0_keys : Nat) (h0_legs : Nat) (h0_account : Nat) (h0_amount : Nat) (h0_seals : Nat) (h0_ends : Nat) (h0_draftAccount : Nat) (h0_draftAmount : Nat) (h0_limits : Nat) (h0_disk : Nat) (h0_pad : Nat) (h0_stack : Nat) (h0_firsts : Nat) (h0_others : Nat) (x0_count : Int32) (x0_synced : Int32) (x0_syncedEnd : Int32) (x0_draft : Int32) (x0_off : Int32) (x0_failing : Int32) (x0_written : Int32) (x0_padded : Int32) (g0_disk : Nat → Int32) (k1 : Int32) (rr : Int32) (hf : fMo_cell g0_disk k1 = some rr) : hw_C l yX6_cell wX6_cell { frames := 0, cells := 0, slots := 0, locals := 0 } D vwCl cA cZ [.ref h0, .int k1] [(h0, .inr (5, [.int x0_count, .ref h0_keys, .ref h0_legs, .ref h0_account, .ref h0_amount, .ref h0_seals, .ref h0_ends, .int x0_synced, .int x0_syncedEnd, .int x0_draft, .ref h0_draftAccount, .ref h0_draftAmount, .ref h0_limits, .ref h0_disk, .int x0_off, .int x0_failing, .int x0_written, .int x0_padded, .ref h0_pad, .ref h0_stack, .ref h0_firsts, .ref h0_others])), (h0_disk, .inl (cA, 512, .inl g0_disk))] [(h0, .inr (5, [.int x0_count, .ref h0_keys, .ref h0_legs, .ref h0_account, .ref h0_amount, .ref h0_seals, .ref h0_ends, .int x0_synced, .int x0_syncedEnd, .int x0_draft, .ref h0_draftAccount, .ref h0_draftAmount, .ref h0_limits, .ref h0_disk, .int x0_off, .int x0_failing, .int x0_written, .int x0_padded, .ref h0_pad, .ref h0_stack, .ref h0_firsts, .ref h0_others])), (h0_disk, .inl (cA, 512, .inl g0_disk))] (some (.int rr)) := by
  refine hw_of (cc := cX6_cell) (maxL := 2) (ret := (some .int)) (by decide) rfl (Nat.le_of_ble_eq_true rfl) ?_
  intro p e s m args below meth c A ls hx hb hr hlk hml hown hts hA hK hE hP hD hS hl
  have hown : s.vm.findClass RX6 = some m.cls := hown
  have hl : lv_has ls 2 [(0, .ref h0), (1, .int k1)] := hl
  rw [fMo_cell] at hf
  refine lv_iload_n hx hb dX6_cell_0 rfl (lv_at hl 1 rfl) ?_
  refine hi_if_lt (tgt := 11) hx hb dX6_cell_1 rfl hf (fun hc hf => ?_) (fun hc hf => ?_)
  · refine lv_iconst (v := (0 : Int32)) hx hb dX6_cell_11 (by decide) ?_
    refine lv_goto (tgt := 21) hx hb dX6_cell_12 rfl ?_
    cases hf
    exact hw_ri hx hb hr hlk (hP.sub [0, 1] rfl) (hD.sub [0, 1] (by decide) rfl) hS dX6_cell_21
  · refine lv_iload_n hx hb dX6_cell_4 rfl (lv_at hl 1 rfl) ?_
    refine lv_sipush (v := (511 : Int32)) hx hb dX6_cell_5 (by decide) ?_
    refine hi_icmp_le (tgt := 15) hx hb dX6_cell_8 rfl hf (fun hc hf => ?_) (fun hc hf => ?_)
    · refine lv_aload_n hx hb dX6_cell_15 rfl (lv_at hl 0 rfl) ?_
      refine va_get (D := D) (ci := 5) (v := .ref h0_disk) (C := RX6) (T := TX6) (N := 22) hx hb hts in_X6 hown hK hP 0 rfl rfl 13 (by decide) (hts _ mw_348) (fun _ h9 => h9) rfl dX6_cell_16 ?_
      refine lv_iload_n hx hb dX6_cell_19 rfl (lv_at hl 1 rfl) ?_
      obtain ⟨v1, e2, hf⟩ := hw_bind hf
      refine hw_iald hx hb hK hP 1 rfl e2 dX6_cell_20 ?_
      cases hf
      exact hw_ri hx hb hr hlk (hP.sub [0, 1] rfl) (hD.sub [0, 1] (by decide) rfl) hS dX6_cell_21
    · refine lv_iconst (v := (0 : Int32)) hx hb dX6_cell_11 (by decide) ?_
      refine lv_goto (tgt := 21) hx hb dX6_cell_12 rfl ?_
      cases hf
      exact hw_ri hx hb hr hlk (hP.sub [0, 1] rfl) (hD.sub [0, 1] (by decide) rfl) hS dX6_cell_21
set_option maxHeartbeats 4000000 in
set_option maxRecDepth 100000 in
theorem cMo_writes (l : Launch) (D : va_G) (cA cZ : ClassId) (h0 : Nat) (h0_keys : Nat) (h0_legs : Nat) (h0_account : Nat) (h0_amount : Nat) (h0_seals : Nat) (h0_ends : Nat) (h0_draftAccount : Nat) (h0_draftAmount : Nat) (h0_limits : Nat) (h0_disk : Nat) (h0_pad : Nat) (h0_stack : Nat) (h0_firsts : Nat) (h0_others : Nat) (x0_count : Int32) (x0_synced : Int32) (x0_syncedEnd : Int32) (x0_draft : Int32) (x0_off : Int32) (x0_failing : Int32) (x0_written : Int32) (x0_padded : Int32) (rr : Int32) (hf : fMo_writes x0_written = some rr) : hw_C l yX6_writes wX6_writes { frames := 0, cells := 0, slots := 0, locals := 0 } D vwCl cA cZ [.ref h0] [(h0, .inr (5, [.int x0_count, .ref h0_keys, .ref h0_legs, .ref h0_account, .ref h0_amount, .ref h0_seals, .ref h0_ends, .int x0_synced, .int x0_syncedEnd, .int x0_draft, .ref h0_draftAccount, .ref h0_draftAmount, .ref h0_limits, .ref h0_disk, .int x0_off, .int x0_failing, .int x0_written, .int x0_padded, .ref h0_pad, .ref h0_stack, .ref h0_firsts, .ref h0_others]))] [(h0, .inr (5, [.int x0_count, .ref h0_keys, .ref h0_legs, .ref h0_account, .ref h0_amount, .ref h0_seals, .ref h0_ends, .int x0_synced, .int x0_syncedEnd, .int x0_draft, .ref h0_draftAccount, .ref h0_draftAmount, .ref h0_limits, .ref h0_disk, .int x0_off, .int x0_failing, .int x0_written, .int x0_padded, .ref h0_pad, .ref h0_stack, .ref h0_firsts, .ref h0_others]))] (some (.int rr)) := by
  refine hw_of (cc := cX6_writes) (maxL := 1) (ret := (some .int)) (by decide) rfl (Nat.le_of_ble_eq_true rfl) ?_
  intro p e s m args below meth c A ls hx hb hr hlk hml hown hts hA hK hE hP hD hS hl
  have hown : s.vm.findClass RX6 = some m.cls := hown
  have hl : lv_has ls 1 [(0, .ref h0)] := hl
  rw [fMo_writes] at hf
  refine lv_aload_n hx hb dX6_writes_0 rfl (lv_at hl 0 rfl) ?_
  refine va_get (D := D) (ci := 5) (v := .int x0_written) (C := RX6) (T := TX6) (N := 22) hx hb hts in_X6 hown hK hP 0 rfl rfl 16 (by decide) (hts _ mw_408) (fun _ h9 => h9) rfl dX6_writes_1 ?_
  cases hf
  exact hw_ri hx hb hr hlk (hP.sub [0] rfl) (hD.sub [0] (by decide) rfl) hS dX6_writes_4
