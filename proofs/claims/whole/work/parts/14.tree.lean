set_option maxHeartbeats 4000000 in
set_option maxRecDepth 100000 in
theorem cTr_hash (l : Launch) (D : va_G) (cA cZ : ClassId) : ∀ (d : Nat) (h0 : Nat) (h0_cells : Nat) (h0_starts : Nat) (h0_leaves : Nat) (x0_count : Int32) (x0_end : Int32) (x0_syncedCount : Int32) (x0_syncedEnd : Int32) (g0_leaves : Nat → Int32) (k1 : Int32) (k2 : Int32) (k3 : Int32) (rr : Int32) (hf : fTr_hash x0_count g0_leaves d k1 k2 k3 = some rr), hw_C l yX4_hash wX4_hash { frames := 2 + d, cells := 0, slots := 0, locals := 44 + d * 24 } D vwCl cA cZ [.ref h0, .int k1, .int k2, .int k3] [(h0, .inr (2, [.ref h0_cells, .ref h0_starts, .ref h0_leaves, .int x0_count, .int x0_end, .int x0_syncedCount, .int x0_syncedEnd])), (h0_leaves, .inl (cA, 73, .inl g0_leaves))] [(h0, .inr (2, [.ref h0_cells, .ref h0_starts, .ref h0_leaves, .int x0_count, .int x0_end, .int x0_syncedCount, .int x0_syncedEnd])), (h0_leaves, .inl (cA, 73, .inl g0_leaves))] (some (.int rr)) := by
  intro d
  induction d with
  | zero => intro h0 h0_cells h0_starts h0_leaves x0_count x0_end x0_syncedCount x0_syncedEnd g0_leaves k1 k2 k3 rr hf; simp only [fTr_hash] at hf; cases hf
  | succ d ih =>
    intro h0 h0_cells h0_starts h0_leaves x0_count x0_end x0_syncedCount x0_syncedEnd g0_leaves k1 k2 k3 rr hf
    refine hw_of (cc := cX4_hash) (maxL := 5) (ret := (some .int)) (by decide) rfl (Nat.le_of_ble_eq_true rfl) ?_
    intro p e s m args below meth c A ls hx hb hr hlk hml hown hts hA hK hE hP hD hS hl
    have hown : s.vm.findClass RX4 = some m.cls := hown
    have hl : lv_has ls 5 [(0, .ref h0), (1, .int k1), (2, .int k2), (3, .int k3)] := hl
    rw [fTr_hash] at hf
    refine lv_iload_n hx hb dX4_hash_0 rfl (lv_at hl 2 rfl) ?_
    refine lv_iconst (v := (1 : Int32)) hx hb dX4_hash_1 (by decide) ?_
    refine hi_icmp_le (tgt := 9) hx hb dX4_hash_2 rfl hf (fun hc hf => ?_) (fun hc hf => ?_)
    · refine lv_aload_n hx hb dX4_hash_9 rfl (lv_at hl 0 rfl) ?_
      refine lv_iload_n hx hb dX4_hash_10 rfl (lv_at hl 1 rfl) ?_
      obtain ⟨v1, e2, hf⟩ := hw_bind hf
      refine hw_goV (wr := []) (rest := []) ⟨hx, hb, hml, hown, hts⟩ (cLg_leafOf l D cA cZ h0 h0_cells h0_starts h0_leaves x0_count x0_end x0_syncedCount x0_syncedEnd g0_leaves k1 v1 e2) (cwV 1 hts ks_X4_27 rfl rfl rfl (by decide +kernel) ⟨by dsimp only; omega, by dsimp only; omega⟩) 0 rfl rfl [0, 1] [] rfl rfl (by decide) (by decide) (by decide) hK hE hP hD hS hA hl.1 rfl rfl (Nat.le_of_ble_eq_true rfl) dX4_hash_11 ⟨Nat.zero_le _, Nat.zero_le _⟩ (fun H locs (hP : va_P D vwCl [(h0, .inr (2, [.ref h0_cells, .ref h0_starts, .ref h0_leaves, .int x0_count, .int x0_end, .int x0_syncedCount, .int x0_syncedEnd])), (h0_leaves, .inl (cA, 73, .inl g0_leaves))] H) (hD : va_D A [(h0, .inr (2, [.ref h0_cells, .ref h0_starts, .ref h0_leaves, .int x0_count, .int x0_end, .int x0_syncedCount, .int x0_syncedEnd])), (h0_leaves, .inl (cA, 73, .inl g0_leaves))]) hS => ?_)
      cases hf
      exact hw_ri hx hb hr hlk (hP.sub [0, 1] rfl) (hD.sub [0, 1] (by decide) rfl) hS dX4_hash_14
    · refine lv_iload_n hx hb dX4_hash_5 rfl (lv_at hl 3 rfl) ?_
      refine hi_if_gt (tgt := 15) hx hb dX4_hash_6 rfl hf (fun hc hf => ?_) (fun hc hf => ?_)
      · refine lv_iload_n hx hb dX4_hash_15 rfl (lv_at hl 2 rfl) ?_
        obtain ⟨v3, e4, hf⟩ := hw_bind hf
        refine hw_goSN (wr := [(h0, .inr (2, [.ref h0_cells, .ref h0_starts, .ref h0_leaves, .int x0_count, .int x0_end, .int x0_syncedCount, .int x0_syncedEnd])), (h0_leaves, .inl (cA, 73, .inl g0_leaves))]) (rest := []) ⟨hx, hb, hml, hown, hts⟩ (cSl_split l D cA cZ k2 v3 e4) ⟨va_cnB 1 hts ks_X4_33 rfl rfl rfl (ne_4 hE) (hts _ mw_49) (by decide +kernel) ⟨by dsimp only; omega, by dsimp only; omega⟩, hts _ mw_253, trivial⟩ [] [0, 1] rfl rfl (by decide) (by decide) (by decide) hK hE hP hD hS hA hl.1 rfl rfl (Nat.le_of_ble_eq_true rfl) dX4_hash_16 ⟨Nat.zero_le _, Nat.zero_le _⟩ (fun H locs (hP : va_P D vwCl [(h0, .inr (2, [.ref h0_cells, .ref h0_starts, .ref h0_leaves, .int x0_count, .int x0_end, .int x0_syncedCount, .int x0_syncedEnd])), (h0_leaves, .inl (cA, 73, .inl g0_leaves))] H) (hD : va_D A [(h0, .inr (2, [.ref h0_cells, .ref h0_starts, .ref h0_leaves, .int x0_count, .int x0_end, .int x0_syncedCount, .int x0_syncedEnd])), (h0_leaves, .inl (cA, 73, .inl g0_leaves))]) hS => ?_)
        refine lv_istore (lv' := [(4, .int v3), (0, .ref h0), (1, .int k1), (2, .int k2), (3, .int k3)]) hx hb dX4_hash_19 hl (by decide) rfl (fun ls hl => ?_)
        refine lv_aload_n hx hb dX4_hash_21 rfl (lv_at hl 1 rfl) ?_
        refine lv_iload_n hx hb dX4_hash_22 rfl (lv_at hl 2 rfl) ?_
        refine lv_iload hx hb dX4_hash_23 (lv_at hl 0 rfl) ?_
        refine lv_iload_n hx hb dX4_hash_25 rfl (lv_at hl 4 rfl) ?_
        refine lv_iconst (v := (1 : Int32)) hx hb dX4_hash_26 (by decide) ?_
        refine lv_isub hx hb dX4_hash_27 ?_
        obtain ⟨v5, e6, hf⟩ := hw_bind hf
        refine hw_goS (wr := []) (rest := []) ⟨hx, hb, hml, hown, hts⟩ (ih h0 h0_cells h0_starts h0_leaves x0_count x0_end x0_syncedCount x0_syncedEnd g0_leaves k1 v3 (k3 - (1 : Int32)) v5 e6) (cwS 4 hts ks_X4_13 rfl rfl rfl (by decide +kernel) ⟨by dsimp only; omega, by dsimp only; omega⟩) [0, 1] [] rfl rfl (by decide) (by decide) (by decide) hK hE hP hD hS hA hl.1 rfl rfl (Nat.le_of_ble_eq_true rfl) dX4_hash_28 ⟨Nat.zero_le _, Nat.zero_le _⟩ (fun H locs (hP : va_P D vwCl [(h0, .inr (2, [.ref h0_cells, .ref h0_starts, .ref h0_leaves, .int x0_count, .int x0_end, .int x0_syncedCount, .int x0_syncedEnd])), (h0_leaves, .inl (cA, 73, .inl g0_leaves))] H) (hD : va_D A [(h0, .inr (2, [.ref h0_cells, .ref h0_starts, .ref h0_leaves, .int x0_count, .int x0_end, .int x0_syncedCount, .int x0_syncedEnd])), (h0_leaves, .inl (cA, 73, .inl g0_leaves))]) hS => ?_)
        refine lv_aload_n hx hb dX4_hash_31 rfl (lv_at hl 1 rfl) ?_
        refine lv_iload_n hx hb dX4_hash_32 rfl (lv_at hl 2 rfl) ?_
        refine lv_iload hx hb dX4_hash_33 (lv_at hl 0 rfl) ?_
        refine lv_iadd hx hb dX4_hash_35 ?_
        refine lv_iload_n hx hb dX4_hash_36 rfl (lv_at hl 3 rfl) ?_
        refine lv_iload hx hb dX4_hash_37 (lv_at hl 0 rfl) ?_
        refine lv_isub hx hb dX4_hash_39 ?_
        refine lv_iload_n hx hb dX4_hash_40 rfl (lv_at hl 4 rfl) ?_
        refine lv_iconst (v := (1 : Int32)) hx hb dX4_hash_41 (by decide) ?_
        refine lv_isub hx hb dX4_hash_42 ?_
        obtain ⟨v7, e8, hf⟩ := hw_bind hf
        refine hw_goS (wr := []) (rest := [.int v5]) ⟨hx, hb, hml, hown, hts⟩ (ih h0 h0_cells h0_starts h0_leaves x0_count x0_end x0_syncedCount x0_syncedEnd g0_leaves (k1 + v3) (k2 - v3) (k3 - (1 : Int32)) v7 e8) (cwS 4 hts ks_X4_13 rfl rfl rfl (by decide +kernel) ⟨by dsimp only; omega, by dsimp only; omega⟩) [0, 1] [] rfl rfl (by decide) (by decide) (by decide) hK hE hP hD hS hA hl.1 rfl rfl (Nat.le_of_ble_eq_true rfl) dX4_hash_43 ⟨Nat.zero_le _, Nat.zero_le _⟩ (fun H locs (hP : va_P D vwCl [(h0, .inr (2, [.ref h0_cells, .ref h0_starts, .ref h0_leaves, .int x0_count, .int x0_end, .int x0_syncedCount, .int x0_syncedEnd])), (h0_leaves, .inl (cA, 73, .inl g0_leaves))] H) (hD : va_D A [(h0, .inr (2, [.ref h0_cells, .ref h0_starts, .ref h0_leaves, .int x0_count, .int x0_end, .int x0_syncedCount, .int x0_syncedEnd])), (h0_leaves, .inl (cA, 73, .inl g0_leaves))]) hS => ?_)
        obtain ⟨v9, e10, hf⟩ := hw_bind hf
        refine hw_goSN (wr := [(h0, .inr (2, [.ref h0_cells, .ref h0_starts, .ref h0_leaves, .int x0_count, .int x0_end, .int x0_syncedCount, .int x0_syncedEnd])), (h0_leaves, .inl (cA, 73, .inl g0_leaves))]) (rest := []) ⟨hx, hb, hml, hown, hts⟩ (cSl_node l D cA cZ v5 v7 v9 e10) ⟨va_cnB 2 hts ks_X4_36 rfl rfl rfl (ne_5 hE) (hts _ mw_49) (by decide +kernel) ⟨by dsimp only; omega, by dsimp only; omega⟩, hts _ mw_258, trivial⟩ [] [0, 1] rfl rfl (by decide) (by decide) (by decide) hK hE hP hD hS hA hl.1 rfl rfl (Nat.le_of_ble_eq_true rfl) dX4_hash_46 ⟨Nat.zero_le _, Nat.zero_le _⟩ (fun H locs (hP : va_P D vwCl [(h0, .inr (2, [.ref h0_cells, .ref h0_starts, .ref h0_leaves, .int x0_count, .int x0_end, .int x0_syncedCount, .int x0_syncedEnd])), (h0_leaves, .inl (cA, 73, .inl g0_leaves))] H) (hD : va_D A [(h0, .inr (2, [.ref h0_cells, .ref h0_starts, .ref h0_leaves, .int x0_count, .int x0_end, .int x0_syncedCount, .int x0_syncedEnd])), (h0_leaves, .inl (cA, 73, .inl g0_leaves))]) hS => ?_)
        cases hf
        exact hw_ri hx hb hr hlk (hP.sub [0, 1] rfl) (hD.sub [0, 1] (by decide) rfl) hS dX4_hash_49
      · refine lv_aload_n hx hb dX4_hash_9 rfl (lv_at hl 0 rfl) ?_
        refine lv_iload_n hx hb dX4_hash_10 rfl (lv_at hl 1 rfl) ?_
        obtain ⟨v11, e12, hf⟩ := hw_bind hf
        refine hw_goV (wr := []) (rest := []) ⟨hx, hb, hml, hown, hts⟩ (cLg_leafOf l D cA cZ h0 h0_cells h0_starts h0_leaves x0_count x0_end x0_syncedCount x0_syncedEnd g0_leaves k1 v11 e12) (cwV 1 hts ks_X4_27 rfl rfl rfl (by decide +kernel) ⟨by dsimp only; omega, by dsimp only; omega⟩) 0 rfl rfl [0, 1] [] rfl rfl (by decide) (by decide) (by decide) hK hE hP hD hS hA hl.1 rfl rfl (Nat.le_of_ble_eq_true rfl) dX4_hash_11 ⟨Nat.zero_le _, Nat.zero_le _⟩ (fun H locs (hP : va_P D vwCl [(h0, .inr (2, [.ref h0_cells, .ref h0_starts, .ref h0_leaves, .int x0_count, .int x0_end, .int x0_syncedCount, .int x0_syncedEnd])), (h0_leaves, .inl (cA, 73, .inl g0_leaves))] H) (hD : va_D A [(h0, .inr (2, [.ref h0_cells, .ref h0_starts, .ref h0_leaves, .int x0_count, .int x0_end, .int x0_syncedCount, .int x0_syncedEnd])), (h0_leaves, .inl (cA, 73, .inl g0_leaves))]) hS => ?_)
        cases hf
        exact hw_ri hx hb hr hlk (hP.sub [0, 1] rfl) (hD.sub [0, 1] (by decide) rfl) hS dX4_hash_14
set_option maxHeartbeats 4000000 in
set_option maxRecDepth 100000 in
theorem cTr_headOf (l : Launch) (D : va_G) (cA cZ : ClassId) (h0 : Nat) (h0_cells : Nat) (h0_starts : Nat) (h0_leaves : Nat) (x0_count : Int32) (x0_end : Int32) (x0_syncedCount : Int32) (x0_syncedEnd : Int32) (g0_leaves : Nat → Int32) (k1 : Int32) (rr : Int32) (hf : fTr_headOf x0_count g0_leaves k1 = some rr) : hw_C l yX4_headOf wX4_headOf { frames := 15, cells := 0, slots := 0, locals := 356 } D vwCl cA cZ [.ref h0, .int k1] [(h0, .inr (2, [.ref h0_cells, .ref h0_starts, .ref h0_leaves, .int x0_count, .int x0_end, .int x0_syncedCount, .int x0_syncedEnd])), (h0_leaves, .inl (cA, 73, .inl g0_leaves))] [(h0, .inr (2, [.ref h0_cells, .ref h0_starts, .ref h0_leaves, .int x0_count, .int x0_end, .int x0_syncedCount, .int x0_syncedEnd])), (h0_leaves, .inl (cA, 73, .inl g0_leaves))] (some (.int rr)) := by
  refine hw_of (cc := cX4_headOf) (maxL := 2) (ret := (some .int)) (by decide) rfl (Nat.le_of_ble_eq_true rfl) ?_
  intro p e s m args below meth c A ls hx hb hr hlk hml hown hts hA hK hE hP hD hS hl
  have hown : s.vm.findClass RX4 = some m.cls := hown
  have hl : lv_has ls 2 [(0, .ref h0), (1, .int k1)] := hl
  rw [fTr_headOf] at hf
  refine lv_iload_n hx hb dX4_headOf_0 rfl (lv_at hl 1 rfl) ?_
  refine hi_if_ne (tgt := 12) hx hb dX4_headOf_1 rfl hf (fun hc hf => ?_) (fun hc hf => ?_)
  · refine lv_aload_n hx hb dX4_headOf_12 rfl (lv_at hl 0 rfl) ?_
    refine lv_iconst (v := (0 : Int32)) hx hb dX4_headOf_13 (by decide) ?_
    refine lv_iload_n hx hb dX4_headOf_14 rfl (lv_at hl 1 rfl) ?_
    refine lv_bipush (v := (10 : Int32)) hx hb dX4_headOf_15 (by decide) ?_
    obtain ⟨v1, e2, hf⟩ := hw_bind hf
    refine hw_goS (wr := []) (rest := []) ⟨hx, hb, hml, hown, hts⟩ (cTr_hash l D cA cZ 12 h0 h0_cells h0_starts h0_leaves x0_count x0_end x0_syncedCount x0_syncedEnd g0_leaves (0 : Int32) k1 (10 : Int32) v1 e2) (cwS 4 hts ks_X4_13 rfl rfl rfl (by decide +kernel) ⟨Nat.le_of_ble_eq_true rfl, Nat.le_of_ble_eq_true rfl⟩) [0, 1] [] rfl rfl (by decide) (by decide) (by decide) hK hE hP hD hS hA hl.1 rfl rfl (Nat.le_of_ble_eq_true rfl) dX4_headOf_17 ⟨Nat.zero_le _, Nat.zero_le _⟩ (fun H locs (hP : va_P D vwCl [(h0, .inr (2, [.ref h0_cells, .ref h0_starts, .ref h0_leaves, .int x0_count, .int x0_end, .int x0_syncedCount, .int x0_syncedEnd])), (h0_leaves, .inl (cA, 73, .inl g0_leaves))] H) (hD : va_D A [(h0, .inr (2, [.ref h0_cells, .ref h0_starts, .ref h0_leaves, .int x0_count, .int x0_end, .int x0_syncedCount, .int x0_syncedEnd])), (h0_leaves, .inl (cA, 73, .inl g0_leaves))]) hS => ?_)
    cases hf
    exact hw_ri hx hb hr hlk (hP.sub [0, 1] rfl) (hD.sub [0, 1] (by decide) rfl) hS dX4_headOf_20
  · refine lv_iconst (v := (2 : Int32)) hx hb dX4_headOf_4 (by decide) ?_
    refine lv_iconst (v := (0 : Int32)) hx hb dX4_headOf_5 (by decide) ?_
    obtain ⟨v3, e4, hf⟩ := hw_bind hf
    refine hw_goSN (wr := [(h0, .inr (2, [.ref h0_cells, .ref h0_starts, .ref h0_leaves, .int x0_count, .int x0_end, .int x0_syncedCount, .int x0_syncedEnd])), (h0_leaves, .inl (cA, 73, .inl g0_leaves))]) (rest := []) ⟨hx, hb, hml, hown, hts⟩ (cSl_mix l D cA cZ (2 : Int32) (0 : Int32) v3 e4) ⟨va_cnB 2 hts ks_X4_9 rfl rfl rfl (ne_6 hE) (hts _ mw_49) (by decide +kernel) ⟨Nat.le_of_ble_eq_true rfl, Nat.le_of_ble_eq_true rfl⟩, hts _ mw_116, trivial⟩ [] [0, 1] rfl rfl (by decide) (by decide) (by decide) hK hE hP hD hS hA hl.1 rfl rfl (Nat.le_of_ble_eq_true rfl) dX4_headOf_6 ⟨Nat.zero_le _, Nat.zero_le _⟩ (fun H locs (hP : va_P D vwCl [(h0, .inr (2, [.ref h0_cells, .ref h0_starts, .ref h0_leaves, .int x0_count, .int x0_end, .int x0_syncedCount, .int x0_syncedEnd])), (h0_leaves, .inl (cA, 73, .inl g0_leaves))] H) (hD : va_D A [(h0, .inr (2, [.ref h0_cells, .ref h0_starts, .ref h0_leaves, .int x0_count, .int x0_end, .int x0_syncedCount, .int x0_syncedEnd])), (h0_leaves, .inl (cA, 73, .inl g0_leaves))]) hS => ?_)
    refine lv_goto (tgt := 20) hx hb dX4_headOf_9 rfl ?_
    cases hf
    exact hw_ri hx hb hr hlk (hP.sub [0, 1] rfl) (hD.sub [0, 1] (by decide) rfl) hS dX4_headOf_20
set_option maxHeartbeats 4000000 in
set_option maxRecDepth 100000 in
theorem cTr_inclusion (l : Launch) (D : va_G) (cA cZ : ClassId) : ∀ (d : Nat) (h0 : Nat) (h1 : Nat) (h0_cells : Nat) (h0_starts : Nat) (h0_leaves : Nat) (h1_ints : Nat) (x0_count : Int32) (x0_end : Int32) (x0_syncedCount : Int32) (x0_syncedEnd : Int32) (g0_leaves : Nat → Int32) (x1_count : Int32) (g1_ints : Nat → Int32) (k2 : Int32) (k3 : Int32) (k4 : Int32) (k5 : Int32) (ox1_count : Int32) (og1_ints : Nat → Int32) (hf : fTr_inclusion x0_count g0_leaves d k2 k3 k4 k5 x1_count g1_ints = some (ox1_count, og1_ints)), hw_C l yX4_inclusion wX4_inclusion { frames := 15 + d, cells := 0, slots := 0, locals := 356 + d * 26 } D vwCl cA cZ [.ref h0, .ref h1, .int k2, .int k3, .int k4, .int k5] [(h0, .inr (2, [.ref h0_cells, .ref h0_starts, .ref h0_leaves, .int x0_count, .int x0_end, .int x0_syncedCount, .int x0_syncedEnd])), (h0_leaves, .inl (cA, 73, .inl g0_leaves)), (h1, .inr (3, [.ref h1_ints, .int x1_count])), (h1_ints, .inl (cA, 16, .inl g1_ints))] [(h0, .inr (2, [.ref h0_cells, .ref h0_starts, .ref h0_leaves, .int x0_count, .int x0_end, .int x0_syncedCount, .int x0_syncedEnd])), (h0_leaves, .inl (cA, 73, .inl g0_leaves)), (h1, .inr (3, [.ref h1_ints, .int ox1_count])), (h1_ints, .inl (cA, 16, .inl og1_ints))] none := by
  intro d
  induction d with
  | zero => intro h0 h1 h0_cells h0_starts h0_leaves h1_ints x0_count x0_end x0_syncedCount x0_syncedEnd g0_leaves x1_count g1_ints k2 k3 k4 k5 ox1_count og1_ints hf; simp only [fTr_inclusion] at hf; cases hf
  | succ d ih =>
    intro h0 h1 h0_cells h0_starts h0_leaves h1_ints x0_count x0_end x0_syncedCount x0_syncedEnd g0_leaves x1_count g1_ints k2 k3 k4 k5 ox1_count og1_ints hf
    refine hw_of (cc := cX4_inclusion) (maxL := 7) (ret := none) (by decide) rfl (Nat.le_of_ble_eq_true rfl) ?_
    intro p e s m args below meth c A ls hx hb hr hlk hml hown hts hA hK hE hP hD hS hl
    have hown : s.vm.findClass RX4 = some m.cls := hown
    have hl : lv_has ls 7 [(0, .ref h0), (1, .ref h1), (2, .int k2), (3, .int k3), (4, .int k4), (5, .int k5)] := hl
    rw [fTr_inclusion] at hf
    refine lv_iload hx hb dX4_inclusion_0 (lv_at hl 4 rfl) ?_
    refine lv_iconst (v := (1 : Int32)) hx hb dX4_inclusion_2 (by decide) ?_
    refine hi_icmp_le (tgt := 11) hx hb dX4_inclusion_3 rfl hf (fun hc hf => ?_) (fun hc hf => ?_)
    · cases hf
      exact hw_rv hx hb hr hlk (hP.sub [0, 1, 2, 3] rfl) (hD.sub [0, 1, 2, 3] (by decide) rfl) hS dX4_inclusion_11
    · refine lv_iload hx hb dX4_inclusion_6 (lv_at hl 5 rfl) ?_
      refine hi_if_gt (tgt := 12) hx hb dX4_inclusion_8 rfl hf (fun hc hf => ?_) (fun hc hf => ?_)
      · refine lv_iload hx hb dX4_inclusion_12 (lv_at hl 4 rfl) ?_
        obtain ⟨v1, e2, hf⟩ := hw_bind hf
        refine hw_goSN (wr := [(h0, .inr (2, [.ref h0_cells, .ref h0_starts, .ref h0_leaves, .int x0_count, .int x0_end, .int x0_syncedCount, .int x0_syncedEnd])), (h0_leaves, .inl (cA, 73, .inl g0_leaves)), (h1, .inr (3, [.ref h1_ints, .int x1_count])), (h1_ints, .inl (cA, 16, .inl g1_ints))]) (rest := []) ⟨hx, hb, hml, hown, hts⟩ (cSl_split l D cA cZ k4 v1 e2) ⟨va_cnB 1 hts ks_X4_33 rfl rfl rfl (ne_4 hE) (hts _ mw_49) (by decide +kernel) ⟨by dsimp only; omega, by dsimp only; omega⟩, hts _ mw_253, trivial⟩ [] [0, 1, 2, 3] rfl rfl (by decide) (by decide) (by decide) hK hE hP hD hS hA hl.1 rfl rfl (Nat.le_of_ble_eq_true rfl) dX4_inclusion_14 ⟨Nat.zero_le _, Nat.zero_le _⟩ (fun H locs (hP : va_P D vwCl [(h0, .inr (2, [.ref h0_cells, .ref h0_starts, .ref h0_leaves, .int x0_count, .int x0_end, .int x0_syncedCount, .int x0_syncedEnd])), (h0_leaves, .inl (cA, 73, .inl g0_leaves)), (h1, .inr (3, [.ref h1_ints, .int x1_count])), (h1_ints, .inl (cA, 16, .inl g1_ints))] H) (hD : va_D A [(h0, .inr (2, [.ref h0_cells, .ref h0_starts, .ref h0_leaves, .int x0_count, .int x0_end, .int x0_syncedCount, .int x0_syncedEnd])), (h0_leaves, .inl (cA, 73, .inl g0_leaves)), (h1, .inr (3, [.ref h1_ints, .int x1_count])), (h1_ints, .inl (cA, 16, .inl g1_ints))]) hS => ?_)
        refine lv_istore (lv' := [(6, .int v1), (0, .ref h0), (1, .ref h1), (2, .int k2), (3, .int k3), (4, .int k4), (5, .int k5)]) hx hb dX4_inclusion_17 hl (by decide) rfl (fun ls hl => ?_)
        refine lv_iload_n hx hb dX4_inclusion_19 rfl (lv_at hl 3 rfl) ?_
        refine lv_iload hx hb dX4_inclusion_20 (lv_at hl 0 rfl) ?_
        refine hi_icmp_ge (tgt := 63) hx hb dX4_inclusion_22 rfl hf (fun hc hf => ?_) (fun hc hf => ?_)
        · refine lv_aload_n hx hb dX4_inclusion_63 rfl (lv_at hl 1 rfl) ?_
          refine lv_aload_n hx hb dX4_inclusion_64 rfl (lv_at hl 2 rfl) ?_
          refine lv_iload_n hx hb dX4_inclusion_65 rfl (lv_at hl 3 rfl) ?_
          refine lv_iload hx hb dX4_inclusion_66 (lv_at hl 0 rfl) ?_
          refine lv_isub hx hb dX4_inclusion_68 ?_
          refine lv_iload_n hx hb dX4_inclusion_69 rfl (lv_at hl 4 rfl) ?_
          refine lv_iload hx hb dX4_inclusion_70 (lv_at hl 0 rfl) ?_
          refine lv_iadd hx hb dX4_inclusion_72 ?_
          refine lv_iload hx hb dX4_inclusion_73 (lv_at hl 5 rfl) ?_
          refine lv_iload hx hb dX4_inclusion_75 (lv_at hl 0 rfl) ?_
          refine lv_isub hx hb dX4_inclusion_77 ?_
          refine lv_iload hx hb dX4_inclusion_78 (lv_at hl 6 rfl) ?_
          refine lv_iconst (v := (1 : Int32)) hx hb dX4_inclusion_80 (by decide) ?_
          refine lv_isub hx hb dX4_inclusion_81 ?_
          obtain ⟨⟨u3, u4⟩, e5, hf⟩ := hw_bind hf
          refine hw_goS (wr := []) (rest := []) ⟨hx, hb, hml, hown, hts⟩ (ih h0 h1 h0_cells h0_starts h0_leaves h1_ints x0_count x0_end x0_syncedCount x0_syncedEnd g0_leaves x1_count g1_ints (k2 - v1) (k3 + v1) (k4 - v1) (k5 - (1 : Int32)) u3 u4 e5) (cwS 6 hts ks_X4_19 rfl rfl rfl (by decide +kernel) ⟨by dsimp only; omega, by dsimp only; omega⟩) [0, 1, 2, 3] [] rfl rfl (by decide) (by decide) (by decide) hK hE hP hD hS hA hl.1 rfl rfl (Nat.le_of_ble_eq_true rfl) dX4_inclusion_82 ⟨Nat.zero_le _, Nat.zero_le _⟩ (fun H locs (hP : va_P D vwCl [(h0, .inr (2, [.ref h0_cells, .ref h0_starts, .ref h0_leaves, .int x0_count, .int x0_end, .int x0_syncedCount, .int x0_syncedEnd])), (h0_leaves, .inl (cA, 73, .inl g0_leaves)), (h1, .inr (3, [.ref h1_ints, .int u3])), (h1_ints, .inl (cA, 16, .inl u4))] H) (hD : va_D A [(h0, .inr (2, [.ref h0_cells, .ref h0_starts, .ref h0_leaves, .int x0_count, .int x0_end, .int x0_syncedCount, .int x0_syncedEnd])), (h0_leaves, .inl (cA, 73, .inl g0_leaves)), (h1, .inr (3, [.ref h1_ints, .int u3])), (h1_ints, .inl (cA, 16, .inl u4))]) hS => ?_)
          refine lv_aload_n hx hb dX4_inclusion_85 rfl (lv_at hl 2 rfl) ?_
          refine lv_aload_n hx hb dX4_inclusion_86 rfl (lv_at hl 1 rfl) ?_
          refine lv_iload_n hx hb dX4_inclusion_87 rfl (lv_at hl 4 rfl) ?_
          refine lv_iload hx hb dX4_inclusion_88 (lv_at hl 0 rfl) ?_
          refine lv_iload hx hb dX4_inclusion_90 (lv_at hl 6 rfl) ?_
          refine lv_iconst (v := (1 : Int32)) hx hb dX4_inclusion_92 (by decide) ?_
          refine lv_isub hx hb dX4_inclusion_93 ?_
          obtain ⟨v6, e7, hf⟩ := hw_bind hf
          refine hw_goS (wr := [(h1, .inr (3, [.ref h1_ints, .int u3])), (h1_ints, .inl (cA, 16, .inl u4))]) (rest := [.ref h1]) ⟨hx, hb, hml, hown, hts⟩ (cTr_hash l D cA cZ 12 h0 h0_cells h0_starts h0_leaves x0_count x0_end x0_syncedCount x0_syncedEnd g0_leaves k3 v1 (k5 - (1 : Int32)) v6 e7) (cwS 4 hts ks_X4_13 rfl rfl rfl (by decide +kernel) ⟨by dsimp only; omega, by dsimp only; omega⟩) [0, 1] [2, 3] rfl rfl (by decide) (by decide) (by decide) hK hE hP hD hS hA hl.1 rfl rfl (Nat.le_of_ble_eq_true rfl) dX4_inclusion_94 ⟨Nat.zero_le _, Nat.zero_le _⟩ (fun H locs (hP : va_P D vwCl [(h1, .inr (3, [.ref h1_ints, .int u3])), (h1_ints, .inl (cA, 16, .inl u4)), (h0, .inr (2, [.ref h0_cells, .ref h0_starts, .ref h0_leaves, .int x0_count, .int x0_end, .int x0_syncedCount, .int x0_syncedEnd])), (h0_leaves, .inl (cA, 73, .inl g0_leaves))] H) (hD : va_D A [(h1, .inr (3, [.ref h1_ints, .int u3])), (h1_ints, .inl (cA, 16, .inl u4)), (h0, .inr (2, [.ref h0_cells, .ref h0_starts, .ref h0_leaves, .int x0_count, .int x0_end, .int x0_syncedCount, .int x0_syncedEnd])), (h0_leaves, .inl (cA, 73, .inl g0_leaves))]) hS => ?_)
          obtain ⟨⟨v8, u9, u10⟩, e11, hf⟩ := hw_bind hf
          refine hw_goV (wr := [(h0, .inr (2, [.ref h0_cells, .ref h0_starts, .ref h0_leaves, .int x0_count, .int x0_end, .int x0_syncedCount, .int x0_syncedEnd])), (h0_leaves, .inl (cA, 73, .inl g0_leaves))]) (rest := []) ⟨hx, hb, hml, hown, hts⟩ (cPd_add l D cA cZ h1 h1_ints u3 u4 v6 v8 u9 u10 e11) (cwV 1 hts ks_X4_39 rfl rfl rfl (by decide +kernel) ⟨by dsimp only; omega, by dsimp only; omega⟩) 0 rfl rfl [0, 1] [2, 3] rfl rfl (by decide) (by decide) (by decide) hK hE hP hD hS hA hl.1 rfl rfl (Nat.le_of_ble_eq_true rfl) dX4_inclusion_97 ⟨Nat.zero_le _, Nat.zero_le _⟩ (fun H locs (hP : va_P D vwCl [(h0, .inr (2, [.ref h0_cells, .ref h0_starts, .ref h0_leaves, .int x0_count, .int x0_end, .int x0_syncedCount, .int x0_syncedEnd])), (h0_leaves, .inl (cA, 73, .inl g0_leaves)), (h1, .inr (3, [.ref h1_ints, .int u9])), (h1_ints, .inl (cA, 16, .inl u10))] H) (hD : va_D A [(h0, .inr (2, [.ref h0_cells, .ref h0_starts, .ref h0_leaves, .int x0_count, .int x0_end, .int x0_syncedCount, .int x0_syncedEnd])), (h0_leaves, .inl (cA, 73, .inl g0_leaves)), (h1, .inr (3, [.ref h1_ints, .int u9])), (h1_ints, .inl (cA, 16, .inl u10))]) hS => ?_)
          refine lv_pop hx hb dX4_inclusion_100 rfl ?_
          cases hf
          exact hw_rv hx hb hr hlk (hP.sub [0, 1, 2, 3] rfl) (hD.sub [0, 1, 2, 3] (by decide) rfl) hS dX4_inclusion_101
        · refine lv_aload_n hx hb dX4_inclusion_25 rfl (lv_at hl 1 rfl) ?_
          refine lv_aload_n hx hb dX4_inclusion_26 rfl (lv_at hl 2 rfl) ?_
          refine lv_iload_n hx hb dX4_inclusion_27 rfl (lv_at hl 3 rfl) ?_
          refine lv_iload_n hx hb dX4_inclusion_28 rfl (lv_at hl 4 rfl) ?_
          refine lv_iload hx hb dX4_inclusion_29 (lv_at hl 0 rfl) ?_
          refine lv_iload hx hb dX4_inclusion_31 (lv_at hl 6 rfl) ?_
          refine lv_iconst (v := (1 : Int32)) hx hb dX4_inclusion_33 (by decide) ?_
          refine lv_isub hx hb dX4_inclusion_34 ?_
          obtain ⟨⟨u12, u13⟩, e14, hf⟩ := hw_bind hf
          refine hw_goS (wr := []) (rest := []) ⟨hx, hb, hml, hown, hts⟩ (ih h0 h1 h0_cells h0_starts h0_leaves h1_ints x0_count x0_end x0_syncedCount x0_syncedEnd g0_leaves x1_count g1_ints k2 k3 v1 (k5 - (1 : Int32)) u12 u13 e14) (cwS 6 hts ks_X4_19 rfl rfl rfl (by decide +kernel) ⟨by dsimp only; omega, by dsimp only; omega⟩) [0, 1, 2, 3] [] rfl rfl (by decide) (by decide) (by decide) hK hE hP hD hS hA hl.1 rfl rfl (Nat.le_of_ble_eq_true rfl) dX4_inclusion_35 ⟨Nat.zero_le _, Nat.zero_le _⟩ (fun H locs (hP : va_P D vwCl [(h0, .inr (2, [.ref h0_cells, .ref h0_starts, .ref h0_leaves, .int x0_count, .int x0_end, .int x0_syncedCount, .int x0_syncedEnd])), (h0_leaves, .inl (cA, 73, .inl g0_leaves)), (h1, .inr (3, [.ref h1_ints, .int u12])), (h1_ints, .inl (cA, 16, .inl u13))] H) (hD : va_D A [(h0, .inr (2, [.ref h0_cells, .ref h0_starts, .ref h0_leaves, .int x0_count, .int x0_end, .int x0_syncedCount, .int x0_syncedEnd])), (h0_leaves, .inl (cA, 73, .inl g0_leaves)), (h1, .inr (3, [.ref h1_ints, .int u12])), (h1_ints, .inl (cA, 16, .inl u13))]) hS => ?_)
          refine lv_aload_n hx hb dX4_inclusion_38 rfl (lv_at hl 2 rfl) ?_
          refine lv_aload_n hx hb dX4_inclusion_39 rfl (lv_at hl 1 rfl) ?_
          refine lv_iload_n hx hb dX4_inclusion_40 rfl (lv_at hl 4 rfl) ?_
          refine lv_iload hx hb dX4_inclusion_41 (lv_at hl 0 rfl) ?_
          refine lv_iadd hx hb dX4_inclusion_43 ?_
          refine lv_iload hx hb dX4_inclusion_44 (lv_at hl 5 rfl) ?_
          refine lv_iload hx hb dX4_inclusion_46 (lv_at hl 0 rfl) ?_
          refine lv_isub hx hb dX4_inclusion_48 ?_
          refine lv_iload hx hb dX4_inclusion_49 (lv_at hl 6 rfl) ?_
          refine lv_iconst (v := (1 : Int32)) hx hb dX4_inclusion_51 (by decide) ?_
          refine lv_isub hx hb dX4_inclusion_52 ?_
          obtain ⟨v15, e16, hf⟩ := hw_bind hf
          refine hw_goS (wr := [(h1, .inr (3, [.ref h1_ints, .int u12])), (h1_ints, .inl (cA, 16, .inl u13))]) (rest := [.ref h1]) ⟨hx, hb, hml, hown, hts⟩ (cTr_hash l D cA cZ 12 h0 h0_cells h0_starts h0_leaves x0_count x0_end x0_syncedCount x0_syncedEnd g0_leaves (k3 + v1) (k4 - v1) (k5 - (1 : Int32)) v15 e16) (cwS 4 hts ks_X4_13 rfl rfl rfl (by decide +kernel) ⟨by dsimp only; omega, by dsimp only; omega⟩) [0, 1] [2, 3] rfl rfl (by decide) (by decide) (by decide) hK hE hP hD hS hA hl.1 rfl rfl (Nat.le_of_ble_eq_true rfl) dX4_inclusion_53 ⟨Nat.zero_le _, Nat.zero_le _⟩ (fun H locs (hP : va_P D vwCl [(h1, .inr (3, [.ref h1_ints, .int u12])), (h1_ints, .inl (cA, 16, .inl u13)), (h0, .inr (2, [.ref h0_cells, .ref h0_starts, .ref h0_leaves, .int x0_count, .int x0_end, .int x0_syncedCount, .int x0_syncedEnd])), (h0_leaves, .inl (cA, 73, .inl g0_leaves))] H) (hD : va_D A [(h1, .inr (3, [.ref h1_ints, .int u12])), (h1_ints, .inl (cA, 16, .inl u13)), (h0, .inr (2, [.ref h0_cells, .ref h0_starts, .ref h0_leaves, .int x0_count, .int x0_end, .int x0_syncedCount, .int x0_syncedEnd])), (h0_leaves, .inl (cA, 73, .inl g0_leaves))]) hS => ?_)
          obtain ⟨⟨v17, u18, u19⟩, e20, hf⟩ := hw_bind hf
          refine hw_goV (wr := [(h0, .inr (2, [.ref h0_cells, .ref h0_starts, .ref h0_leaves, .int x0_count, .int x0_end, .int x0_syncedCount, .int x0_syncedEnd])), (h0_leaves, .inl (cA, 73, .inl g0_leaves))]) (rest := []) ⟨hx, hb, hml, hown, hts⟩ (cPd_add l D cA cZ h1 h1_ints u12 u13 v15 v17 u18 u19 e20) (cwV 1 hts ks_X4_39 rfl rfl rfl (by decide +kernel) ⟨by dsimp only; omega, by dsimp only; omega⟩) 0 rfl rfl [0, 1] [2, 3] rfl rfl (by decide) (by decide) (by decide) hK hE hP hD hS hA hl.1 rfl rfl (Nat.le_of_ble_eq_true rfl) dX4_inclusion_56 ⟨Nat.zero_le _, Nat.zero_le _⟩ (fun H locs (hP : va_P D vwCl [(h0, .inr (2, [.ref h0_cells, .ref h0_starts, .ref h0_leaves, .int x0_count, .int x0_end, .int x0_syncedCount, .int x0_syncedEnd])), (h0_leaves, .inl (cA, 73, .inl g0_leaves)), (h1, .inr (3, [.ref h1_ints, .int u18])), (h1_ints, .inl (cA, 16, .inl u19))] H) (hD : va_D A [(h0, .inr (2, [.ref h0_cells, .ref h0_starts, .ref h0_leaves, .int x0_count, .int x0_end, .int x0_syncedCount, .int x0_syncedEnd])), (h0_leaves, .inl (cA, 73, .inl g0_leaves)), (h1, .inr (3, [.ref h1_ints, .int u18])), (h1_ints, .inl (cA, 16, .inl u19))]) hS => ?_)
          refine lv_pop hx hb dX4_inclusion_59 rfl ?_
          refine lv_goto (tgt := 101) hx hb dX4_inclusion_60 rfl ?_
          cases hf
          exact hw_rv hx hb hr hlk (hP.sub [0, 1, 2, 3] rfl) (hD.sub [0, 1, 2, 3] (by decide) rfl) hS dX4_inclusion_101
      · cases hf
        exact hw_rv hx hb hr hlk (hP.sub [0, 1, 2, 3] rfl) (hD.sub [0, 1, 2, 3] (by decide) rfl) hS dX4_inclusion_11
set_option maxHeartbeats 4000000 in
set_option maxRecDepth 100000 in
theorem cTr_addInclusion (l : Launch) (D : va_G) (cA cZ : ClassId) (h0 : Nat) (h1 : Nat) (h0_cells : Nat) (h0_starts : Nat) (h0_leaves : Nat) (h1_ints : Nat) (x0_count : Int32) (x0_end : Int32) (x0_syncedCount : Int32) (x0_syncedEnd : Int32) (g0_leaves : Nat → Int32) (x1_count : Int32) (g1_ints : Nat → Int32) (k2 : Int32) (k3 : Int32) (ox1_count : Int32) (og1_ints : Nat → Int32) (hf : fTr_addInclusion x0_count g0_leaves x1_count g1_ints k2 k3 = some (ox1_count, og1_ints)) : hw_C l yX4_addInclusion wX4_addInclusion { frames := 28, cells := 0, slots := 0, locals := 694 } D vwCl cA cZ [.ref h0, .ref h1, .int k2, .int k3] [(h0, .inr (2, [.ref h0_cells, .ref h0_starts, .ref h0_leaves, .int x0_count, .int x0_end, .int x0_syncedCount, .int x0_syncedEnd])), (h0_leaves, .inl (cA, 73, .inl g0_leaves)), (h1, .inr (3, [.ref h1_ints, .int x1_count])), (h1_ints, .inl (cA, 16, .inl g1_ints))] [(h0, .inr (2, [.ref h0_cells, .ref h0_starts, .ref h0_leaves, .int x0_count, .int x0_end, .int x0_syncedCount, .int x0_syncedEnd])), (h0_leaves, .inl (cA, 73, .inl g0_leaves)), (h1, .inr (3, [.ref h1_ints, .int ox1_count])), (h1_ints, .inl (cA, 16, .inl og1_ints))] none := by
  refine hw_of (cc := cX4_addInclusion) (maxL := 4) (ret := none) (by decide) rfl (Nat.le_of_ble_eq_true rfl) ?_
  intro p e s m args below meth c A ls hx hb hr hlk hml hown hts hA hK hE hP hD hS hl
  have hown : s.vm.findClass RX4 = some m.cls := hown
  have hl : lv_has ls 4 [(0, .ref h0), (1, .ref h1), (2, .int k2), (3, .int k3)] := hl
  rw [fTr_addInclusion] at hf
  refine lv_aload_n hx hb dX4_addInclusion_0 rfl (lv_at hl 0 rfl) ?_
  refine lv_aload_n hx hb dX4_addInclusion_1 rfl (lv_at hl 1 rfl) ?_
  refine lv_iload_n hx hb dX4_addInclusion_2 rfl (lv_at hl 2 rfl) ?_
  refine lv_iconst (v := (0 : Int32)) hx hb dX4_addInclusion_3 (by decide) ?_
  refine lv_iload_n hx hb dX4_addInclusion_4 rfl (lv_at hl 3 rfl) ?_
  refine lv_bipush (v := (10 : Int32)) hx hb dX4_addInclusion_5 (by decide) ?_
  obtain ⟨⟨u1, u2⟩, e3, hf⟩ := hw_bind hf
  refine hw_goS (wr := []) (rest := []) ⟨hx, hb, hml, hown, hts⟩ (cTr_inclusion l D cA cZ 12 h0 h1 h0_cells h0_starts h0_leaves h1_ints x0_count x0_end x0_syncedCount x0_syncedEnd g0_leaves x1_count g1_ints k2 (0 : Int32) k3 (10 : Int32) u1 u2 e3) (cwS 6 hts ks_X4_19 rfl rfl rfl (by decide +kernel) ⟨Nat.le_of_ble_eq_true rfl, Nat.le_of_ble_eq_true rfl⟩) [0, 1, 2, 3] [] rfl rfl (by decide) (by decide) (by decide) hK hE hP hD hS hA hl.1 rfl rfl (Nat.le_of_ble_eq_true rfl) dX4_addInclusion_7 ⟨Nat.zero_le _, Nat.zero_le _⟩ (fun H locs (hP : va_P D vwCl [(h0, .inr (2, [.ref h0_cells, .ref h0_starts, .ref h0_leaves, .int x0_count, .int x0_end, .int x0_syncedCount, .int x0_syncedEnd])), (h0_leaves, .inl (cA, 73, .inl g0_leaves)), (h1, .inr (3, [.ref h1_ints, .int u1])), (h1_ints, .inl (cA, 16, .inl u2))] H) (hD : va_D A [(h0, .inr (2, [.ref h0_cells, .ref h0_starts, .ref h0_leaves, .int x0_count, .int x0_end, .int x0_syncedCount, .int x0_syncedEnd])), (h0_leaves, .inl (cA, 73, .inl g0_leaves)), (h1, .inr (3, [.ref h1_ints, .int u1])), (h1_ints, .inl (cA, 16, .inl u2))]) hS => ?_)
  cases hf
  exact hw_rv hx hb hr hlk (hP.sub [0, 1, 2, 3] rfl) (hD.sub [0, 1, 2, 3] (by decide) rfl) hS dX4_addInclusion_10
set_option maxHeartbeats 4000000 in
set_option maxRecDepth 100000 in
theorem cTr_consistency (l : Launch) (D : va_G) (cA cZ : ClassId) : ∀ (d : Nat) (h0 : Nat) (h1 : Nat) (h0_cells : Nat) (h0_starts : Nat) (h0_leaves : Nat) (h1_ints : Nat) (x0_count : Int32) (x0_end : Int32) (x0_syncedCount : Int32) (x0_syncedEnd : Int32) (g0_leaves : Nat → Int32) (x1_count : Int32) (g1_ints : Nat → Int32) (k2 : Int32) (k3 : Int32) (k4 : Int32) (k5 : Int32) (k6 : Int32) (ox1_count : Int32) (og1_ints : Nat → Int32) (hf : fTr_consistency x0_count g0_leaves d k2 k3 k4 k5 k6 x1_count g1_ints = some (ox1_count, og1_ints)), hw_C l yX4_consistency wX4_consistency { frames := 15 + d, cells := 0, slots := 0, locals := 356 + d * 27 } D vwCl cA cZ [.ref h0, .ref h1, .int k2, .int k3, .int k4, .int k5, .int k6] [(h0, .inr (2, [.ref h0_cells, .ref h0_starts, .ref h0_leaves, .int x0_count, .int x0_end, .int x0_syncedCount, .int x0_syncedEnd])), (h0_leaves, .inl (cA, 73, .inl g0_leaves)), (h1, .inr (3, [.ref h1_ints, .int x1_count])), (h1_ints, .inl (cA, 16, .inl g1_ints))] [(h0, .inr (2, [.ref h0_cells, .ref h0_starts, .ref h0_leaves, .int x0_count, .int x0_end, .int x0_syncedCount, .int x0_syncedEnd])), (h0_leaves, .inl (cA, 73, .inl g0_leaves)), (h1, .inr (3, [.ref h1_ints, .int ox1_count])), (h1_ints, .inl (cA, 16, .inl og1_ints))] none := by
  intro d
  induction d with
  | zero => intro h0 h1 h0_cells h0_starts h0_leaves h1_ints x0_count x0_end x0_syncedCount x0_syncedEnd g0_leaves x1_count g1_ints k2 k3 k4 k5 k6 ox1_count og1_ints hf; simp only [fTr_consistency] at hf; cases hf
  | succ d ih =>
    intro h0 h1 h0_cells h0_starts h0_leaves h1_ints x0_count x0_end x0_syncedCount x0_syncedEnd g0_leaves x1_count g1_ints k2 k3 k4 k5 k6 ox1_count og1_ints hf
    refine hw_of (cc := cX4_consistency) (maxL := 8) (ret := none) (by decide) rfl (Nat.le_of_ble_eq_true rfl) ?_
    intro p e s m args below meth c A ls hx hb hr hlk hml hown hts hA hK hE hP hD hS hl
    have hown : s.vm.findClass RX4 = some m.cls := hown
    have hl : lv_has ls 8 [(0, .ref h0), (1, .ref h1), (2, .int k2), (3, .int k3), (4, .int k4), (5, .int k5), (6, .int k6)] := hl
    rw [fTr_consistency] at hf
    refine lv_iload_n hx hb dX4_consistency_0 rfl (lv_at hl 2 rfl) ?_
    refine lv_iload hx hb dX4_consistency_1 (lv_at hl 4 rfl) ?_
    refine hi_icmp_eq (tgt := 11) hx hb dX4_consistency_3 rfl hf (fun hc hf => ?_) (fun hc hf => ?_)
    · refine lv_iload hx hb dX4_consistency_11 (lv_at hl 5 rfl) ?_
      refine hi_if_ne (tgt := 30) hx hb dX4_consistency_13 rfl hf (fun hc hf => ?_) (fun hc hf => ?_)
      · cases hf
        exact hw_rv hx hb hr hlk (hP.sub [0, 1, 2, 3] rfl) (hD.sub [0, 1, 2, 3] (by decide) rfl) hS dX4_consistency_30
      · refine lv_aload_n hx hb dX4_consistency_16 rfl (lv_at hl 1 rfl) ?_
        refine lv_aload_n hx hb dX4_consistency_17 rfl (lv_at hl 0 rfl) ?_
        refine lv_iload_n hx hb dX4_consistency_18 rfl (lv_at hl 3 rfl) ?_
        refine lv_iload hx hb dX4_consistency_19 (lv_at hl 4 rfl) ?_
        refine lv_iload hx hb dX4_consistency_21 (lv_at hl 6 rfl) ?_
        obtain ⟨v1, e2, hf⟩ := hw_bind hf
        refine hw_goS (wr := [(h1, .inr (3, [.ref h1_ints, .int x1_count])), (h1_ints, .inl (cA, 16, .inl g1_ints))]) (rest := [.ref h1]) ⟨hx, hb, hml, hown, hts⟩ (cTr_hash l D cA cZ 12 h0 h0_cells h0_starts h0_leaves x0_count x0_end x0_syncedCount x0_syncedEnd g0_leaves k3 k4 k6 v1 e2) (cwS 4 hts ks_X4_13 rfl rfl rfl (by decide +kernel) ⟨by dsimp only; omega, by dsimp only; omega⟩) [0, 1] [2, 3] rfl rfl (by decide) (by decide) (by decide) hK hE hP hD hS hA hl.1 rfl rfl (Nat.le_of_ble_eq_true rfl) dX4_consistency_23 ⟨Nat.zero_le _, Nat.zero_le _⟩ (fun H locs (hP : va_P D vwCl [(h1, .inr (3, [.ref h1_ints, .int x1_count])), (h1_ints, .inl (cA, 16, .inl g1_ints)), (h0, .inr (2, [.ref h0_cells, .ref h0_starts, .ref h0_leaves, .int x0_count, .int x0_end, .int x0_syncedCount, .int x0_syncedEnd])), (h0_leaves, .inl (cA, 73, .inl g0_leaves))] H) (hD : va_D A [(h1, .inr (3, [.ref h1_ints, .int x1_count])), (h1_ints, .inl (cA, 16, .inl g1_ints)), (h0, .inr (2, [.ref h0_cells, .ref h0_starts, .ref h0_leaves, .int x0_count, .int x0_end, .int x0_syncedCount, .int x0_syncedEnd])), (h0_leaves, .inl (cA, 73, .inl g0_leaves))]) hS => ?_)
        obtain ⟨⟨v3, u4, u5⟩, e6, hf⟩ := hw_bind hf
        refine hw_goV (wr := [(h0, .inr (2, [.ref h0_cells, .ref h0_starts, .ref h0_leaves, .int x0_count, .int x0_end, .int x0_syncedCount, .int x0_syncedEnd])), (h0_leaves, .inl (cA, 73, .inl g0_leaves))]) (rest := []) ⟨hx, hb, hml, hown, hts⟩ (cPd_add l D cA cZ h1 h1_ints x1_count g1_ints v1 v3 u4 u5 e6) (cwV 1 hts ks_X4_39 rfl rfl rfl (by decide +kernel) ⟨by dsimp only; omega, by dsimp only; omega⟩) 0 rfl rfl [0, 1] [2, 3] rfl rfl (by decide) (by decide) (by decide) hK hE hP hD hS hA hl.1 rfl rfl (Nat.le_of_ble_eq_true rfl) dX4_consistency_26 ⟨Nat.zero_le _, Nat.zero_le _⟩ (fun H locs (hP : va_P D vwCl [(h0, .inr (2, [.ref h0_cells, .ref h0_starts, .ref h0_leaves, .int x0_count, .int x0_end, .int x0_syncedCount, .int x0_syncedEnd])), (h0_leaves, .inl (cA, 73, .inl g0_leaves)), (h1, .inr (3, [.ref h1_ints, .int u4])), (h1_ints, .inl (cA, 16, .inl u5))] H) (hD : va_D A [(h0, .inr (2, [.ref h0_cells, .ref h0_starts, .ref h0_leaves, .int x0_count, .int x0_end, .int x0_syncedCount, .int x0_syncedEnd])), (h0_leaves, .inl (cA, 73, .inl g0_leaves)), (h1, .inr (3, [.ref h1_ints, .int u4])), (h1_ints, .inl (cA, 16, .inl u5))]) hS => ?_)
        refine lv_pop hx hb dX4_consistency_29 rfl ?_
        cases hf
        exact hw_rv hx hb hr hlk (hP.sub [0, 1, 2, 3] rfl) (hD.sub [0, 1, 2, 3] (by decide) rfl) hS dX4_consistency_30
    · refine lv_iload hx hb dX4_consistency_6 (lv_at hl 6 rfl) ?_
      refine hi_if_gt (tgt := 31) hx hb dX4_consistency_8 rfl hf (fun hc hf => ?_) (fun hc hf => ?_)
      · refine lv_iload hx hb dX4_consistency_31 (lv_at hl 4 rfl) ?_
        obtain ⟨v7, e8, hf⟩ := hw_bind hf
        refine hw_goSN (wr := [(h0, .inr (2, [.ref h0_cells, .ref h0_starts, .ref h0_leaves, .int x0_count, .int x0_end, .int x0_syncedCount, .int x0_syncedEnd])), (h0_leaves, .inl (cA, 73, .inl g0_leaves)), (h1, .inr (3, [.ref h1_ints, .int x1_count])), (h1_ints, .inl (cA, 16, .inl g1_ints))]) (rest := []) ⟨hx, hb, hml, hown, hts⟩ (cSl_split l D cA cZ k4 v7 e8) ⟨va_cnB 1 hts ks_X4_33 rfl rfl rfl (ne_4 hE) (hts _ mw_49) (by decide +kernel) ⟨by dsimp only; omega, by dsimp only; omega⟩, hts _ mw_253, trivial⟩ [] [0, 1, 2, 3] rfl rfl (by decide) (by decide) (by decide) hK hE hP hD hS hA hl.1 rfl rfl (Nat.le_of_ble_eq_true rfl) dX4_consistency_33 ⟨Nat.zero_le _, Nat.zero_le _⟩ (fun H locs (hP : va_P D vwCl [(h0, .inr (2, [.ref h0_cells, .ref h0_starts, .ref h0_leaves, .int x0_count, .int x0_end, .int x0_syncedCount, .int x0_syncedEnd])), (h0_leaves, .inl (cA, 73, .inl g0_leaves)), (h1, .inr (3, [.ref h1_ints, .int x1_count])), (h1_ints, .inl (cA, 16, .inl g1_ints))] H) (hD : va_D A [(h0, .inr (2, [.ref h0_cells, .ref h0_starts, .ref h0_leaves, .int x0_count, .int x0_end, .int x0_syncedCount, .int x0_syncedEnd])), (h0_leaves, .inl (cA, 73, .inl g0_leaves)), (h1, .inr (3, [.ref h1_ints, .int x1_count])), (h1_ints, .inl (cA, 16, .inl g1_ints))]) hS => ?_)
        refine lv_istore (lv' := [(7, .int v7), (0, .ref h0), (1, .ref h1), (2, .int k2), (3, .int k3), (4, .int k4), (5, .int k5), (6, .int k6)]) hx hb dX4_consistency_36 hl (by decide) rfl (fun ls hl => ?_)
        refine lv_iload_n hx hb dX4_consistency_38 rfl (lv_at hl 3 rfl) ?_
        refine lv_iload hx hb dX4_consistency_39 (lv_at hl 0 rfl) ?_
        refine hi_icmp_gt (tgt := 84) hx hb dX4_consistency_41 rfl hf (fun hc hf => ?_) (fun hc hf => ?_)
        · refine lv_aload_n hx hb dX4_consistency_84 rfl (lv_at hl 1 rfl) ?_
          refine lv_aload_n hx hb dX4_consistency_85 rfl (lv_at hl 2 rfl) ?_
          refine lv_iload_n hx hb dX4_consistency_86 rfl (lv_at hl 3 rfl) ?_
          refine lv_iload hx hb dX4_consistency_87 (lv_at hl 0 rfl) ?_
          refine lv_isub hx hb dX4_consistency_89 ?_
          refine lv_iload_n hx hb dX4_consistency_90 rfl (lv_at hl 4 rfl) ?_
          refine lv_iload hx hb dX4_consistency_91 (lv_at hl 0 rfl) ?_
          refine lv_iadd hx hb dX4_consistency_93 ?_
          refine lv_iload hx hb dX4_consistency_94 (lv_at hl 5 rfl) ?_
          refine lv_iload hx hb dX4_consistency_96 (lv_at hl 0 rfl) ?_
          refine lv_isub hx hb dX4_consistency_98 ?_
          refine lv_iconst (v := (0 : Int32)) hx hb dX4_consistency_99 (by decide) ?_
          refine lv_iload hx hb dX4_consistency_100 (lv_at hl 7 rfl) ?_
          refine lv_iconst (v := (1 : Int32)) hx hb dX4_consistency_102 (by decide) ?_
          refine lv_isub hx hb dX4_consistency_103 ?_
          obtain ⟨⟨u9, u10⟩, e11, hf⟩ := hw_bind hf
          refine hw_goS (wr := []) (rest := []) ⟨hx, hb, hml, hown, hts⟩ (ih h0 h1 h0_cells h0_starts h0_leaves h1_ints x0_count x0_end x0_syncedCount x0_syncedEnd g0_leaves x1_count g1_ints (k2 - v7) (k3 + v7) (k4 - v7) (0 : Int32) (k6 - (1 : Int32)) u9 u10 e11) (cwS 7 hts ks_X4_23 rfl rfl rfl (by decide +kernel) ⟨by dsimp only; omega, by dsimp only; omega⟩) [0, 1, 2, 3] [] rfl rfl (by decide) (by decide) (by decide) hK hE hP hD hS hA hl.1 rfl rfl (Nat.le_of_ble_eq_true rfl) dX4_consistency_104 ⟨Nat.zero_le _, Nat.zero_le _⟩ (fun H locs (hP : va_P D vwCl [(h0, .inr (2, [.ref h0_cells, .ref h0_starts, .ref h0_leaves, .int x0_count, .int x0_end, .int x0_syncedCount, .int x0_syncedEnd])), (h0_leaves, .inl (cA, 73, .inl g0_leaves)), (h1, .inr (3, [.ref h1_ints, .int u9])), (h1_ints, .inl (cA, 16, .inl u10))] H) (hD : va_D A [(h0, .inr (2, [.ref h0_cells, .ref h0_starts, .ref h0_leaves, .int x0_count, .int x0_end, .int x0_syncedCount, .int x0_syncedEnd])), (h0_leaves, .inl (cA, 73, .inl g0_leaves)), (h1, .inr (3, [.ref h1_ints, .int u9])), (h1_ints, .inl (cA, 16, .inl u10))]) hS => ?_)
          refine lv_aload_n hx hb dX4_consistency_107 rfl (lv_at hl 2 rfl) ?_
          refine lv_aload_n hx hb dX4_consistency_108 rfl (lv_at hl 1 rfl) ?_
          refine lv_iload_n hx hb dX4_consistency_109 rfl (lv_at hl 4 rfl) ?_
          refine lv_iload hx hb dX4_consistency_110 (lv_at hl 0 rfl) ?_
          refine lv_iload hx hb dX4_consistency_112 (lv_at hl 7 rfl) ?_
          refine lv_iconst (v := (1 : Int32)) hx hb dX4_consistency_114 (by decide) ?_
          refine lv_isub hx hb dX4_consistency_115 ?_
          obtain ⟨v12, e13, hf⟩ := hw_bind hf
          refine hw_goS (wr := [(h1, .inr (3, [.ref h1_ints, .int u9])), (h1_ints, .inl (cA, 16, .inl u10))]) (rest := [.ref h1]) ⟨hx, hb, hml, hown, hts⟩ (cTr_hash l D cA cZ 12 h0 h0_cells h0_starts h0_leaves x0_count x0_end x0_syncedCount x0_syncedEnd g0_leaves k3 v7 (k6 - (1 : Int32)) v12 e13) (cwS 4 hts ks_X4_13 rfl rfl rfl (by decide +kernel) ⟨by dsimp only; omega, by dsimp only; omega⟩) [0, 1] [2, 3] rfl rfl (by decide) (by decide) (by decide) hK hE hP hD hS hA hl.1 rfl rfl (Nat.le_of_ble_eq_true rfl) dX4_consistency_116 ⟨Nat.zero_le _, Nat.zero_le _⟩ (fun H locs (hP : va_P D vwCl [(h1, .inr (3, [.ref h1_ints, .int u9])), (h1_ints, .inl (cA, 16, .inl u10)), (h0, .inr (2, [.ref h0_cells, .ref h0_starts, .ref h0_leaves, .int x0_count, .int x0_end, .int x0_syncedCount, .int x0_syncedEnd])), (h0_leaves, .inl (cA, 73, .inl g0_leaves))] H) (hD : va_D A [(h1, .inr (3, [.ref h1_ints, .int u9])), (h1_ints, .inl (cA, 16, .inl u10)), (h0, .inr (2, [.ref h0_cells, .ref h0_starts, .ref h0_leaves, .int x0_count, .int x0_end, .int x0_syncedCount, .int x0_syncedEnd])), (h0_leaves, .inl (cA, 73, .inl g0_leaves))]) hS => ?_)
          obtain ⟨⟨v14, u15, u16⟩, e17, hf⟩ := hw_bind hf
          refine hw_goV (wr := [(h0, .inr (2, [.ref h0_cells, .ref h0_starts, .ref h0_leaves, .int x0_count, .int x0_end, .int x0_syncedCount, .int x0_syncedEnd])), (h0_leaves, .inl (cA, 73, .inl g0_leaves))]) (rest := []) ⟨hx, hb, hml, hown, hts⟩ (cPd_add l D cA cZ h1 h1_ints u9 u10 v12 v14 u15 u16 e17) (cwV 1 hts ks_X4_39 rfl rfl rfl (by decide +kernel) ⟨by dsimp only; omega, by dsimp only; omega⟩) 0 rfl rfl [0, 1] [2, 3] rfl rfl (by decide) (by decide) (by decide) hK hE hP hD hS hA hl.1 rfl rfl (Nat.le_of_ble_eq_true rfl) dX4_consistency_119 ⟨Nat.zero_le _, Nat.zero_le _⟩ (fun H locs (hP : va_P D vwCl [(h0, .inr (2, [.ref h0_cells, .ref h0_starts, .ref h0_leaves, .int x0_count, .int x0_end, .int x0_syncedCount, .int x0_syncedEnd])), (h0_leaves, .inl (cA, 73, .inl g0_leaves)), (h1, .inr (3, [.ref h1_ints, .int u15])), (h1_ints, .inl (cA, 16, .inl u16))] H) (hD : va_D A [(h0, .inr (2, [.ref h0_cells, .ref h0_starts, .ref h0_leaves, .int x0_count, .int x0_end, .int x0_syncedCount, .int x0_syncedEnd])), (h0_leaves, .inl (cA, 73, .inl g0_leaves)), (h1, .inr (3, [.ref h1_ints, .int u15])), (h1_ints, .inl (cA, 16, .inl u16))]) hS => ?_)
          refine lv_pop hx hb dX4_consistency_122 rfl ?_
          cases hf
          exact hw_rv hx hb hr hlk (hP.sub [0, 1, 2, 3] rfl) (hD.sub [0, 1, 2, 3] (by decide) rfl) hS dX4_consistency_123
        · refine lv_aload_n hx hb dX4_consistency_44 rfl (lv_at hl 1 rfl) ?_
          refine lv_aload_n hx hb dX4_consistency_45 rfl (lv_at hl 2 rfl) ?_
          refine lv_iload_n hx hb dX4_consistency_46 rfl (lv_at hl 3 rfl) ?_
          refine lv_iload_n hx hb dX4_consistency_47 rfl (lv_at hl 4 rfl) ?_
          refine lv_iload hx hb dX4_consistency_48 (lv_at hl 0 rfl) ?_
          refine lv_iload hx hb dX4_consistency_50 (lv_at hl 6 rfl) ?_
          refine lv_iload hx hb dX4_consistency_52 (lv_at hl 7 rfl) ?_
          refine lv_iconst (v := (1 : Int32)) hx hb dX4_consistency_54 (by decide) ?_
          refine lv_isub hx hb dX4_consistency_55 ?_
          obtain ⟨⟨u18, u19⟩, e20, hf⟩ := hw_bind hf
          refine hw_goS (wr := []) (rest := []) ⟨hx, hb, hml, hown, hts⟩ (ih h0 h1 h0_cells h0_starts h0_leaves h1_ints x0_count x0_end x0_syncedCount x0_syncedEnd g0_leaves x1_count g1_ints k2 k3 v7 k5 (k6 - (1 : Int32)) u18 u19 e20) (cwS 7 hts ks_X4_23 rfl rfl rfl (by decide +kernel) ⟨by dsimp only; omega, by dsimp only; omega⟩) [0, 1, 2, 3] [] rfl rfl (by decide) (by decide) (by decide) hK hE hP hD hS hA hl.1 rfl rfl (Nat.le_of_ble_eq_true rfl) dX4_consistency_56 ⟨Nat.zero_le _, Nat.zero_le _⟩ (fun H locs (hP : va_P D vwCl [(h0, .inr (2, [.ref h0_cells, .ref h0_starts, .ref h0_leaves, .int x0_count, .int x0_end, .int x0_syncedCount, .int x0_syncedEnd])), (h0_leaves, .inl (cA, 73, .inl g0_leaves)), (h1, .inr (3, [.ref h1_ints, .int u18])), (h1_ints, .inl (cA, 16, .inl u19))] H) (hD : va_D A [(h0, .inr (2, [.ref h0_cells, .ref h0_starts, .ref h0_leaves, .int x0_count, .int x0_end, .int x0_syncedCount, .int x0_syncedEnd])), (h0_leaves, .inl (cA, 73, .inl g0_leaves)), (h1, .inr (3, [.ref h1_ints, .int u18])), (h1_ints, .inl (cA, 16, .inl u19))]) hS => ?_)
          refine lv_aload_n hx hb dX4_consistency_59 rfl (lv_at hl 2 rfl) ?_
          refine lv_aload_n hx hb dX4_consistency_60 rfl (lv_at hl 1 rfl) ?_
          refine lv_iload_n hx hb dX4_consistency_61 rfl (lv_at hl 4 rfl) ?_
          refine lv_iload hx hb dX4_consistency_62 (lv_at hl 0 rfl) ?_
          refine lv_iadd hx hb dX4_consistency_64 ?_
          refine lv_iload hx hb dX4_consistency_65 (lv_at hl 5 rfl) ?_
          refine lv_iload hx hb dX4_consistency_67 (lv_at hl 0 rfl) ?_
          refine lv_isub hx hb dX4_consistency_69 ?_
          refine lv_iload hx hb dX4_consistency_70 (lv_at hl 7 rfl) ?_
          refine lv_iconst (v := (1 : Int32)) hx hb dX4_consistency_72 (by decide) ?_
          refine lv_isub hx hb dX4_consistency_73 ?_
          obtain ⟨v21, e22, hf⟩ := hw_bind hf
          refine hw_goS (wr := [(h1, .inr (3, [.ref h1_ints, .int u18])), (h1_ints, .inl (cA, 16, .inl u19))]) (rest := [.ref h1]) ⟨hx, hb, hml, hown, hts⟩ (cTr_hash l D cA cZ 12 h0 h0_cells h0_starts h0_leaves x0_count x0_end x0_syncedCount x0_syncedEnd g0_leaves (k3 + v7) (k4 - v7) (k6 - (1 : Int32)) v21 e22) (cwS 4 hts ks_X4_13 rfl rfl rfl (by decide +kernel) ⟨by dsimp only; omega, by dsimp only; omega⟩) [0, 1] [2, 3] rfl rfl (by decide) (by decide) (by decide) hK hE hP hD hS hA hl.1 rfl rfl (Nat.le_of_ble_eq_true rfl) dX4_consistency_74 ⟨Nat.zero_le _, Nat.zero_le _⟩ (fun H locs (hP : va_P D vwCl [(h1, .inr (3, [.ref h1_ints, .int u18])), (h1_ints, .inl (cA, 16, .inl u19)), (h0, .inr (2, [.ref h0_cells, .ref h0_starts, .ref h0_leaves, .int x0_count, .int x0_end, .int x0_syncedCount, .int x0_syncedEnd])), (h0_leaves, .inl (cA, 73, .inl g0_leaves))] H) (hD : va_D A [(h1, .inr (3, [.ref h1_ints, .int u18])), (h1_ints, .inl (cA, 16, .inl u19)), (h0, .inr (2, [.ref h0_cells, .ref h0_starts, .ref h0_leaves, .int x0_count, .int x0_end, .int x0_syncedCount, .int x0_syncedEnd])), (h0_leaves, .inl (cA, 73, .inl g0_leaves))]) hS => ?_)
          obtain ⟨⟨v23, u24, u25⟩, e26, hf⟩ := hw_bind hf
          refine hw_goV (wr := [(h0, .inr (2, [.ref h0_cells, .ref h0_starts, .ref h0_leaves, .int x0_count, .int x0_end, .int x0_syncedCount, .int x0_syncedEnd])), (h0_leaves, .inl (cA, 73, .inl g0_leaves))]) (rest := []) ⟨hx, hb, hml, hown, hts⟩ (cPd_add l D cA cZ h1 h1_ints u18 u19 v21 v23 u24 u25 e26) (cwV 1 hts ks_X4_39 rfl rfl rfl (by decide +kernel) ⟨by dsimp only; omega, by dsimp only; omega⟩) 0 rfl rfl [0, 1] [2, 3] rfl rfl (by decide) (by decide) (by decide) hK hE hP hD hS hA hl.1 rfl rfl (Nat.le_of_ble_eq_true rfl) dX4_consistency_77 ⟨Nat.zero_le _, Nat.zero_le _⟩ (fun H locs (hP : va_P D vwCl [(h0, .inr (2, [.ref h0_cells, .ref h0_starts, .ref h0_leaves, .int x0_count, .int x0_end, .int x0_syncedCount, .int x0_syncedEnd])), (h0_leaves, .inl (cA, 73, .inl g0_leaves)), (h1, .inr (3, [.ref h1_ints, .int u24])), (h1_ints, .inl (cA, 16, .inl u25))] H) (hD : va_D A [(h0, .inr (2, [.ref h0_cells, .ref h0_starts, .ref h0_leaves, .int x0_count, .int x0_end, .int x0_syncedCount, .int x0_syncedEnd])), (h0_leaves, .inl (cA, 73, .inl g0_leaves)), (h1, .inr (3, [.ref h1_ints, .int u24])), (h1_ints, .inl (cA, 16, .inl u25))]) hS => ?_)
          refine lv_pop hx hb dX4_consistency_80 rfl ?_
          refine lv_goto (tgt := 123) hx hb dX4_consistency_81 rfl ?_
          cases hf
          exact hw_rv hx hb hr hlk (hP.sub [0, 1, 2, 3] rfl) (hD.sub [0, 1, 2, 3] (by decide) rfl) hS dX4_consistency_123
      · refine lv_iload hx hb dX4_consistency_11 (lv_at hl 5 rfl) ?_
        refine hi_if_ne (tgt := 30) hx hb dX4_consistency_13 rfl hf (fun hc hf => ?_) (fun hc hf => ?_)
        · cases hf
          exact hw_rv hx hb hr hlk (hP.sub [0, 1, 2, 3] rfl) (hD.sub [0, 1, 2, 3] (by decide) rfl) hS dX4_consistency_30
        · refine lv_aload_n hx hb dX4_consistency_16 rfl (lv_at hl 1 rfl) ?_
          refine lv_aload_n hx hb dX4_consistency_17 rfl (lv_at hl 0 rfl) ?_
          refine lv_iload_n hx hb dX4_consistency_18 rfl (lv_at hl 3 rfl) ?_
          refine lv_iload hx hb dX4_consistency_19 (lv_at hl 4 rfl) ?_
          refine lv_iload hx hb dX4_consistency_21 (lv_at hl 6 rfl) ?_
          obtain ⟨v27, e28, hf⟩ := hw_bind hf
          refine hw_goS (wr := [(h1, .inr (3, [.ref h1_ints, .int x1_count])), (h1_ints, .inl (cA, 16, .inl g1_ints))]) (rest := [.ref h1]) ⟨hx, hb, hml, hown, hts⟩ (cTr_hash l D cA cZ 12 h0 h0_cells h0_starts h0_leaves x0_count x0_end x0_syncedCount x0_syncedEnd g0_leaves k3 k4 k6 v27 e28) (cwS 4 hts ks_X4_13 rfl rfl rfl (by decide +kernel) ⟨by dsimp only; omega, by dsimp only; omega⟩) [0, 1] [2, 3] rfl rfl (by decide) (by decide) (by decide) hK hE hP hD hS hA hl.1 rfl rfl (Nat.le_of_ble_eq_true rfl) dX4_consistency_23 ⟨Nat.zero_le _, Nat.zero_le _⟩ (fun H locs (hP : va_P D vwCl [(h1, .inr (3, [.ref h1_ints, .int x1_count])), (h1_ints, .inl (cA, 16, .inl g1_ints)), (h0, .inr (2, [.ref h0_cells, .ref h0_starts, .ref h0_leaves, .int x0_count, .int x0_end, .int x0_syncedCount, .int x0_syncedEnd])), (h0_leaves, .inl (cA, 73, .inl g0_leaves))] H) (hD : va_D A [(h1, .inr (3, [.ref h1_ints, .int x1_count])), (h1_ints, .inl (cA, 16, .inl g1_ints)), (h0, .inr (2, [.ref h0_cells, .ref h0_starts, .ref h0_leaves, .int x0_count, .int x0_end, .int x0_syncedCount, .int x0_syncedEnd])), (h0_leaves, .inl (cA, 73, .inl g0_leaves))]) hS => ?_)
          obtain ⟨⟨v29, u30, u31⟩, e32, hf⟩ := hw_bind hf
          refine hw_goV (wr := [(h0, .inr (2, [.ref h0_cells, .ref h0_starts, .ref h0_leaves, .int x0_count, .int x0_end, .int x0_syncedCount, .int x0_syncedEnd])), (h0_leaves, .inl (cA, 73, .inl g0_leaves))]) (rest := []) ⟨hx, hb, hml, hown, hts⟩ (cPd_add l D cA cZ h1 h1_ints x1_count g1_ints v27 v29 u30 u31 e32) (cwV 1 hts ks_X4_39 rfl rfl rfl (by decide +kernel) ⟨by dsimp only; omega, by dsimp only; omega⟩) 0 rfl rfl [0, 1] [2, 3] rfl rfl (by decide) (by decide) (by decide) hK hE hP hD hS hA hl.1 rfl rfl (Nat.le_of_ble_eq_true rfl) dX4_consistency_26 ⟨Nat.zero_le _, Nat.zero_le _⟩ (fun H locs (hP : va_P D vwCl [(h0, .inr (2, [.ref h0_cells, .ref h0_starts, .ref h0_leaves, .int x0_count, .int x0_end, .int x0_syncedCount, .int x0_syncedEnd])), (h0_leaves, .inl (cA, 73, .inl g0_leaves)), (h1, .inr (3, [.ref h1_ints, .int u30])), (h1_ints, .inl (cA, 16, .inl u31))] H) (hD : va_D A [(h0, .inr (2, [.ref h0_cells, .ref h0_starts, .ref h0_leaves, .int x0_count, .int x0_end, .int x0_syncedCount, .int x0_syncedEnd])), (h0_leaves, .inl (cA, 73, .inl g0_leaves)), (h1, .inr (3, [.ref h1_ints, .int u30])), (h1_ints, .inl (cA, 16, .inl u31))]) hS => ?_)
          refine lv_pop hx hb dX4_consistency_29 rfl ?_
          cases hf
          exact hw_rv hx hb hr hlk (hP.sub [0, 1, 2, 3] rfl) (hD.sub [0, 1, 2, 3] (by decide) rfl) hS dX4_consistency_30
set_option maxHeartbeats 4000000 in
set_option maxRecDepth 100000 in
theorem cTr_addConsistency (l : Launch) (D : va_G) (cA cZ : ClassId) (h0 : Nat) (h1 : Nat) (h0_cells : Nat) (h0_starts : Nat) (h0_leaves : Nat) (h1_ints : Nat) (x0_count : Int32) (x0_end : Int32) (x0_syncedCount : Int32) (x0_syncedEnd : Int32) (g0_leaves : Nat → Int32) (x1_count : Int32) (g1_ints : Nat → Int32) (k2 : Int32) (k3 : Int32) (ox1_count : Int32) (og1_ints : Nat → Int32) (hf : fTr_addConsistency x0_count g0_leaves x1_count g1_ints k2 k3 = some (ox1_count, og1_ints)) : hw_C l yX4_addConsistency wX4_addConsistency { frames := 28, cells := 0, slots := 0, locals := 707 } D vwCl cA cZ [.ref h0, .ref h1, .int k2, .int k3] [(h0, .inr (2, [.ref h0_cells, .ref h0_starts, .ref h0_leaves, .int x0_count, .int x0_end, .int x0_syncedCount, .int x0_syncedEnd])), (h0_leaves, .inl (cA, 73, .inl g0_leaves)), (h1, .inr (3, [.ref h1_ints, .int x1_count])), (h1_ints, .inl (cA, 16, .inl g1_ints))] [(h0, .inr (2, [.ref h0_cells, .ref h0_starts, .ref h0_leaves, .int x0_count, .int x0_end, .int x0_syncedCount, .int x0_syncedEnd])), (h0_leaves, .inl (cA, 73, .inl g0_leaves)), (h1, .inr (3, [.ref h1_ints, .int ox1_count])), (h1_ints, .inl (cA, 16, .inl og1_ints))] none := by
  refine hw_of (cc := cX4_addConsistency) (maxL := 4) (ret := none) (by decide) rfl (Nat.le_of_ble_eq_true rfl) ?_
  intro p e s m args below meth c A ls hx hb hr hlk hml hown hts hA hK hE hP hD hS hl
  have hown : s.vm.findClass RX4 = some m.cls := hown
  have hl : lv_has ls 4 [(0, .ref h0), (1, .ref h1), (2, .int k2), (3, .int k3)] := hl
  rw [fTr_addConsistency] at hf
  refine lv_aload_n hx hb dX4_addConsistency_0 rfl (lv_at hl 0 rfl) ?_
  refine lv_aload_n hx hb dX4_addConsistency_1 rfl (lv_at hl 1 rfl) ?_
  refine lv_iload_n hx hb dX4_addConsistency_2 rfl (lv_at hl 2 rfl) ?_
  refine lv_iconst (v := (0 : Int32)) hx hb dX4_addConsistency_3 (by decide) ?_
  refine lv_iload_n hx hb dX4_addConsistency_4 rfl (lv_at hl 3 rfl) ?_
  refine lv_iconst (v := (1 : Int32)) hx hb dX4_addConsistency_5 (by decide) ?_
  refine lv_bipush (v := (10 : Int32)) hx hb dX4_addConsistency_6 (by decide) ?_
  obtain ⟨⟨u1, u2⟩, e3, hf⟩ := hw_bind hf
  refine hw_goS (wr := []) (rest := []) ⟨hx, hb, hml, hown, hts⟩ (cTr_consistency l D cA cZ 12 h0 h1 h0_cells h0_starts h0_leaves h1_ints x0_count x0_end x0_syncedCount x0_syncedEnd g0_leaves x1_count g1_ints k2 (0 : Int32) k3 (1 : Int32) (10 : Int32) u1 u2 e3) (cwS 7 hts ks_X4_23 rfl rfl rfl (by decide +kernel) ⟨Nat.le_of_ble_eq_true rfl, Nat.le_of_ble_eq_true rfl⟩) [0, 1, 2, 3] [] rfl rfl (by decide) (by decide) (by decide) hK hE hP hD hS hA hl.1 rfl rfl (Nat.le_of_ble_eq_true rfl) dX4_addConsistency_8 ⟨Nat.zero_le _, Nat.zero_le _⟩ (fun H locs (hP : va_P D vwCl [(h0, .inr (2, [.ref h0_cells, .ref h0_starts, .ref h0_leaves, .int x0_count, .int x0_end, .int x0_syncedCount, .int x0_syncedEnd])), (h0_leaves, .inl (cA, 73, .inl g0_leaves)), (h1, .inr (3, [.ref h1_ints, .int u1])), (h1_ints, .inl (cA, 16, .inl u2))] H) (hD : va_D A [(h0, .inr (2, [.ref h0_cells, .ref h0_starts, .ref h0_leaves, .int x0_count, .int x0_end, .int x0_syncedCount, .int x0_syncedEnd])), (h0_leaves, .inl (cA, 73, .inl g0_leaves)), (h1, .inr (3, [.ref h1_ints, .int u1])), (h1_ints, .inl (cA, 16, .inl u2))]) hS => ?_)
  cases hf
  exact hw_rv hx hb hr hlk (hP.sub [0, 1, 2, 3] rfl) (hD.sub [0, 1, 2, 3] (by decide) rfl) hS dX4_addConsistency_11
