set_option maxHeartbeats 4000000 in
set_option maxRecDepth 100000 in
theorem cMo_prove (l : Launch) (D : va_G) (cA cZ : ClassId) (h0 : Nat) (h0_keys : Nat) (h0_legs : Nat) (h0_account : Nat) (h0_amount : Nat) (h0_seals : Nat) (h0_ends : Nat) (h0_draftAccount : Nat) (h0_draftAmount : Nat) (h0_limits : Nat) (h0_disk : Nat) (h0_pad : Nat) (h0_stack : Nat) (h0_firsts : Nat) (h0_others : Nat) (x0_count : Int32) (x0_synced : Int32) (x0_syncedEnd : Int32) (x0_draft : Int32) (x0_off : Int32) (x0_failing : Int32) (x0_written : Int32) (x0_padded : Int32) (g0_keys : Nat → Int32) (g0_legs : Nat → Int32) (g0_account : Nat → Int32) (g0_amount : Nat → Int32) (g0_pad : Nat → Int32) (g0_stack : Nat → Int32) (g0_others : Nat → Int32) (k1 : Int32) (k2 : Int32) (rr : Int32) (ox0_padded : Int32) (og0_pad : Nat → Int32) (og0_stack : Nat → Int32) (og0_others : Nat → Int32) (hf : fMo_prove x0_synced x0_padded g0_keys g0_legs g0_account g0_amount g0_pad g0_stack g0_others k1 k2 = some (rr, ox0_padded, og0_pad, og0_stack, og0_others)) : hw_C l yX6_prove wX6_prove { frames := 3, cells := 0, slots := 0, locals := 72 } D vwCl cA cZ [.ref h0, .int k1, .int k2] [(h0, .inr (5, [.int x0_count, .ref h0_keys, .ref h0_legs, .ref h0_account, .ref h0_amount, .ref h0_seals, .ref h0_ends, .int x0_synced, .int x0_syncedEnd, .int x0_draft, .ref h0_draftAccount, .ref h0_draftAmount, .ref h0_limits, .ref h0_disk, .int x0_off, .int x0_failing, .int x0_written, .int x0_padded, .ref h0_pad, .ref h0_stack, .ref h0_firsts, .ref h0_others])), (h0_keys, .inl (cA, 76, .inl g0_keys)), (h0_legs, .inl (cA, 76, .inl g0_legs)), (h0_account, .inl (cA, 304, .inl g0_account)), (h0_amount, .inl (cA, 304, .inl g0_amount)), (h0_pad, .inl (cA, 16, .inl g0_pad)), (h0_stack, .inl (cA, 16, .inl g0_stack)), (h0_others, .inl (cA, 16, .inl g0_others))] [(h0, .inr (5, [.int x0_count, .ref h0_keys, .ref h0_legs, .ref h0_account, .ref h0_amount, .ref h0_seals, .ref h0_ends, .int x0_synced, .int x0_syncedEnd, .int x0_draft, .ref h0_draftAccount, .ref h0_draftAmount, .ref h0_limits, .ref h0_disk, .int x0_off, .int x0_failing, .int x0_written, .int ox0_padded, .ref h0_pad, .ref h0_stack, .ref h0_firsts, .ref h0_others])), (h0_keys, .inl (cA, 76, .inl g0_keys)), (h0_legs, .inl (cA, 76, .inl g0_legs)), (h0_account, .inl (cA, 304, .inl g0_account)), (h0_amount, .inl (cA, 304, .inl g0_amount)), (h0_pad, .inl (cA, 16, .inl og0_pad)), (h0_stack, .inl (cA, 16, .inl og0_stack)), (h0_others, .inl (cA, 16, .inl og0_others))] (some (.int rr)) := by
  refine hw_of (cc := cX6_prove) (maxL := 9) (ret := (some .int)) (by decide) rfl (Nat.le_of_ble_eq_true rfl) ?_
  intro p e s m args below meth c A ls hx hb hr hlk hml hown hts hA hK hE hP hD hS hl
  have hown : s.vm.findClass RX6 = some m.cls := hown
  have hl : lv_has ls 9 [(0, .ref h0), (1, .int k1), (2, .int k2)] := hl
  have L164 : ∀ (n164 : Nat) (ls : Array Slot) (H : Heap) (locs : List Loc) (k6 : Int32) (x0_padded : Int32) (g0_pad : Nat → Int32) (g0_stack : Nat → Int32) (g0_others : Nat → Int32), lv_has ls 9 [(0, .ref h0), (6, .int k6)] → va_P D vwCl [(h0, .inr (5, [.int x0_count, .ref h0_keys, .ref h0_legs, .ref h0_account, .ref h0_amount, .ref h0_seals, .ref h0_ends, .int x0_synced, .int x0_syncedEnd, .int x0_draft, .ref h0_draftAccount, .ref h0_draftAmount, .ref h0_limits, .ref h0_disk, .int x0_off, .int x0_failing, .int x0_written, .int x0_padded, .ref h0_pad, .ref h0_stack, .ref h0_firsts, .ref h0_others])), (h0_keys, .inl (cA, 76, .inl g0_keys)), (h0_legs, .inl (cA, 76, .inl g0_legs)), (h0_account, .inl (cA, 304, .inl g0_account)), (h0_amount, .inl (cA, 304, .inl g0_amount)), (h0_pad, .inl (cA, 16, .inl g0_pad)), (h0_stack, .inl (cA, 16, .inl g0_stack)), (h0_others, .inl (cA, 16, .inl g0_others))] H → va_D A [(h0, .inr (5, [.int x0_count, .ref h0_keys, .ref h0_legs, .ref h0_account, .ref h0_amount, .ref h0_seals, .ref h0_ends, .int x0_synced, .int x0_syncedEnd, .int x0_draft, .ref h0_draftAccount, .ref h0_draftAmount, .ref h0_limits, .ref h0_disk, .int x0_off, .int x0_failing, .int x0_written, .int x0_padded, .ref h0_pad, .ref h0_stack, .ref h0_firsts, .ref h0_others])), (h0_keys, .inl (cA, 76, .inl g0_keys)), (h0_legs, .inl (cA, 76, .inl g0_legs)), (h0_account, .inl (cA, 304, .inl g0_account)), (h0_amount, .inl (cA, 304, .inl g0_amount)), (h0_pad, .inl (cA, 16, .inl g0_pad)), (h0_stack, .inl (cA, 16, .inl g0_stack)), (h0_others, .inl (cA, 16, .inl g0_others))] → va_S A s.heap H locs → fMo_prove_L164 x0_synced g0_keys g0_legs g0_account g0_amount n164 k6 x0_padded g0_pad g0_stack g0_others = some (rr, ox0_padded, og0_pad, og0_stack, og0_others) → W p l e { frames := 3, cells := 0, slots := 0, locals := 72 } s m args below meth c H locs 0 0 (hw_Z below args s D vwCl A [(h0, .inr (5, [.int x0_count, .ref h0_keys, .ref h0_legs, .ref h0_account, .ref h0_amount, .ref h0_seals, .ref h0_ends, .int x0_synced, .int x0_syncedEnd, .int x0_draft, .ref h0_draftAccount, .ref h0_draftAmount, .ref h0_limits, .ref h0_disk, .int x0_off, .int x0_failing, .int x0_written, .int ox0_padded, .ref h0_pad, .ref h0_stack, .ref h0_firsts, .ref h0_others])), (h0_keys, .inl (cA, 76, .inl g0_keys)), (h0_legs, .inl (cA, 76, .inl g0_legs)), (h0_account, .inl (cA, 304, .inl g0_account)), (h0_amount, .inl (cA, 304, .inl g0_amount)), (h0_pad, .inl (cA, 16, .inl og0_pad)), (h0_stack, .inl (cA, 16, .inl og0_stack)), (h0_others, .inl (cA, 16, .inl og0_others))] (some (.int rr))) (F0 m 164 ls []) := by
    intro n164
    induction n164 with
    | zero => intro ls H locs k6 x0_padded g0_pad g0_stack g0_others hl hP hD hS hf; simp only [fMo_prove_L164] at hf; cases hf
    | succ n164 ih164 =>
      intro ls H locs k6 x0_padded g0_pad g0_stack g0_others hl hP hD hS hf
      rw [fMo_prove_L164] at hf
      refine lv_iload hx hb dX6_prove_164 (lv_at hl 1 rfl) ?_
      refine hi_if_lt (tgt := 186) hx hb dX6_prove_166 rfl hf (fun hc hf => ?_) (fun hc hf => ?_)
      · refine lv_aload_n hx hb dX6_prove_186 rfl (lv_at hl 0 rfl) ?_
        refine va_get (D := D) (ci := 5) (v := .int x0_padded) (C := RX6) (T := TX6) (N := 22) hx hb hts in_X6 hown hK hP 0 rfl rfl 17 (by decide) (hts _ mw_436) (fun _ h9 => h9) rfl dX6_prove_187 ?_
        cases hf
        exact hw_ri hx hb hr hlk (hP.sub [0, 1, 2, 3, 4, 5, 6, 7] rfl) (hD.sub [0, 1, 2, 3, 4, 5, 6, 7] (by decide) rfl) hS dX6_prove_190
      · refine lv_aload_n hx hb dX6_prove_169 rfl (lv_at hl 0 rfl) ?_
        refine lv_aload_n hx hb dX6_prove_170 rfl (lv_at hl 0 rfl) ?_
        refine va_get (D := D) (ci := 5) (v := .ref h0_others) (C := RX6) (T := TX6) (N := 22) hx hb hts in_X6 hown hK hP 0 rfl rfl 21 (by decide) (hts _ mw_353) (fun _ h9 => h9) rfl dX6_prove_171 ?_
        refine lv_iload hx hb dX6_prove_174 (lv_at hl 1 rfl) ?_
        obtain ⟨v13, e14, hf⟩ := hw_bind hf
        refine hw_iald hx hb hK hP 7 rfl e14 dX6_prove_176 ?_
        obtain ⟨⟨u15, u16⟩, e17, hf⟩ := hw_bind hf
        refine hw_goV (wr := [(h0_keys, .inl (cA, 76, .inl g0_keys)), (h0_legs, .inl (cA, 76, .inl g0_legs)), (h0_account, .inl (cA, 304, .inl g0_account)), (h0_amount, .inl (cA, 304, .inl g0_amount)), (h0_stack, .inl (cA, 16, .inl g0_stack)), (h0_others, .inl (cA, 16, .inl g0_others))]) (rest := []) ⟨hx, hb, hml, hown, hts⟩ (cMo_lay l D cA cZ h0 h0_keys h0_legs h0_account h0_amount h0_seals h0_ends h0_draftAccount h0_draftAmount h0_limits h0_disk h0_pad h0_stack h0_firsts h0_others x0_count x0_synced x0_syncedEnd x0_draft x0_off x0_failing x0_written x0_padded g0_pad v13 u15 u16 e17) (cwV 1 hts ks_X6_136 rfl rfl rfl (by decide +kernel) ⟨Nat.le_of_ble_eq_true rfl, Nat.le_of_ble_eq_true rfl⟩) 0 rfl rfl [0, 5] [1, 2, 3, 4, 6, 7] rfl rfl (by decide) (by decide) (by decide) hK hE hP hD hS hA hl.1 rfl rfl (Nat.le_of_ble_eq_true rfl) dX6_prove_177 ⟨Nat.zero_le _, Nat.zero_le _⟩ (fun H locs (hP : va_P D vwCl [(h0_keys, .inl (cA, 76, .inl g0_keys)), (h0_legs, .inl (cA, 76, .inl g0_legs)), (h0_account, .inl (cA, 304, .inl g0_account)), (h0_amount, .inl (cA, 304, .inl g0_amount)), (h0_stack, .inl (cA, 16, .inl g0_stack)), (h0_others, .inl (cA, 16, .inl g0_others)), (h0, .inr (5, [.int x0_count, .ref h0_keys, .ref h0_legs, .ref h0_account, .ref h0_amount, .ref h0_seals, .ref h0_ends, .int x0_synced, .int x0_syncedEnd, .int x0_draft, .ref h0_draftAccount, .ref h0_draftAmount, .ref h0_limits, .ref h0_disk, .int x0_off, .int x0_failing, .int x0_written, .int u15, .ref h0_pad, .ref h0_stack, .ref h0_firsts, .ref h0_others])), (h0_pad, .inl (cA, 16, .inl u16))] H) (hD : va_D A [(h0_keys, .inl (cA, 76, .inl g0_keys)), (h0_legs, .inl (cA, 76, .inl g0_legs)), (h0_account, .inl (cA, 304, .inl g0_account)), (h0_amount, .inl (cA, 304, .inl g0_amount)), (h0_stack, .inl (cA, 16, .inl g0_stack)), (h0_others, .inl (cA, 16, .inl g0_others)), (h0, .inr (5, [.int x0_count, .ref h0_keys, .ref h0_legs, .ref h0_account, .ref h0_amount, .ref h0_seals, .ref h0_ends, .int x0_synced, .int x0_syncedEnd, .int x0_draft, .ref h0_draftAccount, .ref h0_draftAmount, .ref h0_limits, .ref h0_disk, .int x0_off, .int x0_failing, .int x0_written, .int u15, .ref h0_pad, .ref h0_stack, .ref h0_firsts, .ref h0_others])), (h0_pad, .inl (cA, 16, .inl u16))]) hS => ?_)
        refine lv_iinc (v := k6 + (-1 : Int32)) (lv' := [(6, .int (k6 + (-1 : Int32))), (0, .ref h0)]) hx hb dX6_prove_180 hl (k := 1) rfl (congrArg (fun z => k6 + z) (by decide)) (by decide) rfl (fun ls hl => ?_)
        refine lv_goto (tgt := 164) hx hb dX6_prove_183 rfl ?_
        exact ih164 _ _ _ (k6 + (-1 : Int32)) u15 u16 g0_stack g0_others (lv_sub hl [1, 0] rfl) (hP.sub [6, 0, 1, 2, 3, 7, 4, 5] rfl) (hD.sub [6, 0, 1, 2, 3, 7, 4, 5] (by decide) rfl) hS hf
  have L34 : ∀ (n34 : Nat) (ls : Array Slot) (H : Heap) (locs : List Loc) (k3 : Int32) (k4 : Int32) (k5 : Int32) (k6 : Int32) (x0_padded : Int32) (g0_pad : Nat → Int32) (g0_stack : Nat → Int32) (g0_others : Nat → Int32), lv_has ls 9 [(0, .ref h0), (3, .int k3), (4, .int k4), (5, .int k5), (6, .int k6)] → va_P D vwCl [(h0, .inr (5, [.int x0_count, .ref h0_keys, .ref h0_legs, .ref h0_account, .ref h0_amount, .ref h0_seals, .ref h0_ends, .int x0_synced, .int x0_syncedEnd, .int x0_draft, .ref h0_draftAccount, .ref h0_draftAmount, .ref h0_limits, .ref h0_disk, .int x0_off, .int x0_failing, .int x0_written, .int x0_padded, .ref h0_pad, .ref h0_stack, .ref h0_firsts, .ref h0_others])), (h0_keys, .inl (cA, 76, .inl g0_keys)), (h0_legs, .inl (cA, 76, .inl g0_legs)), (h0_account, .inl (cA, 304, .inl g0_account)), (h0_amount, .inl (cA, 304, .inl g0_amount)), (h0_pad, .inl (cA, 16, .inl g0_pad)), (h0_stack, .inl (cA, 16, .inl g0_stack)), (h0_others, .inl (cA, 16, .inl g0_others))] H → va_D A [(h0, .inr (5, [.int x0_count, .ref h0_keys, .ref h0_legs, .ref h0_account, .ref h0_amount, .ref h0_seals, .ref h0_ends, .int x0_synced, .int x0_syncedEnd, .int x0_draft, .ref h0_draftAccount, .ref h0_draftAmount, .ref h0_limits, .ref h0_disk, .int x0_off, .int x0_failing, .int x0_written, .int x0_padded, .ref h0_pad, .ref h0_stack, .ref h0_firsts, .ref h0_others])), (h0_keys, .inl (cA, 76, .inl g0_keys)), (h0_legs, .inl (cA, 76, .inl g0_legs)), (h0_account, .inl (cA, 304, .inl g0_account)), (h0_amount, .inl (cA, 304, .inl g0_amount)), (h0_pad, .inl (cA, 16, .inl g0_pad)), (h0_stack, .inl (cA, 16, .inl g0_stack)), (h0_others, .inl (cA, 16, .inl g0_others))] → va_S A s.heap H locs → fMo_prove_L34 x0_synced g0_keys g0_legs g0_account g0_amount n34 k3 k4 k5 k6 x0_padded g0_pad g0_stack g0_others = some (rr, ox0_padded, og0_pad, og0_stack, og0_others) → W p l e { frames := 3, cells := 0, slots := 0, locals := 72 } s m args below meth c H locs 0 0 (hw_Z below args s D vwCl A [(h0, .inr (5, [.int x0_count, .ref h0_keys, .ref h0_legs, .ref h0_account, .ref h0_amount, .ref h0_seals, .ref h0_ends, .int x0_synced, .int x0_syncedEnd, .int x0_draft, .ref h0_draftAccount, .ref h0_draftAmount, .ref h0_limits, .ref h0_disk, .int x0_off, .int x0_failing, .int x0_written, .int ox0_padded, .ref h0_pad, .ref h0_stack, .ref h0_firsts, .ref h0_others])), (h0_keys, .inl (cA, 76, .inl g0_keys)), (h0_legs, .inl (cA, 76, .inl g0_legs)), (h0_account, .inl (cA, 304, .inl g0_account)), (h0_amount, .inl (cA, 304, .inl g0_amount)), (h0_pad, .inl (cA, 16, .inl og0_pad)), (h0_stack, .inl (cA, 16, .inl og0_stack)), (h0_others, .inl (cA, 16, .inl og0_others))] (some (.int rr))) (F0 m 34 ls []) := by
    intro n34
    induction n34 with
    | zero => intro ls H locs k3 k4 k5 k6 x0_padded g0_pad g0_stack g0_others hl hP hD hS hf; simp only [fMo_prove_L34] at hf; cases hf
    | succ n34 ih34 =>
      intro ls H locs k3 k4 k5 k6 x0_padded g0_pad g0_stack g0_others hl hP hD hS hf
      rw [fMo_prove_L34] at hf
      refine lv_iload hx hb dX6_prove_34 (lv_at hl 4 rfl) ?_
      refine lv_iconst (v := (1 : Int32)) hx hb dX6_prove_36 (by decide) ?_
      refine hi_icmp_le (tgt := 154) hx hb dX6_prove_37 rfl hf (fun hc hf => ?_) (fun hc hf => ?_)
      · refine lv_aload_n hx hb dX6_prove_154 rfl (lv_at hl 0 rfl) ?_
        refine lv_iconst (v := (0 : Int32)) hx hb dX6_prove_155 (by decide) ?_
        refine va_put (D := D) (ci := 5) (v := .int (0 : Int32)) (ty := .int) (C := RX6) (T := TX6) (N := 22) hx hb hts in_X6 tyX6 tyX6_ok nX6 hown hK hP hD hS 0 rfl rfl 17 (by decide) (hts _ mw_436) (fun _ h9 => h9) rfl (by decide +kernel) rfl rfl (Nat.le_of_ble_eq_true rfl) dX6_prove_156 (fun H locs (hP : va_P D vwCl [(h0, .inr (5, [.int x0_count, .ref h0_keys, .ref h0_legs, .ref h0_account, .ref h0_amount, .ref h0_seals, .ref h0_ends, .int x0_synced, .int x0_syncedEnd, .int x0_draft, .ref h0_draftAccount, .ref h0_draftAmount, .ref h0_limits, .ref h0_disk, .int x0_off, .int x0_failing, .int x0_written, .int (0 : Int32), .ref h0_pad, .ref h0_stack, .ref h0_firsts, .ref h0_others])), (h0_keys, .inl (cA, 76, .inl g0_keys)), (h0_legs, .inl (cA, 76, .inl g0_legs)), (h0_account, .inl (cA, 304, .inl g0_account)), (h0_amount, .inl (cA, 304, .inl g0_amount)), (h0_pad, .inl (cA, 16, .inl g0_pad)), (h0_stack, .inl (cA, 16, .inl g0_stack)), (h0_others, .inl (cA, 16, .inl g0_others))] H) (hD : va_D A [(h0, .inr (5, [.int x0_count, .ref h0_keys, .ref h0_legs, .ref h0_account, .ref h0_amount, .ref h0_seals, .ref h0_ends, .int x0_synced, .int x0_syncedEnd, .int x0_draft, .ref h0_draftAccount, .ref h0_draftAmount, .ref h0_limits, .ref h0_disk, .int x0_off, .int x0_failing, .int x0_written, .int (0 : Int32), .ref h0_pad, .ref h0_stack, .ref h0_firsts, .ref h0_others])), (h0_keys, .inl (cA, 76, .inl g0_keys)), (h0_legs, .inl (cA, 76, .inl g0_legs)), (h0_account, .inl (cA, 304, .inl g0_account)), (h0_amount, .inl (cA, 304, .inl g0_amount)), (h0_pad, .inl (cA, 16, .inl g0_pad)), (h0_stack, .inl (cA, 16, .inl g0_stack)), (h0_others, .inl (cA, 16, .inl g0_others))]) hS => ?_)
        refine lv_iload_n hx hb dX6_prove_159 rfl (lv_at hl 1 rfl) ?_
        refine lv_iconst (v := (1 : Int32)) hx hb dX6_prove_160 (by decide) ?_
        refine lv_isub hx hb dX6_prove_161 ?_
        refine lv_istore (lv' := [(6, .int (k3 - (1 : Int32))), (0, .ref h0), (3, .int k3), (4, .int k4), (5, .int k5)]) hx hb dX6_prove_162 hl (by decide) rfl (fun ls hl => ?_)
        exact L164 600 _ _ _ (k3 - (1 : Int32)) (0 : Int32) g0_pad g0_stack g0_others (lv_sub hl [1, 0] rfl) (hP.sub [0, 1, 2, 3, 4, 5, 6, 7] rfl) (hD.sub [0, 1, 2, 3, 4, 5, 6, 7] (by decide) rfl) hS hf
      · refine lv_iload hx hb dX6_prove_40 (lv_at hl 4 rfl) ?_
        obtain ⟨v1, e2, hf⟩ := hw_bind hf
        refine hw_goS (wr := [(h0, .inr (5, [.int x0_count, .ref h0_keys, .ref h0_legs, .ref h0_account, .ref h0_amount, .ref h0_seals, .ref h0_ends, .int x0_synced, .int x0_syncedEnd, .int x0_draft, .ref h0_draftAccount, .ref h0_draftAmount, .ref h0_limits, .ref h0_disk, .int x0_off, .int x0_failing, .int x0_written, .int x0_padded, .ref h0_pad, .ref h0_stack, .ref h0_firsts, .ref h0_others])), (h0_keys, .inl (cA, 76, .inl g0_keys)), (h0_legs, .inl (cA, 76, .inl g0_legs)), (h0_account, .inl (cA, 304, .inl g0_account)), (h0_amount, .inl (cA, 304, .inl g0_amount)), (h0_pad, .inl (cA, 16, .inl g0_pad)), (h0_stack, .inl (cA, 16, .inl g0_stack)), (h0_others, .inl (cA, 16, .inl g0_others))]) (rest := []) ⟨hx, hb, hml, hown, hts⟩ (cMo_part l D cA cZ k6 v1 e2) (cwS 1 hts ks_X6_133 rfl rfl rfl (by decide +kernel) ⟨Nat.le_of_ble_eq_true rfl, Nat.le_of_ble_eq_true rfl⟩) [] [0, 1, 2, 3, 4, 5, 6, 7] rfl rfl (by decide) (by decide) (by decide) hK hE hP hD hS hA hl.1 rfl rfl (Nat.le_of_ble_eq_true rfl) dX6_prove_42 ⟨Nat.zero_le _, Nat.zero_le _⟩ (fun H locs (hP : va_P D vwCl [(h0, .inr (5, [.int x0_count, .ref h0_keys, .ref h0_legs, .ref h0_account, .ref h0_amount, .ref h0_seals, .ref h0_ends, .int x0_synced, .int x0_syncedEnd, .int x0_draft, .ref h0_draftAccount, .ref h0_draftAmount, .ref h0_limits, .ref h0_disk, .int x0_off, .int x0_failing, .int x0_written, .int x0_padded, .ref h0_pad, .ref h0_stack, .ref h0_firsts, .ref h0_others])), (h0_keys, .inl (cA, 76, .inl g0_keys)), (h0_legs, .inl (cA, 76, .inl g0_legs)), (h0_account, .inl (cA, 304, .inl g0_account)), (h0_amount, .inl (cA, 304, .inl g0_amount)), (h0_pad, .inl (cA, 16, .inl g0_pad)), (h0_stack, .inl (cA, 16, .inl g0_stack)), (h0_others, .inl (cA, 16, .inl g0_others))] H) (hD : va_D A [(h0, .inr (5, [.int x0_count, .ref h0_keys, .ref h0_legs, .ref h0_account, .ref h0_amount, .ref h0_seals, .ref h0_ends, .int x0_synced, .int x0_syncedEnd, .int x0_draft, .ref h0_draftAccount, .ref h0_draftAmount, .ref h0_limits, .ref h0_disk, .int x0_off, .int x0_failing, .int x0_written, .int x0_padded, .ref h0_pad, .ref h0_stack, .ref h0_firsts, .ref h0_others])), (h0_keys, .inl (cA, 76, .inl g0_keys)), (h0_legs, .inl (cA, 76, .inl g0_legs)), (h0_account, .inl (cA, 304, .inl g0_account)), (h0_amount, .inl (cA, 304, .inl g0_amount)), (h0_pad, .inl (cA, 16, .inl g0_pad)), (h0_stack, .inl (cA, 16, .inl g0_stack)), (h0_others, .inl (cA, 16, .inl g0_others))]) hS => ?_)
        refine lv_istore (lv' := [(7, .int v1), (0, .ref h0), (3, .int k3), (4, .int k4), (5, .int k5), (6, .int k6)]) hx hb dX6_prove_45 hl (by decide) rfl (fun ls hl => ?_)
        refine lv_iload hx hb dX6_prove_47 (lv_at hl 4 rfl) ?_
        refine lv_iload hx hb dX6_prove_49 (lv_at hl 0 rfl) ?_
        refine hi_icmp_ge (tgt := 58) hx hb dX6_prove_51 rfl hf (fun hc hf => ?_) (fun hc hf => ?_)
        · refine lv_iconst (v := (0 : Int32)) hx hb dX6_prove_58 (by decide) ?_
          refine lv_istore (lv' := [(8, .int (0 : Int32)), (7, .int v1), (0, .ref h0), (3, .int k3), (4, .int k4), (5, .int k5), (6, .int k6)]) hx hb dX6_prove_59 hl (by decide) rfl (fun ls hl => ?_)
          refine lv_aload_n hx hb dX6_prove_61 rfl (lv_at hl 2 rfl) ?_
          refine va_get (D := D) (ci := 5) (v := .ref h0_others) (C := RX6) (T := TX6) (N := 22) hx hb hts in_X6 hown hK hP 0 rfl rfl 21 (by decide) (hts _ mw_353) (fun _ h9 => h9) rfl dX6_prove_62 ?_
          refine lv_iload_n hx hb dX6_prove_65 rfl (lv_at hl 3 rfl) ?_
          refine lv_iload hx hb dX6_prove_66 (lv_at hl 0 rfl) ?_
          refine lv_if_eq (tgt := 88) hx hb dX6_prove_68 rfl (fun hc => ?_) (fun hc => absurd hc (by decide))
          refine lv_aload_n hx hb dX6_prove_88 rfl (lv_at hl 2 rfl) ?_
          refine lv_iload hx hb dX6_prove_89 (lv_at hl 4 rfl) ?_
          refine lv_iload hx hb dX6_prove_91 (lv_at hl 1 rfl) ?_
          obtain ⟨⟨v3, u4⟩, e5, hf⟩ := hw_bind hf
          refine hw_goV (wr := [(h0_pad, .inl (cA, 16, .inl g0_pad)), (h0_others, .inl (cA, 16, .inl g0_others))]) (rest := [.int k3, .ref h0_others]) ⟨hx, hb, hml, hown, hts⟩ (cMo_hash l D cA cZ h0 h0_keys h0_legs h0_account h0_amount h0_seals h0_ends h0_draftAccount h0_draftAmount h0_limits h0_disk h0_pad h0_stack h0_firsts h0_others x0_count x0_synced x0_syncedEnd x0_draft x0_off x0_failing x0_written x0_padded g0_keys g0_legs g0_account g0_amount g0_stack k4 v1 v3 u4 e5) (cwV 2 hts ks_X6_127 rfl rfl rfl (by decide +kernel) ⟨Nat.le_of_ble_eq_true rfl, Nat.le_of_ble_eq_true rfl⟩) 0 rfl rfl [0, 1, 2, 3, 4, 6] [5, 7] rfl rfl (by decide) (by decide) (by decide) hK hE hP hD hS hA hl.1 rfl rfl (Nat.le_of_ble_eq_true rfl) dX6_prove_93 ⟨Nat.zero_le _, Nat.zero_le _⟩ (fun H locs (hP : va_P D vwCl [(h0_pad, .inl (cA, 16, .inl g0_pad)), (h0_others, .inl (cA, 16, .inl g0_others)), (h0, .inr (5, [.int x0_count, .ref h0_keys, .ref h0_legs, .ref h0_account, .ref h0_amount, .ref h0_seals, .ref h0_ends, .int x0_synced, .int x0_syncedEnd, .int x0_draft, .ref h0_draftAccount, .ref h0_draftAmount, .ref h0_limits, .ref h0_disk, .int x0_off, .int x0_failing, .int x0_written, .int x0_padded, .ref h0_pad, .ref h0_stack, .ref h0_firsts, .ref h0_others])), (h0_keys, .inl (cA, 76, .inl g0_keys)), (h0_legs, .inl (cA, 76, .inl g0_legs)), (h0_account, .inl (cA, 304, .inl g0_account)), (h0_amount, .inl (cA, 304, .inl g0_amount)), (h0_stack, .inl (cA, 16, .inl u4))] H) (hD : va_D A [(h0_pad, .inl (cA, 16, .inl g0_pad)), (h0_others, .inl (cA, 16, .inl g0_others)), (h0, .inr (5, [.int x0_count, .ref h0_keys, .ref h0_legs, .ref h0_account, .ref h0_amount, .ref h0_seals, .ref h0_ends, .int x0_synced, .int x0_syncedEnd, .int x0_draft, .ref h0_draftAccount, .ref h0_draftAmount, .ref h0_limits, .ref h0_disk, .int x0_off, .int x0_failing, .int x0_written, .int x0_padded, .ref h0_pad, .ref h0_stack, .ref h0_firsts, .ref h0_others])), (h0_keys, .inl (cA, 76, .inl g0_keys)), (h0_legs, .inl (cA, 76, .inl g0_legs)), (h0_account, .inl (cA, 304, .inl g0_account)), (h0_amount, .inl (cA, 304, .inl g0_amount)), (h0_stack, .inl (cA, 16, .inl u4))]) hS => ?_)
          obtain ⟨u6, e7, hf⟩ := hw_bind hf
          refine hw_iast hx hb hK hP hD hS 1 rfl e7 dX6_prove_96 (fun H locs (hP : va_P D vwCl [(h0_pad, .inl (cA, 16, .inl g0_pad)), (h0_others, .inl (cA, 16, .inl u6)), (h0, .inr (5, [.int x0_count, .ref h0_keys, .ref h0_legs, .ref h0_account, .ref h0_amount, .ref h0_seals, .ref h0_ends, .int x0_synced, .int x0_syncedEnd, .int x0_draft, .ref h0_draftAccount, .ref h0_draftAmount, .ref h0_limits, .ref h0_disk, .int x0_off, .int x0_failing, .int x0_written, .int x0_padded, .ref h0_pad, .ref h0_stack, .ref h0_firsts, .ref h0_others])), (h0_keys, .inl (cA, 76, .inl g0_keys)), (h0_legs, .inl (cA, 76, .inl g0_legs)), (h0_account, .inl (cA, 304, .inl g0_account)), (h0_amount, .inl (cA, 304, .inl g0_amount)), (h0_stack, .inl (cA, 16, .inl u4))] H) (hD : va_D A [(h0_pad, .inl (cA, 16, .inl g0_pad)), (h0_others, .inl (cA, 16, .inl u6)), (h0, .inr (5, [.int x0_count, .ref h0_keys, .ref h0_legs, .ref h0_account, .ref h0_amount, .ref h0_seals, .ref h0_ends, .int x0_synced, .int x0_syncedEnd, .int x0_draft, .ref h0_draftAccount, .ref h0_draftAmount, .ref h0_limits, .ref h0_disk, .int x0_off, .int x0_failing, .int x0_written, .int x0_padded, .ref h0_pad, .ref h0_stack, .ref h0_firsts, .ref h0_others])), (h0_keys, .inl (cA, 76, .inl g0_keys)), (h0_legs, .inl (cA, 76, .inl g0_legs)), (h0_account, .inl (cA, 304, .inl g0_account)), (h0_amount, .inl (cA, 304, .inl g0_amount)), (h0_stack, .inl (cA, 16, .inl u4))]) hS => ?_)
          refine lv_iload hx hb dX6_prove_97 (lv_at hl 0 rfl) ?_
          refine lv_if_eq (tgt := 107) hx hb dX6_prove_99 rfl (fun hc => ?_) (fun hc => absurd hc (by decide))
          refine lv_iload hx hb dX6_prove_107 (lv_at hl 4 rfl) ?_
          refine lv_iload hx hb dX6_prove_109 (lv_at hl 1 rfl) ?_
          refine lv_iadd hx hb dX6_prove_111 ?_
          refine lv_istore (lv' := [(4, .int (k4 + v1)), (8, .int (0 : Int32)), (7, .int v1), (0, .ref h0), (3, .int k3), (5, .int k5), (6, .int k6)]) hx hb dX6_prove_112 hl (by decide) rfl (fun ls hl => ?_)
          refine lv_iload hx hb dX6_prove_114 (lv_at hl 1 rfl) ?_
          refine lv_if_eq (tgt := 124) hx hb dX6_prove_116 rfl (fun hc => ?_) (fun hc => absurd hc (by decide))
          refine lv_iload hx hb dX6_prove_124 (lv_at hl 5 rfl) ?_
          refine lv_iload hx hb dX6_prove_126 (lv_at hl 2 rfl) ?_
          refine lv_isub hx hb dX6_prove_128 ?_
          refine lv_istore (lv' := [(5, .int (k5 - v1)), (4, .int (k4 + v1)), (8, .int (0 : Int32)), (7, .int v1), (0, .ref h0), (3, .int k3), (6, .int k6)]) hx hb dX6_prove_129 hl (by decide) rfl (fun ls hl => ?_)
          refine lv_iload hx hb dX6_prove_131 (lv_at hl 2 rfl) ?_
          refine lv_if_eq (tgt := 141) hx hb dX6_prove_133 rfl (fun hc => ?_) (fun hc => absurd hc (by decide))
          refine lv_iload hx hb dX6_prove_141 (lv_at hl 6 rfl) ?_
          refine lv_iload hx hb dX6_prove_143 (lv_at hl 3 rfl) ?_
          refine lv_isub hx hb dX6_prove_145 ?_
          refine lv_istore (lv' := [(6, .int (k6 - v1)), (5, .int (k5 - v1)), (4, .int (k4 + v1)), (8, .int (0 : Int32)), (7, .int v1), (0, .ref h0), (3, .int k3)]) hx hb dX6_prove_146 hl (by decide) rfl (fun ls hl => ?_)
          refine lv_iinc (v := k3 + (1 : Int32)) (lv' := [(3, .int (k3 + (1 : Int32))), (6, .int (k6 - v1)), (5, .int (k5 - v1)), (4, .int (k4 + v1)), (8, .int (0 : Int32)), (7, .int v1), (0, .ref h0)]) hx hb dX6_prove_148 hl (k := 6) rfl (congrArg (fun z => k3 + z) (by decide)) (by decide) rfl (fun ls hl => ?_)
          refine lv_goto (tgt := 34) hx hb dX6_prove_151 rfl ?_
          exact ih34 _ _ _ (k3 + (1 : Int32)) (k4 + v1) (k5 - v1) (k6 - v1) x0_padded g0_pad u4 u6 (lv_sub hl [6, 0, 3, 2, 1] rfl) (hP.sub [2, 3, 4, 5, 6, 0, 7, 1] rfl) (hD.sub [2, 3, 4, 5, 6, 0, 7, 1] (by decide) rfl) hS hf
        · refine lv_iconst (v := (1 : Int32)) hx hb dX6_prove_54 (by decide) ?_
          refine lv_goto (tgt := 59) hx hb dX6_prove_55 rfl ?_
          refine lv_istore (lv' := [(8, .int (1 : Int32)), (7, .int v1), (0, .ref h0), (3, .int k3), (4, .int k4), (5, .int k5), (6, .int k6)]) hx hb dX6_prove_59 hl (by decide) rfl (fun ls hl => ?_)
          refine lv_aload_n hx hb dX6_prove_61 rfl (lv_at hl 2 rfl) ?_
          refine va_get (D := D) (ci := 5) (v := .ref h0_others) (C := RX6) (T := TX6) (N := 22) hx hb hts in_X6 hown hK hP 0 rfl rfl 21 (by decide) (hts _ mw_353) (fun _ h9 => h9) rfl dX6_prove_62 ?_
          refine lv_iload_n hx hb dX6_prove_65 rfl (lv_at hl 3 rfl) ?_
          refine lv_iload hx hb dX6_prove_66 (lv_at hl 0 rfl) ?_
          refine lv_if_eq (tgt := 88) hx hb dX6_prove_68 rfl (fun hc => absurd hc (by decide)) (fun hc => ?_)
          refine lv_aload_n hx hb dX6_prove_71 rfl (lv_at hl 2 rfl) ?_
          refine lv_iload hx hb dX6_prove_72 (lv_at hl 4 rfl) ?_
          refine lv_iload hx hb dX6_prove_74 (lv_at hl 1 rfl) ?_
          refine lv_iadd hx hb dX6_prove_76 ?_
          refine lv_iload hx hb dX6_prove_77 (lv_at hl 6 rfl) ?_
          refine lv_iload hx hb dX6_prove_79 (lv_at hl 1 rfl) ?_
          refine lv_isub hx hb dX6_prove_81 ?_
          obtain ⟨⟨v8, u9⟩, e10, hf⟩ := hw_bind hf
          refine hw_goV (wr := [(h0_pad, .inl (cA, 16, .inl g0_pad)), (h0_others, .inl (cA, 16, .inl g0_others))]) (rest := [.int k3, .ref h0_others]) ⟨hx, hb, hml, hown, hts⟩ (cMo_hash l D cA cZ h0 h0_keys h0_legs h0_account h0_amount h0_seals h0_ends h0_draftAccount h0_draftAmount h0_limits h0_disk h0_pad h0_stack h0_firsts h0_others x0_count x0_synced x0_syncedEnd x0_draft x0_off x0_failing x0_written x0_padded g0_keys g0_legs g0_account g0_amount g0_stack (k4 + v1) (k6 - v1) v8 u9 e10) (cwV 2 hts ks_X6_127 rfl rfl rfl (by decide +kernel) ⟨Nat.le_of_ble_eq_true rfl, Nat.le_of_ble_eq_true rfl⟩) 0 rfl rfl [0, 1, 2, 3, 4, 6] [5, 7] rfl rfl (by decide) (by decide) (by decide) hK hE hP hD hS hA hl.1 rfl rfl (Nat.le_of_ble_eq_true rfl) dX6_prove_82 ⟨Nat.zero_le _, Nat.zero_le _⟩ (fun H locs (hP : va_P D vwCl [(h0_pad, .inl (cA, 16, .inl g0_pad)), (h0_others, .inl (cA, 16, .inl g0_others)), (h0, .inr (5, [.int x0_count, .ref h0_keys, .ref h0_legs, .ref h0_account, .ref h0_amount, .ref h0_seals, .ref h0_ends, .int x0_synced, .int x0_syncedEnd, .int x0_draft, .ref h0_draftAccount, .ref h0_draftAmount, .ref h0_limits, .ref h0_disk, .int x0_off, .int x0_failing, .int x0_written, .int x0_padded, .ref h0_pad, .ref h0_stack, .ref h0_firsts, .ref h0_others])), (h0_keys, .inl (cA, 76, .inl g0_keys)), (h0_legs, .inl (cA, 76, .inl g0_legs)), (h0_account, .inl (cA, 304, .inl g0_account)), (h0_amount, .inl (cA, 304, .inl g0_amount)), (h0_stack, .inl (cA, 16, .inl u9))] H) (hD : va_D A [(h0_pad, .inl (cA, 16, .inl g0_pad)), (h0_others, .inl (cA, 16, .inl g0_others)), (h0, .inr (5, [.int x0_count, .ref h0_keys, .ref h0_legs, .ref h0_account, .ref h0_amount, .ref h0_seals, .ref h0_ends, .int x0_synced, .int x0_syncedEnd, .int x0_draft, .ref h0_draftAccount, .ref h0_draftAmount, .ref h0_limits, .ref h0_disk, .int x0_off, .int x0_failing, .int x0_written, .int x0_padded, .ref h0_pad, .ref h0_stack, .ref h0_firsts, .ref h0_others])), (h0_keys, .inl (cA, 76, .inl g0_keys)), (h0_legs, .inl (cA, 76, .inl g0_legs)), (h0_account, .inl (cA, 304, .inl g0_account)), (h0_amount, .inl (cA, 304, .inl g0_amount)), (h0_stack, .inl (cA, 16, .inl u9))]) hS => ?_)
          refine lv_goto (tgt := 96) hx hb dX6_prove_85 rfl ?_
          obtain ⟨u11, e12, hf⟩ := hw_bind hf
          refine hw_iast hx hb hK hP hD hS 1 rfl e12 dX6_prove_96 (fun H locs (hP : va_P D vwCl [(h0_pad, .inl (cA, 16, .inl g0_pad)), (h0_others, .inl (cA, 16, .inl u11)), (h0, .inr (5, [.int x0_count, .ref h0_keys, .ref h0_legs, .ref h0_account, .ref h0_amount, .ref h0_seals, .ref h0_ends, .int x0_synced, .int x0_syncedEnd, .int x0_draft, .ref h0_draftAccount, .ref h0_draftAmount, .ref h0_limits, .ref h0_disk, .int x0_off, .int x0_failing, .int x0_written, .int x0_padded, .ref h0_pad, .ref h0_stack, .ref h0_firsts, .ref h0_others])), (h0_keys, .inl (cA, 76, .inl g0_keys)), (h0_legs, .inl (cA, 76, .inl g0_legs)), (h0_account, .inl (cA, 304, .inl g0_account)), (h0_amount, .inl (cA, 304, .inl g0_amount)), (h0_stack, .inl (cA, 16, .inl u9))] H) (hD : va_D A [(h0_pad, .inl (cA, 16, .inl g0_pad)), (h0_others, .inl (cA, 16, .inl u11)), (h0, .inr (5, [.int x0_count, .ref h0_keys, .ref h0_legs, .ref h0_account, .ref h0_amount, .ref h0_seals, .ref h0_ends, .int x0_synced, .int x0_syncedEnd, .int x0_draft, .ref h0_draftAccount, .ref h0_draftAmount, .ref h0_limits, .ref h0_disk, .int x0_off, .int x0_failing, .int x0_written, .int x0_padded, .ref h0_pad, .ref h0_stack, .ref h0_firsts, .ref h0_others])), (h0_keys, .inl (cA, 76, .inl g0_keys)), (h0_legs, .inl (cA, 76, .inl g0_legs)), (h0_account, .inl (cA, 304, .inl g0_account)), (h0_amount, .inl (cA, 304, .inl g0_amount)), (h0_stack, .inl (cA, 16, .inl u9))]) hS => ?_)
          refine lv_iload hx hb dX6_prove_97 (lv_at hl 0 rfl) ?_
          refine lv_if_eq (tgt := 107) hx hb dX6_prove_99 rfl (fun hc => absurd hc (by decide)) (fun hc => ?_)
          refine lv_iload hx hb dX6_prove_102 (lv_at hl 4 rfl) ?_
          refine lv_goto (tgt := 112) hx hb dX6_prove_104 rfl ?_
          refine lv_istore (lv' := [(4, .int k4), (8, .int (1 : Int32)), (7, .int v1), (0, .ref h0), (3, .int k3), (5, .int k5), (6, .int k6)]) hx hb dX6_prove_112 hl (by decide) rfl (fun ls hl => ?_)
          refine lv_iload hx hb dX6_prove_114 (lv_at hl 1 rfl) ?_
          refine lv_if_eq (tgt := 124) hx hb dX6_prove_116 rfl (fun hc => absurd hc (by decide)) (fun hc => ?_)
          refine lv_iload hx hb dX6_prove_119 (lv_at hl 5 rfl) ?_
          refine lv_goto (tgt := 129) hx hb dX6_prove_121 rfl ?_
          refine lv_istore (lv' := [(5, .int k5), (4, .int k4), (8, .int (1 : Int32)), (7, .int v1), (0, .ref h0), (3, .int k3), (6, .int k6)]) hx hb dX6_prove_129 hl (by decide) rfl (fun ls hl => ?_)
          refine lv_iload hx hb dX6_prove_131 (lv_at hl 2 rfl) ?_
          refine lv_if_eq (tgt := 141) hx hb dX6_prove_133 rfl (fun hc => absurd hc (by decide)) (fun hc => ?_)
          refine lv_iload hx hb dX6_prove_136 (lv_at hl 3 rfl) ?_
          refine lv_goto (tgt := 146) hx hb dX6_prove_138 rfl ?_
          refine lv_istore (lv' := [(6, .int v1), (5, .int k5), (4, .int k4), (8, .int (1 : Int32)), (7, .int v1), (0, .ref h0), (3, .int k3)]) hx hb dX6_prove_146 hl (by decide) rfl (fun ls hl => ?_)
          refine lv_iinc (v := k3 + (1 : Int32)) (lv' := [(3, .int (k3 + (1 : Int32))), (6, .int v1), (5, .int k5), (4, .int k4), (8, .int (1 : Int32)), (7, .int v1), (0, .ref h0)]) hx hb dX6_prove_148 hl (k := 6) rfl (congrArg (fun z => k3 + z) (by decide)) (by decide) rfl (fun ls hl => ?_)
          refine lv_goto (tgt := 34) hx hb dX6_prove_151 rfl ?_
          exact ih34 _ _ _ (k3 + (1 : Int32)) k4 k5 v1 x0_padded g0_pad u9 u11 (lv_sub hl [6, 0, 3, 2, 1] rfl) (hP.sub [2, 3, 4, 5, 6, 0, 7, 1] rfl) (hD.sub [2, 3, 4, 5, 6, 0, 7, 1] (by decide) rfl) hS hf
  rw [fMo_prove] at hf
  refine lv_iload_n hx hb dX6_prove_0 rfl (lv_at hl 2 rfl) ?_
  refine hi_if_lt (tgt := 21) hx hb dX6_prove_1 rfl hf (fun hc hf => ?_) (fun hc hf => ?_)
  · refine lv_iconst (v := (-1 : Int32)) hx hb dX6_prove_21 (by decide) ?_
    cases hf
    exact hw_ri hx hb hr hlk (hP.sub [0, 1, 2, 3, 4, 5, 6, 7] rfl) (hD.sub [0, 1, 2, 3, 4, 5, 6, 7] (by decide) rfl) hS dX6_prove_22
  · refine lv_iload_n hx hb dX6_prove_4 rfl (lv_at hl 2 rfl) ?_
    refine lv_aload_n hx hb dX6_prove_5 rfl (lv_at hl 0 rfl) ?_
    refine va_get (D := D) (ci := 5) (v := .int x0_synced) (C := RX6) (T := TX6) (N := 22) hx hb hts in_X6 hown hK hP 0 rfl rfl 7 (by decide) (hts _ mw_407) (fun _ h9 => h9) rfl dX6_prove_6 ?_
    refine hi_icmp_gt (tgt := 21) hx hb dX6_prove_9 rfl hf (fun hc hf => ?_) (fun hc hf => ?_)
    · refine lv_iconst (v := (-1 : Int32)) hx hb dX6_prove_21 (by decide) ?_
      cases hf
      exact hw_ri hx hb hr hlk (hP.sub [0, 1, 2, 3, 4, 5, 6, 7] rfl) (hD.sub [0, 1, 2, 3, 4, 5, 6, 7] (by decide) rfl) hS dX6_prove_22
    · refine lv_iload_n hx hb dX6_prove_12 rfl (lv_at hl 1 rfl) ?_
      refine hi_if_lt (tgt := 21) hx hb dX6_prove_13 rfl hf (fun hc hf => ?_) (fun hc hf => ?_)
      · refine lv_iconst (v := (-1 : Int32)) hx hb dX6_prove_21 (by decide) ?_
        cases hf
        exact hw_ri hx hb hr hlk (hP.sub [0, 1, 2, 3, 4, 5, 6, 7] rfl) (hD.sub [0, 1, 2, 3, 4, 5, 6, 7] (by decide) rfl) hS dX6_prove_22
      · refine lv_iload_n hx hb dX6_prove_16 rfl (lv_at hl 1 rfl) ?_
        refine lv_iload_n hx hb dX6_prove_17 rfl (lv_at hl 2 rfl) ?_
        refine hi_icmp_lt (tgt := 23) hx hb dX6_prove_18 rfl hf (fun hc hf => ?_) (fun hc hf => ?_)
        · refine lv_iconst (v := (0 : Int32)) hx hb dX6_prove_23 (by decide) ?_
          refine lv_istore_n (lv' := [(3, .int (0 : Int32)), (0, .ref h0), (1, .int k1), (2, .int k2)]) hx hb dX6_prove_24 rfl hl (by decide) rfl (fun ls hl => ?_)
          refine lv_iconst (v := (0 : Int32)) hx hb dX6_prove_25 (by decide) ?_
          refine lv_istore (lv' := [(4, .int (0 : Int32)), (3, .int (0 : Int32)), (0, .ref h0), (1, .int k1), (2, .int k2)]) hx hb dX6_prove_26 hl (by decide) rfl (fun ls hl => ?_)
          refine lv_iload_n hx hb dX6_prove_28 rfl (lv_at hl 3 rfl) ?_
          refine lv_istore (lv' := [(5, .int k1), (4, .int (0 : Int32)), (3, .int (0 : Int32)), (0, .ref h0), (1, .int k1), (2, .int k2)]) hx hb dX6_prove_29 hl (by decide) rfl (fun ls hl => ?_)
          refine lv_iload_n hx hb dX6_prove_31 rfl (lv_at hl 5 rfl) ?_
          refine lv_istore (lv' := [(6, .int k2), (5, .int k1), (4, .int (0 : Int32)), (3, .int (0 : Int32)), (0, .ref h0), (1, .int k1), (2, .int k2)]) hx hb dX6_prove_32 hl (by decide) rfl (fun ls hl => ?_)
          exact L34 600 _ _ _ (0 : Int32) (0 : Int32) k1 k2 x0_padded g0_pad g0_stack g0_others (lv_sub hl [4, 3, 2, 1, 0] rfl) (hP.sub [0, 1, 2, 3, 4, 5, 6, 7] rfl) (hD.sub [0, 1, 2, 3, 4, 5, 6, 7] (by decide) rfl) hS hf
        · refine lv_iconst (v := (-1 : Int32)) hx hb dX6_prove_21 (by decide) ?_
          cases hf
          exact hw_ri hx hb hr hlk (hP.sub [0, 1, 2, 3, 4, 5, 6, 7] rfl) (hD.sub [0, 1, 2, 3, 4, 5, 6, 7] (by decide) rfl) hS dX6_prove_22
set_option maxHeartbeats 4000000 in
set_option maxRecDepth 100000 in
theorem cMo_extend (l : Launch) (D : va_G) (cA cZ : ClassId) (h0 : Nat) (h0_keys : Nat) (h0_legs : Nat) (h0_account : Nat) (h0_amount : Nat) (h0_seals : Nat) (h0_ends : Nat) (h0_draftAccount : Nat) (h0_draftAmount : Nat) (h0_limits : Nat) (h0_disk : Nat) (h0_pad : Nat) (h0_stack : Nat) (h0_firsts : Nat) (h0_others : Nat) (x0_count : Int32) (x0_synced : Int32) (x0_syncedEnd : Int32) (x0_draft : Int32) (x0_off : Int32) (x0_failing : Int32) (x0_written : Int32) (x0_padded : Int32) (g0_keys : Nat → Int32) (g0_legs : Nat → Int32) (g0_account : Nat → Int32) (g0_amount : Nat → Int32) (g0_pad : Nat → Int32) (g0_stack : Nat → Int32) (g0_others : Nat → Int32) (k1 : Int32) (k2 : Int32) (rr : Int32) (ox0_padded : Int32) (og0_pad : Nat → Int32) (og0_stack : Nat → Int32) (og0_others : Nat → Int32) (hf : fMo_extend x0_synced x0_padded g0_keys g0_legs g0_account g0_amount g0_pad g0_stack g0_others k1 k2 = some (rr, ox0_padded, og0_pad, og0_stack, og0_others)) : hw_C l yX6_extend wX6_extend { frames := 3, cells := 0, slots := 0, locals := 72 } D vwCl cA cZ [.ref h0, .int k1, .int k2] [(h0, .inr (5, [.int x0_count, .ref h0_keys, .ref h0_legs, .ref h0_account, .ref h0_amount, .ref h0_seals, .ref h0_ends, .int x0_synced, .int x0_syncedEnd, .int x0_draft, .ref h0_draftAccount, .ref h0_draftAmount, .ref h0_limits, .ref h0_disk, .int x0_off, .int x0_failing, .int x0_written, .int x0_padded, .ref h0_pad, .ref h0_stack, .ref h0_firsts, .ref h0_others])), (h0_keys, .inl (cA, 76, .inl g0_keys)), (h0_legs, .inl (cA, 76, .inl g0_legs)), (h0_account, .inl (cA, 304, .inl g0_account)), (h0_amount, .inl (cA, 304, .inl g0_amount)), (h0_pad, .inl (cA, 16, .inl g0_pad)), (h0_stack, .inl (cA, 16, .inl g0_stack)), (h0_others, .inl (cA, 16, .inl g0_others))] [(h0, .inr (5, [.int x0_count, .ref h0_keys, .ref h0_legs, .ref h0_account, .ref h0_amount, .ref h0_seals, .ref h0_ends, .int x0_synced, .int x0_syncedEnd, .int x0_draft, .ref h0_draftAccount, .ref h0_draftAmount, .ref h0_limits, .ref h0_disk, .int x0_off, .int x0_failing, .int x0_written, .int ox0_padded, .ref h0_pad, .ref h0_stack, .ref h0_firsts, .ref h0_others])), (h0_keys, .inl (cA, 76, .inl g0_keys)), (h0_legs, .inl (cA, 76, .inl g0_legs)), (h0_account, .inl (cA, 304, .inl g0_account)), (h0_amount, .inl (cA, 304, .inl g0_amount)), (h0_pad, .inl (cA, 16, .inl og0_pad)), (h0_stack, .inl (cA, 16, .inl og0_stack)), (h0_others, .inl (cA, 16, .inl og0_others))] (some (.int rr)) := by
  refine hw_of (cc := cX6_extend) (maxL := 10) (ret := (some .int)) (by decide) rfl (Nat.le_of_ble_eq_true rfl) ?_
  intro p e s m args below meth c A ls hx hb hr hlk hml hown hts hA hK hE hP hD hS hl
  have hown : s.vm.findClass RX6 = some m.cls := hown
  have hl : lv_has ls 10 [(0, .ref h0), (1, .int k1), (2, .int k2)] := hl
  have L203 : ∀ (n203 : Nat) (ls : Array Slot) (H : Heap) (locs : List Loc) (k8 : Int32) (x0_padded : Int32) (g0_pad : Nat → Int32) (g0_stack : Nat → Int32) (g0_others : Nat → Int32), lv_has ls 10 [(0, .ref h0), (8, .int k8)] → va_P D vwCl [(h0, .inr (5, [.int x0_count, .ref h0_keys, .ref h0_legs, .ref h0_account, .ref h0_amount, .ref h0_seals, .ref h0_ends, .int x0_synced, .int x0_syncedEnd, .int x0_draft, .ref h0_draftAccount, .ref h0_draftAmount, .ref h0_limits, .ref h0_disk, .int x0_off, .int x0_failing, .int x0_written, .int x0_padded, .ref h0_pad, .ref h0_stack, .ref h0_firsts, .ref h0_others])), (h0_keys, .inl (cA, 76, .inl g0_keys)), (h0_legs, .inl (cA, 76, .inl g0_legs)), (h0_account, .inl (cA, 304, .inl g0_account)), (h0_amount, .inl (cA, 304, .inl g0_amount)), (h0_pad, .inl (cA, 16, .inl g0_pad)), (h0_stack, .inl (cA, 16, .inl g0_stack)), (h0_others, .inl (cA, 16, .inl g0_others))] H → va_D A [(h0, .inr (5, [.int x0_count, .ref h0_keys, .ref h0_legs, .ref h0_account, .ref h0_amount, .ref h0_seals, .ref h0_ends, .int x0_synced, .int x0_syncedEnd, .int x0_draft, .ref h0_draftAccount, .ref h0_draftAmount, .ref h0_limits, .ref h0_disk, .int x0_off, .int x0_failing, .int x0_written, .int x0_padded, .ref h0_pad, .ref h0_stack, .ref h0_firsts, .ref h0_others])), (h0_keys, .inl (cA, 76, .inl g0_keys)), (h0_legs, .inl (cA, 76, .inl g0_legs)), (h0_account, .inl (cA, 304, .inl g0_account)), (h0_amount, .inl (cA, 304, .inl g0_amount)), (h0_pad, .inl (cA, 16, .inl g0_pad)), (h0_stack, .inl (cA, 16, .inl g0_stack)), (h0_others, .inl (cA, 16, .inl g0_others))] → va_S A s.heap H locs → fMo_extend_L203 x0_synced g0_keys g0_legs g0_account g0_amount n203 k8 x0_padded g0_pad g0_stack g0_others = some (rr, ox0_padded, og0_pad, og0_stack, og0_others) → W p l e { frames := 3, cells := 0, slots := 0, locals := 72 } s m args below meth c H locs 0 0 (hw_Z below args s D vwCl A [(h0, .inr (5, [.int x0_count, .ref h0_keys, .ref h0_legs, .ref h0_account, .ref h0_amount, .ref h0_seals, .ref h0_ends, .int x0_synced, .int x0_syncedEnd, .int x0_draft, .ref h0_draftAccount, .ref h0_draftAmount, .ref h0_limits, .ref h0_disk, .int x0_off, .int x0_failing, .int x0_written, .int ox0_padded, .ref h0_pad, .ref h0_stack, .ref h0_firsts, .ref h0_others])), (h0_keys, .inl (cA, 76, .inl g0_keys)), (h0_legs, .inl (cA, 76, .inl g0_legs)), (h0_account, .inl (cA, 304, .inl g0_account)), (h0_amount, .inl (cA, 304, .inl g0_amount)), (h0_pad, .inl (cA, 16, .inl og0_pad)), (h0_stack, .inl (cA, 16, .inl og0_stack)), (h0_others, .inl (cA, 16, .inl og0_others))] (some (.int rr))) (F0 m 203 ls []) := by
    intro n203
    induction n203 with
    | zero => intro ls H locs k8 x0_padded g0_pad g0_stack g0_others hl hP hD hS hf; simp only [fMo_extend_L203] at hf; cases hf
    | succ n203 ih203 =>
      intro ls H locs k8 x0_padded g0_pad g0_stack g0_others hl hP hD hS hf
      rw [fMo_extend_L203] at hf
      refine lv_iload hx hb dX6_extend_203 (lv_at hl 1 rfl) ?_
      refine hi_if_lt (tgt := 225) hx hb dX6_extend_205 rfl hf (fun hc hf => ?_) (fun hc hf => ?_)
      · refine lv_aload_n hx hb dX6_extend_225 rfl (lv_at hl 0 rfl) ?_
        refine va_get (D := D) (ci := 5) (v := .int x0_padded) (C := RX6) (T := TX6) (N := 22) hx hb hts in_X6 hown hK hP 0 rfl rfl 17 (by decide) (hts _ mw_436) (fun _ h9 => h9) rfl dX6_extend_226 ?_
        cases hf
        exact hw_ri hx hb hr hlk (hP.sub [0, 1, 2, 3, 4, 5, 6, 7] rfl) (hD.sub [0, 1, 2, 3, 4, 5, 6, 7] (by decide) rfl) hS dX6_extend_229
      · refine lv_aload_n hx hb dX6_extend_208 rfl (lv_at hl 0 rfl) ?_
        refine lv_aload_n hx hb dX6_extend_209 rfl (lv_at hl 0 rfl) ?_
        refine va_get (D := D) (ci := 5) (v := .ref h0_others) (C := RX6) (T := TX6) (N := 22) hx hb hts in_X6 hown hK hP 0 rfl rfl 21 (by decide) (hts _ mw_353) (fun _ h9 => h9) rfl dX6_extend_210 ?_
        refine lv_iload hx hb dX6_extend_213 (lv_at hl 1 rfl) ?_
        obtain ⟨v19, e20, hf⟩ := hw_bind hf
        refine hw_iald hx hb hK hP 7 rfl e20 dX6_extend_215 ?_
        obtain ⟨⟨u21, u22⟩, e23, hf⟩ := hw_bind hf
        refine hw_goV (wr := [(h0_keys, .inl (cA, 76, .inl g0_keys)), (h0_legs, .inl (cA, 76, .inl g0_legs)), (h0_account, .inl (cA, 304, .inl g0_account)), (h0_amount, .inl (cA, 304, .inl g0_amount)), (h0_stack, .inl (cA, 16, .inl g0_stack)), (h0_others, .inl (cA, 16, .inl g0_others))]) (rest := []) ⟨hx, hb, hml, hown, hts⟩ (cMo_lay l D cA cZ h0 h0_keys h0_legs h0_account h0_amount h0_seals h0_ends h0_draftAccount h0_draftAmount h0_limits h0_disk h0_pad h0_stack h0_firsts h0_others x0_count x0_synced x0_syncedEnd x0_draft x0_off x0_failing x0_written x0_padded g0_pad v19 u21 u22 e23) (cwV 1 hts ks_X6_136 rfl rfl rfl (by decide +kernel) ⟨Nat.le_of_ble_eq_true rfl, Nat.le_of_ble_eq_true rfl⟩) 0 rfl rfl [0, 5] [1, 2, 3, 4, 6, 7] rfl rfl (by decide) (by decide) (by decide) hK hE hP hD hS hA hl.1 rfl rfl (Nat.le_of_ble_eq_true rfl) dX6_extend_216 ⟨Nat.zero_le _, Nat.zero_le _⟩ (fun H locs (hP : va_P D vwCl [(h0_keys, .inl (cA, 76, .inl g0_keys)), (h0_legs, .inl (cA, 76, .inl g0_legs)), (h0_account, .inl (cA, 304, .inl g0_account)), (h0_amount, .inl (cA, 304, .inl g0_amount)), (h0_stack, .inl (cA, 16, .inl g0_stack)), (h0_others, .inl (cA, 16, .inl g0_others)), (h0, .inr (5, [.int x0_count, .ref h0_keys, .ref h0_legs, .ref h0_account, .ref h0_amount, .ref h0_seals, .ref h0_ends, .int x0_synced, .int x0_syncedEnd, .int x0_draft, .ref h0_draftAccount, .ref h0_draftAmount, .ref h0_limits, .ref h0_disk, .int x0_off, .int x0_failing, .int x0_written, .int u21, .ref h0_pad, .ref h0_stack, .ref h0_firsts, .ref h0_others])), (h0_pad, .inl (cA, 16, .inl u22))] H) (hD : va_D A [(h0_keys, .inl (cA, 76, .inl g0_keys)), (h0_legs, .inl (cA, 76, .inl g0_legs)), (h0_account, .inl (cA, 304, .inl g0_account)), (h0_amount, .inl (cA, 304, .inl g0_amount)), (h0_stack, .inl (cA, 16, .inl g0_stack)), (h0_others, .inl (cA, 16, .inl g0_others)), (h0, .inr (5, [.int x0_count, .ref h0_keys, .ref h0_legs, .ref h0_account, .ref h0_amount, .ref h0_seals, .ref h0_ends, .int x0_synced, .int x0_syncedEnd, .int x0_draft, .ref h0_draftAccount, .ref h0_draftAmount, .ref h0_limits, .ref h0_disk, .int x0_off, .int x0_failing, .int x0_written, .int u21, .ref h0_pad, .ref h0_stack, .ref h0_firsts, .ref h0_others])), (h0_pad, .inl (cA, 16, .inl u22))]) hS => ?_)
        refine lv_iinc (v := k8 + (-1 : Int32)) (lv' := [(8, .int (k8 + (-1 : Int32))), (0, .ref h0)]) hx hb dX6_extend_219 hl (k := 1) rfl (congrArg (fun z => k8 + z) (by decide)) (by decide) rfl (fun ls hl => ?_)
        refine lv_goto (tgt := 203) hx hb dX6_extend_222 rfl ?_
        exact ih203 _ _ _ (k8 + (-1 : Int32)) u21 u22 g0_stack g0_others (lv_sub hl [1, 0] rfl) (hP.sub [6, 0, 1, 2, 3, 7, 4, 5] rfl) (hD.sub [6, 0, 1, 2, 3, 7, 4, 5] (by decide) rfl) hS hf
  have L38 : ∀ (n38 : Nat) (ls : Array Slot) (H : Heap) (locs : List Loc) (k3 : Int32) (k4 : Int32) (k5 : Int32) (k6 : Int32) (k7 : Int32) (x0_padded : Int32) (g0_pad : Nat → Int32) (g0_stack : Nat → Int32) (g0_others : Nat → Int32), lv_has ls 10 [(0, .ref h0), (3, .int k3), (4, .int k4), (5, .int k5), (6, .int k6), (7, .int k7)] → va_P D vwCl [(h0, .inr (5, [.int x0_count, .ref h0_keys, .ref h0_legs, .ref h0_account, .ref h0_amount, .ref h0_seals, .ref h0_ends, .int x0_synced, .int x0_syncedEnd, .int x0_draft, .ref h0_draftAccount, .ref h0_draftAmount, .ref h0_limits, .ref h0_disk, .int x0_off, .int x0_failing, .int x0_written, .int x0_padded, .ref h0_pad, .ref h0_stack, .ref h0_firsts, .ref h0_others])), (h0_keys, .inl (cA, 76, .inl g0_keys)), (h0_legs, .inl (cA, 76, .inl g0_legs)), (h0_account, .inl (cA, 304, .inl g0_account)), (h0_amount, .inl (cA, 304, .inl g0_amount)), (h0_pad, .inl (cA, 16, .inl g0_pad)), (h0_stack, .inl (cA, 16, .inl g0_stack)), (h0_others, .inl (cA, 16, .inl g0_others))] H → va_D A [(h0, .inr (5, [.int x0_count, .ref h0_keys, .ref h0_legs, .ref h0_account, .ref h0_amount, .ref h0_seals, .ref h0_ends, .int x0_synced, .int x0_syncedEnd, .int x0_draft, .ref h0_draftAccount, .ref h0_draftAmount, .ref h0_limits, .ref h0_disk, .int x0_off, .int x0_failing, .int x0_written, .int x0_padded, .ref h0_pad, .ref h0_stack, .ref h0_firsts, .ref h0_others])), (h0_keys, .inl (cA, 76, .inl g0_keys)), (h0_legs, .inl (cA, 76, .inl g0_legs)), (h0_account, .inl (cA, 304, .inl g0_account)), (h0_amount, .inl (cA, 304, .inl g0_amount)), (h0_pad, .inl (cA, 16, .inl g0_pad)), (h0_stack, .inl (cA, 16, .inl g0_stack)), (h0_others, .inl (cA, 16, .inl g0_others))] → va_S A s.heap H locs → fMo_extend_L38 x0_synced g0_keys g0_legs g0_account g0_amount n38 k3 k4 k5 k6 k7 x0_padded g0_pad g0_stack g0_others = some (rr, ox0_padded, og0_pad, og0_stack, og0_others) → W p l e { frames := 3, cells := 0, slots := 0, locals := 72 } s m args below meth c H locs 0 0 (hw_Z below args s D vwCl A [(h0, .inr (5, [.int x0_count, .ref h0_keys, .ref h0_legs, .ref h0_account, .ref h0_amount, .ref h0_seals, .ref h0_ends, .int x0_synced, .int x0_syncedEnd, .int x0_draft, .ref h0_draftAccount, .ref h0_draftAmount, .ref h0_limits, .ref h0_disk, .int x0_off, .int x0_failing, .int x0_written, .int ox0_padded, .ref h0_pad, .ref h0_stack, .ref h0_firsts, .ref h0_others])), (h0_keys, .inl (cA, 76, .inl g0_keys)), (h0_legs, .inl (cA, 76, .inl g0_legs)), (h0_account, .inl (cA, 304, .inl g0_account)), (h0_amount, .inl (cA, 304, .inl g0_amount)), (h0_pad, .inl (cA, 16, .inl og0_pad)), (h0_stack, .inl (cA, 16, .inl og0_stack)), (h0_others, .inl (cA, 16, .inl og0_others))] (some (.int rr))) (F0 m 38 ls []) := by
    intro n38
    induction n38 with
    | zero => intro ls H locs k3 k4 k5 k6 k7 x0_padded g0_pad g0_stack g0_others hl hP hD hS hf; simp only [fMo_extend_L38] at hf; cases hf
    | succ n38 ih38 =>
      intro ls H locs k3 k4 k5 k6 k7 x0_padded g0_pad g0_stack g0_others hl hP hD hS hf
      rw [fMo_extend_L38] at hf
      refine lv_iload hx hb dX6_extend_38 (lv_at hl 3 rfl) ?_
      refine lv_iload hx hb dX6_extend_40 (lv_at hl 4 rfl) ?_
      refine hi_icmp_eq (tgt := 176) hx hb dX6_extend_42 rfl hf (fun hc hf => ?_) (fun hc hf => ?_)
      · refine lv_aload_n hx hb dX6_extend_176 rfl (lv_at hl 0 rfl) ?_
        refine lv_iconst (v := (0 : Int32)) hx hb dX6_extend_177 (by decide) ?_
        refine va_put (D := D) (ci := 5) (v := .int (0 : Int32)) (ty := .int) (C := RX6) (T := TX6) (N := 22) hx hb hts in_X6 tyX6 tyX6_ok nX6 hown hK hP hD hS 0 rfl rfl 17 (by decide) (hts _ mw_436) (fun _ h9 => h9) rfl (by decide +kernel) rfl rfl (Nat.le_of_ble_eq_true rfl) dX6_extend_178 (fun H locs (hP : va_P D vwCl [(h0, .inr (5, [.int x0_count, .ref h0_keys, .ref h0_legs, .ref h0_account, .ref h0_amount, .ref h0_seals, .ref h0_ends, .int x0_synced, .int x0_syncedEnd, .int x0_draft, .ref h0_draftAccount, .ref h0_draftAmount, .ref h0_limits, .ref h0_disk, .int x0_off, .int x0_failing, .int x0_written, .int (0 : Int32), .ref h0_pad, .ref h0_stack, .ref h0_firsts, .ref h0_others])), (h0_keys, .inl (cA, 76, .inl g0_keys)), (h0_legs, .inl (cA, 76, .inl g0_legs)), (h0_account, .inl (cA, 304, .inl g0_account)), (h0_amount, .inl (cA, 304, .inl g0_amount)), (h0_pad, .inl (cA, 16, .inl g0_pad)), (h0_stack, .inl (cA, 16, .inl g0_stack)), (h0_others, .inl (cA, 16, .inl g0_others))] H) (hD : va_D A [(h0, .inr (5, [.int x0_count, .ref h0_keys, .ref h0_legs, .ref h0_account, .ref h0_amount, .ref h0_seals, .ref h0_ends, .int x0_synced, .int x0_syncedEnd, .int x0_draft, .ref h0_draftAccount, .ref h0_draftAmount, .ref h0_limits, .ref h0_disk, .int x0_off, .int x0_failing, .int x0_written, .int (0 : Int32), .ref h0_pad, .ref h0_stack, .ref h0_firsts, .ref h0_others])), (h0_keys, .inl (cA, 76, .inl g0_keys)), (h0_legs, .inl (cA, 76, .inl g0_legs)), (h0_account, .inl (cA, 304, .inl g0_account)), (h0_amount, .inl (cA, 304, .inl g0_amount)), (h0_pad, .inl (cA, 16, .inl g0_pad)), (h0_stack, .inl (cA, 16, .inl g0_stack)), (h0_others, .inl (cA, 16, .inl g0_others))]) hS => ?_)
        refine lv_iload hx hb dX6_extend_181 (lv_at hl 5 rfl) ?_
        refine hi_if_ne (tgt := 198) hx hb dX6_extend_183 rfl hf (fun hc hf => ?_) (fun hc hf => ?_)
        · refine lv_iload_n hx hb dX6_extend_198 rfl (lv_at hl 1 rfl) ?_
          refine lv_iconst (v := (1 : Int32)) hx hb dX6_extend_199 (by decide) ?_
          refine lv_isub hx hb dX6_extend_200 ?_
          refine lv_istore (lv' := [(8, .int (k3 - (1 : Int32))), (0, .ref h0), (3, .int k3), (4, .int k4), (5, .int k5), (6, .int k6), (7, .int k7)]) hx hb dX6_extend_201 hl (by decide) rfl (fun ls hl => ?_)
          exact L203 600 _ _ _ (k3 - (1 : Int32)) (0 : Int32) g0_pad g0_stack g0_others (lv_sub hl [1, 0] rfl) (hP.sub [0, 1, 2, 3, 4, 5, 6, 7] rfl) (hD.sub [0, 1, 2, 3, 4, 5, 6, 7] (by decide) rfl) hS hf
        · refine lv_aload_n hx hb dX6_extend_186 rfl (lv_at hl 0 rfl) ?_
          refine lv_aload_n hx hb dX6_extend_187 rfl (lv_at hl 0 rfl) ?_
          refine lv_iload hx hb dX6_extend_188 (lv_at hl 2 rfl) ?_
          refine lv_iload hx hb dX6_extend_190 (lv_at hl 4 rfl) ?_
          obtain ⟨⟨v1, u2⟩, e3, hf⟩ := hw_bind hf
          refine hw_goV (wr := [(h0_pad, .inl (cA, 16, .inl g0_pad)), (h0_others, .inl (cA, 16, .inl g0_others))]) (rest := [.ref h0]) ⟨hx, hb, hml, hown, hts⟩ (cMo_hash l D cA cZ h0 h0_keys h0_legs h0_account h0_amount h0_seals h0_ends h0_draftAccount h0_draftAmount h0_limits h0_disk h0_pad h0_stack h0_firsts h0_others x0_count x0_synced x0_syncedEnd x0_draft x0_off x0_failing x0_written (0 : Int32) g0_keys g0_legs g0_account g0_amount g0_stack k4 k6 v1 u2 e3) (cwV 2 hts ks_X6_127 rfl rfl rfl (by decide +kernel) ⟨Nat.le_of_ble_eq_true rfl, Nat.le_of_ble_eq_true rfl⟩) 0 rfl rfl [0, 1, 2, 3, 4, 6] [5, 7] rfl rfl (by decide) (by decide) (by decide) hK hE hP hD hS hA hl.1 rfl rfl (Nat.le_of_ble_eq_true rfl) dX6_extend_192 ⟨Nat.zero_le _, Nat.zero_le _⟩ (fun H locs (hP : va_P D vwCl [(h0_pad, .inl (cA, 16, .inl g0_pad)), (h0_others, .inl (cA, 16, .inl g0_others)), (h0, .inr (5, [.int x0_count, .ref h0_keys, .ref h0_legs, .ref h0_account, .ref h0_amount, .ref h0_seals, .ref h0_ends, .int x0_synced, .int x0_syncedEnd, .int x0_draft, .ref h0_draftAccount, .ref h0_draftAmount, .ref h0_limits, .ref h0_disk, .int x0_off, .int x0_failing, .int x0_written, .int (0 : Int32), .ref h0_pad, .ref h0_stack, .ref h0_firsts, .ref h0_others])), (h0_keys, .inl (cA, 76, .inl g0_keys)), (h0_legs, .inl (cA, 76, .inl g0_legs)), (h0_account, .inl (cA, 304, .inl g0_account)), (h0_amount, .inl (cA, 304, .inl g0_amount)), (h0_stack, .inl (cA, 16, .inl u2))] H) (hD : va_D A [(h0_pad, .inl (cA, 16, .inl g0_pad)), (h0_others, .inl (cA, 16, .inl g0_others)), (h0, .inr (5, [.int x0_count, .ref h0_keys, .ref h0_legs, .ref h0_account, .ref h0_amount, .ref h0_seals, .ref h0_ends, .int x0_synced, .int x0_syncedEnd, .int x0_draft, .ref h0_draftAccount, .ref h0_draftAmount, .ref h0_limits, .ref h0_disk, .int x0_off, .int x0_failing, .int x0_written, .int (0 : Int32), .ref h0_pad, .ref h0_stack, .ref h0_firsts, .ref h0_others])), (h0_keys, .inl (cA, 76, .inl g0_keys)), (h0_legs, .inl (cA, 76, .inl g0_legs)), (h0_account, .inl (cA, 304, .inl g0_account)), (h0_amount, .inl (cA, 304, .inl g0_amount)), (h0_stack, .inl (cA, 16, .inl u2))]) hS => ?_)
          obtain ⟨⟨u4, u5⟩, e6, hf⟩ := hw_bind hf
          refine hw_goV (wr := [(h0_others, .inl (cA, 16, .inl g0_others)), (h0_keys, .inl (cA, 76, .inl g0_keys)), (h0_legs, .inl (cA, 76, .inl g0_legs)), (h0_account, .inl (cA, 304, .inl g0_account)), (h0_amount, .inl (cA, 304, .inl g0_amount)), (h0_stack, .inl (cA, 16, .inl u2))]) (rest := []) ⟨hx, hb, hml, hown, hts⟩ (cMo_lay l D cA cZ h0 h0_keys h0_legs h0_account h0_amount h0_seals h0_ends h0_draftAccount h0_draftAmount h0_limits h0_disk h0_pad h0_stack h0_firsts h0_others x0_count x0_synced x0_syncedEnd x0_draft x0_off x0_failing x0_written (0 : Int32) g0_pad v1 u4 u5 e6) (cwV 1 hts ks_X6_136 rfl rfl rfl (by decide +kernel) ⟨Nat.le_of_ble_eq_true rfl, Nat.le_of_ble_eq_true rfl⟩) 2 rfl rfl [2, 0] [1, 3, 4, 5, 6, 7] rfl rfl (by decide) (by decide) (by decide) hK hE hP hD hS hA hl.1 rfl rfl (Nat.le_of_ble_eq_true rfl) dX6_extend_195 ⟨Nat.zero_le _, Nat.zero_le _⟩ (fun H locs (hP : va_P D vwCl [(h0_others, .inl (cA, 16, .inl g0_others)), (h0_keys, .inl (cA, 76, .inl g0_keys)), (h0_legs, .inl (cA, 76, .inl g0_legs)), (h0_account, .inl (cA, 304, .inl g0_account)), (h0_amount, .inl (cA, 304, .inl g0_amount)), (h0_stack, .inl (cA, 16, .inl u2)), (h0, .inr (5, [.int x0_count, .ref h0_keys, .ref h0_legs, .ref h0_account, .ref h0_amount, .ref h0_seals, .ref h0_ends, .int x0_synced, .int x0_syncedEnd, .int x0_draft, .ref h0_draftAccount, .ref h0_draftAmount, .ref h0_limits, .ref h0_disk, .int x0_off, .int x0_failing, .int x0_written, .int u4, .ref h0_pad, .ref h0_stack, .ref h0_firsts, .ref h0_others])), (h0_pad, .inl (cA, 16, .inl u5))] H) (hD : va_D A [(h0_others, .inl (cA, 16, .inl g0_others)), (h0_keys, .inl (cA, 76, .inl g0_keys)), (h0_legs, .inl (cA, 76, .inl g0_legs)), (h0_account, .inl (cA, 304, .inl g0_account)), (h0_amount, .inl (cA, 304, .inl g0_amount)), (h0_stack, .inl (cA, 16, .inl u2)), (h0, .inr (5, [.int x0_count, .ref h0_keys, .ref h0_legs, .ref h0_account, .ref h0_amount, .ref h0_seals, .ref h0_ends, .int x0_synced, .int x0_syncedEnd, .int x0_draft, .ref h0_draftAccount, .ref h0_draftAmount, .ref h0_limits, .ref h0_disk, .int x0_off, .int x0_failing, .int x0_written, .int u4, .ref h0_pad, .ref h0_stack, .ref h0_firsts, .ref h0_others])), (h0_pad, .inl (cA, 16, .inl u5))]) hS => ?_)
          refine lv_iload_n hx hb dX6_extend_198 rfl (lv_at hl 1 rfl) ?_
          refine lv_iconst (v := (1 : Int32)) hx hb dX6_extend_199 (by decide) ?_
          refine lv_isub hx hb dX6_extend_200 ?_
          refine lv_istore (lv' := [(8, .int (k3 - (1 : Int32))), (0, .ref h0), (3, .int k3), (4, .int k4), (5, .int k5), (6, .int k6), (7, .int k7)]) hx hb dX6_extend_201 hl (by decide) rfl (fun ls hl => ?_)
          exact L203 600 _ _ _ (k3 - (1 : Int32)) u4 u5 u2 g0_others (lv_sub hl [1, 0] rfl) (hP.sub [6, 1, 2, 3, 4, 7, 5, 0] rfl) (hD.sub [6, 1, 2, 3, 4, 7, 5, 0] (by decide) rfl) hS hf
      · refine lv_iload hx hb dX6_extend_45 (lv_at hl 4 rfl) ?_
        obtain ⟨v7, e8, hf⟩ := hw_bind hf
        refine hw_goS (wr := [(h0, .inr (5, [.int x0_count, .ref h0_keys, .ref h0_legs, .ref h0_account, .ref h0_amount, .ref h0_seals, .ref h0_ends, .int x0_synced, .int x0_syncedEnd, .int x0_draft, .ref h0_draftAccount, .ref h0_draftAmount, .ref h0_limits, .ref h0_disk, .int x0_off, .int x0_failing, .int x0_written, .int x0_padded, .ref h0_pad, .ref h0_stack, .ref h0_firsts, .ref h0_others])), (h0_keys, .inl (cA, 76, .inl g0_keys)), (h0_legs, .inl (cA, 76, .inl g0_legs)), (h0_account, .inl (cA, 304, .inl g0_account)), (h0_amount, .inl (cA, 304, .inl g0_amount)), (h0_pad, .inl (cA, 16, .inl g0_pad)), (h0_stack, .inl (cA, 16, .inl g0_stack)), (h0_others, .inl (cA, 16, .inl g0_others))]) (rest := []) ⟨hx, hb, hml, hown, hts⟩ (cMo_part l D cA cZ k6 v7 e8) (cwS 1 hts ks_X6_133 rfl rfl rfl (by decide +kernel) ⟨Nat.le_of_ble_eq_true rfl, Nat.le_of_ble_eq_true rfl⟩) [] [0, 1, 2, 3, 4, 5, 6, 7] rfl rfl (by decide) (by decide) (by decide) hK hE hP hD hS hA hl.1 rfl rfl (Nat.le_of_ble_eq_true rfl) dX6_extend_47 ⟨Nat.zero_le _, Nat.zero_le _⟩ (fun H locs (hP : va_P D vwCl [(h0, .inr (5, [.int x0_count, .ref h0_keys, .ref h0_legs, .ref h0_account, .ref h0_amount, .ref h0_seals, .ref h0_ends, .int x0_synced, .int x0_syncedEnd, .int x0_draft, .ref h0_draftAccount, .ref h0_draftAmount, .ref h0_limits, .ref h0_disk, .int x0_off, .int x0_failing, .int x0_written, .int x0_padded, .ref h0_pad, .ref h0_stack, .ref h0_firsts, .ref h0_others])), (h0_keys, .inl (cA, 76, .inl g0_keys)), (h0_legs, .inl (cA, 76, .inl g0_legs)), (h0_account, .inl (cA, 304, .inl g0_account)), (h0_amount, .inl (cA, 304, .inl g0_amount)), (h0_pad, .inl (cA, 16, .inl g0_pad)), (h0_stack, .inl (cA, 16, .inl g0_stack)), (h0_others, .inl (cA, 16, .inl g0_others))] H) (hD : va_D A [(h0, .inr (5, [.int x0_count, .ref h0_keys, .ref h0_legs, .ref h0_account, .ref h0_amount, .ref h0_seals, .ref h0_ends, .int x0_synced, .int x0_syncedEnd, .int x0_draft, .ref h0_draftAccount, .ref h0_draftAmount, .ref h0_limits, .ref h0_disk, .int x0_off, .int x0_failing, .int x0_written, .int x0_padded, .ref h0_pad, .ref h0_stack, .ref h0_firsts, .ref h0_others])), (h0_keys, .inl (cA, 76, .inl g0_keys)), (h0_legs, .inl (cA, 76, .inl g0_legs)), (h0_account, .inl (cA, 304, .inl g0_account)), (h0_amount, .inl (cA, 304, .inl g0_amount)), (h0_pad, .inl (cA, 16, .inl g0_pad)), (h0_stack, .inl (cA, 16, .inl g0_stack)), (h0_others, .inl (cA, 16, .inl g0_others))]) hS => ?_)
        refine lv_istore (lv' := [(8, .int v7), (0, .ref h0), (3, .int k3), (4, .int k4), (5, .int k5), (6, .int k6), (7, .int k7)]) hx hb dX6_extend_50 hl (by decide) rfl (fun ls hl => ?_)
        refine lv_iload hx hb dX6_extend_52 (lv_at hl 4 rfl) ?_
        refine lv_iload hx hb dX6_extend_54 (lv_at hl 0 rfl) ?_
        refine hi_icmp_gt (tgt := 63) hx hb dX6_extend_56 rfl hf (fun hc hf => ?_) (fun hc hf => ?_)
        · refine lv_iconst (v := (0 : Int32)) hx hb dX6_extend_63 (by decide) ?_
          refine lv_istore (lv' := [(9, .int (0 : Int32)), (8, .int v7), (0, .ref h0), (3, .int k3), (4, .int k4), (5, .int k5), (6, .int k6), (7, .int k7)]) hx hb dX6_extend_64 hl (by decide) rfl (fun ls hl => ?_)
          refine lv_aload_n hx hb dX6_extend_66 rfl (lv_at hl 2 rfl) ?_
          refine va_get (D := D) (ci := 5) (v := .ref h0_others) (C := RX6) (T := TX6) (N := 22) hx hb hts in_X6 hown hK hP 0 rfl rfl 21 (by decide) (hts _ mw_353) (fun _ h9 => h9) rfl dX6_extend_67 ?_
          refine lv_iload_n hx hb dX6_extend_70 rfl (lv_at hl 3 rfl) ?_
          refine lv_iload hx hb dX6_extend_71 (lv_at hl 0 rfl) ?_
          refine lv_if_eq (tgt := 93) hx hb dX6_extend_73 rfl (fun hc => ?_) (fun hc => absurd hc (by decide))
          refine lv_aload_n hx hb dX6_extend_93 rfl (lv_at hl 2 rfl) ?_
          refine lv_iload hx hb dX6_extend_94 (lv_at hl 4 rfl) ?_
          refine lv_iload hx hb dX6_extend_96 (lv_at hl 1 rfl) ?_
          obtain ⟨⟨v9, u10⟩, e11, hf⟩ := hw_bind hf
          refine hw_goV (wr := [(h0_pad, .inl (cA, 16, .inl g0_pad)), (h0_others, .inl (cA, 16, .inl g0_others))]) (rest := [.int k3, .ref h0_others]) ⟨hx, hb, hml, hown, hts⟩ (cMo_hash l D cA cZ h0 h0_keys h0_legs h0_account h0_amount h0_seals h0_ends h0_draftAccount h0_draftAmount h0_limits h0_disk h0_pad h0_stack h0_firsts h0_others x0_count x0_synced x0_syncedEnd x0_draft x0_off x0_failing x0_written x0_padded g0_keys g0_legs g0_account g0_amount g0_stack k4 v7 v9 u10 e11) (cwV 2 hts ks_X6_127 rfl rfl rfl (by decide +kernel) ⟨Nat.le_of_ble_eq_true rfl, Nat.le_of_ble_eq_true rfl⟩) 0 rfl rfl [0, 1, 2, 3, 4, 6] [5, 7] rfl rfl (by decide) (by decide) (by decide) hK hE hP hD hS hA hl.1 rfl rfl (Nat.le_of_ble_eq_true rfl) dX6_extend_98 ⟨Nat.zero_le _, Nat.zero_le _⟩ (fun H locs (hP : va_P D vwCl [(h0_pad, .inl (cA, 16, .inl g0_pad)), (h0_others, .inl (cA, 16, .inl g0_others)), (h0, .inr (5, [.int x0_count, .ref h0_keys, .ref h0_legs, .ref h0_account, .ref h0_amount, .ref h0_seals, .ref h0_ends, .int x0_synced, .int x0_syncedEnd, .int x0_draft, .ref h0_draftAccount, .ref h0_draftAmount, .ref h0_limits, .ref h0_disk, .int x0_off, .int x0_failing, .int x0_written, .int x0_padded, .ref h0_pad, .ref h0_stack, .ref h0_firsts, .ref h0_others])), (h0_keys, .inl (cA, 76, .inl g0_keys)), (h0_legs, .inl (cA, 76, .inl g0_legs)), (h0_account, .inl (cA, 304, .inl g0_account)), (h0_amount, .inl (cA, 304, .inl g0_amount)), (h0_stack, .inl (cA, 16, .inl u10))] H) (hD : va_D A [(h0_pad, .inl (cA, 16, .inl g0_pad)), (h0_others, .inl (cA, 16, .inl g0_others)), (h0, .inr (5, [.int x0_count, .ref h0_keys, .ref h0_legs, .ref h0_account, .ref h0_amount, .ref h0_seals, .ref h0_ends, .int x0_synced, .int x0_syncedEnd, .int x0_draft, .ref h0_draftAccount, .ref h0_draftAmount, .ref h0_limits, .ref h0_disk, .int x0_off, .int x0_failing, .int x0_written, .int x0_padded, .ref h0_pad, .ref h0_stack, .ref h0_firsts, .ref h0_others])), (h0_keys, .inl (cA, 76, .inl g0_keys)), (h0_legs, .inl (cA, 76, .inl g0_legs)), (h0_account, .inl (cA, 304, .inl g0_account)), (h0_amount, .inl (cA, 304, .inl g0_amount)), (h0_stack, .inl (cA, 16, .inl u10))]) hS => ?_)
          obtain ⟨u12, e13, hf⟩ := hw_bind hf
          refine hw_iast hx hb hK hP hD hS 1 rfl e13 dX6_extend_101 (fun H locs (hP : va_P D vwCl [(h0_pad, .inl (cA, 16, .inl g0_pad)), (h0_others, .inl (cA, 16, .inl u12)), (h0, .inr (5, [.int x0_count, .ref h0_keys, .ref h0_legs, .ref h0_account, .ref h0_amount, .ref h0_seals, .ref h0_ends, .int x0_synced, .int x0_syncedEnd, .int x0_draft, .ref h0_draftAccount, .ref h0_draftAmount, .ref h0_limits, .ref h0_disk, .int x0_off, .int x0_failing, .int x0_written, .int x0_padded, .ref h0_pad, .ref h0_stack, .ref h0_firsts, .ref h0_others])), (h0_keys, .inl (cA, 76, .inl g0_keys)), (h0_legs, .inl (cA, 76, .inl g0_legs)), (h0_account, .inl (cA, 304, .inl g0_account)), (h0_amount, .inl (cA, 304, .inl g0_amount)), (h0_stack, .inl (cA, 16, .inl u10))] H) (hD : va_D A [(h0_pad, .inl (cA, 16, .inl g0_pad)), (h0_others, .inl (cA, 16, .inl u12)), (h0, .inr (5, [.int x0_count, .ref h0_keys, .ref h0_legs, .ref h0_account, .ref h0_amount, .ref h0_seals, .ref h0_ends, .int x0_synced, .int x0_syncedEnd, .int x0_draft, .ref h0_draftAccount, .ref h0_draftAmount, .ref h0_limits, .ref h0_disk, .int x0_off, .int x0_failing, .int x0_written, .int x0_padded, .ref h0_pad, .ref h0_stack, .ref h0_firsts, .ref h0_others])), (h0_keys, .inl (cA, 76, .inl g0_keys)), (h0_legs, .inl (cA, 76, .inl g0_legs)), (h0_account, .inl (cA, 304, .inl g0_account)), (h0_amount, .inl (cA, 304, .inl g0_amount)), (h0_stack, .inl (cA, 16, .inl u10))]) hS => ?_)
          refine lv_iload hx hb dX6_extend_102 (lv_at hl 0 rfl) ?_
          refine lv_if_eq (tgt := 112) hx hb dX6_extend_104 rfl (fun hc => ?_) (fun hc => absurd hc (by decide))
          refine lv_iload hx hb dX6_extend_112 (lv_at hl 4 rfl) ?_
          refine lv_iload hx hb dX6_extend_114 (lv_at hl 1 rfl) ?_
          refine lv_iadd hx hb dX6_extend_116 ?_
          refine lv_istore (lv' := [(4, .int (k4 + v7)), (9, .int (0 : Int32)), (8, .int v7), (0, .ref h0), (3, .int k3), (5, .int k5), (6, .int k6), (7, .int k7)]) hx hb dX6_extend_117 hl (by decide) rfl (fun ls hl => ?_)
          refine lv_iload hx hb dX6_extend_119 (lv_at hl 1 rfl) ?_
          refine lv_if_eq (tgt := 129) hx hb dX6_extend_121 rfl (fun hc => ?_) (fun hc => absurd hc (by decide))
          refine lv_iload hx hb dX6_extend_129 (lv_at hl 5 rfl) ?_
          refine lv_iload hx hb dX6_extend_131 (lv_at hl 2 rfl) ?_
          refine lv_isub hx hb dX6_extend_133 ?_
          refine lv_istore (lv' := [(5, .int (k5 - v7)), (4, .int (k4 + v7)), (9, .int (0 : Int32)), (8, .int v7), (0, .ref h0), (3, .int k3), (6, .int k6), (7, .int k7)]) hx hb dX6_extend_134 hl (by decide) rfl (fun ls hl => ?_)
          refine lv_iload hx hb dX6_extend_136 (lv_at hl 2 rfl) ?_
          refine lv_if_eq (tgt := 146) hx hb dX6_extend_138 rfl (fun hc => ?_) (fun hc => absurd hc (by decide))
          refine lv_iload hx hb dX6_extend_146 (lv_at hl 6 rfl) ?_
          refine lv_iload hx hb dX6_extend_148 (lv_at hl 3 rfl) ?_
          refine lv_isub hx hb dX6_extend_150 ?_
          refine lv_istore (lv' := [(6, .int (k6 - v7)), (5, .int (k5 - v7)), (4, .int (k4 + v7)), (9, .int (0 : Int32)), (8, .int v7), (0, .ref h0), (3, .int k3), (7, .int k7)]) hx hb dX6_extend_151 hl (by decide) rfl (fun ls hl => ?_)
          refine lv_iload hx hb dX6_extend_153 (lv_at hl 7 rfl) ?_
          refine hi_if_eq (tgt := 167) hx hb dX6_extend_155 rfl hf (fun hc hf => ?_) (fun hc hf => ?_)
          · refine lv_iconst (v := (0 : Int32)) hx hb dX6_extend_167 (by decide) ?_
            refine lv_istore (lv' := [(7, .int (0 : Int32)), (6, .int (k6 - v7)), (5, .int (k5 - v7)), (4, .int (k4 + v7)), (9, .int (0 : Int32)), (8, .int v7), (0, .ref h0), (3, .int k3)]) hx hb dX6_extend_168 hl (by decide) rfl (fun ls hl => ?_)
            refine lv_iinc (v := k3 + (1 : Int32)) (lv' := [(3, .int (k3 + (1 : Int32))), (7, .int (0 : Int32)), (6, .int (k6 - v7)), (5, .int (k5 - v7)), (4, .int (k4 + v7)), (9, .int (0 : Int32)), (8, .int v7), (0, .ref h0)]) hx hb dX6_extend_170 hl (k := 7) rfl (congrArg (fun z => k3 + z) (by decide)) (by decide) rfl (fun ls hl => ?_)
            refine lv_goto (tgt := 38) hx hb dX6_extend_173 rfl ?_
            exact ih38 _ _ _ (k3 + (1 : Int32)) (k4 + v7) (k5 - v7) (k6 - v7) (0 : Int32) x0_padded g0_pad u10 u12 (lv_sub hl [7, 0, 4, 3, 2, 1] rfl) (hP.sub [2, 3, 4, 5, 6, 0, 7, 1] rfl) (hD.sub [2, 3, 4, 5, 6, 0, 7, 1] (by decide) rfl) hS hf
          · refine lv_iload hx hb dX6_extend_158 (lv_at hl 3 rfl) ?_
            refine lv_if_eq (tgt := 167) hx hb dX6_extend_160 rfl (fun hc => ?_) (fun hc => absurd hc (by decide))
            refine lv_iconst (v := (0 : Int32)) hx hb dX6_extend_167 (by decide) ?_
            refine lv_istore (lv' := [(7, .int (0 : Int32)), (6, .int (k6 - v7)), (5, .int (k5 - v7)), (4, .int (k4 + v7)), (9, .int (0 : Int32)), (8, .int v7), (0, .ref h0), (3, .int k3)]) hx hb dX6_extend_168 hl (by decide) rfl (fun ls hl => ?_)
            refine lv_iinc (v := k3 + (1 : Int32)) (lv' := [(3, .int (k3 + (1 : Int32))), (7, .int (0 : Int32)), (6, .int (k6 - v7)), (5, .int (k5 - v7)), (4, .int (k4 + v7)), (9, .int (0 : Int32)), (8, .int v7), (0, .ref h0)]) hx hb dX6_extend_170 hl (k := 7) rfl (congrArg (fun z => k3 + z) (by decide)) (by decide) rfl (fun ls hl => ?_)
            refine lv_goto (tgt := 38) hx hb dX6_extend_173 rfl ?_
            exact ih38 _ _ _ (k3 + (1 : Int32)) (k4 + v7) (k5 - v7) (k6 - v7) (0 : Int32) x0_padded g0_pad u10 u12 (lv_sub hl [7, 0, 4, 3, 2, 1] rfl) (hP.sub [2, 3, 4, 5, 6, 0, 7, 1] rfl) (hD.sub [2, 3, 4, 5, 6, 0, 7, 1] (by decide) rfl) hS hf
        · refine lv_iconst (v := (1 : Int32)) hx hb dX6_extend_59 (by decide) ?_
          refine lv_goto (tgt := 64) hx hb dX6_extend_60 rfl ?_
          refine lv_istore (lv' := [(9, .int (1 : Int32)), (8, .int v7), (0, .ref h0), (3, .int k3), (4, .int k4), (5, .int k5), (6, .int k6), (7, .int k7)]) hx hb dX6_extend_64 hl (by decide) rfl (fun ls hl => ?_)
          refine lv_aload_n hx hb dX6_extend_66 rfl (lv_at hl 2 rfl) ?_
          refine va_get (D := D) (ci := 5) (v := .ref h0_others) (C := RX6) (T := TX6) (N := 22) hx hb hts in_X6 hown hK hP 0 rfl rfl 21 (by decide) (hts _ mw_353) (fun _ h9 => h9) rfl dX6_extend_67 ?_
          refine lv_iload_n hx hb dX6_extend_70 rfl (lv_at hl 3 rfl) ?_
          refine lv_iload hx hb dX6_extend_71 (lv_at hl 0 rfl) ?_
          refine lv_if_eq (tgt := 93) hx hb dX6_extend_73 rfl (fun hc => absurd hc (by decide)) (fun hc => ?_)
          refine lv_aload_n hx hb dX6_extend_76 rfl (lv_at hl 2 rfl) ?_
          refine lv_iload hx hb dX6_extend_77 (lv_at hl 4 rfl) ?_
          refine lv_iload hx hb dX6_extend_79 (lv_at hl 1 rfl) ?_
          refine lv_iadd hx hb dX6_extend_81 ?_
          refine lv_iload hx hb dX6_extend_82 (lv_at hl 6 rfl) ?_
          refine lv_iload hx hb dX6_extend_84 (lv_at hl 1 rfl) ?_
          refine lv_isub hx hb dX6_extend_86 ?_
          obtain ⟨⟨v14, u15⟩, e16, hf⟩ := hw_bind hf
          refine hw_goV (wr := [(h0_pad, .inl (cA, 16, .inl g0_pad)), (h0_others, .inl (cA, 16, .inl g0_others))]) (rest := [.int k3, .ref h0_others]) ⟨hx, hb, hml, hown, hts⟩ (cMo_hash l D cA cZ h0 h0_keys h0_legs h0_account h0_amount h0_seals h0_ends h0_draftAccount h0_draftAmount h0_limits h0_disk h0_pad h0_stack h0_firsts h0_others x0_count x0_synced x0_syncedEnd x0_draft x0_off x0_failing x0_written x0_padded g0_keys g0_legs g0_account g0_amount g0_stack (k4 + v7) (k6 - v7) v14 u15 e16) (cwV 2 hts ks_X6_127 rfl rfl rfl (by decide +kernel) ⟨Nat.le_of_ble_eq_true rfl, Nat.le_of_ble_eq_true rfl⟩) 0 rfl rfl [0, 1, 2, 3, 4, 6] [5, 7] rfl rfl (by decide) (by decide) (by decide) hK hE hP hD hS hA hl.1 rfl rfl (Nat.le_of_ble_eq_true rfl) dX6_extend_87 ⟨Nat.zero_le _, Nat.zero_le _⟩ (fun H locs (hP : va_P D vwCl [(h0_pad, .inl (cA, 16, .inl g0_pad)), (h0_others, .inl (cA, 16, .inl g0_others)), (h0, .inr (5, [.int x0_count, .ref h0_keys, .ref h0_legs, .ref h0_account, .ref h0_amount, .ref h0_seals, .ref h0_ends, .int x0_synced, .int x0_syncedEnd, .int x0_draft, .ref h0_draftAccount, .ref h0_draftAmount, .ref h0_limits, .ref h0_disk, .int x0_off, .int x0_failing, .int x0_written, .int x0_padded, .ref h0_pad, .ref h0_stack, .ref h0_firsts, .ref h0_others])), (h0_keys, .inl (cA, 76, .inl g0_keys)), (h0_legs, .inl (cA, 76, .inl g0_legs)), (h0_account, .inl (cA, 304, .inl g0_account)), (h0_amount, .inl (cA, 304, .inl g0_amount)), (h0_stack, .inl (cA, 16, .inl u15))] H) (hD : va_D A [(h0_pad, .inl (cA, 16, .inl g0_pad)), (h0_others, .inl (cA, 16, .inl g0_others)), (h0, .inr (5, [.int x0_count, .ref h0_keys, .ref h0_legs, .ref h0_account, .ref h0_amount, .ref h0_seals, .ref h0_ends, .int x0_synced, .int x0_syncedEnd, .int x0_draft, .ref h0_draftAccount, .ref h0_draftAmount, .ref h0_limits, .ref h0_disk, .int x0_off, .int x0_failing, .int x0_written, .int x0_padded, .ref h0_pad, .ref h0_stack, .ref h0_firsts, .ref h0_others])), (h0_keys, .inl (cA, 76, .inl g0_keys)), (h0_legs, .inl (cA, 76, .inl g0_legs)), (h0_account, .inl (cA, 304, .inl g0_account)), (h0_amount, .inl (cA, 304, .inl g0_amount)), (h0_stack, .inl (cA, 16, .inl u15))]) hS => ?_)
          refine lv_goto (tgt := 101) hx hb dX6_extend_90 rfl ?_
          obtain ⟨u17, e18, hf⟩ := hw_bind hf
          refine hw_iast hx hb hK hP hD hS 1 rfl e18 dX6_extend_101 (fun H locs (hP : va_P D vwCl [(h0_pad, .inl (cA, 16, .inl g0_pad)), (h0_others, .inl (cA, 16, .inl u17)), (h0, .inr (5, [.int x0_count, .ref h0_keys, .ref h0_legs, .ref h0_account, .ref h0_amount, .ref h0_seals, .ref h0_ends, .int x0_synced, .int x0_syncedEnd, .int x0_draft, .ref h0_draftAccount, .ref h0_draftAmount, .ref h0_limits, .ref h0_disk, .int x0_off, .int x0_failing, .int x0_written, .int x0_padded, .ref h0_pad, .ref h0_stack, .ref h0_firsts, .ref h0_others])), (h0_keys, .inl (cA, 76, .inl g0_keys)), (h0_legs, .inl (cA, 76, .inl g0_legs)), (h0_account, .inl (cA, 304, .inl g0_account)), (h0_amount, .inl (cA, 304, .inl g0_amount)), (h0_stack, .inl (cA, 16, .inl u15))] H) (hD : va_D A [(h0_pad, .inl (cA, 16, .inl g0_pad)), (h0_others, .inl (cA, 16, .inl u17)), (h0, .inr (5, [.int x0_count, .ref h0_keys, .ref h0_legs, .ref h0_account, .ref h0_amount, .ref h0_seals, .ref h0_ends, .int x0_synced, .int x0_syncedEnd, .int x0_draft, .ref h0_draftAccount, .ref h0_draftAmount, .ref h0_limits, .ref h0_disk, .int x0_off, .int x0_failing, .int x0_written, .int x0_padded, .ref h0_pad, .ref h0_stack, .ref h0_firsts, .ref h0_others])), (h0_keys, .inl (cA, 76, .inl g0_keys)), (h0_legs, .inl (cA, 76, .inl g0_legs)), (h0_account, .inl (cA, 304, .inl g0_account)), (h0_amount, .inl (cA, 304, .inl g0_amount)), (h0_stack, .inl (cA, 16, .inl u15))]) hS => ?_)
          refine lv_iload hx hb dX6_extend_102 (lv_at hl 0 rfl) ?_
          refine lv_if_eq (tgt := 112) hx hb dX6_extend_104 rfl (fun hc => absurd hc (by decide)) (fun hc => ?_)
          refine lv_iload hx hb dX6_extend_107 (lv_at hl 4 rfl) ?_
          refine lv_goto (tgt := 117) hx hb dX6_extend_109 rfl ?_
          refine lv_istore (lv' := [(4, .int k4), (9, .int (1 : Int32)), (8, .int v7), (0, .ref h0), (3, .int k3), (5, .int k5), (6, .int k6), (7, .int k7)]) hx hb dX6_extend_117 hl (by decide) rfl (fun ls hl => ?_)
          refine lv_iload hx hb dX6_extend_119 (lv_at hl 1 rfl) ?_
          refine lv_if_eq (tgt := 129) hx hb dX6_extend_121 rfl (fun hc => absurd hc (by decide)) (fun hc => ?_)
          refine lv_iload hx hb dX6_extend_124 (lv_at hl 5 rfl) ?_
          refine lv_goto (tgt := 134) hx hb dX6_extend_126 rfl ?_
          refine lv_istore (lv' := [(5, .int k5), (4, .int k4), (9, .int (1 : Int32)), (8, .int v7), (0, .ref h0), (3, .int k3), (6, .int k6), (7, .int k7)]) hx hb dX6_extend_134 hl (by decide) rfl (fun ls hl => ?_)
          refine lv_iload hx hb dX6_extend_136 (lv_at hl 2 rfl) ?_
          refine lv_if_eq (tgt := 146) hx hb dX6_extend_138 rfl (fun hc => absurd hc (by decide)) (fun hc => ?_)
          refine lv_iload hx hb dX6_extend_141 (lv_at hl 3 rfl) ?_
          refine lv_goto (tgt := 151) hx hb dX6_extend_143 rfl ?_
          refine lv_istore (lv' := [(6, .int v7), (5, .int k5), (4, .int k4), (9, .int (1 : Int32)), (8, .int v7), (0, .ref h0), (3, .int k3), (7, .int k7)]) hx hb dX6_extend_151 hl (by decide) rfl (fun ls hl => ?_)
          refine lv_iload hx hb dX6_extend_153 (lv_at hl 7 rfl) ?_
          refine hi_if_eq (tgt := 167) hx hb dX6_extend_155 rfl hf (fun hc hf => ?_) (fun hc hf => ?_)
          · refine lv_iconst (v := (0 : Int32)) hx hb dX6_extend_167 (by decide) ?_
            refine lv_istore (lv' := [(7, .int (0 : Int32)), (6, .int v7), (5, .int k5), (4, .int k4), (9, .int (1 : Int32)), (8, .int v7), (0, .ref h0), (3, .int k3)]) hx hb dX6_extend_168 hl (by decide) rfl (fun ls hl => ?_)
            refine lv_iinc (v := k3 + (1 : Int32)) (lv' := [(3, .int (k3 + (1 : Int32))), (7, .int (0 : Int32)), (6, .int v7), (5, .int k5), (4, .int k4), (9, .int (1 : Int32)), (8, .int v7), (0, .ref h0)]) hx hb dX6_extend_170 hl (k := 7) rfl (congrArg (fun z => k3 + z) (by decide)) (by decide) rfl (fun ls hl => ?_)
            refine lv_goto (tgt := 38) hx hb dX6_extend_173 rfl ?_
            exact ih38 _ _ _ (k3 + (1 : Int32)) k4 k5 v7 (0 : Int32) x0_padded g0_pad u15 u17 (lv_sub hl [7, 0, 4, 3, 2, 1] rfl) (hP.sub [2, 3, 4, 5, 6, 0, 7, 1] rfl) (hD.sub [2, 3, 4, 5, 6, 0, 7, 1] (by decide) rfl) hS hf
          · refine lv_iload hx hb dX6_extend_158 (lv_at hl 3 rfl) ?_
            refine lv_if_eq (tgt := 167) hx hb dX6_extend_160 rfl (fun hc => absurd hc (by decide)) (fun hc => ?_)
            refine lv_iconst (v := (1 : Int32)) hx hb dX6_extend_163 (by decide) ?_
            refine lv_goto (tgt := 168) hx hb dX6_extend_164 rfl ?_
            refine lv_istore (lv' := [(7, .int (1 : Int32)), (6, .int v7), (5, .int k5), (4, .int k4), (9, .int (1 : Int32)), (8, .int v7), (0, .ref h0), (3, .int k3)]) hx hb dX6_extend_168 hl (by decide) rfl (fun ls hl => ?_)
            refine lv_iinc (v := k3 + (1 : Int32)) (lv' := [(3, .int (k3 + (1 : Int32))), (7, .int (1 : Int32)), (6, .int v7), (5, .int k5), (4, .int k4), (9, .int (1 : Int32)), (8, .int v7), (0, .ref h0)]) hx hb dX6_extend_170 hl (k := 7) rfl (congrArg (fun z => k3 + z) (by decide)) (by decide) rfl (fun ls hl => ?_)
            refine lv_goto (tgt := 38) hx hb dX6_extend_173 rfl ?_
            exact ih38 _ _ _ (k3 + (1 : Int32)) k4 k5 v7 (1 : Int32) x0_padded g0_pad u15 u17 (lv_sub hl [7, 0, 4, 3, 2, 1] rfl) (hP.sub [2, 3, 4, 5, 6, 0, 7, 1] rfl) (hD.sub [2, 3, 4, 5, 6, 0, 7, 1] (by decide) rfl) hS hf
  rw [fMo_extend] at hf
  refine lv_iload_n hx hb dX6_extend_0 rfl (lv_at hl 2 rfl) ?_
  refine hi_if_lt (tgt := 22) hx hb dX6_extend_1 rfl hf (fun hc hf => ?_) (fun hc hf => ?_)
  · refine lv_iconst (v := (-1 : Int32)) hx hb dX6_extend_22 (by decide) ?_
    cases hf
    exact hw_ri hx hb hr hlk (hP.sub [0, 1, 2, 3, 4, 5, 6, 7] rfl) (hD.sub [0, 1, 2, 3, 4, 5, 6, 7] (by decide) rfl) hS dX6_extend_23
  · refine lv_iload_n hx hb dX6_extend_4 rfl (lv_at hl 2 rfl) ?_
    refine lv_aload_n hx hb dX6_extend_5 rfl (lv_at hl 0 rfl) ?_
    refine va_get (D := D) (ci := 5) (v := .int x0_synced) (C := RX6) (T := TX6) (N := 22) hx hb hts in_X6 hown hK hP 0 rfl rfl 7 (by decide) (hts _ mw_407) (fun _ h9 => h9) rfl dX6_extend_6 ?_
    refine hi_icmp_gt (tgt := 22) hx hb dX6_extend_9 rfl hf (fun hc hf => ?_) (fun hc hf => ?_)
    · refine lv_iconst (v := (-1 : Int32)) hx hb dX6_extend_22 (by decide) ?_
      cases hf
      exact hw_ri hx hb hr hlk (hP.sub [0, 1, 2, 3, 4, 5, 6, 7] rfl) (hD.sub [0, 1, 2, 3, 4, 5, 6, 7] (by decide) rfl) hS dX6_extend_23
    · refine lv_iload_n hx hb dX6_extend_12 rfl (lv_at hl 1 rfl) ?_
      refine lv_iconst (v := (1 : Int32)) hx hb dX6_extend_13 (by decide) ?_
      refine hi_icmp_lt (tgt := 22) hx hb dX6_extend_14 rfl hf (fun hc hf => ?_) (fun hc hf => ?_)
      · refine lv_iconst (v := (-1 : Int32)) hx hb dX6_extend_22 (by decide) ?_
        cases hf
        exact hw_ri hx hb hr hlk (hP.sub [0, 1, 2, 3, 4, 5, 6, 7] rfl) (hD.sub [0, 1, 2, 3, 4, 5, 6, 7] (by decide) rfl) hS dX6_extend_23
      · refine lv_iload_n hx hb dX6_extend_17 rfl (lv_at hl 1 rfl) ?_
        refine lv_iload_n hx hb dX6_extend_18 rfl (lv_at hl 2 rfl) ?_
        refine hi_icmp_le (tgt := 24) hx hb dX6_extend_19 rfl hf (fun hc hf => ?_) (fun hc hf => ?_)
        · refine lv_iconst (v := (0 : Int32)) hx hb dX6_extend_24 (by decide) ?_
          refine lv_istore_n (lv' := [(3, .int (0 : Int32)), (0, .ref h0), (1, .int k1), (2, .int k2)]) hx hb dX6_extend_25 rfl hl (by decide) rfl (fun ls hl => ?_)
          refine lv_iconst (v := (0 : Int32)) hx hb dX6_extend_26 (by decide) ?_
          refine lv_istore (lv' := [(4, .int (0 : Int32)), (3, .int (0 : Int32)), (0, .ref h0), (1, .int k1), (2, .int k2)]) hx hb dX6_extend_27 hl (by decide) rfl (fun ls hl => ?_)
          refine lv_iload_n hx hb dX6_extend_29 rfl (lv_at hl 3 rfl) ?_
          refine lv_istore (lv' := [(5, .int k1), (4, .int (0 : Int32)), (3, .int (0 : Int32)), (0, .ref h0), (1, .int k1), (2, .int k2)]) hx hb dX6_extend_30 hl (by decide) rfl (fun ls hl => ?_)
          refine lv_iload_n hx hb dX6_extend_32 rfl (lv_at hl 5 rfl) ?_
          refine lv_istore (lv' := [(6, .int k2), (5, .int k1), (4, .int (0 : Int32)), (3, .int (0 : Int32)), (0, .ref h0), (1, .int k1), (2, .int k2)]) hx hb dX6_extend_33 hl (by decide) rfl (fun ls hl => ?_)
          refine lv_iconst (v := (1 : Int32)) hx hb dX6_extend_35 (by decide) ?_
          refine lv_istore (lv' := [(7, .int (1 : Int32)), (6, .int k2), (5, .int k1), (4, .int (0 : Int32)), (3, .int (0 : Int32)), (0, .ref h0), (1, .int k1), (2, .int k2)]) hx hb dX6_extend_36 hl (by decide) rfl (fun ls hl => ?_)
          exact L38 600 _ _ _ (0 : Int32) (0 : Int32) k1 k2 (1 : Int32) x0_padded g0_pad g0_stack g0_others (lv_sub hl [5, 4, 3, 2, 1, 0] rfl) (hP.sub [0, 1, 2, 3, 4, 5, 6, 7] rfl) (hD.sub [0, 1, 2, 3, 4, 5, 6, 7] (by decide) rfl) hS hf
        · refine lv_iconst (v := (-1 : Int32)) hx hb dX6_extend_22 (by decide) ?_
          cases hf
          exact hw_ri hx hb hr hlk (hP.sub [0, 1, 2, 3, 4, 5, 6, 7] rfl) (hD.sub [0, 1, 2, 3, 4, 5, 6, 7] (by decide) rfl) hS dX6_extend_23
set_option maxHeartbeats 4000000 in
set_option maxRecDepth 100000 in
theorem cMo_included (l : Launch) (D : va_G) (cA cZ : ClassId) (h0 : Nat) (h0_keys : Nat) (h0_legs : Nat) (h0_account : Nat) (h0_amount : Nat) (h0_seals : Nat) (h0_ends : Nat) (h0_draftAccount : Nat) (h0_draftAmount : Nat) (h0_limits : Nat) (h0_disk : Nat) (h0_pad : Nat) (h0_stack : Nat) (h0_firsts : Nat) (h0_others : Nat) (x0_count : Int32) (x0_synced : Int32) (x0_syncedEnd : Int32) (x0_draft : Int32) (x0_off : Int32) (x0_failing : Int32) (x0_written : Int32) (x0_padded : Int32) (g0_pad : Nat → Int32) (g0_firsts : Nat → Int32) (k1 : Int32) (k2 : Int32) (k3 : Int32) (k4 : Int32) (rr : Int32) (og0_firsts : Nat → Int32) (hf : fMo_included x0_padded g0_pad g0_firsts k1 k2 k3 k4 = some (rr, og0_firsts)) : hw_C l yX6_included wX6_included { frames := 2, cells := 0, slots := 0, locals := 44 } D vwCl cA cZ [.ref h0, .int k1, .int k2, .int k3, .int k4] [(h0, .inr (5, [.int x0_count, .ref h0_keys, .ref h0_legs, .ref h0_account, .ref h0_amount, .ref h0_seals, .ref h0_ends, .int x0_synced, .int x0_syncedEnd, .int x0_draft, .ref h0_draftAccount, .ref h0_draftAmount, .ref h0_limits, .ref h0_disk, .int x0_off, .int x0_failing, .int x0_written, .int x0_padded, .ref h0_pad, .ref h0_stack, .ref h0_firsts, .ref h0_others])), (h0_pad, .inl (cA, 16, .inl g0_pad)), (h0_firsts, .inl (cZ, 16, .inl g0_firsts))] [(h0, .inr (5, [.int x0_count, .ref h0_keys, .ref h0_legs, .ref h0_account, .ref h0_amount, .ref h0_seals, .ref h0_ends, .int x0_synced, .int x0_syncedEnd, .int x0_draft, .ref h0_draftAccount, .ref h0_draftAmount, .ref h0_limits, .ref h0_disk, .int x0_off, .int x0_failing, .int x0_written, .int x0_padded, .ref h0_pad, .ref h0_stack, .ref h0_firsts, .ref h0_others])), (h0_pad, .inl (cA, 16, .inl g0_pad)), (h0_firsts, .inl (cZ, 16, .inl og0_firsts))] (some (.int rr)) := by
  refine hw_of (cc := cX6_included) (maxL := 10) (ret := (some .boolean)) (by decide) rfl (Nat.le_of_ble_eq_true rfl) ?_
  intro p e s m args below meth c A ls hx hb hr hlk hml hown hts hA hK hE hP hD hS hl
  have hown : s.vm.findClass RX6 = some m.cls := hown
  have hl : lv_has ls 10 [(0, .ref h0), (1, .int k1), (2, .int k2), (3, .int k3), (4, .int k4)] := hl
  have L128 : ∀ (n128 : Nat) (ls : Array Slot) (H : Heap) (locs : List Loc) (k4 : Int32) (k5 : Int32) (k7 : Int32) (k8 : Int32) (g0_firsts : Nat → Int32), lv_has ls 10 [(0, .ref h0), (4, .int k4), (5, .int k5), (7, .int k7), (8, .int k8)] → va_P D vwCl [(h0, .inr (5, [.int x0_count, .ref h0_keys, .ref h0_legs, .ref h0_account, .ref h0_amount, .ref h0_seals, .ref h0_ends, .int x0_synced, .int x0_syncedEnd, .int x0_draft, .ref h0_draftAccount, .ref h0_draftAmount, .ref h0_limits, .ref h0_disk, .int x0_off, .int x0_failing, .int x0_written, .int x0_padded, .ref h0_pad, .ref h0_stack, .ref h0_firsts, .ref h0_others])), (h0_pad, .inl (cA, 16, .inl g0_pad)), (h0_firsts, .inl (cZ, 16, .inl g0_firsts))] H → va_D A [(h0, .inr (5, [.int x0_count, .ref h0_keys, .ref h0_legs, .ref h0_account, .ref h0_amount, .ref h0_seals, .ref h0_ends, .int x0_synced, .int x0_syncedEnd, .int x0_draft, .ref h0_draftAccount, .ref h0_draftAmount, .ref h0_limits, .ref h0_disk, .int x0_off, .int x0_failing, .int x0_written, .int x0_padded, .ref h0_pad, .ref h0_stack, .ref h0_firsts, .ref h0_others])), (h0_pad, .inl (cA, 16, .inl g0_pad)), (h0_firsts, .inl (cZ, 16, .inl g0_firsts))] → va_S A s.heap H locs → fMo_included_L128 x0_padded g0_pad k4 k5 n128 k7 k8 g0_firsts = some (rr, og0_firsts) → W p l e { frames := 2, cells := 0, slots := 0, locals := 44 } s m args below meth c H locs 0 0 (hw_Z below args s D vwCl A [(h0, .inr (5, [.int x0_count, .ref h0_keys, .ref h0_legs, .ref h0_account, .ref h0_amount, .ref h0_seals, .ref h0_ends, .int x0_synced, .int x0_syncedEnd, .int x0_draft, .ref h0_draftAccount, .ref h0_draftAmount, .ref h0_limits, .ref h0_disk, .int x0_off, .int x0_failing, .int x0_written, .int x0_padded, .ref h0_pad, .ref h0_stack, .ref h0_firsts, .ref h0_others])), (h0_pad, .inl (cA, 16, .inl g0_pad)), (h0_firsts, .inl (cZ, 16, .inl og0_firsts))] (some (.int rr))) (F0 m 128 ls []) := by
    intro n128
    induction n128 with
    | zero => intro ls H locs k4 k5 k7 k8 g0_firsts hl hP hD hS hf; simp only [fMo_included_L128] at hf; cases hf
    | succ n128 ih128 =>
      intro ls H locs k4 k5 k7 k8 g0_firsts hl hP hD hS hf
      rw [fMo_included_L128] at hf
      refine lv_iload hx hb dX6_included_128 (lv_at hl 4 rfl) ?_
      refine hi_if_lt (tgt := 182) hx hb dX6_included_130 rfl hf (fun hc hf => ?_) (fun hc hf => ?_)
      · refine lv_iload hx hb dX6_included_182 (lv_at hl 3 rfl) ?_
        refine lv_iload hx hb dX6_included_184 (lv_at hl 1 rfl) ?_
        refine hi_icmp_ne (tgt := 193) hx hb dX6_included_186 rfl hf (fun hc hf => ?_) (fun hc hf => ?_)
        · refine lv_iconst (v := (0 : Int32)) hx hb dX6_included_193 (by decide) ?_
          cases hf
          exact hw_rz hx hb hr hlk rfl (hP.sub [0, 1, 2] rfl) (hD.sub [0, 1, 2] (by decide) rfl) hS dX6_included_194
        · refine lv_iconst (v := (1 : Int32)) hx hb dX6_included_189 (by decide) ?_
          refine lv_goto (tgt := 194) hx hb dX6_included_190 rfl ?_
          cases hf
          exact hw_rz hx hb hr hlk rfl (hP.sub [0, 1, 2] rfl) (hD.sub [0, 1, 2] (by decide) rfl) hS dX6_included_194
      · refine lv_aload_n hx hb dX6_included_133 rfl (lv_at hl 0 rfl) ?_
        refine va_get (D := D) (ci := 5) (v := .ref h0_pad) (C := RX6) (T := TX6) (N := 22) hx hb hts in_X6 hown hK hP 0 rfl rfl 18 (by decide) (hts _ mw_349) (fun _ h9 => h9) rfl dX6_included_134 ?_
        refine lv_iload hx hb dX6_included_137 (lv_at hl 2 rfl) ?_
        refine lv_iconst (v := (1 : Int32)) hx hb dX6_included_139 (by decide) ?_
        refine lv_isub hx hb dX6_included_140 ?_
        refine lv_iload hx hb dX6_included_141 (lv_at hl 4 rfl) ?_
        refine lv_isub hx hb dX6_included_143 ?_
        obtain ⟨v7, e8, hf⟩ := hw_bind hf
        refine hw_iald hx hb hK hP 1 rfl e8 dX6_included_144 ?_
        refine lv_istore (lv' := [(9, .int v7), (0, .ref h0), (4, .int k4), (5, .int k5), (7, .int k7), (8, .int k8)]) hx hb dX6_included_145 hl (by decide) rfl (fun ls hl => ?_)
        refine lv_aload_n hx hb dX6_included_147 rfl (lv_at hl 1 rfl) ?_
        refine va_get (D := D) (ci := 5) (v := .ref h0_firsts) (C := RX6) (T := TX6) (N := 22) hx hb hts in_X6 hown hK hP 0 rfl rfl 20 (by decide) (hts _ mw_352) (fun _ h9 => h9) rfl dX6_included_148 ?_
        refine lv_iload hx hb dX6_included_151 (lv_at hl 5 rfl) ?_
        obtain ⟨v9, e10, hf⟩ := hw_bind hf
        refine hw_zald hx hb hK hP 2 rfl e10 dX6_included_153 ?_
        refine hi_if_eq (tgt := 167) hx hb dX6_included_154 rfl hf (fun hc hf => ?_) (fun hc hf => ?_)
        · refine lv_iload hx hb dX6_included_167 (lv_at hl 0 rfl) ?_
          refine lv_iload hx hb dX6_included_169 (lv_at hl 4 rfl) ?_
          obtain ⟨v11, e12, hf⟩ := hw_bind hf
          refine hw_goS (wr := [(h0, .inr (5, [.int x0_count, .ref h0_keys, .ref h0_legs, .ref h0_account, .ref h0_amount, .ref h0_seals, .ref h0_ends, .int x0_synced, .int x0_syncedEnd, .int x0_draft, .ref h0_draftAccount, .ref h0_draftAmount, .ref h0_limits, .ref h0_disk, .int x0_off, .int x0_failing, .int x0_written, .int x0_padded, .ref h0_pad, .ref h0_stack, .ref h0_firsts, .ref h0_others])), (h0_pad, .inl (cA, 16, .inl g0_pad)), (h0_firsts, .inl (cZ, 16, .inl g0_firsts))]) (rest := []) ⟨hx, hb, hml, hown, hts⟩ (cMo_node l D cA cZ v7 k7 v11 e12) (cwS 2 hts ks_X6_124 rfl rfl rfl (by decide +kernel) ⟨Nat.le_of_ble_eq_true rfl, Nat.le_of_ble_eq_true rfl⟩) [] [0, 1, 2] rfl rfl (by decide) (by decide) (by decide) hK hE hP hD hS hA hl.1 rfl rfl (Nat.le_of_ble_eq_true rfl) dX6_included_171 ⟨Nat.zero_le _, Nat.zero_le _⟩ (fun H locs (hP : va_P D vwCl [(h0, .inr (5, [.int x0_count, .ref h0_keys, .ref h0_legs, .ref h0_account, .ref h0_amount, .ref h0_seals, .ref h0_ends, .int x0_synced, .int x0_syncedEnd, .int x0_draft, .ref h0_draftAccount, .ref h0_draftAmount, .ref h0_limits, .ref h0_disk, .int x0_off, .int x0_failing, .int x0_written, .int x0_padded, .ref h0_pad, .ref h0_stack, .ref h0_firsts, .ref h0_others])), (h0_pad, .inl (cA, 16, .inl g0_pad)), (h0_firsts, .inl (cZ, 16, .inl g0_firsts))] H) (hD : va_D A [(h0, .inr (5, [.int x0_count, .ref h0_keys, .ref h0_legs, .ref h0_account, .ref h0_amount, .ref h0_seals, .ref h0_ends, .int x0_synced, .int x0_syncedEnd, .int x0_draft, .ref h0_draftAccount, .ref h0_draftAmount, .ref h0_limits, .ref h0_disk, .int x0_off, .int x0_failing, .int x0_written, .int x0_padded, .ref h0_pad, .ref h0_stack, .ref h0_firsts, .ref h0_others])), (h0_pad, .inl (cA, 16, .inl g0_pad)), (h0_firsts, .inl (cZ, 16, .inl g0_firsts))]) hS => ?_)
          refine lv_istore (lv' := [(7, .int v11), (9, .int v7), (0, .ref h0), (4, .int k4), (5, .int k5), (8, .int k8)]) hx hb dX6_included_174 hl (by decide) rfl (fun ls hl => ?_)
          refine lv_iinc (v := k8 + (-1 : Int32)) (lv' := [(8, .int (k8 + (-1 : Int32))), (7, .int v11), (9, .int v7), (0, .ref h0), (4, .int k4), (5, .int k5)]) hx hb dX6_included_176 hl (k := 5) rfl (congrArg (fun z => k8 + z) (by decide)) (by decide) rfl (fun ls hl => ?_)
          refine lv_goto (tgt := 128) hx hb dX6_included_179 rfl ?_
          exact ih128 _ _ _ k4 k5 v11 (k8 + (-1 : Int32)) g0_firsts (lv_sub hl [3, 4, 5, 1, 0] rfl) (hP.sub [0, 1, 2] rfl) (hD.sub [0, 1, 2] (by decide) rfl) hS hf
        · refine lv_iload hx hb dX6_included_157 (lv_at hl 4 rfl) ?_
          refine lv_iload hx hb dX6_included_159 (lv_at hl 0 rfl) ?_
          obtain ⟨v13, e14, hf⟩ := hw_bind hf
          refine hw_goS (wr := [(h0, .inr (5, [.int x0_count, .ref h0_keys, .ref h0_legs, .ref h0_account, .ref h0_amount, .ref h0_seals, .ref h0_ends, .int x0_synced, .int x0_syncedEnd, .int x0_draft, .ref h0_draftAccount, .ref h0_draftAmount, .ref h0_limits, .ref h0_disk, .int x0_off, .int x0_failing, .int x0_written, .int x0_padded, .ref h0_pad, .ref h0_stack, .ref h0_firsts, .ref h0_others])), (h0_pad, .inl (cA, 16, .inl g0_pad)), (h0_firsts, .inl (cZ, 16, .inl g0_firsts))]) (rest := []) ⟨hx, hb, hml, hown, hts⟩ (cMo_node l D cA cZ k7 v7 v13 e14) (cwS 2 hts ks_X6_124 rfl rfl rfl (by decide +kernel) ⟨Nat.le_of_ble_eq_true rfl, Nat.le_of_ble_eq_true rfl⟩) [] [0, 1, 2] rfl rfl (by decide) (by decide) (by decide) hK hE hP hD hS hA hl.1 rfl rfl (Nat.le_of_ble_eq_true rfl) dX6_included_161 ⟨Nat.zero_le _, Nat.zero_le _⟩ (fun H locs (hP : va_P D vwCl [(h0, .inr (5, [.int x0_count, .ref h0_keys, .ref h0_legs, .ref h0_account, .ref h0_amount, .ref h0_seals, .ref h0_ends, .int x0_synced, .int x0_syncedEnd, .int x0_draft, .ref h0_draftAccount, .ref h0_draftAmount, .ref h0_limits, .ref h0_disk, .int x0_off, .int x0_failing, .int x0_written, .int x0_padded, .ref h0_pad, .ref h0_stack, .ref h0_firsts, .ref h0_others])), (h0_pad, .inl (cA, 16, .inl g0_pad)), (h0_firsts, .inl (cZ, 16, .inl g0_firsts))] H) (hD : va_D A [(h0, .inr (5, [.int x0_count, .ref h0_keys, .ref h0_legs, .ref h0_account, .ref h0_amount, .ref h0_seals, .ref h0_ends, .int x0_synced, .int x0_syncedEnd, .int x0_draft, .ref h0_draftAccount, .ref h0_draftAmount, .ref h0_limits, .ref h0_disk, .int x0_off, .int x0_failing, .int x0_written, .int x0_padded, .ref h0_pad, .ref h0_stack, .ref h0_firsts, .ref h0_others])), (h0_pad, .inl (cA, 16, .inl g0_pad)), (h0_firsts, .inl (cZ, 16, .inl g0_firsts))]) hS => ?_)
          refine lv_goto (tgt := 174) hx hb dX6_included_164 rfl ?_
          refine lv_istore (lv' := [(7, .int v13), (9, .int v7), (0, .ref h0), (4, .int k4), (5, .int k5), (8, .int k8)]) hx hb dX6_included_174 hl (by decide) rfl (fun ls hl => ?_)
          refine lv_iinc (v := k8 + (-1 : Int32)) (lv' := [(8, .int (k8 + (-1 : Int32))), (7, .int v13), (9, .int v7), (0, .ref h0), (4, .int k4), (5, .int k5)]) hx hb dX6_included_176 hl (k := 5) rfl (congrArg (fun z => k8 + z) (by decide)) (by decide) rfl (fun ls hl => ?_)
          refine lv_goto (tgt := 128) hx hb dX6_included_179 rfl ?_
          exact ih128 _ _ _ k4 k5 v13 (k8 + (-1 : Int32)) g0_firsts (lv_sub hl [3, 4, 5, 1, 0] rfl) (hP.sub [0, 1, 2] rfl) (hD.sub [0, 1, 2] (by decide) rfl) hS hf
  have L32 : ∀ (n32 : Nat) (ls : Array Slot) (H : Heap) (locs : List Loc) (k1 : Int32) (k4 : Int32) (k5 : Int32) (k6 : Int32) (k7 : Int32) (g0_firsts : Nat → Int32), lv_has ls 10 [(0, .ref h0), (1, .int k1), (4, .int k4), (5, .int k5), (6, .int k6), (7, .int k7)] → va_P D vwCl [(h0, .inr (5, [.int x0_count, .ref h0_keys, .ref h0_legs, .ref h0_account, .ref h0_amount, .ref h0_seals, .ref h0_ends, .int x0_synced, .int x0_syncedEnd, .int x0_draft, .ref h0_draftAccount, .ref h0_draftAmount, .ref h0_limits, .ref h0_disk, .int x0_off, .int x0_failing, .int x0_written, .int x0_padded, .ref h0_pad, .ref h0_stack, .ref h0_firsts, .ref h0_others])), (h0_pad, .inl (cA, 16, .inl g0_pad)), (h0_firsts, .inl (cZ, 16, .inl g0_firsts))] H → va_D A [(h0, .inr (5, [.int x0_count, .ref h0_keys, .ref h0_legs, .ref h0_account, .ref h0_amount, .ref h0_seals, .ref h0_ends, .int x0_synced, .int x0_syncedEnd, .int x0_draft, .ref h0_draftAccount, .ref h0_draftAmount, .ref h0_limits, .ref h0_disk, .int x0_off, .int x0_failing, .int x0_written, .int x0_padded, .ref h0_pad, .ref h0_stack, .ref h0_firsts, .ref h0_others])), (h0_pad, .inl (cA, 16, .inl g0_pad)), (h0_firsts, .inl (cZ, 16, .inl g0_firsts))] → va_S A s.heap H locs → fMo_included_L32 x0_padded g0_pad k1 k4 n32 k5 k6 k7 g0_firsts = some (rr, og0_firsts) → W p l e { frames := 2, cells := 0, slots := 0, locals := 44 } s m args below meth c H locs 0 0 (hw_Z below args s D vwCl A [(h0, .inr (5, [.int x0_count, .ref h0_keys, .ref h0_legs, .ref h0_account, .ref h0_amount, .ref h0_seals, .ref h0_ends, .int x0_synced, .int x0_syncedEnd, .int x0_draft, .ref h0_draftAccount, .ref h0_draftAmount, .ref h0_limits, .ref h0_disk, .int x0_off, .int x0_failing, .int x0_written, .int x0_padded, .ref h0_pad, .ref h0_stack, .ref h0_firsts, .ref h0_others])), (h0_pad, .inl (cA, 16, .inl g0_pad)), (h0_firsts, .inl (cZ, 16, .inl og0_firsts))] (some (.int rr))) (F0 m 32 ls []) := by
    intro n32
    induction n32 with
    | zero => intro ls H locs k1 k4 k5 k6 k7 g0_firsts hl hP hD hS hf; simp only [fMo_included_L32] at hf; cases hf
    | succ n32 ih32 =>
      intro ls H locs k1 k4 k5 k6 k7 g0_firsts hl hP hD hS hf
      rw [fMo_included_L32] at hf
      refine lv_iload hx hb dX6_included_32 (lv_at hl 5 rfl) ?_
      refine lv_iconst (v := (1 : Int32)) hx hb dX6_included_34 (by decide) ?_
      refine hi_icmp_le (tgt := 108) hx hb dX6_included_35 rfl hf (fun hc hf => ?_) (fun hc hf => ?_)
      · refine lv_iload hx hb dX6_included_108 (lv_at hl 3 rfl) ?_
        refine lv_aload_n hx hb dX6_included_110 rfl (lv_at hl 0 rfl) ?_
        refine va_get (D := D) (ci := 5) (v := .int x0_padded) (C := RX6) (T := TX6) (N := 22) hx hb hts in_X6 hown hK hP 0 rfl rfl 17 (by decide) (hts _ mw_436) (fun _ h9 => h9) rfl dX6_included_111 ?_
        refine hi_icmp_eq (tgt := 119) hx hb dX6_included_114 rfl hf (fun hc hf => ?_) (fun hc hf => ?_)
        · refine lv_iload_n hx hb dX6_included_119 rfl (lv_at hl 1 rfl) ?_
          refine lv_istore (lv' := [(7, .int k1), (0, .ref h0), (1, .int k1), (4, .int k4), (5, .int k5), (6, .int k6)]) hx hb dX6_included_120 hl (by decide) rfl (fun ls hl => ?_)
          refine lv_iload hx hb dX6_included_122 (lv_at hl 4 rfl) ?_
          refine lv_iconst (v := (1 : Int32)) hx hb dX6_included_124 (by decide) ?_
          refine lv_isub hx hb dX6_included_125 ?_
          refine lv_istore (lv' := [(8, .int (k5 - (1 : Int32))), (7, .int k1), (0, .ref h0), (1, .int k1), (4, .int k4), (5, .int k5), (6, .int k6)]) hx hb dX6_included_126 hl (by decide) rfl (fun ls hl => ?_)
          exact L128 600 _ _ _ k4 k5 k1 (k5 - (1 : Int32)) g0_firsts (lv_sub hl [2, 4, 5, 1, 0] rfl) (hP.sub [0, 1, 2] rfl) (hD.sub [0, 1, 2] (by decide) rfl) hS hf
        · refine lv_iconst (v := (0 : Int32)) hx hb dX6_included_117 (by decide) ?_
          cases hf
          exact hw_rz hx hb hr hlk rfl (hP.sub [0, 1, 2] rfl) (hD.sub [0, 1, 2] (by decide) rfl) hS dX6_included_118
      · refine lv_iload hx hb dX6_included_38 (lv_at hl 5 rfl) ?_
        obtain ⟨v1, e2, hf⟩ := hw_bind hf
        refine hw_goS (wr := [(h0, .inr (5, [.int x0_count, .ref h0_keys, .ref h0_legs, .ref h0_account, .ref h0_amount, .ref h0_seals, .ref h0_ends, .int x0_synced, .int x0_syncedEnd, .int x0_draft, .ref h0_draftAccount, .ref h0_draftAmount, .ref h0_limits, .ref h0_disk, .int x0_off, .int x0_failing, .int x0_written, .int x0_padded, .ref h0_pad, .ref h0_stack, .ref h0_firsts, .ref h0_others])), (h0_pad, .inl (cA, 16, .inl g0_pad)), (h0_firsts, .inl (cZ, 16, .inl g0_firsts))]) (rest := []) ⟨hx, hb, hml, hown, hts⟩ (cMo_part l D cA cZ k7 v1 e2) (cwS 1 hts ks_X6_133 rfl rfl rfl (by decide +kernel) ⟨Nat.le_of_ble_eq_true rfl, Nat.le_of_ble_eq_true rfl⟩) [] [0, 1, 2] rfl rfl (by decide) (by decide) (by decide) hK hE hP hD hS hA hl.1 rfl rfl (Nat.le_of_ble_eq_true rfl) dX6_included_40 ⟨Nat.zero_le _, Nat.zero_le _⟩ (fun H locs (hP : va_P D vwCl [(h0, .inr (5, [.int x0_count, .ref h0_keys, .ref h0_legs, .ref h0_account, .ref h0_amount, .ref h0_seals, .ref h0_ends, .int x0_synced, .int x0_syncedEnd, .int x0_draft, .ref h0_draftAccount, .ref h0_draftAmount, .ref h0_limits, .ref h0_disk, .int x0_off, .int x0_failing, .int x0_written, .int x0_padded, .ref h0_pad, .ref h0_stack, .ref h0_firsts, .ref h0_others])), (h0_pad, .inl (cA, 16, .inl g0_pad)), (h0_firsts, .inl (cZ, 16, .inl g0_firsts))] H) (hD : va_D A [(h0, .inr (5, [.int x0_count, .ref h0_keys, .ref h0_legs, .ref h0_account, .ref h0_amount, .ref h0_seals, .ref h0_ends, .int x0_synced, .int x0_syncedEnd, .int x0_draft, .ref h0_draftAccount, .ref h0_draftAmount, .ref h0_limits, .ref h0_disk, .int x0_off, .int x0_failing, .int x0_written, .int x0_padded, .ref h0_pad, .ref h0_stack, .ref h0_firsts, .ref h0_others])), (h0_pad, .inl (cA, 16, .inl g0_pad)), (h0_firsts, .inl (cZ, 16, .inl g0_firsts))]) hS => ?_)
        refine lv_istore (lv' := [(8, .int v1), (0, .ref h0), (1, .int k1), (4, .int k4), (5, .int k5), (6, .int k6), (7, .int k7)]) hx hb dX6_included_43 hl (by decide) rfl (fun ls hl => ?_)
        refine lv_aload_n hx hb dX6_included_45 rfl (lv_at hl 1 rfl) ?_
        refine va_get (D := D) (ci := 5) (v := .ref h0_firsts) (C := RX6) (T := TX6) (N := 22) hx hb hts in_X6 hown hK hP 0 rfl rfl 20 (by decide) (hts _ mw_352) (fun _ h9 => h9) rfl dX6_included_46 ?_
        refine lv_iload hx hb dX6_included_49 (lv_at hl 4 rfl) ?_
        refine lv_iload hx hb dX6_included_51 (lv_at hl 5 rfl) ?_
        refine lv_iload hx hb dX6_included_53 (lv_at hl 0 rfl) ?_
        refine hi_icmp_ge (tgt := 62) hx hb dX6_included_55 rfl hf (fun hc hf => ?_) (fun hc hf => ?_)
        · refine lv_iconst (v := (0 : Int32)) hx hb dX6_included_62 (by decide) ?_
          obtain ⟨u3, e4, hf⟩ := hw_bind hf
          refine hw_zast hx hb hK hP hD hS 2 rfl e4 dX6_included_63 (fun H locs (hP : va_P D vwCl [(h0, .inr (5, [.int x0_count, .ref h0_keys, .ref h0_legs, .ref h0_account, .ref h0_amount, .ref h0_seals, .ref h0_ends, .int x0_synced, .int x0_syncedEnd, .int x0_draft, .ref h0_draftAccount, .ref h0_draftAmount, .ref h0_limits, .ref h0_disk, .int x0_off, .int x0_failing, .int x0_written, .int x0_padded, .ref h0_pad, .ref h0_stack, .ref h0_firsts, .ref h0_others])), (h0_pad, .inl (cA, 16, .inl g0_pad)), (h0_firsts, .inl (cZ, 16, .inl u3))] H) (hD : va_D A [(h0, .inr (5, [.int x0_count, .ref h0_keys, .ref h0_legs, .ref h0_account, .ref h0_amount, .ref h0_seals, .ref h0_ends, .int x0_synced, .int x0_syncedEnd, .int x0_draft, .ref h0_draftAccount, .ref h0_draftAmount, .ref h0_limits, .ref h0_disk, .int x0_off, .int x0_failing, .int x0_written, .int x0_padded, .ref h0_pad, .ref h0_stack, .ref h0_firsts, .ref h0_others])), (h0_pad, .inl (cA, 16, .inl g0_pad)), (h0_firsts, .inl (cZ, 16, .inl u3))]) hS => ?_)
          refine lv_iload hx hb dX6_included_64 (lv_at hl 5 rfl) ?_
          refine lv_iload hx hb dX6_included_66 (lv_at hl 0 rfl) ?_
          refine hi_icmp_ge (tgt := 76) hx hb dX6_included_68 rfl hf (fun hc hf => ?_) (fun hc hf => ?_)
          · refine lv_iload hx hb dX6_included_76 (lv_at hl 6 rfl) ?_
            refine lv_iload hx hb dX6_included_78 (lv_at hl 0 rfl) ?_
            refine lv_isub hx hb dX6_included_80 ?_
            refine lv_istore (lv' := [(7, .int (k7 - v1)), (8, .int v1), (0, .ref h0), (1, .int k1), (4, .int k4), (5, .int k5), (6, .int k6)]) hx hb dX6_included_81 hl (by decide) rfl (fun ls hl => ?_)
            refine lv_iload hx hb dX6_included_83 (lv_at hl 6 rfl) ?_
            refine lv_iload hx hb dX6_included_85 (lv_at hl 1 rfl) ?_
            refine hi_icmp_ge (tgt := 95) hx hb dX6_included_87 rfl hf (fun hc hf => ?_) (fun hc hf => ?_)
            · refine lv_iload hx hb dX6_included_95 (lv_at hl 6 rfl) ?_
              refine lv_iload hx hb dX6_included_97 (lv_at hl 1 rfl) ?_
              refine lv_isub hx hb dX6_included_99 ?_
              refine lv_istore (lv' := [(6, .int (k6 - v1)), (7, .int (k7 - v1)), (8, .int v1), (0, .ref h0), (1, .int k1), (4, .int k4), (5, .int k5)]) hx hb dX6_included_100 hl (by decide) rfl (fun ls hl => ?_)
              refine lv_iinc (v := k5 + (1 : Int32)) (lv' := [(5, .int (k5 + (1 : Int32))), (6, .int (k6 - v1)), (7, .int (k7 - v1)), (8, .int v1), (0, .ref h0), (1, .int k1), (4, .int k4)]) hx hb dX6_included_102 hl (k := 6) rfl (congrArg (fun z => k5 + z) (by decide)) (by decide) rfl (fun ls hl => ?_)
              refine lv_goto (tgt := 32) hx hb dX6_included_105 rfl ?_
              exact ih32 _ _ _ k1 k4 (k5 + (1 : Int32)) (k6 - v1) (k7 - v1) u3 (lv_sub hl [4, 5, 6, 0, 1, 2] rfl) (hP.sub [0, 1, 2] rfl) (hD.sub [0, 1, 2] (by decide) rfl) hS hf
            · refine lv_iload hx hb dX6_included_90 (lv_at hl 6 rfl) ?_
              refine lv_goto (tgt := 100) hx hb dX6_included_92 rfl ?_
              refine lv_istore (lv' := [(6, .int k6), (7, .int (k7 - v1)), (8, .int v1), (0, .ref h0), (1, .int k1), (4, .int k4), (5, .int k5)]) hx hb dX6_included_100 hl (by decide) rfl (fun ls hl => ?_)
              refine lv_iinc (v := k5 + (1 : Int32)) (lv' := [(5, .int (k5 + (1 : Int32))), (6, .int k6), (7, .int (k7 - v1)), (8, .int v1), (0, .ref h0), (1, .int k1), (4, .int k4)]) hx hb dX6_included_102 hl (k := 6) rfl (congrArg (fun z => k5 + z) (by decide)) (by decide) rfl (fun ls hl => ?_)
              refine lv_goto (tgt := 32) hx hb dX6_included_105 rfl ?_
              exact ih32 _ _ _ k1 k4 (k5 + (1 : Int32)) k6 (k7 - v1) u3 (lv_sub hl [4, 5, 6, 0, 1, 2] rfl) (hP.sub [0, 1, 2] rfl) (hD.sub [0, 1, 2] (by decide) rfl) hS hf
          · refine lv_iload hx hb dX6_included_71 (lv_at hl 0 rfl) ?_
            refine lv_goto (tgt := 81) hx hb dX6_included_73 rfl ?_
            refine lv_istore (lv' := [(7, .int v1), (8, .int v1), (0, .ref h0), (1, .int k1), (4, .int k4), (5, .int k5), (6, .int k6)]) hx hb dX6_included_81 hl (by decide) rfl (fun ls hl => ?_)
            refine lv_iload hx hb dX6_included_83 (lv_at hl 6 rfl) ?_
            refine lv_iload hx hb dX6_included_85 (lv_at hl 1 rfl) ?_
            refine hi_icmp_ge (tgt := 95) hx hb dX6_included_87 rfl hf (fun hc hf => ?_) (fun hc hf => ?_)
            · refine lv_iload hx hb dX6_included_95 (lv_at hl 6 rfl) ?_
              refine lv_iload hx hb dX6_included_97 (lv_at hl 1 rfl) ?_
              refine lv_isub hx hb dX6_included_99 ?_
              refine lv_istore (lv' := [(6, .int (k6 - v1)), (7, .int v1), (8, .int v1), (0, .ref h0), (1, .int k1), (4, .int k4), (5, .int k5)]) hx hb dX6_included_100 hl (by decide) rfl (fun ls hl => ?_)
              refine lv_iinc (v := k5 + (1 : Int32)) (lv' := [(5, .int (k5 + (1 : Int32))), (6, .int (k6 - v1)), (7, .int v1), (8, .int v1), (0, .ref h0), (1, .int k1), (4, .int k4)]) hx hb dX6_included_102 hl (k := 6) rfl (congrArg (fun z => k5 + z) (by decide)) (by decide) rfl (fun ls hl => ?_)
              refine lv_goto (tgt := 32) hx hb dX6_included_105 rfl ?_
              exact ih32 _ _ _ k1 k4 (k5 + (1 : Int32)) (k6 - v1) v1 u3 (lv_sub hl [4, 5, 6, 0, 1, 2] rfl) (hP.sub [0, 1, 2] rfl) (hD.sub [0, 1, 2] (by decide) rfl) hS hf
            · refine lv_iload hx hb dX6_included_90 (lv_at hl 6 rfl) ?_
              refine lv_goto (tgt := 100) hx hb dX6_included_92 rfl ?_
              refine lv_istore (lv' := [(6, .int k6), (7, .int v1), (8, .int v1), (0, .ref h0), (1, .int k1), (4, .int k4), (5, .int k5)]) hx hb dX6_included_100 hl (by decide) rfl (fun ls hl => ?_)
              refine lv_iinc (v := k5 + (1 : Int32)) (lv' := [(5, .int (k5 + (1 : Int32))), (6, .int k6), (7, .int v1), (8, .int v1), (0, .ref h0), (1, .int k1), (4, .int k4)]) hx hb dX6_included_102 hl (k := 6) rfl (congrArg (fun z => k5 + z) (by decide)) (by decide) rfl (fun ls hl => ?_)
              refine lv_goto (tgt := 32) hx hb dX6_included_105 rfl ?_
              exact ih32 _ _ _ k1 k4 (k5 + (1 : Int32)) k6 v1 u3 (lv_sub hl [4, 5, 6, 0, 1, 2] rfl) (hP.sub [0, 1, 2] rfl) (hD.sub [0, 1, 2] (by decide) rfl) hS hf
        · refine lv_iconst (v := (1 : Int32)) hx hb dX6_included_58 (by decide) ?_
          refine lv_goto (tgt := 63) hx hb dX6_included_59 rfl ?_
          obtain ⟨u5, e6, hf⟩ := hw_bind hf
          refine hw_zast hx hb hK hP hD hS 2 rfl e6 dX6_included_63 (fun H locs (hP : va_P D vwCl [(h0, .inr (5, [.int x0_count, .ref h0_keys, .ref h0_legs, .ref h0_account, .ref h0_amount, .ref h0_seals, .ref h0_ends, .int x0_synced, .int x0_syncedEnd, .int x0_draft, .ref h0_draftAccount, .ref h0_draftAmount, .ref h0_limits, .ref h0_disk, .int x0_off, .int x0_failing, .int x0_written, .int x0_padded, .ref h0_pad, .ref h0_stack, .ref h0_firsts, .ref h0_others])), (h0_pad, .inl (cA, 16, .inl g0_pad)), (h0_firsts, .inl (cZ, 16, .inl u5))] H) (hD : va_D A [(h0, .inr (5, [.int x0_count, .ref h0_keys, .ref h0_legs, .ref h0_account, .ref h0_amount, .ref h0_seals, .ref h0_ends, .int x0_synced, .int x0_syncedEnd, .int x0_draft, .ref h0_draftAccount, .ref h0_draftAmount, .ref h0_limits, .ref h0_disk, .int x0_off, .int x0_failing, .int x0_written, .int x0_padded, .ref h0_pad, .ref h0_stack, .ref h0_firsts, .ref h0_others])), (h0_pad, .inl (cA, 16, .inl g0_pad)), (h0_firsts, .inl (cZ, 16, .inl u5))]) hS => ?_)
          refine lv_iload hx hb dX6_included_64 (lv_at hl 5 rfl) ?_
          refine lv_iload hx hb dX6_included_66 (lv_at hl 0 rfl) ?_
          refine hi_icmp_ge (tgt := 76) hx hb dX6_included_68 rfl hf (fun hc hf => ?_) (fun hc hf => ?_)
          · refine lv_iload hx hb dX6_included_76 (lv_at hl 6 rfl) ?_
            refine lv_iload hx hb dX6_included_78 (lv_at hl 0 rfl) ?_
            refine lv_isub hx hb dX6_included_80 ?_
            refine lv_istore (lv' := [(7, .int (k7 - v1)), (8, .int v1), (0, .ref h0), (1, .int k1), (4, .int k4), (5, .int k5), (6, .int k6)]) hx hb dX6_included_81 hl (by decide) rfl (fun ls hl => ?_)
            refine lv_iload hx hb dX6_included_83 (lv_at hl 6 rfl) ?_
            refine lv_iload hx hb dX6_included_85 (lv_at hl 1 rfl) ?_
            refine hi_icmp_ge (tgt := 95) hx hb dX6_included_87 rfl hf (fun hc hf => ?_) (fun hc hf => ?_)
            · refine lv_iload hx hb dX6_included_95 (lv_at hl 6 rfl) ?_
              refine lv_iload hx hb dX6_included_97 (lv_at hl 1 rfl) ?_
              refine lv_isub hx hb dX6_included_99 ?_
              refine lv_istore (lv' := [(6, .int (k6 - v1)), (7, .int (k7 - v1)), (8, .int v1), (0, .ref h0), (1, .int k1), (4, .int k4), (5, .int k5)]) hx hb dX6_included_100 hl (by decide) rfl (fun ls hl => ?_)
              refine lv_iinc (v := k5 + (1 : Int32)) (lv' := [(5, .int (k5 + (1 : Int32))), (6, .int (k6 - v1)), (7, .int (k7 - v1)), (8, .int v1), (0, .ref h0), (1, .int k1), (4, .int k4)]) hx hb dX6_included_102 hl (k := 6) rfl (congrArg (fun z => k5 + z) (by decide)) (by decide) rfl (fun ls hl => ?_)
              refine lv_goto (tgt := 32) hx hb dX6_included_105 rfl ?_
              exact ih32 _ _ _ k1 k4 (k5 + (1 : Int32)) (k6 - v1) (k7 - v1) u5 (lv_sub hl [4, 5, 6, 0, 1, 2] rfl) (hP.sub [0, 1, 2] rfl) (hD.sub [0, 1, 2] (by decide) rfl) hS hf
            · refine lv_iload hx hb dX6_included_90 (lv_at hl 6 rfl) ?_
              refine lv_goto (tgt := 100) hx hb dX6_included_92 rfl ?_
              refine lv_istore (lv' := [(6, .int k6), (7, .int (k7 - v1)), (8, .int v1), (0, .ref h0), (1, .int k1), (4, .int k4), (5, .int k5)]) hx hb dX6_included_100 hl (by decide) rfl (fun ls hl => ?_)
              refine lv_iinc (v := k5 + (1 : Int32)) (lv' := [(5, .int (k5 + (1 : Int32))), (6, .int k6), (7, .int (k7 - v1)), (8, .int v1), (0, .ref h0), (1, .int k1), (4, .int k4)]) hx hb dX6_included_102 hl (k := 6) rfl (congrArg (fun z => k5 + z) (by decide)) (by decide) rfl (fun ls hl => ?_)
              refine lv_goto (tgt := 32) hx hb dX6_included_105 rfl ?_
              exact ih32 _ _ _ k1 k4 (k5 + (1 : Int32)) k6 (k7 - v1) u5 (lv_sub hl [4, 5, 6, 0, 1, 2] rfl) (hP.sub [0, 1, 2] rfl) (hD.sub [0, 1, 2] (by decide) rfl) hS hf
          · refine lv_iload hx hb dX6_included_71 (lv_at hl 0 rfl) ?_
            refine lv_goto (tgt := 81) hx hb dX6_included_73 rfl ?_
            refine lv_istore (lv' := [(7, .int v1), (8, .int v1), (0, .ref h0), (1, .int k1), (4, .int k4), (5, .int k5), (6, .int k6)]) hx hb dX6_included_81 hl (by decide) rfl (fun ls hl => ?_)
            refine lv_iload hx hb dX6_included_83 (lv_at hl 6 rfl) ?_
            refine lv_iload hx hb dX6_included_85 (lv_at hl 1 rfl) ?_
            refine hi_icmp_ge (tgt := 95) hx hb dX6_included_87 rfl hf (fun hc hf => ?_) (fun hc hf => ?_)
            · refine lv_iload hx hb dX6_included_95 (lv_at hl 6 rfl) ?_
              refine lv_iload hx hb dX6_included_97 (lv_at hl 1 rfl) ?_
              refine lv_isub hx hb dX6_included_99 ?_
              refine lv_istore (lv' := [(6, .int (k6 - v1)), (7, .int v1), (8, .int v1), (0, .ref h0), (1, .int k1), (4, .int k4), (5, .int k5)]) hx hb dX6_included_100 hl (by decide) rfl (fun ls hl => ?_)
              refine lv_iinc (v := k5 + (1 : Int32)) (lv' := [(5, .int (k5 + (1 : Int32))), (6, .int (k6 - v1)), (7, .int v1), (8, .int v1), (0, .ref h0), (1, .int k1), (4, .int k4)]) hx hb dX6_included_102 hl (k := 6) rfl (congrArg (fun z => k5 + z) (by decide)) (by decide) rfl (fun ls hl => ?_)
              refine lv_goto (tgt := 32) hx hb dX6_included_105 rfl ?_
              exact ih32 _ _ _ k1 k4 (k5 + (1 : Int32)) (k6 - v1) v1 u5 (lv_sub hl [4, 5, 6, 0, 1, 2] rfl) (hP.sub [0, 1, 2] rfl) (hD.sub [0, 1, 2] (by decide) rfl) hS hf
            · refine lv_iload hx hb dX6_included_90 (lv_at hl 6 rfl) ?_
              refine lv_goto (tgt := 100) hx hb dX6_included_92 rfl ?_
              refine lv_istore (lv' := [(6, .int k6), (7, .int v1), (8, .int v1), (0, .ref h0), (1, .int k1), (4, .int k4), (5, .int k5)]) hx hb dX6_included_100 hl (by decide) rfl (fun ls hl => ?_)
              refine lv_iinc (v := k5 + (1 : Int32)) (lv' := [(5, .int (k5 + (1 : Int32))), (6, .int k6), (7, .int v1), (8, .int v1), (0, .ref h0), (1, .int k1), (4, .int k4)]) hx hb dX6_included_102 hl (k := 6) rfl (congrArg (fun z => k5 + z) (by decide)) (by decide) rfl (fun ls hl => ?_)
              refine lv_goto (tgt := 32) hx hb dX6_included_105 rfl ?_
              exact ih32 _ _ _ k1 k4 (k5 + (1 : Int32)) k6 v1 u5 (lv_sub hl [4, 5, 6, 0, 1, 2] rfl) (hP.sub [0, 1, 2] rfl) (hD.sub [0, 1, 2] (by decide) rfl) hS hf
  rw [fMo_included] at hf
  refine lv_iload_n hx hb dX6_included_0 rfl (lv_at hl 3 rfl) ?_
  refine lv_iconst (v := (1 : Int32)) hx hb dX6_included_1 (by decide) ?_
  refine hi_icmp_lt (tgt := 21) hx hb dX6_included_2 rfl hf (fun hc hf => ?_) (fun hc hf => ?_)
  · refine lv_iconst (v := (0 : Int32)) hx hb dX6_included_21 (by decide) ?_
    cases hf
    exact hw_rz hx hb hr hlk rfl (hP.sub [0, 1, 2] rfl) (hD.sub [0, 1, 2] (by decide) rfl) hS dX6_included_22
  · refine lv_iload_n hx hb dX6_included_5 rfl (lv_at hl 3 rfl) ?_
    refine lv_sipush (v := (1000 : Int32)) hx hb dX6_included_6 (by decide) ?_
    refine hi_icmp_gt (tgt := 21) hx hb dX6_included_9 rfl hf (fun hc hf => ?_) (fun hc hf => ?_)
    · refine lv_iconst (v := (0 : Int32)) hx hb dX6_included_21 (by decide) ?_
      cases hf
      exact hw_rz hx hb hr hlk rfl (hP.sub [0, 1, 2] rfl) (hD.sub [0, 1, 2] (by decide) rfl) hS dX6_included_22
    · refine lv_iload_n hx hb dX6_included_12 rfl (lv_at hl 2 rfl) ?_
      refine hi_if_lt (tgt := 21) hx hb dX6_included_13 rfl hf (fun hc hf => ?_) (fun hc hf => ?_)
      · refine lv_iconst (v := (0 : Int32)) hx hb dX6_included_21 (by decide) ?_
        cases hf
        exact hw_rz hx hb hr hlk rfl (hP.sub [0, 1, 2] rfl) (hD.sub [0, 1, 2] (by decide) rfl) hS dX6_included_22
      · refine lv_iload_n hx hb dX6_included_16 rfl (lv_at hl 2 rfl) ?_
        refine lv_iload_n hx hb dX6_included_17 rfl (lv_at hl 3 rfl) ?_
        refine hi_icmp_lt (tgt := 23) hx hb dX6_included_18 rfl hf (fun hc hf => ?_) (fun hc hf => ?_)
        · refine lv_iconst (v := (0 : Int32)) hx hb dX6_included_23 (by decide) ?_
          refine lv_istore (lv' := [(5, .int (0 : Int32)), (0, .ref h0), (1, .int k1), (2, .int k2), (3, .int k3), (4, .int k4)]) hx hb dX6_included_24 hl (by decide) rfl (fun ls hl => ?_)
          refine lv_iload_n hx hb dX6_included_26 rfl (lv_at hl 3 rfl) ?_
          refine lv_istore (lv' := [(6, .int k2), (5, .int (0 : Int32)), (0, .ref h0), (1, .int k1), (2, .int k2), (3, .int k3), (4, .int k4)]) hx hb dX6_included_27 hl (by decide) rfl (fun ls hl => ?_)
          refine lv_iload_n hx hb dX6_included_29 rfl (lv_at hl 5 rfl) ?_
          refine lv_istore (lv' := [(7, .int k3), (6, .int k2), (5, .int (0 : Int32)), (0, .ref h0), (1, .int k1), (2, .int k2), (3, .int k3), (4, .int k4)]) hx hb dX6_included_30 hl (by decide) rfl (fun ls hl => ?_)
          exact L32 600 _ _ _ k1 k4 (0 : Int32) k2 k3 g0_firsts (lv_sub hl [3, 4, 7, 2, 1, 0] rfl) (hP.sub [0, 1, 2] rfl) (hD.sub [0, 1, 2] (by decide) rfl) hS hf
        · refine lv_iconst (v := (0 : Int32)) hx hb dX6_included_21 (by decide) ?_
          cases hf
          exact hw_rz hx hb hr hlk rfl (hP.sub [0, 1, 2] rfl) (hD.sub [0, 1, 2] (by decide) rfl) hS dX6_included_22
set_option maxHeartbeats 4000000 in
set_option maxRecDepth 100000 in
theorem cMo_consistent (l : Launch) (D : va_G) (cA cZ : ClassId) (h0 : Nat) (h0_keys : Nat) (h0_legs : Nat) (h0_account : Nat) (h0_amount : Nat) (h0_seals : Nat) (h0_ends : Nat) (h0_draftAccount : Nat) (h0_draftAmount : Nat) (h0_limits : Nat) (h0_disk : Nat) (h0_pad : Nat) (h0_stack : Nat) (h0_firsts : Nat) (h0_others : Nat) (x0_count : Int32) (x0_synced : Int32) (x0_syncedEnd : Int32) (x0_draft : Int32) (x0_off : Int32) (x0_failing : Int32) (x0_written : Int32) (x0_padded : Int32) (g0_pad : Nat → Int32) (g0_firsts : Nat → Int32) (k1 : Int32) (k2 : Int32) (k3 : Int32) (k4 : Int32) (rr : Int32) (og0_firsts : Nat → Int32) (hf : fMo_consistent x0_padded g0_pad g0_firsts k1 k2 k3 k4 = some (rr, og0_firsts)) : hw_C l yX6_consistent wX6_consistent { frames := 2, cells := 0, slots := 0, locals := 44 } D vwCl cA cZ [.ref h0, .int k1, .int k2, .int k3, .int k4] [(h0, .inr (5, [.int x0_count, .ref h0_keys, .ref h0_legs, .ref h0_account, .ref h0_amount, .ref h0_seals, .ref h0_ends, .int x0_synced, .int x0_syncedEnd, .int x0_draft, .ref h0_draftAccount, .ref h0_draftAmount, .ref h0_limits, .ref h0_disk, .int x0_off, .int x0_failing, .int x0_written, .int x0_padded, .ref h0_pad, .ref h0_stack, .ref h0_firsts, .ref h0_others])), (h0_pad, .inl (cA, 16, .inl g0_pad)), (h0_firsts, .inl (cZ, 16, .inl g0_firsts))] [(h0, .inr (5, [.int x0_count, .ref h0_keys, .ref h0_legs, .ref h0_account, .ref h0_amount, .ref h0_seals, .ref h0_ends, .int x0_synced, .int x0_syncedEnd, .int x0_draft, .ref h0_draftAccount, .ref h0_draftAmount, .ref h0_limits, .ref h0_disk, .int x0_off, .int x0_failing, .int x0_written, .int x0_padded, .ref h0_pad, .ref h0_stack, .ref h0_firsts, .ref h0_others])), (h0_pad, .inl (cA, 16, .inl g0_pad)), (h0_firsts, .inl (cZ, 16, .inl og0_firsts))] (some (.int rr)) := by
  refine hw_of (cc := cX6_consistent) (maxL := 14) (ret := (some .boolean)) (by decide) rfl (Nat.le_of_ble_eq_true rfl) ?_
  intro p e s m args below meth c A ls hx hb hr hlk hml hown hts hA hK hE hP hD hS hl
  have hown : s.vm.findClass RX6 = some m.cls := hown
  have hl : lv_has ls 14 [(0, .ref h0), (1, .int k1), (2, .int k2), (3, .int k3), (4, .int k4)] := hl
  have L198 : ∀ (n198 : Nat) (ls : Array Slot) (H : Heap) (locs : List Loc) (k1 : Int32) (k3 : Int32) (k5 : Int32) (k9 : Int32) (k10 : Int32) (k11 : Int32) (k12 : Int32) (g0_firsts : Nat → Int32), lv_has ls 14 [(0, .ref h0), (1, .int k1), (3, .int k3), (5, .int k5), (9, .int k9), (10, .int k10), (11, .int k11), (12, .int k12)] → va_P D vwCl [(h0, .inr (5, [.int x0_count, .ref h0_keys, .ref h0_legs, .ref h0_account, .ref h0_amount, .ref h0_seals, .ref h0_ends, .int x0_synced, .int x0_syncedEnd, .int x0_draft, .ref h0_draftAccount, .ref h0_draftAmount, .ref h0_limits, .ref h0_disk, .int x0_off, .int x0_failing, .int x0_written, .int x0_padded, .ref h0_pad, .ref h0_stack, .ref h0_firsts, .ref h0_others])), (h0_pad, .inl (cA, 16, .inl g0_pad)), (h0_firsts, .inl (cZ, 16, .inl g0_firsts))] H → va_D A [(h0, .inr (5, [.int x0_count, .ref h0_keys, .ref h0_legs, .ref h0_account, .ref h0_amount, .ref h0_seals, .ref h0_ends, .int x0_synced, .int x0_syncedEnd, .int x0_draft, .ref h0_draftAccount, .ref h0_draftAmount, .ref h0_limits, .ref h0_disk, .int x0_off, .int x0_failing, .int x0_written, .int x0_padded, .ref h0_pad, .ref h0_stack, .ref h0_firsts, .ref h0_others])), (h0_pad, .inl (cA, 16, .inl g0_pad)), (h0_firsts, .inl (cZ, 16, .inl g0_firsts))] → va_S A s.heap H locs → fMo_consistent_L198 x0_padded g0_pad k1 k3 k5 k9 n198 k10 k11 k12 g0_firsts = some (rr, og0_firsts) → W p l e { frames := 2, cells := 0, slots := 0, locals := 44 } s m args below meth c H locs 0 0 (hw_Z below args s D vwCl A [(h0, .inr (5, [.int x0_count, .ref h0_keys, .ref h0_legs, .ref h0_account, .ref h0_amount, .ref h0_seals, .ref h0_ends, .int x0_synced, .int x0_syncedEnd, .int x0_draft, .ref h0_draftAccount, .ref h0_draftAmount, .ref h0_limits, .ref h0_disk, .int x0_off, .int x0_failing, .int x0_written, .int x0_padded, .ref h0_pad, .ref h0_stack, .ref h0_firsts, .ref h0_others])), (h0_pad, .inl (cA, 16, .inl g0_pad)), (h0_firsts, .inl (cZ, 16, .inl og0_firsts))] (some (.int rr))) (F0 m 198 ls []) := by
    intro n198
    induction n198 with
    | zero => intro ls H locs k1 k3 k5 k9 k10 k11 k12 g0_firsts hl hP hD hS hf; simp only [fMo_consistent_L198] at hf; cases hf
    | succ n198 ih198 =>
      intro ls H locs k1 k3 k5 k9 k10 k11 k12 g0_firsts hl hP hD hS hf
      rw [fMo_consistent_L198] at hf
      refine lv_iload hx hb dX6_consistent_198 (lv_at hl 7 rfl) ?_
      refine hi_if_lt (tgt := 279) hx hb dX6_consistent_200 rfl hf (fun hc hf => ?_) (fun hc hf => ?_)
      · refine lv_iload hx hb dX6_consistent_279 (lv_at hl 5 rfl) ?_
        refine lv_iload_n hx hb dX6_consistent_281 rfl (lv_at hl 1 rfl) ?_
        refine hi_icmp_ne (tgt := 295) hx hb dX6_consistent_282 rfl hf (fun hc hf => ?_) (fun hc hf => ?_)
        · refine lv_iconst (v := (0 : Int32)) hx hb dX6_consistent_295 (by decide) ?_
          cases hf
          exact hw_rz hx hb hr hlk rfl (hP.sub [0, 1, 2] rfl) (hD.sub [0, 1, 2] (by decide) rfl) hS dX6_consistent_296
        · refine lv_iload hx hb dX6_consistent_285 (lv_at hl 6 rfl) ?_
          refine lv_iload_n hx hb dX6_consistent_287 rfl (lv_at hl 2 rfl) ?_
          refine hi_icmp_ne (tgt := 295) hx hb dX6_consistent_288 rfl hf (fun hc hf => ?_) (fun hc hf => ?_)
          · refine lv_iconst (v := (0 : Int32)) hx hb dX6_consistent_295 (by decide) ?_
            cases hf
            exact hw_rz hx hb hr hlk rfl (hP.sub [0, 1, 2] rfl) (hD.sub [0, 1, 2] (by decide) rfl) hS dX6_consistent_296
          · refine lv_iconst (v := (1 : Int32)) hx hb dX6_consistent_291 (by decide) ?_
            refine lv_goto (tgt := 296) hx hb dX6_consistent_292 rfl ?_
            cases hf
            exact hw_rz hx hb hr hlk rfl (hP.sub [0, 1, 2] rfl) (hD.sub [0, 1, 2] (by decide) rfl) hS dX6_consistent_296
      · refine lv_aload_n hx hb dX6_consistent_203 rfl (lv_at hl 0 rfl) ?_
        refine va_get (D := D) (ci := 5) (v := .ref h0_pad) (C := RX6) (T := TX6) (N := 22) hx hb hts in_X6 hown hK hP 0 rfl rfl 18 (by decide) (hts _ mw_349) (fun _ h9 => h9) rfl dX6_consistent_204 ?_
        refine lv_iload hx hb dX6_consistent_207 (lv_at hl 4 rfl) ?_
        refine lv_iload hx hb dX6_consistent_209 (lv_at hl 3 rfl) ?_
        refine lv_iadd hx hb dX6_consistent_211 ?_
        refine lv_iconst (v := (1 : Int32)) hx hb dX6_consistent_212 (by decide) ?_
        refine lv_isub hx hb dX6_consistent_213 ?_
        refine lv_iload hx hb dX6_consistent_214 (lv_at hl 7 rfl) ?_
        refine lv_isub hx hb dX6_consistent_216 ?_
        obtain ⟨v39, e40, hf⟩ := hw_bind hf
        refine hw_iald hx hb hK hP 1 rfl e40 dX6_consistent_217 ?_
        refine lv_istore (lv' := [(13, .int v39), (0, .ref h0), (1, .int k1), (3, .int k3), (5, .int k5), (9, .int k9), (10, .int k10), (11, .int k11), (12, .int k12)]) hx hb dX6_consistent_218 hl (by decide) rfl (fun ls hl => ?_)
        refine lv_aload_n hx hb dX6_consistent_220 rfl (lv_at hl 1 rfl) ?_
        refine va_get (D := D) (ci := 5) (v := .ref h0_firsts) (C := RX6) (T := TX6) (N := 22) hx hb hts in_X6 hown hK hP 0 rfl rfl 20 (by decide) (hts _ mw_352) (fun _ h9 => h9) rfl dX6_consistent_221 ?_
        refine lv_iload hx hb dX6_consistent_224 (lv_at hl 8 rfl) ?_
        obtain ⟨v41, e42, hf⟩ := hw_bind hf
        refine hw_zald hx hb hK hP 2 rfl e42 dX6_consistent_226 ?_
        refine hi_if_eq (tgt := 235) hx hb dX6_consistent_227 rfl hf (fun hc hf => ?_) (fun hc hf => ?_)
        · refine lv_iload hx hb dX6_consistent_235 (lv_at hl 0 rfl) ?_
          refine lv_iload hx hb dX6_consistent_237 (lv_at hl 6 rfl) ?_
          obtain ⟨v43, e44, hf⟩ := hw_bind hf
          refine hw_goS (wr := [(h0, .inr (5, [.int x0_count, .ref h0_keys, .ref h0_legs, .ref h0_account, .ref h0_amount, .ref h0_seals, .ref h0_ends, .int x0_synced, .int x0_syncedEnd, .int x0_draft, .ref h0_draftAccount, .ref h0_draftAmount, .ref h0_limits, .ref h0_disk, .int x0_off, .int x0_failing, .int x0_written, .int x0_padded, .ref h0_pad, .ref h0_stack, .ref h0_firsts, .ref h0_others])), (h0_pad, .inl (cA, 16, .inl g0_pad)), (h0_firsts, .inl (cZ, 16, .inl g0_firsts))]) (rest := []) ⟨hx, hb, hml, hown, hts⟩ (cMo_node l D cA cZ v39 k10 v43 e44) (cwS 2 hts ks_X6_124 rfl rfl rfl (by decide +kernel) ⟨Nat.le_of_ble_eq_true rfl, Nat.le_of_ble_eq_true rfl⟩) [] [0, 1, 2] rfl rfl (by decide) (by decide) (by decide) hK hE hP hD hS hA hl.1 rfl rfl (Nat.le_of_ble_eq_true rfl) dX6_consistent_239 ⟨Nat.zero_le _, Nat.zero_le _⟩ (fun H locs (hP : va_P D vwCl [(h0, .inr (5, [.int x0_count, .ref h0_keys, .ref h0_legs, .ref h0_account, .ref h0_amount, .ref h0_seals, .ref h0_ends, .int x0_synced, .int x0_syncedEnd, .int x0_draft, .ref h0_draftAccount, .ref h0_draftAmount, .ref h0_limits, .ref h0_disk, .int x0_off, .int x0_failing, .int x0_written, .int x0_padded, .ref h0_pad, .ref h0_stack, .ref h0_firsts, .ref h0_others])), (h0_pad, .inl (cA, 16, .inl g0_pad)), (h0_firsts, .inl (cZ, 16, .inl g0_firsts))] H) (hD : va_D A [(h0, .inr (5, [.int x0_count, .ref h0_keys, .ref h0_legs, .ref h0_account, .ref h0_amount, .ref h0_seals, .ref h0_ends, .int x0_synced, .int x0_syncedEnd, .int x0_draft, .ref h0_draftAccount, .ref h0_draftAmount, .ref h0_limits, .ref h0_disk, .int x0_off, .int x0_failing, .int x0_written, .int x0_padded, .ref h0_pad, .ref h0_stack, .ref h0_firsts, .ref h0_others])), (h0_pad, .inl (cA, 16, .inl g0_pad)), (h0_firsts, .inl (cZ, 16, .inl g0_firsts))]) hS => ?_)
          refine lv_istore (lv' := [(10, .int v43), (13, .int v39), (0, .ref h0), (1, .int k1), (3, .int k3), (5, .int k5), (9, .int k9), (11, .int k11), (12, .int k12)]) hx hb dX6_consistent_242 hl (by decide) rfl (fun ls hl => ?_)
          refine lv_aload_n hx hb dX6_consistent_244 rfl (lv_at hl 2 rfl) ?_
          refine va_get (D := D) (ci := 5) (v := .ref h0_firsts) (C := RX6) (T := TX6) (N := 22) hx hb hts in_X6 hown hK hP 0 rfl rfl 20 (by decide) (hts _ mw_352) (fun _ h9 => h9) rfl dX6_consistent_245 ?_
          refine lv_iload hx hb dX6_consistent_248 (lv_at hl 8 rfl) ?_
          obtain ⟨v45, e46, hf⟩ := hw_bind hf
          refine hw_zald hx hb hK hP 2 rfl e46 dX6_consistent_250 ?_
          refine hi_if_eq (tgt := 264) hx hb dX6_consistent_251 rfl hf (fun hc hf => ?_) (fun hc hf => ?_)
          · refine lv_iload hx hb dX6_consistent_264 (lv_at hl 1 rfl) ?_
            refine lv_iload hx hb dX6_consistent_266 (lv_at hl 7 rfl) ?_
            obtain ⟨v47, e48, hf⟩ := hw_bind hf
            refine hw_goS (wr := [(h0, .inr (5, [.int x0_count, .ref h0_keys, .ref h0_legs, .ref h0_account, .ref h0_amount, .ref h0_seals, .ref h0_ends, .int x0_synced, .int x0_syncedEnd, .int x0_draft, .ref h0_draftAccount, .ref h0_draftAmount, .ref h0_limits, .ref h0_disk, .int x0_off, .int x0_failing, .int x0_written, .int x0_padded, .ref h0_pad, .ref h0_stack, .ref h0_firsts, .ref h0_others])), (h0_pad, .inl (cA, 16, .inl g0_pad)), (h0_firsts, .inl (cZ, 16, .inl g0_firsts))]) (rest := []) ⟨hx, hb, hml, hown, hts⟩ (cMo_node l D cA cZ v39 k11 v47 e48) (cwS 2 hts ks_X6_124 rfl rfl rfl (by decide +kernel) ⟨Nat.le_of_ble_eq_true rfl, Nat.le_of_ble_eq_true rfl⟩) [] [0, 1, 2] rfl rfl (by decide) (by decide) (by decide) hK hE hP hD hS hA hl.1 rfl rfl (Nat.le_of_ble_eq_true rfl) dX6_consistent_268 ⟨Nat.zero_le _, Nat.zero_le _⟩ (fun H locs (hP : va_P D vwCl [(h0, .inr (5, [.int x0_count, .ref h0_keys, .ref h0_legs, .ref h0_account, .ref h0_amount, .ref h0_seals, .ref h0_ends, .int x0_synced, .int x0_syncedEnd, .int x0_draft, .ref h0_draftAccount, .ref h0_draftAmount, .ref h0_limits, .ref h0_disk, .int x0_off, .int x0_failing, .int x0_written, .int x0_padded, .ref h0_pad, .ref h0_stack, .ref h0_firsts, .ref h0_others])), (h0_pad, .inl (cA, 16, .inl g0_pad)), (h0_firsts, .inl (cZ, 16, .inl g0_firsts))] H) (hD : va_D A [(h0, .inr (5, [.int x0_count, .ref h0_keys, .ref h0_legs, .ref h0_account, .ref h0_amount, .ref h0_seals, .ref h0_ends, .int x0_synced, .int x0_syncedEnd, .int x0_draft, .ref h0_draftAccount, .ref h0_draftAmount, .ref h0_limits, .ref h0_disk, .int x0_off, .int x0_failing, .int x0_written, .int x0_padded, .ref h0_pad, .ref h0_stack, .ref h0_firsts, .ref h0_others])), (h0_pad, .inl (cA, 16, .inl g0_pad)), (h0_firsts, .inl (cZ, 16, .inl g0_firsts))]) hS => ?_)
            refine lv_istore (lv' := [(11, .int v47), (10, .int v43), (13, .int v39), (0, .ref h0), (1, .int k1), (3, .int k3), (5, .int k5), (9, .int k9), (12, .int k12)]) hx hb dX6_consistent_271 hl (by decide) rfl (fun ls hl => ?_)
            refine lv_iinc (v := k12 + (-1 : Int32)) (lv' := [(12, .int (k12 + (-1 : Int32))), (11, .int v47), (10, .int v43), (13, .int v39), (0, .ref h0), (1, .int k1), (3, .int k3), (5, .int k5), (9, .int k9)]) hx hb dX6_consistent_273 hl (k := 8) rfl (congrArg (fun z => k12 + z) (by decide)) (by decide) rfl (fun ls hl => ?_)
            refine lv_goto (tgt := 198) hx hb dX6_consistent_276 rfl ?_
            exact ih198 _ _ _ k1 k3 k5 k9 v43 v47 (k12 + (-1 : Int32)) g0_firsts (lv_sub hl [4, 5, 6, 7, 8, 2, 1, 0] rfl) (hP.sub [0, 1, 2] rfl) (hD.sub [0, 1, 2] (by decide) rfl) hS hf
          · refine lv_iload hx hb dX6_consistent_254 (lv_at hl 7 rfl) ?_
            refine lv_iload hx hb dX6_consistent_256 (lv_at hl 1 rfl) ?_
            obtain ⟨v49, e50, hf⟩ := hw_bind hf
            refine hw_goS (wr := [(h0, .inr (5, [.int x0_count, .ref h0_keys, .ref h0_legs, .ref h0_account, .ref h0_amount, .ref h0_seals, .ref h0_ends, .int x0_synced, .int x0_syncedEnd, .int x0_draft, .ref h0_draftAccount, .ref h0_draftAmount, .ref h0_limits, .ref h0_disk, .int x0_off, .int x0_failing, .int x0_written, .int x0_padded, .ref h0_pad, .ref h0_stack, .ref h0_firsts, .ref h0_others])), (h0_pad, .inl (cA, 16, .inl g0_pad)), (h0_firsts, .inl (cZ, 16, .inl g0_firsts))]) (rest := []) ⟨hx, hb, hml, hown, hts⟩ (cMo_node l D cA cZ k11 v39 v49 e50) (cwS 2 hts ks_X6_124 rfl rfl rfl (by decide +kernel) ⟨Nat.le_of_ble_eq_true rfl, Nat.le_of_ble_eq_true rfl⟩) [] [0, 1, 2] rfl rfl (by decide) (by decide) (by decide) hK hE hP hD hS hA hl.1 rfl rfl (Nat.le_of_ble_eq_true rfl) dX6_consistent_258 ⟨Nat.zero_le _, Nat.zero_le _⟩ (fun H locs (hP : va_P D vwCl [(h0, .inr (5, [.int x0_count, .ref h0_keys, .ref h0_legs, .ref h0_account, .ref h0_amount, .ref h0_seals, .ref h0_ends, .int x0_synced, .int x0_syncedEnd, .int x0_draft, .ref h0_draftAccount, .ref h0_draftAmount, .ref h0_limits, .ref h0_disk, .int x0_off, .int x0_failing, .int x0_written, .int x0_padded, .ref h0_pad, .ref h0_stack, .ref h0_firsts, .ref h0_others])), (h0_pad, .inl (cA, 16, .inl g0_pad)), (h0_firsts, .inl (cZ, 16, .inl g0_firsts))] H) (hD : va_D A [(h0, .inr (5, [.int x0_count, .ref h0_keys, .ref h0_legs, .ref h0_account, .ref h0_amount, .ref h0_seals, .ref h0_ends, .int x0_synced, .int x0_syncedEnd, .int x0_draft, .ref h0_draftAccount, .ref h0_draftAmount, .ref h0_limits, .ref h0_disk, .int x0_off, .int x0_failing, .int x0_written, .int x0_padded, .ref h0_pad, .ref h0_stack, .ref h0_firsts, .ref h0_others])), (h0_pad, .inl (cA, 16, .inl g0_pad)), (h0_firsts, .inl (cZ, 16, .inl g0_firsts))]) hS => ?_)
            refine lv_goto (tgt := 271) hx hb dX6_consistent_261 rfl ?_
            refine lv_istore (lv' := [(11, .int v49), (10, .int v43), (13, .int v39), (0, .ref h0), (1, .int k1), (3, .int k3), (5, .int k5), (9, .int k9), (12, .int k12)]) hx hb dX6_consistent_271 hl (by decide) rfl (fun ls hl => ?_)
            refine lv_iinc (v := k12 + (-1 : Int32)) (lv' := [(12, .int (k12 + (-1 : Int32))), (11, .int v49), (10, .int v43), (13, .int v39), (0, .ref h0), (1, .int k1), (3, .int k3), (5, .int k5), (9, .int k9)]) hx hb dX6_consistent_273 hl (k := 8) rfl (congrArg (fun z => k12 + z) (by decide)) (by decide) rfl (fun ls hl => ?_)
            refine lv_goto (tgt := 198) hx hb dX6_consistent_276 rfl ?_
            exact ih198 _ _ _ k1 k3 k5 k9 v43 v49 (k12 + (-1 : Int32)) g0_firsts (lv_sub hl [4, 5, 6, 7, 8, 2, 1, 0] rfl) (hP.sub [0, 1, 2] rfl) (hD.sub [0, 1, 2] (by decide) rfl) hS hf
        · refine lv_iload hx hb dX6_consistent_230 (lv_at hl 6 rfl) ?_
          refine lv_goto (tgt := 242) hx hb dX6_consistent_232 rfl ?_
          refine lv_istore (lv' := [(10, .int k10), (13, .int v39), (0, .ref h0), (1, .int k1), (3, .int k3), (5, .int k5), (9, .int k9), (11, .int k11), (12, .int k12)]) hx hb dX6_consistent_242 hl (by decide) rfl (fun ls hl => ?_)
          refine lv_aload_n hx hb dX6_consistent_244 rfl (lv_at hl 2 rfl) ?_
          refine va_get (D := D) (ci := 5) (v := .ref h0_firsts) (C := RX6) (T := TX6) (N := 22) hx hb hts in_X6 hown hK hP 0 rfl rfl 20 (by decide) (hts _ mw_352) (fun _ h9 => h9) rfl dX6_consistent_245 ?_
          refine lv_iload hx hb dX6_consistent_248 (lv_at hl 8 rfl) ?_
          obtain ⟨v51, e52, hf⟩ := hw_bind hf
          refine hw_zald hx hb hK hP 2 rfl e52 dX6_consistent_250 ?_
          refine hi_if_eq (tgt := 264) hx hb dX6_consistent_251 rfl hf (fun hc hf => ?_) (fun hc hf => ?_)
          · refine lv_iload hx hb dX6_consistent_264 (lv_at hl 1 rfl) ?_
            refine lv_iload hx hb dX6_consistent_266 (lv_at hl 7 rfl) ?_
            obtain ⟨v53, e54, hf⟩ := hw_bind hf
            refine hw_goS (wr := [(h0, .inr (5, [.int x0_count, .ref h0_keys, .ref h0_legs, .ref h0_account, .ref h0_amount, .ref h0_seals, .ref h0_ends, .int x0_synced, .int x0_syncedEnd, .int x0_draft, .ref h0_draftAccount, .ref h0_draftAmount, .ref h0_limits, .ref h0_disk, .int x0_off, .int x0_failing, .int x0_written, .int x0_padded, .ref h0_pad, .ref h0_stack, .ref h0_firsts, .ref h0_others])), (h0_pad, .inl (cA, 16, .inl g0_pad)), (h0_firsts, .inl (cZ, 16, .inl g0_firsts))]) (rest := []) ⟨hx, hb, hml, hown, hts⟩ (cMo_node l D cA cZ v39 k11 v53 e54) (cwS 2 hts ks_X6_124 rfl rfl rfl (by decide +kernel) ⟨Nat.le_of_ble_eq_true rfl, Nat.le_of_ble_eq_true rfl⟩) [] [0, 1, 2] rfl rfl (by decide) (by decide) (by decide) hK hE hP hD hS hA hl.1 rfl rfl (Nat.le_of_ble_eq_true rfl) dX6_consistent_268 ⟨Nat.zero_le _, Nat.zero_le _⟩ (fun H locs (hP : va_P D vwCl [(h0, .inr (5, [.int x0_count, .ref h0_keys, .ref h0_legs, .ref h0_account, .ref h0_amount, .ref h0_seals, .ref h0_ends, .int x0_synced, .int x0_syncedEnd, .int x0_draft, .ref h0_draftAccount, .ref h0_draftAmount, .ref h0_limits, .ref h0_disk, .int x0_off, .int x0_failing, .int x0_written, .int x0_padded, .ref h0_pad, .ref h0_stack, .ref h0_firsts, .ref h0_others])), (h0_pad, .inl (cA, 16, .inl g0_pad)), (h0_firsts, .inl (cZ, 16, .inl g0_firsts))] H) (hD : va_D A [(h0, .inr (5, [.int x0_count, .ref h0_keys, .ref h0_legs, .ref h0_account, .ref h0_amount, .ref h0_seals, .ref h0_ends, .int x0_synced, .int x0_syncedEnd, .int x0_draft, .ref h0_draftAccount, .ref h0_draftAmount, .ref h0_limits, .ref h0_disk, .int x0_off, .int x0_failing, .int x0_written, .int x0_padded, .ref h0_pad, .ref h0_stack, .ref h0_firsts, .ref h0_others])), (h0_pad, .inl (cA, 16, .inl g0_pad)), (h0_firsts, .inl (cZ, 16, .inl g0_firsts))]) hS => ?_)
            refine lv_istore (lv' := [(11, .int v53), (10, .int k10), (13, .int v39), (0, .ref h0), (1, .int k1), (3, .int k3), (5, .int k5), (9, .int k9), (12, .int k12)]) hx hb dX6_consistent_271 hl (by decide) rfl (fun ls hl => ?_)
            refine lv_iinc (v := k12 + (-1 : Int32)) (lv' := [(12, .int (k12 + (-1 : Int32))), (11, .int v53), (10, .int k10), (13, .int v39), (0, .ref h0), (1, .int k1), (3, .int k3), (5, .int k5), (9, .int k9)]) hx hb dX6_consistent_273 hl (k := 8) rfl (congrArg (fun z => k12 + z) (by decide)) (by decide) rfl (fun ls hl => ?_)
            refine lv_goto (tgt := 198) hx hb dX6_consistent_276 rfl ?_
            exact ih198 _ _ _ k1 k3 k5 k9 k10 v53 (k12 + (-1 : Int32)) g0_firsts (lv_sub hl [4, 5, 6, 7, 8, 2, 1, 0] rfl) (hP.sub [0, 1, 2] rfl) (hD.sub [0, 1, 2] (by decide) rfl) hS hf
          · refine lv_iload hx hb dX6_consistent_254 (lv_at hl 7 rfl) ?_
            refine lv_iload hx hb dX6_consistent_256 (lv_at hl 1 rfl) ?_
            obtain ⟨v55, e56, hf⟩ := hw_bind hf
            refine hw_goS (wr := [(h0, .inr (5, [.int x0_count, .ref h0_keys, .ref h0_legs, .ref h0_account, .ref h0_amount, .ref h0_seals, .ref h0_ends, .int x0_synced, .int x0_syncedEnd, .int x0_draft, .ref h0_draftAccount, .ref h0_draftAmount, .ref h0_limits, .ref h0_disk, .int x0_off, .int x0_failing, .int x0_written, .int x0_padded, .ref h0_pad, .ref h0_stack, .ref h0_firsts, .ref h0_others])), (h0_pad, .inl (cA, 16, .inl g0_pad)), (h0_firsts, .inl (cZ, 16, .inl g0_firsts))]) (rest := []) ⟨hx, hb, hml, hown, hts⟩ (cMo_node l D cA cZ k11 v39 v55 e56) (cwS 2 hts ks_X6_124 rfl rfl rfl (by decide +kernel) ⟨Nat.le_of_ble_eq_true rfl, Nat.le_of_ble_eq_true rfl⟩) [] [0, 1, 2] rfl rfl (by decide) (by decide) (by decide) hK hE hP hD hS hA hl.1 rfl rfl (Nat.le_of_ble_eq_true rfl) dX6_consistent_258 ⟨Nat.zero_le _, Nat.zero_le _⟩ (fun H locs (hP : va_P D vwCl [(h0, .inr (5, [.int x0_count, .ref h0_keys, .ref h0_legs, .ref h0_account, .ref h0_amount, .ref h0_seals, .ref h0_ends, .int x0_synced, .int x0_syncedEnd, .int x0_draft, .ref h0_draftAccount, .ref h0_draftAmount, .ref h0_limits, .ref h0_disk, .int x0_off, .int x0_failing, .int x0_written, .int x0_padded, .ref h0_pad, .ref h0_stack, .ref h0_firsts, .ref h0_others])), (h0_pad, .inl (cA, 16, .inl g0_pad)), (h0_firsts, .inl (cZ, 16, .inl g0_firsts))] H) (hD : va_D A [(h0, .inr (5, [.int x0_count, .ref h0_keys, .ref h0_legs, .ref h0_account, .ref h0_amount, .ref h0_seals, .ref h0_ends, .int x0_synced, .int x0_syncedEnd, .int x0_draft, .ref h0_draftAccount, .ref h0_draftAmount, .ref h0_limits, .ref h0_disk, .int x0_off, .int x0_failing, .int x0_written, .int x0_padded, .ref h0_pad, .ref h0_stack, .ref h0_firsts, .ref h0_others])), (h0_pad, .inl (cA, 16, .inl g0_pad)), (h0_firsts, .inl (cZ, 16, .inl g0_firsts))]) hS => ?_)
            refine lv_goto (tgt := 271) hx hb dX6_consistent_261 rfl ?_
            refine lv_istore (lv' := [(11, .int v55), (10, .int k10), (13, .int v39), (0, .ref h0), (1, .int k1), (3, .int k3), (5, .int k5), (9, .int k9), (12, .int k12)]) hx hb dX6_consistent_271 hl (by decide) rfl (fun ls hl => ?_)
            refine lv_iinc (v := k12 + (-1 : Int32)) (lv' := [(12, .int (k12 + (-1 : Int32))), (11, .int v55), (10, .int k10), (13, .int v39), (0, .ref h0), (1, .int k1), (3, .int k3), (5, .int k5), (9, .int k9)]) hx hb dX6_consistent_273 hl (k := 8) rfl (congrArg (fun z => k12 + z) (by decide)) (by decide) rfl (fun ls hl => ?_)
            refine lv_goto (tgt := 198) hx hb dX6_consistent_276 rfl ?_
            exact ih198 _ _ _ k1 k3 k5 k9 k10 v55 (k12 + (-1 : Int32)) g0_firsts (lv_sub hl [4, 5, 6, 7, 8, 2, 1, 0] rfl) (hP.sub [0, 1, 2] rfl) (hD.sub [0, 1, 2] (by decide) rfl) hS hf
  have L40 : ∀ (n40 : Nat) (ls : Array Slot) (H : Heap) (locs : List Loc) (k1 : Int32) (k3 : Int32) (k5 : Int32) (k6 : Int32) (k7 : Int32) (k8 : Int32) (g0_firsts : Nat → Int32), lv_has ls 14 [(0, .ref h0), (1, .int k1), (3, .int k3), (5, .int k5), (6, .int k6), (7, .int k7), (8, .int k8)] → va_P D vwCl [(h0, .inr (5, [.int x0_count, .ref h0_keys, .ref h0_legs, .ref h0_account, .ref h0_amount, .ref h0_seals, .ref h0_ends, .int x0_synced, .int x0_syncedEnd, .int x0_draft, .ref h0_draftAccount, .ref h0_draftAmount, .ref h0_limits, .ref h0_disk, .int x0_off, .int x0_failing, .int x0_written, .int x0_padded, .ref h0_pad, .ref h0_stack, .ref h0_firsts, .ref h0_others])), (h0_pad, .inl (cA, 16, .inl g0_pad)), (h0_firsts, .inl (cZ, 16, .inl g0_firsts))] H → va_D A [(h0, .inr (5, [.int x0_count, .ref h0_keys, .ref h0_legs, .ref h0_account, .ref h0_amount, .ref h0_seals, .ref h0_ends, .int x0_synced, .int x0_syncedEnd, .int x0_draft, .ref h0_draftAccount, .ref h0_draftAmount, .ref h0_limits, .ref h0_disk, .int x0_off, .int x0_failing, .int x0_written, .int x0_padded, .ref h0_pad, .ref h0_stack, .ref h0_firsts, .ref h0_others])), (h0_pad, .inl (cA, 16, .inl g0_pad)), (h0_firsts, .inl (cZ, 16, .inl g0_firsts))] → va_S A s.heap H locs → fMo_consistent_L40 x0_padded g0_pad k1 k3 n40 k5 k6 k7 k8 g0_firsts = some (rr, og0_firsts) → W p l e { frames := 2, cells := 0, slots := 0, locals := 44 } s m args below meth c H locs 0 0 (hw_Z below args s D vwCl A [(h0, .inr (5, [.int x0_count, .ref h0_keys, .ref h0_legs, .ref h0_account, .ref h0_amount, .ref h0_seals, .ref h0_ends, .int x0_synced, .int x0_syncedEnd, .int x0_draft, .ref h0_draftAccount, .ref h0_draftAmount, .ref h0_limits, .ref h0_disk, .int x0_off, .int x0_failing, .int x0_written, .int x0_padded, .ref h0_pad, .ref h0_stack, .ref h0_firsts, .ref h0_others])), (h0_pad, .inl (cA, 16, .inl g0_pad)), (h0_firsts, .inl (cZ, 16, .inl og0_firsts))] (some (.int rr))) (F0 m 40 ls []) := by
    intro n40
    induction n40 with
    | zero => intro ls H locs k1 k3 k5 k6 k7 k8 g0_firsts hl hP hD hS hf; simp only [fMo_consistent_L40] at hf; cases hf
    | succ n40 ih40 =>
      intro ls H locs k1 k3 k5 k6 k7 k8 g0_firsts hl hP hD hS hf
      rw [fMo_consistent_L40] at hf
      refine lv_iload hx hb dX6_consistent_40 (lv_at hl 4 rfl) ?_
      refine lv_iload hx hb dX6_consistent_42 (lv_at hl 5 rfl) ?_
      refine hi_icmp_eq (tgt := 145) hx hb dX6_consistent_44 rfl hf (fun hc hf => ?_) (fun hc hf => ?_)
      · refine lv_iload hx hb dX6_consistent_145 (lv_at hl 6 rfl) ?_
        refine hi_if_eq (tgt := 154) hx hb dX6_consistent_147 rfl hf (fun hc hf => ?_) (fun hc hf => ?_)
        · refine lv_iconst (v := (1 : Int32)) hx hb dX6_consistent_154 (by decide) ?_
          refine lv_istore (lv' := [(9, .int (1 : Int32)), (0, .ref h0), (1, .int k1), (3, .int k3), (5, .int k5), (6, .int k6), (7, .int k7), (8, .int k8)]) hx hb dX6_consistent_155 hl (by decide) rfl (fun ls hl => ?_)
          refine lv_aload_n hx hb dX6_consistent_157 rfl (lv_at hl 1 rfl) ?_
          refine va_get (D := D) (ci := 5) (v := .int x0_padded) (C := RX6) (T := TX6) (N := 22) hx hb hts in_X6 hown hK hP 0 rfl rfl 17 (by decide) (hts _ mw_436) (fun _ h9 => h9) rfl dX6_consistent_158 ?_
          refine lv_iload hx hb dX6_consistent_161 (lv_at hl 4 rfl) ?_
          refine lv_iload hx hb dX6_consistent_163 (lv_at hl 0 rfl) ?_
          refine lv_iadd hx hb dX6_consistent_165 ?_
          refine hi_icmp_eq (tgt := 171) hx hb dX6_consistent_166 rfl hf (fun hc hf => ?_) (fun hc hf => ?_)
          · refine lv_iload hx hb dX6_consistent_171 (lv_at hl 7 rfl) ?_
            refine hi_if_eq (tgt := 180) hx hb dX6_consistent_173 rfl hf (fun hc hf => ?_) (fun hc hf => ?_)
            · refine lv_aload_n hx hb dX6_consistent_180 rfl (lv_at hl 1 rfl) ?_
              refine va_get (D := D) (ci := 5) (v := .ref h0_pad) (C := RX6) (T := TX6) (N := 22) hx hb hts in_X6 hown hK hP 0 rfl rfl 18 (by decide) (hts _ mw_349) (fun _ h9 => h9) rfl dX6_consistent_181 ?_
              refine lv_iconst (v := (0 : Int32)) hx hb dX6_consistent_184 (by decide) ?_
              obtain ⟨v1, e2, hf⟩ := hw_bind hf
              refine hw_iald hx hb hK hP 1 rfl e2 dX6_consistent_185 ?_
              refine lv_istore (lv' := [(10, .int v1), (9, .int (1 : Int32)), (0, .ref h0), (1, .int k1), (3, .int k3), (5, .int k5), (6, .int k6), (7, .int k7), (8, .int k8)]) hx hb dX6_consistent_186 hl (by decide) rfl (fun ls hl => ?_)
              refine lv_iload hx hb dX6_consistent_188 (lv_at hl 0 rfl) ?_
              refine lv_istore (lv' := [(11, .int v1), (10, .int v1), (9, .int (1 : Int32)), (0, .ref h0), (1, .int k1), (3, .int k3), (5, .int k5), (6, .int k6), (7, .int k7), (8, .int k8)]) hx hb dX6_consistent_190 hl (by decide) rfl (fun ls hl => ?_)
              refine lv_iload hx hb dX6_consistent_192 (lv_at hl 6 rfl) ?_
              refine lv_iconst (v := (1 : Int32)) hx hb dX6_consistent_194 (by decide) ?_
              refine lv_isub hx hb dX6_consistent_195 ?_
              refine lv_istore (lv' := [(12, .int (k5 - (1 : Int32))), (11, .int v1), (10, .int v1), (9, .int (1 : Int32)), (0, .ref h0), (1, .int k1), (3, .int k3), (5, .int k5), (6, .int k6), (7, .int k7), (8, .int k8)]) hx hb dX6_consistent_196 hl (by decide) rfl (fun ls hl => ?_)
              exact L198 600 _ _ _ k1 k3 k5 (1 : Int32) v1 v1 (k5 - (1 : Int32)) g0_firsts (lv_sub hl [4, 5, 6, 7, 3, 2, 1, 0] rfl) (hP.sub [0, 1, 2] rfl) (hD.sub [0, 1, 2] (by decide) rfl) hS hf
            · refine lv_iload_n hx hb dX6_consistent_176 rfl (lv_at hl 2 rfl) ?_
              refine lv_goto (tgt := 186) hx hb dX6_consistent_177 rfl ?_
              refine lv_istore (lv' := [(10, .int k1), (9, .int (1 : Int32)), (0, .ref h0), (1, .int k1), (3, .int k3), (5, .int k5), (6, .int k6), (7, .int k7), (8, .int k8)]) hx hb dX6_consistent_186 hl (by decide) rfl (fun ls hl => ?_)
              refine lv_iload hx hb dX6_consistent_188 (lv_at hl 0 rfl) ?_
              refine lv_istore (lv' := [(11, .int k1), (10, .int k1), (9, .int (1 : Int32)), (0, .ref h0), (1, .int k1), (3, .int k3), (5, .int k5), (6, .int k6), (7, .int k7), (8, .int k8)]) hx hb dX6_consistent_190 hl (by decide) rfl (fun ls hl => ?_)
              refine lv_iload hx hb dX6_consistent_192 (lv_at hl 6 rfl) ?_
              refine lv_iconst (v := (1 : Int32)) hx hb dX6_consistent_194 (by decide) ?_
              refine lv_isub hx hb dX6_consistent_195 ?_
              refine lv_istore (lv' := [(12, .int (k5 - (1 : Int32))), (11, .int k1), (10, .int k1), (9, .int (1 : Int32)), (0, .ref h0), (1, .int k1), (3, .int k3), (5, .int k5), (6, .int k6), (7, .int k7), (8, .int k8)]) hx hb dX6_consistent_196 hl (by decide) rfl (fun ls hl => ?_)
              exact L198 600 _ _ _ k1 k3 k5 (1 : Int32) k1 k1 (k5 - (1 : Int32)) g0_firsts (lv_sub hl [4, 5, 6, 7, 3, 2, 1, 0] rfl) (hP.sub [0, 1, 2] rfl) (hD.sub [0, 1, 2] (by decide) rfl) hS hf
          · refine lv_iconst (v := (0 : Int32)) hx hb dX6_consistent_169 (by decide) ?_
            cases hf
            exact hw_rz hx hb hr hlk rfl (hP.sub [0, 1, 2] rfl) (hD.sub [0, 1, 2] (by decide) rfl) hS dX6_consistent_170
        · refine lv_iconst (v := (0 : Int32)) hx hb dX6_consistent_150 (by decide) ?_
          refine lv_goto (tgt := 155) hx hb dX6_consistent_151 rfl ?_
          refine lv_istore (lv' := [(9, .int (0 : Int32)), (0, .ref h0), (1, .int k1), (3, .int k3), (5, .int k5), (6, .int k6), (7, .int k7), (8, .int k8)]) hx hb dX6_consistent_155 hl (by decide) rfl (fun ls hl => ?_)
          refine lv_aload_n hx hb dX6_consistent_157 rfl (lv_at hl 1 rfl) ?_
          refine va_get (D := D) (ci := 5) (v := .int x0_padded) (C := RX6) (T := TX6) (N := 22) hx hb hts in_X6 hown hK hP 0 rfl rfl 17 (by decide) (hts _ mw_436) (fun _ h9 => h9) rfl dX6_consistent_158 ?_
          refine lv_iload hx hb dX6_consistent_161 (lv_at hl 4 rfl) ?_
          refine lv_iload hx hb dX6_consistent_163 (lv_at hl 0 rfl) ?_
          refine lv_iadd hx hb dX6_consistent_165 ?_
          refine hi_icmp_eq (tgt := 171) hx hb dX6_consistent_166 rfl hf (fun hc hf => ?_) (fun hc hf => ?_)
          · refine lv_iload hx hb dX6_consistent_171 (lv_at hl 7 rfl) ?_
            refine hi_if_eq (tgt := 180) hx hb dX6_consistent_173 rfl hf (fun hc hf => ?_) (fun hc hf => ?_)
            · refine lv_aload_n hx hb dX6_consistent_180 rfl (lv_at hl 1 rfl) ?_
              refine va_get (D := D) (ci := 5) (v := .ref h0_pad) (C := RX6) (T := TX6) (N := 22) hx hb hts in_X6 hown hK hP 0 rfl rfl 18 (by decide) (hts _ mw_349) (fun _ h9 => h9) rfl dX6_consistent_181 ?_
              refine lv_iconst (v := (0 : Int32)) hx hb dX6_consistent_184 (by decide) ?_
              obtain ⟨v3, e4, hf⟩ := hw_bind hf
              refine hw_iald hx hb hK hP 1 rfl e4 dX6_consistent_185 ?_
              refine lv_istore (lv' := [(10, .int v3), (9, .int (0 : Int32)), (0, .ref h0), (1, .int k1), (3, .int k3), (5, .int k5), (6, .int k6), (7, .int k7), (8, .int k8)]) hx hb dX6_consistent_186 hl (by decide) rfl (fun ls hl => ?_)
              refine lv_iload hx hb dX6_consistent_188 (lv_at hl 0 rfl) ?_
              refine lv_istore (lv' := [(11, .int v3), (10, .int v3), (9, .int (0 : Int32)), (0, .ref h0), (1, .int k1), (3, .int k3), (5, .int k5), (6, .int k6), (7, .int k7), (8, .int k8)]) hx hb dX6_consistent_190 hl (by decide) rfl (fun ls hl => ?_)
              refine lv_iload hx hb dX6_consistent_192 (lv_at hl 6 rfl) ?_
              refine lv_iconst (v := (1 : Int32)) hx hb dX6_consistent_194 (by decide) ?_
              refine lv_isub hx hb dX6_consistent_195 ?_
              refine lv_istore (lv' := [(12, .int (k5 - (1 : Int32))), (11, .int v3), (10, .int v3), (9, .int (0 : Int32)), (0, .ref h0), (1, .int k1), (3, .int k3), (5, .int k5), (6, .int k6), (7, .int k7), (8, .int k8)]) hx hb dX6_consistent_196 hl (by decide) rfl (fun ls hl => ?_)
              exact L198 600 _ _ _ k1 k3 k5 (0 : Int32) v3 v3 (k5 - (1 : Int32)) g0_firsts (lv_sub hl [4, 5, 6, 7, 3, 2, 1, 0] rfl) (hP.sub [0, 1, 2] rfl) (hD.sub [0, 1, 2] (by decide) rfl) hS hf
            · refine lv_iload_n hx hb dX6_consistent_176 rfl (lv_at hl 2 rfl) ?_
              refine lv_goto (tgt := 186) hx hb dX6_consistent_177 rfl ?_
              refine lv_istore (lv' := [(10, .int k1), (9, .int (0 : Int32)), (0, .ref h0), (1, .int k1), (3, .int k3), (5, .int k5), (6, .int k6), (7, .int k7), (8, .int k8)]) hx hb dX6_consistent_186 hl (by decide) rfl (fun ls hl => ?_)
              refine lv_iload hx hb dX6_consistent_188 (lv_at hl 0 rfl) ?_
              refine lv_istore (lv' := [(11, .int k1), (10, .int k1), (9, .int (0 : Int32)), (0, .ref h0), (1, .int k1), (3, .int k3), (5, .int k5), (6, .int k6), (7, .int k7), (8, .int k8)]) hx hb dX6_consistent_190 hl (by decide) rfl (fun ls hl => ?_)
              refine lv_iload hx hb dX6_consistent_192 (lv_at hl 6 rfl) ?_
              refine lv_iconst (v := (1 : Int32)) hx hb dX6_consistent_194 (by decide) ?_
              refine lv_isub hx hb dX6_consistent_195 ?_
              refine lv_istore (lv' := [(12, .int (k5 - (1 : Int32))), (11, .int k1), (10, .int k1), (9, .int (0 : Int32)), (0, .ref h0), (1, .int k1), (3, .int k3), (5, .int k5), (6, .int k6), (7, .int k7), (8, .int k8)]) hx hb dX6_consistent_196 hl (by decide) rfl (fun ls hl => ?_)
              exact L198 600 _ _ _ k1 k3 k5 (0 : Int32) k1 k1 (k5 - (1 : Int32)) g0_firsts (lv_sub hl [4, 5, 6, 7, 3, 2, 1, 0] rfl) (hP.sub [0, 1, 2] rfl) (hD.sub [0, 1, 2] (by decide) rfl) hS hf
          · refine lv_iconst (v := (0 : Int32)) hx hb dX6_consistent_169 (by decide) ?_
            cases hf
            exact hw_rz hx hb hr hlk rfl (hP.sub [0, 1, 2] rfl) (hD.sub [0, 1, 2] (by decide) rfl) hS dX6_consistent_170
      · refine lv_iload hx hb dX6_consistent_47 (lv_at hl 5 rfl) ?_
        obtain ⟨v5, e6, hf⟩ := hw_bind hf
        refine hw_goS (wr := [(h0, .inr (5, [.int x0_count, .ref h0_keys, .ref h0_legs, .ref h0_account, .ref h0_amount, .ref h0_seals, .ref h0_ends, .int x0_synced, .int x0_syncedEnd, .int x0_draft, .ref h0_draftAccount, .ref h0_draftAmount, .ref h0_limits, .ref h0_disk, .int x0_off, .int x0_failing, .int x0_written, .int x0_padded, .ref h0_pad, .ref h0_stack, .ref h0_firsts, .ref h0_others])), (h0_pad, .inl (cA, 16, .inl g0_pad)), (h0_firsts, .inl (cZ, 16, .inl g0_firsts))]) (rest := []) ⟨hx, hb, hml, hown, hts⟩ (cMo_part l D cA cZ k7 v5 e6) (cwS 1 hts ks_X6_133 rfl rfl rfl (by decide +kernel) ⟨Nat.le_of_ble_eq_true rfl, Nat.le_of_ble_eq_true rfl⟩) [] [0, 1, 2] rfl rfl (by decide) (by decide) (by decide) hK hE hP hD hS hA hl.1 rfl rfl (Nat.le_of_ble_eq_true rfl) dX6_consistent_49 ⟨Nat.zero_le _, Nat.zero_le _⟩ (fun H locs (hP : va_P D vwCl [(h0, .inr (5, [.int x0_count, .ref h0_keys, .ref h0_legs, .ref h0_account, .ref h0_amount, .ref h0_seals, .ref h0_ends, .int x0_synced, .int x0_syncedEnd, .int x0_draft, .ref h0_draftAccount, .ref h0_draftAmount, .ref h0_limits, .ref h0_disk, .int x0_off, .int x0_failing, .int x0_written, .int x0_padded, .ref h0_pad, .ref h0_stack, .ref h0_firsts, .ref h0_others])), (h0_pad, .inl (cA, 16, .inl g0_pad)), (h0_firsts, .inl (cZ, 16, .inl g0_firsts))] H) (hD : va_D A [(h0, .inr (5, [.int x0_count, .ref h0_keys, .ref h0_legs, .ref h0_account, .ref h0_amount, .ref h0_seals, .ref h0_ends, .int x0_synced, .int x0_syncedEnd, .int x0_draft, .ref h0_draftAccount, .ref h0_draftAmount, .ref h0_limits, .ref h0_disk, .int x0_off, .int x0_failing, .int x0_written, .int x0_padded, .ref h0_pad, .ref h0_stack, .ref h0_firsts, .ref h0_others])), (h0_pad, .inl (cA, 16, .inl g0_pad)), (h0_firsts, .inl (cZ, 16, .inl g0_firsts))]) hS => ?_)
        refine lv_istore (lv' := [(9, .int v5), (0, .ref h0), (1, .int k1), (3, .int k3), (5, .int k5), (6, .int k6), (7, .int k7), (8, .int k8)]) hx hb dX6_consistent_52 hl (by decide) rfl (fun ls hl => ?_)
        refine lv_aload_n hx hb dX6_consistent_54 rfl (lv_at hl 1 rfl) ?_
        refine va_get (D := D) (ci := 5) (v := .ref h0_firsts) (C := RX6) (T := TX6) (N := 22) hx hb hts in_X6 hown hK hP 0 rfl rfl 20 (by decide) (hts _ mw_352) (fun _ h9 => h9) rfl dX6_consistent_55 ?_
        refine lv_iload hx hb dX6_consistent_58 (lv_at hl 4 rfl) ?_
        refine lv_iload hx hb dX6_consistent_60 (lv_at hl 5 rfl) ?_
        refine lv_iload hx hb dX6_consistent_62 (lv_at hl 0 rfl) ?_
        refine hi_icmp_gt (tgt := 71) hx hb dX6_consistent_64 rfl hf (fun hc hf => ?_) (fun hc hf => ?_)
        · refine lv_iconst (v := (0 : Int32)) hx hb dX6_consistent_71 (by decide) ?_
          obtain ⟨u7, e8, hf⟩ := hw_bind hf
          refine hw_zast hx hb hK hP hD hS 2 rfl e8 dX6_consistent_72 (fun H locs (hP : va_P D vwCl [(h0, .inr (5, [.int x0_count, .ref h0_keys, .ref h0_legs, .ref h0_account, .ref h0_amount, .ref h0_seals, .ref h0_ends, .int x0_synced, .int x0_syncedEnd, .int x0_draft, .ref h0_draftAccount, .ref h0_draftAmount, .ref h0_limits, .ref h0_disk, .int x0_off, .int x0_failing, .int x0_written, .int x0_padded, .ref h0_pad, .ref h0_stack, .ref h0_firsts, .ref h0_others])), (h0_pad, .inl (cA, 16, .inl g0_pad)), (h0_firsts, .inl (cZ, 16, .inl u7))] H) (hD : va_D A [(h0, .inr (5, [.int x0_count, .ref h0_keys, .ref h0_legs, .ref h0_account, .ref h0_amount, .ref h0_seals, .ref h0_ends, .int x0_synced, .int x0_syncedEnd, .int x0_draft, .ref h0_draftAccount, .ref h0_draftAmount, .ref h0_limits, .ref h0_disk, .int x0_off, .int x0_failing, .int x0_written, .int x0_padded, .ref h0_pad, .ref h0_stack, .ref h0_firsts, .ref h0_others])), (h0_pad, .inl (cA, 16, .inl g0_pad)), (h0_firsts, .inl (cZ, 16, .inl u7))]) hS => ?_)
          refine lv_aload_n hx hb dX6_consistent_73 rfl (lv_at hl 1 rfl) ?_
          refine va_get (D := D) (ci := 5) (v := .ref h0_firsts) (C := RX6) (T := TX6) (N := 22) hx hb hts in_X6 hown hK hP 0 rfl rfl 20 (by decide) (hts _ mw_352) (fun _ h9 => h9) rfl dX6_consistent_74 ?_
          refine lv_iload hx hb dX6_consistent_77 (lv_at hl 4 rfl) ?_
          obtain ⟨v9, e10, hf⟩ := hw_bind hf
          refine hw_zald hx hb hK hP 2 rfl e10 dX6_consistent_79 ?_
          refine hi_if_eq (tgt := 88) hx hb dX6_consistent_80 rfl hf (fun hc hf => ?_) (fun hc hf => ?_)
          · refine lv_iload hx hb dX6_consistent_88 (lv_at hl 6 rfl) ?_
            refine lv_iload hx hb dX6_consistent_90 (lv_at hl 0 rfl) ?_
            refine lv_isub hx hb dX6_consistent_92 ?_
            refine lv_istore (lv' := [(7, .int (k7 - v5)), (9, .int v5), (0, .ref h0), (1, .int k1), (3, .int k3), (5, .int k5), (6, .int k6), (8, .int k8)]) hx hb dX6_consistent_93 hl (by decide) rfl (fun ls hl => ?_)
            refine lv_aload_n hx hb dX6_consistent_95 rfl (lv_at hl 2 rfl) ?_
            refine va_get (D := D) (ci := 5) (v := .ref h0_firsts) (C := RX6) (T := TX6) (N := 22) hx hb hts in_X6 hown hK hP 0 rfl rfl 20 (by decide) (hts _ mw_352) (fun _ h9 => h9) rfl dX6_consistent_96 ?_
            refine lv_iload hx hb dX6_consistent_99 (lv_at hl 5 rfl) ?_
            obtain ⟨v11, e12, hf⟩ := hw_bind hf
            refine hw_zald hx hb hK hP 2 rfl e12 dX6_consistent_101 ?_
            refine hi_if_eq (tgt := 110) hx hb dX6_consistent_102 rfl hf (fun hc hf => ?_) (fun hc hf => ?_)
            · refine lv_iload hx hb dX6_consistent_110 (lv_at hl 6 rfl) ?_
              refine lv_iload hx hb dX6_consistent_112 (lv_at hl 1 rfl) ?_
              refine lv_isub hx hb dX6_consistent_114 ?_
              refine lv_istore (lv' := [(6, .int (k6 - v5)), (7, .int (k7 - v5)), (9, .int v5), (0, .ref h0), (1, .int k1), (3, .int k3), (5, .int k5), (8, .int k8)]) hx hb dX6_consistent_115 hl (by decide) rfl (fun ls hl => ?_)
              refine lv_iload hx hb dX6_consistent_117 (lv_at hl 7 rfl) ?_
              refine hi_if_eq (tgt := 136) hx hb dX6_consistent_119 rfl hf (fun hc hf => ?_) (fun hc hf => ?_)
              · refine lv_iconst (v := (0 : Int32)) hx hb dX6_consistent_136 (by decide) ?_
                refine lv_istore (lv' := [(8, .int (0 : Int32)), (6, .int (k6 - v5)), (7, .int (k7 - v5)), (9, .int v5), (0, .ref h0), (1, .int k1), (3, .int k3), (5, .int k5)]) hx hb dX6_consistent_137 hl (by decide) rfl (fun ls hl => ?_)
                refine lv_iinc (v := k5 + (1 : Int32)) (lv' := [(5, .int (k5 + (1 : Int32))), (8, .int (0 : Int32)), (6, .int (k6 - v5)), (7, .int (k7 - v5)), (9, .int v5), (0, .ref h0), (1, .int k1), (3, .int k3)]) hx hb dX6_consistent_139 hl (k := 7) rfl (congrArg (fun z => k5 + z) (by decide)) (by decide) rfl (fun ls hl => ?_)
                refine lv_goto (tgt := 40) hx hb dX6_consistent_142 rfl ?_
                exact ih40 _ _ _ k1 k3 (k5 + (1 : Int32)) (k6 - v5) (k7 - v5) (0 : Int32) u7 (lv_sub hl [5, 6, 7, 0, 2, 3, 1] rfl) (hP.sub [0, 1, 2] rfl) (hD.sub [0, 1, 2] (by decide) rfl) hS hf
              · refine lv_aload_n hx hb dX6_consistent_122 rfl (lv_at hl 3 rfl) ?_
                refine va_get (D := D) (ci := 5) (v := .ref h0_firsts) (C := RX6) (T := TX6) (N := 22) hx hb hts in_X6 hown hK hP 0 rfl rfl 20 (by decide) (hts _ mw_352) (fun _ h9 => h9) rfl dX6_consistent_123 ?_
                refine lv_iload hx hb dX6_consistent_126 (lv_at hl 6 rfl) ?_
                obtain ⟨v13, e14, hf⟩ := hw_bind hf
                refine hw_zald hx hb hK hP 2 rfl e14 dX6_consistent_128 ?_
                refine hi_if_eq (tgt := 136) hx hb dX6_consistent_129 rfl hf (fun hc hf => ?_) (fun hc hf => ?_)
                · refine lv_iconst (v := (0 : Int32)) hx hb dX6_consistent_136 (by decide) ?_
                  refine lv_istore (lv' := [(8, .int (0 : Int32)), (6, .int (k6 - v5)), (7, .int (k7 - v5)), (9, .int v5), (0, .ref h0), (1, .int k1), (3, .int k3), (5, .int k5)]) hx hb dX6_consistent_137 hl (by decide) rfl (fun ls hl => ?_)
                  refine lv_iinc (v := k5 + (1 : Int32)) (lv' := [(5, .int (k5 + (1 : Int32))), (8, .int (0 : Int32)), (6, .int (k6 - v5)), (7, .int (k7 - v5)), (9, .int v5), (0, .ref h0), (1, .int k1), (3, .int k3)]) hx hb dX6_consistent_139 hl (k := 7) rfl (congrArg (fun z => k5 + z) (by decide)) (by decide) rfl (fun ls hl => ?_)
                  refine lv_goto (tgt := 40) hx hb dX6_consistent_142 rfl ?_
                  exact ih40 _ _ _ k1 k3 (k5 + (1 : Int32)) (k6 - v5) (k7 - v5) (0 : Int32) u7 (lv_sub hl [5, 6, 7, 0, 2, 3, 1] rfl) (hP.sub [0, 1, 2] rfl) (hD.sub [0, 1, 2] (by decide) rfl) hS hf
                · refine lv_iconst (v := (1 : Int32)) hx hb dX6_consistent_132 (by decide) ?_
                  refine lv_goto (tgt := 137) hx hb dX6_consistent_133 rfl ?_
                  refine lv_istore (lv' := [(8, .int (1 : Int32)), (6, .int (k6 - v5)), (7, .int (k7 - v5)), (9, .int v5), (0, .ref h0), (1, .int k1), (3, .int k3), (5, .int k5)]) hx hb dX6_consistent_137 hl (by decide) rfl (fun ls hl => ?_)
                  refine lv_iinc (v := k5 + (1 : Int32)) (lv' := [(5, .int (k5 + (1 : Int32))), (8, .int (1 : Int32)), (6, .int (k6 - v5)), (7, .int (k7 - v5)), (9, .int v5), (0, .ref h0), (1, .int k1), (3, .int k3)]) hx hb dX6_consistent_139 hl (k := 7) rfl (congrArg (fun z => k5 + z) (by decide)) (by decide) rfl (fun ls hl => ?_)
                  refine lv_goto (tgt := 40) hx hb dX6_consistent_142 rfl ?_
                  exact ih40 _ _ _ k1 k3 (k5 + (1 : Int32)) (k6 - v5) (k7 - v5) (1 : Int32) u7 (lv_sub hl [5, 6, 7, 0, 2, 3, 1] rfl) (hP.sub [0, 1, 2] rfl) (hD.sub [0, 1, 2] (by decide) rfl) hS hf
            · refine lv_iload hx hb dX6_consistent_105 (lv_at hl 6 rfl) ?_
              refine lv_goto (tgt := 115) hx hb dX6_consistent_107 rfl ?_
              refine lv_istore (lv' := [(6, .int k6), (7, .int (k7 - v5)), (9, .int v5), (0, .ref h0), (1, .int k1), (3, .int k3), (5, .int k5), (8, .int k8)]) hx hb dX6_consistent_115 hl (by decide) rfl (fun ls hl => ?_)
              refine lv_iload hx hb dX6_consistent_117 (lv_at hl 7 rfl) ?_
              refine hi_if_eq (tgt := 136) hx hb dX6_consistent_119 rfl hf (fun hc hf => ?_) (fun hc hf => ?_)
              · refine lv_iconst (v := (0 : Int32)) hx hb dX6_consistent_136 (by decide) ?_
                refine lv_istore (lv' := [(8, .int (0 : Int32)), (6, .int k6), (7, .int (k7 - v5)), (9, .int v5), (0, .ref h0), (1, .int k1), (3, .int k3), (5, .int k5)]) hx hb dX6_consistent_137 hl (by decide) rfl (fun ls hl => ?_)
                refine lv_iinc (v := k5 + (1 : Int32)) (lv' := [(5, .int (k5 + (1 : Int32))), (8, .int (0 : Int32)), (6, .int k6), (7, .int (k7 - v5)), (9, .int v5), (0, .ref h0), (1, .int k1), (3, .int k3)]) hx hb dX6_consistent_139 hl (k := 7) rfl (congrArg (fun z => k5 + z) (by decide)) (by decide) rfl (fun ls hl => ?_)
                refine lv_goto (tgt := 40) hx hb dX6_consistent_142 rfl ?_
                exact ih40 _ _ _ k1 k3 (k5 + (1 : Int32)) k6 (k7 - v5) (0 : Int32) u7 (lv_sub hl [5, 6, 7, 0, 2, 3, 1] rfl) (hP.sub [0, 1, 2] rfl) (hD.sub [0, 1, 2] (by decide) rfl) hS hf
              · refine lv_aload_n hx hb dX6_consistent_122 rfl (lv_at hl 3 rfl) ?_
                refine va_get (D := D) (ci := 5) (v := .ref h0_firsts) (C := RX6) (T := TX6) (N := 22) hx hb hts in_X6 hown hK hP 0 rfl rfl 20 (by decide) (hts _ mw_352) (fun _ h9 => h9) rfl dX6_consistent_123 ?_
                refine lv_iload hx hb dX6_consistent_126 (lv_at hl 6 rfl) ?_
                obtain ⟨v15, e16, hf⟩ := hw_bind hf
                refine hw_zald hx hb hK hP 2 rfl e16 dX6_consistent_128 ?_
                refine hi_if_eq (tgt := 136) hx hb dX6_consistent_129 rfl hf (fun hc hf => ?_) (fun hc hf => ?_)
                · refine lv_iconst (v := (0 : Int32)) hx hb dX6_consistent_136 (by decide) ?_
                  refine lv_istore (lv' := [(8, .int (0 : Int32)), (6, .int k6), (7, .int (k7 - v5)), (9, .int v5), (0, .ref h0), (1, .int k1), (3, .int k3), (5, .int k5)]) hx hb dX6_consistent_137 hl (by decide) rfl (fun ls hl => ?_)
                  refine lv_iinc (v := k5 + (1 : Int32)) (lv' := [(5, .int (k5 + (1 : Int32))), (8, .int (0 : Int32)), (6, .int k6), (7, .int (k7 - v5)), (9, .int v5), (0, .ref h0), (1, .int k1), (3, .int k3)]) hx hb dX6_consistent_139 hl (k := 7) rfl (congrArg (fun z => k5 + z) (by decide)) (by decide) rfl (fun ls hl => ?_)
                  refine lv_goto (tgt := 40) hx hb dX6_consistent_142 rfl ?_
                  exact ih40 _ _ _ k1 k3 (k5 + (1 : Int32)) k6 (k7 - v5) (0 : Int32) u7 (lv_sub hl [5, 6, 7, 0, 2, 3, 1] rfl) (hP.sub [0, 1, 2] rfl) (hD.sub [0, 1, 2] (by decide) rfl) hS hf
                · refine lv_iconst (v := (1 : Int32)) hx hb dX6_consistent_132 (by decide) ?_
                  refine lv_goto (tgt := 137) hx hb dX6_consistent_133 rfl ?_
                  refine lv_istore (lv' := [(8, .int (1 : Int32)), (6, .int k6), (7, .int (k7 - v5)), (9, .int v5), (0, .ref h0), (1, .int k1), (3, .int k3), (5, .int k5)]) hx hb dX6_consistent_137 hl (by decide) rfl (fun ls hl => ?_)
                  refine lv_iinc (v := k5 + (1 : Int32)) (lv' := [(5, .int (k5 + (1 : Int32))), (8, .int (1 : Int32)), (6, .int k6), (7, .int (k7 - v5)), (9, .int v5), (0, .ref h0), (1, .int k1), (3, .int k3)]) hx hb dX6_consistent_139 hl (k := 7) rfl (congrArg (fun z => k5 + z) (by decide)) (by decide) rfl (fun ls hl => ?_)
                  refine lv_goto (tgt := 40) hx hb dX6_consistent_142 rfl ?_
                  exact ih40 _ _ _ k1 k3 (k5 + (1 : Int32)) k6 (k7 - v5) (1 : Int32) u7 (lv_sub hl [5, 6, 7, 0, 2, 3, 1] rfl) (hP.sub [0, 1, 2] rfl) (hD.sub [0, 1, 2] (by decide) rfl) hS hf
          · refine lv_iload hx hb dX6_consistent_83 (lv_at hl 0 rfl) ?_
            refine lv_goto (tgt := 93) hx hb dX6_consistent_85 rfl ?_
            refine lv_istore (lv' := [(7, .int v5), (9, .int v5), (0, .ref h0), (1, .int k1), (3, .int k3), (5, .int k5), (6, .int k6), (8, .int k8)]) hx hb dX6_consistent_93 hl (by decide) rfl (fun ls hl => ?_)
            refine lv_aload_n hx hb dX6_consistent_95 rfl (lv_at hl 2 rfl) ?_
            refine va_get (D := D) (ci := 5) (v := .ref h0_firsts) (C := RX6) (T := TX6) (N := 22) hx hb hts in_X6 hown hK hP 0 rfl rfl 20 (by decide) (hts _ mw_352) (fun _ h9 => h9) rfl dX6_consistent_96 ?_
            refine lv_iload hx hb dX6_consistent_99 (lv_at hl 5 rfl) ?_
            obtain ⟨v17, e18, hf⟩ := hw_bind hf
            refine hw_zald hx hb hK hP 2 rfl e18 dX6_consistent_101 ?_
            refine hi_if_eq (tgt := 110) hx hb dX6_consistent_102 rfl hf (fun hc hf => ?_) (fun hc hf => ?_)
            · refine lv_iload hx hb dX6_consistent_110 (lv_at hl 6 rfl) ?_
              refine lv_iload hx hb dX6_consistent_112 (lv_at hl 1 rfl) ?_
              refine lv_isub hx hb dX6_consistent_114 ?_
              refine lv_istore (lv' := [(6, .int (k6 - v5)), (7, .int v5), (9, .int v5), (0, .ref h0), (1, .int k1), (3, .int k3), (5, .int k5), (8, .int k8)]) hx hb dX6_consistent_115 hl (by decide) rfl (fun ls hl => ?_)
              refine lv_iload hx hb dX6_consistent_117 (lv_at hl 7 rfl) ?_
              refine hi_if_eq (tgt := 136) hx hb dX6_consistent_119 rfl hf (fun hc hf => ?_) (fun hc hf => ?_)
              · refine lv_iconst (v := (0 : Int32)) hx hb dX6_consistent_136 (by decide) ?_
                refine lv_istore (lv' := [(8, .int (0 : Int32)), (6, .int (k6 - v5)), (7, .int v5), (9, .int v5), (0, .ref h0), (1, .int k1), (3, .int k3), (5, .int k5)]) hx hb dX6_consistent_137 hl (by decide) rfl (fun ls hl => ?_)
                refine lv_iinc (v := k5 + (1 : Int32)) (lv' := [(5, .int (k5 + (1 : Int32))), (8, .int (0 : Int32)), (6, .int (k6 - v5)), (7, .int v5), (9, .int v5), (0, .ref h0), (1, .int k1), (3, .int k3)]) hx hb dX6_consistent_139 hl (k := 7) rfl (congrArg (fun z => k5 + z) (by decide)) (by decide) rfl (fun ls hl => ?_)
                refine lv_goto (tgt := 40) hx hb dX6_consistent_142 rfl ?_
                exact ih40 _ _ _ k1 k3 (k5 + (1 : Int32)) (k6 - v5) v5 (0 : Int32) u7 (lv_sub hl [5, 6, 7, 0, 2, 3, 1] rfl) (hP.sub [0, 1, 2] rfl) (hD.sub [0, 1, 2] (by decide) rfl) hS hf
              · refine lv_aload_n hx hb dX6_consistent_122 rfl (lv_at hl 3 rfl) ?_
                refine va_get (D := D) (ci := 5) (v := .ref h0_firsts) (C := RX6) (T := TX6) (N := 22) hx hb hts in_X6 hown hK hP 0 rfl rfl 20 (by decide) (hts _ mw_352) (fun _ h9 => h9) rfl dX6_consistent_123 ?_
                refine lv_iload hx hb dX6_consistent_126 (lv_at hl 6 rfl) ?_
                obtain ⟨v19, e20, hf⟩ := hw_bind hf
                refine hw_zald hx hb hK hP 2 rfl e20 dX6_consistent_128 ?_
                refine hi_if_eq (tgt := 136) hx hb dX6_consistent_129 rfl hf (fun hc hf => ?_) (fun hc hf => ?_)
                · refine lv_iconst (v := (0 : Int32)) hx hb dX6_consistent_136 (by decide) ?_
                  refine lv_istore (lv' := [(8, .int (0 : Int32)), (6, .int (k6 - v5)), (7, .int v5), (9, .int v5), (0, .ref h0), (1, .int k1), (3, .int k3), (5, .int k5)]) hx hb dX6_consistent_137 hl (by decide) rfl (fun ls hl => ?_)
                  refine lv_iinc (v := k5 + (1 : Int32)) (lv' := [(5, .int (k5 + (1 : Int32))), (8, .int (0 : Int32)), (6, .int (k6 - v5)), (7, .int v5), (9, .int v5), (0, .ref h0), (1, .int k1), (3, .int k3)]) hx hb dX6_consistent_139 hl (k := 7) rfl (congrArg (fun z => k5 + z) (by decide)) (by decide) rfl (fun ls hl => ?_)
                  refine lv_goto (tgt := 40) hx hb dX6_consistent_142 rfl ?_
                  exact ih40 _ _ _ k1 k3 (k5 + (1 : Int32)) (k6 - v5) v5 (0 : Int32) u7 (lv_sub hl [5, 6, 7, 0, 2, 3, 1] rfl) (hP.sub [0, 1, 2] rfl) (hD.sub [0, 1, 2] (by decide) rfl) hS hf
                · refine lv_iconst (v := (1 : Int32)) hx hb dX6_consistent_132 (by decide) ?_
                  refine lv_goto (tgt := 137) hx hb dX6_consistent_133 rfl ?_
                  refine lv_istore (lv' := [(8, .int (1 : Int32)), (6, .int (k6 - v5)), (7, .int v5), (9, .int v5), (0, .ref h0), (1, .int k1), (3, .int k3), (5, .int k5)]) hx hb dX6_consistent_137 hl (by decide) rfl (fun ls hl => ?_)
                  refine lv_iinc (v := k5 + (1 : Int32)) (lv' := [(5, .int (k5 + (1 : Int32))), (8, .int (1 : Int32)), (6, .int (k6 - v5)), (7, .int v5), (9, .int v5), (0, .ref h0), (1, .int k1), (3, .int k3)]) hx hb dX6_consistent_139 hl (k := 7) rfl (congrArg (fun z => k5 + z) (by decide)) (by decide) rfl (fun ls hl => ?_)
                  refine lv_goto (tgt := 40) hx hb dX6_consistent_142 rfl ?_
                  exact ih40 _ _ _ k1 k3 (k5 + (1 : Int32)) (k6 - v5) v5 (1 : Int32) u7 (lv_sub hl [5, 6, 7, 0, 2, 3, 1] rfl) (hP.sub [0, 1, 2] rfl) (hD.sub [0, 1, 2] (by decide) rfl) hS hf
            · refine lv_iload hx hb dX6_consistent_105 (lv_at hl 6 rfl) ?_
              refine lv_goto (tgt := 115) hx hb dX6_consistent_107 rfl ?_
              refine lv_istore (lv' := [(6, .int k6), (7, .int v5), (9, .int v5), (0, .ref h0), (1, .int k1), (3, .int k3), (5, .int k5), (8, .int k8)]) hx hb dX6_consistent_115 hl (by decide) rfl (fun ls hl => ?_)
              refine lv_iload hx hb dX6_consistent_117 (lv_at hl 7 rfl) ?_
              refine hi_if_eq (tgt := 136) hx hb dX6_consistent_119 rfl hf (fun hc hf => ?_) (fun hc hf => ?_)
              · refine lv_iconst (v := (0 : Int32)) hx hb dX6_consistent_136 (by decide) ?_
                refine lv_istore (lv' := [(8, .int (0 : Int32)), (6, .int k6), (7, .int v5), (9, .int v5), (0, .ref h0), (1, .int k1), (3, .int k3), (5, .int k5)]) hx hb dX6_consistent_137 hl (by decide) rfl (fun ls hl => ?_)
                refine lv_iinc (v := k5 + (1 : Int32)) (lv' := [(5, .int (k5 + (1 : Int32))), (8, .int (0 : Int32)), (6, .int k6), (7, .int v5), (9, .int v5), (0, .ref h0), (1, .int k1), (3, .int k3)]) hx hb dX6_consistent_139 hl (k := 7) rfl (congrArg (fun z => k5 + z) (by decide)) (by decide) rfl (fun ls hl => ?_)
                refine lv_goto (tgt := 40) hx hb dX6_consistent_142 rfl ?_
                exact ih40 _ _ _ k1 k3 (k5 + (1 : Int32)) k6 v5 (0 : Int32) u7 (lv_sub hl [5, 6, 7, 0, 2, 3, 1] rfl) (hP.sub [0, 1, 2] rfl) (hD.sub [0, 1, 2] (by decide) rfl) hS hf
              · refine lv_aload_n hx hb dX6_consistent_122 rfl (lv_at hl 3 rfl) ?_
                refine va_get (D := D) (ci := 5) (v := .ref h0_firsts) (C := RX6) (T := TX6) (N := 22) hx hb hts in_X6 hown hK hP 0 rfl rfl 20 (by decide) (hts _ mw_352) (fun _ h9 => h9) rfl dX6_consistent_123 ?_
                refine lv_iload hx hb dX6_consistent_126 (lv_at hl 6 rfl) ?_
                obtain ⟨v21, e22, hf⟩ := hw_bind hf
                refine hw_zald hx hb hK hP 2 rfl e22 dX6_consistent_128 ?_
                refine hi_if_eq (tgt := 136) hx hb dX6_consistent_129 rfl hf (fun hc hf => ?_) (fun hc hf => ?_)
                · refine lv_iconst (v := (0 : Int32)) hx hb dX6_consistent_136 (by decide) ?_
                  refine lv_istore (lv' := [(8, .int (0 : Int32)), (6, .int k6), (7, .int v5), (9, .int v5), (0, .ref h0), (1, .int k1), (3, .int k3), (5, .int k5)]) hx hb dX6_consistent_137 hl (by decide) rfl (fun ls hl => ?_)
                  refine lv_iinc (v := k5 + (1 : Int32)) (lv' := [(5, .int (k5 + (1 : Int32))), (8, .int (0 : Int32)), (6, .int k6), (7, .int v5), (9, .int v5), (0, .ref h0), (1, .int k1), (3, .int k3)]) hx hb dX6_consistent_139 hl (k := 7) rfl (congrArg (fun z => k5 + z) (by decide)) (by decide) rfl (fun ls hl => ?_)
                  refine lv_goto (tgt := 40) hx hb dX6_consistent_142 rfl ?_
                  exact ih40 _ _ _ k1 k3 (k5 + (1 : Int32)) k6 v5 (0 : Int32) u7 (lv_sub hl [5, 6, 7, 0, 2, 3, 1] rfl) (hP.sub [0, 1, 2] rfl) (hD.sub [0, 1, 2] (by decide) rfl) hS hf
                · refine lv_iconst (v := (1 : Int32)) hx hb dX6_consistent_132 (by decide) ?_
                  refine lv_goto (tgt := 137) hx hb dX6_consistent_133 rfl ?_
                  refine lv_istore (lv' := [(8, .int (1 : Int32)), (6, .int k6), (7, .int v5), (9, .int v5), (0, .ref h0), (1, .int k1), (3, .int k3), (5, .int k5)]) hx hb dX6_consistent_137 hl (by decide) rfl (fun ls hl => ?_)
                  refine lv_iinc (v := k5 + (1 : Int32)) (lv' := [(5, .int (k5 + (1 : Int32))), (8, .int (1 : Int32)), (6, .int k6), (7, .int v5), (9, .int v5), (0, .ref h0), (1, .int k1), (3, .int k3)]) hx hb dX6_consistent_139 hl (k := 7) rfl (congrArg (fun z => k5 + z) (by decide)) (by decide) rfl (fun ls hl => ?_)
                  refine lv_goto (tgt := 40) hx hb dX6_consistent_142 rfl ?_
                  exact ih40 _ _ _ k1 k3 (k5 + (1 : Int32)) k6 v5 (1 : Int32) u7 (lv_sub hl [5, 6, 7, 0, 2, 3, 1] rfl) (hP.sub [0, 1, 2] rfl) (hD.sub [0, 1, 2] (by decide) rfl) hS hf
        · refine lv_iconst (v := (1 : Int32)) hx hb dX6_consistent_67 (by decide) ?_
          refine lv_goto (tgt := 72) hx hb dX6_consistent_68 rfl ?_
          obtain ⟨u23, e24, hf⟩ := hw_bind hf
          refine hw_zast hx hb hK hP hD hS 2 rfl e24 dX6_consistent_72 (fun H locs (hP : va_P D vwCl [(h0, .inr (5, [.int x0_count, .ref h0_keys, .ref h0_legs, .ref h0_account, .ref h0_amount, .ref h0_seals, .ref h0_ends, .int x0_synced, .int x0_syncedEnd, .int x0_draft, .ref h0_draftAccount, .ref h0_draftAmount, .ref h0_limits, .ref h0_disk, .int x0_off, .int x0_failing, .int x0_written, .int x0_padded, .ref h0_pad, .ref h0_stack, .ref h0_firsts, .ref h0_others])), (h0_pad, .inl (cA, 16, .inl g0_pad)), (h0_firsts, .inl (cZ, 16, .inl u23))] H) (hD : va_D A [(h0, .inr (5, [.int x0_count, .ref h0_keys, .ref h0_legs, .ref h0_account, .ref h0_amount, .ref h0_seals, .ref h0_ends, .int x0_synced, .int x0_syncedEnd, .int x0_draft, .ref h0_draftAccount, .ref h0_draftAmount, .ref h0_limits, .ref h0_disk, .int x0_off, .int x0_failing, .int x0_written, .int x0_padded, .ref h0_pad, .ref h0_stack, .ref h0_firsts, .ref h0_others])), (h0_pad, .inl (cA, 16, .inl g0_pad)), (h0_firsts, .inl (cZ, 16, .inl u23))]) hS => ?_)
          refine lv_aload_n hx hb dX6_consistent_73 rfl (lv_at hl 1 rfl) ?_
          refine va_get (D := D) (ci := 5) (v := .ref h0_firsts) (C := RX6) (T := TX6) (N := 22) hx hb hts in_X6 hown hK hP 0 rfl rfl 20 (by decide) (hts _ mw_352) (fun _ h9 => h9) rfl dX6_consistent_74 ?_
          refine lv_iload hx hb dX6_consistent_77 (lv_at hl 4 rfl) ?_
          obtain ⟨v25, e26, hf⟩ := hw_bind hf
          refine hw_zald hx hb hK hP 2 rfl e26 dX6_consistent_79 ?_
          refine hi_if_eq (tgt := 88) hx hb dX6_consistent_80 rfl hf (fun hc hf => ?_) (fun hc hf => ?_)
          · refine lv_iload hx hb dX6_consistent_88 (lv_at hl 6 rfl) ?_
            refine lv_iload hx hb dX6_consistent_90 (lv_at hl 0 rfl) ?_
            refine lv_isub hx hb dX6_consistent_92 ?_
            refine lv_istore (lv' := [(7, .int (k7 - v5)), (9, .int v5), (0, .ref h0), (1, .int k1), (3, .int k3), (5, .int k5), (6, .int k6), (8, .int k8)]) hx hb dX6_consistent_93 hl (by decide) rfl (fun ls hl => ?_)
            refine lv_aload_n hx hb dX6_consistent_95 rfl (lv_at hl 2 rfl) ?_
            refine va_get (D := D) (ci := 5) (v := .ref h0_firsts) (C := RX6) (T := TX6) (N := 22) hx hb hts in_X6 hown hK hP 0 rfl rfl 20 (by decide) (hts _ mw_352) (fun _ h9 => h9) rfl dX6_consistent_96 ?_
            refine lv_iload hx hb dX6_consistent_99 (lv_at hl 5 rfl) ?_
            obtain ⟨v27, e28, hf⟩ := hw_bind hf
            refine hw_zald hx hb hK hP 2 rfl e28 dX6_consistent_101 ?_
            refine hi_if_eq (tgt := 110) hx hb dX6_consistent_102 rfl hf (fun hc hf => ?_) (fun hc hf => ?_)
            · refine lv_iload hx hb dX6_consistent_110 (lv_at hl 6 rfl) ?_
              refine lv_iload hx hb dX6_consistent_112 (lv_at hl 1 rfl) ?_
              refine lv_isub hx hb dX6_consistent_114 ?_
              refine lv_istore (lv' := [(6, .int (k6 - v5)), (7, .int (k7 - v5)), (9, .int v5), (0, .ref h0), (1, .int k1), (3, .int k3), (5, .int k5), (8, .int k8)]) hx hb dX6_consistent_115 hl (by decide) rfl (fun ls hl => ?_)
              refine lv_iload hx hb dX6_consistent_117 (lv_at hl 7 rfl) ?_
              refine hi_if_eq (tgt := 136) hx hb dX6_consistent_119 rfl hf (fun hc hf => ?_) (fun hc hf => ?_)
              · refine lv_iconst (v := (0 : Int32)) hx hb dX6_consistent_136 (by decide) ?_
                refine lv_istore (lv' := [(8, .int (0 : Int32)), (6, .int (k6 - v5)), (7, .int (k7 - v5)), (9, .int v5), (0, .ref h0), (1, .int k1), (3, .int k3), (5, .int k5)]) hx hb dX6_consistent_137 hl (by decide) rfl (fun ls hl => ?_)
                refine lv_iinc (v := k5 + (1 : Int32)) (lv' := [(5, .int (k5 + (1 : Int32))), (8, .int (0 : Int32)), (6, .int (k6 - v5)), (7, .int (k7 - v5)), (9, .int v5), (0, .ref h0), (1, .int k1), (3, .int k3)]) hx hb dX6_consistent_139 hl (k := 7) rfl (congrArg (fun z => k5 + z) (by decide)) (by decide) rfl (fun ls hl => ?_)
                refine lv_goto (tgt := 40) hx hb dX6_consistent_142 rfl ?_
                exact ih40 _ _ _ k1 k3 (k5 + (1 : Int32)) (k6 - v5) (k7 - v5) (0 : Int32) u23 (lv_sub hl [5, 6, 7, 0, 2, 3, 1] rfl) (hP.sub [0, 1, 2] rfl) (hD.sub [0, 1, 2] (by decide) rfl) hS hf
              · refine lv_aload_n hx hb dX6_consistent_122 rfl (lv_at hl 3 rfl) ?_
                refine va_get (D := D) (ci := 5) (v := .ref h0_firsts) (C := RX6) (T := TX6) (N := 22) hx hb hts in_X6 hown hK hP 0 rfl rfl 20 (by decide) (hts _ mw_352) (fun _ h9 => h9) rfl dX6_consistent_123 ?_
                refine lv_iload hx hb dX6_consistent_126 (lv_at hl 6 rfl) ?_
                obtain ⟨v29, e30, hf⟩ := hw_bind hf
                refine hw_zald hx hb hK hP 2 rfl e30 dX6_consistent_128 ?_
                refine hi_if_eq (tgt := 136) hx hb dX6_consistent_129 rfl hf (fun hc hf => ?_) (fun hc hf => ?_)
                · refine lv_iconst (v := (0 : Int32)) hx hb dX6_consistent_136 (by decide) ?_
                  refine lv_istore (lv' := [(8, .int (0 : Int32)), (6, .int (k6 - v5)), (7, .int (k7 - v5)), (9, .int v5), (0, .ref h0), (1, .int k1), (3, .int k3), (5, .int k5)]) hx hb dX6_consistent_137 hl (by decide) rfl (fun ls hl => ?_)
                  refine lv_iinc (v := k5 + (1 : Int32)) (lv' := [(5, .int (k5 + (1 : Int32))), (8, .int (0 : Int32)), (6, .int (k6 - v5)), (7, .int (k7 - v5)), (9, .int v5), (0, .ref h0), (1, .int k1), (3, .int k3)]) hx hb dX6_consistent_139 hl (k := 7) rfl (congrArg (fun z => k5 + z) (by decide)) (by decide) rfl (fun ls hl => ?_)
                  refine lv_goto (tgt := 40) hx hb dX6_consistent_142 rfl ?_
                  exact ih40 _ _ _ k1 k3 (k5 + (1 : Int32)) (k6 - v5) (k7 - v5) (0 : Int32) u23 (lv_sub hl [5, 6, 7, 0, 2, 3, 1] rfl) (hP.sub [0, 1, 2] rfl) (hD.sub [0, 1, 2] (by decide) rfl) hS hf
                · refine lv_iconst (v := (1 : Int32)) hx hb dX6_consistent_132 (by decide) ?_
                  refine lv_goto (tgt := 137) hx hb dX6_consistent_133 rfl ?_
                  refine lv_istore (lv' := [(8, .int (1 : Int32)), (6, .int (k6 - v5)), (7, .int (k7 - v5)), (9, .int v5), (0, .ref h0), (1, .int k1), (3, .int k3), (5, .int k5)]) hx hb dX6_consistent_137 hl (by decide) rfl (fun ls hl => ?_)
                  refine lv_iinc (v := k5 + (1 : Int32)) (lv' := [(5, .int (k5 + (1 : Int32))), (8, .int (1 : Int32)), (6, .int (k6 - v5)), (7, .int (k7 - v5)), (9, .int v5), (0, .ref h0), (1, .int k1), (3, .int k3)]) hx hb dX6_consistent_139 hl (k := 7) rfl (congrArg (fun z => k5 + z) (by decide)) (by decide) rfl (fun ls hl => ?_)
                  refine lv_goto (tgt := 40) hx hb dX6_consistent_142 rfl ?_
                  exact ih40 _ _ _ k1 k3 (k5 + (1 : Int32)) (k6 - v5) (k7 - v5) (1 : Int32) u23 (lv_sub hl [5, 6, 7, 0, 2, 3, 1] rfl) (hP.sub [0, 1, 2] rfl) (hD.sub [0, 1, 2] (by decide) rfl) hS hf
            · refine lv_iload hx hb dX6_consistent_105 (lv_at hl 6 rfl) ?_
              refine lv_goto (tgt := 115) hx hb dX6_consistent_107 rfl ?_
              refine lv_istore (lv' := [(6, .int k6), (7, .int (k7 - v5)), (9, .int v5), (0, .ref h0), (1, .int k1), (3, .int k3), (5, .int k5), (8, .int k8)]) hx hb dX6_consistent_115 hl (by decide) rfl (fun ls hl => ?_)
              refine lv_iload hx hb dX6_consistent_117 (lv_at hl 7 rfl) ?_
              refine hi_if_eq (tgt := 136) hx hb dX6_consistent_119 rfl hf (fun hc hf => ?_) (fun hc hf => ?_)
              · refine lv_iconst (v := (0 : Int32)) hx hb dX6_consistent_136 (by decide) ?_
                refine lv_istore (lv' := [(8, .int (0 : Int32)), (6, .int k6), (7, .int (k7 - v5)), (9, .int v5), (0, .ref h0), (1, .int k1), (3, .int k3), (5, .int k5)]) hx hb dX6_consistent_137 hl (by decide) rfl (fun ls hl => ?_)
                refine lv_iinc (v := k5 + (1 : Int32)) (lv' := [(5, .int (k5 + (1 : Int32))), (8, .int (0 : Int32)), (6, .int k6), (7, .int (k7 - v5)), (9, .int v5), (0, .ref h0), (1, .int k1), (3, .int k3)]) hx hb dX6_consistent_139 hl (k := 7) rfl (congrArg (fun z => k5 + z) (by decide)) (by decide) rfl (fun ls hl => ?_)
                refine lv_goto (tgt := 40) hx hb dX6_consistent_142 rfl ?_
                exact ih40 _ _ _ k1 k3 (k5 + (1 : Int32)) k6 (k7 - v5) (0 : Int32) u23 (lv_sub hl [5, 6, 7, 0, 2, 3, 1] rfl) (hP.sub [0, 1, 2] rfl) (hD.sub [0, 1, 2] (by decide) rfl) hS hf
              · refine lv_aload_n hx hb dX6_consistent_122 rfl (lv_at hl 3 rfl) ?_
                refine va_get (D := D) (ci := 5) (v := .ref h0_firsts) (C := RX6) (T := TX6) (N := 22) hx hb hts in_X6 hown hK hP 0 rfl rfl 20 (by decide) (hts _ mw_352) (fun _ h9 => h9) rfl dX6_consistent_123 ?_
                refine lv_iload hx hb dX6_consistent_126 (lv_at hl 6 rfl) ?_
                obtain ⟨v31, e32, hf⟩ := hw_bind hf
                refine hw_zald hx hb hK hP 2 rfl e32 dX6_consistent_128 ?_
                refine hi_if_eq (tgt := 136) hx hb dX6_consistent_129 rfl hf (fun hc hf => ?_) (fun hc hf => ?_)
                · refine lv_iconst (v := (0 : Int32)) hx hb dX6_consistent_136 (by decide) ?_
                  refine lv_istore (lv' := [(8, .int (0 : Int32)), (6, .int k6), (7, .int (k7 - v5)), (9, .int v5), (0, .ref h0), (1, .int k1), (3, .int k3), (5, .int k5)]) hx hb dX6_consistent_137 hl (by decide) rfl (fun ls hl => ?_)
                  refine lv_iinc (v := k5 + (1 : Int32)) (lv' := [(5, .int (k5 + (1 : Int32))), (8, .int (0 : Int32)), (6, .int k6), (7, .int (k7 - v5)), (9, .int v5), (0, .ref h0), (1, .int k1), (3, .int k3)]) hx hb dX6_consistent_139 hl (k := 7) rfl (congrArg (fun z => k5 + z) (by decide)) (by decide) rfl (fun ls hl => ?_)
                  refine lv_goto (tgt := 40) hx hb dX6_consistent_142 rfl ?_
                  exact ih40 _ _ _ k1 k3 (k5 + (1 : Int32)) k6 (k7 - v5) (0 : Int32) u23 (lv_sub hl [5, 6, 7, 0, 2, 3, 1] rfl) (hP.sub [0, 1, 2] rfl) (hD.sub [0, 1, 2] (by decide) rfl) hS hf
                · refine lv_iconst (v := (1 : Int32)) hx hb dX6_consistent_132 (by decide) ?_
                  refine lv_goto (tgt := 137) hx hb dX6_consistent_133 rfl ?_
                  refine lv_istore (lv' := [(8, .int (1 : Int32)), (6, .int k6), (7, .int (k7 - v5)), (9, .int v5), (0, .ref h0), (1, .int k1), (3, .int k3), (5, .int k5)]) hx hb dX6_consistent_137 hl (by decide) rfl (fun ls hl => ?_)
                  refine lv_iinc (v := k5 + (1 : Int32)) (lv' := [(5, .int (k5 + (1 : Int32))), (8, .int (1 : Int32)), (6, .int k6), (7, .int (k7 - v5)), (9, .int v5), (0, .ref h0), (1, .int k1), (3, .int k3)]) hx hb dX6_consistent_139 hl (k := 7) rfl (congrArg (fun z => k5 + z) (by decide)) (by decide) rfl (fun ls hl => ?_)
                  refine lv_goto (tgt := 40) hx hb dX6_consistent_142 rfl ?_
                  exact ih40 _ _ _ k1 k3 (k5 + (1 : Int32)) k6 (k7 - v5) (1 : Int32) u23 (lv_sub hl [5, 6, 7, 0, 2, 3, 1] rfl) (hP.sub [0, 1, 2] rfl) (hD.sub [0, 1, 2] (by decide) rfl) hS hf
          · refine lv_iload hx hb dX6_consistent_83 (lv_at hl 0 rfl) ?_
            refine lv_goto (tgt := 93) hx hb dX6_consistent_85 rfl ?_
            refine lv_istore (lv' := [(7, .int v5), (9, .int v5), (0, .ref h0), (1, .int k1), (3, .int k3), (5, .int k5), (6, .int k6), (8, .int k8)]) hx hb dX6_consistent_93 hl (by decide) rfl (fun ls hl => ?_)
            refine lv_aload_n hx hb dX6_consistent_95 rfl (lv_at hl 2 rfl) ?_
            refine va_get (D := D) (ci := 5) (v := .ref h0_firsts) (C := RX6) (T := TX6) (N := 22) hx hb hts in_X6 hown hK hP 0 rfl rfl 20 (by decide) (hts _ mw_352) (fun _ h9 => h9) rfl dX6_consistent_96 ?_
            refine lv_iload hx hb dX6_consistent_99 (lv_at hl 5 rfl) ?_
            obtain ⟨v33, e34, hf⟩ := hw_bind hf
            refine hw_zald hx hb hK hP 2 rfl e34 dX6_consistent_101 ?_
            refine hi_if_eq (tgt := 110) hx hb dX6_consistent_102 rfl hf (fun hc hf => ?_) (fun hc hf => ?_)
            · refine lv_iload hx hb dX6_consistent_110 (lv_at hl 6 rfl) ?_
              refine lv_iload hx hb dX6_consistent_112 (lv_at hl 1 rfl) ?_
              refine lv_isub hx hb dX6_consistent_114 ?_
              refine lv_istore (lv' := [(6, .int (k6 - v5)), (7, .int v5), (9, .int v5), (0, .ref h0), (1, .int k1), (3, .int k3), (5, .int k5), (8, .int k8)]) hx hb dX6_consistent_115 hl (by decide) rfl (fun ls hl => ?_)
              refine lv_iload hx hb dX6_consistent_117 (lv_at hl 7 rfl) ?_
              refine hi_if_eq (tgt := 136) hx hb dX6_consistent_119 rfl hf (fun hc hf => ?_) (fun hc hf => ?_)
              · refine lv_iconst (v := (0 : Int32)) hx hb dX6_consistent_136 (by decide) ?_
                refine lv_istore (lv' := [(8, .int (0 : Int32)), (6, .int (k6 - v5)), (7, .int v5), (9, .int v5), (0, .ref h0), (1, .int k1), (3, .int k3), (5, .int k5)]) hx hb dX6_consistent_137 hl (by decide) rfl (fun ls hl => ?_)
                refine lv_iinc (v := k5 + (1 : Int32)) (lv' := [(5, .int (k5 + (1 : Int32))), (8, .int (0 : Int32)), (6, .int (k6 - v5)), (7, .int v5), (9, .int v5), (0, .ref h0), (1, .int k1), (3, .int k3)]) hx hb dX6_consistent_139 hl (k := 7) rfl (congrArg (fun z => k5 + z) (by decide)) (by decide) rfl (fun ls hl => ?_)
                refine lv_goto (tgt := 40) hx hb dX6_consistent_142 rfl ?_
                exact ih40 _ _ _ k1 k3 (k5 + (1 : Int32)) (k6 - v5) v5 (0 : Int32) u23 (lv_sub hl [5, 6, 7, 0, 2, 3, 1] rfl) (hP.sub [0, 1, 2] rfl) (hD.sub [0, 1, 2] (by decide) rfl) hS hf
              · refine lv_aload_n hx hb dX6_consistent_122 rfl (lv_at hl 3 rfl) ?_
                refine va_get (D := D) (ci := 5) (v := .ref h0_firsts) (C := RX6) (T := TX6) (N := 22) hx hb hts in_X6 hown hK hP 0 rfl rfl 20 (by decide) (hts _ mw_352) (fun _ h9 => h9) rfl dX6_consistent_123 ?_
                refine lv_iload hx hb dX6_consistent_126 (lv_at hl 6 rfl) ?_
                obtain ⟨v35, e36, hf⟩ := hw_bind hf
                refine hw_zald hx hb hK hP 2 rfl e36 dX6_consistent_128 ?_
                refine hi_if_eq (tgt := 136) hx hb dX6_consistent_129 rfl hf (fun hc hf => ?_) (fun hc hf => ?_)
                · refine lv_iconst (v := (0 : Int32)) hx hb dX6_consistent_136 (by decide) ?_
                  refine lv_istore (lv' := [(8, .int (0 : Int32)), (6, .int (k6 - v5)), (7, .int v5), (9, .int v5), (0, .ref h0), (1, .int k1), (3, .int k3), (5, .int k5)]) hx hb dX6_consistent_137 hl (by decide) rfl (fun ls hl => ?_)
                  refine lv_iinc (v := k5 + (1 : Int32)) (lv' := [(5, .int (k5 + (1 : Int32))), (8, .int (0 : Int32)), (6, .int (k6 - v5)), (7, .int v5), (9, .int v5), (0, .ref h0), (1, .int k1), (3, .int k3)]) hx hb dX6_consistent_139 hl (k := 7) rfl (congrArg (fun z => k5 + z) (by decide)) (by decide) rfl (fun ls hl => ?_)
                  refine lv_goto (tgt := 40) hx hb dX6_consistent_142 rfl ?_
                  exact ih40 _ _ _ k1 k3 (k5 + (1 : Int32)) (k6 - v5) v5 (0 : Int32) u23 (lv_sub hl [5, 6, 7, 0, 2, 3, 1] rfl) (hP.sub [0, 1, 2] rfl) (hD.sub [0, 1, 2] (by decide) rfl) hS hf
                · refine lv_iconst (v := (1 : Int32)) hx hb dX6_consistent_132 (by decide) ?_
                  refine lv_goto (tgt := 137) hx hb dX6_consistent_133 rfl ?_
                  refine lv_istore (lv' := [(8, .int (1 : Int32)), (6, .int (k6 - v5)), (7, .int v5), (9, .int v5), (0, .ref h0), (1, .int k1), (3, .int k3), (5, .int k5)]) hx hb dX6_consistent_137 hl (by decide) rfl (fun ls hl => ?_)
                  refine lv_iinc (v := k5 + (1 : Int32)) (lv' := [(5, .int (k5 + (1 : Int32))), (8, .int (1 : Int32)), (6, .int (k6 - v5)), (7, .int v5), (9, .int v5), (0, .ref h0), (1, .int k1), (3, .int k3)]) hx hb dX6_consistent_139 hl (k := 7) rfl (congrArg (fun z => k5 + z) (by decide)) (by decide) rfl (fun ls hl => ?_)
                  refine lv_goto (tgt := 40) hx hb dX6_consistent_142 rfl ?_
                  exact ih40 _ _ _ k1 k3 (k5 + (1 : Int32)) (k6 - v5) v5 (1 : Int32) u23 (lv_sub hl [5, 6, 7, 0, 2, 3, 1] rfl) (hP.sub [0, 1, 2] rfl) (hD.sub [0, 1, 2] (by decide) rfl) hS hf
            · refine lv_iload hx hb dX6_consistent_105 (lv_at hl 6 rfl) ?_
              refine lv_goto (tgt := 115) hx hb dX6_consistent_107 rfl ?_
              refine lv_istore (lv' := [(6, .int k6), (7, .int v5), (9, .int v5), (0, .ref h0), (1, .int k1), (3, .int k3), (5, .int k5), (8, .int k8)]) hx hb dX6_consistent_115 hl (by decide) rfl (fun ls hl => ?_)
              refine lv_iload hx hb dX6_consistent_117 (lv_at hl 7 rfl) ?_
              refine hi_if_eq (tgt := 136) hx hb dX6_consistent_119 rfl hf (fun hc hf => ?_) (fun hc hf => ?_)
              · refine lv_iconst (v := (0 : Int32)) hx hb dX6_consistent_136 (by decide) ?_
                refine lv_istore (lv' := [(8, .int (0 : Int32)), (6, .int k6), (7, .int v5), (9, .int v5), (0, .ref h0), (1, .int k1), (3, .int k3), (5, .int k5)]) hx hb dX6_consistent_137 hl (by decide) rfl (fun ls hl => ?_)
                refine lv_iinc (v := k5 + (1 : Int32)) (lv' := [(5, .int (k5 + (1 : Int32))), (8, .int (0 : Int32)), (6, .int k6), (7, .int v5), (9, .int v5), (0, .ref h0), (1, .int k1), (3, .int k3)]) hx hb dX6_consistent_139 hl (k := 7) rfl (congrArg (fun z => k5 + z) (by decide)) (by decide) rfl (fun ls hl => ?_)
                refine lv_goto (tgt := 40) hx hb dX6_consistent_142 rfl ?_
                exact ih40 _ _ _ k1 k3 (k5 + (1 : Int32)) k6 v5 (0 : Int32) u23 (lv_sub hl [5, 6, 7, 0, 2, 3, 1] rfl) (hP.sub [0, 1, 2] rfl) (hD.sub [0, 1, 2] (by decide) rfl) hS hf
              · refine lv_aload_n hx hb dX6_consistent_122 rfl (lv_at hl 3 rfl) ?_
                refine va_get (D := D) (ci := 5) (v := .ref h0_firsts) (C := RX6) (T := TX6) (N := 22) hx hb hts in_X6 hown hK hP 0 rfl rfl 20 (by decide) (hts _ mw_352) (fun _ h9 => h9) rfl dX6_consistent_123 ?_
                refine lv_iload hx hb dX6_consistent_126 (lv_at hl 6 rfl) ?_
                obtain ⟨v37, e38, hf⟩ := hw_bind hf
                refine hw_zald hx hb hK hP 2 rfl e38 dX6_consistent_128 ?_
                refine hi_if_eq (tgt := 136) hx hb dX6_consistent_129 rfl hf (fun hc hf => ?_) (fun hc hf => ?_)
                · refine lv_iconst (v := (0 : Int32)) hx hb dX6_consistent_136 (by decide) ?_
                  refine lv_istore (lv' := [(8, .int (0 : Int32)), (6, .int k6), (7, .int v5), (9, .int v5), (0, .ref h0), (1, .int k1), (3, .int k3), (5, .int k5)]) hx hb dX6_consistent_137 hl (by decide) rfl (fun ls hl => ?_)
                  refine lv_iinc (v := k5 + (1 : Int32)) (lv' := [(5, .int (k5 + (1 : Int32))), (8, .int (0 : Int32)), (6, .int k6), (7, .int v5), (9, .int v5), (0, .ref h0), (1, .int k1), (3, .int k3)]) hx hb dX6_consistent_139 hl (k := 7) rfl (congrArg (fun z => k5 + z) (by decide)) (by decide) rfl (fun ls hl => ?_)
                  refine lv_goto (tgt := 40) hx hb dX6_consistent_142 rfl ?_
                  exact ih40 _ _ _ k1 k3 (k5 + (1 : Int32)) k6 v5 (0 : Int32) u23 (lv_sub hl [5, 6, 7, 0, 2, 3, 1] rfl) (hP.sub [0, 1, 2] rfl) (hD.sub [0, 1, 2] (by decide) rfl) hS hf
                · refine lv_iconst (v := (1 : Int32)) hx hb dX6_consistent_132 (by decide) ?_
                  refine lv_goto (tgt := 137) hx hb dX6_consistent_133 rfl ?_
                  refine lv_istore (lv' := [(8, .int (1 : Int32)), (6, .int k6), (7, .int v5), (9, .int v5), (0, .ref h0), (1, .int k1), (3, .int k3), (5, .int k5)]) hx hb dX6_consistent_137 hl (by decide) rfl (fun ls hl => ?_)
                  refine lv_iinc (v := k5 + (1 : Int32)) (lv' := [(5, .int (k5 + (1 : Int32))), (8, .int (1 : Int32)), (6, .int k6), (7, .int v5), (9, .int v5), (0, .ref h0), (1, .int k1), (3, .int k3)]) hx hb dX6_consistent_139 hl (k := 7) rfl (congrArg (fun z => k5 + z) (by decide)) (by decide) rfl (fun ls hl => ?_)
                  refine lv_goto (tgt := 40) hx hb dX6_consistent_142 rfl ?_
                  exact ih40 _ _ _ k1 k3 (k5 + (1 : Int32)) k6 v5 (1 : Int32) u23 (lv_sub hl [5, 6, 7, 0, 2, 3, 1] rfl) (hP.sub [0, 1, 2] rfl) (hD.sub [0, 1, 2] (by decide) rfl) hS hf
  rw [fMo_consistent] at hf
  refine lv_iload hx hb dX6_consistent_0 (lv_at hl 4 rfl) ?_
  refine lv_iconst (v := (1 : Int32)) hx hb dX6_consistent_2 (by decide) ?_
  refine hi_icmp_lt (tgt := 25) hx hb dX6_consistent_3 rfl hf (fun hc hf => ?_) (fun hc hf => ?_)
  · refine lv_iconst (v := (0 : Int32)) hx hb dX6_consistent_25 (by decide) ?_
    cases hf
    exact hw_rz hx hb hr hlk rfl (hP.sub [0, 1, 2] rfl) (hD.sub [0, 1, 2] (by decide) rfl) hS dX6_consistent_26
  · refine lv_iload hx hb dX6_consistent_6 (lv_at hl 4 rfl) ?_
    refine lv_sipush (v := (1000 : Int32)) hx hb dX6_consistent_8 (by decide) ?_
    refine hi_icmp_gt (tgt := 25) hx hb dX6_consistent_11 rfl hf (fun hc hf => ?_) (fun hc hf => ?_)
    · refine lv_iconst (v := (0 : Int32)) hx hb dX6_consistent_25 (by decide) ?_
      cases hf
      exact hw_rz hx hb hr hlk rfl (hP.sub [0, 1, 2] rfl) (hD.sub [0, 1, 2] (by decide) rfl) hS dX6_consistent_26
    · refine lv_iload_n hx hb dX6_consistent_14 rfl (lv_at hl 2 rfl) ?_
      refine lv_iconst (v := (1 : Int32)) hx hb dX6_consistent_15 (by decide) ?_
      refine hi_icmp_lt (tgt := 25) hx hb dX6_consistent_16 rfl hf (fun hc hf => ?_) (fun hc hf => ?_)
      · refine lv_iconst (v := (0 : Int32)) hx hb dX6_consistent_25 (by decide) ?_
        cases hf
        exact hw_rz hx hb hr hlk rfl (hP.sub [0, 1, 2] rfl) (hD.sub [0, 1, 2] (by decide) rfl) hS dX6_consistent_26
      · refine lv_iload_n hx hb dX6_consistent_19 rfl (lv_at hl 2 rfl) ?_
        refine lv_iload hx hb dX6_consistent_20 (lv_at hl 4 rfl) ?_
        refine hi_icmp_le (tgt := 27) hx hb dX6_consistent_22 rfl hf (fun hc hf => ?_) (fun hc hf => ?_)
        · refine lv_iconst (v := (0 : Int32)) hx hb dX6_consistent_27 (by decide) ?_
          refine lv_istore (lv' := [(5, .int (0 : Int32)), (0, .ref h0), (1, .int k1), (2, .int k2), (3, .int k3), (4, .int k4)]) hx hb dX6_consistent_28 hl (by decide) rfl (fun ls hl => ?_)
          refine lv_iload_n hx hb dX6_consistent_30 rfl (lv_at hl 3 rfl) ?_
          refine lv_istore (lv' := [(6, .int k2), (5, .int (0 : Int32)), (0, .ref h0), (1, .int k1), (2, .int k2), (3, .int k3), (4, .int k4)]) hx hb dX6_consistent_31 hl (by decide) rfl (fun ls hl => ?_)
          refine lv_iload hx hb dX6_consistent_33 (lv_at hl 6 rfl) ?_
          refine lv_istore (lv' := [(7, .int k4), (6, .int k2), (5, .int (0 : Int32)), (0, .ref h0), (1, .int k1), (2, .int k2), (3, .int k3), (4, .int k4)]) hx hb dX6_consistent_35 hl (by decide) rfl (fun ls hl => ?_)
          refine lv_iconst (v := (1 : Int32)) hx hb dX6_consistent_37 (by decide) ?_
          refine lv_istore (lv' := [(8, .int (1 : Int32)), (7, .int k4), (6, .int k2), (5, .int (0 : Int32)), (0, .ref h0), (1, .int k1), (2, .int k2), (3, .int k3), (4, .int k4)]) hx hb dX6_consistent_38 hl (by decide) rfl (fun ls hl => ?_)
          exact L40 600 _ _ _ k1 k3 (0 : Int32) k2 k4 (1 : Int32) g0_firsts (lv_sub hl [4, 5, 7, 3, 2, 1, 0] rfl) (hP.sub [0, 1, 2] rfl) (hD.sub [0, 1, 2] (by decide) rfl) hS hf
        · refine lv_iconst (v := (0 : Int32)) hx hb dX6_consistent_25 (by decide) ?_
          cases hf
          exact hw_rz hx hb hr hlk rfl (hP.sub [0, 1, 2] rfl) (hD.sub [0, 1, 2] (by decide) rfl) hS dX6_consistent_26
