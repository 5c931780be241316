theorem sp_S_high (lf : Nat → Int32) (q : Nat) : ∀ (a f v r : Nat), r < 2 ^ a → 2 ^ a + r ≤ q → sp_S lf f q v (2 ^ a + r) = sp_C lf (v + a) f :: sp_S lf (f + 2 ^ (v + a)) q v r := by
  intro a
  induction a with
  | zero =>
    intro f v r h1 h2
    have hr : r = 0 := by simpa using h1
    subst hr
    have h5 : sp_S lf f q v 1 = [sp_C lf v f] := by
      have := sp_S_odd lf f q v 0 (by simpa using h2)
      simpa [sp_S_zero] using this
    show sp_S lf f q v 1 = sp_C lf v f :: sp_S lf (f + 2 ^ (v + 0)) q v 0
    rw [h5, sp_S_zero]
  | succ a ih =>
    intro f v r h1 h2
    have hp : 2 ^ (a + 1) = 2 * 2 ^ a := by rw [Nat.pow_succ, Nat.mul_comm]
    rw [hp] at h1 h2 ⊢
    rcases Nat.mod_two_eq_zero_or_one r with h3 | h3
    · obtain ⟨u, rfl⟩ : ∃ u, r = 2 * u := ⟨r / 2, by omega⟩
      rw [← Nat.mul_add, sp_S_even lf f q v _ (by omega), ih f (v + 1) u (by omega) (by omega), sp_S_even lf _ q v u (by omega), show v + 1 + a = v + (a + 1) by omega]
    · obtain ⟨u, rfl⟩ : ∃ u, r = 2 * u + 1 := ⟨r / 2, by omega⟩
      rw [← Nat.add_assoc, ← Nat.mul_add, sp_S_odd lf f q v _ (by omega), ih f (v + 1) u (by omega) (by omega), sp_S_odd lf _ q v u (by omega), show v + 1 + a = v + (a + 1) by omega, List.cons_append]
      have hx : f + 2 * (2 ^ a + u) * 2 ^ v = f + 2 ^ (v + (a + 1)) + 2 * u * 2 ^ v := by
        rw [Nat.mul_add, Nat.add_mul, ← Nat.add_assoc, Nat.pow_add, hp, Nat.mul_comm (2 ^ v)]
      rw [hx]
theorem sp_hb (n : Nat) (h : 1 ≤ n) : ∃ a r, n = 2 ^ a + r ∧ r < 2 ^ a := by
  induction n using Nat.strongRecOn with
  | ind n ih =>
    by_cases h1 : n = 1
    · exact ⟨0, 0, by simpa using h1, by decide⟩
    · obtain ⟨a, r, e1, e2⟩ := ih (n / 2) (by omega) (by omega)
      refine ⟨a + 1, n - 2 ^ (a + 1), ?_, ?_⟩
      · rw [Nat.pow_succ]; omega
      · rw [Nat.pow_succ]; omega
theorem sp_k_pow {n a : Nat} (h1 : 2 ^ a < n) (h2 : n ≤ 2 ^ (a + 1)) (h3 : n ≤ 2048) : sp_k n = 2 ^ a := by
  have hpos : 1 ≤ 2 ^ a := Nat.one_le_two_pow
  obtain ⟨c1, c2, c3⟩ := sp_k_spec (n := n) (by omega) h3
  obtain ⟨j, hj⟩ := sp_kL_pow n 10 0
  have hj' : sp_k n = 2 ^ j := hj
  rw [hj'] at c2 c3 ⊢
  have e1 : 2 ^ j < 2 ^ (a + 1) := by omega
  have e2 : 2 ^ a < 2 ^ (j + 1) := by rw [Nat.pow_succ]; omega
  have l1 : j < a + 1 := (Nat.pow_lt_pow_iff_right (by decide)).mp e1
  have l2 : a < j + 1 := (Nat.pow_lt_pow_iff_right (by decide)).mp e2
  rw [show j = a by omega]
theorem sp_F_cons {x : Int32} {r : List Int32} (h : r ≠ []) : sp_F (x :: r) = sp_node x (sp_F r) := by rw [sp_F, if_neg h]
theorem sp_hash_S (lf : Nat → Int32) : ∀ (d n f : Nat), 1 ≤ n → n ≤ 2 ^ d → n ≤ 200 → sp_F (sp_S lf f 200 0 n) = sp_h lf d f n := by
  have one : ∀ f, sp_F (sp_S lf f 200 0 1) = lf f := by
    intro f
    have := sp_S_high lf 200 0 f 0 0 (by decide) (by decide)
    rw [Nat.pow_zero, Nat.add_zero, sp_S_zero] at this
    rw [this, sp_F, if_pos rfl, Nat.add_zero, sp_C]
  intro d
  induction d with
  | zero =>
    intro n f h1 h2 h3
    have hn : n = 1 := by simp at h2; omega
    rw [hn, one, sp_h]
  | succ d ih =>
    intro n f h1 h2 h3
    by_cases hn : n = 1
    · rw [hn, one, sp_h, if_pos (by omega)]
    · obtain ⟨a, r, e1, e2⟩ := sp_hb n h1
      rw [sp_h, if_neg (by omega)]
      by_cases hr : r = 0
      · cases a with
        | zero => simp at e1; omega
        | succ a =>
          have hp : 2 ^ (a + 1) = 2 * 2 ^ a := by rw [Nat.pow_succ, Nat.mul_comm]
          have hpos : 1 ≤ 2 ^ a := Nat.one_le_two_pow
          have hn2 : n = 2 ^ (a + 1) := by omega
          have hk : sp_k n = 2 ^ a := sp_k_pow (by omega) (by omega) (by omega)
          have had : 2 ^ a ≤ 2 ^ d := by
            have h5 : 2 ^ (a + 1) ≤ 2 ^ (d + 1) := by omega
            have h6 : a + 1 ≤ d + 1 := (Nat.pow_le_pow_iff_right (by decide)).mp h5
            exact Nat.pow_le_pow_right (by decide) (by omega)
          have hC : ∀ g, sp_F (sp_S lf g 200 0 (2 ^ a)) = sp_C lf a g := by
            intro g
            have := sp_S_high lf 200 a g 0 0 (by omega) (by omega)
            rw [Nat.add_zero, sp_S_zero] at this
            rw [this, sp_F, if_pos rfl, Nat.zero_add]
          have := sp_S_high lf 200 (a + 1) f 0 0 (by omega) (by omega)
          rw [Nat.add_zero, sp_S_zero] at this
          rw [hk, hn2, this, sp_F, if_pos rfl, Nat.zero_add, sp_C, show 2 ^ (a + 1) - 2 ^ a = 2 ^ a by omega, ← ih (2 ^ a) f hpos had (by omega), ← ih (2 ^ a) (f + 2 ^ a) hpos had (by omega), hC, hC]
      · have hpos : 1 ≤ 2 ^ a := Nat.one_le_two_pow
        have hk : sp_k n = 2 ^ a := sp_k_pow (by omega) (by rw [Nat.pow_succ]; omega) (by omega)
        have had : 2 ^ a ≤ 2 ^ d := by
          have h5 : 2 ^ a < 2 ^ (d + 1) := by omega
          have h6 : a < d + 1 := (Nat.pow_lt_pow_iff_right (by decide)).mp h5
          exact Nat.pow_le_pow_right (by decide) (by omega)
        have h5 := sp_S_high lf 200 a f 0 r e2 (by omega)
        have hC : sp_F (sp_S lf f 200 0 (2 ^ a)) = sp_C lf a f := by
          have := sp_S_high lf 200 a f 0 0 (by omega) (by omega)
          rw [Nat.add_zero, sp_S_zero] at this
          rw [this, sp_F, if_pos rfl, Nat.zero_add]
        rw [hk, e1, h5, sp_F_cons (sp_S_ne lf _ 200 r 0 (by omega) (by omega)), Nat.zero_add, show 2 ^ a + r - 2 ^ a = r by omega, ← ih (2 ^ a) f hpos had (by omega), hC, ih r _ (by omega) (by omega) (by omega)]
theorem mo_hash {keys legs acc amt seals ends : Nat → Int32} {ct : Int32} {es : List sp_Ent} (h : sp_RM keys legs acc amt seals ends ct es) (st : Nat → Int32) (d f N : Nat) (hN : 1 ≤ N) (hf : f + N ≤ es.length) (hd : N ≤ 2 ^ d) : ∃ st', fMo_hash keys legs acc amt st (nI f) (nI N) = some (sp_h (sp_lf es) d f N, st') := by
  have h73 := sp_len es h.1
  have hz := h.2.1
  unfold fMo_hash
  rw [if_neg (nI_ne0 (by omega) (by omega))]
  obtain ⟨st', e1⟩ := mo_hL h f N hN hf 600 0 st (by omega) (by omega) (by rw [sp_S_zero]; intro j x hx; simp at hx)
  rw [sp_S_zero] at e1
  refine ⟨st', ?_⟩
  rw [← sp_hash_S (sp_lf es) d N f hN hd (by omega)]
  exact e1
theorem mo_lay {pad : Nat → Int32} {cnt : Int32} {pd : List Int32} (h : sp_RP pad cnt pd) (hl : pd.length < 16) (x : Int32) : fMo_lay cnt pad x = some (nI (pd.length + 1), upd pad pd.length x) ∧ sp_RP (upd pad pd.length x) (nI (pd.length + 1)) (pd ++ [x]) := by
  refine ⟨?_, (pu_padd h hl x).2⟩
  unfold fMo_lay
  rw [h.1, pu_wr (by omega) (by decide), pu_bs, nI_1]
theorem sp_RP0 (pad : Nat → Int32) : sp_RP pad 0 [] := ⟨rfl, by simp, fun j x hx => by simp at hx⟩
theorem mo_prove_L164 {keys legs acc amt st others : Nat → Int32} {sy : Int32} : ∀ (n : Nat) (ol pd : List Int32) (pad : Nat → Int32) (cnt : Int32), ol.length < n → ol.length + pd.length ≤ 16 → sp_AR others ol → sp_RP pad cnt pd → ∃ pad', fMo_prove_L164 sy keys legs acc amt n (nI ol.length - 1) cnt pad st others = some (nI (pd ++ ol.reverse).length, nI (pd ++ ol.reverse).length, pad', st, others) ∧ sp_RP pad' (nI (pd ++ ol.reverse).length) (pd ++ ol.reverse) := by
  intro n
  induction n with
  | zero => intro ol pd pad cnt h; omega
  | succ n ih =>
    intro ol pd pad cnt h h16 hA hP
    rw [fMo_prove_L164]
    rcases pu_snoc ol with rfl | ⟨b, x, rfl⟩
    · rw [if_pos (by decide), List.reverse_nil, List.append_nil, ← hP.1]
      exact ⟨pad, rfl, hP⟩
    · rw [List.length_append, List.length_singleton] at h h16 ⊢
      obtain ⟨e1, e2⟩ := mo_lay hP (by omega) x
      rw [nI_pred, if_neg (nI_pos (by omega)), pu_rd (by omega) (by decide), pu_bs, hA.last, e1, pu_bs, List.reverse_append, List.reverse_singleton, ← List.append_assoc]
      dsimp only
      rw [show nI b.length + (-1) = nI b.length - 1 by rw [Int32.sub_eq_add_neg]]
      exact ih b (pd ++ [x]) _ _ (by omega) (by rw [List.length_append, List.length_singleton]; omega) hA.pre e2
theorem mo_extend_L203 {keys legs acc amt st others : Nat → Int32} {sy : Int32} : ∀ (n : Nat) (ol pd : List Int32) (pad : Nat → Int32) (cnt : Int32), ol.length < n → ol.length + pd.length ≤ 16 → sp_AR others ol → sp_RP pad cnt pd → ∃ pad', fMo_extend_L203 sy keys legs acc amt n (nI ol.length - 1) cnt pad st others = some (nI (pd ++ ol.reverse).length, nI (pd ++ ol.reverse).length, pad', st, others) ∧ sp_RP pad' (nI (pd ++ ol.reverse).length) (pd ++ ol.reverse) := by
  intro n
  induction n with
  | zero => intro ol pd pad cnt h; omega
  | succ n ih =>
    intro ol pd pad cnt h h16 hA hP
    rw [fMo_extend_L203]
    rcases pu_snoc ol with rfl | ⟨b, x, rfl⟩
    · rw [if_pos (by decide), List.reverse_nil, List.append_nil, ← hP.1]
      exact ⟨pad, rfl, hP⟩
    · rw [List.length_append, List.length_singleton] at h h16 ⊢
      obtain ⟨e1, e2⟩ := mo_lay hP (by omega) x
      rw [nI_pred, if_neg (nI_pos (by omega)), pu_rd (by omega) (by decide), pu_bs, hA.last, e1, pu_bs, List.reverse_append, List.reverse_singleton, ← List.append_assoc]
      dsimp only
      rw [show nI b.length + (-1) = nI b.length - 1 by rw [Int32.sub_eq_add_neg]]
      exact ih b (pd ++ [x]) _ _ (by omega) (by rw [List.length_append, List.length_singleton]; omega) hA.pre e2
theorem mo_prvL {keys legs acc amt seals ends : Nat → Int32} {ct sy : Int32} {es : List sp_Ent} (h : sp_RM keys legs acc amt seals ends ct es) : ∀ (q d i f n : Nat) (ol : List Int32) (pad st others : Nat → Int32) (cnt : Int32), d < q → n ≤ 2 ^ d → 1 ≤ n → f + n ≤ es.length → i < n → ol.length + d ≤ 10 → sp_AR others ol → ∃ pad' st' others', fMo_prove_L34 sy keys legs acc amt q (nI ol.length) (nI f) (nI i) (nI n) cnt pad st others = some (nI (sp_inc (sp_lf es) d i f n ++ ol.reverse).length, nI (sp_inc (sp_lf es) d i f n ++ ol.reverse).length, pad', st', others') ∧ sp_RP pad' (nI (sp_inc (sp_lf es) d i f n ++ ol.reverse).length) (sp_inc (sp_lf es) d i f n ++ ol.reverse) := by
  have h73 := sp_len es h.1
  have hz := h.2.1
  intro q
  induction q with
  | zero => intro d i f n ol pad st others cnt h1; omega
  | succ q ih =>
    intro d i f n ol pad st others cnt h1 h2 h3 h4 h5 h6 hA
    rw [fMo_prove_L34]
    by_cases hn : n ≤ 1
    · rw [if_pos (show nI n ≤ 1 from nI_le (b := 1) hn (by decide))]
      have hi : sp_inc (sp_lf es) d i f n = [] := by
        cases d with
        | zero => rfl
        | succ d => rw [sp_inc, if_pos hn]
      obtain ⟨pad', e1, e2⟩ := mo_prove_L164 (keys := keys) (legs := legs) (acc := acc) (amt := amt) (st := st) (sy := sy) 600 ol [] pad 0 (by omega) (by simp; omega) hA (sp_RP0 pad)
      rw [hi]
      exact ⟨pad', st, others, e1, e2⟩
    · rw [if_neg (show ¬ nI n ≤ 1 from nI_ge (a := 1) (by omega) (by omega)), mo_part n (by omega), pu_bs]
      cases d with
      | zero => simp at h2; omega
      | succ d =>
        obtain ⟨a, b⟩ := sp_k_le (by omega) (by omega) h2
        obtain ⟨c1, c2, c3⟩ := sp_k_spec (n := n) (by omega) (by omega)
        rw [sp_inc, if_neg hn]
        by_cases h7 : sp_k n ≤ i
        · obtain ⟨st1, e1⟩ := mo_hash h st d f (sp_k n) c1 (by omega) a
          rw [if_pos (nI_le h7 (by omega)), if_pos h7, e1, pu_bs]
          dsimp only
          rw [pu_wr (by omega) (by decide), pu_bs, nI_1, nI_add, pk_sub h7, pk_sub (by omega)]
          have hl : ol.length + 1 = (ol ++ [sp_h (sp_lf es) d f (sp_k n)]).length := by rw [List.length_append]; rfl
          obtain ⟨pad', st', others', e3, e4⟩ := ih d (i - sp_k n) (f + sp_k n) (n - sp_k n) (ol ++ [sp_h (sp_lf es) d f (sp_k n)]) pad st1 (upd others ol.length (sp_h (sp_lf es) d f (sp_k n))) cnt (by omega) b (by omega) (by omega) (by omega) (by rw [← hl]; omega) (hA.push _)
          rw [List.reverse_append, List.reverse_singleton, ← List.append_assoc] at e3 e4
          rw [hl]
          exact ⟨pad', st', others', e3, e4⟩
        · obtain ⟨st1, e1⟩ := mo_hash h st d (f + sp_k n) (n - sp_k n) (by omega) (by omega) b
          rw [if_neg (nI_ge (by omega) (by omega)), if_neg h7, nI_add, pk_sub (by omega), e1, pu_bs]
          dsimp only
          rw [pu_wr (by omega) (by decide), pu_bs, nI_1]
          have hl : ol.length + 1 = (ol ++ [sp_h (sp_lf es) d (f + sp_k n) (n - sp_k n)]).length := by rw [List.length_append]; rfl
          obtain ⟨pad', st', others', e3, e4⟩ := ih d i f (sp_k n) (ol ++ [sp_h (sp_lf es) d (f + sp_k n) (n - sp_k n)]) pad st1 (upd others ol.length (sp_h (sp_lf es) d (f + sp_k n) (n - sp_k n))) cnt (by omega) a c1 (by omega) (by omega) (by rw [← hl]; omega) (hA.push _)
          rw [List.reverse_append, List.reverse_singleton, ← List.append_assoc] at e3 e4
          rw [hl]
          exact ⟨pad', st', others', e3, e4⟩
theorem mo_extL {keys legs acc amt seals ends : Nat → Int32} {ct sy : Int32} {es : List sp_Ent} (h : sp_RM keys legs acc amt seals ends ct es) : ∀ (q d m f n : Nat) (own : Int32) (ol : List Int32) (pad st others : Nat → Int32) (cnt : Int32), own = 0 ∨ own = 1 → d < q → n ≤ 2 ^ d → 1 ≤ m → f + n ≤ es.length → m ≤ n → ol.length + d ≤ 10 → sp_AR others ol → ∃ pad' st' others', fMo_extend_L38 sy keys legs acc amt q (nI ol.length) (nI f) (nI m) (nI n) own cnt pad st others = some (nI (sp_con (sp_lf es) d m f n own ++ ol.reverse).length, nI (sp_con (sp_lf es) d m f n own ++ ol.reverse).length, pad', st', others') ∧ sp_RP pad' (nI (sp_con (sp_lf es) d m f n own ++ ol.reverse).length) (sp_con (sp_lf es) d m f n own ++ ol.reverse) := by
  have h73 := sp_len es h.1
  have hz := h.2.1
  intro q
  induction q with
  | zero => intro d m f n own ol pad st others cnt ho h1; omega
  | succ q ih =>
    intro d m f n own ol pad st others cnt ho h1 h2 h3 h4 h5 h6 hA
    rw [fMo_extend_L38]
    by_cases hmn : m = n
    · rw [if_pos (by rw [hmn])]
      have hc : sp_con (sp_lf es) d m f n own = if own = 0 then [sp_h (sp_lf es) d f n] else [] := by
        cases d with
        | zero => rw [sp_con]
        | succ d => rw [sp_con, if_pos hmn]
      rw [hc]
      by_cases h0 : own = 0
      · obtain ⟨st1, e1⟩ := mo_hash h st d f n (by omega) (by omega) h2
        obtain ⟨l1, l2⟩ := mo_lay (sp_RP0 pad) (by simp) (sp_h (sp_lf es) d f n)
        rw [if_pos h0, if_pos h0, e1, pu_bs]
        dsimp only
        rw [l1, pu_bs]
        obtain ⟨pad', e3, e4⟩ := mo_extend_L203 (keys := keys) (legs := legs) (acc := acc) (amt := amt) (st := st1) (sy := sy) 600 ol [sp_h (sp_lf es) d f n] _ _ (by omega) (by simp; omega) hA l2
        exact ⟨pad', st1, others, e3, e4⟩
      · rw [if_neg h0, if_neg h0]
        obtain ⟨pad', e3, e4⟩ := mo_extend_L203 (keys := keys) (legs := legs) (acc := acc) (amt := amt) (st := st) (sy := sy) 600 ol [] pad 0 (by omega) (by simp; omega) hA (sp_RP0 pad)
        exact ⟨pad', st, others, e3, e4⟩
    · rw [if_neg (by rw [nI_eq (by omega) (by omega)]; exact hmn), mo_part n (by omega), pu_bs]
      cases d with
      | zero => simp at h2; omega
      | succ d =>
        obtain ⟨a, b⟩ := sp_k_le (n := n) (by omega) (by omega) h2
        obtain ⟨c1, c2, c3⟩ := sp_k_spec (n := n) (by omega) (by omega)
        rw [sp_con, if_neg hmn]
        by_cases h7 : sp_k n < m
        · obtain ⟨st1, e1⟩ := mo_hash h st d f (sp_k n) c1 (by omega) a
          rw [if_pos (nI_lt h7 (by omega)), if_pos h7, e1, pu_bs]
          dsimp only
          rw [pu_wr (by omega) (by decide), pu_bs, nI_1, nI_add, pk_sub (by omega), pk_sub (by omega)]
          have hl : ol.length + 1 = (ol ++ [sp_h (sp_lf es) d f (sp_k n)]).length := by rw [List.length_append]; rfl
          obtain ⟨pad', st', others', e3, e4⟩ := ih d (m - sp_k n) (f + sp_k n) (n - sp_k n) 0 (ol ++ [sp_h (sp_lf es) d f (sp_k n)]) pad st1 (upd others ol.length (sp_h (sp_lf es) d f (sp_k n))) cnt (Or.inl rfl) (by omega) b (by omega) (by omega) (by omega) (by rw [← hl]; omega) (hA.push _)
          rw [List.reverse_append, List.reverse_singleton, ← List.append_assoc] at e3 e4
          rw [hl]
          refine ⟨pad', st', others', ?_, e4⟩
          by_cases h0 : own = 0
          · rw [if_pos h0]; exact e3
          · rw [if_neg h0]; exact e3
        · obtain ⟨st1, e1⟩ := mo_hash h st d (f + sp_k n) (n - sp_k n) (by omega) (by omega) b
          rw [if_neg (nI_nlt (by omega) (by omega)), if_neg h7, nI_add, pk_sub (by omega), e1, pu_bs]
          dsimp only
          rw [pu_wr (by omega) (by decide), pu_bs, nI_1]
          have hl : ol.length + 1 = (ol ++ [sp_h (sp_lf es) d (f + sp_k n) (n - sp_k n)]).length := by rw [List.length_append]; rfl
          obtain ⟨pad', st', others', e3, e4⟩ := ih d m f (sp_k n) own (ol ++ [sp_h (sp_lf es) d (f + sp_k n) (n - sp_k n)]) pad st1 (upd others ol.length (sp_h (sp_lf es) d (f + sp_k n) (n - sp_k n))) cnt ho (by omega) a h3 (by omega) (by omega) (by rw [← hl]; omega) (hA.push _)
          rw [List.reverse_append, List.reverse_singleton, ← List.append_assoc] at e3 e4
          rw [hl]
          refine ⟨pad', st', others', ?_, e4⟩
          rcases ho with rfl | rfl
          · rw [if_pos rfl]; exact e3
          · rw [if_neg (show ¬ (1 : Int32) = 0 by decide)]; exact e3
