theorem sp_evA_step {base : Int32} {P l : List Int32} {j : Nat} {p z : Int32} (hp : P[j]? = some p) (hz : l[j]? = some z) : sp_evA base (P.drop j) (l.drop j) = if p = 0 then sp_node z (sp_evA base (P.drop (j + 1)) (l.drop (j + 1))) else sp_evA base (P.drop (j + 1)) (l.drop (j + 1)) := by
  obtain ⟨h1, h2⟩ := List.getElem?_eq_some_iff.mp hp
  obtain ⟨h3, h4⟩ := List.getElem?_eq_some_iff.mp hz
  rw [List.drop_eq_getElem_cons h1, List.drop_eq_getElem_cons h3, h2, h4, sp_evA]
theorem mo_conUp {pad firsts : Nat → Int32} {cnt old head base : Int32} {pd P : List Int32} {g : Nat} (hP : sp_RP pad cnt pd) (hA : sp_AR firsts P) (hl : pd.length = P.length + g) : ∀ (n j : Nat), j < n → j ≤ P.length → fMo_consistent_L198 cnt pad old head (nI P.length) (nI g) n (sp_evA base (P.drop j) (pd.reverse.drop j)) (sp_ev base (P.drop j) (pd.reverse.drop j)) (nI j - 1) firsts = some (if sp_evA base P pd.reverse = old then (if sp_ev base P pd.reverse = head then 1 else 0) else 0, firsts) := by
  have h16 := hP.2.1
  intro n
  induction n with
  | zero => intro j h; omega
  | succ n ih =>
    intro j h hj
    rw [fMo_consistent_L198]
    cases j with
    | zero =>
      rw [if_pos (by decide), List.drop_zero, List.drop_zero]
      by_cases h5 : sp_evA base P pd.reverse = old
      · rw [if_pos h5, if_pos h5]
        by_cases h6 : sp_ev base P pd.reverse = head
        · rw [if_pos h6, if_pos h6]
        · rw [if_neg h6, if_neg h6]
      · rw [if_neg h5, if_neg h5]
    | succ j =>
      obtain ⟨p, hp, -⟩ := pu_dropc (l := P) (i := j) (by omega)
      have hz := sp_rev_at (pd := pd) (j := j) (by omega)
      have hs1 := sp_ev_step (leaf := base) hp hz
      have hs2 := sp_evA_step (base := base) hp hz
      have hx : ((nI g + nI P.length) - 1) - nI j = nI (pd.length - 1 - j) := by rw [nI_add, pu_n1, pk_sub (by omega), pk_sub (by omega), hl, Nat.add_comm g]
      have hpz : pad (pd.length - 1 - j) = pd[pd.length - 1 - j]?.getD 0 := by
        rw [List.getElem?_eq_getElem (by omega)]
        exact hP.2.2 _ _ (List.getElem?_eq_getElem (by omega))
      rw [nI_pred, if_neg (nI_pos (by omega)), hx, pu_rd (by omega) (by decide), pu_bs, pu_rd (by omega) (by decide), pu_bs, hA j p hp, hpz, show nI j + (-1) = nI j - 1 by rw [Int32.sub_eq_add_neg]]
      have hi := ih j (by omega) (by omega)
      rw [hs1, hs2] at hi
      by_cases h5 : p = 0
      · rw [if_pos h5, if_pos h5] at hi
        rw [if_pos h5, mo_node, pu_bs, pu_bs, if_pos h5, mo_node, pu_bs]; exact hi
      · rw [if_neg h5, if_neg h5] at hi
        rw [if_neg h5, pu_bs, if_neg h5, mo_node, pu_bs]; exact hi
theorem mo_conDn {pad : Nat → Int32} {cnt old head : Int32} {pd : List Int32} (hP : sp_RP pad cnt pd) : ∀ (q d m n : Nat) (fl : List Int32) (firsts : Nat → Int32), d < q → n ≤ 2 ^ d → n ≤ 1000 → 1 ≤ m → m ≤ n → fl.length + d ≤ 12 → sp_AR firsts fl → ∃ firsts', fMo_consistent_L40 cnt pad old head q (nI fl.length) (nI m) (nI n) (sp_own fl) firsts = some (sp_cr pd (fl ++ sp_cp d m n) old head, firsts') := by
  have h16 := hP.2.1
  have h10 : ¬ (1 : Int32) = 0 := by decide
  have h00 : (0 : Int32) = 0 := rfl
  intro q
  induction q with
  | zero => intro d m n fl firsts h1; omega
  | succ q ih =>
    intro d m n fl firsts h1 h2 h3 h4 h4' h5 hA
    rw [fMo_consistent_L40]
    by_cases hmn : m = n
    · have hp : sp_cp d m n = [] := by
        cases d with
        | zero => rfl
        | succ d => rw [sp_cp, if_pos hmn]
      rw [if_pos (by rw [hmn]), hp, List.append_nil]
      refine ⟨firsts, ?_⟩
      unfold sp_cr
      rcases sp_own_01 fl with ho | ho
      · rw [ho, if_pos h00, if_pos h00, if_pos h00, nI_1]
        by_cases h6 : pd.length = fl.length + 1
        · have hr0 : hw_rd 16 pad 0 = some (pd[0]?.getD 0) := by
            have := pu_rd (n := 16) (i := 0) (f := pad) (by decide) (by decide)
            rw [← pu_n0] at this
            rw [this, List.getElem?_eq_getElem (by omega), hP.2.2 0 _ (List.getElem?_eq_getElem (by omega))]; rfl
          rw [if_pos (show cnt = nI (fl.length + 1) by rw [hP.1, h6]), if_pos h00, if_pos h6, hr0, pu_bs]
          have := mo_conUp (old := old) (head := head) (base := pd[0]?.getD 0) (g := 1) hP hA h6 600 fl.length (by omega) (by omega)
          rw [List.drop_length, sp_evA, sp_ev] at this
          exact this
        · rw [if_neg (show ¬ cnt = nI (fl.length + 1) by rw [hP.1, nI_eq (by omega) (by omega)]; exact h6), if_neg h6]
      · rw [ho, if_neg h10, if_neg h10, if_neg h10, Nat.add_zero, Int32.add_zero]
        by_cases h6 : pd.length = fl.length
        · rw [if_pos (show cnt = nI fl.length by rw [hP.1, h6]), if_neg h10, if_pos h6]
          have := mo_conUp (old := old) (head := head) (base := old) (g := 0) hP hA (by omega) 600 fl.length (by omega) (by omega)
          rw [List.drop_length, sp_evA, sp_ev] at this
          exact this
        · rw [if_neg (show ¬ cnt = nI fl.length by rw [hP.1, nI_eq (by omega) (by omega)]; exact h6), if_neg h6]
    · rw [if_neg (by rw [nI_eq (by omega) (by omega)]; exact hmn), mo_part n h3, pu_bs]
      cases d with
      | zero => simp at h2; omega
      | succ d =>
        obtain ⟨a, b⟩ := sp_k_le (n := n) (by omega) (by omega) h2
        obtain ⟨c1, c2, c3⟩ := sp_k_spec (n := n) (by omega) (by omega)
        rw [sp_cp, if_neg hmn]
        by_cases h7 : sp_k n < m
        · have hr : hw_rd 16 (upd firsts fl.length 0) (nI fl.length) = some 0 := by rw [pu_rd (by omega) (by decide), pu_us]
          have hl : fl.length + 1 = (fl ++ [0]).length := by rw [List.length_append]; rfl
          obtain ⟨f', e1⟩ := ih d (m - sp_k n) (n - sp_k n) (fl ++ [0]) (upd firsts fl.length 0) (by omega) b (by omega) (by omega) (by omega) (by rw [← hl]; omega) (hA.push 0)
          have hso : sp_own (fl ++ [0]) = 0 := by
            rw [sp_own_app]
            by_cases h8 : sp_own fl = 0
            · rw [if_pos h8]
            · rw [if_neg h8, sp_own, if_pos h00]
          rw [List.append_assoc, ← hl, hso] at e1
          rw [if_pos (nI_lt h7 (by omega)), pu_wz (by omega) (by decide), pu_bs, show ((0 : Int32) &&& 1) = 0 by decide, hr, pu_bs, if_pos h00, pu_bs, if_pos h00, pu_bs, if_pos h00, nI_1, pk_sub (by omega), pk_sub (by omega), if_pos h7]
          refine ⟨f', ?_⟩
          by_cases h8 : sp_own fl = 0
          · rw [if_pos h8]; exact e1
          · rw [if_neg h8]; exact e1
        · have hr : hw_rd 16 (upd firsts fl.length 1) (nI fl.length) = some 1 := by rw [pu_rd (by omega) (by decide), pu_us]
          have hl : fl.length + 1 = (fl ++ [1]).length := by rw [List.length_append]; rfl
          obtain ⟨f', e1⟩ := ih d m (sp_k n) (fl ++ [1]) (upd firsts fl.length 1) (by omega) a (by omega) (by omega) (by omega) (by rw [← hl]; omega) (hA.push 1)
          have hso : sp_own (fl ++ [1]) = sp_own fl := by
            rw [sp_own_app]
            rcases sp_own_01 fl with h8 | h8
            · rw [if_pos h8, h8]
            · rw [h8, if_neg h10, sp_own, if_neg h10, sp_own]
          rw [List.append_assoc, ← hl, hso] at e1
          rw [if_neg (nI_nlt (by omega) (by omega)), pu_wz (by omega) (by decide), pu_bs, show ((1 : Int32) &&& 1) = 1 by decide, hr, pu_bs, if_neg h10, pu_bs, if_neg h10, pu_bs, if_neg h10, nI_1, if_neg h7]
          refine ⟨f', ?_⟩
          rcases sp_own_01 fl with h8 | h8
          · rw [h8] at e1 ⊢
            rw [if_pos h00]; exact e1
          · rw [h8] at e1 ⊢
            rw [if_neg h10]; exact e1
theorem mo_cons {pad : Nat → Int32} {cnt old head : Int32} {pd : List Int32} (hP : sp_RP pad cnt pd) (firsts : Nat → Int32) {m n : Nat} (h3 : n ≤ 1000) (h4 : 1 ≤ m) (h5 : m ≤ n) : ∃ firsts', fMo_consistent_L40 cnt pad old head 600 0 (nI m) (nI n) 1 firsts = some (sp_cr pd (sp_cp 10 m n) old head, firsts') := by
  obtain ⟨f', e1⟩ := mo_conDn (old := old) (head := head) hP 600 10 m n [] firsts (by omega) (by omega) h3 h4 h5 (by simp) (fun j x hx => by simp at hx)
  exact ⟨f', e1⟩
