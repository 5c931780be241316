def sp_path : Nat → Nat → Nat → List Int32
  | 0, _, _ => []
  | d + 1, i, n => if n ≤ 1 then [] else if sp_k n ≤ i then 0 :: sp_path d (i - sp_k n) (n - sp_k n) else 1 :: sp_path d i (sp_k n)
theorem sp_path_len : ∀ (d i n : Nat), (sp_path d i n).length = sp_il d i n := by
  intro d
  induction d with
  | zero => intro i n; rfl
  | succ d ih =>
    intro i n
    rw [sp_path, sp_il]
    by_cases h1 : n ≤ 1
    · rw [if_pos h1, if_pos h1]; rfl
    · rw [if_neg h1, if_neg h1]
      by_cases h2 : sp_k n ≤ i
      · rw [if_pos h2, if_pos h2, List.length_cons, ih]; omega
      · rw [if_neg h2, if_neg h2, List.length_cons, ih]; omega
def sp_ev (leaf : Int32) : List Int32 → List Int32 → Int32
  | [], _ => leaf
  | _ :: _, [] => leaf
  | p :: ps, z :: r => if p = 0 then sp_node z (sp_ev leaf ps r) else sp_node (sp_ev leaf ps r) z
theorem sp_sh_ev (leaf : Int32) : ∀ (d i n : Nat) (l : List Int32), l.length = sp_il d i n → sp_sh leaf d i n l = some (sp_ev leaf (sp_path d i n) l) := by
  intro d
  induction d with
  | zero =>
    intro i n l h
    have : l = [] := List.eq_nil_of_length_eq_zero h
    rw [this]; rfl
  | succ d ih =>
    intro i n l h
    rw [sp_il] at h
    rw [sp_path]
    by_cases hn : n ≤ 1
    · rw [if_pos hn] at h ⊢
      have : l = [] := List.eq_nil_of_length_eq_zero h
      rw [this, sp_sh, if_pos hn, sp_ev]
    · rw [if_neg hn] at h ⊢
      cases l with
      | nil => simp only [List.length_nil] at h; omega
      | cons z r =>
        rw [List.length_cons] at h
        rw [sp_sh, if_neg hn]
        by_cases h7 : sp_k n ≤ i
        · rw [if_pos h7] at h
          rw [if_pos h7, if_pos h7, ih _ _ r (by omega), pu_bs, sp_ev, if_pos rfl]
        · rw [if_neg h7] at h
          rw [if_neg h7, if_neg h7, ih _ _ r (by omega), pu_bs, sp_ev, if_neg (show ¬ (1 : Int32) = 0 by decide)]
theorem sp_ev_step {leaf : Int32} {P l : List Int32} {j : Nat} {p z : Int32} (hp : P[j]? = some p) (hz : l[j]? = some z) : sp_ev leaf (P.drop j) (l.drop j) = if p = 0 then sp_node z (sp_ev leaf (P.drop (j + 1)) (l.drop (j + 1))) else sp_node (sp_ev leaf (P.drop (j + 1)) (l.drop (j + 1))) z := by
  obtain ⟨h1, h2⟩ := List.getElem?_eq_some_iff.mp hp
  obtain ⟨h3, h4⟩ := List.getElem?_eq_some_iff.mp hz
  rw [List.drop_eq_getElem_cons h1, List.drop_eq_getElem_cons h3, h2, h4, sp_ev]
theorem sp_rev_at {pd : List Int32} {j : Nat} (h : j < pd.length) : pd.reverse[j]? = some (pd[pd.length - 1 - j]?.getD 0) := by
  rw [List.getElem?_reverse h, List.getElem?_eq_getElem (by omega)]; rfl
theorem mo_incUp {pad firsts : Nat → Int32} {cnt leaf head : Int32} {pd P : List Int32} (hP : sp_RP pad cnt pd) (hA : sp_AR firsts P) (hl : P.length = pd.length) : ∀ (n j : Nat), j < n → j ≤ P.length → fMo_included_L128 cnt pad head (nI P.length) n (sp_ev leaf (P.drop j) (pd.reverse.drop j)) (nI j - 1) firsts = some (if sp_ev leaf P pd.reverse = head then 1 else 0, firsts) := by
  have h16 := hP.2.1
  intro n
  induction n with
  | zero => intro j h; omega
  | succ n ih =>
    intro j h hj
    rw [fMo_included_L128]
    cases j with
    | zero =>
      rw [if_pos (by decide), List.drop_zero, List.drop_zero]
      by_cases h5 : sp_ev leaf P pd.reverse = head
      · rw [if_pos h5, if_pos h5]
      · rw [if_neg h5, if_neg h5]
    | succ j =>
      obtain ⟨p, hp, -⟩ := pu_dropc (l := P) (i := j) (by omega)
      have hz := sp_rev_at (pd := pd) (j := j) (by omega)
      have hst := sp_ev_step (leaf := leaf) hp hz
      have hx : (nI P.length - 1) - nI j = nI (pd.length - 1 - j) := by rw [pu_n1, pk_sub (by omega), pk_sub (by omega), hl]
      have hpz : pad (pd.length - 1 - j) = pd[pd.length - 1 - j]?.getD 0 := by
        rw [List.getElem?_eq_getElem (by omega)]
        exact hP.2.2 _ _ (List.getElem?_eq_getElem (by omega))
      rw [nI_pred, if_neg (nI_pos (by omega)), hx, pu_rd (by omega) (by decide), pu_bs, pu_rd (by omega) (by decide), pu_bs, hA j p hp, hpz, show nI j + (-1) = nI j - 1 by rw [Int32.sub_eq_add_neg]]
      have hi := ih j (by omega) (by omega)
      rw [hst] at hi
      by_cases h5 : p = 0
      · rw [if_pos h5] at hi ⊢
        rw [mo_node, pu_bs]; exact hi
      · rw [if_neg h5] at hi ⊢
        rw [mo_node, pu_bs]; exact hi
theorem pu_wz {n i : Nat} {f : Nat → Int32} {x : Int32} (h : i < n) (hn : n < 2 ^ 31) : hw_wz n f (nI i) x = some (upd f i (x &&& 1)) := by
  unfold hw_wz
  rw [if_neg (nI_in h hn), nI_clamp (by omega)]
theorem mo_incDn {pad : Nat → Int32} {cnt leaf head : Int32} {pd : List Int32} (hP : sp_RP pad cnt pd) : ∀ (q d i n : Nat) (fl : List Int32) (firsts : Nat → Int32), d < q → n ≤ 2 ^ d → n ≤ 1000 → i < 2000 → fl.length + d ≤ 12 → sp_AR firsts fl → ∃ firsts', fMo_included_L32 cnt pad leaf head q (nI fl.length) (nI i) (nI n) firsts = some (if (fl ++ sp_path d i n).length = pd.length then (if sp_ev leaf (fl ++ sp_path d i n) pd.reverse = head then 1 else 0) else 0, firsts') := by
  have h16 := hP.2.1
  intro q
  induction q with
  | zero => intro d i n fl firsts h1; omega
  | succ q ih =>
    intro d i n fl firsts h1 h2 h3 h4 h5 hA
    rw [fMo_included_L32]
    by_cases hn : n ≤ 1
    · have hp : sp_path d i n = [] := by
        cases d with
        | zero => rfl
        | succ d => rw [sp_path, if_pos hn]
      rw [if_pos (show nI n ≤ 1 from nI_le (b := 1) hn (by decide)), hp, List.append_nil]
      refine ⟨firsts, ?_⟩
      by_cases h6 : fl.length = pd.length
      · rw [if_pos (by rw [hP.1, h6]), if_pos h6]
        have := mo_incUp (leaf := leaf) (head := head) hP hA h6 600 fl.length (by omega) (by omega)
        rw [List.drop_length, sp_ev] at this
        exact this
      · rw [if_neg (by rw [hP.1, nI_eq (by omega) (by omega)]; exact h6), if_neg h6]
    · rw [if_neg (show ¬ nI n ≤ 1 from nI_ge (a := 1) (by omega) (by omega)), mo_part n h3, pu_bs]
      cases d with
      | zero => simp at h2; omega
      | succ d =>
        obtain ⟨a, b⟩ := sp_k_le (n := n) (by omega) (by omega) h2
        obtain ⟨c1, c2, c3⟩ := sp_k_spec (n := n) (by omega) (by omega)
        rw [sp_path, if_neg hn]
        by_cases h7 : sp_k n ≤ i
        · have h8 := nI_le h7 (show i < 2 ^ 31 by omega)
          rw [if_pos h8, pu_wz (by omega) (by decide), pu_bs, if_pos h8, if_pos h8, if_pos h7, nI_1, pk_sub h7, pk_sub (by omega), show ((0 : Int32) &&& 1) = 0 by decide]
          have hl : fl.length + 1 = (fl ++ [0]).length := by rw [List.length_append]; rfl
          obtain ⟨f', e1⟩ := ih d (i - sp_k n) (n - sp_k n) (fl ++ [0]) (upd firsts fl.length 0) (by omega) b (by omega) (by omega) (by rw [← hl]; omega) (hA.push 0)
          rw [List.append_assoc, ← hl] at e1
          exact ⟨f', e1⟩
        · have h8 := nI_ge (a := i) (b := sp_k n) (by omega) (by omega)
          rw [if_neg h8, pu_wz (by omega) (by decide), pu_bs, if_neg h8, if_neg h8, if_neg h7, nI_1, show ((1 : Int32) &&& 1) = 1 by decide]
          have hl : fl.length + 1 = (fl ++ [1]).length := by rw [List.length_append]; rfl
          obtain ⟨f', e1⟩ := ih d i (sp_k n) (fl ++ [1]) (upd firsts fl.length 1) (by omega) a (by omega) (by omega) (by rw [← hl]; omega) (hA.push 1)
          rw [List.append_assoc, ← hl] at e1
          exact ⟨f', e1⟩
theorem mo_incl {pad : Nat → Int32} {cnt leaf head : Int32} {pd : List Int32} (hP : sp_RP pad cnt pd) (firsts : Nat → Int32) {i n : Nat} (h3 : n ≤ 1000) (h4 : i < n) : ∃ firsts', fMo_included_L32 cnt pad leaf head 600 0 (nI i) (nI n) firsts = some (if sp_sh leaf 10 i n pd.reverse = some head then 1 else 0, firsts') := by
  obtain ⟨f', e1⟩ := mo_incDn (leaf := leaf) (head := head) hP 600 10 i n [] firsts (by omega) (by omega) h3 (by omega) (by simp) (fun j x hx => by simp at hx)
  refine ⟨f', ?_⟩
  rw [List.nil_append, sp_path_len] at e1
  have e2 : fMo_included_L32 cnt pad leaf head 600 0 (nI i) (nI n) firsts = _ := e1
  rw [e2]
  by_cases h5 : sp_il 10 i n = pd.length
  · rw [if_pos h5, sp_sh_ev leaf 10 i n _ (by rw [List.length_reverse]; exact h5.symm)]
    by_cases h6 : sp_ev leaf (sp_path 10 i n) pd.reverse = head
    · rw [if_pos h6, if_pos (by rw [h6])]
    · rw [if_neg h6, if_neg (fun q => h6 (Option.some.inj q))]
  · rw [if_neg h5, sp_sh_len leaf 10 i n _ (by rw [List.length_reverse]; exact fun q => h5 q.symm), if_neg (by simp)]
