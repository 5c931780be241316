def sp_con (lf : Nat → Int32) : Nat → Nat → Nat → Nat → Int32 → List Int32
  | 0, _, f, n, own => if own = 0 then [sp_h lf 0 f n] else []
  | d + 1, m, f, n, own => if m = n then (if own = 0 then [sp_h lf (d + 1) f n] else []) else if sp_k n < m then sp_con lf d (m - sp_k n) (f + sp_k n) (n - sp_k n) 0 ++ [sp_h lf d f (sp_k n)] else sp_con lf d m f (sp_k n) own ++ [sp_h lf d (f + sp_k n) (n - sp_k n)]
theorem sp_con_len (lf : Nat → Int32) : ∀ (d m f n : Nat) (own : Int32), (sp_con lf d m f n own).length ≤ d + 1 := by
  intro d
  induction d with
  | zero =>
    intro m f n own
    rw [sp_con]
    by_cases h1 : own = 0
    · rw [if_pos h1]; simp
    · rw [if_neg h1]; simp
  | succ d ih =>
    intro m f n own
    rw [sp_con]
    by_cases h1 : m = n
    · rw [if_pos h1]
      by_cases h2 : own = 0
      · rw [if_pos h2]; simp
      · rw [if_neg h2]; simp
    · rw [if_neg h1]
      by_cases h2 : sp_k n < m
      · rw [if_pos h2, List.length_append]; have := ih (m - sp_k n) (f + sp_k n) (n - sp_k n) 0; simp only [List.length_singleton]; omega
      · rw [if_neg h2, List.length_append]; have := ih m f (sp_k n) own; simp only [List.length_singleton]; omega
theorem pu_con {c st lv : Nat → Int32} {es : List sp_Ent} {syn : Nat} {ct en sc se : Int32} (h : sp_RL c st lv ct en sc se es syn) : ∀ (q d m f n : Nat) (own : Int32) (ints : Nat → Int32) (cnt : Int32) (pd : List Int32), d < q → d ≤ 10 → n ≤ 2 ^ d → n ≤ 2048 → f + n ≤ 2 ^ 20 → 1 ≤ m → m ≤ n → sp_RP ints cnt pd → pd.length + d + 1 ≤ 16 → ∃ ints' cnt', fTr_consistency ct lv q (nI m) (nI f) (nI n) own (nI d) cnt ints = some (cnt', ints') ∧ sp_RP ints' cnt' (pd ++ sp_con (sp_lf es) d m f n own) := by
  intro q
  induction q with
  | zero => intro d m f n own ints cnt pd h1; omega
  | succ q ih =>
    intro d m f n own ints cnt pd h1 h2 h3 h4 h5 h6 h6' hP hl
    rw [fTr_consistency]
    by_cases hmn : m = n
    · rw [if_pos (by rw [hmn])]
      by_cases ho : own = 0
      · rw [if_pos ho, pu_hash h 12 d f n (by omega) h3 h4 (by omega) h5, pu_bs]
        obtain ⟨e2, r2⟩ := pu_padd hP (by omega) (sp_h (sp_lf es) d f n)
        refine ⟨upd ints pd.length (sp_h (sp_lf es) d f n), nI (pd.length + 1), by rw [e2]; rfl, ?_⟩
        cases d with
        | zero => rw [sp_con, if_pos ho]; exact r2
        | succ d => rw [sp_con, if_pos hmn, if_pos ho]; exact r2
      · rw [if_neg ho]
        refine ⟨_, _, rfl, ?_⟩
        cases d with
        | zero => rw [sp_con, if_neg ho, List.append_nil]; exact hP
        | succ d => rw [sp_con, if_pos hmn, if_neg ho, List.append_nil]; exact hP
    · rw [if_neg (by rw [nI_eq (by omega) (by omega)]; exact hmn)]
      cases d with
      | zero => simp at h3; omega
      | succ d =>
        obtain ⟨a, b⟩ := sp_k_le (by omega) h4 h3
        obtain ⟨c1, c2, c3⟩ := sp_k_spec (by omega) h4
        rw [if_pos (show 0 < nI (d + 1) from nI_lt (a := 0) (by omega) (by omega)), pu_spl n (by omega), pu_bs, nI_pred, sp_con, if_neg hmn]
        by_cases h7 : sp_k n < m
        · rw [if_pos (nI_lt h7 (by omega)), if_pos h7, pk_sub (by omega), nI_add, pk_sub (by omega)]
          obtain ⟨ints1, cnt1, e1, r1⟩ := ih d (m - sp_k n) (f + sp_k n) (n - sp_k n) 0 ints cnt pd (by omega) (by omega) b (by omega) (by omega) (by omega) (by omega) hP (by omega)
          have hlen := sp_con_len (sp_lf es) d (m - sp_k n) (f + sp_k n) (n - sp_k n) 0
          obtain ⟨e2, r2⟩ := pu_padd r1 (by rw [List.length_append]; omega) (sp_h (sp_lf es) d f (sp_k n))
          rw [List.append_assoc] at r2
          refine ⟨_, _, ?_, r2⟩
          · rw [e1, pu_bs]
            show ((fTr_hash ct lv 12 (nI f) (nI (sp_k n)) (nI d)).bind _) = _
            rw [pu_hash h 12 d f (sp_k n) (by omega) a (by omega) (by omega) (by omega), pu_bs, e2]; rfl
        · rw [if_neg (nI_nlt (by omega) (by omega)), if_neg h7, nI_add, pk_sub (by omega)]
          obtain ⟨ints1, cnt1, e1, r1⟩ := ih d m f (sp_k n) own ints cnt pd (by omega) (by omega) a (by omega) (by omega) h6 (by omega) hP (by omega)
          have hlen := sp_con_len (sp_lf es) d m f (sp_k n) own
          obtain ⟨e2, r2⟩ := pu_padd r1 (by rw [List.length_append]; omega) (sp_h (sp_lf es) d (f + sp_k n) (n - sp_k n))
          rw [List.append_assoc] at r2
          refine ⟨_, _, ?_, r2⟩
          · rw [e1, pu_bs]
            show ((fTr_hash ct lv 12 (nI (f + sp_k n)) (nI (n - sp_k n)) (nI d)).bind _) = _
            rw [pu_hash h 12 d (f + sp_k n) (n - sp_k n) (by omega) b (by omega) (by omega) (by omega), pu_bs, e2]; rfl
def sp_il : Nat → Nat → Nat → Nat
  | 0, _, _ => 0
  | d + 1, i, n => if n ≤ 1 then 0 else 1 + (if sp_k n ≤ i then sp_il d (i - sp_k n) (n - sp_k n) else sp_il d i (sp_k n))
theorem sp_il_le : ∀ (d i n : Nat), sp_il d i n ≤ d := by
  intro d
  induction d with
  | zero => intro i n; simp [sp_il]
  | succ d ih =>
    intro i n
    rw [sp_il]
    by_cases h1 : n ≤ 1
    · rw [if_pos h1]; omega
    · rw [if_neg h1]
      by_cases h2 : sp_k n ≤ i
      · rw [if_pos h2]; have := ih (i - sp_k n) (n - sp_k n); omega
      · rw [if_neg h2]; have := ih i (sp_k n); omega
theorem pu_ilL : ∀ (q d i n v : Nat), d < q → n ≤ 2 ^ d → n ≤ 2048 → i < 2 ^ 20 → v + d ≤ 15 → fPd_inclusionLength_L2 q (nI i) (nI n) (nI v) = some (nI (v + sp_il d i n)) := by
  intro q
  induction q with
  | zero => intro d i n v h1; omega
  | succ q ih =>
    intro d i n v h1 h2 h3 h4 h5
    rw [fPd_inclusionLength_L2]
    by_cases hn : n ≤ 1
    · rw [if_pos (show nI n ≤ 1 from nI_le (b := 1) hn (by decide))]
      cases d with
      | zero => rfl
      | succ d => rw [sp_il, if_pos hn]; rfl
    · rw [if_neg (show ¬ nI n ≤ 1 from nI_ge (a := 1) (by omega) (by omega)), if_neg (show ¬ (16 : Int32) ≤ nI v from nI_ge (b := 16) (by omega) (by decide)), pu_spl n (by omega), pu_bs]
      cases d with
      | zero => simp at h2; omega
      | succ d =>
        obtain ⟨a, b⟩ := sp_k_le (by omega) h3 h2
        obtain ⟨c1, c2, c3⟩ := sp_k_spec (by omega) h3
        rw [sp_il, if_neg hn, nI_1]
        by_cases h7 : sp_k n ≤ i
        · rw [if_pos (nI_le h7 (by omega)), if_pos h7, pk_sub h7, pk_sub (by omega), ih d _ _ (v + 1) (by omega) b (by omega) (by omega) (by omega), Nat.add_assoc]
        · rw [if_neg (nI_ge (by omega) (by omega)), if_neg h7, ih d _ _ (v + 1) (by omega) a (by omega) (by omega) (by omega), Nat.add_assoc]
theorem pu_il {d i n : Nat} (h2 : n ≤ 2 ^ d) (h3 : n ≤ 2048) (h4 : i < 2 ^ 20) (h5 : d ≤ 15) : fPd_inclusionLength (nI i) (nI n) = some (nI (sp_il d i n)) := by
  unfold fPd_inclusionLength
  have := pu_ilL 600 d i n 0 (by omega) h2 h3 h4 (by omega)
  rw [Nat.zero_add] at this
  exact this
def sp_sh (leaf : Int32) : Nat → Nat → Nat → List Int32 → Option Int32
  | 0, _, _, [] => some leaf
  | 0, _, _, _ :: _ => none
  | _ + 1, _, n, [] => if n ≤ 1 then some leaf else none
  | d + 1, i, n, z :: r => if n ≤ 1 then none else if sp_k n ≤ i then (sp_sh leaf d (i - sp_k n) (n - sp_k n) r).bind (fun h => some (sp_node z h)) else (sp_sh leaf d i (sp_k n) r).bind (fun h => some (sp_node h z))
theorem sp_sh_len (leaf : Int32) : ∀ (d i n : Nat) (l : List Int32), l.length ≠ sp_il d i n → sp_sh leaf d i n l = none := by
  intro d
  induction d with
  | zero =>
    intro i n l h
    cases l with
    | nil => exact absurd rfl h
    | cons z r => rfl
  | succ d ih =>
    intro i n l h
    rw [sp_il] at h
    cases l with
    | nil =>
      rw [sp_sh]
      by_cases hn : n ≤ 1
      · rw [if_pos hn] at h; exact absurd rfl h
      · rw [if_neg hn]
    | cons z r =>
      rw [sp_sh]
      by_cases hn : n ≤ 1
      · rw [if_pos hn]
      · rw [if_neg hn] at h
        rw [if_neg hn]
        simp only [List.length_cons] at h
        by_cases h7 : sp_k n ≤ i
        · rw [if_pos h7] at h
          rw [if_pos h7, ih _ _ r (by omega)]; rfl
        · rw [if_neg h7] at h
          rw [if_neg h7, ih _ _ r (by omega)]; rfl
theorem pu_above {ints : Nat → Int32} {cnt : Int32} {pd : List Int32} (hP : sp_RP ints cnt pd) (leaf : Int32) : ∀ (q d i n u : Nat), d < q → n ≤ 2 ^ d → n ≤ 2048 → i < 2 ^ 20 → u = sp_il d i n → u ≤ pd.length → ∃ v, fPd_shownAbove cnt ints q leaf (nI i) (nI n) (nI u) = some v ∧ sp_sh leaf d i n (pd.take u).reverse = some v := by
  intro q
  induction q with
  | zero => intro d i n u h1; omega
  | succ q ih =>
    intro d i n u h1 h2 h3 h4 h5 h6
    have h16 := hP.2.1
    rw [fPd_shownAbove]
    by_cases hn : n ≤ 1
    · refine ⟨leaf, by rw [if_pos (show nI n ≤ 1 from nI_le (b := 1) hn (by decide))], ?_⟩
      cases d with
      | zero =>
        have hu : u = 0 := h5
        rw [hu]; rfl
      | succ d =>
        rw [sp_il, if_pos hn] at h5
        rw [h5]
        show sp_sh leaf (d + 1) i n [] = some leaf
        rw [sp_sh, if_pos hn]
    · rw [if_neg (show ¬ nI n ≤ 1 from nI_ge (a := 1) (by omega) (by omega))]
      cases d with
      | zero => simp at h2; omega
      | succ d =>
        obtain ⟨a, b⟩ := sp_k_le (by omega) h3 h2
        obtain ⟨c1, c2, c3⟩ := sp_k_spec (by omega) h3
        rw [sp_il, if_neg hn] at h5
        obtain ⟨w, hw⟩ : ∃ w, u = w + 1 := ⟨u - 1, by omega⟩
        subst hw
        have htk : (pd.take (w + 1)).reverse = pd[w]?.getD 0 :: (pd.take w).reverse := by
          rw [List.take_succ, List.getElem?_eq_getElem (by omega)]; simp
        rw [if_pos (show 0 < nI (w + 1) from nI_lt (a := 0) (by omega) (by omega)), pu_spl n (by omega), pu_bs, nI_pred, pu_intAt hP w (by omega), pu_bs, htk, sp_sh, if_neg hn]
        by_cases h7 : sp_k n ≤ i
        · rw [if_pos h7] at h5
          obtain ⟨v, e1, e2⟩ := ih d (i - sp_k n) (n - sp_k n) w (by omega) b (by omega) (by omega) (by omega) (by omega)
          refine ⟨sp_node (pd[w]?.getD 0) v, ?_, by rw [if_pos h7, e2, pu_bs]⟩
          · rw [if_pos (nI_le h7 (by omega)), pk_sub h7, pk_sub (by omega), e1, pu_bs, pu_node, pu_bs]
        · rw [if_neg h7] at h5
          obtain ⟨v, e1, e2⟩ := ih d i (sp_k n) w (by omega) a (by omega) (by omega) (by omega) (by omega)
          refine ⟨sp_node v (pd[w]?.getD 0), ?_, by rw [if_neg h7, e2, pu_bs]⟩
          · rw [if_neg (nI_ge (by omega) (by omega)), e1, pu_bs, pu_node, pu_bs]
theorem pu_showsInc {ints : Nat → Int32} {cnt : Int32} {pd : List Int32} (hP : sp_RP ints cnt pd) (leaf head : Int32) {i n : Nat} (h3 : n ≤ 1000) (h4 : i < n) : fPd_showsInclusion cnt ints leaf (nI i) (nI n) head = some (if sp_sh leaf 10 i n pd.reverse = some head then 1 else 0) := by
  have h16 := hP.2.1
  have hil := sp_il_le 10 i n
  unfold fPd_showsInclusion
  rw [pu_il (d := 10) (by omega) (by omega) (by omega) (by decide), pu_bs]
  by_cases h5 : pd.length = sp_il 10 i n
  · rw [if_pos (by rw [hP.1, h5])]
    obtain ⟨v, e1, e2⟩ := pu_above hP leaf 18 10 i n pd.length (by omega) (by omega) (by omega) (by omega) h5 (by omega)
    rw [List.take_length] at e2
    rw [← hP.1] at e1
    rw [e1, pu_bs, e2]
    by_cases h6 : v = head
    · rw [if_pos h6, if_pos (by rw [h6])]
    · rw [if_neg h6, if_neg (fun q => h6 (Option.some.inj q))]
  · rw [if_neg (by rw [hP.1, nI_eq (by omega) (by omega)]; exact h5), sp_sh_len leaf 10 i n _ (by rw [List.length_reverse]; exact h5), if_neg (by simp)]
