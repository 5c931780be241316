def sp_kL (n : Nat) : Nat → Nat → Nat
  | 0, k => k
  | f + 1, k => if n ≤ 2 * k then k else sp_kL n f (2 * k)
def sp_k (n : Nat) : Nat := sp_kL n 10 1
theorem sp_kL_spec (n : Nat) : ∀ (f k : Nat), (k = 1 ∨ k < n) → n ≤ 2 ^ (f + 1) * k → 1 ≤ k → 2 ≤ n → 1 ≤ sp_kL n f k ∧ sp_kL n f k < n ∧ n ≤ 2 * sp_kL n f k := by
  intro f
  induction f with
  | zero =>
    intro k h1 h2 h3 h4
    rw [sp_kL]
    refine ⟨h3, by omega, ?_⟩
    simpa using h2
  | succ f ih =>
    intro k h1 h2 h3 h4
    rw [sp_kL]
    by_cases h : n ≤ 2 * k
    · rw [if_pos h]; exact ⟨h3, by omega, h⟩
    · rw [if_neg h]
      refine ih (2 * k) (by omega) ?_ (by omega) h4
      rw [Nat.pow_succ, Nat.mul_assoc] at h2
      exact h2
theorem sp_k_spec {n : Nat} (h2 : 2 ≤ n) (h : n ≤ 2048) : 1 ≤ sp_k n ∧ sp_k n < n ∧ n ≤ 2 * sp_k n := sp_kL_spec n 10 1 (Or.inl rfl) (by simpa using h) (by omega) h2
theorem sp_kL_pow (n : Nat) : ∀ (f i : Nat), ∃ j : Nat, sp_kL n f (2 ^ i) = 2 ^ j := by
  intro f
  induction f with
  | zero => intro i; exact ⟨i, rfl⟩
  | succ f ih =>
    intro i
    rw [sp_kL]
    by_cases h : n ≤ 2 * 2 ^ i
    · rw [if_pos h]; exact ⟨i, rfl⟩
    · rw [if_neg h, show 2 * 2 ^ i = 2 ^ (i + 1) by rw [Nat.pow_succ]; omega]; exact ih (i + 1)
theorem sp_k_le {n d : Nat} (h2 : 2 ≤ n) (h : n ≤ 2048) (hd : n ≤ 2 ^ (d + 1)) : sp_k n ≤ 2 ^ d ∧ n - sp_k n ≤ 2 ^ d := by
  obtain ⟨h3, h4, h5⟩ := sp_k_spec h2 h
  obtain ⟨j, hj⟩ := sp_kL_pow n 10 0
  have hj' : sp_k n = 2 ^ j := hj
  have : sp_k n ≤ 2 ^ d := by
    rw [hj'] at h4 ⊢
    have h6 : 2 ^ j < 2 ^ (d + 1) := by omega
    have h7 : j < d + 1 := (Nat.pow_lt_pow_iff_right (by decide)).mp h6
    exact Nat.pow_le_pow_right (by decide) (by omega)
  exact ⟨this, by omega⟩
theorem pu_splitL (n : Nat) (hn : n < 2 ^ 30) : ∀ (q v k : Nat), v ≤ 10 → 10 - v < q → k ≤ 2 ^ v → fSl_split_L4 (nI n) q (nI k) (nI v) = some (nI (sp_kL n (10 - v) k)) := by
  intro q
  induction q with
  | zero => intro v k h1 h2; omega
  | succ q ih =>
    intro v k h1 h2 h3
    rw [fSl_split_L4]
    by_cases hv : v = 10
    · rw [if_pos (show (10 : Int32) ≤ nI v from nI_le (a := 10) (by omega) (by omega)), hv]; rfl
    · have hp : 2 ^ v ≤ 2 ^ 9 := Nat.pow_le_pow_right (by decide) (by omega)
      have hp2 : (2 : Nat) ^ 9 = 512 := by decide
      rw [if_neg (show ¬ (10 : Int32) ≤ nI v from nI_ge (b := 10) (by omega) (by decide)), pu_n2, pk_mul]
      obtain ⟨w, hw⟩ : ∃ w, 10 - v = w + 1 := ⟨10 - v - 1, by omega⟩
      rw [hw, sp_kL]
      by_cases h4 : n ≤ 2 * k
      · rw [if_pos (nI_le h4 (by omega)), if_pos h4]
      · rw [if_neg (nI_ge (by omega) (by omega)), if_neg h4, nI_1, ih (v + 1) (2 * k) (by omega) (by omega) (by rw [Nat.pow_succ]; omega), show 10 - (v + 1) = w by omega]
theorem pu_spl (n : Nat) (hn : n < 2 ^ 30) : fSl_split (nI n) = some (nI (sp_k n)) := by
  unfold fSl_split
  exact pu_splitL n hn 600 0 1 (by omega) (by omega) (by decide)
def sp_h (lf : Nat → Int32) : Nat → Nat → Nat → Int32
  | 0, f, _ => lf f
  | d + 1, f, n => if n ≤ 1 then lf f else sp_node (sp_h lf d f (sp_k n)) (sp_h lf d (f + sp_k n) (n - sp_k n))
theorem sp_h_dep (lf : Nat → Int32) : ∀ (d f n : Nat), n ≤ 2 ^ d → n ≤ 2048 → sp_h lf (d + 1) f n = sp_h lf d f n := by
  intro d
  induction d with
  | zero => intro f n h h2; simp only [sp_h]; rw [if_pos (by simpa using h)]
  | succ d ih =>
    intro f n h h2
    rw [sp_h]
    by_cases h1 : n ≤ 1
    · rw [if_pos h1, sp_h, if_pos h1]
    · obtain ⟨a, b⟩ := sp_k_le (by omega) h2 h
      obtain ⟨c1, c2, c3⟩ := sp_k_spec (by omega) h2
      rw [if_neg h1, ih f _ a (by omega), ih _ _ b (by omega), sp_h, if_neg h1]
def sp_lf (es : List sp_Ent) (i : Nat) : Int32 := match es[i]? with
  | some e => sp_leaf e
  | none => 0
theorem pu_leafOfN {c st lv : Nat → Int32} {es : List sp_Ent} {syn : Nat} {ct en sc se : Int32} (h : sp_RL c st lv ct en sc se es syn) (i : Nat) (hi : i < 2 ^ 31) : fLg_leafOf ct lv (nI i) = some (sp_lf es i) := by
  unfold sp_lf
  cases he : es[i]? with
  | some e => exact pu_leafOf h i e he
  | none =>
    have h1 : es.length ≤ i := List.getElem?_eq_none_iff.mp he
    exact pu_leafOf0 h _ (Or.inr (nI_le h1 hi))
theorem pu_hash {c st lv : Nat → Int32} {es : List sp_Ent} {syn : Nat} {ct en sc se : Int32} (h : sp_RL c st lv ct en sc se es syn) : ∀ (q d f n : Nat), d < q → n ≤ 2 ^ d → n ≤ 2048 → d ≤ 20 → f + n ≤ 2 ^ 20 → fTr_hash ct lv q (nI f) (nI n) (nI d) = some (sp_h (sp_lf es) d f n) := by
  intro q
  induction q with
  | zero => intro d f n h1; omega
  | succ q ih =>
    intro d f n h1 h2 h3 h4 h5
    rw [fTr_hash]
    by_cases hn : n ≤ 1
    · rw [if_pos (show nI n ≤ 1 from nI_le (b := 1) hn (by decide)), pu_leafOfN h f (by omega), pu_bs]
      cases d with
      | zero => rfl
      | succ d => rw [sp_h, if_pos hn]
    · rw [if_neg (show ¬ nI n ≤ 1 from nI_ge (a := 1) (by omega) (by omega))]
      cases d with
      | zero => simp at h2; omega
      | succ d =>
        obtain ⟨a, b⟩ := sp_k_le (by omega) h3 h2
        obtain ⟨c1, c2, c3⟩ := sp_k_spec (by omega) h3
        rw [if_pos (show 0 < nI (d + 1) from nI_lt (a := 0) (by omega) (by omega)), pu_spl n (by omega), pu_bs, nI_pred, ih d f _ (by omega) a (by omega) (by omega) (by omega), pu_bs, nI_add, pk_sub (by omega), ih d _ _ (by omega) b (by omega) (by omega) (by omega), pu_bs, pu_node, pu_bs, sp_h, if_neg hn]
def sp_RP (ints : Nat → Int32) (cnt : Int32) (pd : List Int32) : Prop := cnt = nI pd.length ∧ pd.length ≤ 16 ∧ ∀ j x, pd[j]? = some x → ints j = x
theorem pu_padd {ints : Nat → Int32} {cnt : Int32} {pd : List Int32} (h : sp_RP ints cnt pd) (hl : pd.length < 16) (x : Int32) : fPd_add cnt ints x = some (1, nI (pd.length + 1), upd ints pd.length x) ∧ sp_RP (upd ints pd.length x) (nI (pd.length + 1)) (pd ++ [x]) := by
  obtain ⟨rfl, h16, hp⟩ := h
  refine ⟨?_, by rw [List.length_append]; rfl, by rw [List.length_append, List.length_singleton]; omega, fun j y hj => ?_⟩
  · unfold fPd_add
    rw [if_pos (show nI pd.length < 16 from nI_lt (b := 16) hl (by decide)), pu_wr (by omega) (by decide), pu_bs, nI_1]
  · by_cases h5 : j = pd.length
    · rw [h5, List.getElem?_append_right (by omega), Nat.sub_self] at hj
      simp only [List.getElem?_cons_zero, Option.some.injEq] at hj
      rw [h5, pu_us, hj]
    · have hi : j < (pd ++ [x]).length := (List.getElem?_eq_some_iff.mp hj).1
      rw [List.length_append, List.length_singleton] at hi
      rw [List.getElem?_append_left (by omega)] at hj
      rw [pu_un h5]; exact hp j y hj
theorem pu_padd0 {ints : Nat → Int32} {cnt : Int32} {pd : List Int32} (h : sp_RP ints cnt pd) (hl : ¬ pd.length < 16) (x : Int32) : fPd_add cnt ints x = some (0, cnt, ints) := by
  obtain ⟨rfl, h16, hp⟩ := h
  unfold fPd_add
  rw [if_neg (show ¬ nI pd.length < 16 from nI_nlt (b := 16) (by omega) (by omega))]
theorem pu_intAt {ints : Nat → Int32} {cnt : Int32} {pd : List Int32} (h : sp_RP ints cnt pd) (j : Nat) (hj : j < 2 ^ 31) : fPd_intAt cnt ints (nI j) = some (pd[j]?.getD 0) := by
  obtain ⟨rfl, h16, hp⟩ := h
  unfold fPd_intAt
  rw [if_neg (nI_pos hj)]
  by_cases h1 : j < pd.length
  · rw [if_neg (nI_ge h1 (by omega)), pu_rd (by omega) (by decide), pu_bs]
    rw [List.getElem?_eq_getElem h1, hp j _ (List.getElem?_eq_getElem h1)]; rfl
  · rw [if_pos (nI_le (by omega) hj), List.getElem?_eq_none (by omega)]; rfl
def sp_inc (lf : Nat → Int32) : Nat → Nat → Nat → Nat → List Int32
  | 0, _, _, _ => []
  | d + 1, i, f, n => if n ≤ 1 then [] else if sp_k n ≤ i then sp_inc lf d (i - sp_k n) (f + sp_k n) (n - sp_k n) ++ [sp_h lf d f (sp_k n)] else sp_inc lf d i f (sp_k n) ++ [sp_h lf d (f + sp_k n) (n - sp_k n)]
theorem sp_inc_len (lf : Nat → Int32) : ∀ (d i f n : Nat), (sp_inc lf d i f n).length ≤ d := by
  intro d
  induction d with
  | zero => intro i f n; simp [sp_inc]
  | succ d ih =>
    intro i f n
    rw [sp_inc]
    by_cases h1 : n ≤ 1
    · rw [if_pos h1]; simp
    · rw [if_neg h1]
      by_cases h2 : sp_k n ≤ i
      · rw [if_pos h2, List.length_append]; have := ih (i - sp_k n) (f + sp_k n) (n - sp_k n); simp only [List.length_singleton]; omega
      · rw [if_neg h2, List.length_append]; have := ih i f (sp_k n); simp only [List.length_singleton]; omega
theorem pu_inc {c st lv : Nat → Int32} {es : List sp_Ent} {syn : Nat} {ct en sc se : Int32} (h : sp_RL c st lv ct en sc se es syn) : ∀ (q d i f n : Nat) (ints : Nat → Int32) (cnt : Int32) (pd : List Int32), d < q → d ≤ 10 → n ≤ 2 ^ d → n ≤ 2048 → f + n ≤ 2 ^ 20 → i < 2 ^ 20 → sp_RP ints cnt pd → pd.length + d ≤ 16 → ∃ ints' cnt', fTr_inclusion ct lv q (nI i) (nI f) (nI n) (nI d) cnt ints = some (cnt', ints') ∧ sp_RP ints' cnt' (pd ++ sp_inc (sp_lf es) d i f n) := by
  intro q
  induction q with
  | zero => intro d i f n ints cnt pd h1; omega
  | succ q ih =>
    intro d i f n ints cnt pd h1 h2 h3 h4 h5 h6 hP hl
    rw [fTr_inclusion]
    by_cases hn : n ≤ 1
    · rw [if_pos (show nI n ≤ 1 from nI_le (b := 1) hn (by decide))]
      refine ⟨_, _, rfl, ?_⟩
      cases d with
      | zero => simpa [sp_inc] using hP
      | succ d => rw [sp_inc, if_pos hn, List.append_nil]; exact hP
    · rw [if_neg (show ¬ nI n ≤ 1 from nI_ge (a := 1) (by omega) (by omega))]
      cases d with
      | zero => simp at h3; omega
      | succ d =>
        obtain ⟨a, b⟩ := sp_k_le (by omega) h4 h3
        obtain ⟨c1, c2, c3⟩ := sp_k_spec (by omega) h4
        rw [if_pos (show 0 < nI (d + 1) from nI_lt (a := 0) (by omega) (by omega)), pu_spl n (by omega), pu_bs, nI_pred, sp_inc, if_neg hn]
        by_cases h7 : sp_k n ≤ i
        · rw [if_pos (nI_le h7 (by omega)), if_pos h7, pk_sub h7, nI_add, pk_sub (by omega)]
          obtain ⟨ints1, cnt1, e1, r1⟩ := ih d (i - sp_k n) (f + sp_k n) (n - sp_k n) ints cnt pd (by omega) (by omega) b (by omega) (by omega) (by omega) hP (by omega)
          have hlen := sp_inc_len (sp_lf es) d (i - sp_k n) (f + sp_k n) (n - sp_k n)
          obtain ⟨e2, r2⟩ := pu_padd r1 (by rw [List.length_append]; omega) (sp_h (sp_lf es) d f (sp_k n))
          rw [List.append_assoc] at r2
          refine ⟨_, _, ?_, r2⟩
          · rw [e1, pu_bs]
            show ((fTr_hash ct lv 12 (nI f) (nI (sp_k n)) (nI d)).bind _) = _
            rw [pu_hash h 12 d f (sp_k n) (by omega) a (by omega) (by omega) (by omega), pu_bs, e2]; rfl
        · rw [if_neg (nI_ge (by omega) (by omega)), if_neg h7, nI_add, pk_sub (by omega)]
          obtain ⟨ints1, cnt1, e1, r1⟩ := ih d i f (sp_k n) ints cnt pd (by omega) (by omega) a (by omega) (by omega) (by omega) hP (by omega)
          have hlen := sp_inc_len (sp_lf es) d i f (sp_k n)
          obtain ⟨e2, r2⟩ := pu_padd r1 (by rw [List.length_append]; omega) (sp_h (sp_lf es) d (f + sp_k n) (n - sp_k n))
          rw [List.append_assoc] at r2
          refine ⟨_, _, ?_, r2⟩
          · rw [e1, pu_bs]
            show ((fTr_hash ct lv 12 (nI (f + sp_k n)) (nI (n - sp_k n)) (nI d)).bind _) = _
            rw [pu_hash h 12 d (f + sp_k n) (n - sp_k n) (by omega) b (by omega) (by omega) (by omega), pu_bs, e2]; rfl
