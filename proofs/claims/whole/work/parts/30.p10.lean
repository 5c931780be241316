theorem sp_row_nn (es : List sp_Ent) (hl : es.length < 2 ^ 31) (fr : Int32) (hi j : Nat) (hh : hi < 2 ^ 31) (hj : j < 2 ^ 31) (ej : hw_max fr 0 = nI j) : sp_row es fr (nI hi) = (es.take hi).drop j := by
  unfold sp_row
  rw [ej, nI_clamp hj]
  unfold hw_min
  by_cases h : es.length < hi
  · rw [if_pos (nI_lt h hh), nI_clamp hl, List.take_length, List.take_of_length_le (by omega)]
  · rw [if_neg (nI_nlt (by omega) hl), nI_clamp hh]
theorem sp_row_neg (es : List sp_Ent) (hl : es.length < 2 ^ 31) (fr to_ : Int32) (h : to_ < 0) : sp_row es fr to_ = [] := by
  unfold sp_row
  have h0 : hw_min to_ (nI es.length) = to_ := by
    unfold hw_min
    rw [if_neg]
    rw [Int32.lt_iff_toInt_lt, nI_toInt hl]
    rw [Int32.lt_iff_toInt_lt] at h
    have e0 : (0 : Int32).toInt = 0 := by decide
    omega
  have h1 : to_.toNatClampNeg = 0 := by
    rw [Int32.lt_iff_toInt_lt] at h
    have e0 : (0 : Int32).toInt = 0 := by decide
    show to_.toInt.toNat = 0
    omega
  rw [h0, h1]; simp
theorem mo_from (fr : Int32) : ∃ j : Nat, j < 2 ^ 31 ∧ hw_max fr 0 = nI j ∧ (if 0 ≤ fr then fr else 0) = nI j := by
  by_cases h : fr < 0
  · refine ⟨0, by decide, ?_, ?_⟩
    · unfold hw_max; rw [if_pos h]; rfl
    · rw [if_neg]; rfl
      rw [Int32.lt_iff_toInt_lt] at h
      rw [Int32.le_iff_toInt_le]; omega
  · obtain ⟨j, hj, rfl⟩ := nI_of h
    refine ⟨j, hj, ?_, ?_⟩
    · unfold hw_max; rw [if_neg h]
    · rw [if_pos (nI_pos' hj)]
theorem mo_stmt {keys legs acc amt seals ends : Nat → Int32} {ct a sm : Int32} {es : List sp_Ent} (h : sp_RM keys legs acc amt seals ends ct es) (ha : sp_acc a) (fr to_ : Int32) : fMo_statement ct legs acc amt a fr to_ sm = some (sp_tot a sm 0 (sp_row es fr to_)) := by
  have h73 := sp_len es h.1
  have hz := h.2.1
  obtain ⟨j, hj, e1, e2⟩ := mo_from fr
  have hs : fMo_statement ct legs acc amt a fr to_ sm = fMo_statement_L14 ct legs acc amt a to_ sm 600 0 (nI j) := by
    unfold fMo_statement
    by_cases h0 : 0 ≤ fr
    · rw [if_pos h0] at e2 ⊢; rw [e2]
    · rw [if_neg h0] at e2 ⊢; rw [e2]
  rw [hs]
  by_cases hn : to_ < 0
  · rw [fMo_statement_L14, if_pos, sp_row_neg es (by omega) fr to_ hn]
    · rfl
    · rw [Int32.lt_iff_toInt_lt] at hn
      have e0 : (0 : Int32).toInt = 0 := by decide
      rw [Int32.le_iff_toInt_le, nI_toInt hj]; omega
  · obtain ⟨hi, hh, rfl⟩ := nI_of hn
    rw [sp_row_nn es (by omega) fr hi j hh hj e1]
    exact mo_stL h ha hi hh 600 j 0 hj (by omega)
theorem mo_stmt0 {legs acc amt : Nat → Int32} {ct a sm : Int32} (ha : ¬ sp_acc a) (fr to_ : Int32) : fMo_statement ct legs acc amt a fr to_ sm = some 0 := by
  have hl : ∀ x : Int32, fMo_statement_L14 ct legs acc amt a to_ sm 600 0 x = some 0 := by
    intro x
    rw [fMo_statement_L14]
    by_cases h1 : to_ ≤ x
    · rw [if_pos h1]
    · rw [if_neg h1]
      by_cases h2 : ct ≤ x
      · rw [if_pos h2]
      · rw [if_neg h2, mo_acc0 a ha, pu_bs, if_pos rfl]
  unfold fMo_statement
  by_cases h0 : 0 ≤ fr
  · rw [if_pos h0, hl]
  · rw [if_neg h0, hl]
theorem mo_balAll {keys legs acc amt seals ends : Nat → Int32} {ct a : Int32} {es : List sp_Ent} (h : sp_RM keys legs acc amt seals ends ct es) (ha : sp_acc a) : fMo_balance ct legs acc amt a ct = some (sp_tot a 1 0 es) := by
  have h73 := sp_len es h.1
  have hz := h.2.1
  unfold fMo_balance
  rw [h.2.2.1, if_pos (nI_le (by omega) (by omega)), ← h.2.2.1, mo_stmt h ha, pu_bs, h.2.2.1, sp_row_all es (by omega)]
theorem sp_chg_add (a : Int32) : ∀ (l : List sp_Leg) (t : Int32), sp_chg a t l = t + sp_chg a 0 l := by
  intro l
  induction l with
  | nil => intro t; rw [sp_chg, sp_chg, Int32.add_zero]
  | cons g r ih =>
    intro t
    rw [sp_chg, sp_chg]
    by_cases h1 : g.1 = a
    · rw [if_pos h1, if_pos h1, ih (t + g.2), ih (0 + g.2), Int32.zero_add, Int32.add_assoc]
    · rw [if_neg h1, if_neg h1, ih t]
theorem mo_poorI {legs acc amt dacc damt lim : Nat → Int32} {ct cnt : Int32} {dr : List sp_Leg} {kk : Int32 → Int32 → Option Int32} (hd : sp_RD dacc damt cnt dr) {j : Nat} {g : sp_Leg} (hg : dr[j]? = some g) (t : Int32) : ∀ (n q : Nat) (v : Int32), q ≤ dr.length → dr.length - q < n → fMo_poor_L30 ct cnt legs acc amt dacc damt lim t (nI j) kk n v (nI q) = if t = 0 then (if -(lim g.1.toNatClampNeg) ≤ sp_chg g.1 v (dr.drop q) then kk 0 (nI (j + 1)) else kk 1 (nI (j + 1))) else kk 1 (nI (j + 1)) := by
  have hd0 := hd
  obtain ⟨rfl, h4, hd, hok⟩ := hd
  have hjl : j < dr.length := (List.getElem?_eq_some_iff.mp hg).1
  obtain ⟨k, hk, ek⟩ := sp_acc_nI (hok g (List.mem_of_getElem? hg)).1
  have hrd : hw_rd 8 lim g.1 = some (lim g.1.toNatClampNeg) := by rw [ek, pu_rd hk (by decide), nI_clamp (by omega)]
  intro n
  induction n with
  | zero => intro q v h1 h2; omega
  | succ n ih =>
    intro q v h1 h2
    rw [fMo_poor_L30]
    by_cases hq : q = dr.length
    · rw [if_pos (nI_le (by omega) (by omega)), nI_1, hq, List.drop_length, sp_chg]
      by_cases ht : t = 0
      · rw [if_pos ht, if_pos ht, pu_rd (by omega) (by decide), pu_bs, (hd j g hg).1, hrd, pu_bs]
      · rw [if_neg ht, if_neg ht]
    · rw [if_neg (nI_ge (by omega) (by omega))]
      obtain ⟨f, hf, hfr⟩ := pu_dropc (l := dr) (i := q) (by omega)
      rw [pu_rd (by omega) (by decide), pu_bs, pu_rd (by omega) (by decide), pu_bs, (hd q f hf).1, (hd j g hg).1, hfr, sp_chg, nI_1]
      by_cases h3 : f.1 = g.1
      · rw [if_pos h3, if_pos h3, pu_rd (by omega) (by decide), pu_bs, (hd q f hf).2, ih (q + 1) _ (by omega) (by omega)]
      · rw [if_neg h3, if_neg h3, Int32.add_zero, ih (q + 1) _ (by omega) (by omega)]
theorem mo_poorL {keys legs acc amt seals ends dacc damt lim : Nat → Int32} {ct cnt : Int32} {dr : List sp_Leg} {es : List sp_Ent} (h : sp_RM keys legs acc amt seals ends ct es) (hd : sp_RD dacc damt cnt dr) : ∀ (n j : Nat) (t : Int32), t = 0 ∨ t = 1 → j ≤ dr.length → dr.length - j < n → fMo_poor_L4 ct cnt legs acc amt dacc damt lim n t (nI j) = some (if t = 0 then sp_poor lim es dr (dr.drop j) else 1) := by
  have h4 := hd.2.1
  intro n
  induction n with
  | zero => intro j t ht h1 h2; omega
  | succ n ih =>
    intro j t ht h1 h2
    rw [fMo_poor_L4]
    by_cases hj : j = dr.length
    · rw [hd.1, if_pos (nI_le (by omega) (by omega)), hj, List.drop_length, sp_poor]
      rcases ht with rfl | rfl
      · rw [pu_z0, pu_bs, if_pos rfl]
      · rw [pu_z1, pu_bs, if_neg (by decide)]
    · rw [if_neg (show ¬ cnt ≤ nI j by rw [hd.1]; exact nI_ge (by omega) (by omega))]
      obtain ⟨g, hg, hdr⟩ := pu_dropc (l := dr) (i := j) (by omega)
      have ha := (hd.2.2.2 g (List.mem_of_getElem? hg)).1
      rw [pu_rd (by omega) (by decide), pu_bs, (hd.2.2.1 j g hg).1, mo_balAll h ha, pu_bs, pu_n0, mo_poorI hd hg t 600 0 _ (by omega) (by omega), List.drop_zero, sp_chg_add, hdr, sp_poor, ← pu_n0]
      rcases ht with rfl | rfl
      · rw [if_pos rfl, if_pos rfl]
        by_cases h3 : -(lim g.1.toNatClampNeg) ≤ sp_tot g.1 1 0 es + sp_chg g.1 0 dr
        · rw [if_pos h3, if_pos h3, ih (j + 1) 0 (Or.inl rfl) (by omega) (by omega), if_pos rfl]
        · rw [if_neg h3, if_neg h3, ih (j + 1) 1 (Or.inr rfl) (by omega) (by omega), if_neg (by decide)]
      · rw [if_neg (by decide), if_neg (by decide), ih (j + 1) 1 (Or.inr rfl) (by omega) (by omega), if_neg (by decide)]
theorem mo_poor {keys legs acc amt seals ends dacc damt lim : Nat → Int32} {ct cnt : Int32} {dr : List sp_Leg} {es : List sp_Ent} (h : sp_RM keys legs acc amt seals ends ct es) (hd : sp_RD dacc damt cnt dr) : fMo_poor ct cnt legs acc amt dacc damt lim = some (sp_poor lim es dr dr) := by
  have h4 := hd.2.1
  unfold fMo_poor
  have := mo_poorL (lim := lim) h hd 600 0 0 (Or.inl rfl) (by omega) (by omega)
  rw [List.drop_zero, if_pos rfl] at this
  exact this
theorem sp_poor_congr {l1 l2 : Nat → Int32} (hl : ∀ k, k < 8 → l1 k = l2 k) (es : List sp_Ent) (dr : List sp_Leg) : ∀ l : List sp_Leg, (∀ g ∈ l, sp_acc g.1) → sp_poor l1 es dr l = sp_poor l2 es dr l := by
  intro l
  induction l with
  | nil => intro _; rfl
  | cons g r ih =>
    intro h
    obtain ⟨k, hk, ek⟩ := sp_acc_nI (h g List.mem_cons_self)
    have : g.1.toNatClampNeg = k := by rw [ek, nI_clamp (by omega)]
    rw [sp_poor, sp_poor, this, hl k hk, ih (fun x hx => h x (List.mem_cons_of_mem _ hx))]
theorem sp_poor_01 (lim : Nat → Int32) (es : List sp_Ent) (dr : List sp_Leg) : ∀ l : List sp_Leg, sp_poor lim es dr l = 0 ∨ sp_poor lim es dr l = 1 := by
  intro l
  induction l with
  | nil => exact Or.inl rfl
  | cons g r ih =>
    rw [sp_poor]
    by_cases h3 : -(lim g.1.toNatClampNeg) ≤ sp_tot g.1 1 0 es + sp_chg g.1 0 dr
    · rw [if_pos h3]; exact ih
    · rw [if_neg h3]; exact Or.inr rfl
