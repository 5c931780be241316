theorem mo_mix (a b : Int32) : fMo_mix a b = some (sp_mix a b) := rfl
theorem mo_node (a b : Int32) : fMo_node a b = some (sp_node a b) := rfl
theorem mo_acc (a : Int32) (h : sp_acc a) : fMo_isAccount a = some 1 := by
  obtain ⟨j, hj, rfl⟩ := sp_acc_nI h
  unfold fMo_isAccount
  rw [if_neg (nI_pos (by omega)), if_neg (show ¬ (7 : Int32) < nI j from nI_nlt (a := 7) (by omega) (by decide))]
theorem mo_acc0 (a : Int32) (h : ¬ sp_acc a) : fMo_isAccount a = some 0 := by
  unfold fMo_isAccount
  by_cases h1 : a < 0
  · rw [if_pos h1]
  · rw [if_neg h1]
    by_cases h2 : (7 : Int32) < a
    · rw [if_pos h2]
    · refine absurd ⟨h1, fun h3 => h2 ?_⟩ h
      rw [Int32.lt_iff_toInt_lt]
      rw [Int32.le_iff_toInt_le] at h3
      have e8 : (8 : Int32).toInt = 8 := by decide
      have e7 : (7 : Int32).toInt = 7 := by decide
      omega
def sp_ME (keys legs acc amt : Nat → Int32) (i : Nat) (e : sp_Ent) : Prop := keys i = e.1 ∧ legs i = nI e.2.length ∧ ∀ (j : Nat) (g : sp_Leg), e.2[j]? = some g → acc (4 * i + j) = g.1 ∧ amt (4 * i + j) = g.2
theorem mo_4 (i j : Nat) : (4 : Int32) * nI i + nI j = nI (4 * i + j) := by rw [pu_n4, pk_mul, nI_add]
theorem mo_leafL {keys legs acc amt : Nat → Int32} {i : Nat} {e : sp_Ent} (h : sp_ME keys legs acc amt i e) (hi : i < 76) (h4 : e.2.length ≤ 4) : ∀ (n j : Nat) (t : Int32), j ≤ e.2.length → e.2.length - j < n → fMo_leafOf_L13 keys legs acc amt (nI i) n t (nI j) = some (sp_leafL t (e.2.drop j)) := by
  intro n
  induction n with
  | zero => intro j t h1 h2; omega
  | succ n ih =>
    intro j t h1 h2
    rw [fMo_leafOf_L13, pu_rd hi (by decide), pu_bs, h.2.1]
    by_cases hj : j = e.2.length
    · rw [if_pos (nI_le (by omega) (by omega)), hj, List.drop_length]; rfl
    · rw [if_neg (nI_ge (by omega) (by omega))]
      obtain ⟨g, hg, hd⟩ := pu_dropc (l := e.2) (i := j) (by omega)
      rw [mo_4, pu_rd (by omega) (by decide), pu_bs, pu_rd (by omega) (by decide), pu_bs, mo_mix, pu_bs, (h.2.2 j g hg).1, (h.2.2 j g hg).2, nI_1, ih (j + 1) _ (by omega) (by omega), hd]; rfl
theorem mo_leafOf {keys legs acc amt : Nat → Int32} {i : Nat} {e : sp_Ent} (h : sp_ME keys legs acc amt i e) (hi : i < 76) (h4 : e.2.length ≤ 4) : fMo_leafOf keys legs acc amt (nI i) = some (sp_leaf e) := by
  unfold fMo_leafOf
  rw [pu_rd hi (by decide), pu_bs, mo_mix, pu_bs, h.1]
  have := mo_leafL h hi h4 600 0 (sp_mix 0 e.1) (by omega) (by omega)
  rw [List.drop_zero] at this
  exact this
def sp_RM (keys legs acc amt seals ends : Nat → Int32) (count : Int32) (es : List sp_Ent) : Prop :=
  sp_ok es ∧ sp_szs es ≤ 512 ∧ count = nI es.length ∧ (∀ i e, es[i]? = some e → sp_ME keys legs acc amt i e ∧ seals i = sp_seal 0 (es.take (i + 1))) ∧ ∀ i, i ≤ es.length → ends i = nI (sp_szs (es.take i))
theorem mo_sealOf {keys legs acc amt seals : Nat → Int32} {es : List sp_Ent} {e : sp_Ent} (hs : ∀ i x, es[i]? = some x → seals i = sp_seal 0 (es.take (i + 1))) (h : sp_ME keys legs acc amt es.length e) (hi : es.length < 76) (h4 : e.2.length ≤ 4) : fMo_sealOf keys legs acc amt seals (nI es.length) = some (sp_mix (sp_seal 0 es) (sp_leaf e)) := by
  unfold fMo_sealOf
  rcases pu_snoc es with rfl | ⟨a, x, rfl⟩
  · rw [if_pos (show nI ([] : List sp_Ent).length = 0 from rfl), mo_leafOf h hi h4, pu_bs, mo_mix, pu_bs]; rfl
  · rw [List.length_append, List.length_singleton] at hi h ⊢
    rw [if_neg (nI_ne0 (by omega) (by omega)), nI_pred, pu_rd (by omega) (by decide), pu_bs, mo_leafOf h hi h4, pu_bs, mo_mix, pu_bs]
    have := hs a.length x (by rw [List.getElem?_append_right (by omega), Nat.sub_self]; rfl)
    rw [this, List.take_of_length_le (by rw [List.length_append, List.length_singleton]; omega)]
theorem mo_totL {acc amt : Nat → Int32} {cnt : Int32} {dr : List sp_Leg} (h : sp_RD acc amt cnt dr) : ∀ (n j : Nat) (t : Int32), j ≤ dr.length → dr.length - j < n → fMo_total_L4 cnt amt n t (nI j) = some (sp_sum t (dr.drop j)) := by
  obtain ⟨rfl, h4, hd, -⟩ := h
  intro n
  induction n with
  | zero => intro j t h1 h2; omega
  | succ n ih =>
    intro j t h1 h2
    rw [fMo_total_L4]
    by_cases hj : j = dr.length
    · rw [if_pos (nI_le (by omega) (by omega)), hj, List.drop_length]; rfl
    · rw [if_neg (nI_ge (by omega) (by omega))]
      obtain ⟨g, hg, hdr⟩ := pu_dropc (l := dr) (i := j) (by omega)
      rw [pu_rd (by omega) (by decide), pu_bs, (hd j g hg).2, nI_1, ih (j + 1) _ (by omega) (by omega), hdr, sp_sum]
theorem mo_total {acc amt : Nat → Int32} {cnt : Int32} {dr : List sp_Leg} (h : sp_RD acc amt cnt dr) : fMo_total cnt amt = some (sp_sum 0 dr) := by
  have h4 := h.2.1
  unfold fMo_total
  have := mo_totL h 600 0 0 (by omega) (by omega)
  rw [List.drop_zero] at this
  exact this
theorem mo_findL {keys legs acc amt seals ends : Nat → Int32} {ct : Int32} {es : List sp_Ent} (h : sp_RM keys legs acc amt seals ends ct es) (key : Int32) : ∀ (n i : Nat), i ≤ es.length → es.length - i < n → fMo_find_L2 ct keys key n (nI i) = some (sp_find key i (es.drop i)) := by
  obtain ⟨hok, hz, rfl, hE, hen⟩ := h
  have h73 := sp_len es hok
  intro n
  induction n with
  | zero => intro i h1 h2; omega
  | succ n ih =>
    intro i h1 h2
    rw [fMo_find_L2]
    by_cases hi : i = es.length
    · rw [if_pos (nI_le (by omega) (by omega)), hi, List.drop_length]; rfl
    · rw [if_neg (nI_ge (by omega) (by omega))]
      obtain ⟨e, he, hd⟩ := pu_dropc (l := es) (i := i) (by omega)
      rw [pu_rd (by omega) (by decide), pu_bs, (hE i e he).1.1, hd, sp_find]
      by_cases h3 : e.1 = key
      · rw [if_pos h3, if_pos h3]
      · rw [if_neg h3, if_neg h3, nI_1, ih (i + 1) (by omega) (by omega)]
theorem mo_find {keys legs acc amt seals ends : Nat → Int32} {ct : Int32} {es : List sp_Ent} (h : sp_RM keys legs acc amt seals ends ct es) (key : Int32) : fMo_find ct keys key = some (sp_find key 0 es) := by
  have h73 := sp_len es h.1
  have hz := h.2.1
  unfold fMo_find
  have := mo_findL h key 600 0 (by omega) (by omega)
  rw [List.drop_zero] at this
  exact this
theorem mo_same0 {dacc damt legs acc amt : Nat → Int32} {cnt : Int32} {dr : List sp_Leg} (hd : sp_RD dacc damt cnt dr) (x : Int32) : ∀ (n j : Nat), j ≤ dr.length → dr.length - j < n → fMo_sameLegs_L21 cnt legs acc amt dacc damt x n 0 (nI j) = some 0 := by
  obtain ⟨rfl, h4, hd, -⟩ := hd
  intro n
  induction n with
  | zero => intro j h1 h2; omega
  | succ n ih =>
    intro j h1 h2
    rw [fMo_sameLegs_L21]
    by_cases hj : j = dr.length
    · rw [if_pos (nI_le (by omega) (by omega)), pu_z0, pu_bs]
    · rw [if_neg (nI_ge (by omega) (by omega)), if_pos rfl, nI_1, ih (j + 1) (by omega) (by omega)]
theorem mo_same1 {dacc damt keys legs acc amt : Nat → Int32} {cnt : Int32} {dr : List sp_Leg} {i : Nat} {e : sp_Ent} (hd : sp_RD dacc damt cnt dr) (h : sp_ME keys legs acc amt i e) (hi : i < 76) (hlen : e.2.length = dr.length) : ∀ (n j : Nat), j ≤ dr.length → dr.length - j < n → fMo_sameLegs_L21 cnt legs acc amt dacc damt (nI i) n 1 (nI j) = some (if e.2.drop j = dr.drop j then 1 else 0) := by
  have hd0 := hd
  obtain ⟨rfl, h4, hd, -⟩ := hd
  intro n
  induction n with
  | zero => intro j h1 h2; omega
  | succ n ih =>
    intro j h1 h2
    rw [fMo_sameLegs_L21]
    by_cases hj : j = dr.length
    · rw [if_pos (nI_le (by omega) (by omega)), pu_z1, pu_bs, List.drop_eq_nil_of_le (by omega), List.drop_eq_nil_of_le (by omega), if_pos rfl]
    · rw [if_neg (nI_ge (by omega) (by omega)), if_neg (by decide)]
      obtain ⟨g, hg, hdr⟩ := pu_dropc (l := dr) (i := j) (by omega)
      obtain ⟨f, hf, hfr⟩ := pu_dropc (l := e.2) (i := j) (by omega)
      rw [mo_4, pu_rd (by omega) (by decide), pu_bs, pu_rd (by omega) (by decide), pu_bs, (h.2.2 j f hf).1, (hd j g hg).1, hdr, hfr, nI_1]
      by_cases h3 : f.1 = g.1
      · rw [if_pos h3, pu_rd (by omega) (by decide), pu_bs, pu_rd (by omega) (by decide), pu_bs, (h.2.2 j f hf).2, (hd j g hg).2]
        by_cases h5 : f.2 = g.2
        · rw [if_pos h5, ih (j + 1) (by omega) (by omega)]
          have hfg : f = g := Prod.ext h3 h5
          subst hfg
          by_cases h6 : e.2.drop (j + 1) = dr.drop (j + 1)
          · rw [if_pos h6, if_pos (by rw [h6])]
          · rw [if_neg h6, if_neg (fun q => h6 (List.cons.inj q).2)]
        · rw [if_neg h5, mo_same0 hd0 _ n (j + 1) (by omega) (by omega), if_neg (fun q => h5 (by rw [(List.cons.inj q).1]))]
      · rw [if_neg h3, mo_same0 hd0 _ n (j + 1) (by omega) (by omega), if_neg (fun q => h3 (by rw [(List.cons.inj q).1]))]
theorem mo_same {dacc damt keys legs acc amt seals ends : Nat → Int32} {ct cnt : Int32} {dr : List sp_Leg} {es : List sp_Ent} {i : Nat} {e : sp_Ent} (h : sp_RM keys legs acc amt seals ends ct es) (hd : sp_RD dacc damt cnt dr) (he : es[i]? = some e) : fMo_sameLegs cnt legs acc amt dacc damt (nI i) = some (if e.2 = dr then 1 else 0) := by
  have h73 := sp_len es h.1
  have hz := h.2.1
  have h4 := hd.2.1
  have hi : i < es.length := (List.getElem?_eq_some_iff.mp he).1
  have hE := (h.2.2.2.1 i e he).1
  have hel := (h.1 e (List.mem_of_getElem? he)).2.1
  unfold fMo_sameLegs
  rw [pu_rd (by omega) (by decide), pu_bs, hE.2.1]
  by_cases h3 : e.2.length = dr.length
  · rw [if_pos (by rw [hd.1, h3])]
    have := mo_same1 hd hE (by omega) h3 600 0 (by omega) (by omega)
    rw [List.drop_zero, List.drop_zero] at this
    exact this
  · rw [if_neg (by rw [hd.1, nI_eq (by omega) (by omega)]; exact h3), if_neg (fun q => h3 (by rw [q]))]
    exact mo_same0 hd _ 600 0 (by omega) (by omega)
theorem sp_cnt_add (a sm : Int32) : ∀ (l : List sp_Leg) (t : Int32), sp_cnt a sm t l = t + sp_cnt a sm 0 l := by
  intro l
  induction l with
  | nil => intro t; rw [sp_cnt, sp_cnt, Int32.add_zero]
  | cons g r ih =>
    intro t
    rw [sp_cnt, sp_cnt]
    by_cases h1 : g.1 = a
    · rw [if_pos h1, if_pos h1]
      by_cases h2 : sm = 0
      · rw [if_pos h2, if_pos h2, ih (t + 1), ih (0 + 1), Int32.zero_add, Int32.add_assoc]
      · rw [if_neg h2, if_neg h2, ih (t + g.2), ih (0 + g.2), Int32.zero_add, Int32.add_assoc]
    · rw [if_neg h1, if_neg h1, ih t]
theorem mo_stI {keys legs acc amt : Nat → Int32} {i : Nat} {e : sp_Ent} {ct a to_ sm : Int32} {kk : Int32 → Int32 → Option Int32} (h : sp_ME keys legs acc amt i e) (hi : i < 76) (h4 : e.2.length ≤ 4) : ∀ (n j : Nat) (t : Int32), j ≤ e.2.length → e.2.length - j < n → fMo_statement_L42 ct legs acc amt a to_ sm (nI i) kk n t (nI (4 * i + j)) = kk (sp_cnt a sm t (e.2.drop j)) (nI (i + 1)) := by
  intro n
  induction n with
  | zero => intro j t h1 h2; omega
  | succ n ih =>
    intro j t h1 h2
    rw [fMo_statement_L42, pu_rd hi (by decide), pu_bs, h.2.1, mo_4]
    by_cases hj : j = e.2.length
    · rw [if_pos (nI_le (by omega) (by omega)), nI_1, hj, List.drop_length]; rfl
    · rw [if_neg (nI_ge (by omega) (by omega))]
      obtain ⟨g, hg, hd⟩ := pu_dropc (l := e.2) (i := j) (by omega)
      rw [pu_rd (by omega) (by decide), pu_bs, (h.2.2 j g hg).1, hd, sp_cnt, nI_1, Nat.add_assoc]
      by_cases h3 : g.1 = a
      · rw [if_pos h3, if_pos h3]
        by_cases h5 : sm = 0
        · rw [if_pos h5, if_pos h5, ih (j + 1) _ (by omega) (by omega)]
        · rw [if_neg h5, if_neg h5, pu_rd (by omega) (by decide), pu_bs, (h.2.2 j g hg).2, ih (j + 1) _ (by omega) (by omega)]
      · rw [if_neg h3, if_neg h3, Int32.add_zero, ih (j + 1) _ (by omega) (by omega)]
theorem mo_stL {keys legs acc amt seals ends : Nat → Int32} {ct a sm : Int32} {es : List sp_Ent} (h : sp_RM keys legs acc amt seals ends ct es) (ha : sp_acc a) (hi : Nat) (hh : hi < 2 ^ 31) : ∀ (n i : Nat) (t : Int32), i < 2 ^ 31 → min hi es.length - i < n → fMo_statement_L14 ct legs acc amt a (nI hi) sm n t (nI i) = some (sp_tot a sm t ((es.take hi).drop i)) := by
  obtain ⟨hok, hz, rfl, hE, hen⟩ := h
  have h73 := sp_len es hok
  intro n
  induction n with
  | zero => intro i t h1 h2; omega
  | succ n ih =>
    intro i t h1 h2
    rw [fMo_statement_L14]
    by_cases h3 : hi ≤ i
    · rw [if_pos (nI_le h3 h1), List.drop_eq_nil_of_le (by rw [List.length_take]; omega)]; rfl
    · rw [if_neg (nI_ge (by omega) hh)]
      by_cases h4 : es.length ≤ i
      · rw [if_pos (nI_le h4 h1), List.drop_eq_nil_of_le (by rw [List.length_take]; omega)]; rfl
      · rw [if_neg (nI_ge (by omega) (by omega)), mo_acc a ha, pu_bs, if_neg (by decide)]
        obtain ⟨e, he, hd⟩ := pu_dropc (l := es.take hi) (i := i) (by rw [List.length_take]; omega)
        have he2 : es[i]? = some e := by rw [List.getElem?_take] at he; simpa [show i < hi by omega] using he
        have hel := (hok e (List.mem_of_getElem? he2)).2.1
        have hq : (4 : Int32) * nI i = nI (4 * i + 0) := by rw [pu_n4, pk_mul, Nat.add_zero]
        rw [hq, mo_stI (hE i e he2).1 (by omega) hel 600 0 t (by omega) (by omega), List.drop_zero, ih (i + 1) _ (by omega) (by omega), hd, sp_tot, sp_cnt_add]
