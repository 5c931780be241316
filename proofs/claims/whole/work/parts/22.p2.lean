theorem pu_split {α : Type} {l : List α} {i : Nat} {e : α} (h : l[i]? = some e) : l = l.take i ++ e :: l.drop (i + 1) := by
  obtain ⟨hlt, rfl⟩ := List.getElem?_eq_some_iff.mp h
  rw [← List.drop_eq_getElem_cons hlt, List.take_append_drop]
theorem pu_dropc {α : Type} {l : List α} {i : Nat} (h : i < l.length) : ∃ e, l[i]? = some e ∧ l.drop i = e :: l.drop (i + 1) := by
  exact ⟨l[i], List.getElem?_eq_getElem h, List.drop_eq_getElem_cons h⟩
theorem pu_mix (a b : Int32) : fSl_mix a b = some (sp_mix a b) := rfl
theorem pu_node (a b : Int32) : fSl_node a b = some (sp_node a b) := rfl
theorem pu_acc (a : Int32) (h : sp_acc a) : fSl_isAccount a = some 1 := by
  unfold fSl_isAccount; rw [if_neg h.1, if_neg h.2]
theorem pu_acc0 (a : Int32) (h : ¬ sp_acc a) : fSl_isAccount a = some 0 := by
  unfold fSl_isAccount
  by_cases h1 : a < 0
  · rw [if_pos h1]
  · rw [if_neg h1]
    by_cases h2 : (8 : Int32) ≤ a
    · rw [if_pos h2]
    · exact absurd ⟨h1, h2⟩ h
theorem pu_amt (a : Int32) (h : sp_amt a) : fSl_isAmount a = some 1 := by
  unfold fSl_isAmount; rw [if_neg h.1, if_neg h.2]
theorem pu_amt0 (a : Int32) (h : ¬ sp_amt a) : fSl_isAmount a = some 0 := by
  unfold fSl_isAmount
  by_cases h1 : a < (-9999 : Int32)
  · rw [if_pos h1]
  · rw [if_neg h1]
    by_cases h2 : (9999 : Int32) < a
    · rw [if_pos h2]
    · exact absurd ⟨h1, h2⟩ h
theorem sp_acc_nI {a : Int32} (h : sp_acc a) : ∃ j : Nat, j < 8 ∧ a = nI j := by
  obtain ⟨j, hj, rfl⟩ := nI_of h.1
  refine ⟨j, ?_, rfl⟩
  have := h.2
  rw [pu_n8, nI_leI (by omega) hj] at this
  omega
theorem pu_ec (n : Nat) : fSl_entryCells (nI n) = some (nI (3 + 2 * n)) := by
  unfold fSl_entryCells
  rw [pu_n3, pu_n2, pk_mul, nI_add]
theorem pu_acell (st j : Nat) : fLg_accountCell (nI st) (nI j) = some (nI (st + 2 + 2 * j)) := by
  unfold fLg_accountCell
  rw [pu_n2, pk_mul, nI_add, nI_add]
theorem pu_mcell (st j : Nat) : fLg_amountCell (nI st) (nI j) = some (nI (st + 3 + 2 * j)) := by
  unfold fLg_amountCell
  rw [pu_n2, pu_n3, pk_mul, nI_add, nI_add]
theorem pu_leafL {c : Nat → Int32} {st : Nat} {e : sp_Ent} (hA : sp_At c st e) (hs : st + sp_sz e ≤ 512) : ∀ (n j : Nat) (h : Int32), j ≤ e.2.length → e.2.length - j < n → fLg_leafFrom_L15 c (nI st) n h (nI j) = some (sp_leafL h (e.2.drop j)) := by
  unfold sp_sz at hs
  intro n
  induction n with
  | zero => intro j h h1 h2; omega
  | succ n ih =>
    intro j h h1 h2
    rw [fLg_leafFrom_L15, pu_rd (by omega) (by decide), pu_bs, hA.1]
    by_cases hj : j = e.2.length
    · rw [if_pos (nI_le (by omega) (by omega)), hj, List.drop_length]; rfl
    · rw [if_neg (nI_ge (by omega) (by omega))]
      obtain ⟨g, hg, hd⟩ := pu_dropc (l := e.2) (i := j) (by omega)
      rw [pu_mcell, pu_bs, pu_rd (by omega) (by decide), pu_bs, pu_acell, pu_bs, pu_rd (by omega) (by decide), pu_bs, pu_mix, pu_bs, (hA.2.2 j g hg).1, (hA.2.2 j g hg).2, nI_1, ih (j + 1) _ (by omega) (by omega), hd]; rfl
theorem pu_leaf {c : Nat → Int32} {st : Nat} {e : sp_Ent} (hA : sp_At c st e) (hs : st + sp_sz e ≤ 512) (hl : e.2.length ≤ 4) : fLg_leafFrom c (nI st) = some (sp_leaf e) := by
  have hs' := hs
  unfold sp_sz at hs'
  unfold fLg_leafFrom
  rw [nI_1, pu_rd (by omega) (by decide), pu_bs, pu_mix, pu_bs, hA.2.1, pu_n0, pu_leafL hA hs 600 0 _ (by omega) (by omega)]; rfl
def sp_cnt (a sm : Int32) : Int32 → List sp_Leg → Int32
  | t, [] => t
  | t, g :: r => sp_cnt a sm (if g.1 = a then (if sm = 0 then t + 1 else t + g.2) else t) r
theorem pu_cntL {c : Nat → Int32} {st : Nat} {e : sp_Ent} (hA : sp_At c st e) (hs : st + sp_sz e ≤ 512) (a sm : Int32) : ∀ (n j : Nat) (t : Int32), j ≤ e.2.length → e.2.length - j < n → fLg_totalAt_L6 c (nI st) a sm n t (nI j) = some (sp_cnt a sm t (e.2.drop j)) := by
  unfold sp_sz at hs
  intro n
  induction n with
  | zero => intro j h h1 h2; omega
  | succ n ih =>
    intro j t h1 h2
    rw [fLg_totalAt_L6, pu_rd (by omega) (by decide), pu_bs, hA.1]
    by_cases hj : j = e.2.length
    · rw [if_pos (nI_le (by omega) (by omega)), hj, List.drop_length]; rfl
    · rw [if_neg (nI_ge (by omega) (by omega))]
      obtain ⟨g, hg, hd⟩ := pu_dropc (l := e.2) (i := j) (by omega)
      rw [pu_acell, pu_bs, pu_rd (by omega) (by decide), pu_bs, (hA.2.2 j g hg).1, hd, sp_cnt]
      by_cases h3 : g.1 = a
      · rw [if_pos h3, if_pos h3]
        by_cases h4 : sm = 0
        · rw [if_pos h4, if_pos h4, nI_1, ih (j + 1) _ (by omega) (by omega)]
        · rw [if_neg h4, if_neg h4, pu_mcell, pu_bs, pu_rd (by omega) (by decide), pu_bs, (hA.2.2 j g hg).2, nI_1, ih (j + 1) _ (by omega) (by omega)]
      · rw [if_neg h3, if_neg h3, nI_1, ih (j + 1) _ (by omega) (by omega)]
theorem pu_cnt {c : Nat → Int32} {st : Nat} {e : sp_Ent} (hA : sp_At c st e) (hs : st + sp_sz e ≤ 512) (hl : e.2.length ≤ 4) (a sm : Int32) : fLg_totalAt c (nI st) a sm = some (sp_cnt a sm 0 e.2) := by
  unfold fLg_totalAt
  have := pu_cntL hA hs a sm 600 0 0 (by omega) (by omega)
  rw [List.drop_zero] at this
  exact this
theorem pu_scell {c : Nat → Int32} {st : Nat} {e : sp_Ent} (hA : c st = nI e.2.length) (hs : st + sp_sz e ≤ 512) : fLg_sealCell c (nI st) = some (nI (st + (2 + 2 * e.2.length))) := by
  unfold sp_sz at hs
  unfold fLg_sealCell
  rw [pu_rd (by omega) (by decide), pu_bs, hA, pu_ec, pu_bs, pu_n1, nI_add, pk_sub (by omega)]
  exact congrArg (fun x => some (nI x)) (by omega)
def sp_RL (cells starts leaves : Nat → Int32) (count end_ sc se : Int32) (es : List sp_Ent) (syn : Nat) : Prop :=
  sp_ok es ∧ sp_szs es ≤ 512 ∧ syn ≤ es.length ∧ count = nI es.length ∧ end_ = nI (sp_szs es) ∧ sc = nI syn ∧ se = nI (sp_szs (es.take syn)) ∧ (∀ k, k < 512 → cells k = sp_img es k) ∧ (∀ i, i < es.length → starts i = nI (sp_szs (es.take i))) ∧ ∀ i e, es[i]? = some e → leaves i = sp_leaf e
theorem pu_take {es : List sp_Ent} {i : Nat} {e : sp_Ent} (h : es[i]? = some e) : sp_szs (es.take i) + sp_sz e + sp_szs (es.drop (i + 1)) = sp_szs es := by
  have h1 := congrArg sp_szs (pu_split h)
  rw [sp_szs_app, sp_szs] at h1
  omega
theorem pu_AtI {c : Nat → Int32} {es : List sp_Ent} (hc : ∀ k, k < 512 → c k = sp_img es k) (hz : sp_szs es ≤ 512) {i : Nat} {e : sp_Ent} (h : es[i]? = some e) : sp_At c (sp_szs (es.take i)) e ∧ sp_szs (es.take i) + sp_sz e ≤ 512 := by
  have h2 := pu_take h
  refine ⟨?_, by omega⟩
  have h1 := sp_img_At (es.take i) (es.drop (i + 1)) e
  rw [← pu_split h] at h1
  exact h1.congr (fun k _ hk => hc k (by omega))
def sp_find (key : Int32) : Nat → List sp_Ent → Int32
  | _, [] => -1
  | i, e :: r => if e.1 = key then nI i else sp_find key (i + 1) r
theorem pu_findL {c st lv : Nat → Int32} {es : List sp_Ent} {syn : Nat} {ct en sc se : Int32} (h : sp_RL c st lv ct en sc se es syn) (key : Int32) : ∀ (n i : Nat), i ≤ es.length → es.length - i < n → fLg_firstWith_L2 ct c st key n (nI i) = some (sp_find key i (es.drop i)) := by
  obtain ⟨hok, hz, hsy, rfl, rfl, rfl, rfl, hc, hst, hlf⟩ := h
  have h73 := sp_len es hok
  intro n
  induction n with
  | zero => intro i h1 h2; omega
  | succ n ih =>
    intro i h1 h2
    rw [fLg_firstWith_L2]
    by_cases hi : i = es.length
    · rw [if_pos (nI_le (by omega) (by omega)), hi, List.drop_length]; rfl
    · rw [if_neg (nI_ge (by omega) (by omega))]
      obtain ⟨e, he, hd⟩ := pu_dropc (l := es) (i := i) (by omega)
      obtain ⟨hA, hA2⟩ := pu_AtI hc hz he
      unfold sp_sz at hA2
      rw [pu_rd (by omega) (by decide), pu_bs, hst i (by omega), nI_1, pu_rd (by omega) (by decide), pu_bs, hA.2.1, hd, sp_find]
      by_cases h3 : e.1 = key
      · rw [if_pos h3, if_pos h3]
      · rw [if_neg h3, if_neg h3, nI_1, ih (i + 1) (by omega) (by omega)]
theorem pu_find {c st lv : Nat → Int32} {es : List sp_Ent} {syn : Nat} {ct en sc se : Int32} (h : sp_RL c st lv ct en sc se es syn) (key : Int32) : fLg_firstWith ct c st key = some (sp_find key 0 es) := by
  have h73 := sp_len es h.1
  have hz := h.2.1
  unfold fLg_firstWith
  have := pu_findL h key 600 0 (by omega) (by omega)
  rw [List.drop_zero] at this
  exact this
def sp_tot (a sm : Int32) : Int32 → List sp_Ent → Int32
  | t, [] => t
  | t, e :: r => sp_tot a sm (t + sp_cnt a sm 0 e.2) r
theorem pu_totL {c st lv : Nat → Int32} {es : List sp_Ent} {syn : Nat} {ct en sc se : Int32} (h : sp_RL c st lv ct en sc se es syn) (a sm : Int32) (hi : Nat) (hh : hi ≤ es.length) : ∀ (n i : Nat) (t : Int32), i ≤ hi → hi - i < n → fLg_total_L20 ct c st a sm (nI hi) n t (nI i) = some (sp_tot a sm t ((es.take hi).drop i)) := by
  obtain ⟨hok, hz, hsy, rfl, rfl, rfl, rfl, hc, hst, hlf⟩ := h
  have h73 := sp_len es hok
  have hl : (es.take hi).length = hi := by rw [List.length_take]; omega
  intro n
  induction n with
  | zero => intro i t h1 h2; omega
  | succ n ih =>
    intro i t h1 h2
    rw [fLg_total_L20]
    by_cases hi2 : i = hi
    · rw [if_pos (nI_le (by omega) (by omega)), List.drop_eq_nil_of_le (by omega)]; rfl
    · rw [if_neg (nI_ge (by omega) (by omega))]
      obtain ⟨e, he, hd⟩ := pu_dropc (l := es.take hi) (i := i) (by omega)
      have he2 : es[i]? = some e := by rw [List.getElem?_take] at he; simpa [show i < hi by omega] using he
      obtain ⟨hA, hA2⟩ := pu_AtI hc hz he2
      have hm : e ∈ es := List.mem_of_getElem? he2
      rw [pu_rd (by omega) (by decide), pu_bs, hst i (by omega), pu_cnt hA hA2 (hok e hm).2.1, pu_bs, nI_1, ih (i + 1) _ (by omega) (by omega), hd, sp_tot]
def sp_row (es : List sp_Ent) (from_ to_ : Int32) : List sp_Ent := (es.take (hw_min to_ (nI es.length)).toNatClampNeg).drop (hw_max from_ 0).toNatClampNeg
theorem pu_max0 (x : Int32) : ∃ j : Nat, j < 2 ^ 31 ∧ hw_max x 0 = nI j := by
  unfold hw_max
  by_cases h : x < 0
  · rw [if_pos h]; exact ⟨0, by decide, rfl⟩
  · rw [if_neg h]; exact nI_of h
theorem pu_total {c st lv : Nat → Int32} {es : List sp_Ent} {syn : Nat} {ct en sc se : Int32} (h : sp_RL c st lv ct en sc se es syn) (a fr to_ sm : Int32) : fLg_total ct c st a fr to_ sm = some (sp_tot a sm 0 (sp_row es fr to_)) := by
  have h73 := sp_len es h.1
  have hz := h.2.1
  have hct := h.2.2.2.1
  obtain ⟨j, hj, ej⟩ := pu_max0 fr
  unfold fLg_total sp_row
  rw [ej, hct, nI_clamp hj]
  by_cases hn : hw_min to_ (nI es.length) < 0
  · rw [fLg_total_L20, if_pos]
    · have : (hw_min to_ (nI es.length)).toNatClampNeg = 0 := by
        have h1 := Int32.lt_iff_toInt_lt.mp hn
        have h0 : (0 : Int32).toInt = 0 := by decide
        show (hw_min to_ (nI es.length)).toInt.toNat = 0
        omega
      rw [this]; simp [sp_tot]
    · have h1 := Int32.lt_iff_toInt_lt.mp hn
      have h0 : (0 : Int32).toInt = 0 := by decide
      rw [Int32.le_iff_toInt_le, nI_toInt hj]
      omega
  · obtain ⟨k, hk, ek⟩ := nI_of hn
    have hk2 : k ≤ es.length := by
      have : hw_min to_ (nI es.length) ≤ nI es.length := by
        unfold hw_min
        by_cases hq : nI es.length < to_
        · rw [if_pos hq]; exact nI_le (by omega) (by omega)
        · rw [if_neg hq]
          rw [Int32.lt_iff_toInt_lt] at hq
          rw [Int32.le_iff_toInt_le]; omega
      rw [ek, nI_leI hk (by omega)] at this
      exact this
    rw [ek, nI_clamp hk]
    by_cases hjk : j ≤ k
    · exact pu_totL (hct ▸ h) a sm k hk2 600 j 0 hjk (by omega)
    · rw [fLg_total_L20, if_pos (nI_le (by omega) (by omega)), List.drop_eq_nil_of_le (by rw [List.length_take]; omega)]; rfl
theorem pu_leafOf {c st lv : Nat → Int32} {es : List sp_Ent} {syn : Nat} {ct en sc se : Int32} (h : sp_RL c st lv ct en sc se es syn) (i : Nat) (e : sp_Ent) (he : es[i]? = some e) : fLg_leafOf ct lv (nI i) = some (sp_leaf e) := by
  have h73 := sp_len es h.1
  have hz := h.2.1
  have hi : i < es.length := (List.getElem?_eq_some_iff.mp he).1
  unfold fLg_leafOf
  rw [if_neg (nI_pos (by omega)), h.2.2.2.1, if_neg (nI_ge hi (by omega)), pu_rd (by omega) (by decide), pu_bs, h.2.2.2.2.2.2.2.2.2 i e he]
theorem pu_leafOf0 {c st lv : Nat → Int32} {es : List sp_Ent} {syn : Nat} {ct en sc se : Int32} (h : sp_RL c st lv ct en sc se es syn) (k : Int32) (hk : k < 0 ∨ nI es.length ≤ k) : fLg_leafOf ct lv k = some 0 := by
  unfold fLg_leafOf
  rw [h.2.2.2.1]
  by_cases h0 : k < 0
  · rw [if_pos h0]
  · rw [if_neg h0, if_pos (hk.resolve_left h0)]
