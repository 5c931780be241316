theorem pu_snoc {α : Type} : ∀ l : List α, l = [] ∨ ∃ a e, l = a ++ [e] := by
  intro l
  induction l with
  | nil => exact Or.inl rfl
  | cons x r ih =>
    rcases ih with rfl | ⟨a, e, rfl⟩
    · exact Or.inr ⟨[], x, rfl⟩
    · exact Or.inr ⟨x :: a, e, rfl⟩
def sp_RD (acc amt : Nat → Int32) (cnt : Int32) (dr : List sp_Leg) : Prop := cnt = nI dr.length ∧ dr.length ≤ 4 ∧ (∀ j g, dr[j]? = some g → acc j = g.1 ∧ amt j = g.2) ∧ ∀ g ∈ dr, sp_acc g.1 ∧ sp_amt g.2
theorem pu_evenL {acc amt : Nat → Int32} {cnt : Int32} {dr : List sp_Leg} (h : sp_RD acc amt cnt dr) : ∀ (n j : Nat) (t : Int32), j ≤ dr.length → dr.length - j < n → fDr_isEven_L4 cnt amt n t (nI j) = some (if dr.length < 2 then 0 else if sp_sum t (dr.drop j) = 0 then 1 else 0) := by
  obtain ⟨rfl, h4, hd, -⟩ := h
  intro n
  induction n with
  | zero => intro j t h1 h2; omega
  | succ n ih =>
    intro j t h1 h2
    rw [fDr_isEven_L4]
    by_cases hj : j = dr.length
    · rw [if_pos (nI_le (by omega) (by omega)), hj, List.drop_length]
      by_cases h2 : dr.length < 2
      · rw [if_pos (show nI dr.length < 2 from nI_lt (b := 2) h2 (by decide)), if_pos h2]
      · rw [if_neg (show ¬ nI dr.length < 2 from nI_nlt (b := 2) (by omega) (by omega)), if_neg h2, show sp_sum t [] = t from rfl]
        by_cases h3 : t = 0
        · rw [if_pos h3, if_pos h3]
        · rw [if_neg h3, if_neg h3]
    · rw [if_neg (nI_ge (by omega) (by omega))]
      obtain ⟨g, hg, hdr⟩ := pu_dropc (l := dr) (i := j) (by omega)
      rw [pu_rd (by omega) (by decide), pu_bs, (hd j g hg).2, nI_1, ih (j + 1) _ (by omega) (by omega), hdr, sp_sum]
theorem pu_even {acc amt : Nat → Int32} {cnt : Int32} {dr : List sp_Leg} (h : sp_RD acc amt cnt dr) : fDr_isEven cnt amt = some (if dr.length < 2 then 0 else if sp_sum 0 dr = 0 then 1 else 0) := by
  have h4 := h.2.1
  unfold fDr_isEven
  have := pu_evenL h 600 0 0 (by omega) (by omega)
  rw [List.drop_zero] at this
  exact this
def sp_chg (a : Int32) : Int32 → List sp_Leg → Int32
  | t, [] => t
  | t, g :: r => sp_chg a (if g.1 = a then t + g.2 else t) r
theorem pu_chgL {acc amt : Nat → Int32} {cnt : Int32} {dr : List sp_Leg} (h : sp_RD acc amt cnt dr) (a : Int32) : ∀ (n j : Nat) (t : Int32), j ≤ dr.length → dr.length - j < n → fDr_change_L4 cnt acc amt a n t (nI j) = some (sp_chg a t (dr.drop j)) := by
  obtain ⟨rfl, h4, hd, -⟩ := h
  intro n
  induction n with
  | zero => intro j t h1 h2; omega
  | succ n ih =>
    intro j t h1 h2
    rw [fDr_change_L4]
    by_cases hj : j = dr.length
    · rw [if_pos (nI_le (by omega) (by omega)), hj, List.drop_length]; rfl
    · rw [if_neg (nI_ge (by omega) (by omega))]
      obtain ⟨g, hg, hdr⟩ := pu_dropc (l := dr) (i := j) (by omega)
      rw [pu_rd (by omega) (by decide), pu_bs, (hd j g hg).1, hdr, sp_chg]
      by_cases h3 : g.1 = a
      · rw [if_pos h3, if_pos h3, pu_rd (by omega) (by decide), pu_bs, (hd j g hg).2, nI_1, ih (j + 1) _ (by omega) (by omega)]
      · rw [if_neg h3, if_neg h3, nI_1, ih (j + 1) _ (by omega) (by omega)]
theorem pu_chg {acc amt : Nat → Int32} {cnt : Int32} {dr : List sp_Leg} (h : sp_RD acc amt cnt dr) (a : Int32) : fDr_change cnt acc amt a = some (sp_chg a 0 dr) := by
  have h4 := h.2.1
  unfold fDr_change
  have := pu_chgL h a 600 0 0 (by omega) (by omega)
  rw [List.drop_zero] at this
  exact this
theorem pu_accAt {acc amt : Nat → Int32} {cnt : Int32} {dr : List sp_Leg} (h : sp_RD acc amt cnt dr) {j : Nat} {g : sp_Leg} (hg : dr[j]? = some g) : fDr_accountAt cnt acc (nI j) = some g.1 := by
  obtain ⟨rfl, h4, hd, -⟩ := h
  have hj : j < dr.length := (List.getElem?_eq_some_iff.mp hg).1
  unfold fDr_accountAt
  rw [if_neg (nI_pos (by omega)), if_neg (nI_ge hj (by omega)), pu_rd (by omega) (by decide), pu_bs, (hd j g hg).1]
theorem pu_amtAt {acc amt : Nat → Int32} {cnt : Int32} {dr : List sp_Leg} (h : sp_RD acc amt cnt dr) {j : Nat} {g : sp_Leg} (hg : dr[j]? = some g) : fDr_amountAt cnt amt (nI j) = some g.2 := by
  obtain ⟨rfl, h4, hd, -⟩ := h
  have hj : j < dr.length := (List.getElem?_eq_some_iff.mp hg).1
  unfold fDr_amountAt
  rw [if_neg (nI_pos (by omega)), if_neg (nI_ge hj (by omega)), pu_rd (by omega) (by decide), pu_bs, (hd j g hg).2]
def sp_poor (lim : Nat → Int32) (es : List sp_Ent) (dr : List sp_Leg) : List sp_Leg → Int32
  | [] => 0
  | g :: r => if -(lim g.1.toNatClampNeg) ≤ sp_tot g.1 1 0 es + sp_chg g.1 0 dr then sp_poor lim es dr r else 1
theorem sp_row_all (es : List sp_Ent) (h : es.length < 2 ^ 31) : sp_row es 0 (nI es.length) = es := by
  unfold sp_row
  have h1 : hw_min (nI es.length) (nI es.length) = nI es.length := by unfold hw_min; rw [if_neg (nI_nlt (by omega) h)]
  have h2 : hw_max 0 0 = 0 := rfl
  rw [h1, nI_clamp h, h2, List.take_length]; rfl
theorem pu_poorL {lim c st lv acc amt : Nat → Int32} {es : List sp_Ent} {dr : List sp_Leg} {syn : Nat} {ct en sc se cnt : Int32} (h : sp_RL c st lv ct en sc se es syn) (hd : sp_RD acc amt cnt dr) : ∀ (n j : Nat), j ≤ dr.length → dr.length - j < n → fSl_isPoor_L2 lim cnt acc amt ct c st n (nI j) = some (sp_poor lim es dr (dr.drop j)) := by
  have h4 := hd.2.1
  have hct := h.2.2.2.1
  have h73 := sp_len es h.1
  have hz := h.2.1
  intro n
  induction n with
  | zero => intro j h1 h2; omega
  | succ n ih =>
    intro j h1 h2
    rw [fSl_isPoor_L2, show fDr_size cnt = some cnt from rfl, pu_bs, hd.1]
    by_cases hj : j = dr.length
    · rw [if_pos (nI_le (by omega) (by omega)), hj, List.drop_length]; rfl
    · rw [if_neg (nI_ge (by omega) (by omega)), ← hd.1]
      obtain ⟨g, hg, hdr⟩ := pu_dropc (l := dr) (i := j) (by omega)
      have hm : g ∈ dr := List.mem_of_getElem? hg
      obtain ⟨k, hk, ek⟩ := sp_acc_nI (hd.2.2.2 g hm).1
      have hrd : hw_rd 8 lim g.1 = some (lim g.1.toNatClampNeg) := by rw [ek, pu_rd hk (by decide), nI_clamp (by omega)]
      rw [pu_accAt hd hg, pu_bs, show fLg_size ct = some ct from rfl, pu_bs, pu_total h, pu_bs, pu_chg hd, pu_bs, hrd, pu_bs, hct, sp_row_all es (by omega), hdr, sp_poor, ← hct, nI_1]
      by_cases h3 : -(lim g.1.toNatClampNeg) ≤ sp_tot g.1 1 0 es + sp_chg g.1 0 dr
      · rw [if_pos h3, if_pos h3, ih (j + 1) (by omega) (by omega)]
      · rw [if_neg h3, if_neg h3]
theorem pu_poor {lim c st lv acc amt : Nat → Int32} {es : List sp_Ent} {dr : List sp_Leg} {syn : Nat} {ct en sc se cnt : Int32} (h : sp_RL c st lv ct en sc se es syn) (hd : sp_RD acc amt cnt dr) : fSl_isPoor lim cnt acc amt ct c st = some (sp_poor lim es dr dr) := by
  have h4 := hd.2.1
  unfold fSl_isPoor
  have := pu_poorL (lim := lim) h hd 600 0 (by omega) (by omega)
  rw [List.drop_zero] at this
  exact this
theorem pu_legsL {c st acc amt : Nat → Int32} {e : sp_Ent} {dr : List sp_Leg} {s0 : Nat} {ct cnt : Int32} (hA : sp_At c s0 e) (hs : s0 + sp_sz e ≤ 512) (hd : sp_RD acc amt cnt dr) (hlen : e.2.length = dr.length) : ∀ (n j : Nat), j ≤ dr.length → dr.length - j < n → fLg_hasLegsOf_L42 ct c st cnt acc amt (nI s0) n (nI j) = some (if e.2.drop j = dr.drop j then 1 else 0) := by
  unfold sp_sz at hs
  have h4 := hd.2.1
  intro n
  induction n with
  | zero => intro j h1 h2; omega
  | succ n ih =>
    intro j h1 h2
    rw [fLg_hasLegsOf_L42, show fDr_size cnt = some cnt from rfl, pu_bs, hd.1]
    by_cases hj : j = dr.length
    · rw [if_pos (nI_le (by omega) (by omega)), List.drop_eq_nil_of_le (by omega), List.drop_eq_nil_of_le (by omega), if_pos rfl]
    · rw [if_neg (nI_ge (by omega) (by omega)), ← hd.1]
      obtain ⟨g, hg, hdr⟩ := pu_dropc (l := dr) (i := j) (by omega)
      obtain ⟨f, hf, hfr⟩ := pu_dropc (l := e.2) (i := j) (by omega)
      rw [pu_acell, pu_bs, pu_rd (by omega) (by decide), pu_bs, pu_accAt hd hg, pu_bs, (hA.2.2 j f hf).1, hdr, hfr]
      by_cases h3 : f.1 = g.1
      · rw [if_pos h3, pu_mcell, pu_bs, pu_rd (by omega) (by decide), pu_bs, pu_amtAt hd hg, pu_bs, (hA.2.2 j f hf).2]
        by_cases h5 : f.2 = g.2
        · rw [if_pos h5, nI_1, ih (j + 1) (by omega) (by omega)]
          have hfg : f = g := Prod.ext h3 h5
          subst hfg
          by_cases h6 : e.2.drop (j + 1) = dr.drop (j + 1)
          · rw [if_pos h6, if_pos (by rw [h6])]
          · rw [if_neg h6, if_neg (fun q => h6 (List.cons.inj q).2)]
        · rw [if_neg h5, if_neg (fun q => h5 (by rw [(List.cons.inj q).1]))]
      · rw [if_neg h3, if_neg (fun q => h3 (by rw [(List.cons.inj q).1]))]
theorem pu_legs {c st lv acc amt : Nat → Int32} {es : List sp_Ent} {dr : List sp_Leg} {syn i : Nat} {ct en sc se cnt : Int32} {e : sp_Ent} (h : sp_RL c st lv ct en sc se es syn) (hd : sp_RD acc amt cnt dr) (he : es[i]? = some e) : fLg_hasLegsOf ct c st cnt acc amt (nI i) = some (if e.2 = dr then 1 else 0) := by
  have h4 := hd.2.1
  have hct := h.2.2.2.1
  have h73 := sp_len es h.1
  have hz := h.2.1
  have hi : i < es.length := (List.getElem?_eq_some_iff.mp he).1
  obtain ⟨hA, hA2⟩ := pu_AtI h.2.2.2.2.2.2.2.1 hz he
  have hst := h.2.2.2.2.2.2.2.2.1 i hi
  have hA3 := hA2
  unfold sp_sz at hA3
  have hel := (h.1 e (List.mem_of_getElem? he)).2.1
  unfold fLg_hasLegsOf
  rw [if_neg (nI_pos (by omega)), hct, if_neg (nI_ge hi (by omega)), ← hct, pu_rd (by omega) (by decide), pu_bs, hst, pu_rd (by omega) (by decide), pu_bs, show fDr_size cnt = some cnt from rfl, pu_bs, hA.1]
  by_cases h3 : e.2.length = dr.length
  · rw [hd.1, if_pos (by rw [h3]), ← hd.1, pu_bs]
    have := pu_legsL (st := st) (ct := ct) hA hA2 hd h3 600 0 (by omega) (by omega)
    rw [List.drop_zero, List.drop_zero] at this
    exact this
  · rw [hd.1, if_neg (by rw [nI_eq (by omega) (by omega)]; exact h3), if_neg (fun q => h3 (by rw [q]))]
