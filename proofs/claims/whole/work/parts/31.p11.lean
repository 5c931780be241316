theorem sp_take1 {es : List sp_Ent} {i : Nat} {e : sp_Ent} (he : es[i]? = some e) : es.take (i + 1) = es.take i ++ [e] := by
  rw [List.take_succ, he]; rfl
theorem sp_szs1 {es : List sp_Ent} {i : Nat} {e : sp_Ent} (he : es[i]? = some e) : sp_szs (es.take (i + 1)) = sp_szs (es.take i) + sp_sz e := by
  rw [sp_take1 he, sp_szs_app]; simp [sp_szs]
theorem sp_seal1 {es : List sp_Ent} {i : Nat} {e : sp_Ent} (he : es[i]? = some e) : sp_seal 0 (es.take (i + 1)) = sp_mix (sp_seal 0 (es.take i)) (sp_leaf e) := by
  rw [sp_take1 he, sp_seal_app]; rfl
theorem mo_imgAt {es : List sp_Ent} {i t : Nat} {e : sp_Ent} (he : es[i]? = some e) (ht : t < sp_sz e) : sp_img es (sp_szs (es.take i) + t) = (sp_encE (sp_seal 0 (es.take i)) e)[t]?.getD 0 := by
  have h1 := sp_img_at (es.take i) (es.drop (i + 1)) e t ht
  rw [← pu_split he] at h1
  exact h1
theorem mo_logL {keys legs acc amt seals ends : Nat → Int32} {ct : Int32} {es : List sp_Ent} (h : sp_RM keys legs acc amt seals ends ct es) (p : Nat) (hp : p < sp_szs es) : ∀ (n i : Nat), i < es.length → es.length - i < n → sp_szs (es.take i) ≤ p → fMo_logged_L17 ct keys legs acc amt seals ends (nI p) n (nI i) = some (sp_img es p) := by
  obtain ⟨hok, hz, rfl, hE, hen⟩ := h
  have h73 := sp_len es hok
  intro n
  induction n with
  | zero => intro i h1 h2; omega
  | succ n ih =>
    intro i h1 h2 h3
    obtain ⟨e, he, -⟩ := pu_dropc (l := es) (i := i) h1
    have hs1 := sp_szs1 he
    rw [fMo_logged_L17, nI_1, pu_rd (by omega) (by decide), pu_bs, hen (i + 1) (by omega)]
    have hb : sp_szs (es.take (i + 1)) ≤ 512 := by have := pu_take he; omega
    by_cases h4 : p < sp_szs (es.take (i + 1))
    · rw [if_pos (nI_lt h4 (by omega)), pu_rd (by omega) (by decide), pu_bs, hen i (by omega), pk_sub h3]
      obtain ⟨t, ht⟩ : ∃ t, p = sp_szs (es.take i) + t := ⟨p - sp_szs (es.take i), by omega⟩
      have htz : t < sp_sz e := by omega
      have hE1 := (hE i e he).1
      have hE2 := (hE i e he).2
      rw [sp_seal1 he] at hE2
      have hel := (hok e (List.mem_of_getElem? he)).2.1
      have himg := mo_imgAt he htz
      rw [← ht] at himg
      rw [himg, show p - sp_szs (es.take i) = t by omega]
      have hsz : sp_sz e = 3 + 2 * e.2.length := rfl
      by_cases t0 : t = 0
      · subst t0
        rw [if_pos (show nI 0 = 0 from rfl), pu_rd (by omega) (by decide), pu_bs, hE1.2.1]; rfl
      rw [if_neg (nI_ne0 (by omega) (by omega))]
      by_cases t1 : t = 1
      · subst t1
        rw [if_pos (show nI 1 = 1 from rfl), pu_rd (by omega) (by decide), pu_bs, hE1.1]; rfl
      rw [if_neg (show ¬ nI t = 1 by rw [pu_n1, nI_eq (by omega) (by omega)]; exact t1), pu_rd (by omega) (by decide), pu_bs, hE1.2.1, pu_n2, pk_mul, nI_add]
      by_cases t2 : t = 2 + 2 * e.2.length
      · rw [if_pos (by rw [t2]), pu_rd (by omega) (by decide), pu_bs, hE2, t2, sp_encE_seal]; rfl
      rw [if_neg (by rw [nI_eq (by omega) (by omega)]; exact t2), pk_rem (by omega) (by decide) (by decide), pk_sub (by omega), pk_div (by omega) (by decide) (by decide), mo_4]
      obtain ⟨g, hg, -⟩ := pu_dropc (l := e.2) (i := (t - 2) / 2) (by omega)
      obtain ⟨e1, e2⟩ := sp_encE_leg (sp_seal 0 (es.take i)) e _ g hg
      obtain ⟨a1, a2⟩ := hE1.2.2 _ g hg
      by_cases t3 : t % 2 = 0
      · rw [if_pos (by rw [t3]; rfl), pu_rd (by omega) (by decide), pu_bs, a1]
        rw [show 2 + 2 * ((t - 2) / 2) = t by omega] at e1
        rw [e1]; rfl
      · rw [if_neg (nI_ne0 (by omega) (by omega)), pu_rd (by omega) (by decide), pu_bs, a2]
        rw [show 3 + 2 * ((t - 2) / 2) = t by omega] at e2
        rw [e2]; rfl
    · rw [if_neg (nI_nlt (by omega) (by omega))]
      have h5 : i + 1 < es.length := by
        rcases Nat.lt_or_ge (i + 1) es.length with h5 | h5
        · exact h5
        · rw [List.take_of_length_le h5] at h4; omega
      exact ih (i + 1) h5 (by omega) (by omega)
theorem mo_logged {keys legs acc amt seals ends : Nat → Int32} {ct : Int32} {es : List sp_Ent} (h : sp_RM keys legs acc amt seals ends ct es) (p : Nat) (hp : p < 512) : fMo_logged ct keys legs acc amt seals ends (nI p) = some (sp_img es p) := by
  have h73 := sp_len es h.1
  have hz := h.2.1
  unfold fMo_logged
  rw [h.2.2.1, pu_rd (by omega) (by decide), pu_bs, h.2.2.2.2 es.length (by omega), List.take_length, ← h.2.2.1]
  by_cases h1 : p < sp_szs es
  · rw [if_pos (nI_lt h1 (by omega))]
    have hne : 0 < es.length := by
      cases es with
      | nil => simp [sp_szs] at h1
      | cons a b => simp
    exact mo_logL h p h1 600 0 hne (by omega) (by simp [sp_szs])
  · rw [if_neg (nI_nlt (by omega) (by omega)), sp_img_out es p (by omega)]
theorem mo_wrL {keys legs acc amt seals ends : Nat → Int32} {ct : Int32} {es : List sp_Ent} (h : sp_RM keys legs acc amt seals ends ct es) (b : Nat) (hb : b < 64) (sy dc off fl wn : Int32) : ∀ (n k : Nat) (d : Nat → Int32), 8 * b ≤ k → k ≤ 8 * b + 8 → 8 * b + 8 - k < n → fMo_write_L61 keys legs acc amt seals ends (nI b) n (nI k) ct sy dc off fl wn d = some (1, ct, sy, dc, off, fl, wn + 1, fun i => if k ≤ i ∧ i < 8 * b + 8 then sp_img es i else d i) := by
  intro n
  induction n with
  | zero => intro k d h0 h1 h2; omega
  | succ n ih =>
    intro k d h0 h1 h2
    rw [fMo_write_L61, pu_n8, pk_mul, nI_add]
    by_cases hk : k = 8 * b + 8
    · rw [if_pos (nI_le (by omega) (by omega))]
      refine congrArg some (congrArg (Prod.mk _) (congrArg (Prod.mk _) (congrArg (Prod.mk _) (congrArg (Prod.mk _) (congrArg (Prod.mk _) (congrArg (Prod.mk _) (congrArg (Prod.mk _) ?_)))))))
      funext i; rw [if_neg (by omega)]
    · rw [if_neg (nI_ge (by omega) (by omega)), mo_logged h k (by omega), pu_bs, pu_wr (by omega) (by decide), pu_bs, nI_1, ih (k + 1) _ (by omega) (by omega) (by omega)]
      refine congrArg some (congrArg (Prod.mk _) (congrArg (Prod.mk _) (congrArg (Prod.mk _) (congrArg (Prod.mk _) (congrArg (Prod.mk _) (congrArg (Prod.mk _) (congrArg (Prod.mk _) ?_)))))))
      funext i
      unfold upd
      by_cases h5 : i = k
      · rw [if_neg (by omega), if_pos h5, if_pos (by omega), h5]
      · by_cases h6 : k + 1 ≤ i ∧ i < 8 * b + 8
        · rw [if_pos h6, if_pos (by omega)]
        · rw [if_neg h6, if_neg h5, if_neg (by omega)]
theorem mo_write {keys legs acc amt seals ends : Nat → Int32} {ct : Int32} {es : List sp_Ent} (h : sp_RM keys legs acc amt seals ends ct es) (b fl : Nat) (hb : b < 64) (hf : fl ≤ 40) (sy dc off wn : Int32) (d : Nat → Int32) : fMo_write ct sy dc off (nI fl) wn keys legs acc amt seals ends d (nI b) = if fl = 1 then some (0, 0, 0, 0, 1, 0, wn, d) else some (1, ct, sy, dc, off, nI (fl - 1), wn + 1, sp_blk d (sp_img es) b) := by
  have hL := fun fl' => mo_wrL h b hb sy dc off fl' wn 600 (8 * b) d (by omega) (by omega) (by omega)
  have hb8 : (8 : Int32) * nI b = nI (8 * b) := by rw [pu_n8, pk_mul]
  unfold fMo_write
  rw [hb8]
  by_cases h1 : fl = 1
  · subst h1
    rw [if_pos (show nI 1 = 1 from rfl), if_pos rfl]
  · rw [if_neg (show ¬ nI fl = 1 by rw [pu_n1, nI_eq (by omega) (by omega)]; exact h1), if_neg h1]
    by_cases h0 : fl = 0
    · subst h0
      rw [if_pos (by decide), hL]; rfl
    · rw [if_neg (nI_nle (by omega) (by omega)), pu_n1, pk_sub (by omega), ← pu_n1, hL]; rfl
theorem mo_RMsnoc {keys legs acc amt seals ends keys' legs' acc' amt' seals' ends' : Nat → Int32} {es : List sp_Ent} {e : sp_Ent} (h : sp_RM keys legs acc amt seals ends (nI es.length) es) (he : sp_okE e) (hz : sp_szs es + sp_sz e ≤ 512) (hk : ∀ i, i < es.length → keys' i = keys i ∧ legs' i = legs i ∧ seals' i = seals i) (ha : ∀ q, q < 4 * es.length → acc' q = acc q ∧ amt' q = amt q) (hen : ∀ i, i ≤ es.length → ends' i = ends i) (hen2 : ends' (es.length + 1) = nI (sp_szs es + sp_sz e)) (hM : sp_ME keys' legs' acc' amt' es.length e) (hs : seals' es.length = sp_mix (sp_seal 0 es) (sp_leaf e)) : sp_RM keys' legs' acc' amt' seals' ends' (nI (es.length + 1)) (es ++ [e]) := by
  obtain ⟨hok, hz0, -, hE, hen0⟩ := h
  have hl : (es ++ [e]).length = es.length + 1 := by rw [List.length_append]; rfl
  have hz1 : sp_szs (es ++ [e]) = sp_szs es + sp_sz e := by rw [sp_szs_app]; simp [sp_szs]
  refine ⟨pu_okSnoc hok he, by rw [hz1]; exact hz, by rw [hl], fun i x hx => ?_, fun i hi => ?_⟩
  · have hi : i < (es ++ [e]).length := (List.getElem?_eq_some_iff.mp hx).1
    rw [hl] at hi
    by_cases h1 : i = es.length
    · subst h1
      rw [List.getElem?_append_right (by omega), Nat.sub_self] at hx
      simp only [List.getElem?_cons_zero, Option.some.injEq] at hx
      subst hx
      refine ⟨hM, ?_⟩
      rw [hs, List.take_of_length_le (by omega), sp_seal_app]; rfl
    · rw [List.getElem?_append_left (by omega)] at hx
      obtain ⟨⟨m1, m2, m3⟩, m4⟩ := hE i x hx
      obtain ⟨k1, k2, k3⟩ := hk i (by omega)
      have hxl := (hok x (List.mem_of_getElem? hx)).2.1
      refine ⟨⟨by rw [k1, m1], by rw [k2, m2], fun j g hg => ?_⟩, ?_⟩
      · have hj : j < x.2.length := (List.getElem?_eq_some_iff.mp hg).1
        obtain ⟨a1, a2⟩ := ha (4 * i + j) (by omega)
        rw [a1, a2]; exact m3 j g hg
      · rw [k3, m4, List.take_append_of_le_length (by omega)]
  · rw [hl] at hi
    by_cases h1 : i = es.length + 1
    · rw [h1, hen2, List.take_of_length_le (by omega), hz1]
    · rw [hen i (by omega), List.take_append_of_le_length (by omega)]; exact hen0 i (by omega)
