theorem pu_seal {c : Nat → Int32} {es : List sp_Ent} (hc : ∀ k, k < sp_szs es → c k = sp_img es k) (hz : sp_szs es ≤ 512) : fLg_lastSeal (nI (sp_szs es)) c = some (sp_seal 0 es) := by
  unfold fLg_lastSeal
  rcases pu_snoc es with rfl | ⟨a, e, rfl⟩
  · rw [if_pos (by decide)]; rfl
  · have h1 : sp_szs (a ++ [e]) = sp_szs a + sp_sz e := by rw [sp_szs_app]; simp [sp_szs]
    have h2 : 0 < sp_szs (a ++ [e]) := by rw [h1]; unfold sp_sz; omega
    rw [if_neg (nI_nle h2 (by omega)), pu_n1, pk_sub (by omega), pu_rd (by omega) (by decide), pu_bs, hc _ (by omega)]
    have h3 : sp_szs (a ++ [e]) - 1 = sp_szs a + (2 + 2 * e.2.length) := by rw [h1]; unfold sp_sz; omega
    rw [h3, sp_img_seal, sp_seal_app]; rfl
theorem pu_AtEnc {c : Nat → Int32} {st : Nat} {e : sp_Ent} {s : Int32} (hA : sp_At c st e) (hs : c (st + (2 + 2 * e.2.length)) = sp_mix s (sp_leaf e)) : ∀ t, t < sp_sz e → c (st + t) = (sp_encE s e)[t]?.getD 0 := by
  intro t ht
  unfold sp_sz at ht
  by_cases h0 : t = 0
  · subst h0; rw [Nat.add_zero, hA.1]; rfl
  by_cases h1 : t = 1
  · subst h1; rw [hA.2.1]; rfl
  by_cases h2 : t = 2 + 2 * e.2.length
  · subst h2; rw [hs, sp_encE_seal]; rfl
  · have hj : (t - 2) / 2 < e.2.length := by omega
    obtain ⟨g, hg, -⟩ := pu_dropc (l := e.2) (i := (t - 2) / 2) hj
    obtain ⟨e1, e2⟩ := sp_encE_leg s e _ g hg
    obtain ⟨a1, a2⟩ := hA.2.2 _ g hg
    by_cases h3 : t = 2 + 2 * ((t - 2) / 2)
    · rw [← h3] at e1
      rw [e1]
      rw [show st + t = st + 2 + 2 * ((t - 2) / 2) by omega, a1]; rfl
    · have h4 : t = 3 + 2 * ((t - 2) / 2) := by omega
      rw [← h4] at e2
      rw [e2]
      rw [show st + t = st + 3 + 2 * ((t - 2) / 2) by omega, a2]; rfl
theorem sp_img_snoc (es : List sp_Ent) (e : sp_Ent) (k : Nat) : sp_img (es ++ [e]) k = if k < sp_szs es then sp_img es k else (sp_encE (sp_seal 0 es) e)[k - sp_szs es]?.getD 0 := by
  unfold sp_img
  rw [sp_enc_app]
  by_cases h : k < sp_szs es
  · rw [if_pos h, List.getElem?_append_left (by rw [sp_enc_len]; exact h)]
  · rw [if_neg h, List.getElem?_append_right (by rw [sp_enc_len]; omega), sp_enc_len]
    simp only [sp_enc, List.append_nil]
theorem pu_imgSnoc {c : Nat → Int32} {es : List sp_Ent} {e : sp_Ent} (hc : ∀ k, k < sp_szs es → c k = sp_img es k) (hA : sp_At c (sp_szs es) e) (hs : c (sp_szs es + (2 + 2 * e.2.length)) = sp_mix (sp_seal 0 es) (sp_leaf e)) : ∀ k, k < sp_szs es + sp_sz e → c k = sp_img (es ++ [e]) k := by
  intro k hk
  rw [sp_img_snoc]
  by_cases h : k < sp_szs es
  · rw [if_pos h]; exact hc k h
  · rw [if_neg h]
    have := pu_AtEnc hA hs (k - sp_szs es) (by omega)
    rw [show sp_szs es + (k - sp_szs es) = k by omega] at this
    exact this
theorem pu_okSnoc {es : List sp_Ent} {e : sp_Ent} (h : sp_ok es) (he : sp_okE e) : sp_ok (es ++ [e]) := by
  intro x hx
  rcases List.mem_append.mp hx with hx | hx
  · exact h x hx
  · rw [List.mem_singleton] at hx; rw [hx]; exact he
theorem pu_accept {c st lv : Nat → Int32} {es : List sp_Ent} {e : sp_Ent} (hA : sp_At c (sp_szs es) e) (hz : sp_szs es + sp_sz e ≤ 512) (hok : sp_ok es) (he : sp_okE e) : fLg_acceptNext (nI es.length) (nI (sp_szs es)) c st lv = some (nI (es.length + 1), nI (sp_szs es + sp_sz e), upd st es.length (nI (sp_szs es)), upd lv es.length (sp_leaf e)) := by
  have h73 := sp_len es hok
  have hz2 := hz
  unfold sp_sz at hz2
  have h2 := he.1
  unfold fLg_acceptNext
  rw [pu_wr (by omega) (by decide), pu_bs, pu_leaf hA hz he.2.1, pu_bs, pu_wr (by omega) (by decide), pu_bs, pu_rd (by omega) (by decide), pu_bs, hA.1, pu_ec, pu_bs, nI_1, nI_add]
  rfl
theorem pu_takeS (es : List sp_Ent) (e : sp_Ent) (i : Nat) (h : i ≤ es.length) : (es ++ [e]).take i = es.take i := by
  rw [List.take_append_of_le_length h]
theorem pu_RLsnoc {c st lv : Nat → Int32} {es : List sp_Ent} {e : sp_Ent} {syn : Nat} (hok : sp_ok es) (he : sp_okE e) (hz : sp_szs es + sp_sz e ≤ 512) (hsy : syn ≤ es.length) (hc : ∀ k, k < 512 → c k = sp_img (es ++ [e]) k) (hst : ∀ i, i < es.length → st i = nI (sp_szs (es.take i))) (hlf : ∀ i x, es[i]? = some x → lv i = sp_leaf x) :
    sp_RL c (upd st es.length (nI (sp_szs es))) (upd lv es.length (sp_leaf e)) (nI (es.length + 1)) (nI (sp_szs es + sp_sz e)) (nI syn) (nI (sp_szs (es.take syn))) (es ++ [e]) syn := by
  have h1 : sp_szs (es ++ [e]) = sp_szs es + sp_sz e := by rw [sp_szs_app]; simp [sp_szs]
  refine ⟨pu_okSnoc hok he, by rw [h1]; exact hz, by rw [List.length_append]; omega, by rw [List.length_append]; rfl, by rw [h1], rfl, by rw [pu_takeS _ _ _ hsy], hc, fun i hi => ?_, fun i x hx => ?_⟩
  · rw [List.length_append, List.length_singleton] at hi
    by_cases h2 : i = es.length
    · rw [h2, pu_us, List.take_append_of_le_length (by omega), List.take_length]
    · rw [pu_un h2, pu_takeS _ _ _ (by omega)]; exact hst i (by omega)
  · by_cases h2 : i = es.length
    · rw [h2, List.getElem?_append_right (by omega), Nat.sub_self] at hx
      simp only [List.getElem?_cons_zero, Option.some.injEq] at hx
      rw [h2, pu_us, hx]
    · have hi : i < (es ++ [e]).length := (List.getElem?_eq_some_iff.mp hx).1
      rw [List.length_append, List.length_singleton] at hi
      rw [List.getElem?_append_left (by omega)] at hx
      rw [pu_un h2]; exact hlf i x hx
def sp_wl : (Nat → Int32) → Nat → List sp_Leg → (Nat → Int32)
  | c, _, [] => c
  | c, p, g :: r => sp_wl (upd (upd c p g.1) (p + 1) g.2) (p + 2) r
theorem sp_wl_lo (l : List sp_Leg) : ∀ (c : Nat → Int32) (p k : Nat), k < p ∨ p + 2 * l.length ≤ k → sp_wl c p l k = c k := by
  induction l with
  | nil => intro c p k _; rfl
  | cons g r ih =>
    intro c p k h
    simp only [List.length_cons] at h
    rw [sp_wl, ih _ _ _ (by omega), pu_un (by omega), pu_un (by omega)]
theorem sp_wl_at (l : List sp_Leg) : ∀ (c : Nat → Int32) (p j : Nat) (g : sp_Leg), l[j]? = some g → sp_wl c p l (p + 2 * j) = g.1 ∧ sp_wl c p l (p + 1 + 2 * j) = g.2 := by
  induction l with
  | nil => intro c p j g h; simp at h
  | cons a r ih =>
    intro c p j g h
    cases j with
    | zero =>
      simp only [List.getElem?_cons_zero, Option.some.injEq] at h
      subst h
      rw [sp_wl, sp_wl_lo r _ _ _ (by omega), sp_wl_lo r _ _ _ (by omega)]
      refine ⟨?_, ?_⟩
      · rw [pu_un (by omega)]; simp [upd]
      · simp [upd]
    | succ j =>
      simp only [List.getElem?_cons_succ] at h
      obtain ⟨h1, h2⟩ := ih (upd (upd c p a.1) (p + 1) a.2) (p + 2) j g h
      rw [sp_wl]
      rw [show p + 2 * (j + 1) = p + 2 + 2 * j by omega, show p + 1 + 2 * (j + 1) = p + 2 + 1 + 2 * j by omega]
      exact ⟨h1, h2⟩
theorem pu_appL {acc amt st lv : Nat → Int32} {cnt : Int32} {dr : List sp_Leg} {es : List sp_Ent} {key : Int32} (hd : sp_RD acc amt cnt dr) (hok : sp_ok es) (he : sp_okE (key, dr)) (hz : sp_szs es + sp_sz (key, dr) ≤ 512) : ∀ (n j : Nat) (c : Nat → Int32), j ≤ dr.length → dr.length - j < n → (∀ k, k < sp_szs es → c k = sp_img es k) → c (sp_szs es) = nI dr.length → c (sp_szs es + 1) = key → (∀ i g, i < j → dr[i]? = some g → c (sp_szs es + 2 + 2 * i) = g.1 ∧ c (sp_szs es + 3 + 2 * i) = g.2) →
    fLg_append_L56 cnt acc amt (nI dr.length) n (nI j) (nI es.length) (nI (sp_szs es)) c st lv = some (1, nI (es.length + 1), nI (sp_szs es + sp_sz (key, dr)), upd (sp_wl c (sp_szs es + 2 + 2 * j) (dr.drop j)) (sp_szs es + (2 + 2 * dr.length)) (sp_mix (sp_seal 0 es) (sp_leaf (key, dr))), upd st es.length (nI (sp_szs es)), upd lv es.length (sp_leaf (key, dr))) := by
  have h4 := hd.2.1
  have hz2 : sp_szs es + (3 + 2 * dr.length) ≤ 512 := hz
  intro n
  induction n with
  | zero => intro j c h1 h2; omega
  | succ n ih =>
    intro j c h1 h2 hc c0 c1 hl
    rw [fLg_append_L56]
    by_cases hj : j = dr.length
    · rw [if_pos (nI_le (by omega) (by omega))]
      have hA : sp_At c (sp_szs es) (key, dr) := ⟨c0, c1, fun i g hg => hl i g (by have hi : i < dr.length := (List.getElem?_eq_some_iff.mp hg).1; omega) hg⟩
      rw [pu_scell (e := (key, dr)) c0 hz, pu_bs, pu_seal hc (by omega), pu_bs, pu_leaf hA hz h4, pu_bs, pu_mix, pu_bs, pu_wr (by show sp_szs es + (2 + 2 * dr.length) < 512; omega) (by decide), pu_bs]
      have hA2 : sp_At (upd c (sp_szs es + (2 + 2 * dr.length)) (sp_mix (sp_seal 0 es) (sp_leaf (key, dr)))) (sp_szs es) (key, dr) := by
        refine ⟨?_, ?_, fun i g hg => ?_⟩
        · rw [pu_un (by omega)]; exact c0
        · rw [pu_un (by omega)]; exact c1
        · have hi := (List.getElem?_eq_some_iff.mp hg).1
          have hi2 : i < dr.length := hi
          rw [pu_un (by omega), pu_un (by omega)]; exact hA.2.2 i g hg
      rw [pu_accept hA2 hz hok he, pu_bs, hj, List.drop_length]
      rfl
    · rw [if_neg (nI_ge (by omega) (by omega))]
      obtain ⟨g, hg, hdr⟩ := pu_dropc (l := dr) (i := j) (by omega)
      rw [pu_acell, pu_bs, pu_accAt hd hg, pu_bs, pu_wr (by omega) (by decide), pu_bs, pu_mcell, pu_bs, pu_amtAt hd hg, pu_bs, pu_wr (by omega) (by decide), pu_bs, nI_1]
      rw [ih (j + 1) _ (by omega) (by omega) ?_ ?_ ?_ ?_, hdr, sp_wl]
      · rw [show sp_szs es + 2 + 2 * j + 1 = sp_szs es + 3 + 2 * j by omega, show sp_szs es + 2 + 2 * j + 2 = sp_szs es + 2 + 2 * (j + 1) by omega]
      · intro k hk; rw [pu_un (by omega), pu_un (by omega)]; exact hc k hk
      · rw [pu_un (by omega), pu_un (by omega)]; exact c0
      · rw [pu_un (by omega), pu_un (by omega)]; exact c1
      · intro i x hi hx
        by_cases hij : i = j
        · subst hij
          rw [hg] at hx
          cases hx
          refine ⟨?_, ?_⟩
          · rw [pu_un (by omega)]; simp [upd]
          · simp [upd]
        · rw [pu_un (by omega), pu_un (by omega), pu_un (by omega), pu_un (by omega)]; exact hl i x (by omega) hx
theorem pu_append {c st lv acc amt : Nat → Int32} {es : List sp_Ent} {dr : List sp_Leg} {syn : Nat} {ct en sc se cnt key : Int32} (h : sp_RL c st lv ct en sc se es syn) (hd : sp_RD acc amt cnt dr) (h2 : 2 ≤ dr.length) (hs : sp_sum 0 dr = 0) (hz : sp_szs es + (3 + 2 * dr.length) ≤ 512) : ∃ ct' en' c' st' lv', fLg_append ct en c st lv cnt acc amt key = some (1, ct', en', c', st', lv') ∧ ct' = nI (es.length + 1) ∧ sp_RL c' st' lv' ct' en' sc se (es ++ [(key, dr)]) syn := by
  obtain ⟨hok, hz0, hsy, rfl, rfl, rfl, rfl, hc, hst, hlf⟩ := h
  have h4 := hd.2.1
  have h73 := sp_len es hok
  have he : sp_okE (key, dr) := ⟨h2, h4, hd.2.2.2, hs⟩
  have hL := pu_appL (st := st) (lv := lv) hd hok he hz 600 0 (upd (upd c (sp_szs es) (nI dr.length)) (sp_szs es + 1) key) (by omega) (by omega) (fun k hk => by rw [pu_un (by omega), pu_un (by omega)]; exact hc k (by omega)) (by rw [pu_un (by omega)]; simp [upd]) (by simp [upd]) (fun i g hi _ => by omega)
  have heq : fLg_append (nI es.length) (nI (sp_szs es)) c st lv cnt acc amt key = some (1, nI (es.length + 1), nI (sp_szs es + sp_sz (key, dr)), upd (sp_wl (upd (upd c (sp_szs es) (nI dr.length)) (sp_szs es + 1) key) (sp_szs es + 2 + 2 * 0) (dr.drop 0)) (sp_szs es + (2 + 2 * dr.length)) (sp_mix (sp_seal 0 es) (sp_leaf (key, dr))), upd st es.length (nI (sp_szs es)), upd lv es.length (sp_leaf (key, dr))) := by
    rw [← hL]
    unfold fLg_append
    rw [show fDr_size cnt = some cnt from rfl, pu_bs, if_neg (show ¬ (73 : Int32) ≤ nI es.length from nI_ge (b := 73) (by omega) (by decide)), hd.1, pu_ec, pu_bs, nI_add, if_pos (show nI (sp_szs es + (3 + 2 * dr.length)) ≤ 512 from nI_le (b := 512) hz (by decide)), pu_wr (by omega) (by decide), pu_bs, nI_1, pu_wr (by omega) (by decide), pu_bs]
    rfl
  have hz3 : sp_sz (key, dr) = 3 + 2 * dr.length := rfl
  have hA : sp_At (upd (sp_wl (upd (upd c (sp_szs es) (nI dr.length)) (sp_szs es + 1) key) (sp_szs es + 2 + 2 * 0) (dr.drop 0)) (sp_szs es + (2 + 2 * dr.length)) (sp_mix (sp_seal 0 es) (sp_leaf (key, dr)))) (sp_szs es) (key, dr) := by
    refine ⟨?_, ?_, fun i g hg => ?_⟩
    · rw [pu_un (by omega), sp_wl_lo _ _ _ _ (by omega), pu_un (by omega)]; simp [upd]
    · rw [pu_un (by omega), sp_wl_lo _ _ _ _ (by omega)]; simp [upd]
    · have hi2 : i < dr.length := (List.getElem?_eq_some_iff.mp hg).1
      obtain ⟨a1, a2⟩ := sp_wl_at (dr.drop 0) (upd (upd c (sp_szs es) (nI dr.length)) (sp_szs es + 1) key) (sp_szs es + 2 + 2 * 0) i g hg
      rw [pu_un (by omega), pu_un (by omega)]
      exact ⟨a1, by rw [show sp_szs es + 3 + 2 * i = sp_szs es + 2 + 2 * 0 + 1 + 2 * i by omega]; exact a2⟩
  have hs2 : upd (sp_wl (upd (upd c (sp_szs es) (nI dr.length)) (sp_szs es + 1) key) (sp_szs es + 2 + 2 * 0) (dr.drop 0)) (sp_szs es + (2 + 2 * dr.length)) (sp_mix (sp_seal 0 es) (sp_leaf (key, dr))) (sp_szs es + (2 + 2 * dr.length)) = sp_mix (sp_seal 0 es) (sp_leaf (key, dr)) := pu_us
  refine ⟨_, _, _, _, _, heq, rfl, pu_RLsnoc hok he hz hsy (fun k hk => ?_) hst hlf⟩
  by_cases hk2 : k < sp_szs es + sp_sz (key, dr)
  · refine pu_imgSnoc (fun q hq => ?_) hA hs2 k hk2
    rw [pu_un (by omega), sp_wl_lo _ _ _ _ (by omega), pu_un (by omega), pu_un (by omega)]; exact hc q (by omega)
  · rw [pu_un (by omega), sp_wl_lo _ _ _ _ (by rw [List.drop_zero]; omega), pu_un (by omega), pu_un (by omega), hc k hk, sp_img_out es k (by omega), sp_img_out _ k (by rw [sp_szs_app]; simp only [sp_szs]; omega)]
theorem pu_append0 {c st lv acc amt : Nat → Int32} {es : List sp_Ent} {dr : List sp_Leg} {syn : Nat} {ct en sc se cnt key : Int32} (h : sp_RL c st lv ct en sc se es syn) (hd : sp_RD acc amt cnt dr) (hz : ¬ sp_szs es + (3 + 2 * dr.length) ≤ 512) : fLg_append ct en c st lv cnt acc amt key = some (0, ct, en, c, st, lv) := by
  obtain ⟨hok, hz0, hsy, rfl, rfl, rfl, rfl, hc, hst, hlf⟩ := h
  have h4 := hd.2.1
  have h73 := sp_len es hok
  unfold fLg_append
  rw [show fDr_size cnt = some cnt from rfl, pu_bs]
  by_cases h3 : (73 : Int32) ≤ nI es.length
  · rw [if_pos h3]
  · rw [if_neg h3, hd.1, pu_ec, pu_bs, nI_add, if_neg (show ¬ nI (sp_szs es + (3 + 2 * dr.length)) ≤ 512 from nI_ge (a := 512) (by omega) (by omega))]
