theorem pu_cellAt (d : Nat → Int32) (k : Nat) (h : k < 512) : fDk_cellAt d (nI k) = some (d k) := by
  unfold fDk_cellAt
  rw [if_neg (nI_pos (by omega)), if_neg (show ¬ (512 : Int32) ≤ nI k from nI_ge h (by decide)), pu_rd h (by decide), pu_bs]
theorem pu_lcellAt (d : Nat → Int32) (k : Nat) (h : k < 512) : fLg_cellAt d (nI k) = some (d k) := by
  unfold fLg_cellAt
  rw [if_neg (nI_pos (by omega)), if_neg (show ¬ (512 : Int32) ≤ nI k from nI_ge h (by decide)), pu_rd h (by decide), pu_bs]
theorem pu_cpyL (d : Nat → Int32) (ct en sc se : Int32) (st lv : Nat → Int32) : ∀ (n k : Nat) (c : Nat → Int32), k ≤ 512 → 512 - k < n → fLg_load_L6 d n (nI k) ct en sc se c st lv = fLg_load_L32 d 600 0 ct en sc se (sp_cpy k d c) st lv := by
  intro n
  induction n with
  | zero => intro k c h1 h2; omega
  | succ n ih =>
    intro k c h1 h2
    rw [fLg_load_L6]
    by_cases hk : k = 512
    · rw [if_pos (show (512 : Int32) ≤ nI k from nI_le (a := 512) (by omega) (by omega)), hk, sp_cpy_end]
    · rw [if_neg (show ¬ (512 : Int32) ≤ nI k from nI_ge (b := 512) (by omega) (by decide)), pu_cellAt d k (by omega), pu_bs, pu_wr (by omega) (by decide), pu_bs, nI_1, ih (k + 1) _ (by omega) (by omega), sp_cpy_step k d c (by omega)]
theorem pu_RLall {c st lv : Nat → Int32} {es : List sp_Ent} (hok : sp_ok es) (hz : sp_szs es ≤ 512) (hc : ∀ k, k < sp_szs es → c k = sp_img es k) (hst : ∀ i, i < es.length → st i = nI (sp_szs (es.take i))) (hlf : ∀ i x, es[i]? = some x → lv i = sp_leaf x) : sp_RL (sp_clr (sp_szs es) c) st lv (nI es.length) (nI (sp_szs es)) (nI es.length) (nI (sp_szs es)) es es.length := by
  refine ⟨hok, hz, Nat.le_refl _, rfl, rfl, rfl, by rw [List.take_length], fun k hk => ?_, hst, hlf⟩
  unfold sp_clr
  by_cases h : k < sp_szs es
  · rw [if_neg (by omega)]; exact hc k h
  · rw [if_pos (by omega), sp_img_out es k (by omega)]
theorem pu_loadL (d c : Nat → Int32) (sc se : Int32) : ∀ (n : Nat) (es : List sp_Ent) (st lv : Nat → Int32), sp_ok es → sp_szs es ≤ 512 → 73 - es.length < n → (∀ k, k < sp_szs es → c k = sp_img es k) → (∀ i, i < es.length → st i = nI (sp_szs (es.take i))) → (∀ i x, es[i]? = some x → lv i = sp_leaf x) →
    ∃ (E : List sp_Ent) (st' lv' : Nat → Int32), E = es ++ sp_parse (73 - es.length) c (sp_szs es) (sp_seal 0 es) ∧ fLg_load_L32 d n (nI es.length) (nI es.length) (nI (sp_szs es)) sc se c st lv = some (nI E.length, nI (sp_szs E), nI E.length, nI (sp_szs E), sp_clr (sp_szs E) c, st', lv') ∧ sp_RL (sp_clr (sp_szs E) c) st' lv' (nI E.length) (nI (sp_szs E)) (nI E.length) (nI (sp_szs E)) E E.length := by
  intro n
  induction n with
  | zero => intro es st lv h1 h2 h3; omega
  | succ n ih =>
    intro es st lv hok hz hn hc hst hlf
    have h73 := sp_len es hok
    rw [fLg_load_L32]
    have hend := pu_RLall hok hz hc hst hlf
    by_cases h1 : es.length = 73
    · refine ⟨es, st, lv, ?_, ?_, hend⟩
      · rw [h1]; simp [sp_parse]
      · rw [if_pos (show (73 : Int32) ≤ nI es.length from nI_le (a := 73) (by omega) (by omega)), show fLg_markSynced (nI es.length) (nI (sp_szs es)) sc se = some (nI es.length, nI (sp_szs es)) from rfl, pu_bs, pu_clrE _ _ hz]; rfl
    · rw [if_neg (show ¬ (73 : Int32) ≤ nI es.length from nI_ge (b := 73) (by omega) (by decide)), pu_nextSound hc hz, pu_bs]
      obtain ⟨q, hq⟩ : ∃ q, 73 - es.length = q + 1 := ⟨73 - es.length - 1, by omega⟩
      by_cases h2 : sp_chk c (sp_szs es) (sp_seal 0 es) = 0
      · refine ⟨es, st, lv, ?_, ?_, hend⟩
        · rw [hq, sp_parse, if_pos h2, List.append_nil]
        · rw [if_pos h2, show fLg_markSynced (nI es.length) (nI (sp_szs es)) sc se = some (nI es.length, nI (sp_szs es)) from rfl, pu_bs, pu_clrE _ _ hz]; rfl
      · obtain ⟨he, hA, hz2, hs⟩ := sp_chk_spec h2
        rw [if_neg h2, pu_accept hA hz2 hok he, pu_bs, nI_1]
        have hs1 : sp_szs (es ++ [sp_rdE c (sp_szs es)]) = sp_szs es + sp_sz (sp_rdE c (sp_szs es)) := by rw [sp_szs_app]; simp [sp_szs]
        have hs2 : sp_seal 0 (es ++ [sp_rdE c (sp_szs es)]) = sp_mix (sp_seal 0 es) (sp_leaf (sp_rdE c (sp_szs es))) := by rw [sp_seal_app]; rfl
        have hs3 : (es ++ [sp_rdE c (sp_szs es)]).length = es.length + 1 := by rw [List.length_append]; rfl
        obtain ⟨E, st', lv', hE, hL, hR⟩ := ih (es ++ [sp_rdE c (sp_szs es)]) (upd st es.length (nI (sp_szs es))) (upd lv es.length (sp_leaf (sp_rdE c (sp_szs es)))) (pu_okSnoc hok he) (by omega) (by omega) (by rw [hs1]; exact pu_imgSnoc hc hA hs) (fun i hi => by
            rw [hs3] at hi
            by_cases h5 : i = es.length
            · rw [h5, pu_us, List.take_append_of_le_length (by omega), List.take_length]
            · rw [pu_un h5, pu_takeS _ _ _ (by omega)]; exact hst i (by omega)) (fun i x hx => by
            by_cases h5 : i = es.length
            · rw [h5, List.getElem?_append_right (by omega), Nat.sub_self] at hx
              simp only [List.getElem?_cons_zero, Option.some.injEq] at hx
              rw [h5, pu_us, hx]
            · have hi : i < (es ++ [sp_rdE c (sp_szs es)]).length := (List.getElem?_eq_some_iff.mp hx).1
              rw [hs3] at hi
              rw [List.getElem?_append_left (by omega)] at hx
              rw [pu_un h5]; exact hlf i x hx)
        refine ⟨E, st', lv', ?_, ?_, hR⟩
        · rw [hE, hs1, hs2, hs3, hq, sp_parse, if_neg h2, List.append_assoc, show 73 - (es.length + 1) = q by omega]; rfl
        · rw [← hs3, ← hs1]; exact hL
theorem sp_rdL_congr (c d : Nat → Int32) : ∀ (n p : Nat), (∀ k, k < p + 2 * n → c k = d k) → sp_rdL c p n = sp_rdL d p n := by
  intro n
  induction n with
  | zero => intro p h; rfl
  | succ n ih =>
    intro p h
    rw [sp_rdL, sp_rdL, h p (by omega), h (p + 1) (by omega), ih (p + 2) (fun k hk => h k (by omega))]
theorem sp_chk_congr (c d : Nat → Int32) (st : Nat) (s : Int32) (h : ∀ k, k < 512 → c k = d k) : sp_chk c st s = sp_chk d st s ∧ (sp_chk c st s ≠ 0 → sp_rdE c st = sp_rdE d st) := by
  by_cases h1 : 512 ≤ st
  · unfold sp_chk
    rw [if_pos h1, if_pos h1]
    exact ⟨rfl, fun q => absurd rfl q⟩
  · have e0 : c st = d st := h st (by omega)
    by_cases h2 : c st < 2
    · unfold sp_chk
      rw [if_neg h1, if_neg h1, if_pos h2, if_pos (e0 ▸ h2)]
      exact ⟨rfl, fun q => absurd rfl q⟩
    have h2' : ¬ d st < 2 := by rw [← e0]; exact h2
    by_cases h3 : (4 : Int32) < c st
    · have h3' : (4 : Int32) < d st := by rw [← e0]; exact h3
      unfold sp_chk
      rw [if_neg h1, if_neg h1, if_neg h2, if_neg h2', if_pos h3, if_pos h3']
      exact ⟨rfl, fun q => absurd rfl q⟩
    have h3' : ¬ (4 : Int32) < d st := by rw [← e0]; exact h3
    have hl1 : (sp_rdE c st).2.length = (c st).toNatClampNeg := sp_rdL_len _ _ _
    have hl2 : (sp_rdE d st).2.length = (d st).toNatClampNeg := sp_rdL_len _ _ _
    have hsz : sp_sz (sp_rdE c st) = sp_sz (sp_rdE d st) := by unfold sp_sz; rw [hl1, hl2, e0]
    by_cases h4 : 512 < st + sp_sz (sp_rdE c st)
    · have h4' : 512 < st + sp_sz (sp_rdE d st) := by rw [← hsz]; exact h4
      unfold sp_chk
      rw [if_neg h1, if_neg h1, if_neg h2, if_neg h2', if_neg h3, if_neg h3', if_pos h4, if_pos h4']
      exact ⟨rfl, fun q => absurd rfl q⟩
    · have hn : st + (3 + 2 * (c st).toNatClampNeg) ≤ 512 := by
        unfold sp_sz at h4; rw [hl1] at h4; omega
      have hE : sp_rdE c st = sp_rdE d st := by
        unfold sp_rdE
        rw [h (st + 1) (by omega), sp_rdL_congr c d _ (st + 2) (fun k hk => h k (by omega)), e0]
      refine ⟨?_, fun _ => hE⟩
      unfold sp_chk
      rw [e0, hE, h (st + (2 + 2 * (sp_rdE d st).2.length)) (by rw [hl2, ← e0]; omega)]
theorem sp_parse_congr : ∀ (n : Nat) (c d : Nat → Int32) (st : Nat) (s : Int32), (∀ k, k < 512 → c k = d k) → sp_parse n c st s = sp_parse n d st s := by
  intro n
  induction n with
  | zero => intro c d st s h; rfl
  | succ n ih =>
    intro c d st s h
    obtain ⟨h1, h2⟩ := sp_chk_congr c d st s h
    rw [sp_parse, sp_parse, ← h1]
    by_cases h3 : sp_chk c st s = 0
    · rw [if_pos h3, if_pos h3]
    · rw [if_neg h3, if_neg h3, h2 h3, ih c d _ _ h]
theorem pu_load (ct en sc se : Int32) (c st lv d : Nat → Int32) : ∃ (c' st' lv' : Nat → Int32) (E : List sp_Ent), E = sp_parse 73 d 0 0 ∧ fLg_load ct en sc se c st lv d = some (nI E.length, nI (sp_szs E), nI E.length, nI (sp_szs E), c', st', lv') ∧ sp_RL c' st' lv' (nI E.length) (nI (sp_szs E)) (nI E.length) (nI (sp_szs E)) E E.length := by
  obtain ⟨E, st', lv', hE, hL, hR⟩ := pu_loadL d (sp_cpy 0 d (sp_clr 0 c)) 0 0 600 [] st lv (fun e he => (by cases he)) (by simp [sp_szs]) (by decide) (fun k hk => absurd hk (Nat.not_lt_zero k)) (fun i hi => absurd hi (Nat.not_lt_zero i)) (fun i x hx => by simp at hx)
  refine ⟨_, st', lv', E, ?_, ?_, hR⟩
  · rw [hE, List.nil_append]
    exact sp_parse_congr 73 _ _ 0 0 (fun k hk => by unfold sp_cpy; rw [if_pos (by omega)])
  · unfold fLg_load
    rw [pu_clear, pu_bs]
    show fLg_load_L6 d 600 0 0 0 0 0 (sp_clr 0 c) st lv = _
    have h6 := pu_cpyL d 0 0 0 0 st lv 600 0 (sp_clr 0 c) (by omega) (by omega)
    rw [← pu_n0] at h6
    rw [h6]
    exact hL
def sp_blk (d l : Nat → Int32) (b : Nat) : Nat → Int32 := fun i => if 8 * b ≤ i ∧ i < 8 * b + 8 then l i else d i
theorem pu_wrL (l : Nat → Int32) (b : Nat) (hb : b < 64) (dn fl : Int32) : ∀ (n k : Nat) (d : Nat → Int32), 8 * b ≤ k → k ≤ 8 * b + 8 → 8 * b + 8 - k < n → fDk_write_L34 l (nI (8 * b)) n (nI k) dn fl d = some (1, dn + 1, fl, fun i => if k ≤ i ∧ i < 8 * b + 8 then l i else d i) := by
  intro n
  induction n with
  | zero => intro k d h0 h1 h2; omega
  | succ n ih =>
    intro k d h0 h1 h2
    rw [fDk_write_L34, pu_n8, nI_add]
    by_cases hk : k = 8 * b + 8
    · rw [if_pos (nI_le (by omega) (by omega))]
      refine congrArg some (congrArg (Prod.mk _) (congrArg (Prod.mk _) (congrArg (Prod.mk _) ?_)))
      funext i; rw [if_neg (by omega)]
    · rw [if_neg (nI_ge (by omega) (by omega)), pu_lcellAt l k (by omega), pu_bs, pu_wr (by omega) (by decide), pu_bs, nI_1, ih (k + 1) _ (by omega) (by omega) (by omega)]
      refine congrArg some (congrArg (Prod.mk _) (congrArg (Prod.mk _) (congrArg (Prod.mk _) ?_)))
      funext i
      unfold upd
      by_cases h5 : i = k
      · rw [if_neg (by omega), if_pos h5, if_pos (by omega), h5]
      · by_cases h6 : k + 1 ≤ i ∧ i < 8 * b + 8
        · rw [if_pos h6, if_pos (by omega)]
        · rw [if_neg h6, if_neg h5, if_neg (by omega)]
theorem pu_write (l d : Nat → Int32) (b fl : Nat) (hb : b < 64) (hf : fl ≤ 40) (dn : Int32) : fDk_write dn (nI fl) d l (nI b) = if fl = 1 then some (0, dn, 0, d) else some (1, dn + 1, nI (fl - 1), sp_blk d l b) := by
  have hL := fun fl' => pu_wrL l b hb dn fl' 600 (8 * b) d (by omega) (by omega) (by omega)
  have hb8 : nI b * (8 : Int32) = nI (8 * b) := by rw [pu_n8, pk_mul, Nat.mul_comm]
  unfold fDk_write
  rw [hb8]
  by_cases h0 : fl = 0
  · subst h0
    rw [if_pos (by decide), if_neg (by decide), hL]; rfl
  · rw [if_neg (nI_nle (by omega) (by omega)), pu_n1, pk_sub (by omega)]
    by_cases h1 : fl = 1
    · subst h1
      rw [if_pos (show nI (1 - 1) = 0 from rfl), if_pos rfl]; rfl
    · rw [if_neg (nI_ne0 (by omega) (by omega)), if_neg h1, hL]; rfl
