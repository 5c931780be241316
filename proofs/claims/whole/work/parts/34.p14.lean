def sp_recE (E : List sp_Ent) (d : Nat → Int32) (w : Int32) (fl : Nat) : Int32 × Option Nat × Int32 × (Nat → Int32) :=
  if 512 ≤ sp_szs E then (nI E.length, some fl, w, d) else if fl = 1 then (-2, none, w, d) else (nI E.length, some (fl - 1), w + 1, sp_blk d (sp_img E) (sp_szs E / 8))
theorem mo_recEnd {keys legs acc amt seals ends disk : Nat → Int32} {es : List sp_Ent} (h : sp_RM keys legs acc amt seals ends (nI es.length) es) (dc off wn : Int32) (fl : Nat) (hf : fl ≤ 40) : ((hw_rd 77 ends (nI es.length)).bind fun v1 => (hw_rd 77 ends (nI es.length)).bind fun v3 => if (512 : Int32) ≤ v3 then (some (nI es.length, nI es.length, nI es.length, v1, dc, off, nI fl, wn, keys, legs, acc, amt, seals, ends, disk)) else ((hw_rd 77 ends (nI es.length)).bind fun v5 => (fMo_write (nI es.length) (nI es.length) dc off (nI fl) wn keys legs acc amt seals ends disk (v5 / (8 : Int32))).bind fun x => match x with | (v7, u8, u9, u10, u11, u12, u13, u14) => if v7 = 0 then (some ((-2 : Int32), u8, u9, v1, u10, u11, u12, u13, keys, legs, acc, amt, seals, ends, u14)) else (some (u8, u8, u9, v1, u10, u11, u12, u13, keys, legs, acc, amt, seals, ends, u14)))) = match sp_recE es disk wn fl with
      | (r, some x, w', d') => some (r, nI es.length, nI es.length, nI (sp_szs es), dc, off, nI x, w', keys, legs, acc, amt, seals, ends, d')
      | (r, none, w', d') => some (r, 0, 0, nI (sp_szs es), 0, 1, 0, w', keys, legs, acc, amt, seals, ends, d') := by
  have h73 := sp_len es h.1
  have hz := h.2.1
  have hre : hw_rd 77 ends (nI es.length) = some (nI (sp_szs es)) := by rw [pu_rd (by omega) (by decide), h.2.2.2.2 es.length (by omega), List.take_length]
  unfold sp_recE
  rw [hre, pu_bs, pu_bs]
  by_cases h5 : 512 ≤ sp_szs es
  · rw [if_pos (show (512 : Int32) ≤ nI (sp_szs es) from nI_le (a := 512) h5 (by omega)), if_pos h5]
  · rw [if_neg (show ¬ (512 : Int32) ≤ nI (sp_szs es) from nI_ge (b := 512) (by omega) (by decide)), if_neg h5, pu_bs, pu_n8, pk_div (by omega) (by decide) (by decide), mo_write h (sp_szs es / 8) fl (by omega) hf]
    by_cases h6 : fl = 1
    · rw [if_pos h6, if_pos h6]; rfl
    · rw [if_neg h6, if_neg h6]; rfl
theorem sp_chk_full {c : Nat → Int32} {st : Nat} {s : Int32} (h : 506 ≤ st) : sp_chk c st s = 0 := by
  rcases Int32.decEq (sp_chk c st s) 0 with h1 | h1
  · obtain ⟨he, -, hz, -⟩ := sp_chk_spec h1
    have h2 := he.1
    unfold sp_sz at hz
    omega
  · exact h1
theorem mo_recL {disk : Nat → Int32} (sy se dc off wn : Int32) (fl : Nat) (hf : fl ≤ 40) : ∀ (n : Nat) (es : List sp_Ent) (keys legs acc amt seals ends : Nat → Int32), sp_RM keys legs acc amt seals ends (nI es.length) es → 74 - es.length < n → ∃ (E : List sp_Ent) (keys' legs' acc' amt' seals' ends' : Nat → Int32), E = es ++ sp_parse (73 - es.length) disk (sp_szs es) (sp_seal 0 es) ∧ sp_RM keys' legs' acc' amt' seals' ends' (nI E.length) E ∧ fMo_recover_L19 n (nI es.length) sy se dc off (nI fl) wn keys legs acc amt seals ends disk = (match sp_recE E disk wn fl with
      | (r, some x, w', d') => some (r, nI E.length, nI E.length, nI (sp_szs E), dc, off, nI x, w', keys', legs', acc', amt', seals', ends', d')
      | (r, none, w', d') => some (r, 0, 0, nI (sp_szs E), 0, 1, 0, w', keys', legs', acc', amt', seals', ends', d')) := by
  intro n
  induction n with
  | zero => intro es keys legs acc amt seals ends h h1; omega
  | succ n ih =>
    intro es keys legs acc amt seals ends h h1
    have h73 := sp_len es h.1
    have hz := h.2.1
    rw [fMo_recover_L19, if_neg (show ¬ (74 : Int32) ≤ nI es.length from nI_ge (b := 74) (by omega) (by decide))]
    have hre : hw_rd 77 ends (nI es.length) = some (nI (sp_szs es)) := by rw [pu_rd (by omega) (by decide), h.2.2.2.2 es.length (by omega), List.take_length]
    obtain ⟨keys1, legs1, acc1, amt1, seals1, e1, e2, e3, e4⟩ := mo_sound (disk := disk) (keys := keys) (legs := legs) (acc := acc) (amt := amt) (seals := seals) (es := es) (by omega) hz (fun i x hx => (h.2.2.2.1 i x hx).2)
    have hR1 : sp_RM keys1 legs1 acc1 amt1 seals1 ends (nI es.length) es := by
      refine ⟨h.1, hz, rfl, fun i x hx => ?_, h.2.2.2.2⟩
      have hi : i < es.length := (List.getElem?_eq_some_iff.mp hx).1
      obtain ⟨⟨m1, m2, m3⟩, m4⟩ := h.2.2.2.1 i x hx
      obtain ⟨k1, k2, k3⟩ := e2 i hi
      have hxl := (h.1 x (List.mem_of_getElem? hx)).2.1
      refine ⟨⟨by rw [k1, m1], by rw [k2, m2], fun j g hg => ?_⟩, by rw [k3, m4]⟩
      have hj : j < x.2.length := (List.getElem?_eq_some_iff.mp hg).1
      obtain ⟨a1, a2⟩ := e3 (4 * i + j) (by omega)
      rw [a1, a2]; exact m3 j g hg
    by_cases h2 : sp_chk disk (sp_szs es) (sp_seal 0 es) = 0
    · have hend := mo_recEnd (disk := disk) hR1 dc off wn fl hf
      refine ⟨es, keys1, legs1, acc1, amt1, seals1, ends, ?_, hR1, ?_⟩
      · cases hq : 73 - es.length with
        | zero => simp [sp_parse]
        | succ q => rw [sp_parse, if_pos h2, List.append_nil]
      · rw [← hend, hre, pu_bs, e1, h2, pu_bs]; rfl
    · obtain ⟨he, hA, hz2, hs⟩ := sp_chk_spec h2
      obtain ⟨hM, hs2⟩ := e4 h2
      have hlt : es.length < 73 := by
        rcases Nat.lt_or_ge es.length 73 with h5 | h5
        · exact h5
        · exact absurd (sp_chk_full (by omega)) h2
      obtain ⟨q, hq⟩ : ∃ q, 73 - es.length = q + 1 := ⟨73 - es.length - 1, by omega⟩
      have hs1 : sp_szs (es ++ [sp_rdE disk (sp_szs es)]) = sp_szs es + sp_sz (sp_rdE disk (sp_szs es)) := by rw [sp_szs_app]; simp [sp_szs]
      have hs3 : (es ++ [sp_rdE disk (sp_szs es)]).length = es.length + 1 := by rw [List.length_append]; rfl
      have hs4 : sp_seal 0 (es ++ [sp_rdE disk (sp_szs es)]) = sp_mix (sp_seal 0 es) (sp_leaf (sp_rdE disk (sp_szs es))) := by rw [sp_seal_app]; rfl
      have hR2 : sp_RM keys1 legs1 acc1 amt1 seals1 (upd ends (es.length + 1) (nI (sp_szs es + sp_sz (sp_rdE disk (sp_szs es))))) (nI (es.length + 1)) (es ++ [sp_rdE disk (sp_szs es)]) := mo_RMsnoc hR1 he hz2 (fun i hi => ⟨rfl, rfl, rfl⟩) (fun q hq => ⟨rfl, rfl⟩) (fun i hi => pu_un (by omega)) pu_us hM hs2
      rw [← hs3] at hR2
      obtain ⟨E, keys', legs', acc', amt', seals', ends', hE, hR, hL⟩ := ih _ _ _ _ _ _ _ hR2 (by omega)
      refine ⟨E, keys', legs', acc', amt', seals', ends', ?_, hR, ?_⟩
      · rw [hE, hs1, hs4, hs3, hq, sp_parse, if_neg h2, List.append_assoc, show 73 - (es.length + 1) = q by omega]; rfl
      · rw [← hL, hs3, hre, pu_bs, e1, pu_bs]
        dsimp only
        rw [if_neg h2, pu_bs, pu_rd (by omega) (by decide), pu_bs, hM.2.1, pu_n2, pk_mul, pu_n3, nI_add, nI_add, nI_1, pu_wr (by omega) (by decide), pu_bs, Nat.add_assoc]
        rfl
theorem mo_recover {keys legs acc amt seals ends disk : Nat → Int32} (ct sy se dc wn : Int32) (fl : Nat) (hf : fl ≤ 40) (he0 : ends 0 = 0) : ∃ (E : List sp_Ent) (keys' legs' acc' amt' seals' ends' : Nat → Int32), E = sp_parse 73 disk 0 0 ∧ sp_RM keys' legs' acc' amt' seals' ends' (nI E.length) E ∧ fMo_recover ct sy se dc 1 (nI fl) wn keys legs acc amt seals ends disk = (match sp_recE E disk wn fl with
      | (r, some x, w', d') => some (r, nI E.length, nI E.length, nI (sp_szs E), dc, 0, nI x, w', keys', legs', acc', amt', seals', ends', d')
      | (r, none, w', d') => some (r, 0, 0, nI (sp_szs E), 0, 1, 0, w', keys', legs', acc', amt', seals', ends', d')) := by
  have h0 : sp_RM keys legs acc amt seals ends (nI ([] : List sp_Ent).length) [] := ⟨fun e he => (by cases he), by simp [sp_szs], rfl, fun i e he => (by simp at he), fun i hi => by
    have : i = 0 := by simpa using hi
    rw [this, he0]; rfl⟩
  obtain ⟨E, keys', legs', acc', amt', seals', ends', hE, hR, hL⟩ := mo_recL (disk := disk) sy se dc 0 wn fl hf 600 [] keys legs acc amt seals ends h0 (by decide)
  refine ⟨E, keys', legs', acc', amt', seals', ends', by rw [hE, List.nil_append]; rfl, hR, ?_⟩
  rw [← hL]
  unfold fMo_recover
  rw [if_neg (by decide)]
  rfl
theorem pu_recover {cells st lv d : Nat → Int32} (dc lc le ls lse dd : Int32) (fl : Nat) (hf : fl ≤ 40) : ∃ (E : List sp_Ent) (c' st' lv' : Nat → Int32), E = sp_parse 73 d 0 0 ∧ sp_RL c' st' lv' (nI E.length) (nI (sp_szs E)) (nI E.length) (nI (sp_szs E)) E E.length ∧ fSl_recover 0 dc lc le ls lse cells st lv dd (nI fl) d = (match sp_recE E d dd fl with
      | (r, some x, w', d') => some (r, 1, dc, nI E.length, nI (sp_szs E), nI E.length, nI (sp_szs E), c', st', lv', w', nI x, d')
      | (r, none, w', d') => some (r, 0, 0, 0, 0, 0, 0, sp_clr 0 c', st', lv', w', 0, d')) := by
  obtain ⟨c', st', lv', E, hE, hL, hR⟩ := pu_load lc le ls lse cells st lv d
  refine ⟨E, c', st', lv', hE, hR, ?_⟩
  have hz := hR.2.1
  unfold fSl_recover
  rw [if_pos rfl, hL, pu_bs]
  dsimp only
  unfold fLg_endsInBlock sp_recE
  by_cases h5 : 512 ≤ sp_szs E
  · rw [if_pos (show (512 : Int32) ≤ nI (sp_szs E) from nI_le (a := 512) h5 (by omega)), if_pos h5, pu_bs, if_pos rfl]; rfl
  · rw [if_neg (show ¬ (512 : Int32) ≤ nI (sp_szs E) from nI_ge (b := 512) (by omega) (by decide)), if_neg h5, pu_bs, if_neg (by decide)]
    have hb : sp_bk (sp_szs E) = sp_szs E / 8 := by unfold sp_bk; omega
    have hb2 : fLg_endBlock (nI (sp_szs E)) = some (nI (sp_szs E / 8)) := by
      unfold fLg_endBlock
      rw [pu_blockOf _ hz, hb]; rfl
    rw [hb2, pu_bs, pu_wblock _ _ _ _ _ _ _ _ _ (sp_szs E / 8) fl (by omega) hf]
    by_cases h6 : fl = 1
    · rw [if_pos h6, if_pos h6]; rfl
    · rw [if_neg h6, if_neg h6, ← sp_blk_eq hR.2.2.2.2.2.2.2.1 d _ (by omega)]; rfl
