theorem mo_sndL {disk keys legs seals : Nat → Int32} {es : List sp_Ent} {st : Nat} (hl : es.length < 75) (hn0 : ¬ disk st < 0) (hlen : (sp_rdE disk st).2.length ≤ 4) (hs : st + sp_sz (sp_rdE disk st) ≤ 512) (hsl : ∀ i x, es[i]? = some x → seals i = sp_seal 0 (es.take (i + 1))) : ∀ (n j : Nat) (t g : Int32) (acc amt : Nat → Int32), g = 0 ∨ g = 1 → j ≤ (sp_rdE disk st).2.length → (sp_rdE disk st).2.length - j < n → (∀ i x, i < j → (sp_rdE disk st).2[i]? = some x → acc (4 * es.length + i) = x.1 ∧ amt (4 * es.length + i) = x.2) →
    ∃ acc' amt', fMo_sound_L51 (nI es.length) disk (nI st) (nI (sp_rdE disk st).2.length) n t g (nI j) keys legs acc amt seals = some ((if g = 0 then 0 else if sp_snd t ((sp_rdE disk st).2.drop j) = 0 then 0 else if disk (st + (2 + 2 * (sp_rdE disk st).2.length)) = sp_mix (sp_seal 0 es) (sp_leaf (sp_rdE disk st)) then 1 else 0), upd keys es.length (disk (st + 1)), upd legs es.length (nI (sp_rdE disk st).2.length), acc', amt', upd seals es.length (sp_mix (sp_seal 0 es) (sp_leaf (sp_rdE disk st)))) ∧ (∀ q, q < 4 * es.length → acc' q = acc q ∧ amt' q = amt q) ∧ sp_ME (upd keys es.length (disk (st + 1))) (upd legs es.length (nI (sp_rdE disk st).2.length)) acc' amt' es.length (sp_rdE disk st) := by
  have hA := sp_rdE_At disk st hn0
  have hsz : sp_sz (sp_rdE disk st) = 3 + 2 * (sp_rdE disk st).2.length := rfl
  have h10 : ¬ (1 : Int32) = 0 := by decide
  have h00 : (0 : Int32) = 0 := rfl
  intro n
  induction n with
  | zero => intro j t g acc amt hg h1 h2; omega
  | succ n ih =>
    intro j t g acc amt hg h1 h2 hw
    rw [fMo_sound_L51]
    by_cases hj : j = (sp_rdE disk st).2.length
    · have hM : sp_ME (upd keys es.length (disk (st + 1))) (upd legs es.length (nI (sp_rdE disk st).2.length)) acc amt es.length (sp_rdE disk st) := ⟨by rw [pu_us]; rfl, pu_us, fun i x hx => hw i x (by have hi := (List.getElem?_eq_some_iff.mp hx).1; omega) hx⟩
      refine ⟨acc, amt, ?_, fun q hq => ⟨rfl, rfl⟩, hM⟩
      have hrd : hw_rd 76 (upd seals es.length (sp_mix (sp_seal 0 es) (sp_leaf (sp_rdE disk st)))) (nI es.length) = some (sp_mix (sp_seal 0 es) (sp_leaf (sp_rdE disk st))) := by rw [pu_rd (by omega) (by decide), pu_us]
      rw [if_pos (nI_le (by omega) (by omega)), nI_1, pu_rd (by omega) (by decide), pu_bs, pu_wr (by omega) (by decide), pu_bs, pu_wr (by omega) (by decide), pu_bs, mo_sealOf hsl hM (by omega) hlen, pu_bs, pu_wr (by omega) (by decide), pu_bs, hj, List.drop_length, sp_snd]
      rcases hg with rfl | rfl
      · rw [if_pos h00, if_pos h00]
      · rw [if_neg h10, if_neg h10]
        by_cases ht : t = 0
        · have hx : (nI st + 2) + 2 * nI (sp_rdE disk st).2.length = nI (st + (2 + 2 * (sp_rdE disk st).2.length)) := by rw [pu_n2, pk_mul, nI_add, nI_add, Nat.add_assoc]
          rw [if_pos ht, if_pos ht, if_neg h10, hrd, pu_bs, hx, pu_rd (by omega) (by decide), pu_bs]
          by_cases hq : disk (st + (2 + 2 * (sp_rdE disk st).2.length)) = sp_mix (sp_seal 0 es) (sp_leaf (sp_rdE disk st))
          · rw [if_pos hq.symm, if_pos hq]
          · rw [if_neg (fun z => hq z.symm), if_neg hq]
        · rw [if_neg ht, if_neg ht, if_pos h00]
    · rw [if_neg (nI_ge (by omega) (by omega))]
      obtain ⟨x, hx, hd⟩ := pu_dropc (l := (sp_rdE disk st).2) (i := j) (by omega)
      have ha : (nI st + 2) + 2 * nI j = nI (st + 2 + 2 * j) := by rw [pu_n2, pk_mul, nI_add, nI_add]
      have hm : (nI st + 3) + 2 * nI j = nI (st + 3 + 2 * j) := by rw [pu_n2, pu_n3, pk_mul, nI_add, nI_add]
      rw [ha, hm, pu_rd (by omega) (by decide), pu_bs, pu_rd (by omega) (by decide), pu_bs, (hA.2.2 j x hx).1, (hA.2.2 j x hx).2, mo_4, pu_wr (by omega) (by decide), pu_bs, pu_wr (by omega) (by decide), pu_bs, nI_1, hd, sp_snd]
      have tail : ∀ G : Int32, G = 0 ∨ G = 1 → ∃ acc' amt', fMo_sound_L51 (nI es.length) disk (nI st) (nI (sp_rdE disk st).2.length) n (t + x.2) G (nI (j + 1)) keys legs (upd acc (4 * es.length + j) x.1) (upd amt (4 * es.length + j) x.2) seals = some ((if G = 0 then 0 else if sp_snd (t + x.2) ((sp_rdE disk st).2.drop (j + 1)) = 0 then 0 else if disk (st + (2 + 2 * (sp_rdE disk st).2.length)) = sp_mix (sp_seal 0 es) (sp_leaf (sp_rdE disk st)) then 1 else 0), upd keys es.length (disk (st + 1)), upd legs es.length (nI (sp_rdE disk st).2.length), acc', amt', upd seals es.length (sp_mix (sp_seal 0 es) (sp_leaf (sp_rdE disk st)))) ∧ (∀ q, q < 4 * es.length → acc' q = acc q ∧ amt' q = amt q) ∧ sp_ME (upd keys es.length (disk (st + 1))) (upd legs es.length (nI (sp_rdE disk st).2.length)) acc' amt' es.length (sp_rdE disk st) := by
        intro G hG
        obtain ⟨acc', amt', e1, e2, e3⟩ := ih (j + 1) (t + x.2) G (upd acc (4 * es.length + j) x.1) (upd amt (4 * es.length + j) x.2) hG (by omega) (by omega) (fun i y hi hy => by
          by_cases hij : i = j
          · subst hij
            rw [hx] at hy
            cases hy
            exact ⟨by simp [upd], by simp [upd]⟩
          · rw [pu_un (by omega), pu_un (by omega)]; exact hw i y (by omega) hy)
        refine ⟨acc', amt', e1, fun q hq => ?_, e3⟩
        obtain ⟨q1, q2⟩ := e2 q hq
        rw [q1, q2, pu_un (by omega), pu_un (by omega)]
        exact ⟨rfl, rfl⟩
      rcases hg with rfl | rfl
      · rw [if_pos h00, if_pos h00]
        obtain ⟨acc', amt', e1, e2, e3⟩ := tail 0 (Or.inl rfl)
        rw [if_pos h00] at e1
        exact ⟨acc', amt', e1, e2, e3⟩
      · rw [if_neg h10, if_neg h10]
        by_cases h3 : x.1 < 0
        · obtain ⟨acc', amt', e1, e2, e3⟩ := tail 0 (Or.inl rfl)
          rw [if_pos h00] at e1
          rw [mo_acc0 _ (fun q => q.1 h3), pu_bs, if_pos h00, if_pos h3, if_pos h00]
          exact ⟨acc', amt', e1, e2, e3⟩
        rw [if_neg h3]
        by_cases h4 : (8 : Int32) ≤ x.1
        · obtain ⟨acc', amt', e1, e2, e3⟩ := tail 0 (Or.inl rfl)
          rw [if_pos h00] at e1
          rw [mo_acc0 _ (fun q => q.2 h4), pu_bs, if_pos h00, if_pos h4, if_pos h00]
          exact ⟨acc', amt', e1, e2, e3⟩
        rw [mo_acc _ ⟨h3, h4⟩, pu_bs, if_neg h10, if_neg h4]
        by_cases h5 : x.2 < (-9999 : Int32)
        · obtain ⟨acc', amt', e1, e2, e3⟩ := tail 0 (Or.inl rfl)
          rw [if_pos h00] at e1
          rw [if_pos h5, if_pos h5, if_pos h00]
          exact ⟨acc', amt', e1, e2, e3⟩
        rw [if_neg h5, if_neg h5]
        by_cases h6 : (9999 : Int32) < x.2
        · obtain ⟨acc', amt', e1, e2, e3⟩ := tail 0 (Or.inl rfl)
          rw [if_pos h00] at e1
          rw [if_pos h6, if_pos h6, if_pos h00]
          exact ⟨acc', amt', e1, e2, e3⟩
        rw [if_neg h6, if_neg h6]
        obtain ⟨acc', amt', e1, e2, e3⟩ := tail 1 (Or.inr rfl)
        rw [if_neg h10] at e1
        exact ⟨acc', amt', e1, e2, e3⟩
theorem mo_sound {disk keys legs acc amt seals : Nat → Int32} {es : List sp_Ent} (hl : es.length < 75) (hz : sp_szs es ≤ 512) (hsl : ∀ i x, es[i]? = some x → seals i = sp_seal 0 (es.take (i + 1))) : ∃ keys' legs' acc' amt' seals', fMo_sound (nI es.length) keys legs acc amt seals disk (nI (sp_szs es)) = some (sp_chk disk (sp_szs es) (sp_seal 0 es), keys', legs', acc', amt', seals') ∧ (∀ i, i < es.length → keys' i = keys i ∧ legs' i = legs i ∧ seals' i = seals i) ∧ (∀ q, q < 4 * es.length → acc' q = acc q ∧ amt' q = amt q) ∧ (sp_chk disk (sp_szs es) (sp_seal 0 es) ≠ 0 → sp_ME keys' legs' acc' amt' es.length (sp_rdE disk (sp_szs es)) ∧ seals' es.length = sp_mix (sp_seal 0 es) (sp_leaf (sp_rdE disk (sp_szs es)))) := by
  unfold fMo_sound sp_chk
  by_cases h1 : 512 ≤ sp_szs es
  · rw [if_pos (show (512 : Int32) ≤ nI (sp_szs es) from nI_le (a := 512) h1 (by omega)), if_pos h1]
    exact ⟨keys, legs, acc, amt, seals, rfl, fun i hi => ⟨rfl, rfl, rfl⟩, fun q hq => ⟨rfl, rfl⟩, fun h => absurd rfl h⟩
  rw [if_neg (show ¬ (512 : Int32) ≤ nI (sp_szs es) from nI_ge (b := 512) (by omega) (by decide)), if_neg h1, pu_rd (by omega) (by decide), pu_bs]
  by_cases h2 : disk (sp_szs es) < 2
  · rw [if_pos h2, if_pos h2]
    exact ⟨keys, legs, acc, amt, seals, rfl, fun i hi => ⟨rfl, rfl, rfl⟩, fun q hq => ⟨rfl, rfl⟩, fun h => absurd rfl h⟩
  rw [if_neg h2, if_neg h2]
  by_cases h3 : (4 : Int32) < disk (sp_szs es)
  · rw [if_pos h3, if_pos h3]
    exact ⟨keys, legs, acc, amt, seals, rfl, fun i hi => ⟨rfl, rfl, rfl⟩, fun q hq => ⟨rfl, rfl⟩, fun h => absurd rfl h⟩
  rw [if_neg h3, if_neg h3]
  have hn0 : ¬ disk (sp_szs es) < 0 := by
    rw [Int32.lt_iff_toInt_lt] at h2 ⊢
    have e2 : (2 : Int32).toInt = 2 := by decide
    have e0 : (0 : Int32).toInt = 0 := by decide
    omega
  have hA := sp_rdE_At disk (sp_szs es) hn0
  have hlen : (sp_rdE disk (sp_szs es)).2.length ≤ 4 := by
    rw [Int32.lt_iff_toInt_lt] at h3
    have e4 : (4 : Int32).toInt = 4 := by decide
    have hn : (sp_rdE disk (sp_szs es)).2.length = (disk (sp_szs es)).toInt.toNat := sp_rdL_len _ _ _
    omega
  have hsz : sp_sz (sp_rdE disk (sp_szs es)) = 3 + 2 * (sp_rdE disk (sp_szs es)).2.length := rfl
  rw [hA.1]
  have hx : (nI (sp_szs es) + 3) + 2 * nI (sp_rdE disk (sp_szs es)).2.length = nI (sp_szs es + sp_sz (sp_rdE disk (sp_szs es))) := by rw [pu_n2, pu_n3, pk_mul, nI_add, nI_add, Nat.add_assoc, hsz]
  rw [hx]
  by_cases h4 : 512 < sp_szs es + sp_sz (sp_rdE disk (sp_szs es))
  · rw [if_neg (show ¬ nI (sp_szs es + sp_sz (sp_rdE disk (sp_szs es))) ≤ 512 from nI_ge (a := 512) h4 (by omega)), if_pos h4]
    exact ⟨keys, legs, acc, amt, seals, rfl, fun i hi => ⟨rfl, rfl, rfl⟩, fun q hq => ⟨rfl, rfl⟩, fun h => absurd rfl h⟩
  rw [if_pos (show nI (sp_szs es + sp_sz (sp_rdE disk (sp_szs es))) ≤ 512 from nI_le (b := 512) (by omega) (by decide)), if_neg h4]
  obtain ⟨acc', amt', e1, e2, e3⟩ := mo_sndL (keys := keys) (legs := legs) hl hn0 hlen (by omega) hsl 600 0 0 1 acc amt (Or.inr rfl) (by omega) (by omega) (fun i x hi _ => by omega)
  rw [if_neg (show ¬ (1 : Int32) = 0 by decide), List.drop_zero] at e1
  refine ⟨_, _, acc', amt', _, e1, fun i hi => ⟨pu_un (by omega), pu_un (by omega), pu_un (by omega)⟩, e2, fun _ => ⟨e3, pu_us⟩⟩
