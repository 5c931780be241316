def sp_clr (k : Nat) (c : Nat → Int32) : Nat → Int32 := fun i => if k ≤ i ∧ i < 512 then 0 else c i
def sp_cpy (k : Nat) (d c : Nat → Int32) : Nat → Int32 := fun i => if k ≤ i ∧ i < 512 then d i else c i
theorem sp_clr_end (c : Nat → Int32) : sp_clr 512 c = c := by
  funext i; unfold sp_clr; rw [if_neg (by omega)]
theorem sp_cpy_end (d c : Nat → Int32) : sp_cpy 512 d c = c := by
  funext i; unfold sp_cpy; rw [if_neg (by omega)]
theorem sp_clr_step (k : Nat) (c : Nat → Int32) (h : k < 512) : sp_clr (k + 1) (upd c k 0) = sp_clr k c := by
  funext i; unfold sp_clr upd
  by_cases h1 : i = k
  · rw [if_neg (by omega), if_pos h1, if_pos (by omega)]
  · by_cases h2 : k + 1 ≤ i ∧ i < 512
    · rw [if_pos h2, if_pos (by omega)]
    · rw [if_neg h2, if_neg h1, if_neg (by omega)]
theorem sp_cpy_step (k : Nat) (d c : Nat → Int32) (h : k < 512) : sp_cpy (k + 1) d (upd c k (d k)) = sp_cpy k d c := by
  funext i; unfold sp_cpy upd
  by_cases h1 : i = k
  · rw [if_neg (by omega), if_pos h1, if_pos (by omega), h1]
  · by_cases h2 : k + 1 ≤ i ∧ i < 512
    · rw [if_pos h2, if_pos (by omega)]
    · rw [if_neg h2, if_neg h1, if_neg (by omega)]
theorem pu_clrL (en : Int32) : ∀ (n k : Nat) (c : Nat → Int32), k ≤ 512 → 512 - k < n → fLg_clearBehindEnd_L5 en n (nI k) c = some (sp_clr k c) := by
  intro n
  induction n with
  | zero => intro k c h1 h2; omega
  | succ n ih =>
    intro k c h1 h2
    rw [fLg_clearBehindEnd_L5]
    by_cases hk : k = 512
    · rw [if_pos (show (512 : Int32) ≤ nI k from nI_le (a := 512) (by omega) (by omega)), hk, sp_clr_end]
    · rw [if_neg (show ¬ (512 : Int32) ≤ nI k from nI_ge (b := 512) (by omega) (by decide)), pu_wr (by omega) (by decide), pu_bs, nI_1, ih (k + 1) _ (by omega) (by omega), sp_clr_step k c (by omega)]
theorem pu_clrE (k : Nat) (c : Nat → Int32) (h : k ≤ 512) : fLg_clearBehindEnd (nI k) c = some (sp_clr k c) := by
  unfold fLg_clearBehindEnd
  exact pu_clrL _ 600 k c h (by omega)
theorem pu_clear (ct en sc se : Int32) (c : Nat → Int32) : fLg_clear ct en sc se c = some (0, 0, 0, 0, sp_clr 0 c) := by
  unfold fLg_clear
  rw [show fLg_markSynced 0 0 sc se = some (0, 0) from rfl, pu_bs]
  have := pu_clrE 0 c (by omega)
  rw [← pu_n0] at this
  rw [this]
  rfl
theorem pu_RL0 (c st lv : Nat → Int32) : sp_RL (sp_clr 0 c) st lv 0 0 0 0 [] 0 := by
  refine ⟨fun e he => (by cases he), by simp [sp_szs], by simp, rfl, rfl, rfl, rfl, fun k hk => ?_, fun i hi => (by cases hi), fun i e he => (by simp at he)⟩
  rw [sp_img_out [] k (by simp [sp_szs])]
  unfold sp_clr; rw [if_pos (by omega)]
def sp_rdL (c : Nat → Int32) : Nat → Nat → List sp_Leg
  | _, 0 => []
  | p, n + 1 => (c p, c (p + 1)) :: sp_rdL c (p + 2) n
def sp_rdE (c : Nat → Int32) (st : Nat) : sp_Ent := (c (st + 1), sp_rdL c (st + 2) (c st).toNatClampNeg)
theorem sp_rdL_len (c : Nat → Int32) : ∀ (n p : Nat), (sp_rdL c p n).length = n := by
  intro n
  induction n with
  | zero => intro p; rfl
  | succ n ih => intro p; rw [sp_rdL, List.length_cons, ih]
theorem sp_rdL_at (c : Nat → Int32) : ∀ (n p j : Nat), j < n → (sp_rdL c p n)[j]? = some (c (p + 2 * j), c (p + 1 + 2 * j)) := by
  intro n
  induction n with
  | zero => intro p j h; omega
  | succ n ih =>
    intro p j h
    cases j with
    | zero => rw [sp_rdL, List.getElem?_cons_zero]; rfl
    | succ j =>
      rw [sp_rdL, List.getElem?_cons_succ, ih (p + 2) j (by omega), show p + 2 + 2 * j = p + 2 * (j + 1) by omega, show p + 2 + 1 + 2 * j = p + 1 + 2 * (j + 1) by omega]
theorem sp_rdE_At (c : Nat → Int32) (st : Nat) (h : ¬ c st < 0) : sp_At c st (sp_rdE c st) := by
  obtain ⟨j, hj, ej⟩ := nI_of h
  refine ⟨?_, rfl, fun i g hg => ?_⟩
  · show c st = nI (sp_rdL c (st + 2) (c st).toNatClampNeg).length
    rw [sp_rdL_len, ej, nI_clamp hj]
  · have hi : i < (sp_rdL c (st + 2) (c st).toNatClampNeg).length := (List.getElem?_eq_some_iff.mp hg).1
    rw [sp_rdL_len] at hi
    have h1 := sp_rdL_at c _ (st + 2) i hi
    have h2 : (sp_rdL c (st + 2) (c st).toNatClampNeg)[i]? = some g := hg
    rw [h2] at h1
    cases h1
    exact ⟨rfl, by rw [show st + 3 + 2 * i = st + 2 + 1 + 2 * i by omega]⟩
def sp_snd : Int32 → List sp_Leg → Int32
  | t, [] => if t = 0 then 1 else 0
  | t, g :: r => if g.1 < 0 then 0 else if (8 : Int32) ≤ g.1 then 0 else if g.2 < (-9999 : Int32) then 0 else if (9999 : Int32) < g.2 then 0 else sp_snd (t + g.2) r
theorem pu_sndL {c : Nat → Int32} {st : Nat} {e : sp_Ent} (hA : sp_At c st e) (hs : st + sp_sz e ≤ 512) : ∀ (n j : Nat) (t : Int32), j ≤ e.2.length → e.2.length - j < n → fLg_nextLegsAreSound_L4 (nI st) c n t (nI j) = some (sp_snd t (e.2.drop j)) := by
  unfold sp_sz at hs
  intro n
  induction n with
  | zero => intro j h h1 h2; omega
  | succ n ih =>
    intro j t h1 h2
    rw [fLg_nextLegsAreSound_L4, pu_rd (by omega) (by decide), pu_bs, hA.1]
    by_cases hj : j = e.2.length
    · rw [if_pos (nI_le (by omega) (by omega)), hj, List.drop_length, sp_snd]
      by_cases h3 : t = 0
      · rw [if_pos h3, if_pos h3]
      · rw [if_neg h3, if_neg h3]
    · rw [if_neg (nI_ge (by omega) (by omega))]
      obtain ⟨g, hg, hd⟩ := pu_dropc (l := e.2) (i := j) (by omega)
      rw [pu_mcell, pu_bs, pu_rd (by omega) (by decide), pu_bs, pu_acell, pu_bs, pu_rd (by omega) (by decide), pu_bs, (hA.2.2 j g hg).1, (hA.2.2 j g hg).2, hd, sp_snd]
      by_cases h3 : g.1 < 0
      · rw [pu_acc0 _ (fun q => q.1 h3), pu_bs, if_pos rfl, if_pos h3]
      · rw [if_neg h3]
        by_cases h4 : (8 : Int32) ≤ g.1
        · rw [pu_acc0 _ (fun q => q.2 h4), pu_bs, if_pos rfl, if_pos h4]
        · rw [pu_acc _ ⟨h3, h4⟩, pu_bs, if_neg (by decide), if_neg h4]
          by_cases h5 : g.2 < (-9999 : Int32)
          · rw [pu_amt0 _ (fun q => q.1 h5), pu_bs, if_pos rfl, if_pos h5]
          · rw [if_neg h5]
            by_cases h6 : (9999 : Int32) < g.2
            · rw [pu_amt0 _ (fun q => q.2 h6), pu_bs, if_pos rfl, if_pos h6]
            · rw [pu_amt _ ⟨h5, h6⟩, pu_bs, if_neg (by decide), if_neg h6, nI_1, ih (j + 1) _ (by omega) (by omega)]
theorem sp_snd_spec : ∀ (l : List sp_Leg) (t : Int32), sp_snd t l ≠ 0 → (∀ g ∈ l, sp_acc g.1 ∧ sp_amt g.2) ∧ sp_sum t l = 0 := by
  intro l
  induction l with
  | nil =>
    intro t h
    rw [sp_snd] at h
    by_cases h3 : t = 0
    · exact ⟨fun g hg => (by cases hg), h3⟩
    · rw [if_neg h3] at h; exact absurd rfl h
  | cons g r ih =>
    intro t h
    rw [sp_snd] at h
    by_cases h3 : g.1 < 0
    · rw [if_pos h3] at h; exact absurd rfl h
    rw [if_neg h3] at h
    by_cases h4 : (8 : Int32) ≤ g.1
    · rw [if_pos h4] at h; exact absurd rfl h
    rw [if_neg h4] at h
    by_cases h5 : g.2 < (-9999 : Int32)
    · rw [if_pos h5] at h; exact absurd rfl h
    rw [if_neg h5] at h
    by_cases h6 : (9999 : Int32) < g.2
    · rw [if_pos h6] at h; exact absurd rfl h
    rw [if_neg h6] at h
    obtain ⟨a1, a2⟩ := ih _ h
    refine ⟨fun x hx => ?_, a2⟩
    rcases List.mem_cons.mp hx with rfl | hx
    · exact ⟨⟨h3, h4⟩, ⟨h5, h6⟩⟩
    · exact a1 x hx
def sp_chk (c : Nat → Int32) (st : Nat) (s : Int32) : Int32 :=
  if 512 ≤ st then 0 else if c st < 2 then 0 else if (4 : Int32) < c st then 0 else if 512 < st + sp_sz (sp_rdE c st) then 0 else if sp_snd 0 (sp_rdE c st).2 = 0 then 0 else if c (st + (2 + 2 * (sp_rdE c st).2.length)) = sp_mix s (sp_leaf (sp_rdE c st)) then 1 else 0
def sp_parse : Nat → (Nat → Int32) → Nat → Int32 → List sp_Ent
  | 0, _, _, _ => []
  | n + 1, c, st, s => if sp_chk c st s = 0 then [] else sp_rdE c st :: sp_parse n c (st + sp_sz (sp_rdE c st)) (sp_mix s (sp_leaf (sp_rdE c st)))
theorem sp_chk_spec {c : Nat → Int32} {st : Nat} {s : Int32} (h : sp_chk c st s ≠ 0) : sp_okE (sp_rdE c st) ∧ sp_At c st (sp_rdE c st) ∧ st + sp_sz (sp_rdE c st) ≤ 512 ∧ c (st + (2 + 2 * (sp_rdE c st).2.length)) = sp_mix s (sp_leaf (sp_rdE c st)) := by
  unfold sp_chk at h
  by_cases h1 : 512 ≤ st
  · rw [if_pos h1] at h; exact absurd rfl h
  rw [if_neg h1] at h
  by_cases h2 : c st < 2
  · rw [if_pos h2] at h; exact absurd rfl h
  rw [if_neg h2] at h
  by_cases h3 : (4 : Int32) < c st
  · rw [if_pos h3] at h; exact absurd rfl h
  rw [if_neg h3] at h
  by_cases h4 : 512 < st + sp_sz (sp_rdE c st)
  · rw [if_pos h4] at h; exact absurd rfl h
  rw [if_neg h4] at h
  by_cases h5 : sp_snd 0 (sp_rdE c st).2 = 0
  · rw [if_pos h5] at h; exact absurd rfl h
  rw [if_neg h5] at h
  by_cases h6 : c (st + (2 + 2 * (sp_rdE c st).2.length)) = sp_mix s (sp_leaf (sp_rdE c st))
  · obtain ⟨b1, b2⟩ := sp_snd_spec _ _ h5
    rw [Int32.lt_iff_toInt_lt] at h2 h3
    have e2 : (2 : Int32).toInt = 2 := by decide
    have e4 : (4 : Int32).toInt = 4 := by decide
    have hn : (sp_rdE c st).2.length = (c st).toInt.toNat := sp_rdL_len _ _ _
    refine ⟨⟨by omega, by omega, b1, b2⟩, sp_rdE_At c st ?_, by omega, h6⟩
    rw [Int32.lt_iff_toInt_lt]
    have e0 : (0 : Int32).toInt = 0 := by decide
    omega
  · rw [if_neg h6] at h; exact absurd rfl h
theorem pu_nextSound {c : Nat → Int32} {es : List sp_Ent} (hc : ∀ k, k < sp_szs es → c k = sp_img es k) (hz : sp_szs es ≤ 512) : fLg_nextIsSound (nI (sp_szs es)) c = some (sp_chk c (sp_szs es) (sp_seal 0 es)) := by
  unfold fLg_nextIsSound fLg_nextFits sp_chk
  by_cases h1 : 512 ≤ sp_szs es
  · rw [if_pos (show (512 : Int32) ≤ nI (sp_szs es) from nI_le (a := 512) h1 (by omega)), if_pos h1, pu_bs, if_pos rfl]
  rw [if_neg (show ¬ (512 : Int32) ≤ nI (sp_szs es) from nI_ge (b := 512) (by omega) (by decide)), if_neg h1, pu_rd (by omega) (by decide), pu_bs]
  by_cases h2 : c (sp_szs es) < 2
  · rw [if_pos h2, if_pos h2, pu_bs, if_pos rfl]
  rw [if_neg h2, if_neg h2, pu_bs]
  by_cases h3 : (4 : Int32) < c (sp_szs es)
  · rw [if_pos h3, if_pos h3, pu_bs, if_pos rfl]
  rw [if_neg h3, if_neg h3, pu_bs]
  have hn0 : ¬ c (sp_szs es) < 0 := by
    rw [Int32.lt_iff_toInt_lt] at h2 ⊢
    have e2 : (2 : Int32).toInt = 2 := by decide
    have e0 : (0 : Int32).toInt = 0 := by decide
    omega
  have hA := sp_rdE_At c (sp_szs es) hn0
  have hlen : (sp_rdE c (sp_szs es)).2.length ≤ 4 := by
    rw [Int32.lt_iff_toInt_lt] at h3
    have e4 : (4 : Int32).toInt = 4 := by decide
    have hn : (sp_rdE c (sp_szs es)).2.length = (c (sp_szs es)).toInt.toNat := sp_rdL_len _ _ _
    omega
  have hsz : sp_sz (sp_rdE c (sp_szs es)) = 3 + 2 * (sp_rdE c (sp_szs es)).2.length := rfl
  rw [hA.1, pu_ec, pu_bs, nI_add, ← hsz]
  by_cases h4 : 512 < sp_szs es + sp_sz (sp_rdE c (sp_szs es))
  · rw [if_pos (show (512 : Int32) < nI (sp_szs es + sp_sz (sp_rdE c (sp_szs es))) from nI_lt (a := 512) h4 (by omega)), if_pos h4, pu_bs, if_pos rfl]
  rw [if_neg (show ¬ (512 : Int32) < nI (sp_szs es + sp_sz (sp_rdE c (sp_szs es))) from nI_nlt (a := 512) (by omega) (by decide)), if_neg h4, pu_bs, if_neg (by decide)]
  have h5 : fLg_nextLegsAreSound (nI (sp_szs es)) c = some (sp_snd 0 (sp_rdE c (sp_szs es)).2) := by
    unfold fLg_nextLegsAreSound
    have := pu_sndL hA (by omega) 600 0 0 (by omega) (by omega)
    rw [List.drop_zero] at this
    exact this
  rw [h5, pu_bs]
  by_cases h6 : sp_snd 0 (sp_rdE c (sp_szs es)).2 = 0
  · rw [if_pos h6, if_pos h6]
  rw [if_neg h6, if_neg h6, pu_scell hA.1 (by omega), pu_bs, pu_rd (by omega) (by decide), pu_bs, pu_seal hc hz, pu_bs, pu_leaf hA (by omega) hlen, pu_bs, pu_mix, pu_bs]
  by_cases h7 : c (sp_szs es + (2 + 2 * (sp_rdE c (sp_szs es)).2.length)) = sp_mix (sp_seal 0 es) (sp_leaf (sp_rdE c (sp_szs es)))
  · rw [if_pos h7, if_pos h7]
  · rw [if_neg h7, if_neg h7]
