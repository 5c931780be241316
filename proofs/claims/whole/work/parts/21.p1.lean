theorem pu_rd {n i : Nat} {f : Nat → Int32} (h : i < n) (hn : n < 2 ^ 31) : hw_rd n f (nI i) = some (f i) := by
  unfold hw_rd
  rw [if_neg (nI_in h hn), nI_clamp (by omega)]
theorem pu_wr {n i : Nat} {f : Nat → Int32} {x : Int32} (h : i < n) (hn : n < 2 ^ 31) : hw_wr n f (nI i) x = some (upd f i x) := by
  unfold hw_wr
  rw [if_neg (nI_in h hn), nI_clamp (by omega)]
theorem pu_bs {α β : Type} (a : α) (f : α → Option β) : (some a).bind f = f a := rfl
theorem pu_z0 : hw_z 0 = some 0 := rfl
theorem pu_z1 : hw_z 1 = some 1 := rfl
theorem pu_n0 : (0 : Int32) = nI 0 := rfl
theorem pu_n1 : (1 : Int32) = nI 1 := rfl
theorem pu_n2 : (2 : Int32) = nI 2 := rfl
theorem pu_n3 : (3 : Int32) = nI 3 := rfl
theorem pu_n4 : (4 : Int32) = nI 4 := rfl
theorem pu_n8 : (8 : Int32) = nI 8 := rfl
theorem pu_n10 : (10 : Int32) = nI 10 := rfl
theorem pu_n16 : (16 : Int32) = nI 16 := rfl
theorem pu_n40 : (40 : Int32) = nI 40 := rfl
theorem pu_n63 : (63 : Int32) = nI 63 := rfl
theorem pu_n73 : (73 : Int32) = nI 73 := rfl
theorem pu_n512 : (512 : Int32) = nI 512 := rfl
theorem pu_n1000 : (1000 : Int32) = nI 1000 := rfl
theorem pu_us {f : Nat → Int32} {k : Nat} {x : Int32} : upd f k x k = x := by simp [upd]
theorem pu_un {f : Nat → Int32} {k j : Nat} {x : Int32} (h : j ≠ k) : upd f k x j = f j := by simp [upd, h]
def sp_mix (k0 k1 : Int32) : Int32 := ((((k0 * (16777619 : Int32)) + k1) ^^^ (hw_ushr ((k0 * (16777619 : Int32)) + k1) (15 : Int32))) * (739982445 : Int32)) ^^^ (hw_ushr ((((k0 * (16777619 : Int32)) + k1) ^^^ (hw_ushr ((k0 * (16777619 : Int32)) + k1) (15 : Int32))) * (739982445 : Int32)) (12 : Int32))
def sp_node (l r : Int32) : Int32 := sp_mix (sp_mix 1 l) r
abbrev sp_Leg : Type := Int32 × Int32
abbrev sp_Ent : Type := Int32 × List sp_Leg
def sp_sz (e : sp_Ent) : Nat := 3 + 2 * e.2.length
def sp_szs : List sp_Ent → Nat
  | [] => 0
  | e :: es => sp_sz e + sp_szs es
def sp_flat : List sp_Leg → List Int32
  | [] => []
  | g :: r => g.1 :: g.2 :: sp_flat r
def sp_leafL : Int32 → List sp_Leg → Int32
  | h, [] => h
  | h, g :: r => sp_leafL (sp_mix h (16 * g.2 + g.1)) r
def sp_leaf (e : sp_Ent) : Int32 := sp_leafL (sp_mix 0 e.1) e.2
def sp_encE (s : Int32) (e : sp_Ent) : List Int32 := nI e.2.length :: e.1 :: (sp_flat e.2 ++ [sp_mix s (sp_leaf e)])
def sp_enc : Int32 → List sp_Ent → List Int32
  | _, [] => []
  | s, e :: es => sp_encE s e ++ sp_enc (sp_mix s (sp_leaf e)) es
def sp_seal : Int32 → List sp_Ent → Int32
  | s, [] => s
  | s, e :: es => sp_seal (sp_mix s (sp_leaf e)) es
def sp_img (es : List sp_Ent) (k : Nat) : Int32 := (sp_enc 0 es)[k]?.getD 0
theorem sp_flat_len (l : List sp_Leg) : (sp_flat l).length = 2 * l.length := by
  induction l with
  | nil => rfl
  | cons g r ih => simp only [sp_flat, List.length_cons, ih]; omega
theorem sp_encE_len (s : Int32) (e : sp_Ent) : (sp_encE s e).length = sp_sz e := by
  simp only [sp_encE, List.length_cons, List.length_append, sp_flat_len, List.length_nil, sp_sz]; omega
theorem sp_enc_len (s : Int32) (es : List sp_Ent) : (sp_enc s es).length = sp_szs es := by
  induction es generalizing s with
  | nil => rfl
  | cons e es ih => simp only [sp_enc, List.length_append, sp_encE_len, ih, sp_szs]
theorem sp_enc_app (s : Int32) (a b : List sp_Ent) : sp_enc s (a ++ b) = sp_enc s a ++ sp_enc (sp_seal s a) b := by
  induction a generalizing s with
  | nil => rfl
  | cons e a ih => simp only [List.cons_append, sp_enc, sp_seal, ih, List.append_assoc]
theorem sp_szs_app (a b : List sp_Ent) : sp_szs (a ++ b) = sp_szs a + sp_szs b := by
  induction a with
  | nil => simp [sp_szs]
  | cons e a ih => simp only [List.cons_append, sp_szs, ih]; omega
theorem sp_seal_app (s : Int32) (a b : List sp_Ent) : sp_seal s (a ++ b) = sp_seal (sp_seal s a) b := by
  induction a generalizing s with
  | nil => rfl
  | cons e a ih => simp only [List.cons_append, sp_seal, ih]
theorem sp_flat_at (l : List sp_Leg) (j : Nat) (g : sp_Leg) (h : l[j]? = some g) : (sp_flat l)[2 * j]? = some g.1 ∧ (sp_flat l)[2 * j + 1]? = some g.2 := by
  induction l generalizing j with
  | nil => simp at h
  | cons a r ih =>
    cases j with
    | zero => simp only [List.getElem?_cons_zero, Option.some.injEq] at h; subst h; exact ⟨rfl, rfl⟩
    | succ j =>
      simp only [List.getElem?_cons_succ] at h
      obtain ⟨h1, h2⟩ := ih j h
      refine ⟨?_, ?_⟩
      · rw [show 2 * (j + 1) = 2 * j + 1 + 1 by omega]; simp only [sp_flat, List.getElem?_cons_succ]; exact h1
      · rw [show 2 * (j + 1) + 1 = 2 * j + 1 + 1 + 1 by omega]; simp only [sp_flat, List.getElem?_cons_succ]; exact h2
def sp_At (c : Nat → Int32) (st : Nat) (e : sp_Ent) : Prop := c st = nI e.2.length ∧ c (st + 1) = e.1 ∧ ∀ (j : Nat) (g : sp_Leg), e.2[j]? = some g → c (st + 2 + 2 * j) = g.1 ∧ c (st + 3 + 2 * j) = g.2
theorem sp_img_at (a b : List sp_Ent) (e : sp_Ent) (t : Nat) (ht : t < sp_sz e) : sp_img (a ++ e :: b) (sp_szs a + t) = (sp_encE (sp_seal 0 a) e)[t]?.getD 0 := by
  unfold sp_img
  rw [sp_enc_app, List.getElem?_append_right (by rw [sp_enc_len]; omega), sp_enc_len, Nat.add_sub_cancel_left, sp_enc, List.getElem?_append_left (by rw [sp_encE_len]; exact ht)]
theorem sp_encE_leg (s : Int32) (e : sp_Ent) (j : Nat) (g : sp_Leg) (h : e.2[j]? = some g) : (sp_encE s e)[2 + 2 * j]? = some g.1 ∧ (sp_encE s e)[3 + 2 * j]? = some g.2 := by
  have hj : j < e.2.length := (List.getElem?_eq_some_iff.mp h).1
  obtain ⟨h1, h2⟩ := sp_flat_at e.2 j g h
  refine ⟨?_, ?_⟩
  · rw [show 2 + 2 * j = 2 * j + 1 + 1 by omega]
    simp only [sp_encE, List.getElem?_cons_succ]
    rw [List.getElem?_append_left (by rw [sp_flat_len]; omega)]; exact h1
  · rw [show 3 + 2 * j = 2 * j + 1 + 1 + 1 by omega]
    simp only [sp_encE, List.getElem?_cons_succ]
    rw [List.getElem?_append_left (by rw [sp_flat_len]; omega)]; exact h2
theorem sp_encE_seal (s : Int32) (e : sp_Ent) : (sp_encE s e)[2 + 2 * e.2.length]? = some (sp_mix s (sp_leaf e)) := by
  rw [show 2 + 2 * e.2.length = 2 * e.2.length + 1 + 1 by omega]
  simp only [sp_encE, List.getElem?_cons_succ]
  rw [List.getElem?_append_right (by rw [sp_flat_len]; omega), sp_flat_len, Nat.sub_self]; rfl
theorem sp_img_At (a b : List sp_Ent) (e : sp_Ent) : sp_At (sp_img (a ++ e :: b)) (sp_szs a) e := by
  refine ⟨?_, ?_, fun j g h => ?_⟩
  · have := sp_img_at a b e 0 (by unfold sp_sz; omega)
    rw [Nat.add_zero] at this; rw [this]; rfl
  · rw [sp_img_at a b e 1 (by unfold sp_sz; omega)]; rfl
  · have hj : j < e.2.length := (List.getElem?_eq_some_iff.mp h).1
    obtain ⟨h1, h2⟩ := sp_encE_leg (sp_seal 0 a) e j g h
    rw [Nat.add_assoc, Nat.add_assoc, sp_img_at a b e (2 + 2 * j) (by unfold sp_sz; omega), sp_img_at a b e (3 + 2 * j) (by unfold sp_sz; omega), h1, h2]
    exact ⟨rfl, rfl⟩
theorem sp_img_seal (a b : List sp_Ent) (e : sp_Ent) : sp_img (a ++ e :: b) (sp_szs a + (2 + 2 * e.2.length)) = sp_mix (sp_seal 0 a) (sp_leaf e) := by
  rw [sp_img_at a b e _ (by unfold sp_sz; omega), sp_encE_seal]; rfl
theorem sp_img_out (es : List sp_Ent) (k : Nat) (h : sp_szs es ≤ k) : sp_img es k = 0 := by
  unfold sp_img
  rw [List.getElem?_eq_none (by rw [sp_enc_len]; exact h)]; rfl
theorem sp_At.congr {c d : Nat → Int32} {st : Nat} {e : sp_Ent} (h : sp_At c st e) (hc : ∀ k, st ≤ k → k < st + sp_sz e → d k = c k) : sp_At d st e := by
  unfold sp_sz at hc
  refine ⟨by rw [hc st (by omega) (by omega)]; exact h.1, by rw [hc (st + 1) (by omega) (by omega)]; exact h.2.1, fun j g hg => ?_⟩
  have hj : j < e.2.length := (List.getElem?_eq_some_iff.mp hg).1
  rw [hc (st + 2 + 2 * j) (by omega) (by omega), hc (st + 3 + 2 * j) (by omega) (by omega)]
  exact h.2.2 j g hg
def sp_acc (a : Int32) : Prop := ¬ a < 0 ∧ ¬ (8 : Int32) ≤ a
def sp_amt (m : Int32) : Prop := ¬ m < (-9999 : Int32) ∧ ¬ (9999 : Int32) < m
def sp_sum : Int32 → List sp_Leg → Int32
  | t, [] => t
  | t, g :: r => sp_sum (t + g.2) r
def sp_okE (e : sp_Ent) : Prop := 2 ≤ e.2.length ∧ e.2.length ≤ 4 ∧ (∀ g ∈ e.2, sp_acc g.1 ∧ sp_amt g.2) ∧ sp_sum 0 e.2 = 0
def sp_ok (es : List sp_Ent) : Prop := ∀ e ∈ es, sp_okE e
theorem sp_len (es : List sp_Ent) (h : sp_ok es) : 7 * es.length ≤ sp_szs es := by
  induction es with
  | nil => simp [sp_szs]
  | cons e es ih =>
    have h1 := ih (fun x hx => h x (List.mem_cons_of_mem _ hx))
    have h2 := (h e List.mem_cons_self).1
    simp only [List.length_cons, sp_szs, sp_sz]; omega
