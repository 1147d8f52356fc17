/-! an edit of a text, and a command played as a whole -/
def ed (kind au t num pl m : Nat) (s : Int64) (l : List Int64) : List Int64 := if kind = 0 then insL pl s num (if t = 0 then 0 else 2 ^ au) l else l.take pl ++ pr kind (2 ^ au) t num m (l.drop pl)
def an (kind au t num pl m : Nat) (s : Int64) (l : List Int64) : Nat := if kind ≤ 1 then (ed kind au t num pl m s l).length else ct kind (2 ^ au) t num m (l.drop pl)
def PK (kind au t num pl m : Nat) (s : Int64) (l : List Int64) : Prop := kind < 5 ∧ au < 8 ∧ t < 2 ∧ num < 256 ∧ pl + m ≤ 600 ∧ pl ≤ l.length ∧ (kind = 0 → 1 ≤ nc s ∧ l.length + nc s ≤ 600) ∧ l.length ≤ 600 ∧ (∀ x ∈ l, V x) ∧ (kind ≠ 0 → pl + m ≤ l.length)
theorem rp_take {f : Nat → Int64} {l : List Int64} (h : rp f l) (k : Nat) : rp f (l.take k) := fun i hi => by
  rw [List.length_take] at hi
  rw [List.getElem?_take_of_lt (by omega), h i (by omega)]
theorem pr_len (kind b t a : Nat) : ∀ (m : Nat) (r : List Int64), (pr kind b t a m r).length ≤ r.length := by
  intro m
  induction m with
  | zero => intro r; exact Nat.le_refl _
  | succ m ih =>
    intro r
    cases r with
    | nil => exact Nat.le_refl _
    | cons x xs =>
      have h1 := ih xs
      have h2 : (bec kind b t a x).toList.length ≤ 1 := by cases bec kind b t a x <;> simp
      simp only [pr, List.length_append, List.length_cons]; omega
theorem pr_V {kind b t a : Nat} (hb : b < 256) (hb0 : b ≠ 0) (ha : a < 256) : ∀ (m : Nat) (r : List Int64), (∀ x ∈ r, V x) → ∀ x ∈ pr kind b t a m r, V x := by
  intro m
  induction m with
  | zero => intro r h; exact h
  | succ m ih =>
    intro r h
    cases r with
    | nil => exact h
    | cons x xs =>
      intro y hy
      simp only [pr, List.mem_append] at hy
      rcases hy with hy | hy
      · have : bec kind b t a x = some y := by
          cases hbe : bec kind b t a x with
          | none => rw [hbe] at hy; simp at hy
          | some z => rw [hbe] at hy; simp at hy; rw [hy]
        exact bec_V (h x (by simp)) hb hb0 ha this
      · exact ih xs (fun z hz => h z (by simp [hz])) y hy
theorem bit_ne (au : Nat) : 2 ^ au ≠ 0 := Nat.ne_of_gt (Nat.pow_pos (by decide))
theorem ed_V {kind au t num pl m : Nat} {s : Int64} {l : List Int64} (h : PK kind au t num pl m s l) : ∀ x ∈ ed kind au t num pl m s l, V x := by
  obtain ⟨h1, h2, h3, h4, h5, h6, h7, h8, h9, h10⟩ := h
  intro x hx
  unfold ed at hx
  split at hx
  · unfold insL at hx
    simp only [List.mem_append, List.mem_map, List.mem_range] at hx
    rcases hx with (hx | ⟨i, hi, hx⟩) | hx
    · exact h9 x (List.mem_of_mem_take hx)
    · rw [← hx]
      exact mk_V (pt_lt s i) (nc_ne hi) h4 (by have := bitL au h2; split <;> omega)
    · exact h9 x (List.mem_of_mem_drop hx)
  · rcases List.mem_append.mp hx with hx | hx
    · exact h9 x (List.mem_of_mem_take hx)
    · exact pr_V (bitL au h2) (bit_ne au) h4 m _ (fun y hy => h9 y (List.mem_of_mem_drop hy)) x hx
theorem ed_len {kind au t num pl m : Nat} {s : Int64} {l : List Int64} (h : PK kind au t num pl m s l) : (ed kind au t num pl m s l).length ≤ 600 := by
  obtain ⟨h1, h2, h3, h4, h5, h6, h7, h8, h9, h10⟩ := h
  unfold ed
  split
  · rename_i hk
    rw [insL_len]; exact (h7 hk).2
  · have := pr_len kind (2 ^ au) t num m (l.drop pl)
    rw [List.length_append, List.length_take]
    rw [List.length_drop] at this
    omega
theorem PK_CK {kind au t num pl m : Nat} {s : Int64} {l : List Int64} (h : PK kind au t num pl m s l) : CK kind au t num pl m := by
  obtain ⟨h1, h2, h3, h4, h5, h6, h7, h8, h9, h10⟩ := h
  exact ⟨by omega, h2, h3, h4, by omega, by omega⟩
section PLW
variable (c : Nat) (I : Nat → Int32) (E : Nat → Nat → Int32) (B : Nat → Option zq_E) (n : Nat)
theorem m_play {kind au t num pl m : Nat} {s : Int64} {l : List Int64} (h : PK kind au t num pl m s l) (hl : I 3 = nI l.length) (A : Nat → Nat → Int64) (hr : rp (A 0) l) (w : Nat) : ∃ (g : Nat → Int64) (w' : Nat), f_Mo_play c (cmd kind au t num pl m) s (mo c I A E B n w) = some (mo c (va_up I 3 (nI (ed kind au t num pl m s l).length)) (va_up A 0 g) E B n w', nI (an kind au t num pl m s l)) ∧ rp g (ed kind au t num pl m s l) := by
  have hck := PK_CK h
  obtain ⟨h1, h2, h3, h4, h5, h6, h7, h8, h9, h10⟩ := h
  have hb := bitL au h2
  have e0 : f_Mo_play c (cmd kind au t num pl m) s (mo c I A E B n w) = f_Mo_play_34 c (cmd kind au t num pl m) s (nI kind) (nI (2 ^ au)) (nI t) (mo c I A E B n w) := by
    unfold f_Mo_play
    rw [dc_kind hck, dc_au hck, bitN au h2]
    simp only [dc_t hck]
    have : t = 0 ∨ t = 1 := by omega
    rcases this with ht | ht <;> subst ht
    · rw [if_neg (by decide)]; rfl
    · rw [if_pos rfl]; rfl
  rw [e0]
  unfold f_Mo_play_34 f_Mo_play_86
  rw [dc_num hck, dc_pl hck, dc_m hck]
  simp only [nI0 (show kind < 2 ^ 31 by omega), nI0 (show t < 2 ^ 31 by omega), mo_is, mo_g0, mo_g1, mo_g2, mo_g3, mo_g5, mo_g7, mo_g9, mo_g12, mo_g13, mo_g17, mo_g18, mo_g19, mo_r4, mo_r6, mo_r8, mo_r10, mo_r11, mo_r14, mo_r15, mo_r16, mo_p0, mo_p1, mo_p2, mo_p3, mo_p5, mo_p7, mo_p9, mo_p12, mo_p13, mo_p17, mo_p18, mo_p19, Option.bind_some, zb_S, hl]
  by_cases hk : kind = 0
  · obtain ⟨hn, h66⟩ := h7 hk
    have hins : (if t = 0 then 0 else 2 ^ au) < 256 := by split <;> omega
    obtain ⟨g, w', e, hg⟩ := m_put c I E B n s h4 hins hl h6 hn h66 A hr w
    have hed : ed kind au t num pl m s l = insL pl s num (if t = 0 then 0 else 2 ^ au) l := by unfold ed; rw [if_pos hk]
    refine ⟨g, w', ?_, by rw [hed]; exact hg⟩
    unfold an
    rw [if_pos hk, if_pos (show kind ≤ 1 by omega), hed]
    by_cases ht : t = 0
    · rw [if_pos ht] at e ⊢
      rw [if_pos ht, ← nI_0, e]; rfl
    · rw [if_neg ht] at e ⊢
      rw [if_neg ht, e]; rfl
  · have hed : ed kind au t num pl m s l = l.take pl ++ pr kind (2 ^ au) t num m (l.drop pl) := by unfold ed; rw [if_neg hk]
    have hlt : (l.take pl).length = pl := by simp; omega
    obtain ⟨g, w', e, hg⟩ := l_play c I E B n (kind := kind) (b := 2 ^ au) (t := t) (a := num) (pl := pl) (m0 := m) (all := l.length) h1 hb (bit_ne au) (by omega) h4 h8 h5 (l.drop pl) zq_F (l.take pl) pl m 0 A w (zF_lt (by simp; omega)) (by omega) (by omega) (by simp; omega) (by omega) (fun _ => hlt) (rp_take hr pl) (fun i hi => by rw [List.getElem?_drop]; exact hr _ (by rw [List.length_drop] at hi; omega)) (fun x hx => h9 x (List.mem_of_mem_drop hx))
    refine ⟨g, w', ?_, by rw [hed]; exact hg⟩
    rw [if_neg hk]
    rw [hlt] at e
    rw [← nI_0, e, hed]
    unfold an
    rw [hed]
    by_cases hk1 : kind = 1
    · rw [if_pos hk1, if_pos (show kind ≤ 1 by omega)]
    · rw [if_neg hk1, if_neg (show ¬ kind ≤ 1 by omega), Nat.zero_add]
end PLW
