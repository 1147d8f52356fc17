/-! the class's texts -/
def TX (S : zq_S) (t : Nat) (l : List Int64) : Prop := ∃ f : Nat → Int64, S.1 t = some (.inr (0, [.ref (t + 1), .int (nI l.length)])) ∧ S.1 (t + 1) = some (.inl (0, 600, .inr (.inl f))) ∧ l.length ≤ 600 ∧ rp f l
/-- nothing but the text at t has changed -/
def FR (S S' : zq_S) (t : Nat) : Prop := (∀ q, q ≠ t → q ≠ t + 1 → S'.1 q = S.1 q) ∧ S'.2.1 = S.2.1
theorem FR_r (S : zq_S) (t : Nat) : FR S S t := ⟨fun _ _ _ => rfl, rfl⟩
theorem FR_t {S S' S'' : zq_S} {t : Nat} (h : FR S S' t) (h' : FR S' S'' t) : FR S S'' t := ⟨fun q a b => (h'.1 q a b).trans (h.1 q a b), h'.2.trans h.2⟩
theorem cell_ne {S : zq_S} {p q : Nat} {x y : zq_E} (h1 : S.1 p = some x) (h2 : S.1 q = some y) (h : x ≠ y) : p ≠ q := by
  intro e; subst e; rw [h1] at h2; exact h (Option.some.inj h2)
theorem TX_is {S : zq_S} {t : Nat} {l : List Int64} (h : TX S t l) : zs_is S t 0 = true := by obtain ⟨f, h1, _⟩ := h; exact z_is h1
theorem TX_sz {S : zq_S} {t : Nat} {l : List Int64} (h : TX S t l) : zs_gi S t 0 1 = some (nI l.length) := by obtain ⟨f, h1, _⟩ := h; exact z_gi h1 rfl
theorem TX_row {S : zq_S} {t : Nat} {l : List Int64} (h : TX S t l) : zs_gr S t 0 0 = some (some (t + 1)) := by obtain ⟨f, h1, _⟩ := h; exact z_gr h1 rfl
theorem TX_len {S : zq_S} {t : Nat} {l : List Int64} (h : TX S t l) : zs_len S (t + 1) 0 = some (nI 600) := by obtain ⟨f, _, h2, _⟩ := h; exact z_len h2
theorem TX_fr {S S' : zq_S} {t t' : Nat} {l l' : List Int64} (hf : FR S S' t') (h : TX S t l) (h' : TX S t' l') (hne : t ≠ t') : TX S' t l := by
  obtain ⟨f, h1, h2, h3, h4⟩ := h
  obtain ⟨f', h1', h2', h3', h4'⟩ := h'
  have n1 : t ≠ t' + 1 := cell_ne h1 h2' (by simp)
  have n2 : t + 1 ≠ t' := cell_ne h2 h1' (by simp)
  exact ⟨f, (hf.1 t hne n1).trans h1, (hf.1 (t + 1) n2 (by omega)).trans h2, h3, h4⟩
theorem TX_at {S : zq_S} {t : Nat} {l : List Int64} (h : TX S t l) {i : Nat} (hi : i < l.length) : f_Text_at t (nI i) S = some (S, fl l i) := by
  have e1 := TX_row h
  have e2 := TX_len h
  obtain ⟨f, h1, h2, h3, h4⟩ := h
  unfold f_Text_at f_Text_at_23
  rw [if_neg (nI_pos (show i < 2 ^ 31 by omega))]
  simp only [e1, e2, Option.bind_some]
  rw [if_neg (nI_ge (by omega) (by decide)), z_lal h2 (by omega) (by decide), Option.bind_some, rp_fl h4 hi]
theorem TX_clear {S : zq_S} {t : Nat} {l : List Int64} (h : TX S t l) : ∃ S', f_Text_clear t S = some (S', ()) ∧ TX S' t [] ∧ FR S S' t := by
  obtain ⟨f, h1, h2, h3, h4⟩ := h
  refine ⟨_, ?_, ⟨f, u_at _ _ _, ?_, by simp, fun i hi => absurd hi (by simp)⟩, fun q a b => u_ne _ _ a, rfl⟩
  · unfold f_Text_clear
    rw [z_p h1 (by simp), Option.bind_some]; rfl
  · exact (u_ne _ _ (by omega)).trans h2
theorem TX_add {S : zq_S} {t : Nat} {l : List Int64} (h : TX S t l) {v : Int64} (hv : v ≠ 0) (hl : l.length < 600) : ∃ S', f_Text_add t v S = some (S', ()) ∧ TX S' t (l ++ [v]) ∧ FR S S' t := by
  have e1 := TX_row h
  have e2 := TX_len h
  have e3 := TX_sz h
  obtain ⟨f, h1, h2, h3, h4⟩ := h
  have hne : t ≠ t + 1 := by omega
  have k1 : (zq_u S (t + 1) (.inl (0, 600, .inr (.inl (vp_updL f l.length v))))).1 t = some (.inr (0, [.ref (t + 1), .int (nI l.length)])) := (u_ne _ _ hne).trans h1
  refine ⟨zq_u (zq_u S (t + 1) (.inl (0, 600, .inr (.inl (vp_updL f l.length v))))) t (.inr (0, [.ref (t + 1), .int (nI (l ++ [v]).length)])), ?_, ⟨vp_updL f l.length v, u_at _ _ _, ?_, by simp; omega, rp_upd h4 v⟩, fun q a b => ?_, rfl⟩
  · unfold f_Text_add f_Text_add_45
    rw [if_neg (by rw [lcmp0]; exact hv)]
    simp only [e1, e2, e3, Option.bind_some]
    rw [if_neg (nI_pos (show l.length < 2 ^ 31 by omega)), if_neg (nI_ge hl (by decide)), z_las h2 hl (by decide)]
    simp only [Option.bind_some]
    rw [z_gi k1 rfl, Option.bind_some, z_p k1 (by simp), Option.bind_some, nI_1]
    simp
  · exact (u_ne _ _ (by omega)).trans (u_at _ _ _)
  · exact (u_ne _ _ a).trans (u_ne _ _ b)
theorem TX_add0 (S : zq_S) (t : Nat) : f_Text_add t 0 S = some (S, ()) := by
  unfold f_Text_add f_Text_add_45
  rw [if_pos (by rw [lcmp0])]
theorem z_cpl {S : zq_S} {t a0 a N0 N1 sp dp m : Nat} {f g : Nat → Int64} (h0 : S.1 a0 = some (.inl (t, N0, .inr (.inl f)))) (h1 : S.1 a = some (.inl (t, N1, .inr (.inl g)))) (hs : sp + m ≤ N0) (hd : dp + m ≤ N1) (hN0 : N0 < 2 ^ 31) (hN1 : N1 < 2 ^ 31) : zs_cpl S t a0 (nI sp) a (nI dp) (nI m) = some (zq_u S a (.inl (t, N1, .inr (.inl (va_cpy f g sp dp m))))) := by
  unfold zs_cpl
  rw [h0, h1]
  simp only [nI_clamp (show sp < 2 ^ 31 by omega), nI_clamp (show dp < 2 ^ 31 by omega), nI_clamp (show m < 2 ^ 31 by omega)]
  rw [if_pos ⟨trivial, trivial, nI_pos (by omega), nI_pos (by omega), nI_pos (by omega), hs, hd⟩]
theorem TX_part {S : zq_S} {a t : Nat} {lo l : List Int64} (ho : TX S a lo) (h : TX S t l) (hne : a ≠ t) {p e : Nat} (hpe : p ≤ e) (he : e ≤ lo.length) (hl : l.length + (e - p) ≤ 600) : ∃ S', f_Text_addPart t (some a) (nI p) (nI e) S = some (S', ()) ∧ TX S' t (l ++ (lo.drop p).take (e - p)) ∧ FR S S' t := by
  have e1 := TX_row h
  have e2 := TX_len h
  have e3 := TX_sz h
  have o1 := TX_row ho
  have o2 := TX_len ho
  have hcopy := h
  obtain ⟨f, h1, h2, h3, h4⟩ := h
  obtain ⟨f', h1', h2', h3', h4'⟩ := ho
  have em : (if (nI 600 - nI l.length) < ((if nI 600 < nI e then nI 600 else nI e) - nI p) then (nI 600 - nI l.length) else ((if nI 600 < nI e then nI 600 else nI e) - nI p)) = nI (e - p) := by
    rw [if_neg (show ¬ nI 600 < nI e from nI_nlt (by omega) (by decide)), nI_sub hpe, nI_sub (by omega), if_neg (nI_nlt (by omega) (by omega))]
  have hop : f_Text_addPart t (some a) (nI p) (nI e) S = if nI (e - p) ≤ 0 then some (S, ()) else (zs_cpl S 0 (a + 1) (nI p) (t + 1) (nI l.length) (nI (e - p))).bind fun S29 => (zs_gi S29 t 0 1).bind fun x31 => (zs_p S29 t 0 1 (.int (x31 + nI (e - p)))).bind fun S33 => some (S33, ()) := by
    unfold f_Text_addPart f_Text_addPart_71
    simp only [Option.bind_some, e1, e2, e3, o1, o2]
    rw [if_neg (nI_pos (show p < 2 ^ 31 by omega)), if_neg (nI_pos (show l.length < 2 ^ 31 by omega)), em]
  rw [hop]
  by_cases hz : e - p = 0
  · rw [if_pos (by rw [hz, nI_0]; exact Int32.le_refl 0), hz]
    exact ⟨S, rfl, by simpa using hcopy, FR_r S t⟩
  · rw [if_neg (nI_nle (by omega) (by omega)), z_cpl h2' h2 (by omega) hl (by decide) (by decide)]
    have k1 : (zq_u S (t + 1) (.inl (0, 600, .inr (.inl (va_cpy f' f p l.length (e - p)))))).1 t = some (.inr (0, [.ref (t + 1), .int (nI l.length)])) := (u_ne _ _ (by omega)).trans h1
    have hlen : (l ++ (lo.drop p).take (e - p)).length = l.length + (e - p) := by simp; omega
    refine ⟨zq_u (zq_u S (t + 1) (.inl (0, 600, .inr (.inl (va_cpy f' f p l.length (e - p)))))) t (.inr (0, [.ref (t + 1), .int (nI (l ++ (lo.drop p).take (e - p)).length)])), ?_, ⟨va_cpy f' f p l.length (e - p), u_at _ _ _, ?_, by omega, fun i hi => ?_⟩, fun q a b => ?_, rfl⟩
    · simp only [Option.bind_some]
      rw [z_gi k1 rfl, Option.bind_some, z_p k1 (by simp), Option.bind_some, nI_add, hlen]; rfl
    · exact (u_ne _ _ (by omega)).trans (u_at _ _ _)
    · rw [hlen] at hi
      unfold va_cpy
      by_cases hil : i < l.length
      · rw [List.getElem?_append_left hil, h4 i hil, if_neg (by omega)]
      · rw [List.getElem?_append_right (by omega), List.getElem?_take_of_lt (by omega), List.getElem?_drop, h4' _ (by omega), if_pos (by omega)]
    · exact (u_ne _ _ a).trans (u_ne _ _ b)
section TW
variable {S : zq_S} {a t : Nat} {l l' : List Int64}
theorem l_cw42 (ho : TX S a l) (h : TX S t l') {p : Nat} : ∀ k fuel q, p + q + k = min l.length l'.length → k < fuel → g_Text_weightOfChangeTo_42 fuel a (some t) (nI (min l.length l'.length)) (nI p) (nI q) S = f_Text_weightOfChangeTo_86 a (some t) (nI p) (nI (tlF (fl l) l.length (fl l') l'.length k q)) S := by
  have l6 : l.length ≤ 600 := by obtain ⟨f, _, _, h3, _⟩ := ho; exact h3
  have l6' : l'.length ≤ 600 := by obtain ⟨f, _, _, h3, _⟩ := h; exact h3
  intro k
  induction k with
  | zero =>
    intro fuel q hq hf
    obtain ⟨fuel, rfl⟩ : ∃ m, fuel = m + 1 := ⟨fuel - 1, by omega⟩
    show f_Text_weightOfChangeTo_42 _ _ _ _ _ _ _ = _
    unfold f_Text_weightOfChangeTo_42
    rw [nI_sub (by omega), if_pos (nI_le (by omega) (by omega))]; rfl
  | succ k ih =>
    intro fuel q hq hf
    obtain ⟨fuel, rfl⟩ : ∃ m, fuel = m + 1 := ⟨fuel - 1, by omega⟩
    show f_Text_weightOfChangeTo_42 _ _ _ _ _ _ _ = _
    unfold f_Text_weightOfChangeTo_42
    rw [nI_sub (by omega), if_neg (nI_ge (by omega) (by omega))]
    simp only [TX_sz ho, TX_sz h, TX_is ho, TX_is h, if_true, Option.bind_some]
    rw [nI_s1 (show 1 ≤ l.length by omega), nI_sub (show q ≤ l.length - 1 by omega), TX_at ho (by omega), zb_S]
    simp only [TX_sz h, TX_is h, if_true, Option.bind_some]
    rw [nI_s1 (show 1 ≤ l'.length by omega), nI_sub (show q ≤ l'.length - 1 by omega), TX_at h (by omega), zb_S]
    simp only [lcmp0, nI_1]
    unfold tlF
    split
    · exact ih fuel (q + 1) (by omega) (by omega)
    · rfl
theorem l_cw14 (ho : TX S a l) (h : TX S t l') : ∀ k fuel p, p + k = min l.length l'.length → k < fuel → g_Text_weightOfChangeTo_14 fuel a (some t) (nI (min l.length l'.length)) (nI p) S = f_Text_weightOfChangeTo_39 a (some t) (nI (min l.length l'.length)) (nI (hdF (fl l) (fl l') k p)) S := by
  have l6 : l.length ≤ 600 := by obtain ⟨f, _, _, h3, _⟩ := ho; exact h3
  have l6' : l'.length ≤ 600 := by obtain ⟨f, _, _, h3, _⟩ := h; exact h3
  intro k
  induction k with
  | zero =>
    intro fuel q hq hf
    obtain ⟨fuel, rfl⟩ : ∃ m, fuel = m + 1 := ⟨fuel - 1, by omega⟩
    show f_Text_weightOfChangeTo_14 _ _ _ _ _ _ = _
    unfold f_Text_weightOfChangeTo_14
    rw [if_pos (nI_le (by omega) (by omega))]; rfl
  | succ k ih =>
    intro fuel q hq hf
    obtain ⟨fuel, rfl⟩ : ∃ m, fuel = m + 1 := ⟨fuel - 1, by omega⟩
    show f_Text_weightOfChangeTo_14 _ _ _ _ _ _ = _
    unfold f_Text_weightOfChangeTo_14
    rw [if_neg (nI_ge (by omega) (by omega))]
    simp only [TX_is ho, TX_is h, if_true, Option.bind_some]
    rw [TX_at ho (by omega), zb_S]
    simp only [TX_is h, if_true]
    rw [TX_at h (by omega), zb_S]
    simp only [lcmp0, nI_1]
    unfold hdF
    split
    · exact ih fuel (q + 1) (by omega) (by omega)
    · rfl
theorem TX_wt (ho : TX S a l) (h : TX S t l') : f_Text_weightOfChangeTo a (some t) S = some (S, nI (wt l l')) := by
  have l6 : l.length ≤ 600 := by obtain ⟨f, _, _, h3, _⟩ := ho; exact h3
  have l6' : l'.length ≤ 600 := by obtain ⟨f, _, _, h3, _⟩ := h; exact h3
  have h1 := hdL_le l l'
  have h2 := tlL_le l l'
  have em : (if nI l'.length < nI l.length then nI l'.length else nI l.length) = nI (min l.length l'.length) := by
    by_cases hc : l'.length < l.length
    · rw [if_pos (nI_lt hc (by omega)), Nat.min_eq_right (by omega)]
    · rw [if_neg (nI_nlt (by omega) (by omega)), Nat.min_eq_left (by omega)]
  unfold f_Text_weightOfChangeTo
  simp only [TX_sz ho, TX_sz h, Option.bind_some]
  rw [em, ← nI_0, l_cw14 ho h (min l.length l'.length) zq_F 0 (by omega) (zF_lt (by omega))]
  unfold f_Text_weightOfChangeTo_39
  rw [← nI_0]
  have e2 := l_cw42 ho h (p := hdL l l') (min l.length l'.length - hdL l l') zq_F 0 (by omega) (zF_lt (by omega))
  unfold hdL at e2
  rw [e2]
  unfold f_Text_weightOfChangeTo_86
  simp only [TX_sz ho, TX_sz h, Option.bind_some]
  have e3 : ((nI l.length + nI l'.length) - ((2 : Int32) * (nI (hdL l l') + nI (tlL l l')))) = nI (wt l l') := by
    rw [nI_add, nI_add, show (2 : Int32) = nI 2 from rfl, nI_mul, nI_sub (by omega)]; rfl
  unfold tlL hdL at e3
  rw [e3]
end TW
