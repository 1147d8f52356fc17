/-! copies of the reference's rows -/
def rp (f : Nat → Int64) (l : List Int64) : Prop := ∀ i, i < l.length → l[i]? = some (f i)
theorem va_id {α : Type} (A : Nat → α) (k : Nat) : va_up A k (A k) = A := by
  funext j; unfold va_up; split
  · rename_i h; rw [h]
  · rfl
theorem va_uu {α : Type} (A : Nat → α) (k : Nat) (x y : α) : va_up (va_up A k x) k y = va_up A k y := by
  funext j; unfold va_up; split <;> rfl
theorem va_sw {α : Type} (A : Nat → α) {j k : Nat} (h : j ≠ k) (x y : α) : va_up (va_up A j x) k y = va_up (va_up A k y) j x := by
  funext i; unfold va_up
  by_cases h1 : i = j
  · by_cases h2 : i = k
    · exact absurd (h1.symm.trans h2) h
    · simp [h1, h]
  · by_cases h2 : i = k
    · subst h2; simp [h1]
    · simp [h1, h2]
theorem updL_at (f : Nat → Int64) (k : Nat) (x : Int64) : vp_updL f k x k = x := by simp [vp_updL]
theorem updL_ne (f : Nat → Int64) {j k : Nat} (x : Int64) (h : j ≠ k) : vp_updL f k x j = f j := by simp [vp_updL, h]
theorem upd_at (f : Nat → Int32) (k : Nat) (x : Int32) : upd f k x k = x := by simp [upd]
theorem upd_ne (f : Nat → Int32) {j k : Nat} (x : Int32) (h : j ≠ k) : upd f k x j = f j := by simp [upd, h]
theorem zF_lt {k : Nat} (h : k < 100000) : k < zq_F := by unfold zq_F; omega
theorem rp_upd {f : Nat → Int64} {q : List Int64} (h : rp f q) (y : Int64) : rp (vp_updL f q.length y) (q ++ [y]) := by
  intro i hi
  rw [List.length_append, List.length_singleton] at hi
  by_cases h1 : i < q.length
  · rw [List.getElem?_append_left h1, h i h1, updL_ne _ _ (by omega)]
  · have : i = q.length := by omega
    subst this
    rw [List.getElem?_append_right (by omega), updL_at]; simp
theorem rp_len {f g : Nat → Int64} {l : List Int64} (h : rp f l) (hg : ∀ i, i < l.length → g i = f i) : rp g l := fun i hi => by rw [h i hi, hg i hi]
theorem rp_fun {f g : Nat → Int64} {l : List Int64} (h : rp f l) (h' : rp g l) {i : Nat} (hi : i < l.length) : f i = g i := by
  have := (h i hi).symm.trans (h' i hi); exact Option.some.inj this
section CP
variable (c : Nat) (I : Nat → Int32) (E : Nat → Nat → Int32) (B : Nat → Option zq_E) (n : Nat)
theorem l_keepWas {len : Nat} (hl : I 3 = nI len) (h6 : len ≤ 600) : ∀ (k fuel i : Nat) (A : Nat → Nat → Int64) (w : Nat), i + k = len → k < fuel → ∃ (W : Nat → Int64) (w' : Nat), g_Mo_keepWas_10 fuel c (nI i) (mo c I A E B n w) = some (mo c I (va_up A 1 W) E B n w', ()) ∧ (∀ j, j < i → W j = A 1 j) ∧ ∀ j, i ≤ j → j < len → W j = A 0 j := by
  intro k
  induction k with
  | zero =>
    intro fuel i A w hi hf
    obtain ⟨fuel, rfl⟩ : ∃ m, fuel = m + 1 := ⟨fuel - 1, by omega⟩
    have hi : i = len := by omega
    subst hi
    refine ⟨A 1, w, ?_, fun j _ => rfl, fun j h1 h2 => absurd h2 (by omega)⟩
    show f_Mo_keepWas_10 _ _ _ _ = _
    unfold f_Mo_keepWas_10
    simp only [mo_is, mo_g0, mo_g1, mo_g2, mo_g3, mo_g5, mo_g7, mo_g9, mo_g12, mo_g13, mo_g17, mo_g18, mo_g19, mo_r4, mo_r6, mo_r8, mo_r10, mo_r11, mo_r14, mo_r15, mo_r16, mo_p0, mo_p1, mo_p2, mo_p3, mo_p5, mo_p7, mo_p9, mo_p12, mo_p13, mo_p17, mo_p18, mo_p19, Option.bind_some, zb_S, hl, va_id]
    rw [if_pos (nI_le (Nat.le_refl _) (by omega))]
  | succ k ih =>
    intro fuel i A w hi hf
    obtain ⟨fuel, rfl⟩ : ∃ m, fuel = m + 1 := ⟨fuel - 1, by omega⟩
    obtain ⟨W, w', e, h1, h2⟩ := ih fuel (i + 1) (va_up A 1 (vp_updL (A 1) i (A 0 i))) (w + 1) (by omega) (by omega)
    refine ⟨W, w', ?_, fun j hj => ?_, fun j hj hj2 => ?_⟩
    · show f_Mo_keepWas_10 _ _ _ _ = _
      unfold f_Mo_keepWas_10
      simp only [mo_is, mo_g0, mo_g1, mo_g2, mo_g3, mo_g5, mo_g7, mo_g9, mo_g12, mo_g13, mo_g17, mo_g18, mo_g19, mo_r4, mo_r6, mo_r8, mo_r10, mo_r11, mo_r14, mo_r15, mo_r16, mo_p0, mo_p1, mo_p2, mo_p3, mo_p5, mo_p7, mo_p9, mo_p12, mo_p13, mo_p17, mo_p18, mo_p19, Option.bind_some, zb_S, hl]
      rw [if_neg (nI_ge (by omega) (by omega))]
      simp only [mo_is, mo_g0, mo_g1, mo_g2, mo_g3, mo_g5, mo_g7, mo_g9, mo_g12, mo_g13, mo_g17, mo_g18, mo_g19, mo_r4, mo_r6, mo_r8, mo_r10, mo_r11, mo_r14, mo_r15, mo_r16, mo_p0, mo_p1, mo_p2, mo_p3, mo_p5, mo_p7, mo_p9, mo_p12, mo_p13, mo_p17, mo_p18, mo_p19, Option.bind_some, zb_S, mo_l0 (hi := show i < 600 by omega), mo_s1 (hi := show i < 600 by omega), nI_1]
      rw [e, va_uu]
    · rw [h1 j (by omega), va_up_self, updL_ne _ _ (by omega)]
    · by_cases hj3 : j = i
      · subst hj3; rw [h1 j (by omega), va_up_self, updL_at]
      · rw [h2 j (by omega) hj2, va_up_ne _ _ (by decide)]
theorem m_keepWas {len : Nat} (hl : I 3 = nI len) (h6 : len ≤ 600) (A : Nat → Nat → Int64) (w : Nat) : ∃ (W : Nat → Int64) (w' : Nat), f_Mo_keepWas c (mo c I A E B n w) = some (mo c (va_up I 5 (nI len)) (va_up A 1 W) E B n w', ()) ∧ ∀ j, j < len → W j = A 0 j := by
  obtain ⟨W, w', e, h1, h2⟩ := l_keepWas c (va_up I 5 (nI len)) E B n (len := len) (by simp [va_up, hl]) h6 len zq_F 0 A (w + 1) (by omega) (zF_lt (by omega))
  refine ⟨W, w', ?_, fun j hj => h2 j (by omega) hj⟩
  unfold f_Mo_keepWas
  simp only [mo_is, mo_g0, mo_g1, mo_g2, mo_g3, mo_g5, mo_g7, mo_g9, mo_g12, mo_g13, mo_g17, mo_g18, mo_g19, mo_r4, mo_r6, mo_r8, mo_r10, mo_r11, mo_r14, mo_r15, mo_r16, mo_p0, mo_p1, mo_p2, mo_p3, mo_p5, mo_p7, mo_p9, mo_p12, mo_p13, mo_p17, mo_p18, mo_p19, Option.bind_some, zb_S, hl]
  rw [← nI_0, e]
theorem l_toBase {len : Nat} (hl : I 3 = nI len) (h6 : len ≤ 600) : ∀ (k fuel i : Nat) (A : Nat → Nat → Int64) (w : Nat), i + k = len → k < fuel → ∃ (W : Nat → Int64) (w' : Nat), g_Mo_toBase_10 fuel c (nI i) (mo c I A E B n w) = some (mo c I (va_up A 2 W) E B n w', ()) ∧ (∀ j, j < i → W j = A 2 j) ∧ ∀ j, i ≤ j → j < len → W j = A 0 j := by
  intro k
  induction k with
  | zero =>
    intro fuel i A w hi hf
    obtain ⟨fuel, rfl⟩ : ∃ m, fuel = m + 1 := ⟨fuel - 1, by omega⟩
    have hi : i = len := by omega
    subst hi
    refine ⟨A 2, w, ?_, fun j _ => rfl, fun j h1 h2 => absurd h2 (by omega)⟩
    show f_Mo_toBase_10 _ _ _ _ = _
    unfold f_Mo_toBase_10
    simp only [mo_is, mo_g0, mo_g1, mo_g2, mo_g3, mo_g5, mo_g7, mo_g9, mo_g12, mo_g13, mo_g17, mo_g18, mo_g19, mo_r4, mo_r6, mo_r8, mo_r10, mo_r11, mo_r14, mo_r15, mo_r16, mo_p0, mo_p1, mo_p2, mo_p3, mo_p5, mo_p7, mo_p9, mo_p12, mo_p13, mo_p17, mo_p18, mo_p19, Option.bind_some, zb_S, hl, va_id]
    rw [if_pos (nI_le (Nat.le_refl _) (by omega))]
  | succ k ih =>
    intro fuel i A w hi hf
    obtain ⟨fuel, rfl⟩ : ∃ m, fuel = m + 1 := ⟨fuel - 1, by omega⟩
    obtain ⟨W, w', e, h1, h2⟩ := ih fuel (i + 1) (va_up A 2 (vp_updL (A 2) i (A 0 i))) (w + 1) (by omega) (by omega)
    refine ⟨W, w', ?_, fun j hj => ?_, fun j hj hj2 => ?_⟩
    · show f_Mo_toBase_10 _ _ _ _ = _
      unfold f_Mo_toBase_10
      simp only [mo_is, mo_g0, mo_g1, mo_g2, mo_g3, mo_g5, mo_g7, mo_g9, mo_g12, mo_g13, mo_g17, mo_g18, mo_g19, mo_r4, mo_r6, mo_r8, mo_r10, mo_r11, mo_r14, mo_r15, mo_r16, mo_p0, mo_p1, mo_p2, mo_p3, mo_p5, mo_p7, mo_p9, mo_p12, mo_p13, mo_p17, mo_p18, mo_p19, Option.bind_some, zb_S, hl]
      rw [if_neg (nI_ge (by omega) (by omega))]
      simp only [mo_is, mo_g0, mo_g1, mo_g2, mo_g3, mo_g5, mo_g7, mo_g9, mo_g12, mo_g13, mo_g17, mo_g18, mo_g19, mo_r4, mo_r6, mo_r8, mo_r10, mo_r11, mo_r14, mo_r15, mo_r16, mo_p0, mo_p1, mo_p2, mo_p3, mo_p5, mo_p7, mo_p9, mo_p12, mo_p13, mo_p17, mo_p18, mo_p19, Option.bind_some, zb_S, mo_l0 (hi := show i < 600 by omega), mo_s2 (hi := show i < 600 by omega), nI_1]
      rw [e, va_uu]
    · rw [h1 j (by omega), va_up_self, updL_ne _ _ (by omega)]
    · by_cases hj3 : j = i
      · subst hj3; rw [h1 j (by omega), va_up_self, updL_at]
      · rw [h2 j (by omega) hj2, va_up_ne _ _ (by decide)]
theorem m_toBase {len : Nat} (hl : I 3 = nI len) (h6 : len ≤ 600) (A : Nat → Nat → Int64) (w : Nat) : ∃ (W : Nat → Int64) (w' : Nat), f_Mo_toBase c (mo c I A E B n w) = some (mo c (va_up I 7 (nI len)) (va_up A 2 W) E B n w', ()) ∧ ∀ j, j < len → W j = A 0 j := by
  obtain ⟨W, w', e, h1, h2⟩ := l_toBase c (va_up I 7 (nI len)) E B n (len := len) (by simp [va_up, hl]) h6 len zq_F 0 A (w + 1) (by omega) (zF_lt (by omega))
  refine ⟨W, w', ?_, fun j hj => h2 j (by omega) hj⟩
  unfold f_Mo_toBase
  simp only [mo_is, mo_g0, mo_g1, mo_g2, mo_g3, mo_g5, mo_g7, mo_g9, mo_g12, mo_g13, mo_g17, mo_g18, mo_g19, mo_r4, mo_r6, mo_r8, mo_r10, mo_r11, mo_r14, mo_r15, mo_r16, mo_p0, mo_p1, mo_p2, mo_p3, mo_p5, mo_p7, mo_p9, mo_p12, mo_p13, mo_p17, mo_p18, mo_p19, Option.bind_some, zb_S, hl]
  rw [← nI_0, e]
theorem l_fromBase {len : Nat} (hl : I 3 = nI len) (h6 : len ≤ 600) : ∀ (k fuel i : Nat) (A : Nat → Nat → Int64) (w : Nat), i + k = len → k < fuel → ∃ (W : Nat → Int64) (w' : Nat), g_Mo_fromBase_10 fuel c (nI i) (mo c I A E B n w) = some (mo c I (va_up A 0 W) E B n w', ()) ∧ (∀ j, j < i → W j = A 0 j) ∧ ∀ j, i ≤ j → j < len → W j = A 2 j := by
  intro k
  induction k with
  | zero =>
    intro fuel i A w hi hf
    obtain ⟨fuel, rfl⟩ : ∃ m, fuel = m + 1 := ⟨fuel - 1, by omega⟩
    have hi : i = len := by omega
    subst hi
    refine ⟨A 0, w, ?_, fun j _ => rfl, fun j h1 h2 => absurd h2 (by omega)⟩
    show f_Mo_fromBase_10 _ _ _ _ = _
    unfold f_Mo_fromBase_10
    simp only [mo_is, mo_g0, mo_g1, mo_g2, mo_g3, mo_g5, mo_g7, mo_g9, mo_g12, mo_g13, mo_g17, mo_g18, mo_g19, mo_r4, mo_r6, mo_r8, mo_r10, mo_r11, mo_r14, mo_r15, mo_r16, mo_p0, mo_p1, mo_p2, mo_p3, mo_p5, mo_p7, mo_p9, mo_p12, mo_p13, mo_p17, mo_p18, mo_p19, Option.bind_some, zb_S, hl, va_id]
    rw [if_pos (nI_le (Nat.le_refl _) (by omega))]
  | succ k ih =>
    intro fuel i A w hi hf
    obtain ⟨fuel, rfl⟩ : ∃ m, fuel = m + 1 := ⟨fuel - 1, by omega⟩
    obtain ⟨W, w', e, h1, h2⟩ := ih fuel (i + 1) (va_up A 0 (vp_updL (A 0) i (A 2 i))) (w + 1) (by omega) (by omega)
    refine ⟨W, w', ?_, fun j hj => ?_, fun j hj hj2 => ?_⟩
    · show f_Mo_fromBase_10 _ _ _ _ = _
      unfold f_Mo_fromBase_10
      simp only [mo_is, mo_g0, mo_g1, mo_g2, mo_g3, mo_g5, mo_g7, mo_g9, mo_g12, mo_g13, mo_g17, mo_g18, mo_g19, mo_r4, mo_r6, mo_r8, mo_r10, mo_r11, mo_r14, mo_r15, mo_r16, mo_p0, mo_p1, mo_p2, mo_p3, mo_p5, mo_p7, mo_p9, mo_p12, mo_p13, mo_p17, mo_p18, mo_p19, Option.bind_some, zb_S, hl]
      rw [if_neg (nI_ge (by omega) (by omega))]
      simp only [mo_is, mo_g0, mo_g1, mo_g2, mo_g3, mo_g5, mo_g7, mo_g9, mo_g12, mo_g13, mo_g17, mo_g18, mo_g19, mo_r4, mo_r6, mo_r8, mo_r10, mo_r11, mo_r14, mo_r15, mo_r16, mo_p0, mo_p1, mo_p2, mo_p3, mo_p5, mo_p7, mo_p9, mo_p12, mo_p13, mo_p17, mo_p18, mo_p19, Option.bind_some, zb_S, mo_l2 (hi := show i < 600 by omega), mo_s0 (hi := show i < 600 by omega), nI_1]
      rw [e, va_uu]
    · rw [h1 j (by omega), va_up_self, updL_ne _ _ (by omega)]
    · by_cases hj3 : j = i
      · subst hj3; rw [h1 j (by omega), va_up_self, updL_at]
      · rw [h2 j (by omega) hj2, va_up_ne _ _ (by decide)]
theorem m_fromBase {len : Nat} (hl : I 7 = nI len) (h6 : len ≤ 600) (A : Nat → Nat → Int64) (w : Nat) : ∃ (W : Nat → Int64) (w' : Nat), f_Mo_fromBase c (mo c I A E B n w) = some (mo c (va_up I 3 (nI len)) (va_up A 0 W) E B n w', ()) ∧ ∀ j, j < len → W j = A 2 j := by
  obtain ⟨W, w', e, h1, h2⟩ := l_fromBase c (va_up I 3 (nI len)) E B n (len := len) (by simp [va_up, hl]) h6 len zq_F 0 A (w + 1) (by omega) (zF_lt (by omega))
  refine ⟨W, w', ?_, fun j hj => h2 j (by omega) hj⟩
  unfold f_Mo_fromBase
  simp only [mo_is, mo_g0, mo_g1, mo_g2, mo_g3, mo_g5, mo_g7, mo_g9, mo_g12, mo_g13, mo_g17, mo_g18, mo_g19, mo_r4, mo_r6, mo_r8, mo_r10, mo_r11, mo_r14, mo_r15, mo_r16, mo_p0, mo_p1, mo_p2, mo_p3, mo_p5, mo_p7, mo_p9, mo_p12, mo_p13, mo_p17, mo_p18, mo_p19, Option.bind_some, zb_S, hl]
  rw [← nI_0, e]

end CP
