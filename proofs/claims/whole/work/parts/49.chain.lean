/-! commands one after another, and the reference's loops that play them -/
def ST (x s : Int64) (l l' : List Int64) : Prop := ∃ kind au t num pl m, x = cmd kind au t num pl m ∧ PK kind au t num pl m s l ∧ l' = ed kind au t num pl m s l
def CH (C D : Nat → Int64) : Nat → Nat → List Int64 → List Int64 → Prop
  | _, 0, l, l' => l = l'
  | i, k + 1, l, l' => ∃ l1, ST (C i) (D i) l l1 ∧ CH C D (i + 1) k l1 l'
theorem CH_sh {C D C' D' : Nat → Int64} {o : Nat} {l' : List Int64} : ∀ k i l, (∀ j, i ≤ j → j < i + k → C' j = C (j + o) ∧ D' j = D (j + o)) → CH C D (i + o) k l l' → CH C' D' i k l l' := by
  intro k
  induction k with
  | zero => intro i l _ h; exact h
  | succ k ih =>
    intro i l hc h
    obtain ⟨l1, h1, h2⟩ := h
    refine ⟨l1, ?_, ih (i + 1) l1 (fun j a b => hc j (by omega) (by omega)) (by rwa [show i + 1 + o = i + o + 1 by omega])⟩
    rw [(hc i (by omega) (by omega)).1, (hc i (by omega) (by omega)).2]; exact h1
theorem CH_app {C D : Nat → Int64} {m : Nat} {l1 l2 : List Int64} : ∀ k i l, CH C D i k l l1 → CH C D (i + k) m l1 l2 → CH C D i (k + m) l l2 := by
  intro k
  induction k with
  | zero => intro i l h1 h2; cases h1; rwa [Nat.zero_add]
  | succ k ih =>
    intro i l h1 h2
    obtain ⟨l3, a, b⟩ := h1
    rw [show k + 1 + m = (k + m) + 1 by omega]
    exact ⟨l3, a, ih (i + 1) l3 b (by rwa [show i + 1 + k = i + (k + 1) by omega])⟩
theorem ST_len {x s : Int64} {l l' : List Int64} (h : ST x s l l') : l'.length ≤ 600 := by
  obtain ⟨kind, au, t, num, pl, m, _, h2, h3⟩ := h
  rw [h3]; exact ed_len h2
theorem CH_len {C D : Nat → Int64} {l' : List Int64} : ∀ k i l, CH C D i k l l' → l.length ≤ 600 → l'.length ≤ 600 := by
  intro k
  induction k with
  | zero => intro i l h hl; cases h; exact hl
  | succ k ih => intro i l h hl; obtain ⟨l1, a, b⟩ := h; exact ih (i + 1) l1 b (ST_len a)
theorem va_self {α : Type} {A : Nat → α} {k : Nat} {v : α} (h : A k = v) : va_up A k v = A := by rw [← h, va_id]
section RPL
variable (c : Nat) (E : Nat → Nat → Int32) (B : Nat → Option zq_E) (n : Nat)
theorem m_ST {x s : Int64} {l l' : List Int64} (h : ST x s l l') (I : Nat → Int32) (hl : I 3 = nI l.length) (A : Nat → Nat → Int64) (hr : rp (A 0) l) (w : Nat) : ∃ (a : Int32) (g : Nat → Int64) (w' : Nat), f_Mo_play c x s (mo c I A E B n w) = some (mo c (va_up I 3 (nI l'.length)) (va_up A 0 g) E B n w', a) ∧ rp g l' := by
  obtain ⟨kind, au, t, num, pl, m, h1, h2, h3⟩ := h
  subst h1 h3
  obtain ⟨g, w', e, hg⟩ := m_play c I E B n h2 hl A hr w
  exact ⟨_, g, w', e, hg⟩
theorem l_undo {d : Nat} (hd : d < 42) {l' : List Int64} : ∀ (k fuel i : Nat) (l : List Int64) (I : Nat → Int32) (A : Nat → Nat → Int64) (w : Nat), I 9 = nI (i + k) → I 12 = nI d → k < fuel → i + k ≤ 6000 → I 3 = nI l.length → rp (A 0) l → CH (A 3) (A 4) i k l l' → ∃ (g : Nat → Int64) (w' : Nat), g_Mo_undo_62 fuel c (nI i) (mo c I A E B n w) = some (mo c (va_up I 3 (nI l'.length)) (va_up A 0 g) E B n w', E 1 d) ∧ rp g l' := by
  intro k
  induction k with
  | zero =>
    intro fuel i l I A w h9 h12 hf h6 hl hr hc
    obtain ⟨fuel, rfl⟩ : ∃ m, fuel = m + 1 := ⟨fuel - 1, by omega⟩
    cases hc
    refine ⟨A 0, w, ?_, hr⟩
    show f_Mo_undo_62 _ _ _ _ = _
    unfold f_Mo_undo_62
    simp only [mo_is, mo_g0, mo_g1, mo_g2, mo_g3, mo_g5, mo_g7, mo_g9, mo_g12, mo_g13, mo_g17, mo_g18, mo_g19, mo_r4, mo_r6, mo_r8, mo_r10, mo_r11, mo_r14, mo_r15, mo_r16, mo_p0, mo_p1, mo_p2, mo_p3, mo_p5, mo_p7, mo_p9, mo_p12, mo_p13, mo_p17, mo_p18, mo_p19, Option.bind_some, zb_S, h9, h12, mo_i1 (hi := hd), Nat.add_zero]
    rw [if_pos (nI_le (by omega) (by omega)), va_self hl, va_id]
  | succ k ih =>
    intro fuel i l I A w h9 h12 hf h6 hl hr hc
    obtain ⟨fuel, rfl⟩ : ∃ m, fuel = m + 1 := ⟨fuel - 1, by omega⟩
    obtain ⟨l1, hs, hc⟩ := hc
    obtain ⟨a, g1, w1, e1, hg1⟩ := m_ST c E B n hs I hl A hr w
    obtain ⟨g, w', e, hg⟩ := ih fuel (i + 1) l1 (va_up I 3 (nI l1.length)) (va_up A 0 g1) w1 (by simp [va_up, h9]; congr 1; omega) (by simp [va_up, h12]) (by omega) (by omega) (va_up_self _ _ _) (by rw [va_up_self]; exact hg1) (by simpa [va_up] using hc)
    refine ⟨g, w', ?_, hg⟩
    show f_Mo_undo_62 _ _ _ _ = _
    unfold f_Mo_undo_62
    simp only [mo_is, mo_g0, mo_g1, mo_g2, mo_g3, mo_g5, mo_g7, mo_g9, mo_g12, mo_g13, mo_g17, mo_g18, mo_g19, mo_r4, mo_r6, mo_r8, mo_r10, mo_r11, mo_r14, mo_r15, mo_r16, mo_p0, mo_p1, mo_p2, mo_p3, mo_p5, mo_p7, mo_p9, mo_p12, mo_p13, mo_p17, mo_p18, mo_p19, Option.bind_some, zb_S, h9, h12, mo_l3 (hi := show i < 6000 by omega), mo_l4 (hi := show i < 6000 by omega), if_true]
    rw [if_neg (nI_ge (by omega) (by omega)), e1]
    simp only [zb_S, nI_1]
    rw [e, va_uu, va_uu]
theorem l_redo {d N : Nat} (hd : d < 42) (hE : E 0 d = nI N) {l' : List Int64} : ∀ (k fuel i : Nat) (l : List Int64) (I : Nat → Int32) (A : Nat → Nat → Int64) (w : Nat), i + k = N → I 12 = nI d → k < fuel → N ≤ 6000 → I 3 = nI l.length → rp (A 0) l → CH (A 3) (A 4) i k l l' → ∃ (g : Nat → Int64) (w' : Nat), g_Mo_redo_43 fuel c (nI i) (mo c I A E B n w) = some (mo c (va_up (va_up (va_up I 3 (nI l'.length)) 9 (nI N)) 12 (nI (d + 1))) (va_up A 0 g) E B n w', E 1 d) ∧ rp g l' := by
  intro k
  induction k with
  | zero =>
    intro fuel i l I A w hi h12 hf h6 hl hr hc
    obtain ⟨fuel, rfl⟩ : ∃ m, fuel = m + 1 := ⟨fuel - 1, by omega⟩
    cases hc
    refine ⟨A 0, w + 1 + 1, ?_, hr⟩
    show f_Mo_redo_43 _ _ _ _ = _
    unfold f_Mo_redo_43
    simp only [mo_is, mo_g0, mo_g1, mo_g2, mo_g3, mo_g5, mo_g7, mo_g9, mo_g12, mo_g13, mo_g17, mo_g18, mo_g19, mo_r4, mo_r6, mo_r8, mo_r10, mo_r11, mo_r14, mo_r15, mo_r16, mo_p0, mo_p1, mo_p2, mo_p3, mo_p5, mo_p7, mo_p9, mo_p12, mo_p13, mo_p17, mo_p18, mo_p19, Option.bind_some, zb_S, h12, mo_i0 (hi := hd), hE, va_up_ne I _ (show 12 ≠ 9 by decide), nI_1, va_up_self]
    rw [if_pos (nI_le (by omega) (by omega)), va_self hl, va_id, nI_s1 (by omega), show d + 1 - 1 = d by omega]
    simp only [mo_i1 (hi := hd), Option.bind_some]
  | succ k ih =>
    intro fuel i l I A w hi h12 hf h6 hl hr hc
    obtain ⟨fuel, rfl⟩ : ∃ m, fuel = m + 1 := ⟨fuel - 1, by omega⟩
    obtain ⟨l1, hs, hc⟩ := hc
    obtain ⟨a, g1, w1, e1, hg1⟩ := m_ST c E B n hs I hl A hr w
    obtain ⟨g, w', e, hg⟩ := ih fuel (i + 1) l1 (va_up I 3 (nI l1.length)) (va_up A 0 g1) w1 (by omega) (by simp [va_up, h12]) (by omega) (by omega) (va_up_self _ _ _) (by rw [va_up_self]; exact hg1) (by simpa [va_up] using hc)
    refine ⟨g, w', ?_, hg⟩
    show f_Mo_redo_43 _ _ _ _ = _
    unfold f_Mo_redo_43
    simp only [mo_is, mo_g0, mo_g1, mo_g2, mo_g3, mo_g5, mo_g7, mo_g9, mo_g12, mo_g13, mo_g17, mo_g18, mo_g19, mo_r4, mo_r6, mo_r8, mo_r10, mo_r11, mo_r14, mo_r15, mo_r16, mo_p0, mo_p1, mo_p2, mo_p3, mo_p5, mo_p7, mo_p9, mo_p12, mo_p13, mo_p17, mo_p18, mo_p19, Option.bind_some, zb_S, h12, mo_i0 (hi := hd), hE, mo_l3 (hi := show i < 6000 by omega), mo_l4 (hi := show i < 6000 by omega), if_true]
    rw [if_neg (nI_ge (by omega) (by omega)), e1]
    simp only [zb_S, nI_1]
    rw [e, va_uu, va_uu]
def ff2 (c : Nat) (v : Int32) (S : zq_S) : Option (zq_S × Unit) := f_Mo_forgetFirst_19 (fun _ _ _ _ => none) c v v S
theorem l_ff19 {N : Nat} (h6 : N ≤ 6000) {l' : List Int64} : ∀ (k fuel i : Nat) (l : List Int64) (I : Nat → Int32) (A : Nat → Nat → Int64) (w : Nat), i + k = N → k < fuel → I 3 = nI l.length → rp (A 0) l → CH (A 3) (A 4) i k l l' → ∃ (g : Nat → Int64) (w' : Nat), g_Mo_forgetFirst_19 fuel c (nI N) (nI i) (mo c I A E B n w) = ff2 c (nI N) (mo c (va_up I 3 (nI l'.length)) (va_up A 0 g) E B n w') ∧ rp g l' := by
  intro k
  induction k with
  | zero =>
    intro fuel i l I A w hi hf hl hr hc
    obtain ⟨fuel, rfl⟩ : ∃ m, fuel = m + 1 := ⟨fuel - 1, by omega⟩
    cases hc
    refine ⟨A 0, w, ?_, hr⟩
    show f_Mo_forgetFirst_19 _ _ _ _ _ = _
    unfold ff2 f_Mo_forgetFirst_19
    rw [if_pos (nI_le (by omega) (by omega)), if_pos (nI_le (by omega) (by omega)), va_self hl, va_id]
  | succ k ih =>
    intro fuel i l I A w hi hf hl hr hc
    obtain ⟨fuel, rfl⟩ : ∃ m, fuel = m + 1 := ⟨fuel - 1, by omega⟩
    obtain ⟨l1, hs, hc⟩ := hc
    obtain ⟨a, g1, w1, e1, hg1⟩ := m_ST c E B n hs I hl A hr w
    obtain ⟨g, w', e, hg⟩ := ih fuel (i + 1) l1 (va_up I 3 (nI l1.length)) (va_up A 0 g1) w1 (by omega) (by omega) (va_up_self _ _ _) (by rw [va_up_self]; exact hg1) (by simpa [va_up] using hc)
    refine ⟨g, w', ?_, hg⟩
    show f_Mo_forgetFirst_19 _ _ _ _ _ = _
    unfold f_Mo_forgetFirst_19
    rw [if_neg (nI_ge (by omega) (by omega))]
    simp only [mo_is, mo_g0, mo_g1, mo_g2, mo_g3, mo_g5, mo_g7, mo_g9, mo_g12, mo_g13, mo_g17, mo_g18, mo_g19, mo_r4, mo_r6, mo_r8, mo_r10, mo_r11, mo_r14, mo_r15, mo_r16, mo_p0, mo_p1, mo_p2, mo_p3, mo_p5, mo_p7, mo_p9, mo_p12, mo_p13, mo_p17, mo_p18, mo_p19, Option.bind_some, zb_S, mo_l3 (hi := show i < 6000 by omega), mo_l4 (hi := show i < 6000 by omega), if_true]
    rw [e1]
    simp only [zb_S, nI_1]
    rw [e, va_uu, va_uu]
theorem l_ff61 (I : Nat → Int32) {len N : Nat} (hl : I 3 = nI len) (h6 : len ≤ 600) : ∀ (k fuel i : Nat) (A : Nat → Nat → Int64) (w : Nat), i + k = len → k < fuel → ∃ (W : Nat → Int64) (w' : Nat), g_Mo_forgetFirst_61 fuel c (nI N) (nI i) (mo c I A E B n w) = g_Mo_forgetFirst_89 zq_F c (nI N) (nI N) (mo c I (va_up A 0 W) E B n w') ∧ (∀ j, j < i → W j = A 0 j) ∧ ∀ j, i ≤ j → j < len → W j = A 1 j := by
  intro k
  induction k with
  | zero =>
    intro fuel i A w hi hf
    obtain ⟨fuel, rfl⟩ : ∃ m, fuel = m + 1 := ⟨fuel - 1, by omega⟩
    have hi : i = len := by omega
    subst hi
    refine ⟨A 0, w, ?_, fun j _ => rfl, fun j h1 h2 => absurd h2 (by omega)⟩
    show f_Mo_forgetFirst_61 _ _ _ _ _ = _
    unfold f_Mo_forgetFirst_61
    simp only [mo_is, mo_g0, mo_g1, mo_g2, mo_g3, mo_g5, mo_g7, mo_g9, mo_g12, mo_g13, mo_g17, mo_g18, mo_g19, mo_r4, mo_r6, mo_r8, mo_r10, mo_r11, mo_r14, mo_r15, mo_r16, mo_p0, mo_p1, mo_p2, mo_p3, mo_p5, mo_p7, mo_p9, mo_p12, mo_p13, mo_p17, mo_p18, mo_p19, Option.bind_some, zb_S, hl, va_id]
    rw [if_pos (nI_le (Nat.le_refl _) (by omega))]
  | succ k ih =>
    intro fuel i A w hi hf
    obtain ⟨fuel, rfl⟩ : ∃ m, fuel = m + 1 := ⟨fuel - 1, by omega⟩
    obtain ⟨W, w', e, h1, h2⟩ := ih fuel (i + 1) (va_up A 0 (vp_updL (A 0) i (A 1 i))) (w + 1) (by omega) (by omega)
    refine ⟨W, w', ?_, fun j hj => ?_, fun j hj hj2 => ?_⟩
    · show f_Mo_forgetFirst_61 _ _ _ _ _ = _
      unfold f_Mo_forgetFirst_61
      simp only [mo_is, mo_g0, mo_g1, mo_g2, mo_g3, mo_g5, mo_g7, mo_g9, mo_g12, mo_g13, mo_g17, mo_g18, mo_g19, mo_r4, mo_r6, mo_r8, mo_r10, mo_r11, mo_r14, mo_r15, mo_r16, mo_p0, mo_p1, mo_p2, mo_p3, mo_p5, mo_p7, mo_p9, mo_p12, mo_p13, mo_p17, mo_p18, mo_p19, Option.bind_some, zb_S, hl]
      rw [if_neg (nI_ge (by omega) (by omega))]
      simp only [mo_is, mo_g0, mo_g1, mo_g2, mo_g3, mo_g5, mo_g7, mo_g9, mo_g12, mo_g13, mo_g17, mo_g18, mo_g19, mo_r4, mo_r6, mo_r8, mo_r10, mo_r11, mo_r14, mo_r15, mo_r16, mo_p0, mo_p1, mo_p2, mo_p3, mo_p5, mo_p7, mo_p9, mo_p12, mo_p13, mo_p17, mo_p18, mo_p19, Option.bind_some, zb_S, mo_l1 (hi := show i < 600 by omega), mo_s0 (hi := show i < 600 by omega), nI_1]
      rw [e, va_uu]
    · rw [h1 j (by omega), va_up_self, updL_ne _ _ (by omega)]
    · by_cases hj3 : j = i
      · subst hj3; rw [h1 j (by omega), va_up_self, updL_at]
      · rw [h2 j (by omega) hj2, va_up_ne _ _ (by decide)]
theorem l_ff89 (I : Nat → Int32) {dn N : Nat} (h9 : I 9 = nI dn) (h6 : dn ≤ 6000) : ∀ (k fuel i : Nat) (A : Nat → Nat → Int64) (w : Nat), i + k = dn → N ≤ i → k < fuel → ∃ (C D : Nat → Int64) (w' : Nat), g_Mo_forgetFirst_89 fuel c (nI N) (nI i) (mo c I A E B n w) = g_Mo_forgetFirst_143 zq_F c (nI N) (1 : Int32) (mo c (va_up I 9 (nI (dn - N))) (va_up (va_up A 3 C) 4 D) E B n w') ∧ (∀ j, j + N < i → C j = A 3 j ∧ D j = A 4 j) ∧ ∀ j, i ≤ j + N → j + N < dn → C j = A 3 (j + N) ∧ D j = A 4 (j + N) := by
  intro k
  induction k with
  | zero =>
    intro fuel i A w hi hN hf
    obtain ⟨fuel, rfl⟩ : ∃ m, fuel = m + 1 := ⟨fuel - 1, by omega⟩
    have hi : i = dn := by omega
    subst hi
    refine ⟨A 3, A 4, w + 1, ?_, fun j _ => ⟨rfl, rfl⟩, fun j h1 h2 => absurd h2 (by omega)⟩
    show f_Mo_forgetFirst_89 _ _ _ _ _ = _
    unfold f_Mo_forgetFirst_89
    simp only [mo_is, mo_g0, mo_g1, mo_g2, mo_g3, mo_g5, mo_g7, mo_g9, mo_g12, mo_g13, mo_g17, mo_g18, mo_g19, mo_r4, mo_r6, mo_r8, mo_r10, mo_r11, mo_r14, mo_r15, mo_r16, mo_p0, mo_p1, mo_p2, mo_p3, mo_p5, mo_p7, mo_p9, mo_p12, mo_p13, mo_p17, mo_p18, mo_p19, Option.bind_some, zb_S, h9, va_id]
    rw [if_pos (nI_le (Nat.le_refl _) (by omega)), nI_sub hN]
  | succ k ih =>
    intro fuel i A w hi hN hf
    obtain ⟨fuel, rfl⟩ : ∃ m, fuel = m + 1 := ⟨fuel - 1, by omega⟩
    obtain ⟨C, D, w', e, h1, h2⟩ := ih fuel (i + 1) (va_up (va_up A 3 (vp_updL (A 3) (i - N) (A 3 i))) 4 (vp_updL (A 4) (i - N) (A 4 i))) (w + 1 + 1) (by omega) (by omega) (by omega)
    refine ⟨C, D, w', ?_, fun j hj => ?_, fun j hj hj2 => ?_⟩
    · show f_Mo_forgetFirst_89 _ _ _ _ _ = _
      unfold f_Mo_forgetFirst_89
      simp only [mo_is, mo_g0, mo_g1, mo_g2, mo_g3, mo_g5, mo_g7, mo_g9, mo_g12, mo_g13, mo_g17, mo_g18, mo_g19, mo_r4, mo_r6, mo_r8, mo_r10, mo_r11, mo_r14, mo_r15, mo_r16, mo_p0, mo_p1, mo_p2, mo_p3, mo_p5, mo_p7, mo_p9, mo_p12, mo_p13, mo_p17, mo_p18, mo_p19, Option.bind_some, zb_S, h9]
      rw [if_neg (nI_ge (by omega) (by omega))]
      simp only [mo_is, mo_g0, mo_g1, mo_g2, mo_g3, mo_g5, mo_g7, mo_g9, mo_g12, mo_g13, mo_g17, mo_g18, mo_g19, mo_r4, mo_r6, mo_r8, mo_r10, mo_r11, mo_r14, mo_r15, mo_r16, mo_p0, mo_p1, mo_p2, mo_p3, mo_p5, mo_p7, mo_p9, mo_p12, mo_p13, mo_p17, mo_p18, mo_p19, Option.bind_some, zb_S, nI_sub hN, mo_l3 (hi := show i < 6000 by omega), mo_l4 (hi := show i < 6000 by omega), mo_s3 (hi := show i - N < 6000 by omega), mo_s4 (hi := show i - N < 6000 by omega), va_up_ne A _ (show 4 ≠ 3 by decide), nI_1]
      rw [e]
      have q : va_up (va_up (va_up (va_up A 3 (vp_updL (A 3) (i - N) (A 3 i))) 4 (vp_updL (A 4) (i - N) (A 4 i))) 3 C) 4 D = va_up (va_up A 3 C) 4 D := by
        funext z; unfold va_up; by_cases z4 : z = 4 <;> by_cases z3 : z = 3 <;> simp [z3, z4]
      rw [q]
    · have := h1 j (by omega)
      simp [va_up] at this
      rw [this.1, this.2, updL_ne _ _ (by omega), updL_ne _ _ (by omega)]
      exact ⟨rfl, rfl⟩
    · by_cases hj3 : j + N = i
      · have := h1 j (by omega)
        simp [va_up] at this
        have hji : j = i - N := by omega
        rw [this.1, this.2, hji, updL_at, updL_at, show i - N + N = i by omega]
        exact ⟨rfl, rfl⟩
      · have := h2 j (by omega) hj2
        simp [va_up] at this
        rw [this.1, this.2, updL_ne _ _ (by omega), updL_ne _ _ (by omega)]
        exact ⟨rfl, rfl⟩
theorem l_ff143 (I : Nat → Int32) (A : Nat → Nat → Int64) {d N : Nat} (h12 : I 12 = nI d) (h6 : d ≤ 42) (hd : 1 ≤ d) : ∀ (k fuel i : Nat) (E : Nat → Nat → Int32) (w : Nat), i + k = d → 1 ≤ i → k < fuel → ∃ (E' : Nat → Nat → Int32) (w' : Nat), g_Mo_forgetFirst_143 fuel c (nI N) (nI i) (mo c I A E B n w) = some (mo c (va_up (va_up I 12 (nI (d - 1))) 13 (nI (d - 1))) A E' B n w', ()) ∧ (∀ j, j + 1 < i → E' 0 j = E 0 j ∧ E' 1 j = E 1 j ∧ E' 2 j = E 2 j) ∧ ∀ j, i ≤ j + 1 → j + 1 < d → E' 0 j = E 0 (j + 1) - nI N ∧ E' 1 j = E 1 (j + 1) ∧ E' 2 j = E 2 (j + 1) := by
  intro k
  induction k with
  | zero =>
    intro fuel i E w hi hN hf
    obtain ⟨fuel, rfl⟩ : ∃ m, fuel = m + 1 := ⟨fuel - 1, by omega⟩
    have hi : i = d := by omega
    subst hi
    refine ⟨E, w + 1 + 1, ?_, fun j _ => ⟨rfl, rfl, rfl⟩, fun j h1 h2 => absurd h2 (by omega)⟩
    show f_Mo_forgetFirst_143 _ _ _ _ _ = _
    unfold f_Mo_forgetFirst_143
    simp only [mo_is, mo_g0, mo_g1, mo_g2, mo_g3, mo_g5, mo_g7, mo_g9, mo_g12, mo_g13, mo_g17, mo_g18, mo_g19, mo_r4, mo_r6, mo_r8, mo_r10, mo_r11, mo_r14, mo_r15, mo_r16, mo_p0, mo_p1, mo_p2, mo_p3, mo_p5, mo_p7, mo_p9, mo_p12, mo_p13, mo_p17, mo_p18, mo_p19, Option.bind_some, zb_S, h12, va_up_self]
    rw [if_pos (nI_le (Nat.le_refl _) (by omega)), nI_s1 hd]
  | succ k ih =>
    intro fuel i E w hi hN hf
    obtain ⟨fuel, rfl⟩ : ∃ m, fuel = m + 1 := ⟨fuel - 1, by omega⟩
    obtain ⟨E', w', e, h1, h2⟩ := ih fuel (i + 1) (va_up (va_up (va_up E 0 (upd (E 0) (i - 1) (E 0 i - nI N))) 1 (upd (E 1) (i - 1) (E 1 i))) 2 (upd (E 2) (i - 1) (E 2 i))) (w + 1 + 1 + 1) (by omega) (by omega) (by omega)
    refine ⟨E', w', ?_, fun j hj => ?_, fun j hj hj2 => ?_⟩
    · show f_Mo_forgetFirst_143 _ _ _ _ _ = _
      unfold f_Mo_forgetFirst_143
      simp only [mo_is, mo_g0, mo_g1, mo_g2, mo_g3, mo_g5, mo_g7, mo_g9, mo_g12, mo_g13, mo_g17, mo_g18, mo_g19, mo_r4, mo_r6, mo_r8, mo_r10, mo_r11, mo_r14, mo_r15, mo_r16, mo_p0, mo_p1, mo_p2, mo_p3, mo_p5, mo_p7, mo_p9, mo_p12, mo_p13, mo_p17, mo_p18, mo_p19, Option.bind_some, zb_S, h12]
      rw [if_neg (nI_ge (by omega) (by omega))]
      simp only [mo_is, mo_g0, mo_g1, mo_g2, mo_g3, mo_g5, mo_g7, mo_g9, mo_g12, mo_g13, mo_g17, mo_g18, mo_g19, mo_r4, mo_r6, mo_r8, mo_r10, mo_r11, mo_r14, mo_r15, mo_r16, mo_p0, mo_p1, mo_p2, mo_p3, mo_p5, mo_p7, mo_p9, mo_p12, mo_p13, mo_p17, mo_p18, mo_p19, Option.bind_some, zb_S, nI_s1 hN, mo_i0 (hi := show i < 42 by omega), mo_i1 (hi := show i < 42 by omega), mo_i2 (hi := show i < 42 by omega), mo_t0 (hi := show i - 1 < 42 by omega), mo_t1 (hi := show i - 1 < 42 by omega), mo_t2 (hi := show i - 1 < 42 by omega), va_up_ne E _ (show 1 ≠ 0 by decide), va_up_ne E _ (show 2 ≠ 0 by decide), va_up_ne (va_up E 0 _) _ (show 2 ≠ 1 by decide), nI_1]
      rw [e]
    · have := h1 j (by omega)
      simp [va_up] at this
      rw [this.1, this.2.1, this.2.2, upd_ne _ _ (by omega), upd_ne _ _ (by omega), upd_ne _ _ (by omega)]
      exact ⟨rfl, rfl, rfl⟩
    · by_cases hj3 : j + 1 = i
      · have := h1 j (by omega)
        simp [va_up] at this
        have hji : j = i - 1 := by omega
        rw [this.1, this.2.1, this.2.2, hji, upd_at, upd_at, upd_at, show i - 1 + 1 = i by omega]
        exact ⟨rfl, rfl, rfl⟩
      · have := h2 j (by omega) hj2
        simp [va_up] at this
        rw [this.1, this.2.1, this.2.2, upd_ne _ _ (by omega), upd_ne _ _ (by omega), upd_ne _ _ (by omega)]
        exact ⟨rfl, rfl, rfl⟩
end RPL
