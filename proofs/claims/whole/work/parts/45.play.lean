/-! a command played: erase, format, accept, reject -/
def pr (kind b t a : Nat) : Nat → List Int64 → List Int64
  | 0, r => r
  | _ + 1, [] => []
  | m + 1, x :: xs => (bec kind b t a x).toList ++ pr kind b t a m xs
def chg (kind b t a : Nat) (x : Int64) : Nat := if kind = 2 then (if pt x 1 = a then 0 else 1) else (if bec kind b t a x = some x then 0 else 1)
def ct (kind b t a : Nat) : Nat → List Int64 → Nat
  | 0, _ => 0
  | _ + 1, [] => 0
  | m + 1, x :: xs => chg kind b t a x + ct kind b t a m xs
def dd (kind : Nat) (x y : Int64) : Nat := if kind = 2 then (if pt x 1 = pt y 1 then 0 else 1) else (if x = y then 0 else 1)
theorem nIpt (x y : Int64) (k : Nat) : (nI (pt x k) = nI (pt y k)) ↔ pt x k = pt y k := nI_eq (by have := pt_lt x k; omega) (by have := pt_lt y k; omega)
theorem nIz (a : Nat) : nI a + (0 : Int32) = nI a := by rw [← nI_0, nI_add, Nat.add_zero]
theorem nI1z : ¬ ((1 : Int32) = 0) := by decide
theorem nI01 : (0 : Int32) = nI 0 := rfl
section PL
variable (c : Nat) (I : Nat → Int32) (E : Nat → Nat → Int32) (B : Nat → Option zq_E) (n : Nat)
theorem s151 (A : Nat → Nat → Int64) (w : Nat) {K : Nat → Int32 → Int32 → Int32 → Int32 → Int32 → Int32 → Int32 → Int32 → Int32 → Int32 → zq_S → Option (zq_S × Int32)} {kind ql acc k : Nat} {v6 v7 v8 v9 v10 v13 : Int32} {x y : Int64} (hy : 0 ≤ lg_cmp y 0) (hq : ql < 600) (hk : kind < 5) : f_Mo_play_151 K c (nI kind) v6 v7 v8 v9 v10 (nI ql) (nI acc) v13 (nI k) x y (mo c I A E B n w) = K c (nI kind) v6 v7 v8 v9 v10 (nI (ql + 1)) (nI (acc + dd kind x y)) v13 (nI (k + 1)) (mo c I (va_up A 0 (vp_updL (A 0) ql y)) E B n (w + 1)) := by
  unfold f_Mo_play_151 f_Mo_play_195 f_Mo_play_209 f_Mo_play_234 dd
  have e2 : (nI kind = (2 : Int32)) ↔ kind = 2 := nIk (j := 2) hk (by decide)
  simp only [e2, mpart1, zb_S, nIpt, lcmp0, if_pos hy, mo_is, mo_g0, mo_g1, mo_g2, mo_g3, mo_g5, mo_g7, mo_g9, mo_g12, mo_g13, mo_g17, mo_g18, mo_g19, mo_r4, mo_r6, mo_r8, mo_r10, mo_r11, mo_r14, mo_r15, mo_r16, mo_p0, mo_p1, mo_p2, mo_p3, mo_p5, mo_p7, mo_p9, mo_p12, mo_p13, mo_p17, mo_p18, mo_p19, Option.bind_some, zb_S, mo_s0 (hi := hq), nI_1, nIz, if_true, if_neg nI1z]
  by_cases h2 : kind = 2
  · by_cases h3 : pt x 1 = pt y 1 <;> simp [h2, h3]
  · by_cases h3 : x = y <;> simp [h2, h3]
theorem s151g (A : Nat → Nat → Int64) (w : Nat) {K : Nat → Int32 → Int32 → Int32 → Int32 → Int32 → Int32 → Int32 → Int32 → Int32 → Int32 → zq_S → Option (zq_S × Int32)} {kind ql acc k : Nat} {v6 v7 v8 v9 v10 v13 : Int32} {x : Int64} (hx : 0 ≤ lg_cmp x 0) (hk : kind < 5) (hk2 : kind ≠ 2) : f_Mo_play_151 K c (nI kind) v6 v7 v8 v9 v10 (nI ql) (nI acc) v13 (nI k) x (-1) (mo c I A E B n w) = K c (nI kind) v6 v7 v8 v9 v10 (nI ql) (nI (acc + 1)) v13 (nI (k + 1)) (mo c I A E B n w) := by
  unfold f_Mo_play_151 f_Mo_play_195 f_Mo_play_209 f_Mo_play_234
  have e2 : (nI kind = (2 : Int32)) ↔ kind = 2 := nIk (j := 2) hk (by decide)
  have hne : ¬ x = -1 := fun e => gone_neg (e ▸ hx)
  simp only [e2, lcmp0, if_neg gone_neg, if_neg hk2, if_neg hne, if_neg nI1z, nI_1]
theorem pr_nil (kind b t a m : Nat) : pr kind b t a m [] = [] := by cases m <;> rfl
theorem ct_nil (kind b t a m : Nat) : ct kind b t a m [] = 0 := by cases m <;> rfl
theorem bec_chg {kind b t a : Nat} {x y : Int64} (hb : b < 256) (ha : a < 256) (e : bec kind b t a x = some y) : dd kind x y = chg kind b t a x := by
  unfold dd chg
  by_cases h2 : kind = 2
  · subst h2
    unfold bec at e
    simp at e
    rw [← e, fmt_1 b t a x ha hb]
    simp
  · simp only [if_neg h2, e, Option.some.injEq]
    by_cases h : x = y
    · simp [h]
    · have h' : ¬ y = x := fun e => h e.symm
      simp [h, h']
theorem bec_gone {kind b t a : Nat} {x : Int64} (e : bec kind b t a x = none) : kind ≠ 2 ∧ chg kind b t a x = 1 := by
  have h2 : kind ≠ 2 := by
    intro h; subst h; unfold bec at e; simp at e
  refine ⟨h2, ?_⟩
  unfold chg
  rw [if_neg h2, e]; simp
theorem l_play {kind b t a pl m0 all : Nat} (hk : kind < 5) (hb : b < 256) (hb0 : b ≠ 0) (ht : t < 256) (ha : a < 256) (h6 : all ≤ 600) (hat : pl + m0 ≤ 600) : ∀ (rest : List Int64) (fuel : Nat) (q : List Int64) (k m acc : Nat) (A : Nat → Nat → Int64) (w : Nat), rest.length < fuel → pl ≤ k → q.length ≤ k → k + rest.length = all → m = pl + m0 - k → (m0 = 0 → q.length = k) → rp (A 0) q → (∀ i, i < rest.length → rest[i]? = some (A 0 (k + i))) → (∀ x ∈ rest, V x) → ∃ (g : Nat → Int64) (w' : Nat), g_Mo_play_107 fuel c (nI kind) (nI b) (nI t) (nI a) (nI pl) (nI m0) (nI q.length) (nI acc) (nI all) (nI k) (mo c I A E B n w) = some (mo c (va_up I 3 (nI (q ++ pr kind b t a m rest).length)) (va_up A 0 g) E B n w', if kind = 1 then nI (q ++ pr kind b t a m rest).length else nI (acc + ct kind b t a m rest)) ∧ rp g (q ++ pr kind b t a m rest) := by
  intro rest
  induction rest with
  | nil =>
    intro fuel q k m acc A w hf hpl hq hka hm h0 hr hres hV
    obtain ⟨fuel, rfl⟩ : ∃ m, fuel = m + 1 := ⟨fuel - 1, by omega⟩
    have hka : k = all := by simpa using hka
    refine ⟨A 0, w + 1, ?_, ?_⟩
    · show f_Mo_play_107 _ _ _ _ _ _ _ _ _ _ _ _ _ = _
      have e1 : (nI kind = (1 : Int32)) ↔ kind = 1 := nIk (j := 1) hk (by decide)
      unfold f_Mo_play_107 f_Mo_play_253 f_Mo_play_271
      rw [if_pos (nI_le (by omega) (by omega)), pr_nil, ct_nil, List.append_nil]
      simp only [mo_is, mo_g0, mo_g1, mo_g2, mo_g3, mo_g5, mo_g7, mo_g9, mo_g12, mo_g13, mo_g17, mo_g18, mo_g19, mo_r4, mo_r6, mo_r8, mo_r10, mo_r11, mo_r14, mo_r15, mo_r16, mo_p0, mo_p1, mo_p2, mo_p3, mo_p5, mo_p7, mo_p9, mo_p12, mo_p13, mo_p17, mo_p18, mo_p19, Option.bind_some, zb_S, va_id, e1]
      by_cases hn : m0 = 0
      · have := h0 hn
        rw [if_pos (by rw [hn, nI_0]; exact Int32.le_refl _)]
        by_cases h1 : kind = 1 <;> simp [h1, va_up, ← hka, this]
      · rw [if_neg (nI_nle (by omega) (by omega))]
        by_cases h1 : kind = 1 <;> simp [h1, va_up]
    · rw [pr_nil, List.append_nil]; exact hr
  | cons x xs ih =>
    intro fuel q k m acc A w hf hpl hq hka hm h0 hr hres hV
    obtain ⟨fuel, rfl⟩ : ∃ m, fuel = m + 1 := ⟨fuel - 1, by omega⟩
    have hf' : xs.length < fuel := by simpa using hf
    have hka' : k + 1 + xs.length = all := by simp only [List.length_cons] at hka; omega
    have hx0 : A 0 k = x := by
      have := hres 0 (by simp)
      simpa using this.symm
    have hVx : V x := hV x (by simp)
    have hVs : ∀ y ∈ xs, V y := fun y hy => hV y (by simp [hy])
    have hrest : ∀ (A' : Nat → Int64), (∀ j, k < j → A' j = A 0 j) → ∀ i, i < xs.length → xs[i]? = some (A' (k + 1 + i)) := by
      intro A' hA i hi
      have := hres (i + 1) (by simp; omega)
      rw [hA _ (by omega)]
      simpa [Nat.add_assoc, Nat.add_comm, Nat.add_left_comm] using this
    have hkl : k < 600 := by omega
    have hop : ∀ (K : Nat → Int32 → Int32 → Int32 → Int32 → Int32 → Int32 → Int32 → Int32 → Int32 → Int32 → zq_S → Option (zq_S × Int32)), f_Mo_play_107 K c (nI kind) (nI b) (nI t) (nI a) (nI pl) (nI m0) (nI q.length) (nI acc) (nI all) (nI k) (mo c I A E B n w) = f_Mo_play_151 K c (nI kind) (nI b) (nI t) (nI a) (nI pl) (nI m0) (nI q.length) (nI acc) (nI all) (nI k) x (if pl + m0 ≤ k then x else (bec kind b t a x).getD (-1)) (mo c I A E B n w) := by
      intro K
      unfold f_Mo_play_107
      rw [if_neg (nI_ge (by omega) (by omega))]
      simp only [mo_is, mo_g0, mo_g1, mo_g2, mo_g3, mo_g5, mo_g7, mo_g9, mo_g12, mo_g13, mo_g17, mo_g18, mo_g19, mo_r4, mo_r6, mo_r8, mo_r10, mo_r11, mo_r14, mo_r15, mo_r16, mo_p0, mo_p1, mo_p2, mo_p3, mo_p5, mo_p7, mo_p9, mo_p12, mo_p13, mo_p17, mo_p18, mo_p19, Option.bind_some, zb_S, mo_l0 (hi := hkl), hx0, nI_add, mbec hVx hk hb ht ha]
      by_cases hc : pl + m0 ≤ k
      · rw [if_pos (nI_le hc (by omega)), if_pos hc]
      · rw [if_neg (nI_ge (by omega) (by omega)), if_neg hc]
    show ∃ (g : Nat → Int64) (w' : Nat), f_Mo_play_107 _ _ _ _ _ _ _ _ _ _ _ _ _ = _ ∧ _
    rw [hop]
    by_cases hc : pl + m0 ≤ k
    · have hm0 : m = 0 := by omega
      subst hm0
      rw [if_pos hc, s151 c I E B n A w (V_nn hVx) (by omega) hk]
      have hdd : dd kind x x = 0 := by unfold dd; simp
      rw [show acc + dd kind x x = acc by rw [hdd]; rfl]
      obtain ⟨g, w', e, hg⟩ := ih fuel (q ++ [x]) (k + 1) 0 acc (va_up A 0 (vp_updL (A 0) q.length x)) (w + 1) hf' (by omega) (by simp; omega) hka' (by omega) (fun h => by simp [h0 h]) (by rw [va_up_self]; exact rp_upd hr x) (by rw [va_up_self]; exact hrest _ (fun j hj => updL_ne _ _ (by omega))) hVs
      refine ⟨g, w', ?_, ?_⟩
      · rw [List.length_append, List.length_singleton] at e
        rw [e]
        simp only [pr, ct, List.append_assoc, List.singleton_append, va_uu]
      · simpa [pr] using hg
    · obtain ⟨m, rfl⟩ : ∃ j, m = j + 1 := ⟨m - 1, by omega⟩
      rw [if_neg hc]
      cases hbe : bec kind b t a x with
      | none =>
        obtain ⟨hk2, hch⟩ := bec_gone hbe
        rw [Option.getD_none, s151g c I E B n A w (V_nn hVx) hk hk2]
        obtain ⟨g, w', e, hg⟩ := ih fuel q (k + 1) m (acc + 1) A w hf' (by omega) (by omega) hka' (by omega) (fun h => absurd hc (by omega)) hr (hrest _ (fun j hj => rfl)) hVs
        refine ⟨g, w', ?_, ?_⟩
        · rw [e]
          simp only [pr, ct, hbe, Option.toList, List.nil_append, hch, Nat.add_assoc]
        · simpa [pr, hbe] using hg
      | some y =>
        have hVy := bec_V hVx hb hb0 ha hbe
        rw [Option.getD_some, s151 c I E B n A w (V_nn hVy) (by omega) hk, bec_chg hb ha hbe]
        obtain ⟨g, w', e, hg⟩ := ih fuel (q ++ [y]) (k + 1) m (acc + chg kind b t a x) (va_up A 0 (vp_updL (A 0) q.length y)) (w + 1) hf' (by omega) (by simp; omega) hka' (by omega) (fun h => absurd hc (by omega)) (by rw [va_up_self]; exact rp_upd hr y) (by rw [va_up_self]; exact hrest _ (fun j hj => updL_ne _ _ (by omega))) hVs
        refine ⟨g, w', ?_, ?_⟩
        · rw [List.length_append, List.length_singleton] at e
          rw [e]
          simp only [pr, ct, hbe, Option.toList, List.append_assoc, List.singleton_append, va_uu, Nat.add_assoc]
        · simpa [pr, hbe] using hg
end PL
