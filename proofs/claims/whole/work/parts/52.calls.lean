/-! the reference's calls that change something -/
theorem in_good {a b j : Nat} (h1 : a ≤ j) (h2 : j ≤ b) (hb : b < 2 ^ 31) (S : zq_S) : f_Mo_in (nI j) (nI a) (nI b) S = some (S, 1) := by
  unfold f_Mo_in f_Mo_in_15
  rw [if_neg (nI_nlt h1 (by omega)), if_neg (nI_nlt h2 (by omega))]; rfl
theorem in_bad {v : Int32} {a b : Nat} (ha : a < 2 ^ 31) (hb : b < 2 ^ 31) (h : ∀ j, a ≤ j → j ≤ b → v ≠ nI j) (S : zq_S) : f_Mo_in v (nI a) (nI b) S = some (S, 0) := by
  unfold f_Mo_in f_Mo_in_14 f_Mo_in_15
  by_cases h1 : v < nI a
  · rw [if_pos h1]; rfl
  · rw [if_neg h1]
    by_cases h2 : nI b < v
    · rw [if_pos h2]; rfl
    · exfalso
      have h0 : ¬ v < 0 := by
        intro hv
        refine h1 ?_
        rw [Int32.lt_iff_toInt_lt] at hv ⊢
        rw [nI_toInt ha]
        have : (0 : Int32).toInt = 0 := rfl
        omega
      obtain ⟨j, hj, e⟩ := nI_of h0
      subst e
      exact h j (Nat.not_lt.mp (fun hh => h1 (nI_lt hh ha))) (Nat.not_lt.mp (fun hh => h2 (nI_lt hh hj))) rfl
theorem nI_inj {a b : Nat} (ha : a < 2 ^ 31) (hb : b < 2 ^ 31) (h : nI a = nI b) : a = b := (nI_eq ha hb).mp h
def RNG (v1 v2 : Int32) (len : Nat) : Prop := ∃ pl m, v1 = nI pl ∧ v2 = nI m ∧ pl + m ≤ len
def PLC (v1 : Int32) (len : Nat) : Prop := ∃ pl, v1 = nI pl ∧ pl ≤ len
def BYT (v : Int32) : Prop := ∃ a, v = nI a ∧ a < 256
def SET (v : Int32) : Prop := ∃ a, v = nI a ∧ 1 ≤ a ∧ a < 256
theorem byt_good {a : Nat} (ha : a < 256) (S : zq_S) : f_Mo_in (nI a) (0 : Int32) (255 : Int32) S = some (S, 1) := in_good (a := 0) (b := 255) (Nat.zero_le _) (by omega) (by decide) S
theorem byt_bad {v : Int32} (h : ¬ BYT v) (S : zq_S) : f_Mo_in v (0 : Int32) (255 : Int32) S = some (S, 0) := in_bad (a := 0) (b := 255) (by decide) (by decide) (fun j _ hj e => h ⟨j, e, by omega⟩) S
theorem set_good {a : Nat} (h1 : 1 ≤ a) (ha : a < 256) (S : zq_S) : f_Mo_in (nI a) (1 : Int32) (255 : Int32) S = some (S, 1) := in_good (a := 1) (b := 255) h1 (by omega) (by decide) S
theorem set_bad {v : Int32} (h : ¬ SET v) (S : zq_S) : f_Mo_in v (1 : Int32) (255 : Int32) S = some (S, 0) := in_bad (a := 1) (b := 255) (by decide) (by decide) (fun j h1 hj e => h ⟨j, e, h1, by omega⟩) S
section CL
variable (c : Nat) (I : Nat → Int32) (A : Nat → Nat → Int64) (E : Nat → Nat → Int32) (B : Nat → Option zq_E) (n w : Nat)
theorem pl_good {len : Nat} (hl : I 3 = nI len) (h6 : len ≤ 600) {v : Int32} (h : PLC v len) : f_Mo_isPlace c v (mo c I A E B n w) = some (mo c I A E B n w, 1) := by
  obtain ⟨pl, rfl, hp⟩ := h
  unfold f_Mo_isPlace
  simp only [mo_is, mo_g0, mo_g1, mo_g2, mo_g3, mo_g5, mo_g7, mo_g9, mo_g12, mo_g13, mo_g17, mo_g18, mo_g19, mo_r4, mo_r6, mo_r8, mo_r10, mo_r11, mo_r14, mo_r15, mo_r16, mo_p0, mo_p1, mo_p2, mo_p3, mo_p5, mo_p7, mo_p9, mo_p12, mo_p13, mo_p17, mo_p18, mo_p19, Option.bind_some, zb_S, hl]
  rw [← nI_0, in_good (Nat.zero_le _) hp (by omega)]; rfl
theorem pl_bad {len : Nat} (hl : I 3 = nI len) (h6 : len ≤ 600) {v : Int32} (h : ¬ PLC v len) : f_Mo_isPlace c v (mo c I A E B n w) = some (mo c I A E B n w, 0) := by
  unfold f_Mo_isPlace
  simp only [mo_is, mo_g0, mo_g1, mo_g2, mo_g3, mo_g5, mo_g7, mo_g9, mo_g12, mo_g13, mo_g17, mo_g18, mo_g19, mo_r4, mo_r6, mo_r8, mo_r10, mo_r11, mo_r14, mo_r15, mo_r16, mo_p0, mo_p1, mo_p2, mo_p3, mo_p5, mo_p7, mo_p9, mo_p12, mo_p13, mo_p17, mo_p18, mo_p19, Option.bind_some, zb_S, hl]
  rw [← nI_0, in_bad (by decide) (by omega) (fun j _ hj e => h ⟨j, e, hj⟩)]; rfl
theorem rg_good {len : Nat} (hl : I 3 = nI len) (h6 : len ≤ 600) {v1 v2 : Int32} (h : RNG v1 v2 len) : f_Mo_isRange c v1 v2 (mo c I A E B n w) = some (mo c I A E B n w, 1) := by
  obtain ⟨pl, m, rfl, rfl, hp⟩ := h
  unfold f_Mo_isRange f_Mo_isRange_27
  simp only [mo_is, if_true]
  rw [pl_good c I A E B n w hl h6 ⟨pl, rfl, by omega⟩, zb_S, if_neg (by decide), mo_g3, Option.bind_some, hl, nI_sub (by omega), ← nI_0, in_good (Nat.zero_le _) (by omega) (by omega), zb_S, nI_0, if_neg (by decide)]; rfl
theorem rg_bad {len : Nat} (hl : I 3 = nI len) (h6 : len ≤ 600) {v1 v2 : Int32} (h : ¬ RNG v1 v2 len) : f_Mo_isRange c v1 v2 (mo c I A E B n w) = some (mo c I A E B n w, 0) := by
  unfold f_Mo_isRange f_Mo_isRange_26 f_Mo_isRange_27
  simp only [mo_is, if_true]
  by_cases hp : PLC v1 len
  · rw [pl_good c I A E B n w hl h6 hp, zb_S, if_neg (by decide), mo_g3, Option.bind_some, hl]
    obtain ⟨pl, rfl, hp⟩ := hp
    rw [nI_sub hp, ← nI_0, in_bad (by decide) (by omega) (fun j _ hj e => h ⟨pl, j, rfl, e, by omega⟩), zb_S, nI_0, if_pos rfl]; rfl
  · rw [pl_bad c I A E B n w hl h6 hp, zb_S, if_pos rfl]; rfl
theorem RM_0 {I A E} {au tr op : Nat} {tx : List Int64} {sn : Nat → List Int64} {ge gw : Nat → Nat} {d u oe ow : Nat} (h : RM I A E au tr op tx sn ge gw d u oe ow) (x : Int32) : RM (va_up I 0 x) A E au tr op tx sn ge gw d u oe ow := by
  obtain ⟨r1, r2, r3, r4, r17, r18, r12, r13, rE, rC, r7, rB, r9, r9'⟩ := h
  exact ⟨by simp [va_up, r1], by simp [va_up, r2], by simp [va_up, r3], r4, by simp [va_up, r17], fun h => by simp [va_up, r18 h], by simp [va_up, r12], by simp [va_up, r13], rE, rC, by simp [va_up, r7], rB, fun h => by simp [va_up, r9 h], fun h h' => by simpa [va_up] using r9' h h'⟩
theorem m_author_good {a : Nat} (ha : a < 8) : f_Mo_author c (nI a) (mo c I A E B n w) = some (mo c (va_up (va_up I 0 0) 1 (nI a)) A E B n (w + 1 + 1), I 1) := by
  unfold f_Mo_author f_Mo_author_16
  rw [show (0 : Int32) = nI 0 from rfl, show (7 : Int32) = nI 7 from rfl, in_good (Nat.zero_le _) (by omega) (by decide), zb_S, nI_0, if_neg (by decide)]
  simp only [mo_is, mo_g0, mo_g1, mo_g2, mo_g3, mo_g5, mo_g7, mo_g9, mo_g12, mo_g13, mo_g17, mo_g18, mo_g19, mo_r4, mo_r6, mo_r8, mo_r10, mo_r11, mo_r14, mo_r15, mo_r16, mo_p0, mo_p1, mo_p2, mo_p3, mo_p5, mo_p7, mo_p9, mo_p12, mo_p13, mo_p17, mo_p18, mo_p19, Option.bind_some, zb_S, va_up_self, va_up_ne I _ (show 1 ≠ 0 by decide)]
  rw [if_pos (Int32.le_refl 0)]
theorem m_author_bad {v : Int32} (h : ∀ a, a < 8 → v ≠ nI a) : f_Mo_author c v (mo c I A E B n w) = some (mo c (va_up I 0 1) A E B n (w + 1), 0) := by
  unfold f_Mo_author f_Mo_author_16
  rw [show (0 : Int32) = nI 0 from rfl, show (7 : Int32) = nI 7 from rfl, in_bad (by decide) (by decide) (fun j _ hj => h j (by omega)), zb_S, nI_0, if_pos rfl]
  simp only [mo_is, mo_g0, mo_g1, mo_g2, mo_g3, mo_g5, mo_g7, mo_g9, mo_g12, mo_g13, mo_g17, mo_g18, mo_g19, mo_r4, mo_r6, mo_r8, mo_r10, mo_r11, mo_r14, mo_r15, mo_r16, mo_p0, mo_p1, mo_p2, mo_p3, mo_p5, mo_p7, mo_p9, mo_p12, mo_p13, mo_p17, mo_p18, mo_p19, Option.bind_some, zb_S, va_up_self]
  rw [if_neg (by decide)]
theorem m_track {t v : Nat} (ht : I 2 = nI t) (h2 : t < 2) (hv : v < 2) : f_Mo_track c (nI v) (mo c I A E B n w) = some (mo c (va_up (va_up I 0 0) 2 (nI v)) A E B n (w + 1 + 1), nI t) := by
  unfold f_Mo_track
  have hz : ∀ k, k < 2 → nI k = 0 ∨ nI k = 1 := by decide +kernel
  simp only [mo_is, mo_g0, mo_g1, mo_g2, mo_g3, mo_g5, mo_g7, mo_g9, mo_g12, mo_g13, mo_g17, mo_g18, mo_g19, mo_r4, mo_r6, mo_r8, mo_r10, mo_r11, mo_r14, mo_r15, mo_r16, mo_p0, mo_p1, mo_p2, mo_p3, mo_p5, mo_p7, mo_p9, mo_p12, mo_p13, mo_p17, mo_p18, mo_p19, Option.bind_some, zb_S, mo_z2 (hv := hz v hv), va_up_ne I _ (show 2 ≠ 0 by decide), ht]
  rw [if_pos (hz t h2)]
theorem bad_ret {k : Nat} (h0 : 0 < k) (hk : k < 4) : ¬ (nI k ≤ 0) := nI_nle h0 (by omega)
section ST2
variable {au tr op : Nat} {tx : List Int64} {sn : Nat → List Int64} {ge gw : Nat → Nat} {d u oe ow : Nat}
theorem pt_255 (s : Int64) : (lg_cmp (s &&& (255 : Int64)) (0 : Int64)) = 0 ↔ pt s 0 = 0 := by
  have h := shl_0 s (i := 0) (by decide)
  have e : zf_lshr s ((8 : Int32) * nI 0) = s := zb_ext fun i hi => by
    rw [show (8 : Int32) * nI 0 = nI 0 from by decide, zb_shr (by decide) _ hi, Nat.zero_add, if_pos hi]
  rwa [e] at h
theorem nc_0 (s : Int64) : nc s = 0 ↔ pt s 0 = 0 := by
  have : nc s = if pt s 0 = 0 then 0 else hm s 7 1 := rfl
  rw [this]
  by_cases h : pt s 0 = 0
  · simp [h]
  · rw [if_neg h]
    have := (hm_le s 7 1).1
    exact ⟨fun h1 => by omega, fun h1 => absurd h1 h⟩
theorem l_ins55 (v1 : Int32) (s : Int64) (v4 : Int32) (S : zq_S) : ∀ k fuel i, i + k = 8 → k < fuel → g_Mo_insert_55 fuel c v1 s v4 (nI i) S = f_Mo_insert_84 c v1 s v4 (nI (hm s k i)) S := by
  intro k
  induction k with
  | zero =>
    intro fuel i hi hf
    obtain ⟨fuel, rfl⟩ : ∃ m, fuel = m + 1 := ⟨fuel - 1, by omega⟩
    have hi : i = 8 := by omega
    subst hi
    show f_Mo_insert_55 _ _ _ _ _ _ _ = _
    unfold f_Mo_insert_55
    rw [if_pos (by decide)]; rfl
  | succ k ih =>
    intro fuel i hi hf
    obtain ⟨fuel, rfl⟩ : ∃ m, fuel = m + 1 := ⟨fuel - 1, by omega⟩
    show f_Mo_insert_55 _ _ _ _ _ _ _ = _
    unfold f_Mo_insert_55 hm
    rw [if_neg (nI8 (by omega))]
    simp only [shl_0 s (show i < 8 by omega), nI_1]
    by_cases h : pt s i = 0
    · rw [if_pos h, if_pos h]
    · rw [if_neg h, if_neg h]; exact ih fuel (i + 1) (by omega) (by omega)
theorem m_ins1 (hl : I 3 = nI tx.length) (h6 : tx.length ≤ 600) {v1 v4 : Int32} {s : Int64} (h : ¬ PLC v1 tx.length) : f_Mo_insert c v1 s v4 (mo c I A E B n w) = some (mo c (va_up I 0 1) A E B n (w + 1), 0) := by
  unfold f_Mo_insert f_Mo_insert_40
  simp only [mo_is, if_true]
  rw [pl_bad c I A E B n w hl h6 h, zb_S, if_pos rfl]
  simp only [mo_is, mo_g0, mo_g1, mo_g2, mo_g3, mo_g5, mo_g7, mo_g9, mo_g12, mo_g13, mo_g17, mo_g18, mo_g19, mo_r4, mo_r6, mo_r8, mo_r10, mo_r11, mo_r14, mo_r15, mo_r16, mo_p0, mo_p1, mo_p2, mo_p3, mo_p5, mo_p7, mo_p9, mo_p12, mo_p13, mo_p17, mo_p18, mo_p19, Option.bind_some, zb_S, va_up_self]
  rw [if_neg (by decide)]
theorem m_ins2 (hl : I 3 = nI tx.length) (h6 : tx.length ≤ 600) {v1 v4 : Int32} {s : Int64} (h : PLC v1 tx.length) (h2 : ¬ BYT v4 ∨ nc s = 0) : f_Mo_insert c v1 s v4 (mo c I A E B n w) = some (mo c (va_up I 0 2) A E B n (w + 1), 0) := by
  unfold f_Mo_insert f_Mo_insert_35 f_Mo_insert_40
  simp only [mo_is, if_true]
  rw [pl_good c I A E B n w hl h6 h, zb_S, if_neg (by decide)]
  by_cases hb : BYT v4
  · obtain ⟨a, rfl, ha⟩ := hb
    have hn : nc s = 0 := by
      rcases h2 with h2 | h2
      · exact absurd ⟨a, rfl, ha⟩ h2
      · exact h2
    rw [byt_good ha, zb_S, if_neg (by decide), if_pos ((pt_255 s).mpr ((nc_0 s).mp hn))]
    simp only [mo_is, mo_g0, mo_g1, mo_g2, mo_g3, mo_g5, mo_g7, mo_g9, mo_g12, mo_g13, mo_g17, mo_g18, mo_g19, mo_r4, mo_r6, mo_r8, mo_r10, mo_r11, mo_r14, mo_r15, mo_r16, mo_p0, mo_p1, mo_p2, mo_p3, mo_p5, mo_p7, mo_p9, mo_p12, mo_p13, mo_p17, mo_p18, mo_p19, Option.bind_some, zb_S, va_up_self]
    rw [if_neg (by decide)]
  · rw [byt_bad hb, zb_S, if_pos rfl]
    simp only [mo_is, mo_g0, mo_g1, mo_g2, mo_g3, mo_g5, mo_g7, mo_g9, mo_g12, mo_g13, mo_g17, mo_g18, mo_g19, mo_r4, mo_r6, mo_r8, mo_r10, mo_r11, mo_r14, mo_r15, mo_r16, mo_p0, mo_p1, mo_p2, mo_p3, mo_p5, mo_p7, mo_p9, mo_p12, mo_p13, mo_p17, mo_p18, mo_p19, Option.bind_some, zb_S, va_up_self]
    rw [if_neg (by decide)]
theorem m_ins {pl f : Nat} {s : Int64} (hl : I 3 = nI tx.length) (h6 : tx.length ≤ 600) (hp : pl ≤ tx.length) (hf : f < 256) (hn : nc s ≠ 0) : f_Mo_insert c (nI pl) s (nI f) (mo c I A E B n w) = if tx.length + nc s ≤ 600 then f_Mo_edit c (nI 0) (nI f) (nI pl) (nI (nc s)) s (mo c (va_up I 0 0) A E B n (w + 1)) else some (mo c (va_up I 0 3) A E B n (w + 1 + 1), 0) := by
  have h8 := nc_le s
  unfold f_Mo_insert f_Mo_insert_40
  simp only [mo_is, if_true]
  rw [pl_good c I A E B n w hl h6 ⟨pl, rfl, hp⟩, zb_S, if_neg (by decide), byt_good hf, zb_S, if_neg (by decide), if_neg (fun e => hn ((nc_0 s).mpr ((pt_255 s).mp e)))]
  simp only [mo_is, mo_g0, mo_g1, mo_g2, mo_g3, mo_g5, mo_g7, mo_g9, mo_g12, mo_g13, mo_g17, mo_g18, mo_g19, mo_r4, mo_r6, mo_r8, mo_r10, mo_r11, mo_r14, mo_r15, mo_r16, mo_p0, mo_p1, mo_p2, mo_p3, mo_p5, mo_p7, mo_p9, mo_p12, mo_p13, mo_p17, mo_p18, mo_p19, Option.bind_some, zb_S, va_up_self]
  have e5 := l_ins55 c (nI pl) s (nI f) (mo c (va_up I 0 0) A E B n (w + 1)) 8 zq_F 0 (by omega) (zF_lt (by omega))
  rw [nI_0] at e5
  rw [if_pos (Int32.le_refl 0), e5]
  unfold f_Mo_insert_84 f_Mo_insert_116 f_Mo_raise
  have e3 : va_up I 0 0 3 = nI tx.length := by simp [va_up, hl]
  simp only [mo_is, mo_g0, mo_g1, mo_g2, mo_g3, mo_g5, mo_g7, mo_g9, mo_g12, mo_g13, mo_g17, mo_g18, mo_g19, mo_r4, mo_r6, mo_r8, mo_r10, mo_r11, mo_r14, mo_r15, mo_r16, mo_p0, mo_p1, mo_p2, mo_p3, mo_p5, mo_p7, mo_p9, mo_p12, mo_p13, mo_p17, mo_p18, mo_p19, Option.bind_some, zb_S, if_true, e3, show hm s 8 0 = nc s from rfl, nI_add]
  by_cases h : tx.length + nc s ≤ 600
  · rw [if_pos h, if_pos (show nI (tx.length + nc s) ≤ (600 : Int32) from nI_le (b := 600) h (by decide))]
    show zs_b (f_Mo_edit c (nI 0) (nI f) (nI pl) (nI (nc s)) s (mo c (va_up I 0 0) A E B n (w + 1))) _ = _
    cases f_Mo_edit c (nI 0) (nI f) (nI pl) (nI (nc s)) s (mo c (va_up I 0 0) A E B n (w + 1)) with
    | none => rfl
    | some q => rfl
  · rw [if_neg h, if_neg (show ¬ nI (tx.length + nc s) ≤ (600 : Int32) from nI_ge (a := 600) (by omega) (by omega)), va_uu]
theorem m_ers1 (hl : I 3 = nI tx.length) (h6 : tx.length ≤ 600) {v1 v2 : Int32} (h : ¬ RNG v1 v2 tx.length) : f_Mo_erase c v1 v2 (mo c I A E B n w) = some (mo c (va_up I 0 1) A E B n (w + 1), 0) := by
  unfold f_Mo_erase f_Mo_erase_26 f_Mo_raise
  simp only [mo_is, if_true, rg_bad c I A E B n w hl h6 h, mo_is, mo_g0, mo_g1, mo_g2, mo_g3, mo_g5, mo_g7, mo_g9, mo_g12, mo_g13, mo_g17, mo_g18, mo_g19, mo_r4, mo_r6, mo_r8, mo_r10, mo_r11, mo_r14, mo_r15, mo_r16, mo_p0, mo_p1, mo_p2, mo_p3, mo_p5, mo_p7, mo_p9, mo_p12, mo_p13, mo_p17, mo_p18, mo_p19, Option.bind_some, zb_S]
theorem m_ers (hl : I 3 = nI tx.length) (h6 : tx.length ≤ 600) {v1 v2 : Int32} (h : RNG v1 v2 tx.length) : f_Mo_erase c v1 v2 (mo c I A E B n w) = f_Mo_edit c (nI 1) (nI 0) v1 v2 0 (mo c I A E B n w) := by
  unfold f_Mo_erase f_Mo_erase_26
  simp only [mo_is, if_true, rg_good c I A E B n w hl h6 h, zb_S]
  rw [if_neg (by decide)]
  show zs_b (f_Mo_edit c (nI 1) (nI 0) v1 v2 0 (mo c I A E B n w)) _ = _
  cases f_Mo_edit c (nI 1) (nI 0) v1 v2 0 (mo c I A E B n w) with
  | none => rfl
  | some q => rfl
theorem m_fmt1 (hl : I 3 = nI tx.length) (h6 : tx.length ≤ 600) {v1 v2 v3 : Int32} (h : ¬ RNG v1 v2 tx.length) : f_Mo_format c v1 v2 v3 (mo c I A E B n w) = some (mo c (va_up I 0 1) A E B n (w + 1), 0) := by
  unfold f_Mo_format f_Mo_format_30 f_Mo_format_53
  simp only [mo_is, if_true, rg_bad c I A E B n w hl h6 h, mo_is, mo_g0, mo_g1, mo_g2, mo_g3, mo_g5, mo_g7, mo_g9, mo_g12, mo_g13, mo_g17, mo_g18, mo_g19, mo_r4, mo_r6, mo_r8, mo_r10, mo_r11, mo_r14, mo_r15, mo_r16, mo_p0, mo_p1, mo_p2, mo_p3, mo_p5, mo_p7, mo_p9, mo_p12, mo_p13, mo_p17, mo_p18, mo_p19, Option.bind_some, zb_S, va_up_self]
  rw [if_neg (by decide)]
theorem m_fmt2 (hl : I 3 = nI tx.length) (h6 : tx.length ≤ 600) {v1 v2 v3 : Int32} (h : RNG v1 v2 tx.length) (h3 : ¬ BYT v3) : f_Mo_format c v1 v2 v3 (mo c I A E B n w) = some (mo c (va_up I 0 2) A E B n (w + 1), 0) := by
  unfold f_Mo_format f_Mo_format_30 f_Mo_format_53
  simp only [mo_is, if_true, rg_good c I A E B n w hl h6 h, zb_S]
  rw [if_neg (by decide), byt_bad h3, zb_S, if_pos rfl]
  simp only [mo_is, mo_g0, mo_g1, mo_g2, mo_g3, mo_g5, mo_g7, mo_g9, mo_g12, mo_g13, mo_g17, mo_g18, mo_g19, mo_r4, mo_r6, mo_r8, mo_r10, mo_r11, mo_r14, mo_r15, mo_r16, mo_p0, mo_p1, mo_p2, mo_p3, mo_p5, mo_p7, mo_p9, mo_p12, mo_p13, mo_p17, mo_p18, mo_p19, Option.bind_some, zb_S, va_up_self]
  rw [if_neg (by decide)]
theorem m_fmt (hl : I 3 = nI tx.length) (h6 : tx.length ≤ 600) {v1 v2 v3 : Int32} (h : RNG v1 v2 tx.length) (h3 : BYT v3) : f_Mo_format c v1 v2 v3 (mo c I A E B n w) = f_Mo_edit c (nI 2) v3 v1 v2 0 (mo c (va_up I 0 0) A E B n (w + 1)) := by
  obtain ⟨a, rfl, ha⟩ := h3
  unfold f_Mo_format f_Mo_format_30 f_Mo_format_53
  simp only [mo_is, if_true, rg_good c I A E B n w hl h6 h, zb_S]
  rw [if_neg (by decide), byt_good ha, zb_S, if_neg (by decide)]
  simp only [mo_is, mo_g0, mo_g1, mo_g2, mo_g3, mo_g5, mo_g7, mo_g9, mo_g12, mo_g13, mo_g17, mo_g18, mo_g19, mo_r4, mo_r6, mo_r8, mo_r10, mo_r11, mo_r14, mo_r15, mo_r16, mo_p0, mo_p1, mo_p2, mo_p3, mo_p5, mo_p7, mo_p9, mo_p12, mo_p13, mo_p17, mo_p18, mo_p19, Option.bind_some, zb_S, va_up_self, if_true]
  rw [if_pos (by decide)]
  show zs_b (f_Mo_edit c (nI 2) (nI a) v1 v2 0 (mo c (va_up I 0 0) A E B n (w + 1))) _ = _
  cases f_Mo_edit c (nI 2) (nI a) v1 v2 0 (mo c (va_up I 0 0) A E B n (w + 1)) with
  | none => rfl
  | some q => rfl
theorem m_acc1 (hl : I 3 = nI tx.length) (h6 : tx.length ≤ 600) {v1 v2 v3 : Int32} (h : ¬ RNG v1 v2 tx.length) : f_Mo_accept c v1 v2 v3 (mo c I A E B n w) = some (mo c (va_up I 0 1) A E B n (w + 1), 0) := by
  unfold f_Mo_accept f_Mo_accept_30 f_Mo_accept_53
  simp only [mo_is, if_true, rg_bad c I A E B n w hl h6 h, mo_is, mo_g0, mo_g1, mo_g2, mo_g3, mo_g5, mo_g7, mo_g9, mo_g12, mo_g13, mo_g17, mo_g18, mo_g19, mo_r4, mo_r6, mo_r8, mo_r10, mo_r11, mo_r14, mo_r15, mo_r16, mo_p0, mo_p1, mo_p2, mo_p3, mo_p5, mo_p7, mo_p9, mo_p12, mo_p13, mo_p17, mo_p18, mo_p19, Option.bind_some, zb_S, va_up_self]
  rw [if_neg (by decide)]
theorem m_acc2 (hl : I 3 = nI tx.length) (h6 : tx.length ≤ 600) {v1 v2 v3 : Int32} (h : RNG v1 v2 tx.length) (h3 : ¬ SET v3) : f_Mo_accept c v1 v2 v3 (mo c I A E B n w) = some (mo c (va_up I 0 2) A E B n (w + 1), 0) := by
  unfold f_Mo_accept f_Mo_accept_30 f_Mo_accept_53
  simp only [mo_is, if_true, rg_good c I A E B n w hl h6 h, zb_S]
  rw [if_neg (by decide), set_bad h3, zb_S, if_pos rfl]
  simp only [mo_is, mo_g0, mo_g1, mo_g2, mo_g3, mo_g5, mo_g7, mo_g9, mo_g12, mo_g13, mo_g17, mo_g18, mo_g19, mo_r4, mo_r6, mo_r8, mo_r10, mo_r11, mo_r14, mo_r15, mo_r16, mo_p0, mo_p1, mo_p2, mo_p3, mo_p5, mo_p7, mo_p9, mo_p12, mo_p13, mo_p17, mo_p18, mo_p19, Option.bind_some, zb_S, va_up_self]
  rw [if_neg (by decide)]
theorem m_acc (hl : I 3 = nI tx.length) (h6 : tx.length ≤ 600) {v1 v2 v3 : Int32} (h : RNG v1 v2 tx.length) (h3 : SET v3) : f_Mo_accept c v1 v2 v3 (mo c I A E B n w) = f_Mo_edit c (nI 3) v3 v1 v2 0 (mo c (va_up I 0 0) A E B n (w + 1)) := by
  obtain ⟨a, rfl, ha1, ha⟩ := h3
  unfold f_Mo_accept f_Mo_accept_30 f_Mo_accept_53
  simp only [mo_is, if_true, rg_good c I A E B n w hl h6 h, zb_S]
  rw [if_neg (by decide), set_good ha1 ha, zb_S, if_neg (by decide)]
  simp only [mo_is, mo_g0, mo_g1, mo_g2, mo_g3, mo_g5, mo_g7, mo_g9, mo_g12, mo_g13, mo_g17, mo_g18, mo_g19, mo_r4, mo_r6, mo_r8, mo_r10, mo_r11, mo_r14, mo_r15, mo_r16, mo_p0, mo_p1, mo_p2, mo_p3, mo_p5, mo_p7, mo_p9, mo_p12, mo_p13, mo_p17, mo_p18, mo_p19, Option.bind_some, zb_S, va_up_self, if_true]
  rw [if_pos (by decide)]
  show zs_b (f_Mo_edit c (nI 3) (nI a) v1 v2 0 (mo c (va_up I 0 0) A E B n (w + 1))) _ = _
  cases f_Mo_edit c (nI 3) (nI a) v1 v2 0 (mo c (va_up I 0 0) A E B n (w + 1)) with
  | none => rfl
  | some q => rfl
theorem m_rej1 (hl : I 3 = nI tx.length) (h6 : tx.length ≤ 600) {v1 v2 v3 : Int32} (h : ¬ RNG v1 v2 tx.length) : f_Mo_reject c v1 v2 v3 (mo c I A E B n w) = some (mo c (va_up I 0 1) A E B n (w + 1), 0) := by
  unfold f_Mo_reject f_Mo_reject_30 f_Mo_reject_53
  simp only [mo_is, if_true, rg_bad c I A E B n w hl h6 h, mo_is, mo_g0, mo_g1, mo_g2, mo_g3, mo_g5, mo_g7, mo_g9, mo_g12, mo_g13, mo_g17, mo_g18, mo_g19, mo_r4, mo_r6, mo_r8, mo_r10, mo_r11, mo_r14, mo_r15, mo_r16, mo_p0, mo_p1, mo_p2, mo_p3, mo_p5, mo_p7, mo_p9, mo_p12, mo_p13, mo_p17, mo_p18, mo_p19, Option.bind_some, zb_S, va_up_self]
  rw [if_neg (by decide)]
theorem m_rej2 (hl : I 3 = nI tx.length) (h6 : tx.length ≤ 600) {v1 v2 v3 : Int32} (h : RNG v1 v2 tx.length) (h3 : ¬ SET v3) : f_Mo_reject c v1 v2 v3 (mo c I A E B n w) = some (mo c (va_up I 0 2) A E B n (w + 1), 0) := by
  unfold f_Mo_reject f_Mo_reject_30 f_Mo_reject_53
  simp only [mo_is, if_true, rg_good c I A E B n w hl h6 h, zb_S]
  rw [if_neg (by decide), set_bad h3, zb_S, if_pos rfl]
  simp only [mo_is, mo_g0, mo_g1, mo_g2, mo_g3, mo_g5, mo_g7, mo_g9, mo_g12, mo_g13, mo_g17, mo_g18, mo_g19, mo_r4, mo_r6, mo_r8, mo_r10, mo_r11, mo_r14, mo_r15, mo_r16, mo_p0, mo_p1, mo_p2, mo_p3, mo_p5, mo_p7, mo_p9, mo_p12, mo_p13, mo_p17, mo_p18, mo_p19, Option.bind_some, zb_S, va_up_self]
  rw [if_neg (by decide)]
theorem m_rej (hl : I 3 = nI tx.length) (h6 : tx.length ≤ 600) {v1 v2 v3 : Int32} (h : RNG v1 v2 tx.length) (h3 : SET v3) : f_Mo_reject c v1 v2 v3 (mo c I A E B n w) = f_Mo_edit c (nI 4) v3 v1 v2 0 (mo c (va_up I 0 0) A E B n (w + 1)) := by
  obtain ⟨a, rfl, ha1, ha⟩ := h3
  unfold f_Mo_reject f_Mo_reject_30 f_Mo_reject_53
  simp only [mo_is, if_true, rg_good c I A E B n w hl h6 h, zb_S]
  rw [if_neg (by decide), set_good ha1 ha, zb_S, if_neg (by decide)]
  simp only [mo_is, mo_g0, mo_g1, mo_g2, mo_g3, mo_g5, mo_g7, mo_g9, mo_g12, mo_g13, mo_g17, mo_g18, mo_g19, mo_r4, mo_r6, mo_r8, mo_r10, mo_r11, mo_r14, mo_r15, mo_r16, mo_p0, mo_p1, mo_p2, mo_p3, mo_p5, mo_p7, mo_p9, mo_p12, mo_p13, mo_p17, mo_p18, mo_p19, Option.bind_some, zb_S, va_up_self, if_true]
  rw [if_pos (by decide)]
  show zs_b (f_Mo_edit c (nI 4) (nI a) v1 v2 0 (mo c (va_up I 0 0) A E B n (w + 1))) _ = _
  cases f_Mo_edit c (nI 4) (nI a) v1 v2 0 (mo c (va_up I 0 0) A E B n (w + 1)) with
  | none => rfl
  | some q => rfl
theorem m_open1 (h : I 17 = nI 1) : f_Mo_open c (mo c I A E B n w) = some (mo c (va_up I 0 1) A E B n (w + 1), ()) := by
  unfold f_Mo_open f_Mo_open_13
  simp only [mo_is, mo_g0, mo_g1, mo_g2, mo_g3, mo_g5, mo_g7, mo_g9, mo_g12, mo_g13, mo_g17, mo_g18, mo_g19, mo_r4, mo_r6, mo_r8, mo_r10, mo_r11, mo_r14, mo_r15, mo_r16, mo_p0, mo_p1, mo_p2, mo_p3, mo_p5, mo_p7, mo_p9, mo_p12, mo_p13, mo_p17, mo_p18, mo_p19, Option.bind_some, zb_S, h]
  rw [if_neg (by decide)]
  simp only [va_up_self]
  rw [if_neg (by decide)]
theorem m_open0 (h : I 17 = nI 0) : f_Mo_open c (mo c I A E B n w) = some (mo c (va_up (va_up (va_up (va_up I 0 0) 17 1) 18 0) 19 0) A E B n (w + 1 + 1 + 1 + 1), ()) := by
  unfold f_Mo_open f_Mo_open_13
  simp only [mo_is, mo_g0, mo_g1, mo_g2, mo_g3, mo_g5, mo_g7, mo_g9, mo_g12, mo_g13, mo_g17, mo_g18, mo_g19, mo_r4, mo_r6, mo_r8, mo_r10, mo_r11, mo_r14, mo_r15, mo_r16, mo_p0, mo_p1, mo_p2, mo_p3, mo_p5, mo_p7, mo_p9, mo_p12, mo_p13, mo_p17, mo_p18, mo_p19, Option.bind_some, zb_S, h]
  rw [if_pos nI_0]
  simp only [va_up_self]
  rw [if_pos (Int32.le_refl 0), mo_z17 (hv := Or.inr rfl)]
  simp only [mo_is, mo_g0, mo_g1, mo_g2, mo_g3, mo_g5, mo_g7, mo_g9, mo_g12, mo_g13, mo_g17, mo_g18, mo_g19, mo_r4, mo_r6, mo_r8, mo_r10, mo_r11, mo_r14, mo_r15, mo_r16, mo_p0, mo_p1, mo_p2, mo_p3, mo_p5, mo_p7, mo_p9, mo_p12, mo_p13, mo_p17, mo_p18, mo_p19, Option.bind_some, zb_S]
theorem m_close1 (h : I 17 = nI 0) : f_Mo_close c (mo c I A E B n w) = some (mo c (va_up I 0 1) A E B n (w + 1), 0) := by
  unfold f_Mo_close f_Mo_close_13
  simp only [mo_is, mo_g0, mo_g1, mo_g2, mo_g3, mo_g5, mo_g7, mo_g9, mo_g12, mo_g13, mo_g17, mo_g18, mo_g19, mo_r4, mo_r6, mo_r8, mo_r10, mo_r11, mo_r14, mo_r15, mo_r16, mo_p0, mo_p1, mo_p2, mo_p3, mo_p5, mo_p7, mo_p9, mo_p12, mo_p13, mo_p17, mo_p18, mo_p19, Option.bind_some, zb_S, h]
  rw [if_pos nI_0]
  simp only [va_up_self]
  rw [if_neg (by decide)]
theorem m_close0 (h : I 17 = nI 1) : f_Mo_close c (mo c I A E B n w) = zs_b (f_Mo_endGroup c (mo c (va_up (va_up I 0 0) 17 0) A E B n (w + 1 + 1))) fun S10 _ => (zs_gi S10 c 4 18).bind fun x15 => some (S10, x15) := by
  unfold f_Mo_close f_Mo_close_13
  simp only [mo_is, mo_g0, mo_g1, mo_g2, mo_g3, mo_g5, mo_g7, mo_g9, mo_g12, mo_g13, mo_g17, mo_g18, mo_g19, mo_r4, mo_r6, mo_r8, mo_r10, mo_r11, mo_r14, mo_r15, mo_r16, mo_p0, mo_p1, mo_p2, mo_p3, mo_p5, mo_p7, mo_p9, mo_p12, mo_p13, mo_p17, mo_p18, mo_p19, Option.bind_some, zb_S, h]
  rw [if_neg (by decide)]
  simp only [va_up_self]
  rw [if_pos (Int32.le_refl 0), mo_z17 (hv := Or.inl rfl)]
  simp only [mo_is, mo_g0, mo_g1, mo_g2, mo_g3, mo_g5, mo_g7, mo_g9, mo_g12, mo_g13, mo_g17, mo_g18, mo_g19, mo_r4, mo_r6, mo_r8, mo_r10, mo_r11, mo_r14, mo_r15, mo_r16, mo_p0, mo_p1, mo_p2, mo_p3, mo_p5, mo_p7, mo_p9, mo_p12, mo_p13, mo_p17, mo_p18, mo_p19, Option.bind_some, zb_S, if_true]
theorem m_undo1 (h17 : I 17 = nI op) (h12 : I 12 = nI d) (ho : op < 2) (hd : d ≤ 40) (h : op = 1 ∨ d = 0) : f_Mo_undo c (mo c I A E B n w) = some (mo c (va_up I 0 1) A E B n (w + 1), 0) := by
  unfold f_Mo_undo f_Mo_undo_15 f_Mo_undo_20
  simp only [mo_is, mo_g0, mo_g1, mo_g2, mo_g3, mo_g5, mo_g7, mo_g9, mo_g12, mo_g13, mo_g17, mo_g18, mo_g19, mo_r4, mo_r6, mo_r8, mo_r10, mo_r11, mo_r14, mo_r15, mo_r16, mo_p0, mo_p1, mo_p2, mo_p3, mo_p5, mo_p7, mo_p9, mo_p12, mo_p13, mo_p17, mo_p18, mo_p19, Option.bind_some, zb_S, h17, h12, nI0 (show op < 2 ^ 31 by omega), nI0 (show d < 2 ^ 31 by omega), va_up_self]
  rw [if_neg (show ¬ (1 : Int32) ≤ 0 by decide)]
  by_cases h1 : op = 0
  · have h2 : d = 0 := by omega
    rw [if_pos h1, if_pos h2]
  · rw [if_neg h1]
theorem m_redo1 (h17 : I 17 = nI op) (h12 : I 12 = nI d) (h13 : I 13 = nI (d + u)) (ho : op < 2) (hd : d + u ≤ 40) (h : op = 1 ∨ u = 0) : f_Mo_redo c (mo c I A E B n w) = some (mo c (va_up I 0 1) A E B n (w + 1), 0) := by
  unfold f_Mo_redo f_Mo_redo_19 f_Mo_redo_24
  simp only [mo_is, mo_g0, mo_g1, mo_g2, mo_g3, mo_g5, mo_g7, mo_g9, mo_g12, mo_g13, mo_g17, mo_g18, mo_g19, mo_r4, mo_r6, mo_r8, mo_r10, mo_r11, mo_r14, mo_r15, mo_r16, mo_p0, mo_p1, mo_p2, mo_p3, mo_p5, mo_p7, mo_p9, mo_p12, mo_p13, mo_p17, mo_p18, mo_p19, Option.bind_some, zb_S, h17, h12, h13, nI0 (show op < 2 ^ 31 by omega), nI_eq (show d < 2 ^ 31 by omega) (show d + u < 2 ^ 31 by omega), va_up_self]
  rw [if_neg (show ¬ (1 : Int32) ≤ 0 by decide)]
  by_cases h1 : op = 0
  · have h2 : d = d + u := by omega
    rw [if_pos h1, if_pos h2]
  · rw [if_neg h1]
/-- the texts from the base on -/
theorem CH_all {A : Nat → Nat → Int64} {k : Nat} (hC : ∀ j, j < k → CH (A 3) (A 4) (sm ge 0 j) (ge j) (sn j) (sn (j + 1))) : CH (A 3) (A 4) 0 (sm ge 0 k) (sn 0) (sn k) := by
  induction k with
  | zero => exact rfl
  | succ k ih =>
    rw [sm_r]
    refine CH_app _ _ _ (ih (fun j hj => hC j (by omega))) ?_
    simpa using hC k (by omega)
theorem m_undo {I : Nat → Int32} {A : Nat → Nat → Int64} {E : Nat → Nat → Int32} (hR : RM I A E au tr op tx sn ge gw d u oe ow) (hW : WF op tx sn ge gw d u oe ow) (hop : op = 0) (hd : 0 < d) (w : Nat) : ∃ (I' : Nat → Int32) (A' : Nat → Nat → Int64) (w' : Nat), f_Mo_undo c (mo c I A E B n w) = some (mo c I' A' E B n w', nI (ge (d - 1))) ∧ I' 0 = 0 ∧ RM I' A' E au tr 0 (sn (d - 1)) sn ge gw (d - 1) (u + 1) 0 0 := by
  have hge := WF_ge hW (j := d - 1) (by omega)
  obtain ⟨r1, r2, r3, r4, r17, r18, r12, r13, rE, rC, r7, rB, r9, r9'⟩ := hR
  obtain ⟨w1, w2, w3, w4, w5, w6, w7, w8, w9, w10⟩ := hW
  obtain ⟨W1, v1, e1, k1⟩ := m_fromBase c (va_up (va_up I 0 0) 12 (nI (d - 1))) E B n (len := (sn 0).length) (by simp [va_up, r7]) (w3 0 (by omega)).1 A (w + 1 + 1)
  have e2 := m_startOf c (va_up (va_up (va_up I 0 0) 12 (nI (d - 1))) 3 (nI (sn 0).length)) (va_up A 0 W1) E B n v1 (ge := ge) (g := d - 1) (by omega) (fun j hj => (rE j (by omega)).1)
  obtain ⟨g, v3, e3, hg⟩ := l_undo c E B n (d := d - 1) (by omega) (l' := sn (d - 1)) (sm ge 0 (d - 1)) zq_F 0 (sn 0) (va_up (va_up (va_up (va_up I 0 0) 12 (nI (d - 1))) 3 (nI (sn 0).length)) 9 (nI (sm ge 0 (d - 1)))) (va_up A 0 W1) (v1 + 1) (by simp [va_up]) (by simp [va_up]) (zF_lt (by omega)) (by omega) (by simp [va_up]) (by rw [va_up_self]; exact rp_len rB k1) (by
    have := CH_all (A := A) (k := d - 1) (fun j hj => rC j (by omega))
    simpa [va_up] using this)
  refine ⟨_, _, v3, Eq.trans ?_ (e3.trans (by rw [(rE (d - 1) (by omega)).2.1])), by simp [va_up], ?_⟩
  · unfold f_Mo_undo f_Mo_undo_20
    simp only [mo_is, mo_g0, mo_g1, mo_g2, mo_g3, mo_g5, mo_g7, mo_g9, mo_g12, mo_g13, mo_g17, mo_g18, mo_g19, mo_r4, mo_r6, mo_r8, mo_r10, mo_r11, mo_r14, mo_r15, mo_r16, mo_p0, mo_p1, mo_p2, mo_p3, mo_p5, mo_p7, mo_p9, mo_p12, mo_p13, mo_p17, mo_p18, mo_p19, Option.bind_some, zb_S, r17, r12, nI0 (show op < 2 ^ 31 by omega), nI0 (show d < 2 ^ 31 by omega), va_up_self, va_up_ne I _ (show 12 ≠ 0 by decide), if_true]
    rw [if_pos hop, if_neg (by omega), if_pos (Int32.le_refl 0), nI_s1 hd, e1]
    simp only [mo_is, mo_g0, mo_g1, mo_g2, mo_g3, mo_g5, mo_g7, mo_g9, mo_g12, mo_g13, mo_g17, mo_g18, mo_g19, mo_r4, mo_r6, mo_r8, mo_r10, mo_r11, mo_r14, mo_r15, mo_r16, mo_p0, mo_p1, mo_p2, mo_p3, mo_p5, mo_p7, mo_p9, mo_p12, mo_p13, mo_p17, mo_p18, mo_p19, Option.bind_some, zb_S, if_true]
    have e12 : va_up (va_up (va_up I 0 0) 12 (nI (d - 1))) 3 (nI (sn 0).length) 12 = nI (d - 1) := by simp [va_up]
    rw [e12, e2]
    simp only [mo_is, mo_g0, mo_g1, mo_g2, mo_g3, mo_g5, mo_g7, mo_g9, mo_g12, mo_g13, mo_g17, mo_g18, mo_g19, mo_r4, mo_r6, mo_r8, mo_r10, mo_r11, mo_r14, mo_r15, mo_r16, mo_p0, mo_p1, mo_p2, mo_p3, mo_p5, mo_p7, mo_p9, mo_p12, mo_p13, mo_p17, mo_p18, mo_p19, Option.bind_some, zb_S]
    rw [← nI_0]
  · refine ⟨by simp [va_up, r1], by simp [va_up, r2], by simp [va_up], by rw [va_up_self]; exact hg, by simp [va_up, r17, hop], fun h => absurd h (by decide), by simp [va_up], by simp [va_up, r13]; congr 1; omega, fun j hj => rE j (by omega), fun j hj => ?_, by simp [va_up, r7], by simpa [va_up] using rB, fun _ => by simp [va_up], fun h => absurd h (by decide)⟩
    have := rC j (by omega)
    simpa [va_up] using this
theorem m_redo {I : Nat → Int32} {A : Nat → Nat → Int64} {E : Nat → Nat → Int32} (hR : RM I A E au tr op tx sn ge gw d u oe ow) (hW : WF op tx sn ge gw d u oe ow) (hop : op = 0) (hu : 0 < u) (w : Nat) : ∃ (I' : Nat → Int32) (A' : Nat → Nat → Int64) (w' : Nat), f_Mo_redo c (mo c I A E B n w) = some (mo c I' A' E B n w', nI (ge d)) ∧ I' 0 = 0 ∧ RM I' A' E au tr 0 (sn (d + 1)) sn ge gw (d + 1) (u - 1) 0 0 := by
  have hge := WF_ge hW (j := d + 1) (by omega)
  obtain ⟨r1, r2, r3, r4, r17, r18, r12, r13, rE, rC, r7, rB, r9, r9'⟩ := hR
  obtain ⟨w1, w2, w3, w4, w5, w6, w7, w8, w9, w10⟩ := hW
  have hoe : oe = 0 := by
    by_cases h : oe = 0
    · exact h
    · have := (w9 (by omega)).1; omega
  have htx := (w8 hoe).2
  have hs := sm_r ge d 0
  rw [Nat.zero_add] at hs
  have hch := rC d (by omega)
  rw [← htx] at hch
  obtain ⟨g, v3, e3, hg⟩ := l_redo c E B n (d := d) (N := sm ge 0 (d + 1)) (by omega) (rE d (by omega)).1 (l' := sn (d + 1)) (ge d) zq_F (sm ge 0 d) tx (va_up I 0 0) A (w + 1) (by omega) (by simp [va_up, r12]) (zF_lt (by omega)) (by omega) (by simp [va_up, r3]) r4 hch
  refine ⟨_, _, v3, Eq.trans ?_ (e3.trans (by rw [(rE d (by omega)).2.1])), by simp [va_up], ?_⟩
  · unfold f_Mo_redo f_Mo_redo_24
    simp only [mo_is, mo_g0, mo_g1, mo_g2, mo_g3, mo_g5, mo_g7, mo_g9, mo_g12, mo_g13, mo_g17, mo_g18, mo_g19, mo_r4, mo_r6, mo_r8, mo_r10, mo_r11, mo_r14, mo_r15, mo_r16, mo_p0, mo_p1, mo_p2, mo_p3, mo_p5, mo_p7, mo_p9, mo_p12, mo_p13, mo_p17, mo_p18, mo_p19, Option.bind_some, zb_S, r17, r12, r13, nI0 (show op < 2 ^ 31 by omega), nI_eq (show d < 2 ^ 31 by omega) (show d + u < 2 ^ 31 by omega), va_up_self]
    rw [if_pos hop, if_neg (by omega), if_pos (Int32.le_refl 0)]
    have : va_up I 0 0 9 = nI (sm ge 0 d) := by simp [va_up, r9 hoe]
    rw [this]
  · refine ⟨by simp [va_up, r1], by simp [va_up, r2], by simp [va_up], by rw [va_up_self]; exact hg, by simp [va_up, r17, hop], fun h => absurd h (by decide), by simp [va_up], by simp [va_up, r13]; congr 1; omega, fun j hj => rE j (by omega), fun j hj => ?_, by simp [va_up, r7], by simpa [va_up] using rB, fun _ => by simp [va_up], fun h => absurd h (by decide)⟩
    have := rC j (by omega)
    simpa [va_up] using this
theorem m_close {I : Nat → Int32} {A : Nat → Nat → Int64} {E : Nat → Nat → Int32} (hR : RM I A E au tr op tx sn ge gw d u oe ow) (hW : WF op tx sn ge gw d u oe ow) (hop : op = 1) (hb : ow < 2 ^ 29) {o : Nat} (ho : o = fgt (d + 1) (va_up gw d ow)) (w : Nat) : ∃ (I' : Nat → Int32) (A' : Nat → Nat → Int64) (E' : Nat → Nat → Int32) (w' : Nat), f_Mo_close c (mo c I A E B n w) = some (mo c I' A' E' B n w', nI oe) ∧ I' 0 = 0 ∧ (oe = 0 → RM I' A' E' au tr 0 tx sn ge gw d u 0 0) ∧ (0 < oe → RM I' A' E' au tr 0 tx (sh o (va_up sn (d + 1) tx)) (sh o (va_up ge d oe)) (sh o (va_up gw d ow)) (d + 1 - o) 0 0 0) := by
  have hRG := RM_RG hR hW
  have hge := WF_ge hW (j := d) (by omega)
  obtain ⟨r1, r2, r3, r4, r17, r18, r12, r13, rE, rC, r7, rB, r9, r9'⟩ := hR
  obtain ⟨w1, w2, w3, w4, w5, w6, w7, w8, w9, w10⟩ := hW
  obtain ⟨s18, s19⟩ := r18 hop
  rw [m_close0 c I A E B n w (by rw [r17, hop])]
  by_cases hoe : oe = 0
  · refine ⟨va_up (va_up I 0 0) 17 0, A, E, w + 1 + 1, ?_, by simp [va_up], fun _ => ?_, fun h => absurd h (by omega)⟩
    · unfold f_Mo_endGroup
      have : va_up (va_up I 0 0) 17 0 18 = nI oe := by simp [va_up, s18]
      simp only [mo_is, mo_g0, mo_g1, mo_g2, mo_g3, mo_g5, mo_g7, mo_g9, mo_g12, mo_g13, mo_g17, mo_g18, mo_g19, mo_r4, mo_r6, mo_r8, mo_r10, mo_r11, mo_r14, mo_r15, mo_r16, mo_p0, mo_p1, mo_p2, mo_p3, mo_p5, mo_p7, mo_p9, mo_p12, mo_p13, mo_p17, mo_p18, mo_p19, Option.bind_some, zb_S, this]
      rw [if_pos (by rw [hoe]; exact nI_0)]
      simp only [mo_is, mo_g0, mo_g1, mo_g2, mo_g3, mo_g5, mo_g7, mo_g9, mo_g12, mo_g13, mo_g17, mo_g18, mo_g19, mo_r4, mo_r6, mo_r8, mo_r10, mo_r11, mo_r14, mo_r15, mo_r16, mo_p0, mo_p1, mo_p2, mo_p3, mo_p5, mo_p7, mo_p9, mo_p12, mo_p13, mo_p17, mo_p18, mo_p19, Option.bind_some, zb_S, this]
    · exact ⟨by simp [va_up, r1], by simp [va_up, r2], by simp [va_up, r3], r4, by simp [va_up, nI_0], fun h => absurd h (by decide), by simp [va_up, r12], by simp [va_up, r13], rE, rC, by simp [va_up, r7], rB, fun _ => by simp [va_up, r9 hoe], fun h => absurd h (by decide)⟩
  · obtain ⟨I4, A4, E4, v4, e5, f1, f9, f3, fr, f13, fk⟩ := m_endGroup c B n (I := va_up (va_up I 0 0) 17 0) (A := A) (E := E) (ge := ge) (gw := gw) (sn := sn) (d := d) (oe := oe) (ow := ow) (l := tx) (by
        obtain ⟨a1, a2, a3, a4, a5, a6⟩ := hRG
        exact ⟨by simp [va_up, a1], a2, a3, by simp [va_up, a4], a5, a6⟩) (by omega) (by omega) (by simp [va_up, s18]) (by simp [va_up, s19]) (by omega) (by omega) (by have := sm_mono gw (show d ≤ d + u by omega); omega) (by simp [va_up, r3]) r4 w1 (fun h => ⟨by simp [va_up, (r9' (by omega) h).1], (r9' (by omega) h).2, by omega⟩) ho (w + 1 + 1)
    refine ⟨I4, A4, E4, v4, ?_, ?_, fun h => absurd h hoe, fun _ => RG_RM f1 f9 f3 fr f13 fk (by simp [va_up, r1]) (by simp [va_up, r2]) (by simp [va_up, nI_0])⟩
    · rw [e5]
      simp only [mo_is, mo_g0, mo_g1, mo_g2, mo_g3, mo_g5, mo_g7, mo_g9, mo_g12, mo_g13, mo_g17, mo_g18, mo_g19, mo_r4, mo_r6, mo_r8, mo_r10, mo_r11, mo_r14, mo_r15, mo_r16, mo_p0, mo_p1, mo_p2, mo_p3, mo_p5, mo_p7, mo_p9, mo_p12, mo_p13, mo_p17, mo_p18, mo_p19, Option.bind_some, zb_S]
      have : I4 18 = nI oe := by rw [fk.2.2.2.2.1]; simp [va_up, s18]
      rw [this]
    · rw [fk.1]; simp [va_up]
end ST2
end CL
