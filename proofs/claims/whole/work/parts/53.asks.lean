/-! what a text shows, and the reference's questions -/
def sv (v : Nat) (x : Int64) : Bool := v == 0 || pt x (if v = 1 then 3 else 2) == 0
def plc (v : Nat) (i : Int32) : List Int64 → Nat → Nat → Nat ⊕ Nat
  | [], m, _ => .inr m
  | x :: xs, m, k => if sv v x = true then (if nI m = i then .inl k else plc v i xs (m + 1) (k + 1)) else plc v i xs m (k + 1)
def cv (v : Nat) : List Int64 → Nat → Nat
  | [], m => m
  | x :: xs, m => cv v xs (if sv v x = true then m + 1 else m)
theorem cv_le (v : Nat) : ∀ (l : List Int64) (m : Nat), cv v l m ≤ m + l.length := by
  intro l
  induction l with
  | nil => intro m; exact Nat.le_refl _
  | cons x xs ih =>
    intro m; unfold cv; simp only [List.length_cons]
    by_cases h : sv v x = true
    · rw [if_pos h]; have := ih (m + 1); omega
    · rw [if_neg h]; have := ih m; omega
theorem nI_nm1 {m : Nat} (h : m < 2 ^ 31) : ¬ nI m = (-1 : Int32) := by
  intro e
  have := congrArg Int32.toInt e
  rw [nI_toInt h] at this
  have h2 : (-1 : Int32).toInt = -1 := rfl
  omega
theorem plc_m1 (v : Nat) : ∀ (l : List Int64) (m k : Nat), m + l.length < 2 ^ 31 → plc v (-1) l m k = .inr (cv v l m) := by
  intro l
  induction l with
  | nil => intro m k _; rfl
  | cons x xs ih =>
    intro m k h
    simp only [List.length_cons] at h
    unfold plc cv
    rw [if_neg (nI_nm1 (by omega))]
    split
    · exact ih _ _ (by omega)
    · exact ih _ _ (by omega)
theorem plc_r (v : Nat) (i : Int32) : ∀ (l : List Int64) (m k j : Nat), plc v i l m k = .inr j → j ≤ m + l.length := by
  intro l
  induction l with
  | nil => intro m k j h; cases h; exact Nat.le_refl _
  | cons x xs ih =>
    intro m k j h
    unfold plc at h
    simp only [List.length_cons]
    split at h
    · split at h
      · cases h
      · have := ih _ _ _ h; omega
    · have := ih _ _ _ h; omega
theorem plc_l (v : Nat) (i : Int32) : ∀ (l : List Int64) (m k j : Nat), plc v i l m k = .inl j → k ≤ j ∧ j < k + l.length := by
  intro l
  induction l with
  | nil => intro m k j h; cases h
  | cons x xs ih =>
    intro m k j h
    unfold plc at h
    simp only [List.length_cons]
    split at h
    · split at h
      · cases h; omega
      · have := ih _ _ _ h; omega
    · have := ih _ _ _ h; omega
def mkL (x : Int64) : Int64 := zf_lushr x (16 : Int32)
def mkr (x : Int64) : Nat := pt x 2 ||| pt x 3 ||| pt x 4
def nx (a : Nat) : List Int64 → Nat → Option Nat
  | [], _ => none
  | x :: xs, k => if mkr x &&& a = 0 then nx a xs (k + 1) else some k
def frs (x : Int64) : List Int64 → Nat → Nat
  | [], f => f
  | y :: ys, f => frs x ys (if f = 0 then 0 else if mkL x = mkL y then 0 else 1)
theorem frs_0 (x : Int64) : ∀ l, frs x l 0 = 0 := by
  intro l
  induction l with
  | nil => rfl
  | cons y ys ih => unfold frs; rw [if_pos rfl]; exact ih
theorem frs_1 (x : Int64) : ∀ l, frs x l 1 = if mkL x ∈ l.map mkL then 0 else 1 := by
  intro l
  induction l with
  | nil => rfl
  | cons y ys ih =>
    unfold frs
    by_cases h : mkL x = mkL y
    · simp [h, frs_0]
    · simp [h, ih]
def rn : List Int64 → Int64 → Nat → Nat
  | [], _, m => m
  | x :: xs, b, m => rn xs (mkL x) (if mkL x = 0 then m else if mkL x = b then m else m + 1)
def df : List Int64 → List Int64 → Nat → Nat
  | _, [], m => m
  | p, x :: xs, m => df (p ++ [x]) xs (if mkL x = 0 then m else m + frs x p 1)
def seenV (v what : Nat) (x : Int64) (k : Nat) : Nat := if what = 0 then pt x 0 else if what = 1 then (if v = 2 ∧ pt x 4 ≠ 0 then pt x 5 else pt x 1) else k
section AS
variable (c : Nat) (I : Nat → Int32) (A : Nat → Nat → Int64) (E : Nat → Nat → Int32) (B : Nat → Option zq_E) (n w : Nat)
theorem m_isSeen {v : Nat} (hv : v < 3) (x : Int64) (S : zq_S) : f_Mo_isSeen c (nI v) x S = some (S, if sv v x = true then 1 else 0) := by
  unfold f_Mo_isSeen f_Mo_isSeen_15 f_Mo_isSeen_21 f_Mo_isSeen_26 sv
  have e1 : (nI v = (1 : Int32)) ↔ v = 1 := nI_eq (a := v) (b := 1) (by omega) (by decide)
  simp only [nI0 (show v < 2 ^ 31 by omega), e1, mpart2, mpart3, zb_S, nIb (pt_lt x 2), nIb (pt_lt x 3)]
  by_cases h0 : v = 0
  · simp [h0]
  · by_cases h1 : v = 1
    · subst h1
      by_cases h : pt x 3 = 0 <;> simp [h]
    · by_cases h : pt x 2 = 0 <;> simp [h0, h1, h]
theorem l_placeOf {v : Nat} (hv : v < 3) (i : Int32) {len : Nat} (hl : I 3 = nI len) (h6 : len ≤ 600) : ∀ (rest : List Int64) (fuel m k : Nat), rest.length < fuel → k + rest.length = len → (∀ j, j < rest.length → rest[j]? = some (A 0 (k + j))) → g_Mo_placeOf_5 fuel c (nI v) i (nI m) (nI k) (mo c I A E B n w) = some (mo c I A E B n w, match plc v i rest m k with | .inl j => nI j | .inr j => (-1 : Int32) - nI j) := by
  intro rest
  induction rest with
  | nil =>
    intro fuel m k hf hk hr
    obtain ⟨fuel, rfl⟩ : ∃ m, fuel = m + 1 := ⟨fuel - 1, by omega⟩
    show f_Mo_placeOf_5 _ _ _ _ _ _ _ = _
    unfold f_Mo_placeOf_5
    simp only [mo_is, mo_g0, mo_g1, mo_g2, mo_g3, mo_g5, mo_g7, mo_g9, mo_g12, mo_g13, mo_g17, mo_g18, mo_g19, mo_r4, mo_r6, mo_r8, mo_r10, mo_r11, mo_r14, mo_r15, mo_r16, mo_p0, mo_p1, mo_p2, mo_p3, mo_p5, mo_p7, mo_p9, mo_p12, mo_p13, mo_p17, mo_p18, mo_p19, Option.bind_some, zb_S, hl, List.length_nil] at hk ⊢
    rw [if_pos (nI_le (by omega) (by omega))]; rfl
  | cons x xs ih =>
    intro fuel m k hf hk hr
    obtain ⟨fuel, rfl⟩ : ∃ m, fuel = m + 1 := ⟨fuel - 1, by omega⟩
    simp only [List.length_cons] at hf hk
    have hx0 : A 0 k = x := by
      have := hr 0 (by simp)
      simpa using this.symm
    have hrest : ∀ j, j < xs.length → xs[j]? = some (A 0 (k + 1 + j)) := by
      intro j hj
      have := hr (j + 1) (by simp; omega)
      simpa [Nat.add_assoc, Nat.add_comm, Nat.add_left_comm] using this
    show f_Mo_placeOf_5 _ _ _ _ _ _ _ = _
    unfold f_Mo_placeOf_5 f_Mo_placeOf_43
    simp only [mo_is, mo_g0, mo_g1, mo_g2, mo_g3, mo_g5, mo_g7, mo_g9, mo_g12, mo_g13, mo_g17, mo_g18, mo_g19, mo_r4, mo_r6, mo_r8, mo_r10, mo_r11, mo_r14, mo_r15, mo_r16, mo_p0, mo_p1, mo_p2, mo_p3, mo_p5, mo_p7, mo_p9, mo_p12, mo_p13, mo_p17, mo_p18, mo_p19, Option.bind_some, zb_S, hl]
    rw [if_neg (nI_ge (by omega) (by omega))]
    simp only [mo_l0 (hi := show k < 600 by omega), Option.bind_some, hx0, m_isSeen c hv, zb_S, nI_1, if_true]
    unfold plc
    by_cases hs : sv v x = true
    · rw [if_pos hs, if_pos hs, if_neg (by decide)]
      by_cases hm : nI m = i
      · rw [if_pos hm, if_pos hm]
      · rw [if_neg hm, if_neg hm]
        exact ih fuel _ _ (by omega) (by omega) hrest
    · rw [if_neg hs, if_neg hs, if_pos rfl]
      exact ih fuel _ _ (by omega) (by omega) hrest
theorem rp_res {f : Nat → Int64} {l : List Int64} (h : rp f l) : ∀ j, j < l.length → l[j]? = some (f (0 + j)) := fun j hj => by rw [Nat.zero_add]; exact h j hj
theorem m_placeOf {v : Nat} (hv : v < 3) (i : Int32) {tx : List Int64} (hl : I 3 = nI tx.length) (h6 : tx.length ≤ 600) (hr : rp (A 0) tx) : f_Mo_placeOf c (nI v) i (mo c I A E B n w) = some (mo c I A E B n w, match plc v i tx 0 0 with | .inl j => nI j | .inr j => (-1 : Int32) - nI j) := by
  unfold f_Mo_placeOf
  have := l_placeOf c I A E B n w hv i hl h6 tx zq_F 0 0 (zF_lt (by omega)) (by omega) (rp_res hr)
  rw [nI_0] at this
  exact this
theorem m1m1 (x : Int32) : (-1 : Int32) - ((-1 : Int32) - x) = x := by grind
theorem m1neg {m : Nat} (h : m ≤ 600) : ¬ (0 : Int32) ≤ (-1 : Int32) - nI m := by
  have : ∀ k, k ≤ 600 → ¬ (0 : Int32) ≤ (-1 : Int32) - nI k := by decide +kernel
  exact this m h
theorem m_len1 {v : Int32} (h : ∀ a, a < 3 → v ≠ nI a) : f_Mo_length c v (mo c I A E B n w) = some (mo c (va_up I 0 0) A E B n (w + 1), -1) := by
  unfold f_Mo_length f_Mo_length_26
  simp only [mo_is, mo_g0, mo_g1, mo_g2, mo_g3, mo_g5, mo_g7, mo_g9, mo_g12, mo_g13, mo_g17, mo_g18, mo_g19, mo_r4, mo_r6, mo_r8, mo_r10, mo_r11, mo_r14, mo_r15, mo_r16, mo_p0, mo_p1, mo_p2, mo_p3, mo_p5, mo_p7, mo_p9, mo_p12, mo_p13, mo_p17, mo_p18, mo_p19, Option.bind_some, zb_S]
  rw [show f_Mo_in v (0 : Int32) (2 : Int32) (mo c (va_up I 0 0) A E B n (w + 1)) = _ from in_bad (a := 0) (b := 2) (by decide) (by decide) (fun j _ hj => h j (by omega)) _, zb_S, if_pos rfl]
theorem m_len {v : Nat} (hv : v < 3) {tx : List Int64} (hl : I 3 = nI tx.length) (h6 : tx.length ≤ 600) (hr : rp (A 0) tx) : f_Mo_length c (nI v) (mo c I A E B n w) = some (mo c (va_up I 0 0) A E B n (w + 1), nI (cv v tx 0)) := by
  unfold f_Mo_length f_Mo_length_26
  simp only [mo_is, mo_g0, mo_g1, mo_g2, mo_g3, mo_g5, mo_g7, mo_g9, mo_g12, mo_g13, mo_g17, mo_g18, mo_g19, mo_r4, mo_r6, mo_r8, mo_r10, mo_r11, mo_r14, mo_r15, mo_r16, mo_p0, mo_p1, mo_p2, mo_p3, mo_p5, mo_p7, mo_p9, mo_p12, mo_p13, mo_p17, mo_p18, mo_p19, Option.bind_some, zb_S]
  rw [show f_Mo_in (nI v) (0 : Int32) (2 : Int32) (mo c (va_up I 0 0) A E B n (w + 1)) = _ from in_good (a := 0) (b := 2) (Nat.zero_le _) (by omega) (by decide) _, zb_S, if_neg (by decide)]
  simp only [mo_is, if_true]
  rw [m_placeOf c _ A E B n _ hv (-1) (tx := tx) (by simp [va_up, hl]) h6 hr, zb_S, plc_m1 v tx 0 0 (by omega)]
  simp only [m1m1]
theorem m_seen1 {v1 v3 : Int32} (i : Int32) (h : (∀ a, a < 3 → v1 ≠ nI a) ∨ ∀ a, a < 3 → v3 ≠ nI a) : f_Mo_seen c v1 i v3 (mo c I A E B n w) = some (mo c (va_up I 0 1) A E B n (w + 1), 0) := by
  unfold f_Mo_seen f_Mo_seen_19 f_Mo_seen_37
  by_cases h1 : ∃ a, a < 3 ∧ v1 = nI a
  · obtain ⟨a, ha, rfl⟩ := h1
    have h3 : ∀ a, a < 3 → v3 ≠ nI a := by
      rcases h with h | h
      · exact absurd rfl (h a ha)
      · exact h
    rw [show f_Mo_in (nI a) (0 : Int32) (2 : Int32) (mo c I A E B n w) = _ from in_good (a := 0) (b := 2) (Nat.zero_le _) (by omega) (by decide) _, zb_S, if_neg (by decide), show f_Mo_in v3 (0 : Int32) (2 : Int32) (mo c I A E B n w) = _ from in_bad (a := 0) (b := 2) (by decide) (by decide) (fun j _ hj => h3 j (by omega)) _, zb_S, if_pos rfl]
    simp only [mo_is, mo_g0, mo_g1, mo_g2, mo_g3, mo_g5, mo_g7, mo_g9, mo_g12, mo_g13, mo_g17, mo_g18, mo_g19, mo_r4, mo_r6, mo_r8, mo_r10, mo_r11, mo_r14, mo_r15, mo_r16, mo_p0, mo_p1, mo_p2, mo_p3, mo_p5, mo_p7, mo_p9, mo_p12, mo_p13, mo_p17, mo_p18, mo_p19, Option.bind_some, zb_S, va_up_self]
    rw [if_neg (by decide)]
  · rw [show f_Mo_in v1 (0 : Int32) (2 : Int32) (mo c I A E B n w) = _ from in_bad (a := 0) (b := 2) (by decide) (by decide) (fun j _ hj e => h1 ⟨j, by omega, e⟩) _, zb_S, if_pos rfl]
    simp only [mo_is, mo_g0, mo_g1, mo_g2, mo_g3, mo_g5, mo_g7, mo_g9, mo_g12, mo_g13, mo_g17, mo_g18, mo_g19, mo_r4, mo_r6, mo_r8, mo_r10, mo_r11, mo_r14, mo_r15, mo_r16, mo_p0, mo_p1, mo_p2, mo_p3, mo_p5, mo_p7, mo_p9, mo_p12, mo_p13, mo_p17, mo_p18, mo_p19, Option.bind_some, zb_S, va_up_self]
    rw [if_neg (by decide)]
theorem m_seen {v what : Nat} (hv : v < 3) (hw : what < 3) (i : Int32) {tx : List Int64} (hl : I 3 = nI tx.length) (h6 : tx.length ≤ 600) (hr : rp (A 0) tx) : f_Mo_seen c (nI v) i (nI what) (mo c I A E B n w) = match plc v i tx 0 0 with | .inl j => some (mo c (va_up I 0 0) A E B n (w + 1), nI (seenV v what (fl tx j) j)) | .inr _ => some (mo c (va_up I 0 2) A E B n (w + 1), 0) := by
  unfold f_Mo_seen
  rw [show f_Mo_in (nI v) (0 : Int32) (2 : Int32) (mo c I A E B n w) = _ from in_good (a := 0) (b := 2) (Nat.zero_le _) (by omega) (by decide) _, zb_S, if_neg (by decide), show f_Mo_in (nI what) (0 : Int32) (2 : Int32) (mo c I A E B n w) = _ from in_good (a := 0) (b := 2) (Nat.zero_le _) (by omega) (by decide) _, zb_S, if_neg (by decide)]
  simp only [mo_is, if_true]
  rw [m_placeOf c I A E B n w hv i hl h6 hr, zb_S]
  cases hp : plc v i tx 0 0 with
  | inr j =>
    have hj := plc_r v i tx 0 0 j hp
    simp only
    rw [if_neg (m1neg (by omega))]
    unfold f_Mo_seen_37
    simp only [mo_is, mo_g0, mo_g1, mo_g2, mo_g3, mo_g5, mo_g7, mo_g9, mo_g12, mo_g13, mo_g17, mo_g18, mo_g19, mo_r4, mo_r6, mo_r8, mo_r10, mo_r11, mo_r14, mo_r15, mo_r16, mo_p0, mo_p1, mo_p2, mo_p3, mo_p5, mo_p7, mo_p9, mo_p12, mo_p13, mo_p17, mo_p18, mo_p19, Option.bind_some, zb_S, va_up_self]
    rw [if_neg (by decide)]
  | inl j =>
    have hj := plc_l v i tx 0 0 j hp
    have hj6 : j < 600 := by omega
    simp only
    rw [if_pos (nI_pos' (by omega))]
    unfold f_Mo_seen_37 f_Mo_seen_90 f_Mo_seen_101 f_Mo_seen_133 seenV
    simp only [mo_is, mo_g0, mo_g1, mo_g2, mo_g3, mo_g5, mo_g7, mo_g9, mo_g12, mo_g13, mo_g17, mo_g18, mo_g19, mo_r4, mo_r6, mo_r8, mo_r10, mo_r11, mo_r14, mo_r15, mo_r16, mo_p0, mo_p1, mo_p2, mo_p3, mo_p5, mo_p7, mo_p9, mo_p12, mo_p13, mo_p17, mo_p18, mo_p19, Option.bind_some, zb_S, va_up_self, if_true]
    rw [if_pos (Int32.le_refl 0), m_placeOf c (va_up I 0 0) A E B n _ hv i (tx := tx) (by simp [va_up, hl]) h6 hr, hp]
    have e2 : (nI v = (2 : Int32)) ↔ v = 2 := nI_eq (a := v) (b := 2) (by omega) (by decide)
    have e1 : (nI what = (1 : Int32)) ↔ what = 1 := nI_eq (a := what) (b := 1) (by omega) (by decide)
    simp only [mo_is, mo_g0, mo_g1, mo_g2, mo_g3, mo_g5, mo_g7, mo_g9, mo_g12, mo_g13, mo_g17, mo_g18, mo_g19, mo_r4, mo_r6, mo_r8, mo_r10, mo_r11, mo_r14, mo_r15, mo_r16, mo_p0, mo_p1, mo_p2, mo_p3, mo_p5, mo_p7, mo_p9, mo_p12, mo_p13, mo_p17, mo_p18, mo_p19, Option.bind_some, zb_S, mo_l0 (hi := hj6), mpart0, mpart1, mpart4, mpart5, e1, e2, nI0 (show what < 2 ^ 31 by omega), nIb (pt_lt (fl tx j) 4), rp_fl hr (show j < tx.length by omega)]
    by_cases k0 : what = 0 <;> by_cases k1 : what = 1 <;> by_cases k2 : v = 2 <;> by_cases k4 : pt (fl tx j) 4 = 0 <;> simp_all
theorem m_mark1 {tx : List Int64} (hl : I 3 = nI tx.length) (h6 : tx.length ≤ 600) {v1 v2 : Int32} (h : ∀ p, p < tx.length → v1 ≠ nI p) : f_Mo_mark c v1 v2 (mo c I A E B n w) = some (mo c (va_up I 0 1) A E B n (w + 1), 0) := by
  unfold f_Mo_mark f_Mo_mark_33
  simp only [mo_is, mo_g0, mo_g1, mo_g2, mo_g3, mo_g5, mo_g7, mo_g9, mo_g12, mo_g13, mo_g17, mo_g18, mo_g19, mo_r4, mo_r6, mo_r8, mo_r10, mo_r11, mo_r14, mo_r15, mo_r16, mo_p0, mo_p1, mo_p2, mo_p3, mo_p5, mo_p7, mo_p9, mo_p12, mo_p13, mo_p17, mo_p18, mo_p19, Option.bind_some, zb_S, hl]
  have e : f_Mo_in v1 (0 : Int32) (nI tx.length - 1) (mo c I A E B n w) = some (mo c I A E B n w, 0) := by
    by_cases h0 : tx.length = 0
    · rw [h0, nI_0]
      unfold f_Mo_in f_Mo_in_14 f_Mo_in_15
      by_cases hv : v1 < 0
      · rw [if_pos hv]; rfl
      · rw [if_neg hv]
        obtain ⟨j, hj, rfl⟩ := nI_of hv
        rw [if_pos]
        · rfl
        · rw [Int32.lt_iff_toInt_lt, nI_toInt hj]
          have : ((0 : Int32) - 1).toInt = -1 := rfl
          omega
    · rw [nI_s1 (by omega)]
      exact in_bad (a := 0) (by decide) (by omega) (fun j _ hj => h j (by omega)) _
  rw [e, zb_S, if_pos rfl]
  simp only [mo_is, mo_g0, mo_g1, mo_g2, mo_g3, mo_g5, mo_g7, mo_g9, mo_g12, mo_g13, mo_g17, mo_g18, mo_g19, mo_r4, mo_r6, mo_r8, mo_r10, mo_r11, mo_r14, mo_r15, mo_r16, mo_p0, mo_p1, mo_p2, mo_p3, mo_p5, mo_p7, mo_p9, mo_p12, mo_p13, mo_p17, mo_p18, mo_p19, Option.bind_some, zb_S, va_up_self]
  rw [if_neg (by decide)]
theorem m_mark2 {tx : List Int64} (hl : I 3 = nI tx.length) (h6 : tx.length ≤ 600) {p : Nat} (hp : p < tx.length) {v2 : Int32} (h : ∀ a, a < 4 → v2 ≠ nI a) : f_Mo_mark c (nI p) v2 (mo c I A E B n w) = some (mo c (va_up I 0 2) A E B n (w + 1), 0) := by
  unfold f_Mo_mark f_Mo_mark_33
  simp only [mo_is, mo_g0, mo_g1, mo_g2, mo_g3, mo_g5, mo_g7, mo_g9, mo_g12, mo_g13, mo_g17, mo_g18, mo_g19, mo_r4, mo_r6, mo_r8, mo_r10, mo_r11, mo_r14, mo_r15, mo_r16, mo_p0, mo_p1, mo_p2, mo_p3, mo_p5, mo_p7, mo_p9, mo_p12, mo_p13, mo_p17, mo_p18, mo_p19, Option.bind_some, zb_S, hl]
  rw [nI_s1 (by omega), show f_Mo_in (nI p) (0 : Int32) (nI (tx.length - 1)) (mo c I A E B n w) = _ from in_good (a := 0) (Nat.zero_le _) (by omega) (by omega) _, zb_S, if_neg (by decide), show f_Mo_in v2 (0 : Int32) (3 : Int32) (mo c I A E B n w) = _ from in_bad (a := 0) (b := 3) (by decide) (by decide) (fun j _ hj => h j (by omega)) _, zb_S, if_pos rfl]
  simp only [mo_is, mo_g0, mo_g1, mo_g2, mo_g3, mo_g5, mo_g7, mo_g9, mo_g12, mo_g13, mo_g17, mo_g18, mo_g19, mo_r4, mo_r6, mo_r8, mo_r10, mo_r11, mo_r14, mo_r15, mo_r16, mo_p0, mo_p1, mo_p2, mo_p3, mo_p5, mo_p7, mo_p9, mo_p12, mo_p13, mo_p17, mo_p18, mo_p19, Option.bind_some, zb_S, va_up_self]
  rw [if_neg (by decide)]
def markV (a : Nat) (x : Int64) : Int32 := if a = 3 then (if pt x 4 = 0 then -1 else nI (pt x 5)) else nI (pt x (2 + a))
theorem m_mark {tx : List Int64} (hl : I 3 = nI tx.length) (h6 : tx.length ≤ 600) (hr : rp (A 0) tx) {p a : Nat} (hp : p < tx.length) (ha : a < 4) : f_Mo_mark c (nI p) (nI a) (mo c I A E B n w) = some (mo c (va_up I 0 0) A E B n (w + 1), markV a (fl tx p)) := by
  unfold f_Mo_mark f_Mo_mark_33 f_Mo_mark_84 markV
  simp only [mo_is, mo_g0, mo_g1, mo_g2, mo_g3, mo_g5, mo_g7, mo_g9, mo_g12, mo_g13, mo_g17, mo_g18, mo_g19, mo_r4, mo_r6, mo_r8, mo_r10, mo_r11, mo_r14, mo_r15, mo_r16, mo_p0, mo_p1, mo_p2, mo_p3, mo_p5, mo_p7, mo_p9, mo_p12, mo_p13, mo_p17, mo_p18, mo_p19, Option.bind_some, zb_S, hl]
  rw [nI_s1 (by omega), show f_Mo_in (nI p) (0 : Int32) (nI (tx.length - 1)) (mo c I A E B n w) = _ from in_good (a := 0) (Nat.zero_le _) (by omega) (by omega) _, zb_S, if_neg (by decide), show f_Mo_in (nI a) (0 : Int32) (3 : Int32) (mo c I A E B n w) = _ from in_good (a := 0) (b := 3) (Nat.zero_le _) (by omega) (by decide) _, zb_S, if_neg (by decide)]
  simp only [mo_is, mo_g0, mo_g1, mo_g2, mo_g3, mo_g5, mo_g7, mo_g9, mo_g12, mo_g13, mo_g17, mo_g18, mo_g19, mo_r4, mo_r6, mo_r8, mo_r10, mo_r11, mo_r14, mo_r15, mo_r16, mo_p0, mo_p1, mo_p2, mo_p3, mo_p5, mo_p7, mo_p9, mo_p12, mo_p13, mo_p17, mo_p18, mo_p19, Option.bind_some, zb_S, va_up_self, mo_l0 (hi := show p < 600 by omega), rp_fl hr hp]
  rw [if_pos (Int32.le_refl 0)]
  by_cases h3 : a = 3
  · subst h3
    rw [if_pos (by decide), if_pos rfl, mpart4, zb_S]
    simp only [nIb (pt_lt (fl tx p) 4), mpart5, zb_S]
    by_cases h4 : pt (fl tx p) 4 = 0 <;> simp [h4]
  · rw [if_neg (show ¬ (3 : Int32) ≤ nI a from nI_ge (b := 3) (by omega) (by decide)), if_neg h3, show (2 : Int32) = nI 2 from rfl, nI_add, mpart _ (by omega), zb_S]
theorem l_next {a : Nat} (ha : a < 256) {len : Nat} (hl : I 3 = nI len) (h6 : len ≤ 600) : ∀ (rest : List Int64) (fuel k : Nat), rest.length < fuel → k + rest.length = len → (∀ j, j < rest.length → rest[j]? = some (A 0 (k + j))) → g_Mo_next_43 fuel c (nI a) (nI k) (mo c I A E B n w) = some (mo c I A E B n w, match nx a rest k with | some j => nI j | none => -1) := by
  intro rest
  induction rest with
  | nil =>
    intro fuel k hf hk hr
    obtain ⟨fuel, rfl⟩ : ∃ m, fuel = m + 1 := ⟨fuel - 1, by omega⟩
    show f_Mo_next_43 _ _ _ _ _ = _
    unfold f_Mo_next_43 f_Mo_next_94 f_Mo_next_107
    simp only [mo_is, mo_g0, mo_g1, mo_g2, mo_g3, mo_g5, mo_g7, mo_g9, mo_g12, mo_g13, mo_g17, mo_g18, mo_g19, mo_r4, mo_r6, mo_r8, mo_r10, mo_r11, mo_r14, mo_r15, mo_r16, mo_p0, mo_p1, mo_p2, mo_p3, mo_p5, mo_p7, mo_p9, mo_p12, mo_p13, mo_p17, mo_p18, mo_p19, Option.bind_some, zb_S, hl, List.length_nil] at hk ⊢
    rw [if_pos (nI_le (by omega) (by omega)), if_pos (nI_le (by omega) (by omega))]; rfl
  | cons x xs ih =>
    intro fuel k hf hk hr
    obtain ⟨fuel, rfl⟩ : ∃ m, fuel = m + 1 := ⟨fuel - 1, by omega⟩
    simp only [List.length_cons] at hf hk
    have hx0 : A 0 k = x := by
      have := hr 0 (by simp)
      simpa using this.symm
    have hrest : ∀ j, j < xs.length → xs[j]? = some (A 0 (k + 1 + j)) := by
      intro j hj
      have := hr (j + 1) (by simp; omega)
      simpa [Nat.add_assoc, Nat.add_comm, Nat.add_left_comm] using this
    show f_Mo_next_43 _ _ _ _ _ = _
    unfold f_Mo_next_43 f_Mo_next_94 f_Mo_next_107
    simp only [mo_is, mo_g0, mo_g1, mo_g2, mo_g3, mo_g5, mo_g7, mo_g9, mo_g12, mo_g13, mo_g17, mo_g18, mo_g19, mo_r4, mo_r6, mo_r8, mo_r10, mo_r11, mo_r14, mo_r15, mo_r16, mo_p0, mo_p1, mo_p2, mo_p3, mo_p5, mo_p7, mo_p9, mo_p12, mo_p13, mo_p17, mo_p18, mo_p19, Option.bind_some, zb_S, hl]
    rw [if_neg (nI_ge (by omega) (by omega))]
    simp only [mo_is, mo_g0, mo_g1, mo_g2, mo_g3, mo_g5, mo_g7, mo_g9, mo_g12, mo_g13, mo_g17, mo_g18, mo_g19, mo_r4, mo_r6, mo_r8, mo_r10, mo_r11, mo_r14, mo_r15, mo_r16, mo_p0, mo_p1, mo_p2, mo_p3, mo_p5, mo_p7, mo_p9, mo_p12, mo_p13, mo_p17, mo_p18, mo_p19, Option.bind_some, zb_S, mo_l0 (hi := show k < 600 by omega), hx0, mpart2, mpart3, mpart4, nI_or, nI_and, nI_1, hl]
    have hlt : (pt x 2 ||| pt x 3 ||| pt x 4) &&& a < 256 := and_lt (or_lt (or_lt (pt_lt x 2) (pt_lt x 3)) (pt_lt x 4))
    simp only [nIb hlt]
    unfold nx mkr
    by_cases h : (pt x 2 ||| pt x 3 ||| pt x 4) &&& a = 0
    · rw [if_pos h, if_pos h]; exact ih fuel _ (by omega) (by omega) hrest
    · rw [if_neg h, if_neg h, if_neg (nI_ge (by omega) (by omega))]
theorem m_next1 {tx : List Int64} (hl : I 3 = nI tx.length) (h6 : tx.length ≤ 600) {v1 v2 : Int32} (h : ¬ PLC v1 tx.length) : f_Mo_next c v1 v2 (mo c I A E B n w) = some (mo c (va_up I 0 1) A E B n (w + 1), 0) := by
  unfold f_Mo_next f_Mo_next_29
  simp only [mo_is, if_true]
  rw [pl_bad c I A E B n w hl h6 h, zb_S, if_pos rfl]
  simp only [mo_is, mo_g0, mo_g1, mo_g2, mo_g3, mo_g5, mo_g7, mo_g9, mo_g12, mo_g13, mo_g17, mo_g18, mo_g19, mo_r4, mo_r6, mo_r8, mo_r10, mo_r11, mo_r14, mo_r15, mo_r16, mo_p0, mo_p1, mo_p2, mo_p3, mo_p5, mo_p7, mo_p9, mo_p12, mo_p13, mo_p17, mo_p18, mo_p19, Option.bind_some, zb_S, va_up_self]
  rw [if_neg (by decide)]
theorem m_next2 {tx : List Int64} (hl : I 3 = nI tx.length) (h6 : tx.length ≤ 600) {v1 v2 : Int32} (h : PLC v1 tx.length) (h2 : ¬ SET v2) : f_Mo_next c v1 v2 (mo c I A E B n w) = some (mo c (va_up I 0 2) A E B n (w + 1), 0) := by
  unfold f_Mo_next f_Mo_next_29
  simp only [mo_is, if_true]
  rw [pl_good c I A E B n w hl h6 h, zb_S, if_neg (by decide), set_bad h2, zb_S, if_pos rfl]
  simp only [mo_is, mo_g0, mo_g1, mo_g2, mo_g3, mo_g5, mo_g7, mo_g9, mo_g12, mo_g13, mo_g17, mo_g18, mo_g19, mo_r4, mo_r6, mo_r8, mo_r10, mo_r11, mo_r14, mo_r15, mo_r16, mo_p0, mo_p1, mo_p2, mo_p3, mo_p5, mo_p7, mo_p9, mo_p12, mo_p13, mo_p17, mo_p18, mo_p19, Option.bind_some, zb_S, va_up_self]
  rw [if_neg (by decide)]
theorem m_next {tx : List Int64} (hl : I 3 = nI tx.length) (h6 : tx.length ≤ 600) (hr : rp (A 0) tx) {p a : Nat} (hp : p ≤ tx.length) (h1 : 1 ≤ a) (ha : a < 256) : f_Mo_next c (nI p) (nI a) (mo c I A E B n w) = some (mo c (va_up I 0 0) A E B n (w + 1), match nx a (tx.drop p) p with | some j => nI j | none => -1) := by
  unfold f_Mo_next f_Mo_next_29
  simp only [mo_is, if_true]
  rw [pl_good c I A E B n w hl h6 ⟨p, rfl, hp⟩, zb_S, if_neg (by decide), set_good h1 ha, zb_S, if_neg (by decide)]
  simp only [mo_is, mo_g0, mo_g1, mo_g2, mo_g3, mo_g5, mo_g7, mo_g9, mo_g12, mo_g13, mo_g17, mo_g18, mo_g19, mo_r4, mo_r6, mo_r8, mo_r10, mo_r11, mo_r14, mo_r15, mo_r16, mo_p0, mo_p1, mo_p2, mo_p3, mo_p5, mo_p7, mo_p9, mo_p12, mo_p13, mo_p17, mo_p18, mo_p19, Option.bind_some, zb_S, va_up_self]
  rw [if_pos (Int32.le_refl 0)]
  exact l_next c (va_up I 0 0) A E B n (w + 1) ha (len := tx.length) (by simp [va_up, hl]) h6 (tx.drop p) zq_F p (zF_lt (by simp; omega)) (by simp; omega) (fun j hj => by rw [List.getElem?_drop]; exact hr _ (by simp at hj; omega))
theorem l_mk45 (K : Nat → Int32 → Int32 → Int32 → zq_S → Option (zq_S × Int32)) (v1 : Int32) {m k : Nat} {x : Int64} (hk : k < 600) (hx : A 0 k = x) (hVx : V x) : ∀ (seg : List Int64) (fuel j f : Nat), seg.length < fuel → j + seg.length = k → f < 2 → (∀ i, i < seg.length → seg[i]? = some (A 0 (j + i))) → (∀ y ∈ seg, V y) → g_Mo_marks_45 K fuel c v1 (nI m) (nI k) (nI f) (nI j) (mo c I A E B n w) = K c v1 (nI (m + frs x seg f)) (nI (k + 1)) (mo c I A E B n w) := by
  intro seg
  induction seg with
  | nil =>
    intro fuel j f hf hj hf2 hr hV
    obtain ⟨fuel, rfl⟩ : ∃ m, fuel = m + 1 := ⟨fuel - 1, by omega⟩
    simp only [List.length_nil] at hj
    show f_Mo_marks_45 _ _ _ _ _ _ _ _ _ = _
    unfold f_Mo_marks_45 f_Mo_marks_95 f_Mo_marks_97
    rw [if_pos (nI_le (by omega) (by omega))]
    have : f = 0 ∨ f = 1 := by omega
    rcases this with h | h <;> subst h
    · rw [if_pos nI_0, nIz, nI_1]; rfl
    · rw [if_neg (by decide), nI_1, nI_1]; rfl
  | cons y ys ih =>
    intro fuel j f hf hj hf2 hr hV
    obtain ⟨fuel, rfl⟩ : ∃ m, fuel = m + 1 := ⟨fuel - 1, by omega⟩
    simp only [List.length_cons] at hf hj
    have hx0 : A 0 j = y := by
      have := hr 0 (by simp)
      simpa using this.symm
    have hrest : ∀ i, i < ys.length → ys[i]? = some (A 0 (j + 1 + i)) := by
      intro i hi
      have := hr (i + 1) (by simp; omega)
      simpa [Nat.add_assoc, Nat.add_comm, Nat.add_left_comm] using this
    have hVy : V y := hV y (by simp)
    have hVs : ∀ z ∈ ys, V z := fun z hz => hV z (by simp [hz])
    show f_Mo_marks_45 _ _ _ _ _ _ _ _ _ = _
    unfold f_Mo_marks_45 f_Mo_marks_75 f_Mo_marks_71 f_Mo_marks_76
    rw [if_neg (nI_ge (by omega) (by omega)), if_neg (nI_pos (show j < 2 ^ 31 by omega))]
    simp only [mo_is, if_true, nI_1, nI0 (show f < 2 ^ 31 by omega)]
    unfold f_Mo_alike f_Mo_alike_27 frs
    simp only [mo_is, mo_g0, mo_g1, mo_g2, mo_g3, mo_g5, mo_g7, mo_g9, mo_g12, mo_g13, mo_g17, mo_g18, mo_g19, mo_r4, mo_r6, mo_r8, mo_r10, mo_r11, mo_r14, mo_r15, mo_r16, mo_p0, mo_p1, mo_p2, mo_p3, mo_p5, mo_p7, mo_p9, mo_p12, mo_p13, mo_p17, mo_p18, mo_p19, Option.bind_some, zb_S, mo_l0 (hi := hk), mo_l0 (hi := show j < 600 by omega), hx, hx0, V_shr hVx, V_shr hVy, lcmp0]
    by_cases h0 : f = 0
    · rw [if_pos h0, if_pos h0, ← nI_0]
      exact ih fuel _ 0 (by omega) (by omega) (by decide) hrest hVs
    · rw [if_neg h0, if_neg h0]
      unfold mkL
      by_cases h1 : zf_lushr x 16 = zf_lushr y 16
      · rw [if_pos h1, if_pos h1]
        rw [if_pos (Or.inr trivial), zb_S, if_neg nI1z, ← nI_0]
        exact ih fuel _ 0 (by omega) (by omega) (by decide) hrest hVs
      · rw [if_neg h1, if_neg h1]
        rw [if_pos (Or.inl trivial), zb_S, if_pos rfl]
        exact ih fuel _ 1 (by omega) (by omega) (by decide) hrest hVs
theorem l_mk4 (v1 : Int32) {tx : List Int64} (hl : I 3 = nI tx.length) (h6 : tx.length ≤ 600) (hr : rp (A 0) tx) (hV : ∀ y ∈ tx, V y) : ∀ (rest p : List Int64) (fuel m : Nat), rest.length < fuel → tx = p ++ rest → g_Mo_marks_4 fuel c v1 (nI m) (nI p.length) (mo c I A E B n w) = some (mo c I A E B n w, nI (if v1 = 0 then df p rest m else rn rest ((p.getLast?.map mkL).getD 0) m)) := by
  intro rest
  induction rest with
  | nil =>
    intro p fuel m hf ht
    obtain ⟨fuel, rfl⟩ : ∃ m, fuel = m + 1 := ⟨fuel - 1, by omega⟩
    have hp : p.length = tx.length := by rw [ht]; simp
    show f_Mo_marks_4 _ _ _ _ _ _ = _
    unfold f_Mo_marks_4
    simp only [mo_is, mo_g0, mo_g1, mo_g2, mo_g3, mo_g5, mo_g7, mo_g9, mo_g12, mo_g13, mo_g17, mo_g18, mo_g19, mo_r4, mo_r6, mo_r8, mo_r10, mo_r11, mo_r14, mo_r15, mo_r16, mo_p0, mo_p1, mo_p2, mo_p3, mo_p5, mo_p7, mo_p9, mo_p12, mo_p13, mo_p17, mo_p18, mo_p19, Option.bind_some, zb_S, hl]
    rw [if_pos (nI_le (by omega) (by omega))]
    simp [df, rn]
  | cons x xs ih =>
    intro p fuel m hf ht
    obtain ⟨fuel, rfl⟩ : ∃ m, fuel = m + 1 := ⟨fuel - 1, by omega⟩
    have hp : p.length + (xs.length + 1) = tx.length := by rw [ht]; simp
    simp only [List.length_cons] at hf
    have hx0 : A 0 p.length = x := by
      have := hr p.length (by omega)
      rw [ht, List.getElem?_append_right (Nat.le_refl _)] at this
      simpa using this.symm
    have hVx : V x := hV x (by rw [ht]; simp)
    have hVp : ∀ y ∈ p, V y := fun y hy => hV y (by rw [ht]; simp [hy])
    have hpr : ∀ i, i < p.length → p[i]? = some (A 0 (0 + i)) := by
      intro i hi
      have := hr i (by omega)
      rw [ht, List.getElem?_append_left hi] at this
      rw [Nat.zero_add]; exact this
    have ih' := fun m' => ih (p ++ [x]) fuel m' (by omega) (by rw [ht]; simp)
    simp only [List.length_append, List.length_singleton, List.getLast?_concat, Option.map_some, Option.getD_some] at ih'
    show f_Mo_marks_4 _ _ _ _ _ _ = _
    unfold f_Mo_marks_4 f_Mo_marks_97 f_Mo_marks_43
    simp only [mo_is, mo_g0, mo_g1, mo_g2, mo_g3, mo_g5, mo_g7, mo_g9, mo_g12, mo_g13, mo_g17, mo_g18, mo_g19, mo_r4, mo_r6, mo_r8, mo_r10, mo_r11, mo_r14, mo_r15, mo_r16, mo_p0, mo_p1, mo_p2, mo_p3, mo_p5, mo_p7, mo_p9, mo_p12, mo_p13, mo_p17, mo_p18, mo_p19, Option.bind_some, zb_S, hl]
    rw [if_neg (nI_ge (by omega) (by omega))]
    simp only [mo_l0 (hi := show p.length < 600 by omega), Option.bind_some, hx0, V_shr hVx, lcmp0, nI_1]
    unfold df rn
    by_cases h0 : zf_lushr x 16 = 0
    · rw [if_pos h0, if_pos (show mkL x = 0 from h0), if_pos (show mkL x = 0 from h0)]
      exact ih' m
    · rw [if_neg h0, if_neg (show ¬ mkL x = 0 from h0), if_neg (show ¬ mkL x = 0 from h0)]
      by_cases hv : v1 = 0
      · rw [if_pos hv, if_pos hv]
        have := l_mk45 c I A E B n w (g_Mo_marks_4 fuel) v1 (m := m) (k := p.length) (x := x) (by omega) hx0 hVx p zq_F 0 1 (zF_lt (by omega)) (by omega) (by decide) hpr hVp
        rw [nI_0] at this
        rw [show (1 : Int32) = nI 1 from rfl, this]
        have := ih' (m + frs x p 1)
        rw [if_pos hv] at this
        exact this
      · rw [if_neg hv, if_neg hv]
        by_cases hp0 : p = []
        · subst hp0
          have e1 : g_Mo_marks_45 (g_Mo_marks_4 fuel) zq_F c v1 (nI m) (nI ([] : List Int64).length) 1 (nI ([] : List Int64).length - 1) (mo c I A E B n w) = g_Mo_marks_45 (g_Mo_marks_4 fuel) 999999 c v1 (nI m) (nI 0) (nI 1) (nI 0) (mo c I A E B n w) := by
            show f_Mo_marks_45 _ (g_Mo_marks_45 _ 999999) _ _ _ _ _ _ _ = _
            unfold f_Mo_marks_45 f_Mo_marks_71 f_Mo_marks_76
            rw [if_neg (by decide), if_neg (by decide), if_pos (by decide)]
            rfl
          rw [e1, l_mk45 c I A E B n w (g_Mo_marks_4 fuel) v1 (m := m) (k := 0) (x := x) (by decide) hx0 hVx [] 999999 0 1 (by decide) rfl (by decide) (fun i hi => absurd hi (by simp)) (fun y hy => absurd hy (by simp))]
          have := ih' (m + 1)
          rw [if_neg hv] at this
          have hb : ¬ mkL x = ((([] : List Int64).getLast?.map mkL).getD 0) := by simpa using (show ¬ mkL x = 0 from h0)
          rw [if_neg hb]
          exact this
        · have hpl : 1 ≤ p.length := by
            cases p with
            | nil => exact absurd rfl hp0
            | cons _ _ => simp
          obtain ⟨q, y, rfl⟩ : ∃ q y, p = q ++ [y] := ⟨p.dropLast, p.getLast hp0, (List.dropLast_concat_getLast hp0).symm⟩
          have hpl2 : (q ++ [y]).length = q.length + 1 := by simp
          have hy : A 0 q.length = y := by
            have := hpr q.length (by omega)
            rw [List.getElem?_append_right (Nat.le_refl _)] at this
            simpa using this.symm
          have := l_mk45 c I A E B n w (g_Mo_marks_4 fuel) v1 (m := m) (k := (q ++ [y]).length) (x := x) (by omega) hx0 hVx [y] zq_F q.length 1 (zF_lt (by simp)) (by simp) (by decide) (fun i hi => by
            have : i = 0 := by simp at hi; exact hi
            subst this; simp [hy]) (fun z hz => hVp z (by simp at hz; simp [hz]))
          rw [nI_s1 hpl, show (q ++ [y]).length - 1 = q.length by omega, show (1 : Int32) = nI 1 from rfl, this]
          have := ih' (m + frs x [y] 1)
          rw [if_neg hv] at this
          rw [this]
          have : frs x [y] 1 = if mkL x = mkL y then 0 else 1 := rfl
          rw [this]
          simp only [List.getLast?_concat, Option.map_some, Option.getD_some]
          by_cases h1 : mkL x = mkL y <;> simp [h1]
theorem m_runs {tx : List Int64} (hl : I 3 = nI tx.length) (h6 : tx.length ≤ 600) (hr : rp (A 0) tx) (hV : ∀ y ∈ tx, V y) : f_Mo_marks c (1 : Int32) (mo c I A E B n w) = some (mo c I A E B n w, nI (rn tx 0 0)) := by
  unfold f_Mo_marks
  have := l_mk4 c I A E B n w 1 hl h6 hr hV tx [] zq_F 0 (zF_lt (by omega)) rfl
  rw [if_neg (by decide)] at this
  exact this
theorem m_diff {tx : List Int64} (hl : I 3 = nI tx.length) (h6 : tx.length ≤ 600) (hr : rp (A 0) tx) (hV : ∀ y ∈ tx, V y) : f_Mo_marks c (0 : Int32) (mo c I A E B n w) = some (mo c I A E B n w, nI (df [] tx 0)) := by
  unfold f_Mo_marks
  have := l_mk4 c I A E B n w 0 hl h6 hr hV tx [] zq_F 0 (zF_lt (by omega)) rfl
  rw [if_pos rfl] at this
  exact this
def cntV (v : Int32) (op : Nat) (tx : List Int64) (gw : Nat → Nat) (d u : Nat) : Int32 := if v = 0 then nI (rn tx 0 0) else if v = 1 then nI (df [] tx 0) else if v = 2 then nI d else if v = 3 then nI u else if v = 4 then nI (sm gw 0 d) else if v = 5 then nI (sm gw d u) else if v = 6 then nI op else -1
theorem m_count {I : Nat → Int32} {A : Nat → Nat → Int64} {E : Nat → Nat → Int32} {au tr op : Nat} {tx : List Int64} {sn : Nat → List Int64} {ge gw : Nat → Nat} {d u oe ow : Nat} (hR : RM I A E au tr op tx sn ge gw d u oe ow) (hW : WF op tx sn ge gw d u oe ow) (v : Int32) (w : Nat) : f_Mo_count c v (mo c I A E B n w) = some (mo c (va_up I 0 0) A E B n (w + 1), cntV v op tx gw d u) := by
  obtain ⟨r1, r2, r3, r4, r17, r18, r12, r13, rE, rC, r7, rB, r9, r9'⟩ := RM_0 hR 0
  obtain ⟨w1, w2, w3, w4, w5, w6, w7, w8, w9, w10⟩ := hW
  unfold f_Mo_count f_Mo_count_110 cntV
  simp only [mo_is, mo_g0, mo_g1, mo_g2, mo_g3, mo_g5, mo_g7, mo_g9, mo_g12, mo_g13, mo_g17, mo_g18, mo_g19, mo_r4, mo_r6, mo_r8, mo_r10, mo_r11, mo_r14, mo_r15, mo_r16, mo_p0, mo_p1, mo_p2, mo_p3, mo_p5, mo_p7, mo_p9, mo_p12, mo_p13, mo_p17, mo_p18, mo_p19, Option.bind_some, zb_S, if_true]
  rw [m_runs c _ A E B n _ r3 w1 r4 w2, m_diff c _ A E B n _ r3 w1 r4 w2, r12, r13, r17]
  have e4 := m_wOf c (va_up I 0 0) A E B n (w + 1) (gw := gw) (fr := 0) (to := d) (Nat.zero_le _) (by omega) (fun j hj => (rE j (by omega)).2.2)
  have e5 := m_wOf c (va_up I 0 0) A E B n (w + 1) (gw := gw) (fr := d) (to := d + u) (by omega) (by omega) (fun j hj => (rE j (by omega)).2.2)
  rw [nI_0, Nat.sub_zero] at e4
  rw [show d + u - d = u by omega] at e5
  rw [e4, e5, nI_sub (by omega), show d + u - d = u by omega]
  simp only [zb_S]
  by_cases h0 : v = 0
  · rw [if_pos h0, if_pos h0]
  · rw [if_neg h0, if_neg h0]
    by_cases h1 : v = 1
    · rw [if_pos h1, if_pos h1]
    · rw [if_neg h1, if_neg h1]
      by_cases h2 : v = 2
      · rw [if_pos h2, if_pos h2]
      · rw [if_neg h2, if_neg h2]
        by_cases h3 : v = 3
        · rw [if_pos h3, if_pos h3]
        · rw [if_neg h3, if_neg h3]
          by_cases h4 : v = 4
          · rw [if_pos h4, if_pos h4]
          · rw [if_neg h4, if_neg h4]
            by_cases h5 : v = 5
            · rw [if_pos h5, if_pos h5]
            · rw [if_neg h5, if_neg h5]
              by_cases h6 : v = 6
              · rw [if_pos h6, if_pos h6]
                have : op = 0 ∨ op = 1 := by omega
                rcases this with h | h <;> subst h
                · rw [if_pos nI_0, nI_0]
                · rw [if_neg (by decide)]; rfl
              · rw [if_neg h6, if_neg h6]
end AS
