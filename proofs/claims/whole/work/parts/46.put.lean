/-! a command played: insert; commands in one number -/
def hm (s : Int64) : Nat → Nat → Nat
  | 0, i => i
  | k + 1, i => if pt s i = 0 then i else hm s k (i + 1)
def nc (s : Int64) : Nat := hm s 8 0
theorem hm_le (s : Int64) : ∀ k i, i ≤ hm s k i ∧ hm s k i ≤ i + k := by
  intro k
  induction k with
  | zero => intro i; exact ⟨Nat.le_refl _, Nat.le_refl _⟩
  | succ k ih =>
    intro i
    unfold hm
    split
    · omega
    · have := ih (i + 1); omega
theorem hm_ne (s : Int64) : ∀ k i j, i ≤ j → j < hm s k i → pt s j ≠ 0 := by
  intro k
  induction k with
  | zero => intro i j h1 h2; unfold hm at h2; omega
  | succ k ih =>
    intro i j h1 h2
    unfold hm at h2
    split at h2
    · omega
    · rename_i h
      by_cases hj : j = i
      · subst hj; exact h
      · exact ih (i + 1) j (by omega) h2
theorem nc_le (s : Int64) : nc s ≤ 8 := by have := (hm_le s 8 0).2; unfold nc; omega
theorem nc_ne {s : Int64} {j : Nat} (h : j < nc s) : pt s j ≠ 0 := hm_ne s 8 0 j (by omega) h
theorem shl_0 (s : Int64) {i : Nat} (hi : i < 8) : (lg_cmp ((zf_lshr s ((8 : Int32) * nI i)) &&& (255 : Int64)) (0 : Int64)) = 0 ↔ pt s i = 0 := by
  rw [lcmp0, show (8 : Int32) = nI 8 from rfl, nI_mul, shl_pt s hi, show (0 : Int64) = lN 0 from rfl]
  exact lN_eq (by have := pt_lt s i; omega) (by decide)
theorem nI8 {i : Nat} (h : i < 8) : ¬ (8 : Int32) ≤ nI i := nI_ge (b := 8) h (by decide)
section PU
variable (c : Nat) (I : Nat → Int32) (E : Nat → Nat → Int32) (B : Nat → Option zq_E) (n : Nat)
theorem l_put3 (v1 : Int32) (s : Int64) (v4 v5 : Int32) (S : zq_S) : ∀ k fuel i, i + k = 8 → k < fuel → g_Mo_put_3 fuel c v1 s v4 v5 (nI i) S = f_Mo_put_32 c v1 s v4 v5 (nI (hm s k i)) S := by
  intro k
  induction k with
  | zero =>
    intro fuel i hi hf
    obtain ⟨fuel, rfl⟩ : ∃ m, fuel = m + 1 := ⟨fuel - 1, by omega⟩
    have hi : i = 8 := by omega
    subst hi
    show f_Mo_put_3 _ _ _ _ _ _ _ _ = _
    unfold f_Mo_put_3
    rw [if_pos (by decide)]; rfl
  | succ k ih =>
    intro fuel i hi hf
    obtain ⟨fuel, rfl⟩ : ∃ m, fuel = m + 1 := ⟨fuel - 1, by omega⟩
    show f_Mo_put_3 _ _ _ _ _ _ _ _ = _
    unfold f_Mo_put_3 hm
    rw [if_neg (nI8 (by omega))]
    simp only [shl_0 s (show i < 8 by omega), nI_1]
    by_cases h : pt s i = 0
    · rw [if_pos h, if_pos h]
    · rw [if_neg h, if_neg h]; exact ih fuel (i + 1) (by omega) (by omega)
theorem l_put72 {pl m len : Nat} (s : Int64) {f ins : Nat} (hf : f < 256) (hi : ins < 256) (hl : I 3 = nI len) (h6 : pl + m ≤ 600) (hm8 : m ≤ 8) : ∀ (k fuel i : Nat) (A : Nat → Nat → Int64) (w : Nat), i + k = m → k < fuel → ∃ (g : Nat → Int64) (w' : Nat), g_Mo_put_72 fuel c (nI pl) s (nI f) (nI ins) (nI m) (nI i) (mo c I A E B n w) = some (mo c (va_up I 3 (nI (len + m))) (va_up A 0 g) E B n w', nI (len + m)) ∧ (∀ j, j < pl + i → g j = A 0 j) ∧ (∀ j, i ≤ j → j < m → g (pl + j) = mk (pt s j) f ins) ∧ ∀ j, pl + m ≤ j → g j = A 0 j := by
  intro k
  induction k with
  | zero =>
    intro fuel i A w hik hfu
    obtain ⟨fuel, rfl⟩ : ∃ m, fuel = m + 1 := ⟨fuel - 1, by omega⟩
    have hik : i = m := by omega
    subst hik
    refine ⟨A 0, w + 1, ?_, fun j _ => rfl, fun j h1 h2 => absurd h2 (by omega), fun j _ => rfl⟩
    show f_Mo_put_72 _ _ _ _ _ _ _ _ _ = _
    unfold f_Mo_put_72
    rw [if_pos (nI_le (Nat.le_refl _) (by omega))]
    simp only [mo_is, mo_g0, mo_g1, mo_g2, mo_g3, mo_g5, mo_g7, mo_g9, mo_g12, mo_g13, mo_g17, mo_g18, mo_g19, mo_r4, mo_r6, mo_r8, mo_r10, mo_r11, mo_r14, mo_r15, mo_r16, mo_p0, mo_p1, mo_p2, mo_p3, mo_p5, mo_p7, mo_p9, mo_p12, mo_p13, mo_p17, mo_p18, mo_p19, Option.bind_some, zb_S, hl, nI_add, va_id, va_up_self]
  | succ k ih =>
    intro fuel i A w hik hfu
    obtain ⟨fuel, rfl⟩ : ∃ m, fuel = m + 1 := ⟨fuel - 1, by omega⟩
    have hp : ((((zf_lshr s ((8 : Int32) * (nI i))) &&& (255 : Int64)) ||| (zf_lshl (nI f).toInt64 (8 : Int32))) ||| (zf_lshl (nI ins).toInt64 (16 : Int32))) = mk (pt s i) f ins := by
      rw [show (8 : Int32) * nI i = nI (8 * i) from nI_mul 8 i, shl_pt s (show i < 8 by omega), mk_put (pt_lt s i) hf hi]
    obtain ⟨g, w', e, h1, h2, h3⟩ := ih fuel (i + 1) (va_up A 0 (vp_updL (A 0) (pl + i) (mk (pt s i) f ins))) (w + 1) (by omega) (by omega)
    refine ⟨g, w', ?_, fun j hj => ?_, fun j hj hj2 => ?_, fun j hj => ?_⟩
    · show f_Mo_put_72 _ _ _ _ _ _ _ _ _ = _
      unfold f_Mo_put_72
      rw [if_neg (nI_ge (by omega) (by omega))]
      simp only [mo_is, mo_g0, mo_g1, mo_g2, mo_g3, mo_g5, mo_g7, mo_g9, mo_g12, mo_g13, mo_g17, mo_g18, mo_g19, mo_r4, mo_r6, mo_r8, mo_r10, mo_r11, mo_r14, mo_r15, mo_r16, mo_p0, mo_p1, mo_p2, mo_p3, mo_p5, mo_p7, mo_p9, mo_p12, mo_p13, mo_p17, mo_p18, mo_p19, Option.bind_some, zb_S, nI_add, hp, mo_s0 (hi := show pl + i < 600 by omega), nI_1]
      rw [e, va_uu]
    · rw [h1 j (by omega), va_up_self, updL_ne _ _ (by omega)]
    · by_cases hji : j = i
      · subst hji; rw [h1 _ (by omega), va_up_self, updL_at]
      · exact h2 j (by omega) hj2
    · rw [h3 j hj, va_up_self, updL_ne _ _ (by omega)]
theorem nI_p1 {j a : Nat} (h : j ≤ a) (ha : a < 2 ^ 31) : nI j - 1 < nI a := by
  cases j with
  | zero =>
    rw [nI_0]
    have : (0 : Int32) - 1 = -1 := by decide
    rw [this, Int32.lt_iff_toInt_lt, nI_toInt ha]
    show (-1 : Int) < _
    omega
  | succ j => rw [nI_pred]; exact nI_lt (by omega) ha
theorem nI_m1 (j : Nat) : nI (j + 1) - 1 + (-1 : Int32) = nI j - 1 := by
  rw [nI_pred, Int32.sub_eq_add_neg]
theorem l_put40 {pl m : Nat} (s : Int64) {f ins : Int32} (hm1 : 1 ≤ m) : ∀ (k fuel : Nat) (A : Nat → Nat → Int64) (w : Nat), k < fuel → pl + k + m ≤ 600 → ∃ (g : Nat → Int64) (w' : Nat), g_Mo_put_40 fuel c (nI pl) s f ins (nI m) (nI (pl + k) - 1) (mo c I A E B n w) = g_Mo_put_72 zq_F c (nI pl) s f ins (nI m) (0 : Int32) (mo c I (va_up A 0 g) E B n w') ∧ (∀ i, i < pl → g i = A 0 i) ∧ (∀ i, pl ≤ i → i < pl + k → g (i + m) = A 0 i) ∧ ∀ i, pl + k + m ≤ i → g i = A 0 i := by
  intro k
  induction k with
  | zero =>
    intro fuel A w hfu h6
    obtain ⟨fuel, rfl⟩ : ∃ m, fuel = m + 1 := ⟨fuel - 1, by omega⟩
    refine ⟨A 0, w, ?_, fun j _ => rfl, fun j h1 h2 => absurd h2 (by omega), fun j _ => rfl⟩
    show f_Mo_put_40 _ _ _ _ _ _ _ _ _ = _
    unfold f_Mo_put_40
    rw [if_pos (nI_p1 (by omega) (by omega)), va_id]
  | succ k ih =>
    intro fuel A w hfu h6
    obtain ⟨fuel, rfl⟩ : ∃ m, fuel = m + 1 := ⟨fuel - 1, by omega⟩
    obtain ⟨g, w', e, h1, h2, h3⟩ := ih fuel (va_up A 0 (vp_updL (A 0) (pl + k + m) (A 0 (pl + k)))) (w + 1) (by omega) (by omega)
    refine ⟨g, w', ?_, fun i hi => ?_, fun i hi hi2 => ?_, fun i hi => ?_⟩
    · show f_Mo_put_40 _ _ _ _ _ _ _ _ _ = _
      unfold f_Mo_put_40
      have hx : nI (pl + (k + 1)) - 1 = nI (pl + k) := nI_pred (pl + k)
      rw [hx, if_neg (nI_nlt (by omega) (by omega))]
      simp only [mo_is, mo_g0, mo_g1, mo_g2, mo_g3, mo_g5, mo_g7, mo_g9, mo_g12, mo_g13, mo_g17, mo_g18, mo_g19, mo_r4, mo_r6, mo_r8, mo_r10, mo_r11, mo_r14, mo_r15, mo_r16, mo_p0, mo_p1, mo_p2, mo_p3, mo_p5, mo_p7, mo_p9, mo_p12, mo_p13, mo_p17, mo_p18, mo_p19, Option.bind_some, zb_S, mo_l0 (hi := show pl + k < 600 by omega), nI_add, mo_s0 (hi := show pl + k + m < 600 by omega)]
      rw [← hx, show pl + (k + 1) = (pl + k) + 1 by omega, nI_m1, e, va_uu]
    · rw [h1 i hi, va_up_self, updL_ne _ _ (by omega)]
    · by_cases hik : i = pl + k
      · subst hik; rw [h3 _ (by omega), va_up_self, updL_at]
      · rw [h2 i hi (by omega), va_up_self, updL_ne _ _ (by omega)]
    · rw [h3 i (by omega), va_up_self, updL_ne _ _ (by omega)]
def insL (pl : Nat) (s : Int64) (f ins : Nat) (l : List Int64) : List Int64 := l.take pl ++ (List.range (nc s)).map (fun i => mk (pt s i) f ins) ++ l.drop pl
theorem insL_len (pl : Nat) (s : Int64) (f ins : Nat) (l : List Int64) : (insL pl s f ins l).length = l.length + nc s := by
  unfold insL; simp; omega
theorem m_put {pl : Nat} (s : Int64) {f ins : Nat} (hf : f < 256) (hi : ins < 256) {l : List Int64} (hl : I 3 = nI l.length) (hp : pl ≤ l.length) (hn1 : 1 ≤ nc s) (h6 : l.length + nc s ≤ 600) (A : Nat → Nat → Int64) (hr : rp (A 0) l) (w : Nat) : ∃ (g : Nat → Int64) (w' : Nat), f_Mo_put c (nI pl) s (nI f) (nI ins) (mo c I A E B n w) = some (mo c (va_up I 3 (nI (insL pl s f ins l).length)) (va_up A 0 g) E B n w', nI (insL pl s f ins l).length) ∧ rp g (insL pl s f ins l) := by
  have h8 := nc_le s
  obtain ⟨g1, w1, e1, a1, a2, a3⟩ := l_put40 c I E B n (pl := pl) (m := nc s) s (f := nI f) (ins := nI ins) hn1 (l.length - pl) zq_F A w (zF_lt (by omega)) (by omega)
  obtain ⟨g2, w2, e2, b1, b2, b3⟩ := l_put72 c I E B n (pl := pl) (m := nc s) s hf hi hl (by omega) h8 (nc s) zq_F 0 (va_up A 0 g1) w1 (by omega) (zF_lt (by omega))
  rw [show pl + (l.length - pl) = l.length by omega] at e1 a2 a3
  refine ⟨g2, w2, ?_, ?_⟩
  · unfold f_Mo_put
    rw [← nI_0, l_put3 c _ s _ _ _ 8 zq_F 0 (by omega) (zF_lt (by omega))]
    unfold f_Mo_put_32
    simp only [mo_is, mo_g0, mo_g1, mo_g2, mo_g3, mo_g5, mo_g7, mo_g9, mo_g12, mo_g13, mo_g17, mo_g18, mo_g19, mo_r4, mo_r6, mo_r8, mo_r10, mo_r11, mo_r14, mo_r15, mo_r16, mo_p0, mo_p1, mo_p2, mo_p3, mo_p5, mo_p7, mo_p9, mo_p12, mo_p13, mo_p17, mo_p18, mo_p19, Option.bind_some, zb_S, hl]
    rw [show hm s 8 0 = nc s from rfl, e1, ← nI_0, e2, va_uu, insL_len]
  · intro i hlen
    rw [insL_len] at hlen
    unfold insL
    have ht : (l.take pl).length = pl := by simp; omega
    have hmid : ((List.range (nc s)).map (fun i => mk (pt s i) f ins)).length = nc s := by simp
    by_cases h1 : i < pl
    · rw [List.append_assoc, List.getElem?_append_left (by omega), List.getElem?_take_of_lt h1, hr i (by omega), b1 i (by omega), va_up_self, a1 i h1]
    · rw [List.append_assoc, List.getElem?_append_right (by omega), ht]
      by_cases h2 : i < pl + nc s
      · have hx : g2 i = mk (pt s (i - pl)) f ins := by
          have := b2 (i - pl) (by omega) (by omega)
          rwa [show pl + (i - pl) = i by omega] at this
        rw [List.getElem?_append_left (by omega), hx]
        have h3 : i - pl < nc s := by omega
        simp [h3]
      · have hx : g2 i = A 0 (i - nc s) := by
          rw [b3 i (by omega), va_up_self]
          have := a2 (i - nc s) (by omega) (by omega)
          rwa [show i - nc s + nc s = i by omega] at this
        rw [List.getElem?_append_right (by omega), hmid, List.getElem?_drop, hx, ← hr (i - nc s) (by omega)]
        congr 1; omega
end PU
theorem zl_shl (a : Nat) {k : Nat} (hk : k < 64) : zf_lshl (lN a) (nI k) = lN (a * 2 ^ k) := zb_ext fun i hi => by
  rw [zb_shl hk _ hi, zb_lN, zb_lN, Nat.testBit_mul_two_pow]
  by_cases h : k ≤ i
  · have : i - k < 64 := by omega
    simp [h, hi, this]
  · simp [h]
theorem zl_shr {a : Nat} (ha : a < 2 ^ 63) {k : Nat} (hk : k < 64) : zf_lshr (lN a) (nI k) = lN (a / 2 ^ k) := zb_ext fun i hi => by
  rw [zb_shr hk _ hi, zb_lN, zb_lN, zb_lN, Nat.testBit_div_two_pow]
  by_cases h : k + i < 64
  · rw [if_pos h]; simp [h, hi, Nat.add_comm]
  · rw [if_neg h]
    have h1 : a.testBit 63 = false := Nat.testBit_lt_two_pow ha
    have h2 : a.testBit (i + k) = false := Nat.testBit_lt_two_pow (Nat.lt_of_lt_of_le ha (Nat.pow_le_pow_right (by decide) (by omega)))
    simp [h1, h2]
theorem zl_or {a b k : Nat} (ha : a < 2 ^ k) : lN a ||| lN (b * 2 ^ k) = lN (a + b * 2 ^ k) := zb_ext fun i hi => by
  rw [zb_or, zb_lN, zb_lN, zb_lN, ← Bool.and_or_distrib_left, ← Nat.testBit_or]
  rw [show a + b * 2 ^ k = 2 ^ k * b + a by rw [Nat.mul_comm, Nat.add_comm], Nat.two_pow_add_eq_or_of_lt ha, Nat.or_comm, Nat.mul_comm]
theorem zi_or {a b k : Nat} (ha : a < 2 ^ k) : nI a ||| nI (b * 2 ^ k) = nI (a + b * 2 ^ k) := by
  rw [nI_or, show a + b * 2 ^ k = 2 ^ k * b + a by rw [Nat.mul_comm, Nat.add_comm], Nat.two_pow_add_eq_or_of_lt ha, Nat.or_comm, Nat.mul_comm]
theorem zi_s3 : ∀ a, a < 8 → nI a <<< ((3 : Int32) &&& 31) = nI (a * 2 ^ 3) := by decide +kernel
theorem zi_s7 : ∀ a, a < 256 → nI a <<< ((7 : Int32) &&& 31) = nI (a * 2 ^ 7) := by decide +kernel
def cmd (kind au t num pl m : Nat) : Int64 := lN (kind + au * 2 ^ 3 + t * 2 ^ 6 + num * 2 ^ 7 + pl * 2 ^ 16 + m * 2 ^ 32)
theorem m_cmd {kind au t num pl m : Nat} (h1 : kind < 8) (h2 : au < 8) (h3 : t < 2) (h4 : num < 256) (h5 : pl < 65536) (h6 : m < 65536) (S : zq_S) : f_Mo_command (nI kind) (nI au) (nI t) (nI num) (nI pl) (nI m) S = some (S, cmd kind au t num pl m) := by
  have e1 : nI kind ||| (nI au <<< ((3 : Int32) &&& 31)) = nI (kind + au * 2 ^ 3) := by rw [zi_s3 au h2, zi_or (by omega)]
  have e2 : f_Mo_command (nI kind) (nI au) (nI t) (nI num) (nI pl) (nI m) S = f_Mo_command_15 (nI num) (nI pl) (nI m) (nI (kind + au * 2 ^ 3)) (nI (t * 2 ^ 6)) S := by
    unfold f_Mo_command
    rw [e1]
    have : t = 0 ∨ t = 1 := by omega
    rcases this with h | h <;> subst h
    · rw [if_pos nI_0]; rfl
    · rw [if_neg (by decide)]; rfl
  rw [e2]
  unfold f_Mo_command_15 cmd
  rw [zi_or (by omega), zi_s7 num h4, zi_or (by omega), nI_l (by omega), nI_l (by omega), nI_l (by omega), show (16 : Int32) = nI 16 from rfl, show (32 : Int32) = nI 32 from rfl, zl_shl _ (by decide), zl_shl _ (by decide), zl_or (by omega), zl_or (by omega)]
theorem nI_mask (a k : Nat) : nI a &&& nI (2 ^ k - 1) = nI (a % 2 ^ k) := by rw [nI_and, Nat.and_two_pow_sub_one_eq_mod]
def CK (kind au t num pl m : Nat) : Prop := kind < 8 ∧ au < 8 ∧ t < 2 ∧ num < 256 ∧ pl < 65536 ∧ m < 65536
section DC
variable {kind au t num pl m : Nat}
theorem dc_kind (hck : CK kind au t num pl m) : (cmd kind au t num pl m).toInt32 &&& (7 : Int32) = nI kind := by
  obtain ⟨h1, h2, h3, h4, h5, h6⟩ := hck
  unfold cmd
  rw [lN_i, show (7 : Int32) = nI (2 ^ 3 - 1) from rfl, nI_mask]; congr 1; omega
theorem dc_sh (hck : CK kind au t num pl m) {k : Nat} (hk : k < 64) : zf_lshr (cmd kind au t num pl m) (nI k) = lN ((kind + au * 2 ^ 3 + t * 2 ^ 6 + num * 2 ^ 7 + pl * 2 ^ 16 + m * 2 ^ 32) / 2 ^ k) := by
  obtain ⟨h1, h2, h3, h4, h5, h6⟩ := hck
  unfold cmd
  rw [zl_shr (by omega) hk]
theorem dc_au (hck : CK kind au t num pl m) : ((zf_lshr (cmd kind au t num pl m) (3 : Int32)).toInt32 &&& (7 : Int32)) = nI au := by
  obtain ⟨h1, h2, h3, h4, h5, h6⟩ := hck
  rw [show (3 : Int32) = nI 3 from rfl, dc_sh ⟨h1, h2, h3, h4, h5, h6⟩ (by decide), lN_i, show (7 : Int32) = nI (2 ^ 3 - 1) from rfl, nI_mask]; congr 1; omega
theorem dc_num (hck : CK kind au t num pl m) : ((zf_lshr (cmd kind au t num pl m) (7 : Int32)).toInt32 &&& (255 : Int32)) = nI num := by
  obtain ⟨h1, h2, h3, h4, h5, h6⟩ := hck
  rw [show (7 : Int32) = nI 7 from rfl, dc_sh ⟨h1, h2, h3, h4, h5, h6⟩ (by decide), lN_i, show (255 : Int32) = nI (2 ^ 8 - 1) from rfl, nI_mask]; congr 1; omega
theorem dc_pl (hck : CK kind au t num pl m) : ((zf_lshr (cmd kind au t num pl m) (16 : Int32)).toInt32 &&& (65535 : Int32)) = nI pl := by
  obtain ⟨h1, h2, h3, h4, h5, h6⟩ := hck
  rw [show (16 : Int32) = nI 16 from rfl, dc_sh ⟨h1, h2, h3, h4, h5, h6⟩ (by decide), lN_i, show (65535 : Int32) = nI (2 ^ 16 - 1) from rfl, nI_mask]; congr 1; omega
theorem dc_m (hck : CK kind au t num pl m) : (zf_lshr (cmd kind au t num pl m) (32 : Int32)).toInt32 = nI m := by
  obtain ⟨h1, h2, h3, h4, h5, h6⟩ := hck
  rw [show (32 : Int32) = nI 32 from rfl, dc_sh ⟨h1, h2, h3, h4, h5, h6⟩ (by decide), lN_i]; congr 1; omega
theorem dc_t (hck : CK kind au t num pl m) : (lg_cmp ((zf_lshr (cmd kind au t num pl m) (6 : Int32)) &&& (1 : Int64)) (1 : Int64)) = 0 ↔ t = 1 := by
  obtain ⟨h1, h2, h3, h4, h5, h6⟩ := hck
  rw [lcmp0, show (6 : Int32) = nI 6 from rfl, dc_sh ⟨h1, h2, h3, h4, h5, h6⟩ (by decide)]
  have e : ∀ a : Nat, lN a &&& (1 : Int64) = lN (a % 2) := fun a => zb_ext fun i hi => by
    rw [zb_and, show (1 : Int64) = lN (2 ^ 1 - 1) from rfl, zb_lN, zb_lN, zb_lN, zt_2, show a % 2 = a % 2 ^ 1 from rfl, Nat.testBit_mod_two_pow]
    by_cases h : i < 1 <;> simp [h, hi]
  rw [e, show (1 : Int64) = lN 1 from rfl, lN_eq (by omega) (by decide)]
  omega
end DC
