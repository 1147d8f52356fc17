/-! operations on pictures where they go well; the reference's picture -/
theorem z_gi {S : zq_S} {a ci k : Nat} {fs : List Value} {x : Int32} (h : S.1 a = some (.inr (ci, fs))) (hk : fs[k]? = some (.int x)) : zs_gi S a ci k = some x := by
  unfold zs_gi; rw [h]; simp [hk]
theorem z_gr {S : zq_S} {a ci k : Nat} {fs : List Value} {x : Nat} (h : S.1 a = some (.inr (ci, fs))) (hk : fs[k]? = some (.ref x)) : zs_gr S a ci k = some (some x) := by
  unfold zs_gr; rw [h]; simp [hk]
theorem z_p {S : zq_S} {a ci k : Nat} {fs : List Value} (h : S.1 a = some (.inr (ci, fs))) (hk : k < fs.length) (v : Value) : zs_p S a ci k v = some (zq_u S a (.inr (ci, fs.set k v))) := by
  unfold zs_p; rw [h]; simp [hk]
theorem z_pz {S : zq_S} {a ci k : Nat} {fs : List Value} (h : S.1 a = some (.inr (ci, fs))) (hk : k < fs.length) {x : Int32} (hx : x = 0 ∨ x = 1) : zs_pz S a ci k x = some (zq_u S a (.inr (ci, fs.set k (.int x)))) := by
  unfold zs_pz; rw [if_pos hx]; exact z_p h hk _
theorem z_is {S : zq_S} {a ci : Nat} {fs : List Value} (h : S.1 a = some (.inr (ci, fs))) : zs_is S a ci = true := by
  unfold zs_is; rw [h]; simp
theorem z_len {S : zq_S} {a t : Nat} {x : vp_A} (h : S.1 a = some (.inl (t, x))) : zs_len S a t = some (nI x.1) := by
  unfold zs_len; rw [h]; simp
theorem z_lal {S : zq_S} {a t N i : Nat} {f : Nat → Int64} (h : S.1 a = some (.inl (t, N, .inr (.inl f)))) (hi : i < N) (hN : N < 2 ^ 31) : zs_lal S a t (nI i) = some (f i) := by
  unfold zs_lal; rw [h]; simp only [if_true]; rw [if_neg (nI_in hi hN), nI_clamp (by omega)]
theorem z_las {S : zq_S} {a t N i : Nat} {f : Nat → Int64} (h : S.1 a = some (.inl (t, N, .inr (.inl f)))) (hi : i < N) (hN : N < 2 ^ 31) (v : Int64) : zs_las S a t (nI i) v = some (zq_u S a (.inl (t, N, .inr (.inl (vp_updL f i v))))) := by
  unfold zs_las; rw [h]; simp only [if_true]; rw [if_neg (nI_in hi hN), nI_clamp (by omega)]
theorem z_ial {S : zq_S} {a t N i : Nat} {f : Nat → Int32} (h : S.1 a = some (.inl (t, N, .inl f))) (hi : i < N) (hN : N < 2 ^ 31) : zs_ial S a t (nI i) = some (f i) := by
  unfold zs_ial; rw [h]; simp only [if_true]; rw [if_neg (nI_in hi hN), nI_clamp (by omega)]
theorem z_ias {S : zq_S} {a t N i : Nat} {f : Nat → Int32} (h : S.1 a = some (.inl (t, N, .inl f))) (hi : i < N) (hN : N < 2 ^ 31) (v : Int32) : zs_ias S a t (nI i) v = some (zq_u S a (.inl (t, N, .inl (upd f i v)))) := by
  unfold zs_ias; rw [h]; simp only [if_true]; rw [if_neg (nI_in hi hN), nI_clamp (by omega)]
theorem z_aal {S : zq_S} {a t N i : Nat} {f : Nat → Option Nat} (h : S.1 a = some (.inl (t, N, .inr (.inr (.inr (.inr f)))))) (hi : i < N) (hN : N < 2 ^ 31) : zs_aal S a t (nI i) = some (f i) := by
  unfold zs_aal; rw [h]; simp only [if_true]; rw [if_neg (nI_in hi hN), nI_clamp (by omega)]
theorem z_aas {S : zq_S} {a t ci N i : Nat} {f : Nat → Option Nat} (h : S.1 a = some (.inl (t, N, .inr (.inr (.inr (.inr f)))))) (hi : i < N) (hN : N < 2 ^ 31) {v : Option Nat} (hv : zs_ok S ci v = true) : zs_aas S a t ci (nI i) v = some (zq_u S a (.inl (t, N, .inr (.inr (.inr (.inr (va_up f i v))))))) := by
  unfold zs_aas; rw [h]; simp only [if_true]
  rw [if_neg, nI_clamp (by omega)]
  intro hc
  rcases hc with hc | hc | hc
  · exact nI_in hi hN (Or.inl hc)
  · exact nI_in hi hN (Or.inr hc)
  · rw [hv] at hc; cases hc
theorem u_at (S : zq_S) (a : Nat) (e : zq_E) : (zq_u S a e).1 a = some e := by simp [zq_u]
theorem u_ne (S : zq_S) {a q : Nat} (e : zq_E) (h : q ≠ a) : (zq_u S a e).1 q = S.1 q := by simp [zq_u, h]
/-- the reference's own cells from c on: its object, five rows of longs, three of ints -/
def mof (c : Nat) (I : Nat → Int32) : List Value := [.int (I 0), .int (I 1), .int (I 2), .int (I 3), .ref (c + 1), .int (I 5), .ref (c + 2), .int (I 7), .ref (c + 3), .int (I 9), .ref (c + 4), .ref (c + 5), .int (I 12), .int (I 13), .ref (c + 6), .ref (c + 7), .ref (c + 8), .int (I 17), .int (I 18), .int (I 19)]
def moc (c : Nat) (I : Nat → Int32) (A : Nat → Nat → Int64) (E : Nat → Nat → Int32) (B : Nat → Option zq_E) (q : Nat) : Option zq_E := if q = c then some (.inr (4, mof c I)) else if q = c + 1 then some (.inl (0, 600, .inr (.inl (A 0)))) else if q = c + 2 then some (.inl (0, 600, .inr (.inl (A 1)))) else if q = c + 3 then some (.inl (0, 600, .inr (.inl (A 2)))) else if q = c + 4 then some (.inl (0, 6000, .inr (.inl (A 3)))) else if q = c + 5 then some (.inl (0, 6000, .inr (.inl (A 4)))) else if q = c + 6 then some (.inl (2, 42, .inl (E 0))) else if q = c + 7 then some (.inl (2, 42, .inl (E 1))) else if q = c + 8 then some (.inl (2, 42, .inl (E 2))) else B q
def mo (c : Nat) (I : Nat → Int32) (A : Nat → Nat → Int64) (E : Nat → Nat → Int32) (B : Nat → Option zq_E) (n w : Nat) : zq_S := (moc c I A E B, n, w)
section MO
variable (c : Nat) (I : Nat → Int32) (A : Nat → Nat → Int64) (E : Nat → Nat → Int32) (B : Nat → Option zq_E) (n w : Nat)
theorem mo_0 : (mo c I A E B n w).1 c = some (.inr (4, mof c I)) := by simp [mo, moc]
theorem mo_1 : (mo c I A E B n w).1 (c + 1) = some (.inl (0, 600, .inr (.inl (A 0)))) := by simp [mo, moc]
theorem mo_2 : (mo c I A E B n w).1 (c + 2) = some (.inl (0, 600, .inr (.inl (A 1)))) := by simp [mo, moc]
theorem mo_3 : (mo c I A E B n w).1 (c + 3) = some (.inl (0, 600, .inr (.inl (A 2)))) := by simp [mo, moc]
theorem mo_4 : (mo c I A E B n w).1 (c + 4) = some (.inl (0, 6000, .inr (.inl (A 3)))) := by simp [mo, moc]
theorem mo_5 : (mo c I A E B n w).1 (c + 5) = some (.inl (0, 6000, .inr (.inl (A 4)))) := by simp [mo, moc]
theorem mo_6 : (mo c I A E B n w).1 (c + 6) = some (.inl (2, 42, .inl (E 0))) := by simp [mo, moc]
theorem mo_7 : (mo c I A E B n w).1 (c + 7) = some (.inl (2, 42, .inl (E 1))) := by simp [mo, moc]
theorem mo_8 : (mo c I A E B n w).1 (c + 8) = some (.inl (2, 42, .inl (E 2))) := by simp [mo, moc]
theorem mo_is : zs_is (mo c I A E B n w) c 4 = true := z_is (mo_0 c I A E B n w)
theorem mo_g0 : zs_gi (mo c I A E B n w) c 4 0 = some (I 0) := z_gi (mo_0 c I A E B n w) rfl
theorem mo_g1 : zs_gi (mo c I A E B n w) c 4 1 = some (I 1) := z_gi (mo_0 c I A E B n w) rfl
theorem mo_g2 : zs_gi (mo c I A E B n w) c 4 2 = some (I 2) := z_gi (mo_0 c I A E B n w) rfl
theorem mo_g3 : zs_gi (mo c I A E B n w) c 4 3 = some (I 3) := z_gi (mo_0 c I A E B n w) rfl
theorem mo_g5 : zs_gi (mo c I A E B n w) c 4 5 = some (I 5) := z_gi (mo_0 c I A E B n w) rfl
theorem mo_g7 : zs_gi (mo c I A E B n w) c 4 7 = some (I 7) := z_gi (mo_0 c I A E B n w) rfl
theorem mo_g9 : zs_gi (mo c I A E B n w) c 4 9 = some (I 9) := z_gi (mo_0 c I A E B n w) rfl
theorem mo_g12 : zs_gi (mo c I A E B n w) c 4 12 = some (I 12) := z_gi (mo_0 c I A E B n w) rfl
theorem mo_g13 : zs_gi (mo c I A E B n w) c 4 13 = some (I 13) := z_gi (mo_0 c I A E B n w) rfl
theorem mo_g17 : zs_gi (mo c I A E B n w) c 4 17 = some (I 17) := z_gi (mo_0 c I A E B n w) rfl
theorem mo_g18 : zs_gi (mo c I A E B n w) c 4 18 = some (I 18) := z_gi (mo_0 c I A E B n w) rfl
theorem mo_g19 : zs_gi (mo c I A E B n w) c 4 19 = some (I 19) := z_gi (mo_0 c I A E B n w) rfl
theorem mo_r4 : zs_gr (mo c I A E B n w) c 4 4 = some (some (c + 1)) := z_gr (mo_0 c I A E B n w) rfl
theorem mo_r6 : zs_gr (mo c I A E B n w) c 4 6 = some (some (c + 2)) := z_gr (mo_0 c I A E B n w) rfl
theorem mo_r8 : zs_gr (mo c I A E B n w) c 4 8 = some (some (c + 3)) := z_gr (mo_0 c I A E B n w) rfl
theorem mo_r10 : zs_gr (mo c I A E B n w) c 4 10 = some (some (c + 4)) := z_gr (mo_0 c I A E B n w) rfl
theorem mo_r11 : zs_gr (mo c I A E B n w) c 4 11 = some (some (c + 5)) := z_gr (mo_0 c I A E B n w) rfl
theorem mo_r14 : zs_gr (mo c I A E B n w) c 4 14 = some (some (c + 6)) := z_gr (mo_0 c I A E B n w) rfl
theorem mo_r15 : zs_gr (mo c I A E B n w) c 4 15 = some (some (c + 7)) := z_gr (mo_0 c I A E B n w) rfl
theorem mo_r16 : zs_gr (mo c I A E B n w) c 4 16 = some (some (c + 8)) := z_gr (mo_0 c I A E B n w) rfl
theorem mo_p0 (v : Int32) : zs_p (mo c I A E B n w) c 4 0 (.int v) = some (mo c (va_up I 0 v) A E B n (w + 1)) := by
  rw [z_p (mo_0 c I A E B n w) (show 0 < (mof c I).length by simp [mof])]
  refine congrArg some (Prod.ext (funext fun q => ?_) rfl)
  by_cases h : q = c
  · subst h; simp [zq_u, mo, moc, mof, va_up]
  · simp [zq_u, mo, moc, h]
theorem mo_p1 (v : Int32) : zs_p (mo c I A E B n w) c 4 1 (.int v) = some (mo c (va_up I 1 v) A E B n (w + 1)) := by
  rw [z_p (mo_0 c I A E B n w) (show 1 < (mof c I).length by simp [mof])]
  refine congrArg some (Prod.ext (funext fun q => ?_) rfl)
  by_cases h : q = c
  · subst h; simp [zq_u, mo, moc, mof, va_up]
  · simp [zq_u, mo, moc, h]
theorem mo_p2 (v : Int32) : zs_p (mo c I A E B n w) c 4 2 (.int v) = some (mo c (va_up I 2 v) A E B n (w + 1)) := by
  rw [z_p (mo_0 c I A E B n w) (show 2 < (mof c I).length by simp [mof])]
  refine congrArg some (Prod.ext (funext fun q => ?_) rfl)
  by_cases h : q = c
  · subst h; simp [zq_u, mo, moc, mof, va_up]
  · simp [zq_u, mo, moc, h]
theorem mo_p3 (v : Int32) : zs_p (mo c I A E B n w) c 4 3 (.int v) = some (mo c (va_up I 3 v) A E B n (w + 1)) := by
  rw [z_p (mo_0 c I A E B n w) (show 3 < (mof c I).length by simp [mof])]
  refine congrArg some (Prod.ext (funext fun q => ?_) rfl)
  by_cases h : q = c
  · subst h; simp [zq_u, mo, moc, mof, va_up]
  · simp [zq_u, mo, moc, h]
theorem mo_p5 (v : Int32) : zs_p (mo c I A E B n w) c 4 5 (.int v) = some (mo c (va_up I 5 v) A E B n (w + 1)) := by
  rw [z_p (mo_0 c I A E B n w) (show 5 < (mof c I).length by simp [mof])]
  refine congrArg some (Prod.ext (funext fun q => ?_) rfl)
  by_cases h : q = c
  · subst h; simp [zq_u, mo, moc, mof, va_up]
  · simp [zq_u, mo, moc, h]
theorem mo_p7 (v : Int32) : zs_p (mo c I A E B n w) c 4 7 (.int v) = some (mo c (va_up I 7 v) A E B n (w + 1)) := by
  rw [z_p (mo_0 c I A E B n w) (show 7 < (mof c I).length by simp [mof])]
  refine congrArg some (Prod.ext (funext fun q => ?_) rfl)
  by_cases h : q = c
  · subst h; simp [zq_u, mo, moc, mof, va_up]
  · simp [zq_u, mo, moc, h]
theorem mo_p9 (v : Int32) : zs_p (mo c I A E B n w) c 4 9 (.int v) = some (mo c (va_up I 9 v) A E B n (w + 1)) := by
  rw [z_p (mo_0 c I A E B n w) (show 9 < (mof c I).length by simp [mof])]
  refine congrArg some (Prod.ext (funext fun q => ?_) rfl)
  by_cases h : q = c
  · subst h; simp [zq_u, mo, moc, mof, va_up]
  · simp [zq_u, mo, moc, h]
theorem mo_p12 (v : Int32) : zs_p (mo c I A E B n w) c 4 12 (.int v) = some (mo c (va_up I 12 v) A E B n (w + 1)) := by
  rw [z_p (mo_0 c I A E B n w) (show 12 < (mof c I).length by simp [mof])]
  refine congrArg some (Prod.ext (funext fun q => ?_) rfl)
  by_cases h : q = c
  · subst h; simp [zq_u, mo, moc, mof, va_up]
  · simp [zq_u, mo, moc, h]
theorem mo_p13 (v : Int32) : zs_p (mo c I A E B n w) c 4 13 (.int v) = some (mo c (va_up I 13 v) A E B n (w + 1)) := by
  rw [z_p (mo_0 c I A E B n w) (show 13 < (mof c I).length by simp [mof])]
  refine congrArg some (Prod.ext (funext fun q => ?_) rfl)
  by_cases h : q = c
  · subst h; simp [zq_u, mo, moc, mof, va_up]
  · simp [zq_u, mo, moc, h]
theorem mo_p17 (v : Int32) : zs_p (mo c I A E B n w) c 4 17 (.int v) = some (mo c (va_up I 17 v) A E B n (w + 1)) := by
  rw [z_p (mo_0 c I A E B n w) (show 17 < (mof c I).length by simp [mof])]
  refine congrArg some (Prod.ext (funext fun q => ?_) rfl)
  by_cases h : q = c
  · subst h; simp [zq_u, mo, moc, mof, va_up]
  · simp [zq_u, mo, moc, h]
theorem mo_p18 (v : Int32) : zs_p (mo c I A E B n w) c 4 18 (.int v) = some (mo c (va_up I 18 v) A E B n (w + 1)) := by
  rw [z_p (mo_0 c I A E B n w) (show 18 < (mof c I).length by simp [mof])]
  refine congrArg some (Prod.ext (funext fun q => ?_) rfl)
  by_cases h : q = c
  · subst h; simp [zq_u, mo, moc, mof, va_up]
  · simp [zq_u, mo, moc, h]
theorem mo_p19 (v : Int32) : zs_p (mo c I A E B n w) c 4 19 (.int v) = some (mo c (va_up I 19 v) A E B n (w + 1)) := by
  rw [z_p (mo_0 c I A E B n w) (show 19 < (mof c I).length by simp [mof])]
  refine congrArg some (Prod.ext (funext fun q => ?_) rfl)
  by_cases h : q = c
  · subst h; simp [zq_u, mo, moc, mof, va_up]
  · simp [zq_u, mo, moc, h]
theorem mo_z2 {v : Int32} (hv : v = 0 ∨ v = 1) : zs_pz (mo c I A E B n w) c 4 2 v = some (mo c (va_up I 2 v) A E B n (w + 1)) := by
  unfold zs_pz; rw [if_pos hv, mo_p2]
theorem mo_z17 {v : Int32} (hv : v = 0 ∨ v = 1) : zs_pz (mo c I A E B n w) c 4 17 v = some (mo c (va_up I 17 v) A E B n (w + 1)) := by
  unfold zs_pz; rw [if_pos hv, mo_p17]
theorem mo_l0 {i : Nat} (hi : i < 600) : zs_lal (mo c I A E B n w) (c + 1) 0 (nI i) = some (A 0 i) := z_lal (mo_1 c I A E B n w) hi (by decide)
theorem mo_s0 {i : Nat} (hi : i < 600) (v : Int64) : zs_las (mo c I A E B n w) (c + 1) 0 (nI i) v = some (mo c I (va_up A 0 (vp_updL (A 0) i v)) E B n (w + 1)) := by
  rw [z_las (mo_1 c I A E B n w) hi (by decide)]
  refine congrArg some (Prod.ext (funext fun q => ?_) rfl)
  by_cases h : q = c + 1
  · subst h; simp [zq_u, mo, moc, va_up]
  · simp [zq_u, mo, moc, h, va_up]
theorem mo_l1 {i : Nat} (hi : i < 600) : zs_lal (mo c I A E B n w) (c + 2) 0 (nI i) = some (A 1 i) := z_lal (mo_2 c I A E B n w) hi (by decide)
theorem mo_s1 {i : Nat} (hi : i < 600) (v : Int64) : zs_las (mo c I A E B n w) (c + 2) 0 (nI i) v = some (mo c I (va_up A 1 (vp_updL (A 1) i v)) E B n (w + 1)) := by
  rw [z_las (mo_2 c I A E B n w) hi (by decide)]
  refine congrArg some (Prod.ext (funext fun q => ?_) rfl)
  by_cases h : q = c + 2
  · subst h; simp [zq_u, mo, moc, va_up]
  · simp [zq_u, mo, moc, h, va_up]
theorem mo_l2 {i : Nat} (hi : i < 600) : zs_lal (mo c I A E B n w) (c + 3) 0 (nI i) = some (A 2 i) := z_lal (mo_3 c I A E B n w) hi (by decide)
theorem mo_s2 {i : Nat} (hi : i < 600) (v : Int64) : zs_las (mo c I A E B n w) (c + 3) 0 (nI i) v = some (mo c I (va_up A 2 (vp_updL (A 2) i v)) E B n (w + 1)) := by
  rw [z_las (mo_3 c I A E B n w) hi (by decide)]
  refine congrArg some (Prod.ext (funext fun q => ?_) rfl)
  by_cases h : q = c + 3
  · subst h; simp [zq_u, mo, moc, va_up]
  · simp [zq_u, mo, moc, h, va_up]
theorem mo_l3 {i : Nat} (hi : i < 6000) : zs_lal (mo c I A E B n w) (c + 4) 0 (nI i) = some (A 3 i) := z_lal (mo_4 c I A E B n w) hi (by decide)
theorem mo_s3 {i : Nat} (hi : i < 6000) (v : Int64) : zs_las (mo c I A E B n w) (c + 4) 0 (nI i) v = some (mo c I (va_up A 3 (vp_updL (A 3) i v)) E B n (w + 1)) := by
  rw [z_las (mo_4 c I A E B n w) hi (by decide)]
  refine congrArg some (Prod.ext (funext fun q => ?_) rfl)
  by_cases h : q = c + 4
  · subst h; simp [zq_u, mo, moc, va_up]
  · simp [zq_u, mo, moc, h, va_up]
theorem mo_l4 {i : Nat} (hi : i < 6000) : zs_lal (mo c I A E B n w) (c + 5) 0 (nI i) = some (A 4 i) := z_lal (mo_5 c I A E B n w) hi (by decide)
theorem mo_s4 {i : Nat} (hi : i < 6000) (v : Int64) : zs_las (mo c I A E B n w) (c + 5) 0 (nI i) v = some (mo c I (va_up A 4 (vp_updL (A 4) i v)) E B n (w + 1)) := by
  rw [z_las (mo_5 c I A E B n w) hi (by decide)]
  refine congrArg some (Prod.ext (funext fun q => ?_) rfl)
  by_cases h : q = c + 5
  · subst h; simp [zq_u, mo, moc, va_up]
  · simp [zq_u, mo, moc, h, va_up]
theorem mo_i0 {i : Nat} (hi : i < 42) : zs_ial (mo c I A E B n w) (c + 6) 2 (nI i) = some (E 0 i) := z_ial (mo_6 c I A E B n w) hi (by decide)
theorem mo_t0 {i : Nat} (hi : i < 42) (v : Int32) : zs_ias (mo c I A E B n w) (c + 6) 2 (nI i) v = some (mo c I A (va_up E 0 (upd (E 0) i v)) B n (w + 1)) := by
  rw [z_ias (mo_6 c I A E B n w) hi (by decide)]
  refine congrArg some (Prod.ext (funext fun q => ?_) rfl)
  by_cases h : q = c + 6
  · subst h; simp [zq_u, mo, moc, va_up]
  · simp [zq_u, mo, moc, h, va_up]
theorem mo_i1 {i : Nat} (hi : i < 42) : zs_ial (mo c I A E B n w) (c + 7) 2 (nI i) = some (E 1 i) := z_ial (mo_7 c I A E B n w) hi (by decide)
theorem mo_t1 {i : Nat} (hi : i < 42) (v : Int32) : zs_ias (mo c I A E B n w) (c + 7) 2 (nI i) v = some (mo c I A (va_up E 1 (upd (E 1) i v)) B n (w + 1)) := by
  rw [z_ias (mo_7 c I A E B n w) hi (by decide)]
  refine congrArg some (Prod.ext (funext fun q => ?_) rfl)
  by_cases h : q = c + 7
  · subst h; simp [zq_u, mo, moc, va_up]
  · simp [zq_u, mo, moc, h, va_up]
theorem mo_i2 {i : Nat} (hi : i < 42) : zs_ial (mo c I A E B n w) (c + 8) 2 (nI i) = some (E 2 i) := z_ial (mo_8 c I A E B n w) hi (by decide)
theorem mo_t2 {i : Nat} (hi : i < 42) (v : Int32) : zs_ias (mo c I A E B n w) (c + 8) 2 (nI i) v = some (mo c I A (va_up E 2 (upd (E 2) i v)) B n (w + 1)) := by
  rw [z_ias (mo_8 c I A E B n w) hi (by decide)]
  refine congrArg some (Prod.ext (funext fun q => ?_) rfl)
  by_cases h : q = c + 8
  · subst h; simp [zq_u, mo, moc, va_up]
  · simp [zq_u, mo, moc, h, va_up]
theorem mo_over {S : zq_S} (h : ∀ q, c ≤ q → q ≤ c + 8 → S.1 q = moc c I A E (fun _ => none) q) : S = mo c I A E S.1 S.2.1 S.2.2 := by
  refine Prod.ext (funext fun q => ?_) rfl
  show S.1 q = moc c I A E S.1 q
  by_cases h1 : c ≤ q ∧ q ≤ c + 8
  · rw [h q h1.1 h1.2]
    have h2 : q = c ∨ q = c + 1 ∨ q = c + 2 ∨ q = c + 3 ∨ q = c + 4 ∨ q = c + 5 ∨ q = c + 6 ∨ q = c + 7 ∨ q = c + 8 := by omega
    rcases h2 with h2 | h2 | h2 | h2 | h2 | h2 | h2 | h2 | h2 <;> subst h2 <;> simp [moc]
  · unfold moc
    rw [if_neg (by omega), if_neg (by omega), if_neg (by omega), if_neg (by omega), if_neg (by omega), if_neg (by omega), if_neg (by omega), if_neg (by omega), if_neg (by omega)]
theorem mo_in {q : Nat} (h1 : c ≤ q) (h2 : q ≤ c + 8) : (mo c I A E B n w).1 q = moc c I A E (fun _ => none) q := by
  have h3 : q = c ∨ q = c + 1 ∨ q = c + 2 ∨ q = c + 3 ∨ q = c + 4 ∨ q = c + 5 ∨ q = c + 6 ∨ q = c + 7 ∨ q = c + 8 := by omega
  rcases h3 with h2 | h2 | h2 | h2 | h2 | h2 | h2 | h2 | h2 <;> subst h2 <;> simp [mo, moc]
theorem mo_out {q : Nat} (h : ¬ (c ≤ q ∧ q ≤ c + 8)) : (mo c I A E B n w).1 q = B q := by
  show moc c I A E B q = B q
  unfold moc
  rw [if_neg (by omega), if_neg (by omega), if_neg (by omega), if_neg (by omega), if_neg (by omega), if_neg (by omega), if_neg (by omega), if_neg (by omega), if_neg (by omega)]
end MO
