/-! what class and reference do with one character -/
theorem zb_S {τ β : Type} (S : zq_S) (x : τ) (k : zq_S → τ → Option β) : zs_b (some (S, x)) k = k S x := rfl
theorem zt_l {τ β : Type} (S : zq_S) (x : τ) (k : zq_S → τ → Option β) (e : zq_S → Nat → Option β) : zs_t (some (S, .inl x)) k e = k S x := rfl
theorem zt_r {τ β : Type} (S : zq_S) (x : Nat) (k : zq_S → τ → Option β) (e : zq_S → Nat → Option β) : zs_t (some (S, .inr x)) k e = e S x := rfl
theorem nI0 {n : Nat} (h : n < 2 ^ 31) : nI n = 0 ↔ n = 0 := by
  rw [← nI_0]; exact nI_eq h (by decide)
theorem nIb {n : Nat} (h : n < 256) : nI n = 0 ↔ n = 0 := nI0 (by omega)
def V (x : Int64) : Prop := pt x 0 ≠ 0 ∧ pt x 6 = 0 ∧ pt x 7 = 0 ∧ (pt x 4 = 0 → pt x 5 = 0)
def fmtL (b t f : Nat) (x : Int64) : Int64 := if t = 0 then wi (wi (wi x 1 f) 4 0) 5 0 else if pt x 2 = b then wi x 1 f else if f = (if pt x 4 = 0 then pt x 1 else pt x 5) then wi (wi (wi x 1 f) 4 0) 5 0 else wi (wi (wi x 1 f) 4 (pt x 4 ||| b)) 5 (if pt x 4 = 0 then pt x 1 else pt x 5)
def ersL (b t : Nat) (x : Int64) : Option Int64 := if t = 0 ∨ pt x 2 = b then none else some (wi x 3 (pt x 3 ||| b))
def accL (a : Nat) (x : Int64) : Option Int64 := if pt x 3 &&& a = 0 then (let y := if pt x 2 &&& a = 0 then x else wi x 2 0; some (if pt x 4 &&& a = 0 then y else wi (wi y 4 0) 5 0)) else none
def rejL (a : Nat) (x : Int64) : Option Int64 := if pt x 2 &&& a = 0 then (let y := wi x 3 (bic (pt x 3) a); some (if pt x 4 &&& a = 0 then y else wi (wi (wi y 1 (pt x 5)) 4 0) 5 0)) else none
def bec (kind b t a : Nat) (x : Int64) : Option Int64 := if kind = 1 then ersL b t x else if kind = 2 then some (fmtL b t a x) else if kind = 3 then accL a x else rejL a x
theorem pw (x : Int64) (k v j : Nat) (hk : k < 8) (hv : v < 256) (hj : j < 8) : pt (wi x k v) j = if j = k then v else pt x j := pt_wi x hk hv hj
theorem lget0 (x : Int64) (S : zq_S) : f_Let_get x (0 : Int32) S = some (S, nI (pt x 0)) := congrArg (fun v => some (S, v)) (get_pt x (k := 0) (by decide))
theorem lget1 (x : Int64) (S : zq_S) : f_Let_get x (8 : Int32) S = some (S, nI (pt x 1)) := congrArg (fun v => some (S, v)) (get_pt x (k := 1) (by decide))
theorem lget2 (x : Int64) (S : zq_S) : f_Let_get x (16 : Int32) S = some (S, nI (pt x 2)) := congrArg (fun v => some (S, v)) (get_pt x (k := 2) (by decide))
theorem lget3 (x : Int64) (S : zq_S) : f_Let_get x (24 : Int32) S = some (S, nI (pt x 3)) := congrArg (fun v => some (S, v)) (get_pt x (k := 3) (by decide))
theorem lget4 (x : Int64) (S : zq_S) : f_Let_get x (32 : Int32) S = some (S, nI (pt x 4)) := congrArg (fun v => some (S, v)) (get_pt x (k := 4) (by decide))
theorem lget5 (x : Int64) (S : zq_S) : f_Let_get x (40 : Int32) S = some (S, nI (pt x 5)) := congrArg (fun v => some (S, v)) (get_pt x (k := 5) (by decide))
theorem lwi0 (x : Int64) {v : Nat} (hv : v < 256) (S : zq_S) : f_Let_with x (0 : Int32) (nI v) S = some (S, wi x 0 v) := congrArg (fun v => some (S, v)) (with_wi x (k := 0) (by decide) hv)
theorem lwi1 (x : Int64) {v : Nat} (hv : v < 256) (S : zq_S) : f_Let_with x (8 : Int32) (nI v) S = some (S, wi x 1 v) := congrArg (fun v => some (S, v)) (with_wi x (k := 1) (by decide) hv)
theorem lwi2 (x : Int64) {v : Nat} (hv : v < 256) (S : zq_S) : f_Let_with x (16 : Int32) (nI v) S = some (S, wi x 2 v) := congrArg (fun v => some (S, v)) (with_wi x (k := 2) (by decide) hv)
theorem lwi3 (x : Int64) {v : Nat} (hv : v < 256) (S : zq_S) : f_Let_with x (24 : Int32) (nI v) S = some (S, wi x 3 v) := congrArg (fun v => some (S, v)) (with_wi x (k := 3) (by decide) hv)
theorem lwi4 (x : Int64) {v : Nat} (hv : v < 256) (S : zq_S) : f_Let_with x (32 : Int32) (nI v) S = some (S, wi x 4 v) := congrArg (fun v => some (S, v)) (with_wi x (k := 4) (by decide) hv)
theorem lwi5 (x : Int64) {v : Nat} (hv : v < 256) (S : zq_S) : f_Let_with x (40 : Int32) (nI v) S = some (S, wi x 5 v) := congrArg (fun v => some (S, v)) (with_wi x (k := 5) (by decide) hv)
theorem lwi2z (x : Int64) (S : zq_S) : f_Let_with x (16 : Int32) (0 : Int32) S = some (S, wi x 2 0) := lwi2 x (v := 0) (by decide) S
theorem lwof (x : Int64) (S : zq_S) : f_Let_withoutFormatters x S = some (S, wi (wi x 4 0) 5 0) := by
  unfold f_Let_withoutFormatters
  rw [← nI_0, lwi4 x (by decide), zb_S, lwi5 _ (by decide), zb_S]
theorem lisF (x : Int64) (S : zq_S) : f_Let_isFormatted x S = some (S, if pt x 4 = 0 then 0 else 1) := by
  unfold f_Let_isFormatted f_Let_isFormatted_14
  rw [lget4, zb_S]
  by_cases h : pt x 4 = 0 <;> simp [nIb (pt_lt x 4), h, nI_0]
theorem lfB (x : Int64) (S : zq_S) : f_Let_formatBefore x S = some (S, nI (if pt x 4 = 0 then pt x 1 else pt x 5)) := by
  unfold f_Let_formatBefore f_Let_formatBefore_15
  rw [lisF, zb_S]
  by_cases h : pt x 4 = 0 <;> simp [h, lget1, lget5, zb_S]
theorem lby {x : Int64} {p : Int32} {k : Nat} {S : zq_S} (h : f_Let_get x p S = some (S, nI (pt x k))) (a : Nat) : f_Let_isBy x p (nI a) S = some (S, if pt x k &&& a = 0 then 0 else 1) := by
  unfold f_Let_isBy f_Let_isBy_15
  rw [h, zb_S, nI_and]
  by_cases h : pt x k &&& a = 0 <;> simp [nIb (and_lt (pt_lt x k)), h, nI_0]
theorem lacc (a : Nat) (x : Int64) (S : zq_S) : f_Let_accepted x (nI a) S = some (S, (accL a x).getD 0) := by
  unfold f_Let_accepted f_Let_accepted_33 f_Let_accepted_52 accL
  simp only [lby (lget2 x S), lby (lget3 x S), lby (lget4 x S), lwof, lwi2z, zb_S]
  by_cases h3 : pt x 3 &&& a = 0 <;> by_cases h2 : pt x 2 &&& a = 0 <;> by_cases h4 : pt x 4 &&& a = 0 <;> simp [h2, h3, h4]
theorem lrej (a : Nat) (x : Int64) (S : zq_S) : f_Let_rejected x (nI a) S = some (S, (rejL a x).getD 0) := by
  unfold f_Let_rejected rejL
  simp only [lby (lget2 x S), lby (lget4 x S), lget3, lget5, lwof, nI_bic, lwi3 x (bic_lt (pt_lt x 3)), zb_S]
  by_cases h2 : pt x 2 &&& a = 0 <;> by_cases h4 : pt x 4 &&& a = 0 <;> simp [h2, h4, lwi1 _ (pt_lt x 5), zb_S, lwof]
theorem lmks (x : Int64) (S : zq_S) : f_Let_markers x S = some (S, nI (pt x 2 ||| pt x 3 ||| pt x 4)) := by
  unfold f_Let_markers
  simp only [lget2, lget3, lget4, zb_S, nI_or]
def mk (c f i : Nat) : Int64 := wi (wi (wi 0 0 c) 1 f) 2 i
theorem lmake {c f i : Nat} (hc : c < 256) (hf : f < 256) (hi : i < 256) (S : zq_S) : f_Let_make (nI c) (nI f) (nI i) S = some (S, mk c f i) := by
  unfold f_Let_make mk
  rw [lwi0 _ hc, zb_S, lwi1 _ hf, zb_S, lwi2 _ hi, zb_S]
theorem mpart (x : Int64) {k : Nat} (hk : k < 8) (S : zq_S) : f_Mo_part x (nI k) S = some (S, nI (pt x k)) := by
  unfold f_Mo_part
  rw [show (8 : Int32) = nI 8 from rfl, nI_mul, part_pt x hk]
theorem mpart0 (x : Int64) (S : zq_S) : f_Mo_part x (0 : Int32) S = some (S, nI (pt x 0)) := mpart x (k := 0) (by decide) S
theorem mpart1 (x : Int64) (S : zq_S) : f_Mo_part x (1 : Int32) S = some (S, nI (pt x 1)) := mpart x (k := 1) (by decide) S
theorem mpart2 (x : Int64) (S : zq_S) : f_Mo_part x (2 : Int32) S = some (S, nI (pt x 2)) := mpart x (k := 2) (by decide) S
theorem mpart3 (x : Int64) (S : zq_S) : f_Mo_part x (3 : Int32) S = some (S, nI (pt x 3)) := mpart x (k := 3) (by decide) S
theorem mpart4 (x : Int64) (S : zq_S) : f_Mo_part x (4 : Int32) S = some (S, nI (pt x 4)) := mpart x (k := 4) (by decide) S
theorem mpart5 (x : Int64) (S : zq_S) : f_Mo_part x (5 : Int32) S = some (S, nI (pt x 5)) := mpart x (k := 5) (by decide) S
theorem mwith (x : Int64) (k v : Nat) (S : zq_S) : f_Mo_with x (nI k) (nI v) S = some (S, wi x k v) := by
  unfold f_Mo_with wi
  rw [show (8 : Int32) = nI 8 from rfl, nI_mul]
theorem mwi1 (x : Int64) (v : Nat) (S : zq_S) : f_Mo_with x (1 : Int32) (nI v) S = some (S, wi x 1 v) := mwith x 1 v S
theorem mwi2z (x : Int64) (S : zq_S) : f_Mo_with x (2 : Int32) (0 : Int32) S = some (S, wi x 2 0) := mwith x 2 0 S
theorem mwi3 (x : Int64) (v : Nat) (S : zq_S) : f_Mo_with x (3 : Int32) (nI v) S = some (S, wi x 3 v) := mwith x 3 v S
theorem mwi4 (x : Int64) (v : Nat) (S : zq_S) : f_Mo_with x (4 : Int32) (nI v) S = some (S, wi x 4 v) := mwith x 4 v S
theorem mwi5 (x : Int64) (v : Nat) (S : zq_S) : f_Mo_with x (5 : Int32) (nI v) S = some (S, wi x 5 v) := mwith x 5 v S
theorem mwi4z (x : Int64) (S : zq_S) : f_Mo_with x (4 : Int32) (0 : Int32) S = some (S, wi x 4 0) := mwith x 4 0 S
theorem mwi5z (x : Int64) (S : zq_S) : f_Mo_with x (5 : Int32) (0 : Int32) S = some (S, wi x 5 0) := mwith x 5 0 S
theorem V_same {x : Int64} (h : V x) (h4 : pt x 4 = 0) : wi (wi (wi x 1 (pt x 1)) 4 0) 5 0 = x := by
  have h5 := h.2.2.2 h4
  rw [wi_self x (by decide)]
  have e1 : wi x 4 0 = x := by have := wi_self x (k := 4) (by decide); rwa [h4] at this
  rw [e1]
  have := wi_self x (k := 5) (by decide); rwa [h5] at this
theorem mfmt {x : Int64} (h : V x) (b t f : Nat) (o : Int32) (ho : o = if pt x 2 = b then 1 else 0) (ht : t < 256) (hf : f < 256) (S : zq_S) : f_Mo_formatted x (nI b) (nI t) o (nI f) S = some (S, fmtL b t f x) := by
  subst ho
  unfold f_Mo_formatted f_Mo_formatted_59 f_Mo_formatted_77 fmtL
  simp only [mpart1, mpart4, mpart5, zb_S, mwi1, mwi4z, mwi5z, nIb ht, nIb (pt_lt x 4), nI_eq (show f < 2 ^ 31 by omega) (show pt x 1 < 2 ^ 31 by have := pt_lt x 1; omega), nI_eq (show f < 2 ^ 31 by omega) (show pt x 5 < 2 ^ 31 by have := pt_lt x 5; omega), nI_eq (show pt x 1 < 2 ^ 31 by have := pt_lt x 1; omega) (show f < 2 ^ 31 by omega), nI_or, mwi4, mwi5]
  by_cases h1 : t = 0
  · simp [h1]
  · by_cases h2 : pt x 2 = b
    · simp [h1, h2]
    · by_cases h4 : pt x 4 = 0
      · by_cases h5 : f = pt x 1
        · subst h5
          simp [h1, h2, h4, V_same h h4]
        · have h6 : ¬ pt x 1 = f := fun e => h5 e.symm
          simp [h1, h2, h4, h5, h6]
      · by_cases h5 : f = pt x 5
        · simp [h1, h2, h4, ← h5]
        · simp [h1, h2, h4, h5]
theorem nIk {k j : Nat} (hk : k < 5) (hj : j < 5) : (nI k = nI j) ↔ k = j := nI_eq (by omega) (by omega)
theorem mbec {x : Int64} (h : V x) {kind b t a : Nat} (hk : kind < 5) (hb : b < 256) (ht : t < 256) (ha : a < 256) (S : zq_S) : f_Mo_become x (nI kind) (nI b) (nI t) (nI a) S = some (S, (bec kind b t a x).getD (-1)) := by
  unfold f_Mo_become f_Mo_become_14 f_Mo_become_31 f_Mo_become_49 f_Mo_become_108 f_Mo_become_138 f_Mo_become_208 bec ersL accL rejL
  have e1 : (nI kind = (1 : Int32)) ↔ kind = 1 := nIk (j := 1) hk (by decide)
  have e2 : (nI kind = (2 : Int32)) ↔ kind = 2 := nIk (j := 2) hk (by decide)
  have e3 : (nI kind = (3 : Int32)) ↔ kind = 3 := nIk (j := 3) hk (by decide)
  have e4 : (nI (pt x 2) = nI b) ↔ pt x 2 = b := nI_eq (by have := pt_lt x 2; omega) (by omega)
  have i2 : (nI (pt x 2 &&& a) = 0) ↔ pt x 2 &&& a = 0 := nIb (and_lt (pt_lt x 2))
  have i3 : (nI (pt x 3 &&& a) = 0) ↔ pt x 3 &&& a = 0 := nIb (and_lt (pt_lt x 3))
  have i4 : (nI (pt x 4 &&& a) = 0) ↔ pt x 4 &&& a = 0 := nIb (and_lt (pt_lt x 4))
  simp only [mpart2, mpart3, mpart4, mpart5, zb_S, mwi1, mwi2z, mwi3, mwi4z, mwi5z, e1, e2, e3, e4, nIb ht, nI_and, nI_or, nI_bic, i2, i3, i4]
  by_cases k1 : kind = 1
  · by_cases h1 : t = 0 <;> by_cases h2 : pt x 2 = b <;> simp [k1, h1, h2]
  · by_cases k2 : kind = 2
    · by_cases h2 : pt x 2 = b
      · simp [k2, h2, mfmt h b t a 1 (by simp [h2]) ht ha, zb_S]
      · simp [k2, h2, mfmt h b t a 0 (by simp [h2]) ht ha, zb_S]
    · by_cases k3 : kind = 3
      · by_cases h2 : pt x 2 = b <;> by_cases j3 : pt x 3 &&& a = 0 <;> by_cases j2 : pt x 2 &&& a = 0 <;> by_cases j4 : pt x 4 &&& a = 0 <;> simp_all
      · by_cases h2 : pt x 2 = b <;> by_cases j2 : pt x 2 &&& a = 0 <;> by_cases j4 : pt x 4 &&& a = 0 <;> simp_all
