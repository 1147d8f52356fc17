/-! pure operations on pictures: what an instruction does where it goes well; none: it doesn't -/
/-- fuel of the loops that no count bounds from outside -/
def zq_F : Nat := 1000000
def zs_b {τ β : Type} (o : Option (zq_S × τ)) (k : zq_S → τ → Option β) : Option β := match o with
  | some q => k q.1 q.2
  | none => none
theorem zs_bS {τ β : Type} {o : Option (zq_S × τ)} {k : zq_S → τ → Option β} {r : β} (h : zs_b o k = some r) : ∃ S x, o = some (S, x) ∧ k S x = some r := by
  cases o with
  | none => cases h
  | some q => exact ⟨q.1, q.2, rfl, h⟩
def zs_t {τ β : Type} (o : Option (zq_S × (τ ⊕ Nat))) (k : zq_S → τ → Option β) (e : zq_S → Nat → Option β) : Option β := match o with
  | some (S, .inl x) => k S x
  | some (S, .inr j) => e S j
  | none => none
theorem zs_tS {τ β : Type} {o : Option (zq_S × (τ ⊕ Nat))} {k : zq_S → τ → Option β} {e : zq_S → Nat → Option β} {r : β} (h : zs_t o k e = some r) : (∃ S x, o = some (S, .inl x) ∧ k S x = some r) ∨ ∃ S j, o = some (S, .inr j) ∧ e S j = some r := by
  cases o with
  | none => cases h
  | some q =>
    obtain ⟨S, x | j⟩ := q
    · exact Or.inl ⟨S, x, rfl, h⟩
    · exact Or.inr ⟨S, j, rfl, h⟩
theorem zs_if {α : Type} {p : Prop} [Decidable p] {a : α} {o r : Option α} (c : p) (h : (if p then some a else o) = r) : some a = r := by rw [if_pos c] at h; exact h
theorem zs_T {α : Type} {p : Prop} [Decidable p] {a b c : α} (h : p) (e : (if p then a else b) = c) : a = c := (if_pos h).symm.trans e
theorem zs_N {α : Type} {p : Prop} [Decidable p] {a b c : α} (h : ¬ p) (e : (if p then a else b) = c) : b = c := (if_neg h).symm.trans e
/-- a check that must go well -/
theorem zs_C {α : Type} {p : Prop} [Decidable p] {a : Option α} {c : α} (e : (if p then a else none) = some c) : p ∧ a = some c := by
  by_cases h : p
  · exact ⟨h, (if_pos h).symm.trans e⟩
  · rw [if_neg h] at e; cases e
def zs_is (S : zq_S) (b ci : Nat) : Bool := match S.1 b with
  | some (.inr (c, _)) => c == ci
  | _ => false
theorem zs_isS {S : zq_S} {b ci : Nat} (h : zs_is S b ci = true) : ∃ fs, S.1 b = some (.inr (ci, fs)) := by
  unfold zs_is at h
  split at h
  · rename_i c fs e
    have : c = ci := by simpa using h
    exact ⟨fs, by rw [e, this]⟩
  · cases h
theorem zs_1 {α : Type} {S T : zq_S} {x v : α} (h : some (S, x) = some (T, v)) : S = T := by cases h; rfl
theorem zs_2 {α β : Type} (f : α → β) {S T : zq_S} {x v : α} (h : some (S, x) = some (T, v)) : f x = f v := by cases h; rfl
def zq_ei (x : Int32 ⊕ Nat) : zq_R := match x with
  | .inl v => .inl (some (.int v))
  | .inr k => .inr k
def zq_ev (x : Unit ⊕ Nat) : zq_R := match x with
  | .inl _ => .inl none
  | .inr k => .inr k
def zq_el (x : Int64 ⊕ Nat) : zq_R := match x with
  | .inl v => .inl (some (.long v))
  | .inr k => .inr k
def zq_er (x : Option Nat ⊕ Nat) : zq_R := match x with
  | .inl v => .inl (some (va_rf v))
  | .inr k => .inr k
theorem zq_crf (x : Option Nat) : (va_rf x).category = 1 := by cases x <;> rfl
theorem zq_swOut {x : Int32} (n : Nat) (hn : n < 2 ^ 31) (h : ∀ k, k < n → ¬ x = nI k) : x.toInt < 0 ∨ (n : Int) - 1 < x.toInt := by
  by_cases h0 : x < 0
  · exact Or.inl (by simpa using Int32.lt_iff_toInt_lt.mp h0)
  · obtain ⟨j, hj, rfl⟩ := nI_of h0
    rw [nI_toInt hj]
    by_cases hjn : j < n
    · exact absurd rfl (h j hjn)
    · exact Or.inr (by omega)
def zs_gi (S : zq_S) (a ci k : Nat) : Option Int32 := match S.1 a with
  | some (.inr (c, fs)) => if c = ci then (match fs[k]? with
    | some (.int x) => some x
    | _ => none) else none
  | _ => none
theorem zs_giS {S : zq_S} {a ci k : Nat} {x : Int32} (h : zs_gi S a ci k = some x) : ∃ fs, S.1 a = some (.inr (ci, fs)) ∧ fs[k]? = some (.int x) := by
  unfold zs_gi at h
  split at h
  · rename_i c fs e
    have hq := zs_C h
    clear h
    obtain ⟨hc, h⟩ := hq
    subst hc
    cases hv : fs[k]? with
    | none => rw [hv] at h; cases h
    | some v => rw [hv] at h; cases v <;> first | (cases h; exact ⟨fs, e, hv⟩) | cases h
  · cases h
def zs_gl (S : zq_S) (a ci k : Nat) : Option Int64 := match S.1 a with
  | some (.inr (c, fs)) => if c = ci then (match fs[k]? with
    | some (.long x) => some x
    | _ => none) else none
  | _ => none
theorem zs_glS {S : zq_S} {a ci k : Nat} {x : Int64} (h : zs_gl S a ci k = some x) : ∃ fs, S.1 a = some (.inr (ci, fs)) ∧ fs[k]? = some (.long x) := by
  unfold zs_gl at h
  split at h
  · rename_i c fs e
    have hq := zs_C h
    clear h
    obtain ⟨hc, h⟩ := hq
    subst hc
    cases hv : fs[k]? with
    | none => rw [hv] at h; cases h
    | some v => rw [hv] at h; cases v <;> first | (cases h; exact ⟨fs, e, hv⟩) | cases h
  · cases h
def zs_gr (S : zq_S) (a ci k : Nat) : Option (Option Nat) := match S.1 a with
  | some (.inr (c, fs)) => if c = ci then (match fs[k]? with
    | some (.ref x) => some (some x)
    | some .null => some none
    | _ => none) else none
  | _ => none
theorem zs_grS {S : zq_S} {a ci k : Nat} {x : Option Nat} (h : zs_gr S a ci k = some x) : ∃ fs, S.1 a = some (.inr (ci, fs)) ∧ fs[k]? = some (va_rf x) := by
  unfold zs_gr at h
  split at h
  · rename_i c fs e
    have hq := zs_C h
    clear h
    obtain ⟨hc, h⟩ := hq
    subst hc
    cases hv : fs[k]? with
    | none => rw [hv] at h; cases h
    | some v => rw [hv] at h; cases v <;> first | (cases h; exact ⟨fs, e, hv⟩) | cases h
  · cases h
def zs_p (S : zq_S) (a ci k : Nat) (v : Value) : Option zq_S := match S.1 a with
  | some (.inr (c, fs)) => if c = ci ∧ k < fs.length then some (zq_u S a (.inr (ci, fs.set k v))) else none
  | _ => none
theorem zs_pS {S S' : zq_S} {a ci k : Nat} {v : Value} (h : zs_p S a ci k v = some S') : ∃ fs, S.1 a = some (.inr (ci, fs)) ∧ k < fs.length ∧ S' = zq_u S a (.inr (ci, fs.set k v)) := by
  unfold zs_p at h
  split at h
  · rename_i c fs e
    split at h
    · rename_i hc
      obtain ⟨rfl, hk⟩ := hc
      cases h
      exact ⟨fs, e, hk, rfl⟩
    · cases h
  · cases h
/-- a boolean is stored as 0 or 1 -/
def zs_pz (S : zq_S) (a ci k : Nat) (x : Int32) : Option zq_S := if x = 0 ∨ x = 1 then zs_p S a ci k (.int x) else none
def zs_len (S : zq_S) (a t : Nat) : Option Int32 := match S.1 a with
  | some (.inl (t', x)) => if t' = t then some (nI x.1) else none
  | _ => none
theorem zs_lenS {S : zq_S} {a t : Nat} {v : Int32} (h : zs_len S a t = some v) : ∃ x, S.1 a = some (.inl (t, x)) ∧ v = nI x.1 := by
  unfold zs_len at h
  split at h
  · rename_i t' x e
    split at h
    · rename_i ht
      subst ht
      cases h
      exact ⟨x, e, rfl⟩
    · cases h
  · cases h
def zs_lal (S : zq_S) (a t : Nat) (i : Int32) : Option (Int64) := match S.1 a with
  | some (.inl (t', n, .inr (.inl f))) => if t' = t then (if i < 0 ∨ n ≤ i.toNatClampNeg then none else some (f i.toNatClampNeg)) else none
  | _ => none
theorem zs_lalS {S : zq_S} {a t : Nat} {i : Int32} {v : Int64} (h : zs_lal S a t i = some v) : ∃ n f, S.1 a = some (.inl (t, n, .inr (.inl f))) ∧ vp_in i n ∧ f i.toNatClampNeg = v := by
  unfold zs_lal at h
  split at h
  · rename_i t' n f e
    have hq := zs_C h
    clear h
    obtain ⟨hc, h⟩ := hq
    subst hc
    by_cases hi : i < 0 ∨ n ≤ i.toNatClampNeg
    · rw [if_pos hi] at h; cases h
    · rw [if_neg hi] at h
      cases h
      exact ⟨n, f, e, hi, rfl⟩
  · cases h
def zs_las (S : zq_S) (a t : Nat) (i : Int32) (v : Int64) : Option zq_S := match S.1 a with
  | some (.inl (t', n, .inr (.inl f))) => if t' = t then (if i < 0 ∨ n ≤ i.toNatClampNeg then none else some (zq_u S a (.inl (t, n, .inr (.inl (vp_updL f i.toNatClampNeg v)))))) else none
  | _ => none
theorem zs_lasS {S S' : zq_S} {a t : Nat} {i : Int32} {v : Int64} (h : zs_las S a t i v = some S') : ∃ n f, S.1 a = some (.inl (t, n, .inr (.inl f))) ∧ vp_in i n ∧ S' = zq_u S a (.inl (t, n, .inr (.inl (vp_updL f i.toNatClampNeg v)))) := by
  unfold zs_las at h
  split at h
  · rename_i t' n f e
    have hq := zs_C h
    clear h
    obtain ⟨hc, h⟩ := hq
    subst hc
    by_cases hi : i < 0 ∨ n ≤ i.toNatClampNeg
    · rw [if_pos hi] at h; cases h
    · rw [if_neg hi] at h
      cases h
      exact ⟨n, f, e, hi, rfl⟩
  · cases h
def zs_ial (S : zq_S) (a t : Nat) (i : Int32) : Option (Int32) := match S.1 a with
  | some (.inl (t', n, .inl f)) => if t' = t then (if i < 0 ∨ n ≤ i.toNatClampNeg then none else some (f i.toNatClampNeg)) else none
  | _ => none
theorem zs_ialS {S : zq_S} {a t : Nat} {i : Int32} {v : Int32} (h : zs_ial S a t i = some v) : ∃ n f, S.1 a = some (.inl (t, n, .inl f)) ∧ vp_in i n ∧ f i.toNatClampNeg = v := by
  unfold zs_ial at h
  split at h
  · rename_i t' n f e
    have hq := zs_C h
    clear h
    obtain ⟨hc, h⟩ := hq
    subst hc
    by_cases hi : i < 0 ∨ n ≤ i.toNatClampNeg
    · rw [if_pos hi] at h; cases h
    · rw [if_neg hi] at h
      cases h
      exact ⟨n, f, e, hi, rfl⟩
  · cases h
def zs_ias (S : zq_S) (a t : Nat) (i : Int32) (v : Int32) : Option zq_S := match S.1 a with
  | some (.inl (t', n, .inl f)) => if t' = t then (if i < 0 ∨ n ≤ i.toNatClampNeg then none else some (zq_u S a (.inl (t, n, .inl (upd f i.toNatClampNeg v))))) else none
  | _ => none
theorem zs_iasS {S S' : zq_S} {a t : Nat} {i : Int32} {v : Int32} (h : zs_ias S a t i v = some S') : ∃ n f, S.1 a = some (.inl (t, n, .inl f)) ∧ vp_in i n ∧ S' = zq_u S a (.inl (t, n, .inl (upd f i.toNatClampNeg v))) := by
  unfold zs_ias at h
  split at h
  · rename_i t' n f e
    have hq := zs_C h
    clear h
    obtain ⟨hc, h⟩ := hq
    subst hc
    by_cases hi : i < 0 ∨ n ≤ i.toNatClampNeg
    · rw [if_pos hi] at h; cases h
    · rw [if_neg hi] at h
      cases h
      exact ⟨n, f, e, hi, rfl⟩
  · cases h
def zs_aal (S : zq_S) (a t : Nat) (i : Int32) : Option (Option Nat) := match S.1 a with
  | some (.inl (t', n, .inr (.inr (.inr (.inr f))))) => if t' = t then (if i < 0 ∨ n ≤ i.toNatClampNeg then none else some (f i.toNatClampNeg)) else none
  | _ => none
theorem zs_aalS {S : zq_S} {a t : Nat} {i : Int32} {v : Option Nat} (h : zs_aal S a t i = some v) : ∃ n f, S.1 a = some (.inl (t, n, .inr (.inr (.inr (.inr f))))) ∧ vp_in i n ∧ f i.toNatClampNeg = v := by
  unfold zs_aal at h
  split at h
  · rename_i t' n f e
    have hq := zs_C h
    clear h
    obtain ⟨hc, h⟩ := hq
    subst hc
    by_cases hi : i < 0 ∨ n ≤ i.toNatClampNeg
    · rw [if_pos hi] at h; cases h
    · rw [if_neg hi] at h
      cases h
      exact ⟨n, f, e, hi, rfl⟩
  · cases h
def zs_ok (S : zq_S) (ci : Nat) (v : Option Nat) : Bool := match v with
  | none => true
  | some x => zs_is S x ci
def zs_aas (S : zq_S) (a t : Nat) (ci : Nat) (i : Int32) (v : Option Nat) : Option zq_S := match S.1 a with
  | some (.inl (t', n, .inr (.inr (.inr (.inr f))))) => if t' = t then (if i < 0 ∨ n ≤ i.toNatClampNeg ∨ zs_ok S ci v = false then none else some (zq_u S a (.inl (t, n, .inr (.inr (.inr (.inr (va_up f i.toNatClampNeg v)))))))) else none
  | _ => none
theorem zs_aasS {S S' : zq_S} {a t ci : Nat} {i : Int32} {v : Option Nat} (h : zs_aas S a t ci i v = some S') : ∃ n f, S.1 a = some (.inl (t, n, .inr (.inr (.inr (.inr f))))) ∧ vp_in i n ∧ (∀ w, v = some w → ∃ vs, S.1 w = some (.inr (ci, vs))) ∧ S' = zq_u S a (.inl (t, n, .inr (.inr (.inr (.inr (va_up f i.toNatClampNeg v)))))) := by
  unfold zs_aas at h
  split at h
  · rename_i t' n f e
    have hq := zs_C h
    clear h
    obtain ⟨hc, h⟩ := hq
    subst hc
    by_cases hi : i < 0 ∨ n ≤ i.toNatClampNeg ∨ zs_ok S ci v = false
    · rw [if_pos hi] at h; cases h
    · rw [if_neg hi] at h
      cases h
      refine ⟨n, f, e, fun z => hi (by rcases z with z | z; exact Or.inl z; exact Or.inr (Or.inl z)), fun w hw => ?_, rfl⟩
      subst hw
      cases hx : zs_is S w ci with
      | true => exact zs_isS hx
      | false => exact absurd (Or.inr (Or.inr hx)) hi
  · cases h
def zs_cpl (S : zq_S) (t a0 : Nat) (sp : Int32) (a : Nat) (dp n : Int32) : Option zq_S := match S.1 a0, S.1 a with
  | some (.inl (t0, n0, .inr (.inl f))), some (.inl (t1, n1, .inr (.inl g))) => if t0 = t ∧ t1 = t ∧ ¬ sp < 0 ∧ ¬ dp < 0 ∧ ¬ n < 0 ∧ sp.toNatClampNeg + n.toNatClampNeg ≤ n0 ∧ dp.toNatClampNeg + n.toNatClampNeg ≤ n1 then some (zq_u S a (.inl (t, n1, .inr (.inl (va_cpy f g sp.toNatClampNeg dp.toNatClampNeg n.toNatClampNeg))))) else none
  | _, _ => none
theorem zs_cplS {S S' : zq_S} {t a0 a : Nat} {sp dp n : Int32} (h : zs_cpl S t a0 sp a dp n = some S') : ∃ n0 n1 f g, S.1 a0 = some (.inl (t, n0, .inr (.inl f))) ∧ S.1 a = some (.inl (t, n1, .inr (.inl g))) ∧ (¬ sp < 0 ∧ ¬ dp < 0 ∧ ¬ n < 0 ∧ sp.toNatClampNeg + n.toNatClampNeg ≤ n0 ∧ dp.toNatClampNeg + n.toNatClampNeg ≤ n1) ∧ S' = zq_u S a (.inl (t, n1, .inr (.inl (va_cpy f g sp.toNatClampNeg dp.toNatClampNeg n.toNatClampNeg)))) := by
  unfold zs_cpl at h
  split at h
  · rename_i t0 n0 f t1 n1 g e0 e1
    split at h
    · rename_i hc
      obtain ⟨rfl, rfl, hc⟩ := hc
      cases h
      exact ⟨n0, n1, f, g, e0, e1, hc, rfl⟩
    · cases h
  · cases h
section ZQ6
variable {Y : zq_Y} {X : zq_X} {cc : ByteArray} {nL : Nat} {own nm : String} {ret : Option FieldType} {hh : List (Nat × Nat × Nat × Nat)} {pc : Nat} {lo : List (Nat × Value)} {st : List Value} {S : zq_S} {kc ks : Nat}
theorem zr_geti (Z : zq_ok Y X cc nL own nm ret hh) {ix ci : Nat} {C : String} {T : u_T} {N : Nat} {ty0 : Nat → FieldType} (hcd : zq_cd ci C T N ty0) (k : Nat) (d : decode cc pc = .ok (.getfield ix, 3)) (hk : k < N) (hw : Cond.fieldLink own ix (T k).1 (T k).2.1 (T k).2.2.1 ∈ zq_T) {a : Nat} {x : Int32} (h : zs_gi S a ci k = some x) (c : zq_W Y X (pc + 3) lo (.int x :: st) S kc ks) : zq_W Y X pc lo (.ref a :: st) S kc ks := by
  obtain ⟨fs, e1, e2⟩ := zs_giS h
  exact zq_get Z hcd k d hk hw e1 e2 c
theorem zr_getl (Z : zq_ok Y X cc nL own nm ret hh) {ix ci : Nat} {C : String} {T : u_T} {N : Nat} {ty0 : Nat → FieldType} (hcd : zq_cd ci C T N ty0) (k : Nat) (d : decode cc pc = .ok (.getfield ix, 3)) (hk : k < N) (hw : Cond.fieldLink own ix (T k).1 (T k).2.1 (T k).2.2.1 ∈ zq_T) {a : Nat} {x : Int64} (h : zs_gl S a ci k = some x) (c : zq_W Y X (pc + 3) lo (.long x :: st) S kc ks) : zq_W Y X pc lo (.ref a :: st) S kc ks := by
  obtain ⟨fs, e1, e2⟩ := zs_glS h
  exact zq_get Z hcd k d hk hw e1 e2 c
theorem zr_getr (Z : zq_ok Y X cc nL own nm ret hh) {ix ci : Nat} {C : String} {T : u_T} {N : Nat} {ty0 : Nat → FieldType} (hcd : zq_cd ci C T N ty0) (k : Nat) (d : decode cc pc = .ok (.getfield ix, 3)) (hk : k < N) (hw : Cond.fieldLink own ix (T k).1 (T k).2.1 (T k).2.2.1 ∈ zq_T) {a : Nat} {x : Option Nat} (h : zs_gr S a ci k = some x) (c : zq_W Y X (pc + 3) lo (va_rf x :: st) S kc ks) : zq_W Y X pc lo (.ref a :: st) S kc ks := by
  obtain ⟨fs, e1, e2⟩ := zs_grS h
  exact zq_get Z hcd k d hk hw e1 e2 c
theorem zr_puti (Z : zq_ok Y X cc nL own nm ret hh) {ix ci : Nat} {C : String} {T : u_T} {N : Nat} {ty0 : Nat → FieldType} (hcd : zq_cd ci C T N ty0) (k : Nat) (d : decode cc pc = .ok (.putfield ix, 3)) (hk : k < N) (hw : Cond.fieldLink own ix (T k).1 (T k).2.1 (T k).2.2.1 ∈ zq_T) (hfin : (T k).2.2.2 = false) (hd : parseFieldDescriptor (T k).2.2.1 = some .int) {a : Nat} {x : Int32} {S' : zq_S} (h : zs_p S a ci k (.int x) = some S') (c : zq_W Y X (pc + 3) lo st S' kc ks) : zq_W Y X pc lo (.int x :: .ref a :: st) S kc ks := by
  obtain ⟨fs, e1, e2, rfl⟩ := zs_pS h
  exact zq_put Z hcd k d hk hw hfin hd rfl rfl e1 e2 c
theorem zr_putiF (Z : zq_ok Y X cc nL own nm ret hh) {ix ci : Nat} {C : String} {T : u_T} {N : Nat} {ty0 : Nat → FieldType} (hcd : zq_cd ci C T N ty0) (k : Nat) (d : decode cc pc = .ok (.putfield ix, 3)) (hk : k < N) (hw : Cond.fieldLink own ix (T k).1 (T k).2.1 (T k).2.2.1 ∈ zq_T) (hfin : (T k).2.2.2 = true) (hdecl : (T k).1 = own) (hin2 : nm = "<init>") (hd : parseFieldDescriptor (T k).2.2.1 = some .int) {a : Nat} {x : Int32} {S' : zq_S} (h : zs_p S a ci k (.int x) = some S') (c : zq_W Y X (pc + 3) lo st S' kc ks) : zq_W Y X pc lo (.int x :: .ref a :: st) S kc ks := by
  obtain ⟨fs, e1, e2, rfl⟩ := zs_pS h
  exact zq_putF Z hcd k d hk hw hfin hdecl hin2 hd rfl rfl e1 e2 c
theorem zr_putl (Z : zq_ok Y X cc nL own nm ret hh) {ix ci : Nat} {C : String} {T : u_T} {N : Nat} {ty0 : Nat → FieldType} (hcd : zq_cd ci C T N ty0) (k : Nat) (d : decode cc pc = .ok (.putfield ix, 3)) (hk : k < N) (hw : Cond.fieldLink own ix (T k).1 (T k).2.1 (T k).2.2.1 ∈ zq_T) (hfin : (T k).2.2.2 = false) (hd : parseFieldDescriptor (T k).2.2.1 = some .long) {a : Nat} {x : Int64} {S' : zq_S} (h : zs_p S a ci k (.long x) = some S') (c : zq_W Y X (pc + 3) lo st S' kc ks) : zq_W Y X pc lo (.long x :: .ref a :: st) S kc ks := by
  obtain ⟨fs, e1, e2, rfl⟩ := zs_pS h
  exact zq_put Z hcd k d hk hw hfin hd rfl rfl e1 e2 c
theorem zr_putlF (Z : zq_ok Y X cc nL own nm ret hh) {ix ci : Nat} {C : String} {T : u_T} {N : Nat} {ty0 : Nat → FieldType} (hcd : zq_cd ci C T N ty0) (k : Nat) (d : decode cc pc = .ok (.putfield ix, 3)) (hk : k < N) (hw : Cond.fieldLink own ix (T k).1 (T k).2.1 (T k).2.2.1 ∈ zq_T) (hfin : (T k).2.2.2 = true) (hdecl : (T k).1 = own) (hin2 : nm = "<init>") (hd : parseFieldDescriptor (T k).2.2.1 = some .long) {a : Nat} {x : Int64} {S' : zq_S} (h : zs_p S a ci k (.long x) = some S') (c : zq_W Y X (pc + 3) lo st S' kc ks) : zq_W Y X pc lo (.long x :: .ref a :: st) S kc ks := by
  obtain ⟨fs, e1, e2, rfl⟩ := zs_pS h
  exact zq_putF Z hcd k d hk hw hfin hdecl hin2 hd rfl rfl e1 e2 c
theorem zr_putr (Z : zq_ok Y X cc nL own nm ret hh) {ix ci : Nat} {C : String} {T : u_T} {N : Nat} {ty0 : Nat → FieldType} (hcd : zq_cd ci C T N ty0) (k : Nat) (d : decode cc pc = .ok (.putfield ix, 3)) (hk : k < N) (hw : Cond.fieldLink own ix (T k).1 (T k).2.1 (T k).2.2.1 ∈ zq_T) (hfin : (T k).2.2.2 = false) {ty : FieldType} (hr : (∃ n, ty = .object n) ∨ ∃ t, ty = .array t) (hd : parseFieldDescriptor (T k).2.2.1 = some ty) {a : Nat} {x : Option Nat} {S' : zq_S} (h : zs_p S a ci k (va_rf x) = some S') (c : zq_W Y X (pc + 3) lo st S' kc ks) : zq_W Y X pc lo (va_rf x :: .ref a :: st) S kc ks := by
  obtain ⟨fs, e1, e2, rfl⟩ := zs_pS h
  exact zq_put Z hcd k d hk hw hfin hd (by rcases hr with ⟨n, rfl⟩ | ⟨t, rfl⟩ <;> cases x <;> rfl) (by rcases hr with ⟨n, rfl⟩ | ⟨t, rfl⟩ <;> cases x <;> rfl) e1 e2 c
theorem zr_putrF (Z : zq_ok Y X cc nL own nm ret hh) {ix ci : Nat} {C : String} {T : u_T} {N : Nat} {ty0 : Nat → FieldType} (hcd : zq_cd ci C T N ty0) (k : Nat) (d : decode cc pc = .ok (.putfield ix, 3)) (hk : k < N) (hw : Cond.fieldLink own ix (T k).1 (T k).2.1 (T k).2.2.1 ∈ zq_T) (hfin : (T k).2.2.2 = true) (hdecl : (T k).1 = own) (hin2 : nm = "<init>") {ty : FieldType} (hr : (∃ n, ty = .object n) ∨ ∃ t, ty = .array t) (hd : parseFieldDescriptor (T k).2.2.1 = some ty) {a : Nat} {x : Option Nat} {S' : zq_S} (h : zs_p S a ci k (va_rf x) = some S') (c : zq_W Y X (pc + 3) lo st S' kc ks) : zq_W Y X pc lo (va_rf x :: .ref a :: st) S kc ks := by
  obtain ⟨fs, e1, e2, rfl⟩ := zs_pS h
  exact zq_putF Z hcd k d hk hw hfin hdecl hin2 hd (by rcases hr with ⟨n, rfl⟩ | ⟨t, rfl⟩ <;> cases x <;> rfl) (by rcases hr with ⟨n, rfl⟩ | ⟨t, rfl⟩ <;> cases x <;> rfl) e1 e2 c
theorem zr_putz (Z : zq_ok Y X cc nL own nm ret hh) {ix ci : Nat} {C : String} {T : u_T} {N : Nat} {ty0 : Nat → FieldType} (hcd : zq_cd ci C T N ty0) (k : Nat) (d : decode cc pc = .ok (.putfield ix, 3)) (hk : k < N) (hw : Cond.fieldLink own ix (T k).1 (T k).2.1 (T k).2.2.1 ∈ zq_T) (hfin : (T k).2.2.2 = false) (hd : parseFieldDescriptor (T k).2.2.1 = some .boolean) {a : Nat} {x : Int32} {S' : zq_S} (h : zs_pz S a ci k x = some S') (c : zq_W Y X (pc + 3) lo st S' kc ks) : zq_W Y X pc lo (.int x :: .ref a :: st) S kc ks := by
  obtain ⟨hx, h⟩ := zs_C h
  obtain ⟨fs, e1, e2, rfl⟩ := zs_pS h
  exact zq_put Z hcd k d hk hw hfin hd (by rcases hx with rfl | rfl <;> rfl) (by rcases hx with rfl | rfl <;> rfl) e1 e2 c
theorem zr_putzF (Z : zq_ok Y X cc nL own nm ret hh) {ix ci : Nat} {C : String} {T : u_T} {N : Nat} {ty0 : Nat → FieldType} (hcd : zq_cd ci C T N ty0) (k : Nat) (d : decode cc pc = .ok (.putfield ix, 3)) (hk : k < N) (hw : Cond.fieldLink own ix (T k).1 (T k).2.1 (T k).2.2.1 ∈ zq_T) (hfin : (T k).2.2.2 = true) (hdecl : (T k).1 = own) (hin2 : nm = "<init>") (hd : parseFieldDescriptor (T k).2.2.1 = some .boolean) {a : Nat} {x : Int32} {S' : zq_S} (h : zs_pz S a ci k x = some S') (c : zq_W Y X (pc + 3) lo st S' kc ks) : zq_W Y X pc lo (.int x :: .ref a :: st) S kc ks := by
  obtain ⟨hx, h⟩ := zs_C h
  obtain ⟨fs, e1, e2, rfl⟩ := zs_pS h
  exact zq_putF Z hcd k d hk hw hfin hdecl hin2 hd (by rcases hx with rfl | rfl <;> rfl) (by rcases hx with rfl | rfl <;> rfl) e1 e2 c
theorem zr_len (Z : zq_ok Y X cc nL own nm ret hh) (t : Nat) {ty : FieldType} (ht : ∀ f : Nat → ClassId, (zq_ty f)[t]? = some (f t, ty)) (d : decode cc pc = .ok (.arraylength, 1)) {a : Nat} {v : Int32} (h : zs_len S a t = some v) (c : zq_W Y X (pc + 1) lo (.int v :: st) S kc ks) : zq_W Y X pc lo (.ref a :: st) S kc ks := by
  obtain ⟨x, e1, rfl⟩ := zs_lenS h
  exact zq_alen Z t ht d e1 c
theorem zr_laload (Z : zq_ok Y X cc nL own nm ret hh) (t : Nat) (ht : ∀ f : Nat → ClassId, (zq_ty f)[t]? = some (f t, .long)) (d : decode cc pc = .ok (.laload, 1)) {a : Nat} {i : Int32} {v : Int64} (h : zs_lal S a t i = some v) (c : zq_W Y X (pc + 1) lo (.long v :: st) S kc ks) : zq_W Y X pc lo (.int i :: .ref a :: st) S kc ks := by
  obtain ⟨n, f, e1, hin, rfl⟩ := zs_lalS h
  exact zq_laload Z t ht d e1 hin c
theorem zr_lastore (Z : zq_ok Y X cc nL own nm ret hh) (t : Nat) (ht : ∀ f : Nat → ClassId, (zq_ty f)[t]? = some (f t, .long)) (d : decode cc pc = .ok (.lastore, 1)) {a : Nat} {i : Int32} {v : Int64} {S' : zq_S} (h : zs_las S a t i v = some S') (c : zq_W Y X (pc + 1) lo st S' kc ks) : zq_W Y X pc lo (.long v :: .int i :: .ref a :: st) S kc ks := by
  obtain ⟨n, f, e1, hin, rfl⟩ := zs_lasS h
  exact zq_lastore Z t ht d e1 hin c
theorem zr_iaload (Z : zq_ok Y X cc nL own nm ret hh) (t : Nat) (ht : ∀ f : Nat → ClassId, (zq_ty f)[t]? = some (f t, .int)) (d : decode cc pc = .ok (.iaload, 1)) {a : Nat} {i : Int32} {v : Int32} (h : zs_ial S a t i = some v) (c : zq_W Y X (pc + 1) lo (.int v :: st) S kc ks) : zq_W Y X pc lo (.int i :: .ref a :: st) S kc ks := by
  obtain ⟨n, f, e1, hin, rfl⟩ := zs_ialS h
  exact zq_iaload Z t ht d e1 hin c
theorem zr_iastore (Z : zq_ok Y X cc nL own nm ret hh) (t : Nat) (ht : ∀ f : Nat → ClassId, (zq_ty f)[t]? = some (f t, .int)) (d : decode cc pc = .ok (.iastore, 1)) {a : Nat} {i : Int32} {v : Int32} {S' : zq_S} (h : zs_ias S a t i v = some S') (c : zq_W Y X (pc + 1) lo st S' kc ks) : zq_W Y X pc lo (.int v :: .int i :: .ref a :: st) S kc ks := by
  obtain ⟨n, f, e1, hin, rfl⟩ := zs_iasS h
  exact zq_iastore Z t ht d e1 hin c
theorem zr_aaload (Z : zq_ok Y X cc nL own nm ret hh) (t : Nat) {C : String} (ht : ∀ f : Nat → ClassId, (zq_ty f)[t]? = some (f t, (.object C))) (d : decode cc pc = .ok (.aaload, 1)) {a : Nat} {i : Int32} {v : Option Nat} (h : zs_aal S a t i = some v) (c : zq_W Y X (pc + 1) lo (va_rf v :: st) S kc ks) : zq_W Y X pc lo (.int i :: .ref a :: st) S kc ks := by
  obtain ⟨n, f, e1, hin, rfl⟩ := zs_aalS h
  exact zq_aaload Z t ht d e1 hin c
theorem zr_aastore (Z : zq_ok Y X cc nL own nm ret hh) (t ci : Nat) {r : vw_C} (hc : zq_cl[ci]? = some r) (ht : ∀ f : Nat → ClassId, (zq_ty f)[t]? = some (f t, .object r.1)) (d : decode cc pc = .ok (.aastore, 1)) {a : Nat} {i : Int32} {v : Option Nat} {S' : zq_S} (h : zs_aas S a t ci i v = some S') (c : zq_W Y X (pc + 1) lo st S' kc ks) : zq_W Y X pc lo (va_rf v :: .int i :: .ref a :: st) S kc ks := by
  obtain ⟨n, f, e1, hin, hv, rfl⟩ := zs_aasS h
  exact zq_aastore Z t ci hc ht d e1 hv hin c
theorem zr_copyl (Z : zq_ok Y X cc nL own nm ret hh) {ix : Nat} (t : Nat) (ht : ∀ f : Nat → ClassId, (zq_ty f)[t]? = some (f t, .long)) (d : decode cc pc = .ok (.invokestatic ix, 3)) (w1 : Cond.methodLink own ix arraycopyName ∈ zq_T) (w2 : Cond.native arraycopyName ∈ zq_T) (w3 : Cond.static arraycopyName ∈ zq_T) (w4 : Cond.initialized "java/lang/System" ∈ zq_T)
    {a0 a : Nat} {sp dp n : Int32} {S' : zq_S} (h : zs_cpl S t a0 sp a dp n = some S') (hfr : 1 ≤ (yR Y).frames) (hlo : (st.map fun v => v.category).sum + (nativeFrameWords "java/lang/System" "arraycopy" 5 + 11) ≤ (yR Y).locals)
    (c : zq_W Y X (pc + 3) lo st S' kc ks) : zq_W Y X pc lo (.int n :: .int dp :: .ref a :: .int sp :: .ref a0 :: st) S kc ks := by
  obtain ⟨n0, n1, f, g, e0, e1, ⟨h1, h2, h3, h4, h5⟩, rfl⟩ := zs_cplS h
  exact zq_copyl Z t ht d w1 w2 w3 w4 e0 e1 h1 h2 h3 h4 h5 hfr hlo c
end ZQ6
