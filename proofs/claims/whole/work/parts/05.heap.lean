/-! the rows that read and write the heap, over pictures -/
/-- what a class's words are good for -/
def zq_cd (ci : Nat) (C : String) (T : u_T) (N : Nat) (ty0 : Nat → FieldType) : Prop := zq_cl[ci]? = some (C, T, N) ∧ (∀ w ∈ u_ws C T N, w ∈ zq_T) ∧ (∀ k, k < N → parseFieldDescriptor (T k).2.2.1 = some (ty0 k)) ∧ (∀ a, a < N → ∀ b, b < N → a ≠ b → (T a).2.1 ≠ (T b).2.1)
theorem zq_one {G : zq_G} {S : zq_S} {H : Heap} {a : Nat} {e : zq_E} (h : zq_P G S H) (ha : S.1 a = some e) : va_P G.1 zq_cl [(a, zq_c G e)] H := by
  intro k q hq
  have hz : k < 1 := (List.getElem?_eq_some_iff.mp hq).1
  rw [show k = 0 by omega] at hq
  cases hq
  exact h.2 a e ha
theorem zq_uA {A : Nat → Prop} {S : zq_S} {a : Nat} {e : zq_E} (h : ∀ (q : Nat) (e : zq_E), S.1 q = some e → A q) (ha : A a) : ∀ (q : Nat) (e' : zq_E), (zq_u S a e).1 q = some e' → A q := by
  intro q e' hq
  have hq : (if q = a then some e else S.1 q) = some e' := hq
  by_cases hqa : q = a
  · rw [hqa]; exact ha
  · rw [if_neg hqa] at hq
    exact h q e' hq
theorem zq_nA {A : Nat → Prop} {S : zq_S} {e : zq_E} (h : ∀ (q : Nat) (e : zq_E), S.1 q = some e → A q) (ha : A S.2.1) : ∀ (q : Nat) (e' : zq_E), (zq_n S e).1 q = some e' → A q := by
  intro q e' hq
  have hq : (if q = S.2.1 then some e else S.1 q) = some e' := hq
  by_cases hqa : q = S.2.1
  · rw [hqa]; exact ha
  · rw [if_neg hqa] at hq
    exact h q e' hq
section ZQ3
variable {Y : zq_Y} {X : zq_X} {cc : ByteArray} {nL : Nat} {own nm : String} {ret : Option FieldType} {hh : List (Nat × Nat × Nat × Nat)} {pc : Nat} {lo : List (Nat × Value)} {st : List Value} {S : zq_S} {kc ks : Nat}
theorem zq_get (Z : zq_ok Y X cc nL own nm ret hh) {ix ci : Nat} {C : String} {T : u_T} {N : Nat} {ty0 : Nat → FieldType} (hcd : zq_cd ci C T N ty0) (k : Nat) (d : decode cc pc = .ok (.getfield ix, 3)) (hk : k < N) (hw : Cond.fieldLink own ix (T k).1 (T k).2.1 (T k).2.2.1 ∈ zq_T) {a : Nat} {fs : List Value} {v : Value} (he : S.1 a = some (.inr (ci, fs))) (hv : fs[k]? = some v)
    (c : zq_W Y X (pc + 3) lo (v :: st) S kc ks) : zq_W Y X pc lo (.ref a :: st) S kc ks :=
  fun H locs ls ce sl a1 a2 a3 a4 a5 a6 a7 a8 a9 => va_get (D := (yG Y).1) (cl := zq_cl) (tys := zq_ty (yG Y).2) Z.x Z.b Z.ws hcd.2.1 Z.o Z.i.2.1 (zq_one a1 he) 0 rfl hcd.1 k hk (Z.w hw) (fun _ h => h) hv d (c H locs ls ce sl a1 a2 a3 a4 a5 a6 a7 a8 a9)
theorem zq_put (Z : zq_ok Y X cc nL own nm ret hh) {ix ci : Nat} {C : String} {T : u_T} {N : Nat} {ty0 : Nat → FieldType} (hcd : zq_cd ci C T N ty0) (k : Nat) (d : decode cc pc = .ok (.putfield ix, 3)) (hk : k < N) (hw : Cond.fieldLink own ix (T k).1 (T k).2.1 (T k).2.2.1 ∈ zq_T) (hfin : (T k).2.2.2 = false) {ty : FieldType} {v : Value} (hd : parseFieldDescriptor (T k).2.2.1 = some ty) (hn : narrow ty v = v) (hfit : fits ty v = true) {a : Nat} {fs : List Value} (he : S.1 a = some (.inr (ci, fs))) (hl : k < fs.length)
    (c : zq_W Y X (pc + 3) lo st (zq_u S a (.inr (ci, fs.set k v))) kc ks) : zq_W Y X pc lo (v :: .ref a :: st) S kc ks := by
  intro H locs ls ce sl a1 a2 a3 a4 a5 a6 a7 a8 a9
  obtain ⟨hc, hin, hty, hnm⟩ := hcd
  have hap := va_apart (own := own) (D := (yG Y).1) Z.ws hin ty0 hty hnm Z.i.2.1 hc
  obtain ⟨r, h1, cell, q1, q2, q3, q4⟩ := a1.2 a _ he
  have hr : r = (C, T, N) := Option.some.inj (h1.symm.trans hc)
  subst hr
  obtain ⟨hS, hfc, kC, hkC, hkind⟩ := Z.i.2.1.1 ci _ hc
  obtain ⟨cf, kf, fi, f, hi, hsl⟩ := hS k hk
  have hlay := Z.ws _ (hin _ (u_in_lay hk))
  unfold u_lay at hlay
  rw [if_neg (by rw [hfin]; decide)] at hlay
  have hst := (u_facts hfc hkC (u_lays Z.ws hin hk) hi).1
  have h6 := u_store hfc hkC hkind hlay hi hd hn hfit
  refine W.putK Z.x Z.b (f := f) ⟨Z.o, Z.w hw, ⟨_, _, _, hi⟩, hst⟩ (by rw [q2]; exact h6) q1 q3 (by rw [hsl]; exact k2_hasslot (q4 k hk)) rfl rfl d fun H' e1 e2 e3 => ?_
  rw [hsl] at e1 ⊢
  exact c H' _ ls ce sl (a1.set (e := .inr (ci, fs.set k v)) ⟨_, hc, t_OB.to (V := updV (vp_V fs) k v) ⟨_, e1, q2, q3, t_set q4 hap hk v⟩ (fun j _ => vp_updV_set hl v j)⟩ e2 e3) (a2.put e2 e3 (a3 a _ he)) (zq_uA a3 (a3 a _ he)) a4 (Nat.le_succ_of_le a5) (fun h => absurd h (by show ¬ (S.2.2 + 1 = _); omega)) a7 a8 a9
theorem zq_putF (Z : zq_ok Y X cc nL own nm ret hh) {ix ci : Nat} {C : String} {T : u_T} {N : Nat} {ty0 : Nat → FieldType} (hcd : zq_cd ci C T N ty0) (k : Nat) (d : decode cc pc = .ok (.putfield ix, 3)) (hk : k < N) (hw : Cond.fieldLink own ix (T k).1 (T k).2.1 (T k).2.2.1 ∈ zq_T) (hfin : (T k).2.2.2 = true) (hdecl : (T k).1 = own) (hin2 : nm = "<init>") {ty : FieldType} {v : Value} (hd : parseFieldDescriptor (T k).2.2.1 = some ty) (hn : narrow ty v = v) (hfit : fits ty v = true) {a : Nat} {fs : List Value} (he : S.1 a = some (.inr (ci, fs))) (hl : k < fs.length)
    (c : zq_W Y X (pc + 3) lo st (zq_u S a (.inr (ci, fs.set k v))) kc ks) : zq_W Y X pc lo (v :: .ref a :: st) S kc ks := by
  intro H locs ls ce sl a1 a2 a3 a4 a5 a6 a7 a8 a9
  obtain ⟨hc, hin, hty, hnm⟩ := hcd
  have hap := va_apart (own := own) (D := (yG Y).1) Z.ws hin ty0 hty hnm Z.i.2.1 hc
  obtain ⟨r, h1, cell, q1, q2, q3, q4⟩ := a1.2 a _ he
  have hr : r = (C, T, N) := Option.some.inj (h1.symm.trans hc)
  subst hr
  obtain ⟨hS, hfc, kC, hkC, hkind⟩ := Z.i.2.1.1 ci _ hc
  obtain ⟨cf, kf, fi, f, hi, hsl⟩ := hS k hk
  have hlay := Z.ws _ (hin _ (u_in_lay hk))
  unfold u_lay at hlay
  rw [if_pos hfin] at hlay
  have hst := (u_facts hfc hkC (u_lays Z.ws hin hk) hi).1
  have hcf : (xm X).cls = cf := by
    obtain ⟨_, _, c', _, _, _, -, -, hf', -, -, -, hown2, -⟩ := Cond.laysFinal_spec hlay
    have e1 : c' = cf := by have := hi.symm.trans hf'; simp at this; exact this.1.symm
    rw [hdecl] at hown2
    rw [← e1]; exact Option.some.inj (Z.o.symm.trans hown2)
  have h6 := u_fits hfc hkC hkind (Or.inr hlay) hi hd hn hfit
  refine W.putFinK Z.x Z.b Z.o (Z.w hw) hi hst hcf (Z.n.trans hin2) (by rw [q2]; exact h6) q1 q3 (by rw [hsl]; exact k2_hasslot (q4 k hk)) rfl rfl d fun H' e1 e2 e3 => ?_
  rw [hsl] at e1 ⊢
  exact c H' _ ls ce sl (a1.set (e := .inr (ci, fs.set k v)) ⟨_, hc, t_OB.to (V := updV (vp_V fs) k v) ⟨_, e1, q2, q3, t_set q4 hap hk v⟩ (fun j _ => vp_updV_set hl v j)⟩ e2 e3) (a2.put e2 e3 (a3 a _ he)) (zq_uA a3 (a3 a _ he)) a4 (Nat.le_succ_of_le a5) (fun h => absurd h (by show ¬ (S.2.2 + 1 = _); omega)) a7 a8 a9
theorem zq_new (Z : zq_ok Y X cc nL own nm ret hh) {ix ci : Nat} {C : String} {T : u_T} {N : Nat} {ty0 : Nat → FieldType} (hcd : zq_cd ci C T N ty0) (d : decode cc pc = .ok (.new ix, 3)) (w1 : Cond.classLink own ix C ∈ zq_T) (w2 : Cond.instantiable C N ∈ zq_T) (w3 : Cond.initialized C ∈ zq_T) (fs : List Value) (hfs : ∀ j, j < N → defaultValue (ty0 j) = vp_V fs j) (hr : kc + 1 ≤ (yR Y).cells ∧ ks + N ≤ (yR Y).slots)
    (c : zq_W Y X (pc + 3) lo (.ref S.2.1 :: st) (zq_n S (.inr (ci, fs))) (kc + 1) (ks + N)) : zq_W Y X pc lo st S kc ks := by
  intro H locs ls ce sl a1 a2 a3 a4 a5 a6 a7 a8 a9
  obtain ⟨hc, hin, hty, hnm⟩ := hcd
  have hKn := Z.i.2.1.1 ci _ hc
  refine W.newcK Z.x Z.b Z.o (Z.w w1) (Z.w w2) (Z.w w3) rfl d (by omega) (by omega) hKn.2.1 a1.1 fun H1 kC hkC e1 z1 o1 => ?_
  rw [← a1.1] at z1 o1
  refine c H1 locs ls (ce + 1) (sl + N) (a1.push (e := .inr (ci, fs)) ⟨_, hc, (u_born ty0 Z.ws hin hKn hkC e1 hty).to hfs⟩ z1 o1) (zq_SP a2 z1 o1) (zq_nA a3 (Or.inr (by rw [a4]; exact Nat.le_add_right _ _))) ?_ a5 a6 (by omega) (by omega) a9
  show S.2.1 + 1 = _
  omega
theorem zq_newa (Z : zq_ok Y X cc nL own nm ret hh) {atype : ArrayType} {ty : FieldType} (hty : newarray.typeOf atype = ty) (t : Nat) (ht : ∀ f : Nat → ClassId, (zq_ty f)[t]? = some (f t, ty)) (hra : ∀ (U : State) (q : ClassId), va_RA U q ty → U.vm.findClass ("[" ++ ty.toString) = some q) (d : decode cc pc = .ok (.newarray atype, 2)) (w1 : Cond.arrayClass ty ∈ zq_T) {n : Int32} {N : Nat} (a0 : vp_A) (ha : ∀ cA : ClassId, vp_cell cA a0 = arrV cA N (fun _ => defaultValue ty)) (hn : ¬ n < 0) (hN : n.toNatClampNeg = N) (hb : N * componentBytes ty ≤ 536870912) (hr : kc + 1 ≤ (yR Y).cells ∧ ks + N ≤ (yR Y).slots)
    (c : zq_W Y X (pc + 2) lo (.ref S.2.1 :: st) (zq_n S (.inl (t, a0))) (kc + 1) (ks + N)) : zq_W Y X pc lo (.int n :: st) S kc ks := by
  intro H locs ls ce sl a1 a2 a3 a4 a5 a6 a7 a8 a9
  subst hty
  refine va_newaK Z.x Z.b (Z.w w1) rfl d rfl hn hN hb (by omega) (by omega) a1.1 fun H1 cA e1 z1 o1 hAr hNm => ?_
  rw [← a1.1] at z1 o1
  have hcA : cA = (yG Y).2 t := Option.some.inj (hNm.symm.trans (hra _ _ (Z.i.2.1.2 t _ (ht (yG Y).2)).2))
  subst hcA
  refine c H1 locs ls (ce + 1) (sl + N) (a1.push (e := .inl (t, a0)) ?_ z1 o1) (zq_SP a2 z1 o1) (zq_nA a3 (Or.inr (by rw [a4]; exact Nat.le_add_right _ _))) ?_ a5 a6 (by omega) (by omega) a9
  · show H1[S.2.1]? = some (vp_cell _ _)
    rw [ha]
    exact e1
  · show S.2.1 + 1 = _
    omega
theorem zq_anew (Z : zq_ok Y X cc nL own nm ret hh) {ix : Nat} {C : String} (t : Nat) (ht : ∀ f : Nat → ClassId, (zq_ty f)[t]? = some (f t, .object C)) (d : decode cc pc = .ok (.anewarray ix, 3)) (w1 : Cond.classLink own ix C ∈ zq_T) (w2 : Cond.arrayOver (.object C) ∈ zq_T) {n : Int32} {N : Nat} (hn : ¬ n < 0) (hN : n.toNatClampNeg = N) (hb : N * 4 ≤ 536870912) (hr : kc + 1 ≤ (yR Y).cells ∧ ks + N ≤ (yR Y).slots)
    (c : zq_W Y X (pc + 3) lo (.ref S.2.1 :: st) (zq_n S (.inl (t, N, .inr (.inr (.inr (.inr (fun _ => none))))))) (kc + 1) (ks + N)) : zq_W Y X pc lo (.int n :: st) S kc ks := by
  intro H locs ls ce sl a1 a2 a3 a4 a5 a6 a7 a8 a9
  subst hN
  refine W.anew Z.x Z.b Z.o (Z.w w1) (Z.w w2) rfl d rfl hn hb (by omega) (by omega) fun cA kA comp f1 f2 f3 f4 => ?_
  obtain ⟨-, kA', comp', g1, g2, g3, g4⟩ := Z.i.2.1.2 t _ (ht (yG Y).2)
  have hcA : cA = (yG Y).2 t := Option.some.inj (f1.symm.trans g4)
  subst hcA
  generalize hH1 : H.push ({ cls := (yG Y).2 t, slots := Array.replicate n.toNatClampNeg .null, vm := .none } : Cell) = H1
  have z1 : H1.size = H.size + 1 := by rw [← hH1, Array.size_push]
  have e1 : H1[H.size]? = some (arrV ((yG Y).2 t) n.toNatClampNeg (fun _ => .null)) := by rw [← hH1, Array.getElem?_push_size, ← arrV_new]
  have o1 : ∀ q : Nat, q < H.size → H1[q]? = H[q]? := fun q hq => by rw [← hH1, Array.getElem?_push, if_neg (Nat.ne_of_lt hq)]
  rw [a1.1]
  refine c H1 locs ls (ce + 1) (sl + n.toNatClampNeg) (a1.push (e := .inl (t, n.toNatClampNeg, .inr (.inr (.inr (.inr (fun _ => none)))))) ?_ z1 o1) (zq_SP a2 z1 o1) (zq_nA a3 (Or.inr (by rw [a4]; exact Nat.le_add_right _ _))) ?_ a5 a6 (by omega) (by omega) a9
  · show H1[S.2.1]? = some (vp_cell _ _)
    rw [vp_cell_q, ← a1.1]
    exact e1
  · show S.2.1 + 1 = _
    omega
theorem zq_alen (Z : zq_ok Y X cc nL own nm ret hh) (t : Nat) {ty : FieldType} (ht : ∀ f : Nat → ClassId, (zq_ty f)[t]? = some (f t, ty)) (d : decode cc pc = .ok (.arraylength, 1)) {a : Nat} {x : vp_A} (he : S.1 a = some (.inl (t, x)))
    (c : zq_W Y X (pc + 1) lo (.int (nI x.1) :: st) S kc ks) : zq_W Y X pc lo (.ref a :: st) S kc ks :=
  fun H locs ls ce sl a1 a2 a3 a4 a5 a6 a7 a8 a9 => va_alen (D := (yG Y).1) (cl := zq_cl) Z.x Z.b Z.i.2.1 (zq_one a1 he) 0 t rfl (ht _) rfl d (c H locs ls ce sl a1 a2 a3 a4 a5 a6 a7 a8 a9)
theorem zq_laload (Z : zq_ok Y X cc nL own nm ret hh) (t : Nat) (ht : ∀ f : Nat → ClassId, (zq_ty f)[t]? = some (f t, .long)) (d : decode cc pc = .ok (.laload, 1)) {a n : Nat} {f : Nat → Int64} (he : S.1 a = some (.inl (t, n, .inr (.inl f)))) {i : Int32} (hin : vp_in i n)
    (c : zq_W Y X (pc + 1) lo (.long (f i.toNatClampNeg) :: st) S kc ks) : zq_W Y X pc lo (.int i :: .ref a :: st) S kc ks :=
  fun H locs ls ce sl a1 a2 a3 a4 a5 a6 a7 a8 a9 => va_lald (D := (yG Y).1) (cl := zq_cl) Z.x Z.b Z.i.2.1 (zq_one a1 he) 0 t rfl (ht _) hin d (c H locs ls ce sl a1 a2 a3 a4 a5 a6 a7 a8 a9)
theorem zq_iaload (Z : zq_ok Y X cc nL own nm ret hh) (t : Nat) (ht : ∀ f : Nat → ClassId, (zq_ty f)[t]? = some (f t, .int)) (d : decode cc pc = .ok (.iaload, 1)) {a n : Nat} {f : Nat → Int32} (he : S.1 a = some (.inl (t, n, .inl f))) {i : Int32} (hin : vp_in i n)
    (c : zq_W Y X (pc + 1) lo (.int (f i.toNatClampNeg) :: st) S kc ks) : zq_W Y X pc lo (.int i :: .ref a :: st) S kc ks :=
  fun H locs ls ce sl a1 a2 a3 a4 a5 a6 a7 a8 a9 => va_iald (D := (yG Y).1) (cl := zq_cl) Z.x Z.b Z.i.2.1 (zq_one a1 he) 0 t rfl (ht _) hin d (c H locs ls ce sl a1 a2 a3 a4 a5 a6 a7 a8 a9)
theorem zq_aaload (Z : zq_ok Y X cc nL own nm ret hh) (t : Nat) {C : String} (ht : ∀ f : Nat → ClassId, (zq_ty f)[t]? = some (f t, .object C)) (d : decode cc pc = .ok (.aaload, 1)) {a n : Nat} {f : Nat → Option Nat} (he : S.1 a = some (.inl (t, n, .inr (.inr (.inr (.inr f)))))) {i : Int32} (hin : vp_in i n)
    (c : zq_W Y X (pc + 1) lo (va_rf (f i.toNatClampNeg) :: st) S kc ks) : zq_W Y X pc lo (.int i :: .ref a :: st) S kc ks :=
  fun H locs ls ce sl a1 a2 a3 a4 a5 a6 a7 a8 a9 => va_aldq (D := (yG Y).1) (cl := zq_cl) Z.x Z.b Z.i.2.1 (zq_one a1 he) 0 t rfl (ht _) hin d (c H locs ls ce sl a1 a2 a3 a4 a5 a6 a7 a8 a9)
theorem zq_lastore (Z : zq_ok Y X cc nL own nm ret hh) (t : Nat) (ht : ∀ f : Nat → ClassId, (zq_ty f)[t]? = some (f t, .long)) (d : decode cc pc = .ok (.lastore, 1)) {a n : Nat} {f : Nat → Int64} (he : S.1 a = some (.inl (t, n, .inr (.inl f)))) {i : Int32} {x : Int64} (hin : vp_in i n)
    (c : zq_W Y X (pc + 1) lo st (zq_u S a (.inl (t, n, .inr (.inl (vp_updL f i.toNatClampNeg x))))) kc ks) : zq_W Y X pc lo (.long x :: .int i :: .ref a :: st) S kc ks := by
  intro H locs ls ce sl a1 a2 a3 a4 a5 a6 a7 a8 a9
  refine W.last Z.x Z.b (a1.2 a _ he) ((Z.i.2.1.2 t _ (ht _)).1 n (fun j => .long (f j))) (fun q => by cases q) (by show ¬ (i < 0 ∨ (arrV _ _ _).slots.size ≤ _); rw [arrV_size]; exact hin) rfl rfl d fun H1 e z oq => ?_
  refine c H1 _ ls ce sl (a1.set (e := .inl (t, n, .inr (.inl (vp_updL f i.toNatClampNeg x)))) ?_ z oq) (a2.put z oq (a3 a _ he)) (zq_uA a3 (a3 a _ he)) a4 (Nat.le_succ_of_le a5) (fun h => absurd h (by show ¬ (S.2.2 + 1 = _); omega)) a7 a8 a9
  show H1[a]? = some (vp_cell _ _)
  rw [e]
  show some ((vp_cell ((yG Y).2 t) (n, .inr (.inl f))).setSlot _ _) = _
  rw [vp_cell_l, vp_cell_l, arrV_store]
  congr 2
  funext q
  by_cases hq : q = i.toNatClampNeg
  · subst hq
    simp [updV, vp_updL]
  · simp [updV, vp_updL, hq]
theorem zq_iastore (Z : zq_ok Y X cc nL own nm ret hh) (t : Nat) (ht : ∀ f : Nat → ClassId, (zq_ty f)[t]? = some (f t, .int)) (d : decode cc pc = .ok (.iastore, 1)) {a n : Nat} {f : Nat → Int32} (he : S.1 a = some (.inl (t, n, .inl f))) {i : Int32} {x : Int32} (hin : vp_in i n)
    (c : zq_W Y X (pc + 1) lo st (zq_u S a (.inl (t, n, .inl (upd f i.toNatClampNeg x)))) kc ks) : zq_W Y X pc lo (.int x :: .int i :: .ref a :: st) S kc ks := by
  intro H locs ls ce sl a1 a2 a3 a4 a5 a6 a7 a8 a9
  refine W.iast Z.x Z.b (a1.2 a _ he) ((Z.i.2.1.2 t _ (ht _)).1 n (fun j => .int (f j))) (fun q => by cases q) (by show ¬ (i < 0 ∨ (arrV _ _ _).slots.size ≤ _); rw [arrV_size]; exact hin) rfl rfl d fun H1 e z oq => ?_
  refine c H1 _ ls ce sl (a1.set (e := .inl (t, n, .inl (upd f i.toNatClampNeg x))) ?_ z oq) (a2.put z oq (a3 a _ he)) (zq_uA a3 (a3 a _ he)) a4 (Nat.le_succ_of_le a5) (fun h => absurd h (by show ¬ (S.2.2 + 1 = _); omega)) a7 a8 a9
  show H1[a]? = some (vp_cell _ _)
  rw [e]
  show some ((vp_cell ((yG Y).2 t) (n, .inl f)).setSlot _ _) = _
  rw [vp_cell_i, vp_cell_i, arrV_store]
  congr 2
  funext q
  by_cases hq : q = i.toNatClampNeg
  · subst hq
    simp [updV, upd]
  · simp [updV, upd, hq]
theorem zq_aastore (Z : zq_ok Y X cc nL own nm ret hh) (t ci : Nat) {r : vw_C} (hc : zq_cl[ci]? = some r) (ht : ∀ f : Nat → ClassId, (zq_ty f)[t]? = some (f t, .object r.1)) (d : decode cc pc = .ok (.aastore, 1)) {a n : Nat} {f : Nat → Option Nat} (he : S.1 a = some (.inl (t, n, .inr (.inr (.inr (.inr f)))))) {i : Int32} {x : Option Nat} (hx : ∀ v, x = some v → ∃ vs, S.1 v = some (.inr (ci, vs))) (hin : vp_in i n)
    (c : zq_W Y X (pc + 1) lo st (zq_u S a (.inl (t, n, .inr (.inr (.inr (.inr (va_up f i.toNatClampNeg x))))))) kc ks) : zq_W Y X pc lo (va_rf x :: .int i :: .ref a :: st) S kc ks := by
  intro H locs ls ce sl a1 a2 a3 a4 a5 a6 a7 a8 a9
  have hlt : i.toNatClampNeg < n := Nat.not_le.mp fun q => hin (Or.inr q)
  have h0 : ¬ i < 0 := fun q => hin (Or.inl q)
  cases x with
  | none =>
    refine va_WaastN (C := r.1) Z.x Z.b (a1.2 a _ he) ((Z.i.2.1.2 t _ (ht _)).1 n (fun j => va_rf (f j))) (fun h => by cases h) (by show ¬ (i < 0 ∨ (arrV _ _ _).slots.size ≤ _); rw [arrV_size]; exact hin) rfl rfl d fun H1 e z oq => ?_
    refine c H1 _ ls ce sl (a1.set (e := .inl (t, n, .inr (.inr (.inr (.inr (va_up f i.toNatClampNeg none)))))) ?_ z oq) (a2.put z oq (a3 a _ he)) (zq_uA a3 (a3 a _ he)) a4 (Nat.le_succ_of_le a5) (fun h => absurd h (by show ¬ (S.2.2 + 1 = _); omega)) a7 a8 a9
    show H1[a]? = some (vp_cell _ _)
    rw [e]
    show some ((vp_cell ((yG Y).2 t) (n, .inr (.inr (.inr (.inr f))))).setSlot _ _) = _
    rw [vp_cell_q, vp_cell_q, arrV_store]
    congr 2
    funext q
    by_cases hq : q = i.toNatClampNeg
    · subst hq
      simp [updV, va_up, va_rf]
    · simp [updV, va_up, hq]
  | some v =>
    obtain ⟨vs, hv⟩ := hx v rfl
    obtain ⟨r', hr', cellV, g1, g2, g3, -⟩ := a1.2 v _ hv
    have hcls := (Z.i.2.1.1 ci r hc).2
    obtain ⟨kA, comp, k1, k2, k3, -⟩ := (Z.i.2.1.2 t _ (ht _)).2
    have hcomp : comp = (yG Y).1.1 ci := Option.some.inj (k3.symm.trans hcls.1)
    subst hcomp
    have hcls2 := hcls
    obtain ⟨-, kC, hkC, -⟩ := hcls2
    refine W.aast Z.x Z.b (a1.2 a _ he) (fun q h => by cases h) (fun h => by cases h) k1 k2 rfl hkC ⟨h0, by show _ < (arrV _ _ _).slots.size; rw [arrV_size]; exact hlt⟩ g1 (fun q h => by rw [g3] at h; cases h) (by rw [g2]; exact hkC) (by rw [g2]; exact va_assign hcls) rfl rfl d fun H1 e z oq => ?_
    refine c H1 _ ls ce sl (a1.set (e := .inl (t, n, .inr (.inr (.inr (.inr (va_up f i.toNatClampNeg (some v))))))) ?_ z oq) (a2.put z oq (a3 a _ he)) (zq_uA a3 (a3 a _ he)) a4 (Nat.le_succ_of_le a5) (fun h => absurd h (by show ¬ (S.2.2 + 1 = _); omega)) a7 a8 a9
    show H1[a]? = some (vp_cell _ _)
    rw [e]
    show some ((vp_cell ((yG Y).2 t) (n, .inr (.inr (.inr (.inr f))))).setSlot _ _) = _
    rw [vp_cell_q, vp_cell_q, arrV_store]
    congr 2
    funext q
    by_cases hq : q = i.toNatClampNeg
    · subst hq
      simp [updV, va_up, va_rf]
    · simp [updV, va_up, hq]
theorem zq_copyl (Z : zq_ok Y X cc nL own nm ret hh) {ix : Nat} (t : Nat) (ht : ∀ f : Nat → ClassId, (zq_ty f)[t]? = some (f t, .long)) (d : decode cc pc = .ok (.invokestatic ix, 3)) (w1 : Cond.methodLink own ix arraycopyName ∈ zq_T) (w2 : Cond.native arraycopyName ∈ zq_T) (w3 : Cond.static arraycopyName ∈ zq_T) (w4 : Cond.initialized "java/lang/System" ∈ zq_T)
    {a0 a n0 n1 : Nat} {f g : Nat → Int64} (he0 : S.1 a0 = some (.inl (t, n0, .inr (.inl f)))) (he1 : S.1 a = some (.inl (t, n1, .inr (.inl g)))) {sp dp n : Int32} (h1 : ¬ sp < 0) (h2 : ¬ dp < 0) (h3 : ¬ n < 0) (h4 : sp.toNatClampNeg + n.toNatClampNeg ≤ n0) (h5 : dp.toNatClampNeg + n.toNatClampNeg ≤ n1)
    (hfr : 1 ≤ (yR Y).frames) (hlo : (st.map fun v => v.category).sum + (nativeFrameWords "java/lang/System" "arraycopy" 5 + 11) ≤ (yR Y).locals)
    (c : zq_W Y X (pc + 3) lo st (zq_u S a (.inl (t, n1, .inr (.inl (va_cpy f g sp.toNatClampNeg dp.toNatClampNeg n.toNatClampNeg))))) kc ks) : zq_W Y X pc lo (.int n :: .int dp :: .ref a :: .int sp :: .ref a0 :: st) S kc ks := by
  intro H locs ls ce sl a1 a2 a3 a4 a5 a6 a7 a8 a9
  have nn : ∀ z : Int32, ¬ z < 0 → z.toInt = (z.toNatClampNeg : Int) := by
    intro z hz
    have hz0 : (0 : Int) ≤ z.toInt := by
      have := Int32.not_lt.mp hz
      simpa using Int32.le_iff_toInt_le.mp this
    show z.toInt = ((z.toInt.toNat : Nat) : Int)
    omega
  intro T hT XX
  have hc0 : H[a0]? = some (vp_cell ((yG Y).2 t) (n0, .inr (.inl f))) := a1.2 a0 _ he0
  have hc1 : H[a]? = some (vp_cell ((yG Y).2 t) (n1, .inr (.inl g))) := a1.2 a _ he1
  obtain ⟨-, k0, hk0, cm0, hkk0⟩ := (Z.i.2.1.2 t _ (ht _)).1 n0 (fun j => .long (f j))
  obtain ⟨-, k1, hk1, cm1, hkk1⟩ := (Z.i.2.1.2 t _ (ht _)).1 n1 (fun j => .long (g j))
  obtain ⟨vm', X', step⟩ := XX.arraycopy Z.x Z.o (Z.w w1) (Z.w w2) (Z.w w3) (Z.w w4) (src := a0) (dst := a) (cs := vp_cell ((yG Y).2 t) (n0, .inr (.inl f))) (cd := vp_cell ((yG Y).2 t) (n1, .inr (.inl g))) (srcPos := sp) (destPos := dp) (n := n) (by rw [hT]; exact hc0) (by rw [hT]; exact hc1)
    (fun _ h => by cases h) (fun _ h => by cases h) (fun h => by cases h) (fun h => by cases h) hk0 hk1 hkk0 hkk1 (by simp [refKind]) h1 h2 h3
    (by rw [nn sp h1, nn n h3]; show ¬ _ > ((arrV _ n0 (fun j => .long (f j))).slots.size : Int); rw [arrV_size]; omega)
    (by rw [nn dp h2, nn n h3]; show ¬ _ > ((arrV _ n1 (fun j => .long (g j))).slots.size : Int); rw [arrV_size]; omega)
    (fun vm₁ _ i hi => by
      have e : (vp_cell ((yG Y).2 t) (n0, .inr (.inl f))).slots.getD (sp.toNatClampNeg + i) .null = .long (f (sp.toNatClampNeg + i)) := by
        show (arrV _ n0 (fun j => .long (f j))).slots.getD _ _ = _
        rw [Array.getD_eq_getD_getElem?, arrV_read _ _ (by omega)]
        rfl
      refine ⟨?_, ?_⟩
      · rw [e]
        rfl
      · rw [e]
        exact trivial)
    (g := F0 (xm X) pc ls (.int n :: .int dp :: .ref a :: .int sp :: .ref a0 :: st)) rfl (by rw [a9.1]) (rest := st) rfl (by rw [Z.b]; exact d) hfr (by show 2 * 0 + _ + _ ≤ _; omega)
  have e1 : copied (vp_cell ((yG Y).2 t) (n0, .inr (.inl f))) (vp_cell ((yG Y).2 t) (n1, .inr (.inl g))) sp dp n = vp_cell ((yG Y).2 t) (n1, .inr (.inl (va_cpy f g sp.toNatClampNeg dp.toNatClampNeg n.toNatClampNeg))) := va_copied (fun z => .long z) _ _ f g h4
  rw [e1] at X' step
  have hl : a < H.size := (Array.getElem?_eq_some_iff.mp hc1).1
  have oq : ∀ q : Nat, q ≠ a → (H.setIfInBounds a (vp_cell ((yG Y).2 t) (n1, .inr (.inl (va_cpy f g sp.toNatClampNeg dp.toNatClampNeg n.toNatClampNeg)))))[q]? = H[q]? := fun q hq => by simp [Array.getElem?_setIfInBounds, Ne.symm hq]
  have hheap : ((T.setVm vm').setCell a (vp_cell ((yG Y).2 t) (n1, .inr (.inl (va_cpy f g sp.toNatClampNeg dp.toNatClampNeg n.toNatClampNeg))))).heap = H.setIfInBounds a (vp_cell ((yG Y).2 t) (n1, .inr (.inl (va_cpy f g sp.toNatClampNeg dp.toNatClampNeg n.toNatClampNeg)))) := by rw [← hT]; rfl
  obtain ⟨t2, b1, b2⟩ := c _ _ ls ce sl (a1.set (e := .inl (t, n1, .inr (.inl (va_cpy f g sp.toNatClampNeg dp.toNatClampNeg n.toNatClampNeg)))) (show (H.setIfInBounds a _)[a]? = some _ by simp [Array.getElem?_setIfInBounds, hl]) (by simp) oq)
    ⟨by simp; exact a2.1, fun q g1 g2 => by
      rw [oq q (fun e => g2 (by rw [e]; exact a3 a _ he1))]
      exact a2.2.1 q g1 g2, fun q hq => by
      rcases List.mem_append.mp hq with h | h
      · exact a2.2.2 q h
      · obtain ⟨z, -, hz⟩ := List.mem_map.mp h
        rw [← hz]
        exact a3 a _ he1⟩ (zq_uA a3 (a3 a _ he1)) a4 (Nat.le_succ_of_le a5) (fun h => absurd h (by show ¬ (S.2.2 + 1 = _); omega)) a7 a8 a9 _ hheap X'
  exact ⟨t2, step t2 b1, b2⟩
theorem zq_mmin (Z : zq_ok Y X cc nL own nm ret hh) {ix : Nat} (d : decode cc pc = .ok (.invokestatic ix, 3)) (w1 : Cond.methodLink own ix Lib.Math.min.name ∈ zq_T) (w2 : Cond.static Lib.Math.min.name ∈ zq_T) (w3 : Cond.initialized "java/lang/Math" ∈ zq_T) (w4 : Cond.code Lib.Math.min.name Lib.Math.min.code 2 (some .int) ∈ zq_T) (hfr : 1 ≤ (yR Y).frames) (hlo : (st.map fun v => v.category).sum + 13 ≤ (yR Y).locals) (hr : kc ≤ (yR Y).cells ∧ ks ≤ (yR Y).slots) {x y : Int32}
    (c : zq_W Y X (pc + 3) lo (.int (if y < x then y else x) :: st) S kc ks) : zq_W Y X pc lo (.int y :: .int x :: st) S kc ks :=
  fun H locs ls ce sl a1 a2 a3 a4 a5 a6 a7 a8 a9 => va_mmin Z.x Z.b a9.1.symm Z.o (Z.w w1) (Z.w w2) (Z.w w3) (Z.w w4) hfr hlo (by omega) (by omega) d (c H locs ls ce sl a1 a2 a3 a4 a5 a6 a7 a8 a9)
theorem zq_mmax (Z : zq_ok Y X cc nL own nm ret hh) {ix : Nat} (d : decode cc pc = .ok (.invokestatic ix, 3)) (w1 : Cond.methodLink own ix Lib.Math.max.name ∈ zq_T) (w2 : Cond.static Lib.Math.max.name ∈ zq_T) (w3 : Cond.initialized "java/lang/Math" ∈ zq_T) (w4 : Cond.code Lib.Math.max.name Lib.Math.max.code 2 (some .int) ∈ zq_T) (hfr : 1 ≤ (yR Y).frames) (hlo : (st.map fun v => v.category).sum + 13 ≤ (yR Y).locals) (hr : kc ≤ (yR Y).cells ∧ ks ≤ (yR Y).slots) {x y : Int32}
    (c : zq_W Y X (pc + 3) lo (.int (if x < y then y else x) :: st) S kc ks) : zq_W Y X pc lo (.int y :: .int x :: st) S kc ks :=
  fun H locs ls ce sl a1 a2 a3 a4 a5 a6 a7 a8 a9 => va_mmax Z.x Z.b a9.1.symm Z.o (Z.w w1) (Z.w w2) (Z.w w3) (Z.w w4) hfr hlo (by omega) (by omega) d (c H locs ls ce sl a1 a2 a3 a4 a5 a6 a7 a8 a9)
theorem zq_objInit (Z : zq_ok Y X cc nL own nm ret hh) {ix : Nat} (d : decode cc pc = .ok (.invokespecial ix, 3)) (w1 : Cond.methodLink own ix Lib.objectInit ∈ zq_T) (w2 : Cond.instanceMethod Lib.objectInit ∈ zq_T) (w3 : Cond.code Lib.objectInit ⟨#[0xb1]⟩ 1 none ∈ zq_T) {a : Nat} (hfr : 1 ≤ (yR Y).frames) (hlo : (st.map fun v => v.category).sum + 12 ≤ (yR Y).locals)
    (c : zq_W Y X (pc + 3) lo st S kc ks) : zq_W Y X pc lo (.ref a :: st) S kc ks :=
  fun H locs ls ce sl a1 a2 a3 a4 a5 a6 a7 a8 a9 => W.objInit Z.x Z.b Z.o (Z.w w1) (Z.w w2) (Z.w w3) rfl a9.1 rfl d hfr (by show 2 * 0 + _ + 12 ≤ _; omega) (c H locs ls ce sl a1 a2 a3 a4 a5 a6 a7 a8 a9)
end ZQ3
