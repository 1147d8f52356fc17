/-! pictures of the heap, a judgement of walks over them -/
abbrev zq_E : Type := (Nat × vp_A) ⊕ (Nat × List Value)
abbrev zq_G : Type := va_G × (Nat → ClassId)
/-- a picture: what the cells hold, how many cells there are, how many writes there have been -/
abbrev zq_S : Type := (Nat → Option zq_E) × Nat × Nat
abbrev zq_R : Type := Option Value ⊕ Nat
def zq_c (G : zq_G) (e : zq_E) : va_E := match e with
  | .inl x => .inl (G.2 x.1, x.2)
  | .inr o => .inr o
def zq_P (G : zq_G) (S : zq_S) (H : Heap) : Prop := H.size = S.2.1 ∧ ∀ (a : Nat) (e : zq_E), S.1 a = some e → va_at G.1 zq_cl (a, zq_c G e) H
def zq_A (S : zq_S) : Nat → Prop := fun q => S.1 q ≠ none ∨ S.2.1 ≤ q
def zq_u (S : zq_S) (a : Nat) (e : zq_E) : zq_S := (fun q => if q = a then some e else S.1 q, S.2.1, S.2.2 + 1)
def zq_n (S : zq_S) (e : zq_E) : zq_S := (fun q => if q = S.2.1 then some e else S.1 q, S.2.1 + 1, S.2.2)
theorem zq_P.lt {G : zq_G} {S : zq_S} {H : Heap} (h : zq_P G S H) {a : Nat} {e : zq_E} (ha : S.1 a = some e) : a < H.size := (h.2 a e ha).lt
theorem zq_P.set {G : zq_G} {S : zq_S} {H H' : Heap} {a : Nat} {e : zq_E} (h : zq_P G S H) (he : va_at G.1 zq_cl (a, zq_c G e) H') (hz : H'.size = H.size) (oq : ∀ q : Nat, q ≠ a → H'[q]? = H[q]?) : zq_P G (zq_u S a e) H' := by
  refine ⟨hz.trans h.1, fun b e' hb => ?_⟩
  by_cases hba : b = a
  · subst hba
    have hb : (if b = b then some e else S.1 b) = some e' := hb
    rw [if_pos rfl] at hb
    cases hb
    exact he
  · have hb : (if b = a then some e else S.1 b) = some e' := hb
    rw [if_neg hba] at hb
    exact (h.2 b e' hb).kept (oq b hba)
theorem zq_P.push {G : zq_G} {S : zq_S} {H H' : Heap} {e : zq_E} (h : zq_P G S H) (he : va_at G.1 zq_cl (S.2.1, zq_c G e) H') (hz : H'.size = H.size + 1) (oq : ∀ q : Nat, q < H.size → H'[q]? = H[q]?) : zq_P G (zq_n S e) H' := by
  refine ⟨by rw [hz, h.1]; rfl, fun b e' hb => ?_⟩
  have hb : (if b = S.2.1 then some e else S.1 b) = some e' := hb
  by_cases hba : b = S.2.1
  · rw [if_pos hba] at hb
    cases hb
    rw [hba]
    exact he
  · rw [if_neg hba] at hb
    exact (h.2 b e' hb).kept (oq b (h.lt hb))
theorem zq_SP {A : Nat → Prop} {H0 H H1 : Heap} {locs : List Loc} (h : va_S A H0 H locs) (z : H1.size = H.size + 1) (o : ∀ q : Nat, q < H.size → H1[q]? = H[q]?) : va_S A H0 H1 locs :=
  ⟨Nat.le_trans h.1 (by omega), fun q g1 g2 => (o q (Nat.lt_of_lt_of_le g1 h.1)).trans (h.2.1 q g1 g2), h.2.2⟩
/-- the tables' words, the classes as the tables have them, what can't be cast -/
def zq_I (G : zq_G) (U : State) : Prop := (∀ w ∈ zq_T, ∀ a : Array Value, w.before a U = true) ∧ va_K G.1 zq_cl (zq_ty G.2) U ∧ ∀ q ∈ zq_nc, va_Nc q.1 q.2 U
/-- a static field lies in its class's cell of statics, which nobody writes -/
def zq_L (C n d : String) (A : Nat → Prop) (U : State) (H : Heap) : Prop := ∃ (c : ClassId) (k : Class) (i : Nat) (f : Field) (a : Nat) (cell : Cell), U.vm.findClass C = some c ∧ U.fieldFound? C n d = some (c, k, i, f) ∧ f.isStatic = true ∧ k.statics = some a ∧ H[a]? = some cell ∧ cell.vm.isStatics = true ∧ cell.cls = c ∧ f.slot < cell.slots.size ∧ k.staticTypes[f.slot]? = some f.type ∧ ¬ A a
def zq_V (C n d : String) (A : Nat → Prop) (U : State) (H : Heap) : Prop := va_Zq C n d A U H ∧ zq_L C n d A U H
theorem zq_V.to {C n d : String} {A B : Nat → Prop} {u U : State} {H H1 : Heap} (h : zq_V C n d A u H) (hvm : u.vm.Alike U.vm) (hq : ∀ a : Nat, a < H.size → ¬ A a → H1[a]? = H[a]?) (hAB : ∀ q, B q → A q) : zq_V C n d B U H1 := by
  refine ⟨((va_Zq.moved hvm h.1).kept hq).narrow hAB, ?_⟩
  obtain ⟨c, k, i, f, a, cell, h1, h2, h3, h4, h5, h6, h7, h8, h9, h10⟩ := h.2
  obtain ⟨k', hi', he⟩ := State.fieldFound?_setVm hvm h2
  exact ⟨c, k', i, f, a, cell, by rw [hvm.findClass]; exact h1, hi', h3, by rw [he]; exact h4, by rw [hq a (Array.getElem?_eq_some_iff.mp h5).1 h10]; exact h5, h6, h7, h8, by rw [he]; exact h9, fun z => h10 (hAB _ z)⟩
/-- the two statics of Throwable that a new exception reads -/
def zq_J (S : zq_S) (U : State) : Prop := zq_V Bundle.tN "UNASSIGNED_STACK" Bundle.steD (zq_A S) U U.heap ∧ zq_V Bundle.tN "SUPPRESSED_SENTINEL" Bundle.listD (zq_A S) U U.heap
def zq_out (r : zq_R) (st : State) (o : Outcome) (t : State) : Prop := match r with
  | .inl v => o = .returned v
  | .inr k => ∃ (x : Addr) (ce : Cell), o = .threw x ∧ t.heap[x]? = some ce ∧ ce.vm = .none ∧ st.vm.findClass (zq_xn k) = some ce.cls
def zq_end (G : zq_G) (S0 : zq_S) (r : zq_R) (S1 : zq_S) (rm : Room) (st : State) (o : Outcome) (t : State) : Prop :=
  zq_out r st o t ∧ zq_P G S1 t.heap ∧ (∀ q : Nat, q < S0.2.1 → ¬ zq_A S0 q → t.heap[q]? = st.heap[q]?) ∧ (∀ (q : Nat) (e : zq_E), S1.1 q = some e → zq_A S0 q) ∧ S0.2.2 ≤ S1.2.2 ∧ st.WarmedH t.vm ∧
  ∃ (L : List Loc) (k n : Nat), k ≤ rm.cells ∧ n ≤ rm.slots ∧ S1.2.1 = S0.2.1 + k ∧ (S1.2.2 = S0.2.2 → L = []) ∧ st.sameButNew ({ t with vm := st.vm } : State) L k n ∧ ∀ q ∈ L, zq_A S0 q.base
/-- a method's contract: from the picture S0 with the arguments av it ends with r and the picture S1 -/
def zq_M (l : Launch) (y : MethodName) (w : Cond) (rm : Room) (G : zq_G) (av : List Value) (S0 : zq_S) (r : zq_R) (S1 : zq_S) : Prop :=
  MetFree l y (headSpec [w] rm) (fun a U => a = av.toArray ∧ zq_I G U ∧ zq_J S0 U ∧ zq_P G S0 U.heap) (fun _ _ _ _ _ => True) (fun _ st o t => zq_end G S0 r S1 rm st o t)
abbrev zq_X : Type := Program × Env × State × MethodId × Array Value × List Frame × Method × Code
abbrev zq_Y : Type := Launch × Room × zq_G × zq_S × zq_R × zq_S
abbrev xp (X : zq_X) : Program := X.1
abbrev xe (X : zq_X) : Env := X.2.1
abbrev xs (X : zq_X) : State := X.2.2.1
abbrev xm (X : zq_X) : MethodId := X.2.2.2.1
abbrev xa (X : zq_X) : Array Value := X.2.2.2.2.1
abbrev xb (X : zq_X) : List Frame := X.2.2.2.2.2.1
abbrev xt (X : zq_X) : Method := X.2.2.2.2.2.2.1
abbrev xc (X : zq_X) : Code := X.2.2.2.2.2.2.2
abbrev yl (Y : zq_Y) : Launch := Y.1
abbrev yR (Y : zq_Y) : Room := Y.2.1
abbrev yG (Y : zq_Y) : zq_G := Y.2.2.1
abbrev yS (Y : zq_Y) : zq_S := Y.2.2.2.1
abbrev yr (Y : zq_Y) : zq_R := Y.2.2.2.2.1
abbrev yT (Y : zq_Y) : zq_S := Y.2.2.2.2.2
def zq_Q (Y : zq_Y) (X : zq_X) : State → Prop := fun t => ∃ o, t.status = .running ∧ Ended t (xb X) o ∧ zq_end (yG Y) (yS Y) (yr Y) (yT Y) (yR Y) (xs X) o t
/-- what a walk may lean on -/
def zq_ok (Y : zq_Y) (X : zq_X) (cc : ByteArray) (nL : Nat) (own nm : String) (ret : Option FieldType) (hh : List (Nat × Nat × Nat × Nat)) : Prop :=
  (xp X).tables.exec = Jvm.exec ∧ (xc X).code = cc ∧ (xc X).maxLocals = nL ∧ (xs X).vm.findClass own = some (xm X).cls ∧ (xt X).sig.returnType = ret ∧ (xt X).locks = false ∧ (xt X).name = nm ∧
  zq_I (yG Y) (xs X) ∧ zq_J (yS Y) (xs X) ∧ zq_P (yG Y) (yS Y) (xs X).heap ∧ (yl Y).stackTraces = false ∧ (xc X).exceptionTable.toList = tableOf hh
/-- THE JUDGEMENT: at pc, with the locals lo, the operands st, the picture S, at most kc cells of ks slots made: the method goes on to its end -/
def zq_W (Y : zq_Y) (X : zq_X) (pc : Nat) (lo : List (Nat × Value)) (st : List Value) (S : zq_S) (kc ks : Nat) : Prop :=
  ∀ (H : Heap) (locs : List Loc) (ls : Array Slot) (ce sl : Nat), zq_P (yG Y) S H → va_S (zq_A (yS Y)) (xs X).heap H locs → (∀ (q : Nat) (e : zq_E), S.1 q = some e → zq_A (yS Y) q) →
    S.2.1 = (yS Y).2.1 + ce → (yS Y).2.2 ≤ S.2.2 → (S.2.2 = (yS Y).2.2 → locs = []) → ce ≤ kc → sl ≤ ks → lv_has ls (xc X).maxLocals lo →
    W (xp X) (yl Y) (xe X) (yR Y) (xs X) (xm X) (xa X) (xb X) (xt X) (xc X) H locs ce sl (zq_Q Y X) (F0 (xm X) pc ls st)
section ZQ1
variable {Y : zq_Y} {X : zq_X} {cc : ByteArray} {nL : Nat} {own nm : String} {ret : Option FieldType} {hh : List (Nat × Nat × Nat × Nat)} {pc : Nat} {lo : List (Nat × Value)} {st : List Value} {S : zq_S} {kc ks : Nat}
theorem zq_ok.x (Z : zq_ok Y X cc nL own nm ret hh) : (xp X).tables.exec = Jvm.exec := Z.1
theorem zq_ok.b (Z : zq_ok Y X cc nL own nm ret hh) : (xc X).code = cc := Z.2.1
theorem zq_ok.l (Z : zq_ok Y X cc nL own nm ret hh) : (xc X).maxLocals = nL := Z.2.2.1
theorem zq_ok.o (Z : zq_ok Y X cc nL own nm ret hh) : (xs X).vm.findClass own = some (xm X).cls := Z.2.2.2.1
theorem zq_ok.r (Z : zq_ok Y X cc nL own nm ret hh) : (xt X).sig.returnType = ret := Z.2.2.2.2.1
theorem zq_ok.k (Z : zq_ok Y X cc nL own nm ret hh) : (xt X).locks = false := Z.2.2.2.2.2.1
theorem zq_ok.n (Z : zq_ok Y X cc nL own nm ret hh) : (xt X).name = nm := Z.2.2.2.2.2.2.1
theorem zq_ok.i (Z : zq_ok Y X cc nL own nm ret hh) : zq_I (yG Y) (xs X) := Z.2.2.2.2.2.2.2.1
theorem zq_ok.j (Z : zq_ok Y X cc nL own nm ret hh) : zq_J (yS Y) (xs X) := Z.2.2.2.2.2.2.2.2.1
theorem zq_ok.p (Z : zq_ok Y X cc nL own nm ret hh) : zq_P (yG Y) (yS Y) (xs X).heap := Z.2.2.2.2.2.2.2.2.2.1
theorem zq_ok.t (Z : zq_ok Y X cc nL own nm ret hh) : (yl Y).stackTraces = false := Z.2.2.2.2.2.2.2.2.2.2.1
theorem zq_ok.h (Z : zq_ok Y X cc nL own nm ret hh) : (xc X).exceptionTable.toList = tableOf hh := Z.2.2.2.2.2.2.2.2.2.2.2
theorem zq_ok.w (Z : zq_ok Y X cc nL own nm ret hh) {w : Cond} (h : w ∈ zq_T) : w.before (xa X) (xs X) = true := Z.i.1 w h _
theorem zq_ok.ws (Z : zq_ok Y X cc nL own nm ret hh) : ∀ w ∈ zq_T, w.before (xa X) (xs X) = true := fun _ h => Z.w h
theorem zq_Wmono {p : Program} {l : Launch} {e : Env} {R : Room} {s : State} {m : MethodId} {args : Array Value} {below : List Frame} {meth : Method} {c : Code} {H : Heap} {locs : List Loc} {cells slots : Nat} {Q Q' : State → Prop} {g : JFrame} (h : W p l e R s m args below meth c H locs cells slots Q g) (k : ∀ t, Q t → Q' t) : W p l e R s m args below meth c H locs cells slots Q' g := fun T hT X => by
  obtain ⟨t, a, b⟩ := h T hT X
  exact ⟨t, a, k t b⟩
/-- a row that touches neither heap nor locals -/
theorem zq_lift {pc' : Nat} {st' : List Value} (h : ∀ (H : Heap) (locs : List Loc) (ls : Array Slot) (ce sl : Nat), lv_has ls (xc X).maxLocals lo → W (xp X) (yl Y) (xe X) (yR Y) (xs X) (xm X) (xa X) (xb X) (xt X) (xc X) H locs ce sl (zq_Q Y X) (F0 (xm X) pc' ls st') → W (xp X) (yl Y) (xe X) (yR Y) (xs X) (xm X) (xa X) (xb X) (xt X) (xc X) H locs ce sl (zq_Q Y X) (F0 (xm X) pc ls st))
    (k : zq_W Y X pc' lo st' S kc ks) : zq_W Y X pc lo st S kc ks :=
  fun H locs ls ce sl h1 h2 h3 h4 h5 h6 h7 h8 h9 => h H locs ls ce sl h9 (k H locs ls ce sl h1 h2 h3 h4 h5 h6 h7 h8 h9)
theorem zq_wid {kc' ks' : Nat} (h1 : kc ≤ kc') (h2 : ks ≤ ks') (k : zq_W Y X pc lo st S kc' ks') : zq_W Y X pc lo st S kc ks :=
  fun H locs ls ce sl a1 a2 a3 a4 a5 a6 a7 a8 a9 => k H locs ls ce sl a1 a2 a3 a4 a5 a6 (Nat.le_trans a7 h1) (Nat.le_trans a8 h2) a9
theorem zq_sub {lo' : List (Nat × Value)} (ix : List Nat) (h : lv_pick lo ix = lo') (k : zq_W Y X pc lo' st S kc ks) : zq_W Y X pc lo st S kc ks :=
  fun H locs ls ce sl a1 a2 a3 a4 a5 a6 a7 a8 a9 => k H locs ls ce sl a1 a2 a3 a4 a5 a6 a7 a8 (lv_sub a9 ix h)
theorem zq_at {ls : Array Slot} {n i : Nat} {v : Value} (h : lv_has ls n lo) (k : Nat) (e : lo[k]? = some (i, v)) : ls[i]? = some (.val v) := lv_at h k e
end ZQ1
