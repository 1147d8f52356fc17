/-! ends of methods, and calls, over pictures -/
theorem zq_frl {A : Nat → Prop} {H0 H : Heap} {locs : List Loc} {n n0 : Nat} (hS : va_S A H0 H locs) (h : n = n0 → locs = []) : ∀ q ∈ locs, A q.base ∧ ¬ n = n0 :=
  fun q hq => ⟨hS.2.2 q hq, fun e => by rw [h e] at hq; cases hq⟩
section ZQ4
variable {Y : zq_Y} {X : zq_X} {cc : ByteArray} {nL : Nat} {own nm : String} {ret : Option FieldType} {hh : List (Nat × Nat × Nat × Nat)} {pc : Nat} {lo : List (Nat × Value)} {st : List Value} {S : zq_S} {kc ks : Nat}
theorem zq_fin (Z : zq_ok Y X cc nL own nm ret hh) {H : Heap} {locs : List Loc} {ce sl : Nat} {t : State} (a1 : zq_P (yG Y) S H) (a2 : va_S (zq_A (yS Y)) (xs X).heap H locs) (a3 : ∀ (q : Nat) (e : zq_E), S.1 q = some e → zq_A (yS Y) q) (a4 : S.2.1 = (yS Y).2.1 + ce) (a5 : (yS Y).2.2 ≤ S.2.2) (e1 : S = yT Y) (hce : ce ≤ (yR Y).cells) (hsl : sl ≤ (yR Y).slots)
    (h : MQ (xb X) (fun _ st o t => zq_out (yr Y) st o t ∧ t.heap = H) (xa X) (xs X) ce sl (fun q => zq_A (yS Y) q ∧ ¬ S.2.2 = (yS Y).2.2) t) : zq_Q Y X t := by
  obtain ⟨o, h1, h2, ⟨h3, h4⟩, L, ⟨-, hW, hsame⟩, hL⟩ := h
  refine ⟨o, h1, h2, h3, by rw [← e1, h4]; exact a1, fun q hq hnA => by rw [h4]; exact a2.2.1 q (by rw [Z.p.1]; exact hq) hnA, by rw [← e1]; exact a3, by rw [← e1]; exact a5, hW, L, ce, sl, hce, hsl, by rw [← e1]; exact a4, fun h => ?_, hsame, fun q hq => (hL q hq).1⟩
  rw [← e1] at h
  cases L with
  | nil => rfl
  | cons q l => exact absurd h (hL q List.mem_cons_self).2
theorem zq_iret (Z : zq_ok Y X cc nL own nm (some .int) hh) {x : Int32} (d : decode cc pc = .ok (.ireturn, 1)) (e1 : S = yT Y) (e2 : (.inl (some (.int x)) : zq_R) = yr Y) (hr : kc ≤ (yR Y).cells ∧ ks ≤ (yR Y).slots) : zq_W Y X pc lo [.int x] S kc ks :=
  fun H locs ls ce sl a1 a2 a3 a4 a5 a6 a7 a8 a9 => zq_Wmono (W.iret (Qc := fun _ st o t => zq_out (yr Y) st o t ∧ t.heap = H) (free := fun q => zq_A (yS Y) q ∧ ¬ S.2.2 = (yS Y).2.2) Z.x Z.b Z.r (fun t ht _ => ⟨by rw [← e2]; rfl, ht⟩) (zq_frl a2 a6) d Z.k) (fun t ht => zq_fin Z a1 a2 a3 a4 a5 e1 (by omega) (by omega) ht)
theorem zq_zret (Z : zq_ok Y X cc nL own nm (some .boolean) hh) {x : Int32} (d : decode cc pc = .ok (.ireturn, 1)) (hx : x = 0 ∨ x = 1) (e1 : S = yT Y) (e2 : (.inl (some (.int x)) : zq_R) = yr Y) (hr : kc ≤ (yR Y).cells ∧ ks ≤ (yR Y).slots) : zq_W Y X pc lo [.int x] S kc ks :=
  fun H locs ls ce sl a1 a2 a3 a4 a5 a6 a7 a8 a9 => zq_Wmono (W.zret (ty := .boolean) (Qc := fun _ st o t => zq_out (yr Y) st o t ∧ t.heap = H) (free := fun q => zq_A (yS Y) q ∧ ¬ S.2.2 = (yS Y).2.2) Z.x Z.b Z.r (by rcases hx with rfl | rfl <;> rfl) (fun t ht _ => ⟨by rw [← e2]; rfl, ht⟩) (zq_frl a2 a6) d Z.k) (fun t ht => zq_fin Z a1 a2 a3 a4 a5 e1 (by omega) (by omega) ht)
theorem zq_lret (Z : zq_ok Y X cc nL own nm (some .long) hh) {x : Int64} (d : decode cc pc = .ok (.lreturn, 1)) (e1 : S = yT Y) (e2 : (.inl (some (.long x)) : zq_R) = yr Y) (hr : kc ≤ (yR Y).cells ∧ ks ≤ (yR Y).slots) : zq_W Y X pc lo [.long x] S kc ks :=
  fun H locs ls ce sl a1 a2 a3 a4 a5 a6 a7 a8 a9 => zq_Wmono (W.lret (Qc := fun _ st o t => zq_out (yr Y) st o t ∧ t.heap = H) (free := fun q => zq_A (yS Y) q ∧ ¬ S.2.2 = (yS Y).2.2) Z.x Z.b Z.r (fun t ht _ => ⟨by rw [← e2]; rfl, ht⟩) (zq_frl a2 a6) d Z.k) (fun t ht => zq_fin Z a1 a2 a3 a4 a5 e1 (by omega) (by omega) ht)
theorem zq_vret (Z : zq_ok Y X cc nL own nm none hh) (d : decode cc pc = .ok (.return_, 1)) (e1 : S = yT Y) (e2 : (.inl none : zq_R) = yr Y) (hr : kc ≤ (yR Y).cells ∧ ks ≤ (yR Y).slots) : zq_W Y X pc lo [] S kc ks :=
  fun H locs ls ce sl a1 a2 a3 a4 a5 a6 a7 a8 a9 => zq_Wmono (W.vret (Qc := fun _ st o t => zq_out (yr Y) st o t ∧ t.heap = H) (free := fun q => zq_A (yS Y) q ∧ ¬ S.2.2 = (yS Y).2.2) Z.x Z.b Z.r (fun t ht _ => ⟨by rw [← e2]; rfl, ht⟩) (zq_frl a2 a6) d Z.k) (fun t ht => zq_fin Z a1 a2 a3 a4 a5 e1 (by omega) (by omega) ht)
theorem zq_aret {C : String} (Z : zq_ok Y X cc nL own nm (some (.object C)) hh) {x : Option Nat} (d : decode cc pc = .ok (.areturn, 1)) (e1 : S = yT Y) (e2 : (.inl (some (va_rf x)) : zq_R) = yr Y) (hr : kc ≤ (yR Y).cells ∧ ks ≤ (yR Y).slots) : zq_W Y X pc lo [va_rf x] S kc ks :=
  fun H locs ls ce sl a1 a2 a3 a4 a5 a6 a7 a8 a9 => zq_Wmono (W.aret (Qc := fun _ st o t => zq_out (yr Y) st o t ∧ t.heap = H) (free := fun q => zq_A (yS Y) q ∧ ¬ S.2.2 = (yS Y).2.2) Z.x Z.b Z.r (Or.inl ⟨C, rfl⟩) (by cases x with | none => exact Or.inl rfl | some a => exact Or.inr ⟨a, rfl⟩) (fun t ht _ => ⟨by rw [← e2]; rfl, ht⟩) (zq_frl a2 a6) d Z.k) (fun t ht => zq_fin Z a1 a2 a3 a4 a5 e1 (by omega) (by omega) ht)
end ZQ4
/-- what the code word w of the method y says in a state -/
def zq_cf (y : MethodName) (w : Cond) (maxL : Nat) : Prop := ∀ U : State, (∀ a : Array Value, w.before a U = true) → ∃ (mk : MethodId) (methY : Method) (cY : Code), U.methodNamed? y = some mk ∧ U.vm.method? mk = some methY ∧ methY.code = some cY ∧ cY.maxLocals = maxL ∧ parseMethodDescriptor y.desc = some methY.sig
theorem zq_cf1 {y : MethodName} {bytes : ByteArray} {maxL : Nat} {ret : Option FieldType} : zq_cf y (.code y bytes maxL ret) maxL := by
  intro U h
  obtain ⟨mk, hn⟩ := Cond.code_named (h #[])
  obtain ⟨meth, c, h1, h2, -, h4, -, -, -, h8⟩ := Cond.code_spec hn (h #[])
  exact ⟨mk, meth, c, hn, h1, h2, h4, h8⟩
theorem zq_cf2 {y : MethodName} {bytes : ByteArray} {maxL : Nat} {ret : Option FieldType} {hh : List (Nat × Nat × Nat × Nat)} : zq_cf y (.codeWith y bytes maxL ret hh) maxL := by
  intro U h
  obtain ⟨mk, meth, c, hn, h1, h2, -, h4, -, -, -, h8⟩ := Cond.codeWith_spec (h #[])
  exact ⟨mk, meth, c, hn, h1, h2, h4, h8⟩
theorem zq_I.warm {G : zq_G} {s U : State} (h : zq_I G s) (hW : s.WarmedH U.vm) : zq_I G U :=
  ⟨fun w hw => zq_warm w hw hW (h.1 w hw), va_K.moved hW.alike h.2.1, fun q hq => (h.2.2 q hq).moved hW.alike⟩
theorem zq_J.at {S0 S : zq_S} {s T : State} {locs : List Loc} (h : zq_J S0 s) (hal : s.vm.Alike T.vm) (hS : va_S (zq_A S0) s.heap T.heap locs) (hA : ∀ q, zq_A S q → zq_A S0 q) : zq_J S T :=
  ⟨h.1.to hal hS.2.1 hA, h.2.to hal hS.2.1 hA⟩
/-- the machine under a call by contract -/
theorem zq_go {p : Program} {l : Launch} {e : Env} {R : Room} {s : State} {m : MethodId} {sargs : Array Value} {below : List Frame} {meth : Method} {c : Code} {U : State} {Ls : List Loc} {c0 s0 : Nat} (XX : Stand p l e R s m sargs below meth c U Ls c0 s0)
    {y : MethodName} {w : Cond} {rm' : Room} {G : zq_G} {av : List Value} {S : zq_S} {r' : zq_R} {S' : zq_S} (hM : zq_M l y w rm' G av S r' S') {mk : MethodId} {methY : Method} {cY : Code} (hn : U.methodNamed? y = some mk) (hmY : U.vm.method? mk = some methY) (hcY : methY.code = some cY) {kY : Class} (hkY : U.vm.classes[mk.cls]? = some kY) (hiY : kY.init = .initialized)
    (hw : ∀ a : Array Value, w.before a U = true) (hI : zq_I G U) (hJ : zq_J S U) (hP : zq_P G S U.heap) (hfr : rm'.frames + 1 ≤ R.frames) {g : JFrame} (hlo : 2 * g.monitorRoom + (g.stack.map fun v => v.category).sum + (cY.maxLocals + 11) + rm'.locals ≤ R.locals) (hc : c0 + rm'.cells ≤ R.cells) (hs : s0 + rm'.slots ≤ R.slots) (hg : g.method = m) (hsize : g.locals.size = c.maxLocals) {ig : Instr} {len : Nat} (hdg : decode c.code g.pc = .ok (ig, len)) :
    ∃ (U' : State) (L : List Loc) (k n : Nat), Stand p l e R s m sargs below meth c U' (Ls ++ L) (c0 + k) (s0 + n) ∧ k ≤ rm'.cells ∧ n ≤ rm'.slots ∧ S'.2.1 = S.2.1 + k ∧ S.2.2 ≤ S'.2.2 ∧ (S'.2.2 = S.2.2 → L = []) ∧ (∀ q ∈ L, zq_A S q.base) ∧ zq_P G S' U'.heap ∧ (∀ q : Nat, q < S.2.1 → ¬ zq_A S q → U'.heap[q]? = U.heap[q]?) ∧ (∀ (q : Nat) (e : zq_E), S'.1 q = some e → zq_A S q) ∧
      match r' with
      | .inl v => Steps p.tables e below (doInvoke e (U.setTop g) [] mk av.toArray).1 (U'.setTop { g with pc := g.pc + len, stack := v.toList ++ g.stack })
      | .inr kx => ∃ (x : Addr) (ce : Cell), U'.heap[x]? = some ce ∧ ce.vm = .none ∧ U.vm.findClass (zq_xn kx) = some ce.cls ∧ Steps p.tables e below (doInvoke e (U.setTop g) [] mk av.toArray).1 ((U'.setTop g).pushFrame (.throwing x)) := by
  have h : At U g.method c below := by rw [hg]; exact XX.here
  have happ : (headSpec [w] rm').appliesLoose y e.platform (U.calling g mk av.toArray) = true :=
    Spec.appliesLoose_calling (g := g) h hdg hn hkY hiY (XX.room_calling (g := g) (R' := rm') hsize hmY hcY hfr hlo hc hs)
      (atoms_intro (ws := [w]) fun q hq => by rw [List.mem_singleton] at hq; rw [hq]; exact hw _)
  obtain ⟨mid, hmid⟩ := h.above
  have hfr' : (U.setTop g).frames = (.java g :: mid) ++ below := by rw [State.frames_setTop' g h.top, hmid]; rfl
  have hcal : U.calling g mk av.toArray = U.setFrames (.invoking mk av.toArray :: .java g :: U.frames.tail) := State.calling_eq h.top g mk av.toArray
  have hI' : zq_I G (U.calling g mk av.toArray) := ⟨fun q hq a => by rw [hcal, Cond.before_setFrames]; exact hI.1 q hq a, va_K.moved (u := U) (U := U.calling g mk av.toArray) (Vm.Alike.refl U.vm) hI.2.1, fun q hq => (hI.2.2 q hq).moved (U := U.calling g mk av.toArray) (Vm.Alike.refl U.vm)⟩
  have hJ' : zq_J S (U.calling g mk av.toArray) := ⟨hJ.1.to (U := U.calling g mk av.toArray) (Vm.Alike.refl U.vm) (fun _ _ _ => rfl) (fun _ h => h), hJ.2.to (U := U.calling g mk av.toArray) (Vm.Alike.refl U.vm) (fun _ _ _ => rfl) (fun _ h => h)⟩
  obtain ⟨o, s₂, hsteps, -, hend, hq⟩ := Steps.callFree hM p XX.admits XX.cas XX.clock (acts := []) hfr' happ ⟨rfl, hI', hJ', hP⟩ trivial
  have hq' : zq_end G S r' S' rm' (U.calling g mk av.toArray) o s₂ := hq
  obtain ⟨hout, hP', hkeep, hA', hwr, hW₂, L, k, n, hk, hn', hsz, hL0, hsm, hLA⟩ := hq'
  obtain ⟨e2, q2, q3, q4, q5, q6⟩ := hsm
  rw [State.frames_setTop' g h.top] at hend
  have e3 : s₂ = ({ (U.calling g mk av.toArray).setFrames s₂.frames with heap := s₂.heap, slotsUsed := s₂.slotsUsed } : State).setVm s₂.vm := by
    have : s₂ = ({ s₂ with vm := (U.calling g mk av.toArray).vm } : State).setVm s₂.vm := rfl
    rw [e2] at this
    exact this
  have hW' : U.WarmedH s₂.vm := hW₂
  obtain ⟨g₀, hg0⟩ := Option.isSome_iff_exists.mp h.top
  obtain ⟨r, hr⟩ := State.topJava?_eq_some.mp hg0
  have hsame : U.sameButNew ({ U with heap := s₂.heap, slotsUsed := s₂.slotsUsed } : State) L k n := by
    refine ⟨?_, q2, q3, q4, q5, q6⟩
    obtain ⟨t, ht, -⟩ := State.frames_cons hr
    show ({ U with heap := s₂.heap, slotsUsed := s₂.slotsUsed } : State) = { U.setFrames U.frames with heap := s₂.heap, slotsUsed := s₂.slotsUsed }
    rw [State.setFrames_self ht]
  refine ⟨({ U with heap := s₂.heap, slotsUsed := s₂.slotsUsed } : State).setVm s₂.vm, L, k, n,
    ⟨XX.admits, XX.cas, XX.clock, XX.frames, XX.room, XX.hears, XX.method, XX.code, (XX.here.setHeapUsed s₂.heap s₂.slotsUsed).setVm hW'.alike, XX.tail, State.WarmedH.trans XX.warmed hW', XX.limits, XX.bytes, XX.same.trans (hsame.setVm s.vm)⟩,
    hk, hn', hsz, hwr, hL0, hLA, hP', hkeep, hA', ?_⟩
  have hr' : (({ U with heap := s₂.heap, slotsUsed := s₂.slotsUsed } : State).setVm s₂.vm).frames = .java g₀ :: r := hr
  cases r' with
  | inl v =>
    have ho : o = .returned v := hout
    subst ho
    obtain ⟨c₂, i₂, len₂, hc₂, hd₂, hf₂⟩ := hend
    have hcc : c₂ = c := by
      have h1 : s₂.code? g.method = U.code? g.method := by
        rw [State.code?_eq, State.code?_eq, hW'.alike.method?]
      exact Option.some.inj (hc₂.symm.trans (h1.trans h.code))
    subst hcc
    have hlen : len₂ = len := by rw [hdg] at hd₂; cases hd₂; rfl
    subst hlen
    have hs₂ : s₂ = (({ U with heap := s₂.heap, slotsUsed := s₂.slotsUsed } : State).setVm s₂.vm).setTop { g with pc := g.pc + len₂, stack := v.toList ++ g.stack } := by
      refine e3.trans ?_
      rw [hf₂, State.calling_eq h.top, State.setFrames_setFrames, State.setTop_of_frames _ hr', hr]
      rfl
    show Steps p.tables e below _ ((({ U with heap := s₂.heap, slotsUsed := s₂.slotsUsed } : State).setVm s₂.vm).setTop { g with pc := g.pc + len₂, stack := v.toList ++ g.stack })
    rw [← hs₂]
    exact hsteps
  | inr kx =>
    obtain ⟨x, ce, ho, hx1, hx2, hx3⟩ := hout
    subst ho
    have hf₂ : s₂.frames = .throwing x :: .java g :: U.frames.tail := hend
    have hs₂ : s₂ = ((({ U with heap := s₂.heap, slotsUsed := s₂.slotsUsed } : State).setVm s₂.vm).setTop g).pushFrame (.throwing x) := by
      refine e3.trans ?_
      rw [hf₂, State.calling_eq h.top, State.setFrames_setFrames, State.pushFrame, State.frames_setTop _ hr', State.setTop_of_frames _ hr', State.setFrames_setFrames, hr]
      rfl
    refine ⟨x, ce, hx1, hx2, hx3, ?_⟩
    show Steps p.tables e below _ (((({ U with heap := s₂.heap, slotsUsed := s₂.slotsUsed } : State).setVm s₂.vm).setTop g).pushFrame (.throwing x))
    rw [← hs₂]
    exact hsteps
/-- what a call by contract gives at a state T of the caller -/
def zq_step (Y : zq_Y) (X : zq_X) (S S' : zq_S) (r' : zq_R) (rm' : Room) (T : State) (locs : List Loc) (ce sl : Nat) (g : JFrame) (rest : List Value) : Prop :=
  ∃ (U' : State) (L : List Loc) (k n : Nat), Stand (xp X) (yl Y) (xe X) (yR Y) (xs X) (xm X) (xa X) (xb X) (xt X) (xc X) U' (locs ++ L) (ce + k) (sl + n) ∧ k ≤ rm'.cells ∧ n ≤ rm'.slots ∧ S'.2.1 = S.2.1 + k ∧ S.2.2 ≤ S'.2.2 ∧ (S'.2.2 = S.2.2 → L = []) ∧ (∀ q ∈ L, zq_A S q.base) ∧ zq_P (yG Y) S' U'.heap ∧ (∀ q : Nat, q < S.2.1 → ¬ zq_A S q → U'.heap[q]? = T.heap[q]?) ∧ (∀ (q : Nat) (e : zq_E), S'.1 q = some e → zq_A S q) ∧
    match r' with
    | .inl v => ∀ target, Steps (xp X).tables (xe X) (xb X) (U'.setTop { g with pc := g.pc + 3, stack := v.toList ++ rest }) target → Steps (xp X).tables (xe X) (xb X) (T.setTop g) target
    | .inr kx => ∃ (x : Addr) (ce : Cell), U'.heap[x]? = some ce ∧ ce.vm = .none ∧ (xs X).vm.findClass (zq_xn kx) = some ce.cls ∧ Steps (xp X).tables (xe X) (xb X) (T.setTop g) ((U'.setTop { g with stack := rest }).pushFrame (.throwing x))
section ZQ5
variable {Y : zq_Y} {X : zq_X} {cc : ByteArray} {nL : Nat} {own nm : String} {ret : Option FieldType} {hh : List (Nat × Nat × Nat × Nat)} {pc : Nat} {lo : List (Nat × Value)} {st : List Value} {S : zq_S} {kc ks : Nat}
/-- a call's step from every state of the caller at this point -/
def zq_call (Y : zq_Y) (X : zq_X) (pc : Nat) (lo : List (Nat × Value)) (st : List Value) (S : zq_S) (kc ks : Nat) (S' : zq_S) (r' : zq_R) (rm' : Room) (rest : List Value) : Prop :=
  ∀ (T : State) (locs : List Loc) (ls : Array Slot) (ce sl : Nat), zq_P (yG Y) S T.heap → va_S (zq_A (yS Y)) (xs X).heap T.heap locs → (∀ (q : Nat) (e : zq_E), S.1 q = some e → zq_A (yS Y) q) → S.2.1 = (yS Y).2.1 + ce → ce ≤ kc → sl ≤ ks → lv_has ls (xc X).maxLocals lo →
    Stand (xp X) (yl Y) (xe X) (yR Y) (xs X) (xm X) (xa X) (xb X) (xt X) (xc X) T locs ce sl → zq_step Y X S S' r' rm' T locs ce sl (F0 (xm X) pc ls st) rest
theorem zq_sub_A {S S0 : zq_S} {ce : Nat} (a3 : ∀ (q : Nat) (e : zq_E), S.1 q = some e → zq_A S0 q) (a4 : S.2.1 = S0.2.1 + ce) : ∀ q, zq_A S q → zq_A S0 q := by
  intro q h
  rcases h with h | h
  · cases hq : S.1 q with
    | none => exact absurd hq h
    | some e => exact a3 q e hq
  · exact Or.inr (by omega)
theorem zq_contR {S' : zq_S} {v : Option Value} {rm' : Room} {rest : List Value} (h : zq_call Y X pc lo st S kc ks S' (.inl v) rm' rest) (hs0 : zq_P (yG Y) (yS Y) (xs X).heap) (c : zq_W Y X (pc + 3) lo (v.toList ++ rest) S' (kc + rm'.cells) (ks + rm'.slots)) : zq_W Y X pc lo st S kc ks := by
  intro H locs ls ce sl a1 a2 a3 a4 a5 a6 a7 a8 a9 T hT XX
  subst hT
  obtain ⟨U', L, k, n, XU, hk, hn, hsz, hwr, hL0, hLA, hP', hkeep, hA', hst⟩ := h T locs ls ce sl a1 a2 a3 a4 a7 a8 a9 XX
  have hsubA := zq_sub_A a3 a4
  have z1 : T.heap.size ≤ U'.heap.size := by rw [a1.1, hP'.1]; omega
  obtain ⟨t, b1, b2⟩ := c U'.heap (locs ++ L) ls (ce + k) (sl + n) hP' ⟨Nat.le_trans a2.1 z1, fun q g1 g2 => by
      rw [hkeep q (by rw [hs0.1] at g1; omega) (fun z => g2 (hsubA q z))]
      exact a2.2.1 q g1 g2, fun q hq => by
      rcases List.mem_append.mp hq with h | h
      · exact a2.2.2 q h
      · exact hsubA _ (hLA q h)⟩ (fun q e hq => hsubA q (hA' q e hq)) (by omega) (by omega) (fun hw => by
      rw [hL0 (by omega), a6 (by omega)]; rfl) (by omega) (by omega) a9 U' rfl XU
  exact ⟨t, hst t b1, b2⟩
/-- the callee throws, and nobody here catches it: so throws this method -/
theorem zq_contT (Z : zq_ok Y X cc nL own nm ret []) {S' : zq_S} {kx : Nat} {rm' : Room} {rest : List Value} (h : zq_call Y X pc lo st S kc ks S' (.inr kx) rm' rest) (e1 : S' = yT Y) (e2 : (.inr kx : zq_R) = yr Y) (hr : kc + rm'.cells ≤ (yR Y).cells ∧ ks + rm'.slots ≤ (yR Y).slots) : zq_W Y X pc lo st S kc ks := by
  intro H locs ls ce sl a1 a2 a3 a4 a5 a6 a7 a8 a9 T hT XX
  subst hT
  obtain ⟨U', L, k, n, XU, hk, hn, hsz, hwr, hL0, hLA, hP', hkeep, hA', x, cx, hx1, hx2, hx3, hst⟩ := h T locs ls ce sl a1 a2 a3 a4 a7 a8 a9 XX
  have hsubA := zq_sub_A a3 a4
  obtain ⟨g1, g2, g3, g4, g5⟩ := XU.leaveThrown x (g := { F0 (xm X) pc ls st with stack := rest }) rfl rfl rfl (by rw [Z.h]; intro y hy; cases hy) Z.k
  refine ⟨U'.setFrames (.throwing x :: xb X), hst.trans g1, .threw x, g2, g3, ?_⟩
  refine ⟨by rw [← e2]; exact ⟨x, cx, rfl, hx1, hx2, hx3⟩, by rw [← e1]; exact hP', fun q hq hnA => ?_, by rw [← e1]; exact fun q e hq => hsubA q (hA' q e hq), by rw [← e1]; omega, g4, locs ++ L, ce + k, sl + n, by omega, by omega, by rw [← e1]; omega, fun hw => ?_, g5, fun q hq => ?_⟩
  · show U'.heap[q]? = _
    rw [hkeep q (by omega) (fun z => hnA (hsubA q z))]
    exact a2.2.1 q (by rw [Z.p.1]; exact hq) hnA
  · rw [← e1] at hw
    rw [hL0 (by omega), a6 (by omega)]
    rfl
  · rcases List.mem_append.mp hq with h | h
    · exact a2.2.2 q h
    · exact hsubA _ (hLA q h)
theorem zq_atT (Z : zq_ok Y X cc nL own nm ret hh) {T : State} {locs : List Loc} {ce : Nat} (a2 : va_S (zq_A (yS Y)) (xs X).heap T.heap locs) (a3 : ∀ (q : Nat) (e : zq_E), S.1 q = some e → zq_A (yS Y) q) (a4 : S.2.1 = (yS Y).2.1 + ce) {vm1 : Vm} (hW : (xs X).WarmedH vm1) : zq_I (yG Y) (T.setVm vm1) ∧ zq_J S (T.setVm vm1) :=
  ⟨Z.i.warm hW, Z.j.at (T := T.setVm vm1) hW.alike a2 (zq_sub_A a3 a4)⟩
theorem zq_stepV (Z : zq_ok Y X cc nL own nm ret hh) {ix : Nat} {y : MethodName} {w : Cond} {maxL : Nat} (hcf : zq_cf y w maxL) {rm' : Room} {av : List Value} {b : Nat} {r' : zq_R} {S' : zq_S} (hM : zq_M (yl Y) y w rm' (yG Y) (.ref b :: av) S r' S') (ci : Nat) {r : vw_C} (hc : zq_cl[ci]? = some r) {fs : List Value} (hb : S.1 b = some (.inr (ci, fs))) (d : decode cc pc = .ok (.invokevirtual ix, 3))
    (w0 : w ∈ zq_T) (w1 : Cond.methodLink own ix y ∈ zq_T) (w2 : Cond.instanceMethod y ∈ zq_T) (w3 : Cond.selects r.1 y y ∈ zq_T) (w4 : Cond.initialized y.cls ∈ zq_T) (hy : y.cls ≠ "java/lang/invoke/MethodHandle" ∧ y.cls ≠ "java/lang/invoke/VarHandle" ∧ (parseMethodDescriptor y.desc).map (fun d => d.parameters.length) = some av.length)
    (hroom : rm'.frames + 1 ≤ (yR Y).frames ∧ 8 + (maxL + 11) + rm'.locals ≤ (yR Y).locals ∧ kc + rm'.cells ≤ (yR Y).cells ∧ ks + rm'.slots ≤ (yR Y).slots) {rest : List Value} (hst : st = av.reverse ++ .ref b :: rest) (hrest : (rest.map fun v => v.category).sum ≤ 8) : zq_call Y X pc lo st S kc ks S' r' rm' rest := by
  intro T locs ls ce sl a1 a2 a3 a4 a7 a8 a9 XX
  obtain ⟨mk, methM, hnamed, hmethM, hstM, habM⟩ := Cond.instanceMethod_spec (Z.w w2)
  obtain ⟨mk', methM', cM, hnamed', hmethM', hcM, hlM, hsigM⟩ := hcf (xs X) (Z.i.1 w w0)
  cases hnamed.symm.trans hnamed'
  cases hmethM.symm.trans hmethM'
  obtain ⟨c2, r2, m2, q1, q2, q3, q4, kP, hkP, hkPi⟩ := Cond.selects_spec (Z.w w3)
  obtain ⟨r0, hr0, cellB, hcB, hclB, hvmB, -⟩ := a1.2 b _ hb
  cases hr0.symm.trans hc
  have hcls := (Z.i.2.1.1 ci r hc).2.1
  have hcls' : (xs X).vm.findClass r.1 = some cellB.cls := by rw [hclB]; exact hcls
  cases hcls'.symm.trans q1
  cases (State.methodFound?_of_named hnamed ⟨hy.1, hy.2.1⟩).symm.trans q2
  cases hnamed.symm.trans q3
  have hselP : selectMethod (xe X).platform (xs X).vm cellB.cls mk = .method mk := by rw [Launch.admits_selectMethod XX.admits]; exact q4
  have hlen : av.length = methM.sig.parameters.length := by
    have h2 := hy.2.2
    rw [hsigM] at h2
    exact (Option.some.inj h2).symm
  obtain ⟨vm₁, X₁, hstep₁⟩ := XX.invokevirtual Z.x Z.o (Z.w w1) hnamed hmethM hstM hkP hkPi ⟨hy.1, hy.2.1⟩ (a := b) (cell := cellB) hcB
    (fun z h => by rw [h] at hvmB; cases hvmB) hselP hmethM habM hkP hkPi (g := F0 (xm X) pc ls st) rfl (argsL := av) (rest := rest) hlen hst (by rw [Z.b]; exact d)
  obtain ⟨hI, hJ⟩ := zq_atT Z a2 a3 a4 X₁.warmed
  obtain ⟨mk2, methY, cY, hn2, hmY, hcY, hlY, -⟩ := hcf (T.setVm vm₁) (hI.1 w w0)
  cases (X₁.named hnamed).symm.trans hn2
  obtain ⟨kY, hkY, -⟩ := className_of_methodNamed hn2
  have hiY : kY.init = .initialized := Cond.initialized_spec (findClass_of_methodNamed hn2) hkY (hI.1 _ w4 #[])
  obtain ⟨U', L, k, n, XU, f1, f2, f3, f4, f5, f6, f7, f8, f9, f10⟩ := zq_go X₁ hM hn2 hmY hcY hkY hiY (hI.1 w w0) hI hJ a1 hroom.1 (g := { F0 (xm X) pc ls st with stack := rest }) (by rw [hlY]; show 2 * 0 + (rest.map fun v => v.category).sum + _ + _ ≤ _; omega) (by omega) (by omega) rfl a9.1 (by rw [Z.b]; exact d)
  refine ⟨U', L, k, n, XU, f1, f2, f3, f4, f5, f6, f7, f8, f9, ?_⟩
  cases r' with
  | inl v => exact fun target h => hstep₁ _ fun acts => by rw [doInvoke_state]; exact f10.trans h
  | inr kx =>
    obtain ⟨x, cx, g1, g2, g3, g4⟩ := f10
    refine ⟨x, cx, g1, g2, ?_, hstep₁ _ fun acts => by rw [doInvoke_state]; exact g4⟩
    rw [X₁.warmed.alike.findClass] at g3
    exact g3
theorem zq_stepS (Z : zq_ok Y X cc nL own nm ret hh) {ix : Nat} {y : MethodName} {w : Cond} {maxL : Nat} (hcf : zq_cf y w maxL) {rm' : Room} {av : List Value} {r' : zq_R} {S' : zq_S} (hM : zq_M (yl Y) y w rm' (yG Y) av S r' S') (d : decode cc pc = .ok (.invokestatic ix, 3))
    (w0 : w ∈ zq_T) (w1 : Cond.methodLink own ix y ∈ zq_T) (w2 : Cond.static y ∈ zq_T) (w4 : Cond.initialized y.cls ∈ zq_T) (hy : y.cls ≠ "java/lang/invoke/MethodHandle" ∧ y.cls ≠ "java/lang/invoke/VarHandle" ∧ (parseMethodDescriptor y.desc).map (fun d => d.parameters.length) = some av.length)
    (hroom : rm'.frames + 1 ≤ (yR Y).frames ∧ 8 + (maxL + 11) + rm'.locals ≤ (yR Y).locals ∧ kc + rm'.cells ≤ (yR Y).cells ∧ ks + rm'.slots ≤ (yR Y).slots) {rest : List Value} (hst : st = av.reverse ++ rest) (hrest : (rest.map fun v => v.category).sum ≤ 8) : zq_call Y X pc lo st S kc ks S' r' rm' rest := by
  intro T locs ls ce sl a1 a2 a3 a4 a7 a8 a9 XX
  obtain ⟨mk, methM, cM, hnamed, hmethM, hcM, hlM, hsigM⟩ := hcf (xs X) (Z.i.1 w w0)
  have hstatic : methM.isStatic = true := Cond.static_spec hnamed hmethM (Z.w w2)
  obtain ⟨kP, hkP, -⟩ := className_of_methodNamed hnamed
  have hinitP : kP.init = .initialized := Cond.initialized_spec (findClass_of_methodNamed hnamed) hkP (Z.w w4)
  have hlen : av.length = methM.sig.parameters.length := by
    have h2 := hy.2.2
    rw [hsigM] at h2
    exact (Option.some.inj h2).symm
  obtain ⟨vm₁, X₁, hstep₁⟩ := XX.invokestatic Z.x Z.o (Z.w w1) hnamed hmethM hstatic hkP hinitP ⟨hy.1, hy.2.1⟩ (g := F0 (xm X) pc ls st) rfl (argsL := av) (rest := rest) hlen hst (by rw [Z.b]; exact d)
  obtain ⟨hI, hJ⟩ := zq_atT Z a2 a3 a4 X₁.warmed
  obtain ⟨mk2, methY, cY, hn2, hmY, hcY, hlY, -⟩ := hcf (T.setVm vm₁) (hI.1 w w0)
  cases (X₁.named hnamed).symm.trans hn2
  obtain ⟨kY, hkY, -⟩ := className_of_methodNamed hn2
  have hiY : kY.init = .initialized := Cond.initialized_spec (findClass_of_methodNamed hn2) hkY (hI.1 _ w4 #[])
  obtain ⟨U', L, k, n, XU, f1, f2, f3, f4, f5, f6, f7, f8, f9, f10⟩ := zq_go X₁ hM hn2 hmY hcY hkY hiY (hI.1 w w0) hI hJ a1 hroom.1 (g := { F0 (xm X) pc ls st with stack := rest }) (by rw [hlY]; show 2 * 0 + (rest.map fun v => v.category).sum + _ + _ ≤ _; omega) (by omega) (by omega) rfl a9.1 (by rw [Z.b]; exact d)
  refine ⟨U', L, k, n, XU, f1, f2, f3, f4, f5, f6, f7, f8, f9, ?_⟩
  cases r' with
  | inl v => exact fun target h => hstep₁ _ fun acts => by rw [doInvoke_state]; exact f10.trans h
  | inr kx =>
    obtain ⟨x, cx, g1, g2, g3, g4⟩ := f10
    refine ⟨x, cx, g1, g2, ?_, hstep₁ _ fun acts => by rw [doInvoke_state]; exact g4⟩
    rw [X₁.warmed.alike.findClass] at g3
    exact g3
theorem zq_stepIN (Z : zq_ok Y X cc nL own nm ret hh) {ix : Nat} {y : MethodName} {host : String} {bytes : ByteArray} {maxL : Nat} {rm' : Room} {av : List Value} {b : Nat} {r' : zq_R} {S' : zq_S} (hM : zq_M (yl Y) y (.code y bytes maxL none) rm' (yG Y) (.ref b :: av) S r' S') (d : decode cc pc = .ok (.invokespecial ix, 3)) (hy1 : y.name = "<init>")
    (w0 : Cond.code y bytes maxL none ∈ zq_T) (w1 : Cond.methodLinkNest own ix y host ∈ zq_T) (w2 : Cond.instanceMethod y ∈ zq_T) (w4 : Cond.initialized y.cls ∈ zq_T) (hy : y.cls ≠ "java/lang/invoke/MethodHandle" ∧ y.cls ≠ "java/lang/invoke/VarHandle" ∧ (parseMethodDescriptor y.desc).map (fun d => d.parameters.length) = some av.length)
    (hroom : rm'.frames + 1 ≤ (yR Y).frames ∧ 8 + (maxL + 11) + rm'.locals ≤ (yR Y).locals ∧ kc + rm'.cells ≤ (yR Y).cells ∧ ks + rm'.slots ≤ (yR Y).slots) {rest : List Value} (hst : st = av.reverse ++ .ref b :: rest) (hrest : (rest.map fun v => v.category).sum ≤ 8) : zq_call Y X pc lo st S kc ks S' r' rm' rest := by
  intro T locs ls ce sl a1 a2 a3 a4 a7 a8 a9 XX
  have hpl : (xe X).platform.magicAccessors = ({} : Platform).magicAccessors := by rw [XX.admits.platform]
  obtain ⟨mk, methM, cM, kP, vm₁, hnamed, hmethM, hcodeM, -, hlocalsM, -, hkP, -, hW₁, hstep₁⟩ := Steps.initColdArgsNest (e := xe X) XX.here Z.x XX.warmed hpl Z.o hy1 ⟨hy.1, hy.2.1⟩ (Z.w w1) (Z.w w2) (Z.w w0) (f := F0 (xm X) pc ls st) rfl (fun sig h => by
    have h2 := hy.2.2
    rw [h] at h2
    exact (Option.some.inj h2).symm) hst (by rw [Z.b]; exact d)
  have X₁ := XX.noted hW₁
  obtain ⟨hI, hJ⟩ := zq_atT Z a2 a3 a4 X₁.warmed
  obtain ⟨mk2, methY, cY, hn2, hmY, hcY, hlY, -⟩ := zq_cf1 (T.setVm vm₁) (hI.1 _ w0)
  cases (X₁.named hnamed).symm.trans hn2
  obtain ⟨kY, hkY, -⟩ := className_of_methodNamed hn2
  have hiY : kY.init = .initialized := Cond.initialized_spec (findClass_of_methodNamed hn2) hkY (hI.1 _ w4 #[])
  obtain ⟨U', L, k, n, XU, f1, f2, f3, f4, f5, f6, f7, f8, f9, f10⟩ := zq_go X₁ hM hn2 hmY hcY hkY hiY (hI.1 _ w0) hI hJ a1 hroom.1 (g := { F0 (xm X) pc ls st with stack := rest }) (by rw [hlY]; show 2 * 0 + (rest.map fun v => v.category).sum + _ + _ ≤ _; omega) (by omega) (by omega) rfl a9.1 (by rw [Z.b]; exact d)
  refine ⟨U', L, k, n, XU, f1, f2, f3, f4, f5, f6, f7, f8, f9, ?_⟩
  cases r' with
  | inl v => exact fun target h => hstep₁ _ fun acts => by rw [doInvoke_state]; exact f10.trans h
  | inr kx =>
    obtain ⟨x, cx, g1, g2, g3, g4⟩ := f10
    refine ⟨x, cx, g1, g2, ?_, hstep₁ _ fun acts => by rw [doInvoke_state]; exact g4⟩
    rw [X₁.warmed.alike.findClass] at g3
    exact g3
theorem zq_stepI (Z : zq_ok Y X cc nL own nm ret hh) {ix : Nat} {y : MethodName} {bytes : ByteArray} {maxL : Nat} {rm' : Room} {av : List Value} {b : Nat} {r' : zq_R} {S' : zq_S} (hM : zq_M (yl Y) y (.code y bytes maxL none) rm' (yG Y) (.ref b :: av) S r' S') (d : decode cc pc = .ok (.invokespecial ix, 3)) (hy1 : y.name = "<init>")
    (w0 : Cond.code y bytes maxL none ∈ zq_T) (w1 : Cond.methodLink own ix y ∈ zq_T) (w2 : Cond.instanceMethod y ∈ zq_T) (w4 : Cond.initialized y.cls ∈ zq_T) (hy : y.cls ≠ "java/lang/invoke/MethodHandle" ∧ y.cls ≠ "java/lang/invoke/VarHandle" ∧ (parseMethodDescriptor y.desc).map (fun d => d.parameters.length) = some av.length)
    (hroom : rm'.frames + 1 ≤ (yR Y).frames ∧ 8 + (maxL + 11) + rm'.locals ≤ (yR Y).locals ∧ kc + rm'.cells ≤ (yR Y).cells ∧ ks + rm'.slots ≤ (yR Y).slots) {rest : List Value} (hst : st = av.reverse ++ .ref b :: rest) (hrest : (rest.map fun v => v.category).sum ≤ 8) : zq_call Y X pc lo st S kc ks S' r' rm' rest := by
  intro T locs ls ce sl a1 a2 a3 a4 a7 a8 a9 XX
  have hpl : (xe X).platform.magicAccessors = ({} : Platform).magicAccessors := by rw [XX.admits.platform]
  obtain ⟨mk, methM, cM, kP, vm₁, hnamed, hmethM, hcodeM, -, hlocalsM, -, hkP, -, hW₁, hstep₁⟩ := Steps.initColdArgs (e := xe X) XX.here Z.x XX.warmed hpl Z.o hy1 ⟨hy.1, hy.2.1⟩ (Z.w w1) (Z.w w2) (Z.w w0) (f := F0 (xm X) pc ls st) rfl (fun sig h => by
    have h2 := hy.2.2
    rw [h] at h2
    exact (Option.some.inj h2).symm) hst (by rw [Z.b]; exact d)
  have X₁ := XX.noted hW₁
  obtain ⟨hI, hJ⟩ := zq_atT Z a2 a3 a4 X₁.warmed
  obtain ⟨mk2, methY, cY, hn2, hmY, hcY, hlY, -⟩ := zq_cf1 (T.setVm vm₁) (hI.1 _ w0)
  cases (X₁.named hnamed).symm.trans hn2
  obtain ⟨kY, hkY, -⟩ := className_of_methodNamed hn2
  have hiY : kY.init = .initialized := Cond.initialized_spec (findClass_of_methodNamed hn2) hkY (hI.1 _ w4 #[])
  obtain ⟨U', L, k, n, XU, f1, f2, f3, f4, f5, f6, f7, f8, f9, f10⟩ := zq_go X₁ hM hn2 hmY hcY hkY hiY (hI.1 _ w0) hI hJ a1 hroom.1 (g := { F0 (xm X) pc ls st with stack := rest }) (by rw [hlY]; show 2 * 0 + (rest.map fun v => v.category).sum + _ + _ ≤ _; omega) (by omega) (by omega) rfl a9.1 (by rw [Z.b]; exact d)
  refine ⟨U', L, k, n, XU, f1, f2, f3, f4, f5, f6, f7, f8, f9, ?_⟩
  cases r' with
  | inl v => exact fun target h => hstep₁ _ fun acts => by rw [doInvoke_state]; exact f10.trans h
  | inr kx =>
    obtain ⟨x, cx, g1, g2, g3, g4⟩ := f10
    refine ⟨x, cx, g1, g2, ?_, hstep₁ _ fun acts => by rw [doInvoke_state]; exact g4⟩
    rw [X₁.warmed.alike.findClass] at g3
    exact g3
/-- which row of the table catches the exception kx thrown at pc: it goes on at hpc -/
def zq_ct (own : String) (pc kx hpc : Nat) (hh : List (Nat × Nat × Nat × Nat)) : Prop := ∃ (pre : List (Nat × Nat × Nat × Nat)) (x : Nat × Nat × Nat × Nat) (suf : List (Nat × Nat × Nat × Nat)) (nm : String), hh = pre ++ x :: suf ∧ (∀ z ∈ pre, z.2.2.2 ≠ 0 ∧ ∃ n : String, Cond.classLink own z.2.2.2 n ∈ zq_T ∧ (zq_xn kx, n) ∈ zq_nc) ∧ x.1 ≤ pc ∧ pc < x.2.1 ∧ x.2.2.2 ≠ 0 ∧ x.2.2.1 = hpc ∧ Cond.classLink own x.2.2.2 nm ∈ zq_T ∧ Cond.castable (zq_xn kx) nm ∈ zq_T
theorem zq_contC (Z : zq_ok Y X cc nL own nm ret hh) {S' : zq_S} {kx : Nat} {rm' : Room} {rest : List Value} (h : zq_call Y X pc lo st S kc ks S' (.inr kx) rm' rest) (hpc : Nat) (hct : zq_ct own pc kx hpc hh) (c : ∀ x : Nat, zq_W Y X hpc lo [.ref x] S' (kc + rm'.cells) (ks + rm'.slots)) : zq_W Y X pc lo st S kc ks := by
  intro H locs ls ce sl a1 a2 a3 a4 a5 a6 a7 a8 a9 T hT XX
  subst hT
  obtain ⟨U', L, k, n, XU, hk, hn, hsz, hwr, hL0, hLA, hP', hkeep, hA', x, cx, hx1, hx2, hx3, hst⟩ := h T locs ls ce sl a1 a2 a3 a4 a7 a8 a9 XX
  obtain ⟨pre, row, suf, nmc, hsp, hpass, g1, g2, g3, g4, g5, g6⟩ := hct
  have hsubA := zq_sub_A a3 a4
  have hpl : (xe X).platform.magicAccessors = ({} : Platform).magicAccessors := by rw [XU.admits.platform]
  obtain ⟨c3, c4, hc3, hc4, hasg⟩ := Cond.castable_spec (Z.w g6)
  cases Option.some.inj (hc3.symm.trans hx3)
  obtain ⟨c5, hc5, hcl5⟩ := Cond.classLink_spec Z.o (Z.w g5) (xe X).platform hpl
  cases Option.some.inj (hc4.symm.trans hc5)
  obtain ⟨vm', X', st'⟩ := XU.thenCaughtThrough x (g := { F0 (xm X) pc ls st with stack := rest }) rfl hst hx1 (by rw [hx2]; rfl) (by obtain ⟨k9, h9, -⟩ := Vm.findClass_spec hx3; exact ⟨k9, h9⟩) (tableOf pre) ⟨row.1, row.2.1, row.2.2.1, row.2.2.2⟩ (tableOf suf) (by rw [Z.h, hsp]; simp [tableOf])
    (fun z hz => by
      obtain ⟨q, hq, rfl⟩ := List.mem_map.mp hz
      obtain ⟨hz0, nm2, hl1, hn1⟩ := hpass q hq
      obtain ⟨c6, hc6, hcl6⟩ := Cond.classLink_spec Z.o (Z.w hl1) (xe X).platform hpl
      obtain ⟨a8', b8, h1, h2, h3⟩ := Z.i.2.2 _ hn1
      cases Option.some.inj (h1.symm.trans hx3)
      cases Option.some.inj (h2.symm.trans hc6)
      exact Or.inr ⟨hz0, _, hcl6, h3⟩) (by simp [covers, g1, g2]) (Or.inr ⟨g3, _, hcl5, hasg⟩)
  have z1 : T.heap.size ≤ U'.heap.size := by rw [a1.1, hP'.1]; omega
  have hs0 := Z.p
  obtain ⟨t, b1, b2⟩ := c x U'.heap (locs ++ L) ls (ce + k) (sl + n) hP' ⟨Nat.le_trans a2.1 z1, fun q g1 g2 => by
      rw [hkeep q (by rw [hs0.1] at g1; omega) (fun z => g2 (hsubA q z))]
      exact a2.2.1 q g1 g2, fun q hq => by
      rcases List.mem_append.mp hq with h | h
      · exact a2.2.2 q h
      · exact hsubA _ (hLA q h)⟩ (fun q e hq => hsubA q (hA' q e hq)) (by omega) (by omega) (fun hw => by
      rw [hL0 (by omega), a6 (by omega)]; rfl) (by omega) (by omega) a9 (U'.setVm vm') rfl X'
  subst g4
  exact ⟨t, st'.trans b1, b2⟩
end ZQ5
/-- a contract out of the walk of the body -/
theorem zq_Mof {l : Launch} (hl : l.stackTraces = false) {y : MethodName} {cc : ByteArray} {nL : Nat} {ret : Option FieldType} {rm : Room} {G : zq_G} {av : List Value} {S0 : zq_S} {r : zq_R} {S1 : zq_S} (hy : plainName y.cls = true) (hlen : (lg_sl av).length ≤ nL) {lo : List (Nat × Value)} (hlo : lv_args 0 av = lo)
    (body : ∀ X : zq_X, zq_ok (l, rm, G, S0, r, S1) X cc nL y.cls y.name ret [] → zq_W (l, rm, G, S0, r, S1) X 0 lo [] S0 0 0) : zq_M l y (.code y cc nL ret) rm G av S0 r S1 := by
  refine MetFree.of_bodyS (code := cc) (maxLocals := nL) (ret := ret) hy ?_ ?_
  · intro args s m h hn
    obtain ⟨meth, c, h1, h2, h3, h4, h5, h6, -, -⟩ := Cond.code_spec hn (atoms_spec (ws := [Cond.code y cc nL ret]) h _ List.mem_cons_self)
    exact ⟨meth, c, h1, h2, h3, h4, h5, h6⟩
  · intro p e s m args below meth c s₁ B hml hP _
    obtain ⟨rfl, hI, hJ, hS⟩ := hP
    have hh0 : s₁.heap = s.heap := by rw [B.state]; rfl
    obtain ⟨meth', c', h1, h2, h3, h4, h5, h6, h7, -⟩ := Cond.code_spec B.named (atoms_spec (ws := [Cond.code y cc nL ret]) B.pre _ List.mem_cons_self)
    cases B.method.symm.trans h1
    have hcc : c' = c := by
      have h := B.here.code
      rw [State.code?_eq, B.method₁] at h
      exact Option.some.inj (h2.symm.trans h)
    subst hcc
    have hemp : c'.exceptionTable.toList = tableOf [] := by
      have h0 : c'.exceptionTable.size = 0 := by simpa [Array.isEmpty] using h7
      exact List.eq_nil_of_length_eq_zero (by simpa using h0)
    have Z : zq_ok (l, rm, G, S0, r, S1) (p, e, s, m, av.toArray, below, meth, c') cc nL y.cls y.name ret [] :=
      ⟨B.exec, B.bytes, hml, findClass_of_methodNamed B.named, B.returns, B.notSynchronized, (name_of_methodNamed B.named B.method).1, hI, hJ, hS, hl, hemp⟩
    have hent := lv_entry av (n := nL) hlen
    have K := body _ Z s.heap [] ((lg_sl av ++ List.replicate (nL - (lg_sl av).length) Slot.unset).toArray) 0 0 hS va_S.rf (fun q e hq => Or.inl (by rw [hq]; simp)) rfl (Nat.le_refl _) (fun _ => rfl) (Nat.le_refl _) (Nat.le_refl _) (by show lv_has _ c'.maxLocals _; rw [hml, ← hlo]; exact hent)
    obtain ⟨t, a1, o, b1, b2, b3⟩ := K s₁ hh0 (Stand.of_body B)
    refine ⟨t, o, ?_, b1, b2, b3⟩
    rw [lg_entry_eq]
    exact a1
/-- .. of a method with a table -/
theorem zq_MofW {hh : List (Nat × Nat × Nat × Nat)} {l : Launch} (hl : l.stackTraces = false) {y : MethodName} {cc : ByteArray} {nL : Nat} {ret : Option FieldType} {rm : Room} {G : zq_G} {av : List Value} {S0 : zq_S} {r : zq_R} {S1 : zq_S} (hy : plainName y.cls = true) (hlen : (lg_sl av).length ≤ nL) {lo : List (Nat × Value)} (hlo : lv_args 0 av = lo)
    (body : ∀ X : zq_X, zq_ok (l, rm, G, S0, r, S1) X cc nL y.cls y.name ret hh → zq_W (l, rm, G, S0, r, S1) X 0 lo [] S0 0 0) : zq_M l y (.codeWith y cc nL ret hh) rm G av S0 r S1 := by
  refine MetFree.of_bodyS (code := cc) (maxLocals := nL) (ret := ret) hy ?_ ?_
  · intro args s m h hn
    obtain ⟨m9, meth, c, hn9, h1, h2, h3, h4, -, h5, h6, -⟩ := Cond.codeWith_spec (atoms_spec (ws := [Cond.codeWith y cc nL ret hh]) h _ List.mem_cons_self)
    cases hn.symm.trans hn9
    exact ⟨meth, c, h1, h2, h3, h4, h5, h6⟩
  · intro p e s m args below meth c s₁ B hml hP _
    obtain ⟨rfl, hI, hJ, hS⟩ := hP
    have hh0 : s₁.heap = s.heap := by rw [B.state]; rfl
    obtain ⟨m9, meth', c', hn9, h1, h2, h3, h4, h7, h5, h6, -⟩ := Cond.codeWith_spec (atoms_spec (ws := [Cond.codeWith y cc nL ret hh]) B.pre _ List.mem_cons_self)
    cases B.named.symm.trans hn9
    cases B.method.symm.trans h1
    have hcc : c' = c := by
      have h := B.here.code
      rw [State.code?_eq, B.method₁] at h
      exact Option.some.inj (h2.symm.trans h)
    subst hcc
    have hemp : c'.exceptionTable.toList = tableOf hh := by
      rw [← h7]
      unfold tableOf
      rw [List.map_map]
      exact (List.map_id _).symm
    have Z : zq_ok (l, rm, G, S0, r, S1) (p, e, s, m, av.toArray, below, meth, c') cc nL y.cls y.name ret hh :=
      ⟨B.exec, B.bytes, hml, findClass_of_methodNamed B.named, B.returns, B.notSynchronized, (name_of_methodNamed B.named B.method).1, hI, hJ, hS, hl, hemp⟩
    have hent := lv_entry av (n := nL) hlen
    have K := body _ Z s.heap [] ((lg_sl av ++ List.replicate (nL - (lg_sl av).length) Slot.unset).toArray) 0 0 hS va_S.rf (fun q e hq => Or.inl (by rw [hq]; simp)) rfl (Nat.le_refl _) (fun _ => rfl) (Nat.le_refl _) (Nat.le_refl _) (by show lv_has _ c'.maxLocals _; rw [hml, ← hlo]; exact hent)
    obtain ⟨t, a1, o, b1, b2, b3⟩ := K s₁ hh0 (Stand.of_body B)
    refine ⟨t, o, ?_, b1, b2, b3⟩
    rw [lg_entry_eq]
    exact a1
