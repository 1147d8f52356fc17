/-! THE CLAIM OUT OF ONE WALK OF THE LAW'S BODY. Your part is whole_start (and what it stands on); all else here is the same for every law, but numbers. -/
def R_law : String := "ChangeTrackerLaw"
def lw_P (b : Addr) (xs : List Int32) (args : Array Value) (s : State) : Prop := args = #[.ref b] ∧ s.IntsAt b xs ∧ xs.length ≤ 2560 ∧ (Jvm.Cond.and given_1 narrow_1).before args s = true
def lw_Q (_ : Array Value) (s : State) (o : Outcome) (t : State) : Prop := o = .returned (some (.int 1)) ∧ Framed s o t [] 601024 7293034
def lw_Z (below : List Frame) (a : Array Value) (s : State) : State → Prop := fun t => ∃ o, t.status = .running ∧ Ended t below o ∧ lw_Q a s o t
/-- the law's own end, with 1 on the stack, nothing written that was there before, its room as the claim has it -/
theorem lw_ret {p : Program} {l : Launch} {e : Env} {s : State} {m : MethodId} {below : List Frame} {meth : Method} {c : Code} {b : Nat} (hx : p.tables.exec = Jvm.exec) (hb : c.code = code) (hr : meth.sig.returnType = ret) (hlocks : meth.locks = false) {pc : Nat} {H : Heap} {ls : Array Slot} (hdg : decode code pc = .ok (.ireturn, 1)) : W p l e room_1 s m #[Value.ref b] below meth c H [] 601024 7293034 (lw_Z below #[Value.ref b] s) (F0 m pc ls [.int 1]) := by
  intro T hT X
  obtain ⟨fs, hret, hrun, hended, hW, hframe⟩ := X.leave (v := some (.int 1)) (hlocks := hlocks) (fun h => by rw [hr] at h; cases h)
  have hmeth' : T.vm.method? m = some meth := X.method'
  refine ⟨T.setFrames fs, ?_, .returned (some (.int 1)), hrun, hended, rfl, ⟨_, rfl⟩, hW, hframe⟩
  jvm_step X.here [X.here.top, hx, hb, hdg, hmeth', hr, ret, narrow_b1]
  (try refine ⟨rfl, ?_⟩); (try refine ⟨rfl, ?_⟩)
  first | (intro acts; rw [hret _ acts rfl rfl rfl]) | rw [hret _ _ rfl rfl rfl]
  exact Steps.refl _
/-- what holds at the law's entry: the machine, the code, the tables' words (any of lw_tbl by 'hts w (by decide +kernel)'), the script of L ints xs at the cell b, what the Statement gives of the start (any of its parts by flat_of_before) -/
def lw_At (p : Program) (s : State) (m : MethodId) (meth : Method) (c : Code) (b L : Nat) (xs : Nat → Int32) : Prop :=
  p.tables.exec = Jvm.exec ∧ c.code = code ∧ meth.sig.returnType = ret ∧ c.maxLocals = 7 ∧ s.vm.findClass R_law = some m.cls ∧ (∀ w ∈ lw_tbl, w.before #[Value.ref b] s = true) ∧ va_X b L xs s s.heap ∧ b < s.heap.size ∧ meth.locks = false ∧ (Jvm.Cond.and given_1 narrow_1).before #[Value.ref b] s = true
/-- a word that the tables decide holds whatever the arguments are -/
theorem zq_args {s : State} (w : Cond) (hw : w ∈ zq_T) {a0 : Array Value} (h : w.before a0 s = true) : ∀ a : Array Value, w.before a s = true := by
  have hg := (List.mem_filter.mp hw).2
  unfold zq_gw at hg
  split at hg
  · exact fun a => va_tabs rfl rfl h
  · exact fun a => h
  · exact fun a => va_tabs rfl rfl h
  · exact fun a => va_tabs rfl rfl h
  · exact fun a => va_AO.use (va_AO.of h)
  · exact fun a => word_at (State.WarmedH.refl s) (good_of_word hg) h
theorem zq_drop {s u : State} {L : List Loc} {k n : Nat} (h : s.sameButNew u L k n) (hL : ∀ q ∈ L, s.heap.size ≤ q.base) : s.sameButNew u [] k n := by
  refine ⟨h.1, h.2.1, h.2.2.1, h.2.2.2.1, h.2.2.2.2.1, fun a c hc => ?_⟩
  obtain ⟨c', h1, h2, h3, h4⟩ := h.2.2.2.2.2 a c hc
  refine ⟨c', h1, h2, h3, fun i _ => h4 i (fun hm => ?_)⟩
  have h5 := hL _ hm
  have h6 : a < s.heap.size := (Array.getElem?_eq_some_iff.mp hc).1
  exact absurd h6 (Nat.not_lt.mpr h5)
theorem zq_start {C n d : String} {s : State} {args : Array Value} {A : Nat → Prop} (hl : (Cond.laysStatic C n d).before args s = true) (hini : (Cond.initialized C).before args s = true) (h : (Cond.isRef (.static C n d)).before args s = true) (hA : ∀ a : Nat, a < s.heap.size → ¬ A a) : zq_V C n d A s s.heap := by
  refine ⟨va_Zqof hl hini h hA, ?_⟩
  obtain ⟨c, k, i, f, a, cell, h1, h2, h3, h4, h5, h6, h7, h8, h9⟩ := Cond.laysStatic_spec hl
  exact ⟨c, k, i, f, a, cell, h1, h2, h3, h4, h5, h6, h7, h8, h9, hA a (Array.getElem?_eq_some_iff.mp h5).1⟩
set_option maxHeartbeats 4000000 in
set_option maxRecDepth 100000 in
theorem whole_start {p : Program} {e : Env} {s : State} {m : MethodId} {below : List Frame} {meth : Method} {c : Code} (l : Launch) (hl : l.stackTraces = false) {b L : Nat} {xs : Nat → Int32} (hL : L ≤ 2560) (C0 : lw_At p s m meth c b L xs) (hnm : meth.name = "law") (htb : c.exceptionTable.toList = []) : W p l e room_1 s m #[Value.ref b] below meth c s.heap [] 0 0 (lw_Z below #[Value.ref b] s) (entryFrame m ([Value.ref b] : List Value).toArray 7) := by
  obtain ⟨hx, hb, hr, hml, hown, hts, hX, hbl, hlocks, hgv⟩ := C0
  have hs := flat_of_before _ hgv
  have hT : ∀ w ∈ zq_T, ∀ a : Array Value, w.before a s = true := fun w hw => zq_args w hw (hts w (List.mem_filter.mp hw).1)
  have hT0 : ∀ w ∈ zq_T, w.before #[Value.ref b] s = true := fun w hw => hT w hw _
  obtain ⟨c0, iS0, hKn0⟩ := u_known (C := R_Text) (T := F_Text) (N := 2) (n := 2) hT0 u_Text_in (hts (.instantiable R_Text 2) (List.mem_of_getElem? (i := 88) (by decide +kernel)))
  obtain ⟨c1, iS1, hKn1⟩ := u_known (C := R_Group) (T := F_Group) (N := 3) (n := 3) hT0 u_Group_in (hts (.instantiable R_Group 3) (List.mem_of_getElem? (i := 361) (by decide +kernel)))
  obtain ⟨c2, iS2, hKn2⟩ := u_known (C := R_Hist) (T := F_Hist) (N := 5) (n := 5) hT0 u_Hist_in (hts (.instantiable R_Hist 5) (List.mem_of_getElem? (i := 61) (by decide +kernel)))
  obtain ⟨c3, iS3, hKn3⟩ := u_known (C := R_CT) (T := F_CT) (N := 6) (n := 6) hT0 u_CT_in (hts (.instantiable R_CT 6) (List.mem_of_getElem? (i := 53) (by decide +kernel)))
  obtain ⟨c4, iS4, hKn4⟩ := u_known (C := R_Mo) (T := F_Mo) (N := 20) (n := 20) hT0 u_Mo_in (hts (.instantiable R_Mo 20) (List.mem_of_getElem? (i := 550) (by decide +kernel)))
  obtain ⟨aL, kL, compL, fL1, fL2, fL3⟩ := Cond.arrayClass_spec (type := .long) (hts _ (List.mem_of_getElem? (i := 102) (by decide +kernel)))
  obtain ⟨aI, kI, compI, fI1, fI2, fI3⟩ := Cond.arrayClass_spec (type := .int) (hts _ (List.mem_of_getElem? (i := 616) (by decide +kernel)))
  obtain ⟨compG, aG, kG, fG1, fG2, fG3, fG4, fG5⟩ := Cond.arrayOver_spec (n := "ChangeTracker$Group") (hts _ (List.mem_of_getElem? (i := 67) (by decide +kernel)))
  obtain ⟨G, hGK⟩ : ∃ G : zq_G, va_K G.1 zq_cl (zq_ty G.2) s := by
    refine ⟨((fun k => match k with | 0 => c0 | 1 => c1 | 2 => c2 | 3 => c3 | _ => c4, fun k => match k with | 0 => iS0 | 1 => iS1 | 2 => iS2 | 3 => iS3 | _ => iS4), fun k => match k with | 0 => aL | 1 => aG | _ => aI), ?_, ?_⟩
    · intro k q hq
      match k, hq with
      | 0, hq => cases hq; exact hKn0
      | 1, hq => cases hq; exact hKn1
      | 2, hq => cases hq; exact hKn2
      | 3, hq => cases hq; exact hKn3
      | 4, hq => cases hq; exact hKn4
      | k + 5, hq => simp [zq_cl] at hq
    · intro k q hq
      match k, hq with
      | 0, hq => cases hq; exact ⟨fun n z => ⟨fun k h => (by cases h), kL, fL2, compL, fL3⟩, fL1⟩
      | 1, hq => cases hq; exact ⟨fun n z => ⟨fun k h => (by cases h), kG, fG3, compG, fG4⟩, kG, compG, fG3, fG4, fG1, fG5⟩
      | 2, hq => cases hq; exact ⟨fun n z => ⟨fun k h => (by cases h), kI, fI2, compI, fI3⟩, fI1⟩
      | k + 3, hq => simp [zq_ty] at hq
  have hnc : ∀ q ∈ zq_nc, va_Nc q.1 q.2 s := by
    intro q hq
    have hq : q = (zq_xn 0, zq_xn 1) ∨ q = (zq_xn 0, zq_xn 2) ∨ q = (zq_xn 1, zq_xn 0) ∨ q = (zq_xn 1, zq_xn 2) ∨ q = (zq_xn 2, zq_xn 0) ∨ q = (zq_xn 2, zq_xn 1) := by simpa [zq_nc] using hq
    rcases hq with rfl | rfl | rfl | rfl | rfl | rfl
    · exact va_Nc.of (hs (.not (.castable (zq_xn 0) (zq_xn 1))) (by decide +kernel))
    · exact va_Nc.of (hs (.not (.castable (zq_xn 0) (zq_xn 2))) (by decide +kernel))
    · exact va_Nc.of (hs (.not (.castable (zq_xn 1) (zq_xn 0))) (by decide +kernel))
    · exact va_Nc.of (hs (.not (.castable (zq_xn 1) (zq_xn 2))) (by decide +kernel))
    · exact va_Nc.of (hs (.not (.castable (zq_xn 2) (zq_xn 0))) (by decide +kernel))
    · exact va_Nc.of (hs (.not (.castable (zq_xn 2) (zq_xn 1))) (by decide +kernel))
  obtain ⟨T, hf⟩ := law_pure xs hL s.heap.size
  generalize hS0 : ((fun _ => none, s.heap.size, 0) : zq_S) = S0 at hf
  have hA : ∀ a : Nat, a < s.heap.size → ¬ zq_A S0 a := by
    intro a ha hA
    rw [← hS0] at hA
    rcases hA with h | h
    · exact h rfl
    · exact absurd ha (Nat.not_lt.mpr h)
  have hP : zq_P G S0 s.heap := by rw [← hS0]; exact ⟨rfl, fun a e h => by cases h⟩
  have hini := hts (.initialized Bundle.tN) (List.mem_of_getElem? (i := 42) (by decide +kernel))
  have hJ : zq_J S0 s := ⟨zq_start (hts _ (List.mem_of_getElem? (i := 213) (by decide +kernel))) hini (hs (.isRef (.static Bundle.tN "UNASSIGNED_STACK" Bundle.steD)) (by decide +kernel)) hA, zq_start (hts _ (List.mem_of_getElem? (i := 215) (by decide +kernel))) hini (hs (.isRef (.static Bundle.tN "SUPPRESSED_SENTINEL" Bundle.listD)) (by decide +kernel)) hA⟩
  have Z : Z_Law_law l G S0 T 1 (p, e, s, m, #[Value.ref b], below, meth, c) := ⟨hx, hb, hml, hown, hr, hlocks, hnm, ⟨hT, hGK, hnc⟩, hJ, hP, hl, htb⟩
  have K := c_Law_law hl Z (b := b) (L := L) (xs := xs) ⟨hX, hbl, hA b hbl⟩ hf
  have hent := lv_entry [Value.ref b] (n := 7) (Nat.le_of_ble_eq_true rfl)
  rw [lg_entry_eq]
  refine zq_Wmono (K s.heap [] _ 0 0 hP va_S.rf (fun q e hq => Or.inl (by rw [hq]; simp)) rfl (Nat.le_refl _) (fun _ => rfl) (Nat.le_refl _) (Nat.le_refl _) (by show lv_has _ c.maxLocals _; rw [hml]; exact hent)) ?_
  intro t ht
  obtain ⟨o, h1, h2, h3, h4, h5, h6, h7, h8, L', k, n, h9, h10, h11, h12, h13, h14⟩ := ht
  have ho : o = .returned (some (.int 1)) := h3
  refine ⟨o, h1, h2, ho, ⟨_, ho⟩, h8, (zq_drop h13 (fun q hq => ?_)).mono h9 h10⟩
  have hq2 := h14 q hq
  exact Nat.not_lt.mp (fun hlt => hA _ hlt hq2)
set_option maxHeartbeats 4000000 in
theorem lw_walk (l : Launch) (hl : l.stackTraces = false) (b : Addr) (xs : List Int32) : MetFree l x (headSpec (Jvm.Cond.code x code maxLocals ret :: tables_1) room_1) (lw_P b xs) (fun _ _ _ _ _ => True) lw_Q := by
  refine MetFree.of_bodyS (code := code) (maxLocals := maxLocals) (ret := ret) (by decide) ?_ ?_
  · intro args s m h hn
    obtain ⟨meth, c, h1, h2, h3, h4, h5, h6, -, -⟩ := Cond.code_spec hn (atoms_spec (ws := Jvm.Cond.code x code maxLocals ret :: tables_1) h _ List.mem_cons_self)
    exact ⟨meth, c, h1, h2, h3, h4, h5, h6⟩
  · intro p e s m args below meth c s₁ B hml0 hP _
    obtain ⟨rfl, hx, hbd, hgv⟩ := hP
    obtain ⟨scr, harrAt, hlist, hof, hsmall⟩ := hx
    obtain ⟨hcb, hkn, -, -⟩ := State.arrayAt?_spec harrAt
    have hown : s.vm.findClass R_law = some m.cls := findClass_of_methodNamed B.named
    have hts0 : ∀ c ∈ (Jvm.Cond.code x code maxLocals ret :: tables_1), c.before #[Value.ref b] s = true := atoms_spec (ws := Jvm.Cond.code x code maxLocals ret :: tables_1) B.pre
    have hts : ∀ w ∈ lw_tbl, w.before #[Value.ref b] s = true := k2_hts_sels lw_privs (fun w hw => hts0 w (List.mem_cons_of_mem _ hw)) lw_privs_ok
    have hml : c.maxLocals = 7 := B.maxLocals_eq (hts0 _ List.mem_cons_self)
    have X₀ : Stand p l e room_1 s m #[Value.ref b] below meth c s₁ [] 0 0 := Stand.of_body B
    have hh0 : s₁.heap = s.heap := by rw [B.state]; rfl
    have hsz : scr.slots.size = xs.length := by rw [← Array.length_toList, hlist, List.length_map]
    have hval : ∀ j : Nat, j < xs.length → scr.slots[j]? = some (.int (xs.getD j 0)) := fun j hj => by
      rw [← Array.getElem?_toList, hlist]
      simp [hj]
    have hbl : b < s.heap.size := (Array.getElem?_eq_some_iff.mp hcb).1
    have hX : va_X b xs.length (fun j => xs.getD j 0) s s.heap := ⟨scr, hcb, hof, hkn, hsz, hval⟩
    have K : W p l e room_1 s m #[Value.ref b] below meth c s₁.heap [] 0 0 (lw_Z below #[Value.ref b] s) (entryFrame m ([Value.ref b] : List Value).toArray 7) := by
      rw [hh0]
      obtain ⟨meth', c', g1, g2, g3, g4, g5, g6, g7, -⟩ := Cond.code_spec B.named (hts0 _ List.mem_cons_self)
      cases B.method.symm.trans g1
      have hcc : c' = c := by
        have h := B.here.code
        rw [State.code?_eq, B.method₁] at h
        exact Option.some.inj (g2.symm.trans h)
      have htb : c.exceptionTable.toList = [] := by
        rw [← hcc]
        have h0 : c'.exceptionTable.size = 0 := by simpa [Array.isEmpty] using g7
        exact List.eq_nil_of_length_eq_zero (by simpa using h0)
      exact whole_start l hl hbd ⟨B.exec, B.bytes, B.returns, hml, hown, hts, hX, hbl, B.notSynchronized, hgv⟩ (name_of_methodNamed B.named B.method).1 htb
    obtain ⟨t, a1, o, b1, b2, b3⟩ := K s₁ rfl X₀
    exact ⟨t, o, a1, b1, b2, b3⟩
theorem lw_pre_spec {args : Array Value} {s : State} (h : (Jvm.Cond.and given_1 narrow_1).before args s = true) (hr : rest_1_c.before args s = true) : ∃ (b : Addr) (xs : List Int32), lw_P b xs args s := by
  have hs := flat_of_before _ h
  have hq := flat_of_before _ hr
  have hc : (Cond.count 1).before args s = true := hs _ (by decide +kernel)
  have harr : (Cond.arrayOf (.arg 0) .int).before args s = true := hs _ (by decide +kernel)
  have hle : (Cond.le (.length (.arg 0)) (.int 2560)).before args s = true := hs _ (by decide +kernel)
  have hlen : (Cond.isInt (.length (.arg 0))).before args s = true := hq _ (by decide +kernel)
  have hall : (Cond.all (.arg 0) (.isInt (.elem (.arg 0) (.index 0)))).before args s = true := hq _ (by decide +kernel)
  obtain ⟨b, xs, hb, hx⟩ := State.ints_of_pre rfl harr hlen hall
  have hsm : xs.length < 2 ^ 31 := hx.choose_spec.2.2.2
  have hev : (Term.length (.arg 0)).eval args s none [] s = some (.int xs.length.toInt32) := hx.length_eval hb
  have hv := Cond.le_ints hev (show (Term.int 2560).eval args s none [] s = some (.int 2560) from rfl)
  have hd : xs.length.toInt32 ≤ 2560 := by
    simpa [Cond.before, Cond.holds, hv] using hle
  have hN : xs.length ≤ 2560 := (Int32.ofNat_le_ofNat hsm (by decide)).mp (show Int32.ofNat xs.length ≤ Int32.ofNat 2560 from hd)
  exact ⟨b, xs, Cond.one_arg hc (show args[0]? = some (.ref b) from hb), hx, hN, h⟩
theorem lw_comes (l : Launch) (hl : l.stackTraces = false) : Comes l x (Jvm.Cond.code x code maxLocals ret :: tables_1) room_1 (fun tb e args s => Calls_1 tb e args s ∧ rest_1 tb e args s ∧ Pre_1 tb e args s)
    (fun _ _ args s o t => lw_Q args s o t) := by
  intro p e ha hc hk s m args below hf hfit hheap happ hpre
  obtain ⟨b, xs, hP⟩ := lw_pre_spec hpre.2.2 hpre.2.1
  obtain ⟨k, o, h1, h2, h3, hQ⟩ := lw_walk l hl b xs p e ha hc hk s m args below hf ((Spec.applies_iff_loose hf).mp happ).1 hP trivial
  exact ⟨k, o, h1, h2, h3, hQ⟩
theorem lw_frame {s t : State} {o : Outcome} {args : Array Value} (h : Framed s o t [] 601024 7293034) :
    Framed s o t (fieldLocs frame_1_writes args s ++ arrayLocs frame_1_arrays args s ++ staticLocs frame_1_statics s) 601024 7293034 := h
theorem lw_limb (L : Cond) (hL : ∀ (args : Array Value) (s t : State), L.after args s (.returned (some (.int 1))) t = true) :
    ArmFor flags0 classFile x code maxLocals ret World_1 tables_1 room_1 Calls_1 rest_1 Pre_1
      (fun tb e a s o t => postC L tb e a s o t ∧ Framed s o t (fieldLocs frame_1_writes a s ++ arrayLocs frame_1_arrays a s ++ staticLocs frame_1_statics s) 601024 7293034) := by
  intro l hfl _ _ p e ha hc hk s m args below hf hfit hheap happ hpre
  have hl : l.stackTraces = false := by unfold Launch.stackTraces; rw [hfl]; decide +kernel
  obtain ⟨k, o, h1, h2, h3, rfl, hF⟩ := lw_comes l hl p e ha hc hk s m args below hf hfit hheap happ hpre
  exact ⟨k, _, h1, h2, h3, hL args s _, lw_frame hF⟩
theorem i_vc : Claimed_1_1 ∧ Claimed_1_2 := ⟨lw_limb limb_1_1 (fun args s t => by simp [limb_1_1, Cond.after, Cond.holds, Cond.value]), lw_limb limb_1_2 (fun args s t => Cond.after_iff.mpr (by
  first | (rw [show limb_1_2 = Cond.eq .result (.int 1) from rfl, Cond.eq_ints (x := 1) (y := 1) rfl rfl]; simp; done) | (simp [limb_1_2, Cond.value, Term.eval]; done)))⟩
