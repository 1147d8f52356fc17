/-! a new exception is thrown; a callee's exception is caught -/
theorem zq_isR {C n d : String} {A : Nat → Prop} {s : State} {args : Array Value} (h : va_Zq C n d A s s.heap) : (Cond.isRef (.static C n d)).before args s = true := by
  rcases h with ⟨cf, kf, fi, f, a, cell, h1, h2, h3, h4, h5, h6, h7, -⟩ | ⟨t, cf, kf, fi, f, a, cell, h1, h2, h3, h4, h5, h6, h7, -⟩
  · have ev : (Term.static C n d).eval args s none [] s = some .null := by simp [Term.eval, State.fieldNamed?, h1, h2, h4, h5, h6, h7]
    simp [Cond.before, Cond.holds, Cond.value, ev]
  · have ev : (Term.static C n d).eval args s none [] s = some (.ref t) := by simp [Term.eval, State.fieldNamed?, h1, h2, h4, h5, h6, h7]
    simp [Cond.before, Cond.holds, Cond.value, ev]
theorem zq_lay {C n d : String} {A : Nat → Prop} {s : State} {args : Array Value} (h : zq_L C n d A s s.heap) : (Cond.laysStatic C n d).before args s = true := by
  obtain ⟨c, k, i, f, a, cell, h1, h2, h3, h4, h5, h6, h7, h8, h9, -⟩ := h
  show (Cond.laysStatic C n d).holds args s none s [] = true
  exact Cond.laysStatic_of h1 h2 h3 h4 h5 h6 h7 h8 h9
theorem zq_same {s u : State} {k n : Nat} (h : s.sameButNew u [] k n) {b : Nat} (hb : b < s.heap.size) : u.heap[b]? = s.heap[b]? := by
  have hc : s.heap[b]? = some s.heap[b] := Array.getElem?_eq_getElem hb
  obtain ⟨c', h1, h2, h3, h4⟩ := h.2.2.2.2.2 b _ hc
  rw [hc, h1]
  have hs : c'.slots = s.heap[b].slots := Array.ext_getElem? (fun i => h4 i (by simp))
  rw [h2, hs]
def zq_up : List String := ["java/lang/RuntimeException", "java/lang/Exception"]
def zq_ow (own : String) (ic k : Nat) : Prop := Bundle.fit (zq_xn k) = true ∧ ∀ w ∈ Bundle.ownAtoms own ic (zq_xn k) zq_up, w ∈ zq_T ∨ (w = .isRef (.static Bundle.tN "UNASSIGNED_STACK" Bundle.steD) ∨ w = .isRef (.static Bundle.tN "SUPPRESSED_SENTINEL" Bundle.listD)) ∨ w = .laysStatic Bundle.tN "UNASSIGNED_STACK" Bundle.steD ∨ w = .laysStatic Bundle.tN "SUPPRESSED_SENTINEL" Bundle.listD
section ZQ7
variable {Y : zq_Y} {X : zq_X} {cc : ByteArray} {nL : Nat} {own nm : String} {ret : Option FieldType} {hh : List (Nat × Nat × Nat × Nat)} {pc : Nat} {lo : List (Nat × Value)} {st : List Value} {S : zq_S} {kc ks : Nat}
set_option maxHeartbeats 1000000 in
theorem zq_throw (Z : zq_ok Y X cc nL own nm ret []) {ia ib ic : Nat} {tx : String} (k : Nat) (d0 : decode cc pc = .ok (.new ia, 3)) (d3 : decode cc (pc + 3) = .ok (.dup, 1)) (d4 : decode cc (pc + 3 + 1) = .ok (.ldc ib, 2)) (d6 : decode cc (pc + 3 + 1 + 2) = .ok (.invokespecial ic, 3)) (d9 : decode cc (pc + 3 + 1 + 2 + 3) = .ok (.athrow, 1))
    (w1 : Cond.classLink own ia (zq_xn k) ∈ zq_T) (w2 : Cond.instantiable (zq_xn k) 6 ∈ zq_T) (w3 : Cond.initialized (zq_xn k) ∈ zq_T) (w4 : Cond.stringRef own ib tx ∈ zq_T) (wx : zq_ow own ic k) (e1 : ((S.1, S.2.1 + 1, S.2.2) : zq_S) = yT Y) (e2 : (.inr k : zq_R) = yr Y) (h0 : S.2.1 = (yS Y).2.1 ∧ S.2.2 = (yS Y).2.2)
    (hr : (1 ≤ (yR Y).cells ∧ ks + 6 ≤ (yR Y).slots) ∧ 6 ≤ (yR Y).frames ∧ 100 ≤ (yR Y).locals) : zq_W Y X pc lo [] S kc ks := by
  intro H locs ls ce sl a1 a2 a3 a4 a5 a6 a7 a8 a9
  have hl0 : locs = [] := a6 h0.2
  have hce0 : ce = 0 := by omega
  subst hl0
  subst hce0
  obtain ⟨cX, kX, hfX, hkX, -⟩ := Cond.instantiable_spec (Z.w w2)
  refine W.newcK Z.x Z.b Z.o (Z.w w1) (Z.w w2) (Z.w w3) rfl d0 (by omega) (by omega) hfX a1.1 fun H1 kC hkC f1 z1 o1 => ?_
  refine lv_dup Z.x Z.b d3 rfl ?_
  obtain ⟨-, -, -, str, -, -, -, -, -, hev⟩ := Cond.stringRef_spec (args := #[]) Z.o (Z.i.1 _ w4 #[])
  refine va_ldcS Z.x Z.b Z.o (vk_R.of (Z.i.1 _ w4 #[]) hev) d4 ?_
  intro T1 hT1 X1
  have htr : (xe X).platform.stackTraces = false := by rw [X1.admits.platform]; exact Z.t
  have hat : ∀ w ∈ Bundle.ownAtoms own ic (zq_xn k) zq_up, w.before (xa X) (xs X) = true := by
    intro w hw
    rcases wx.2 w hw with h | (rfl | rfl) | rfl | rfl
    · exact Z.w h
    · exact zq_isR Z.j.1.1
    · exact zq_isR Z.j.2.1
    · exact zq_lay Z.j.1.2
    · exact zq_lay Z.j.2.2
  have hsS : (xs X).heap.size = S.2.1 := by rw [Z.p.1]; exact h0.1.symm
  obtain ⟨U, hsteps, hrun, hend, hW, hsame, ce, hce, K⟩ := X1.ctorThrowS Z.x htr (own := own) (cls := zq_xn k) (names := zq_up) (ic := ic) Z.o wx.1 (by decide +kernel) hat (fun y hy => by cases hy) hfX hkC (a := S.2.1) (by rw [hT1]; exact f1) (by omega) (msg := .ref str) rfl
    (g := F0 (xm X) (pc + 3 + 1 + 2) ls [.ref str, .ref S.2.1, .ref S.2.1]) rfl a9.1 rfl rfl (rest := []) rfl (by rw [Z.b]; exact d6) (by rw [Z.b]; exact d9) (by rw [Z.h]; intro y hy; cases hy) (by show 2 + 3 < _; omega) (by show 2 * 0 + (1 + 0) + (13 * (2 + 1) + 42) ≤ _; omega) Z.k
  refine ⟨U, hsteps, .threw S.2.1, hrun, hend, ?_⟩
  have hlt : S.2.1 < U.heap.size := (Array.getElem?_eq_some_iff.mp hce).1
  have hub : U.heap.size ≤ (xs X).heap.size + (0 + 1) := hsame.2.2.1
  have hU : ∀ b : Nat, b < (xs X).heap.size → U.heap[b]? = (xs X).heap[b]? := fun b hb => zq_same hsame hb
  have hH : ∀ b : Nat, b < (xs X).heap.size → H[b]? = (xs X).heap[b]? := fun b hb => by
    rw [← o1 b (by omega), ← hT1]
    exact zq_same (u := T1.setVm (xs X).vm) X1.same hb
  refine ⟨by rw [← e2]; exact ⟨S.2.1, ce, rfl, hce, K.vm, K.cls⟩, by rw [← e1]; exact ⟨by show U.heap.size = S.2.1 + 1; omega, fun b e' hb => (a1.2 b e' hb).kept (by
    have := a1.lt hb
    have hHs := a1.1
    rw [hU b (by omega), hH b (by omega)])⟩, fun q hq _ => hU q (by omega), by rw [← e1]; exact a3, by rw [← e1]; exact a5, hW, [], 0 + 1, sl + 6, by omega, by omega, by rw [← e1]; show S.2.1 + 1 = _; omega, fun _ => rfl, hsame, fun q hq => by cases hq⟩
end ZQ7
