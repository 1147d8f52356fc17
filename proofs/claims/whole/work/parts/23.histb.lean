theorem d_Hist_endGroup_0 : decode b_Hist_endGroup 0 = .ok (.aload_n 0, 1) := by decide +kernel
theorem d_Hist_endGroup_1 : decode b_Hist_endGroup 1 = .ok (.getfield 28, 3) := by decide +kernel
theorem d_Hist_endGroup_4 : decode b_Hist_endGroup 4 = .ok (.ifCond .ne 5, 3) := by decide +kernel
theorem d_Hist_endGroup_7 : decode b_Hist_endGroup 7 = .ok (.iconst 0, 1) := by decide +kernel
theorem d_Hist_endGroup_8 : decode b_Hist_endGroup 8 = .ok (.ireturn, 1) := by decide +kernel
theorem d_Hist_endGroup_9 : decode b_Hist_endGroup 9 = .ok (.aload_n 0, 1) := by decide +kernel
theorem d_Hist_endGroup_10 : decode b_Hist_endGroup 10 = .ok (.invokevirtual 31, 3) := by decide +kernel
theorem d_Hist_endGroup_13 : decode b_Hist_endGroup 13 = .ok (.getfield 39, 3) := by decide +kernel
theorem d_Hist_endGroup_16 : decode b_Hist_endGroup 16 = .ok (.istore_n 1, 1) := by decide +kernel
theorem d_Hist_endGroup_17 : decode b_Hist_endGroup 17 = .ok (.aload_n 0, 1) := by decide +kernel
theorem d_Hist_endGroup_18 : decode b_Hist_endGroup 18 = .ok (.iconst 0, 1) := by decide +kernel
theorem d_Hist_endGroup_19 : decode b_Hist_endGroup 19 = .ok (.putfield 28, 3) := by decide +kernel
theorem d_Hist_endGroup_22 : decode b_Hist_endGroup 22 = .ok (.aload_n 0, 1) := by decide +kernel
theorem d_Hist_endGroup_23 : decode b_Hist_endGroup 23 = .ok (.dup, 1) := by decide +kernel
theorem d_Hist_endGroup_24 : decode b_Hist_endGroup 24 = .ok (.getfield 17, 3) := by decide +kernel
theorem d_Hist_endGroup_27 : decode b_Hist_endGroup 27 = .ok (.iconst 1, 1) := by decide +kernel
theorem d_Hist_endGroup_28 : decode b_Hist_endGroup 28 = .ok (.iadd, 1) := by decide +kernel
theorem d_Hist_endGroup_29 : decode b_Hist_endGroup 29 = .ok (.putfield 17, 3) := by decide +kernel
theorem d_Hist_endGroup_32 : decode b_Hist_endGroup 32 = .ok (.aload_n 0, 1) := by decide +kernel
theorem d_Hist_endGroup_33 : decode b_Hist_endGroup 33 = .ok (.getfield 17, 3) := by decide +kernel
theorem d_Hist_endGroup_36 : decode b_Hist_endGroup 36 = .ok (.istore_n 2, 1) := by decide +kernel
theorem d_Hist_endGroup_37 : decode b_Hist_endGroup 37 = .ok (.iload_n 2, 1) := by decide +kernel
theorem d_Hist_endGroup_38 : decode b_Hist_endGroup 38 = .ok (.ifCond .le 20, 3) := by decide +kernel
theorem d_Hist_endGroup_41 : decode b_Hist_endGroup 41 = .ok (.aload_n 0, 1) := by decide +kernel
theorem d_Hist_endGroup_42 : decode b_Hist_endGroup 42 = .ok (.invokevirtual 45, 3) := by decide +kernel
theorem d_Hist_endGroup_45 : decode b_Hist_endGroup 45 = .ok (.ifCond .eq 13, 3) := by decide +kernel
theorem d_Hist_endGroup_48 : decode b_Hist_endGroup 48 = .ok (.aload_n 0, 1) := by decide +kernel
theorem d_Hist_endGroup_49 : decode b_Hist_endGroup 49 = .ok (.invokevirtual 49, 3) := by decide +kernel
theorem d_Hist_endGroup_52 : decode b_Hist_endGroup 52 = .ok (.iinc 2 (-1), 3) := by decide +kernel
theorem d_Hist_endGroup_55 : decode b_Hist_endGroup 55 = .ok (.goto (-18), 3) := by decide +kernel
theorem d_Hist_endGroup_58 : decode b_Hist_endGroup 58 = .ok (.iload_n 1, 1) := by decide +kernel
theorem d_Hist_endGroup_59 : decode b_Hist_endGroup 59 = .ok (.ireturn, 1) := by decide +kernel
def f_Hist_endGroup_58  (v1 : Int32) (S : zq_S) : Option (zq_S × Int32) :=
  some (S, v1)
def f_Hist_endGroup_37 (k37 : Nat → Int32 → Int32 → zq_S → Option (zq_S × Int32)) (a0 : Nat) (v1 : Int32) (v2 : Int32) (S : zq_S) : Option (zq_S × Int32) :=
  if v2 ≤ 0 then
    f_Hist_endGroup_58  v1 S
  else
    if zs_is S a0 2 = true then
    zs_b (f_Hist_isTooMuch a0 S) fun S2 x3 =>
    if x3 = 0 then
      f_Hist_endGroup_58  v1 S2
    else
      if zs_is S2 a0 2 = true then
      zs_b (f_Hist_forgetEarliest a0 S2) fun S8 _ =>
      k37 a0 v1 (v2 + (-1 : Int32)) S8
      else none
    else none
def g_Hist_endGroup_37  : Nat → Nat → Int32 → Int32 → zq_S → Option (zq_S × Int32)
  | 0 => fun _ _ _ _ => none
  | n + 1 => fun a0 v1 v2 S => f_Hist_endGroup_37  (g_Hist_endGroup_37  n) a0 v1 v2 S
def f_Hist_endGroup (a0 : Nat) (S : zq_S) : Option (zq_S × Int32) :=
  (zs_gi S a0 2 4).bind fun x1 =>
  if x1 = 0 then
    some (S, (0 : Int32))
  else
    if zs_is S a0 2 = true then
    zs_b (f_Hist_groupBeingMade a0 S) fun S4 x5 =>
    (x5).bind fun a9 =>
    (zs_gi S4 a9 1 1).bind fun x11 =>
    (zs_pz S4 a0 2 4 (0 : Int32)).bind fun S13 =>
    (zs_gi S13 a0 2 1).bind fun x15 =>
    (zs_p S13 a0 2 1 (.int (x15 + (1 : Int32)))).bind fun S17 =>
    (zs_gi S17 a0 2 1).bind fun x19 =>
    g_Hist_endGroup_37  zq_F a0 x11 x19 S17
    else none
set_option maxHeartbeats 4000000 in
set_option maxRecDepth 100000 in
theorem r_Hist_endGroup_58 {l : Launch} (hl : l.stackTraces = false) {G : zq_G} {S0 T : zq_S} {v : Int32} {X : zq_X} (Z : Z_Hist_endGroup l G S0 T v X) {v1 : Int32} {S : zq_S} (hf : f_Hist_endGroup_58  v1 S = some (T, v)) : zq_W (Y_Hist_endGroup l G S0 T v) X 58 [(1, .int v1)] [] S 3 605 := by
  unfold f_Hist_endGroup_58 at hf
  refine zq_iload_n Z d_Hist_endGroup_58 0 rfl ?_
  exact zq_iret Z d_Hist_endGroup_59 (zs_1 hf) (zs_2 (fun z => (.inl (some (.int z)) : zq_R)) hf) ⟨(Nat.le_of_ble_eq_true rfl), (Nat.le_of_ble_eq_true rfl)⟩
set_option maxHeartbeats 4000000 in
set_option maxRecDepth 100000 in
theorem r_Hist_endGroup_37 {l : Launch} (hl : l.stackTraces = false) {G : zq_G} {S0 T : zq_S} {v : Int32} {X : zq_X} (Z : Z_Hist_endGroup l G S0 T v X) {k37 : Nat → Int32 → Int32 → zq_S → Option (zq_S × Int32)} (hk37 : ∀ (a0 : Nat) (v1 : Int32) (v2 : Int32) (S : zq_S), k37 a0 v1 v2 S = some (T, v) → zq_W (Y_Hist_endGroup l G S0 T v) X 37 [(0, .ref a0), (1, .int v1), (2, .int v2)] [] S 3 605) {a0 : Nat} {v1 : Int32} {v2 : Int32} {S : zq_S} (hf : f_Hist_endGroup_37 k37 a0 v1 v2 S = some (T, v)) : zq_W (Y_Hist_endGroup l G S0 T v) X 37 [(0, .ref a0), (1, .int v1), (2, .int v2)] [] S 3 605 := by
  unfold f_Hist_endGroup_37 at hf
  refine zq_iload_n Z d_Hist_endGroup_37 2 rfl ?_
  refine zq_if_le Z 58 d_Hist_endGroup_38 (by decide) (fun q => ?_) (fun q => ?_)
  · replace hf := zs_T q hf
    refine zq_sub (lo' := [(1, .int v1)]) [1] rfl ?_
    exact r_Hist_endGroup_58 hl Z  hf
  · replace hf := zs_N q hf
    refine zq_aload_n Z d_Hist_endGroup_41 0 rfl ?_
    have hq := zs_C hf
    clear hf
    obtain ⟨h4, hf⟩ := hq
    obtain ⟨fs5, e6⟩ := zs_isS h4
    have hq := zs_bS hf
    clear hf
    obtain ⟨S2, x3, h1, hf⟩ := hq
    refine zq_contR (zq_stepV Z zq_cf1 (c_Hist_isTooMuch hl h1) 2 rfl e6 d_Hist_endGroup_42 m_73 m_75 m_76 m_74 m_60 p_Hist_isTooMuch ⟨(Nat.le_of_ble_eq_true rfl), (Nat.le_of_ble_eq_true rfl), (Nat.le_of_ble_eq_true rfl), (Nat.le_of_ble_eq_true rfl)⟩ rfl (Nat.le_of_ble_eq_true rfl)) Z.p ?_
    refine zq_if_eq Z 58 d_Hist_endGroup_45 (by decide) (fun q => ?_) (fun q => ?_)
    · replace hf := zs_T q hf
      refine zq_sub (lo' := [(1, .int v1)]) [1] rfl ?_
      exact r_Hist_endGroup_58 hl Z  hf
    · replace hf := zs_N q hf
      refine zq_aload_n Z d_Hist_endGroup_48 0 rfl ?_
      have hq := zs_C hf
      clear hf
      obtain ⟨h10, hf⟩ := hq
      obtain ⟨fs11, e12⟩ := zs_isS h10
      have hq := zs_bS hf
      clear hf
      obtain ⟨S8, x9, h7, hf⟩ := hq
      refine zq_contR (zq_stepV Z zq_cf1 (c_Hist_forgetEarliest hl h7) 2 rfl e12 d_Hist_endGroup_49 m_77 m_79 m_80 m_78 m_60 p_Hist_forgetEarliest ⟨(Nat.le_of_ble_eq_true rfl), (Nat.le_of_ble_eq_true rfl), (Nat.le_of_ble_eq_true rfl), (Nat.le_of_ble_eq_true rfl)⟩ rfl (Nat.le_of_ble_eq_true rfl)) Z.p ?_
      refine zq_iinc Z (v2 + (-1 : Int32)) [(2, .int (v2 + (-1 : Int32))), (0, .ref a0), (1, .int v1)] d_Hist_endGroup_52 2 rfl rfl (by decide) rfl ?_
      refine zq_goto Z 37 d_Hist_endGroup_55 (by decide) ?_
      refine zq_sub (lo' := [(0, .ref a0), (1, .int v1), (2, .int (v2 + (-1 : Int32)))]) [1, 2, 0] rfl ?_
      exact hk37 _ _ _ _ hf
theorem w_Hist_endGroup_37 {l : Launch} (hl : l.stackTraces = false) {G : zq_G} {S0 T : zq_S} {v : Int32} {X : zq_X} (Z : Z_Hist_endGroup l G S0 T v X) : ∀ (n : Nat) (a0 : Nat) (v1 : Int32) (v2 : Int32) (S : zq_S), g_Hist_endGroup_37  n a0 v1 v2 S = some (T, v) → zq_W (Y_Hist_endGroup l G S0 T v) X 37 [(0, .ref a0), (1, .int v1), (2, .int v2)] [] S 3 605 := by
  intro n
  induction n with
  | zero => intro a0 v1 v2 S hf; cases hf
  | succ n ih =>
    intro a0 v1 v2 S hf
    have hf : f_Hist_endGroup_37  (g_Hist_endGroup_37  n) a0 v1 v2 S = some (T, v) := hf
    exact r_Hist_endGroup_37 hl Z  ih hf
set_option maxHeartbeats 4000000 in
set_option maxRecDepth 100000 in
theorem c_Hist_endGroup {l : Launch} (hl : l.stackTraces = false) {G : zq_G} {a0 : Nat} {S0 T : zq_S} {v : Int32} (hf : f_Hist_endGroup a0 S0 = some (T, v)) : zq_M l y_Hist_endGroup (.code y_Hist_endGroup b_Hist_endGroup 3 (some (.int))) rm_Hist_endGroup G [.ref a0] S0 ((.inl (some (.int v)) : zq_R)) T := by
  refine zq_Mof (lo := [(0, .ref a0)]) hl (by decide) (Nat.le_of_ble_eq_true rfl) rfl (fun X Z => ?_)
  have Z : Z_Hist_endGroup l G S0 T v X := Z
  show zq_W (Y_Hist_endGroup l G S0 T v) X 0 [(0, .ref a0)] [] S0 0 0
  unfold f_Hist_endGroup at hf
  refine zq_aload_n Z d_Hist_endGroup_0 0 rfl ?_
  have hq := Option.bind_eq_some_iff.mp hf
  clear hf
  obtain ⟨x1, h2, hf⟩ := hq
  refine zr_geti Z cd_Hist 4 d_Hist_endGroup_1 (by decide) m_44 h2 ?_
  refine zq_if_ne Z 9 d_Hist_endGroup_4 (by decide) (fun q => ?_) (fun q => ?_)
  · replace hf := zs_N q hf
    refine zq_aload_n Z d_Hist_endGroup_9 0 rfl ?_
    have hq := zs_C hf
    clear hf
    obtain ⟨h6, hf⟩ := hq
    obtain ⟨fs7, e8⟩ := zs_isS h6
    have hq := zs_bS hf
    clear hf
    obtain ⟨S4, x5, h3, hf⟩ := hq
    refine zq_contR (zq_stepV Z zq_cf1 (c_Hist_groupBeingMade hl h3) 2 rfl e8 d_Hist_endGroup_10 m_56 m_58 m_59 m_57 m_60 p_Hist_groupBeingMade ⟨(Nat.le_of_ble_eq_true rfl), (Nat.le_of_ble_eq_true rfl), (Nat.le_of_ble_eq_true rfl), (Nat.le_of_ble_eq_true rfl)⟩ rfl (Nat.le_of_ble_eq_true rfl)) Z.p ?_
    have hq := Option.bind_eq_some_iff.mp hf
    clear hf
    obtain ⟨a9, h10, hf⟩ := hq
    subst h10
    have hq := Option.bind_eq_some_iff.mp hf
    clear hf
    obtain ⟨x11, h12, hf⟩ := hq
    refine zr_geti Z cd_Group 1 d_Hist_endGroup_13 (by decide) m_54 h12 ?_
    refine zq_istore_n Z rfl [(1, .int x11), (0, .ref a0)] d_Hist_endGroup_16 (by decide) rfl ?_
    refine zq_aload_n Z d_Hist_endGroup_17 1 rfl ?_
    refine zq_iconst Z (0 : Int32) d_Hist_endGroup_18 (by decide) ?_
    have hq := Option.bind_eq_some_iff.mp hf
    clear hf
    obtain ⟨S13, h14, hf⟩ := hq
    refine zr_putz Z cd_Hist 4 d_Hist_endGroup_19 (by decide) m_44 rfl (by decide +kernel) h14 ?_
    refine zq_aload_n Z d_Hist_endGroup_22 1 rfl ?_
    refine zq_dup Z d_Hist_endGroup_23 rfl ?_
    have hq := Option.bind_eq_some_iff.mp hf
    clear hf
    obtain ⟨x15, h16, hf⟩ := hq
    refine zr_geti Z cd_Hist 1 d_Hist_endGroup_24 (by decide) m_41 h16 ?_
    refine zq_iconst Z (1 : Int32) d_Hist_endGroup_27 (by decide) ?_
    refine zq_iadd Z d_Hist_endGroup_28 ?_
    have hq := Option.bind_eq_some_iff.mp hf
    clear hf
    obtain ⟨S17, h18, hf⟩ := hq
    refine zr_puti Z cd_Hist 1 d_Hist_endGroup_29 (by decide) m_41 rfl (by decide +kernel) h18 ?_
    refine zq_aload_n Z d_Hist_endGroup_32 1 rfl ?_
    have hq := Option.bind_eq_some_iff.mp hf
    clear hf
    obtain ⟨x19, h20, hf⟩ := hq
    refine zr_geti Z cd_Hist 1 d_Hist_endGroup_33 (by decide) m_41 h20 ?_
    refine zq_istore_n Z rfl [(2, .int x19), (1, .int x11), (0, .ref a0)] d_Hist_endGroup_36 (by decide) rfl ?_
    refine zq_sub (lo' := [(0, .ref a0), (1, .int x11), (2, .int x19)]) [2, 1, 0] rfl ?_
    exact w_Hist_endGroup_37 hl Z  _ _ _ _ _ hf
  · replace hf := zs_T q hf
    refine zq_iconst Z (0 : Int32) d_Hist_endGroup_7 (by decide) ?_
    exact zq_iret Z d_Hist_endGroup_8 (zs_1 hf) (zs_2 (fun z => (.inl (some (.int z)) : zq_R)) hf) ⟨(Nat.le_of_ble_eq_true rfl), (Nat.le_of_ble_eq_true rfl)⟩
theorem d_Hist_stepBack_0 : decode b_Hist_stepBack 0 = .ok (.aload_n 0, 1) := by decide +kernel
theorem d_Hist_stepBack_1 : decode b_Hist_stepBack 1 = .ok (.getfield 24, 3) := by decide +kernel
theorem d_Hist_stepBack_4 : decode b_Hist_stepBack 4 = .ok (.ifCond .ne 22, 3) := by decide +kernel
theorem d_Hist_stepBack_7 : decode b_Hist_stepBack 7 = .ok (.aload_n 0, 1) := by decide +kernel
theorem d_Hist_stepBack_8 : decode b_Hist_stepBack 8 = .ok (.getfield 17, 3) := by decide +kernel
theorem d_Hist_stepBack_11 : decode b_Hist_stepBack 11 = .ok (.ifCond .le 15, 3) := by decide +kernel
theorem d_Hist_stepBack_14 : decode b_Hist_stepBack 14 = .ok (.aload_n 0, 1) := by decide +kernel
theorem d_Hist_stepBack_15 : decode b_Hist_stepBack 15 = .ok (.getfield 17, 3) := by decide +kernel
theorem d_Hist_stepBack_18 : decode b_Hist_stepBack 18 = .ok (.aload_n 0, 1) := by decide +kernel
theorem d_Hist_stepBack_19 : decode b_Hist_stepBack 19 = .ok (.getfield 11, 3) := by decide +kernel
theorem d_Hist_stepBack_22 : decode b_Hist_stepBack 22 = .ok (.arraylength, 1) := by decide +kernel
theorem d_Hist_stepBack_23 : decode b_Hist_stepBack 23 = .ok (.if_icmp .le 5, 3) := by decide +kernel
theorem d_Hist_stepBack_26 : decode b_Hist_stepBack 26 = .ok (.aconst_null, 1) := by decide +kernel
theorem d_Hist_stepBack_27 : decode b_Hist_stepBack 27 = .ok (.areturn, 1) := by decide +kernel
theorem d_Hist_stepBack_28 : decode b_Hist_stepBack 28 = .ok (.aload_n 0, 1) := by decide +kernel
theorem d_Hist_stepBack_29 : decode b_Hist_stepBack 29 = .ok (.dup, 1) := by decide +kernel
theorem d_Hist_stepBack_30 : decode b_Hist_stepBack 30 = .ok (.getfield 17, 3) := by decide +kernel
theorem d_Hist_stepBack_33 : decode b_Hist_stepBack 33 = .ok (.iconst 1, 1) := by decide +kernel
theorem d_Hist_stepBack_34 : decode b_Hist_stepBack 34 = .ok (.isub, 1) := by decide +kernel
theorem d_Hist_stepBack_35 : decode b_Hist_stepBack 35 = .ok (.putfield 17, 3) := by decide +kernel
theorem d_Hist_stepBack_38 : decode b_Hist_stepBack 38 = .ok (.aload_n 0, 1) := by decide +kernel
theorem d_Hist_stepBack_39 : decode b_Hist_stepBack 39 = .ok (.dup, 1) := by decide +kernel
theorem d_Hist_stepBack_40 : decode b_Hist_stepBack 40 = .ok (.getfield 21, 3) := by decide +kernel
theorem d_Hist_stepBack_43 : decode b_Hist_stepBack 43 = .ok (.iconst 1, 1) := by decide +kernel
theorem d_Hist_stepBack_44 : decode b_Hist_stepBack 44 = .ok (.iadd, 1) := by decide +kernel
theorem d_Hist_stepBack_45 : decode b_Hist_stepBack 45 = .ok (.putfield 21, 3) := by decide +kernel
theorem d_Hist_stepBack_48 : decode b_Hist_stepBack 48 = .ok (.aload_n 0, 1) := by decide +kernel
theorem d_Hist_stepBack_49 : decode b_Hist_stepBack 49 = .ok (.getfield 11, 3) := by decide +kernel
theorem d_Hist_stepBack_52 : decode b_Hist_stepBack 52 = .ok (.aload_n 0, 1) := by decide +kernel
theorem d_Hist_stepBack_53 : decode b_Hist_stepBack 53 = .ok (.getfield 17, 3) := by decide +kernel
theorem d_Hist_stepBack_56 : decode b_Hist_stepBack 56 = .ok (.aaload, 1) := by decide +kernel
theorem d_Hist_stepBack_57 : decode b_Hist_stepBack 57 = .ok (.areturn, 1) := by decide +kernel
def f_Hist_stepBack_26   (S : zq_S) : Option (zq_S × Option Nat) :=
  some (S, none)
def f_Hist_stepBack (a0 : Nat) (S : zq_S) : Option (zq_S × Option Nat) :=
  (zs_gi S a0 2 3).bind fun x1 =>
  if x1 = 0 then
    (zs_gi S a0 2 1).bind fun x3 =>
    if x3 ≤ 0 then
      f_Hist_stepBack_26   S
    else
      (zs_gi S a0 2 1).bind fun x5 =>
      (zs_gr S a0 2 0).bind fun x7 =>
      (x7).bind fun a9 =>
      (zs_len S a9 1).bind fun x11 =>
      if x5 ≤ x11 then
        (zs_gi S a0 2 1).bind fun x13 =>
        (zs_p S a0 2 1 (.int (x13 - (1 : Int32)))).bind fun S15 =>
        (zs_gi S15 a0 2 2).bind fun x17 =>
        (zs_p S15 a0 2 2 (.int (x17 + (1 : Int32)))).bind fun S19 =>
        (zs_gr S19 a0 2 0).bind fun x21 =>
        (zs_gi S19 a0 2 1).bind fun x23 =>
        (x21).bind fun a25 =>
        (zs_aal S19 a25 1 x23).bind fun x27 =>
        some (S19, x27)
      else
        f_Hist_stepBack_26   S
  else
    f_Hist_stepBack_26   S
set_option maxHeartbeats 4000000 in
set_option maxRecDepth 100000 in
theorem r_Hist_stepBack_26 {l : Launch} (hl : l.stackTraces = false) {G : zq_G} {S0 T : zq_S} {v : Option Nat} {X : zq_X} (Z : Z_Hist_stepBack l G S0 T v X)  {S : zq_S} (hf : f_Hist_stepBack_26   S = some (T, v)) : zq_W (Y_Hist_stepBack l G S0 T v) X 26 [] [] S 0 0 := by
  unfold f_Hist_stepBack_26 at hf
  refine zq_null Z d_Hist_stepBack_26 ?_
  exact zq_aret (x := none) Z d_Hist_stepBack_27 (zs_1 hf) (zs_2 (fun z => (.inl (some (va_rf z)) : zq_R)) hf) ⟨(Nat.le_of_ble_eq_true rfl), (Nat.le_of_ble_eq_true rfl)⟩
set_option maxHeartbeats 4000000 in
set_option maxRecDepth 100000 in
theorem c_Hist_stepBack {l : Launch} (hl : l.stackTraces = false) {G : zq_G} {a0 : Nat} {S0 T : zq_S} {v : Option Nat} (hf : f_Hist_stepBack a0 S0 = some (T, v)) : zq_M l y_Hist_stepBack (.code y_Hist_stepBack b_Hist_stepBack 1 (some (.object "ChangeTracker$Group"))) rm_Hist_stepBack G [.ref a0] S0 ((.inl (some (va_rf v)) : zq_R)) T := by
  refine zq_Mof (lo := [(0, .ref a0)]) hl (by decide) (Nat.le_of_ble_eq_true rfl) rfl (fun X Z => ?_)
  have Z : Z_Hist_stepBack l G S0 T v X := Z
  show zq_W (Y_Hist_stepBack l G S0 T v) X 0 [(0, .ref a0)] [] S0 0 0
  unfold f_Hist_stepBack at hf
  refine zq_aload_n Z d_Hist_stepBack_0 0 rfl ?_
  have hq := Option.bind_eq_some_iff.mp hf
  clear hf
  obtain ⟨x1, h2, hf⟩ := hq
  refine zr_geti Z cd_Hist 3 d_Hist_stepBack_1 (by decide) m_43 h2 ?_
  refine zq_if_ne Z 26 d_Hist_stepBack_4 (by decide) (fun q => ?_) (fun q => ?_)
  · replace hf := zs_N q hf
    refine zq_sub (lo' := []) [] rfl ?_
    exact r_Hist_stepBack_26 hl Z  hf
  · replace hf := zs_T q hf
    refine zq_aload_n Z d_Hist_stepBack_7 0 rfl ?_
    have hq := Option.bind_eq_some_iff.mp hf
    clear hf
    obtain ⟨x3, h4, hf⟩ := hq
    refine zr_geti Z cd_Hist 1 d_Hist_stepBack_8 (by decide) m_41 h4 ?_
    refine zq_if_le Z 26 d_Hist_stepBack_11 (by decide) (fun q => ?_) (fun q => ?_)
    · replace hf := zs_T q hf
      refine zq_sub (lo' := []) [] rfl ?_
      exact r_Hist_stepBack_26 hl Z  hf
    · replace hf := zs_N q hf
      refine zq_aload_n Z d_Hist_stepBack_14 0 rfl ?_
      have hq := Option.bind_eq_some_iff.mp hf
      clear hf
      obtain ⟨x5, h6, hf⟩ := hq
      refine zr_geti Z cd_Hist 1 d_Hist_stepBack_15 (by decide) m_41 h6 ?_
      refine zq_aload_n Z d_Hist_stepBack_18 0 rfl ?_
      have hq := Option.bind_eq_some_iff.mp hf
      clear hf
      obtain ⟨x7, h8, hf⟩ := hq
      refine zr_getr Z cd_Hist 0 d_Hist_stepBack_19 (by decide) m_40 h8 ?_
      have hq := Option.bind_eq_some_iff.mp hf
      clear hf
      obtain ⟨a9, h10, hf⟩ := hq
      subst h10
      have hq := Option.bind_eq_some_iff.mp hf
      clear hf
      obtain ⟨x11, h12, hf⟩ := hq
      refine zr_len Z 1 (fun _ => rfl) d_Hist_stepBack_22 h12 ?_
      refine zq_icmp_le Z 28 d_Hist_stepBack_23 (by decide) (fun q => ?_) (fun q => ?_)
      · replace hf := zs_T q hf
        refine zq_aload_n Z d_Hist_stepBack_28 0 rfl ?_
        refine zq_dup Z d_Hist_stepBack_29 rfl ?_
        have hq := Option.bind_eq_some_iff.mp hf
        clear hf
        obtain ⟨x13, h14, hf⟩ := hq
        refine zr_geti Z cd_Hist 1 d_Hist_stepBack_30 (by decide) m_41 h14 ?_
        refine zq_iconst Z (1 : Int32) d_Hist_stepBack_33 (by decide) ?_
        refine zq_isub Z d_Hist_stepBack_34 ?_
        have hq := Option.bind_eq_some_iff.mp hf
        clear hf
        obtain ⟨S15, h16, hf⟩ := hq
        refine zr_puti Z cd_Hist 1 d_Hist_stepBack_35 (by decide) m_41 rfl (by decide +kernel) h16 ?_
        refine zq_aload_n Z d_Hist_stepBack_38 0 rfl ?_
        refine zq_dup Z d_Hist_stepBack_39 rfl ?_
        have hq := Option.bind_eq_some_iff.mp hf
        clear hf
        obtain ⟨x17, h18, hf⟩ := hq
        refine zr_geti Z cd_Hist 2 d_Hist_stepBack_40 (by decide) m_42 h18 ?_
        refine zq_iconst Z (1 : Int32) d_Hist_stepBack_43 (by decide) ?_
        refine zq_iadd Z d_Hist_stepBack_44 ?_
        have hq := Option.bind_eq_some_iff.mp hf
        clear hf
        obtain ⟨S19, h20, hf⟩ := hq
        refine zr_puti Z cd_Hist 2 d_Hist_stepBack_45 (by decide) m_42 rfl (by decide +kernel) h20 ?_
        refine zq_aload_n Z d_Hist_stepBack_48 0 rfl ?_
        have hq := Option.bind_eq_some_iff.mp hf
        clear hf
        obtain ⟨x21, h22, hf⟩ := hq
        refine zr_getr Z cd_Hist 0 d_Hist_stepBack_49 (by decide) m_40 h22 ?_
        refine zq_aload_n Z d_Hist_stepBack_52 0 rfl ?_
        have hq := Option.bind_eq_some_iff.mp hf
        clear hf
        obtain ⟨x23, h24, hf⟩ := hq
        refine zr_geti Z cd_Hist 1 d_Hist_stepBack_53 (by decide) m_41 h24 ?_
        have hq := Option.bind_eq_some_iff.mp hf
        clear hf
        obtain ⟨a25, h26, hf⟩ := hq
        subst h26
        have hq := Option.bind_eq_some_iff.mp hf
        clear hf
        obtain ⟨x27, h28, hf⟩ := hq
        refine zr_aaload Z 1 (fun _ => rfl) d_Hist_stepBack_56 h28 ?_
        exact zq_aret (x := x27) Z d_Hist_stepBack_57 (zs_1 hf) (zs_2 (fun z => (.inl (some (va_rf z)) : zq_R)) hf) ⟨(Nat.le_of_ble_eq_true rfl), (Nat.le_of_ble_eq_true rfl)⟩
      · replace hf := zs_N q hf
        refine zq_sub (lo' := []) [] rfl ?_
        exact r_Hist_stepBack_26 hl Z  hf
theorem d_Hist_stepForward_0 : decode b_Hist_stepForward 0 = .ok (.aload_n 0, 1) := by decide +kernel
theorem d_Hist_stepForward_1 : decode b_Hist_stepForward 1 = .ok (.getfield 24, 3) := by decide +kernel
theorem d_Hist_stepForward_4 : decode b_Hist_stepForward 4 = .ok (.ifCond .ne 29, 3) := by decide +kernel
theorem d_Hist_stepForward_7 : decode b_Hist_stepForward 7 = .ok (.aload_n 0, 1) := by decide +kernel
theorem d_Hist_stepForward_8 : decode b_Hist_stepForward 8 = .ok (.getfield 21, 3) := by decide +kernel
theorem d_Hist_stepForward_11 : decode b_Hist_stepForward 11 = .ok (.ifCond .le 22, 3) := by decide +kernel
theorem d_Hist_stepForward_14 : decode b_Hist_stepForward 14 = .ok (.aload_n 0, 1) := by decide +kernel
theorem d_Hist_stepForward_15 : decode b_Hist_stepForward 15 = .ok (.getfield 17, 3) := by decide +kernel
theorem d_Hist_stepForward_18 : decode b_Hist_stepForward 18 = .ok (.ifCond .lt 15, 3) := by decide +kernel
theorem d_Hist_stepForward_21 : decode b_Hist_stepForward 21 = .ok (.aload_n 0, 1) := by decide +kernel
theorem d_Hist_stepForward_22 : decode b_Hist_stepForward 22 = .ok (.getfield 17, 3) := by decide +kernel
theorem d_Hist_stepForward_25 : decode b_Hist_stepForward 25 = .ok (.aload_n 0, 1) := by decide +kernel
theorem d_Hist_stepForward_26 : decode b_Hist_stepForward 26 = .ok (.getfield 11, 3) := by decide +kernel
theorem d_Hist_stepForward_29 : decode b_Hist_stepForward 29 = .ok (.arraylength, 1) := by decide +kernel
theorem d_Hist_stepForward_30 : decode b_Hist_stepForward 30 = .ok (.if_icmp .lt 5, 3) := by decide +kernel
theorem d_Hist_stepForward_33 : decode b_Hist_stepForward 33 = .ok (.aconst_null, 1) := by decide +kernel
theorem d_Hist_stepForward_34 : decode b_Hist_stepForward 34 = .ok (.areturn, 1) := by decide +kernel
theorem d_Hist_stepForward_35 : decode b_Hist_stepForward 35 = .ok (.aload_n 0, 1) := by decide +kernel
theorem d_Hist_stepForward_36 : decode b_Hist_stepForward 36 = .ok (.dup, 1) := by decide +kernel
theorem d_Hist_stepForward_37 : decode b_Hist_stepForward 37 = .ok (.getfield 17, 3) := by decide +kernel
theorem d_Hist_stepForward_40 : decode b_Hist_stepForward 40 = .ok (.iconst 1, 1) := by decide +kernel
theorem d_Hist_stepForward_41 : decode b_Hist_stepForward 41 = .ok (.iadd, 1) := by decide +kernel
theorem d_Hist_stepForward_42 : decode b_Hist_stepForward 42 = .ok (.putfield 17, 3) := by decide +kernel
theorem d_Hist_stepForward_45 : decode b_Hist_stepForward 45 = .ok (.aload_n 0, 1) := by decide +kernel
theorem d_Hist_stepForward_46 : decode b_Hist_stepForward 46 = .ok (.dup, 1) := by decide +kernel
theorem d_Hist_stepForward_47 : decode b_Hist_stepForward 47 = .ok (.getfield 21, 3) := by decide +kernel
theorem d_Hist_stepForward_50 : decode b_Hist_stepForward 50 = .ok (.iconst 1, 1) := by decide +kernel
theorem d_Hist_stepForward_51 : decode b_Hist_stepForward 51 = .ok (.isub, 1) := by decide +kernel
theorem d_Hist_stepForward_52 : decode b_Hist_stepForward 52 = .ok (.putfield 21, 3) := by decide +kernel
theorem d_Hist_stepForward_55 : decode b_Hist_stepForward 55 = .ok (.aload_n 0, 1) := by decide +kernel
theorem d_Hist_stepForward_56 : decode b_Hist_stepForward 56 = .ok (.getfield 11, 3) := by decide +kernel
theorem d_Hist_stepForward_59 : decode b_Hist_stepForward 59 = .ok (.aload_n 0, 1) := by decide +kernel
theorem d_Hist_stepForward_60 : decode b_Hist_stepForward 60 = .ok (.getfield 17, 3) := by decide +kernel
theorem d_Hist_stepForward_63 : decode b_Hist_stepForward 63 = .ok (.iconst 1, 1) := by decide +kernel
theorem d_Hist_stepForward_64 : decode b_Hist_stepForward 64 = .ok (.isub, 1) := by decide +kernel
theorem d_Hist_stepForward_65 : decode b_Hist_stepForward 65 = .ok (.aaload, 1) := by decide +kernel
theorem d_Hist_stepForward_66 : decode b_Hist_stepForward 66 = .ok (.areturn, 1) := by decide +kernel
def f_Hist_stepForward_33   (S : zq_S) : Option (zq_S × Option Nat) :=
  some (S, none)
def f_Hist_stepForward (a0 : Nat) (S : zq_S) : Option (zq_S × Option Nat) :=
  (zs_gi S a0 2 3).bind fun x1 =>
  if x1 = 0 then
    (zs_gi S a0 2 2).bind fun x3 =>
    if x3 ≤ 0 then
      f_Hist_stepForward_33   S
    else
      (zs_gi S a0 2 1).bind fun x5 =>
      if x5 < 0 then
        f_Hist_stepForward_33   S
      else
        (zs_gi S a0 2 1).bind fun x7 =>
        (zs_gr S a0 2 0).bind fun x9 =>
        (x9).bind fun a11 =>
        (zs_len S a11 1).bind fun x13 =>
        if x7 < x13 then
          (zs_gi S a0 2 1).bind fun x15 =>
          (zs_p S a0 2 1 (.int (x15 + (1 : Int32)))).bind fun S17 =>
          (zs_gi S17 a0 2 2).bind fun x19 =>
          (zs_p S17 a0 2 2 (.int (x19 - (1 : Int32)))).bind fun S21 =>
          (zs_gr S21 a0 2 0).bind fun x23 =>
          (zs_gi S21 a0 2 1).bind fun x25 =>
          (x23).bind fun a27 =>
          (zs_aal S21 a27 1 (x25 - (1 : Int32))).bind fun x29 =>
          some (S21, x29)
        else
          f_Hist_stepForward_33   S
  else
    f_Hist_stepForward_33   S
set_option maxHeartbeats 4000000 in
set_option maxRecDepth 100000 in
theorem r_Hist_stepForward_33 {l : Launch} (hl : l.stackTraces = false) {G : zq_G} {S0 T : zq_S} {v : Option Nat} {X : zq_X} (Z : Z_Hist_stepForward l G S0 T v X)  {S : zq_S} (hf : f_Hist_stepForward_33   S = some (T, v)) : zq_W (Y_Hist_stepForward l G S0 T v) X 33 [] [] S 0 0 := by
  unfold f_Hist_stepForward_33 at hf
  refine zq_null Z d_Hist_stepForward_33 ?_
  exact zq_aret (x := none) Z d_Hist_stepForward_34 (zs_1 hf) (zs_2 (fun z => (.inl (some (va_rf z)) : zq_R)) hf) ⟨(Nat.le_of_ble_eq_true rfl), (Nat.le_of_ble_eq_true rfl)⟩
set_option maxHeartbeats 4000000 in
set_option maxRecDepth 100000 in
theorem c_Hist_stepForward {l : Launch} (hl : l.stackTraces = false) {G : zq_G} {a0 : Nat} {S0 T : zq_S} {v : Option Nat} (hf : f_Hist_stepForward a0 S0 = some (T, v)) : zq_M l y_Hist_stepForward (.code y_Hist_stepForward b_Hist_stepForward 1 (some (.object "ChangeTracker$Group"))) rm_Hist_stepForward G [.ref a0] S0 ((.inl (some (va_rf v)) : zq_R)) T := by
  refine zq_Mof (lo := [(0, .ref a0)]) hl (by decide) (Nat.le_of_ble_eq_true rfl) rfl (fun X Z => ?_)
  have Z : Z_Hist_stepForward l G S0 T v X := Z
  show zq_W (Y_Hist_stepForward l G S0 T v) X 0 [(0, .ref a0)] [] S0 0 0
  unfold f_Hist_stepForward at hf
  refine zq_aload_n Z d_Hist_stepForward_0 0 rfl ?_
  have hq := Option.bind_eq_some_iff.mp hf
  clear hf
  obtain ⟨x1, h2, hf⟩ := hq
  refine zr_geti Z cd_Hist 3 d_Hist_stepForward_1 (by decide) m_43 h2 ?_
  refine zq_if_ne Z 33 d_Hist_stepForward_4 (by decide) (fun q => ?_) (fun q => ?_)
  · replace hf := zs_N q hf
    refine zq_sub (lo' := []) [] rfl ?_
    exact r_Hist_stepForward_33 hl Z  hf
  · replace hf := zs_T q hf
    refine zq_aload_n Z d_Hist_stepForward_7 0 rfl ?_
    have hq := Option.bind_eq_some_iff.mp hf
    clear hf
    obtain ⟨x3, h4, hf⟩ := hq
    refine zr_geti Z cd_Hist 2 d_Hist_stepForward_8 (by decide) m_42 h4 ?_
    refine zq_if_le Z 33 d_Hist_stepForward_11 (by decide) (fun q => ?_) (fun q => ?_)
    · replace hf := zs_T q hf
      refine zq_sub (lo' := []) [] rfl ?_
      exact r_Hist_stepForward_33 hl Z  hf
    · replace hf := zs_N q hf
      refine zq_aload_n Z d_Hist_stepForward_14 0 rfl ?_
      have hq := Option.bind_eq_some_iff.mp hf
      clear hf
      obtain ⟨x5, h6, hf⟩ := hq
      refine zr_geti Z cd_Hist 1 d_Hist_stepForward_15 (by decide) m_41 h6 ?_
      refine zq_if_lt Z 33 d_Hist_stepForward_18 (by decide) (fun q => ?_) (fun q => ?_)
      · replace hf := zs_T q hf
        refine zq_sub (lo' := []) [] rfl ?_
        exact r_Hist_stepForward_33 hl Z  hf
      · replace hf := zs_N q hf
        refine zq_aload_n Z d_Hist_stepForward_21 0 rfl ?_
        have hq := Option.bind_eq_some_iff.mp hf
        clear hf
        obtain ⟨x7, h8, hf⟩ := hq
        refine zr_geti Z cd_Hist 1 d_Hist_stepForward_22 (by decide) m_41 h8 ?_
        refine zq_aload_n Z d_Hist_stepForward_25 0 rfl ?_
        have hq := Option.bind_eq_some_iff.mp hf
        clear hf
        obtain ⟨x9, h10, hf⟩ := hq
        refine zr_getr Z cd_Hist 0 d_Hist_stepForward_26 (by decide) m_40 h10 ?_
        have hq := Option.bind_eq_some_iff.mp hf
        clear hf
        obtain ⟨a11, h12, hf⟩ := hq
        subst h12
        have hq := Option.bind_eq_some_iff.mp hf
        clear hf
        obtain ⟨x13, h14, hf⟩ := hq
        refine zr_len Z 1 (fun _ => rfl) d_Hist_stepForward_29 h14 ?_
        refine zq_icmp_lt Z 35 d_Hist_stepForward_30 (by decide) (fun q => ?_) (fun q => ?_)
        · replace hf := zs_T q hf
          refine zq_aload_n Z d_Hist_stepForward_35 0 rfl ?_
          refine zq_dup Z d_Hist_stepForward_36 rfl ?_
          have hq := Option.bind_eq_some_iff.mp hf
          clear hf
          obtain ⟨x15, h16, hf⟩ := hq
          refine zr_geti Z cd_Hist 1 d_Hist_stepForward_37 (by decide) m_41 h16 ?_
          refine zq_iconst Z (1 : Int32) d_Hist_stepForward_40 (by decide) ?_
          refine zq_iadd Z d_Hist_stepForward_41 ?_
          have hq := Option.bind_eq_some_iff.mp hf
          clear hf
          obtain ⟨S17, h18, hf⟩ := hq
          refine zr_puti Z cd_Hist 1 d_Hist_stepForward_42 (by decide) m_41 rfl (by decide +kernel) h18 ?_
          refine zq_aload_n Z d_Hist_stepForward_45 0 rfl ?_
          refine zq_dup Z d_Hist_stepForward_46 rfl ?_
          have hq := Option.bind_eq_some_iff.mp hf
          clear hf
          obtain ⟨x19, h20, hf⟩ := hq
          refine zr_geti Z cd_Hist 2 d_Hist_stepForward_47 (by decide) m_42 h20 ?_
          refine zq_iconst Z (1 : Int32) d_Hist_stepForward_50 (by decide) ?_
          refine zq_isub Z d_Hist_stepForward_51 ?_
          have hq := Option.bind_eq_some_iff.mp hf
          clear hf
          obtain ⟨S21, h22, hf⟩ := hq
          refine zr_puti Z cd_Hist 2 d_Hist_stepForward_52 (by decide) m_42 rfl (by decide +kernel) h22 ?_
          refine zq_aload_n Z d_Hist_stepForward_55 0 rfl ?_
          have hq := Option.bind_eq_some_iff.mp hf
          clear hf
          obtain ⟨x23, h24, hf⟩ := hq
          refine zr_getr Z cd_Hist 0 d_Hist_stepForward_56 (by decide) m_40 h24 ?_
          refine zq_aload_n Z d_Hist_stepForward_59 0 rfl ?_
          have hq := Option.bind_eq_some_iff.mp hf
          clear hf
          obtain ⟨x25, h26, hf⟩ := hq
          refine zr_geti Z cd_Hist 1 d_Hist_stepForward_60 (by decide) m_41 h26 ?_
          refine zq_iconst Z (1 : Int32) d_Hist_stepForward_63 (by decide) ?_
          refine zq_isub Z d_Hist_stepForward_64 ?_
          have hq := Option.bind_eq_some_iff.mp hf
          clear hf
          obtain ⟨a27, h28, hf⟩ := hq
          subst h28
          have hq := Option.bind_eq_some_iff.mp hf
          clear hf
          obtain ⟨x29, h30, hf⟩ := hq
          refine zr_aaload Z 1 (fun _ => rfl) d_Hist_stepForward_65 h30 ?_
          exact zq_aret (x := x29) Z d_Hist_stepForward_66 (zs_1 hf) (zs_2 (fun z => (.inl (some (va_rf z)) : zq_R)) hf) ⟨(Nat.le_of_ble_eq_true rfl), (Nat.le_of_ble_eq_true rfl)⟩
        · replace hf := zs_N q hf
          refine zq_sub (lo' := []) [] rfl ?_
          exact r_Hist_stepForward_33 hl Z  hf
theorem d_Hist_weightOfUndone_0 : decode b_Hist_weightOfUndone 0 = .ok (.aload_n 0, 1) := by decide +kernel
theorem d_Hist_weightOfUndone_1 : decode b_Hist_weightOfUndone 1 = .ok (.aload_n 0, 1) := by decide +kernel
theorem d_Hist_weightOfUndone_2 : decode b_Hist_weightOfUndone 2 = .ok (.getfield 17, 3) := by decide +kernel
theorem d_Hist_weightOfUndone_5 : decode b_Hist_weightOfUndone 5 = .ok (.aload_n 0, 1) := by decide +kernel
theorem d_Hist_weightOfUndone_6 : decode b_Hist_weightOfUndone 6 = .ok (.getfield 17, 3) := by decide +kernel
theorem d_Hist_weightOfUndone_9 : decode b_Hist_weightOfUndone 9 = .ok (.aload_n 0, 1) := by decide +kernel
theorem d_Hist_weightOfUndone_10 : decode b_Hist_weightOfUndone 10 = .ok (.getfield 21, 3) := by decide +kernel
theorem d_Hist_weightOfUndone_13 : decode b_Hist_weightOfUndone 13 = .ok (.iadd, 1) := by decide +kernel
theorem d_Hist_weightOfUndone_14 : decode b_Hist_weightOfUndone 14 = .ok (.invokevirtual 52, 3) := by decide +kernel
theorem d_Hist_weightOfUndone_17 : decode b_Hist_weightOfUndone 17 = .ok (.ireturn, 1) := by decide +kernel
def f_Hist_weightOfUndone (a0 : Nat) (S : zq_S) : Option (zq_S × Int32) :=
  (zs_gi S a0 2 1).bind fun x1 =>
  (zs_gi S a0 2 1).bind fun x3 =>
  (zs_gi S a0 2 2).bind fun x5 =>
  if zs_is S a0 2 = true then
  zs_b (f_Hist_weightBetween a0 x1 (x3 + x5) S) fun S8 x9 =>
  some (S8, x9)
  else none
set_option maxHeartbeats 4000000 in
set_option maxRecDepth 100000 in
theorem c_Hist_weightOfUndone {l : Launch} (hl : l.stackTraces = false) {G : zq_G} {a0 : Nat} {S0 T : zq_S} {v : Int32} (hf : f_Hist_weightOfUndone a0 S0 = some (T, v)) : zq_M l y_Hist_weightOfUndone (.code y_Hist_weightOfUndone b_Hist_weightOfUndone 1 (some (.int))) rm_Hist_weightOfUndone G [.ref a0] S0 ((.inl (some (.int v)) : zq_R)) T := by
  refine zq_Mof (lo := [(0, .ref a0)]) hl (by decide) (Nat.le_of_ble_eq_true rfl) rfl (fun X Z => ?_)
  have Z : Z_Hist_weightOfUndone l G S0 T v X := Z
  show zq_W (Y_Hist_weightOfUndone l G S0 T v) X 0 [(0, .ref a0)] [] S0 0 0
  unfold f_Hist_weightOfUndone at hf
  refine zq_aload_n Z d_Hist_weightOfUndone_0 0 rfl ?_
  refine zq_aload_n Z d_Hist_weightOfUndone_1 0 rfl ?_
  have hq := Option.bind_eq_some_iff.mp hf
  clear hf
  obtain ⟨x1, h2, hf⟩ := hq
  refine zr_geti Z cd_Hist 1 d_Hist_weightOfUndone_2 (by decide) m_41 h2 ?_
  refine zq_aload_n Z d_Hist_weightOfUndone_5 0 rfl ?_
  have hq := Option.bind_eq_some_iff.mp hf
  clear hf
  obtain ⟨x3, h4, hf⟩ := hq
  refine zr_geti Z cd_Hist 1 d_Hist_weightOfUndone_6 (by decide) m_41 h4 ?_
  refine zq_aload_n Z d_Hist_weightOfUndone_9 0 rfl ?_
  have hq := Option.bind_eq_some_iff.mp hf
  clear hf
  obtain ⟨x5, h6, hf⟩ := hq
  refine zr_geti Z cd_Hist 2 d_Hist_weightOfUndone_10 (by decide) m_42 h6 ?_
  refine zq_iadd Z d_Hist_weightOfUndone_13 ?_
  have hq := zs_C hf
  clear hf
  obtain ⟨h10, hf⟩ := hq
  obtain ⟨fs11, e12⟩ := zs_isS h10
  have hq := zs_bS hf
  clear hf
  obtain ⟨S8, x9, h7, hf⟩ := hq
  refine zq_contR (zq_stepV Z zq_cf1 (c_Hist_weightBetween hl h7) 2 rfl e12 d_Hist_weightOfUndone_14 m_65 m_67 m_68 m_66 m_60 p_Hist_weightBetween ⟨(Nat.le_of_ble_eq_true rfl), (Nat.le_of_ble_eq_true rfl), (Nat.le_of_ble_eq_true rfl), (Nat.le_of_ble_eq_true rfl)⟩ rfl (Nat.le_of_ble_eq_true rfl)) Z.p ?_
  exact zq_iret Z d_Hist_weightOfUndone_17 (zs_1 hf) (zs_2 (fun z => (.inl (some (.int z)) : zq_R)) hf) ⟨(Nat.le_of_ble_eq_true rfl), (Nat.le_of_ble_eq_true rfl)⟩
