theorem d_Mo_endGroup_0 : decode b_Mo_endGroup 0 = .ok (.aload_n 0, 1) := by decide +kernel
theorem d_Mo_endGroup_1 : decode b_Mo_endGroup 1 = .ok (.getfield 106, 3) := by decide +kernel
theorem d_Mo_endGroup_4 : decode b_Mo_endGroup 4 = .ok (.ifCond .ne 4, 3) := by decide +kernel
theorem d_Mo_endGroup_7 : decode b_Mo_endGroup 7 = .ok (.return_, 1) := by decide +kernel
theorem d_Mo_endGroup_8 : decode b_Mo_endGroup 8 = .ok (.aload_n 0, 1) := by decide +kernel
theorem d_Mo_endGroup_9 : decode b_Mo_endGroup 9 = .ok (.getfield 109, 3) := by decide +kernel
theorem d_Mo_endGroup_12 : decode b_Mo_endGroup 12 = .ok (.sipush 3000, 3) := by decide +kernel
theorem d_Mo_endGroup_15 : decode b_Mo_endGroup 15 = .ok (.if_icmp .le 8, 3) := by decide +kernel
theorem d_Mo_endGroup_18 : decode b_Mo_endGroup 18 = .ok (.aload_n 0, 1) := by decide +kernel
theorem d_Mo_endGroup_19 : decode b_Mo_endGroup 19 = .ok (.invokevirtual 112, 3) := by decide +kernel
theorem d_Mo_endGroup_22 : decode b_Mo_endGroup 22 = .ok (.return_, 1) := by decide +kernel
theorem d_Mo_endGroup_23 : decode b_Mo_endGroup 23 = .ok (.aload_n 0, 1) := by decide +kernel
theorem d_Mo_endGroup_24 : decode b_Mo_endGroup 24 = .ok (.getfield 25, 3) := by decide +kernel
theorem d_Mo_endGroup_27 : decode b_Mo_endGroup 27 = .ok (.aload_n 0, 1) := by decide +kernel
theorem d_Mo_endGroup_28 : decode b_Mo_endGroup 28 = .ok (.getfield 84, 3) := by decide +kernel
theorem d_Mo_endGroup_31 : decode b_Mo_endGroup 31 = .ok (.aload_n 0, 1) := by decide +kernel
theorem d_Mo_endGroup_32 : decode b_Mo_endGroup 32 = .ok (.getfield 90, 3) := by decide +kernel
theorem d_Mo_endGroup_35 : decode b_Mo_endGroup 35 = .ok (.iastore, 1) := by decide +kernel
theorem d_Mo_endGroup_36 : decode b_Mo_endGroup 36 = .ok (.aload_n 0, 1) := by decide +kernel
theorem d_Mo_endGroup_37 : decode b_Mo_endGroup 37 = .ok (.getfield 29, 3) := by decide +kernel
theorem d_Mo_endGroup_40 : decode b_Mo_endGroup 40 = .ok (.aload_n 0, 1) := by decide +kernel
theorem d_Mo_endGroup_41 : decode b_Mo_endGroup 41 = .ok (.getfield 84, 3) := by decide +kernel
theorem d_Mo_endGroup_44 : decode b_Mo_endGroup 44 = .ok (.aload_n 0, 1) := by decide +kernel
theorem d_Mo_endGroup_45 : decode b_Mo_endGroup 45 = .ok (.getfield 106, 3) := by decide +kernel
theorem d_Mo_endGroup_48 : decode b_Mo_endGroup 48 = .ok (.iastore, 1) := by decide +kernel
theorem d_Mo_endGroup_49 : decode b_Mo_endGroup 49 = .ok (.aload_n 0, 1) := by decide +kernel
theorem d_Mo_endGroup_50 : decode b_Mo_endGroup 50 = .ok (.getfield 32, 3) := by decide +kernel
theorem d_Mo_endGroup_53 : decode b_Mo_endGroup 53 = .ok (.aload_n 0, 1) := by decide +kernel
theorem d_Mo_endGroup_54 : decode b_Mo_endGroup 54 = .ok (.getfield 84, 3) := by decide +kernel
theorem d_Mo_endGroup_57 : decode b_Mo_endGroup 57 = .ok (.aload_n 0, 1) := by decide +kernel
theorem d_Mo_endGroup_58 : decode b_Mo_endGroup 58 = .ok (.getfield 109, 3) := by decide +kernel
theorem d_Mo_endGroup_61 : decode b_Mo_endGroup 61 = .ok (.iastore, 1) := by decide +kernel
theorem d_Mo_endGroup_62 : decode b_Mo_endGroup 62 = .ok (.aload_n 0, 1) := by decide +kernel
theorem d_Mo_endGroup_63 : decode b_Mo_endGroup 63 = .ok (.dup, 1) := by decide +kernel
theorem d_Mo_endGroup_64 : decode b_Mo_endGroup 64 = .ok (.getfield 84, 3) := by decide +kernel
theorem d_Mo_endGroup_67 : decode b_Mo_endGroup 67 = .ok (.iconst 1, 1) := by decide +kernel
theorem d_Mo_endGroup_68 : decode b_Mo_endGroup 68 = .ok (.iadd, 1) := by decide +kernel
theorem d_Mo_endGroup_69 : decode b_Mo_endGroup 69 = .ok (.putfield 84, 3) := by decide +kernel
theorem d_Mo_endGroup_72 : decode b_Mo_endGroup 72 = .ok (.aload_n 0, 1) := by decide +kernel
theorem d_Mo_endGroup_73 : decode b_Mo_endGroup 73 = .ok (.aload_n 0, 1) := by decide +kernel
theorem d_Mo_endGroup_74 : decode b_Mo_endGroup 74 = .ok (.getfield 84, 3) := by decide +kernel
theorem d_Mo_endGroup_77 : decode b_Mo_endGroup 77 = .ok (.putfield 87, 3) := by decide +kernel
theorem d_Mo_endGroup_80 : decode b_Mo_endGroup 80 = .ok (.aload_n 0, 1) := by decide +kernel
theorem d_Mo_endGroup_81 : decode b_Mo_endGroup 81 = .ok (.getfield 84, 3) := by decide +kernel
theorem d_Mo_endGroup_84 : decode b_Mo_endGroup 84 = .ok (.bipush 40, 2) := by decide +kernel
theorem d_Mo_endGroup_86 : decode b_Mo_endGroup 86 = .ok (.if_icmp .gt 18, 3) := by decide +kernel
theorem d_Mo_endGroup_89 : decode b_Mo_endGroup 89 = .ok (.aload_n 0, 1) := by decide +kernel
theorem d_Mo_endGroup_90 : decode b_Mo_endGroup 90 = .ok (.iconst 0, 1) := by decide +kernel
theorem d_Mo_endGroup_91 : decode b_Mo_endGroup 91 = .ok (.aload_n 0, 1) := by decide +kernel
theorem d_Mo_endGroup_92 : decode b_Mo_endGroup 92 = .ok (.getfield 84, 3) := by decide +kernel
theorem d_Mo_endGroup_95 : decode b_Mo_endGroup 95 = .ok (.invokevirtual 115, 3) := by decide +kernel
theorem d_Mo_endGroup_98 : decode b_Mo_endGroup 98 = .ok (.sipush 3000, 3) := by decide +kernel
theorem d_Mo_endGroup_101 : decode b_Mo_endGroup 101 = .ok (.if_icmp .le 10, 3) := by decide +kernel
theorem d_Mo_endGroup_104 : decode b_Mo_endGroup 104 = .ok (.aload_n 0, 1) := by decide +kernel
theorem d_Mo_endGroup_105 : decode b_Mo_endGroup 105 = .ok (.invokevirtual 119, 3) := by decide +kernel
theorem d_Mo_endGroup_108 : decode b_Mo_endGroup 108 = .ok (.goto (-28), 3) := by decide +kernel
theorem d_Mo_endGroup_111 : decode b_Mo_endGroup 111 = .ok (.return_, 1) := by decide +kernel
def f_Mo_endGroup_104 (k80 : Nat → zq_S → Option (zq_S × Unit)) (a0 : Nat) (S : zq_S) : Option (zq_S × Unit) :=
  if zs_is S a0 4 = true then
  zs_b (f_Mo_forgetFirst a0 S) fun S2 _ =>
  k80 a0 S2
  else none
def f_Mo_endGroup_80 (k80 : Nat → zq_S → Option (zq_S × Unit)) (a0 : Nat) (S : zq_S) : Option (zq_S × Unit) :=
  (zs_gi S a0 4 12).bind fun x1 =>
  if (40 : Int32) < x1 then
    f_Mo_endGroup_104 k80 a0 S
  else
    (zs_gi S a0 4 12).bind fun x3 =>
    if zs_is S a0 4 = true then
    zs_b (f_Mo_weightOf a0 (0 : Int32) x3 S) fun S6 x7 =>
    if x7 ≤ (3000 : Int32) then
      some (S6, ())
    else
      f_Mo_endGroup_104 k80 a0 S6
    else none
def g_Mo_endGroup_80  : Nat → Nat → zq_S → Option (zq_S × Unit)
  | 0 => fun _ _ => none
  | n + 1 => fun a0 S => f_Mo_endGroup_80  (g_Mo_endGroup_80  n) a0 S
def f_Mo_endGroup (a0 : Nat) (S : zq_S) : Option (zq_S × Unit) :=
  (zs_gi S a0 4 18).bind fun x1 =>
  if x1 = 0 then
    some (S, ())
  else
    (zs_gi S a0 4 19).bind fun x3 =>
    if x3 ≤ (3000 : Int32) then
      (zs_gr S a0 4 14).bind fun x5 =>
      (zs_gi S a0 4 12).bind fun x7 =>
      (zs_gi S a0 4 9).bind fun x9 =>
      (x5).bind fun a11 =>
      (zs_ias S a11 2 x7 x9).bind fun S13 =>
      (zs_gr S13 a0 4 15).bind fun x15 =>
      (zs_gi S13 a0 4 12).bind fun x17 =>
      (zs_gi S13 a0 4 18).bind fun x19 =>
      (x15).bind fun a21 =>
      (zs_ias S13 a21 2 x17 x19).bind fun S23 =>
      (zs_gr S23 a0 4 16).bind fun x25 =>
      (zs_gi S23 a0 4 12).bind fun x27 =>
      (zs_gi S23 a0 4 19).bind fun x29 =>
      (x25).bind fun a31 =>
      (zs_ias S23 a31 2 x27 x29).bind fun S33 =>
      (zs_gi S33 a0 4 12).bind fun x35 =>
      (zs_p S33 a0 4 12 (.int (x35 + (1 : Int32)))).bind fun S37 =>
      (zs_gi S37 a0 4 12).bind fun x39 =>
      (zs_p S37 a0 4 13 (.int x39)).bind fun S41 =>
      g_Mo_endGroup_80  zq_F a0 S41
    else
      if zs_is S a0 4 = true then
      zs_b (f_Mo_forgetAll a0 S) fun S44 _ =>
      some (S44, ())
      else none
set_option maxHeartbeats 4000000 in
set_option maxRecDepth 100000 in
theorem r_Mo_endGroup_104 {l : Launch} (hl : l.stackTraces = false) {G : zq_G} {S0 T : zq_S} {v : Unit} {X : zq_X} (Z : Z_Mo_endGroup l G S0 T v X) {k80 : Nat → zq_S → Option (zq_S × Unit)} (hk80 : ∀ (a0 : Nat) (S : zq_S), k80 a0 S = some (T, v) → zq_W (Y_Mo_endGroup l G S0 T v) X 80 [(0, .ref a0)] [] S 0 0) {a0 : Nat} {S : zq_S} (hf : f_Mo_endGroup_104 k80 a0 S = some (T, v)) : zq_W (Y_Mo_endGroup l G S0 T v) X 104 [(0, .ref a0)] [] S 0 0 := by
  unfold f_Mo_endGroup_104 at hf
  refine zq_aload_n Z d_Mo_endGroup_104 0 rfl ?_
  have hq := zs_C hf
  clear hf
  obtain ⟨h4, hf⟩ := hq
  obtain ⟨fs5, e6⟩ := zs_isS h4
  have hq := zs_bS hf
  clear hf
  obtain ⟨S2, x3, h1, hf⟩ := hq
  refine zq_contR (zq_stepV Z zq_cf1 (c_Mo_forgetFirst hl h1) 4 rfl e6 d_Mo_endGroup_105 m_327 m_329 m_330 m_328 m_286 p_Mo_forgetFirst ⟨(Nat.le_of_ble_eq_true rfl), (Nat.le_of_ble_eq_true rfl), (Nat.le_of_ble_eq_true rfl), (Nat.le_of_ble_eq_true rfl)⟩ rfl (Nat.le_of_ble_eq_true rfl)) Z.p ?_
  refine zq_goto Z 80 d_Mo_endGroup_108 (by decide) ?_
  refine zq_sub (lo' := [(0, .ref a0)]) [0] rfl ?_
  exact hk80 _ _ hf
set_option maxHeartbeats 4000000 in
set_option maxRecDepth 100000 in
theorem r_Mo_endGroup_80 {l : Launch} (hl : l.stackTraces = false) {G : zq_G} {S0 T : zq_S} {v : Unit} {X : zq_X} (Z : Z_Mo_endGroup l G S0 T v X) {k80 : Nat → zq_S → Option (zq_S × Unit)} (hk80 : ∀ (a0 : Nat) (S : zq_S), k80 a0 S = some (T, v) → zq_W (Y_Mo_endGroup l G S0 T v) X 80 [(0, .ref a0)] [] S 0 0) {a0 : Nat} {S : zq_S} (hf : f_Mo_endGroup_80 k80 a0 S = some (T, v)) : zq_W (Y_Mo_endGroup l G S0 T v) X 80 [(0, .ref a0)] [] S 0 0 := by
  unfold f_Mo_endGroup_80 at hf
  refine zq_aload_n Z d_Mo_endGroup_80 0 rfl ?_
  have hq := Option.bind_eq_some_iff.mp hf
  clear hf
  obtain ⟨x1, h2, hf⟩ := hq
  refine zr_geti Z cd_Mo 12 d_Mo_endGroup_81 (by decide) m_308 h2 ?_
  refine zq_bipush Z (40 : Int32) d_Mo_endGroup_84 (by decide) ?_
  refine zq_icmp_gt Z 104 d_Mo_endGroup_86 (by decide) (fun q => ?_) (fun q => ?_)
  · replace hf := zs_T q hf
    refine zq_sub (lo' := [(0, .ref a0)]) [0] rfl ?_
    exact r_Mo_endGroup_104 hl Z hk80 hf
  · replace hf := zs_N q hf
    refine zq_aload_n Z d_Mo_endGroup_89 0 rfl ?_
    refine zq_iconst Z (0 : Int32) d_Mo_endGroup_90 (by decide) ?_
    refine zq_aload_n Z d_Mo_endGroup_91 0 rfl ?_
    have hq := Option.bind_eq_some_iff.mp hf
    clear hf
    obtain ⟨x3, h4, hf⟩ := hq
    refine zr_geti Z cd_Mo 12 d_Mo_endGroup_92 (by decide) m_308 h4 ?_
    have hq := zs_C hf
    clear hf
    obtain ⟨h8, hf⟩ := hq
    obtain ⟨fs9, e10⟩ := zs_isS h8
    have hq := zs_bS hf
    clear hf
    obtain ⟨S6, x7, h5, hf⟩ := hq
    refine zq_contR (zq_stepV Z zq_cf1 (c_Mo_weightOf hl h5) 4 rfl e10 d_Mo_endGroup_95 m_331 m_333 m_334 m_332 m_286 p_Mo_weightOf ⟨(Nat.le_of_ble_eq_true rfl), (Nat.le_of_ble_eq_true rfl), (Nat.le_of_ble_eq_true rfl), (Nat.le_of_ble_eq_true rfl)⟩ rfl (Nat.le_of_ble_eq_true rfl)) Z.p ?_
    refine zq_sipush Z (3000 : Int32) d_Mo_endGroup_98 (by decide) ?_
    refine zq_icmp_le Z 111 d_Mo_endGroup_101 (by decide) (fun q => ?_) (fun q => ?_)
    · replace hf := zs_T q hf
      exact zq_vret Z d_Mo_endGroup_111 (zs_1 hf) (zs_2 (fun _ => (.inl none : zq_R)) hf) ⟨(Nat.le_of_ble_eq_true rfl), (Nat.le_of_ble_eq_true rfl)⟩
    · replace hf := zs_N q hf
      refine zq_sub (lo' := [(0, .ref a0)]) [0] rfl ?_
      exact r_Mo_endGroup_104 hl Z hk80 hf
theorem w_Mo_endGroup_80 {l : Launch} (hl : l.stackTraces = false) {G : zq_G} {S0 T : zq_S} {v : Unit} {X : zq_X} (Z : Z_Mo_endGroup l G S0 T v X) : ∀ (n : Nat) (a0 : Nat) (S : zq_S), g_Mo_endGroup_80  n a0 S = some (T, v) → zq_W (Y_Mo_endGroup l G S0 T v) X 80 [(0, .ref a0)] [] S 0 0 := by
  intro n
  induction n with
  | zero => intro a0 S hf; cases hf
  | succ n ih =>
    intro a0 S hf
    have hf : f_Mo_endGroup_80  (g_Mo_endGroup_80  n) a0 S = some (T, v) := hf
    exact r_Mo_endGroup_80 hl Z  ih hf
set_option maxHeartbeats 4000000 in
set_option maxRecDepth 100000 in
theorem c_Mo_endGroup {l : Launch} (hl : l.stackTraces = false) {G : zq_G} {a0 : Nat} {S0 T : zq_S} {v : Unit} (hf : f_Mo_endGroup a0 S0 = some (T, v)) : zq_M l y_Mo_endGroup (.code y_Mo_endGroup b_Mo_endGroup 1 none) rm_Mo_endGroup G [.ref a0] S0 ((.inl none : zq_R)) T := by
  refine zq_Mof (lo := [(0, .ref a0)]) hl (by decide) (Nat.le_of_ble_eq_true rfl) rfl (fun X Z => ?_)
  have Z : Z_Mo_endGroup l G S0 T v X := Z
  show zq_W (Y_Mo_endGroup l G S0 T v) X 0 [(0, .ref a0)] [] S0 0 0
  unfold f_Mo_endGroup at hf
  refine zq_aload_n Z d_Mo_endGroup_0 0 rfl ?_
  have hq := Option.bind_eq_some_iff.mp hf
  clear hf
  obtain ⟨x1, h2, hf⟩ := hq
  refine zr_geti Z cd_Mo 18 d_Mo_endGroup_1 (by decide) m_335 h2 ?_
  refine zq_if_ne Z 8 d_Mo_endGroup_4 (by decide) (fun q => ?_) (fun q => ?_)
  · replace hf := zs_N q hf
    refine zq_aload_n Z d_Mo_endGroup_8 0 rfl ?_
    have hq := Option.bind_eq_some_iff.mp hf
    clear hf
    obtain ⟨x3, h4, hf⟩ := hq
    refine zr_geti Z cd_Mo 19 d_Mo_endGroup_9 (by decide) m_336 h4 ?_
    refine zq_sipush Z (3000 : Int32) d_Mo_endGroup_12 (by decide) ?_
    refine zq_icmp_le Z 23 d_Mo_endGroup_15 (by decide) (fun q => ?_) (fun q => ?_)
    · replace hf := zs_T q hf
      refine zq_aload_n Z d_Mo_endGroup_23 0 rfl ?_
      have hq := Option.bind_eq_some_iff.mp hf
      clear hf
      obtain ⟨x5, h6, hf⟩ := hq
      refine zr_getr Z cd_Mo 14 d_Mo_endGroup_24 (by decide) m_276 h6 ?_
      refine zq_aload_n Z d_Mo_endGroup_27 0 rfl ?_
      have hq := Option.bind_eq_some_iff.mp hf
      clear hf
      obtain ⟨x7, h8, hf⟩ := hq
      refine zr_geti Z cd_Mo 12 d_Mo_endGroup_28 (by decide) m_308 h8 ?_
      refine zq_aload_n Z d_Mo_endGroup_31 0 rfl ?_
      have hq := Option.bind_eq_some_iff.mp hf
      clear hf
      obtain ⟨x9, h10, hf⟩ := hq
      refine zr_geti Z cd_Mo 9 d_Mo_endGroup_32 (by decide) m_310 h10 ?_
      have hq := Option.bind_eq_some_iff.mp hf
      clear hf
      obtain ⟨a11, h12, hf⟩ := hq
      subst h12
      have hq := Option.bind_eq_some_iff.mp hf
      clear hf
      obtain ⟨S13, h14, hf⟩ := hq
      refine zr_iastore Z 2 (fun _ => rfl) d_Mo_endGroup_35 h14 ?_
      refine zq_aload_n Z d_Mo_endGroup_36 0 rfl ?_
      have hq := Option.bind_eq_some_iff.mp hf
      clear hf
      obtain ⟨x15, h16, hf⟩ := hq
      refine zr_getr Z cd_Mo 15 d_Mo_endGroup_37 (by decide) m_277 h16 ?_
      refine zq_aload_n Z d_Mo_endGroup_40 0 rfl ?_
      have hq := Option.bind_eq_some_iff.mp hf
      clear hf
      obtain ⟨x17, h18, hf⟩ := hq
      refine zr_geti Z cd_Mo 12 d_Mo_endGroup_41 (by decide) m_308 h18 ?_
      refine zq_aload_n Z d_Mo_endGroup_44 0 rfl ?_
      have hq := Option.bind_eq_some_iff.mp hf
      clear hf
      obtain ⟨x19, h20, hf⟩ := hq
      refine zr_geti Z cd_Mo 18 d_Mo_endGroup_45 (by decide) m_335 h20 ?_
      have hq := Option.bind_eq_some_iff.mp hf
      clear hf
      obtain ⟨a21, h22, hf⟩ := hq
      subst h22
      have hq := Option.bind_eq_some_iff.mp hf
      clear hf
      obtain ⟨S23, h24, hf⟩ := hq
      refine zr_iastore Z 2 (fun _ => rfl) d_Mo_endGroup_48 h24 ?_
      refine zq_aload_n Z d_Mo_endGroup_49 0 rfl ?_
      have hq := Option.bind_eq_some_iff.mp hf
      clear hf
      obtain ⟨x25, h26, hf⟩ := hq
      refine zr_getr Z cd_Mo 16 d_Mo_endGroup_50 (by decide) m_278 h26 ?_
      refine zq_aload_n Z d_Mo_endGroup_53 0 rfl ?_
      have hq := Option.bind_eq_some_iff.mp hf
      clear hf
      obtain ⟨x27, h28, hf⟩ := hq
      refine zr_geti Z cd_Mo 12 d_Mo_endGroup_54 (by decide) m_308 h28 ?_
      refine zq_aload_n Z d_Mo_endGroup_57 0 rfl ?_
      have hq := Option.bind_eq_some_iff.mp hf
      clear hf
      obtain ⟨x29, h30, hf⟩ := hq
      refine zr_geti Z cd_Mo 19 d_Mo_endGroup_58 (by decide) m_336 h30 ?_
      have hq := Option.bind_eq_some_iff.mp hf
      clear hf
      obtain ⟨a31, h32, hf⟩ := hq
      subst h32
      have hq := Option.bind_eq_some_iff.mp hf
      clear hf
      obtain ⟨S33, h34, hf⟩ := hq
      refine zr_iastore Z 2 (fun _ => rfl) d_Mo_endGroup_61 h34 ?_
      refine zq_aload_n Z d_Mo_endGroup_62 0 rfl ?_
      refine zq_dup Z d_Mo_endGroup_63 rfl ?_
      have hq := Option.bind_eq_some_iff.mp hf
      clear hf
      obtain ⟨x35, h36, hf⟩ := hq
      refine zr_geti Z cd_Mo 12 d_Mo_endGroup_64 (by decide) m_308 h36 ?_
      refine zq_iconst Z (1 : Int32) d_Mo_endGroup_67 (by decide) ?_
      refine zq_iadd Z d_Mo_endGroup_68 ?_
      have hq := Option.bind_eq_some_iff.mp hf
      clear hf
      obtain ⟨S37, h38, hf⟩ := hq
      refine zr_puti Z cd_Mo 12 d_Mo_endGroup_69 (by decide) m_308 rfl (by decide +kernel) h38 ?_
      refine zq_aload_n Z d_Mo_endGroup_72 0 rfl ?_
      refine zq_aload_n Z d_Mo_endGroup_73 0 rfl ?_
      have hq := Option.bind_eq_some_iff.mp hf
      clear hf
      obtain ⟨x39, h40, hf⟩ := hq
      refine zr_geti Z cd_Mo 12 d_Mo_endGroup_74 (by decide) m_308 h40 ?_
      have hq := Option.bind_eq_some_iff.mp hf
      clear hf
      obtain ⟨S41, h42, hf⟩ := hq
      refine zr_puti Z cd_Mo 13 d_Mo_endGroup_77 (by decide) m_309 rfl (by decide +kernel) h42 ?_
      refine zq_sub (lo' := [(0, .ref a0)]) [0] rfl ?_
      exact w_Mo_endGroup_80 hl Z  _ _ _ hf
    · replace hf := zs_N q hf
      refine zq_aload_n Z d_Mo_endGroup_18 0 rfl ?_
      have hq := zs_C hf
      clear hf
      obtain ⟨h46, hf⟩ := hq
      obtain ⟨fs47, e48⟩ := zs_isS h46
      have hq := zs_bS hf
      clear hf
      obtain ⟨S44, x45, h43, hf⟩ := hq
      refine zq_contR (zq_stepV Z zq_cf1 (c_Mo_forgetAll hl h43) 4 rfl e48 d_Mo_endGroup_19 m_337 m_339 m_340 m_338 m_286 p_Mo_forgetAll ⟨(Nat.le_of_ble_eq_true rfl), (Nat.le_of_ble_eq_true rfl), (Nat.le_of_ble_eq_true rfl), (Nat.le_of_ble_eq_true rfl)⟩ rfl (Nat.le_of_ble_eq_true rfl)) Z.p ?_
      exact zq_vret Z d_Mo_endGroup_22 (zs_1 hf) (zs_2 (fun _ => (.inl none : zq_R)) hf) ⟨(Nat.le_of_ble_eq_true rfl), (Nat.le_of_ble_eq_true rfl)⟩
  · replace hf := zs_T q hf
    exact zq_vret Z d_Mo_endGroup_7 (zs_1 hf) (zs_2 (fun _ => (.inl none : zq_R)) hf) ⟨(Nat.le_of_ble_eq_true rfl), (Nat.le_of_ble_eq_true rfl)⟩
theorem d_Mo_edit_0 : decode b_Mo_edit 0 = .ok (.aload_n 0, 1) := by decide +kernel
theorem d_Mo_edit_1 : decode b_Mo_edit 1 = .ok (.iconst 0, 1) := by decide +kernel
theorem d_Mo_edit_2 : decode b_Mo_edit 2 = .ok (.putfield 35, 3) := by decide +kernel
theorem d_Mo_edit_5 : decode b_Mo_edit 5 = .ok (.aload_n 0, 1) := by decide +kernel
theorem d_Mo_edit_6 : decode b_Mo_edit 6 = .ok (.invokevirtual 96, 3) := by decide +kernel
theorem d_Mo_edit_9 : decode b_Mo_edit 9 = .ok (.iload_n 1, 1) := by decide +kernel
theorem d_Mo_edit_10 : decode b_Mo_edit 10 = .ok (.aload_n 0, 1) := by decide +kernel
theorem d_Mo_edit_11 : decode b_Mo_edit 11 = .ok (.getfield 47, 3) := by decide +kernel
theorem d_Mo_edit_14 : decode b_Mo_edit 14 = .ok (.aload_n 0, 1) := by decide +kernel
theorem d_Mo_edit_15 : decode b_Mo_edit 15 = .ok (.getfield 50, 3) := by decide +kernel
theorem d_Mo_edit_18 : decode b_Mo_edit 18 = .ok (.iload_n 2, 1) := by decide +kernel
theorem d_Mo_edit_19 : decode b_Mo_edit 19 = .ok (.iload_n 3, 1) := by decide +kernel
theorem d_Mo_edit_20 : decode b_Mo_edit 20 = .ok (.iload 4, 2) := by decide +kernel
theorem d_Mo_edit_22 : decode b_Mo_edit 22 = .ok (.invokestatic 122, 3) := by decide +kernel
theorem d_Mo_edit_25 : decode b_Mo_edit 25 = .ok (.lstore 7, 2) := by decide +kernel
theorem d_Mo_edit_27 : decode b_Mo_edit 27 = .ok (.aload_n 0, 1) := by decide +kernel
theorem d_Mo_edit_28 : decode b_Mo_edit 28 = .ok (.lload 7, 2) := by decide +kernel
theorem d_Mo_edit_30 : decode b_Mo_edit 30 = .ok (.lload 5, 2) := by decide +kernel
theorem d_Mo_edit_32 : decode b_Mo_edit 32 = .ok (.invokevirtual 102, 3) := by decide +kernel
theorem d_Mo_edit_35 : decode b_Mo_edit 35 = .ok (.istore 9, 2) := by decide +kernel
theorem d_Mo_edit_37 : decode b_Mo_edit 37 = .ok (.aload_n 0, 1) := by decide +kernel
theorem d_Mo_edit_38 : decode b_Mo_edit 38 = .ok (.invokevirtual 126, 3) := by decide +kernel
theorem d_Mo_edit_41 : decode b_Mo_edit 41 = .ok (.istore 10, 2) := by decide +kernel
theorem d_Mo_edit_43 : decode b_Mo_edit 43 = .ok (.iload 10, 2) := by decide +kernel
theorem d_Mo_edit_45 : decode b_Mo_edit 45 = .ok (.ifCond .ne 6, 3) := by decide +kernel
theorem d_Mo_edit_48 : decode b_Mo_edit 48 = .ok (.iload 9, 2) := by decide +kernel
theorem d_Mo_edit_50 : decode b_Mo_edit 50 = .ok (.ireturn, 1) := by decide +kernel
theorem d_Mo_edit_51 : decode b_Mo_edit 51 = .ok (.aload_n 0, 1) := by decide +kernel
theorem d_Mo_edit_52 : decode b_Mo_edit 52 = .ok (.getfield 130, 3) := by decide +kernel
theorem d_Mo_edit_55 : decode b_Mo_edit 55 = .ok (.ifCond .ne 13, 3) := by decide +kernel
theorem d_Mo_edit_58 : decode b_Mo_edit 58 = .ok (.aload_n 0, 1) := by decide +kernel
theorem d_Mo_edit_59 : decode b_Mo_edit 59 = .ok (.iconst 0, 1) := by decide +kernel
theorem d_Mo_edit_60 : decode b_Mo_edit 60 = .ok (.putfield 106, 3) := by decide +kernel
theorem d_Mo_edit_63 : decode b_Mo_edit 63 = .ok (.aload_n 0, 1) := by decide +kernel
theorem d_Mo_edit_64 : decode b_Mo_edit 64 = .ok (.iconst 0, 1) := by decide +kernel
theorem d_Mo_edit_65 : decode b_Mo_edit 65 = .ok (.putfield 109, 3) := by decide +kernel
theorem d_Mo_edit_68 : decode b_Mo_edit 68 = .ok (.aload_n 0, 1) := by decide +kernel
theorem d_Mo_edit_69 : decode b_Mo_edit 69 = .ok (.getfield 106, 3) := by decide +kernel
theorem d_Mo_edit_72 : decode b_Mo_edit 72 = .ok (.ifCond .ne 15, 3) := by decide +kernel
theorem d_Mo_edit_75 : decode b_Mo_edit 75 = .ok (.aload_n 0, 1) := by decide +kernel
theorem d_Mo_edit_76 : decode b_Mo_edit 76 = .ok (.aload_n 0, 1) := by decide +kernel
theorem d_Mo_edit_77 : decode b_Mo_edit 77 = .ok (.aload_n 0, 1) := by decide +kernel
theorem d_Mo_edit_78 : decode b_Mo_edit 78 = .ok (.getfield 84, 3) := by decide +kernel
theorem d_Mo_edit_81 : decode b_Mo_edit 81 = .ok (.invokevirtual 133, 3) := by decide +kernel
theorem d_Mo_edit_84 : decode b_Mo_edit 84 = .ok (.putfield 90, 3) := by decide +kernel
theorem d_Mo_edit_87 : decode b_Mo_edit 87 = .ok (.aload_n 0, 1) := by decide +kernel
theorem d_Mo_edit_88 : decode b_Mo_edit 88 = .ok (.aload_n 0, 1) := by decide +kernel
theorem d_Mo_edit_89 : decode b_Mo_edit 89 = .ok (.getfield 84, 3) := by decide +kernel
theorem d_Mo_edit_92 : decode b_Mo_edit 92 = .ok (.putfield 87, 3) := by decide +kernel
theorem d_Mo_edit_95 : decode b_Mo_edit 95 = .ok (.aload_n 0, 1) := by decide +kernel
theorem d_Mo_edit_96 : decode b_Mo_edit 96 = .ok (.dup, 1) := by decide +kernel
theorem d_Mo_edit_97 : decode b_Mo_edit 97 = .ok (.getfield 106, 3) := by decide +kernel
theorem d_Mo_edit_100 : decode b_Mo_edit 100 = .ok (.iconst 1, 1) := by decide +kernel
theorem d_Mo_edit_101 : decode b_Mo_edit 101 = .ok (.iadd, 1) := by decide +kernel
theorem d_Mo_edit_102 : decode b_Mo_edit 102 = .ok (.putfield 106, 3) := by decide +kernel
theorem d_Mo_edit_105 : decode b_Mo_edit 105 = .ok (.aload_n 0, 1) := by decide +kernel
theorem d_Mo_edit_106 : decode b_Mo_edit 106 = .ok (.dup, 1) := by decide +kernel
theorem d_Mo_edit_107 : decode b_Mo_edit 107 = .ok (.getfield 109, 3) := by decide +kernel
theorem d_Mo_edit_110 : decode b_Mo_edit 110 = .ok (.iload 10, 2) := by decide +kernel
theorem d_Mo_edit_112 : decode b_Mo_edit 112 = .ok (.iadd, 1) := by decide +kernel
theorem d_Mo_edit_113 : decode b_Mo_edit 113 = .ok (.putfield 109, 3) := by decide +kernel
theorem d_Mo_edit_116 : decode b_Mo_edit 116 = .ok (.aload_n 0, 1) := by decide +kernel
theorem d_Mo_edit_117 : decode b_Mo_edit 117 = .ok (.getfield 109, 3) := by decide +kernel
theorem d_Mo_edit_120 : decode b_Mo_edit 120 = .ok (.sipush 3000, 3) := by decide +kernel
theorem d_Mo_edit_123 : decode b_Mo_edit 123 = .ok (.if_icmp .gt 35, 3) := by decide +kernel
theorem d_Mo_edit_126 : decode b_Mo_edit 126 = .ok (.aload_n 0, 1) := by decide +kernel
theorem d_Mo_edit_127 : decode b_Mo_edit 127 = .ok (.getfield 19, 3) := by decide +kernel
theorem d_Mo_edit_130 : decode b_Mo_edit 130 = .ok (.aload_n 0, 1) := by decide +kernel
theorem d_Mo_edit_131 : decode b_Mo_edit 131 = .ok (.getfield 90, 3) := by decide +kernel
theorem d_Mo_edit_134 : decode b_Mo_edit 134 = .ok (.lload 7, 2) := by decide +kernel
theorem d_Mo_edit_136 : decode b_Mo_edit 136 = .ok (.lastore, 1) := by decide +kernel
theorem d_Mo_edit_137 : decode b_Mo_edit 137 = .ok (.aload_n 0, 1) := by decide +kernel
theorem d_Mo_edit_138 : decode b_Mo_edit 138 = .ok (.getfield 22, 3) := by decide +kernel
theorem d_Mo_edit_141 : decode b_Mo_edit 141 = .ok (.aload_n 0, 1) := by decide +kernel
theorem d_Mo_edit_142 : decode b_Mo_edit 142 = .ok (.getfield 90, 3) := by decide +kernel
theorem d_Mo_edit_145 : decode b_Mo_edit 145 = .ok (.lload 5, 2) := by decide +kernel
theorem d_Mo_edit_147 : decode b_Mo_edit 147 = .ok (.lastore, 1) := by decide +kernel
theorem d_Mo_edit_148 : decode b_Mo_edit 148 = .ok (.aload_n 0, 1) := by decide +kernel
theorem d_Mo_edit_149 : decode b_Mo_edit 149 = .ok (.dup, 1) := by decide +kernel
theorem d_Mo_edit_150 : decode b_Mo_edit 150 = .ok (.getfield 90, 3) := by decide +kernel
theorem d_Mo_edit_153 : decode b_Mo_edit 153 = .ok (.iconst 1, 1) := by decide +kernel
theorem d_Mo_edit_154 : decode b_Mo_edit 154 = .ok (.iadd, 1) := by decide +kernel
theorem d_Mo_edit_155 : decode b_Mo_edit 155 = .ok (.putfield 90, 3) := by decide +kernel
theorem d_Mo_edit_158 : decode b_Mo_edit 158 = .ok (.aload_n 0, 1) := by decide +kernel
theorem d_Mo_edit_159 : decode b_Mo_edit 159 = .ok (.getfield 130, 3) := by decide +kernel
theorem d_Mo_edit_162 : decode b_Mo_edit 162 = .ok (.ifCond .ne 7, 3) := by decide +kernel
theorem d_Mo_edit_165 : decode b_Mo_edit 165 = .ok (.aload_n 0, 1) := by decide +kernel
theorem d_Mo_edit_166 : decode b_Mo_edit 166 = .ok (.invokevirtual 137, 3) := by decide +kernel
theorem d_Mo_edit_169 : decode b_Mo_edit 169 = .ok (.iload 9, 2) := by decide +kernel
theorem d_Mo_edit_171 : decode b_Mo_edit 171 = .ok (.ireturn, 1) := by decide +kernel
def f_Mo_edit_169  (v9 : Int32) (S : zq_S) : Option (zq_S × Int32) :=
  some (S, v9)
def f_Mo_edit_158  (a0 : Nat) (v9 : Int32) (S : zq_S) : Option (zq_S × Int32) :=
  (zs_gi S a0 4 17).bind fun x1 =>
  if x1 = 0 then
    if zs_is S a0 4 = true then
    zs_b (f_Mo_endGroup a0 S) fun S4 _ =>
    f_Mo_edit_169  v9 S4
    else none
  else
    f_Mo_edit_169  v9 S
def f_Mo_edit_87  (a0 : Nat) (v5 : Int64) (v7 : Int64) (v9 : Int32) (v10 : Int32) (S : zq_S) : Option (zq_S × Int32) :=
  (zs_gi S a0 4 12).bind fun x1 =>
  (zs_p S a0 4 13 (.int x1)).bind fun S3 =>
  (zs_gi S3 a0 4 18).bind fun x5 =>
  (zs_p S3 a0 4 18 (.int (x5 + (1 : Int32)))).bind fun S7 =>
  (zs_gi S7 a0 4 19).bind fun x9 =>
  (zs_p S7 a0 4 19 (.int (x9 + v10))).bind fun S11 =>
  (zs_gi S11 a0 4 19).bind fun x13 =>
  if (3000 : Int32) < x13 then
    f_Mo_edit_158  a0 v9 S11
  else
    (zs_gr S11 a0 4 10).bind fun x15 =>
    (zs_gi S11 a0 4 9).bind fun x17 =>
    (x15).bind fun a19 =>
    (zs_las S11 a19 0 x17 v7).bind fun S21 =>
    (zs_gr S21 a0 4 11).bind fun x23 =>
    (zs_gi S21 a0 4 9).bind fun x25 =>
    (x23).bind fun a27 =>
    (zs_las S21 a27 0 x25 v5).bind fun S29 =>
    (zs_gi S29 a0 4 9).bind fun x31 =>
    (zs_p S29 a0 4 9 (.int (x31 + (1 : Int32)))).bind fun S33 =>
    f_Mo_edit_158  a0 v9 S33
def f_Mo_edit_68  (a0 : Nat) (v5 : Int64) (v7 : Int64) (v9 : Int32) (v10 : Int32) (S : zq_S) : Option (zq_S × Int32) :=
  (zs_gi S a0 4 18).bind fun x1 =>
  if x1 = 0 then
    (zs_gi S a0 4 12).bind fun x3 =>
    if zs_is S a0 4 = true then
    zs_b (f_Mo_startOf a0 x3 S) fun S6 x7 =>
    (zs_p S6 a0 4 9 (.int x7)).bind fun S11 =>
    f_Mo_edit_87  a0 v5 v7 v9 v10 S11
    else none
  else
    f_Mo_edit_87  a0 v5 v7 v9 v10 S
def f_Mo_edit (a0 : Nat) (v1 : Int32) (v2 : Int32) (v3 : Int32) (v4 : Int32) (v5 : Int64) (S : zq_S) : Option (zq_S × Int32) :=
  (zs_p S a0 4 0 (.int (0 : Int32))).bind fun S1 =>
  if zs_is S1 a0 4 = true then
  zs_b (f_Mo_keepWas a0 S1) fun S4 _ =>
  (zs_gi S4 a0 4 1).bind fun x9 =>
  (zs_gi S4 a0 4 2).bind fun x11 =>
  zs_b (f_Mo_command v1 x9 x11 v2 v3 v4 S4) fun S14 x15 =>
  if zs_is S14 a0 4 = true then
  zs_b (f_Mo_play a0 x15 v5 S14) fun S17 x18 =>
  if zs_is S17 a0 4 = true then
  zs_b (f_Mo_weight a0 S17) fun S23 x24 =>
  if x24 = 0 then
    some (S23, x18)
  else
    (zs_gi S23 a0 4 17).bind fun x28 =>
    if x28 = 0 then
      (zs_p S23 a0 4 18 (.int (0 : Int32))).bind fun S30 =>
      (zs_p S30 a0 4 19 (.int (0 : Int32))).bind fun S32 =>
      f_Mo_edit_68  a0 v5 x15 x18 x24 S32
    else
      f_Mo_edit_68  a0 v5 x15 x18 x24 S23
  else none
  else none
  else none
set_option maxHeartbeats 4000000 in
set_option maxRecDepth 100000 in
theorem r_Mo_edit_169 {l : Launch} (hl : l.stackTraces = false) {G : zq_G} {S0 T : zq_S} {v : Int32} {X : zq_X} (Z : Z_Mo_edit l G S0 T v X) {v9 : Int32} {S : zq_S} (hf : f_Mo_edit_169  v9 S = some (T, v)) : zq_W (Y_Mo_edit l G S0 T v) X 169 [(9, .int v9)] [] S 0 0 := by
  unfold f_Mo_edit_169 at hf
  refine zq_iload Z d_Mo_edit_169 0 rfl ?_
  exact zq_iret Z d_Mo_edit_171 (zs_1 hf) (zs_2 (fun z => (.inl (some (.int z)) : zq_R)) hf) ⟨(Nat.le_of_ble_eq_true rfl), (Nat.le_of_ble_eq_true rfl)⟩
set_option maxHeartbeats 4000000 in
set_option maxRecDepth 100000 in
theorem r_Mo_edit_158 {l : Launch} (hl : l.stackTraces = false) {G : zq_G} {S0 T : zq_S} {v : Int32} {X : zq_X} (Z : Z_Mo_edit l G S0 T v X) {a0 : Nat} {v9 : Int32} {S : zq_S} (hf : f_Mo_edit_158  a0 v9 S = some (T, v)) : zq_W (Y_Mo_edit l G S0 T v) X 158 [(0, .ref a0), (9, .int v9)] [] S 0 0 := by
  unfold f_Mo_edit_158 at hf
  refine zq_aload_n Z d_Mo_edit_158 0 rfl ?_
  have hq := Option.bind_eq_some_iff.mp hf
  clear hf
  obtain ⟨x1, h2, hf⟩ := hq
  refine zr_geti Z cd_Mo 17 d_Mo_edit_159 (by decide) m_341 h2 ?_
  refine zq_if_ne Z 169 d_Mo_edit_162 (by decide) (fun q => ?_) (fun q => ?_)
  · replace hf := zs_N q hf
    refine zq_sub (lo' := [(9, .int v9)]) [1] rfl ?_
    exact r_Mo_edit_169 hl Z  hf
  · replace hf := zs_T q hf
    refine zq_aload_n Z d_Mo_edit_165 0 rfl ?_
    have hq := zs_C hf
    clear hf
    obtain ⟨h6, hf⟩ := hq
    obtain ⟨fs7, e8⟩ := zs_isS h6
    have hq := zs_bS hf
    clear hf
    obtain ⟨S4, x5, h3, hf⟩ := hq
    refine zq_contR (zq_stepV Z zq_cf1 (c_Mo_endGroup hl h3) 4 rfl e8 d_Mo_edit_166 m_342 m_344 m_345 m_343 m_286 p_Mo_endGroup ⟨(Nat.le_of_ble_eq_true rfl), (Nat.le_of_ble_eq_true rfl), (Nat.le_of_ble_eq_true rfl), (Nat.le_of_ble_eq_true rfl)⟩ rfl (Nat.le_of_ble_eq_true rfl)) Z.p ?_
    refine zq_sub (lo' := [(9, .int v9)]) [1] rfl ?_
    exact r_Mo_edit_169 hl Z  hf
set_option maxHeartbeats 4000000 in
set_option maxRecDepth 100000 in
theorem r_Mo_edit_87 {l : Launch} (hl : l.stackTraces = false) {G : zq_G} {S0 T : zq_S} {v : Int32} {X : zq_X} (Z : Z_Mo_edit l G S0 T v X) {a0 : Nat} {v5 : Int64} {v7 : Int64} {v9 : Int32} {v10 : Int32} {S : zq_S} (hf : f_Mo_edit_87  a0 v5 v7 v9 v10 S = some (T, v)) : zq_W (Y_Mo_edit l G S0 T v) X 87 [(0, .ref a0), (5, .long v5), (7, .long v7), (9, .int v9), (10, .int v10)] [] S 0 0 := by
  unfold f_Mo_edit_87 at hf
  refine zq_aload_n Z d_Mo_edit_87 0 rfl ?_
  refine zq_aload_n Z d_Mo_edit_88 0 rfl ?_
  have hq := Option.bind_eq_some_iff.mp hf
  clear hf
  obtain ⟨x1, h2, hf⟩ := hq
  refine zr_geti Z cd_Mo 12 d_Mo_edit_89 (by decide) m_308 h2 ?_
  have hq := Option.bind_eq_some_iff.mp hf
  clear hf
  obtain ⟨S3, h4, hf⟩ := hq
  refine zr_puti Z cd_Mo 13 d_Mo_edit_92 (by decide) m_309 rfl (by decide +kernel) h4 ?_
  refine zq_aload_n Z d_Mo_edit_95 0 rfl ?_
  refine zq_dup Z d_Mo_edit_96 rfl ?_
  have hq := Option.bind_eq_some_iff.mp hf
  clear hf
  obtain ⟨x5, h6, hf⟩ := hq
  refine zr_geti Z cd_Mo 18 d_Mo_edit_97 (by decide) m_335 h6 ?_
  refine zq_iconst Z (1 : Int32) d_Mo_edit_100 (by decide) ?_
  refine zq_iadd Z d_Mo_edit_101 ?_
  have hq := Option.bind_eq_some_iff.mp hf
  clear hf
  obtain ⟨S7, h8, hf⟩ := hq
  refine zr_puti Z cd_Mo 18 d_Mo_edit_102 (by decide) m_335 rfl (by decide +kernel) h8 ?_
  refine zq_aload_n Z d_Mo_edit_105 0 rfl ?_
  refine zq_dup Z d_Mo_edit_106 rfl ?_
  have hq := Option.bind_eq_some_iff.mp hf
  clear hf
  obtain ⟨x9, h10, hf⟩ := hq
  refine zr_geti Z cd_Mo 19 d_Mo_edit_107 (by decide) m_336 h10 ?_
  refine zq_iload Z d_Mo_edit_110 4 rfl ?_
  refine zq_iadd Z d_Mo_edit_112 ?_
  have hq := Option.bind_eq_some_iff.mp hf
  clear hf
  obtain ⟨S11, h12, hf⟩ := hq
  refine zr_puti Z cd_Mo 19 d_Mo_edit_113 (by decide) m_336 rfl (by decide +kernel) h12 ?_
  refine zq_aload_n Z d_Mo_edit_116 0 rfl ?_
  have hq := Option.bind_eq_some_iff.mp hf
  clear hf
  obtain ⟨x13, h14, hf⟩ := hq
  refine zr_geti Z cd_Mo 19 d_Mo_edit_117 (by decide) m_336 h14 ?_
  refine zq_sipush Z (3000 : Int32) d_Mo_edit_120 (by decide) ?_
  refine zq_icmp_gt Z 158 d_Mo_edit_123 (by decide) (fun q => ?_) (fun q => ?_)
  · replace hf := zs_T q hf
    refine zq_sub (lo' := [(0, .ref a0), (9, .int v9)]) [0, 3] rfl ?_
    exact r_Mo_edit_158 hl Z  hf
  · replace hf := zs_N q hf
    refine zq_aload_n Z d_Mo_edit_126 0 rfl ?_
    have hq := Option.bind_eq_some_iff.mp hf
    clear hf
    obtain ⟨x15, h16, hf⟩ := hq
    refine zr_getr Z cd_Mo 10 d_Mo_edit_127 (by decide) m_273 h16 ?_
    refine zq_aload_n Z d_Mo_edit_130 0 rfl ?_
    have hq := Option.bind_eq_some_iff.mp hf
    clear hf
    obtain ⟨x17, h18, hf⟩ := hq
    refine zr_geti Z cd_Mo 9 d_Mo_edit_131 (by decide) m_310 h18 ?_
    refine zq_lload Z d_Mo_edit_134 2 rfl ?_
    have hq := Option.bind_eq_some_iff.mp hf
    clear hf
    obtain ⟨a19, h20, hf⟩ := hq
    subst h20
    have hq := Option.bind_eq_some_iff.mp hf
    clear hf
    obtain ⟨S21, h22, hf⟩ := hq
    refine zr_lastore Z 0 (fun _ => rfl) d_Mo_edit_136 h22 ?_
    refine zq_aload_n Z d_Mo_edit_137 0 rfl ?_
    have hq := Option.bind_eq_some_iff.mp hf
    clear hf
    obtain ⟨x23, h24, hf⟩ := hq
    refine zr_getr Z cd_Mo 11 d_Mo_edit_138 (by decide) m_274 h24 ?_
    refine zq_aload_n Z d_Mo_edit_141 0 rfl ?_
    have hq := Option.bind_eq_some_iff.mp hf
    clear hf
    obtain ⟨x25, h26, hf⟩ := hq
    refine zr_geti Z cd_Mo 9 d_Mo_edit_142 (by decide) m_310 h26 ?_
    refine zq_lload Z d_Mo_edit_145 1 rfl ?_
    have hq := Option.bind_eq_some_iff.mp hf
    clear hf
    obtain ⟨a27, h28, hf⟩ := hq
    subst h28
    have hq := Option.bind_eq_some_iff.mp hf
    clear hf
    obtain ⟨S29, h30, hf⟩ := hq
    refine zr_lastore Z 0 (fun _ => rfl) d_Mo_edit_147 h30 ?_
    refine zq_aload_n Z d_Mo_edit_148 0 rfl ?_
    refine zq_dup Z d_Mo_edit_149 rfl ?_
    have hq := Option.bind_eq_some_iff.mp hf
    clear hf
    obtain ⟨x31, h32, hf⟩ := hq
    refine zr_geti Z cd_Mo 9 d_Mo_edit_150 (by decide) m_310 h32 ?_
    refine zq_iconst Z (1 : Int32) d_Mo_edit_153 (by decide) ?_
    refine zq_iadd Z d_Mo_edit_154 ?_
    have hq := Option.bind_eq_some_iff.mp hf
    clear hf
    obtain ⟨S33, h34, hf⟩ := hq
    refine zr_puti Z cd_Mo 9 d_Mo_edit_155 (by decide) m_310 rfl (by decide +kernel) h34 ?_
    refine zq_sub (lo' := [(0, .ref a0), (9, .int v9)]) [0, 3] rfl ?_
    exact r_Mo_edit_158 hl Z  hf
set_option maxHeartbeats 4000000 in
set_option maxRecDepth 100000 in
theorem r_Mo_edit_68 {l : Launch} (hl : l.stackTraces = false) {G : zq_G} {S0 T : zq_S} {v : Int32} {X : zq_X} (Z : Z_Mo_edit l G S0 T v X) {a0 : Nat} {v5 : Int64} {v7 : Int64} {v9 : Int32} {v10 : Int32} {S : zq_S} (hf : f_Mo_edit_68  a0 v5 v7 v9 v10 S = some (T, v)) : zq_W (Y_Mo_edit l G S0 T v) X 68 [(0, .ref a0), (5, .long v5), (7, .long v7), (9, .int v9), (10, .int v10)] [] S 0 0 := by
  unfold f_Mo_edit_68 at hf
  refine zq_aload_n Z d_Mo_edit_68 0 rfl ?_
  have hq := Option.bind_eq_some_iff.mp hf
  clear hf
  obtain ⟨x1, h2, hf⟩ := hq
  refine zr_geti Z cd_Mo 18 d_Mo_edit_69 (by decide) m_335 h2 ?_
  refine zq_if_ne Z 87 d_Mo_edit_72 (by decide) (fun q => ?_) (fun q => ?_)
  · replace hf := zs_N q hf
    refine zq_sub (lo' := [(0, .ref a0), (5, .long v5), (7, .long v7), (9, .int v9), (10, .int v10)]) [0, 1, 2, 3, 4] rfl ?_
    exact r_Mo_edit_87 hl Z  hf
  · replace hf := zs_T q hf
    refine zq_aload_n Z d_Mo_edit_75 0 rfl ?_
    refine zq_aload_n Z d_Mo_edit_76 0 rfl ?_
    refine zq_aload_n Z d_Mo_edit_77 0 rfl ?_
    have hq := Option.bind_eq_some_iff.mp hf
    clear hf
    obtain ⟨x3, h4, hf⟩ := hq
    refine zr_geti Z cd_Mo 12 d_Mo_edit_78 (by decide) m_308 h4 ?_
    have hq := zs_C hf
    clear hf
    obtain ⟨h8, hf⟩ := hq
    obtain ⟨fs9, e10⟩ := zs_isS h8
    have hq := zs_bS hf
    clear hf
    obtain ⟨S6, x7, h5, hf⟩ := hq
    refine zq_contR (zq_stepV Z zq_cf1 (c_Mo_startOf hl h5) 4 rfl e10 d_Mo_edit_81 m_346 m_348 m_349 m_347 m_286 p_Mo_startOf ⟨(Nat.le_of_ble_eq_true rfl), (Nat.le_of_ble_eq_true rfl), (Nat.le_of_ble_eq_true rfl), (Nat.le_of_ble_eq_true rfl)⟩ rfl (Nat.le_of_ble_eq_true rfl)) Z.p ?_
    have hq := Option.bind_eq_some_iff.mp hf
    clear hf
    obtain ⟨S11, h12, hf⟩ := hq
    refine zr_puti Z cd_Mo 9 d_Mo_edit_84 (by decide) m_310 rfl (by decide +kernel) h12 ?_
    refine zq_sub (lo' := [(0, .ref a0), (5, .long v5), (7, .long v7), (9, .int v9), (10, .int v10)]) [0, 1, 2, 3, 4] rfl ?_
    exact r_Mo_edit_87 hl Z  hf
set_option maxHeartbeats 4000000 in
set_option maxRecDepth 100000 in
theorem c_Mo_edit {l : Launch} (hl : l.stackTraces = false) {G : zq_G} {a0 : Nat} {v1 : Int32} {v2 : Int32} {v3 : Int32} {v4 : Int32} {v5 : Int64} {S0 T : zq_S} {v : Int32} (hf : f_Mo_edit a0 v1 v2 v3 v4 v5 S0 = some (T, v)) : zq_M l y_Mo_edit (.code y_Mo_edit b_Mo_edit 11 (some (.int))) rm_Mo_edit G [.ref a0, .int v1, .int v2, .int v3, .int v4, .long v5] S0 ((.inl (some (.int v)) : zq_R)) T := by
  refine zq_Mof (lo := [(0, .ref a0), (1, .int v1), (2, .int v2), (3, .int v3), (4, .int v4), (5, .long v5)]) hl (by decide) (Nat.le_of_ble_eq_true rfl) rfl (fun X Z => ?_)
  have Z : Z_Mo_edit l G S0 T v X := Z
  show zq_W (Y_Mo_edit l G S0 T v) X 0 [(0, .ref a0), (1, .int v1), (2, .int v2), (3, .int v3), (4, .int v4), (5, .long v5)] [] S0 0 0
  unfold f_Mo_edit at hf
  refine zq_aload_n Z d_Mo_edit_0 0 rfl ?_
  refine zq_iconst Z (0 : Int32) d_Mo_edit_1 (by decide) ?_
  have hq := Option.bind_eq_some_iff.mp hf
  clear hf
  obtain ⟨S1, h2, hf⟩ := hq
  refine zr_puti Z cd_Mo 0 d_Mo_edit_2 (by decide) m_279 rfl (by decide +kernel) h2 ?_
  refine zq_aload_n Z d_Mo_edit_5 0 rfl ?_
  have hq := zs_C hf
  clear hf
  obtain ⟨h6, hf⟩ := hq
  obtain ⟨fs7, e8⟩ := zs_isS h6
  have hq := zs_bS hf
  clear hf
  obtain ⟨S4, x5, h3, hf⟩ := hq
  refine zq_contR (zq_stepV Z zq_cf1 (c_Mo_keepWas hl h3) 4 rfl e8 d_Mo_edit_6 m_319 m_321 m_322 m_320 m_286 p_Mo_keepWas ⟨(Nat.le_of_ble_eq_true rfl), (Nat.le_of_ble_eq_true rfl), (Nat.le_of_ble_eq_true rfl), (Nat.le_of_ble_eq_true rfl)⟩ rfl (Nat.le_of_ble_eq_true rfl)) Z.p ?_
  refine zq_iload_n Z d_Mo_edit_9 1 rfl ?_
  refine zq_aload_n Z d_Mo_edit_10 0 rfl ?_
  have hq := Option.bind_eq_some_iff.mp hf
  clear hf
  obtain ⟨x9, h10, hf⟩ := hq
  refine zr_geti Z cd_Mo 1 d_Mo_edit_11 (by decide) m_282 h10 ?_
  refine zq_aload_n Z d_Mo_edit_14 0 rfl ?_
  have hq := Option.bind_eq_some_iff.mp hf
  clear hf
  obtain ⟨x11, h12, hf⟩ := hq
  refine zr_geti Z cd_Mo 2 d_Mo_edit_15 (by decide) m_287 h12 ?_
  refine zq_iload_n Z d_Mo_edit_18 2 rfl ?_
  refine zq_iload_n Z d_Mo_edit_19 3 rfl ?_
  refine zq_iload Z d_Mo_edit_20 4 rfl ?_
  have hq := zs_bS hf
  clear hf
  obtain ⟨S14, x15, h13, hf⟩ := hq
  refine zq_contR (zq_stepS Z zq_cf1 (c_Mo_command hl h13) d_Mo_edit_22 m_350 m_351 m_352 m_286 p_Mo_command ⟨(Nat.le_of_ble_eq_true rfl), (Nat.le_of_ble_eq_true rfl), (Nat.le_of_ble_eq_true rfl), (Nat.le_of_ble_eq_true rfl)⟩ rfl (Nat.le_of_ble_eq_true rfl)) Z.p ?_
  refine zq_lstore Z [(7, .long x15), (0, .ref a0), (1, .int v1), (2, .int v2), (3, .int v3), (4, .int v4), (5, .long v5)] d_Mo_edit_25 (by decide) rfl ?_
  refine zq_aload_n Z d_Mo_edit_27 1 rfl ?_
  refine zq_lload Z d_Mo_edit_28 0 rfl ?_
  refine zq_lload Z d_Mo_edit_30 6 rfl ?_
  have hq := zs_C hf
  clear hf
  obtain ⟨h19, hf⟩ := hq
  obtain ⟨fs20, e21⟩ := zs_isS h19
  have hq := zs_bS hf
  clear hf
  obtain ⟨S17, x18, h16, hf⟩ := hq
  refine zq_contR (zq_stepV Z zq_cf1 (c_Mo_play hl h16) 4 rfl e21 d_Mo_edit_32 m_315 m_317 m_318 m_316 m_286 p_Mo_play ⟨(Nat.le_of_ble_eq_true rfl), (Nat.le_of_ble_eq_true rfl), (Nat.le_of_ble_eq_true rfl), (Nat.le_of_ble_eq_true rfl)⟩ rfl (Nat.le_of_ble_eq_true rfl)) Z.p ?_
  refine zq_istore Z [(9, .int x18), (7, .long x15), (0, .ref a0), (1, .int v1), (2, .int v2), (3, .int v3), (4, .int v4), (5, .long v5)] d_Mo_edit_35 (by decide) rfl ?_
  refine zq_aload_n Z d_Mo_edit_37 2 rfl ?_
  have hq := zs_C hf
  clear hf
  obtain ⟨h25, hf⟩ := hq
  obtain ⟨fs26, e27⟩ := zs_isS h25
  have hq := zs_bS hf
  clear hf
  obtain ⟨S23, x24, h22, hf⟩ := hq
  refine zq_contR (zq_stepV Z zq_cf1 (c_Mo_weight hl h22) 4 rfl e27 d_Mo_edit_38 m_353 m_355 m_356 m_354 m_286 p_Mo_weight ⟨(Nat.le_of_ble_eq_true rfl), (Nat.le_of_ble_eq_true rfl), (Nat.le_of_ble_eq_true rfl), (Nat.le_of_ble_eq_true rfl)⟩ rfl (Nat.le_of_ble_eq_true rfl)) Z.p ?_
  refine zq_istore Z [(10, .int x24), (9, .int x18), (7, .long x15), (0, .ref a0), (1, .int v1), (2, .int v2), (3, .int v3), (4, .int v4), (5, .long v5)] d_Mo_edit_41 (by decide) rfl ?_
  refine zq_iload Z d_Mo_edit_43 0 rfl ?_
  refine zq_if_ne Z 51 d_Mo_edit_45 (by decide) (fun q => ?_) (fun q => ?_)
  · replace hf := zs_N q hf
    refine zq_aload_n Z d_Mo_edit_51 3 rfl ?_
    have hq := Option.bind_eq_some_iff.mp hf
    clear hf
    obtain ⟨x28, h29, hf⟩ := hq
    refine zr_geti Z cd_Mo 17 d_Mo_edit_52 (by decide) m_341 h29 ?_
    refine zq_if_ne Z 68 d_Mo_edit_55 (by decide) (fun q => ?_) (fun q => ?_)
    · replace hf := zs_N q hf
      refine zq_sub (lo' := [(0, .ref a0), (5, .long v5), (7, .long x15), (9, .int x18), (10, .int x24)]) [3, 8, 2, 1, 0] rfl ?_
      exact r_Mo_edit_68 hl Z  hf
    · replace hf := zs_T q hf
      refine zq_aload_n Z d_Mo_edit_58 3 rfl ?_
      refine zq_iconst Z (0 : Int32) d_Mo_edit_59 (by decide) ?_
      have hq := Option.bind_eq_some_iff.mp hf
      clear hf
      obtain ⟨S30, h31, hf⟩ := hq
      refine zr_puti Z cd_Mo 18 d_Mo_edit_60 (by decide) m_335 rfl (by decide +kernel) h31 ?_
      refine zq_aload_n Z d_Mo_edit_63 3 rfl ?_
      refine zq_iconst Z (0 : Int32) d_Mo_edit_64 (by decide) ?_
      have hq := Option.bind_eq_some_iff.mp hf
      clear hf
      obtain ⟨S32, h33, hf⟩ := hq
      refine zr_puti Z cd_Mo 19 d_Mo_edit_65 (by decide) m_336 rfl (by decide +kernel) h33 ?_
      refine zq_sub (lo' := [(0, .ref a0), (5, .long v5), (7, .long x15), (9, .int x18), (10, .int x24)]) [3, 8, 2, 1, 0] rfl ?_
      exact r_Mo_edit_68 hl Z  hf
  · replace hf := zs_T q hf
    refine zq_iload Z d_Mo_edit_48 1 rfl ?_
    exact zq_iret Z d_Mo_edit_50 (zs_1 hf) (zs_2 (fun z => (.inl (some (.int z)) : zq_R)) hf) ⟨(Nat.le_of_ble_eq_true rfl), (Nat.le_of_ble_eq_true rfl)⟩
theorem d_Mo_isPlace_0 : decode b_Mo_isPlace 0 = .ok (.iload_n 1, 1) := by decide +kernel
theorem d_Mo_isPlace_1 : decode b_Mo_isPlace 1 = .ok (.iconst 0, 1) := by decide +kernel
theorem d_Mo_isPlace_2 : decode b_Mo_isPlace 2 = .ok (.aload_n 0, 1) := by decide +kernel
theorem d_Mo_isPlace_3 : decode b_Mo_isPlace 3 = .ok (.getfield 59, 3) := by decide +kernel
theorem d_Mo_isPlace_6 : decode b_Mo_isPlace 6 = .ok (.invokestatic 43, 3) := by decide +kernel
theorem d_Mo_isPlace_9 : decode b_Mo_isPlace 9 = .ok (.ireturn, 1) := by decide +kernel
def f_Mo_isPlace (a0 : Nat) (v1 : Int32) (S : zq_S) : Option (zq_S × Int32) :=
  (zs_gi S a0 4 3).bind fun x1 =>
  zs_b (f_Mo_in v1 (0 : Int32) x1 S) fun S4 x5 =>
  if x5 = 0 ∨ x5 = 1 then some (S4, x5) else none
set_option maxHeartbeats 4000000 in
set_option maxRecDepth 100000 in
theorem c_Mo_isPlace {l : Launch} (hl : l.stackTraces = false) {G : zq_G} {a0 : Nat} {v1 : Int32} {S0 T : zq_S} {v : Int32} (hf : f_Mo_isPlace a0 v1 S0 = some (T, v)) : zq_M l y_Mo_isPlace (.code y_Mo_isPlace b_Mo_isPlace 2 (some (.boolean))) rm_Mo_isPlace G [.ref a0, .int v1] S0 ((.inl (some (.int v)) : zq_R)) T := by
  refine zq_Mof (lo := [(0, .ref a0), (1, .int v1)]) hl (by decide) (Nat.le_of_ble_eq_true rfl) rfl (fun X Z => ?_)
  have Z : Z_Mo_isPlace l G S0 T v X := Z
  show zq_W (Y_Mo_isPlace l G S0 T v) X 0 [(0, .ref a0), (1, .int v1)] [] S0 0 0
  unfold f_Mo_isPlace at hf
  refine zq_iload_n Z d_Mo_isPlace_0 1 rfl ?_
  refine zq_iconst Z (0 : Int32) d_Mo_isPlace_1 (by decide) ?_
  refine zq_aload_n Z d_Mo_isPlace_2 0 rfl ?_
  have hq := Option.bind_eq_some_iff.mp hf
  clear hf
  obtain ⟨x1, h2, hf⟩ := hq
  refine zr_geti Z cd_Mo 3 d_Mo_isPlace_3 (by decide) m_288 h2 ?_
  have hq := zs_bS hf
  clear hf
  obtain ⟨S4, x5, h3, hf⟩ := hq
  refine zq_contR (zq_stepS Z zq_cf1 (c_Mo_in hl h3) d_Mo_isPlace_6 m_283 m_284 m_285 m_286 p_Mo_in ⟨(Nat.le_of_ble_eq_true rfl), (Nat.le_of_ble_eq_true rfl), (Nat.le_of_ble_eq_true rfl), (Nat.le_of_ble_eq_true rfl)⟩ rfl (Nat.le_of_ble_eq_true rfl)) Z.p ?_
  have hq := zs_C hf
  clear hf
  obtain ⟨h6, hf⟩ := hq
  exact zq_zret Z d_Mo_isPlace_9 h6 (zs_1 hf) (zs_2 (fun z => (.inl (some (.int z)) : zq_R)) hf) ⟨(Nat.le_of_ble_eq_true rfl), (Nat.le_of_ble_eq_true rfl)⟩
theorem d_Mo_isRange_0 : decode b_Mo_isRange 0 = .ok (.aload_n 0, 1) := by decide +kernel
theorem d_Mo_isRange_1 : decode b_Mo_isRange 1 = .ok (.iload_n 1, 1) := by decide +kernel
theorem d_Mo_isRange_2 : decode b_Mo_isRange 2 = .ok (.invokevirtual 140, 3) := by decide +kernel
theorem d_Mo_isRange_5 : decode b_Mo_isRange 5 = .ok (.ifCond .eq 21, 3) := by decide +kernel
theorem d_Mo_isRange_8 : decode b_Mo_isRange 8 = .ok (.iload_n 2, 1) := by decide +kernel
theorem d_Mo_isRange_9 : decode b_Mo_isRange 9 = .ok (.iconst 0, 1) := by decide +kernel
theorem d_Mo_isRange_10 : decode b_Mo_isRange 10 = .ok (.aload_n 0, 1) := by decide +kernel
theorem d_Mo_isRange_11 : decode b_Mo_isRange 11 = .ok (.getfield 59, 3) := by decide +kernel
theorem d_Mo_isRange_14 : decode b_Mo_isRange 14 = .ok (.iload_n 1, 1) := by decide +kernel
theorem d_Mo_isRange_15 : decode b_Mo_isRange 15 = .ok (.isub, 1) := by decide +kernel
theorem d_Mo_isRange_16 : decode b_Mo_isRange 16 = .ok (.invokestatic 43, 3) := by decide +kernel
theorem d_Mo_isRange_19 : decode b_Mo_isRange 19 = .ok (.ifCond .eq 7, 3) := by decide +kernel
theorem d_Mo_isRange_22 : decode b_Mo_isRange 22 = .ok (.iconst 1, 1) := by decide +kernel
theorem d_Mo_isRange_23 : decode b_Mo_isRange 23 = .ok (.goto 4, 3) := by decide +kernel
theorem d_Mo_isRange_26 : decode b_Mo_isRange 26 = .ok (.iconst 0, 1) := by decide +kernel
theorem d_Mo_isRange_27 : decode b_Mo_isRange 27 = .ok (.ireturn, 1) := by decide +kernel
def f_Mo_isRange_27  (s0 : Int32) (S : zq_S) : Option (zq_S × Int32) :=
  if s0 = 0 ∨ s0 = 1 then some (S, s0) else none
def f_Mo_isRange_26   (S : zq_S) : Option (zq_S × Int32) :=
  f_Mo_isRange_27  (0 : Int32) S
def f_Mo_isRange (a0 : Nat) (v1 : Int32) (v2 : Int32) (S : zq_S) : Option (zq_S × Int32) :=
  if zs_is S a0 4 = true then
  zs_b (f_Mo_isPlace a0 v1 S) fun S2 x3 =>
  if x3 = 0 then
    f_Mo_isRange_26   S2
  else
    (zs_gi S2 a0 4 3).bind fun x7 =>
    zs_b (f_Mo_in v2 (0 : Int32) (x7 - v1) S2) fun S10 x11 =>
    if x11 = 0 then
      f_Mo_isRange_26   S10
    else
      f_Mo_isRange_27  (1 : Int32) S10
  else none
set_option maxHeartbeats 4000000 in
set_option maxRecDepth 100000 in
theorem r_Mo_isRange_27 {l : Launch} (hl : l.stackTraces = false) {G : zq_G} {S0 T : zq_S} {v : Int32} {X : zq_X} (Z : Z_Mo_isRange l G S0 T v X) {s0 : Int32} {S : zq_S} (hf : f_Mo_isRange_27  s0 S = some (T, v)) : zq_W (Y_Mo_isRange l G S0 T v) X 27 [] [.int s0] S 0 0 := by
  unfold f_Mo_isRange_27 at hf
  have hq := zs_C hf
  clear hf
  obtain ⟨h1, hf⟩ := hq
  exact zq_zret Z d_Mo_isRange_27 h1 (zs_1 hf) (zs_2 (fun z => (.inl (some (.int z)) : zq_R)) hf) ⟨(Nat.le_of_ble_eq_true rfl), (Nat.le_of_ble_eq_true rfl)⟩
set_option maxHeartbeats 4000000 in
set_option maxRecDepth 100000 in
theorem r_Mo_isRange_26 {l : Launch} (hl : l.stackTraces = false) {G : zq_G} {S0 T : zq_S} {v : Int32} {X : zq_X} (Z : Z_Mo_isRange l G S0 T v X)  {S : zq_S} (hf : f_Mo_isRange_26   S = some (T, v)) : zq_W (Y_Mo_isRange l G S0 T v) X 26 [] [] S 0 0 := by
  unfold f_Mo_isRange_26 at hf
  refine zq_iconst Z (0 : Int32) d_Mo_isRange_26 (by decide) ?_
  refine zq_sub (lo' := []) [] rfl ?_
  exact r_Mo_isRange_27 hl Z  hf
set_option maxHeartbeats 4000000 in
set_option maxRecDepth 100000 in
theorem c_Mo_isRange {l : Launch} (hl : l.stackTraces = false) {G : zq_G} {a0 : Nat} {v1 : Int32} {v2 : Int32} {S0 T : zq_S} {v : Int32} (hf : f_Mo_isRange a0 v1 v2 S0 = some (T, v)) : zq_M l y_Mo_isRange (.code y_Mo_isRange b_Mo_isRange 3 (some (.boolean))) rm_Mo_isRange G [.ref a0, .int v1, .int v2] S0 ((.inl (some (.int v)) : zq_R)) T := by
  refine zq_Mof (lo := [(0, .ref a0), (1, .int v1), (2, .int v2)]) hl (by decide) (Nat.le_of_ble_eq_true rfl) rfl (fun X Z => ?_)
  have Z : Z_Mo_isRange l G S0 T v X := Z
  show zq_W (Y_Mo_isRange l G S0 T v) X 0 [(0, .ref a0), (1, .int v1), (2, .int v2)] [] S0 0 0
  unfold f_Mo_isRange at hf
  refine zq_aload_n Z d_Mo_isRange_0 0 rfl ?_
  refine zq_iload_n Z d_Mo_isRange_1 1 rfl ?_
  have hq := zs_C hf
  clear hf
  obtain ⟨h4, hf⟩ := hq
  obtain ⟨fs5, e6⟩ := zs_isS h4
  have hq := zs_bS hf
  clear hf
  obtain ⟨S2, x3, h1, hf⟩ := hq
  refine zq_contR (zq_stepV Z zq_cf1 (c_Mo_isPlace hl h1) 4 rfl e6 d_Mo_isRange_2 m_357 m_359 m_360 m_358 m_286 p_Mo_isPlace ⟨(Nat.le_of_ble_eq_true rfl), (Nat.le_of_ble_eq_true rfl), (Nat.le_of_ble_eq_true rfl), (Nat.le_of_ble_eq_true rfl)⟩ rfl (Nat.le_of_ble_eq_true rfl)) Z.p ?_
  refine zq_if_eq Z 26 d_Mo_isRange_5 (by decide) (fun q => ?_) (fun q => ?_)
  · replace hf := zs_T q hf
    refine zq_sub (lo' := []) [] rfl ?_
    exact r_Mo_isRange_26 hl Z  hf
  · replace hf := zs_N q hf
    refine zq_iload_n Z d_Mo_isRange_8 2 rfl ?_
    refine zq_iconst Z (0 : Int32) d_Mo_isRange_9 (by decide) ?_
    refine zq_aload_n Z d_Mo_isRange_10 0 rfl ?_
    have hq := Option.bind_eq_some_iff.mp hf
    clear hf
    obtain ⟨x7, h8, hf⟩ := hq
    refine zr_geti Z cd_Mo 3 d_Mo_isRange_11 (by decide) m_288 h8 ?_
    refine zq_iload_n Z d_Mo_isRange_14 1 rfl ?_
    refine zq_isub Z d_Mo_isRange_15 ?_
    have hq := zs_bS hf
    clear hf
    obtain ⟨S10, x11, h9, hf⟩ := hq
    refine zq_contR (zq_stepS Z zq_cf1 (c_Mo_in hl h9) d_Mo_isRange_16 m_283 m_284 m_285 m_286 p_Mo_in ⟨(Nat.le_of_ble_eq_true rfl), (Nat.le_of_ble_eq_true rfl), (Nat.le_of_ble_eq_true rfl), (Nat.le_of_ble_eq_true rfl)⟩ rfl (Nat.le_of_ble_eq_true rfl)) Z.p ?_
    refine zq_if_eq Z 26 d_Mo_isRange_19 (by decide) (fun q => ?_) (fun q => ?_)
    · replace hf := zs_T q hf
      refine zq_sub (lo' := []) [] rfl ?_
      exact r_Mo_isRange_26 hl Z  hf
    · replace hf := zs_N q hf
      refine zq_iconst Z (1 : Int32) d_Mo_isRange_22 (by decide) ?_
      refine zq_goto Z 27 d_Mo_isRange_23 (by decide) ?_
      refine zq_sub (lo' := []) [] rfl ?_
      exact r_Mo_isRange_27 hl Z  hf
theorem d_Mo_insert_0 : decode b_Mo_insert 0 = .ok (.aload_n 0, 1) := by decide +kernel
theorem d_Mo_insert_1 : decode b_Mo_insert 1 = .ok (.aload_n 0, 1) := by decide +kernel
theorem d_Mo_insert_2 : decode b_Mo_insert 2 = .ok (.iload_n 1, 1) := by decide +kernel
theorem d_Mo_insert_3 : decode b_Mo_insert 3 = .ok (.invokevirtual 140, 3) := by decide +kernel
theorem d_Mo_insert_6 : decode b_Mo_insert 6 = .ok (.ifCond .ne 7, 3) := by decide +kernel
theorem d_Mo_insert_9 : decode b_Mo_insert 9 = .ok (.iconst 1, 1) := by decide +kernel
theorem d_Mo_insert_10 : decode b_Mo_insert 10 = .ok (.goto 30, 3) := by decide +kernel
theorem d_Mo_insert_13 : decode b_Mo_insert 13 = .ok (.iload 4, 2) := by decide +kernel
theorem d_Mo_insert_15 : decode b_Mo_insert 15 = .ok (.iconst 0, 1) := by decide +kernel
theorem d_Mo_insert_16 : decode b_Mo_insert 16 = .ok (.sipush 255, 3) := by decide +kernel
theorem d_Mo_insert_19 : decode b_Mo_insert 19 = .ok (.invokestatic 43, 3) := by decide +kernel
theorem d_Mo_insert_22 : decode b_Mo_insert 22 = .ok (.ifCond .eq 13, 3) := by decide +kernel
theorem d_Mo_insert_25 : decode b_Mo_insert 25 = .ok (.lload_n 2, 1) := by decide +kernel
theorem d_Mo_insert_26 : decode b_Mo_insert 26 = .ok (.ldc2_w 39, 3) := by decide +kernel
theorem d_Mo_insert_29 : decode b_Mo_insert 29 = .ok (.land, 1) := by decide +kernel
theorem d_Mo_insert_30 : decode b_Mo_insert 30 = .ok (.lconst 0, 1) := by decide +kernel
theorem d_Mo_insert_31 : decode b_Mo_insert 31 = .ok (.lcmp, 1) := by decide +kernel
theorem d_Mo_insert_32 : decode b_Mo_insert 32 = .ok (.ifCond .ne 7, 3) := by decide +kernel
theorem d_Mo_insert_35 : decode b_Mo_insert 35 = .ok (.iconst 2, 1) := by decide +kernel
theorem d_Mo_insert_36 : decode b_Mo_insert 36 = .ok (.goto 4, 3) := by decide +kernel
theorem d_Mo_insert_39 : decode b_Mo_insert 39 = .ok (.iconst 0, 1) := by decide +kernel
theorem d_Mo_insert_40 : decode b_Mo_insert 40 = .ok (.putfield 35, 3) := by decide +kernel
theorem d_Mo_insert_43 : decode b_Mo_insert 43 = .ok (.aload_n 0, 1) := by decide +kernel
theorem d_Mo_insert_44 : decode b_Mo_insert 44 = .ok (.getfield 35, 3) := by decide +kernel
theorem d_Mo_insert_47 : decode b_Mo_insert 47 = .ok (.ifCond .le 5, 3) := by decide +kernel
theorem d_Mo_insert_50 : decode b_Mo_insert 50 = .ok (.iconst 0, 1) := by decide +kernel
theorem d_Mo_insert_51 : decode b_Mo_insert 51 = .ok (.ireturn, 1) := by decide +kernel
theorem d_Mo_insert_52 : decode b_Mo_insert 52 = .ok (.iconst 0, 1) := by decide +kernel
theorem d_Mo_insert_53 : decode b_Mo_insert 53 = .ok (.istore 5, 2) := by decide +kernel
theorem d_Mo_insert_55 : decode b_Mo_insert 55 = .ok (.iload 5, 2) := by decide +kernel
theorem d_Mo_insert_57 : decode b_Mo_insert 57 = .ok (.bipush 8, 2) := by decide +kernel
theorem d_Mo_insert_59 : decode b_Mo_insert 59 = .ok (.if_icmp .ge 25, 3) := by decide +kernel
theorem d_Mo_insert_62 : decode b_Mo_insert 62 = .ok (.lload_n 2, 1) := by decide +kernel
theorem d_Mo_insert_63 : decode b_Mo_insert 63 = .ok (.bipush 8, 2) := by decide +kernel
theorem d_Mo_insert_65 : decode b_Mo_insert 65 = .ok (.iload 5, 2) := by decide +kernel
theorem d_Mo_insert_67 : decode b_Mo_insert 67 = .ok (.imul, 1) := by decide +kernel
theorem d_Mo_insert_68 : decode b_Mo_insert 68 = .ok (.lshr, 1) := by decide +kernel
theorem d_Mo_insert_69 : decode b_Mo_insert 69 = .ok (.ldc2_w 39, 3) := by decide +kernel
theorem d_Mo_insert_72 : decode b_Mo_insert 72 = .ok (.land, 1) := by decide +kernel
theorem d_Mo_insert_73 : decode b_Mo_insert 73 = .ok (.lconst 0, 1) := by decide +kernel
theorem d_Mo_insert_74 : decode b_Mo_insert 74 = .ok (.lcmp, 1) := by decide +kernel
theorem d_Mo_insert_75 : decode b_Mo_insert 75 = .ok (.ifCond .eq 9, 3) := by decide +kernel
theorem d_Mo_insert_78 : decode b_Mo_insert 78 = .ok (.iinc 5 1, 3) := by decide +kernel
theorem d_Mo_insert_81 : decode b_Mo_insert 81 = .ok (.goto (-26), 3) := by decide +kernel
theorem d_Mo_insert_84 : decode b_Mo_insert 84 = .ok (.aload_n 0, 1) := by decide +kernel
theorem d_Mo_insert_85 : decode b_Mo_insert 85 = .ok (.getfield 59, 3) := by decide +kernel
theorem d_Mo_insert_88 : decode b_Mo_insert 88 = .ok (.iload 5, 2) := by decide +kernel
theorem d_Mo_insert_90 : decode b_Mo_insert 90 = .ok (.iadd, 1) := by decide +kernel
theorem d_Mo_insert_91 : decode b_Mo_insert 91 = .ok (.sipush 600, 3) := by decide +kernel
theorem d_Mo_insert_94 : decode b_Mo_insert 94 = .ok (.if_icmp .le 11, 3) := by decide +kernel
theorem d_Mo_insert_97 : decode b_Mo_insert 97 = .ok (.aload_n 0, 1) := by decide +kernel
theorem d_Mo_insert_98 : decode b_Mo_insert 98 = .ok (.iconst 3, 1) := by decide +kernel
theorem d_Mo_insert_99 : decode b_Mo_insert 99 = .ok (.invokevirtual 144, 3) := by decide +kernel
theorem d_Mo_insert_102 : decode b_Mo_insert 102 = .ok (.goto 14, 3) := by decide +kernel
theorem d_Mo_insert_105 : decode b_Mo_insert 105 = .ok (.aload_n 0, 1) := by decide +kernel
theorem d_Mo_insert_106 : decode b_Mo_insert 106 = .ok (.iconst 0, 1) := by decide +kernel
theorem d_Mo_insert_107 : decode b_Mo_insert 107 = .ok (.iload 4, 2) := by decide +kernel
theorem d_Mo_insert_109 : decode b_Mo_insert 109 = .ok (.iload_n 1, 1) := by decide +kernel
theorem d_Mo_insert_110 : decode b_Mo_insert 110 = .ok (.iload 5, 2) := by decide +kernel
theorem d_Mo_insert_112 : decode b_Mo_insert 112 = .ok (.lload_n 2, 1) := by decide +kernel
theorem d_Mo_insert_113 : decode b_Mo_insert 113 = .ok (.invokevirtual 147, 3) := by decide +kernel
theorem d_Mo_insert_116 : decode b_Mo_insert 116 = .ok (.ireturn, 1) := by decide +kernel
def f_Mo_insert_116  (s0 : Int32) (S : zq_S) : Option (zq_S × Int32) :=
  some (S, s0)
def f_Mo_insert_84  (a0 : Nat) (v1 : Int32) (v2 : Int64) (v4 : Int32) (v5 : Int32) (S : zq_S) : Option (zq_S × Int32) :=
  (zs_gi S a0 4 3).bind fun x1 =>
  if (x1 + v5) ≤ (600 : Int32) then
    if zs_is S a0 4 = true then
    zs_b (f_Mo_edit a0 (0 : Int32) v4 v1 v5 v2 S) fun S4 x5 =>
    f_Mo_insert_116  x5 S4
    else none
  else
    if zs_is S a0 4 = true then
    zs_b (f_Mo_raise a0 (3 : Int32) S) fun S10 x11 =>
    f_Mo_insert_116  x11 S10
    else none
def f_Mo_insert_55 (k55 : Nat → Int32 → Int64 → Int32 → Int32 → zq_S → Option (zq_S × Int32)) (a0 : Nat) (v1 : Int32) (v2 : Int64) (v4 : Int32) (v5 : Int32) (S : zq_S) : Option (zq_S × Int32) :=
  if (8 : Int32) ≤ v5 then
    f_Mo_insert_84  a0 v1 v2 v4 v5 S
  else
    if (lg_cmp ((zf_lshr v2 ((8 : Int32) * v5)) &&& (255 : Int64)) (0 : Int64)) = 0 then
      f_Mo_insert_84  a0 v1 v2 v4 v5 S
    else
      k55 a0 v1 v2 v4 (v5 + (1 : Int32)) S
def g_Mo_insert_55  : Nat → Nat → Int32 → Int64 → Int32 → Int32 → zq_S → Option (zq_S × Int32)
  | 0 => fun _ _ _ _ _ _ => none
  | n + 1 => fun a0 v1 v2 v4 v5 S => f_Mo_insert_55  (g_Mo_insert_55  n) a0 v1 v2 v4 v5 S
def f_Mo_insert_40  (a0 : Nat) (v1 : Int32) (v2 : Int64) (v4 : Int32) (s0 : Option Nat) (s1 : Int32) (S : zq_S) : Option (zq_S × Int32) :=
  (s0).bind fun a1 =>
  (zs_p S a1 4 0 (.int s1)).bind fun S3 =>
  (zs_gi S3 a0 4 0).bind fun x5 =>
  if x5 ≤ 0 then
    g_Mo_insert_55  zq_F a0 v1 v2 v4 (0 : Int32) S3
  else
    some (S3, (0 : Int32))
def f_Mo_insert_35  (a0 : Nat) (v1 : Int32) (v2 : Int64) (v4 : Int32) (s0 : Option Nat) (S : zq_S) : Option (zq_S × Int32) :=
  f_Mo_insert_40  a0 v1 v2 v4 s0 (2 : Int32) S
def f_Mo_insert (a0 : Nat) (v1 : Int32) (v2 : Int64) (v4 : Int32) (S : zq_S) : Option (zq_S × Int32) :=
  if zs_is S a0 4 = true then
  zs_b (f_Mo_isPlace a0 v1 S) fun S2 x3 =>
  if x3 = 0 then
    f_Mo_insert_40  a0 v1 v2 v4 (some a0) (1 : Int32) S2
  else
    zs_b (f_Mo_in v4 (0 : Int32) (255 : Int32) S2) fun S8 x9 =>
    if x9 = 0 then
      f_Mo_insert_35  a0 v1 v2 v4 (some a0) S8
    else
      if (lg_cmp (v2 &&& (255 : Int64)) (0 : Int64)) = 0 then
        f_Mo_insert_35  a0 v1 v2 v4 (some a0) S8
      else
        f_Mo_insert_40  a0 v1 v2 v4 (some a0) (0 : Int32) S8
  else none
set_option maxHeartbeats 4000000 in
set_option maxRecDepth 100000 in
theorem r_Mo_insert_116 {l : Launch} (hl : l.stackTraces = false) {G : zq_G} {S0 T : zq_S} {v : Int32} {X : zq_X} (Z : Z_Mo_insert l G S0 T v X) {s0 : Int32} {S : zq_S} (hf : f_Mo_insert_116  s0 S = some (T, v)) : zq_W (Y_Mo_insert l G S0 T v) X 116 [] [.int s0] S 0 0 := by
  unfold f_Mo_insert_116 at hf
  exact zq_iret Z d_Mo_insert_116 (zs_1 hf) (zs_2 (fun z => (.inl (some (.int z)) : zq_R)) hf) ⟨(Nat.le_of_ble_eq_true rfl), (Nat.le_of_ble_eq_true rfl)⟩
set_option maxHeartbeats 4000000 in
set_option maxRecDepth 100000 in
theorem r_Mo_insert_84 {l : Launch} (hl : l.stackTraces = false) {G : zq_G} {S0 T : zq_S} {v : Int32} {X : zq_X} (Z : Z_Mo_insert l G S0 T v X) {a0 : Nat} {v1 : Int32} {v2 : Int64} {v4 : Int32} {v5 : Int32} {S : zq_S} (hf : f_Mo_insert_84  a0 v1 v2 v4 v5 S = some (T, v)) : zq_W (Y_Mo_insert l G S0 T v) X 84 [(0, .ref a0), (1, .int v1), (2, .long v2), (4, .int v4), (5, .int v5)] [] S 0 0 := by
  unfold f_Mo_insert_84 at hf
  refine zq_aload_n Z d_Mo_insert_84 0 rfl ?_
  have hq := Option.bind_eq_some_iff.mp hf
  clear hf
  obtain ⟨x1, h2, hf⟩ := hq
  refine zr_geti Z cd_Mo 3 d_Mo_insert_85 (by decide) m_288 h2 ?_
  refine zq_iload Z d_Mo_insert_88 4 rfl ?_
  refine zq_iadd Z d_Mo_insert_90 ?_
  refine zq_sipush Z (600 : Int32) d_Mo_insert_91 (by decide) ?_
  refine zq_icmp_le Z 105 d_Mo_insert_94 (by decide) (fun q => ?_) (fun q => ?_)
  · replace hf := zs_T q hf
    refine zq_aload_n Z d_Mo_insert_105 0 rfl ?_
    refine zq_iconst Z (0 : Int32) d_Mo_insert_106 (by decide) ?_
    refine zq_iload Z d_Mo_insert_107 3 rfl ?_
    refine zq_iload_n Z d_Mo_insert_109 1 rfl ?_
    refine zq_iload Z d_Mo_insert_110 4 rfl ?_
    refine zq_lload_n Z d_Mo_insert_112 2 rfl ?_
    have hq := zs_C hf
    clear hf
    obtain ⟨h6, hf⟩ := hq
    obtain ⟨fs7, e8⟩ := zs_isS h6
    have hq := zs_bS hf
    clear hf
    obtain ⟨S4, x5, h3, hf⟩ := hq
    refine zq_contR (zq_stepV Z zq_cf1 (c_Mo_edit hl h3) 4 rfl e8 d_Mo_insert_113 m_361 m_363 m_364 m_362 m_286 p_Mo_edit ⟨(Nat.le_of_ble_eq_true rfl), (Nat.le_of_ble_eq_true rfl), (Nat.le_of_ble_eq_true rfl), (Nat.le_of_ble_eq_true rfl)⟩ rfl (Nat.le_of_ble_eq_true rfl)) Z.p ?_
    refine zq_sub (lo' := []) [] rfl ?_
    exact r_Mo_insert_116 hl Z  hf
  · replace hf := zs_N q hf
    refine zq_aload_n Z d_Mo_insert_97 0 rfl ?_
    refine zq_iconst Z (3 : Int32) d_Mo_insert_98 (by decide) ?_
    have hq := zs_C hf
    clear hf
    obtain ⟨h12, hf⟩ := hq
    obtain ⟨fs13, e14⟩ := zs_isS h12
    have hq := zs_bS hf
    clear hf
    obtain ⟨S10, x11, h9, hf⟩ := hq
    refine zq_contR (zq_stepV Z zq_cf1 (c_Mo_raise hl h9) 4 rfl e14 d_Mo_insert_99 m_365 m_367 m_368 m_366 m_286 p_Mo_raise ⟨(Nat.le_of_ble_eq_true rfl), (Nat.le_of_ble_eq_true rfl), (Nat.le_of_ble_eq_true rfl), (Nat.le_of_ble_eq_true rfl)⟩ rfl (Nat.le_of_ble_eq_true rfl)) Z.p ?_
    refine zq_goto Z 116 d_Mo_insert_102 (by decide) ?_
    refine zq_sub (lo' := []) [] rfl ?_
    exact r_Mo_insert_116 hl Z  hf
set_option maxHeartbeats 4000000 in
set_option maxRecDepth 100000 in
theorem r_Mo_insert_55 {l : Launch} (hl : l.stackTraces = false) {G : zq_G} {S0 T : zq_S} {v : Int32} {X : zq_X} (Z : Z_Mo_insert l G S0 T v X) {k55 : Nat → Int32 → Int64 → Int32 → Int32 → zq_S → Option (zq_S × Int32)} (hk55 : ∀ (a0 : Nat) (v1 : Int32) (v2 : Int64) (v4 : Int32) (v5 : Int32) (S : zq_S), k55 a0 v1 v2 v4 v5 S = some (T, v) → zq_W (Y_Mo_insert l G S0 T v) X 55 [(0, .ref a0), (1, .int v1), (2, .long v2), (4, .int v4), (5, .int v5)] [] S 0 0) {a0 : Nat} {v1 : Int32} {v2 : Int64} {v4 : Int32} {v5 : Int32} {S : zq_S} (hf : f_Mo_insert_55 k55 a0 v1 v2 v4 v5 S = some (T, v)) : zq_W (Y_Mo_insert l G S0 T v) X 55 [(0, .ref a0), (1, .int v1), (2, .long v2), (4, .int v4), (5, .int v5)] [] S 0 0 := by
  unfold f_Mo_insert_55 at hf
  refine zq_iload Z d_Mo_insert_55 4 rfl ?_
  refine zq_bipush Z (8 : Int32) d_Mo_insert_57 (by decide) ?_
  refine zq_icmp_ge Z 84 d_Mo_insert_59 (by decide) (fun q => ?_) (fun q => ?_)
  · replace hf := zs_T q hf
    refine zq_sub (lo' := [(0, .ref a0), (1, .int v1), (2, .long v2), (4, .int v4), (5, .int v5)]) [0, 1, 2, 3, 4] rfl ?_
    exact r_Mo_insert_84 hl Z  hf
  · replace hf := zs_N q hf
    refine zq_lload_n Z d_Mo_insert_62 2 rfl ?_
    refine zq_bipush Z (8 : Int32) d_Mo_insert_63 (by decide) ?_
    refine zq_iload Z d_Mo_insert_65 4 rfl ?_
    refine zq_imul Z d_Mo_insert_67 ?_
    refine zq_lshr Z d_Mo_insert_68 ?_
    refine zq_ldc2 Z (255 : Int64) d_Mo_insert_69 m_280 ?_
    refine zq_land Z d_Mo_insert_72 ?_
    refine zq_lconst Z (0 : Int64) d_Mo_insert_73 (by decide) ?_
    refine zq_lcmp Z d_Mo_insert_74 ?_
    refine zq_if_eq Z 84 d_Mo_insert_75 (by decide) (fun q => ?_) (fun q => ?_)
    · replace hf := zs_T q hf
      refine zq_sub (lo' := [(0, .ref a0), (1, .int v1), (2, .long v2), (4, .int v4), (5, .int v5)]) [0, 1, 2, 3, 4] rfl ?_
      exact r_Mo_insert_84 hl Z  hf
    · replace hf := zs_N q hf
      refine zq_iinc Z (v5 + (1 : Int32)) [(5, .int (v5 + (1 : Int32))), (0, .ref a0), (1, .int v1), (2, .long v2), (4, .int v4)] d_Mo_insert_78 4 rfl rfl (by decide) rfl ?_
      refine zq_goto Z 55 d_Mo_insert_81 (by decide) ?_
      refine zq_sub (lo' := [(0, .ref a0), (1, .int v1), (2, .long v2), (4, .int v4), (5, .int (v5 + (1 : Int32)))]) [1, 2, 3, 4, 0] rfl ?_
      exact hk55 _ _ _ _ _ _ hf
theorem w_Mo_insert_55 {l : Launch} (hl : l.stackTraces = false) {G : zq_G} {S0 T : zq_S} {v : Int32} {X : zq_X} (Z : Z_Mo_insert l G S0 T v X) : ∀ (n : Nat) (a0 : Nat) (v1 : Int32) (v2 : Int64) (v4 : Int32) (v5 : Int32) (S : zq_S), g_Mo_insert_55  n a0 v1 v2 v4 v5 S = some (T, v) → zq_W (Y_Mo_insert l G S0 T v) X 55 [(0, .ref a0), (1, .int v1), (2, .long v2), (4, .int v4), (5, .int v5)] [] S 0 0 := by
  intro n
  induction n with
  | zero => intro a0 v1 v2 v4 v5 S hf; cases hf
  | succ n ih =>
    intro a0 v1 v2 v4 v5 S hf
    have hf : f_Mo_insert_55  (g_Mo_insert_55  n) a0 v1 v2 v4 v5 S = some (T, v) := hf
    exact r_Mo_insert_55 hl Z  ih hf
set_option maxHeartbeats 4000000 in
set_option maxRecDepth 100000 in
theorem r_Mo_insert_40 {l : Launch} (hl : l.stackTraces = false) {G : zq_G} {S0 T : zq_S} {v : Int32} {X : zq_X} (Z : Z_Mo_insert l G S0 T v X) {a0 : Nat} {v1 : Int32} {v2 : Int64} {v4 : Int32} {s0 : Option Nat} {s1 : Int32} {S : zq_S} (hf : f_Mo_insert_40  a0 v1 v2 v4 s0 s1 S = some (T, v)) : zq_W (Y_Mo_insert l G S0 T v) X 40 [(0, .ref a0), (1, .int v1), (2, .long v2), (4, .int v4)] [.int s1, va_rf s0] S 0 0 := by
  unfold f_Mo_insert_40 at hf
  have hq := Option.bind_eq_some_iff.mp hf
  clear hf
  obtain ⟨a1, h2, hf⟩ := hq
  subst h2
  have hq := Option.bind_eq_some_iff.mp hf
  clear hf
  obtain ⟨S3, h4, hf⟩ := hq
  refine zr_puti Z cd_Mo 0 d_Mo_insert_40 (by decide) m_279 rfl (by decide +kernel) h4 ?_
  refine zq_aload_n Z d_Mo_insert_43 0 rfl ?_
  have hq := Option.bind_eq_some_iff.mp hf
  clear hf
  obtain ⟨x5, h6, hf⟩ := hq
  refine zr_geti Z cd_Mo 0 d_Mo_insert_44 (by decide) m_279 h6 ?_
  refine zq_if_le Z 52 d_Mo_insert_47 (by decide) (fun q => ?_) (fun q => ?_)
  · replace hf := zs_T q hf
    refine zq_iconst Z (0 : Int32) d_Mo_insert_52 (by decide) ?_
    refine zq_istore Z [(5, .int (0 : Int32)), (0, .ref a0), (1, .int v1), (2, .long v2), (4, .int v4)] d_Mo_insert_53 (by decide) rfl ?_
    refine zq_sub (lo' := [(0, .ref a0), (1, .int v1), (2, .long v2), (4, .int v4), (5, .int (0 : Int32))]) [1, 2, 3, 4, 0] rfl ?_
    exact w_Mo_insert_55 hl Z  _ _ _ _ _ _ _ hf
  · replace hf := zs_N q hf
    refine zq_iconst Z (0 : Int32) d_Mo_insert_50 (by decide) ?_
    exact zq_iret Z d_Mo_insert_51 (zs_1 hf) (zs_2 (fun z => (.inl (some (.int z)) : zq_R)) hf) ⟨(Nat.le_of_ble_eq_true rfl), (Nat.le_of_ble_eq_true rfl)⟩
set_option maxHeartbeats 4000000 in
set_option maxRecDepth 100000 in
theorem r_Mo_insert_35 {l : Launch} (hl : l.stackTraces = false) {G : zq_G} {S0 T : zq_S} {v : Int32} {X : zq_X} (Z : Z_Mo_insert l G S0 T v X) {a0 : Nat} {v1 : Int32} {v2 : Int64} {v4 : Int32} {s0 : Option Nat} {S : zq_S} (hf : f_Mo_insert_35  a0 v1 v2 v4 s0 S = some (T, v)) : zq_W (Y_Mo_insert l G S0 T v) X 35 [(0, .ref a0), (1, .int v1), (2, .long v2), (4, .int v4)] [va_rf s0] S 0 0 := by
  unfold f_Mo_insert_35 at hf
  refine zq_iconst Z (2 : Int32) d_Mo_insert_35 (by decide) ?_
  refine zq_goto Z 40 d_Mo_insert_36 (by decide) ?_
  refine zq_sub (lo' := [(0, .ref a0), (1, .int v1), (2, .long v2), (4, .int v4)]) [0, 1, 2, 3] rfl ?_
  exact r_Mo_insert_40 hl Z  hf
set_option maxHeartbeats 4000000 in
set_option maxRecDepth 100000 in
theorem c_Mo_insert {l : Launch} (hl : l.stackTraces = false) {G : zq_G} {a0 : Nat} {v1 : Int32} {v2 : Int64} {v4 : Int32} {S0 T : zq_S} {v : Int32} (hf : f_Mo_insert a0 v1 v2 v4 S0 = some (T, v)) : zq_M l y_Mo_insert (.code y_Mo_insert b_Mo_insert 6 (some (.int))) rm_Mo_insert G [.ref a0, .int v1, .long v2, .int v4] S0 ((.inl (some (.int v)) : zq_R)) T := by
  refine zq_Mof (lo := [(0, .ref a0), (1, .int v1), (2, .long v2), (4, .int v4)]) hl (by decide) (Nat.le_of_ble_eq_true rfl) rfl (fun X Z => ?_)
  have Z : Z_Mo_insert l G S0 T v X := Z
  show zq_W (Y_Mo_insert l G S0 T v) X 0 [(0, .ref a0), (1, .int v1), (2, .long v2), (4, .int v4)] [] S0 0 0
  unfold f_Mo_insert at hf
  refine zq_aload_n Z d_Mo_insert_0 0 rfl ?_
  refine zq_aload_n Z d_Mo_insert_1 0 rfl ?_
  refine zq_iload_n Z d_Mo_insert_2 1 rfl ?_
  have hq := zs_C hf
  clear hf
  obtain ⟨h4, hf⟩ := hq
  obtain ⟨fs5, e6⟩ := zs_isS h4
  have hq := zs_bS hf
  clear hf
  obtain ⟨S2, x3, h1, hf⟩ := hq
  refine zq_contR (zq_stepV Z zq_cf1 (c_Mo_isPlace hl h1) 4 rfl e6 d_Mo_insert_3 m_357 m_359 m_360 m_358 m_286 p_Mo_isPlace ⟨(Nat.le_of_ble_eq_true rfl), (Nat.le_of_ble_eq_true rfl), (Nat.le_of_ble_eq_true rfl), (Nat.le_of_ble_eq_true rfl)⟩ rfl (Nat.le_of_ble_eq_true rfl)) Z.p ?_
  refine zq_if_ne Z 13 d_Mo_insert_6 (by decide) (fun q => ?_) (fun q => ?_)
  · replace hf := zs_N q hf
    refine zq_iload Z d_Mo_insert_13 3 rfl ?_
    refine zq_iconst Z (0 : Int32) d_Mo_insert_15 (by decide) ?_
    refine zq_sipush Z (255 : Int32) d_Mo_insert_16 (by decide) ?_
    have hq := zs_bS hf
    clear hf
    obtain ⟨S8, x9, h7, hf⟩ := hq
    refine zq_contR (zq_stepS Z zq_cf1 (c_Mo_in hl h7) d_Mo_insert_19 m_283 m_284 m_285 m_286 p_Mo_in ⟨(Nat.le_of_ble_eq_true rfl), (Nat.le_of_ble_eq_true rfl), (Nat.le_of_ble_eq_true rfl), (Nat.le_of_ble_eq_true rfl)⟩ rfl (Nat.le_of_ble_eq_true rfl)) Z.p ?_
    refine zq_if_eq Z 35 d_Mo_insert_22 (by decide) (fun q => ?_) (fun q => ?_)
    · replace hf := zs_T q hf
      refine zq_sub (lo' := [(0, .ref a0), (1, .int v1), (2, .long v2), (4, .int v4)]) [0, 1, 2, 3] rfl ?_
      show zq_W _ _ 35 _ [va_rf (some a0)] _ _ _
      exact r_Mo_insert_35 hl Z  hf
    · replace hf := zs_N q hf
      refine zq_lload_n Z d_Mo_insert_25 2 rfl ?_
      refine zq_ldc2 Z (255 : Int64) d_Mo_insert_26 m_280 ?_
      refine zq_land Z d_Mo_insert_29 ?_
      refine zq_lconst Z (0 : Int64) d_Mo_insert_30 (by decide) ?_
      refine zq_lcmp Z d_Mo_insert_31 ?_
      refine zq_if_ne Z 39 d_Mo_insert_32 (by decide) (fun q => ?_) (fun q => ?_)
      · replace hf := zs_N q hf
        refine zq_iconst Z (0 : Int32) d_Mo_insert_39 (by decide) ?_
        refine zq_sub (lo' := [(0, .ref a0), (1, .int v1), (2, .long v2), (4, .int v4)]) [0, 1, 2, 3] rfl ?_
        show zq_W _ _ 40 _ [.int (0 : Int32), va_rf (some a0)] _ _ _
        exact r_Mo_insert_40 hl Z  hf
      · replace hf := zs_T q hf
        refine zq_sub (lo' := [(0, .ref a0), (1, .int v1), (2, .long v2), (4, .int v4)]) [0, 1, 2, 3] rfl ?_
        show zq_W _ _ 35 _ [va_rf (some a0)] _ _ _
        exact r_Mo_insert_35 hl Z  hf
  · replace hf := zs_T q hf
    refine zq_iconst Z (1 : Int32) d_Mo_insert_9 (by decide) ?_
    refine zq_goto Z 40 d_Mo_insert_10 (by decide) ?_
    refine zq_sub (lo' := [(0, .ref a0), (1, .int v1), (2, .long v2), (4, .int v4)]) [0, 1, 2, 3] rfl ?_
    show zq_W _ _ 40 _ [.int (1 : Int32), va_rf (some a0)] _ _ _
    exact r_Mo_insert_40 hl Z  hf
