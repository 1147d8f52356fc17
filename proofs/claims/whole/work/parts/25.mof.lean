theorem d_Mo_redo_0 : decode b_Mo_redo 0 = .ok (.aload_n 0, 1) := by decide +kernel
theorem d_Mo_redo_1 : decode b_Mo_redo 1 = .ok (.aload_n 0, 1) := by decide +kernel
theorem d_Mo_redo_2 : decode b_Mo_redo 2 = .ok (.getfield 130, 3) := by decide +kernel
theorem d_Mo_redo_5 : decode b_Mo_redo 5 = .ok (.ifCond .ne 14, 3) := by decide +kernel
theorem d_Mo_redo_8 : decode b_Mo_redo 8 = .ok (.aload_n 0, 1) := by decide +kernel
theorem d_Mo_redo_9 : decode b_Mo_redo 9 = .ok (.getfield 84, 3) := by decide +kernel
theorem d_Mo_redo_12 : decode b_Mo_redo 12 = .ok (.aload_n 0, 1) := by decide +kernel
theorem d_Mo_redo_13 : decode b_Mo_redo 13 = .ok (.getfield 87, 3) := by decide +kernel
theorem d_Mo_redo_16 : decode b_Mo_redo 16 = .ok (.if_icmp .ne 7, 3) := by decide +kernel
theorem d_Mo_redo_19 : decode b_Mo_redo 19 = .ok (.iconst 1, 1) := by decide +kernel
theorem d_Mo_redo_20 : decode b_Mo_redo 20 = .ok (.goto 4, 3) := by decide +kernel
theorem d_Mo_redo_23 : decode b_Mo_redo 23 = .ok (.iconst 0, 1) := by decide +kernel
theorem d_Mo_redo_24 : decode b_Mo_redo 24 = .ok (.putfield 35, 3) := by decide +kernel
theorem d_Mo_redo_27 : decode b_Mo_redo 27 = .ok (.aload_n 0, 1) := by decide +kernel
theorem d_Mo_redo_28 : decode b_Mo_redo 28 = .ok (.getfield 35, 3) := by decide +kernel
theorem d_Mo_redo_31 : decode b_Mo_redo 31 = .ok (.ifCond .le 5, 3) := by decide +kernel
theorem d_Mo_redo_34 : decode b_Mo_redo 34 = .ok (.iconst 0, 1) := by decide +kernel
theorem d_Mo_redo_35 : decode b_Mo_redo 35 = .ok (.ireturn, 1) := by decide +kernel
theorem d_Mo_redo_36 : decode b_Mo_redo 36 = .ok (.iconst 0, 1) := by decide +kernel
theorem d_Mo_redo_37 : decode b_Mo_redo 37 = .ok (.istore_n 1, 1) := by decide +kernel
theorem d_Mo_redo_38 : decode b_Mo_redo 38 = .ok (.aload_n 0, 1) := by decide +kernel
theorem d_Mo_redo_39 : decode b_Mo_redo 39 = .ok (.getfield 90, 3) := by decide +kernel
theorem d_Mo_redo_42 : decode b_Mo_redo 42 = .ok (.istore_n 2, 1) := by decide +kernel
theorem d_Mo_redo_43 : decode b_Mo_redo 43 = .ok (.iload_n 2, 1) := by decide +kernel
theorem d_Mo_redo_44 : decode b_Mo_redo 44 = .ok (.aload_n 0, 1) := by decide +kernel
theorem d_Mo_redo_45 : decode b_Mo_redo 45 = .ok (.getfield 25, 3) := by decide +kernel
theorem d_Mo_redo_48 : decode b_Mo_redo 48 = .ok (.aload_n 0, 1) := by decide +kernel
theorem d_Mo_redo_49 : decode b_Mo_redo 49 = .ok (.getfield 84, 3) := by decide +kernel
theorem d_Mo_redo_52 : decode b_Mo_redo 52 = .ok (.iaload, 1) := by decide +kernel
theorem d_Mo_redo_53 : decode b_Mo_redo 53 = .ok (.if_icmp .ge 26, 3) := by decide +kernel
theorem d_Mo_redo_56 : decode b_Mo_redo 56 = .ok (.aload_n 0, 1) := by decide +kernel
theorem d_Mo_redo_57 : decode b_Mo_redo 57 = .ok (.aload_n 0, 1) := by decide +kernel
theorem d_Mo_redo_58 : decode b_Mo_redo 58 = .ok (.getfield 19, 3) := by decide +kernel
theorem d_Mo_redo_61 : decode b_Mo_redo 61 = .ok (.iload_n 2, 1) := by decide +kernel
theorem d_Mo_redo_62 : decode b_Mo_redo 62 = .ok (.laload, 1) := by decide +kernel
theorem d_Mo_redo_63 : decode b_Mo_redo 63 = .ok (.aload_n 0, 1) := by decide +kernel
theorem d_Mo_redo_64 : decode b_Mo_redo 64 = .ok (.getfield 22, 3) := by decide +kernel
theorem d_Mo_redo_67 : decode b_Mo_redo 67 = .ok (.iload_n 2, 1) := by decide +kernel
theorem d_Mo_redo_68 : decode b_Mo_redo 68 = .ok (.laload, 1) := by decide +kernel
theorem d_Mo_redo_69 : decode b_Mo_redo 69 = .ok (.invokevirtual 102, 3) := by decide +kernel
theorem d_Mo_redo_72 : decode b_Mo_redo 72 = .ok (.istore_n 1, 1) := by decide +kernel
theorem d_Mo_redo_73 : decode b_Mo_redo 73 = .ok (.iinc 2 1, 3) := by decide +kernel
theorem d_Mo_redo_76 : decode b_Mo_redo 76 = .ok (.goto (-33), 3) := by decide +kernel
theorem d_Mo_redo_79 : decode b_Mo_redo 79 = .ok (.aload_n 0, 1) := by decide +kernel
theorem d_Mo_redo_80 : decode b_Mo_redo 80 = .ok (.aload_n 0, 1) := by decide +kernel
theorem d_Mo_redo_81 : decode b_Mo_redo 81 = .ok (.getfield 25, 3) := by decide +kernel
theorem d_Mo_redo_84 : decode b_Mo_redo 84 = .ok (.aload_n 0, 1) := by decide +kernel
theorem d_Mo_redo_85 : decode b_Mo_redo 85 = .ok (.getfield 84, 3) := by decide +kernel
theorem d_Mo_redo_88 : decode b_Mo_redo 88 = .ok (.iaload, 1) := by decide +kernel
theorem d_Mo_redo_89 : decode b_Mo_redo 89 = .ok (.putfield 90, 3) := by decide +kernel
theorem d_Mo_redo_92 : decode b_Mo_redo 92 = .ok (.aload_n 0, 1) := by decide +kernel
theorem d_Mo_redo_93 : decode b_Mo_redo 93 = .ok (.dup, 1) := by decide +kernel
theorem d_Mo_redo_94 : decode b_Mo_redo 94 = .ok (.getfield 84, 3) := by decide +kernel
theorem d_Mo_redo_97 : decode b_Mo_redo 97 = .ok (.iconst 1, 1) := by decide +kernel
theorem d_Mo_redo_98 : decode b_Mo_redo 98 = .ok (.iadd, 1) := by decide +kernel
theorem d_Mo_redo_99 : decode b_Mo_redo 99 = .ok (.putfield 84, 3) := by decide +kernel
theorem d_Mo_redo_102 : decode b_Mo_redo 102 = .ok (.aload_n 0, 1) := by decide +kernel
theorem d_Mo_redo_103 : decode b_Mo_redo 103 = .ok (.getfield 29, 3) := by decide +kernel
theorem d_Mo_redo_106 : decode b_Mo_redo 106 = .ok (.aload_n 0, 1) := by decide +kernel
theorem d_Mo_redo_107 : decode b_Mo_redo 107 = .ok (.getfield 84, 3) := by decide +kernel
theorem d_Mo_redo_110 : decode b_Mo_redo 110 = .ok (.iconst 1, 1) := by decide +kernel
theorem d_Mo_redo_111 : decode b_Mo_redo 111 = .ok (.isub, 1) := by decide +kernel
theorem d_Mo_redo_112 : decode b_Mo_redo 112 = .ok (.iaload, 1) := by decide +kernel
theorem d_Mo_redo_113 : decode b_Mo_redo 113 = .ok (.ireturn, 1) := by decide +kernel
def f_Mo_redo_43 (k43 : Nat → Int32 → zq_S → Option (zq_S × Int32)) (a0 : Nat) (v2 : Int32) (S : zq_S) : Option (zq_S × Int32) :=
  (zs_gr S a0 4 14).bind fun x1 =>
  (zs_gi S a0 4 12).bind fun x3 =>
  (x1).bind fun a5 =>
  (zs_ial S a5 2 x3).bind fun x7 =>
  if x7 ≤ v2 then
    (zs_gr S a0 4 14).bind fun x9 =>
    (zs_gi S a0 4 12).bind fun x11 =>
    (x9).bind fun a13 =>
    (zs_ial S a13 2 x11).bind fun x15 =>
    (zs_p S a0 4 9 (.int x15)).bind fun S17 =>
    (zs_gi S17 a0 4 12).bind fun x19 =>
    (zs_p S17 a0 4 12 (.int (x19 + (1 : Int32)))).bind fun S21 =>
    (zs_gr S21 a0 4 15).bind fun x23 =>
    (zs_gi S21 a0 4 12).bind fun x25 =>
    (x23).bind fun a27 =>
    (zs_ial S21 a27 2 (x25 - (1 : Int32))).bind fun x29 =>
    some (S21, x29)
  else
    (zs_gr S a0 4 10).bind fun x31 =>
    (x31).bind fun a33 =>
    (zs_lal S a33 0 v2).bind fun x35 =>
    (zs_gr S a0 4 11).bind fun x37 =>
    (x37).bind fun a39 =>
    (zs_lal S a39 0 v2).bind fun x41 =>
    if zs_is S a0 4 = true then
    zs_b (f_Mo_play a0 x35 x41 S) fun S44 x45 =>
    k43 a0 (v2 + (1 : Int32)) S44
    else none
def g_Mo_redo_43  : Nat → Nat → Int32 → zq_S → Option (zq_S × Int32)
  | 0 => fun _ _ _ => none
  | n + 1 => fun a0 v2 S => f_Mo_redo_43  (g_Mo_redo_43  n) a0 v2 S
def f_Mo_redo_24  (a0 : Nat) (s0 : Option Nat) (s1 : Int32) (S : zq_S) : Option (zq_S × Int32) :=
  (s0).bind fun a1 =>
  (zs_p S a1 4 0 (.int s1)).bind fun S3 =>
  (zs_gi S3 a0 4 0).bind fun x5 =>
  if x5 ≤ 0 then
    (zs_gi S3 a0 4 9).bind fun x7 =>
    g_Mo_redo_43  zq_F a0 x7 S3
  else
    some (S3, (0 : Int32))
def f_Mo_redo_19  (a0 : Nat) (s0 : Option Nat) (S : zq_S) : Option (zq_S × Int32) :=
  f_Mo_redo_24  a0 s0 (1 : Int32) S
def f_Mo_redo (a0 : Nat) (S : zq_S) : Option (zq_S × Int32) :=
  (zs_gi S a0 4 17).bind fun x1 =>
  if x1 = 0 then
    (zs_gi S a0 4 12).bind fun x3 =>
    (zs_gi S a0 4 13).bind fun x5 =>
    if x3 = x5 then
      f_Mo_redo_19  a0 (some a0) S
    else
      f_Mo_redo_24  a0 (some a0) (0 : Int32) S
  else
    f_Mo_redo_19  a0 (some a0) S
set_option maxHeartbeats 4000000 in
set_option maxRecDepth 100000 in
theorem r_Mo_redo_43 {l : Launch} (hl : l.stackTraces = false) {G : zq_G} {S0 T : zq_S} {v : Int32} {X : zq_X} (Z : Z_Mo_redo l G S0 T v X) {k43 : Nat → Int32 → zq_S → Option (zq_S × Int32)} (hk43 : ∀ (a0 : Nat) (v2 : Int32) (S : zq_S), k43 a0 v2 S = some (T, v) → zq_W (Y_Mo_redo l G S0 T v) X 43 [(0, .ref a0), (2, .int v2)] [] S 0 0) {a0 : Nat} {v2 : Int32} {S : zq_S} (hf : f_Mo_redo_43 k43 a0 v2 S = some (T, v)) : zq_W (Y_Mo_redo l G S0 T v) X 43 [(0, .ref a0), (2, .int v2)] [] S 0 0 := by
  unfold f_Mo_redo_43 at hf
  refine zq_iload_n Z d_Mo_redo_43 1 rfl ?_
  refine zq_aload_n Z d_Mo_redo_44 0 rfl ?_
  have hq := Option.bind_eq_some_iff.mp hf
  clear hf
  obtain ⟨x1, h2, hf⟩ := hq
  refine zr_getr Z cd_Mo 14 d_Mo_redo_45 (by decide) m_276 h2 ?_
  refine zq_aload_n Z d_Mo_redo_48 0 rfl ?_
  have hq := Option.bind_eq_some_iff.mp hf
  clear hf
  obtain ⟨x3, h4, hf⟩ := hq
  refine zr_geti Z cd_Mo 12 d_Mo_redo_49 (by decide) m_308 h4 ?_
  have hq := Option.bind_eq_some_iff.mp hf
  clear hf
  obtain ⟨a5, h6, hf⟩ := hq
  subst h6
  have hq := Option.bind_eq_some_iff.mp hf
  clear hf
  obtain ⟨x7, h8, hf⟩ := hq
  refine zr_iaload Z 2 (fun _ => rfl) d_Mo_redo_52 h8 ?_
  refine zq_icmp_ge Z 79 d_Mo_redo_53 (by decide) (fun q => ?_) (fun q => ?_)
  · replace hf := zs_T q hf
    refine zq_aload_n Z d_Mo_redo_79 0 rfl ?_
    refine zq_aload_n Z d_Mo_redo_80 0 rfl ?_
    have hq := Option.bind_eq_some_iff.mp hf
    clear hf
    obtain ⟨x9, h10, hf⟩ := hq
    refine zr_getr Z cd_Mo 14 d_Mo_redo_81 (by decide) m_276 h10 ?_
    refine zq_aload_n Z d_Mo_redo_84 0 rfl ?_
    have hq := Option.bind_eq_some_iff.mp hf
    clear hf
    obtain ⟨x11, h12, hf⟩ := hq
    refine zr_geti Z cd_Mo 12 d_Mo_redo_85 (by decide) m_308 h12 ?_
    have hq := Option.bind_eq_some_iff.mp hf
    clear hf
    obtain ⟨a13, h14, hf⟩ := hq
    subst h14
    have hq := Option.bind_eq_some_iff.mp hf
    clear hf
    obtain ⟨x15, h16, hf⟩ := hq
    refine zr_iaload Z 2 (fun _ => rfl) d_Mo_redo_88 h16 ?_
    have hq := Option.bind_eq_some_iff.mp hf
    clear hf
    obtain ⟨S17, h18, hf⟩ := hq
    refine zr_puti Z cd_Mo 9 d_Mo_redo_89 (by decide) m_310 rfl (by decide +kernel) h18 ?_
    refine zq_aload_n Z d_Mo_redo_92 0 rfl ?_
    refine zq_dup Z d_Mo_redo_93 rfl ?_
    have hq := Option.bind_eq_some_iff.mp hf
    clear hf
    obtain ⟨x19, h20, hf⟩ := hq
    refine zr_geti Z cd_Mo 12 d_Mo_redo_94 (by decide) m_308 h20 ?_
    refine zq_iconst Z (1 : Int32) d_Mo_redo_97 (by decide) ?_
    refine zq_iadd Z d_Mo_redo_98 ?_
    have hq := Option.bind_eq_some_iff.mp hf
    clear hf
    obtain ⟨S21, h22, hf⟩ := hq
    refine zr_puti Z cd_Mo 12 d_Mo_redo_99 (by decide) m_308 rfl (by decide +kernel) h22 ?_
    refine zq_aload_n Z d_Mo_redo_102 0 rfl ?_
    have hq := Option.bind_eq_some_iff.mp hf
    clear hf
    obtain ⟨x23, h24, hf⟩ := hq
    refine zr_getr Z cd_Mo 15 d_Mo_redo_103 (by decide) m_277 h24 ?_
    refine zq_aload_n Z d_Mo_redo_106 0 rfl ?_
    have hq := Option.bind_eq_some_iff.mp hf
    clear hf
    obtain ⟨x25, h26, hf⟩ := hq
    refine zr_geti Z cd_Mo 12 d_Mo_redo_107 (by decide) m_308 h26 ?_
    refine zq_iconst Z (1 : Int32) d_Mo_redo_110 (by decide) ?_
    refine zq_isub Z d_Mo_redo_111 ?_
    have hq := Option.bind_eq_some_iff.mp hf
    clear hf
    obtain ⟨a27, h28, hf⟩ := hq
    subst h28
    have hq := Option.bind_eq_some_iff.mp hf
    clear hf
    obtain ⟨x29, h30, hf⟩ := hq
    refine zr_iaload Z 2 (fun _ => rfl) d_Mo_redo_112 h30 ?_
    exact zq_iret Z d_Mo_redo_113 (zs_1 hf) (zs_2 (fun z => (.inl (some (.int z)) : zq_R)) hf) ⟨(Nat.le_of_ble_eq_true rfl), (Nat.le_of_ble_eq_true rfl)⟩
  · replace hf := zs_N q hf
    refine zq_aload_n Z d_Mo_redo_56 0 rfl ?_
    refine zq_aload_n Z d_Mo_redo_57 0 rfl ?_
    have hq := Option.bind_eq_some_iff.mp hf
    clear hf
    obtain ⟨x31, h32, hf⟩ := hq
    refine zr_getr Z cd_Mo 10 d_Mo_redo_58 (by decide) m_273 h32 ?_
    refine zq_iload_n Z d_Mo_redo_61 1 rfl ?_
    have hq := Option.bind_eq_some_iff.mp hf
    clear hf
    obtain ⟨a33, h34, hf⟩ := hq
    subst h34
    have hq := Option.bind_eq_some_iff.mp hf
    clear hf
    obtain ⟨x35, h36, hf⟩ := hq
    refine zr_laload Z 0 (fun _ => rfl) d_Mo_redo_62 h36 ?_
    refine zq_aload_n Z d_Mo_redo_63 0 rfl ?_
    have hq := Option.bind_eq_some_iff.mp hf
    clear hf
    obtain ⟨x37, h38, hf⟩ := hq
    refine zr_getr Z cd_Mo 11 d_Mo_redo_64 (by decide) m_274 h38 ?_
    refine zq_iload_n Z d_Mo_redo_67 1 rfl ?_
    have hq := Option.bind_eq_some_iff.mp hf
    clear hf
    obtain ⟨a39, h40, hf⟩ := hq
    subst h40
    have hq := Option.bind_eq_some_iff.mp hf
    clear hf
    obtain ⟨x41, h42, hf⟩ := hq
    refine zr_laload Z 0 (fun _ => rfl) d_Mo_redo_68 h42 ?_
    have hq := zs_C hf
    clear hf
    obtain ⟨h46, hf⟩ := hq
    obtain ⟨fs47, e48⟩ := zs_isS h46
    have hq := zs_bS hf
    clear hf
    obtain ⟨S44, x45, h43, hf⟩ := hq
    refine zq_contR (zq_stepV Z zq_cf1 (c_Mo_play hl h43) 4 rfl e48 d_Mo_redo_69 m_315 m_317 m_318 m_316 m_286 p_Mo_play ⟨(Nat.le_of_ble_eq_true rfl), (Nat.le_of_ble_eq_true rfl), (Nat.le_of_ble_eq_true rfl), (Nat.le_of_ble_eq_true rfl)⟩ rfl (Nat.le_of_ble_eq_true rfl)) Z.p ?_
    refine zq_istore_n Z rfl [(1, .int x45), (0, .ref a0), (2, .int v2)] d_Mo_redo_72 (by decide) rfl ?_
    refine zq_iinc Z (v2 + (1 : Int32)) [(2, .int (v2 + (1 : Int32))), (1, .int x45), (0, .ref a0)] d_Mo_redo_73 2 rfl rfl (by decide) rfl ?_
    refine zq_goto Z 43 d_Mo_redo_76 (by decide) ?_
    refine zq_sub (lo' := [(0, .ref a0), (2, .int (v2 + (1 : Int32)))]) [2, 0] rfl ?_
    exact hk43 _ _ _ hf
theorem w_Mo_redo_43 {l : Launch} (hl : l.stackTraces = false) {G : zq_G} {S0 T : zq_S} {v : Int32} {X : zq_X} (Z : Z_Mo_redo l G S0 T v X) : ∀ (n : Nat) (a0 : Nat) (v2 : Int32) (S : zq_S), g_Mo_redo_43  n a0 v2 S = some (T, v) → zq_W (Y_Mo_redo l G S0 T v) X 43 [(0, .ref a0), (2, .int v2)] [] S 0 0 := by
  intro n
  induction n with
  | zero => intro a0 v2 S hf; cases hf
  | succ n ih =>
    intro a0 v2 S hf
    have hf : f_Mo_redo_43  (g_Mo_redo_43  n) a0 v2 S = some (T, v) := hf
    exact r_Mo_redo_43 hl Z  ih hf
set_option maxHeartbeats 4000000 in
set_option maxRecDepth 100000 in
theorem r_Mo_redo_24 {l : Launch} (hl : l.stackTraces = false) {G : zq_G} {S0 T : zq_S} {v : Int32} {X : zq_X} (Z : Z_Mo_redo l G S0 T v X) {a0 : Nat} {s0 : Option Nat} {s1 : Int32} {S : zq_S} (hf : f_Mo_redo_24  a0 s0 s1 S = some (T, v)) : zq_W (Y_Mo_redo l G S0 T v) X 24 [(0, .ref a0)] [.int s1, va_rf s0] S 0 0 := by
  unfold f_Mo_redo_24 at hf
  have hq := Option.bind_eq_some_iff.mp hf
  clear hf
  obtain ⟨a1, h2, hf⟩ := hq
  subst h2
  have hq := Option.bind_eq_some_iff.mp hf
  clear hf
  obtain ⟨S3, h4, hf⟩ := hq
  refine zr_puti Z cd_Mo 0 d_Mo_redo_24 (by decide) m_279 rfl (by decide +kernel) h4 ?_
  refine zq_aload_n Z d_Mo_redo_27 0 rfl ?_
  have hq := Option.bind_eq_some_iff.mp hf
  clear hf
  obtain ⟨x5, h6, hf⟩ := hq
  refine zr_geti Z cd_Mo 0 d_Mo_redo_28 (by decide) m_279 h6 ?_
  refine zq_if_le Z 36 d_Mo_redo_31 (by decide) (fun q => ?_) (fun q => ?_)
  · replace hf := zs_T q hf
    refine zq_iconst Z (0 : Int32) d_Mo_redo_36 (by decide) ?_
    refine zq_istore_n Z rfl [(1, .int (0 : Int32)), (0, .ref a0)] d_Mo_redo_37 (by decide) rfl ?_
    refine zq_aload_n Z d_Mo_redo_38 1 rfl ?_
    have hq := Option.bind_eq_some_iff.mp hf
    clear hf
    obtain ⟨x7, h8, hf⟩ := hq
    refine zr_geti Z cd_Mo 9 d_Mo_redo_39 (by decide) m_310 h8 ?_
    refine zq_istore_n Z rfl [(2, .int x7), (1, .int (0 : Int32)), (0, .ref a0)] d_Mo_redo_42 (by decide) rfl ?_
    refine zq_sub (lo' := [(0, .ref a0), (2, .int x7)]) [2, 0] rfl ?_
    exact w_Mo_redo_43 hl Z  _ _ _ _ hf
  · replace hf := zs_N q hf
    refine zq_iconst Z (0 : Int32) d_Mo_redo_34 (by decide) ?_
    exact zq_iret Z d_Mo_redo_35 (zs_1 hf) (zs_2 (fun z => (.inl (some (.int z)) : zq_R)) hf) ⟨(Nat.le_of_ble_eq_true rfl), (Nat.le_of_ble_eq_true rfl)⟩
set_option maxHeartbeats 4000000 in
set_option maxRecDepth 100000 in
theorem r_Mo_redo_19 {l : Launch} (hl : l.stackTraces = false) {G : zq_G} {S0 T : zq_S} {v : Int32} {X : zq_X} (Z : Z_Mo_redo l G S0 T v X) {a0 : Nat} {s0 : Option Nat} {S : zq_S} (hf : f_Mo_redo_19  a0 s0 S = some (T, v)) : zq_W (Y_Mo_redo l G S0 T v) X 19 [(0, .ref a0)] [va_rf s0] S 0 0 := by
  unfold f_Mo_redo_19 at hf
  refine zq_iconst Z (1 : Int32) d_Mo_redo_19 (by decide) ?_
  refine zq_goto Z 24 d_Mo_redo_20 (by decide) ?_
  refine zq_sub (lo' := [(0, .ref a0)]) [0] rfl ?_
  exact r_Mo_redo_24 hl Z  hf
set_option maxHeartbeats 4000000 in
set_option maxRecDepth 100000 in
theorem c_Mo_redo {l : Launch} (hl : l.stackTraces = false) {G : zq_G} {a0 : Nat} {S0 T : zq_S} {v : Int32} (hf : f_Mo_redo a0 S0 = some (T, v)) : zq_M l y_Mo_redo (.code y_Mo_redo b_Mo_redo 3 (some (.int))) rm_Mo_redo G [.ref a0] S0 ((.inl (some (.int v)) : zq_R)) T := by
  refine zq_Mof (lo := [(0, .ref a0)]) hl (by decide) (Nat.le_of_ble_eq_true rfl) rfl (fun X Z => ?_)
  have Z : Z_Mo_redo l G S0 T v X := Z
  show zq_W (Y_Mo_redo l G S0 T v) X 0 [(0, .ref a0)] [] S0 0 0
  unfold f_Mo_redo at hf
  refine zq_aload_n Z d_Mo_redo_0 0 rfl ?_
  refine zq_aload_n Z d_Mo_redo_1 0 rfl ?_
  have hq := Option.bind_eq_some_iff.mp hf
  clear hf
  obtain ⟨x1, h2, hf⟩ := hq
  refine zr_geti Z cd_Mo 17 d_Mo_redo_2 (by decide) m_341 h2 ?_
  refine zq_if_ne Z 19 d_Mo_redo_5 (by decide) (fun q => ?_) (fun q => ?_)
  · replace hf := zs_N q hf
    refine zq_sub (lo' := [(0, .ref a0)]) [0] rfl ?_
    show zq_W _ _ 19 _ [va_rf (some a0)] _ _ _
    exact r_Mo_redo_19 hl Z  hf
  · replace hf := zs_T q hf
    refine zq_aload_n Z d_Mo_redo_8 0 rfl ?_
    have hq := Option.bind_eq_some_iff.mp hf
    clear hf
    obtain ⟨x3, h4, hf⟩ := hq
    refine zr_geti Z cd_Mo 12 d_Mo_redo_9 (by decide) m_308 h4 ?_
    refine zq_aload_n Z d_Mo_redo_12 0 rfl ?_
    have hq := Option.bind_eq_some_iff.mp hf
    clear hf
    obtain ⟨x5, h6, hf⟩ := hq
    refine zr_geti Z cd_Mo 13 d_Mo_redo_13 (by decide) m_309 h6 ?_
    refine zq_icmp_ne Z 23 d_Mo_redo_16 (by decide) (fun q => ?_) (fun q => ?_)
    · replace hf := zs_N q hf
      refine zq_iconst Z (0 : Int32) d_Mo_redo_23 (by decide) ?_
      refine zq_sub (lo' := [(0, .ref a0)]) [0] rfl ?_
      show zq_W _ _ 24 _ [.int (0 : Int32), va_rf (some a0)] _ _ _
      exact r_Mo_redo_24 hl Z  hf
    · replace hf := zs_T q hf
      refine zq_sub (lo' := [(0, .ref a0)]) [0] rfl ?_
      show zq_W _ _ 19 _ [va_rf (some a0)] _ _ _
      exact r_Mo_redo_19 hl Z  hf
theorem d_Mo_isSeen_0 : decode b_Mo_isSeen 0 = .ok (.iload_n 1, 1) := by decide +kernel
theorem d_Mo_isSeen_1 : decode b_Mo_isSeen 1 = .ok (.ifCond .eq 20, 3) := by decide +kernel
theorem d_Mo_isSeen_4 : decode b_Mo_isSeen 4 = .ok (.lload_n 2, 1) := by decide +kernel
theorem d_Mo_isSeen_5 : decode b_Mo_isSeen 5 = .ok (.iload_n 1, 1) := by decide +kernel
theorem d_Mo_isSeen_6 : decode b_Mo_isSeen 6 = .ok (.iconst 1, 1) := by decide +kernel
theorem d_Mo_isSeen_7 : decode b_Mo_isSeen 7 = .ok (.if_icmp .ne 7, 3) := by decide +kernel
theorem d_Mo_isSeen_10 : decode b_Mo_isSeen 10 = .ok (.iconst 3, 1) := by decide +kernel
theorem d_Mo_isSeen_11 : decode b_Mo_isSeen 11 = .ok (.goto 4, 3) := by decide +kernel
theorem d_Mo_isSeen_14 : decode b_Mo_isSeen 14 = .ok (.iconst 2, 1) := by decide +kernel
theorem d_Mo_isSeen_15 : decode b_Mo_isSeen 15 = .ok (.invokestatic 66, 3) := by decide +kernel
theorem d_Mo_isSeen_18 : decode b_Mo_isSeen 18 = .ok (.ifCond .ne 7, 3) := by decide +kernel
theorem d_Mo_isSeen_21 : decode b_Mo_isSeen 21 = .ok (.iconst 1, 1) := by decide +kernel
theorem d_Mo_isSeen_22 : decode b_Mo_isSeen 22 = .ok (.goto 4, 3) := by decide +kernel
theorem d_Mo_isSeen_25 : decode b_Mo_isSeen 25 = .ok (.iconst 0, 1) := by decide +kernel
theorem d_Mo_isSeen_26 : decode b_Mo_isSeen 26 = .ok (.ireturn, 1) := by decide +kernel
def f_Mo_isSeen_26  (s0 : Int32) (S : zq_S) : Option (zq_S × Int32) :=
  if s0 = 0 ∨ s0 = 1 then some (S, s0) else none
def f_Mo_isSeen_21   (S : zq_S) : Option (zq_S × Int32) :=
  f_Mo_isSeen_26  (1 : Int32) S
def f_Mo_isSeen_15  (s0 : Int64) (s1 : Int32) (S : zq_S) : Option (zq_S × Int32) :=
  zs_b (f_Mo_part s0 s1 S) fun S2 x3 =>
  if x3 = 0 then
    f_Mo_isSeen_21   S2
  else
    f_Mo_isSeen_26  (0 : Int32) S2
def f_Mo_isSeen (a0 : Nat) (v1 : Int32) (v2 : Int64) (S : zq_S) : Option (zq_S × Int32) :=
  if v1 = 0 then
    f_Mo_isSeen_21   S
  else
    if v1 = (1 : Int32) then
      f_Mo_isSeen_15  v2 (3 : Int32) S
    else
      f_Mo_isSeen_15  v2 (2 : Int32) S
set_option maxHeartbeats 4000000 in
set_option maxRecDepth 100000 in
theorem r_Mo_isSeen_26 {l : Launch} (hl : l.stackTraces = false) {G : zq_G} {S0 T : zq_S} {v : Int32} {X : zq_X} (Z : Z_Mo_isSeen l G S0 T v X) {s0 : Int32} {S : zq_S} (hf : f_Mo_isSeen_26  s0 S = some (T, v)) : zq_W (Y_Mo_isSeen l G S0 T v) X 26 [] [.int s0] S 0 0 := by
  unfold f_Mo_isSeen_26 at hf
  have hq := zs_C hf
  clear hf
  obtain ⟨h1, hf⟩ := hq
  exact zq_zret Z d_Mo_isSeen_26 h1 (zs_1 hf) (zs_2 (fun z => (.inl (some (.int z)) : zq_R)) hf) ⟨(Nat.le_of_ble_eq_true rfl), (Nat.le_of_ble_eq_true rfl)⟩
set_option maxHeartbeats 4000000 in
set_option maxRecDepth 100000 in
theorem r_Mo_isSeen_21 {l : Launch} (hl : l.stackTraces = false) {G : zq_G} {S0 T : zq_S} {v : Int32} {X : zq_X} (Z : Z_Mo_isSeen l G S0 T v X)  {S : zq_S} (hf : f_Mo_isSeen_21   S = some (T, v)) : zq_W (Y_Mo_isSeen l G S0 T v) X 21 [] [] S 0 0 := by
  unfold f_Mo_isSeen_21 at hf
  refine zq_iconst Z (1 : Int32) d_Mo_isSeen_21 (by decide) ?_
  refine zq_goto Z 26 d_Mo_isSeen_22 (by decide) ?_
  refine zq_sub (lo' := []) [] rfl ?_
  exact r_Mo_isSeen_26 hl Z  hf
set_option maxHeartbeats 4000000 in
set_option maxRecDepth 100000 in
theorem r_Mo_isSeen_15 {l : Launch} (hl : l.stackTraces = false) {G : zq_G} {S0 T : zq_S} {v : Int32} {X : zq_X} (Z : Z_Mo_isSeen l G S0 T v X) {s0 : Int64} {s1 : Int32} {S : zq_S} (hf : f_Mo_isSeen_15  s0 s1 S = some (T, v)) : zq_W (Y_Mo_isSeen l G S0 T v) X 15 [] [.int s1, .long s0] S 0 0 := by
  unfold f_Mo_isSeen_15 at hf
  have hq := zs_bS hf
  clear hf
  obtain ⟨S2, x3, h1, hf⟩ := hq
  refine zq_contR (zq_stepS Z zq_cf1 (c_Mo_part hl h1) d_Mo_isSeen_15 m_292 m_293 m_294 m_286 p_Mo_part ⟨(Nat.le_of_ble_eq_true rfl), (Nat.le_of_ble_eq_true rfl), (Nat.le_of_ble_eq_true rfl), (Nat.le_of_ble_eq_true rfl)⟩ rfl (Nat.le_of_ble_eq_true rfl)) Z.p ?_
  refine zq_if_ne Z 25 d_Mo_isSeen_18 (by decide) (fun q => ?_) (fun q => ?_)
  · replace hf := zs_N q hf
    refine zq_iconst Z (0 : Int32) d_Mo_isSeen_25 (by decide) ?_
    refine zq_sub (lo' := []) [] rfl ?_
    exact r_Mo_isSeen_26 hl Z  hf
  · replace hf := zs_T q hf
    refine zq_sub (lo' := []) [] rfl ?_
    exact r_Mo_isSeen_21 hl Z  hf
set_option maxHeartbeats 4000000 in
set_option maxRecDepth 100000 in
theorem c_Mo_isSeen {l : Launch} (hl : l.stackTraces = false) {G : zq_G} {a0 : Nat} {v1 : Int32} {v2 : Int64} {S0 T : zq_S} {v : Int32} (hf : f_Mo_isSeen a0 v1 v2 S0 = some (T, v)) : zq_M l y_Mo_isSeen (.code y_Mo_isSeen b_Mo_isSeen 4 (some (.boolean))) rm_Mo_isSeen G [.ref a0, .int v1, .long v2] S0 ((.inl (some (.int v)) : zq_R)) T := by
  refine zq_Mof (lo := [(0, .ref a0), (1, .int v1), (2, .long v2)]) hl (by decide) (Nat.le_of_ble_eq_true rfl) rfl (fun X Z => ?_)
  have Z : Z_Mo_isSeen l G S0 T v X := Z
  show zq_W (Y_Mo_isSeen l G S0 T v) X 0 [(0, .ref a0), (1, .int v1), (2, .long v2)] [] S0 0 0
  unfold f_Mo_isSeen at hf
  refine zq_iload_n Z d_Mo_isSeen_0 1 rfl ?_
  refine zq_if_eq Z 21 d_Mo_isSeen_1 (by decide) (fun q => ?_) (fun q => ?_)
  · replace hf := zs_T q hf
    refine zq_sub (lo' := []) [] rfl ?_
    exact r_Mo_isSeen_21 hl Z  hf
  · replace hf := zs_N q hf
    refine zq_lload_n Z d_Mo_isSeen_4 2 rfl ?_
    refine zq_iload_n Z d_Mo_isSeen_5 1 rfl ?_
    refine zq_iconst Z (1 : Int32) d_Mo_isSeen_6 (by decide) ?_
    refine zq_icmp_ne Z 14 d_Mo_isSeen_7 (by decide) (fun q => ?_) (fun q => ?_)
    · replace hf := zs_N q hf
      refine zq_iconst Z (2 : Int32) d_Mo_isSeen_14 (by decide) ?_
      refine zq_sub (lo' := []) [] rfl ?_
      exact r_Mo_isSeen_15 hl Z  hf
    · replace hf := zs_T q hf
      refine zq_iconst Z (3 : Int32) d_Mo_isSeen_10 (by decide) ?_
      refine zq_goto Z 15 d_Mo_isSeen_11 (by decide) ?_
      refine zq_sub (lo' := []) [] rfl ?_
      exact r_Mo_isSeen_15 hl Z  hf
theorem d_Mo_placeOf_0 : decode b_Mo_placeOf 0 = .ok (.iconst 0, 1) := by decide +kernel
theorem d_Mo_placeOf_1 : decode b_Mo_placeOf 1 = .ok (.istore_n 3, 1) := by decide +kernel
theorem d_Mo_placeOf_2 : decode b_Mo_placeOf 2 = .ok (.iconst 0, 1) := by decide +kernel
theorem d_Mo_placeOf_3 : decode b_Mo_placeOf 3 = .ok (.istore 4, 2) := by decide +kernel
theorem d_Mo_placeOf_5 : decode b_Mo_placeOf 5 = .ok (.iload 4, 2) := by decide +kernel
theorem d_Mo_placeOf_7 : decode b_Mo_placeOf 7 = .ok (.aload_n 0, 1) := by decide +kernel
theorem d_Mo_placeOf_8 : decode b_Mo_placeOf 8 = .ok (.getfield 59, 3) := by decide +kernel
theorem d_Mo_placeOf_11 : decode b_Mo_placeOf 11 = .ok (.if_icmp .ge 38, 3) := by decide +kernel
theorem d_Mo_placeOf_14 : decode b_Mo_placeOf 14 = .ok (.aload_n 0, 1) := by decide +kernel
theorem d_Mo_placeOf_15 : decode b_Mo_placeOf 15 = .ok (.iload_n 1, 1) := by decide +kernel
theorem d_Mo_placeOf_16 : decode b_Mo_placeOf 16 = .ok (.aload_n 0, 1) := by decide +kernel
theorem d_Mo_placeOf_17 : decode b_Mo_placeOf 17 = .ok (.getfield 7, 3) := by decide +kernel
theorem d_Mo_placeOf_20 : decode b_Mo_placeOf 20 = .ok (.iload 4, 2) := by decide +kernel
theorem d_Mo_placeOf_22 : decode b_Mo_placeOf 22 = .ok (.laload, 1) := by decide +kernel
theorem d_Mo_placeOf_23 : decode b_Mo_placeOf 23 = .ok (.invokevirtual 155, 3) := by decide +kernel
theorem d_Mo_placeOf_26 : decode b_Mo_placeOf 26 = .ok (.ifCond .ne 6, 3) := by decide +kernel
theorem d_Mo_placeOf_29 : decode b_Mo_placeOf 29 = .ok (.goto 14, 3) := by decide +kernel
theorem d_Mo_placeOf_32 : decode b_Mo_placeOf 32 = .ok (.iload_n 3, 1) := by decide +kernel
theorem d_Mo_placeOf_33 : decode b_Mo_placeOf 33 = .ok (.iload_n 2, 1) := by decide +kernel
theorem d_Mo_placeOf_34 : decode b_Mo_placeOf 34 = .ok (.if_icmp .ne 6, 3) := by decide +kernel
theorem d_Mo_placeOf_37 : decode b_Mo_placeOf 37 = .ok (.iload 4, 2) := by decide +kernel
theorem d_Mo_placeOf_39 : decode b_Mo_placeOf 39 = .ok (.ireturn, 1) := by decide +kernel
theorem d_Mo_placeOf_40 : decode b_Mo_placeOf 40 = .ok (.iinc 3 1, 3) := by decide +kernel
theorem d_Mo_placeOf_43 : decode b_Mo_placeOf 43 = .ok (.iinc 4 1, 3) := by decide +kernel
theorem d_Mo_placeOf_46 : decode b_Mo_placeOf 46 = .ok (.goto (-41), 3) := by decide +kernel
theorem d_Mo_placeOf_49 : decode b_Mo_placeOf 49 = .ok (.iconst (-1), 1) := by decide +kernel
theorem d_Mo_placeOf_50 : decode b_Mo_placeOf 50 = .ok (.iload_n 3, 1) := by decide +kernel
theorem d_Mo_placeOf_51 : decode b_Mo_placeOf 51 = .ok (.isub, 1) := by decide +kernel
theorem d_Mo_placeOf_52 : decode b_Mo_placeOf 52 = .ok (.ireturn, 1) := by decide +kernel
def f_Mo_placeOf_43 (k5 : Nat → Int32 → Int32 → Int32 → Int32 → zq_S → Option (zq_S × Int32)) (a0 : Nat) (v1 : Int32) (v2 : Int32) (v3 : Int32) (v4 : Int32) (S : zq_S) : Option (zq_S × Int32) :=
  k5 a0 v1 v2 v3 (v4 + (1 : Int32)) S
def f_Mo_placeOf_5 (k5 : Nat → Int32 → Int32 → Int32 → Int32 → zq_S → Option (zq_S × Int32)) (a0 : Nat) (v1 : Int32) (v2 : Int32) (v3 : Int32) (v4 : Int32) (S : zq_S) : Option (zq_S × Int32) :=
  (zs_gi S a0 4 3).bind fun x1 =>
  if x1 ≤ v4 then
    some (S, ((-1 : Int32) - v3))
  else
    (zs_gr S a0 4 4).bind fun x3 =>
    (x3).bind fun a5 =>
    (zs_lal S a5 0 v4).bind fun x7 =>
    if zs_is S a0 4 = true then
    zs_b (f_Mo_isSeen a0 v1 x7 S) fun S10 x11 =>
    if x11 = 0 then
      f_Mo_placeOf_43 k5 a0 v1 v2 v3 v4 S10
    else
      if v3 = v2 then
        some (S10, v4)
      else
        f_Mo_placeOf_43 k5 a0 v1 v2 (v3 + (1 : Int32)) v4 S10
    else none
def g_Mo_placeOf_5  : Nat → Nat → Int32 → Int32 → Int32 → Int32 → zq_S → Option (zq_S × Int32)
  | 0 => fun _ _ _ _ _ _ => none
  | n + 1 => fun a0 v1 v2 v3 v4 S => f_Mo_placeOf_5  (g_Mo_placeOf_5  n) a0 v1 v2 v3 v4 S
def f_Mo_placeOf (a0 : Nat) (v1 : Int32) (v2 : Int32) (S : zq_S) : Option (zq_S × Int32) :=
  g_Mo_placeOf_5  zq_F a0 v1 v2 (0 : Int32) (0 : Int32) S
set_option maxHeartbeats 4000000 in
set_option maxRecDepth 100000 in
theorem r_Mo_placeOf_43 {l : Launch} (hl : l.stackTraces = false) {G : zq_G} {S0 T : zq_S} {v : Int32} {X : zq_X} (Z : Z_Mo_placeOf l G S0 T v X) {k5 : Nat → Int32 → Int32 → Int32 → Int32 → zq_S → Option (zq_S × Int32)} (hk5 : ∀ (a0 : Nat) (v1 : Int32) (v2 : Int32) (v3 : Int32) (v4 : Int32) (S : zq_S), k5 a0 v1 v2 v3 v4 S = some (T, v) → zq_W (Y_Mo_placeOf l G S0 T v) X 5 [(0, .ref a0), (1, .int v1), (2, .int v2), (3, .int v3), (4, .int v4)] [] S 0 0) {a0 : Nat} {v1 : Int32} {v2 : Int32} {v3 : Int32} {v4 : Int32} {S : zq_S} (hf : f_Mo_placeOf_43 k5 a0 v1 v2 v3 v4 S = some (T, v)) : zq_W (Y_Mo_placeOf l G S0 T v) X 43 [(0, .ref a0), (1, .int v1), (2, .int v2), (3, .int v3), (4, .int v4)] [] S 0 0 := by
  unfold f_Mo_placeOf_43 at hf
  refine zq_iinc Z (v4 + (1 : Int32)) [(4, .int (v4 + (1 : Int32))), (0, .ref a0), (1, .int v1), (2, .int v2), (3, .int v3)] d_Mo_placeOf_43 4 rfl rfl (by decide) rfl ?_
  refine zq_goto Z 5 d_Mo_placeOf_46 (by decide) ?_
  refine zq_sub (lo' := [(0, .ref a0), (1, .int v1), (2, .int v2), (3, .int v3), (4, .int (v4 + (1 : Int32)))]) [1, 2, 3, 4, 0] rfl ?_
  exact hk5 _ _ _ _ _ _ hf
set_option maxHeartbeats 4000000 in
set_option maxRecDepth 100000 in
theorem r_Mo_placeOf_5 {l : Launch} (hl : l.stackTraces = false) {G : zq_G} {S0 T : zq_S} {v : Int32} {X : zq_X} (Z : Z_Mo_placeOf l G S0 T v X) {k5 : Nat → Int32 → Int32 → Int32 → Int32 → zq_S → Option (zq_S × Int32)} (hk5 : ∀ (a0 : Nat) (v1 : Int32) (v2 : Int32) (v3 : Int32) (v4 : Int32) (S : zq_S), k5 a0 v1 v2 v3 v4 S = some (T, v) → zq_W (Y_Mo_placeOf l G S0 T v) X 5 [(0, .ref a0), (1, .int v1), (2, .int v2), (3, .int v3), (4, .int v4)] [] S 0 0) {a0 : Nat} {v1 : Int32} {v2 : Int32} {v3 : Int32} {v4 : Int32} {S : zq_S} (hf : f_Mo_placeOf_5 k5 a0 v1 v2 v3 v4 S = some (T, v)) : zq_W (Y_Mo_placeOf l G S0 T v) X 5 [(0, .ref a0), (1, .int v1), (2, .int v2), (3, .int v3), (4, .int v4)] [] S 0 0 := by
  unfold f_Mo_placeOf_5 at hf
  refine zq_iload Z d_Mo_placeOf_5 4 rfl ?_
  refine zq_aload_n Z d_Mo_placeOf_7 0 rfl ?_
  have hq := Option.bind_eq_some_iff.mp hf
  clear hf
  obtain ⟨x1, h2, hf⟩ := hq
  refine zr_geti Z cd_Mo 3 d_Mo_placeOf_8 (by decide) m_288 h2 ?_
  refine zq_icmp_ge Z 49 d_Mo_placeOf_11 (by decide) (fun q => ?_) (fun q => ?_)
  · replace hf := zs_T q hf
    refine zq_iconst Z (-1 : Int32) d_Mo_placeOf_49 (by decide) ?_
    refine zq_iload_n Z d_Mo_placeOf_50 3 rfl ?_
    refine zq_isub Z d_Mo_placeOf_51 ?_
    exact zq_iret Z d_Mo_placeOf_52 (zs_1 hf) (zs_2 (fun z => (.inl (some (.int z)) : zq_R)) hf) ⟨(Nat.le_of_ble_eq_true rfl), (Nat.le_of_ble_eq_true rfl)⟩
  · replace hf := zs_N q hf
    refine zq_aload_n Z d_Mo_placeOf_14 0 rfl ?_
    refine zq_iload_n Z d_Mo_placeOf_15 1 rfl ?_
    refine zq_aload_n Z d_Mo_placeOf_16 0 rfl ?_
    have hq := Option.bind_eq_some_iff.mp hf
    clear hf
    obtain ⟨x3, h4, hf⟩ := hq
    refine zr_getr Z cd_Mo 4 d_Mo_placeOf_17 (by decide) m_270 h4 ?_
    refine zq_iload Z d_Mo_placeOf_20 4 rfl ?_
    have hq := Option.bind_eq_some_iff.mp hf
    clear hf
    obtain ⟨a5, h6, hf⟩ := hq
    subst h6
    have hq := Option.bind_eq_some_iff.mp hf
    clear hf
    obtain ⟨x7, h8, hf⟩ := hq
    refine zr_laload Z 0 (fun _ => rfl) d_Mo_placeOf_22 h8 ?_
    have hq := zs_C hf
    clear hf
    obtain ⟨h12, hf⟩ := hq
    obtain ⟨fs13, e14⟩ := zs_isS h12
    have hq := zs_bS hf
    clear hf
    obtain ⟨S10, x11, h9, hf⟩ := hq
    refine zq_contR (zq_stepV Z zq_cf1 (c_Mo_isSeen hl h9) 4 rfl e14 d_Mo_placeOf_23 m_373 m_375 m_376 m_374 m_286 p_Mo_isSeen ⟨(Nat.le_of_ble_eq_true rfl), (Nat.le_of_ble_eq_true rfl), (Nat.le_of_ble_eq_true rfl), (Nat.le_of_ble_eq_true rfl)⟩ rfl (Nat.le_of_ble_eq_true rfl)) Z.p ?_
    refine zq_if_ne Z 32 d_Mo_placeOf_26 (by decide) (fun q => ?_) (fun q => ?_)
    · replace hf := zs_N q hf
      refine zq_iload_n Z d_Mo_placeOf_32 3 rfl ?_
      refine zq_iload_n Z d_Mo_placeOf_33 2 rfl ?_
      refine zq_icmp_ne Z 40 d_Mo_placeOf_34 (by decide) (fun q => ?_) (fun q => ?_)
      · replace hf := zs_N q hf
        refine zq_iinc Z (v3 + (1 : Int32)) [(3, .int (v3 + (1 : Int32))), (0, .ref a0), (1, .int v1), (2, .int v2), (4, .int v4)] d_Mo_placeOf_40 3 rfl rfl (by decide) rfl ?_
        refine zq_sub (lo' := [(0, .ref a0), (1, .int v1), (2, .int v2), (3, .int (v3 + (1 : Int32))), (4, .int v4)]) [1, 2, 3, 0, 4] rfl ?_
        exact r_Mo_placeOf_43 hl Z hk5 hf
      · replace hf := zs_T q hf
        refine zq_iload Z d_Mo_placeOf_37 4 rfl ?_
        exact zq_iret Z d_Mo_placeOf_39 (zs_1 hf) (zs_2 (fun z => (.inl (some (.int z)) : zq_R)) hf) ⟨(Nat.le_of_ble_eq_true rfl), (Nat.le_of_ble_eq_true rfl)⟩
    · replace hf := zs_T q hf
      refine zq_goto Z 43 d_Mo_placeOf_29 (by decide) ?_
      refine zq_sub (lo' := [(0, .ref a0), (1, .int v1), (2, .int v2), (3, .int v3), (4, .int v4)]) [0, 1, 2, 3, 4] rfl ?_
      exact r_Mo_placeOf_43 hl Z hk5 hf
theorem w_Mo_placeOf_5 {l : Launch} (hl : l.stackTraces = false) {G : zq_G} {S0 T : zq_S} {v : Int32} {X : zq_X} (Z : Z_Mo_placeOf l G S0 T v X) : ∀ (n : Nat) (a0 : Nat) (v1 : Int32) (v2 : Int32) (v3 : Int32) (v4 : Int32) (S : zq_S), g_Mo_placeOf_5  n a0 v1 v2 v3 v4 S = some (T, v) → zq_W (Y_Mo_placeOf l G S0 T v) X 5 [(0, .ref a0), (1, .int v1), (2, .int v2), (3, .int v3), (4, .int v4)] [] S 0 0 := by
  intro n
  induction n with
  | zero => intro a0 v1 v2 v3 v4 S hf; cases hf
  | succ n ih =>
    intro a0 v1 v2 v3 v4 S hf
    have hf : f_Mo_placeOf_5  (g_Mo_placeOf_5  n) a0 v1 v2 v3 v4 S = some (T, v) := hf
    exact r_Mo_placeOf_5 hl Z  ih hf
set_option maxHeartbeats 4000000 in
set_option maxRecDepth 100000 in
theorem c_Mo_placeOf {l : Launch} (hl : l.stackTraces = false) {G : zq_G} {a0 : Nat} {v1 : Int32} {v2 : Int32} {S0 T : zq_S} {v : Int32} (hf : f_Mo_placeOf a0 v1 v2 S0 = some (T, v)) : zq_M l y_Mo_placeOf (.code y_Mo_placeOf b_Mo_placeOf 5 (some (.int))) rm_Mo_placeOf G [.ref a0, .int v1, .int v2] S0 ((.inl (some (.int v)) : zq_R)) T := by
  refine zq_Mof (lo := [(0, .ref a0), (1, .int v1), (2, .int v2)]) hl (by decide) (Nat.le_of_ble_eq_true rfl) rfl (fun X Z => ?_)
  have Z : Z_Mo_placeOf l G S0 T v X := Z
  show zq_W (Y_Mo_placeOf l G S0 T v) X 0 [(0, .ref a0), (1, .int v1), (2, .int v2)] [] S0 0 0
  unfold f_Mo_placeOf at hf
  refine zq_iconst Z (0 : Int32) d_Mo_placeOf_0 (by decide) ?_
  refine zq_istore_n Z rfl [(3, .int (0 : Int32)), (0, .ref a0), (1, .int v1), (2, .int v2)] d_Mo_placeOf_1 (by decide) rfl ?_
  refine zq_iconst Z (0 : Int32) d_Mo_placeOf_2 (by decide) ?_
  refine zq_istore Z [(4, .int (0 : Int32)), (3, .int (0 : Int32)), (0, .ref a0), (1, .int v1), (2, .int v2)] d_Mo_placeOf_3 (by decide) rfl ?_
  refine zq_sub (lo' := [(0, .ref a0), (1, .int v1), (2, .int v2), (3, .int (0 : Int32)), (4, .int (0 : Int32))]) [2, 3, 4, 1, 0] rfl ?_
  exact w_Mo_placeOf_5 hl Z  _ _ _ _ _ _ _ hf
theorem d_Mo_length_0 : decode b_Mo_length 0 = .ok (.aload_n 0, 1) := by decide +kernel
theorem d_Mo_length_1 : decode b_Mo_length 1 = .ok (.iconst 0, 1) := by decide +kernel
theorem d_Mo_length_2 : decode b_Mo_length 2 = .ok (.putfield 35, 3) := by decide +kernel
theorem d_Mo_length_5 : decode b_Mo_length 5 = .ok (.iload_n 1, 1) := by decide +kernel
theorem d_Mo_length_6 : decode b_Mo_length 6 = .ok (.iconst 0, 1) := by decide +kernel
theorem d_Mo_length_7 : decode b_Mo_length 7 = .ok (.iconst 2, 1) := by decide +kernel
theorem d_Mo_length_8 : decode b_Mo_length 8 = .ok (.invokestatic 43, 3) := by decide +kernel
theorem d_Mo_length_11 : decode b_Mo_length 11 = .ok (.ifCond .eq 14, 3) := by decide +kernel
theorem d_Mo_length_14 : decode b_Mo_length 14 = .ok (.iconst (-1), 1) := by decide +kernel
theorem d_Mo_length_15 : decode b_Mo_length 15 = .ok (.aload_n 0, 1) := by decide +kernel
theorem d_Mo_length_16 : decode b_Mo_length 16 = .ok (.iload_n 1, 1) := by decide +kernel
theorem d_Mo_length_17 : decode b_Mo_length 17 = .ok (.iconst (-1), 1) := by decide +kernel
theorem d_Mo_length_18 : decode b_Mo_length 18 = .ok (.invokevirtual 159, 3) := by decide +kernel
theorem d_Mo_length_21 : decode b_Mo_length 21 = .ok (.isub, 1) := by decide +kernel
theorem d_Mo_length_22 : decode b_Mo_length 22 = .ok (.goto 4, 3) := by decide +kernel
theorem d_Mo_length_25 : decode b_Mo_length 25 = .ok (.iconst (-1), 1) := by decide +kernel
theorem d_Mo_length_26 : decode b_Mo_length 26 = .ok (.ireturn, 1) := by decide +kernel
def f_Mo_length_26  (s0 : Int32) (S : zq_S) : Option (zq_S × Int32) :=
  some (S, s0)
def f_Mo_length (a0 : Nat) (v1 : Int32) (S : zq_S) : Option (zq_S × Int32) :=
  (zs_p S a0 4 0 (.int (0 : Int32))).bind fun S1 =>
  zs_b (f_Mo_in v1 (0 : Int32) (2 : Int32) S1) fun S4 x5 =>
  if x5 = 0 then
    f_Mo_length_26  (-1 : Int32) S4
  else
    if zs_is S4 a0 4 = true then
    zs_b (f_Mo_placeOf a0 v1 (-1 : Int32) S4) fun S7 x8 =>
    f_Mo_length_26  ((-1 : Int32) - x8) S7
    else none
set_option maxHeartbeats 4000000 in
set_option maxRecDepth 100000 in
theorem r_Mo_length_26 {l : Launch} (hl : l.stackTraces = false) {G : zq_G} {S0 T : zq_S} {v : Int32} {X : zq_X} (Z : Z_Mo_length l G S0 T v X) {s0 : Int32} {S : zq_S} (hf : f_Mo_length_26  s0 S = some (T, v)) : zq_W (Y_Mo_length l G S0 T v) X 26 [] [.int s0] S 0 0 := by
  unfold f_Mo_length_26 at hf
  exact zq_iret Z d_Mo_length_26 (zs_1 hf) (zs_2 (fun z => (.inl (some (.int z)) : zq_R)) hf) ⟨(Nat.le_of_ble_eq_true rfl), (Nat.le_of_ble_eq_true rfl)⟩
set_option maxHeartbeats 4000000 in
set_option maxRecDepth 100000 in
theorem c_Mo_length {l : Launch} (hl : l.stackTraces = false) {G : zq_G} {a0 : Nat} {v1 : Int32} {S0 T : zq_S} {v : Int32} (hf : f_Mo_length a0 v1 S0 = some (T, v)) : zq_M l y_Mo_length (.code y_Mo_length b_Mo_length 2 (some (.int))) rm_Mo_length G [.ref a0, .int v1] S0 ((.inl (some (.int v)) : zq_R)) T := by
  refine zq_Mof (lo := [(0, .ref a0), (1, .int v1)]) hl (by decide) (Nat.le_of_ble_eq_true rfl) rfl (fun X Z => ?_)
  have Z : Z_Mo_length l G S0 T v X := Z
  show zq_W (Y_Mo_length l G S0 T v) X 0 [(0, .ref a0), (1, .int v1)] [] S0 0 0
  unfold f_Mo_length at hf
  refine zq_aload_n Z d_Mo_length_0 0 rfl ?_
  refine zq_iconst Z (0 : Int32) d_Mo_length_1 (by decide) ?_
  have hq := Option.bind_eq_some_iff.mp hf
  clear hf
  obtain ⟨S1, h2, hf⟩ := hq
  refine zr_puti Z cd_Mo 0 d_Mo_length_2 (by decide) m_279 rfl (by decide +kernel) h2 ?_
  refine zq_iload_n Z d_Mo_length_5 1 rfl ?_
  refine zq_iconst Z (0 : Int32) d_Mo_length_6 (by decide) ?_
  refine zq_iconst Z (2 : Int32) d_Mo_length_7 (by decide) ?_
  have hq := zs_bS hf
  clear hf
  obtain ⟨S4, x5, h3, hf⟩ := hq
  refine zq_contR (zq_stepS Z zq_cf1 (c_Mo_in hl h3) d_Mo_length_8 m_283 m_284 m_285 m_286 p_Mo_in ⟨(Nat.le_of_ble_eq_true rfl), (Nat.le_of_ble_eq_true rfl), (Nat.le_of_ble_eq_true rfl), (Nat.le_of_ble_eq_true rfl)⟩ rfl (Nat.le_of_ble_eq_true rfl)) Z.p ?_
  refine zq_if_eq Z 25 d_Mo_length_11 (by decide) (fun q => ?_) (fun q => ?_)
  · replace hf := zs_T q hf
    refine zq_iconst Z (-1 : Int32) d_Mo_length_25 (by decide) ?_
    refine zq_sub (lo' := []) [] rfl ?_
    exact r_Mo_length_26 hl Z  hf
  · replace hf := zs_N q hf
    refine zq_iconst Z (-1 : Int32) d_Mo_length_14 (by decide) ?_
    refine zq_aload_n Z d_Mo_length_15 0 rfl ?_
    refine zq_iload_n Z d_Mo_length_16 1 rfl ?_
    refine zq_iconst Z (-1 : Int32) d_Mo_length_17 (by decide) ?_
    have hq := zs_C hf
    clear hf
    obtain ⟨h9, hf⟩ := hq
    obtain ⟨fs10, e11⟩ := zs_isS h9
    have hq := zs_bS hf
    clear hf
    obtain ⟨S7, x8, h6, hf⟩ := hq
    refine zq_contR (zq_stepV Z zq_cf1 (c_Mo_placeOf hl h6) 4 rfl e11 d_Mo_length_18 m_377 m_379 m_380 m_378 m_286 p_Mo_placeOf ⟨(Nat.le_of_ble_eq_true rfl), (Nat.le_of_ble_eq_true rfl), (Nat.le_of_ble_eq_true rfl), (Nat.le_of_ble_eq_true rfl)⟩ rfl (Nat.le_of_ble_eq_true rfl)) Z.p ?_
    refine zq_isub Z d_Mo_length_21 ?_
    refine zq_goto Z 26 d_Mo_length_22 (by decide) ?_
    refine zq_sub (lo' := []) [] rfl ?_
    exact r_Mo_length_26 hl Z  hf
theorem d_Mo_seen_0 : decode b_Mo_seen 0 = .ok (.aload_n 0, 1) := by decide +kernel
theorem d_Mo_seen_1 : decode b_Mo_seen 1 = .ok (.iload_n 1, 1) := by decide +kernel
theorem d_Mo_seen_2 : decode b_Mo_seen 2 = .ok (.iconst 0, 1) := by decide +kernel
theorem d_Mo_seen_3 : decode b_Mo_seen 3 = .ok (.iconst 2, 1) := by decide +kernel
theorem d_Mo_seen_4 : decode b_Mo_seen 4 = .ok (.invokestatic 43, 3) := by decide +kernel
theorem d_Mo_seen_7 : decode b_Mo_seen 7 = .ok (.ifCond .eq 12, 3) := by decide +kernel
theorem d_Mo_seen_10 : decode b_Mo_seen 10 = .ok (.iload_n 3, 1) := by decide +kernel
theorem d_Mo_seen_11 : decode b_Mo_seen 11 = .ok (.iconst 0, 1) := by decide +kernel
theorem d_Mo_seen_12 : decode b_Mo_seen 12 = .ok (.iconst 2, 1) := by decide +kernel
theorem d_Mo_seen_13 : decode b_Mo_seen 13 = .ok (.invokestatic 43, 3) := by decide +kernel
theorem d_Mo_seen_16 : decode b_Mo_seen 16 = .ok (.ifCond .ne 7, 3) := by decide +kernel
theorem d_Mo_seen_19 : decode b_Mo_seen 19 = .ok (.iconst 1, 1) := by decide +kernel
theorem d_Mo_seen_20 : decode b_Mo_seen 20 = .ok (.goto 17, 3) := by decide +kernel
theorem d_Mo_seen_23 : decode b_Mo_seen 23 = .ok (.aload_n 0, 1) := by decide +kernel
theorem d_Mo_seen_24 : decode b_Mo_seen 24 = .ok (.iload_n 1, 1) := by decide +kernel
theorem d_Mo_seen_25 : decode b_Mo_seen 25 = .ok (.iload_n 2, 1) := by decide +kernel
theorem d_Mo_seen_26 : decode b_Mo_seen 26 = .ok (.invokevirtual 159, 3) := by decide +kernel
theorem d_Mo_seen_29 : decode b_Mo_seen 29 = .ok (.ifCond .ge 7, 3) := by decide +kernel
theorem d_Mo_seen_32 : decode b_Mo_seen 32 = .ok (.iconst 2, 1) := by decide +kernel
theorem d_Mo_seen_33 : decode b_Mo_seen 33 = .ok (.goto 4, 3) := by decide +kernel
theorem d_Mo_seen_36 : decode b_Mo_seen 36 = .ok (.iconst 0, 1) := by decide +kernel
theorem d_Mo_seen_37 : decode b_Mo_seen 37 = .ok (.putfield 35, 3) := by decide +kernel
theorem d_Mo_seen_40 : decode b_Mo_seen 40 = .ok (.aload_n 0, 1) := by decide +kernel
theorem d_Mo_seen_41 : decode b_Mo_seen 41 = .ok (.getfield 35, 3) := by decide +kernel
theorem d_Mo_seen_44 : decode b_Mo_seen 44 = .ok (.ifCond .le 5, 3) := by decide +kernel
theorem d_Mo_seen_47 : decode b_Mo_seen 47 = .ok (.iconst 0, 1) := by decide +kernel
theorem d_Mo_seen_48 : decode b_Mo_seen 48 = .ok (.ireturn, 1) := by decide +kernel
theorem d_Mo_seen_49 : decode b_Mo_seen 49 = .ok (.aload_n 0, 1) := by decide +kernel
theorem d_Mo_seen_50 : decode b_Mo_seen 50 = .ok (.iload_n 1, 1) := by decide +kernel
theorem d_Mo_seen_51 : decode b_Mo_seen 51 = .ok (.iload_n 2, 1) := by decide +kernel
theorem d_Mo_seen_52 : decode b_Mo_seen 52 = .ok (.invokevirtual 159, 3) := by decide +kernel
theorem d_Mo_seen_55 : decode b_Mo_seen 55 = .ok (.istore 4, 2) := by decide +kernel
theorem d_Mo_seen_57 : decode b_Mo_seen 57 = .ok (.iload_n 1, 1) := by decide +kernel
theorem d_Mo_seen_58 : decode b_Mo_seen 58 = .ok (.iconst 2, 1) := by decide +kernel
theorem d_Mo_seen_59 : decode b_Mo_seen 59 = .ok (.if_icmp .ne 31, 3) := by decide +kernel
theorem d_Mo_seen_62 : decode b_Mo_seen 62 = .ok (.aload_n 0, 1) := by decide +kernel
theorem d_Mo_seen_63 : decode b_Mo_seen 63 = .ok (.getfield 7, 3) := by decide +kernel
theorem d_Mo_seen_66 : decode b_Mo_seen 66 = .ok (.iload 4, 2) := by decide +kernel
theorem d_Mo_seen_68 : decode b_Mo_seen 68 = .ok (.laload, 1) := by decide +kernel
theorem d_Mo_seen_69 : decode b_Mo_seen 69 = .ok (.iconst 4, 1) := by decide +kernel
theorem d_Mo_seen_70 : decode b_Mo_seen 70 = .ok (.invokestatic 66, 3) := by decide +kernel
theorem d_Mo_seen_73 : decode b_Mo_seen 73 = .ok (.ifCond .eq 17, 3) := by decide +kernel
theorem d_Mo_seen_76 : decode b_Mo_seen 76 = .ok (.aload_n 0, 1) := by decide +kernel
theorem d_Mo_seen_77 : decode b_Mo_seen 77 = .ok (.getfield 7, 3) := by decide +kernel
theorem d_Mo_seen_80 : decode b_Mo_seen 80 = .ok (.iload 4, 2) := by decide +kernel
theorem d_Mo_seen_82 : decode b_Mo_seen 82 = .ok (.laload, 1) := by decide +kernel
theorem d_Mo_seen_83 : decode b_Mo_seen 83 = .ok (.iconst 5, 1) := by decide +kernel
theorem d_Mo_seen_84 : decode b_Mo_seen 84 = .ok (.invokestatic 66, 3) := by decide +kernel
theorem d_Mo_seen_87 : decode b_Mo_seen 87 = .ok (.goto 14, 3) := by decide +kernel
theorem d_Mo_seen_90 : decode b_Mo_seen 90 = .ok (.aload_n 0, 1) := by decide +kernel
theorem d_Mo_seen_91 : decode b_Mo_seen 91 = .ok (.getfield 7, 3) := by decide +kernel
theorem d_Mo_seen_94 : decode b_Mo_seen 94 = .ok (.iload 4, 2) := by decide +kernel
theorem d_Mo_seen_96 : decode b_Mo_seen 96 = .ok (.laload, 1) := by decide +kernel
theorem d_Mo_seen_97 : decode b_Mo_seen 97 = .ok (.iconst 1, 1) := by decide +kernel
theorem d_Mo_seen_98 : decode b_Mo_seen 98 = .ok (.invokestatic 66, 3) := by decide +kernel
theorem d_Mo_seen_101 : decode b_Mo_seen 101 = .ok (.istore 5, 2) := by decide +kernel
theorem d_Mo_seen_103 : decode b_Mo_seen 103 = .ok (.iload_n 3, 1) := by decide +kernel
theorem d_Mo_seen_104 : decode b_Mo_seen 104 = .ok (.ifCond .ne 17, 3) := by decide +kernel
theorem d_Mo_seen_107 : decode b_Mo_seen 107 = .ok (.aload_n 0, 1) := by decide +kernel
theorem d_Mo_seen_108 : decode b_Mo_seen 108 = .ok (.getfield 7, 3) := by decide +kernel
theorem d_Mo_seen_111 : decode b_Mo_seen 111 = .ok (.iload 4, 2) := by decide +kernel
theorem d_Mo_seen_113 : decode b_Mo_seen 113 = .ok (.laload, 1) := by decide +kernel
theorem d_Mo_seen_114 : decode b_Mo_seen 114 = .ok (.iconst 0, 1) := by decide +kernel
theorem d_Mo_seen_115 : decode b_Mo_seen 115 = .ok (.invokestatic 66, 3) := by decide +kernel
theorem d_Mo_seen_118 : decode b_Mo_seen 118 = .ok (.goto 15, 3) := by decide +kernel
theorem d_Mo_seen_121 : decode b_Mo_seen 121 = .ok (.iload_n 3, 1) := by decide +kernel
theorem d_Mo_seen_122 : decode b_Mo_seen 122 = .ok (.iconst 1, 1) := by decide +kernel
theorem d_Mo_seen_123 : decode b_Mo_seen 123 = .ok (.if_icmp .ne 8, 3) := by decide +kernel
theorem d_Mo_seen_126 : decode b_Mo_seen 126 = .ok (.iload 5, 2) := by decide +kernel
theorem d_Mo_seen_128 : decode b_Mo_seen 128 = .ok (.goto 5, 3) := by decide +kernel
theorem d_Mo_seen_131 : decode b_Mo_seen 131 = .ok (.iload 4, 2) := by decide +kernel
theorem d_Mo_seen_133 : decode b_Mo_seen 133 = .ok (.ireturn, 1) := by decide +kernel
def f_Mo_seen_133  (s0 : Int32) (S : zq_S) : Option (zq_S × Int32) :=
  some (S, s0)
def f_Mo_seen_101  (a0 : Nat) (v3 : Int32) (v4 : Int32) (s0 : Int32) (S : zq_S) : Option (zq_S × Int32) :=
  if v3 = 0 then
    (zs_gr S a0 4 4).bind fun x1 =>
    (x1).bind fun a3 =>
    (zs_lal S a3 0 v4).bind fun x5 =>
    zs_b (f_Mo_part x5 (0 : Int32) S) fun S8 x9 =>
    f_Mo_seen_133  x9 S8
  else
    if v3 = (1 : Int32) then
      f_Mo_seen_133  s0 S
    else
      f_Mo_seen_133  v4 S
def f_Mo_seen_90  (a0 : Nat) (v3 : Int32) (v4 : Int32) (S : zq_S) : Option (zq_S × Int32) :=
  (zs_gr S a0 4 4).bind fun x1 =>
  (x1).bind fun a3 =>
  (zs_lal S a3 0 v4).bind fun x5 =>
  zs_b (f_Mo_part x5 (1 : Int32) S) fun S8 x9 =>
  f_Mo_seen_101  a0 v3 v4 x9 S8
def f_Mo_seen_37  (a0 : Nat) (v1 : Int32) (v2 : Int32) (v3 : Int32) (s0 : Option Nat) (s1 : Int32) (S : zq_S) : Option (zq_S × Int32) :=
  (s0).bind fun a1 =>
  (zs_p S a1 4 0 (.int s1)).bind fun S3 =>
  (zs_gi S3 a0 4 0).bind fun x5 =>
  if x5 ≤ 0 then
    if zs_is S3 a0 4 = true then
    zs_b (f_Mo_placeOf a0 v1 v2 S3) fun S8 x9 =>
    if v1 = (2 : Int32) then
      (zs_gr S8 a0 4 4).bind fun x13 =>
      (x13).bind fun a15 =>
      (zs_lal S8 a15 0 x9).bind fun x17 =>
      zs_b (f_Mo_part x17 (4 : Int32) S8) fun S20 x21 =>
      if x21 = 0 then
        f_Mo_seen_90  a0 v3 x9 S20
      else
        (zs_gr S20 a0 4 4).bind fun x22 =>
        (x22).bind fun a24 =>
        (zs_lal S20 a24 0 x9).bind fun x26 =>
        zs_b (f_Mo_part x26 (5 : Int32) S20) fun S29 x30 =>
        f_Mo_seen_101  a0 v3 x9 x30 S29
    else
      f_Mo_seen_90  a0 v3 x9 S8
    else none
  else
    some (S3, (0 : Int32))
def f_Mo_seen_19  (a0 : Nat) (v1 : Int32) (v2 : Int32) (v3 : Int32) (s0 : Option Nat) (S : zq_S) : Option (zq_S × Int32) :=
  f_Mo_seen_37  a0 v1 v2 v3 s0 (1 : Int32) S
def f_Mo_seen (a0 : Nat) (v1 : Int32) (v2 : Int32) (v3 : Int32) (S : zq_S) : Option (zq_S × Int32) :=
  zs_b (f_Mo_in v1 (0 : Int32) (2 : Int32) S) fun S2 x3 =>
  if x3 = 0 then
    f_Mo_seen_19  a0 v1 v2 v3 (some a0) S2
  else
    zs_b (f_Mo_in v3 (0 : Int32) (2 : Int32) S2) fun S5 x6 =>
    if x6 = 0 then
      f_Mo_seen_19  a0 v1 v2 v3 (some a0) S5
    else
      if zs_is S5 a0 4 = true then
      zs_b (f_Mo_placeOf a0 v1 v2 S5) fun S8 x9 =>
      if 0 ≤ x9 then
        f_Mo_seen_37  a0 v1 v2 v3 (some a0) (0 : Int32) S8
      else
        f_Mo_seen_37  a0 v1 v2 v3 (some a0) (2 : Int32) S8
      else none
set_option maxHeartbeats 4000000 in
set_option maxRecDepth 100000 in
theorem r_Mo_seen_133 {l : Launch} (hl : l.stackTraces = false) {G : zq_G} {S0 T : zq_S} {v : Int32} {X : zq_X} (Z : Z_Mo_seen l G S0 T v X) {s0 : Int32} {S : zq_S} (hf : f_Mo_seen_133  s0 S = some (T, v)) : zq_W (Y_Mo_seen l G S0 T v) X 133 [] [.int s0] S 0 0 := by
  unfold f_Mo_seen_133 at hf
  exact zq_iret Z d_Mo_seen_133 (zs_1 hf) (zs_2 (fun z => (.inl (some (.int z)) : zq_R)) hf) ⟨(Nat.le_of_ble_eq_true rfl), (Nat.le_of_ble_eq_true rfl)⟩
set_option maxHeartbeats 4000000 in
set_option maxRecDepth 100000 in
theorem r_Mo_seen_101 {l : Launch} (hl : l.stackTraces = false) {G : zq_G} {S0 T : zq_S} {v : Int32} {X : zq_X} (Z : Z_Mo_seen l G S0 T v X) {a0 : Nat} {v3 : Int32} {v4 : Int32} {s0 : Int32} {S : zq_S} (hf : f_Mo_seen_101  a0 v3 v4 s0 S = some (T, v)) : zq_W (Y_Mo_seen l G S0 T v) X 101 [(0, .ref a0), (3, .int v3), (4, .int v4)] [.int s0] S 0 0 := by
  unfold f_Mo_seen_101 at hf
  refine zq_istore Z [(5, .int s0), (0, .ref a0), (3, .int v3), (4, .int v4)] d_Mo_seen_101 (by decide) rfl ?_
  refine zq_iload_n Z d_Mo_seen_103 2 rfl ?_
  refine zq_if_ne Z 121 d_Mo_seen_104 (by decide) (fun q => ?_) (fun q => ?_)
  · replace hf := zs_N q hf
    refine zq_iload_n Z d_Mo_seen_121 2 rfl ?_
    refine zq_iconst Z (1 : Int32) d_Mo_seen_122 (by decide) ?_
    refine zq_icmp_ne Z 131 d_Mo_seen_123 (by decide) (fun q => ?_) (fun q => ?_)
    · replace hf := zs_N q hf
      refine zq_iload Z d_Mo_seen_131 3 rfl ?_
      refine zq_sub (lo' := []) [] rfl ?_
      exact r_Mo_seen_133 hl Z  hf
    · replace hf := zs_T q hf
      refine zq_iload Z d_Mo_seen_126 0 rfl ?_
      refine zq_goto Z 133 d_Mo_seen_128 (by decide) ?_
      refine zq_sub (lo' := []) [] rfl ?_
      exact r_Mo_seen_133 hl Z  hf
  · replace hf := zs_T q hf
    refine zq_aload_n Z d_Mo_seen_107 1 rfl ?_
    have hq := Option.bind_eq_some_iff.mp hf
    clear hf
    obtain ⟨x1, h2, hf⟩ := hq
    refine zr_getr Z cd_Mo 4 d_Mo_seen_108 (by decide) m_270 h2 ?_
    refine zq_iload Z d_Mo_seen_111 3 rfl ?_
    have hq := Option.bind_eq_some_iff.mp hf
    clear hf
    obtain ⟨a3, h4, hf⟩ := hq
    subst h4
    have hq := Option.bind_eq_some_iff.mp hf
    clear hf
    obtain ⟨x5, h6, hf⟩ := hq
    refine zr_laload Z 0 (fun _ => rfl) d_Mo_seen_113 h6 ?_
    refine zq_iconst Z (0 : Int32) d_Mo_seen_114 (by decide) ?_
    have hq := zs_bS hf
    clear hf
    obtain ⟨S8, x9, h7, hf⟩ := hq
    refine zq_contR (zq_stepS Z zq_cf1 (c_Mo_part hl h7) d_Mo_seen_115 m_292 m_293 m_294 m_286 p_Mo_part ⟨(Nat.le_of_ble_eq_true rfl), (Nat.le_of_ble_eq_true rfl), (Nat.le_of_ble_eq_true rfl), (Nat.le_of_ble_eq_true rfl)⟩ rfl (Nat.le_of_ble_eq_true rfl)) Z.p ?_
    refine zq_goto Z 133 d_Mo_seen_118 (by decide) ?_
    refine zq_sub (lo' := []) [] rfl ?_
    exact r_Mo_seen_133 hl Z  hf
set_option maxHeartbeats 4000000 in
set_option maxRecDepth 100000 in
theorem r_Mo_seen_90 {l : Launch} (hl : l.stackTraces = false) {G : zq_G} {S0 T : zq_S} {v : Int32} {X : zq_X} (Z : Z_Mo_seen l G S0 T v X) {a0 : Nat} {v3 : Int32} {v4 : Int32} {S : zq_S} (hf : f_Mo_seen_90  a0 v3 v4 S = some (T, v)) : zq_W (Y_Mo_seen l G S0 T v) X 90 [(0, .ref a0), (3, .int v3), (4, .int v4)] [] S 0 0 := by
  unfold f_Mo_seen_90 at hf
  refine zq_aload_n Z d_Mo_seen_90 0 rfl ?_
  have hq := Option.bind_eq_some_iff.mp hf
  clear hf
  obtain ⟨x1, h2, hf⟩ := hq
  refine zr_getr Z cd_Mo 4 d_Mo_seen_91 (by decide) m_270 h2 ?_
  refine zq_iload Z d_Mo_seen_94 2 rfl ?_
  have hq := Option.bind_eq_some_iff.mp hf
  clear hf
  obtain ⟨a3, h4, hf⟩ := hq
  subst h4
  have hq := Option.bind_eq_some_iff.mp hf
  clear hf
  obtain ⟨x5, h6, hf⟩ := hq
  refine zr_laload Z 0 (fun _ => rfl) d_Mo_seen_96 h6 ?_
  refine zq_iconst Z (1 : Int32) d_Mo_seen_97 (by decide) ?_
  have hq := zs_bS hf
  clear hf
  obtain ⟨S8, x9, h7, hf⟩ := hq
  refine zq_contR (zq_stepS Z zq_cf1 (c_Mo_part hl h7) d_Mo_seen_98 m_292 m_293 m_294 m_286 p_Mo_part ⟨(Nat.le_of_ble_eq_true rfl), (Nat.le_of_ble_eq_true rfl), (Nat.le_of_ble_eq_true rfl), (Nat.le_of_ble_eq_true rfl)⟩ rfl (Nat.le_of_ble_eq_true rfl)) Z.p ?_
  refine zq_sub (lo' := [(0, .ref a0), (3, .int v3), (4, .int v4)]) [0, 1, 2] rfl ?_
  exact r_Mo_seen_101 hl Z  hf
set_option maxHeartbeats 4000000 in
set_option maxRecDepth 100000 in
theorem r_Mo_seen_37 {l : Launch} (hl : l.stackTraces = false) {G : zq_G} {S0 T : zq_S} {v : Int32} {X : zq_X} (Z : Z_Mo_seen l G S0 T v X) {a0 : Nat} {v1 : Int32} {v2 : Int32} {v3 : Int32} {s0 : Option Nat} {s1 : Int32} {S : zq_S} (hf : f_Mo_seen_37  a0 v1 v2 v3 s0 s1 S = some (T, v)) : zq_W (Y_Mo_seen l G S0 T v) X 37 [(0, .ref a0), (1, .int v1), (2, .int v2), (3, .int v3)] [.int s1, va_rf s0] S 0 0 := by
  unfold f_Mo_seen_37 at hf
  have hq := Option.bind_eq_some_iff.mp hf
  clear hf
  obtain ⟨a1, h2, hf⟩ := hq
  subst h2
  have hq := Option.bind_eq_some_iff.mp hf
  clear hf
  obtain ⟨S3, h4, hf⟩ := hq
  refine zr_puti Z cd_Mo 0 d_Mo_seen_37 (by decide) m_279 rfl (by decide +kernel) h4 ?_
  refine zq_aload_n Z d_Mo_seen_40 0 rfl ?_
  have hq := Option.bind_eq_some_iff.mp hf
  clear hf
  obtain ⟨x5, h6, hf⟩ := hq
  refine zr_geti Z cd_Mo 0 d_Mo_seen_41 (by decide) m_279 h6 ?_
  refine zq_if_le Z 49 d_Mo_seen_44 (by decide) (fun q => ?_) (fun q => ?_)
  · replace hf := zs_T q hf
    refine zq_aload_n Z d_Mo_seen_49 0 rfl ?_
    refine zq_iload_n Z d_Mo_seen_50 1 rfl ?_
    refine zq_iload_n Z d_Mo_seen_51 2 rfl ?_
    have hq := zs_C hf
    clear hf
    obtain ⟨h10, hf⟩ := hq
    obtain ⟨fs11, e12⟩ := zs_isS h10
    have hq := zs_bS hf
    clear hf
    obtain ⟨S8, x9, h7, hf⟩ := hq
    refine zq_contR (zq_stepV Z zq_cf1 (c_Mo_placeOf hl h7) 4 rfl e12 d_Mo_seen_52 m_377 m_379 m_380 m_378 m_286 p_Mo_placeOf ⟨(Nat.le_of_ble_eq_true rfl), (Nat.le_of_ble_eq_true rfl), (Nat.le_of_ble_eq_true rfl), (Nat.le_of_ble_eq_true rfl)⟩ rfl (Nat.le_of_ble_eq_true rfl)) Z.p ?_
    refine zq_istore Z [(4, .int x9), (0, .ref a0), (1, .int v1), (2, .int v2), (3, .int v3)] d_Mo_seen_55 (by decide) rfl ?_
    refine zq_iload_n Z d_Mo_seen_57 2 rfl ?_
    refine zq_iconst Z (2 : Int32) d_Mo_seen_58 (by decide) ?_
    refine zq_icmp_ne Z 90 d_Mo_seen_59 (by decide) (fun q => ?_) (fun q => ?_)
    · replace hf := zs_N q hf
      refine zq_sub (lo' := [(0, .ref a0), (3, .int v3), (4, .int x9)]) [1, 4, 0] rfl ?_
      exact r_Mo_seen_90 hl Z  hf
    · replace hf := zs_T q hf
      refine zq_aload_n Z d_Mo_seen_62 1 rfl ?_
      have hq := Option.bind_eq_some_iff.mp hf
      clear hf
      obtain ⟨x13, h14, hf⟩ := hq
      refine zr_getr Z cd_Mo 4 d_Mo_seen_63 (by decide) m_270 h14 ?_
      refine zq_iload Z d_Mo_seen_66 0 rfl ?_
      have hq := Option.bind_eq_some_iff.mp hf
      clear hf
      obtain ⟨a15, h16, hf⟩ := hq
      subst h16
      have hq := Option.bind_eq_some_iff.mp hf
      clear hf
      obtain ⟨x17, h18, hf⟩ := hq
      refine zr_laload Z 0 (fun _ => rfl) d_Mo_seen_68 h18 ?_
      refine zq_iconst Z (4 : Int32) d_Mo_seen_69 (by decide) ?_
      have hq := zs_bS hf
      clear hf
      obtain ⟨S20, x21, h19, hf⟩ := hq
      refine zq_contR (zq_stepS Z zq_cf1 (c_Mo_part hl h19) d_Mo_seen_70 m_292 m_293 m_294 m_286 p_Mo_part ⟨(Nat.le_of_ble_eq_true rfl), (Nat.le_of_ble_eq_true rfl), (Nat.le_of_ble_eq_true rfl), (Nat.le_of_ble_eq_true rfl)⟩ rfl (Nat.le_of_ble_eq_true rfl)) Z.p ?_
      refine zq_if_eq Z 90 d_Mo_seen_73 (by decide) (fun q => ?_) (fun q => ?_)
      · replace hf := zs_T q hf
        refine zq_sub (lo' := [(0, .ref a0), (3, .int v3), (4, .int x9)]) [1, 4, 0] rfl ?_
        exact r_Mo_seen_90 hl Z  hf
      · replace hf := zs_N q hf
        refine zq_aload_n Z d_Mo_seen_76 1 rfl ?_
        have hq := Option.bind_eq_some_iff.mp hf
        clear hf
        obtain ⟨x22, h23, hf⟩ := hq
        refine zr_getr Z cd_Mo 4 d_Mo_seen_77 (by decide) m_270 h23 ?_
        refine zq_iload Z d_Mo_seen_80 0 rfl ?_
        have hq := Option.bind_eq_some_iff.mp hf
        clear hf
        obtain ⟨a24, h25, hf⟩ := hq
        subst h25
        have hq := Option.bind_eq_some_iff.mp hf
        clear hf
        obtain ⟨x26, h27, hf⟩ := hq
        refine zr_laload Z 0 (fun _ => rfl) d_Mo_seen_82 h27 ?_
        refine zq_iconst Z (5 : Int32) d_Mo_seen_83 (by decide) ?_
        have hq := zs_bS hf
        clear hf
        obtain ⟨S29, x30, h28, hf⟩ := hq
        refine zq_contR (zq_stepS Z zq_cf1 (c_Mo_part hl h28) d_Mo_seen_84 m_292 m_293 m_294 m_286 p_Mo_part ⟨(Nat.le_of_ble_eq_true rfl), (Nat.le_of_ble_eq_true rfl), (Nat.le_of_ble_eq_true rfl), (Nat.le_of_ble_eq_true rfl)⟩ rfl (Nat.le_of_ble_eq_true rfl)) Z.p ?_
        refine zq_goto Z 101 d_Mo_seen_87 (by decide) ?_
        refine zq_sub (lo' := [(0, .ref a0), (3, .int v3), (4, .int x9)]) [1, 4, 0] rfl ?_
        exact r_Mo_seen_101 hl Z  hf
  · replace hf := zs_N q hf
    refine zq_iconst Z (0 : Int32) d_Mo_seen_47 (by decide) ?_
    exact zq_iret Z d_Mo_seen_48 (zs_1 hf) (zs_2 (fun z => (.inl (some (.int z)) : zq_R)) hf) ⟨(Nat.le_of_ble_eq_true rfl), (Nat.le_of_ble_eq_true rfl)⟩
set_option maxHeartbeats 4000000 in
set_option maxRecDepth 100000 in
theorem r_Mo_seen_19 {l : Launch} (hl : l.stackTraces = false) {G : zq_G} {S0 T : zq_S} {v : Int32} {X : zq_X} (Z : Z_Mo_seen l G S0 T v X) {a0 : Nat} {v1 : Int32} {v2 : Int32} {v3 : Int32} {s0 : Option Nat} {S : zq_S} (hf : f_Mo_seen_19  a0 v1 v2 v3 s0 S = some (T, v)) : zq_W (Y_Mo_seen l G S0 T v) X 19 [(0, .ref a0), (1, .int v1), (2, .int v2), (3, .int v3)] [va_rf s0] S 0 0 := by
  unfold f_Mo_seen_19 at hf
  refine zq_iconst Z (1 : Int32) d_Mo_seen_19 (by decide) ?_
  refine zq_goto Z 37 d_Mo_seen_20 (by decide) ?_
  refine zq_sub (lo' := [(0, .ref a0), (1, .int v1), (2, .int v2), (3, .int v3)]) [0, 1, 2, 3] rfl ?_
  exact r_Mo_seen_37 hl Z  hf
set_option maxHeartbeats 4000000 in
set_option maxRecDepth 100000 in
theorem c_Mo_seen {l : Launch} (hl : l.stackTraces = false) {G : zq_G} {a0 : Nat} {v1 : Int32} {v2 : Int32} {v3 : Int32} {S0 T : zq_S} {v : Int32} (hf : f_Mo_seen a0 v1 v2 v3 S0 = some (T, v)) : zq_M l y_Mo_seen (.code y_Mo_seen b_Mo_seen 6 (some (.int))) rm_Mo_seen G [.ref a0, .int v1, .int v2, .int v3] S0 ((.inl (some (.int v)) : zq_R)) T := by
  refine zq_Mof (lo := [(0, .ref a0), (1, .int v1), (2, .int v2), (3, .int v3)]) hl (by decide) (Nat.le_of_ble_eq_true rfl) rfl (fun X Z => ?_)
  have Z : Z_Mo_seen l G S0 T v X := Z
  show zq_W (Y_Mo_seen l G S0 T v) X 0 [(0, .ref a0), (1, .int v1), (2, .int v2), (3, .int v3)] [] S0 0 0
  unfold f_Mo_seen at hf
  refine zq_aload_n Z d_Mo_seen_0 0 rfl ?_
  refine zq_iload_n Z d_Mo_seen_1 1 rfl ?_
  refine zq_iconst Z (0 : Int32) d_Mo_seen_2 (by decide) ?_
  refine zq_iconst Z (2 : Int32) d_Mo_seen_3 (by decide) ?_
  have hq := zs_bS hf
  clear hf
  obtain ⟨S2, x3, h1, hf⟩ := hq
  refine zq_contR (zq_stepS Z zq_cf1 (c_Mo_in hl h1) d_Mo_seen_4 m_283 m_284 m_285 m_286 p_Mo_in ⟨(Nat.le_of_ble_eq_true rfl), (Nat.le_of_ble_eq_true rfl), (Nat.le_of_ble_eq_true rfl), (Nat.le_of_ble_eq_true rfl)⟩ rfl (Nat.le_of_ble_eq_true rfl)) Z.p ?_
  refine zq_if_eq Z 19 d_Mo_seen_7 (by decide) (fun q => ?_) (fun q => ?_)
  · replace hf := zs_T q hf
    refine zq_sub (lo' := [(0, .ref a0), (1, .int v1), (2, .int v2), (3, .int v3)]) [0, 1, 2, 3] rfl ?_
    show zq_W _ _ 19 _ [va_rf (some a0)] _ _ _
    exact r_Mo_seen_19 hl Z  hf
  · replace hf := zs_N q hf
    refine zq_iload_n Z d_Mo_seen_10 3 rfl ?_
    refine zq_iconst Z (0 : Int32) d_Mo_seen_11 (by decide) ?_
    refine zq_iconst Z (2 : Int32) d_Mo_seen_12 (by decide) ?_
    have hq := zs_bS hf
    clear hf
    obtain ⟨S5, x6, h4, hf⟩ := hq
    refine zq_contR (zq_stepS Z zq_cf1 (c_Mo_in hl h4) d_Mo_seen_13 m_283 m_284 m_285 m_286 p_Mo_in ⟨(Nat.le_of_ble_eq_true rfl), (Nat.le_of_ble_eq_true rfl), (Nat.le_of_ble_eq_true rfl), (Nat.le_of_ble_eq_true rfl)⟩ rfl (Nat.le_of_ble_eq_true rfl)) Z.p ?_
    refine zq_if_ne Z 23 d_Mo_seen_16 (by decide) (fun q => ?_) (fun q => ?_)
    · replace hf := zs_N q hf
      refine zq_aload_n Z d_Mo_seen_23 0 rfl ?_
      refine zq_iload_n Z d_Mo_seen_24 1 rfl ?_
      refine zq_iload_n Z d_Mo_seen_25 2 rfl ?_
      have hq := zs_C hf
      clear hf
      obtain ⟨h10, hf⟩ := hq
      obtain ⟨fs11, e12⟩ := zs_isS h10
      have hq := zs_bS hf
      clear hf
      obtain ⟨S8, x9, h7, hf⟩ := hq
      refine zq_contR (zq_stepV Z zq_cf1 (c_Mo_placeOf hl h7) 4 rfl e12 d_Mo_seen_26 m_377 m_379 m_380 m_378 m_286 p_Mo_placeOf ⟨(Nat.le_of_ble_eq_true rfl), (Nat.le_of_ble_eq_true rfl), (Nat.le_of_ble_eq_true rfl), (Nat.le_of_ble_eq_true rfl)⟩ rfl (Nat.le_of_ble_eq_true rfl)) Z.p ?_
      refine zq_if_ge Z 36 d_Mo_seen_29 (by decide) (fun q => ?_) (fun q => ?_)
      · replace hf := zs_T q hf
        refine zq_iconst Z (0 : Int32) d_Mo_seen_36 (by decide) ?_
        refine zq_sub (lo' := [(0, .ref a0), (1, .int v1), (2, .int v2), (3, .int v3)]) [0, 1, 2, 3] rfl ?_
        show zq_W _ _ 37 _ [.int (0 : Int32), va_rf (some a0)] _ _ _
        exact r_Mo_seen_37 hl Z  hf
      · replace hf := zs_N q hf
        refine zq_iconst Z (2 : Int32) d_Mo_seen_32 (by decide) ?_
        refine zq_goto Z 37 d_Mo_seen_33 (by decide) ?_
        refine zq_sub (lo' := [(0, .ref a0), (1, .int v1), (2, .int v2), (3, .int v3)]) [0, 1, 2, 3] rfl ?_
        show zq_W _ _ 37 _ [.int (2 : Int32), va_rf (some a0)] _ _ _
        exact r_Mo_seen_37 hl Z  hf
    · replace hf := zs_T q hf
      refine zq_sub (lo' := [(0, .ref a0), (1, .int v1), (2, .int v2), (3, .int v3)]) [0, 1, 2, 3] rfl ?_
      show zq_W _ _ 19 _ [va_rf (some a0)] _ _ _
      exact r_Mo_seen_19 hl Z  hf
