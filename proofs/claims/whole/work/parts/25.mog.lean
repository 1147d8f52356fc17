theorem d_Mo_mark_0 : decode b_Mo_mark 0 = .ok (.aload_n 0, 1) := by decide +kernel
theorem d_Mo_mark_1 : decode b_Mo_mark 1 = .ok (.iload_n 1, 1) := by decide +kernel
theorem d_Mo_mark_2 : decode b_Mo_mark 2 = .ok (.iconst 0, 1) := by decide +kernel
theorem d_Mo_mark_3 : decode b_Mo_mark 3 = .ok (.aload_n 0, 1) := by decide +kernel
theorem d_Mo_mark_4 : decode b_Mo_mark 4 = .ok (.getfield 59, 3) := by decide +kernel
theorem d_Mo_mark_7 : decode b_Mo_mark 7 = .ok (.iconst 1, 1) := by decide +kernel
theorem d_Mo_mark_8 : decode b_Mo_mark 8 = .ok (.isub, 1) := by decide +kernel
theorem d_Mo_mark_9 : decode b_Mo_mark 9 = .ok (.invokestatic 43, 3) := by decide +kernel
theorem d_Mo_mark_12 : decode b_Mo_mark 12 = .ok (.ifCond .ne 7, 3) := by decide +kernel
theorem d_Mo_mark_15 : decode b_Mo_mark 15 = .ok (.iconst 1, 1) := by decide +kernel
theorem d_Mo_mark_16 : decode b_Mo_mark 16 = .ok (.goto 17, 3) := by decide +kernel
theorem d_Mo_mark_19 : decode b_Mo_mark 19 = .ok (.iload_n 2, 1) := by decide +kernel
theorem d_Mo_mark_20 : decode b_Mo_mark 20 = .ok (.iconst 0, 1) := by decide +kernel
theorem d_Mo_mark_21 : decode b_Mo_mark 21 = .ok (.iconst 3, 1) := by decide +kernel
theorem d_Mo_mark_22 : decode b_Mo_mark 22 = .ok (.invokestatic 43, 3) := by decide +kernel
theorem d_Mo_mark_25 : decode b_Mo_mark 25 = .ok (.ifCond .ne 7, 3) := by decide +kernel
theorem d_Mo_mark_28 : decode b_Mo_mark 28 = .ok (.iconst 2, 1) := by decide +kernel
theorem d_Mo_mark_29 : decode b_Mo_mark 29 = .ok (.goto 4, 3) := by decide +kernel
theorem d_Mo_mark_32 : decode b_Mo_mark 32 = .ok (.iconst 0, 1) := by decide +kernel
theorem d_Mo_mark_33 : decode b_Mo_mark 33 = .ok (.putfield 35, 3) := by decide +kernel
theorem d_Mo_mark_36 : decode b_Mo_mark 36 = .ok (.aload_n 0, 1) := by decide +kernel
theorem d_Mo_mark_37 : decode b_Mo_mark 37 = .ok (.getfield 35, 3) := by decide +kernel
theorem d_Mo_mark_40 : decode b_Mo_mark 40 = .ok (.ifCond .le 5, 3) := by decide +kernel
theorem d_Mo_mark_43 : decode b_Mo_mark 43 = .ok (.iconst 0, 1) := by decide +kernel
theorem d_Mo_mark_44 : decode b_Mo_mark 44 = .ok (.ireturn, 1) := by decide +kernel
theorem d_Mo_mark_45 : decode b_Mo_mark 45 = .ok (.aload_n 0, 1) := by decide +kernel
theorem d_Mo_mark_46 : decode b_Mo_mark 46 = .ok (.getfield 7, 3) := by decide +kernel
theorem d_Mo_mark_49 : decode b_Mo_mark 49 = .ok (.iload_n 1, 1) := by decide +kernel
theorem d_Mo_mark_50 : decode b_Mo_mark 50 = .ok (.laload, 1) := by decide +kernel
theorem d_Mo_mark_51 : decode b_Mo_mark 51 = .ok (.lstore_n 3, 1) := by decide +kernel
theorem d_Mo_mark_52 : decode b_Mo_mark 52 = .ok (.iload_n 2, 1) := by decide +kernel
theorem d_Mo_mark_53 : decode b_Mo_mark 53 = .ok (.iconst 3, 1) := by decide +kernel
theorem d_Mo_mark_54 : decode b_Mo_mark 54 = .ok (.if_icmp .ge 13, 3) := by decide +kernel
theorem d_Mo_mark_57 : decode b_Mo_mark 57 = .ok (.lload_n 3, 1) := by decide +kernel
theorem d_Mo_mark_58 : decode b_Mo_mark 58 = .ok (.iconst 2, 1) := by decide +kernel
theorem d_Mo_mark_59 : decode b_Mo_mark 59 = .ok (.iload_n 2, 1) := by decide +kernel
theorem d_Mo_mark_60 : decode b_Mo_mark 60 = .ok (.iadd, 1) := by decide +kernel
theorem d_Mo_mark_61 : decode b_Mo_mark 61 = .ok (.invokestatic 66, 3) := by decide +kernel
theorem d_Mo_mark_64 : decode b_Mo_mark 64 = .ok (.goto 20, 3) := by decide +kernel
theorem d_Mo_mark_67 : decode b_Mo_mark 67 = .ok (.lload_n 3, 1) := by decide +kernel
theorem d_Mo_mark_68 : decode b_Mo_mark 68 = .ok (.iconst 4, 1) := by decide +kernel
theorem d_Mo_mark_69 : decode b_Mo_mark 69 = .ok (.invokestatic 66, 3) := by decide +kernel
theorem d_Mo_mark_72 : decode b_Mo_mark 72 = .ok (.ifCond .ne 7, 3) := by decide +kernel
theorem d_Mo_mark_75 : decode b_Mo_mark 75 = .ok (.iconst (-1), 1) := by decide +kernel
theorem d_Mo_mark_76 : decode b_Mo_mark 76 = .ok (.goto 8, 3) := by decide +kernel
theorem d_Mo_mark_79 : decode b_Mo_mark 79 = .ok (.lload_n 3, 1) := by decide +kernel
theorem d_Mo_mark_80 : decode b_Mo_mark 80 = .ok (.iconst 5, 1) := by decide +kernel
theorem d_Mo_mark_81 : decode b_Mo_mark 81 = .ok (.invokestatic 66, 3) := by decide +kernel
theorem d_Mo_mark_84 : decode b_Mo_mark 84 = .ok (.ireturn, 1) := by decide +kernel
def f_Mo_mark_84  (s0 : Int32) (S : zq_S) : Option (zq_S × Int32) :=
  some (S, s0)
def f_Mo_mark_33  (a0 : Nat) (v1 : Int32) (v2 : Int32) (s0 : Option Nat) (s1 : Int32) (S : zq_S) : Option (zq_S × Int32) :=
  (s0).bind fun a1 =>
  (zs_p S a1 4 0 (.int s1)).bind fun S3 =>
  (zs_gi S3 a0 4 0).bind fun x5 =>
  if x5 ≤ 0 then
    (zs_gr S3 a0 4 4).bind fun x7 =>
    (x7).bind fun a9 =>
    (zs_lal S3 a9 0 v1).bind fun x11 =>
    if (3 : Int32) ≤ v2 then
      zs_b (f_Mo_part x11 (4 : Int32) S3) fun S14 x15 =>
      if x15 = 0 then
        f_Mo_mark_84  (-1 : Int32) S14
      else
        zs_b (f_Mo_part x11 (5 : Int32) S14) fun S17 x18 =>
        f_Mo_mark_84  x18 S17
    else
      zs_b (f_Mo_part x11 ((2 : Int32) + v2) S3) fun S20 x21 =>
      f_Mo_mark_84  x21 S20
  else
    some (S3, (0 : Int32))
def f_Mo_mark (a0 : Nat) (v1 : Int32) (v2 : Int32) (S : zq_S) : Option (zq_S × Int32) :=
  (zs_gi S a0 4 3).bind fun x1 =>
  zs_b (f_Mo_in v1 (0 : Int32) (x1 - (1 : Int32)) S) fun S4 x5 =>
  if x5 = 0 then
    f_Mo_mark_33  a0 v1 v2 (some a0) (1 : Int32) S4
  else
    zs_b (f_Mo_in v2 (0 : Int32) (3 : Int32) S4) fun S7 x8 =>
    if x8 = 0 then
      f_Mo_mark_33  a0 v1 v2 (some a0) (2 : Int32) S7
    else
      f_Mo_mark_33  a0 v1 v2 (some a0) (0 : Int32) S7
set_option maxHeartbeats 4000000 in
set_option maxRecDepth 100000 in
theorem r_Mo_mark_84 {l : Launch} (hl : l.stackTraces = false) {G : zq_G} {S0 T : zq_S} {v : Int32} {X : zq_X} (Z : Z_Mo_mark l G S0 T v X) {s0 : Int32} {S : zq_S} (hf : f_Mo_mark_84  s0 S = some (T, v)) : zq_W (Y_Mo_mark l G S0 T v) X 84 [] [.int s0] S 0 0 := by
  unfold f_Mo_mark_84 at hf
  exact zq_iret Z d_Mo_mark_84 (zs_1 hf) (zs_2 (fun z => (.inl (some (.int z)) : zq_R)) hf) ⟨(Nat.le_of_ble_eq_true rfl), (Nat.le_of_ble_eq_true rfl)⟩
set_option maxHeartbeats 4000000 in
set_option maxRecDepth 100000 in
theorem r_Mo_mark_33 {l : Launch} (hl : l.stackTraces = false) {G : zq_G} {S0 T : zq_S} {v : Int32} {X : zq_X} (Z : Z_Mo_mark l G S0 T v X) {a0 : Nat} {v1 : Int32} {v2 : Int32} {s0 : Option Nat} {s1 : Int32} {S : zq_S} (hf : f_Mo_mark_33  a0 v1 v2 s0 s1 S = some (T, v)) : zq_W (Y_Mo_mark l G S0 T v) X 33 [(0, .ref a0), (1, .int v1), (2, .int v2)] [.int s1, va_rf s0] S 0 0 := by
  unfold f_Mo_mark_33 at hf
  have hq := Option.bind_eq_some_iff.mp hf
  clear hf
  obtain ⟨a1, h2, hf⟩ := hq
  subst h2
  have hq := Option.bind_eq_some_iff.mp hf
  clear hf
  obtain ⟨S3, h4, hf⟩ := hq
  refine zr_puti Z cd_Mo 0 d_Mo_mark_33 (by decide) m_279 rfl (by decide +kernel) h4 ?_
  refine zq_aload_n Z d_Mo_mark_36 0 rfl ?_
  have hq := Option.bind_eq_some_iff.mp hf
  clear hf
  obtain ⟨x5, h6, hf⟩ := hq
  refine zr_geti Z cd_Mo 0 d_Mo_mark_37 (by decide) m_279 h6 ?_
  refine zq_if_le Z 45 d_Mo_mark_40 (by decide) (fun q => ?_) (fun q => ?_)
  · replace hf := zs_T q hf
    refine zq_aload_n Z d_Mo_mark_45 0 rfl ?_
    have hq := Option.bind_eq_some_iff.mp hf
    clear hf
    obtain ⟨x7, h8, hf⟩ := hq
    refine zr_getr Z cd_Mo 4 d_Mo_mark_46 (by decide) m_270 h8 ?_
    refine zq_iload_n Z d_Mo_mark_49 1 rfl ?_
    have hq := Option.bind_eq_some_iff.mp hf
    clear hf
    obtain ⟨a9, h10, hf⟩ := hq
    subst h10
    have hq := Option.bind_eq_some_iff.mp hf
    clear hf
    obtain ⟨x11, h12, hf⟩ := hq
    refine zr_laload Z 0 (fun _ => rfl) d_Mo_mark_50 h12 ?_
    refine zq_lstore_n Z rfl [(3, .long x11), (0, .ref a0), (1, .int v1), (2, .int v2)] d_Mo_mark_51 (by decide) rfl ?_
    refine zq_iload_n Z d_Mo_mark_52 3 rfl ?_
    refine zq_iconst Z (3 : Int32) d_Mo_mark_53 (by decide) ?_
    refine zq_icmp_ge Z 67 d_Mo_mark_54 (by decide) (fun q => ?_) (fun q => ?_)
    · replace hf := zs_T q hf
      refine zq_lload_n Z d_Mo_mark_67 0 rfl ?_
      refine zq_iconst Z (4 : Int32) d_Mo_mark_68 (by decide) ?_
      have hq := zs_bS hf
      clear hf
      obtain ⟨S14, x15, h13, hf⟩ := hq
      refine zq_contR (zq_stepS Z zq_cf1 (c_Mo_part hl h13) d_Mo_mark_69 m_292 m_293 m_294 m_286 p_Mo_part ⟨(Nat.le_of_ble_eq_true rfl), (Nat.le_of_ble_eq_true rfl), (Nat.le_of_ble_eq_true rfl), (Nat.le_of_ble_eq_true rfl)⟩ rfl (Nat.le_of_ble_eq_true rfl)) Z.p ?_
      refine zq_if_ne Z 79 d_Mo_mark_72 (by decide) (fun q => ?_) (fun q => ?_)
      · replace hf := zs_N q hf
        refine zq_lload_n Z d_Mo_mark_79 0 rfl ?_
        refine zq_iconst Z (5 : Int32) d_Mo_mark_80 (by decide) ?_
        have hq := zs_bS hf
        clear hf
        obtain ⟨S17, x18, h16, hf⟩ := hq
        refine zq_contR (zq_stepS Z zq_cf1 (c_Mo_part hl h16) d_Mo_mark_81 m_292 m_293 m_294 m_286 p_Mo_part ⟨(Nat.le_of_ble_eq_true rfl), (Nat.le_of_ble_eq_true rfl), (Nat.le_of_ble_eq_true rfl), (Nat.le_of_ble_eq_true rfl)⟩ rfl (Nat.le_of_ble_eq_true rfl)) Z.p ?_
        refine zq_sub (lo' := []) [] rfl ?_
        exact r_Mo_mark_84 hl Z  hf
      · replace hf := zs_T q hf
        refine zq_iconst Z (-1 : Int32) d_Mo_mark_75 (by decide) ?_
        refine zq_goto Z 84 d_Mo_mark_76 (by decide) ?_
        refine zq_sub (lo' := []) [] rfl ?_
        exact r_Mo_mark_84 hl Z  hf
    · replace hf := zs_N q hf
      refine zq_lload_n Z d_Mo_mark_57 0 rfl ?_
      refine zq_iconst Z (2 : Int32) d_Mo_mark_58 (by decide) ?_
      refine zq_iload_n Z d_Mo_mark_59 3 rfl ?_
      refine zq_iadd Z d_Mo_mark_60 ?_
      have hq := zs_bS hf
      clear hf
      obtain ⟨S20, x21, h19, hf⟩ := hq
      refine zq_contR (zq_stepS Z zq_cf1 (c_Mo_part hl h19) d_Mo_mark_61 m_292 m_293 m_294 m_286 p_Mo_part ⟨(Nat.le_of_ble_eq_true rfl), (Nat.le_of_ble_eq_true rfl), (Nat.le_of_ble_eq_true rfl), (Nat.le_of_ble_eq_true rfl)⟩ rfl (Nat.le_of_ble_eq_true rfl)) Z.p ?_
      refine zq_goto Z 84 d_Mo_mark_64 (by decide) ?_
      refine zq_sub (lo' := []) [] rfl ?_
      exact r_Mo_mark_84 hl Z  hf
  · replace hf := zs_N q hf
    refine zq_iconst Z (0 : Int32) d_Mo_mark_43 (by decide) ?_
    exact zq_iret Z d_Mo_mark_44 (zs_1 hf) (zs_2 (fun z => (.inl (some (.int z)) : zq_R)) hf) ⟨(Nat.le_of_ble_eq_true rfl), (Nat.le_of_ble_eq_true rfl)⟩
set_option maxHeartbeats 4000000 in
set_option maxRecDepth 100000 in
theorem c_Mo_mark {l : Launch} (hl : l.stackTraces = false) {G : zq_G} {a0 : Nat} {v1 : Int32} {v2 : Int32} {S0 T : zq_S} {v : Int32} (hf : f_Mo_mark a0 v1 v2 S0 = some (T, v)) : zq_M l y_Mo_mark (.code y_Mo_mark b_Mo_mark 5 (some (.int))) rm_Mo_mark G [.ref a0, .int v1, .int v2] S0 ((.inl (some (.int v)) : zq_R)) T := by
  refine zq_Mof (lo := [(0, .ref a0), (1, .int v1), (2, .int v2)]) hl (by decide) (Nat.le_of_ble_eq_true rfl) rfl (fun X Z => ?_)
  have Z : Z_Mo_mark l G S0 T v X := Z
  show zq_W (Y_Mo_mark l G S0 T v) X 0 [(0, .ref a0), (1, .int v1), (2, .int v2)] [] S0 0 0
  unfold f_Mo_mark at hf
  refine zq_aload_n Z d_Mo_mark_0 0 rfl ?_
  refine zq_iload_n Z d_Mo_mark_1 1 rfl ?_
  refine zq_iconst Z (0 : Int32) d_Mo_mark_2 (by decide) ?_
  refine zq_aload_n Z d_Mo_mark_3 0 rfl ?_
  have hq := Option.bind_eq_some_iff.mp hf
  clear hf
  obtain ⟨x1, h2, hf⟩ := hq
  refine zr_geti Z cd_Mo 3 d_Mo_mark_4 (by decide) m_288 h2 ?_
  refine zq_iconst Z (1 : Int32) d_Mo_mark_7 (by decide) ?_
  refine zq_isub Z d_Mo_mark_8 ?_
  have hq := zs_bS hf
  clear hf
  obtain ⟨S4, x5, h3, hf⟩ := hq
  refine zq_contR (zq_stepS Z zq_cf1 (c_Mo_in hl h3) d_Mo_mark_9 m_283 m_284 m_285 m_286 p_Mo_in ⟨(Nat.le_of_ble_eq_true rfl), (Nat.le_of_ble_eq_true rfl), (Nat.le_of_ble_eq_true rfl), (Nat.le_of_ble_eq_true rfl)⟩ rfl (Nat.le_of_ble_eq_true rfl)) Z.p ?_
  refine zq_if_ne Z 19 d_Mo_mark_12 (by decide) (fun q => ?_) (fun q => ?_)
  · replace hf := zs_N q hf
    refine zq_iload_n Z d_Mo_mark_19 2 rfl ?_
    refine zq_iconst Z (0 : Int32) d_Mo_mark_20 (by decide) ?_
    refine zq_iconst Z (3 : Int32) d_Mo_mark_21 (by decide) ?_
    have hq := zs_bS hf
    clear hf
    obtain ⟨S7, x8, h6, hf⟩ := hq
    refine zq_contR (zq_stepS Z zq_cf1 (c_Mo_in hl h6) d_Mo_mark_22 m_283 m_284 m_285 m_286 p_Mo_in ⟨(Nat.le_of_ble_eq_true rfl), (Nat.le_of_ble_eq_true rfl), (Nat.le_of_ble_eq_true rfl), (Nat.le_of_ble_eq_true rfl)⟩ rfl (Nat.le_of_ble_eq_true rfl)) Z.p ?_
    refine zq_if_ne Z 32 d_Mo_mark_25 (by decide) (fun q => ?_) (fun q => ?_)
    · replace hf := zs_N q hf
      refine zq_iconst Z (0 : Int32) d_Mo_mark_32 (by decide) ?_
      refine zq_sub (lo' := [(0, .ref a0), (1, .int v1), (2, .int v2)]) [0, 1, 2] rfl ?_
      show zq_W _ _ 33 _ [.int (0 : Int32), va_rf (some a0)] _ _ _
      exact r_Mo_mark_33 hl Z  hf
    · replace hf := zs_T q hf
      refine zq_iconst Z (2 : Int32) d_Mo_mark_28 (by decide) ?_
      refine zq_goto Z 33 d_Mo_mark_29 (by decide) ?_
      refine zq_sub (lo' := [(0, .ref a0), (1, .int v1), (2, .int v2)]) [0, 1, 2] rfl ?_
      show zq_W _ _ 33 _ [.int (2 : Int32), va_rf (some a0)] _ _ _
      exact r_Mo_mark_33 hl Z  hf
  · replace hf := zs_T q hf
    refine zq_iconst Z (1 : Int32) d_Mo_mark_15 (by decide) ?_
    refine zq_goto Z 33 d_Mo_mark_16 (by decide) ?_
    refine zq_sub (lo' := [(0, .ref a0), (1, .int v1), (2, .int v2)]) [0, 1, 2] rfl ?_
    show zq_W _ _ 33 _ [.int (1 : Int32), va_rf (some a0)] _ _ _
    exact r_Mo_mark_33 hl Z  hf
theorem d_Mo_next_0 : decode b_Mo_next 0 = .ok (.aload_n 0, 1) := by decide +kernel
theorem d_Mo_next_1 : decode b_Mo_next 1 = .ok (.aload_n 0, 1) := by decide +kernel
theorem d_Mo_next_2 : decode b_Mo_next 2 = .ok (.iload_n 1, 1) := by decide +kernel
theorem d_Mo_next_3 : decode b_Mo_next 3 = .ok (.invokevirtual 140, 3) := by decide +kernel
theorem d_Mo_next_6 : decode b_Mo_next 6 = .ok (.ifCond .ne 7, 3) := by decide +kernel
theorem d_Mo_next_9 : decode b_Mo_next 9 = .ok (.iconst 1, 1) := by decide +kernel
theorem d_Mo_next_10 : decode b_Mo_next 10 = .ok (.goto 19, 3) := by decide +kernel
theorem d_Mo_next_13 : decode b_Mo_next 13 = .ok (.iload_n 2, 1) := by decide +kernel
theorem d_Mo_next_14 : decode b_Mo_next 14 = .ok (.iconst 1, 1) := by decide +kernel
theorem d_Mo_next_15 : decode b_Mo_next 15 = .ok (.sipush 255, 3) := by decide +kernel
theorem d_Mo_next_18 : decode b_Mo_next 18 = .ok (.invokestatic 43, 3) := by decide +kernel
theorem d_Mo_next_21 : decode b_Mo_next 21 = .ok (.ifCond .ne 7, 3) := by decide +kernel
theorem d_Mo_next_24 : decode b_Mo_next 24 = .ok (.iconst 2, 1) := by decide +kernel
theorem d_Mo_next_25 : decode b_Mo_next 25 = .ok (.goto 4, 3) := by decide +kernel
theorem d_Mo_next_28 : decode b_Mo_next 28 = .ok (.iconst 0, 1) := by decide +kernel
theorem d_Mo_next_29 : decode b_Mo_next 29 = .ok (.putfield 35, 3) := by decide +kernel
theorem d_Mo_next_32 : decode b_Mo_next 32 = .ok (.aload_n 0, 1) := by decide +kernel
theorem d_Mo_next_33 : decode b_Mo_next 33 = .ok (.getfield 35, 3) := by decide +kernel
theorem d_Mo_next_36 : decode b_Mo_next 36 = .ok (.ifCond .le 5, 3) := by decide +kernel
theorem d_Mo_next_39 : decode b_Mo_next 39 = .ok (.iconst 0, 1) := by decide +kernel
theorem d_Mo_next_40 : decode b_Mo_next 40 = .ok (.ireturn, 1) := by decide +kernel
theorem d_Mo_next_41 : decode b_Mo_next 41 = .ok (.iload_n 1, 1) := by decide +kernel
theorem d_Mo_next_42 : decode b_Mo_next 42 = .ok (.istore_n 3, 1) := by decide +kernel
theorem d_Mo_next_43 : decode b_Mo_next 43 = .ok (.iload_n 3, 1) := by decide +kernel
theorem d_Mo_next_44 : decode b_Mo_next 44 = .ok (.aload_n 0, 1) := by decide +kernel
theorem d_Mo_next_45 : decode b_Mo_next 45 = .ok (.getfield 59, 3) := by decide +kernel
theorem d_Mo_next_48 : decode b_Mo_next 48 = .ok (.if_icmp .ge 46, 3) := by decide +kernel
theorem d_Mo_next_51 : decode b_Mo_next 51 = .ok (.aload_n 0, 1) := by decide +kernel
theorem d_Mo_next_52 : decode b_Mo_next 52 = .ok (.getfield 7, 3) := by decide +kernel
theorem d_Mo_next_55 : decode b_Mo_next 55 = .ok (.iload_n 3, 1) := by decide +kernel
theorem d_Mo_next_56 : decode b_Mo_next 56 = .ok (.laload, 1) := by decide +kernel
theorem d_Mo_next_57 : decode b_Mo_next 57 = .ok (.iconst 2, 1) := by decide +kernel
theorem d_Mo_next_58 : decode b_Mo_next 58 = .ok (.invokestatic 66, 3) := by decide +kernel
theorem d_Mo_next_61 : decode b_Mo_next 61 = .ok (.aload_n 0, 1) := by decide +kernel
theorem d_Mo_next_62 : decode b_Mo_next 62 = .ok (.getfield 7, 3) := by decide +kernel
theorem d_Mo_next_65 : decode b_Mo_next 65 = .ok (.iload_n 3, 1) := by decide +kernel
theorem d_Mo_next_66 : decode b_Mo_next 66 = .ok (.laload, 1) := by decide +kernel
theorem d_Mo_next_67 : decode b_Mo_next 67 = .ok (.iconst 3, 1) := by decide +kernel
theorem d_Mo_next_68 : decode b_Mo_next 68 = .ok (.invokestatic 66, 3) := by decide +kernel
theorem d_Mo_next_71 : decode b_Mo_next 71 = .ok (.ior, 1) := by decide +kernel
theorem d_Mo_next_72 : decode b_Mo_next 72 = .ok (.aload_n 0, 1) := by decide +kernel
theorem d_Mo_next_73 : decode b_Mo_next 73 = .ok (.getfield 7, 3) := by decide +kernel
theorem d_Mo_next_76 : decode b_Mo_next 76 = .ok (.iload_n 3, 1) := by decide +kernel
theorem d_Mo_next_77 : decode b_Mo_next 77 = .ok (.laload, 1) := by decide +kernel
theorem d_Mo_next_78 : decode b_Mo_next 78 = .ok (.iconst 4, 1) := by decide +kernel
theorem d_Mo_next_79 : decode b_Mo_next 79 = .ok (.invokestatic 66, 3) := by decide +kernel
theorem d_Mo_next_82 : decode b_Mo_next 82 = .ok (.ior, 1) := by decide +kernel
theorem d_Mo_next_83 : decode b_Mo_next 83 = .ok (.iload_n 2, 1) := by decide +kernel
theorem d_Mo_next_84 : decode b_Mo_next 84 = .ok (.iand, 1) := by decide +kernel
theorem d_Mo_next_85 : decode b_Mo_next 85 = .ok (.ifCond .ne 9, 3) := by decide +kernel
theorem d_Mo_next_88 : decode b_Mo_next 88 = .ok (.iinc 3 1, 3) := by decide +kernel
theorem d_Mo_next_91 : decode b_Mo_next 91 = .ok (.goto (-48), 3) := by decide +kernel
theorem d_Mo_next_94 : decode b_Mo_next 94 = .ok (.iload_n 3, 1) := by decide +kernel
theorem d_Mo_next_95 : decode b_Mo_next 95 = .ok (.aload_n 0, 1) := by decide +kernel
theorem d_Mo_next_96 : decode b_Mo_next 96 = .ok (.getfield 59, 3) := by decide +kernel
theorem d_Mo_next_99 : decode b_Mo_next 99 = .ok (.if_icmp .ge 7, 3) := by decide +kernel
theorem d_Mo_next_102 : decode b_Mo_next 102 = .ok (.iload_n 3, 1) := by decide +kernel
theorem d_Mo_next_103 : decode b_Mo_next 103 = .ok (.goto 4, 3) := by decide +kernel
theorem d_Mo_next_106 : decode b_Mo_next 106 = .ok (.iconst (-1), 1) := by decide +kernel
theorem d_Mo_next_107 : decode b_Mo_next 107 = .ok (.ireturn, 1) := by decide +kernel
def f_Mo_next_107  (s0 : Int32) (S : zq_S) : Option (zq_S × Int32) :=
  some (S, s0)
def f_Mo_next_94  (a0 : Nat) (v3 : Int32) (S : zq_S) : Option (zq_S × Int32) :=
  (zs_gi S a0 4 3).bind fun x1 =>
  if x1 ≤ v3 then
    f_Mo_next_107  (-1 : Int32) S
  else
    f_Mo_next_107  v3 S
def f_Mo_next_43 (k43 : Nat → Int32 → Int32 → zq_S → Option (zq_S × Int32)) (a0 : Nat) (v2 : Int32) (v3 : Int32) (S : zq_S) : Option (zq_S × Int32) :=
  (zs_gi S a0 4 3).bind fun x1 =>
  if x1 ≤ v3 then
    f_Mo_next_94  a0 v3 S
  else
    (zs_gr S a0 4 4).bind fun x3 =>
    (x3).bind fun a5 =>
    (zs_lal S a5 0 v3).bind fun x7 =>
    zs_b (f_Mo_part x7 (2 : Int32) S) fun S10 x11 =>
    (zs_gr S10 a0 4 4).bind fun x12 =>
    (x12).bind fun a14 =>
    (zs_lal S10 a14 0 v3).bind fun x16 =>
    zs_b (f_Mo_part x16 (3 : Int32) S10) fun S19 x20 =>
    (zs_gr S19 a0 4 4).bind fun x21 =>
    (x21).bind fun a23 =>
    (zs_lal S19 a23 0 v3).bind fun x25 =>
    zs_b (f_Mo_part x25 (4 : Int32) S19) fun S28 x29 =>
    if (((x11 ||| x20) ||| x29) &&& v2) = 0 then
      k43 a0 v2 (v3 + (1 : Int32)) S28
    else
      f_Mo_next_94  a0 v3 S28
def g_Mo_next_43  : Nat → Nat → Int32 → Int32 → zq_S → Option (zq_S × Int32)
  | 0 => fun _ _ _ _ => none
  | n + 1 => fun a0 v2 v3 S => f_Mo_next_43  (g_Mo_next_43  n) a0 v2 v3 S
def f_Mo_next_29  (a0 : Nat) (v1 : Int32) (v2 : Int32) (s0 : Option Nat) (s1 : Int32) (S : zq_S) : Option (zq_S × Int32) :=
  (s0).bind fun a1 =>
  (zs_p S a1 4 0 (.int s1)).bind fun S3 =>
  (zs_gi S3 a0 4 0).bind fun x5 =>
  if x5 ≤ 0 then
    g_Mo_next_43  zq_F a0 v2 v1 S3
  else
    some (S3, (0 : Int32))
def f_Mo_next (a0 : Nat) (v1 : Int32) (v2 : Int32) (S : zq_S) : Option (zq_S × Int32) :=
  if zs_is S a0 4 = true then
  zs_b (f_Mo_isPlace a0 v1 S) fun S2 x3 =>
  if x3 = 0 then
    f_Mo_next_29  a0 v1 v2 (some a0) (1 : Int32) S2
  else
    zs_b (f_Mo_in v2 (1 : Int32) (255 : Int32) S2) fun S8 x9 =>
    if x9 = 0 then
      f_Mo_next_29  a0 v1 v2 (some a0) (2 : Int32) S8
    else
      f_Mo_next_29  a0 v1 v2 (some a0) (0 : Int32) S8
  else none
set_option maxHeartbeats 4000000 in
set_option maxRecDepth 100000 in
theorem r_Mo_next_107 {l : Launch} (hl : l.stackTraces = false) {G : zq_G} {S0 T : zq_S} {v : Int32} {X : zq_X} (Z : Z_Mo_next l G S0 T v X) {s0 : Int32} {S : zq_S} (hf : f_Mo_next_107  s0 S = some (T, v)) : zq_W (Y_Mo_next l G S0 T v) X 107 [] [.int s0] S 0 0 := by
  unfold f_Mo_next_107 at hf
  exact zq_iret Z d_Mo_next_107 (zs_1 hf) (zs_2 (fun z => (.inl (some (.int z)) : zq_R)) hf) ⟨(Nat.le_of_ble_eq_true rfl), (Nat.le_of_ble_eq_true rfl)⟩
set_option maxHeartbeats 4000000 in
set_option maxRecDepth 100000 in
theorem r_Mo_next_94 {l : Launch} (hl : l.stackTraces = false) {G : zq_G} {S0 T : zq_S} {v : Int32} {X : zq_X} (Z : Z_Mo_next l G S0 T v X) {a0 : Nat} {v3 : Int32} {S : zq_S} (hf : f_Mo_next_94  a0 v3 S = some (T, v)) : zq_W (Y_Mo_next l G S0 T v) X 94 [(0, .ref a0), (3, .int v3)] [] S 0 0 := by
  unfold f_Mo_next_94 at hf
  refine zq_iload_n Z d_Mo_next_94 1 rfl ?_
  refine zq_aload_n Z d_Mo_next_95 0 rfl ?_
  have hq := Option.bind_eq_some_iff.mp hf
  clear hf
  obtain ⟨x1, h2, hf⟩ := hq
  refine zr_geti Z cd_Mo 3 d_Mo_next_96 (by decide) m_288 h2 ?_
  refine zq_icmp_ge Z 106 d_Mo_next_99 (by decide) (fun q => ?_) (fun q => ?_)
  · replace hf := zs_T q hf
    refine zq_iconst Z (-1 : Int32) d_Mo_next_106 (by decide) ?_
    refine zq_sub (lo' := []) [] rfl ?_
    exact r_Mo_next_107 hl Z  hf
  · replace hf := zs_N q hf
    refine zq_iload_n Z d_Mo_next_102 1 rfl ?_
    refine zq_goto Z 107 d_Mo_next_103 (by decide) ?_
    refine zq_sub (lo' := []) [] rfl ?_
    exact r_Mo_next_107 hl Z  hf
set_option maxHeartbeats 4000000 in
set_option maxRecDepth 100000 in
theorem r_Mo_next_43 {l : Launch} (hl : l.stackTraces = false) {G : zq_G} {S0 T : zq_S} {v : Int32} {X : zq_X} (Z : Z_Mo_next l G S0 T v X) {k43 : Nat → Int32 → Int32 → zq_S → Option (zq_S × Int32)} (hk43 : ∀ (a0 : Nat) (v2 : Int32) (v3 : Int32) (S : zq_S), k43 a0 v2 v3 S = some (T, v) → zq_W (Y_Mo_next l G S0 T v) X 43 [(0, .ref a0), (2, .int v2), (3, .int v3)] [] S 0 0) {a0 : Nat} {v2 : Int32} {v3 : Int32} {S : zq_S} (hf : f_Mo_next_43 k43 a0 v2 v3 S = some (T, v)) : zq_W (Y_Mo_next l G S0 T v) X 43 [(0, .ref a0), (2, .int v2), (3, .int v3)] [] S 0 0 := by
  unfold f_Mo_next_43 at hf
  refine zq_iload_n Z d_Mo_next_43 2 rfl ?_
  refine zq_aload_n Z d_Mo_next_44 0 rfl ?_
  have hq := Option.bind_eq_some_iff.mp hf
  clear hf
  obtain ⟨x1, h2, hf⟩ := hq
  refine zr_geti Z cd_Mo 3 d_Mo_next_45 (by decide) m_288 h2 ?_
  refine zq_icmp_ge Z 94 d_Mo_next_48 (by decide) (fun q => ?_) (fun q => ?_)
  · replace hf := zs_T q hf
    refine zq_sub (lo' := [(0, .ref a0), (3, .int v3)]) [0, 2] rfl ?_
    exact r_Mo_next_94 hl Z  hf
  · replace hf := zs_N q hf
    refine zq_aload_n Z d_Mo_next_51 0 rfl ?_
    have hq := Option.bind_eq_some_iff.mp hf
    clear hf
    obtain ⟨x3, h4, hf⟩ := hq
    refine zr_getr Z cd_Mo 4 d_Mo_next_52 (by decide) m_270 h4 ?_
    refine zq_iload_n Z d_Mo_next_55 2 rfl ?_
    have hq := Option.bind_eq_some_iff.mp hf
    clear hf
    obtain ⟨a5, h6, hf⟩ := hq
    subst h6
    have hq := Option.bind_eq_some_iff.mp hf
    clear hf
    obtain ⟨x7, h8, hf⟩ := hq
    refine zr_laload Z 0 (fun _ => rfl) d_Mo_next_56 h8 ?_
    refine zq_iconst Z (2 : Int32) d_Mo_next_57 (by decide) ?_
    have hq := zs_bS hf
    clear hf
    obtain ⟨S10, x11, h9, hf⟩ := hq
    refine zq_contR (zq_stepS Z zq_cf1 (c_Mo_part hl h9) d_Mo_next_58 m_292 m_293 m_294 m_286 p_Mo_part ⟨(Nat.le_of_ble_eq_true rfl), (Nat.le_of_ble_eq_true rfl), (Nat.le_of_ble_eq_true rfl), (Nat.le_of_ble_eq_true rfl)⟩ rfl (Nat.le_of_ble_eq_true rfl)) Z.p ?_
    refine zq_aload_n Z d_Mo_next_61 0 rfl ?_
    have hq := Option.bind_eq_some_iff.mp hf
    clear hf
    obtain ⟨x12, h13, hf⟩ := hq
    refine zr_getr Z cd_Mo 4 d_Mo_next_62 (by decide) m_270 h13 ?_
    refine zq_iload_n Z d_Mo_next_65 2 rfl ?_
    have hq := Option.bind_eq_some_iff.mp hf
    clear hf
    obtain ⟨a14, h15, hf⟩ := hq
    subst h15
    have hq := Option.bind_eq_some_iff.mp hf
    clear hf
    obtain ⟨x16, h17, hf⟩ := hq
    refine zr_laload Z 0 (fun _ => rfl) d_Mo_next_66 h17 ?_
    refine zq_iconst Z (3 : Int32) d_Mo_next_67 (by decide) ?_
    have hq := zs_bS hf
    clear hf
    obtain ⟨S19, x20, h18, hf⟩ := hq
    refine zq_contR (zq_stepS Z zq_cf1 (c_Mo_part hl h18) d_Mo_next_68 m_292 m_293 m_294 m_286 p_Mo_part ⟨(Nat.le_of_ble_eq_true rfl), (Nat.le_of_ble_eq_true rfl), (Nat.le_of_ble_eq_true rfl), (Nat.le_of_ble_eq_true rfl)⟩ rfl (Nat.le_of_ble_eq_true rfl)) Z.p ?_
    refine zq_ior Z d_Mo_next_71 ?_
    refine zq_aload_n Z d_Mo_next_72 0 rfl ?_
    have hq := Option.bind_eq_some_iff.mp hf
    clear hf
    obtain ⟨x21, h22, hf⟩ := hq
    refine zr_getr Z cd_Mo 4 d_Mo_next_73 (by decide) m_270 h22 ?_
    refine zq_iload_n Z d_Mo_next_76 2 rfl ?_
    have hq := Option.bind_eq_some_iff.mp hf
    clear hf
    obtain ⟨a23, h24, hf⟩ := hq
    subst h24
    have hq := Option.bind_eq_some_iff.mp hf
    clear hf
    obtain ⟨x25, h26, hf⟩ := hq
    refine zr_laload Z 0 (fun _ => rfl) d_Mo_next_77 h26 ?_
    refine zq_iconst Z (4 : Int32) d_Mo_next_78 (by decide) ?_
    have hq := zs_bS hf
    clear hf
    obtain ⟨S28, x29, h27, hf⟩ := hq
    refine zq_contR (zq_stepS Z zq_cf1 (c_Mo_part hl h27) d_Mo_next_79 m_292 m_293 m_294 m_286 p_Mo_part ⟨(Nat.le_of_ble_eq_true rfl), (Nat.le_of_ble_eq_true rfl), (Nat.le_of_ble_eq_true rfl), (Nat.le_of_ble_eq_true rfl)⟩ rfl (Nat.le_of_ble_eq_true rfl)) Z.p ?_
    refine zq_ior Z d_Mo_next_82 ?_
    refine zq_iload_n Z d_Mo_next_83 1 rfl ?_
    refine zq_iand Z d_Mo_next_84 ?_
    refine zq_if_ne Z 94 d_Mo_next_85 (by decide) (fun q => ?_) (fun q => ?_)
    · replace hf := zs_N q hf
      refine zq_sub (lo' := [(0, .ref a0), (3, .int v3)]) [0, 2] rfl ?_
      exact r_Mo_next_94 hl Z  hf
    · replace hf := zs_T q hf
      refine zq_iinc Z (v3 + (1 : Int32)) [(3, .int (v3 + (1 : Int32))), (0, .ref a0), (2, .int v2)] d_Mo_next_88 2 rfl rfl (by decide) rfl ?_
      refine zq_goto Z 43 d_Mo_next_91 (by decide) ?_
      refine zq_sub (lo' := [(0, .ref a0), (2, .int v2), (3, .int (v3 + (1 : Int32)))]) [1, 2, 0] rfl ?_
      exact hk43 _ _ _ _ hf
theorem w_Mo_next_43 {l : Launch} (hl : l.stackTraces = false) {G : zq_G} {S0 T : zq_S} {v : Int32} {X : zq_X} (Z : Z_Mo_next l G S0 T v X) : ∀ (n : Nat) (a0 : Nat) (v2 : Int32) (v3 : Int32) (S : zq_S), g_Mo_next_43  n a0 v2 v3 S = some (T, v) → zq_W (Y_Mo_next l G S0 T v) X 43 [(0, .ref a0), (2, .int v2), (3, .int v3)] [] S 0 0 := by
  intro n
  induction n with
  | zero => intro a0 v2 v3 S hf; cases hf
  | succ n ih =>
    intro a0 v2 v3 S hf
    have hf : f_Mo_next_43  (g_Mo_next_43  n) a0 v2 v3 S = some (T, v) := hf
    exact r_Mo_next_43 hl Z  ih hf
set_option maxHeartbeats 4000000 in
set_option maxRecDepth 100000 in
theorem r_Mo_next_29 {l : Launch} (hl : l.stackTraces = false) {G : zq_G} {S0 T : zq_S} {v : Int32} {X : zq_X} (Z : Z_Mo_next l G S0 T v X) {a0 : Nat} {v1 : Int32} {v2 : Int32} {s0 : Option Nat} {s1 : Int32} {S : zq_S} (hf : f_Mo_next_29  a0 v1 v2 s0 s1 S = some (T, v)) : zq_W (Y_Mo_next l G S0 T v) X 29 [(0, .ref a0), (1, .int v1), (2, .int v2)] [.int s1, va_rf s0] S 0 0 := by
  unfold f_Mo_next_29 at hf
  have hq := Option.bind_eq_some_iff.mp hf
  clear hf
  obtain ⟨a1, h2, hf⟩ := hq
  subst h2
  have hq := Option.bind_eq_some_iff.mp hf
  clear hf
  obtain ⟨S3, h4, hf⟩ := hq
  refine zr_puti Z cd_Mo 0 d_Mo_next_29 (by decide) m_279 rfl (by decide +kernel) h4 ?_
  refine zq_aload_n Z d_Mo_next_32 0 rfl ?_
  have hq := Option.bind_eq_some_iff.mp hf
  clear hf
  obtain ⟨x5, h6, hf⟩ := hq
  refine zr_geti Z cd_Mo 0 d_Mo_next_33 (by decide) m_279 h6 ?_
  refine zq_if_le Z 41 d_Mo_next_36 (by decide) (fun q => ?_) (fun q => ?_)
  · replace hf := zs_T q hf
    refine zq_iload_n Z d_Mo_next_41 1 rfl ?_
    refine zq_istore_n Z rfl [(3, .int v1), (0, .ref a0), (1, .int v1), (2, .int v2)] d_Mo_next_42 (by decide) rfl ?_
    refine zq_sub (lo' := [(0, .ref a0), (2, .int v2), (3, .int v1)]) [1, 3, 0] rfl ?_
    exact w_Mo_next_43 hl Z  _ _ _ _ _ hf
  · replace hf := zs_N q hf
    refine zq_iconst Z (0 : Int32) d_Mo_next_39 (by decide) ?_
    exact zq_iret Z d_Mo_next_40 (zs_1 hf) (zs_2 (fun z => (.inl (some (.int z)) : zq_R)) hf) ⟨(Nat.le_of_ble_eq_true rfl), (Nat.le_of_ble_eq_true rfl)⟩
set_option maxHeartbeats 4000000 in
set_option maxRecDepth 100000 in
theorem c_Mo_next {l : Launch} (hl : l.stackTraces = false) {G : zq_G} {a0 : Nat} {v1 : Int32} {v2 : Int32} {S0 T : zq_S} {v : Int32} (hf : f_Mo_next a0 v1 v2 S0 = some (T, v)) : zq_M l y_Mo_next (.code y_Mo_next b_Mo_next 4 (some (.int))) rm_Mo_next G [.ref a0, .int v1, .int v2] S0 ((.inl (some (.int v)) : zq_R)) T := by
  refine zq_Mof (lo := [(0, .ref a0), (1, .int v1), (2, .int v2)]) hl (by decide) (Nat.le_of_ble_eq_true rfl) rfl (fun X Z => ?_)
  have Z : Z_Mo_next l G S0 T v X := Z
  show zq_W (Y_Mo_next l G S0 T v) X 0 [(0, .ref a0), (1, .int v1), (2, .int v2)] [] S0 0 0
  unfold f_Mo_next at hf
  refine zq_aload_n Z d_Mo_next_0 0 rfl ?_
  refine zq_aload_n Z d_Mo_next_1 0 rfl ?_
  refine zq_iload_n Z d_Mo_next_2 1 rfl ?_
  have hq := zs_C hf
  clear hf
  obtain ⟨h4, hf⟩ := hq
  obtain ⟨fs5, e6⟩ := zs_isS h4
  have hq := zs_bS hf
  clear hf
  obtain ⟨S2, x3, h1, hf⟩ := hq
  refine zq_contR (zq_stepV Z zq_cf1 (c_Mo_isPlace hl h1) 4 rfl e6 d_Mo_next_3 m_357 m_359 m_360 m_358 m_286 p_Mo_isPlace ⟨(Nat.le_of_ble_eq_true rfl), (Nat.le_of_ble_eq_true rfl), (Nat.le_of_ble_eq_true rfl), (Nat.le_of_ble_eq_true rfl)⟩ rfl (Nat.le_of_ble_eq_true rfl)) Z.p ?_
  refine zq_if_ne Z 13 d_Mo_next_6 (by decide) (fun q => ?_) (fun q => ?_)
  · replace hf := zs_N q hf
    refine zq_iload_n Z d_Mo_next_13 2 rfl ?_
    refine zq_iconst Z (1 : Int32) d_Mo_next_14 (by decide) ?_
    refine zq_sipush Z (255 : Int32) d_Mo_next_15 (by decide) ?_
    have hq := zs_bS hf
    clear hf
    obtain ⟨S8, x9, h7, hf⟩ := hq
    refine zq_contR (zq_stepS Z zq_cf1 (c_Mo_in hl h7) d_Mo_next_18 m_283 m_284 m_285 m_286 p_Mo_in ⟨(Nat.le_of_ble_eq_true rfl), (Nat.le_of_ble_eq_true rfl), (Nat.le_of_ble_eq_true rfl), (Nat.le_of_ble_eq_true rfl)⟩ rfl (Nat.le_of_ble_eq_true rfl)) Z.p ?_
    refine zq_if_ne Z 28 d_Mo_next_21 (by decide) (fun q => ?_) (fun q => ?_)
    · replace hf := zs_N q hf
      refine zq_iconst Z (0 : Int32) d_Mo_next_28 (by decide) ?_
      refine zq_sub (lo' := [(0, .ref a0), (1, .int v1), (2, .int v2)]) [0, 1, 2] rfl ?_
      show zq_W _ _ 29 _ [.int (0 : Int32), va_rf (some a0)] _ _ _
      exact r_Mo_next_29 hl Z  hf
    · replace hf := zs_T q hf
      refine zq_iconst Z (2 : Int32) d_Mo_next_24 (by decide) ?_
      refine zq_goto Z 29 d_Mo_next_25 (by decide) ?_
      refine zq_sub (lo' := [(0, .ref a0), (1, .int v1), (2, .int v2)]) [0, 1, 2] rfl ?_
      show zq_W _ _ 29 _ [.int (2 : Int32), va_rf (some a0)] _ _ _
      exact r_Mo_next_29 hl Z  hf
  · replace hf := zs_T q hf
    refine zq_iconst Z (1 : Int32) d_Mo_next_9 (by decide) ?_
    refine zq_goto Z 29 d_Mo_next_10 (by decide) ?_
    refine zq_sub (lo' := [(0, .ref a0), (1, .int v1), (2, .int v2)]) [0, 1, 2] rfl ?_
    show zq_W _ _ 29 _ [.int (1 : Int32), va_rf (some a0)] _ _ _
    exact r_Mo_next_29 hl Z  hf
theorem d_Mo_alike_0 : decode b_Mo_alike 0 = .ok (.aload_n 0, 1) := by decide +kernel
theorem d_Mo_alike_1 : decode b_Mo_alike 1 = .ok (.getfield 7, 3) := by decide +kernel
theorem d_Mo_alike_4 : decode b_Mo_alike 4 = .ok (.iload_n 1, 1) := by decide +kernel
theorem d_Mo_alike_5 : decode b_Mo_alike 5 = .ok (.laload, 1) := by decide +kernel
theorem d_Mo_alike_6 : decode b_Mo_alike 6 = .ok (.bipush 16, 2) := by decide +kernel
theorem d_Mo_alike_8 : decode b_Mo_alike 8 = .ok (.lshr, 1) := by decide +kernel
theorem d_Mo_alike_9 : decode b_Mo_alike 9 = .ok (.aload_n 0, 1) := by decide +kernel
theorem d_Mo_alike_10 : decode b_Mo_alike 10 = .ok (.getfield 7, 3) := by decide +kernel
theorem d_Mo_alike_13 : decode b_Mo_alike 13 = .ok (.iload_n 2, 1) := by decide +kernel
theorem d_Mo_alike_14 : decode b_Mo_alike 14 = .ok (.laload, 1) := by decide +kernel
theorem d_Mo_alike_15 : decode b_Mo_alike 15 = .ok (.bipush 16, 2) := by decide +kernel
theorem d_Mo_alike_17 : decode b_Mo_alike 17 = .ok (.lshr, 1) := by decide +kernel
theorem d_Mo_alike_18 : decode b_Mo_alike 18 = .ok (.lcmp, 1) := by decide +kernel
theorem d_Mo_alike_19 : decode b_Mo_alike 19 = .ok (.ifCond .ne 7, 3) := by decide +kernel
theorem d_Mo_alike_22 : decode b_Mo_alike 22 = .ok (.iconst 1, 1) := by decide +kernel
theorem d_Mo_alike_23 : decode b_Mo_alike 23 = .ok (.goto 4, 3) := by decide +kernel
theorem d_Mo_alike_26 : decode b_Mo_alike 26 = .ok (.iconst 0, 1) := by decide +kernel
theorem d_Mo_alike_27 : decode b_Mo_alike 27 = .ok (.ireturn, 1) := by decide +kernel
def f_Mo_alike_27  (s0 : Int32) (S : zq_S) : Option (zq_S × Int32) :=
  if s0 = 0 ∨ s0 = 1 then some (S, s0) else none
def f_Mo_alike (a0 : Nat) (v1 : Int32) (v2 : Int32) (S : zq_S) : Option (zq_S × Int32) :=
  (zs_gr S a0 4 4).bind fun x1 =>
  (x1).bind fun a3 =>
  (zs_lal S a3 0 v1).bind fun x5 =>
  (zs_gr S a0 4 4).bind fun x7 =>
  (x7).bind fun a9 =>
  (zs_lal S a9 0 v2).bind fun x11 =>
  if (lg_cmp (zf_lshr x5 (16 : Int32)) (zf_lshr x11 (16 : Int32))) = 0 then
    f_Mo_alike_27  (1 : Int32) S
  else
    f_Mo_alike_27  (0 : Int32) S
set_option maxHeartbeats 4000000 in
set_option maxRecDepth 100000 in
theorem r_Mo_alike_27 {l : Launch} (hl : l.stackTraces = false) {G : zq_G} {S0 T : zq_S} {v : Int32} {X : zq_X} (Z : Z_Mo_alike l G S0 T v X) {s0 : Int32} {S : zq_S} (hf : f_Mo_alike_27  s0 S = some (T, v)) : zq_W (Y_Mo_alike l G S0 T v) X 27 [] [.int s0] S 0 0 := by
  unfold f_Mo_alike_27 at hf
  have hq := zs_C hf
  clear hf
  obtain ⟨h1, hf⟩ := hq
  exact zq_zret Z d_Mo_alike_27 h1 (zs_1 hf) (zs_2 (fun z => (.inl (some (.int z)) : zq_R)) hf) ⟨(Nat.le_of_ble_eq_true rfl), (Nat.le_of_ble_eq_true rfl)⟩
set_option maxHeartbeats 4000000 in
set_option maxRecDepth 100000 in
theorem c_Mo_alike {l : Launch} (hl : l.stackTraces = false) {G : zq_G} {a0 : Nat} {v1 : Int32} {v2 : Int32} {S0 T : zq_S} {v : Int32} (hf : f_Mo_alike a0 v1 v2 S0 = some (T, v)) : zq_M l y_Mo_alike (.code y_Mo_alike b_Mo_alike 3 (some (.boolean))) rm_Mo_alike G [.ref a0, .int v1, .int v2] S0 ((.inl (some (.int v)) : zq_R)) T := by
  refine zq_Mof (lo := [(0, .ref a0), (1, .int v1), (2, .int v2)]) hl (by decide) (Nat.le_of_ble_eq_true rfl) rfl (fun X Z => ?_)
  have Z : Z_Mo_alike l G S0 T v X := Z
  show zq_W (Y_Mo_alike l G S0 T v) X 0 [(0, .ref a0), (1, .int v1), (2, .int v2)] [] S0 0 0
  unfold f_Mo_alike at hf
  refine zq_aload_n Z d_Mo_alike_0 0 rfl ?_
  have hq := Option.bind_eq_some_iff.mp hf
  clear hf
  obtain ⟨x1, h2, hf⟩ := hq
  refine zr_getr Z cd_Mo 4 d_Mo_alike_1 (by decide) m_270 h2 ?_
  refine zq_iload_n Z d_Mo_alike_4 1 rfl ?_
  have hq := Option.bind_eq_some_iff.mp hf
  clear hf
  obtain ⟨a3, h4, hf⟩ := hq
  subst h4
  have hq := Option.bind_eq_some_iff.mp hf
  clear hf
  obtain ⟨x5, h6, hf⟩ := hq
  refine zr_laload Z 0 (fun _ => rfl) d_Mo_alike_5 h6 ?_
  refine zq_bipush Z (16 : Int32) d_Mo_alike_6 (by decide) ?_
  refine zq_lshr Z d_Mo_alike_8 ?_
  refine zq_aload_n Z d_Mo_alike_9 0 rfl ?_
  have hq := Option.bind_eq_some_iff.mp hf
  clear hf
  obtain ⟨x7, h8, hf⟩ := hq
  refine zr_getr Z cd_Mo 4 d_Mo_alike_10 (by decide) m_270 h8 ?_
  refine zq_iload_n Z d_Mo_alike_13 2 rfl ?_
  have hq := Option.bind_eq_some_iff.mp hf
  clear hf
  obtain ⟨a9, h10, hf⟩ := hq
  subst h10
  have hq := Option.bind_eq_some_iff.mp hf
  clear hf
  obtain ⟨x11, h12, hf⟩ := hq
  refine zr_laload Z 0 (fun _ => rfl) d_Mo_alike_14 h12 ?_
  refine zq_bipush Z (16 : Int32) d_Mo_alike_15 (by decide) ?_
  refine zq_lshr Z d_Mo_alike_17 ?_
  refine zq_lcmp Z d_Mo_alike_18 ?_
  refine zq_if_ne Z 26 d_Mo_alike_19 (by decide) (fun q => ?_) (fun q => ?_)
  · replace hf := zs_N q hf
    refine zq_iconst Z (0 : Int32) d_Mo_alike_26 (by decide) ?_
    refine zq_sub (lo' := []) [] rfl ?_
    exact r_Mo_alike_27 hl Z  hf
  · replace hf := zs_T q hf
    refine zq_iconst Z (1 : Int32) d_Mo_alike_22 (by decide) ?_
    refine zq_goto Z 27 d_Mo_alike_23 (by decide) ?_
    refine zq_sub (lo' := []) [] rfl ?_
    exact r_Mo_alike_27 hl Z  hf
theorem d_Mo_marks_0 : decode b_Mo_marks 0 = .ok (.iconst 0, 1) := by decide +kernel
theorem d_Mo_marks_1 : decode b_Mo_marks 1 = .ok (.istore_n 2, 1) := by decide +kernel
theorem d_Mo_marks_2 : decode b_Mo_marks 2 = .ok (.iconst 0, 1) := by decide +kernel
theorem d_Mo_marks_3 : decode b_Mo_marks 3 = .ok (.istore_n 3, 1) := by decide +kernel
theorem d_Mo_marks_4 : decode b_Mo_marks 4 = .ok (.iload_n 3, 1) := by decide +kernel
theorem d_Mo_marks_5 : decode b_Mo_marks 5 = .ok (.aload_n 0, 1) := by decide +kernel
theorem d_Mo_marks_6 : decode b_Mo_marks 6 = .ok (.getfield 59, 3) := by decide +kernel
theorem d_Mo_marks_9 : decode b_Mo_marks 9 = .ok (.if_icmp .ge 94, 3) := by decide +kernel
theorem d_Mo_marks_12 : decode b_Mo_marks 12 = .ok (.aload_n 0, 1) := by decide +kernel
theorem d_Mo_marks_13 : decode b_Mo_marks 13 = .ok (.getfield 7, 3) := by decide +kernel
theorem d_Mo_marks_16 : decode b_Mo_marks 16 = .ok (.iload_n 3, 1) := by decide +kernel
theorem d_Mo_marks_17 : decode b_Mo_marks 17 = .ok (.laload, 1) := by decide +kernel
theorem d_Mo_marks_18 : decode b_Mo_marks 18 = .ok (.bipush 16, 2) := by decide +kernel
theorem d_Mo_marks_20 : decode b_Mo_marks 20 = .ok (.lshr, 1) := by decide +kernel
theorem d_Mo_marks_21 : decode b_Mo_marks 21 = .ok (.lconst 0, 1) := by decide +kernel
theorem d_Mo_marks_22 : decode b_Mo_marks 22 = .ok (.lcmp, 1) := by decide +kernel
theorem d_Mo_marks_23 : decode b_Mo_marks 23 = .ok (.ifCond .ne 6, 3) := by decide +kernel
theorem d_Mo_marks_26 : decode b_Mo_marks 26 = .ok (.goto 71, 3) := by decide +kernel
theorem d_Mo_marks_29 : decode b_Mo_marks 29 = .ok (.iconst 1, 1) := by decide +kernel
theorem d_Mo_marks_30 : decode b_Mo_marks 30 = .ok (.istore 4, 2) := by decide +kernel
theorem d_Mo_marks_32 : decode b_Mo_marks 32 = .ok (.iload_n 1, 1) := by decide +kernel
theorem d_Mo_marks_33 : decode b_Mo_marks 33 = .ok (.ifCond .eq 9, 3) := by decide +kernel
theorem d_Mo_marks_36 : decode b_Mo_marks 36 = .ok (.iload_n 3, 1) := by decide +kernel
theorem d_Mo_marks_37 : decode b_Mo_marks 37 = .ok (.iconst 1, 1) := by decide +kernel
theorem d_Mo_marks_38 : decode b_Mo_marks 38 = .ok (.isub, 1) := by decide +kernel
theorem d_Mo_marks_39 : decode b_Mo_marks 39 = .ok (.goto 4, 3) := by decide +kernel
theorem d_Mo_marks_42 : decode b_Mo_marks 42 = .ok (.iconst 0, 1) := by decide +kernel
theorem d_Mo_marks_43 : decode b_Mo_marks 43 = .ok (.istore 5, 2) := by decide +kernel
theorem d_Mo_marks_45 : decode b_Mo_marks 45 = .ok (.iload 5, 2) := by decide +kernel
theorem d_Mo_marks_47 : decode b_Mo_marks 47 = .ok (.iload_n 3, 1) := by decide +kernel
theorem d_Mo_marks_48 : decode b_Mo_marks 48 = .ok (.if_icmp .ge 36, 3) := by decide +kernel
theorem d_Mo_marks_51 : decode b_Mo_marks 51 = .ok (.iload 4, 2) := by decide +kernel
theorem d_Mo_marks_53 : decode b_Mo_marks 53 = .ok (.ifCond .eq 22, 3) := by decide +kernel
theorem d_Mo_marks_56 : decode b_Mo_marks 56 = .ok (.iload 5, 2) := by decide +kernel
theorem d_Mo_marks_58 : decode b_Mo_marks 58 = .ok (.ifCond .lt 13, 3) := by decide +kernel
theorem d_Mo_marks_61 : decode b_Mo_marks 61 = .ok (.aload_n 0, 1) := by decide +kernel
theorem d_Mo_marks_62 : decode b_Mo_marks 62 = .ok (.iload_n 3, 1) := by decide +kernel
theorem d_Mo_marks_63 : decode b_Mo_marks 63 = .ok (.iload 5, 2) := by decide +kernel
theorem d_Mo_marks_65 : decode b_Mo_marks 65 = .ok (.invokevirtual 162, 3) := by decide +kernel
theorem d_Mo_marks_68 : decode b_Mo_marks 68 = .ok (.ifCond .ne 7, 3) := by decide +kernel
theorem d_Mo_marks_71 : decode b_Mo_marks 71 = .ok (.iconst 1, 1) := by decide +kernel
theorem d_Mo_marks_72 : decode b_Mo_marks 72 = .ok (.goto 4, 3) := by decide +kernel
theorem d_Mo_marks_75 : decode b_Mo_marks 75 = .ok (.iconst 0, 1) := by decide +kernel
theorem d_Mo_marks_76 : decode b_Mo_marks 76 = .ok (.istore 4, 2) := by decide +kernel
theorem d_Mo_marks_78 : decode b_Mo_marks 78 = .ok (.iinc 5 1, 3) := by decide +kernel
theorem d_Mo_marks_81 : decode b_Mo_marks 81 = .ok (.goto (-36), 3) := by decide +kernel
theorem d_Mo_marks_84 : decode b_Mo_marks 84 = .ok (.iload_n 2, 1) := by decide +kernel
theorem d_Mo_marks_85 : decode b_Mo_marks 85 = .ok (.iload 4, 2) := by decide +kernel
theorem d_Mo_marks_87 : decode b_Mo_marks 87 = .ok (.ifCond .eq 7, 3) := by decide +kernel
theorem d_Mo_marks_90 : decode b_Mo_marks 90 = .ok (.iconst 1, 1) := by decide +kernel
theorem d_Mo_marks_91 : decode b_Mo_marks 91 = .ok (.goto 4, 3) := by decide +kernel
theorem d_Mo_marks_94 : decode b_Mo_marks 94 = .ok (.iconst 0, 1) := by decide +kernel
theorem d_Mo_marks_95 : decode b_Mo_marks 95 = .ok (.iadd, 1) := by decide +kernel
theorem d_Mo_marks_96 : decode b_Mo_marks 96 = .ok (.istore_n 2, 1) := by decide +kernel
theorem d_Mo_marks_97 : decode b_Mo_marks 97 = .ok (.iinc 3 1, 3) := by decide +kernel
theorem d_Mo_marks_100 : decode b_Mo_marks 100 = .ok (.goto (-96), 3) := by decide +kernel
theorem d_Mo_marks_103 : decode b_Mo_marks 103 = .ok (.iload_n 2, 1) := by decide +kernel
theorem d_Mo_marks_104 : decode b_Mo_marks 104 = .ok (.ireturn, 1) := by decide +kernel
def f_Mo_marks_97 (k4 : Nat → Int32 → Int32 → Int32 → zq_S → Option (zq_S × Int32)) (a0 : Nat) (v1 : Int32) (v2 : Int32) (v3 : Int32) (S : zq_S) : Option (zq_S × Int32) :=
  k4 a0 v1 v2 (v3 + (1 : Int32)) S
def f_Mo_marks_95 (k4 : Nat → Int32 → Int32 → Int32 → zq_S → Option (zq_S × Int32)) (a0 : Nat) (v1 : Int32) (v3 : Int32) (s0 : Int32) (s1 : Int32) (S : zq_S) : Option (zq_S × Int32) :=
  f_Mo_marks_97 k4 a0 v1 (s0 + s1) v3 S
def f_Mo_marks_76 (k4 : Nat → Int32 → Int32 → Int32 → zq_S → Option (zq_S × Int32)) (k45 : Nat → Int32 → Int32 → Int32 → Int32 → Int32 → zq_S → Option (zq_S × Int32)) (a0 : Nat) (v1 : Int32) (v2 : Int32) (v3 : Int32) (v5 : Int32) (s0 : Int32) (S : zq_S) : Option (zq_S × Int32) :=
  k45 a0 v1 v2 v3 s0 (v5 + (1 : Int32)) S
def f_Mo_marks_75 (k4 : Nat → Int32 → Int32 → Int32 → zq_S → Option (zq_S × Int32)) (k45 : Nat → Int32 → Int32 → Int32 → Int32 → Int32 → zq_S → Option (zq_S × Int32)) (a0 : Nat) (v1 : Int32) (v2 : Int32) (v3 : Int32) (v5 : Int32) (S : zq_S) : Option (zq_S × Int32) :=
  f_Mo_marks_76 k4 k45 a0 v1 v2 v3 v5 (0 : Int32) S
def f_Mo_marks_71 (k4 : Nat → Int32 → Int32 → Int32 → zq_S → Option (zq_S × Int32)) (k45 : Nat → Int32 → Int32 → Int32 → Int32 → Int32 → zq_S → Option (zq_S × Int32)) (a0 : Nat) (v1 : Int32) (v2 : Int32) (v3 : Int32) (v5 : Int32) (S : zq_S) : Option (zq_S × Int32) :=
  f_Mo_marks_76 k4 k45 a0 v1 v2 v3 v5 (1 : Int32) S
def f_Mo_marks_45 (k4 : Nat → Int32 → Int32 → Int32 → zq_S → Option (zq_S × Int32)) (k45 : Nat → Int32 → Int32 → Int32 → Int32 → Int32 → zq_S → Option (zq_S × Int32)) (a0 : Nat) (v1 : Int32) (v2 : Int32) (v3 : Int32) (v4 : Int32) (v5 : Int32) (S : zq_S) : Option (zq_S × Int32) :=
  if v3 ≤ v5 then
    if v4 = 0 then
      f_Mo_marks_95 k4 a0 v1 v3 v2 (0 : Int32) S
    else
      f_Mo_marks_95 k4 a0 v1 v3 v2 (1 : Int32) S
  else
    if v4 = 0 then
      f_Mo_marks_75 k4 k45 a0 v1 v2 v3 v5 S
    else
      if v5 < 0 then
        f_Mo_marks_71 k4 k45 a0 v1 v2 v3 v5 S
      else
        if zs_is S a0 4 = true then
        zs_b (f_Mo_alike a0 v3 v5 S) fun S2 x3 =>
        if x3 = 0 then
          f_Mo_marks_71 k4 k45 a0 v1 v2 v3 v5 S2
        else
          f_Mo_marks_75 k4 k45 a0 v1 v2 v3 v5 S2
        else none
def g_Mo_marks_45 (k4 : Nat → Int32 → Int32 → Int32 → zq_S → Option (zq_S × Int32)) : Nat → Nat → Int32 → Int32 → Int32 → Int32 → Int32 → zq_S → Option (zq_S × Int32)
  | 0 => fun _ _ _ _ _ _ _ => none
  | n + 1 => fun a0 v1 v2 v3 v4 v5 S => f_Mo_marks_45 k4 (g_Mo_marks_45 k4 n) a0 v1 v2 v3 v4 v5 S
def f_Mo_marks_43 (k4 : Nat → Int32 → Int32 → Int32 → zq_S → Option (zq_S × Int32)) (a0 : Nat) (v1 : Int32) (v2 : Int32) (v3 : Int32) (v4 : Int32) (s0 : Int32) (S : zq_S) : Option (zq_S × Int32) :=
  g_Mo_marks_45 k4 zq_F a0 v1 v2 v3 v4 s0 S
def f_Mo_marks_4 (k4 : Nat → Int32 → Int32 → Int32 → zq_S → Option (zq_S × Int32)) (a0 : Nat) (v1 : Int32) (v2 : Int32) (v3 : Int32) (S : zq_S) : Option (zq_S × Int32) :=
  (zs_gi S a0 4 3).bind fun x1 =>
  if x1 ≤ v3 then
    some (S, v2)
  else
    (zs_gr S a0 4 4).bind fun x3 =>
    (x3).bind fun a5 =>
    (zs_lal S a5 0 v3).bind fun x7 =>
    if (lg_cmp (zf_lshr x7 (16 : Int32)) (0 : Int64)) = 0 then
      f_Mo_marks_97 k4 a0 v1 v2 v3 S
    else
      if v1 = 0 then
        f_Mo_marks_43 k4 a0 v1 v2 v3 (1 : Int32) (0 : Int32) S
      else
        f_Mo_marks_43 k4 a0 v1 v2 v3 (1 : Int32) (v3 - (1 : Int32)) S
def g_Mo_marks_4  : Nat → Nat → Int32 → Int32 → Int32 → zq_S → Option (zq_S × Int32)
  | 0 => fun _ _ _ _ _ => none
  | n + 1 => fun a0 v1 v2 v3 S => f_Mo_marks_4  (g_Mo_marks_4  n) a0 v1 v2 v3 S
def f_Mo_marks (a0 : Nat) (v1 : Int32) (S : zq_S) : Option (zq_S × Int32) :=
  g_Mo_marks_4  zq_F a0 v1 (0 : Int32) (0 : Int32) S
set_option maxHeartbeats 4000000 in
set_option maxRecDepth 100000 in
theorem r_Mo_marks_97 {l : Launch} (hl : l.stackTraces = false) {G : zq_G} {S0 T : zq_S} {v : Int32} {X : zq_X} (Z : Z_Mo_marks l G S0 T v X) {k4 : Nat → Int32 → Int32 → Int32 → zq_S → Option (zq_S × Int32)} (hk4 : ∀ (a0 : Nat) (v1 : Int32) (v2 : Int32) (v3 : Int32) (S : zq_S), k4 a0 v1 v2 v3 S = some (T, v) → zq_W (Y_Mo_marks l G S0 T v) X 4 [(0, .ref a0), (1, .int v1), (2, .int v2), (3, .int v3)] [] S 0 0) {a0 : Nat} {v1 : Int32} {v2 : Int32} {v3 : Int32} {S : zq_S} (hf : f_Mo_marks_97 k4 a0 v1 v2 v3 S = some (T, v)) : zq_W (Y_Mo_marks l G S0 T v) X 97 [(0, .ref a0), (1, .int v1), (2, .int v2), (3, .int v3)] [] S 0 0 := by
  unfold f_Mo_marks_97 at hf
  refine zq_iinc Z (v3 + (1 : Int32)) [(3, .int (v3 + (1 : Int32))), (0, .ref a0), (1, .int v1), (2, .int v2)] d_Mo_marks_97 3 rfl rfl (by decide) rfl ?_
  refine zq_goto Z 4 d_Mo_marks_100 (by decide) ?_
  refine zq_sub (lo' := [(0, .ref a0), (1, .int v1), (2, .int v2), (3, .int (v3 + (1 : Int32)))]) [1, 2, 3, 0] rfl ?_
  exact hk4 _ _ _ _ _ hf
set_option maxHeartbeats 4000000 in
set_option maxRecDepth 100000 in
theorem r_Mo_marks_95 {l : Launch} (hl : l.stackTraces = false) {G : zq_G} {S0 T : zq_S} {v : Int32} {X : zq_X} (Z : Z_Mo_marks l G S0 T v X) {k4 : Nat → Int32 → Int32 → Int32 → zq_S → Option (zq_S × Int32)} (hk4 : ∀ (a0 : Nat) (v1 : Int32) (v2 : Int32) (v3 : Int32) (S : zq_S), k4 a0 v1 v2 v3 S = some (T, v) → zq_W (Y_Mo_marks l G S0 T v) X 4 [(0, .ref a0), (1, .int v1), (2, .int v2), (3, .int v3)] [] S 0 0) {a0 : Nat} {v1 : Int32} {v3 : Int32} {s0 : Int32} {s1 : Int32} {S : zq_S} (hf : f_Mo_marks_95 k4 a0 v1 v3 s0 s1 S = some (T, v)) : zq_W (Y_Mo_marks l G S0 T v) X 95 [(0, .ref a0), (1, .int v1), (3, .int v3)] [.int s1, .int s0] S 0 0 := by
  unfold f_Mo_marks_95 at hf
  refine zq_iadd Z d_Mo_marks_95 ?_
  refine zq_istore_n Z rfl [(2, .int (s0 + s1)), (0, .ref a0), (1, .int v1), (3, .int v3)] d_Mo_marks_96 (by decide) rfl ?_
  refine zq_sub (lo' := [(0, .ref a0), (1, .int v1), (2, .int (s0 + s1)), (3, .int v3)]) [1, 2, 0, 3] rfl ?_
  exact r_Mo_marks_97 hl Z hk4 hf
set_option maxHeartbeats 4000000 in
set_option maxRecDepth 100000 in
theorem r_Mo_marks_76 {l : Launch} (hl : l.stackTraces = false) {G : zq_G} {S0 T : zq_S} {v : Int32} {X : zq_X} (Z : Z_Mo_marks l G S0 T v X) {k4 : Nat → Int32 → Int32 → Int32 → zq_S → Option (zq_S × Int32)} (hk4 : ∀ (a0 : Nat) (v1 : Int32) (v2 : Int32) (v3 : Int32) (S : zq_S), k4 a0 v1 v2 v3 S = some (T, v) → zq_W (Y_Mo_marks l G S0 T v) X 4 [(0, .ref a0), (1, .int v1), (2, .int v2), (3, .int v3)] [] S 0 0) {k45 : Nat → Int32 → Int32 → Int32 → Int32 → Int32 → zq_S → Option (zq_S × Int32)} (hk45 : ∀ (a0 : Nat) (v1 : Int32) (v2 : Int32) (v3 : Int32) (v4 : Int32) (v5 : Int32) (S : zq_S), k45 a0 v1 v2 v3 v4 v5 S = some (T, v) → zq_W (Y_Mo_marks l G S0 T v) X 45 [(0, .ref a0), (1, .int v1), (2, .int v2), (3, .int v3), (4, .int v4), (5, .int v5)] [] S 0 0) {a0 : Nat} {v1 : Int32} {v2 : Int32} {v3 : Int32} {v5 : Int32} {s0 : Int32} {S : zq_S} (hf : f_Mo_marks_76 k4 k45 a0 v1 v2 v3 v5 s0 S = some (T, v)) : zq_W (Y_Mo_marks l G S0 T v) X 76 [(0, .ref a0), (1, .int v1), (2, .int v2), (3, .int v3), (5, .int v5)] [.int s0] S 0 0 := by
  unfold f_Mo_marks_76 at hf
  refine zq_istore Z [(4, .int s0), (0, .ref a0), (1, .int v1), (2, .int v2), (3, .int v3), (5, .int v5)] d_Mo_marks_76 (by decide) rfl ?_
  refine zq_iinc Z (v5 + (1 : Int32)) [(5, .int (v5 + (1 : Int32))), (4, .int s0), (0, .ref a0), (1, .int v1), (2, .int v2), (3, .int v3)] d_Mo_marks_78 5 rfl rfl (by decide) rfl ?_
  refine zq_goto Z 45 d_Mo_marks_81 (by decide) ?_
  refine zq_sub (lo' := [(0, .ref a0), (1, .int v1), (2, .int v2), (3, .int v3), (4, .int s0), (5, .int (v5 + (1 : Int32)))]) [2, 3, 4, 5, 1, 0] rfl ?_
  exact hk45 _ _ _ _ _ _ _ hf
set_option maxHeartbeats 4000000 in
set_option maxRecDepth 100000 in
theorem r_Mo_marks_75 {l : Launch} (hl : l.stackTraces = false) {G : zq_G} {S0 T : zq_S} {v : Int32} {X : zq_X} (Z : Z_Mo_marks l G S0 T v X) {k4 : Nat → Int32 → Int32 → Int32 → zq_S → Option (zq_S × Int32)} (hk4 : ∀ (a0 : Nat) (v1 : Int32) (v2 : Int32) (v3 : Int32) (S : zq_S), k4 a0 v1 v2 v3 S = some (T, v) → zq_W (Y_Mo_marks l G S0 T v) X 4 [(0, .ref a0), (1, .int v1), (2, .int v2), (3, .int v3)] [] S 0 0) {k45 : Nat → Int32 → Int32 → Int32 → Int32 → Int32 → zq_S → Option (zq_S × Int32)} (hk45 : ∀ (a0 : Nat) (v1 : Int32) (v2 : Int32) (v3 : Int32) (v4 : Int32) (v5 : Int32) (S : zq_S), k45 a0 v1 v2 v3 v4 v5 S = some (T, v) → zq_W (Y_Mo_marks l G S0 T v) X 45 [(0, .ref a0), (1, .int v1), (2, .int v2), (3, .int v3), (4, .int v4), (5, .int v5)] [] S 0 0) {a0 : Nat} {v1 : Int32} {v2 : Int32} {v3 : Int32} {v5 : Int32} {S : zq_S} (hf : f_Mo_marks_75 k4 k45 a0 v1 v2 v3 v5 S = some (T, v)) : zq_W (Y_Mo_marks l G S0 T v) X 75 [(0, .ref a0), (1, .int v1), (2, .int v2), (3, .int v3), (5, .int v5)] [] S 0 0 := by
  unfold f_Mo_marks_75 at hf
  refine zq_iconst Z (0 : Int32) d_Mo_marks_75 (by decide) ?_
  refine zq_sub (lo' := [(0, .ref a0), (1, .int v1), (2, .int v2), (3, .int v3), (5, .int v5)]) [0, 1, 2, 3, 4] rfl ?_
  exact r_Mo_marks_76 hl Z hk4 hk45 hf
set_option maxHeartbeats 4000000 in
set_option maxRecDepth 100000 in
theorem r_Mo_marks_71 {l : Launch} (hl : l.stackTraces = false) {G : zq_G} {S0 T : zq_S} {v : Int32} {X : zq_X} (Z : Z_Mo_marks l G S0 T v X) {k4 : Nat → Int32 → Int32 → Int32 → zq_S → Option (zq_S × Int32)} (hk4 : ∀ (a0 : Nat) (v1 : Int32) (v2 : Int32) (v3 : Int32) (S : zq_S), k4 a0 v1 v2 v3 S = some (T, v) → zq_W (Y_Mo_marks l G S0 T v) X 4 [(0, .ref a0), (1, .int v1), (2, .int v2), (3, .int v3)] [] S 0 0) {k45 : Nat → Int32 → Int32 → Int32 → Int32 → Int32 → zq_S → Option (zq_S × Int32)} (hk45 : ∀ (a0 : Nat) (v1 : Int32) (v2 : Int32) (v3 : Int32) (v4 : Int32) (v5 : Int32) (S : zq_S), k45 a0 v1 v2 v3 v4 v5 S = some (T, v) → zq_W (Y_Mo_marks l G S0 T v) X 45 [(0, .ref a0), (1, .int v1), (2, .int v2), (3, .int v3), (4, .int v4), (5, .int v5)] [] S 0 0) {a0 : Nat} {v1 : Int32} {v2 : Int32} {v3 : Int32} {v5 : Int32} {S : zq_S} (hf : f_Mo_marks_71 k4 k45 a0 v1 v2 v3 v5 S = some (T, v)) : zq_W (Y_Mo_marks l G S0 T v) X 71 [(0, .ref a0), (1, .int v1), (2, .int v2), (3, .int v3), (5, .int v5)] [] S 0 0 := by
  unfold f_Mo_marks_71 at hf
  refine zq_iconst Z (1 : Int32) d_Mo_marks_71 (by decide) ?_
  refine zq_goto Z 76 d_Mo_marks_72 (by decide) ?_
  refine zq_sub (lo' := [(0, .ref a0), (1, .int v1), (2, .int v2), (3, .int v3), (5, .int v5)]) [0, 1, 2, 3, 4] rfl ?_
  exact r_Mo_marks_76 hl Z hk4 hk45 hf
set_option maxHeartbeats 4000000 in
set_option maxRecDepth 100000 in
theorem r_Mo_marks_45 {l : Launch} (hl : l.stackTraces = false) {G : zq_G} {S0 T : zq_S} {v : Int32} {X : zq_X} (Z : Z_Mo_marks l G S0 T v X) {k4 : Nat → Int32 → Int32 → Int32 → zq_S → Option (zq_S × Int32)} (hk4 : ∀ (a0 : Nat) (v1 : Int32) (v2 : Int32) (v3 : Int32) (S : zq_S), k4 a0 v1 v2 v3 S = some (T, v) → zq_W (Y_Mo_marks l G S0 T v) X 4 [(0, .ref a0), (1, .int v1), (2, .int v2), (3, .int v3)] [] S 0 0) {k45 : Nat → Int32 → Int32 → Int32 → Int32 → Int32 → zq_S → Option (zq_S × Int32)} (hk45 : ∀ (a0 : Nat) (v1 : Int32) (v2 : Int32) (v3 : Int32) (v4 : Int32) (v5 : Int32) (S : zq_S), k45 a0 v1 v2 v3 v4 v5 S = some (T, v) → zq_W (Y_Mo_marks l G S0 T v) X 45 [(0, .ref a0), (1, .int v1), (2, .int v2), (3, .int v3), (4, .int v4), (5, .int v5)] [] S 0 0) {a0 : Nat} {v1 : Int32} {v2 : Int32} {v3 : Int32} {v4 : Int32} {v5 : Int32} {S : zq_S} (hf : f_Mo_marks_45 k4 k45 a0 v1 v2 v3 v4 v5 S = some (T, v)) : zq_W (Y_Mo_marks l G S0 T v) X 45 [(0, .ref a0), (1, .int v1), (2, .int v2), (3, .int v3), (4, .int v4), (5, .int v5)] [] S 0 0 := by
  unfold f_Mo_marks_45 at hf
  refine zq_iload Z d_Mo_marks_45 5 rfl ?_
  refine zq_iload_n Z d_Mo_marks_47 3 rfl ?_
  refine zq_icmp_ge Z 84 d_Mo_marks_48 (by decide) (fun q => ?_) (fun q => ?_)
  · replace hf := zs_T q hf
    refine zq_iload_n Z d_Mo_marks_84 2 rfl ?_
    refine zq_iload Z d_Mo_marks_85 4 rfl ?_
    refine zq_if_eq Z 94 d_Mo_marks_87 (by decide) (fun q => ?_) (fun q => ?_)
    · replace hf := zs_T q hf
      refine zq_iconst Z (0 : Int32) d_Mo_marks_94 (by decide) ?_
      refine zq_sub (lo' := [(0, .ref a0), (1, .int v1), (3, .int v3)]) [0, 1, 3] rfl ?_
      exact r_Mo_marks_95 hl Z hk4 hf
    · replace hf := zs_N q hf
      refine zq_iconst Z (1 : Int32) d_Mo_marks_90 (by decide) ?_
      refine zq_goto Z 95 d_Mo_marks_91 (by decide) ?_
      refine zq_sub (lo' := [(0, .ref a0), (1, .int v1), (3, .int v3)]) [0, 1, 3] rfl ?_
      exact r_Mo_marks_95 hl Z hk4 hf
  · replace hf := zs_N q hf
    refine zq_iload Z d_Mo_marks_51 4 rfl ?_
    refine zq_if_eq Z 75 d_Mo_marks_53 (by decide) (fun q => ?_) (fun q => ?_)
    · replace hf := zs_T q hf
      refine zq_sub (lo' := [(0, .ref a0), (1, .int v1), (2, .int v2), (3, .int v3), (5, .int v5)]) [0, 1, 2, 3, 5] rfl ?_
      exact r_Mo_marks_75 hl Z hk4 hk45 hf
    · replace hf := zs_N q hf
      refine zq_iload Z d_Mo_marks_56 5 rfl ?_
      refine zq_if_lt Z 71 d_Mo_marks_58 (by decide) (fun q => ?_) (fun q => ?_)
      · replace hf := zs_T q hf
        refine zq_sub (lo' := [(0, .ref a0), (1, .int v1), (2, .int v2), (3, .int v3), (5, .int v5)]) [0, 1, 2, 3, 5] rfl ?_
        exact r_Mo_marks_71 hl Z hk4 hk45 hf
      · replace hf := zs_N q hf
        refine zq_aload_n Z d_Mo_marks_61 0 rfl ?_
        refine zq_iload_n Z d_Mo_marks_62 3 rfl ?_
        refine zq_iload Z d_Mo_marks_63 5 rfl ?_
        have hq := zs_C hf
        clear hf
        obtain ⟨h4, hf⟩ := hq
        obtain ⟨fs5, e6⟩ := zs_isS h4
        have hq := zs_bS hf
        clear hf
        obtain ⟨S2, x3, h1, hf⟩ := hq
        refine zq_contR (zq_stepV Z zq_cf1 (c_Mo_alike hl h1) 4 rfl e6 d_Mo_marks_65 m_381 m_383 m_384 m_382 m_286 p_Mo_alike ⟨(Nat.le_of_ble_eq_true rfl), (Nat.le_of_ble_eq_true rfl), (Nat.le_of_ble_eq_true rfl), (Nat.le_of_ble_eq_true rfl)⟩ rfl (Nat.le_of_ble_eq_true rfl)) Z.p ?_
        refine zq_if_ne Z 75 d_Mo_marks_68 (by decide) (fun q => ?_) (fun q => ?_)
        · replace hf := zs_N q hf
          refine zq_sub (lo' := [(0, .ref a0), (1, .int v1), (2, .int v2), (3, .int v3), (5, .int v5)]) [0, 1, 2, 3, 5] rfl ?_
          exact r_Mo_marks_75 hl Z hk4 hk45 hf
        · replace hf := zs_T q hf
          refine zq_sub (lo' := [(0, .ref a0), (1, .int v1), (2, .int v2), (3, .int v3), (5, .int v5)]) [0, 1, 2, 3, 5] rfl ?_
          exact r_Mo_marks_71 hl Z hk4 hk45 hf
theorem w_Mo_marks_45 {l : Launch} (hl : l.stackTraces = false) {G : zq_G} {S0 T : zq_S} {v : Int32} {X : zq_X} (Z : Z_Mo_marks l G S0 T v X) {k4 : Nat → Int32 → Int32 → Int32 → zq_S → Option (zq_S × Int32)} (hk4 : ∀ (a0 : Nat) (v1 : Int32) (v2 : Int32) (v3 : Int32) (S : zq_S), k4 a0 v1 v2 v3 S = some (T, v) → zq_W (Y_Mo_marks l G S0 T v) X 4 [(0, .ref a0), (1, .int v1), (2, .int v2), (3, .int v3)] [] S 0 0) : ∀ (n : Nat) (a0 : Nat) (v1 : Int32) (v2 : Int32) (v3 : Int32) (v4 : Int32) (v5 : Int32) (S : zq_S), g_Mo_marks_45 k4 n a0 v1 v2 v3 v4 v5 S = some (T, v) → zq_W (Y_Mo_marks l G S0 T v) X 45 [(0, .ref a0), (1, .int v1), (2, .int v2), (3, .int v3), (4, .int v4), (5, .int v5)] [] S 0 0 := by
  intro n
  induction n with
  | zero => intro a0 v1 v2 v3 v4 v5 S hf; cases hf
  | succ n ih =>
    intro a0 v1 v2 v3 v4 v5 S hf
    have hf : f_Mo_marks_45 k4 (g_Mo_marks_45 k4 n) a0 v1 v2 v3 v4 v5 S = some (T, v) := hf
    exact r_Mo_marks_45 hl Z hk4 ih hf
set_option maxHeartbeats 4000000 in
set_option maxRecDepth 100000 in
theorem r_Mo_marks_43 {l : Launch} (hl : l.stackTraces = false) {G : zq_G} {S0 T : zq_S} {v : Int32} {X : zq_X} (Z : Z_Mo_marks l G S0 T v X) {k4 : Nat → Int32 → Int32 → Int32 → zq_S → Option (zq_S × Int32)} (hk4 : ∀ (a0 : Nat) (v1 : Int32) (v2 : Int32) (v3 : Int32) (S : zq_S), k4 a0 v1 v2 v3 S = some (T, v) → zq_W (Y_Mo_marks l G S0 T v) X 4 [(0, .ref a0), (1, .int v1), (2, .int v2), (3, .int v3)] [] S 0 0) {a0 : Nat} {v1 : Int32} {v2 : Int32} {v3 : Int32} {v4 : Int32} {s0 : Int32} {S : zq_S} (hf : f_Mo_marks_43 k4 a0 v1 v2 v3 v4 s0 S = some (T, v)) : zq_W (Y_Mo_marks l G S0 T v) X 43 [(0, .ref a0), (1, .int v1), (2, .int v2), (3, .int v3), (4, .int v4)] [.int s0] S 0 0 := by
  unfold f_Mo_marks_43 at hf
  refine zq_istore Z [(5, .int s0), (0, .ref a0), (1, .int v1), (2, .int v2), (3, .int v3), (4, .int v4)] d_Mo_marks_43 (by decide) rfl ?_
  refine zq_sub (lo' := [(0, .ref a0), (1, .int v1), (2, .int v2), (3, .int v3), (4, .int v4), (5, .int s0)]) [1, 2, 3, 4, 5, 0] rfl ?_
  exact w_Mo_marks_45 hl Z hk4 _ _ _ _ _ _ _ _ hf
set_option maxHeartbeats 4000000 in
set_option maxRecDepth 100000 in
theorem r_Mo_marks_4 {l : Launch} (hl : l.stackTraces = false) {G : zq_G} {S0 T : zq_S} {v : Int32} {X : zq_X} (Z : Z_Mo_marks l G S0 T v X) {k4 : Nat → Int32 → Int32 → Int32 → zq_S → Option (zq_S × Int32)} (hk4 : ∀ (a0 : Nat) (v1 : Int32) (v2 : Int32) (v3 : Int32) (S : zq_S), k4 a0 v1 v2 v3 S = some (T, v) → zq_W (Y_Mo_marks l G S0 T v) X 4 [(0, .ref a0), (1, .int v1), (2, .int v2), (3, .int v3)] [] S 0 0) {a0 : Nat} {v1 : Int32} {v2 : Int32} {v3 : Int32} {S : zq_S} (hf : f_Mo_marks_4 k4 a0 v1 v2 v3 S = some (T, v)) : zq_W (Y_Mo_marks l G S0 T v) X 4 [(0, .ref a0), (1, .int v1), (2, .int v2), (3, .int v3)] [] S 0 0 := by
  unfold f_Mo_marks_4 at hf
  refine zq_iload_n Z d_Mo_marks_4 3 rfl ?_
  refine zq_aload_n Z d_Mo_marks_5 0 rfl ?_
  have hq := Option.bind_eq_some_iff.mp hf
  clear hf
  obtain ⟨x1, h2, hf⟩ := hq
  refine zr_geti Z cd_Mo 3 d_Mo_marks_6 (by decide) m_288 h2 ?_
  refine zq_icmp_ge Z 103 d_Mo_marks_9 (by decide) (fun q => ?_) (fun q => ?_)
  · replace hf := zs_T q hf
    refine zq_iload_n Z d_Mo_marks_103 2 rfl ?_
    exact zq_iret Z d_Mo_marks_104 (zs_1 hf) (zs_2 (fun z => (.inl (some (.int z)) : zq_R)) hf) ⟨(Nat.le_of_ble_eq_true rfl), (Nat.le_of_ble_eq_true rfl)⟩
  · replace hf := zs_N q hf
    refine zq_aload_n Z d_Mo_marks_12 0 rfl ?_
    have hq := Option.bind_eq_some_iff.mp hf
    clear hf
    obtain ⟨x3, h4, hf⟩ := hq
    refine zr_getr Z cd_Mo 4 d_Mo_marks_13 (by decide) m_270 h4 ?_
    refine zq_iload_n Z d_Mo_marks_16 3 rfl ?_
    have hq := Option.bind_eq_some_iff.mp hf
    clear hf
    obtain ⟨a5, h6, hf⟩ := hq
    subst h6
    have hq := Option.bind_eq_some_iff.mp hf
    clear hf
    obtain ⟨x7, h8, hf⟩ := hq
    refine zr_laload Z 0 (fun _ => rfl) d_Mo_marks_17 h8 ?_
    refine zq_bipush Z (16 : Int32) d_Mo_marks_18 (by decide) ?_
    refine zq_lshr Z d_Mo_marks_20 ?_
    refine zq_lconst Z (0 : Int64) d_Mo_marks_21 (by decide) ?_
    refine zq_lcmp Z d_Mo_marks_22 ?_
    refine zq_if_ne Z 29 d_Mo_marks_23 (by decide) (fun q => ?_) (fun q => ?_)
    · replace hf := zs_N q hf
      refine zq_iconst Z (1 : Int32) d_Mo_marks_29 (by decide) ?_
      refine zq_istore Z [(4, .int (1 : Int32)), (0, .ref a0), (1, .int v1), (2, .int v2), (3, .int v3)] d_Mo_marks_30 (by decide) rfl ?_
      refine zq_iload_n Z d_Mo_marks_32 2 rfl ?_
      refine zq_if_eq Z 42 d_Mo_marks_33 (by decide) (fun q => ?_) (fun q => ?_)
      · replace hf := zs_T q hf
        refine zq_iconst Z (0 : Int32) d_Mo_marks_42 (by decide) ?_
        refine zq_sub (lo' := [(0, .ref a0), (1, .int v1), (2, .int v2), (3, .int v3), (4, .int (1 : Int32))]) [1, 2, 3, 4, 0] rfl ?_
        exact r_Mo_marks_43 hl Z hk4 hf
      · replace hf := zs_N q hf
        refine zq_iload_n Z d_Mo_marks_36 4 rfl ?_
        refine zq_iconst Z (1 : Int32) d_Mo_marks_37 (by decide) ?_
        refine zq_isub Z d_Mo_marks_38 ?_
        refine zq_goto Z 43 d_Mo_marks_39 (by decide) ?_
        refine zq_sub (lo' := [(0, .ref a0), (1, .int v1), (2, .int v2), (3, .int v3), (4, .int (1 : Int32))]) [1, 2, 3, 4, 0] rfl ?_
        exact r_Mo_marks_43 hl Z hk4 hf
    · replace hf := zs_T q hf
      refine zq_goto Z 97 d_Mo_marks_26 (by decide) ?_
      refine zq_sub (lo' := [(0, .ref a0), (1, .int v1), (2, .int v2), (3, .int v3)]) [0, 1, 2, 3] rfl ?_
      exact r_Mo_marks_97 hl Z hk4 hf
theorem w_Mo_marks_4 {l : Launch} (hl : l.stackTraces = false) {G : zq_G} {S0 T : zq_S} {v : Int32} {X : zq_X} (Z : Z_Mo_marks l G S0 T v X) : ∀ (n : Nat) (a0 : Nat) (v1 : Int32) (v2 : Int32) (v3 : Int32) (S : zq_S), g_Mo_marks_4  n a0 v1 v2 v3 S = some (T, v) → zq_W (Y_Mo_marks l G S0 T v) X 4 [(0, .ref a0), (1, .int v1), (2, .int v2), (3, .int v3)] [] S 0 0 := by
  intro n
  induction n with
  | zero => intro a0 v1 v2 v3 S hf; cases hf
  | succ n ih =>
    intro a0 v1 v2 v3 S hf
    have hf : f_Mo_marks_4  (g_Mo_marks_4  n) a0 v1 v2 v3 S = some (T, v) := hf
    exact r_Mo_marks_4 hl Z  ih hf
set_option maxHeartbeats 4000000 in
set_option maxRecDepth 100000 in
theorem c_Mo_marks {l : Launch} (hl : l.stackTraces = false) {G : zq_G} {a0 : Nat} {v1 : Int32} {S0 T : zq_S} {v : Int32} (hf : f_Mo_marks a0 v1 S0 = some (T, v)) : zq_M l y_Mo_marks (.code y_Mo_marks b_Mo_marks 6 (some (.int))) rm_Mo_marks G [.ref a0, .int v1] S0 ((.inl (some (.int v)) : zq_R)) T := by
  refine zq_Mof (lo := [(0, .ref a0), (1, .int v1)]) hl (by decide) (Nat.le_of_ble_eq_true rfl) rfl (fun X Z => ?_)
  have Z : Z_Mo_marks l G S0 T v X := Z
  show zq_W (Y_Mo_marks l G S0 T v) X 0 [(0, .ref a0), (1, .int v1)] [] S0 0 0
  unfold f_Mo_marks at hf
  refine zq_iconst Z (0 : Int32) d_Mo_marks_0 (by decide) ?_
  refine zq_istore_n Z rfl [(2, .int (0 : Int32)), (0, .ref a0), (1, .int v1)] d_Mo_marks_1 (by decide) rfl ?_
  refine zq_iconst Z (0 : Int32) d_Mo_marks_2 (by decide) ?_
  refine zq_istore_n Z rfl [(3, .int (0 : Int32)), (2, .int (0 : Int32)), (0, .ref a0), (1, .int v1)] d_Mo_marks_3 (by decide) rfl ?_
  refine zq_sub (lo' := [(0, .ref a0), (1, .int v1), (2, .int (0 : Int32)), (3, .int (0 : Int32))]) [2, 3, 1, 0] rfl ?_
  exact w_Mo_marks_4 hl Z  _ _ _ _ _ _ hf
