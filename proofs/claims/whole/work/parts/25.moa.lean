theorem d_Mo_init_0 : decode b_Mo_init 0 = .ok (.aload_n 0, 1) := by decide +kernel
theorem d_Mo_init_1 : decode b_Mo_init 1 = .ok (.invokespecial 1, 3) := by decide +kernel
theorem d_Mo_init_4 : decode b_Mo_init 4 = .ok (.aload_n 0, 1) := by decide +kernel
theorem d_Mo_init_5 : decode b_Mo_init 5 = .ok (.sipush 600, 3) := by decide +kernel
theorem d_Mo_init_8 : decode b_Mo_init 8 = .ok (.newarray .long, 2) := by decide +kernel
theorem d_Mo_init_10 : decode b_Mo_init 10 = .ok (.putfield 7, 3) := by decide +kernel
theorem d_Mo_init_13 : decode b_Mo_init 13 = .ok (.aload_n 0, 1) := by decide +kernel
theorem d_Mo_init_14 : decode b_Mo_init 14 = .ok (.sipush 600, 3) := by decide +kernel
theorem d_Mo_init_17 : decode b_Mo_init 17 = .ok (.newarray .long, 2) := by decide +kernel
theorem d_Mo_init_19 : decode b_Mo_init 19 = .ok (.putfield 13, 3) := by decide +kernel
theorem d_Mo_init_22 : decode b_Mo_init 22 = .ok (.aload_n 0, 1) := by decide +kernel
theorem d_Mo_init_23 : decode b_Mo_init 23 = .ok (.sipush 600, 3) := by decide +kernel
theorem d_Mo_init_26 : decode b_Mo_init 26 = .ok (.newarray .long, 2) := by decide +kernel
theorem d_Mo_init_28 : decode b_Mo_init 28 = .ok (.putfield 16, 3) := by decide +kernel
theorem d_Mo_init_31 : decode b_Mo_init 31 = .ok (.aload_n 0, 1) := by decide +kernel
theorem d_Mo_init_32 : decode b_Mo_init 32 = .ok (.sipush 6000, 3) := by decide +kernel
theorem d_Mo_init_35 : decode b_Mo_init 35 = .ok (.newarray .long, 2) := by decide +kernel
theorem d_Mo_init_37 : decode b_Mo_init 37 = .ok (.putfield 19, 3) := by decide +kernel
theorem d_Mo_init_40 : decode b_Mo_init 40 = .ok (.aload_n 0, 1) := by decide +kernel
theorem d_Mo_init_41 : decode b_Mo_init 41 = .ok (.sipush 6000, 3) := by decide +kernel
theorem d_Mo_init_44 : decode b_Mo_init 44 = .ok (.newarray .long, 2) := by decide +kernel
theorem d_Mo_init_46 : decode b_Mo_init 46 = .ok (.putfield 22, 3) := by decide +kernel
theorem d_Mo_init_49 : decode b_Mo_init 49 = .ok (.aload_n 0, 1) := by decide +kernel
theorem d_Mo_init_50 : decode b_Mo_init 50 = .ok (.bipush 42, 2) := by decide +kernel
theorem d_Mo_init_52 : decode b_Mo_init 52 = .ok (.newarray .int, 2) := by decide +kernel
theorem d_Mo_init_54 : decode b_Mo_init 54 = .ok (.putfield 25, 3) := by decide +kernel
theorem d_Mo_init_57 : decode b_Mo_init 57 = .ok (.aload_n 0, 1) := by decide +kernel
theorem d_Mo_init_58 : decode b_Mo_init 58 = .ok (.bipush 42, 2) := by decide +kernel
theorem d_Mo_init_60 : decode b_Mo_init 60 = .ok (.newarray .int, 2) := by decide +kernel
theorem d_Mo_init_62 : decode b_Mo_init 62 = .ok (.putfield 29, 3) := by decide +kernel
theorem d_Mo_init_65 : decode b_Mo_init 65 = .ok (.aload_n 0, 1) := by decide +kernel
theorem d_Mo_init_66 : decode b_Mo_init 66 = .ok (.bipush 42, 2) := by decide +kernel
theorem d_Mo_init_68 : decode b_Mo_init 68 = .ok (.newarray .int, 2) := by decide +kernel
theorem d_Mo_init_70 : decode b_Mo_init 70 = .ok (.putfield 32, 3) := by decide +kernel
theorem d_Mo_init_73 : decode b_Mo_init 73 = .ok (.return_, 1) := by decide +kernel
def f_Mo_init (a0 : Nat) (S : zq_S) : Option (zq_S × Unit) :=
  (zs_p (zq_n S (.inl (0, 600, .inr (.inl (fun _ => 0))))) a0 4 4 (va_rf (some (S.2.1)))).bind fun S1 =>
  (zs_p (zq_n S1 (.inl (0, 600, .inr (.inl (fun _ => 0))))) a0 4 6 (va_rf (some (S1.2.1)))).bind fun S3 =>
  (zs_p (zq_n S3 (.inl (0, 600, .inr (.inl (fun _ => 0))))) a0 4 8 (va_rf (some (S3.2.1)))).bind fun S5 =>
  (zs_p (zq_n S5 (.inl (0, 6000, .inr (.inl (fun _ => 0))))) a0 4 10 (va_rf (some (S5.2.1)))).bind fun S7 =>
  (zs_p (zq_n S7 (.inl (0, 6000, .inr (.inl (fun _ => 0))))) a0 4 11 (va_rf (some (S7.2.1)))).bind fun S9 =>
  (zs_p (zq_n S9 (.inl (2, 42, .inl (fun _ => 0)))) a0 4 14 (va_rf (some (S9.2.1)))).bind fun S11 =>
  (zs_p (zq_n S11 (.inl (2, 42, .inl (fun _ => 0)))) a0 4 15 (va_rf (some (S11.2.1)))).bind fun S13 =>
  (zs_p (zq_n S13 (.inl (2, 42, .inl (fun _ => 0)))) a0 4 16 (va_rf (some (S13.2.1)))).bind fun S15 =>
  some (S15, ())
set_option maxHeartbeats 4000000 in
set_option maxRecDepth 100000 in
theorem c_Mo_init {l : Launch} (hl : l.stackTraces = false) {G : zq_G} {a0 : Nat} {S0 T : zq_S} {v : Unit} (hf : f_Mo_init a0 S0 = some (T, v)) : zq_M l y_Mo_init (.code y_Mo_init b_Mo_init 1 none) rm_Mo_init G [.ref a0] S0 ((.inl none : zq_R)) T := by
  refine zq_Mof (lo := [(0, .ref a0)]) hl (by decide) (Nat.le_of_ble_eq_true rfl) rfl (fun X Z => ?_)
  have Z : Z_Mo_init l G S0 T v X := Z
  show zq_W (Y_Mo_init l G S0 T v) X 0 [(0, .ref a0)] [] S0 0 0
  unfold f_Mo_init at hf
  refine zq_aload_n Z d_Mo_init_0 0 rfl ?_
  refine zq_objInit Z d_Mo_init_1 m_269 m_1 m_2 (Nat.le_of_ble_eq_true rfl) (Nat.le_of_ble_eq_true rfl) ?_
  refine zq_aload_n Z d_Mo_init_4 0 rfl ?_
  refine zq_sipush Z (600 : Int32) d_Mo_init_5 (by decide) ?_
  refine zq_newa (N := 600) (atype := .long) (ty := .long) Z rfl 0 (fun _ => rfl) (fun _ _ h => h) d_Mo_init_8 m_3 (600, .inr (.inl (fun _ => 0))) (fun _ => rfl) (by decide) (by decide) (by decide) ⟨(Nat.le_of_ble_eq_true rfl), (Nat.le_of_ble_eq_true rfl)⟩ ?_
  have hq := Option.bind_eq_some_iff.mp hf
  clear hf
  obtain ⟨S1, h2, hf⟩ := hq
  refine zr_putrF (x := (some (S0.2.1))) (ty := .array (.long)) Z cd_Mo 4 d_Mo_init_10 (by decide) m_270 rfl rfl rfl (Or.inr ⟨_, rfl⟩) (by decide +kernel) h2 ?_
  refine zq_aload_n Z d_Mo_init_13 0 rfl ?_
  refine zq_sipush Z (600 : Int32) d_Mo_init_14 (by decide) ?_
  refine zq_newa (N := 600) (atype := .long) (ty := .long) Z rfl 0 (fun _ => rfl) (fun _ _ h => h) d_Mo_init_17 m_3 (600, .inr (.inl (fun _ => 0))) (fun _ => rfl) (by decide) (by decide) (by decide) ⟨(Nat.le_of_ble_eq_true rfl), (Nat.le_of_ble_eq_true rfl)⟩ ?_
  have hq := Option.bind_eq_some_iff.mp hf
  clear hf
  obtain ⟨S3, h4, hf⟩ := hq
  refine zr_putrF (x := (some (S1.2.1))) (ty := .array (.long)) Z cd_Mo 6 d_Mo_init_19 (by decide) m_271 rfl rfl rfl (Or.inr ⟨_, rfl⟩) (by decide +kernel) h4 ?_
  refine zq_aload_n Z d_Mo_init_22 0 rfl ?_
  refine zq_sipush Z (600 : Int32) d_Mo_init_23 (by decide) ?_
  refine zq_newa (N := 600) (atype := .long) (ty := .long) Z rfl 0 (fun _ => rfl) (fun _ _ h => h) d_Mo_init_26 m_3 (600, .inr (.inl (fun _ => 0))) (fun _ => rfl) (by decide) (by decide) (by decide) ⟨(Nat.le_of_ble_eq_true rfl), (Nat.le_of_ble_eq_true rfl)⟩ ?_
  have hq := Option.bind_eq_some_iff.mp hf
  clear hf
  obtain ⟨S5, h6, hf⟩ := hq
  refine zr_putrF (x := (some (S3.2.1))) (ty := .array (.long)) Z cd_Mo 8 d_Mo_init_28 (by decide) m_272 rfl rfl rfl (Or.inr ⟨_, rfl⟩) (by decide +kernel) h6 ?_
  refine zq_aload_n Z d_Mo_init_31 0 rfl ?_
  refine zq_sipush Z (6000 : Int32) d_Mo_init_32 (by decide) ?_
  refine zq_newa (N := 6000) (atype := .long) (ty := .long) Z rfl 0 (fun _ => rfl) (fun _ _ h => h) d_Mo_init_35 m_3 (6000, .inr (.inl (fun _ => 0))) (fun _ => rfl) (by decide) (by decide) (by decide) ⟨(Nat.le_of_ble_eq_true rfl), (Nat.le_of_ble_eq_true rfl)⟩ ?_
  have hq := Option.bind_eq_some_iff.mp hf
  clear hf
  obtain ⟨S7, h8, hf⟩ := hq
  refine zr_putrF (x := (some (S5.2.1))) (ty := .array (.long)) Z cd_Mo 10 d_Mo_init_37 (by decide) m_273 rfl rfl rfl (Or.inr ⟨_, rfl⟩) (by decide +kernel) h8 ?_
  refine zq_aload_n Z d_Mo_init_40 0 rfl ?_
  refine zq_sipush Z (6000 : Int32) d_Mo_init_41 (by decide) ?_
  refine zq_newa (N := 6000) (atype := .long) (ty := .long) Z rfl 0 (fun _ => rfl) (fun _ _ h => h) d_Mo_init_44 m_3 (6000, .inr (.inl (fun _ => 0))) (fun _ => rfl) (by decide) (by decide) (by decide) ⟨(Nat.le_of_ble_eq_true rfl), (Nat.le_of_ble_eq_true rfl)⟩ ?_
  have hq := Option.bind_eq_some_iff.mp hf
  clear hf
  obtain ⟨S9, h10, hf⟩ := hq
  refine zr_putrF (x := (some (S7.2.1))) (ty := .array (.long)) Z cd_Mo 11 d_Mo_init_46 (by decide) m_274 rfl rfl rfl (Or.inr ⟨_, rfl⟩) (by decide +kernel) h10 ?_
  refine zq_aload_n Z d_Mo_init_49 0 rfl ?_
  refine zq_bipush Z (42 : Int32) d_Mo_init_50 (by decide) ?_
  refine zq_newa (N := 42) (atype := .int) (ty := .int) Z rfl 2 (fun _ => rfl) (fun _ _ h => h) d_Mo_init_52 m_275 (42, .inl (fun _ => 0)) (fun _ => rfl) (by decide) (by decide) (by decide) ⟨(Nat.le_of_ble_eq_true rfl), (Nat.le_of_ble_eq_true rfl)⟩ ?_
  have hq := Option.bind_eq_some_iff.mp hf
  clear hf
  obtain ⟨S11, h12, hf⟩ := hq
  refine zr_putrF (x := (some (S9.2.1))) (ty := .array (.int)) Z cd_Mo 14 d_Mo_init_54 (by decide) m_276 rfl rfl rfl (Or.inr ⟨_, rfl⟩) (by decide +kernel) h12 ?_
  refine zq_aload_n Z d_Mo_init_57 0 rfl ?_
  refine zq_bipush Z (42 : Int32) d_Mo_init_58 (by decide) ?_
  refine zq_newa (N := 42) (atype := .int) (ty := .int) Z rfl 2 (fun _ => rfl) (fun _ _ h => h) d_Mo_init_60 m_275 (42, .inl (fun _ => 0)) (fun _ => rfl) (by decide) (by decide) (by decide) ⟨(Nat.le_of_ble_eq_true rfl), (Nat.le_of_ble_eq_true rfl)⟩ ?_
  have hq := Option.bind_eq_some_iff.mp hf
  clear hf
  obtain ⟨S13, h14, hf⟩ := hq
  refine zr_putrF (x := (some (S11.2.1))) (ty := .array (.int)) Z cd_Mo 15 d_Mo_init_62 (by decide) m_277 rfl rfl rfl (Or.inr ⟨_, rfl⟩) (by decide +kernel) h14 ?_
  refine zq_aload_n Z d_Mo_init_65 0 rfl ?_
  refine zq_bipush Z (42 : Int32) d_Mo_init_66 (by decide) ?_
  refine zq_newa (N := 42) (atype := .int) (ty := .int) Z rfl 2 (fun _ => rfl) (fun _ _ h => h) d_Mo_init_68 m_275 (42, .inl (fun _ => 0)) (fun _ => rfl) (by decide) (by decide) (by decide) ⟨(Nat.le_of_ble_eq_true rfl), (Nat.le_of_ble_eq_true rfl)⟩ ?_
  have hq := Option.bind_eq_some_iff.mp hf
  clear hf
  obtain ⟨S15, h16, hf⟩ := hq
  refine zr_putrF (x := (some (S13.2.1))) (ty := .array (.int)) Z cd_Mo 16 d_Mo_init_70 (by decide) m_278 rfl rfl rfl (Or.inr ⟨_, rfl⟩) (by decide +kernel) h16 ?_
  exact zq_vret Z d_Mo_init_73 (zs_1 hf) (zs_2 (fun _ => (.inl none : zq_R)) hf) ⟨(Nat.le_of_ble_eq_true rfl), (Nat.le_of_ble_eq_true rfl)⟩
theorem d_Mo_thrown_0 : decode b_Mo_thrown 0 = .ok (.aload_n 0, 1) := by decide +kernel
theorem d_Mo_thrown_1 : decode b_Mo_thrown 1 = .ok (.getfield 35, 3) := by decide +kernel
theorem d_Mo_thrown_4 : decode b_Mo_thrown 4 = .ok (.ireturn, 1) := by decide +kernel
def f_Mo_thrown (a0 : Nat) (S : zq_S) : Option (zq_S × Int32) :=
  (zs_gi S a0 4 0).bind fun x1 =>
  some (S, x1)
set_option maxHeartbeats 4000000 in
set_option maxRecDepth 100000 in
theorem c_Mo_thrown {l : Launch} (hl : l.stackTraces = false) {G : zq_G} {a0 : Nat} {S0 T : zq_S} {v : Int32} (hf : f_Mo_thrown a0 S0 = some (T, v)) : zq_M l y_Mo_thrown (.code y_Mo_thrown b_Mo_thrown 1 (some (.int))) rm_Mo_thrown G [.ref a0] S0 ((.inl (some (.int v)) : zq_R)) T := by
  refine zq_Mof (lo := [(0, .ref a0)]) hl (by decide) (Nat.le_of_ble_eq_true rfl) rfl (fun X Z => ?_)
  have Z : Z_Mo_thrown l G S0 T v X := Z
  show zq_W (Y_Mo_thrown l G S0 T v) X 0 [(0, .ref a0)] [] S0 0 0
  unfold f_Mo_thrown at hf
  refine zq_aload_n Z d_Mo_thrown_0 0 rfl ?_
  have hq := Option.bind_eq_some_iff.mp hf
  clear hf
  obtain ⟨x1, h2, hf⟩ := hq
  refine zr_geti Z cd_Mo 0 d_Mo_thrown_1 (by decide) m_279 h2 ?_
  exact zq_iret Z d_Mo_thrown_4 (zs_1 hf) (zs_2 (fun z => (.inl (some (.int z)) : zq_R)) hf) ⟨(Nat.le_of_ble_eq_true rfl), (Nat.le_of_ble_eq_true rfl)⟩
theorem d_Mo_raise_0 : decode b_Mo_raise 0 = .ok (.aload_n 0, 1) := by decide +kernel
theorem d_Mo_raise_1 : decode b_Mo_raise 1 = .ok (.iload_n 1, 1) := by decide +kernel
theorem d_Mo_raise_2 : decode b_Mo_raise 2 = .ok (.putfield 35, 3) := by decide +kernel
theorem d_Mo_raise_5 : decode b_Mo_raise 5 = .ok (.iconst 0, 1) := by decide +kernel
theorem d_Mo_raise_6 : decode b_Mo_raise 6 = .ok (.ireturn, 1) := by decide +kernel
def f_Mo_raise (a0 : Nat) (v1 : Int32) (S : zq_S) : Option (zq_S × Int32) :=
  (zs_p S a0 4 0 (.int v1)).bind fun S1 =>
  some (S1, (0 : Int32))
set_option maxHeartbeats 4000000 in
set_option maxRecDepth 100000 in
theorem c_Mo_raise {l : Launch} (hl : l.stackTraces = false) {G : zq_G} {a0 : Nat} {v1 : Int32} {S0 T : zq_S} {v : Int32} (hf : f_Mo_raise a0 v1 S0 = some (T, v)) : zq_M l y_Mo_raise (.code y_Mo_raise b_Mo_raise 2 (some (.int))) rm_Mo_raise G [.ref a0, .int v1] S0 ((.inl (some (.int v)) : zq_R)) T := by
  refine zq_Mof (lo := [(0, .ref a0), (1, .int v1)]) hl (by decide) (Nat.le_of_ble_eq_true rfl) rfl (fun X Z => ?_)
  have Z : Z_Mo_raise l G S0 T v X := Z
  show zq_W (Y_Mo_raise l G S0 T v) X 0 [(0, .ref a0), (1, .int v1)] [] S0 0 0
  unfold f_Mo_raise at hf
  refine zq_aload_n Z d_Mo_raise_0 0 rfl ?_
  refine zq_iload_n Z d_Mo_raise_1 1 rfl ?_
  have hq := Option.bind_eq_some_iff.mp hf
  clear hf
  obtain ⟨S1, h2, hf⟩ := hq
  refine zr_puti Z cd_Mo 0 d_Mo_raise_2 (by decide) m_279 rfl (by decide +kernel) h2 ?_
  refine zq_iconst Z (0 : Int32) d_Mo_raise_5 (by decide) ?_
  exact zq_iret Z d_Mo_raise_6 (zs_1 hf) (zs_2 (fun z => (.inl (some (.int z)) : zq_R)) hf) ⟨(Nat.le_of_ble_eq_true rfl), (Nat.le_of_ble_eq_true rfl)⟩
theorem d_Mo_in_0 : decode b_Mo_in 0 = .ok (.iload_n 0, 1) := by decide +kernel
theorem d_Mo_in_1 : decode b_Mo_in 1 = .ok (.iload_n 1, 1) := by decide +kernel
theorem d_Mo_in_2 : decode b_Mo_in 2 = .ok (.if_icmp .lt 12, 3) := by decide +kernel
theorem d_Mo_in_5 : decode b_Mo_in 5 = .ok (.iload_n 0, 1) := by decide +kernel
theorem d_Mo_in_6 : decode b_Mo_in 6 = .ok (.iload_n 2, 1) := by decide +kernel
theorem d_Mo_in_7 : decode b_Mo_in 7 = .ok (.if_icmp .gt 7, 3) := by decide +kernel
theorem d_Mo_in_10 : decode b_Mo_in 10 = .ok (.iconst 1, 1) := by decide +kernel
theorem d_Mo_in_11 : decode b_Mo_in 11 = .ok (.goto 4, 3) := by decide +kernel
theorem d_Mo_in_14 : decode b_Mo_in 14 = .ok (.iconst 0, 1) := by decide +kernel
theorem d_Mo_in_15 : decode b_Mo_in 15 = .ok (.ireturn, 1) := by decide +kernel
def f_Mo_in_15  (s0 : Int32) (S : zq_S) : Option (zq_S × Int32) :=
  if s0 = 0 ∨ s0 = 1 then some (S, s0) else none
def f_Mo_in_14   (S : zq_S) : Option (zq_S × Int32) :=
  f_Mo_in_15  (0 : Int32) S
def f_Mo_in (v0 : Int32) (v1 : Int32) (v2 : Int32) (S : zq_S) : Option (zq_S × Int32) :=
  if v0 < v1 then
    f_Mo_in_14   S
  else
    if v2 < v0 then
      f_Mo_in_14   S
    else
      f_Mo_in_15  (1 : Int32) S
set_option maxHeartbeats 4000000 in
set_option maxRecDepth 100000 in
theorem r_Mo_in_15 {l : Launch} (hl : l.stackTraces = false) {G : zq_G} {S0 T : zq_S} {v : Int32} {X : zq_X} (Z : Z_Mo_in l G S0 T v X) {s0 : Int32} {S : zq_S} (hf : f_Mo_in_15  s0 S = some (T, v)) : zq_W (Y_Mo_in l G S0 T v) X 15 [] [.int s0] S 0 0 := by
  unfold f_Mo_in_15 at hf
  have hq := zs_C hf
  clear hf
  obtain ⟨h1, hf⟩ := hq
  exact zq_zret Z d_Mo_in_15 h1 (zs_1 hf) (zs_2 (fun z => (.inl (some (.int z)) : zq_R)) hf) ⟨(Nat.le_of_ble_eq_true rfl), (Nat.le_of_ble_eq_true rfl)⟩
set_option maxHeartbeats 4000000 in
set_option maxRecDepth 100000 in
theorem r_Mo_in_14 {l : Launch} (hl : l.stackTraces = false) {G : zq_G} {S0 T : zq_S} {v : Int32} {X : zq_X} (Z : Z_Mo_in l G S0 T v X)  {S : zq_S} (hf : f_Mo_in_14   S = some (T, v)) : zq_W (Y_Mo_in l G S0 T v) X 14 [] [] S 0 0 := by
  unfold f_Mo_in_14 at hf
  refine zq_iconst Z (0 : Int32) d_Mo_in_14 (by decide) ?_
  refine zq_sub (lo' := []) [] rfl ?_
  exact r_Mo_in_15 hl Z  hf
set_option maxHeartbeats 4000000 in
set_option maxRecDepth 100000 in
theorem c_Mo_in {l : Launch} (hl : l.stackTraces = false) {G : zq_G} {v0 : Int32} {v1 : Int32} {v2 : Int32} {S0 T : zq_S} {v : Int32} (hf : f_Mo_in v0 v1 v2 S0 = some (T, v)) : zq_M l y_Mo_in (.code y_Mo_in b_Mo_in 3 (some (.boolean))) rm_Mo_in G [.int v0, .int v1, .int v2] S0 ((.inl (some (.int v)) : zq_R)) T := by
  refine zq_Mof (lo := [(0, .int v0), (1, .int v1), (2, .int v2)]) hl (by decide) (Nat.le_of_ble_eq_true rfl) rfl (fun X Z => ?_)
  have Z : Z_Mo_in l G S0 T v X := Z
  show zq_W (Y_Mo_in l G S0 T v) X 0 [(0, .int v0), (1, .int v1), (2, .int v2)] [] S0 0 0
  unfold f_Mo_in at hf
  refine zq_iload_n Z d_Mo_in_0 0 rfl ?_
  refine zq_iload_n Z d_Mo_in_1 1 rfl ?_
  refine zq_icmp_lt Z 14 d_Mo_in_2 (by decide) (fun q => ?_) (fun q => ?_)
  · replace hf := zs_T q hf
    refine zq_sub (lo' := []) [] rfl ?_
    exact r_Mo_in_14 hl Z  hf
  · replace hf := zs_N q hf
    refine zq_iload_n Z d_Mo_in_5 0 rfl ?_
    refine zq_iload_n Z d_Mo_in_6 2 rfl ?_
    refine zq_icmp_gt Z 14 d_Mo_in_7 (by decide) (fun q => ?_) (fun q => ?_)
    · replace hf := zs_T q hf
      refine zq_sub (lo' := []) [] rfl ?_
      exact r_Mo_in_14 hl Z  hf
    · replace hf := zs_N q hf
      refine zq_iconst Z (1 : Int32) d_Mo_in_10 (by decide) ?_
      refine zq_goto Z 15 d_Mo_in_11 (by decide) ?_
      refine zq_sub (lo' := []) [] rfl ?_
      exact r_Mo_in_15 hl Z  hf
theorem d_Mo_part_0 : decode b_Mo_part 0 = .ok (.lload_n 0, 1) := by decide +kernel
theorem d_Mo_part_1 : decode b_Mo_part 1 = .ok (.bipush 8, 2) := by decide +kernel
theorem d_Mo_part_3 : decode b_Mo_part 3 = .ok (.iload_n 2, 1) := by decide +kernel
theorem d_Mo_part_4 : decode b_Mo_part 4 = .ok (.imul, 1) := by decide +kernel
theorem d_Mo_part_5 : decode b_Mo_part 5 = .ok (.lshr, 1) := by decide +kernel
theorem d_Mo_part_6 : decode b_Mo_part 6 = .ok (.l2i, 1) := by decide +kernel
theorem d_Mo_part_7 : decode b_Mo_part 7 = .ok (.sipush 255, 3) := by decide +kernel
theorem d_Mo_part_10 : decode b_Mo_part 10 = .ok (.iand, 1) := by decide +kernel
theorem d_Mo_part_11 : decode b_Mo_part 11 = .ok (.ireturn, 1) := by decide +kernel
def f_Mo_part (v0 : Int64) (v2 : Int32) (S : zq_S) : Option (zq_S × Int32) :=
  some (S, ((zf_lshr v0 ((8 : Int32) * v2)).toInt32 &&& (255 : Int32)))
set_option maxHeartbeats 4000000 in
set_option maxRecDepth 100000 in
theorem c_Mo_part {l : Launch} (hl : l.stackTraces = false) {G : zq_G} {v0 : Int64} {v2 : Int32} {S0 T : zq_S} {v : Int32} (hf : f_Mo_part v0 v2 S0 = some (T, v)) : zq_M l y_Mo_part (.code y_Mo_part b_Mo_part 3 (some (.int))) rm_Mo_part G [.long v0, .int v2] S0 ((.inl (some (.int v)) : zq_R)) T := by
  refine zq_Mof (lo := [(0, .long v0), (2, .int v2)]) hl (by decide) (Nat.le_of_ble_eq_true rfl) rfl (fun X Z => ?_)
  have Z : Z_Mo_part l G S0 T v X := Z
  show zq_W (Y_Mo_part l G S0 T v) X 0 [(0, .long v0), (2, .int v2)] [] S0 0 0
  unfold f_Mo_part at hf
  refine zq_lload_n Z d_Mo_part_0 0 rfl ?_
  refine zq_bipush Z (8 : Int32) d_Mo_part_1 (by decide) ?_
  refine zq_iload_n Z d_Mo_part_3 1 rfl ?_
  refine zq_imul Z d_Mo_part_4 ?_
  refine zq_lshr Z d_Mo_part_5 ?_
  refine zq_l2i Z d_Mo_part_6 ?_
  refine zq_sipush Z (255 : Int32) d_Mo_part_7 (by decide) ?_
  refine zq_iand Z d_Mo_part_10 ?_
  exact zq_iret Z d_Mo_part_11 (zs_1 hf) (zs_2 (fun z => (.inl (some (.int z)) : zq_R)) hf) ⟨(Nat.le_of_ble_eq_true rfl), (Nat.le_of_ble_eq_true rfl)⟩
theorem d_Mo_with_0 : decode b_Mo_with 0 = .ok (.lload_n 0, 1) := by decide +kernel
theorem d_Mo_with_1 : decode b_Mo_with 1 = .ok (.ldc2_w 39, 3) := by decide +kernel
theorem d_Mo_with_4 : decode b_Mo_with 4 = .ok (.bipush 8, 2) := by decide +kernel
theorem d_Mo_with_6 : decode b_Mo_with 6 = .ok (.iload_n 2, 1) := by decide +kernel
theorem d_Mo_with_7 : decode b_Mo_with 7 = .ok (.imul, 1) := by decide +kernel
theorem d_Mo_with_8 : decode b_Mo_with 8 = .ok (.lshl, 1) := by decide +kernel
theorem d_Mo_with_9 : decode b_Mo_with 9 = .ok (.ldc2_w 41, 3) := by decide +kernel
theorem d_Mo_with_12 : decode b_Mo_with 12 = .ok (.lxor, 1) := by decide +kernel
theorem d_Mo_with_13 : decode b_Mo_with 13 = .ok (.land, 1) := by decide +kernel
theorem d_Mo_with_14 : decode b_Mo_with 14 = .ok (.iload_n 3, 1) := by decide +kernel
theorem d_Mo_with_15 : decode b_Mo_with 15 = .ok (.i2l, 1) := by decide +kernel
theorem d_Mo_with_16 : decode b_Mo_with 16 = .ok (.bipush 8, 2) := by decide +kernel
theorem d_Mo_with_18 : decode b_Mo_with 18 = .ok (.iload_n 2, 1) := by decide +kernel
theorem d_Mo_with_19 : decode b_Mo_with 19 = .ok (.imul, 1) := by decide +kernel
theorem d_Mo_with_20 : decode b_Mo_with 20 = .ok (.lshl, 1) := by decide +kernel
theorem d_Mo_with_21 : decode b_Mo_with 21 = .ok (.lor, 1) := by decide +kernel
theorem d_Mo_with_22 : decode b_Mo_with 22 = .ok (.lreturn, 1) := by decide +kernel
def f_Mo_with (v0 : Int64) (v2 : Int32) (v3 : Int32) (S : zq_S) : Option (zq_S × Int64) :=
  some (S, ((v0 &&& ((zf_lshl (255 : Int64) ((8 : Int32) * v2)) ^^^ (-1 : Int64))) ||| (zf_lshl v3.toInt64 ((8 : Int32) * v2))))
set_option maxHeartbeats 4000000 in
set_option maxRecDepth 100000 in
theorem c_Mo_with {l : Launch} (hl : l.stackTraces = false) {G : zq_G} {v0 : Int64} {v2 : Int32} {v3 : Int32} {S0 T : zq_S} {v : Int64} (hf : f_Mo_with v0 v2 v3 S0 = some (T, v)) : zq_M l y_Mo_with (.code y_Mo_with b_Mo_with 4 (some (.long))) rm_Mo_with G [.long v0, .int v2, .int v3] S0 ((.inl (some (.long v)) : zq_R)) T := by
  refine zq_Mof (lo := [(0, .long v0), (2, .int v2), (3, .int v3)]) hl (by decide) (Nat.le_of_ble_eq_true rfl) rfl (fun X Z => ?_)
  have Z : Z_Mo_with l G S0 T v X := Z
  show zq_W (Y_Mo_with l G S0 T v) X 0 [(0, .long v0), (2, .int v2), (3, .int v3)] [] S0 0 0
  unfold f_Mo_with at hf
  refine zq_lload_n Z d_Mo_with_0 0 rfl ?_
  refine zq_ldc2 Z (255 : Int64) d_Mo_with_1 m_280 ?_
  refine zq_bipush Z (8 : Int32) d_Mo_with_4 (by decide) ?_
  refine zq_iload_n Z d_Mo_with_6 1 rfl ?_
  refine zq_imul Z d_Mo_with_7 ?_
  refine zq_lshl Z d_Mo_with_8 ?_
  refine zq_ldc2 Z (-1 : Int64) d_Mo_with_9 m_281 ?_
  refine zq_lxor Z d_Mo_with_12 ?_
  refine zq_land Z d_Mo_with_13 ?_
  refine zq_iload_n Z d_Mo_with_14 2 rfl ?_
  refine zq_i2l Z d_Mo_with_15 ?_
  refine zq_bipush Z (8 : Int32) d_Mo_with_16 (by decide) ?_
  refine zq_iload_n Z d_Mo_with_18 1 rfl ?_
  refine zq_imul Z d_Mo_with_19 ?_
  refine zq_lshl Z d_Mo_with_20 ?_
  refine zq_lor Z d_Mo_with_21 ?_
  exact zq_lret Z d_Mo_with_22 (zs_1 hf) (zs_2 (fun z => (.inl (some (.long z)) : zq_R)) hf) ⟨(Nat.le_of_ble_eq_true rfl), (Nat.le_of_ble_eq_true rfl)⟩
theorem d_Mo_author_0 : decode b_Mo_author 0 = .ok (.aload_n 0, 1) := by decide +kernel
theorem d_Mo_author_1 : decode b_Mo_author 1 = .ok (.iload_n 1, 1) := by decide +kernel
theorem d_Mo_author_2 : decode b_Mo_author 2 = .ok (.iconst 0, 1) := by decide +kernel
theorem d_Mo_author_3 : decode b_Mo_author 3 = .ok (.bipush 7, 2) := by decide +kernel
theorem d_Mo_author_5 : decode b_Mo_author 5 = .ok (.invokestatic 43, 3) := by decide +kernel
theorem d_Mo_author_8 : decode b_Mo_author 8 = .ok (.ifCond .eq 7, 3) := by decide +kernel
theorem d_Mo_author_11 : decode b_Mo_author 11 = .ok (.iconst 0, 1) := by decide +kernel
theorem d_Mo_author_12 : decode b_Mo_author 12 = .ok (.goto 4, 3) := by decide +kernel
theorem d_Mo_author_15 : decode b_Mo_author 15 = .ok (.iconst 1, 1) := by decide +kernel
theorem d_Mo_author_16 : decode b_Mo_author 16 = .ok (.putfield 35, 3) := by decide +kernel
theorem d_Mo_author_19 : decode b_Mo_author 19 = .ok (.aload_n 0, 1) := by decide +kernel
theorem d_Mo_author_20 : decode b_Mo_author 20 = .ok (.getfield 35, 3) := by decide +kernel
theorem d_Mo_author_23 : decode b_Mo_author 23 = .ok (.ifCond .le 5, 3) := by decide +kernel
theorem d_Mo_author_26 : decode b_Mo_author 26 = .ok (.iconst 0, 1) := by decide +kernel
theorem d_Mo_author_27 : decode b_Mo_author 27 = .ok (.ireturn, 1) := by decide +kernel
theorem d_Mo_author_28 : decode b_Mo_author 28 = .ok (.aload_n 0, 1) := by decide +kernel
theorem d_Mo_author_29 : decode b_Mo_author 29 = .ok (.getfield 47, 3) := by decide +kernel
theorem d_Mo_author_32 : decode b_Mo_author 32 = .ok (.istore_n 2, 1) := by decide +kernel
theorem d_Mo_author_33 : decode b_Mo_author 33 = .ok (.aload_n 0, 1) := by decide +kernel
theorem d_Mo_author_34 : decode b_Mo_author 34 = .ok (.iload_n 1, 1) := by decide +kernel
theorem d_Mo_author_35 : decode b_Mo_author 35 = .ok (.putfield 47, 3) := by decide +kernel
theorem d_Mo_author_38 : decode b_Mo_author 38 = .ok (.iload_n 2, 1) := by decide +kernel
theorem d_Mo_author_39 : decode b_Mo_author 39 = .ok (.ireturn, 1) := by decide +kernel
def f_Mo_author_16  (a0 : Nat) (v1 : Int32) (s0 : Option Nat) (s1 : Int32) (S : zq_S) : Option (zq_S × Int32) :=
  (s0).bind fun a1 =>
  (zs_p S a1 4 0 (.int s1)).bind fun S3 =>
  (zs_gi S3 a0 4 0).bind fun x5 =>
  if x5 ≤ 0 then
    (zs_gi S3 a0 4 1).bind fun x7 =>
    (zs_p S3 a0 4 1 (.int v1)).bind fun S9 =>
    some (S9, x7)
  else
    some (S3, (0 : Int32))
def f_Mo_author (a0 : Nat) (v1 : Int32) (S : zq_S) : Option (zq_S × Int32) :=
  zs_b (f_Mo_in v1 (0 : Int32) (7 : Int32) S) fun S2 x3 =>
  if x3 = 0 then
    f_Mo_author_16  a0 v1 (some a0) (1 : Int32) S2
  else
    f_Mo_author_16  a0 v1 (some a0) (0 : Int32) S2
set_option maxHeartbeats 4000000 in
set_option maxRecDepth 100000 in
theorem r_Mo_author_16 {l : Launch} (hl : l.stackTraces = false) {G : zq_G} {S0 T : zq_S} {v : Int32} {X : zq_X} (Z : Z_Mo_author l G S0 T v X) {a0 : Nat} {v1 : Int32} {s0 : Option Nat} {s1 : Int32} {S : zq_S} (hf : f_Mo_author_16  a0 v1 s0 s1 S = some (T, v)) : zq_W (Y_Mo_author l G S0 T v) X 16 [(0, .ref a0), (1, .int v1)] [.int s1, va_rf s0] S 0 0 := by
  unfold f_Mo_author_16 at hf
  have hq := Option.bind_eq_some_iff.mp hf
  clear hf
  obtain ⟨a1, h2, hf⟩ := hq
  subst h2
  have hq := Option.bind_eq_some_iff.mp hf
  clear hf
  obtain ⟨S3, h4, hf⟩ := hq
  refine zr_puti Z cd_Mo 0 d_Mo_author_16 (by decide) m_279 rfl (by decide +kernel) h4 ?_
  refine zq_aload_n Z d_Mo_author_19 0 rfl ?_
  have hq := Option.bind_eq_some_iff.mp hf
  clear hf
  obtain ⟨x5, h6, hf⟩ := hq
  refine zr_geti Z cd_Mo 0 d_Mo_author_20 (by decide) m_279 h6 ?_
  refine zq_if_le Z 28 d_Mo_author_23 (by decide) (fun q => ?_) (fun q => ?_)
  · replace hf := zs_T q hf
    refine zq_aload_n Z d_Mo_author_28 0 rfl ?_
    have hq := Option.bind_eq_some_iff.mp hf
    clear hf
    obtain ⟨x7, h8, hf⟩ := hq
    refine zr_geti Z cd_Mo 1 d_Mo_author_29 (by decide) m_282 h8 ?_
    refine zq_istore_n Z rfl [(2, .int x7), (0, .ref a0), (1, .int v1)] d_Mo_author_32 (by decide) rfl ?_
    refine zq_aload_n Z d_Mo_author_33 1 rfl ?_
    refine zq_iload_n Z d_Mo_author_34 2 rfl ?_
    have hq := Option.bind_eq_some_iff.mp hf
    clear hf
    obtain ⟨S9, h10, hf⟩ := hq
    refine zr_puti Z cd_Mo 1 d_Mo_author_35 (by decide) m_282 rfl (by decide +kernel) h10 ?_
    refine zq_iload_n Z d_Mo_author_38 0 rfl ?_
    exact zq_iret Z d_Mo_author_39 (zs_1 hf) (zs_2 (fun z => (.inl (some (.int z)) : zq_R)) hf) ⟨(Nat.le_of_ble_eq_true rfl), (Nat.le_of_ble_eq_true rfl)⟩
  · replace hf := zs_N q hf
    refine zq_iconst Z (0 : Int32) d_Mo_author_26 (by decide) ?_
    exact zq_iret Z d_Mo_author_27 (zs_1 hf) (zs_2 (fun z => (.inl (some (.int z)) : zq_R)) hf) ⟨(Nat.le_of_ble_eq_true rfl), (Nat.le_of_ble_eq_true rfl)⟩
set_option maxHeartbeats 4000000 in
set_option maxRecDepth 100000 in
theorem c_Mo_author {l : Launch} (hl : l.stackTraces = false) {G : zq_G} {a0 : Nat} {v1 : Int32} {S0 T : zq_S} {v : Int32} (hf : f_Mo_author a0 v1 S0 = some (T, v)) : zq_M l y_Mo_author (.code y_Mo_author b_Mo_author 3 (some (.int))) rm_Mo_author G [.ref a0, .int v1] S0 ((.inl (some (.int v)) : zq_R)) T := by
  refine zq_Mof (lo := [(0, .ref a0), (1, .int v1)]) hl (by decide) (Nat.le_of_ble_eq_true rfl) rfl (fun X Z => ?_)
  have Z : Z_Mo_author l G S0 T v X := Z
  show zq_W (Y_Mo_author l G S0 T v) X 0 [(0, .ref a0), (1, .int v1)] [] S0 0 0
  unfold f_Mo_author at hf
  refine zq_aload_n Z d_Mo_author_0 0 rfl ?_
  refine zq_iload_n Z d_Mo_author_1 1 rfl ?_
  refine zq_iconst Z (0 : Int32) d_Mo_author_2 (by decide) ?_
  refine zq_bipush Z (7 : Int32) d_Mo_author_3 (by decide) ?_
  have hq := zs_bS hf
  clear hf
  obtain ⟨S2, x3, h1, hf⟩ := hq
  refine zq_contR (zq_stepS Z zq_cf1 (c_Mo_in hl h1) d_Mo_author_5 m_283 m_284 m_285 m_286 p_Mo_in ⟨(Nat.le_of_ble_eq_true rfl), (Nat.le_of_ble_eq_true rfl), (Nat.le_of_ble_eq_true rfl), (Nat.le_of_ble_eq_true rfl)⟩ rfl (Nat.le_of_ble_eq_true rfl)) Z.p ?_
  refine zq_if_eq Z 15 d_Mo_author_8 (by decide) (fun q => ?_) (fun q => ?_)
  · replace hf := zs_T q hf
    refine zq_iconst Z (1 : Int32) d_Mo_author_15 (by decide) ?_
    refine zq_sub (lo' := [(0, .ref a0), (1, .int v1)]) [0, 1] rfl ?_
    show zq_W _ _ 16 _ [.int (1 : Int32), va_rf (some a0)] _ _ _
    exact r_Mo_author_16 hl Z  hf
  · replace hf := zs_N q hf
    refine zq_iconst Z (0 : Int32) d_Mo_author_11 (by decide) ?_
    refine zq_goto Z 16 d_Mo_author_12 (by decide) ?_
    refine zq_sub (lo' := [(0, .ref a0), (1, .int v1)]) [0, 1] rfl ?_
    show zq_W _ _ 16 _ [.int (0 : Int32), va_rf (some a0)] _ _ _
    exact r_Mo_author_16 hl Z  hf
theorem d_Mo_track_0 : decode b_Mo_track 0 = .ok (.aload_n 0, 1) := by decide +kernel
theorem d_Mo_track_1 : decode b_Mo_track 1 = .ok (.iconst 0, 1) := by decide +kernel
theorem d_Mo_track_2 : decode b_Mo_track 2 = .ok (.putfield 35, 3) := by decide +kernel
theorem d_Mo_track_5 : decode b_Mo_track 5 = .ok (.aload_n 0, 1) := by decide +kernel
theorem d_Mo_track_6 : decode b_Mo_track 6 = .ok (.getfield 50, 3) := by decide +kernel
theorem d_Mo_track_9 : decode b_Mo_track 9 = .ok (.istore_n 2, 1) := by decide +kernel
theorem d_Mo_track_10 : decode b_Mo_track 10 = .ok (.aload_n 0, 1) := by decide +kernel
theorem d_Mo_track_11 : decode b_Mo_track 11 = .ok (.iload_n 1, 1) := by decide +kernel
theorem d_Mo_track_12 : decode b_Mo_track 12 = .ok (.putfield 50, 3) := by decide +kernel
theorem d_Mo_track_15 : decode b_Mo_track 15 = .ok (.iload_n 2, 1) := by decide +kernel
theorem d_Mo_track_16 : decode b_Mo_track 16 = .ok (.ireturn, 1) := by decide +kernel
def f_Mo_track (a0 : Nat) (v1 : Int32) (S : zq_S) : Option (zq_S × Int32) :=
  (zs_p S a0 4 0 (.int (0 : Int32))).bind fun S1 =>
  (zs_gi S1 a0 4 2).bind fun x3 =>
  (zs_pz S1 a0 4 2 v1).bind fun S5 =>
  if x3 = 0 ∨ x3 = 1 then some (S5, x3) else none
set_option maxHeartbeats 4000000 in
set_option maxRecDepth 100000 in
theorem c_Mo_track {l : Launch} (hl : l.stackTraces = false) {G : zq_G} {a0 : Nat} {v1 : Int32} {S0 T : zq_S} {v : Int32} (hf : f_Mo_track a0 v1 S0 = some (T, v)) : zq_M l y_Mo_track (.code y_Mo_track b_Mo_track 3 (some (.boolean))) rm_Mo_track G [.ref a0, .int v1] S0 ((.inl (some (.int v)) : zq_R)) T := by
  refine zq_Mof (lo := [(0, .ref a0), (1, .int v1)]) hl (by decide) (Nat.le_of_ble_eq_true rfl) rfl (fun X Z => ?_)
  have Z : Z_Mo_track l G S0 T v X := Z
  show zq_W (Y_Mo_track l G S0 T v) X 0 [(0, .ref a0), (1, .int v1)] [] S0 0 0
  unfold f_Mo_track at hf
  refine zq_aload_n Z d_Mo_track_0 0 rfl ?_
  refine zq_iconst Z (0 : Int32) d_Mo_track_1 (by decide) ?_
  have hq := Option.bind_eq_some_iff.mp hf
  clear hf
  obtain ⟨S1, h2, hf⟩ := hq
  refine zr_puti Z cd_Mo 0 d_Mo_track_2 (by decide) m_279 rfl (by decide +kernel) h2 ?_
  refine zq_aload_n Z d_Mo_track_5 0 rfl ?_
  have hq := Option.bind_eq_some_iff.mp hf
  clear hf
  obtain ⟨x3, h4, hf⟩ := hq
  refine zr_geti Z cd_Mo 2 d_Mo_track_6 (by decide) m_287 h4 ?_
  refine zq_istore_n Z rfl [(2, .int x3), (0, .ref a0), (1, .int v1)] d_Mo_track_9 (by decide) rfl ?_
  refine zq_aload_n Z d_Mo_track_10 1 rfl ?_
  refine zq_iload_n Z d_Mo_track_11 2 rfl ?_
  have hq := Option.bind_eq_some_iff.mp hf
  clear hf
  obtain ⟨S5, h6, hf⟩ := hq
  refine zr_putz Z cd_Mo 2 d_Mo_track_12 (by decide) m_287 rfl (by decide +kernel) h6 ?_
  refine zq_iload_n Z d_Mo_track_15 0 rfl ?_
  have hq := zs_C hf
  clear hf
  obtain ⟨h7, hf⟩ := hq
  exact zq_zret Z d_Mo_track_16 h7 (zs_1 hf) (zs_2 (fun z => (.inl (some (.int z)) : zq_R)) hf) ⟨(Nat.le_of_ble_eq_true rfl), (Nat.le_of_ble_eq_true rfl)⟩
theorem d_Mo_command_0 : decode b_Mo_command 0 = .ok (.iload_n 0, 1) := by decide +kernel
theorem d_Mo_command_1 : decode b_Mo_command 1 = .ok (.iload_n 1, 1) := by decide +kernel
theorem d_Mo_command_2 : decode b_Mo_command 2 = .ok (.iconst 3, 1) := by decide +kernel
theorem d_Mo_command_3 : decode b_Mo_command 3 = .ok (.ishl, 1) := by decide +kernel
theorem d_Mo_command_4 : decode b_Mo_command 4 = .ok (.ior, 1) := by decide +kernel
theorem d_Mo_command_5 : decode b_Mo_command 5 = .ok (.iload_n 2, 1) := by decide +kernel
theorem d_Mo_command_6 : decode b_Mo_command 6 = .ok (.ifCond .eq 8, 3) := by decide +kernel
theorem d_Mo_command_9 : decode b_Mo_command 9 = .ok (.bipush 64, 2) := by decide +kernel
theorem d_Mo_command_11 : decode b_Mo_command 11 = .ok (.goto 4, 3) := by decide +kernel
theorem d_Mo_command_14 : decode b_Mo_command 14 = .ok (.iconst 0, 1) := by decide +kernel
theorem d_Mo_command_15 : decode b_Mo_command 15 = .ok (.ior, 1) := by decide +kernel
theorem d_Mo_command_16 : decode b_Mo_command 16 = .ok (.iload_n 3, 1) := by decide +kernel
theorem d_Mo_command_17 : decode b_Mo_command 17 = .ok (.bipush 7, 2) := by decide +kernel
theorem d_Mo_command_19 : decode b_Mo_command 19 = .ok (.ishl, 1) := by decide +kernel
theorem d_Mo_command_20 : decode b_Mo_command 20 = .ok (.ior, 1) := by decide +kernel
theorem d_Mo_command_21 : decode b_Mo_command 21 = .ok (.i2l, 1) := by decide +kernel
theorem d_Mo_command_22 : decode b_Mo_command 22 = .ok (.iload 4, 2) := by decide +kernel
theorem d_Mo_command_24 : decode b_Mo_command 24 = .ok (.i2l, 1) := by decide +kernel
theorem d_Mo_command_25 : decode b_Mo_command 25 = .ok (.bipush 16, 2) := by decide +kernel
theorem d_Mo_command_27 : decode b_Mo_command 27 = .ok (.lshl, 1) := by decide +kernel
theorem d_Mo_command_28 : decode b_Mo_command 28 = .ok (.lor, 1) := by decide +kernel
theorem d_Mo_command_29 : decode b_Mo_command 29 = .ok (.iload 5, 2) := by decide +kernel
theorem d_Mo_command_31 : decode b_Mo_command 31 = .ok (.i2l, 1) := by decide +kernel
theorem d_Mo_command_32 : decode b_Mo_command 32 = .ok (.bipush 32, 2) := by decide +kernel
theorem d_Mo_command_34 : decode b_Mo_command 34 = .ok (.lshl, 1) := by decide +kernel
theorem d_Mo_command_35 : decode b_Mo_command 35 = .ok (.lor, 1) := by decide +kernel
theorem d_Mo_command_36 : decode b_Mo_command 36 = .ok (.lreturn, 1) := by decide +kernel
def f_Mo_command_15  (v3 : Int32) (v4 : Int32) (v5 : Int32) (s0 : Int32) (s1 : Int32) (S : zq_S) : Option (zq_S × Int64) :=
  some (S, ((((s0 ||| s1) ||| (v3 <<< ((7 : Int32) &&& 31))).toInt64 ||| (zf_lshl v4.toInt64 (16 : Int32))) ||| (zf_lshl v5.toInt64 (32 : Int32))))
def f_Mo_command (v0 : Int32) (v1 : Int32) (v2 : Int32) (v3 : Int32) (v4 : Int32) (v5 : Int32) (S : zq_S) : Option (zq_S × Int64) :=
  if v2 = 0 then
    f_Mo_command_15  v3 v4 v5 (v0 ||| (v1 <<< ((3 : Int32) &&& 31))) (0 : Int32) S
  else
    f_Mo_command_15  v3 v4 v5 (v0 ||| (v1 <<< ((3 : Int32) &&& 31))) (64 : Int32) S
set_option maxHeartbeats 4000000 in
set_option maxRecDepth 100000 in
theorem r_Mo_command_15 {l : Launch} (hl : l.stackTraces = false) {G : zq_G} {S0 T : zq_S} {v : Int64} {X : zq_X} (Z : Z_Mo_command l G S0 T v X) {v3 : Int32} {v4 : Int32} {v5 : Int32} {s0 : Int32} {s1 : Int32} {S : zq_S} (hf : f_Mo_command_15  v3 v4 v5 s0 s1 S = some (T, v)) : zq_W (Y_Mo_command l G S0 T v) X 15 [(3, .int v3), (4, .int v4), (5, .int v5)] [.int s1, .int s0] S 0 0 := by
  unfold f_Mo_command_15 at hf
  refine zq_ior Z d_Mo_command_15 ?_
  refine zq_iload_n Z d_Mo_command_16 0 rfl ?_
  refine zq_bipush Z (7 : Int32) d_Mo_command_17 (by decide) ?_
  refine zq_ishl Z d_Mo_command_19 ?_
  refine zq_ior Z d_Mo_command_20 ?_
  refine zq_i2l Z d_Mo_command_21 ?_
  refine zq_iload Z d_Mo_command_22 1 rfl ?_
  refine zq_i2l Z d_Mo_command_24 ?_
  refine zq_bipush Z (16 : Int32) d_Mo_command_25 (by decide) ?_
  refine zq_lshl Z d_Mo_command_27 ?_
  refine zq_lor Z d_Mo_command_28 ?_
  refine zq_iload Z d_Mo_command_29 2 rfl ?_
  refine zq_i2l Z d_Mo_command_31 ?_
  refine zq_bipush Z (32 : Int32) d_Mo_command_32 (by decide) ?_
  refine zq_lshl Z d_Mo_command_34 ?_
  refine zq_lor Z d_Mo_command_35 ?_
  exact zq_lret Z d_Mo_command_36 (zs_1 hf) (zs_2 (fun z => (.inl (some (.long z)) : zq_R)) hf) ⟨(Nat.le_of_ble_eq_true rfl), (Nat.le_of_ble_eq_true rfl)⟩
set_option maxHeartbeats 4000000 in
set_option maxRecDepth 100000 in
theorem c_Mo_command {l : Launch} (hl : l.stackTraces = false) {G : zq_G} {v0 : Int32} {v1 : Int32} {v2 : Int32} {v3 : Int32} {v4 : Int32} {v5 : Int32} {S0 T : zq_S} {v : Int64} (hf : f_Mo_command v0 v1 v2 v3 v4 v5 S0 = some (T, v)) : zq_M l y_Mo_command (.code y_Mo_command b_Mo_command 6 (some (.long))) rm_Mo_command G [.int v0, .int v1, .int v2, .int v3, .int v4, .int v5] S0 ((.inl (some (.long v)) : zq_R)) T := by
  refine zq_Mof (lo := [(0, .int v0), (1, .int v1), (2, .int v2), (3, .int v3), (4, .int v4), (5, .int v5)]) hl (by decide) (Nat.le_of_ble_eq_true rfl) rfl (fun X Z => ?_)
  have Z : Z_Mo_command l G S0 T v X := Z
  show zq_W (Y_Mo_command l G S0 T v) X 0 [(0, .int v0), (1, .int v1), (2, .int v2), (3, .int v3), (4, .int v4), (5, .int v5)] [] S0 0 0
  unfold f_Mo_command at hf
  refine zq_iload_n Z d_Mo_command_0 0 rfl ?_
  refine zq_iload_n Z d_Mo_command_1 1 rfl ?_
  refine zq_iconst Z (3 : Int32) d_Mo_command_2 (by decide) ?_
  refine zq_ishl Z d_Mo_command_3 ?_
  refine zq_ior Z d_Mo_command_4 ?_
  refine zq_iload_n Z d_Mo_command_5 2 rfl ?_
  refine zq_if_eq Z 14 d_Mo_command_6 (by decide) (fun q => ?_) (fun q => ?_)
  · replace hf := zs_T q hf
    refine zq_iconst Z (0 : Int32) d_Mo_command_14 (by decide) ?_
    refine zq_sub (lo' := [(3, .int v3), (4, .int v4), (5, .int v5)]) [3, 4, 5] rfl ?_
    exact r_Mo_command_15 hl Z  hf
  · replace hf := zs_N q hf
    refine zq_bipush Z (64 : Int32) d_Mo_command_9 (by decide) ?_
    refine zq_goto Z 15 d_Mo_command_11 (by decide) ?_
    refine zq_sub (lo' := [(3, .int v3), (4, .int v4), (5, .int v5)]) [3, 4, 5] rfl ?_
    exact r_Mo_command_15 hl Z  hf
theorem d_Mo_put_0 : decode b_Mo_put 0 = .ok (.iconst 0, 1) := by decide +kernel
theorem d_Mo_put_1 : decode b_Mo_put 1 = .ok (.istore 6, 2) := by decide +kernel
theorem d_Mo_put_3 : decode b_Mo_put 3 = .ok (.iload 6, 2) := by decide +kernel
theorem d_Mo_put_5 : decode b_Mo_put 5 = .ok (.bipush 8, 2) := by decide +kernel
theorem d_Mo_put_7 : decode b_Mo_put 7 = .ok (.if_icmp .ge 25, 3) := by decide +kernel
theorem d_Mo_put_10 : decode b_Mo_put 10 = .ok (.lload_n 2, 1) := by decide +kernel
theorem d_Mo_put_11 : decode b_Mo_put 11 = .ok (.bipush 8, 2) := by decide +kernel
theorem d_Mo_put_13 : decode b_Mo_put 13 = .ok (.iload 6, 2) := by decide +kernel
theorem d_Mo_put_15 : decode b_Mo_put 15 = .ok (.imul, 1) := by decide +kernel
theorem d_Mo_put_16 : decode b_Mo_put 16 = .ok (.lshr, 1) := by decide +kernel
theorem d_Mo_put_17 : decode b_Mo_put 17 = .ok (.ldc2_w 39, 3) := by decide +kernel
theorem d_Mo_put_20 : decode b_Mo_put 20 = .ok (.land, 1) := by decide +kernel
theorem d_Mo_put_21 : decode b_Mo_put 21 = .ok (.lconst 0, 1) := by decide +kernel
theorem d_Mo_put_22 : decode b_Mo_put 22 = .ok (.lcmp, 1) := by decide +kernel
theorem d_Mo_put_23 : decode b_Mo_put 23 = .ok (.ifCond .eq 9, 3) := by decide +kernel
theorem d_Mo_put_26 : decode b_Mo_put 26 = .ok (.iinc 6 1, 3) := by decide +kernel
theorem d_Mo_put_29 : decode b_Mo_put 29 = .ok (.goto (-26), 3) := by decide +kernel
theorem d_Mo_put_32 : decode b_Mo_put 32 = .ok (.aload_n 0, 1) := by decide +kernel
theorem d_Mo_put_33 : decode b_Mo_put 33 = .ok (.getfield 59, 3) := by decide +kernel
theorem d_Mo_put_36 : decode b_Mo_put 36 = .ok (.iconst 1, 1) := by decide +kernel
theorem d_Mo_put_37 : decode b_Mo_put 37 = .ok (.isub, 1) := by decide +kernel
theorem d_Mo_put_38 : decode b_Mo_put 38 = .ok (.istore 7, 2) := by decide +kernel
theorem d_Mo_put_40 : decode b_Mo_put 40 = .ok (.iload 7, 2) := by decide +kernel
theorem d_Mo_put_42 : decode b_Mo_put 42 = .ok (.iload_n 1, 1) := by decide +kernel
theorem d_Mo_put_43 : decode b_Mo_put 43 = .ok (.if_icmp .lt 26, 3) := by decide +kernel
theorem d_Mo_put_46 : decode b_Mo_put 46 = .ok (.aload_n 0, 1) := by decide +kernel
theorem d_Mo_put_47 : decode b_Mo_put 47 = .ok (.getfield 7, 3) := by decide +kernel
theorem d_Mo_put_50 : decode b_Mo_put 50 = .ok (.iload 7, 2) := by decide +kernel
theorem d_Mo_put_52 : decode b_Mo_put 52 = .ok (.iload 6, 2) := by decide +kernel
theorem d_Mo_put_54 : decode b_Mo_put 54 = .ok (.iadd, 1) := by decide +kernel
theorem d_Mo_put_55 : decode b_Mo_put 55 = .ok (.aload_n 0, 1) := by decide +kernel
theorem d_Mo_put_56 : decode b_Mo_put 56 = .ok (.getfield 7, 3) := by decide +kernel
theorem d_Mo_put_59 : decode b_Mo_put 59 = .ok (.iload 7, 2) := by decide +kernel
theorem d_Mo_put_61 : decode b_Mo_put 61 = .ok (.laload, 1) := by decide +kernel
theorem d_Mo_put_62 : decode b_Mo_put 62 = .ok (.lastore, 1) := by decide +kernel
theorem d_Mo_put_63 : decode b_Mo_put 63 = .ok (.iinc 7 (-1), 3) := by decide +kernel
theorem d_Mo_put_66 : decode b_Mo_put 66 = .ok (.goto (-26), 3) := by decide +kernel
theorem d_Mo_put_69 : decode b_Mo_put 69 = .ok (.iconst 0, 1) := by decide +kernel
theorem d_Mo_put_70 : decode b_Mo_put 70 = .ok (.istore 7, 2) := by decide +kernel
theorem d_Mo_put_72 : decode b_Mo_put 72 = .ok (.iload 7, 2) := by decide +kernel
theorem d_Mo_put_74 : decode b_Mo_put 74 = .ok (.iload 6, 2) := by decide +kernel
theorem d_Mo_put_76 : decode b_Mo_put 76 = .ok (.if_icmp .ge 43, 3) := by decide +kernel
theorem d_Mo_put_79 : decode b_Mo_put 79 = .ok (.aload_n 0, 1) := by decide +kernel
theorem d_Mo_put_80 : decode b_Mo_put 80 = .ok (.getfield 7, 3) := by decide +kernel
theorem d_Mo_put_83 : decode b_Mo_put 83 = .ok (.iload_n 1, 1) := by decide +kernel
theorem d_Mo_put_84 : decode b_Mo_put 84 = .ok (.iload 7, 2) := by decide +kernel
theorem d_Mo_put_86 : decode b_Mo_put 86 = .ok (.iadd, 1) := by decide +kernel
theorem d_Mo_put_87 : decode b_Mo_put 87 = .ok (.lload_n 2, 1) := by decide +kernel
theorem d_Mo_put_88 : decode b_Mo_put 88 = .ok (.bipush 8, 2) := by decide +kernel
theorem d_Mo_put_90 : decode b_Mo_put 90 = .ok (.iload 7, 2) := by decide +kernel
theorem d_Mo_put_92 : decode b_Mo_put 92 = .ok (.imul, 1) := by decide +kernel
theorem d_Mo_put_93 : decode b_Mo_put 93 = .ok (.lshr, 1) := by decide +kernel
theorem d_Mo_put_94 : decode b_Mo_put 94 = .ok (.ldc2_w 39, 3) := by decide +kernel
theorem d_Mo_put_97 : decode b_Mo_put 97 = .ok (.land, 1) := by decide +kernel
theorem d_Mo_put_98 : decode b_Mo_put 98 = .ok (.iload 4, 2) := by decide +kernel
theorem d_Mo_put_100 : decode b_Mo_put 100 = .ok (.i2l, 1) := by decide +kernel
theorem d_Mo_put_101 : decode b_Mo_put 101 = .ok (.bipush 8, 2) := by decide +kernel
theorem d_Mo_put_103 : decode b_Mo_put 103 = .ok (.lshl, 1) := by decide +kernel
theorem d_Mo_put_104 : decode b_Mo_put 104 = .ok (.lor, 1) := by decide +kernel
theorem d_Mo_put_105 : decode b_Mo_put 105 = .ok (.iload 5, 2) := by decide +kernel
theorem d_Mo_put_107 : decode b_Mo_put 107 = .ok (.i2l, 1) := by decide +kernel
theorem d_Mo_put_108 : decode b_Mo_put 108 = .ok (.bipush 16, 2) := by decide +kernel
theorem d_Mo_put_110 : decode b_Mo_put 110 = .ok (.lshl, 1) := by decide +kernel
theorem d_Mo_put_111 : decode b_Mo_put 111 = .ok (.lor, 1) := by decide +kernel
theorem d_Mo_put_112 : decode b_Mo_put 112 = .ok (.lastore, 1) := by decide +kernel
theorem d_Mo_put_113 : decode b_Mo_put 113 = .ok (.iinc 7 1, 3) := by decide +kernel
theorem d_Mo_put_116 : decode b_Mo_put 116 = .ok (.goto (-44), 3) := by decide +kernel
theorem d_Mo_put_119 : decode b_Mo_put 119 = .ok (.aload_n 0, 1) := by decide +kernel
theorem d_Mo_put_120 : decode b_Mo_put 120 = .ok (.dup, 1) := by decide +kernel
theorem d_Mo_put_121 : decode b_Mo_put 121 = .ok (.getfield 59, 3) := by decide +kernel
theorem d_Mo_put_124 : decode b_Mo_put 124 = .ok (.iload 6, 2) := by decide +kernel
theorem d_Mo_put_126 : decode b_Mo_put 126 = .ok (.iadd, 1) := by decide +kernel
theorem d_Mo_put_127 : decode b_Mo_put 127 = .ok (.putfield 59, 3) := by decide +kernel
theorem d_Mo_put_130 : decode b_Mo_put 130 = .ok (.aload_n 0, 1) := by decide +kernel
theorem d_Mo_put_131 : decode b_Mo_put 131 = .ok (.getfield 59, 3) := by decide +kernel
theorem d_Mo_put_134 : decode b_Mo_put 134 = .ok (.ireturn, 1) := by decide +kernel
def f_Mo_put_72 (k72 : Nat → Int32 → Int64 → Int32 → Int32 → Int32 → Int32 → zq_S → Option (zq_S × Int32)) (a0 : Nat) (v1 : Int32) (v2 : Int64) (v4 : Int32) (v5 : Int32) (v6 : Int32) (v7 : Int32) (S : zq_S) : Option (zq_S × Int32) :=
  if v6 ≤ v7 then
    (zs_gi S a0 4 3).bind fun x1 =>
    (zs_p S a0 4 3 (.int (x1 + v6))).bind fun S3 =>
    (zs_gi S3 a0 4 3).bind fun x5 =>
    some (S3, x5)
  else
    (zs_gr S a0 4 4).bind fun x7 =>
    (x7).bind fun a9 =>
    (zs_las S a9 0 (v1 + v7) ((((zf_lshr v2 ((8 : Int32) * v7)) &&& (255 : Int64)) ||| (zf_lshl v4.toInt64 (8 : Int32))) ||| (zf_lshl v5.toInt64 (16 : Int32)))).bind fun S11 =>
    k72 a0 v1 v2 v4 v5 v6 (v7 + (1 : Int32)) S11
def g_Mo_put_72  : Nat → Nat → Int32 → Int64 → Int32 → Int32 → Int32 → Int32 → zq_S → Option (zq_S × Int32)
  | 0 => fun _ _ _ _ _ _ _ _ => none
  | n + 1 => fun a0 v1 v2 v4 v5 v6 v7 S => f_Mo_put_72  (g_Mo_put_72  n) a0 v1 v2 v4 v5 v6 v7 S
def f_Mo_put_40 (k40 : Nat → Int32 → Int64 → Int32 → Int32 → Int32 → Int32 → zq_S → Option (zq_S × Int32)) (a0 : Nat) (v1 : Int32) (v2 : Int64) (v4 : Int32) (v5 : Int32) (v6 : Int32) (v7 : Int32) (S : zq_S) : Option (zq_S × Int32) :=
  if v7 < v1 then
    g_Mo_put_72  zq_F a0 v1 v2 v4 v5 v6 (0 : Int32) S
  else
    (zs_gr S a0 4 4).bind fun x1 =>
    (zs_gr S a0 4 4).bind fun x3 =>
    (x3).bind fun a5 =>
    (zs_lal S a5 0 v7).bind fun x7 =>
    (x1).bind fun a9 =>
    (zs_las S a9 0 (v7 + v6) x7).bind fun S11 =>
    k40 a0 v1 v2 v4 v5 v6 (v7 + (-1 : Int32)) S11
def g_Mo_put_40  : Nat → Nat → Int32 → Int64 → Int32 → Int32 → Int32 → Int32 → zq_S → Option (zq_S × Int32)
  | 0 => fun _ _ _ _ _ _ _ _ => none
  | n + 1 => fun a0 v1 v2 v4 v5 v6 v7 S => f_Mo_put_40  (g_Mo_put_40  n) a0 v1 v2 v4 v5 v6 v7 S
def f_Mo_put_32  (a0 : Nat) (v1 : Int32) (v2 : Int64) (v4 : Int32) (v5 : Int32) (v6 : Int32) (S : zq_S) : Option (zq_S × Int32) :=
  (zs_gi S a0 4 3).bind fun x1 =>
  g_Mo_put_40  zq_F a0 v1 v2 v4 v5 v6 (x1 - (1 : Int32)) S
def f_Mo_put_3 (k3 : Nat → Int32 → Int64 → Int32 → Int32 → Int32 → zq_S → Option (zq_S × Int32)) (a0 : Nat) (v1 : Int32) (v2 : Int64) (v4 : Int32) (v5 : Int32) (v6 : Int32) (S : zq_S) : Option (zq_S × Int32) :=
  if (8 : Int32) ≤ v6 then
    f_Mo_put_32  a0 v1 v2 v4 v5 v6 S
  else
    if (lg_cmp ((zf_lshr v2 ((8 : Int32) * v6)) &&& (255 : Int64)) (0 : Int64)) = 0 then
      f_Mo_put_32  a0 v1 v2 v4 v5 v6 S
    else
      k3 a0 v1 v2 v4 v5 (v6 + (1 : Int32)) S
def g_Mo_put_3  : Nat → Nat → Int32 → Int64 → Int32 → Int32 → Int32 → zq_S → Option (zq_S × Int32)
  | 0 => fun _ _ _ _ _ _ _ => none
  | n + 1 => fun a0 v1 v2 v4 v5 v6 S => f_Mo_put_3  (g_Mo_put_3  n) a0 v1 v2 v4 v5 v6 S
def f_Mo_put (a0 : Nat) (v1 : Int32) (v2 : Int64) (v4 : Int32) (v5 : Int32) (S : zq_S) : Option (zq_S × Int32) :=
  g_Mo_put_3  zq_F a0 v1 v2 v4 v5 (0 : Int32) S
set_option maxHeartbeats 4000000 in
set_option maxRecDepth 100000 in
theorem r_Mo_put_72 {l : Launch} (hl : l.stackTraces = false) {G : zq_G} {S0 T : zq_S} {v : Int32} {X : zq_X} (Z : Z_Mo_put l G S0 T v X) {k72 : Nat → Int32 → Int64 → Int32 → Int32 → Int32 → Int32 → zq_S → Option (zq_S × Int32)} (hk72 : ∀ (a0 : Nat) (v1 : Int32) (v2 : Int64) (v4 : Int32) (v5 : Int32) (v6 : Int32) (v7 : Int32) (S : zq_S), k72 a0 v1 v2 v4 v5 v6 v7 S = some (T, v) → zq_W (Y_Mo_put l G S0 T v) X 72 [(0, .ref a0), (1, .int v1), (2, .long v2), (4, .int v4), (5, .int v5), (6, .int v6), (7, .int v7)] [] S 0 0) {a0 : Nat} {v1 : Int32} {v2 : Int64} {v4 : Int32} {v5 : Int32} {v6 : Int32} {v7 : Int32} {S : zq_S} (hf : f_Mo_put_72 k72 a0 v1 v2 v4 v5 v6 v7 S = some (T, v)) : zq_W (Y_Mo_put l G S0 T v) X 72 [(0, .ref a0), (1, .int v1), (2, .long v2), (4, .int v4), (5, .int v5), (6, .int v6), (7, .int v7)] [] S 0 0 := by
  unfold f_Mo_put_72 at hf
  refine zq_iload Z d_Mo_put_72 6 rfl ?_
  refine zq_iload Z d_Mo_put_74 5 rfl ?_
  refine zq_icmp_ge Z 119 d_Mo_put_76 (by decide) (fun q => ?_) (fun q => ?_)
  · replace hf := zs_T q hf
    refine zq_aload_n Z d_Mo_put_119 0 rfl ?_
    refine zq_dup Z d_Mo_put_120 rfl ?_
    have hq := Option.bind_eq_some_iff.mp hf
    clear hf
    obtain ⟨x1, h2, hf⟩ := hq
    refine zr_geti Z cd_Mo 3 d_Mo_put_121 (by decide) m_288 h2 ?_
    refine zq_iload Z d_Mo_put_124 5 rfl ?_
    refine zq_iadd Z d_Mo_put_126 ?_
    have hq := Option.bind_eq_some_iff.mp hf
    clear hf
    obtain ⟨S3, h4, hf⟩ := hq
    refine zr_puti Z cd_Mo 3 d_Mo_put_127 (by decide) m_288 rfl (by decide +kernel) h4 ?_
    refine zq_aload_n Z d_Mo_put_130 0 rfl ?_
    have hq := Option.bind_eq_some_iff.mp hf
    clear hf
    obtain ⟨x5, h6, hf⟩ := hq
    refine zr_geti Z cd_Mo 3 d_Mo_put_131 (by decide) m_288 h6 ?_
    exact zq_iret Z d_Mo_put_134 (zs_1 hf) (zs_2 (fun z => (.inl (some (.int z)) : zq_R)) hf) ⟨(Nat.le_of_ble_eq_true rfl), (Nat.le_of_ble_eq_true rfl)⟩
  · replace hf := zs_N q hf
    refine zq_aload_n Z d_Mo_put_79 0 rfl ?_
    have hq := Option.bind_eq_some_iff.mp hf
    clear hf
    obtain ⟨x7, h8, hf⟩ := hq
    refine zr_getr Z cd_Mo 4 d_Mo_put_80 (by decide) m_270 h8 ?_
    refine zq_iload_n Z d_Mo_put_83 1 rfl ?_
    refine zq_iload Z d_Mo_put_84 6 rfl ?_
    refine zq_iadd Z d_Mo_put_86 ?_
    refine zq_lload_n Z d_Mo_put_87 2 rfl ?_
    refine zq_bipush Z (8 : Int32) d_Mo_put_88 (by decide) ?_
    refine zq_iload Z d_Mo_put_90 6 rfl ?_
    refine zq_imul Z d_Mo_put_92 ?_
    refine zq_lshr Z d_Mo_put_93 ?_
    refine zq_ldc2 Z (255 : Int64) d_Mo_put_94 m_280 ?_
    refine zq_land Z d_Mo_put_97 ?_
    refine zq_iload Z d_Mo_put_98 3 rfl ?_
    refine zq_i2l Z d_Mo_put_100 ?_
    refine zq_bipush Z (8 : Int32) d_Mo_put_101 (by decide) ?_
    refine zq_lshl Z d_Mo_put_103 ?_
    refine zq_lor Z d_Mo_put_104 ?_
    refine zq_iload Z d_Mo_put_105 4 rfl ?_
    refine zq_i2l Z d_Mo_put_107 ?_
    refine zq_bipush Z (16 : Int32) d_Mo_put_108 (by decide) ?_
    refine zq_lshl Z d_Mo_put_110 ?_
    refine zq_lor Z d_Mo_put_111 ?_
    have hq := Option.bind_eq_some_iff.mp hf
    clear hf
    obtain ⟨a9, h10, hf⟩ := hq
    subst h10
    have hq := Option.bind_eq_some_iff.mp hf
    clear hf
    obtain ⟨S11, h12, hf⟩ := hq
    refine zr_lastore Z 0 (fun _ => rfl) d_Mo_put_112 h12 ?_
    refine zq_iinc Z (v7 + (1 : Int32)) [(7, .int (v7 + (1 : Int32))), (0, .ref a0), (1, .int v1), (2, .long v2), (4, .int v4), (5, .int v5), (6, .int v6)] d_Mo_put_113 6 rfl rfl (by decide) rfl ?_
    refine zq_goto Z 72 d_Mo_put_116 (by decide) ?_
    refine zq_sub (lo' := [(0, .ref a0), (1, .int v1), (2, .long v2), (4, .int v4), (5, .int v5), (6, .int v6), (7, .int (v7 + (1 : Int32)))]) [1, 2, 3, 4, 5, 6, 0] rfl ?_
    exact hk72 _ _ _ _ _ _ _ _ hf
theorem w_Mo_put_72 {l : Launch} (hl : l.stackTraces = false) {G : zq_G} {S0 T : zq_S} {v : Int32} {X : zq_X} (Z : Z_Mo_put l G S0 T v X) : ∀ (n : Nat) (a0 : Nat) (v1 : Int32) (v2 : Int64) (v4 : Int32) (v5 : Int32) (v6 : Int32) (v7 : Int32) (S : zq_S), g_Mo_put_72  n a0 v1 v2 v4 v5 v6 v7 S = some (T, v) → zq_W (Y_Mo_put l G S0 T v) X 72 [(0, .ref a0), (1, .int v1), (2, .long v2), (4, .int v4), (5, .int v5), (6, .int v6), (7, .int v7)] [] S 0 0 := by
  intro n
  induction n with
  | zero => intro a0 v1 v2 v4 v5 v6 v7 S hf; cases hf
  | succ n ih =>
    intro a0 v1 v2 v4 v5 v6 v7 S hf
    have hf : f_Mo_put_72  (g_Mo_put_72  n) a0 v1 v2 v4 v5 v6 v7 S = some (T, v) := hf
    exact r_Mo_put_72 hl Z  ih hf
set_option maxHeartbeats 4000000 in
set_option maxRecDepth 100000 in
theorem r_Mo_put_40 {l : Launch} (hl : l.stackTraces = false) {G : zq_G} {S0 T : zq_S} {v : Int32} {X : zq_X} (Z : Z_Mo_put l G S0 T v X) {k40 : Nat → Int32 → Int64 → Int32 → Int32 → Int32 → Int32 → zq_S → Option (zq_S × Int32)} (hk40 : ∀ (a0 : Nat) (v1 : Int32) (v2 : Int64) (v4 : Int32) (v5 : Int32) (v6 : Int32) (v7 : Int32) (S : zq_S), k40 a0 v1 v2 v4 v5 v6 v7 S = some (T, v) → zq_W (Y_Mo_put l G S0 T v) X 40 [(0, .ref a0), (1, .int v1), (2, .long v2), (4, .int v4), (5, .int v5), (6, .int v6), (7, .int v7)] [] S 0 0) {a0 : Nat} {v1 : Int32} {v2 : Int64} {v4 : Int32} {v5 : Int32} {v6 : Int32} {v7 : Int32} {S : zq_S} (hf : f_Mo_put_40 k40 a0 v1 v2 v4 v5 v6 v7 S = some (T, v)) : zq_W (Y_Mo_put l G S0 T v) X 40 [(0, .ref a0), (1, .int v1), (2, .long v2), (4, .int v4), (5, .int v5), (6, .int v6), (7, .int v7)] [] S 0 0 := by
  unfold f_Mo_put_40 at hf
  refine zq_iload Z d_Mo_put_40 6 rfl ?_
  refine zq_iload_n Z d_Mo_put_42 1 rfl ?_
  refine zq_icmp_lt Z 69 d_Mo_put_43 (by decide) (fun q => ?_) (fun q => ?_)
  · replace hf := zs_T q hf
    refine zq_iconst Z (0 : Int32) d_Mo_put_69 (by decide) ?_
    refine zq_istore Z [(7, .int (0 : Int32)), (0, .ref a0), (1, .int v1), (2, .long v2), (4, .int v4), (5, .int v5), (6, .int v6)] d_Mo_put_70 (by decide) rfl ?_
    refine zq_sub (lo' := [(0, .ref a0), (1, .int v1), (2, .long v2), (4, .int v4), (5, .int v5), (6, .int v6), (7, .int (0 : Int32))]) [1, 2, 3, 4, 5, 6, 0] rfl ?_
    exact w_Mo_put_72 hl Z  _ _ _ _ _ _ _ _ _ hf
  · replace hf := zs_N q hf
    refine zq_aload_n Z d_Mo_put_46 0 rfl ?_
    have hq := Option.bind_eq_some_iff.mp hf
    clear hf
    obtain ⟨x1, h2, hf⟩ := hq
    refine zr_getr Z cd_Mo 4 d_Mo_put_47 (by decide) m_270 h2 ?_
    refine zq_iload Z d_Mo_put_50 6 rfl ?_
    refine zq_iload Z d_Mo_put_52 5 rfl ?_
    refine zq_iadd Z d_Mo_put_54 ?_
    refine zq_aload_n Z d_Mo_put_55 0 rfl ?_
    have hq := Option.bind_eq_some_iff.mp hf
    clear hf
    obtain ⟨x3, h4, hf⟩ := hq
    refine zr_getr Z cd_Mo 4 d_Mo_put_56 (by decide) m_270 h4 ?_
    refine zq_iload Z d_Mo_put_59 6 rfl ?_
    have hq := Option.bind_eq_some_iff.mp hf
    clear hf
    obtain ⟨a5, h6, hf⟩ := hq
    subst h6
    have hq := Option.bind_eq_some_iff.mp hf
    clear hf
    obtain ⟨x7, h8, hf⟩ := hq
    refine zr_laload Z 0 (fun _ => rfl) d_Mo_put_61 h8 ?_
    have hq := Option.bind_eq_some_iff.mp hf
    clear hf
    obtain ⟨a9, h10, hf⟩ := hq
    subst h10
    have hq := Option.bind_eq_some_iff.mp hf
    clear hf
    obtain ⟨S11, h12, hf⟩ := hq
    refine zr_lastore Z 0 (fun _ => rfl) d_Mo_put_62 h12 ?_
    refine zq_iinc Z (v7 + (-1 : Int32)) [(7, .int (v7 + (-1 : Int32))), (0, .ref a0), (1, .int v1), (2, .long v2), (4, .int v4), (5, .int v5), (6, .int v6)] d_Mo_put_63 6 rfl rfl (by decide) rfl ?_
    refine zq_goto Z 40 d_Mo_put_66 (by decide) ?_
    refine zq_sub (lo' := [(0, .ref a0), (1, .int v1), (2, .long v2), (4, .int v4), (5, .int v5), (6, .int v6), (7, .int (v7 + (-1 : Int32)))]) [1, 2, 3, 4, 5, 6, 0] rfl ?_
    exact hk40 _ _ _ _ _ _ _ _ hf
theorem w_Mo_put_40 {l : Launch} (hl : l.stackTraces = false) {G : zq_G} {S0 T : zq_S} {v : Int32} {X : zq_X} (Z : Z_Mo_put l G S0 T v X) : ∀ (n : Nat) (a0 : Nat) (v1 : Int32) (v2 : Int64) (v4 : Int32) (v5 : Int32) (v6 : Int32) (v7 : Int32) (S : zq_S), g_Mo_put_40  n a0 v1 v2 v4 v5 v6 v7 S = some (T, v) → zq_W (Y_Mo_put l G S0 T v) X 40 [(0, .ref a0), (1, .int v1), (2, .long v2), (4, .int v4), (5, .int v5), (6, .int v6), (7, .int v7)] [] S 0 0 := by
  intro n
  induction n with
  | zero => intro a0 v1 v2 v4 v5 v6 v7 S hf; cases hf
  | succ n ih =>
    intro a0 v1 v2 v4 v5 v6 v7 S hf
    have hf : f_Mo_put_40  (g_Mo_put_40  n) a0 v1 v2 v4 v5 v6 v7 S = some (T, v) := hf
    exact r_Mo_put_40 hl Z  ih hf
set_option maxHeartbeats 4000000 in
set_option maxRecDepth 100000 in
theorem r_Mo_put_32 {l : Launch} (hl : l.stackTraces = false) {G : zq_G} {S0 T : zq_S} {v : Int32} {X : zq_X} (Z : Z_Mo_put l G S0 T v X) {a0 : Nat} {v1 : Int32} {v2 : Int64} {v4 : Int32} {v5 : Int32} {v6 : Int32} {S : zq_S} (hf : f_Mo_put_32  a0 v1 v2 v4 v5 v6 S = some (T, v)) : zq_W (Y_Mo_put l G S0 T v) X 32 [(0, .ref a0), (1, .int v1), (2, .long v2), (4, .int v4), (5, .int v5), (6, .int v6)] [] S 0 0 := by
  unfold f_Mo_put_32 at hf
  refine zq_aload_n Z d_Mo_put_32 0 rfl ?_
  have hq := Option.bind_eq_some_iff.mp hf
  clear hf
  obtain ⟨x1, h2, hf⟩ := hq
  refine zr_geti Z cd_Mo 3 d_Mo_put_33 (by decide) m_288 h2 ?_
  refine zq_iconst Z (1 : Int32) d_Mo_put_36 (by decide) ?_
  refine zq_isub Z d_Mo_put_37 ?_
  refine zq_istore Z [(7, .int (x1 - (1 : Int32))), (0, .ref a0), (1, .int v1), (2, .long v2), (4, .int v4), (5, .int v5), (6, .int v6)] d_Mo_put_38 (by decide) rfl ?_
  refine zq_sub (lo' := [(0, .ref a0), (1, .int v1), (2, .long v2), (4, .int v4), (5, .int v5), (6, .int v6), (7, .int (x1 - (1 : Int32)))]) [1, 2, 3, 4, 5, 6, 0] rfl ?_
  exact w_Mo_put_40 hl Z  _ _ _ _ _ _ _ _ _ hf
set_option maxHeartbeats 4000000 in
set_option maxRecDepth 100000 in
theorem r_Mo_put_3 {l : Launch} (hl : l.stackTraces = false) {G : zq_G} {S0 T : zq_S} {v : Int32} {X : zq_X} (Z : Z_Mo_put l G S0 T v X) {k3 : Nat → Int32 → Int64 → Int32 → Int32 → Int32 → zq_S → Option (zq_S × Int32)} (hk3 : ∀ (a0 : Nat) (v1 : Int32) (v2 : Int64) (v4 : Int32) (v5 : Int32) (v6 : Int32) (S : zq_S), k3 a0 v1 v2 v4 v5 v6 S = some (T, v) → zq_W (Y_Mo_put l G S0 T v) X 3 [(0, .ref a0), (1, .int v1), (2, .long v2), (4, .int v4), (5, .int v5), (6, .int v6)] [] S 0 0) {a0 : Nat} {v1 : Int32} {v2 : Int64} {v4 : Int32} {v5 : Int32} {v6 : Int32} {S : zq_S} (hf : f_Mo_put_3 k3 a0 v1 v2 v4 v5 v6 S = some (T, v)) : zq_W (Y_Mo_put l G S0 T v) X 3 [(0, .ref a0), (1, .int v1), (2, .long v2), (4, .int v4), (5, .int v5), (6, .int v6)] [] S 0 0 := by
  unfold f_Mo_put_3 at hf
  refine zq_iload Z d_Mo_put_3 5 rfl ?_
  refine zq_bipush Z (8 : Int32) d_Mo_put_5 (by decide) ?_
  refine zq_icmp_ge Z 32 d_Mo_put_7 (by decide) (fun q => ?_) (fun q => ?_)
  · replace hf := zs_T q hf
    refine zq_sub (lo' := [(0, .ref a0), (1, .int v1), (2, .long v2), (4, .int v4), (5, .int v5), (6, .int v6)]) [0, 1, 2, 3, 4, 5] rfl ?_
    exact r_Mo_put_32 hl Z  hf
  · replace hf := zs_N q hf
    refine zq_lload_n Z d_Mo_put_10 2 rfl ?_
    refine zq_bipush Z (8 : Int32) d_Mo_put_11 (by decide) ?_
    refine zq_iload Z d_Mo_put_13 5 rfl ?_
    refine zq_imul Z d_Mo_put_15 ?_
    refine zq_lshr Z d_Mo_put_16 ?_
    refine zq_ldc2 Z (255 : Int64) d_Mo_put_17 m_280 ?_
    refine zq_land Z d_Mo_put_20 ?_
    refine zq_lconst Z (0 : Int64) d_Mo_put_21 (by decide) ?_
    refine zq_lcmp Z d_Mo_put_22 ?_
    refine zq_if_eq Z 32 d_Mo_put_23 (by decide) (fun q => ?_) (fun q => ?_)
    · replace hf := zs_T q hf
      refine zq_sub (lo' := [(0, .ref a0), (1, .int v1), (2, .long v2), (4, .int v4), (5, .int v5), (6, .int v6)]) [0, 1, 2, 3, 4, 5] rfl ?_
      exact r_Mo_put_32 hl Z  hf
    · replace hf := zs_N q hf
      refine zq_iinc Z (v6 + (1 : Int32)) [(6, .int (v6 + (1 : Int32))), (0, .ref a0), (1, .int v1), (2, .long v2), (4, .int v4), (5, .int v5)] d_Mo_put_26 5 rfl rfl (by decide) rfl ?_
      refine zq_goto Z 3 d_Mo_put_29 (by decide) ?_
      refine zq_sub (lo' := [(0, .ref a0), (1, .int v1), (2, .long v2), (4, .int v4), (5, .int v5), (6, .int (v6 + (1 : Int32)))]) [1, 2, 3, 4, 5, 0] rfl ?_
      exact hk3 _ _ _ _ _ _ _ hf
theorem w_Mo_put_3 {l : Launch} (hl : l.stackTraces = false) {G : zq_G} {S0 T : zq_S} {v : Int32} {X : zq_X} (Z : Z_Mo_put l G S0 T v X) : ∀ (n : Nat) (a0 : Nat) (v1 : Int32) (v2 : Int64) (v4 : Int32) (v5 : Int32) (v6 : Int32) (S : zq_S), g_Mo_put_3  n a0 v1 v2 v4 v5 v6 S = some (T, v) → zq_W (Y_Mo_put l G S0 T v) X 3 [(0, .ref a0), (1, .int v1), (2, .long v2), (4, .int v4), (5, .int v5), (6, .int v6)] [] S 0 0 := by
  intro n
  induction n with
  | zero => intro a0 v1 v2 v4 v5 v6 S hf; cases hf
  | succ n ih =>
    intro a0 v1 v2 v4 v5 v6 S hf
    have hf : f_Mo_put_3  (g_Mo_put_3  n) a0 v1 v2 v4 v5 v6 S = some (T, v) := hf
    exact r_Mo_put_3 hl Z  ih hf
set_option maxHeartbeats 4000000 in
set_option maxRecDepth 100000 in
theorem c_Mo_put {l : Launch} (hl : l.stackTraces = false) {G : zq_G} {a0 : Nat} {v1 : Int32} {v2 : Int64} {v4 : Int32} {v5 : Int32} {S0 T : zq_S} {v : Int32} (hf : f_Mo_put a0 v1 v2 v4 v5 S0 = some (T, v)) : zq_M l y_Mo_put (.code y_Mo_put b_Mo_put 8 (some (.int))) rm_Mo_put G [.ref a0, .int v1, .long v2, .int v4, .int v5] S0 ((.inl (some (.int v)) : zq_R)) T := by
  refine zq_Mof (lo := [(0, .ref a0), (1, .int v1), (2, .long v2), (4, .int v4), (5, .int v5)]) hl (by decide) (Nat.le_of_ble_eq_true rfl) rfl (fun X Z => ?_)
  have Z : Z_Mo_put l G S0 T v X := Z
  show zq_W (Y_Mo_put l G S0 T v) X 0 [(0, .ref a0), (1, .int v1), (2, .long v2), (4, .int v4), (5, .int v5)] [] S0 0 0
  unfold f_Mo_put at hf
  refine zq_iconst Z (0 : Int32) d_Mo_put_0 (by decide) ?_
  refine zq_istore Z [(6, .int (0 : Int32)), (0, .ref a0), (1, .int v1), (2, .long v2), (4, .int v4), (5, .int v5)] d_Mo_put_1 (by decide) rfl ?_
  refine zq_sub (lo' := [(0, .ref a0), (1, .int v1), (2, .long v2), (4, .int v4), (5, .int v5), (6, .int (0 : Int32))]) [1, 2, 3, 4, 5, 0] rfl ?_
  exact w_Mo_put_3 hl Z  _ _ _ _ _ _ _ _ hf
theorem d_Mo_formatted_0 : decode b_Mo_formatted 0 = .ok (.iload_n 3, 1) := by decide +kernel
theorem d_Mo_formatted_1 : decode b_Mo_formatted 1 = .ok (.ifCond .ne 21, 3) := by decide +kernel
theorem d_Mo_formatted_4 : decode b_Mo_formatted 4 = .ok (.lload_n 0, 1) := by decide +kernel
theorem d_Mo_formatted_5 : decode b_Mo_formatted 5 = .ok (.iconst 1, 1) := by decide +kernel
theorem d_Mo_formatted_6 : decode b_Mo_formatted 6 = .ok (.iload 5, 2) := by decide +kernel
theorem d_Mo_formatted_8 : decode b_Mo_formatted 8 = .ok (.invokestatic 70, 3) := by decide +kernel
theorem d_Mo_formatted_11 : decode b_Mo_formatted 11 = .ok (.iconst 4, 1) := by decide +kernel
theorem d_Mo_formatted_12 : decode b_Mo_formatted 12 = .ok (.iconst 0, 1) := by decide +kernel
theorem d_Mo_formatted_13 : decode b_Mo_formatted 13 = .ok (.invokestatic 70, 3) := by decide +kernel
theorem d_Mo_formatted_16 : decode b_Mo_formatted 16 = .ok (.iconst 5, 1) := by decide +kernel
theorem d_Mo_formatted_17 : decode b_Mo_formatted 17 = .ok (.iconst 0, 1) := by decide +kernel
theorem d_Mo_formatted_18 : decode b_Mo_formatted 18 = .ok (.invokestatic 70, 3) := by decide +kernel
theorem d_Mo_formatted_21 : decode b_Mo_formatted 21 = .ok (.lreturn, 1) := by decide +kernel
theorem d_Mo_formatted_22 : decode b_Mo_formatted 22 = .ok (.iload 4, 2) := by decide +kernel
theorem d_Mo_formatted_24 : decode b_Mo_formatted 24 = .ok (.ifCond .eq 11, 3) := by decide +kernel
theorem d_Mo_formatted_27 : decode b_Mo_formatted 27 = .ok (.lload_n 0, 1) := by decide +kernel
theorem d_Mo_formatted_28 : decode b_Mo_formatted 28 = .ok (.iconst 1, 1) := by decide +kernel
theorem d_Mo_formatted_29 : decode b_Mo_formatted 29 = .ok (.iload 5, 2) := by decide +kernel
theorem d_Mo_formatted_31 : decode b_Mo_formatted 31 = .ok (.invokestatic 70, 3) := by decide +kernel
theorem d_Mo_formatted_34 : decode b_Mo_formatted 34 = .ok (.lreturn, 1) := by decide +kernel
theorem d_Mo_formatted_35 : decode b_Mo_formatted 35 = .ok (.lload_n 0, 1) := by decide +kernel
theorem d_Mo_formatted_36 : decode b_Mo_formatted 36 = .ok (.iconst 4, 1) := by decide +kernel
theorem d_Mo_formatted_37 : decode b_Mo_formatted 37 = .ok (.invokestatic 66, 3) := by decide +kernel
theorem d_Mo_formatted_40 : decode b_Mo_formatted 40 = .ok (.istore 6, 2) := by decide +kernel
theorem d_Mo_formatted_42 : decode b_Mo_formatted 42 = .ok (.iload 6, 2) := by decide +kernel
theorem d_Mo_formatted_44 : decode b_Mo_formatted 44 = .ok (.ifCond .ne 15, 3) := by decide +kernel
theorem d_Mo_formatted_47 : decode b_Mo_formatted 47 = .ok (.lload_n 0, 1) := by decide +kernel
theorem d_Mo_formatted_48 : decode b_Mo_formatted 48 = .ok (.iconst 1, 1) := by decide +kernel
theorem d_Mo_formatted_49 : decode b_Mo_formatted 49 = .ok (.invokestatic 66, 3) := by decide +kernel
theorem d_Mo_formatted_52 : decode b_Mo_formatted 52 = .ok (.iload 5, 2) := by decide +kernel
theorem d_Mo_formatted_54 : decode b_Mo_formatted 54 = .ok (.if_icmp .ne 5, 3) := by decide +kernel
theorem d_Mo_formatted_57 : decode b_Mo_formatted 57 = .ok (.lload_n 0, 1) := by decide +kernel
theorem d_Mo_formatted_58 : decode b_Mo_formatted 58 = .ok (.lreturn, 1) := by decide +kernel
theorem d_Mo_formatted_59 : decode b_Mo_formatted 59 = .ok (.iload 6, 2) := by decide +kernel
theorem d_Mo_formatted_61 : decode b_Mo_formatted 61 = .ok (.ifCond .ne 11, 3) := by decide +kernel
theorem d_Mo_formatted_64 : decode b_Mo_formatted 64 = .ok (.lload_n 0, 1) := by decide +kernel
theorem d_Mo_formatted_65 : decode b_Mo_formatted 65 = .ok (.iconst 1, 1) := by decide +kernel
theorem d_Mo_formatted_66 : decode b_Mo_formatted 66 = .ok (.invokestatic 66, 3) := by decide +kernel
theorem d_Mo_formatted_69 : decode b_Mo_formatted 69 = .ok (.goto 8, 3) := by decide +kernel
theorem d_Mo_formatted_72 : decode b_Mo_formatted 72 = .ok (.lload_n 0, 1) := by decide +kernel
theorem d_Mo_formatted_73 : decode b_Mo_formatted 73 = .ok (.iconst 5, 1) := by decide +kernel
theorem d_Mo_formatted_74 : decode b_Mo_formatted 74 = .ok (.invokestatic 66, 3) := by decide +kernel
theorem d_Mo_formatted_77 : decode b_Mo_formatted 77 = .ok (.istore 7, 2) := by decide +kernel
theorem d_Mo_formatted_79 : decode b_Mo_formatted 79 = .ok (.iload 5, 2) := by decide +kernel
theorem d_Mo_formatted_81 : decode b_Mo_formatted 81 = .ok (.iload 7, 2) := by decide +kernel
theorem d_Mo_formatted_83 : decode b_Mo_formatted 83 = .ok (.if_icmp .ne 21, 3) := by decide +kernel
theorem d_Mo_formatted_86 : decode b_Mo_formatted 86 = .ok (.lload_n 0, 1) := by decide +kernel
theorem d_Mo_formatted_87 : decode b_Mo_formatted 87 = .ok (.iconst 1, 1) := by decide +kernel
theorem d_Mo_formatted_88 : decode b_Mo_formatted 88 = .ok (.iload 5, 2) := by decide +kernel
theorem d_Mo_formatted_90 : decode b_Mo_formatted 90 = .ok (.invokestatic 70, 3) := by decide +kernel
theorem d_Mo_formatted_93 : decode b_Mo_formatted 93 = .ok (.iconst 4, 1) := by decide +kernel
theorem d_Mo_formatted_94 : decode b_Mo_formatted 94 = .ok (.iconst 0, 1) := by decide +kernel
theorem d_Mo_formatted_95 : decode b_Mo_formatted 95 = .ok (.invokestatic 70, 3) := by decide +kernel
theorem d_Mo_formatted_98 : decode b_Mo_formatted 98 = .ok (.iconst 5, 1) := by decide +kernel
theorem d_Mo_formatted_99 : decode b_Mo_formatted 99 = .ok (.iconst 0, 1) := by decide +kernel
theorem d_Mo_formatted_100 : decode b_Mo_formatted 100 = .ok (.invokestatic 70, 3) := by decide +kernel
theorem d_Mo_formatted_103 : decode b_Mo_formatted 103 = .ok (.lreturn, 1) := by decide +kernel
theorem d_Mo_formatted_104 : decode b_Mo_formatted 104 = .ok (.lload_n 0, 1) := by decide +kernel
theorem d_Mo_formatted_105 : decode b_Mo_formatted 105 = .ok (.iconst 1, 1) := by decide +kernel
theorem d_Mo_formatted_106 : decode b_Mo_formatted 106 = .ok (.iload 5, 2) := by decide +kernel
theorem d_Mo_formatted_108 : decode b_Mo_formatted 108 = .ok (.invokestatic 70, 3) := by decide +kernel
theorem d_Mo_formatted_111 : decode b_Mo_formatted 111 = .ok (.iconst 4, 1) := by decide +kernel
theorem d_Mo_formatted_112 : decode b_Mo_formatted 112 = .ok (.iload 6, 2) := by decide +kernel
theorem d_Mo_formatted_114 : decode b_Mo_formatted 114 = .ok (.iload_n 2, 1) := by decide +kernel
theorem d_Mo_formatted_115 : decode b_Mo_formatted 115 = .ok (.ior, 1) := by decide +kernel
theorem d_Mo_formatted_116 : decode b_Mo_formatted 116 = .ok (.invokestatic 70, 3) := by decide +kernel
theorem d_Mo_formatted_119 : decode b_Mo_formatted 119 = .ok (.iconst 5, 1) := by decide +kernel
theorem d_Mo_formatted_120 : decode b_Mo_formatted 120 = .ok (.iload 7, 2) := by decide +kernel
theorem d_Mo_formatted_122 : decode b_Mo_formatted 122 = .ok (.invokestatic 70, 3) := by decide +kernel
theorem d_Mo_formatted_125 : decode b_Mo_formatted 125 = .ok (.lreturn, 1) := by decide +kernel
def f_Mo_formatted_77  (v0 : Int64) (v2 : Int32) (v5 : Int32) (v6 : Int32) (s0 : Int32) (S : zq_S) : Option (zq_S × Int64) :=
  if v5 = s0 then
    zs_b (f_Mo_with v0 (1 : Int32) v5 S) fun S11 x12 =>
    zs_b (f_Mo_with x12 (4 : Int32) (0 : Int32) S11) fun S14 x15 =>
    zs_b (f_Mo_with x15 (5 : Int32) (0 : Int32) S14) fun S17 x18 =>
    some (S17, x18)
  else
    zs_b (f_Mo_with v0 (1 : Int32) v5 S) fun S2 x3 =>
    zs_b (f_Mo_with x3 (4 : Int32) (v6 ||| v2) S2) fun S5 x6 =>
    zs_b (f_Mo_with x6 (5 : Int32) s0 S5) fun S8 x9 =>
    some (S8, x9)
def f_Mo_formatted_59  (v0 : Int64) (v2 : Int32) (v5 : Int32) (v6 : Int32) (S : zq_S) : Option (zq_S × Int64) :=
  if v6 = 0 then
    zs_b (f_Mo_part v0 (1 : Int32) S) fun S5 x6 =>
    f_Mo_formatted_77  v0 v2 v5 v6 x6 S5
  else
    zs_b (f_Mo_part v0 (5 : Int32) S) fun S2 x3 =>
    f_Mo_formatted_77  v0 v2 v5 v6 x3 S2
def f_Mo_formatted (v0 : Int64) (v2 : Int32) (v3 : Int32) (v4 : Int32) (v5 : Int32) (S : zq_S) : Option (zq_S × Int64) :=
  if v3 = 0 then
    zs_b (f_Mo_with v0 (1 : Int32) v5 S) fun S11 x12 =>
    zs_b (f_Mo_with x12 (4 : Int32) (0 : Int32) S11) fun S14 x15 =>
    zs_b (f_Mo_with x15 (5 : Int32) (0 : Int32) S14) fun S17 x18 =>
    some (S17, x18)
  else
    if v4 = 0 then
      zs_b (f_Mo_part v0 (4 : Int32) S) fun S2 x3 =>
      if x3 = 0 then
        zs_b (f_Mo_part v0 (1 : Int32) S2) fun S5 x6 =>
        if x6 = v5 then
          some (S5, v0)
        else
          f_Mo_formatted_59  v0 v2 v5 x3 S5
      else
        f_Mo_formatted_59  v0 v2 v5 x3 S2
    else
      zs_b (f_Mo_with v0 (1 : Int32) v5 S) fun S8 x9 =>
      some (S8, x9)
set_option maxHeartbeats 4000000 in
set_option maxRecDepth 100000 in
theorem r_Mo_formatted_77 {l : Launch} (hl : l.stackTraces = false) {G : zq_G} {S0 T : zq_S} {v : Int64} {X : zq_X} (Z : Z_Mo_formatted l G S0 T v X) {v0 : Int64} {v2 : Int32} {v5 : Int32} {v6 : Int32} {s0 : Int32} {S : zq_S} (hf : f_Mo_formatted_77  v0 v2 v5 v6 s0 S = some (T, v)) : zq_W (Y_Mo_formatted l G S0 T v) X 77 [(0, .long v0), (2, .int v2), (5, .int v5), (6, .int v6)] [.int s0] S 0 0 := by
  unfold f_Mo_formatted_77 at hf
  refine zq_istore Z [(7, .int s0), (0, .long v0), (2, .int v2), (5, .int v5), (6, .int v6)] d_Mo_formatted_77 (by decide) rfl ?_
  refine zq_iload Z d_Mo_formatted_79 3 rfl ?_
  refine zq_iload Z d_Mo_formatted_81 0 rfl ?_
  refine zq_icmp_ne Z 104 d_Mo_formatted_83 (by decide) (fun q => ?_) (fun q => ?_)
  · replace hf := zs_N q hf
    refine zq_lload_n Z d_Mo_formatted_104 1 rfl ?_
    refine zq_iconst Z (1 : Int32) d_Mo_formatted_105 (by decide) ?_
    refine zq_iload Z d_Mo_formatted_106 3 rfl ?_
    have hq := zs_bS hf
    clear hf
    obtain ⟨S2, x3, h1, hf⟩ := hq
    refine zq_contR (zq_stepS Z zq_cf1 (c_Mo_with hl h1) d_Mo_formatted_108 m_289 m_290 m_291 m_286 p_Mo_with ⟨(Nat.le_of_ble_eq_true rfl), (Nat.le_of_ble_eq_true rfl), (Nat.le_of_ble_eq_true rfl), (Nat.le_of_ble_eq_true rfl)⟩ rfl (Nat.le_of_ble_eq_true rfl)) Z.p ?_
    refine zq_iconst Z (4 : Int32) d_Mo_formatted_111 (by decide) ?_
    refine zq_iload Z d_Mo_formatted_112 4 rfl ?_
    refine zq_iload_n Z d_Mo_formatted_114 2 rfl ?_
    refine zq_ior Z d_Mo_formatted_115 ?_
    have hq := zs_bS hf
    clear hf
    obtain ⟨S5, x6, h4, hf⟩ := hq
    refine zq_contR (zq_stepS Z zq_cf1 (c_Mo_with hl h4) d_Mo_formatted_116 m_289 m_290 m_291 m_286 p_Mo_with ⟨(Nat.le_of_ble_eq_true rfl), (Nat.le_of_ble_eq_true rfl), (Nat.le_of_ble_eq_true rfl), (Nat.le_of_ble_eq_true rfl)⟩ rfl (Nat.le_of_ble_eq_true rfl)) Z.p ?_
    refine zq_iconst Z (5 : Int32) d_Mo_formatted_119 (by decide) ?_
    refine zq_iload Z d_Mo_formatted_120 0 rfl ?_
    have hq := zs_bS hf
    clear hf
    obtain ⟨S8, x9, h7, hf⟩ := hq
    refine zq_contR (zq_stepS Z zq_cf1 (c_Mo_with hl h7) d_Mo_formatted_122 m_289 m_290 m_291 m_286 p_Mo_with ⟨(Nat.le_of_ble_eq_true rfl), (Nat.le_of_ble_eq_true rfl), (Nat.le_of_ble_eq_true rfl), (Nat.le_of_ble_eq_true rfl)⟩ rfl (Nat.le_of_ble_eq_true rfl)) Z.p ?_
    exact zq_lret Z d_Mo_formatted_125 (zs_1 hf) (zs_2 (fun z => (.inl (some (.long z)) : zq_R)) hf) ⟨(Nat.le_of_ble_eq_true rfl), (Nat.le_of_ble_eq_true rfl)⟩
  · replace hf := zs_T q hf
    refine zq_lload_n Z d_Mo_formatted_86 1 rfl ?_
    refine zq_iconst Z (1 : Int32) d_Mo_formatted_87 (by decide) ?_
    refine zq_iload Z d_Mo_formatted_88 3 rfl ?_
    have hq := zs_bS hf
    clear hf
    obtain ⟨S11, x12, h10, hf⟩ := hq
    refine zq_contR (zq_stepS Z zq_cf1 (c_Mo_with hl h10) d_Mo_formatted_90 m_289 m_290 m_291 m_286 p_Mo_with ⟨(Nat.le_of_ble_eq_true rfl), (Nat.le_of_ble_eq_true rfl), (Nat.le_of_ble_eq_true rfl), (Nat.le_of_ble_eq_true rfl)⟩ rfl (Nat.le_of_ble_eq_true rfl)) Z.p ?_
    refine zq_iconst Z (4 : Int32) d_Mo_formatted_93 (by decide) ?_
    refine zq_iconst Z (0 : Int32) d_Mo_formatted_94 (by decide) ?_
    have hq := zs_bS hf
    clear hf
    obtain ⟨S14, x15, h13, hf⟩ := hq
    refine zq_contR (zq_stepS Z zq_cf1 (c_Mo_with hl h13) d_Mo_formatted_95 m_289 m_290 m_291 m_286 p_Mo_with ⟨(Nat.le_of_ble_eq_true rfl), (Nat.le_of_ble_eq_true rfl), (Nat.le_of_ble_eq_true rfl), (Nat.le_of_ble_eq_true rfl)⟩ rfl (Nat.le_of_ble_eq_true rfl)) Z.p ?_
    refine zq_iconst Z (5 : Int32) d_Mo_formatted_98 (by decide) ?_
    refine zq_iconst Z (0 : Int32) d_Mo_formatted_99 (by decide) ?_
    have hq := zs_bS hf
    clear hf
    obtain ⟨S17, x18, h16, hf⟩ := hq
    refine zq_contR (zq_stepS Z zq_cf1 (c_Mo_with hl h16) d_Mo_formatted_100 m_289 m_290 m_291 m_286 p_Mo_with ⟨(Nat.le_of_ble_eq_true rfl), (Nat.le_of_ble_eq_true rfl), (Nat.le_of_ble_eq_true rfl), (Nat.le_of_ble_eq_true rfl)⟩ rfl (Nat.le_of_ble_eq_true rfl)) Z.p ?_
    exact zq_lret Z d_Mo_formatted_103 (zs_1 hf) (zs_2 (fun z => (.inl (some (.long z)) : zq_R)) hf) ⟨(Nat.le_of_ble_eq_true rfl), (Nat.le_of_ble_eq_true rfl)⟩
set_option maxHeartbeats 4000000 in
set_option maxRecDepth 100000 in
theorem r_Mo_formatted_59 {l : Launch} (hl : l.stackTraces = false) {G : zq_G} {S0 T : zq_S} {v : Int64} {X : zq_X} (Z : Z_Mo_formatted l G S0 T v X) {v0 : Int64} {v2 : Int32} {v5 : Int32} {v6 : Int32} {S : zq_S} (hf : f_Mo_formatted_59  v0 v2 v5 v6 S = some (T, v)) : zq_W (Y_Mo_formatted l G S0 T v) X 59 [(0, .long v0), (2, .int v2), (5, .int v5), (6, .int v6)] [] S 0 0 := by
  unfold f_Mo_formatted_59 at hf
  refine zq_iload Z d_Mo_formatted_59 3 rfl ?_
  refine zq_if_ne Z 72 d_Mo_formatted_61 (by decide) (fun q => ?_) (fun q => ?_)
  · replace hf := zs_N q hf
    refine zq_lload_n Z d_Mo_formatted_72 0 rfl ?_
    refine zq_iconst Z (5 : Int32) d_Mo_formatted_73 (by decide) ?_
    have hq := zs_bS hf
    clear hf
    obtain ⟨S2, x3, h1, hf⟩ := hq
    refine zq_contR (zq_stepS Z zq_cf1 (c_Mo_part hl h1) d_Mo_formatted_74 m_292 m_293 m_294 m_286 p_Mo_part ⟨(Nat.le_of_ble_eq_true rfl), (Nat.le_of_ble_eq_true rfl), (Nat.le_of_ble_eq_true rfl), (Nat.le_of_ble_eq_true rfl)⟩ rfl (Nat.le_of_ble_eq_true rfl)) Z.p ?_
    refine zq_sub (lo' := [(0, .long v0), (2, .int v2), (5, .int v5), (6, .int v6)]) [0, 1, 2, 3] rfl ?_
    exact r_Mo_formatted_77 hl Z  hf
  · replace hf := zs_T q hf
    refine zq_lload_n Z d_Mo_formatted_64 0 rfl ?_
    refine zq_iconst Z (1 : Int32) d_Mo_formatted_65 (by decide) ?_
    have hq := zs_bS hf
    clear hf
    obtain ⟨S5, x6, h4, hf⟩ := hq
    refine zq_contR (zq_stepS Z zq_cf1 (c_Mo_part hl h4) d_Mo_formatted_66 m_292 m_293 m_294 m_286 p_Mo_part ⟨(Nat.le_of_ble_eq_true rfl), (Nat.le_of_ble_eq_true rfl), (Nat.le_of_ble_eq_true rfl), (Nat.le_of_ble_eq_true rfl)⟩ rfl (Nat.le_of_ble_eq_true rfl)) Z.p ?_
    refine zq_goto Z 77 d_Mo_formatted_69 (by decide) ?_
    refine zq_sub (lo' := [(0, .long v0), (2, .int v2), (5, .int v5), (6, .int v6)]) [0, 1, 2, 3] rfl ?_
    exact r_Mo_formatted_77 hl Z  hf
set_option maxHeartbeats 4000000 in
set_option maxRecDepth 100000 in
theorem c_Mo_formatted {l : Launch} (hl : l.stackTraces = false) {G : zq_G} {v0 : Int64} {v2 : Int32} {v3 : Int32} {v4 : Int32} {v5 : Int32} {S0 T : zq_S} {v : Int64} (hf : f_Mo_formatted v0 v2 v3 v4 v5 S0 = some (T, v)) : zq_M l y_Mo_formatted (.code y_Mo_formatted b_Mo_formatted 8 (some (.long))) rm_Mo_formatted G [.long v0, .int v2, .int v3, .int v4, .int v5] S0 ((.inl (some (.long v)) : zq_R)) T := by
  refine zq_Mof (lo := [(0, .long v0), (2, .int v2), (3, .int v3), (4, .int v4), (5, .int v5)]) hl (by decide) (Nat.le_of_ble_eq_true rfl) rfl (fun X Z => ?_)
  have Z : Z_Mo_formatted l G S0 T v X := Z
  show zq_W (Y_Mo_formatted l G S0 T v) X 0 [(0, .long v0), (2, .int v2), (3, .int v3), (4, .int v4), (5, .int v5)] [] S0 0 0
  unfold f_Mo_formatted at hf
  refine zq_iload_n Z d_Mo_formatted_0 2 rfl ?_
  refine zq_if_ne Z 22 d_Mo_formatted_1 (by decide) (fun q => ?_) (fun q => ?_)
  · replace hf := zs_N q hf
    refine zq_iload Z d_Mo_formatted_22 3 rfl ?_
    refine zq_if_eq Z 35 d_Mo_formatted_24 (by decide) (fun q => ?_) (fun q => ?_)
    · replace hf := zs_T q hf
      refine zq_lload_n Z d_Mo_formatted_35 0 rfl ?_
      refine zq_iconst Z (4 : Int32) d_Mo_formatted_36 (by decide) ?_
      have hq := zs_bS hf
      clear hf
      obtain ⟨S2, x3, h1, hf⟩ := hq
      refine zq_contR (zq_stepS Z zq_cf1 (c_Mo_part hl h1) d_Mo_formatted_37 m_292 m_293 m_294 m_286 p_Mo_part ⟨(Nat.le_of_ble_eq_true rfl), (Nat.le_of_ble_eq_true rfl), (Nat.le_of_ble_eq_true rfl), (Nat.le_of_ble_eq_true rfl)⟩ rfl (Nat.le_of_ble_eq_true rfl)) Z.p ?_
      refine zq_istore Z [(6, .int x3), (0, .long v0), (2, .int v2), (3, .int v3), (4, .int v4), (5, .int v5)] d_Mo_formatted_40 (by decide) rfl ?_
      refine zq_iload Z d_Mo_formatted_42 0 rfl ?_
      refine zq_if_ne Z 59 d_Mo_formatted_44 (by decide) (fun q => ?_) (fun q => ?_)
      · replace hf := zs_N q hf
        refine zq_sub (lo' := [(0, .long v0), (2, .int v2), (5, .int v5), (6, .int x3)]) [1, 2, 5, 0] rfl ?_
        exact r_Mo_formatted_59 hl Z  hf
      · replace hf := zs_T q hf
        refine zq_lload_n Z d_Mo_formatted_47 1 rfl ?_
        refine zq_iconst Z (1 : Int32) d_Mo_formatted_48 (by decide) ?_
        have hq := zs_bS hf
        clear hf
        obtain ⟨S5, x6, h4, hf⟩ := hq
        refine zq_contR (zq_stepS Z zq_cf1 (c_Mo_part hl h4) d_Mo_formatted_49 m_292 m_293 m_294 m_286 p_Mo_part ⟨(Nat.le_of_ble_eq_true rfl), (Nat.le_of_ble_eq_true rfl), (Nat.le_of_ble_eq_true rfl), (Nat.le_of_ble_eq_true rfl)⟩ rfl (Nat.le_of_ble_eq_true rfl)) Z.p ?_
        refine zq_iload Z d_Mo_formatted_52 5 rfl ?_
        refine zq_icmp_ne Z 59 d_Mo_formatted_54 (by decide) (fun q => ?_) (fun q => ?_)
        · replace hf := zs_N q hf
          refine zq_sub (lo' := [(0, .long v0), (2, .int v2), (5, .int v5), (6, .int x3)]) [1, 2, 5, 0] rfl ?_
          exact r_Mo_formatted_59 hl Z  hf
        · replace hf := zs_T q hf
          refine zq_lload_n Z d_Mo_formatted_57 1 rfl ?_
          exact zq_lret Z d_Mo_formatted_58 (zs_1 hf) (zs_2 (fun z => (.inl (some (.long z)) : zq_R)) hf) ⟨(Nat.le_of_ble_eq_true rfl), (Nat.le_of_ble_eq_true rfl)⟩
    · replace hf := zs_N q hf
      refine zq_lload_n Z d_Mo_formatted_27 0 rfl ?_
      refine zq_iconst Z (1 : Int32) d_Mo_formatted_28 (by decide) ?_
      refine zq_iload Z d_Mo_formatted_29 4 rfl ?_
      have hq := zs_bS hf
      clear hf
      obtain ⟨S8, x9, h7, hf⟩ := hq
      refine zq_contR (zq_stepS Z zq_cf1 (c_Mo_with hl h7) d_Mo_formatted_31 m_289 m_290 m_291 m_286 p_Mo_with ⟨(Nat.le_of_ble_eq_true rfl), (Nat.le_of_ble_eq_true rfl), (Nat.le_of_ble_eq_true rfl), (Nat.le_of_ble_eq_true rfl)⟩ rfl (Nat.le_of_ble_eq_true rfl)) Z.p ?_
      exact zq_lret Z d_Mo_formatted_34 (zs_1 hf) (zs_2 (fun z => (.inl (some (.long z)) : zq_R)) hf) ⟨(Nat.le_of_ble_eq_true rfl), (Nat.le_of_ble_eq_true rfl)⟩
  · replace hf := zs_T q hf
    refine zq_lload_n Z d_Mo_formatted_4 0 rfl ?_
    refine zq_iconst Z (1 : Int32) d_Mo_formatted_5 (by decide) ?_
    refine zq_iload Z d_Mo_formatted_6 4 rfl ?_
    have hq := zs_bS hf
    clear hf
    obtain ⟨S11, x12, h10, hf⟩ := hq
    refine zq_contR (zq_stepS Z zq_cf1 (c_Mo_with hl h10) d_Mo_formatted_8 m_289 m_290 m_291 m_286 p_Mo_with ⟨(Nat.le_of_ble_eq_true rfl), (Nat.le_of_ble_eq_true rfl), (Nat.le_of_ble_eq_true rfl), (Nat.le_of_ble_eq_true rfl)⟩ rfl (Nat.le_of_ble_eq_true rfl)) Z.p ?_
    refine zq_iconst Z (4 : Int32) d_Mo_formatted_11 (by decide) ?_
    refine zq_iconst Z (0 : Int32) d_Mo_formatted_12 (by decide) ?_
    have hq := zs_bS hf
    clear hf
    obtain ⟨S14, x15, h13, hf⟩ := hq
    refine zq_contR (zq_stepS Z zq_cf1 (c_Mo_with hl h13) d_Mo_formatted_13 m_289 m_290 m_291 m_286 p_Mo_with ⟨(Nat.le_of_ble_eq_true rfl), (Nat.le_of_ble_eq_true rfl), (Nat.le_of_ble_eq_true rfl), (Nat.le_of_ble_eq_true rfl)⟩ rfl (Nat.le_of_ble_eq_true rfl)) Z.p ?_
    refine zq_iconst Z (5 : Int32) d_Mo_formatted_16 (by decide) ?_
    refine zq_iconst Z (0 : Int32) d_Mo_formatted_17 (by decide) ?_
    have hq := zs_bS hf
    clear hf
    obtain ⟨S17, x18, h16, hf⟩ := hq
    refine zq_contR (zq_stepS Z zq_cf1 (c_Mo_with hl h16) d_Mo_formatted_18 m_289 m_290 m_291 m_286 p_Mo_with ⟨(Nat.le_of_ble_eq_true rfl), (Nat.le_of_ble_eq_true rfl), (Nat.le_of_ble_eq_true rfl), (Nat.le_of_ble_eq_true rfl)⟩ rfl (Nat.le_of_ble_eq_true rfl)) Z.p ?_
    exact zq_lret Z d_Mo_formatted_21 (zs_1 hf) (zs_2 (fun z => (.inl (some (.long z)) : zq_R)) hf) ⟨(Nat.le_of_ble_eq_true rfl), (Nat.le_of_ble_eq_true rfl)⟩
