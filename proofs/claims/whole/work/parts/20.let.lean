theorem d_Let_with_0 : decode b_Let_with 0 = .ok (.lload_n 0, 1) := by decide +kernel
theorem d_Let_with_1 : decode b_Let_with 1 = .ok (.ldc2_w 13, 3) := by decide +kernel
theorem d_Let_with_4 : decode b_Let_with 4 = .ok (.iload_n 2, 1) := by decide +kernel
theorem d_Let_with_5 : decode b_Let_with 5 = .ok (.lshl, 1) := by decide +kernel
theorem d_Let_with_6 : decode b_Let_with 6 = .ok (.ldc2_w 15, 3) := by decide +kernel
theorem d_Let_with_9 : decode b_Let_with 9 = .ok (.lxor, 1) := by decide +kernel
theorem d_Let_with_10 : decode b_Let_with 10 = .ok (.land, 1) := by decide +kernel
theorem d_Let_with_11 : decode b_Let_with 11 = .ok (.iload_n 3, 1) := by decide +kernel
theorem d_Let_with_12 : decode b_Let_with 12 = .ok (.i2l, 1) := by decide +kernel
theorem d_Let_with_13 : decode b_Let_with 13 = .ok (.ldc2_w 13, 3) := by decide +kernel
theorem d_Let_with_16 : decode b_Let_with 16 = .ok (.land, 1) := by decide +kernel
theorem d_Let_with_17 : decode b_Let_with 17 = .ok (.iload_n 2, 1) := by decide +kernel
theorem d_Let_with_18 : decode b_Let_with 18 = .ok (.lshl, 1) := by decide +kernel
theorem d_Let_with_19 : decode b_Let_with 19 = .ok (.lor, 1) := by decide +kernel
theorem d_Let_with_20 : decode b_Let_with 20 = .ok (.lreturn, 1) := by decide +kernel
def f_Let_with (v0 : Int64) (v2 : Int32) (v3 : Int32) (S : zq_S) : Option (zq_S × Int64) :=
  some (S, ((v0 &&& ((zf_lshl (255 : Int64) v2) ^^^ (-1 : Int64))) ||| (zf_lshl (v3.toInt64 &&& (255 : Int64)) v2)))
set_option maxHeartbeats 4000000 in
set_option maxRecDepth 100000 in
theorem c_Let_with {l : Launch} (hl : l.stackTraces = false) {G : zq_G} {v0 : Int64} {v2 : Int32} {v3 : Int32} {S0 T : zq_S} {v : Int64} (hf : f_Let_with v0 v2 v3 S0 = some (T, v)) : zq_M l y_Let_with (.code y_Let_with b_Let_with 4 (some (.long))) rm_Let_with G [.long v0, .int v2, .int v3] S0 ((.inl (some (.long v)) : zq_R)) T := by
  refine zq_Mof (lo := [(0, .long v0), (2, .int v2), (3, .int v3)]) hl (by decide) (Nat.le_of_ble_eq_true rfl) rfl (fun X Z => ?_)
  have Z : Z_Let_with l G S0 T v X := Z
  show zq_W (Y_Let_with l G S0 T v) X 0 [(0, .long v0), (2, .int v2), (3, .int v3)] [] S0 0 0
  unfold f_Let_with at hf
  refine zq_lload_n Z d_Let_with_0 0 rfl ?_
  refine zq_ldc2 Z (255 : Int64) d_Let_with_1 m_111 ?_
  refine zq_iload_n Z d_Let_with_4 1 rfl ?_
  refine zq_lshl Z d_Let_with_5 ?_
  refine zq_ldc2 Z (-1 : Int64) d_Let_with_6 m_112 ?_
  refine zq_lxor Z d_Let_with_9 ?_
  refine zq_land Z d_Let_with_10 ?_
  refine zq_iload_n Z d_Let_with_11 2 rfl ?_
  refine zq_i2l Z d_Let_with_12 ?_
  refine zq_ldc2 Z (255 : Int64) d_Let_with_13 m_111 ?_
  refine zq_land Z d_Let_with_16 ?_
  refine zq_iload_n Z d_Let_with_17 1 rfl ?_
  refine zq_lshl Z d_Let_with_18 ?_
  refine zq_lor Z d_Let_with_19 ?_
  exact zq_lret Z d_Let_with_20 (zs_1 hf) (zs_2 (fun z => (.inl (some (.long z)) : zq_R)) hf) ⟨(Nat.le_of_ble_eq_true rfl), (Nat.le_of_ble_eq_true rfl)⟩
theorem d_Let_make_0 : decode b_Let_make 0 = .ok (.lconst 0, 1) := by decide +kernel
theorem d_Let_make_1 : decode b_Let_make 1 = .ok (.iconst 0, 1) := by decide +kernel
theorem d_Let_make_2 : decode b_Let_make 2 = .ok (.iload_n 0, 1) := by decide +kernel
theorem d_Let_make_3 : decode b_Let_make 3 = .ok (.invokestatic 9, 3) := by decide +kernel
theorem d_Let_make_6 : decode b_Let_make 6 = .ok (.bipush 8, 2) := by decide +kernel
theorem d_Let_make_8 : decode b_Let_make 8 = .ok (.iload_n 1, 1) := by decide +kernel
theorem d_Let_make_9 : decode b_Let_make 9 = .ok (.invokestatic 9, 3) := by decide +kernel
theorem d_Let_make_12 : decode b_Let_make 12 = .ok (.bipush 16, 2) := by decide +kernel
theorem d_Let_make_14 : decode b_Let_make 14 = .ok (.iload_n 2, 1) := by decide +kernel
theorem d_Let_make_15 : decode b_Let_make 15 = .ok (.invokestatic 9, 3) := by decide +kernel
theorem d_Let_make_18 : decode b_Let_make 18 = .ok (.lreturn, 1) := by decide +kernel
def f_Let_make (v0 : Int32) (v1 : Int32) (v2 : Int32) (S : zq_S) : Option (zq_S × Int64) :=
  zs_b (f_Let_with (0 : Int64) (0 : Int32) v0 S) fun S2 x3 =>
  zs_b (f_Let_with x3 (8 : Int32) v1 S2) fun S5 x6 =>
  zs_b (f_Let_with x6 (16 : Int32) v2 S5) fun S8 x9 =>
  some (S8, x9)
set_option maxHeartbeats 4000000 in
set_option maxRecDepth 100000 in
theorem c_Let_make {l : Launch} (hl : l.stackTraces = false) {G : zq_G} {v0 : Int32} {v1 : Int32} {v2 : Int32} {S0 T : zq_S} {v : Int64} (hf : f_Let_make v0 v1 v2 S0 = some (T, v)) : zq_M l y_Let_make (.code y_Let_make b_Let_make 3 (some (.long))) rm_Let_make G [.int v0, .int v1, .int v2] S0 ((.inl (some (.long v)) : zq_R)) T := by
  refine zq_Mof (lo := [(0, .int v0), (1, .int v1), (2, .int v2)]) hl (by decide) (Nat.le_of_ble_eq_true rfl) rfl (fun X Z => ?_)
  have Z : Z_Let_make l G S0 T v X := Z
  show zq_W (Y_Let_make l G S0 T v) X 0 [(0, .int v0), (1, .int v1), (2, .int v2)] [] S0 0 0
  unfold f_Let_make at hf
  refine zq_lconst Z (0 : Int64) d_Let_make_0 (by decide) ?_
  refine zq_iconst Z (0 : Int32) d_Let_make_1 (by decide) ?_
  refine zq_iload_n Z d_Let_make_2 0 rfl ?_
  have hq := zs_bS hf
  clear hf
  obtain ⟨S2, x3, h1, hf⟩ := hq
  refine zq_contR (zq_stepS Z zq_cf1 (c_Let_with hl h1) d_Let_make_3 m_113 m_114 m_115 m_116 p_Let_with ⟨(Nat.le_of_ble_eq_true rfl), (Nat.le_of_ble_eq_true rfl), (Nat.le_of_ble_eq_true rfl), (Nat.le_of_ble_eq_true rfl)⟩ rfl (Nat.le_of_ble_eq_true rfl)) Z.p ?_
  refine zq_bipush Z (8 : Int32) d_Let_make_6 (by decide) ?_
  refine zq_iload_n Z d_Let_make_8 1 rfl ?_
  have hq := zs_bS hf
  clear hf
  obtain ⟨S5, x6, h4, hf⟩ := hq
  refine zq_contR (zq_stepS Z zq_cf1 (c_Let_with hl h4) d_Let_make_9 m_113 m_114 m_115 m_116 p_Let_with ⟨(Nat.le_of_ble_eq_true rfl), (Nat.le_of_ble_eq_true rfl), (Nat.le_of_ble_eq_true rfl), (Nat.le_of_ble_eq_true rfl)⟩ rfl (Nat.le_of_ble_eq_true rfl)) Z.p ?_
  refine zq_bipush Z (16 : Int32) d_Let_make_12 (by decide) ?_
  refine zq_iload_n Z d_Let_make_14 2 rfl ?_
  have hq := zs_bS hf
  clear hf
  obtain ⟨S8, x9, h7, hf⟩ := hq
  refine zq_contR (zq_stepS Z zq_cf1 (c_Let_with hl h7) d_Let_make_15 m_113 m_114 m_115 m_116 p_Let_with ⟨(Nat.le_of_ble_eq_true rfl), (Nat.le_of_ble_eq_true rfl), (Nat.le_of_ble_eq_true rfl), (Nat.le_of_ble_eq_true rfl)⟩ rfl (Nat.le_of_ble_eq_true rfl)) Z.p ?_
  exact zq_lret Z d_Let_make_18 (zs_1 hf) (zs_2 (fun z => (.inl (some (.long z)) : zq_R)) hf) ⟨(Nat.le_of_ble_eq_true rfl), (Nat.le_of_ble_eq_true rfl)⟩
theorem d_Let_get_0 : decode b_Let_get 0 = .ok (.lload_n 0, 1) := by decide +kernel
theorem d_Let_get_1 : decode b_Let_get 1 = .ok (.iload_n 2, 1) := by decide +kernel
theorem d_Let_get_2 : decode b_Let_get 2 = .ok (.lushr, 1) := by decide +kernel
theorem d_Let_get_3 : decode b_Let_get 3 = .ok (.ldc2_w 13, 3) := by decide +kernel
theorem d_Let_get_6 : decode b_Let_get 6 = .ok (.land, 1) := by decide +kernel
theorem d_Let_get_7 : decode b_Let_get 7 = .ok (.l2i, 1) := by decide +kernel
theorem d_Let_get_8 : decode b_Let_get 8 = .ok (.ireturn, 1) := by decide +kernel
def f_Let_get (v0 : Int64) (v2 : Int32) (S : zq_S) : Option (zq_S × Int32) :=
  some (S, ((zf_lushr v0 v2) &&& (255 : Int64)).toInt32)
set_option maxHeartbeats 4000000 in
set_option maxRecDepth 100000 in
theorem c_Let_get {l : Launch} (hl : l.stackTraces = false) {G : zq_G} {v0 : Int64} {v2 : Int32} {S0 T : zq_S} {v : Int32} (hf : f_Let_get v0 v2 S0 = some (T, v)) : zq_M l y_Let_get (.code y_Let_get b_Let_get 3 (some (.int))) rm_Let_get G [.long v0, .int v2] S0 ((.inl (some (.int v)) : zq_R)) T := by
  refine zq_Mof (lo := [(0, .long v0), (2, .int v2)]) hl (by decide) (Nat.le_of_ble_eq_true rfl) rfl (fun X Z => ?_)
  have Z : Z_Let_get l G S0 T v X := Z
  show zq_W (Y_Let_get l G S0 T v) X 0 [(0, .long v0), (2, .int v2)] [] S0 0 0
  unfold f_Let_get at hf
  refine zq_lload_n Z d_Let_get_0 0 rfl ?_
  refine zq_iload_n Z d_Let_get_1 1 rfl ?_
  refine zq_lushr Z d_Let_get_2 ?_
  refine zq_ldc2 Z (255 : Int64) d_Let_get_3 m_111 ?_
  refine zq_land Z d_Let_get_6 ?_
  refine zq_l2i Z d_Let_get_7 ?_
  exact zq_iret Z d_Let_get_8 (zs_1 hf) (zs_2 (fun z => (.inl (some (.int z)) : zq_R)) hf) ⟨(Nat.le_of_ble_eq_true rfl), (Nat.le_of_ble_eq_true rfl)⟩
theorem d_Let_withoutFormatters_0 : decode b_Let_withoutFormatters 0 = .ok (.lload_n 0, 1) := by decide +kernel
theorem d_Let_withoutFormatters_1 : decode b_Let_withoutFormatters 1 = .ok (.bipush 32, 2) := by decide +kernel
theorem d_Let_withoutFormatters_3 : decode b_Let_withoutFormatters 3 = .ok (.iconst 0, 1) := by decide +kernel
theorem d_Let_withoutFormatters_4 : decode b_Let_withoutFormatters 4 = .ok (.invokestatic 9, 3) := by decide +kernel
theorem d_Let_withoutFormatters_7 : decode b_Let_withoutFormatters 7 = .ok (.bipush 40, 2) := by decide +kernel
theorem d_Let_withoutFormatters_9 : decode b_Let_withoutFormatters 9 = .ok (.iconst 0, 1) := by decide +kernel
theorem d_Let_withoutFormatters_10 : decode b_Let_withoutFormatters 10 = .ok (.invokestatic 9, 3) := by decide +kernel
theorem d_Let_withoutFormatters_13 : decode b_Let_withoutFormatters 13 = .ok (.lreturn, 1) := by decide +kernel
def f_Let_withoutFormatters (v0 : Int64) (S : zq_S) : Option (zq_S × Int64) :=
  zs_b (f_Let_with v0 (32 : Int32) (0 : Int32) S) fun S2 x3 =>
  zs_b (f_Let_with x3 (40 : Int32) (0 : Int32) S2) fun S5 x6 =>
  some (S5, x6)
set_option maxHeartbeats 4000000 in
set_option maxRecDepth 100000 in
theorem c_Let_withoutFormatters {l : Launch} (hl : l.stackTraces = false) {G : zq_G} {v0 : Int64} {S0 T : zq_S} {v : Int64} (hf : f_Let_withoutFormatters v0 S0 = some (T, v)) : zq_M l y_Let_withoutFormatters (.code y_Let_withoutFormatters b_Let_withoutFormatters 2 (some (.long))) rm_Let_withoutFormatters G [.long v0] S0 ((.inl (some (.long v)) : zq_R)) T := by
  refine zq_Mof (lo := [(0, .long v0)]) hl (by decide) (Nat.le_of_ble_eq_true rfl) rfl (fun X Z => ?_)
  have Z : Z_Let_withoutFormatters l G S0 T v X := Z
  show zq_W (Y_Let_withoutFormatters l G S0 T v) X 0 [(0, .long v0)] [] S0 0 0
  unfold f_Let_withoutFormatters at hf
  refine zq_lload_n Z d_Let_withoutFormatters_0 0 rfl ?_
  refine zq_bipush Z (32 : Int32) d_Let_withoutFormatters_1 (by decide) ?_
  refine zq_iconst Z (0 : Int32) d_Let_withoutFormatters_3 (by decide) ?_
  have hq := zs_bS hf
  clear hf
  obtain ⟨S2, x3, h1, hf⟩ := hq
  refine zq_contR (zq_stepS Z zq_cf1 (c_Let_with hl h1) d_Let_withoutFormatters_4 m_113 m_114 m_115 m_116 p_Let_with ⟨(Nat.le_of_ble_eq_true rfl), (Nat.le_of_ble_eq_true rfl), (Nat.le_of_ble_eq_true rfl), (Nat.le_of_ble_eq_true rfl)⟩ rfl (Nat.le_of_ble_eq_true rfl)) Z.p ?_
  refine zq_bipush Z (40 : Int32) d_Let_withoutFormatters_7 (by decide) ?_
  refine zq_iconst Z (0 : Int32) d_Let_withoutFormatters_9 (by decide) ?_
  have hq := zs_bS hf
  clear hf
  obtain ⟨S5, x6, h4, hf⟩ := hq
  refine zq_contR (zq_stepS Z zq_cf1 (c_Let_with hl h4) d_Let_withoutFormatters_10 m_113 m_114 m_115 m_116 p_Let_with ⟨(Nat.le_of_ble_eq_true rfl), (Nat.le_of_ble_eq_true rfl), (Nat.le_of_ble_eq_true rfl), (Nat.le_of_ble_eq_true rfl)⟩ rfl (Nat.le_of_ble_eq_true rfl)) Z.p ?_
  exact zq_lret Z d_Let_withoutFormatters_13 (zs_1 hf) (zs_2 (fun z => (.inl (some (.long z)) : zq_R)) hf) ⟨(Nat.le_of_ble_eq_true rfl), (Nat.le_of_ble_eq_true rfl)⟩
theorem d_Let_isFormatted_0 : decode b_Let_isFormatted 0 = .ok (.lload_n 0, 1) := by decide +kernel
theorem d_Let_isFormatted_1 : decode b_Let_isFormatted 1 = .ok (.bipush 32, 2) := by decide +kernel
theorem d_Let_isFormatted_3 : decode b_Let_isFormatted 3 = .ok (.invokestatic 17, 3) := by decide +kernel
theorem d_Let_isFormatted_6 : decode b_Let_isFormatted 6 = .ok (.ifCond .eq 7, 3) := by decide +kernel
theorem d_Let_isFormatted_9 : decode b_Let_isFormatted 9 = .ok (.iconst 1, 1) := by decide +kernel
theorem d_Let_isFormatted_10 : decode b_Let_isFormatted 10 = .ok (.goto 4, 3) := by decide +kernel
theorem d_Let_isFormatted_13 : decode b_Let_isFormatted 13 = .ok (.iconst 0, 1) := by decide +kernel
theorem d_Let_isFormatted_14 : decode b_Let_isFormatted 14 = .ok (.ireturn, 1) := by decide +kernel
def f_Let_isFormatted_14  (s0 : Int32) (S : zq_S) : Option (zq_S × Int32) :=
  if s0 = 0 ∨ s0 = 1 then some (S, s0) else none
def f_Let_isFormatted (v0 : Int64) (S : zq_S) : Option (zq_S × Int32) :=
  zs_b (f_Let_get v0 (32 : Int32) S) fun S2 x3 =>
  if x3 = 0 then
    f_Let_isFormatted_14  (0 : Int32) S2
  else
    f_Let_isFormatted_14  (1 : Int32) S2
set_option maxHeartbeats 4000000 in
set_option maxRecDepth 100000 in
theorem r_Let_isFormatted_14 {l : Launch} (hl : l.stackTraces = false) {G : zq_G} {S0 T : zq_S} {v : Int32} {X : zq_X} (Z : Z_Let_isFormatted l G S0 T v X) {s0 : Int32} {S : zq_S} (hf : f_Let_isFormatted_14  s0 S = some (T, v)) : zq_W (Y_Let_isFormatted l G S0 T v) X 14 [] [.int s0] S 0 0 := by
  unfold f_Let_isFormatted_14 at hf
  have hq := zs_C hf
  clear hf
  obtain ⟨h1, hf⟩ := hq
  exact zq_zret Z d_Let_isFormatted_14 h1 (zs_1 hf) (zs_2 (fun z => (.inl (some (.int z)) : zq_R)) hf) ⟨(Nat.le_of_ble_eq_true rfl), (Nat.le_of_ble_eq_true rfl)⟩
set_option maxHeartbeats 4000000 in
set_option maxRecDepth 100000 in
theorem c_Let_isFormatted {l : Launch} (hl : l.stackTraces = false) {G : zq_G} {v0 : Int64} {S0 T : zq_S} {v : Int32} (hf : f_Let_isFormatted v0 S0 = some (T, v)) : zq_M l y_Let_isFormatted (.code y_Let_isFormatted b_Let_isFormatted 2 (some (.boolean))) rm_Let_isFormatted G [.long v0] S0 ((.inl (some (.int v)) : zq_R)) T := by
  refine zq_Mof (lo := [(0, .long v0)]) hl (by decide) (Nat.le_of_ble_eq_true rfl) rfl (fun X Z => ?_)
  have Z : Z_Let_isFormatted l G S0 T v X := Z
  show zq_W (Y_Let_isFormatted l G S0 T v) X 0 [(0, .long v0)] [] S0 0 0
  unfold f_Let_isFormatted at hf
  refine zq_lload_n Z d_Let_isFormatted_0 0 rfl ?_
  refine zq_bipush Z (32 : Int32) d_Let_isFormatted_1 (by decide) ?_
  have hq := zs_bS hf
  clear hf
  obtain ⟨S2, x3, h1, hf⟩ := hq
  refine zq_contR (zq_stepS Z zq_cf1 (c_Let_get hl h1) d_Let_isFormatted_3 m_164 m_177 m_166 m_116 p_Let_get ⟨(Nat.le_of_ble_eq_true rfl), (Nat.le_of_ble_eq_true rfl), (Nat.le_of_ble_eq_true rfl), (Nat.le_of_ble_eq_true rfl)⟩ rfl (Nat.le_of_ble_eq_true rfl)) Z.p ?_
  refine zq_if_eq Z 13 d_Let_isFormatted_6 (by decide) (fun q => ?_) (fun q => ?_)
  · replace hf := zs_T q hf
    refine zq_iconst Z (0 : Int32) d_Let_isFormatted_13 (by decide) ?_
    refine zq_sub (lo' := []) [] rfl ?_
    exact r_Let_isFormatted_14 hl Z  hf
  · replace hf := zs_N q hf
    refine zq_iconst Z (1 : Int32) d_Let_isFormatted_9 (by decide) ?_
    refine zq_goto Z 14 d_Let_isFormatted_10 (by decide) ?_
    refine zq_sub (lo' := []) [] rfl ?_
    exact r_Let_isFormatted_14 hl Z  hf
theorem d_Let_formatBefore_0 : decode b_Let_formatBefore 0 = .ok (.lload_n 0, 1) := by decide +kernel
theorem d_Let_formatBefore_1 : decode b_Let_formatBefore 1 = .ok (.lload_n 0, 1) := by decide +kernel
theorem d_Let_formatBefore_2 : decode b_Let_formatBefore 2 = .ok (.invokestatic 21, 3) := by decide +kernel
theorem d_Let_formatBefore_5 : decode b_Let_formatBefore 5 = .ok (.ifCond .eq 8, 3) := by decide +kernel
theorem d_Let_formatBefore_8 : decode b_Let_formatBefore 8 = .ok (.bipush 40, 2) := by decide +kernel
theorem d_Let_formatBefore_10 : decode b_Let_formatBefore 10 = .ok (.goto 5, 3) := by decide +kernel
theorem d_Let_formatBefore_13 : decode b_Let_formatBefore 13 = .ok (.bipush 8, 2) := by decide +kernel
theorem d_Let_formatBefore_15 : decode b_Let_formatBefore 15 = .ok (.invokestatic 17, 3) := by decide +kernel
theorem d_Let_formatBefore_18 : decode b_Let_formatBefore 18 = .ok (.ireturn, 1) := by decide +kernel
def f_Let_formatBefore_15  (s0 : Int64) (s1 : Int32) (S : zq_S) : Option (zq_S × Int32) :=
  zs_b (f_Let_get s0 s1 S) fun S2 x3 =>
  some (S2, x3)
def f_Let_formatBefore (v0 : Int64) (S : zq_S) : Option (zq_S × Int32) :=
  zs_b (f_Let_isFormatted v0 S) fun S2 x3 =>
  if x3 = 0 then
    f_Let_formatBefore_15  v0 (8 : Int32) S2
  else
    f_Let_formatBefore_15  v0 (40 : Int32) S2
set_option maxHeartbeats 4000000 in
set_option maxRecDepth 100000 in
theorem r_Let_formatBefore_15 {l : Launch} (hl : l.stackTraces = false) {G : zq_G} {S0 T : zq_S} {v : Int32} {X : zq_X} (Z : Z_Let_formatBefore l G S0 T v X) {s0 : Int64} {s1 : Int32} {S : zq_S} (hf : f_Let_formatBefore_15  s0 s1 S = some (T, v)) : zq_W (Y_Let_formatBefore l G S0 T v) X 15 [] [.int s1, .long s0] S 0 0 := by
  unfold f_Let_formatBefore_15 at hf
  have hq := zs_bS hf
  clear hf
  obtain ⟨S2, x3, h1, hf⟩ := hq
  refine zq_contR (zq_stepS Z zq_cf1 (c_Let_get hl h1) d_Let_formatBefore_15 m_164 m_177 m_166 m_116 p_Let_get ⟨(Nat.le_of_ble_eq_true rfl), (Nat.le_of_ble_eq_true rfl), (Nat.le_of_ble_eq_true rfl), (Nat.le_of_ble_eq_true rfl)⟩ rfl (Nat.le_of_ble_eq_true rfl)) Z.p ?_
  exact zq_iret Z d_Let_formatBefore_18 (zs_1 hf) (zs_2 (fun z => (.inl (some (.int z)) : zq_R)) hf) ⟨(Nat.le_of_ble_eq_true rfl), (Nat.le_of_ble_eq_true rfl)⟩
set_option maxHeartbeats 4000000 in
set_option maxRecDepth 100000 in
theorem c_Let_formatBefore {l : Launch} (hl : l.stackTraces = false) {G : zq_G} {v0 : Int64} {S0 T : zq_S} {v : Int32} (hf : f_Let_formatBefore v0 S0 = some (T, v)) : zq_M l y_Let_formatBefore (.code y_Let_formatBefore b_Let_formatBefore 2 (some (.int))) rm_Let_formatBefore G [.long v0] S0 ((.inl (some (.int v)) : zq_R)) T := by
  refine zq_Mof (lo := [(0, .long v0)]) hl (by decide) (Nat.le_of_ble_eq_true rfl) rfl (fun X Z => ?_)
  have Z : Z_Let_formatBefore l G S0 T v X := Z
  show zq_W (Y_Let_formatBefore l G S0 T v) X 0 [(0, .long v0)] [] S0 0 0
  unfold f_Let_formatBefore at hf
  refine zq_lload_n Z d_Let_formatBefore_0 0 rfl ?_
  refine zq_lload_n Z d_Let_formatBefore_1 0 rfl ?_
  have hq := zs_bS hf
  clear hf
  obtain ⟨S2, x3, h1, hf⟩ := hq
  refine zq_contR (zq_stepS Z zq_cf1 (c_Let_isFormatted hl h1) d_Let_formatBefore_2 m_178 m_179 m_180 m_116 p_Let_isFormatted ⟨(Nat.le_of_ble_eq_true rfl), (Nat.le_of_ble_eq_true rfl), (Nat.le_of_ble_eq_true rfl), (Nat.le_of_ble_eq_true rfl)⟩ rfl (Nat.le_of_ble_eq_true rfl)) Z.p ?_
  refine zq_if_eq Z 13 d_Let_formatBefore_5 (by decide) (fun q => ?_) (fun q => ?_)
  · replace hf := zs_T q hf
    refine zq_bipush Z (8 : Int32) d_Let_formatBefore_13 (by decide) ?_
    refine zq_sub (lo' := []) [] rfl ?_
    exact r_Let_formatBefore_15 hl Z  hf
  · replace hf := zs_N q hf
    refine zq_bipush Z (40 : Int32) d_Let_formatBefore_8 (by decide) ?_
    refine zq_goto Z 15 d_Let_formatBefore_10 (by decide) ?_
    refine zq_sub (lo' := []) [] rfl ?_
    exact r_Let_formatBefore_15 hl Z  hf
theorem d_Let_isBy_0 : decode b_Let_isBy 0 = .ok (.lload_n 0, 1) := by decide +kernel
theorem d_Let_isBy_1 : decode b_Let_isBy 1 = .ok (.iload_n 2, 1) := by decide +kernel
theorem d_Let_isBy_2 : decode b_Let_isBy 2 = .ok (.invokestatic 17, 3) := by decide +kernel
theorem d_Let_isBy_5 : decode b_Let_isBy 5 = .ok (.iload_n 3, 1) := by decide +kernel
theorem d_Let_isBy_6 : decode b_Let_isBy 6 = .ok (.iand, 1) := by decide +kernel
theorem d_Let_isBy_7 : decode b_Let_isBy 7 = .ok (.ifCond .eq 7, 3) := by decide +kernel
theorem d_Let_isBy_10 : decode b_Let_isBy 10 = .ok (.iconst 1, 1) := by decide +kernel
theorem d_Let_isBy_11 : decode b_Let_isBy 11 = .ok (.goto 4, 3) := by decide +kernel
theorem d_Let_isBy_14 : decode b_Let_isBy 14 = .ok (.iconst 0, 1) := by decide +kernel
theorem d_Let_isBy_15 : decode b_Let_isBy 15 = .ok (.ireturn, 1) := by decide +kernel
def f_Let_isBy_15  (s0 : Int32) (S : zq_S) : Option (zq_S × Int32) :=
  if s0 = 0 ∨ s0 = 1 then some (S, s0) else none
def f_Let_isBy (v0 : Int64) (v2 : Int32) (v3 : Int32) (S : zq_S) : Option (zq_S × Int32) :=
  zs_b (f_Let_get v0 v2 S) fun S2 x3 =>
  if (x3 &&& v3) = 0 then
    f_Let_isBy_15  (0 : Int32) S2
  else
    f_Let_isBy_15  (1 : Int32) S2
set_option maxHeartbeats 4000000 in
set_option maxRecDepth 100000 in
theorem r_Let_isBy_15 {l : Launch} (hl : l.stackTraces = false) {G : zq_G} {S0 T : zq_S} {v : Int32} {X : zq_X} (Z : Z_Let_isBy l G S0 T v X) {s0 : Int32} {S : zq_S} (hf : f_Let_isBy_15  s0 S = some (T, v)) : zq_W (Y_Let_isBy l G S0 T v) X 15 [] [.int s0] S 0 0 := by
  unfold f_Let_isBy_15 at hf
  have hq := zs_C hf
  clear hf
  obtain ⟨h1, hf⟩ := hq
  exact zq_zret Z d_Let_isBy_15 h1 (zs_1 hf) (zs_2 (fun z => (.inl (some (.int z)) : zq_R)) hf) ⟨(Nat.le_of_ble_eq_true rfl), (Nat.le_of_ble_eq_true rfl)⟩
set_option maxHeartbeats 4000000 in
set_option maxRecDepth 100000 in
theorem c_Let_isBy {l : Launch} (hl : l.stackTraces = false) {G : zq_G} {v0 : Int64} {v2 : Int32} {v3 : Int32} {S0 T : zq_S} {v : Int32} (hf : f_Let_isBy v0 v2 v3 S0 = some (T, v)) : zq_M l y_Let_isBy (.code y_Let_isBy b_Let_isBy 4 (some (.boolean))) rm_Let_isBy G [.long v0, .int v2, .int v3] S0 ((.inl (some (.int v)) : zq_R)) T := by
  refine zq_Mof (lo := [(0, .long v0), (2, .int v2), (3, .int v3)]) hl (by decide) (Nat.le_of_ble_eq_true rfl) rfl (fun X Z => ?_)
  have Z : Z_Let_isBy l G S0 T v X := Z
  show zq_W (Y_Let_isBy l G S0 T v) X 0 [(0, .long v0), (2, .int v2), (3, .int v3)] [] S0 0 0
  unfold f_Let_isBy at hf
  refine zq_lload_n Z d_Let_isBy_0 0 rfl ?_
  refine zq_iload_n Z d_Let_isBy_1 1 rfl ?_
  have hq := zs_bS hf
  clear hf
  obtain ⟨S2, x3, h1, hf⟩ := hq
  refine zq_contR (zq_stepS Z zq_cf1 (c_Let_get hl h1) d_Let_isBy_2 m_164 m_177 m_166 m_116 p_Let_get ⟨(Nat.le_of_ble_eq_true rfl), (Nat.le_of_ble_eq_true rfl), (Nat.le_of_ble_eq_true rfl), (Nat.le_of_ble_eq_true rfl)⟩ rfl (Nat.le_of_ble_eq_true rfl)) Z.p ?_
  refine zq_iload_n Z d_Let_isBy_5 2 rfl ?_
  refine zq_iand Z d_Let_isBy_6 ?_
  refine zq_if_eq Z 14 d_Let_isBy_7 (by decide) (fun q => ?_) (fun q => ?_)
  · replace hf := zs_T q hf
    refine zq_iconst Z (0 : Int32) d_Let_isBy_14 (by decide) ?_
    refine zq_sub (lo' := []) [] rfl ?_
    exact r_Let_isBy_15 hl Z  hf
  · replace hf := zs_N q hf
    refine zq_iconst Z (1 : Int32) d_Let_isBy_10 (by decide) ?_
    refine zq_goto Z 15 d_Let_isBy_11 (by decide) ?_
    refine zq_sub (lo' := []) [] rfl ?_
    exact r_Let_isBy_15 hl Z  hf
theorem d_Let_accepted_0 : decode b_Let_accepted 0 = .ok (.lload_n 0, 1) := by decide +kernel
theorem d_Let_accepted_1 : decode b_Let_accepted 1 = .ok (.bipush 24, 2) := by decide +kernel
theorem d_Let_accepted_3 : decode b_Let_accepted 3 = .ok (.iload_n 2, 1) := by decide +kernel
theorem d_Let_accepted_4 : decode b_Let_accepted 4 = .ok (.invokestatic 25, 3) := by decide +kernel
theorem d_Let_accepted_7 : decode b_Let_accepted 7 = .ok (.ifCond .eq 5, 3) := by decide +kernel
theorem d_Let_accepted_10 : decode b_Let_accepted 10 = .ok (.lconst 0, 1) := by decide +kernel
theorem d_Let_accepted_11 : decode b_Let_accepted 11 = .ok (.lreturn, 1) := by decide +kernel
theorem d_Let_accepted_12 : decode b_Let_accepted 12 = .ok (.lload_n 0, 1) := by decide +kernel
theorem d_Let_accepted_13 : decode b_Let_accepted 13 = .ok (.bipush 16, 2) := by decide +kernel
theorem d_Let_accepted_15 : decode b_Let_accepted 15 = .ok (.iload_n 2, 1) := by decide +kernel
theorem d_Let_accepted_16 : decode b_Let_accepted 16 = .ok (.invokestatic 25, 3) := by decide +kernel
theorem d_Let_accepted_19 : decode b_Let_accepted 19 = .ok (.ifCond .eq 13, 3) := by decide +kernel
theorem d_Let_accepted_22 : decode b_Let_accepted 22 = .ok (.lload_n 0, 1) := by decide +kernel
theorem d_Let_accepted_23 : decode b_Let_accepted 23 = .ok (.bipush 16, 2) := by decide +kernel
theorem d_Let_accepted_25 : decode b_Let_accepted 25 = .ok (.iconst 0, 1) := by decide +kernel
theorem d_Let_accepted_26 : decode b_Let_accepted 26 = .ok (.invokestatic 9, 3) := by decide +kernel
theorem d_Let_accepted_29 : decode b_Let_accepted 29 = .ok (.goto 4, 3) := by decide +kernel
theorem d_Let_accepted_32 : decode b_Let_accepted 32 = .ok (.lload_n 0, 1) := by decide +kernel
theorem d_Let_accepted_33 : decode b_Let_accepted 33 = .ok (.lstore_n 3, 1) := by decide +kernel
theorem d_Let_accepted_34 : decode b_Let_accepted 34 = .ok (.lload_n 0, 1) := by decide +kernel
theorem d_Let_accepted_35 : decode b_Let_accepted 35 = .ok (.bipush 32, 2) := by decide +kernel
theorem d_Let_accepted_37 : decode b_Let_accepted 37 = .ok (.iload_n 2, 1) := by decide +kernel
theorem d_Let_accepted_38 : decode b_Let_accepted 38 = .ok (.invokestatic 25, 3) := by decide +kernel
theorem d_Let_accepted_41 : decode b_Let_accepted 41 = .ok (.ifCond .eq 10, 3) := by decide +kernel
theorem d_Let_accepted_44 : decode b_Let_accepted 44 = .ok (.lload_n 3, 1) := by decide +kernel
theorem d_Let_accepted_45 : decode b_Let_accepted 45 = .ok (.invokestatic 29, 3) := by decide +kernel
theorem d_Let_accepted_48 : decode b_Let_accepted 48 = .ok (.goto 4, 3) := by decide +kernel
theorem d_Let_accepted_51 : decode b_Let_accepted 51 = .ok (.lload_n 3, 1) := by decide +kernel
theorem d_Let_accepted_52 : decode b_Let_accepted 52 = .ok (.lreturn, 1) := by decide +kernel
def f_Let_accepted_52  (s0 : Int64) (S : zq_S) : Option (zq_S × Int64) :=
  some (S, s0)
def f_Let_accepted_33  (v0 : Int64) (v2 : Int32) (s0 : Int64) (S : zq_S) : Option (zq_S × Int64) :=
  zs_b (f_Let_isBy v0 (32 : Int32) v2 S) fun S2 x3 =>
  if x3 = 0 then
    f_Let_accepted_52  s0 S2
  else
    zs_b (f_Let_withoutFormatters s0 S2) fun S5 x6 =>
    f_Let_accepted_52  x6 S5
def f_Let_accepted (v0 : Int64) (v2 : Int32) (S : zq_S) : Option (zq_S × Int64) :=
  zs_b (f_Let_isBy v0 (24 : Int32) v2 S) fun S2 x3 =>
  if x3 = 0 then
    zs_b (f_Let_isBy v0 (16 : Int32) v2 S2) fun S5 x6 =>
    if x6 = 0 then
      f_Let_accepted_33  v0 v2 v0 S5
    else
      zs_b (f_Let_with v0 (16 : Int32) (0 : Int32) S5) fun S8 x9 =>
      f_Let_accepted_33  v0 v2 x9 S8
  else
    some (S2, (0 : Int64))
set_option maxHeartbeats 4000000 in
set_option maxRecDepth 100000 in
theorem r_Let_accepted_52 {l : Launch} (hl : l.stackTraces = false) {G : zq_G} {S0 T : zq_S} {v : Int64} {X : zq_X} (Z : Z_Let_accepted l G S0 T v X) {s0 : Int64} {S : zq_S} (hf : f_Let_accepted_52  s0 S = some (T, v)) : zq_W (Y_Let_accepted l G S0 T v) X 52 [] [.long s0] S 0 0 := by
  unfold f_Let_accepted_52 at hf
  exact zq_lret Z d_Let_accepted_52 (zs_1 hf) (zs_2 (fun z => (.inl (some (.long z)) : zq_R)) hf) ⟨(Nat.le_of_ble_eq_true rfl), (Nat.le_of_ble_eq_true rfl)⟩
set_option maxHeartbeats 4000000 in
set_option maxRecDepth 100000 in
theorem r_Let_accepted_33 {l : Launch} (hl : l.stackTraces = false) {G : zq_G} {S0 T : zq_S} {v : Int64} {X : zq_X} (Z : Z_Let_accepted l G S0 T v X) {v0 : Int64} {v2 : Int32} {s0 : Int64} {S : zq_S} (hf : f_Let_accepted_33  v0 v2 s0 S = some (T, v)) : zq_W (Y_Let_accepted l G S0 T v) X 33 [(0, .long v0), (2, .int v2)] [.long s0] S 0 0 := by
  unfold f_Let_accepted_33 at hf
  refine zq_lstore_n Z rfl [(3, .long s0), (0, .long v0), (2, .int v2)] d_Let_accepted_33 (by decide) rfl ?_
  refine zq_lload_n Z d_Let_accepted_34 1 rfl ?_
  refine zq_bipush Z (32 : Int32) d_Let_accepted_35 (by decide) ?_
  refine zq_iload_n Z d_Let_accepted_37 2 rfl ?_
  have hq := zs_bS hf
  clear hf
  obtain ⟨S2, x3, h1, hf⟩ := hq
  refine zq_contR (zq_stepS Z zq_cf1 (c_Let_isBy hl h1) d_Let_accepted_38 m_192 m_193 m_194 m_116 p_Let_isBy ⟨(Nat.le_of_ble_eq_true rfl), (Nat.le_of_ble_eq_true rfl), (Nat.le_of_ble_eq_true rfl), (Nat.le_of_ble_eq_true rfl)⟩ rfl (Nat.le_of_ble_eq_true rfl)) Z.p ?_
  refine zq_if_eq Z 51 d_Let_accepted_41 (by decide) (fun q => ?_) (fun q => ?_)
  · replace hf := zs_T q hf
    refine zq_lload_n Z d_Let_accepted_51 0 rfl ?_
    refine zq_sub (lo' := []) [] rfl ?_
    exact r_Let_accepted_52 hl Z  hf
  · replace hf := zs_N q hf
    refine zq_lload_n Z d_Let_accepted_44 0 rfl ?_
    have hq := zs_bS hf
    clear hf
    obtain ⟨S5, x6, h4, hf⟩ := hq
    refine zq_contR (zq_stepS Z zq_cf1 (c_Let_withoutFormatters hl h4) d_Let_accepted_45 m_184 m_195 m_186 m_116 p_Let_withoutFormatters ⟨(Nat.le_of_ble_eq_true rfl), (Nat.le_of_ble_eq_true rfl), (Nat.le_of_ble_eq_true rfl), (Nat.le_of_ble_eq_true rfl)⟩ rfl (Nat.le_of_ble_eq_true rfl)) Z.p ?_
    refine zq_goto Z 52 d_Let_accepted_48 (by decide) ?_
    refine zq_sub (lo' := []) [] rfl ?_
    exact r_Let_accepted_52 hl Z  hf
set_option maxHeartbeats 4000000 in
set_option maxRecDepth 100000 in
theorem c_Let_accepted {l : Launch} (hl : l.stackTraces = false) {G : zq_G} {v0 : Int64} {v2 : Int32} {S0 T : zq_S} {v : Int64} (hf : f_Let_accepted v0 v2 S0 = some (T, v)) : zq_M l y_Let_accepted (.code y_Let_accepted b_Let_accepted 5 (some (.long))) rm_Let_accepted G [.long v0, .int v2] S0 ((.inl (some (.long v)) : zq_R)) T := by
  refine zq_Mof (lo := [(0, .long v0), (2, .int v2)]) hl (by decide) (Nat.le_of_ble_eq_true rfl) rfl (fun X Z => ?_)
  have Z : Z_Let_accepted l G S0 T v X := Z
  show zq_W (Y_Let_accepted l G S0 T v) X 0 [(0, .long v0), (2, .int v2)] [] S0 0 0
  unfold f_Let_accepted at hf
  refine zq_lload_n Z d_Let_accepted_0 0 rfl ?_
  refine zq_bipush Z (24 : Int32) d_Let_accepted_1 (by decide) ?_
  refine zq_iload_n Z d_Let_accepted_3 1 rfl ?_
  have hq := zs_bS hf
  clear hf
  obtain ⟨S2, x3, h1, hf⟩ := hq
  refine zq_contR (zq_stepS Z zq_cf1 (c_Let_isBy hl h1) d_Let_accepted_4 m_192 m_193 m_194 m_116 p_Let_isBy ⟨(Nat.le_of_ble_eq_true rfl), (Nat.le_of_ble_eq_true rfl), (Nat.le_of_ble_eq_true rfl), (Nat.le_of_ble_eq_true rfl)⟩ rfl (Nat.le_of_ble_eq_true rfl)) Z.p ?_
  refine zq_if_eq Z 12 d_Let_accepted_7 (by decide) (fun q => ?_) (fun q => ?_)
  · replace hf := zs_T q hf
    refine zq_lload_n Z d_Let_accepted_12 0 rfl ?_
    refine zq_bipush Z (16 : Int32) d_Let_accepted_13 (by decide) ?_
    refine zq_iload_n Z d_Let_accepted_15 1 rfl ?_
    have hq := zs_bS hf
    clear hf
    obtain ⟨S5, x6, h4, hf⟩ := hq
    refine zq_contR (zq_stepS Z zq_cf1 (c_Let_isBy hl h4) d_Let_accepted_16 m_192 m_193 m_194 m_116 p_Let_isBy ⟨(Nat.le_of_ble_eq_true rfl), (Nat.le_of_ble_eq_true rfl), (Nat.le_of_ble_eq_true rfl), (Nat.le_of_ble_eq_true rfl)⟩ rfl (Nat.le_of_ble_eq_true rfl)) Z.p ?_
    refine zq_if_eq Z 32 d_Let_accepted_19 (by decide) (fun q => ?_) (fun q => ?_)
    · replace hf := zs_T q hf
      refine zq_lload_n Z d_Let_accepted_32 0 rfl ?_
      refine zq_sub (lo' := [(0, .long v0), (2, .int v2)]) [0, 1] rfl ?_
      exact r_Let_accepted_33 hl Z  hf
    · replace hf := zs_N q hf
      refine zq_lload_n Z d_Let_accepted_22 0 rfl ?_
      refine zq_bipush Z (16 : Int32) d_Let_accepted_23 (by decide) ?_
      refine zq_iconst Z (0 : Int32) d_Let_accepted_25 (by decide) ?_
      have hq := zs_bS hf
      clear hf
      obtain ⟨S8, x9, h7, hf⟩ := hq
      refine zq_contR (zq_stepS Z zq_cf1 (c_Let_with hl h7) d_Let_accepted_26 m_113 m_114 m_115 m_116 p_Let_with ⟨(Nat.le_of_ble_eq_true rfl), (Nat.le_of_ble_eq_true rfl), (Nat.le_of_ble_eq_true rfl), (Nat.le_of_ble_eq_true rfl)⟩ rfl (Nat.le_of_ble_eq_true rfl)) Z.p ?_
      refine zq_goto Z 33 d_Let_accepted_29 (by decide) ?_
      refine zq_sub (lo' := [(0, .long v0), (2, .int v2)]) [0, 1] rfl ?_
      exact r_Let_accepted_33 hl Z  hf
  · replace hf := zs_N q hf
    refine zq_lconst Z (0 : Int64) d_Let_accepted_10 (by decide) ?_
    exact zq_lret Z d_Let_accepted_11 (zs_1 hf) (zs_2 (fun z => (.inl (some (.long z)) : zq_R)) hf) ⟨(Nat.le_of_ble_eq_true rfl), (Nat.le_of_ble_eq_true rfl)⟩
theorem d_Let_rejected_0 : decode b_Let_rejected 0 = .ok (.lload_n 0, 1) := by decide +kernel
theorem d_Let_rejected_1 : decode b_Let_rejected 1 = .ok (.bipush 16, 2) := by decide +kernel
theorem d_Let_rejected_3 : decode b_Let_rejected 3 = .ok (.iload_n 2, 1) := by decide +kernel
theorem d_Let_rejected_4 : decode b_Let_rejected 4 = .ok (.invokestatic 25, 3) := by decide +kernel
theorem d_Let_rejected_7 : decode b_Let_rejected 7 = .ok (.ifCond .eq 5, 3) := by decide +kernel
theorem d_Let_rejected_10 : decode b_Let_rejected 10 = .ok (.lconst 0, 1) := by decide +kernel
theorem d_Let_rejected_11 : decode b_Let_rejected 11 = .ok (.lreturn, 1) := by decide +kernel
theorem d_Let_rejected_12 : decode b_Let_rejected 12 = .ok (.lload_n 0, 1) := by decide +kernel
theorem d_Let_rejected_13 : decode b_Let_rejected 13 = .ok (.bipush 24, 2) := by decide +kernel
theorem d_Let_rejected_15 : decode b_Let_rejected 15 = .ok (.lload_n 0, 1) := by decide +kernel
theorem d_Let_rejected_16 : decode b_Let_rejected 16 = .ok (.bipush 24, 2) := by decide +kernel
theorem d_Let_rejected_18 : decode b_Let_rejected 18 = .ok (.invokestatic 17, 3) := by decide +kernel
theorem d_Let_rejected_21 : decode b_Let_rejected 21 = .ok (.iload_n 2, 1) := by decide +kernel
theorem d_Let_rejected_22 : decode b_Let_rejected 22 = .ok (.iconst (-1), 1) := by decide +kernel
theorem d_Let_rejected_23 : decode b_Let_rejected 23 = .ok (.ixor, 1) := by decide +kernel
theorem d_Let_rejected_24 : decode b_Let_rejected 24 = .ok (.iand, 1) := by decide +kernel
theorem d_Let_rejected_25 : decode b_Let_rejected 25 = .ok (.invokestatic 9, 3) := by decide +kernel
theorem d_Let_rejected_28 : decode b_Let_rejected 28 = .ok (.lstore_n 3, 1) := by decide +kernel
theorem d_Let_rejected_29 : decode b_Let_rejected 29 = .ok (.lload_n 0, 1) := by decide +kernel
theorem d_Let_rejected_30 : decode b_Let_rejected 30 = .ok (.bipush 32, 2) := by decide +kernel
theorem d_Let_rejected_32 : decode b_Let_rejected 32 = .ok (.iload_n 2, 1) := by decide +kernel
theorem d_Let_rejected_33 : decode b_Let_rejected 33 = .ok (.invokestatic 25, 3) := by decide +kernel
theorem d_Let_rejected_36 : decode b_Let_rejected 36 = .ok (.ifCond .ne 5, 3) := by decide +kernel
theorem d_Let_rejected_39 : decode b_Let_rejected 39 = .ok (.lload_n 3, 1) := by decide +kernel
theorem d_Let_rejected_40 : decode b_Let_rejected 40 = .ok (.lreturn, 1) := by decide +kernel
theorem d_Let_rejected_41 : decode b_Let_rejected 41 = .ok (.lload_n 3, 1) := by decide +kernel
theorem d_Let_rejected_42 : decode b_Let_rejected 42 = .ok (.bipush 8, 2) := by decide +kernel
theorem d_Let_rejected_44 : decode b_Let_rejected 44 = .ok (.lload_n 0, 1) := by decide +kernel
theorem d_Let_rejected_45 : decode b_Let_rejected 45 = .ok (.bipush 40, 2) := by decide +kernel
theorem d_Let_rejected_47 : decode b_Let_rejected 47 = .ok (.invokestatic 17, 3) := by decide +kernel
theorem d_Let_rejected_50 : decode b_Let_rejected 50 = .ok (.invokestatic 9, 3) := by decide +kernel
theorem d_Let_rejected_53 : decode b_Let_rejected 53 = .ok (.invokestatic 29, 3) := by decide +kernel
theorem d_Let_rejected_56 : decode b_Let_rejected 56 = .ok (.lreturn, 1) := by decide +kernel
def f_Let_rejected (v0 : Int64) (v2 : Int32) (S : zq_S) : Option (zq_S × Int64) :=
  zs_b (f_Let_isBy v0 (16 : Int32) v2 S) fun S2 x3 =>
  if x3 = 0 then
    zs_b (f_Let_get v0 (24 : Int32) S2) fun S5 x6 =>
    zs_b (f_Let_with v0 (24 : Int32) (x6 &&& (v2 ^^^ (-1 : Int32))) S5) fun S8 x9 =>
    zs_b (f_Let_isBy v0 (32 : Int32) v2 S8) fun S11 x12 =>
    if x12 = 0 then
      some (S11, x9)
    else
      zs_b (f_Let_get v0 (40 : Int32) S11) fun S14 x15 =>
      zs_b (f_Let_with x9 (8 : Int32) x15 S14) fun S17 x18 =>
      zs_b (f_Let_withoutFormatters x18 S17) fun S20 x21 =>
      some (S20, x21)
  else
    some (S2, (0 : Int64))
set_option maxHeartbeats 4000000 in
set_option maxRecDepth 100000 in
theorem c_Let_rejected {l : Launch} (hl : l.stackTraces = false) {G : zq_G} {v0 : Int64} {v2 : Int32} {S0 T : zq_S} {v : Int64} (hf : f_Let_rejected v0 v2 S0 = some (T, v)) : zq_M l y_Let_rejected (.code y_Let_rejected b_Let_rejected 5 (some (.long))) rm_Let_rejected G [.long v0, .int v2] S0 ((.inl (some (.long v)) : zq_R)) T := by
  refine zq_Mof (lo := [(0, .long v0), (2, .int v2)]) hl (by decide) (Nat.le_of_ble_eq_true rfl) rfl (fun X Z => ?_)
  have Z : Z_Let_rejected l G S0 T v X := Z
  show zq_W (Y_Let_rejected l G S0 T v) X 0 [(0, .long v0), (2, .int v2)] [] S0 0 0
  unfold f_Let_rejected at hf
  refine zq_lload_n Z d_Let_rejected_0 0 rfl ?_
  refine zq_bipush Z (16 : Int32) d_Let_rejected_1 (by decide) ?_
  refine zq_iload_n Z d_Let_rejected_3 1 rfl ?_
  have hq := zs_bS hf
  clear hf
  obtain ⟨S2, x3, h1, hf⟩ := hq
  refine zq_contR (zq_stepS Z zq_cf1 (c_Let_isBy hl h1) d_Let_rejected_4 m_192 m_193 m_194 m_116 p_Let_isBy ⟨(Nat.le_of_ble_eq_true rfl), (Nat.le_of_ble_eq_true rfl), (Nat.le_of_ble_eq_true rfl), (Nat.le_of_ble_eq_true rfl)⟩ rfl (Nat.le_of_ble_eq_true rfl)) Z.p ?_
  refine zq_if_eq Z 12 d_Let_rejected_7 (by decide) (fun q => ?_) (fun q => ?_)
  · replace hf := zs_T q hf
    refine zq_lload_n Z d_Let_rejected_12 0 rfl ?_
    refine zq_bipush Z (24 : Int32) d_Let_rejected_13 (by decide) ?_
    refine zq_lload_n Z d_Let_rejected_15 0 rfl ?_
    refine zq_bipush Z (24 : Int32) d_Let_rejected_16 (by decide) ?_
    have hq := zs_bS hf
    clear hf
    obtain ⟨S5, x6, h4, hf⟩ := hq
    refine zq_contR (zq_stepS Z zq_cf1 (c_Let_get hl h4) d_Let_rejected_18 m_164 m_177 m_166 m_116 p_Let_get ⟨(Nat.le_of_ble_eq_true rfl), (Nat.le_of_ble_eq_true rfl), (Nat.le_of_ble_eq_true rfl), (Nat.le_of_ble_eq_true rfl)⟩ rfl (Nat.le_of_ble_eq_true rfl)) Z.p ?_
    refine zq_iload_n Z d_Let_rejected_21 1 rfl ?_
    refine zq_iconst Z (-1 : Int32) d_Let_rejected_22 (by decide) ?_
    refine zq_ixor Z d_Let_rejected_23 ?_
    refine zq_iand Z d_Let_rejected_24 ?_
    have hq := zs_bS hf
    clear hf
    obtain ⟨S8, x9, h7, hf⟩ := hq
    refine zq_contR (zq_stepS Z zq_cf1 (c_Let_with hl h7) d_Let_rejected_25 m_113 m_114 m_115 m_116 p_Let_with ⟨(Nat.le_of_ble_eq_true rfl), (Nat.le_of_ble_eq_true rfl), (Nat.le_of_ble_eq_true rfl), (Nat.le_of_ble_eq_true rfl)⟩ rfl (Nat.le_of_ble_eq_true rfl)) Z.p ?_
    refine zq_lstore_n Z rfl [(3, .long x9), (0, .long v0), (2, .int v2)] d_Let_rejected_28 (by decide) rfl ?_
    refine zq_lload_n Z d_Let_rejected_29 1 rfl ?_
    refine zq_bipush Z (32 : Int32) d_Let_rejected_30 (by decide) ?_
    refine zq_iload_n Z d_Let_rejected_32 2 rfl ?_
    have hq := zs_bS hf
    clear hf
    obtain ⟨S11, x12, h10, hf⟩ := hq
    refine zq_contR (zq_stepS Z zq_cf1 (c_Let_isBy hl h10) d_Let_rejected_33 m_192 m_193 m_194 m_116 p_Let_isBy ⟨(Nat.le_of_ble_eq_true rfl), (Nat.le_of_ble_eq_true rfl), (Nat.le_of_ble_eq_true rfl), (Nat.le_of_ble_eq_true rfl)⟩ rfl (Nat.le_of_ble_eq_true rfl)) Z.p ?_
    refine zq_if_ne Z 41 d_Let_rejected_36 (by decide) (fun q => ?_) (fun q => ?_)
    · replace hf := zs_N q hf
      refine zq_lload_n Z d_Let_rejected_41 0 rfl ?_
      refine zq_bipush Z (8 : Int32) d_Let_rejected_42 (by decide) ?_
      refine zq_lload_n Z d_Let_rejected_44 1 rfl ?_
      refine zq_bipush Z (40 : Int32) d_Let_rejected_45 (by decide) ?_
      have hq := zs_bS hf
      clear hf
      obtain ⟨S14, x15, h13, hf⟩ := hq
      refine zq_contR (zq_stepS Z zq_cf1 (c_Let_get hl h13) d_Let_rejected_47 m_164 m_177 m_166 m_116 p_Let_get ⟨(Nat.le_of_ble_eq_true rfl), (Nat.le_of_ble_eq_true rfl), (Nat.le_of_ble_eq_true rfl), (Nat.le_of_ble_eq_true rfl)⟩ rfl (Nat.le_of_ble_eq_true rfl)) Z.p ?_
      have hq := zs_bS hf
      clear hf
      obtain ⟨S17, x18, h16, hf⟩ := hq
      refine zq_contR (zq_stepS Z zq_cf1 (c_Let_with hl h16) d_Let_rejected_50 m_113 m_114 m_115 m_116 p_Let_with ⟨(Nat.le_of_ble_eq_true rfl), (Nat.le_of_ble_eq_true rfl), (Nat.le_of_ble_eq_true rfl), (Nat.le_of_ble_eq_true rfl)⟩ rfl (Nat.le_of_ble_eq_true rfl)) Z.p ?_
      have hq := zs_bS hf
      clear hf
      obtain ⟨S20, x21, h19, hf⟩ := hq
      refine zq_contR (zq_stepS Z zq_cf1 (c_Let_withoutFormatters hl h19) d_Let_rejected_53 m_184 m_195 m_186 m_116 p_Let_withoutFormatters ⟨(Nat.le_of_ble_eq_true rfl), (Nat.le_of_ble_eq_true rfl), (Nat.le_of_ble_eq_true rfl), (Nat.le_of_ble_eq_true rfl)⟩ rfl (Nat.le_of_ble_eq_true rfl)) Z.p ?_
      exact zq_lret Z d_Let_rejected_56 (zs_1 hf) (zs_2 (fun z => (.inl (some (.long z)) : zq_R)) hf) ⟨(Nat.le_of_ble_eq_true rfl), (Nat.le_of_ble_eq_true rfl)⟩
    · replace hf := zs_T q hf
      refine zq_lload_n Z d_Let_rejected_39 0 rfl ?_
      exact zq_lret Z d_Let_rejected_40 (zs_1 hf) (zs_2 (fun z => (.inl (some (.long z)) : zq_R)) hf) ⟨(Nat.le_of_ble_eq_true rfl), (Nat.le_of_ble_eq_true rfl)⟩
  · replace hf := zs_N q hf
    refine zq_lconst Z (0 : Int64) d_Let_rejected_10 (by decide) ?_
    exact zq_lret Z d_Let_rejected_11 (zs_1 hf) (zs_2 (fun z => (.inl (some (.long z)) : zq_R)) hf) ⟨(Nat.le_of_ble_eq_true rfl), (Nat.le_of_ble_eq_true rfl)⟩
theorem d_Let_markOf_0 : decode b_Let_markOf 0 = .ok (.lload_n 0, 1) := by decide +kernel
theorem d_Let_markOf_1 : decode b_Let_markOf 1 = .ok (.bipush 16, 2) := by decide +kernel
theorem d_Let_markOf_3 : decode b_Let_markOf 3 = .ok (.lushr, 1) := by decide +kernel
theorem d_Let_markOf_4 : decode b_Let_markOf 4 = .ok (.lreturn, 1) := by decide +kernel
def f_Let_markOf (v0 : Int64) (S : zq_S) : Option (zq_S × Int64) :=
  some (S, (zf_lushr v0 (16 : Int32)))
set_option maxHeartbeats 4000000 in
set_option maxRecDepth 100000 in
theorem c_Let_markOf {l : Launch} (hl : l.stackTraces = false) {G : zq_G} {v0 : Int64} {S0 T : zq_S} {v : Int64} (hf : f_Let_markOf v0 S0 = some (T, v)) : zq_M l y_Let_markOf (.code y_Let_markOf b_Let_markOf 2 (some (.long))) rm_Let_markOf G [.long v0] S0 ((.inl (some (.long v)) : zq_R)) T := by
  refine zq_Mof (lo := [(0, .long v0)]) hl (by decide) (Nat.le_of_ble_eq_true rfl) rfl (fun X Z => ?_)
  have Z : Z_Let_markOf l G S0 T v X := Z
  show zq_W (Y_Let_markOf l G S0 T v) X 0 [(0, .long v0)] [] S0 0 0
  unfold f_Let_markOf at hf
  refine zq_lload_n Z d_Let_markOf_0 0 rfl ?_
  refine zq_bipush Z (16 : Int32) d_Let_markOf_1 (by decide) ?_
  refine zq_lushr Z d_Let_markOf_3 ?_
  exact zq_lret Z d_Let_markOf_4 (zs_1 hf) (zs_2 (fun z => (.inl (some (.long z)) : zq_R)) hf) ⟨(Nat.le_of_ble_eq_true rfl), (Nat.le_of_ble_eq_true rfl)⟩
theorem d_Let_markers_0 : decode b_Let_markers 0 = .ok (.lload_n 0, 1) := by decide +kernel
theorem d_Let_markers_1 : decode b_Let_markers 1 = .ok (.bipush 16, 2) := by decide +kernel
theorem d_Let_markers_3 : decode b_Let_markers 3 = .ok (.invokestatic 17, 3) := by decide +kernel
theorem d_Let_markers_6 : decode b_Let_markers 6 = .ok (.lload_n 0, 1) := by decide +kernel
theorem d_Let_markers_7 : decode b_Let_markers 7 = .ok (.bipush 24, 2) := by decide +kernel
theorem d_Let_markers_9 : decode b_Let_markers 9 = .ok (.invokestatic 17, 3) := by decide +kernel
theorem d_Let_markers_12 : decode b_Let_markers 12 = .ok (.ior, 1) := by decide +kernel
theorem d_Let_markers_13 : decode b_Let_markers 13 = .ok (.lload_n 0, 1) := by decide +kernel
theorem d_Let_markers_14 : decode b_Let_markers 14 = .ok (.bipush 32, 2) := by decide +kernel
theorem d_Let_markers_16 : decode b_Let_markers 16 = .ok (.invokestatic 17, 3) := by decide +kernel
theorem d_Let_markers_19 : decode b_Let_markers 19 = .ok (.ior, 1) := by decide +kernel
theorem d_Let_markers_20 : decode b_Let_markers 20 = .ok (.ireturn, 1) := by decide +kernel
def f_Let_markers (v0 : Int64) (S : zq_S) : Option (zq_S × Int32) :=
  zs_b (f_Let_get v0 (16 : Int32) S) fun S2 x3 =>
  zs_b (f_Let_get v0 (24 : Int32) S2) fun S5 x6 =>
  zs_b (f_Let_get v0 (32 : Int32) S5) fun S8 x9 =>
  some (S8, ((x3 ||| x6) ||| x9))
set_option maxHeartbeats 4000000 in
set_option maxRecDepth 100000 in
theorem c_Let_markers {l : Launch} (hl : l.stackTraces = false) {G : zq_G} {v0 : Int64} {S0 T : zq_S} {v : Int32} (hf : f_Let_markers v0 S0 = some (T, v)) : zq_M l y_Let_markers (.code y_Let_markers b_Let_markers 2 (some (.int))) rm_Let_markers G [.long v0] S0 ((.inl (some (.int v)) : zq_R)) T := by
  refine zq_Mof (lo := [(0, .long v0)]) hl (by decide) (Nat.le_of_ble_eq_true rfl) rfl (fun X Z => ?_)
  have Z : Z_Let_markers l G S0 T v X := Z
  show zq_W (Y_Let_markers l G S0 T v) X 0 [(0, .long v0)] [] S0 0 0
  unfold f_Let_markers at hf
  refine zq_lload_n Z d_Let_markers_0 0 rfl ?_
  refine zq_bipush Z (16 : Int32) d_Let_markers_1 (by decide) ?_
  have hq := zs_bS hf
  clear hf
  obtain ⟨S2, x3, h1, hf⟩ := hq
  refine zq_contR (zq_stepS Z zq_cf1 (c_Let_get hl h1) d_Let_markers_3 m_164 m_177 m_166 m_116 p_Let_get ⟨(Nat.le_of_ble_eq_true rfl), (Nat.le_of_ble_eq_true rfl), (Nat.le_of_ble_eq_true rfl), (Nat.le_of_ble_eq_true rfl)⟩ rfl (Nat.le_of_ble_eq_true rfl)) Z.p ?_
  refine zq_lload_n Z d_Let_markers_6 0 rfl ?_
  refine zq_bipush Z (24 : Int32) d_Let_markers_7 (by decide) ?_
  have hq := zs_bS hf
  clear hf
  obtain ⟨S5, x6, h4, hf⟩ := hq
  refine zq_contR (zq_stepS Z zq_cf1 (c_Let_get hl h4) d_Let_markers_9 m_164 m_177 m_166 m_116 p_Let_get ⟨(Nat.le_of_ble_eq_true rfl), (Nat.le_of_ble_eq_true rfl), (Nat.le_of_ble_eq_true rfl), (Nat.le_of_ble_eq_true rfl)⟩ rfl (Nat.le_of_ble_eq_true rfl)) Z.p ?_
  refine zq_ior Z d_Let_markers_12 ?_
  refine zq_lload_n Z d_Let_markers_13 0 rfl ?_
  refine zq_bipush Z (32 : Int32) d_Let_markers_14 (by decide) ?_
  have hq := zs_bS hf
  clear hf
  obtain ⟨S8, x9, h7, hf⟩ := hq
  refine zq_contR (zq_stepS Z zq_cf1 (c_Let_get hl h7) d_Let_markers_16 m_164 m_177 m_166 m_116 p_Let_get ⟨(Nat.le_of_ble_eq_true rfl), (Nat.le_of_ble_eq_true rfl), (Nat.le_of_ble_eq_true rfl), (Nat.le_of_ble_eq_true rfl)⟩ rfl (Nat.le_of_ble_eq_true rfl)) Z.p ?_
  refine zq_ior Z d_Let_markers_19 ?_
  exact zq_iret Z d_Let_markers_20 (zs_1 hf) (zs_2 (fun z => (.inl (some (.int z)) : zq_R)) hf) ⟨(Nat.le_of_ble_eq_true rfl), (Nat.le_of_ble_eq_true rfl)⟩
