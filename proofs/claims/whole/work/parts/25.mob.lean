theorem d_Mo_become_0 : decode b_Mo_become 0 = .ok (.lload_n 0, 1) := by decide +kernel
theorem d_Mo_become_1 : decode b_Mo_become 1 = .ok (.iconst 2, 1) := by decide +kernel
theorem d_Mo_become_2 : decode b_Mo_become 2 = .ok (.invokestatic 66, 3) := by decide +kernel
theorem d_Mo_become_5 : decode b_Mo_become 5 = .ok (.iload_n 3, 1) := by decide +kernel
theorem d_Mo_become_6 : decode b_Mo_become 6 = .ok (.if_icmp .ne 7, 3) := by decide +kernel
theorem d_Mo_become_9 : decode b_Mo_become 9 = .ok (.iconst 1, 1) := by decide +kernel
theorem d_Mo_become_10 : decode b_Mo_become 10 = .ok (.goto 4, 3) := by decide +kernel
theorem d_Mo_become_13 : decode b_Mo_become 13 = .ok (.iconst 0, 1) := by decide +kernel
theorem d_Mo_become_14 : decode b_Mo_become 14 = .ok (.istore 6, 2) := by decide +kernel
theorem d_Mo_become_16 : decode b_Mo_become 16 = .ok (.iload_n 2, 1) := by decide +kernel
theorem d_Mo_become_17 : decode b_Mo_become 17 = .ok (.iconst 1, 1) := by decide +kernel
theorem d_Mo_become_18 : decode b_Mo_become 18 = .ok (.if_icmp .ne 32, 3) := by decide +kernel
theorem d_Mo_become_21 : decode b_Mo_become 21 = .ok (.iload 4, 2) := by decide +kernel
theorem d_Mo_become_23 : decode b_Mo_become 23 = .ok (.ifCond .eq 8, 3) := by decide +kernel
theorem d_Mo_become_26 : decode b_Mo_become 26 = .ok (.iload 6, 2) := by decide +kernel
theorem d_Mo_become_28 : decode b_Mo_become 28 = .ok (.ifCond .eq 9, 3) := by decide +kernel
theorem d_Mo_become_31 : decode b_Mo_become 31 = .ok (.ldc2_w 41, 3) := by decide +kernel
theorem d_Mo_become_34 : decode b_Mo_become 34 = .ok (.goto 15, 3) := by decide +kernel
theorem d_Mo_become_37 : decode b_Mo_become 37 = .ok (.lload_n 0, 1) := by decide +kernel
theorem d_Mo_become_38 : decode b_Mo_become 38 = .ok (.iconst 3, 1) := by decide +kernel
theorem d_Mo_become_39 : decode b_Mo_become 39 = .ok (.lload_n 0, 1) := by decide +kernel
theorem d_Mo_become_40 : decode b_Mo_become 40 = .ok (.iconst 3, 1) := by decide +kernel
theorem d_Mo_become_41 : decode b_Mo_become 41 = .ok (.invokestatic 66, 3) := by decide +kernel
theorem d_Mo_become_44 : decode b_Mo_become 44 = .ok (.iload_n 3, 1) := by decide +kernel
theorem d_Mo_become_45 : decode b_Mo_become 45 = .ok (.ior, 1) := by decide +kernel
theorem d_Mo_become_46 : decode b_Mo_become 46 = .ok (.invokestatic 70, 3) := by decide +kernel
theorem d_Mo_become_49 : decode b_Mo_become 49 = .ok (.lreturn, 1) := by decide +kernel
theorem d_Mo_become_50 : decode b_Mo_become 50 = .ok (.iload_n 2, 1) := by decide +kernel
theorem d_Mo_become_51 : decode b_Mo_become 51 = .ok (.iconst 2, 1) := by decide +kernel
theorem d_Mo_become_52 : decode b_Mo_become 52 = .ok (.if_icmp .ne 15, 3) := by decide +kernel
theorem d_Mo_become_55 : decode b_Mo_become 55 = .ok (.lload_n 0, 1) := by decide +kernel
theorem d_Mo_become_56 : decode b_Mo_become 56 = .ok (.iload_n 3, 1) := by decide +kernel
theorem d_Mo_become_57 : decode b_Mo_become 57 = .ok (.iload 4, 2) := by decide +kernel
theorem d_Mo_become_59 : decode b_Mo_become 59 = .ok (.iload 6, 2) := by decide +kernel
theorem d_Mo_become_61 : decode b_Mo_become 61 = .ok (.iload 5, 2) := by decide +kernel
theorem d_Mo_become_63 : decode b_Mo_become 63 = .ok (.invokestatic 74, 3) := by decide +kernel
theorem d_Mo_become_66 : decode b_Mo_become 66 = .ok (.lreturn, 1) := by decide +kernel
theorem d_Mo_become_67 : decode b_Mo_become 67 = .ok (.iload_n 2, 1) := by decide +kernel
theorem d_Mo_become_68 : decode b_Mo_become 68 = .ok (.iconst 3, 1) := by decide +kernel
theorem d_Mo_become_69 : decode b_Mo_become 69 = .ok (.if_icmp .ne 70, 3) := by decide +kernel
theorem d_Mo_become_72 : decode b_Mo_become 72 = .ok (.lload_n 0, 1) := by decide +kernel
theorem d_Mo_become_73 : decode b_Mo_become 73 = .ok (.iconst 3, 1) := by decide +kernel
theorem d_Mo_become_74 : decode b_Mo_become 74 = .ok (.invokestatic 66, 3) := by decide +kernel
theorem d_Mo_become_77 : decode b_Mo_become 77 = .ok (.iload 5, 2) := by decide +kernel
theorem d_Mo_become_79 : decode b_Mo_become 79 = .ok (.iand, 1) := by decide +kernel
theorem d_Mo_become_80 : decode b_Mo_become 80 = .ok (.ifCond .eq 7, 3) := by decide +kernel
theorem d_Mo_become_83 : decode b_Mo_become 83 = .ok (.ldc2_w 41, 3) := by decide +kernel
theorem d_Mo_become_86 : decode b_Mo_become 86 = .ok (.lreturn, 1) := by decide +kernel
theorem d_Mo_become_87 : decode b_Mo_become 87 = .ok (.lload_n 0, 1) := by decide +kernel
theorem d_Mo_become_88 : decode b_Mo_become 88 = .ok (.iconst 2, 1) := by decide +kernel
theorem d_Mo_become_89 : decode b_Mo_become 89 = .ok (.invokestatic 66, 3) := by decide +kernel
theorem d_Mo_become_92 : decode b_Mo_become 92 = .ok (.iload 5, 2) := by decide +kernel
theorem d_Mo_become_94 : decode b_Mo_become 94 = .ok (.iand, 1) := by decide +kernel
theorem d_Mo_become_95 : decode b_Mo_become 95 = .ok (.ifCond .eq 12, 3) := by decide +kernel
theorem d_Mo_become_98 : decode b_Mo_become 98 = .ok (.lload_n 0, 1) := by decide +kernel
theorem d_Mo_become_99 : decode b_Mo_become 99 = .ok (.iconst 2, 1) := by decide +kernel
theorem d_Mo_become_100 : decode b_Mo_become 100 = .ok (.iconst 0, 1) := by decide +kernel
theorem d_Mo_become_101 : decode b_Mo_become 101 = .ok (.invokestatic 70, 3) := by decide +kernel
theorem d_Mo_become_104 : decode b_Mo_become 104 = .ok (.goto 4, 3) := by decide +kernel
theorem d_Mo_become_107 : decode b_Mo_become 107 = .ok (.lload_n 0, 1) := by decide +kernel
theorem d_Mo_become_108 : decode b_Mo_become 108 = .ok (.lstore 7, 2) := by decide +kernel
theorem d_Mo_become_110 : decode b_Mo_become 110 = .ok (.lload_n 0, 1) := by decide +kernel
theorem d_Mo_become_111 : decode b_Mo_become 111 = .ok (.iconst 4, 1) := by decide +kernel
theorem d_Mo_become_112 : decode b_Mo_become 112 = .ok (.invokestatic 66, 3) := by decide +kernel
theorem d_Mo_become_115 : decode b_Mo_become 115 = .ok (.iload 5, 2) := by decide +kernel
theorem d_Mo_become_117 : decode b_Mo_become 117 = .ok (.iand, 1) := by decide +kernel
theorem d_Mo_become_118 : decode b_Mo_become 118 = .ok (.ifCond .eq 18, 3) := by decide +kernel
theorem d_Mo_become_121 : decode b_Mo_become 121 = .ok (.lload 7, 2) := by decide +kernel
theorem d_Mo_become_123 : decode b_Mo_become 123 = .ok (.iconst 4, 1) := by decide +kernel
theorem d_Mo_become_124 : decode b_Mo_become 124 = .ok (.iconst 0, 1) := by decide +kernel
theorem d_Mo_become_125 : decode b_Mo_become 125 = .ok (.invokestatic 70, 3) := by decide +kernel
theorem d_Mo_become_128 : decode b_Mo_become 128 = .ok (.iconst 5, 1) := by decide +kernel
theorem d_Mo_become_129 : decode b_Mo_become 129 = .ok (.iconst 0, 1) := by decide +kernel
theorem d_Mo_become_130 : decode b_Mo_become 130 = .ok (.invokestatic 70, 3) := by decide +kernel
theorem d_Mo_become_133 : decode b_Mo_become 133 = .ok (.goto 5, 3) := by decide +kernel
theorem d_Mo_become_136 : decode b_Mo_become 136 = .ok (.lload 7, 2) := by decide +kernel
theorem d_Mo_become_138 : decode b_Mo_become 138 = .ok (.lreturn, 1) := by decide +kernel
theorem d_Mo_become_139 : decode b_Mo_become 139 = .ok (.lload_n 0, 1) := by decide +kernel
theorem d_Mo_become_140 : decode b_Mo_become 140 = .ok (.iconst 2, 1) := by decide +kernel
theorem d_Mo_become_141 : decode b_Mo_become 141 = .ok (.invokestatic 66, 3) := by decide +kernel
theorem d_Mo_become_144 : decode b_Mo_become 144 = .ok (.iload 5, 2) := by decide +kernel
theorem d_Mo_become_146 : decode b_Mo_become 146 = .ok (.iand, 1) := by decide +kernel
theorem d_Mo_become_147 : decode b_Mo_become 147 = .ok (.ifCond .eq 7, 3) := by decide +kernel
theorem d_Mo_become_150 : decode b_Mo_become 150 = .ok (.ldc2_w 41, 3) := by decide +kernel
theorem d_Mo_become_153 : decode b_Mo_become 153 = .ok (.lreturn, 1) := by decide +kernel
theorem d_Mo_become_154 : decode b_Mo_become 154 = .ok (.lload_n 0, 1) := by decide +kernel
theorem d_Mo_become_155 : decode b_Mo_become 155 = .ok (.iconst 3, 1) := by decide +kernel
theorem d_Mo_become_156 : decode b_Mo_become 156 = .ok (.lload_n 0, 1) := by decide +kernel
theorem d_Mo_become_157 : decode b_Mo_become 157 = .ok (.iconst 3, 1) := by decide +kernel
theorem d_Mo_become_158 : decode b_Mo_become 158 = .ok (.invokestatic 66, 3) := by decide +kernel
theorem d_Mo_become_161 : decode b_Mo_become 161 = .ok (.iload 5, 2) := by decide +kernel
theorem d_Mo_become_163 : decode b_Mo_become 163 = .ok (.iconst (-1), 1) := by decide +kernel
theorem d_Mo_become_164 : decode b_Mo_become 164 = .ok (.ixor, 1) := by decide +kernel
theorem d_Mo_become_165 : decode b_Mo_become 165 = .ok (.iand, 1) := by decide +kernel
theorem d_Mo_become_166 : decode b_Mo_become 166 = .ok (.invokestatic 70, 3) := by decide +kernel
theorem d_Mo_become_169 : decode b_Mo_become 169 = .ok (.lstore 7, 2) := by decide +kernel
theorem d_Mo_become_171 : decode b_Mo_become 171 = .ok (.lload_n 0, 1) := by decide +kernel
theorem d_Mo_become_172 : decode b_Mo_become 172 = .ok (.iconst 4, 1) := by decide +kernel
theorem d_Mo_become_173 : decode b_Mo_become 173 = .ok (.invokestatic 66, 3) := by decide +kernel
theorem d_Mo_become_176 : decode b_Mo_become 176 = .ok (.iload 5, 2) := by decide +kernel
theorem d_Mo_become_178 : decode b_Mo_become 178 = .ok (.iand, 1) := by decide +kernel
theorem d_Mo_become_179 : decode b_Mo_become 179 = .ok (.ifCond .eq 27, 3) := by decide +kernel
theorem d_Mo_become_182 : decode b_Mo_become 182 = .ok (.lload 7, 2) := by decide +kernel
theorem d_Mo_become_184 : decode b_Mo_become 184 = .ok (.iconst 1, 1) := by decide +kernel
theorem d_Mo_become_185 : decode b_Mo_become 185 = .ok (.lload_n 0, 1) := by decide +kernel
theorem d_Mo_become_186 : decode b_Mo_become 186 = .ok (.iconst 5, 1) := by decide +kernel
theorem d_Mo_become_187 : decode b_Mo_become 187 = .ok (.invokestatic 66, 3) := by decide +kernel
theorem d_Mo_become_190 : decode b_Mo_become 190 = .ok (.invokestatic 70, 3) := by decide +kernel
theorem d_Mo_become_193 : decode b_Mo_become 193 = .ok (.iconst 4, 1) := by decide +kernel
theorem d_Mo_become_194 : decode b_Mo_become 194 = .ok (.iconst 0, 1) := by decide +kernel
theorem d_Mo_become_195 : decode b_Mo_become 195 = .ok (.invokestatic 70, 3) := by decide +kernel
theorem d_Mo_become_198 : decode b_Mo_become 198 = .ok (.iconst 5, 1) := by decide +kernel
theorem d_Mo_become_199 : decode b_Mo_become 199 = .ok (.iconst 0, 1) := by decide +kernel
theorem d_Mo_become_200 : decode b_Mo_become 200 = .ok (.invokestatic 70, 3) := by decide +kernel
theorem d_Mo_become_203 : decode b_Mo_become 203 = .ok (.goto 5, 3) := by decide +kernel
theorem d_Mo_become_206 : decode b_Mo_become 206 = .ok (.lload 7, 2) := by decide +kernel
theorem d_Mo_become_208 : decode b_Mo_become 208 = .ok (.lreturn, 1) := by decide +kernel
def f_Mo_become_208  (s0 : Int64) (S : zq_S) : Option (zq_S × Int64) :=
  some (S, s0)
def f_Mo_become_138  (s0 : Int64) (S : zq_S) : Option (zq_S × Int64) :=
  some (S, s0)
def f_Mo_become_108  (v0 : Int64) (v5 : Int32) (s0 : Int64) (S : zq_S) : Option (zq_S × Int64) :=
  zs_b (f_Mo_part v0 (4 : Int32) S) fun S2 x3 =>
  if (x3 &&& v5) = 0 then
    f_Mo_become_138  s0 S2
  else
    zs_b (f_Mo_with s0 (4 : Int32) (0 : Int32) S2) fun S5 x6 =>
    zs_b (f_Mo_with x6 (5 : Int32) (0 : Int32) S5) fun S8 x9 =>
    f_Mo_become_138  x9 S8
def f_Mo_become_49  (s0 : Int64) (S : zq_S) : Option (zq_S × Int64) :=
  some (S, s0)
def f_Mo_become_31   (S : zq_S) : Option (zq_S × Int64) :=
  f_Mo_become_49  (-1 : Int64) S
def f_Mo_become_14  (v0 : Int64) (v2 : Int32) (v3 : Int32) (v4 : Int32) (v5 : Int32) (s0 : Int32) (S : zq_S) : Option (zq_S × Int64) :=
  if v2 = (1 : Int32) then
    if v4 = 0 then
      f_Mo_become_31   S
    else
      if s0 = 0 then
        zs_b (f_Mo_part v0 (3 : Int32) S) fun S38 x39 =>
        zs_b (f_Mo_with v0 (3 : Int32) (x39 ||| v3) S38) fun S41 x42 =>
        f_Mo_become_49  x42 S41
      else
        f_Mo_become_31   S
  else
    if v2 = (2 : Int32) then
      zs_b (f_Mo_formatted v0 v3 v4 s0 v5 S) fun S35 x36 =>
      some (S35, x36)
    else
      if v2 = (3 : Int32) then
        zs_b (f_Mo_part v0 (3 : Int32) S) fun S26 x27 =>
        if (x27 &&& v5) = 0 then
          zs_b (f_Mo_part v0 (2 : Int32) S26) fun S29 x30 =>
          if (x30 &&& v5) = 0 then
            f_Mo_become_108  v0 v5 v0 S29
          else
            zs_b (f_Mo_with v0 (2 : Int32) (0 : Int32) S29) fun S32 x33 =>
            f_Mo_become_108  v0 v5 x33 S32
        else
          some (S26, (-1 : Int64))
      else
        zs_b (f_Mo_part v0 (2 : Int32) S) fun S2 x3 =>
        if (x3 &&& v5) = 0 then
          zs_b (f_Mo_part v0 (3 : Int32) S2) fun S5 x6 =>
          zs_b (f_Mo_with v0 (3 : Int32) (x6 &&& (v5 ^^^ (-1 : Int32))) S5) fun S8 x9 =>
          zs_b (f_Mo_part v0 (4 : Int32) S8) fun S11 x12 =>
          if (x12 &&& v5) = 0 then
            f_Mo_become_208  x9 S11
          else
            zs_b (f_Mo_part v0 (5 : Int32) S11) fun S14 x15 =>
            zs_b (f_Mo_with x9 (1 : Int32) x15 S14) fun S17 x18 =>
            zs_b (f_Mo_with x18 (4 : Int32) (0 : Int32) S17) fun S20 x21 =>
            zs_b (f_Mo_with x21 (5 : Int32) (0 : Int32) S20) fun S23 x24 =>
            f_Mo_become_208  x24 S23
        else
          some (S2, (-1 : Int64))
def f_Mo_become (v0 : Int64) (v2 : Int32) (v3 : Int32) (v4 : Int32) (v5 : Int32) (S : zq_S) : Option (zq_S × Int64) :=
  zs_b (f_Mo_part v0 (2 : Int32) S) fun S2 x3 =>
  if x3 = v3 then
    f_Mo_become_14  v0 v2 v3 v4 v5 (1 : Int32) S2
  else
    f_Mo_become_14  v0 v2 v3 v4 v5 (0 : Int32) S2
set_option maxHeartbeats 4000000 in
set_option maxRecDepth 100000 in
theorem r_Mo_become_208 {l : Launch} (hl : l.stackTraces = false) {G : zq_G} {S0 T : zq_S} {v : Int64} {X : zq_X} (Z : Z_Mo_become l G S0 T v X) {s0 : Int64} {S : zq_S} (hf : f_Mo_become_208  s0 S = some (T, v)) : zq_W (Y_Mo_become l G S0 T v) X 208 [] [.long s0] S 0 0 := by
  unfold f_Mo_become_208 at hf
  exact zq_lret Z d_Mo_become_208 (zs_1 hf) (zs_2 (fun z => (.inl (some (.long z)) : zq_R)) hf) ⟨(Nat.le_of_ble_eq_true rfl), (Nat.le_of_ble_eq_true rfl)⟩
set_option maxHeartbeats 4000000 in
set_option maxRecDepth 100000 in
theorem r_Mo_become_138 {l : Launch} (hl : l.stackTraces = false) {G : zq_G} {S0 T : zq_S} {v : Int64} {X : zq_X} (Z : Z_Mo_become l G S0 T v X) {s0 : Int64} {S : zq_S} (hf : f_Mo_become_138  s0 S = some (T, v)) : zq_W (Y_Mo_become l G S0 T v) X 138 [] [.long s0] S 0 0 := by
  unfold f_Mo_become_138 at hf
  exact zq_lret Z d_Mo_become_138 (zs_1 hf) (zs_2 (fun z => (.inl (some (.long z)) : zq_R)) hf) ⟨(Nat.le_of_ble_eq_true rfl), (Nat.le_of_ble_eq_true rfl)⟩
set_option maxHeartbeats 4000000 in
set_option maxRecDepth 100000 in
theorem r_Mo_become_108 {l : Launch} (hl : l.stackTraces = false) {G : zq_G} {S0 T : zq_S} {v : Int64} {X : zq_X} (Z : Z_Mo_become l G S0 T v X) {v0 : Int64} {v5 : Int32} {s0 : Int64} {S : zq_S} (hf : f_Mo_become_108  v0 v5 s0 S = some (T, v)) : zq_W (Y_Mo_become l G S0 T v) X 108 [(0, .long v0), (5, .int v5)] [.long s0] S 0 0 := by
  unfold f_Mo_become_108 at hf
  refine zq_lstore Z [(7, .long s0), (0, .long v0), (5, .int v5)] d_Mo_become_108 (by decide) rfl ?_
  refine zq_lload_n Z d_Mo_become_110 1 rfl ?_
  refine zq_iconst Z (4 : Int32) d_Mo_become_111 (by decide) ?_
  have hq := zs_bS hf
  clear hf
  obtain ⟨S2, x3, h1, hf⟩ := hq
  refine zq_contR (zq_stepS Z zq_cf1 (c_Mo_part hl h1) d_Mo_become_112 m_292 m_293 m_294 m_286 p_Mo_part ⟨(Nat.le_of_ble_eq_true rfl), (Nat.le_of_ble_eq_true rfl), (Nat.le_of_ble_eq_true rfl), (Nat.le_of_ble_eq_true rfl)⟩ rfl (Nat.le_of_ble_eq_true rfl)) Z.p ?_
  refine zq_iload Z d_Mo_become_115 2 rfl ?_
  refine zq_iand Z d_Mo_become_117 ?_
  refine zq_if_eq Z 136 d_Mo_become_118 (by decide) (fun q => ?_) (fun q => ?_)
  · replace hf := zs_T q hf
    refine zq_lload Z d_Mo_become_136 0 rfl ?_
    refine zq_sub (lo' := []) [] rfl ?_
    exact r_Mo_become_138 hl Z  hf
  · replace hf := zs_N q hf
    refine zq_lload Z d_Mo_become_121 0 rfl ?_
    refine zq_iconst Z (4 : Int32) d_Mo_become_123 (by decide) ?_
    refine zq_iconst Z (0 : Int32) d_Mo_become_124 (by decide) ?_
    have hq := zs_bS hf
    clear hf
    obtain ⟨S5, x6, h4, hf⟩ := hq
    refine zq_contR (zq_stepS Z zq_cf1 (c_Mo_with hl h4) d_Mo_become_125 m_289 m_290 m_291 m_286 p_Mo_with ⟨(Nat.le_of_ble_eq_true rfl), (Nat.le_of_ble_eq_true rfl), (Nat.le_of_ble_eq_true rfl), (Nat.le_of_ble_eq_true rfl)⟩ rfl (Nat.le_of_ble_eq_true rfl)) Z.p ?_
    refine zq_iconst Z (5 : Int32) d_Mo_become_128 (by decide) ?_
    refine zq_iconst Z (0 : Int32) d_Mo_become_129 (by decide) ?_
    have hq := zs_bS hf
    clear hf
    obtain ⟨S8, x9, h7, hf⟩ := hq
    refine zq_contR (zq_stepS Z zq_cf1 (c_Mo_with hl h7) d_Mo_become_130 m_289 m_290 m_291 m_286 p_Mo_with ⟨(Nat.le_of_ble_eq_true rfl), (Nat.le_of_ble_eq_true rfl), (Nat.le_of_ble_eq_true rfl), (Nat.le_of_ble_eq_true rfl)⟩ rfl (Nat.le_of_ble_eq_true rfl)) Z.p ?_
    refine zq_goto Z 138 d_Mo_become_133 (by decide) ?_
    refine zq_sub (lo' := []) [] rfl ?_
    exact r_Mo_become_138 hl Z  hf
set_option maxHeartbeats 4000000 in
set_option maxRecDepth 100000 in
theorem r_Mo_become_49 {l : Launch} (hl : l.stackTraces = false) {G : zq_G} {S0 T : zq_S} {v : Int64} {X : zq_X} (Z : Z_Mo_become l G S0 T v X) {s0 : Int64} {S : zq_S} (hf : f_Mo_become_49  s0 S = some (T, v)) : zq_W (Y_Mo_become l G S0 T v) X 49 [] [.long s0] S 0 0 := by
  unfold f_Mo_become_49 at hf
  exact zq_lret Z d_Mo_become_49 (zs_1 hf) (zs_2 (fun z => (.inl (some (.long z)) : zq_R)) hf) ⟨(Nat.le_of_ble_eq_true rfl), (Nat.le_of_ble_eq_true rfl)⟩
set_option maxHeartbeats 4000000 in
set_option maxRecDepth 100000 in
theorem r_Mo_become_31 {l : Launch} (hl : l.stackTraces = false) {G : zq_G} {S0 T : zq_S} {v : Int64} {X : zq_X} (Z : Z_Mo_become l G S0 T v X)  {S : zq_S} (hf : f_Mo_become_31   S = some (T, v)) : zq_W (Y_Mo_become l G S0 T v) X 31 [] [] S 0 0 := by
  unfold f_Mo_become_31 at hf
  refine zq_ldc2 Z (-1 : Int64) d_Mo_become_31 m_281 ?_
  refine zq_goto Z 49 d_Mo_become_34 (by decide) ?_
  refine zq_sub (lo' := []) [] rfl ?_
  exact r_Mo_become_49 hl Z  hf
set_option maxHeartbeats 4000000 in
set_option maxRecDepth 100000 in
theorem r_Mo_become_14 {l : Launch} (hl : l.stackTraces = false) {G : zq_G} {S0 T : zq_S} {v : Int64} {X : zq_X} (Z : Z_Mo_become l G S0 T v X) {v0 : Int64} {v2 : Int32} {v3 : Int32} {v4 : Int32} {v5 : Int32} {s0 : Int32} {S : zq_S} (hf : f_Mo_become_14  v0 v2 v3 v4 v5 s0 S = some (T, v)) : zq_W (Y_Mo_become l G S0 T v) X 14 [(0, .long v0), (2, .int v2), (3, .int v3), (4, .int v4), (5, .int v5)] [.int s0] S 0 0 := by
  unfold f_Mo_become_14 at hf
  refine zq_istore Z [(6, .int s0), (0, .long v0), (2, .int v2), (3, .int v3), (4, .int v4), (5, .int v5)] d_Mo_become_14 (by decide) rfl ?_
  refine zq_iload_n Z d_Mo_become_16 2 rfl ?_
  refine zq_iconst Z (1 : Int32) d_Mo_become_17 (by decide) ?_
  refine zq_icmp_ne Z 50 d_Mo_become_18 (by decide) (fun q => ?_) (fun q => ?_)
  · replace hf := zs_N q hf
    refine zq_iload_n Z d_Mo_become_50 2 rfl ?_
    refine zq_iconst Z (2 : Int32) d_Mo_become_51 (by decide) ?_
    refine zq_icmp_ne Z 67 d_Mo_become_52 (by decide) (fun q => ?_) (fun q => ?_)
    · replace hf := zs_N q hf
      refine zq_iload_n Z d_Mo_become_67 2 rfl ?_
      refine zq_iconst Z (3 : Int32) d_Mo_become_68 (by decide) ?_
      refine zq_icmp_ne Z 139 d_Mo_become_69 (by decide) (fun q => ?_) (fun q => ?_)
      · replace hf := zs_N q hf
        refine zq_lload_n Z d_Mo_become_139 1 rfl ?_
        refine zq_iconst Z (2 : Int32) d_Mo_become_140 (by decide) ?_
        have hq := zs_bS hf
        clear hf
        obtain ⟨S2, x3, h1, hf⟩ := hq
        refine zq_contR (zq_stepS Z zq_cf1 (c_Mo_part hl h1) d_Mo_become_141 m_292 m_293 m_294 m_286 p_Mo_part ⟨(Nat.le_of_ble_eq_true rfl), (Nat.le_of_ble_eq_true rfl), (Nat.le_of_ble_eq_true rfl), (Nat.le_of_ble_eq_true rfl)⟩ rfl (Nat.le_of_ble_eq_true rfl)) Z.p ?_
        refine zq_iload Z d_Mo_become_144 5 rfl ?_
        refine zq_iand Z d_Mo_become_146 ?_
        refine zq_if_eq Z 154 d_Mo_become_147 (by decide) (fun q => ?_) (fun q => ?_)
        · replace hf := zs_T q hf
          refine zq_lload_n Z d_Mo_become_154 1 rfl ?_
          refine zq_iconst Z (3 : Int32) d_Mo_become_155 (by decide) ?_
          refine zq_lload_n Z d_Mo_become_156 1 rfl ?_
          refine zq_iconst Z (3 : Int32) d_Mo_become_157 (by decide) ?_
          have hq := zs_bS hf
          clear hf
          obtain ⟨S5, x6, h4, hf⟩ := hq
          refine zq_contR (zq_stepS Z zq_cf1 (c_Mo_part hl h4) d_Mo_become_158 m_292 m_293 m_294 m_286 p_Mo_part ⟨(Nat.le_of_ble_eq_true rfl), (Nat.le_of_ble_eq_true rfl), (Nat.le_of_ble_eq_true rfl), (Nat.le_of_ble_eq_true rfl)⟩ rfl (Nat.le_of_ble_eq_true rfl)) Z.p ?_
          refine zq_iload Z d_Mo_become_161 5 rfl ?_
          refine zq_iconst Z (-1 : Int32) d_Mo_become_163 (by decide) ?_
          refine zq_ixor Z d_Mo_become_164 ?_
          refine zq_iand Z d_Mo_become_165 ?_
          have hq := zs_bS hf
          clear hf
          obtain ⟨S8, x9, h7, hf⟩ := hq
          refine zq_contR (zq_stepS Z zq_cf1 (c_Mo_with hl h7) d_Mo_become_166 m_289 m_290 m_291 m_286 p_Mo_with ⟨(Nat.le_of_ble_eq_true rfl), (Nat.le_of_ble_eq_true rfl), (Nat.le_of_ble_eq_true rfl), (Nat.le_of_ble_eq_true rfl)⟩ rfl (Nat.le_of_ble_eq_true rfl)) Z.p ?_
          refine zq_lstore Z [(7, .long x9), (6, .int s0), (0, .long v0), (2, .int v2), (3, .int v3), (4, .int v4), (5, .int v5)] d_Mo_become_169 (by decide) rfl ?_
          refine zq_lload_n Z d_Mo_become_171 2 rfl ?_
          refine zq_iconst Z (4 : Int32) d_Mo_become_172 (by decide) ?_
          have hq := zs_bS hf
          clear hf
          obtain ⟨S11, x12, h10, hf⟩ := hq
          refine zq_contR (zq_stepS Z zq_cf1 (c_Mo_part hl h10) d_Mo_become_173 m_292 m_293 m_294 m_286 p_Mo_part ⟨(Nat.le_of_ble_eq_true rfl), (Nat.le_of_ble_eq_true rfl), (Nat.le_of_ble_eq_true rfl), (Nat.le_of_ble_eq_true rfl)⟩ rfl (Nat.le_of_ble_eq_true rfl)) Z.p ?_
          refine zq_iload Z d_Mo_become_176 6 rfl ?_
          refine zq_iand Z d_Mo_become_178 ?_
          refine zq_if_eq Z 206 d_Mo_become_179 (by decide) (fun q => ?_) (fun q => ?_)
          · replace hf := zs_T q hf
            refine zq_lload Z d_Mo_become_206 0 rfl ?_
            refine zq_sub (lo' := []) [] rfl ?_
            exact r_Mo_become_208 hl Z  hf
          · replace hf := zs_N q hf
            refine zq_lload Z d_Mo_become_182 0 rfl ?_
            refine zq_iconst Z (1 : Int32) d_Mo_become_184 (by decide) ?_
            refine zq_lload_n Z d_Mo_become_185 2 rfl ?_
            refine zq_iconst Z (5 : Int32) d_Mo_become_186 (by decide) ?_
            have hq := zs_bS hf
            clear hf
            obtain ⟨S14, x15, h13, hf⟩ := hq
            refine zq_contR (zq_stepS Z zq_cf1 (c_Mo_part hl h13) d_Mo_become_187 m_292 m_293 m_294 m_286 p_Mo_part ⟨(Nat.le_of_ble_eq_true rfl), (Nat.le_of_ble_eq_true rfl), (Nat.le_of_ble_eq_true rfl), (Nat.le_of_ble_eq_true rfl)⟩ rfl (Nat.le_of_ble_eq_true rfl)) Z.p ?_
            have hq := zs_bS hf
            clear hf
            obtain ⟨S17, x18, h16, hf⟩ := hq
            refine zq_contR (zq_stepS Z zq_cf1 (c_Mo_with hl h16) d_Mo_become_190 m_289 m_290 m_291 m_286 p_Mo_with ⟨(Nat.le_of_ble_eq_true rfl), (Nat.le_of_ble_eq_true rfl), (Nat.le_of_ble_eq_true rfl), (Nat.le_of_ble_eq_true rfl)⟩ rfl (Nat.le_of_ble_eq_true rfl)) Z.p ?_
            refine zq_iconst Z (4 : Int32) d_Mo_become_193 (by decide) ?_
            refine zq_iconst Z (0 : Int32) d_Mo_become_194 (by decide) ?_
            have hq := zs_bS hf
            clear hf
            obtain ⟨S20, x21, h19, hf⟩ := hq
            refine zq_contR (zq_stepS Z zq_cf1 (c_Mo_with hl h19) d_Mo_become_195 m_289 m_290 m_291 m_286 p_Mo_with ⟨(Nat.le_of_ble_eq_true rfl), (Nat.le_of_ble_eq_true rfl), (Nat.le_of_ble_eq_true rfl), (Nat.le_of_ble_eq_true rfl)⟩ rfl (Nat.le_of_ble_eq_true rfl)) Z.p ?_
            refine zq_iconst Z (5 : Int32) d_Mo_become_198 (by decide) ?_
            refine zq_iconst Z (0 : Int32) d_Mo_become_199 (by decide) ?_
            have hq := zs_bS hf
            clear hf
            obtain ⟨S23, x24, h22, hf⟩ := hq
            refine zq_contR (zq_stepS Z zq_cf1 (c_Mo_with hl h22) d_Mo_become_200 m_289 m_290 m_291 m_286 p_Mo_with ⟨(Nat.le_of_ble_eq_true rfl), (Nat.le_of_ble_eq_true rfl), (Nat.le_of_ble_eq_true rfl), (Nat.le_of_ble_eq_true rfl)⟩ rfl (Nat.le_of_ble_eq_true rfl)) Z.p ?_
            refine zq_goto Z 208 d_Mo_become_203 (by decide) ?_
            refine zq_sub (lo' := []) [] rfl ?_
            exact r_Mo_become_208 hl Z  hf
        · replace hf := zs_N q hf
          refine zq_ldc2 Z (-1 : Int64) d_Mo_become_150 m_281 ?_
          exact zq_lret Z d_Mo_become_153 (zs_1 hf) (zs_2 (fun z => (.inl (some (.long z)) : zq_R)) hf) ⟨(Nat.le_of_ble_eq_true rfl), (Nat.le_of_ble_eq_true rfl)⟩
      · replace hf := zs_T q hf
        refine zq_lload_n Z d_Mo_become_72 1 rfl ?_
        refine zq_iconst Z (3 : Int32) d_Mo_become_73 (by decide) ?_
        have hq := zs_bS hf
        clear hf
        obtain ⟨S26, x27, h25, hf⟩ := hq
        refine zq_contR (zq_stepS Z zq_cf1 (c_Mo_part hl h25) d_Mo_become_74 m_292 m_293 m_294 m_286 p_Mo_part ⟨(Nat.le_of_ble_eq_true rfl), (Nat.le_of_ble_eq_true rfl), (Nat.le_of_ble_eq_true rfl), (Nat.le_of_ble_eq_true rfl)⟩ rfl (Nat.le_of_ble_eq_true rfl)) Z.p ?_
        refine zq_iload Z d_Mo_become_77 5 rfl ?_
        refine zq_iand Z d_Mo_become_79 ?_
        refine zq_if_eq Z 87 d_Mo_become_80 (by decide) (fun q => ?_) (fun q => ?_)
        · replace hf := zs_T q hf
          refine zq_lload_n Z d_Mo_become_87 1 rfl ?_
          refine zq_iconst Z (2 : Int32) d_Mo_become_88 (by decide) ?_
          have hq := zs_bS hf
          clear hf
          obtain ⟨S29, x30, h28, hf⟩ := hq
          refine zq_contR (zq_stepS Z zq_cf1 (c_Mo_part hl h28) d_Mo_become_89 m_292 m_293 m_294 m_286 p_Mo_part ⟨(Nat.le_of_ble_eq_true rfl), (Nat.le_of_ble_eq_true rfl), (Nat.le_of_ble_eq_true rfl), (Nat.le_of_ble_eq_true rfl)⟩ rfl (Nat.le_of_ble_eq_true rfl)) Z.p ?_
          refine zq_iload Z d_Mo_become_92 5 rfl ?_
          refine zq_iand Z d_Mo_become_94 ?_
          refine zq_if_eq Z 107 d_Mo_become_95 (by decide) (fun q => ?_) (fun q => ?_)
          · replace hf := zs_T q hf
            refine zq_lload_n Z d_Mo_become_107 1 rfl ?_
            refine zq_sub (lo' := [(0, .long v0), (5, .int v5)]) [1, 5] rfl ?_
            exact r_Mo_become_108 hl Z  hf
          · replace hf := zs_N q hf
            refine zq_lload_n Z d_Mo_become_98 1 rfl ?_
            refine zq_iconst Z (2 : Int32) d_Mo_become_99 (by decide) ?_
            refine zq_iconst Z (0 : Int32) d_Mo_become_100 (by decide) ?_
            have hq := zs_bS hf
            clear hf
            obtain ⟨S32, x33, h31, hf⟩ := hq
            refine zq_contR (zq_stepS Z zq_cf1 (c_Mo_with hl h31) d_Mo_become_101 m_289 m_290 m_291 m_286 p_Mo_with ⟨(Nat.le_of_ble_eq_true rfl), (Nat.le_of_ble_eq_true rfl), (Nat.le_of_ble_eq_true rfl), (Nat.le_of_ble_eq_true rfl)⟩ rfl (Nat.le_of_ble_eq_true rfl)) Z.p ?_
            refine zq_goto Z 108 d_Mo_become_104 (by decide) ?_
            refine zq_sub (lo' := [(0, .long v0), (5, .int v5)]) [1, 5] rfl ?_
            exact r_Mo_become_108 hl Z  hf
        · replace hf := zs_N q hf
          refine zq_ldc2 Z (-1 : Int64) d_Mo_become_83 m_281 ?_
          exact zq_lret Z d_Mo_become_86 (zs_1 hf) (zs_2 (fun z => (.inl (some (.long z)) : zq_R)) hf) ⟨(Nat.le_of_ble_eq_true rfl), (Nat.le_of_ble_eq_true rfl)⟩
    · replace hf := zs_T q hf
      refine zq_lload_n Z d_Mo_become_55 1 rfl ?_
      refine zq_iload_n Z d_Mo_become_56 3 rfl ?_
      refine zq_iload Z d_Mo_become_57 4 rfl ?_
      refine zq_iload Z d_Mo_become_59 0 rfl ?_
      refine zq_iload Z d_Mo_become_61 5 rfl ?_
      have hq := zs_bS hf
      clear hf
      obtain ⟨S35, x36, h34, hf⟩ := hq
      refine zq_contR (zq_stepS Z zq_cf1 (c_Mo_formatted hl h34) d_Mo_become_63 m_295 m_296 m_297 m_286 p_Mo_formatted ⟨(Nat.le_of_ble_eq_true rfl), (Nat.le_of_ble_eq_true rfl), (Nat.le_of_ble_eq_true rfl), (Nat.le_of_ble_eq_true rfl)⟩ rfl (Nat.le_of_ble_eq_true rfl)) Z.p ?_
      exact zq_lret Z d_Mo_become_66 (zs_1 hf) (zs_2 (fun z => (.inl (some (.long z)) : zq_R)) hf) ⟨(Nat.le_of_ble_eq_true rfl), (Nat.le_of_ble_eq_true rfl)⟩
  · replace hf := zs_T q hf
    refine zq_iload Z d_Mo_become_21 4 rfl ?_
    refine zq_if_eq Z 31 d_Mo_become_23 (by decide) (fun q => ?_) (fun q => ?_)
    · replace hf := zs_T q hf
      refine zq_sub (lo' := []) [] rfl ?_
      exact r_Mo_become_31 hl Z  hf
    · replace hf := zs_N q hf
      refine zq_iload Z d_Mo_become_26 0 rfl ?_
      refine zq_if_eq Z 37 d_Mo_become_28 (by decide) (fun q => ?_) (fun q => ?_)
      · replace hf := zs_T q hf
        refine zq_lload_n Z d_Mo_become_37 1 rfl ?_
        refine zq_iconst Z (3 : Int32) d_Mo_become_38 (by decide) ?_
        refine zq_lload_n Z d_Mo_become_39 1 rfl ?_
        refine zq_iconst Z (3 : Int32) d_Mo_become_40 (by decide) ?_
        have hq := zs_bS hf
        clear hf
        obtain ⟨S38, x39, h37, hf⟩ := hq
        refine zq_contR (zq_stepS Z zq_cf1 (c_Mo_part hl h37) d_Mo_become_41 m_292 m_293 m_294 m_286 p_Mo_part ⟨(Nat.le_of_ble_eq_true rfl), (Nat.le_of_ble_eq_true rfl), (Nat.le_of_ble_eq_true rfl), (Nat.le_of_ble_eq_true rfl)⟩ rfl (Nat.le_of_ble_eq_true rfl)) Z.p ?_
        refine zq_iload_n Z d_Mo_become_44 3 rfl ?_
        refine zq_ior Z d_Mo_become_45 ?_
        have hq := zs_bS hf
        clear hf
        obtain ⟨S41, x42, h40, hf⟩ := hq
        refine zq_contR (zq_stepS Z zq_cf1 (c_Mo_with hl h40) d_Mo_become_46 m_289 m_290 m_291 m_286 p_Mo_with ⟨(Nat.le_of_ble_eq_true rfl), (Nat.le_of_ble_eq_true rfl), (Nat.le_of_ble_eq_true rfl), (Nat.le_of_ble_eq_true rfl)⟩ rfl (Nat.le_of_ble_eq_true rfl)) Z.p ?_
        refine zq_sub (lo' := []) [] rfl ?_
        exact r_Mo_become_49 hl Z  hf
      · replace hf := zs_N q hf
        refine zq_sub (lo' := []) [] rfl ?_
        exact r_Mo_become_31 hl Z  hf
set_option maxHeartbeats 4000000 in
set_option maxRecDepth 100000 in
theorem c_Mo_become {l : Launch} (hl : l.stackTraces = false) {G : zq_G} {v0 : Int64} {v2 : Int32} {v3 : Int32} {v4 : Int32} {v5 : Int32} {S0 T : zq_S} {v : Int64} (hf : f_Mo_become v0 v2 v3 v4 v5 S0 = some (T, v)) : zq_M l y_Mo_become (.code y_Mo_become b_Mo_become 9 (some (.long))) rm_Mo_become G [.long v0, .int v2, .int v3, .int v4, .int v5] S0 ((.inl (some (.long v)) : zq_R)) T := by
  refine zq_Mof (lo := [(0, .long v0), (2, .int v2), (3, .int v3), (4, .int v4), (5, .int v5)]) hl (by decide) (Nat.le_of_ble_eq_true rfl) rfl (fun X Z => ?_)
  have Z : Z_Mo_become l G S0 T v X := Z
  show zq_W (Y_Mo_become l G S0 T v) X 0 [(0, .long v0), (2, .int v2), (3, .int v3), (4, .int v4), (5, .int v5)] [] S0 0 0
  unfold f_Mo_become at hf
  refine zq_lload_n Z d_Mo_become_0 0 rfl ?_
  refine zq_iconst Z (2 : Int32) d_Mo_become_1 (by decide) ?_
  have hq := zs_bS hf
  clear hf
  obtain ⟨S2, x3, h1, hf⟩ := hq
  refine zq_contR (zq_stepS Z zq_cf1 (c_Mo_part hl h1) d_Mo_become_2 m_292 m_293 m_294 m_286 p_Mo_part ⟨(Nat.le_of_ble_eq_true rfl), (Nat.le_of_ble_eq_true rfl), (Nat.le_of_ble_eq_true rfl), (Nat.le_of_ble_eq_true rfl)⟩ rfl (Nat.le_of_ble_eq_true rfl)) Z.p ?_
  refine zq_iload_n Z d_Mo_become_5 2 rfl ?_
  refine zq_icmp_ne Z 13 d_Mo_become_6 (by decide) (fun q => ?_) (fun q => ?_)
  · replace hf := zs_N q hf
    refine zq_iconst Z (0 : Int32) d_Mo_become_13 (by decide) ?_
    refine zq_sub (lo' := [(0, .long v0), (2, .int v2), (3, .int v3), (4, .int v4), (5, .int v5)]) [0, 1, 2, 3, 4] rfl ?_
    exact r_Mo_become_14 hl Z  hf
  · replace hf := zs_T q hf
    refine zq_iconst Z (1 : Int32) d_Mo_become_9 (by decide) ?_
    refine zq_goto Z 14 d_Mo_become_10 (by decide) ?_
    refine zq_sub (lo' := [(0, .long v0), (2, .int v2), (3, .int v3), (4, .int v4), (5, .int v5)]) [0, 1, 2, 3, 4] rfl ?_
    exact r_Mo_become_14 hl Z  hf
theorem d_Mo_play_0 : decode b_Mo_play 0 = .ok (.lload_n 1, 1) := by decide +kernel
theorem d_Mo_play_1 : decode b_Mo_play 1 = .ok (.l2i, 1) := by decide +kernel
theorem d_Mo_play_2 : decode b_Mo_play 2 = .ok (.bipush 7, 2) := by decide +kernel
theorem d_Mo_play_4 : decode b_Mo_play 4 = .ok (.iand, 1) := by decide +kernel
theorem d_Mo_play_5 : decode b_Mo_play 5 = .ok (.istore 5, 2) := by decide +kernel
theorem d_Mo_play_7 : decode b_Mo_play 7 = .ok (.iconst 1, 1) := by decide +kernel
theorem d_Mo_play_8 : decode b_Mo_play 8 = .ok (.lload_n 1, 1) := by decide +kernel
theorem d_Mo_play_9 : decode b_Mo_play 9 = .ok (.iconst 3, 1) := by decide +kernel
theorem d_Mo_play_10 : decode b_Mo_play 10 = .ok (.lshr, 1) := by decide +kernel
theorem d_Mo_play_11 : decode b_Mo_play 11 = .ok (.l2i, 1) := by decide +kernel
theorem d_Mo_play_12 : decode b_Mo_play 12 = .ok (.bipush 7, 2) := by decide +kernel
theorem d_Mo_play_14 : decode b_Mo_play 14 = .ok (.iand, 1) := by decide +kernel
theorem d_Mo_play_15 : decode b_Mo_play 15 = .ok (.ishl, 1) := by decide +kernel
theorem d_Mo_play_16 : decode b_Mo_play 16 = .ok (.istore 6, 2) := by decide +kernel
theorem d_Mo_play_18 : decode b_Mo_play 18 = .ok (.lload_n 1, 1) := by decide +kernel
theorem d_Mo_play_19 : decode b_Mo_play 19 = .ok (.bipush 6, 2) := by decide +kernel
theorem d_Mo_play_21 : decode b_Mo_play 21 = .ok (.lshr, 1) := by decide +kernel
theorem d_Mo_play_22 : decode b_Mo_play 22 = .ok (.lconst 1, 1) := by decide +kernel
theorem d_Mo_play_23 : decode b_Mo_play 23 = .ok (.land, 1) := by decide +kernel
theorem d_Mo_play_24 : decode b_Mo_play 24 = .ok (.lconst 1, 1) := by decide +kernel
theorem d_Mo_play_25 : decode b_Mo_play 25 = .ok (.lcmp, 1) := by decide +kernel
theorem d_Mo_play_26 : decode b_Mo_play 26 = .ok (.ifCond .ne 7, 3) := by decide +kernel
theorem d_Mo_play_29 : decode b_Mo_play 29 = .ok (.iconst 1, 1) := by decide +kernel
theorem d_Mo_play_30 : decode b_Mo_play 30 = .ok (.goto 4, 3) := by decide +kernel
theorem d_Mo_play_33 : decode b_Mo_play 33 = .ok (.iconst 0, 1) := by decide +kernel
theorem d_Mo_play_34 : decode b_Mo_play 34 = .ok (.istore 7, 2) := by decide +kernel
theorem d_Mo_play_36 : decode b_Mo_play 36 = .ok (.lload_n 1, 1) := by decide +kernel
theorem d_Mo_play_37 : decode b_Mo_play 37 = .ok (.bipush 7, 2) := by decide +kernel
theorem d_Mo_play_39 : decode b_Mo_play 39 = .ok (.lshr, 1) := by decide +kernel
theorem d_Mo_play_40 : decode b_Mo_play 40 = .ok (.l2i, 1) := by decide +kernel
theorem d_Mo_play_41 : decode b_Mo_play 41 = .ok (.sipush 255, 3) := by decide +kernel
theorem d_Mo_play_44 : decode b_Mo_play 44 = .ok (.iand, 1) := by decide +kernel
theorem d_Mo_play_45 : decode b_Mo_play 45 = .ok (.istore 8, 2) := by decide +kernel
theorem d_Mo_play_47 : decode b_Mo_play 47 = .ok (.lload_n 1, 1) := by decide +kernel
theorem d_Mo_play_48 : decode b_Mo_play 48 = .ok (.bipush 16, 2) := by decide +kernel
theorem d_Mo_play_50 : decode b_Mo_play 50 = .ok (.lshr, 1) := by decide +kernel
theorem d_Mo_play_51 : decode b_Mo_play 51 = .ok (.l2i, 1) := by decide +kernel
theorem d_Mo_play_52 : decode b_Mo_play 52 = .ok (.ldc 54, 2) := by decide +kernel
theorem d_Mo_play_54 : decode b_Mo_play 54 = .ok (.iand, 1) := by decide +kernel
theorem d_Mo_play_55 : decode b_Mo_play 55 = .ok (.istore 9, 2) := by decide +kernel
theorem d_Mo_play_57 : decode b_Mo_play 57 = .ok (.lload_n 1, 1) := by decide +kernel
theorem d_Mo_play_58 : decode b_Mo_play 58 = .ok (.bipush 32, 2) := by decide +kernel
theorem d_Mo_play_60 : decode b_Mo_play 60 = .ok (.lshr, 1) := by decide +kernel
theorem d_Mo_play_61 : decode b_Mo_play 61 = .ok (.l2i, 1) := by decide +kernel
theorem d_Mo_play_62 : decode b_Mo_play 62 = .ok (.istore 10, 2) := by decide +kernel
theorem d_Mo_play_64 : decode b_Mo_play 64 = .ok (.iload 5, 2) := by decide +kernel
theorem d_Mo_play_66 : decode b_Mo_play 66 = .ok (.ifCond .ne 24, 3) := by decide +kernel
theorem d_Mo_play_69 : decode b_Mo_play 69 = .ok (.aload_n 0, 1) := by decide +kernel
theorem d_Mo_play_70 : decode b_Mo_play 70 = .ok (.iload 9, 2) := by decide +kernel
theorem d_Mo_play_72 : decode b_Mo_play 72 = .ok (.lload_n 3, 1) := by decide +kernel
theorem d_Mo_play_73 : decode b_Mo_play 73 = .ok (.iload 8, 2) := by decide +kernel
theorem d_Mo_play_75 : decode b_Mo_play 75 = .ok (.iload 7, 2) := by decide +kernel
theorem d_Mo_play_77 : decode b_Mo_play 77 = .ok (.ifCond .eq 8, 3) := by decide +kernel
theorem d_Mo_play_80 : decode b_Mo_play 80 = .ok (.iload 6, 2) := by decide +kernel
theorem d_Mo_play_82 : decode b_Mo_play 82 = .ok (.goto 4, 3) := by decide +kernel
theorem d_Mo_play_85 : decode b_Mo_play 85 = .ok (.iconst 0, 1) := by decide +kernel
theorem d_Mo_play_86 : decode b_Mo_play 86 = .ok (.invokevirtual 55, 3) := by decide +kernel
theorem d_Mo_play_89 : decode b_Mo_play 89 = .ok (.ireturn, 1) := by decide +kernel
theorem d_Mo_play_90 : decode b_Mo_play 90 = .ok (.iload 9, 2) := by decide +kernel
theorem d_Mo_play_92 : decode b_Mo_play 92 = .ok (.istore 11, 2) := by decide +kernel
theorem d_Mo_play_94 : decode b_Mo_play 94 = .ok (.iconst 0, 1) := by decide +kernel
theorem d_Mo_play_95 : decode b_Mo_play 95 = .ok (.istore 12, 2) := by decide +kernel
theorem d_Mo_play_97 : decode b_Mo_play 97 = .ok (.aload_n 0, 1) := by decide +kernel
theorem d_Mo_play_98 : decode b_Mo_play 98 = .ok (.getfield 59, 3) := by decide +kernel
theorem d_Mo_play_101 : decode b_Mo_play 101 = .ok (.istore 13, 2) := by decide +kernel
theorem d_Mo_play_103 : decode b_Mo_play 103 = .ok (.iload 9, 2) := by decide +kernel
theorem d_Mo_play_105 : decode b_Mo_play 105 = .ok (.istore 14, 2) := by decide +kernel
theorem d_Mo_play_107 : decode b_Mo_play 107 = .ok (.iload 14, 2) := by decide +kernel
theorem d_Mo_play_109 : decode b_Mo_play 109 = .ok (.iload 13, 2) := by decide +kernel
theorem d_Mo_play_111 : decode b_Mo_play 111 = .ok (.if_icmp .ge 129, 3) := by decide +kernel
theorem d_Mo_play_114 : decode b_Mo_play 114 = .ok (.aload_n 0, 1) := by decide +kernel
theorem d_Mo_play_115 : decode b_Mo_play 115 = .ok (.getfield 7, 3) := by decide +kernel
theorem d_Mo_play_118 : decode b_Mo_play 118 = .ok (.iload 14, 2) := by decide +kernel
theorem d_Mo_play_120 : decode b_Mo_play 120 = .ok (.laload, 1) := by decide +kernel
theorem d_Mo_play_121 : decode b_Mo_play 121 = .ok (.lstore 15, 2) := by decide +kernel
theorem d_Mo_play_123 : decode b_Mo_play 123 = .ok (.iload 14, 2) := by decide +kernel
theorem d_Mo_play_125 : decode b_Mo_play 125 = .ok (.iload 9, 2) := by decide +kernel
theorem d_Mo_play_127 : decode b_Mo_play 127 = .ok (.iload 10, 2) := by decide +kernel
theorem d_Mo_play_129 : decode b_Mo_play 129 = .ok (.iadd, 1) := by decide +kernel
theorem d_Mo_play_130 : decode b_Mo_play 130 = .ok (.if_icmp .ge 19, 3) := by decide +kernel
theorem d_Mo_play_133 : decode b_Mo_play 133 = .ok (.lload 15, 2) := by decide +kernel
theorem d_Mo_play_135 : decode b_Mo_play 135 = .ok (.iload 5, 2) := by decide +kernel
theorem d_Mo_play_137 : decode b_Mo_play 137 = .ok (.iload 6, 2) := by decide +kernel
theorem d_Mo_play_139 : decode b_Mo_play 139 = .ok (.iload 7, 2) := by decide +kernel
theorem d_Mo_play_141 : decode b_Mo_play 141 = .ok (.iload 8, 2) := by decide +kernel
theorem d_Mo_play_143 : decode b_Mo_play 143 = .ok (.invokestatic 62, 3) := by decide +kernel
theorem d_Mo_play_146 : decode b_Mo_play 146 = .ok (.goto 5, 3) := by decide +kernel
theorem d_Mo_play_149 : decode b_Mo_play 149 = .ok (.lload 15, 2) := by decide +kernel
theorem d_Mo_play_151 : decode b_Mo_play 151 = .ok (.lstore 17, 2) := by decide +kernel
theorem d_Mo_play_153 : decode b_Mo_play 153 = .ok (.iload 5, 2) := by decide +kernel
theorem d_Mo_play_155 : decode b_Mo_play 155 = .ok (.iconst 2, 1) := by decide +kernel
theorem d_Mo_play_156 : decode b_Mo_play 156 = .ok (.if_icmp .ne 26, 3) := by decide +kernel
theorem d_Mo_play_159 : decode b_Mo_play 159 = .ok (.lload 15, 2) := by decide +kernel
theorem d_Mo_play_161 : decode b_Mo_play 161 = .ok (.iconst 1, 1) := by decide +kernel
theorem d_Mo_play_162 : decode b_Mo_play 162 = .ok (.invokestatic 66, 3) := by decide +kernel
theorem d_Mo_play_165 : decode b_Mo_play 165 = .ok (.lload 17, 2) := by decide +kernel
theorem d_Mo_play_167 : decode b_Mo_play 167 = .ok (.iconst 1, 1) := by decide +kernel
theorem d_Mo_play_168 : decode b_Mo_play 168 = .ok (.invokestatic 66, 3) := by decide +kernel
theorem d_Mo_play_171 : decode b_Mo_play 171 = .ok (.if_icmp .eq 7, 3) := by decide +kernel
theorem d_Mo_play_174 : decode b_Mo_play 174 = .ok (.iconst 1, 1) := by decide +kernel
theorem d_Mo_play_175 : decode b_Mo_play 175 = .ok (.goto 20, 3) := by decide +kernel
theorem d_Mo_play_178 : decode b_Mo_play 178 = .ok (.iconst 0, 1) := by decide +kernel
theorem d_Mo_play_179 : decode b_Mo_play 179 = .ok (.goto 16, 3) := by decide +kernel
theorem d_Mo_play_182 : decode b_Mo_play 182 = .ok (.lload 15, 2) := by decide +kernel
theorem d_Mo_play_184 : decode b_Mo_play 184 = .ok (.lload 17, 2) := by decide +kernel
theorem d_Mo_play_186 : decode b_Mo_play 186 = .ok (.lcmp, 1) := by decide +kernel
theorem d_Mo_play_187 : decode b_Mo_play 187 = .ok (.ifCond .eq 7, 3) := by decide +kernel
theorem d_Mo_play_190 : decode b_Mo_play 190 = .ok (.iconst 1, 1) := by decide +kernel
theorem d_Mo_play_191 : decode b_Mo_play 191 = .ok (.goto 4, 3) := by decide +kernel
theorem d_Mo_play_194 : decode b_Mo_play 194 = .ok (.iconst 0, 1) := by decide +kernel
theorem d_Mo_play_195 : decode b_Mo_play 195 = .ok (.istore 19, 2) := by decide +kernel
theorem d_Mo_play_197 : decode b_Mo_play 197 = .ok (.iload 12, 2) := by decide +kernel
theorem d_Mo_play_199 : decode b_Mo_play 199 = .ok (.iload 19, 2) := by decide +kernel
theorem d_Mo_play_201 : decode b_Mo_play 201 = .ok (.ifCond .eq 7, 3) := by decide +kernel
theorem d_Mo_play_204 : decode b_Mo_play 204 = .ok (.iconst 1, 1) := by decide +kernel
theorem d_Mo_play_205 : decode b_Mo_play 205 = .ok (.goto 4, 3) := by decide +kernel
theorem d_Mo_play_208 : decode b_Mo_play 208 = .ok (.iconst 0, 1) := by decide +kernel
theorem d_Mo_play_209 : decode b_Mo_play 209 = .ok (.iadd, 1) := by decide +kernel
theorem d_Mo_play_210 : decode b_Mo_play 210 = .ok (.istore 12, 2) := by decide +kernel
theorem d_Mo_play_212 : decode b_Mo_play 212 = .ok (.lload 17, 2) := by decide +kernel
theorem d_Mo_play_214 : decode b_Mo_play 214 = .ok (.lconst 0, 1) := by decide +kernel
theorem d_Mo_play_215 : decode b_Mo_play 215 = .ok (.lcmp, 1) := by decide +kernel
theorem d_Mo_play_216 : decode b_Mo_play 216 = .ok (.ifCond .ge 6, 3) := by decide +kernel
theorem d_Mo_play_219 : decode b_Mo_play 219 = .ok (.goto 15, 3) := by decide +kernel
theorem d_Mo_play_222 : decode b_Mo_play 222 = .ok (.aload_n 0, 1) := by decide +kernel
theorem d_Mo_play_223 : decode b_Mo_play 223 = .ok (.getfield 7, 3) := by decide +kernel
theorem d_Mo_play_226 : decode b_Mo_play 226 = .ok (.iload 11, 2) := by decide +kernel
theorem d_Mo_play_228 : decode b_Mo_play 228 = .ok (.lload 17, 2) := by decide +kernel
theorem d_Mo_play_230 : decode b_Mo_play 230 = .ok (.lastore, 1) := by decide +kernel
theorem d_Mo_play_231 : decode b_Mo_play 231 = .ok (.iinc 11 1, 3) := by decide +kernel
theorem d_Mo_play_234 : decode b_Mo_play 234 = .ok (.iinc 14 1, 3) := by decide +kernel
theorem d_Mo_play_237 : decode b_Mo_play 237 = .ok (.goto (-130), 3) := by decide +kernel
theorem d_Mo_play_240 : decode b_Mo_play 240 = .ok (.aload_n 0, 1) := by decide +kernel
theorem d_Mo_play_241 : decode b_Mo_play 241 = .ok (.iload 10, 2) := by decide +kernel
theorem d_Mo_play_243 : decode b_Mo_play 243 = .ok (.ifCond .le 8, 3) := by decide +kernel
theorem d_Mo_play_246 : decode b_Mo_play 246 = .ok (.iload 11, 2) := by decide +kernel
theorem d_Mo_play_248 : decode b_Mo_play 248 = .ok (.goto 5, 3) := by decide +kernel
theorem d_Mo_play_251 : decode b_Mo_play 251 = .ok (.iload 13, 2) := by decide +kernel
theorem d_Mo_play_253 : decode b_Mo_play 253 = .ok (.putfield 59, 3) := by decide +kernel
theorem d_Mo_play_256 : decode b_Mo_play 256 = .ok (.iload 5, 2) := by decide +kernel
theorem d_Mo_play_258 : decode b_Mo_play 258 = .ok (.iconst 1, 1) := by decide +kernel
theorem d_Mo_play_259 : decode b_Mo_play 259 = .ok (.if_icmp .ne 10, 3) := by decide +kernel
theorem d_Mo_play_262 : decode b_Mo_play 262 = .ok (.aload_n 0, 1) := by decide +kernel
theorem d_Mo_play_263 : decode b_Mo_play 263 = .ok (.getfield 59, 3) := by decide +kernel
theorem d_Mo_play_266 : decode b_Mo_play 266 = .ok (.goto 5, 3) := by decide +kernel
theorem d_Mo_play_269 : decode b_Mo_play 269 = .ok (.iload 12, 2) := by decide +kernel
theorem d_Mo_play_271 : decode b_Mo_play 271 = .ok (.ireturn, 1) := by decide +kernel
def f_Mo_play_271  (s0 : Int32) (S : zq_S) : Option (zq_S × Int32) :=
  some (S, s0)
def f_Mo_play_253  (a0 : Nat) (v5 : Int32) (v12 : Int32) (s0 : Option Nat) (s1 : Int32) (S : zq_S) : Option (zq_S × Int32) :=
  (s0).bind fun a1 =>
  (zs_p S a1 4 3 (.int s1)).bind fun S3 =>
  if v5 = (1 : Int32) then
    (zs_gi S3 a0 4 3).bind fun x5 =>
    f_Mo_play_271  x5 S3
  else
    f_Mo_play_271  v12 S3
def f_Mo_play_234 (k107 : Nat → Int32 → Int32 → Int32 → Int32 → Int32 → Int32 → Int32 → Int32 → Int32 → Int32 → zq_S → Option (zq_S × Int32)) (a0 : Nat) (v5 : Int32) (v6 : Int32) (v7 : Int32) (v8 : Int32) (v9 : Int32) (v10 : Int32) (v11 : Int32) (v12 : Int32) (v13 : Int32) (v14 : Int32) (S : zq_S) : Option (zq_S × Int32) :=
  k107 a0 v5 v6 v7 v8 v9 v10 v11 v12 v13 (v14 + (1 : Int32)) S
def f_Mo_play_209 (k107 : Nat → Int32 → Int32 → Int32 → Int32 → Int32 → Int32 → Int32 → Int32 → Int32 → Int32 → zq_S → Option (zq_S × Int32)) (a0 : Nat) (v5 : Int32) (v6 : Int32) (v7 : Int32) (v8 : Int32) (v9 : Int32) (v10 : Int32) (v11 : Int32) (v13 : Int32) (v14 : Int32) (v17 : Int64) (s0 : Int32) (s1 : Int32) (S : zq_S) : Option (zq_S × Int32) :=
  if 0 ≤ (lg_cmp v17 (0 : Int64)) then
    (zs_gr S a0 4 4).bind fun x1 =>
    (x1).bind fun a3 =>
    (zs_las S a3 0 v11 v17).bind fun S5 =>
    f_Mo_play_234 k107 a0 v5 v6 v7 v8 v9 v10 (v11 + (1 : Int32)) (s0 + s1) v13 v14 S5
  else
    f_Mo_play_234 k107 a0 v5 v6 v7 v8 v9 v10 v11 (s0 + s1) v13 v14 S
def f_Mo_play_195 (k107 : Nat → Int32 → Int32 → Int32 → Int32 → Int32 → Int32 → Int32 → Int32 → Int32 → Int32 → zq_S → Option (zq_S × Int32)) (a0 : Nat) (v5 : Int32) (v6 : Int32) (v7 : Int32) (v8 : Int32) (v9 : Int32) (v10 : Int32) (v11 : Int32) (v12 : Int32) (v13 : Int32) (v14 : Int32) (v17 : Int64) (s0 : Int32) (S : zq_S) : Option (zq_S × Int32) :=
  if s0 = 0 then
    f_Mo_play_209 k107 a0 v5 v6 v7 v8 v9 v10 v11 v13 v14 v17 v12 (0 : Int32) S
  else
    f_Mo_play_209 k107 a0 v5 v6 v7 v8 v9 v10 v11 v13 v14 v17 v12 (1 : Int32) S
def f_Mo_play_151 (k107 : Nat → Int32 → Int32 → Int32 → Int32 → Int32 → Int32 → Int32 → Int32 → Int32 → Int32 → zq_S → Option (zq_S × Int32)) (a0 : Nat) (v5 : Int32) (v6 : Int32) (v7 : Int32) (v8 : Int32) (v9 : Int32) (v10 : Int32) (v11 : Int32) (v12 : Int32) (v13 : Int32) (v14 : Int32) (v15 : Int64) (s0 : Int64) (S : zq_S) : Option (zq_S × Int32) :=
  if v5 = (2 : Int32) then
    zs_b (f_Mo_part v15 (1 : Int32) S) fun S2 x3 =>
    zs_b (f_Mo_part s0 (1 : Int32) S2) fun S5 x6 =>
    if x3 = x6 then
      f_Mo_play_195 k107 a0 v5 v6 v7 v8 v9 v10 v11 v12 v13 v14 s0 (0 : Int32) S5
    else
      f_Mo_play_195 k107 a0 v5 v6 v7 v8 v9 v10 v11 v12 v13 v14 s0 (1 : Int32) S5
  else
    if (lg_cmp v15 s0) = 0 then
      f_Mo_play_195 k107 a0 v5 v6 v7 v8 v9 v10 v11 v12 v13 v14 s0 (0 : Int32) S
    else
      f_Mo_play_195 k107 a0 v5 v6 v7 v8 v9 v10 v11 v12 v13 v14 s0 (1 : Int32) S
def f_Mo_play_107 (k107 : Nat → Int32 → Int32 → Int32 → Int32 → Int32 → Int32 → Int32 → Int32 → Int32 → Int32 → zq_S → Option (zq_S × Int32)) (a0 : Nat) (v5 : Int32) (v6 : Int32) (v7 : Int32) (v8 : Int32) (v9 : Int32) (v10 : Int32) (v11 : Int32) (v12 : Int32) (v13 : Int32) (v14 : Int32) (S : zq_S) : Option (zq_S × Int32) :=
  if v13 ≤ v14 then
    if v10 ≤ 0 then
      f_Mo_play_253  a0 v5 v12 (some a0) v13 S
    else
      f_Mo_play_253  a0 v5 v12 (some a0) v11 S
  else
    (zs_gr S a0 4 4).bind fun x1 =>
    (x1).bind fun a3 =>
    (zs_lal S a3 0 v14).bind fun x5 =>
    if (v9 + v10) ≤ v14 then
      f_Mo_play_151 k107 a0 v5 v6 v7 v8 v9 v10 v11 v12 v13 v14 x5 x5 S
    else
      zs_b (f_Mo_become x5 v5 v6 v7 v8 S) fun S8 x9 =>
      f_Mo_play_151 k107 a0 v5 v6 v7 v8 v9 v10 v11 v12 v13 v14 x5 x9 S8
def g_Mo_play_107  : Nat → Nat → Int32 → Int32 → Int32 → Int32 → Int32 → Int32 → Int32 → Int32 → Int32 → Int32 → zq_S → Option (zq_S × Int32)
  | 0 => fun _ _ _ _ _ _ _ _ _ _ _ _ => none
  | n + 1 => fun a0 v5 v6 v7 v8 v9 v10 v11 v12 v13 v14 S => f_Mo_play_107  (g_Mo_play_107  n) a0 v5 v6 v7 v8 v9 v10 v11 v12 v13 v14 S
def f_Mo_play_86  (s0 : Option Nat) (s1 : Int32) (s2 : Int64) (s3 : Int32) (s4 : Int32) (S : zq_S) : Option (zq_S × Int32) :=
  (s0).bind fun a1 =>
  if zs_is S a1 4 = true then
  zs_b (f_Mo_put a1 s1 s2 s3 s4 S) fun S4 x5 =>
  some (S4, x5)
  else none
def f_Mo_play_34  (a0 : Nat) (v1 : Int64) (v3 : Int64) (v5 : Int32) (v6 : Int32) (s0 : Int32) (S : zq_S) : Option (zq_S × Int32) :=
  if v5 = 0 then
    if s0 = 0 then
      f_Mo_play_86  (some a0) ((zf_lshr v1 (16 : Int32)).toInt32 &&& (65535 : Int32)) v3 ((zf_lshr v1 (7 : Int32)).toInt32 &&& (255 : Int32)) (0 : Int32) S
    else
      f_Mo_play_86  (some a0) ((zf_lshr v1 (16 : Int32)).toInt32 &&& (65535 : Int32)) v3 ((zf_lshr v1 (7 : Int32)).toInt32 &&& (255 : Int32)) v6 S
  else
    (zs_gi S a0 4 3).bind fun x1 =>
    g_Mo_play_107  zq_F a0 v5 v6 s0 ((zf_lshr v1 (7 : Int32)).toInt32 &&& (255 : Int32)) ((zf_lshr v1 (16 : Int32)).toInt32 &&& (65535 : Int32)) (zf_lshr v1 (32 : Int32)).toInt32 ((zf_lshr v1 (16 : Int32)).toInt32 &&& (65535 : Int32)) (0 : Int32) x1 ((zf_lshr v1 (16 : Int32)).toInt32 &&& (65535 : Int32)) S
def f_Mo_play (a0 : Nat) (v1 : Int64) (v3 : Int64) (S : zq_S) : Option (zq_S × Int32) :=
  if (lg_cmp ((zf_lshr v1 (6 : Int32)) &&& (1 : Int64)) (1 : Int64)) = 0 then
    f_Mo_play_34  a0 v1 v3 (v1.toInt32 &&& (7 : Int32)) ((1 : Int32) <<< (((zf_lshr v1 (3 : Int32)).toInt32 &&& (7 : Int32)) &&& 31)) (1 : Int32) S
  else
    f_Mo_play_34  a0 v1 v3 (v1.toInt32 &&& (7 : Int32)) ((1 : Int32) <<< (((zf_lshr v1 (3 : Int32)).toInt32 &&& (7 : Int32)) &&& 31)) (0 : Int32) S
set_option maxHeartbeats 4000000 in
set_option maxRecDepth 100000 in
theorem r_Mo_play_271 {l : Launch} (hl : l.stackTraces = false) {G : zq_G} {S0 T : zq_S} {v : Int32} {X : zq_X} (Z : Z_Mo_play l G S0 T v X) {s0 : Int32} {S : zq_S} (hf : f_Mo_play_271  s0 S = some (T, v)) : zq_W (Y_Mo_play l G S0 T v) X 271 [] [.int s0] S 0 0 := by
  unfold f_Mo_play_271 at hf
  exact zq_iret Z d_Mo_play_271 (zs_1 hf) (zs_2 (fun z => (.inl (some (.int z)) : zq_R)) hf) ⟨(Nat.le_of_ble_eq_true rfl), (Nat.le_of_ble_eq_true rfl)⟩
set_option maxHeartbeats 4000000 in
set_option maxRecDepth 100000 in
theorem r_Mo_play_253 {l : Launch} (hl : l.stackTraces = false) {G : zq_G} {S0 T : zq_S} {v : Int32} {X : zq_X} (Z : Z_Mo_play l G S0 T v X) {a0 : Nat} {v5 : Int32} {v12 : Int32} {s0 : Option Nat} {s1 : Int32} {S : zq_S} (hf : f_Mo_play_253  a0 v5 v12 s0 s1 S = some (T, v)) : zq_W (Y_Mo_play l G S0 T v) X 253 [(0, .ref a0), (5, .int v5), (12, .int v12)] [.int s1, va_rf s0] S 0 0 := by
  unfold f_Mo_play_253 at hf
  have hq := Option.bind_eq_some_iff.mp hf
  clear hf
  obtain ⟨a1, h2, hf⟩ := hq
  subst h2
  have hq := Option.bind_eq_some_iff.mp hf
  clear hf
  obtain ⟨S3, h4, hf⟩ := hq
  refine zr_puti Z cd_Mo 3 d_Mo_play_253 (by decide) m_288 rfl (by decide +kernel) h4 ?_
  refine zq_iload Z d_Mo_play_256 1 rfl ?_
  refine zq_iconst Z (1 : Int32) d_Mo_play_258 (by decide) ?_
  refine zq_icmp_ne Z 269 d_Mo_play_259 (by decide) (fun q => ?_) (fun q => ?_)
  · replace hf := zs_N q hf
    refine zq_iload Z d_Mo_play_269 2 rfl ?_
    refine zq_sub (lo' := []) [] rfl ?_
    exact r_Mo_play_271 hl Z  hf
  · replace hf := zs_T q hf
    refine zq_aload_n Z d_Mo_play_262 0 rfl ?_
    have hq := Option.bind_eq_some_iff.mp hf
    clear hf
    obtain ⟨x5, h6, hf⟩ := hq
    refine zr_geti Z cd_Mo 3 d_Mo_play_263 (by decide) m_288 h6 ?_
    refine zq_goto Z 271 d_Mo_play_266 (by decide) ?_
    refine zq_sub (lo' := []) [] rfl ?_
    exact r_Mo_play_271 hl Z  hf
set_option maxHeartbeats 4000000 in
set_option maxRecDepth 100000 in
theorem r_Mo_play_234 {l : Launch} (hl : l.stackTraces = false) {G : zq_G} {S0 T : zq_S} {v : Int32} {X : zq_X} (Z : Z_Mo_play l G S0 T v X) {k107 : Nat → Int32 → Int32 → Int32 → Int32 → Int32 → Int32 → Int32 → Int32 → Int32 → Int32 → zq_S → Option (zq_S × Int32)} (hk107 : ∀ (a0 : Nat) (v5 : Int32) (v6 : Int32) (v7 : Int32) (v8 : Int32) (v9 : Int32) (v10 : Int32) (v11 : Int32) (v12 : Int32) (v13 : Int32) (v14 : Int32) (S : zq_S), k107 a0 v5 v6 v7 v8 v9 v10 v11 v12 v13 v14 S = some (T, v) → zq_W (Y_Mo_play l G S0 T v) X 107 [(0, .ref a0), (5, .int v5), (6, .int v6), (7, .int v7), (8, .int v8), (9, .int v9), (10, .int v10), (11, .int v11), (12, .int v12), (13, .int v13), (14, .int v14)] [] S 0 0) {a0 : Nat} {v5 : Int32} {v6 : Int32} {v7 : Int32} {v8 : Int32} {v9 : Int32} {v10 : Int32} {v11 : Int32} {v12 : Int32} {v13 : Int32} {v14 : Int32} {S : zq_S} (hf : f_Mo_play_234 k107 a0 v5 v6 v7 v8 v9 v10 v11 v12 v13 v14 S = some (T, v)) : zq_W (Y_Mo_play l G S0 T v) X 234 [(0, .ref a0), (5, .int v5), (6, .int v6), (7, .int v7), (8, .int v8), (9, .int v9), (10, .int v10), (11, .int v11), (12, .int v12), (13, .int v13), (14, .int v14)] [] S 0 0 := by
  unfold f_Mo_play_234 at hf
  refine zq_iinc Z (v14 + (1 : Int32)) [(14, .int (v14 + (1 : Int32))), (0, .ref a0), (5, .int v5), (6, .int v6), (7, .int v7), (8, .int v8), (9, .int v9), (10, .int v10), (11, .int v11), (12, .int v12), (13, .int v13)] d_Mo_play_234 10 rfl rfl (by decide) rfl ?_
  refine zq_goto Z 107 d_Mo_play_237 (by decide) ?_
  refine zq_sub (lo' := [(0, .ref a0), (5, .int v5), (6, .int v6), (7, .int v7), (8, .int v8), (9, .int v9), (10, .int v10), (11, .int v11), (12, .int v12), (13, .int v13), (14, .int (v14 + (1 : Int32)))]) [1, 2, 3, 4, 5, 6, 7, 8, 9, 10, 0] rfl ?_
  exact hk107 _ _ _ _ _ _ _ _ _ _ _ _ hf
set_option maxHeartbeats 4000000 in
set_option maxRecDepth 100000 in
theorem r_Mo_play_209 {l : Launch} (hl : l.stackTraces = false) {G : zq_G} {S0 T : zq_S} {v : Int32} {X : zq_X} (Z : Z_Mo_play l G S0 T v X) {k107 : Nat → Int32 → Int32 → Int32 → Int32 → Int32 → Int32 → Int32 → Int32 → Int32 → Int32 → zq_S → Option (zq_S × Int32)} (hk107 : ∀ (a0 : Nat) (v5 : Int32) (v6 : Int32) (v7 : Int32) (v8 : Int32) (v9 : Int32) (v10 : Int32) (v11 : Int32) (v12 : Int32) (v13 : Int32) (v14 : Int32) (S : zq_S), k107 a0 v5 v6 v7 v8 v9 v10 v11 v12 v13 v14 S = some (T, v) → zq_W (Y_Mo_play l G S0 T v) X 107 [(0, .ref a0), (5, .int v5), (6, .int v6), (7, .int v7), (8, .int v8), (9, .int v9), (10, .int v10), (11, .int v11), (12, .int v12), (13, .int v13), (14, .int v14)] [] S 0 0) {a0 : Nat} {v5 : Int32} {v6 : Int32} {v7 : Int32} {v8 : Int32} {v9 : Int32} {v10 : Int32} {v11 : Int32} {v13 : Int32} {v14 : Int32} {v17 : Int64} {s0 : Int32} {s1 : Int32} {S : zq_S} (hf : f_Mo_play_209 k107 a0 v5 v6 v7 v8 v9 v10 v11 v13 v14 v17 s0 s1 S = some (T, v)) : zq_W (Y_Mo_play l G S0 T v) X 209 [(0, .ref a0), (5, .int v5), (6, .int v6), (7, .int v7), (8, .int v8), (9, .int v9), (10, .int v10), (11, .int v11), (13, .int v13), (14, .int v14), (17, .long v17)] [.int s1, .int s0] S 0 0 := by
  unfold f_Mo_play_209 at hf
  refine zq_iadd Z d_Mo_play_209 ?_
  refine zq_istore Z [(12, .int (s0 + s1)), (0, .ref a0), (5, .int v5), (6, .int v6), (7, .int v7), (8, .int v8), (9, .int v9), (10, .int v10), (11, .int v11), (13, .int v13), (14, .int v14), (17, .long v17)] d_Mo_play_210 (by decide) rfl ?_
  refine zq_lload Z d_Mo_play_212 11 rfl ?_
  refine zq_lconst Z (0 : Int64) d_Mo_play_214 (by decide) ?_
  refine zq_lcmp Z d_Mo_play_215 ?_
  refine zq_if_ge Z 222 d_Mo_play_216 (by decide) (fun q => ?_) (fun q => ?_)
  · replace hf := zs_T q hf
    refine zq_aload_n Z d_Mo_play_222 1 rfl ?_
    have hq := Option.bind_eq_some_iff.mp hf
    clear hf
    obtain ⟨x1, h2, hf⟩ := hq
    refine zr_getr Z cd_Mo 4 d_Mo_play_223 (by decide) m_270 h2 ?_
    refine zq_iload Z d_Mo_play_226 8 rfl ?_
    refine zq_lload Z d_Mo_play_228 11 rfl ?_
    have hq := Option.bind_eq_some_iff.mp hf
    clear hf
    obtain ⟨a3, h4, hf⟩ := hq
    subst h4
    have hq := Option.bind_eq_some_iff.mp hf
    clear hf
    obtain ⟨S5, h6, hf⟩ := hq
    refine zr_lastore Z 0 (fun _ => rfl) d_Mo_play_230 h6 ?_
    refine zq_iinc Z (v11 + (1 : Int32)) [(11, .int (v11 + (1 : Int32))), (12, .int (s0 + s1)), (0, .ref a0), (5, .int v5), (6, .int v6), (7, .int v7), (8, .int v8), (9, .int v9), (10, .int v10), (13, .int v13), (14, .int v14), (17, .long v17)] d_Mo_play_231 8 rfl rfl (by decide) rfl ?_
    refine zq_sub (lo' := [(0, .ref a0), (5, .int v5), (6, .int v6), (7, .int v7), (8, .int v8), (9, .int v9), (10, .int v10), (11, .int (v11 + (1 : Int32))), (12, .int (s0 + s1)), (13, .int v13), (14, .int v14)]) [2, 3, 4, 5, 6, 7, 8, 0, 1, 9, 10] rfl ?_
    exact r_Mo_play_234 hl Z hk107 hf
  · replace hf := zs_N q hf
    refine zq_goto Z 234 d_Mo_play_219 (by decide) ?_
    refine zq_sub (lo' := [(0, .ref a0), (5, .int v5), (6, .int v6), (7, .int v7), (8, .int v8), (9, .int v9), (10, .int v10), (11, .int v11), (12, .int (s0 + s1)), (13, .int v13), (14, .int v14)]) [1, 2, 3, 4, 5, 6, 7, 8, 0, 9, 10] rfl ?_
    exact r_Mo_play_234 hl Z hk107 hf
set_option maxHeartbeats 4000000 in
set_option maxRecDepth 100000 in
theorem r_Mo_play_195 {l : Launch} (hl : l.stackTraces = false) {G : zq_G} {S0 T : zq_S} {v : Int32} {X : zq_X} (Z : Z_Mo_play l G S0 T v X) {k107 : Nat → Int32 → Int32 → Int32 → Int32 → Int32 → Int32 → Int32 → Int32 → Int32 → Int32 → zq_S → Option (zq_S × Int32)} (hk107 : ∀ (a0 : Nat) (v5 : Int32) (v6 : Int32) (v7 : Int32) (v8 : Int32) (v9 : Int32) (v10 : Int32) (v11 : Int32) (v12 : Int32) (v13 : Int32) (v14 : Int32) (S : zq_S), k107 a0 v5 v6 v7 v8 v9 v10 v11 v12 v13 v14 S = some (T, v) → zq_W (Y_Mo_play l G S0 T v) X 107 [(0, .ref a0), (5, .int v5), (6, .int v6), (7, .int v7), (8, .int v8), (9, .int v9), (10, .int v10), (11, .int v11), (12, .int v12), (13, .int v13), (14, .int v14)] [] S 0 0) {a0 : Nat} {v5 : Int32} {v6 : Int32} {v7 : Int32} {v8 : Int32} {v9 : Int32} {v10 : Int32} {v11 : Int32} {v12 : Int32} {v13 : Int32} {v14 : Int32} {v17 : Int64} {s0 : Int32} {S : zq_S} (hf : f_Mo_play_195 k107 a0 v5 v6 v7 v8 v9 v10 v11 v12 v13 v14 v17 s0 S = some (T, v)) : zq_W (Y_Mo_play l G S0 T v) X 195 [(0, .ref a0), (5, .int v5), (6, .int v6), (7, .int v7), (8, .int v8), (9, .int v9), (10, .int v10), (11, .int v11), (12, .int v12), (13, .int v13), (14, .int v14), (17, .long v17)] [.int s0] S 0 0 := by
  unfold f_Mo_play_195 at hf
  refine zq_istore Z [(19, .int s0), (0, .ref a0), (5, .int v5), (6, .int v6), (7, .int v7), (8, .int v8), (9, .int v9), (10, .int v10), (11, .int v11), (12, .int v12), (13, .int v13), (14, .int v14), (17, .long v17)] d_Mo_play_195 (by decide) rfl ?_
  refine zq_iload Z d_Mo_play_197 9 rfl ?_
  refine zq_iload Z d_Mo_play_199 0 rfl ?_
  refine zq_if_eq Z 208 d_Mo_play_201 (by decide) (fun q => ?_) (fun q => ?_)
  · replace hf := zs_T q hf
    refine zq_iconst Z (0 : Int32) d_Mo_play_208 (by decide) ?_
    refine zq_sub (lo' := [(0, .ref a0), (5, .int v5), (6, .int v6), (7, .int v7), (8, .int v8), (9, .int v9), (10, .int v10), (11, .int v11), (13, .int v13), (14, .int v14), (17, .long v17)]) [1, 2, 3, 4, 5, 6, 7, 8, 10, 11, 12] rfl ?_
    exact r_Mo_play_209 hl Z hk107 hf
  · replace hf := zs_N q hf
    refine zq_iconst Z (1 : Int32) d_Mo_play_204 (by decide) ?_
    refine zq_goto Z 209 d_Mo_play_205 (by decide) ?_
    refine zq_sub (lo' := [(0, .ref a0), (5, .int v5), (6, .int v6), (7, .int v7), (8, .int v8), (9, .int v9), (10, .int v10), (11, .int v11), (13, .int v13), (14, .int v14), (17, .long v17)]) [1, 2, 3, 4, 5, 6, 7, 8, 10, 11, 12] rfl ?_
    exact r_Mo_play_209 hl Z hk107 hf
set_option maxHeartbeats 4000000 in
set_option maxRecDepth 100000 in
theorem r_Mo_play_151 {l : Launch} (hl : l.stackTraces = false) {G : zq_G} {S0 T : zq_S} {v : Int32} {X : zq_X} (Z : Z_Mo_play l G S0 T v X) {k107 : Nat → Int32 → Int32 → Int32 → Int32 → Int32 → Int32 → Int32 → Int32 → Int32 → Int32 → zq_S → Option (zq_S × Int32)} (hk107 : ∀ (a0 : Nat) (v5 : Int32) (v6 : Int32) (v7 : Int32) (v8 : Int32) (v9 : Int32) (v10 : Int32) (v11 : Int32) (v12 : Int32) (v13 : Int32) (v14 : Int32) (S : zq_S), k107 a0 v5 v6 v7 v8 v9 v10 v11 v12 v13 v14 S = some (T, v) → zq_W (Y_Mo_play l G S0 T v) X 107 [(0, .ref a0), (5, .int v5), (6, .int v6), (7, .int v7), (8, .int v8), (9, .int v9), (10, .int v10), (11, .int v11), (12, .int v12), (13, .int v13), (14, .int v14)] [] S 0 0) {a0 : Nat} {v5 : Int32} {v6 : Int32} {v7 : Int32} {v8 : Int32} {v9 : Int32} {v10 : Int32} {v11 : Int32} {v12 : Int32} {v13 : Int32} {v14 : Int32} {v15 : Int64} {s0 : Int64} {S : zq_S} (hf : f_Mo_play_151 k107 a0 v5 v6 v7 v8 v9 v10 v11 v12 v13 v14 v15 s0 S = some (T, v)) : zq_W (Y_Mo_play l G S0 T v) X 151 [(0, .ref a0), (5, .int v5), (6, .int v6), (7, .int v7), (8, .int v8), (9, .int v9), (10, .int v10), (11, .int v11), (12, .int v12), (13, .int v13), (14, .int v14), (15, .long v15)] [.long s0] S 0 0 := by
  unfold f_Mo_play_151 at hf
  refine zq_lstore Z [(17, .long s0), (0, .ref a0), (5, .int v5), (6, .int v6), (7, .int v7), (8, .int v8), (9, .int v9), (10, .int v10), (11, .int v11), (12, .int v12), (13, .int v13), (14, .int v14), (15, .long v15)] d_Mo_play_151 (by decide) rfl ?_
  refine zq_iload Z d_Mo_play_153 2 rfl ?_
  refine zq_iconst Z (2 : Int32) d_Mo_play_155 (by decide) ?_
  refine zq_icmp_ne Z 182 d_Mo_play_156 (by decide) (fun q => ?_) (fun q => ?_)
  · replace hf := zs_N q hf
    refine zq_lload Z d_Mo_play_182 12 rfl ?_
    refine zq_lload Z d_Mo_play_184 0 rfl ?_
    refine zq_lcmp Z d_Mo_play_186 ?_
    refine zq_if_eq Z 194 d_Mo_play_187 (by decide) (fun q => ?_) (fun q => ?_)
    · replace hf := zs_T q hf
      refine zq_iconst Z (0 : Int32) d_Mo_play_194 (by decide) ?_
      refine zq_sub (lo' := [(0, .ref a0), (5, .int v5), (6, .int v6), (7, .int v7), (8, .int v8), (9, .int v9), (10, .int v10), (11, .int v11), (12, .int v12), (13, .int v13), (14, .int v14), (17, .long s0)]) [1, 2, 3, 4, 5, 6, 7, 8, 9, 10, 11, 0] rfl ?_
      exact r_Mo_play_195 hl Z hk107 hf
    · replace hf := zs_N q hf
      refine zq_iconst Z (1 : Int32) d_Mo_play_190 (by decide) ?_
      refine zq_goto Z 195 d_Mo_play_191 (by decide) ?_
      refine zq_sub (lo' := [(0, .ref a0), (5, .int v5), (6, .int v6), (7, .int v7), (8, .int v8), (9, .int v9), (10, .int v10), (11, .int v11), (12, .int v12), (13, .int v13), (14, .int v14), (17, .long s0)]) [1, 2, 3, 4, 5, 6, 7, 8, 9, 10, 11, 0] rfl ?_
      exact r_Mo_play_195 hl Z hk107 hf
  · replace hf := zs_T q hf
    refine zq_lload Z d_Mo_play_159 12 rfl ?_
    refine zq_iconst Z (1 : Int32) d_Mo_play_161 (by decide) ?_
    have hq := zs_bS hf
    clear hf
    obtain ⟨S2, x3, h1, hf⟩ := hq
    refine zq_contR (zq_stepS Z zq_cf1 (c_Mo_part hl h1) d_Mo_play_162 m_292 m_293 m_294 m_286 p_Mo_part ⟨(Nat.le_of_ble_eq_true rfl), (Nat.le_of_ble_eq_true rfl), (Nat.le_of_ble_eq_true rfl), (Nat.le_of_ble_eq_true rfl)⟩ rfl (Nat.le_of_ble_eq_true rfl)) Z.p ?_
    refine zq_lload Z d_Mo_play_165 0 rfl ?_
    refine zq_iconst Z (1 : Int32) d_Mo_play_167 (by decide) ?_
    have hq := zs_bS hf
    clear hf
    obtain ⟨S5, x6, h4, hf⟩ := hq
    refine zq_contR (zq_stepS Z zq_cf1 (c_Mo_part hl h4) d_Mo_play_168 m_292 m_293 m_294 m_286 p_Mo_part ⟨(Nat.le_of_ble_eq_true rfl), (Nat.le_of_ble_eq_true rfl), (Nat.le_of_ble_eq_true rfl), (Nat.le_of_ble_eq_true rfl)⟩ rfl (Nat.le_of_ble_eq_true rfl)) Z.p ?_
    refine zq_icmp_eq Z 178 d_Mo_play_171 (by decide) (fun q => ?_) (fun q => ?_)
    · replace hf := zs_T q hf
      refine zq_iconst Z (0 : Int32) d_Mo_play_178 (by decide) ?_
      refine zq_goto Z 195 d_Mo_play_179 (by decide) ?_
      refine zq_sub (lo' := [(0, .ref a0), (5, .int v5), (6, .int v6), (7, .int v7), (8, .int v8), (9, .int v9), (10, .int v10), (11, .int v11), (12, .int v12), (13, .int v13), (14, .int v14), (17, .long s0)]) [1, 2, 3, 4, 5, 6, 7, 8, 9, 10, 11, 0] rfl ?_
      exact r_Mo_play_195 hl Z hk107 hf
    · replace hf := zs_N q hf
      refine zq_iconst Z (1 : Int32) d_Mo_play_174 (by decide) ?_
      refine zq_goto Z 195 d_Mo_play_175 (by decide) ?_
      refine zq_sub (lo' := [(0, .ref a0), (5, .int v5), (6, .int v6), (7, .int v7), (8, .int v8), (9, .int v9), (10, .int v10), (11, .int v11), (12, .int v12), (13, .int v13), (14, .int v14), (17, .long s0)]) [1, 2, 3, 4, 5, 6, 7, 8, 9, 10, 11, 0] rfl ?_
      exact r_Mo_play_195 hl Z hk107 hf
set_option maxHeartbeats 4000000 in
set_option maxRecDepth 100000 in
theorem r_Mo_play_107 {l : Launch} (hl : l.stackTraces = false) {G : zq_G} {S0 T : zq_S} {v : Int32} {X : zq_X} (Z : Z_Mo_play l G S0 T v X) {k107 : Nat → Int32 → Int32 → Int32 → Int32 → Int32 → Int32 → Int32 → Int32 → Int32 → Int32 → zq_S → Option (zq_S × Int32)} (hk107 : ∀ (a0 : Nat) (v5 : Int32) (v6 : Int32) (v7 : Int32) (v8 : Int32) (v9 : Int32) (v10 : Int32) (v11 : Int32) (v12 : Int32) (v13 : Int32) (v14 : Int32) (S : zq_S), k107 a0 v5 v6 v7 v8 v9 v10 v11 v12 v13 v14 S = some (T, v) → zq_W (Y_Mo_play l G S0 T v) X 107 [(0, .ref a0), (5, .int v5), (6, .int v6), (7, .int v7), (8, .int v8), (9, .int v9), (10, .int v10), (11, .int v11), (12, .int v12), (13, .int v13), (14, .int v14)] [] S 0 0) {a0 : Nat} {v5 : Int32} {v6 : Int32} {v7 : Int32} {v8 : Int32} {v9 : Int32} {v10 : Int32} {v11 : Int32} {v12 : Int32} {v13 : Int32} {v14 : Int32} {S : zq_S} (hf : f_Mo_play_107 k107 a0 v5 v6 v7 v8 v9 v10 v11 v12 v13 v14 S = some (T, v)) : zq_W (Y_Mo_play l G S0 T v) X 107 [(0, .ref a0), (5, .int v5), (6, .int v6), (7, .int v7), (8, .int v8), (9, .int v9), (10, .int v10), (11, .int v11), (12, .int v12), (13, .int v13), (14, .int v14)] [] S 0 0 := by
  unfold f_Mo_play_107 at hf
  refine zq_iload Z d_Mo_play_107 10 rfl ?_
  refine zq_iload Z d_Mo_play_109 9 rfl ?_
  refine zq_icmp_ge Z 240 d_Mo_play_111 (by decide) (fun q => ?_) (fun q => ?_)
  · replace hf := zs_T q hf
    refine zq_aload_n Z d_Mo_play_240 0 rfl ?_
    refine zq_iload Z d_Mo_play_241 6 rfl ?_
    refine zq_if_le Z 251 d_Mo_play_243 (by decide) (fun q => ?_) (fun q => ?_)
    · replace hf := zs_T q hf
      refine zq_iload Z d_Mo_play_251 9 rfl ?_
      refine zq_sub (lo' := [(0, .ref a0), (5, .int v5), (12, .int v12)]) [0, 1, 8] rfl ?_
      show zq_W _ _ 253 _ [.int v13, va_rf (some a0)] _ _ _
      exact r_Mo_play_253 hl Z  hf
    · replace hf := zs_N q hf
      refine zq_iload Z d_Mo_play_246 7 rfl ?_
      refine zq_goto Z 253 d_Mo_play_248 (by decide) ?_
      refine zq_sub (lo' := [(0, .ref a0), (5, .int v5), (12, .int v12)]) [0, 1, 8] rfl ?_
      show zq_W _ _ 253 _ [.int v11, va_rf (some a0)] _ _ _
      exact r_Mo_play_253 hl Z  hf
  · replace hf := zs_N q hf
    refine zq_aload_n Z d_Mo_play_114 0 rfl ?_
    have hq := Option.bind_eq_some_iff.mp hf
    clear hf
    obtain ⟨x1, h2, hf⟩ := hq
    refine zr_getr Z cd_Mo 4 d_Mo_play_115 (by decide) m_270 h2 ?_
    refine zq_iload Z d_Mo_play_118 10 rfl ?_
    have hq := Option.bind_eq_some_iff.mp hf
    clear hf
    obtain ⟨a3, h4, hf⟩ := hq
    subst h4
    have hq := Option.bind_eq_some_iff.mp hf
    clear hf
    obtain ⟨x5, h6, hf⟩ := hq
    refine zr_laload Z 0 (fun _ => rfl) d_Mo_play_120 h6 ?_
    refine zq_lstore Z [(15, .long x5), (0, .ref a0), (5, .int v5), (6, .int v6), (7, .int v7), (8, .int v8), (9, .int v9), (10, .int v10), (11, .int v11), (12, .int v12), (13, .int v13), (14, .int v14)] d_Mo_play_121 (by decide) rfl ?_
    refine zq_iload Z d_Mo_play_123 11 rfl ?_
    refine zq_iload Z d_Mo_play_125 6 rfl ?_
    refine zq_iload Z d_Mo_play_127 7 rfl ?_
    refine zq_iadd Z d_Mo_play_129 ?_
    refine zq_icmp_ge Z 149 d_Mo_play_130 (by decide) (fun q => ?_) (fun q => ?_)
    · replace hf := zs_T q hf
      refine zq_lload Z d_Mo_play_149 0 rfl ?_
      refine zq_sub (lo' := [(0, .ref a0), (5, .int v5), (6, .int v6), (7, .int v7), (8, .int v8), (9, .int v9), (10, .int v10), (11, .int v11), (12, .int v12), (13, .int v13), (14, .int v14), (15, .long x5)]) [1, 2, 3, 4, 5, 6, 7, 8, 9, 10, 11, 0] rfl ?_
      exact r_Mo_play_151 hl Z hk107 hf
    · replace hf := zs_N q hf
      refine zq_lload Z d_Mo_play_133 0 rfl ?_
      refine zq_iload Z d_Mo_play_135 2 rfl ?_
      refine zq_iload Z d_Mo_play_137 3 rfl ?_
      refine zq_iload Z d_Mo_play_139 4 rfl ?_
      refine zq_iload Z d_Mo_play_141 5 rfl ?_
      have hq := zs_bS hf
      clear hf
      obtain ⟨S8, x9, h7, hf⟩ := hq
      refine zq_contR (zq_stepS Z zq_cf1 (c_Mo_become hl h7) d_Mo_play_143 m_298 m_299 m_300 m_286 p_Mo_become ⟨(Nat.le_of_ble_eq_true rfl), (Nat.le_of_ble_eq_true rfl), (Nat.le_of_ble_eq_true rfl), (Nat.le_of_ble_eq_true rfl)⟩ rfl (Nat.le_of_ble_eq_true rfl)) Z.p ?_
      refine zq_goto Z 151 d_Mo_play_146 (by decide) ?_
      refine zq_sub (lo' := [(0, .ref a0), (5, .int v5), (6, .int v6), (7, .int v7), (8, .int v8), (9, .int v9), (10, .int v10), (11, .int v11), (12, .int v12), (13, .int v13), (14, .int v14), (15, .long x5)]) [1, 2, 3, 4, 5, 6, 7, 8, 9, 10, 11, 0] rfl ?_
      exact r_Mo_play_151 hl Z hk107 hf
theorem w_Mo_play_107 {l : Launch} (hl : l.stackTraces = false) {G : zq_G} {S0 T : zq_S} {v : Int32} {X : zq_X} (Z : Z_Mo_play l G S0 T v X) : ∀ (n : Nat) (a0 : Nat) (v5 : Int32) (v6 : Int32) (v7 : Int32) (v8 : Int32) (v9 : Int32) (v10 : Int32) (v11 : Int32) (v12 : Int32) (v13 : Int32) (v14 : Int32) (S : zq_S), g_Mo_play_107  n a0 v5 v6 v7 v8 v9 v10 v11 v12 v13 v14 S = some (T, v) → zq_W (Y_Mo_play l G S0 T v) X 107 [(0, .ref a0), (5, .int v5), (6, .int v6), (7, .int v7), (8, .int v8), (9, .int v9), (10, .int v10), (11, .int v11), (12, .int v12), (13, .int v13), (14, .int v14)] [] S 0 0 := by
  intro n
  induction n with
  | zero => intro a0 v5 v6 v7 v8 v9 v10 v11 v12 v13 v14 S hf; cases hf
  | succ n ih =>
    intro a0 v5 v6 v7 v8 v9 v10 v11 v12 v13 v14 S hf
    have hf : f_Mo_play_107  (g_Mo_play_107  n) a0 v5 v6 v7 v8 v9 v10 v11 v12 v13 v14 S = some (T, v) := hf
    exact r_Mo_play_107 hl Z  ih hf
set_option maxHeartbeats 4000000 in
set_option maxRecDepth 100000 in
theorem r_Mo_play_86 {l : Launch} (hl : l.stackTraces = false) {G : zq_G} {S0 T : zq_S} {v : Int32} {X : zq_X} (Z : Z_Mo_play l G S0 T v X) {s0 : Option Nat} {s1 : Int32} {s2 : Int64} {s3 : Int32} {s4 : Int32} {S : zq_S} (hf : f_Mo_play_86  s0 s1 s2 s3 s4 S = some (T, v)) : zq_W (Y_Mo_play l G S0 T v) X 86 [] [.int s4, .int s3, .long s2, .int s1, va_rf s0] S 0 0 := by
  unfold f_Mo_play_86 at hf
  have hq := Option.bind_eq_some_iff.mp hf
  clear hf
  obtain ⟨a1, h2, hf⟩ := hq
  subst h2
  have hq := zs_C hf
  clear hf
  obtain ⟨h6, hf⟩ := hq
  obtain ⟨fs7, e8⟩ := zs_isS h6
  have hq := zs_bS hf
  clear hf
  obtain ⟨S4, x5, h3, hf⟩ := hq
  refine zq_contR (zq_stepV Z zq_cf1 (c_Mo_put hl h3) 4 rfl e8 d_Mo_play_86 m_301 m_303 m_304 m_302 m_286 p_Mo_put ⟨(Nat.le_of_ble_eq_true rfl), (Nat.le_of_ble_eq_true rfl), (Nat.le_of_ble_eq_true rfl), (Nat.le_of_ble_eq_true rfl)⟩ rfl (Nat.le_of_ble_eq_true rfl)) Z.p ?_
  exact zq_iret Z d_Mo_play_89 (zs_1 hf) (zs_2 (fun z => (.inl (some (.int z)) : zq_R)) hf) ⟨(Nat.le_of_ble_eq_true rfl), (Nat.le_of_ble_eq_true rfl)⟩
set_option maxHeartbeats 4000000 in
set_option maxRecDepth 100000 in
theorem r_Mo_play_34 {l : Launch} (hl : l.stackTraces = false) {G : zq_G} {S0 T : zq_S} {v : Int32} {X : zq_X} (Z : Z_Mo_play l G S0 T v X) {a0 : Nat} {v1 : Int64} {v3 : Int64} {v5 : Int32} {v6 : Int32} {s0 : Int32} {S : zq_S} (hf : f_Mo_play_34  a0 v1 v3 v5 v6 s0 S = some (T, v)) : zq_W (Y_Mo_play l G S0 T v) X 34 [(0, .ref a0), (1, .long v1), (3, .long v3), (5, .int v5), (6, .int v6)] [.int s0] S 0 0 := by
  unfold f_Mo_play_34 at hf
  refine zq_istore Z [(7, .int s0), (0, .ref a0), (1, .long v1), (3, .long v3), (5, .int v5), (6, .int v6)] d_Mo_play_34 (by decide) rfl ?_
  refine zq_lload_n Z d_Mo_play_36 2 rfl ?_
  refine zq_bipush Z (7 : Int32) d_Mo_play_37 (by decide) ?_
  refine zq_lshr Z d_Mo_play_39 ?_
  refine zq_l2i Z d_Mo_play_40 ?_
  refine zq_sipush Z (255 : Int32) d_Mo_play_41 (by decide) ?_
  refine zq_iand Z d_Mo_play_44 ?_
  refine zq_istore Z [(8, .int ((zf_lshr v1 (7 : Int32)).toInt32 &&& (255 : Int32))), (7, .int s0), (0, .ref a0), (1, .long v1), (3, .long v3), (5, .int v5), (6, .int v6)] d_Mo_play_45 (by decide) rfl ?_
  refine zq_lload_n Z d_Mo_play_47 3 rfl ?_
  refine zq_bipush Z (16 : Int32) d_Mo_play_48 (by decide) ?_
  refine zq_lshr Z d_Mo_play_50 ?_
  refine zq_l2i Z d_Mo_play_51 ?_
  refine zq_ldc Z (65535 : Int32) d_Mo_play_52 m_305 ?_
  refine zq_iand Z d_Mo_play_54 ?_
  refine zq_istore Z [(9, .int ((zf_lshr v1 (16 : Int32)).toInt32 &&& (65535 : Int32))), (8, .int ((zf_lshr v1 (7 : Int32)).toInt32 &&& (255 : Int32))), (7, .int s0), (0, .ref a0), (1, .long v1), (3, .long v3), (5, .int v5), (6, .int v6)] d_Mo_play_55 (by decide) rfl ?_
  refine zq_lload_n Z d_Mo_play_57 4 rfl ?_
  refine zq_bipush Z (32 : Int32) d_Mo_play_58 (by decide) ?_
  refine zq_lshr Z d_Mo_play_60 ?_
  refine zq_l2i Z d_Mo_play_61 ?_
  refine zq_istore Z [(10, .int (zf_lshr v1 (32 : Int32)).toInt32), (9, .int ((zf_lshr v1 (16 : Int32)).toInt32 &&& (65535 : Int32))), (8, .int ((zf_lshr v1 (7 : Int32)).toInt32 &&& (255 : Int32))), (7, .int s0), (0, .ref a0), (1, .long v1), (3, .long v3), (5, .int v5), (6, .int v6)] d_Mo_play_62 (by decide) rfl ?_
  refine zq_iload Z d_Mo_play_64 7 rfl ?_
  refine zq_if_ne Z 90 d_Mo_play_66 (by decide) (fun q => ?_) (fun q => ?_)
  · replace hf := zs_N q hf
    refine zq_iload Z d_Mo_play_90 1 rfl ?_
    refine zq_istore Z [(11, .int ((zf_lshr v1 (16 : Int32)).toInt32 &&& (65535 : Int32))), (10, .int (zf_lshr v1 (32 : Int32)).toInt32), (9, .int ((zf_lshr v1 (16 : Int32)).toInt32 &&& (65535 : Int32))), (8, .int ((zf_lshr v1 (7 : Int32)).toInt32 &&& (255 : Int32))), (7, .int s0), (0, .ref a0), (1, .long v1), (3, .long v3), (5, .int v5), (6, .int v6)] d_Mo_play_92 (by decide) rfl ?_
    refine zq_iconst Z (0 : Int32) d_Mo_play_94 (by decide) ?_
    refine zq_istore Z [(12, .int (0 : Int32)), (11, .int ((zf_lshr v1 (16 : Int32)).toInt32 &&& (65535 : Int32))), (10, .int (zf_lshr v1 (32 : Int32)).toInt32), (9, .int ((zf_lshr v1 (16 : Int32)).toInt32 &&& (65535 : Int32))), (8, .int ((zf_lshr v1 (7 : Int32)).toInt32 &&& (255 : Int32))), (7, .int s0), (0, .ref a0), (1, .long v1), (3, .long v3), (5, .int v5), (6, .int v6)] d_Mo_play_95 (by decide) rfl ?_
    refine zq_aload_n Z d_Mo_play_97 6 rfl ?_
    have hq := Option.bind_eq_some_iff.mp hf
    clear hf
    obtain ⟨x1, h2, hf⟩ := hq
    refine zr_geti Z cd_Mo 3 d_Mo_play_98 (by decide) m_288 h2 ?_
    refine zq_istore Z [(13, .int x1), (12, .int (0 : Int32)), (11, .int ((zf_lshr v1 (16 : Int32)).toInt32 &&& (65535 : Int32))), (10, .int (zf_lshr v1 (32 : Int32)).toInt32), (9, .int ((zf_lshr v1 (16 : Int32)).toInt32 &&& (65535 : Int32))), (8, .int ((zf_lshr v1 (7 : Int32)).toInt32 &&& (255 : Int32))), (7, .int s0), (0, .ref a0), (1, .long v1), (3, .long v3), (5, .int v5), (6, .int v6)] d_Mo_play_101 (by decide) rfl ?_
    refine zq_iload Z d_Mo_play_103 4 rfl ?_
    refine zq_istore Z [(14, .int ((zf_lshr v1 (16 : Int32)).toInt32 &&& (65535 : Int32))), (13, .int x1), (12, .int (0 : Int32)), (11, .int ((zf_lshr v1 (16 : Int32)).toInt32 &&& (65535 : Int32))), (10, .int (zf_lshr v1 (32 : Int32)).toInt32), (9, .int ((zf_lshr v1 (16 : Int32)).toInt32 &&& (65535 : Int32))), (8, .int ((zf_lshr v1 (7 : Int32)).toInt32 &&& (255 : Int32))), (7, .int s0), (0, .ref a0), (1, .long v1), (3, .long v3), (5, .int v5), (6, .int v6)] d_Mo_play_105 (by decide) rfl ?_
    refine zq_sub (lo' := [(0, .ref a0), (5, .int v5), (6, .int v6), (7, .int s0), (8, .int ((zf_lshr v1 (7 : Int32)).toInt32 &&& (255 : Int32))), (9, .int ((zf_lshr v1 (16 : Int32)).toInt32 &&& (65535 : Int32))), (10, .int (zf_lshr v1 (32 : Int32)).toInt32), (11, .int ((zf_lshr v1 (16 : Int32)).toInt32 &&& (65535 : Int32))), (12, .int (0 : Int32)), (13, .int x1), (14, .int ((zf_lshr v1 (16 : Int32)).toInt32 &&& (65535 : Int32)))]) [8, 11, 12, 7, 6, 5, 4, 3, 2, 1, 0] rfl ?_
    exact w_Mo_play_107 hl Z  _ _ _ _ _ _ _ _ _ _ _ _ _ hf
  · replace hf := zs_T q hf
    refine zq_aload_n Z d_Mo_play_69 4 rfl ?_
    refine zq_iload Z d_Mo_play_70 1 rfl ?_
    refine zq_lload_n Z d_Mo_play_72 6 rfl ?_
    refine zq_iload Z d_Mo_play_73 2 rfl ?_
    refine zq_iload Z d_Mo_play_75 3 rfl ?_
    refine zq_if_eq Z 85 d_Mo_play_77 (by decide) (fun q => ?_) (fun q => ?_)
    · replace hf := zs_T q hf
      refine zq_iconst Z (0 : Int32) d_Mo_play_85 (by decide) ?_
      refine zq_sub (lo' := []) [] rfl ?_
      show zq_W _ _ 86 _ [.int (0 : Int32), .int ((zf_lshr v1 (7 : Int32)).toInt32 &&& (255 : Int32)), .long v3, .int ((zf_lshr v1 (16 : Int32)).toInt32 &&& (65535 : Int32)), va_rf (some a0)] _ _ _
      exact r_Mo_play_86 hl Z  hf
    · replace hf := zs_N q hf
      refine zq_iload Z d_Mo_play_80 8 rfl ?_
      refine zq_goto Z 86 d_Mo_play_82 (by decide) ?_
      refine zq_sub (lo' := []) [] rfl ?_
      show zq_W _ _ 86 _ [.int v6, .int ((zf_lshr v1 (7 : Int32)).toInt32 &&& (255 : Int32)), .long v3, .int ((zf_lshr v1 (16 : Int32)).toInt32 &&& (65535 : Int32)), va_rf (some a0)] _ _ _
      exact r_Mo_play_86 hl Z  hf
set_option maxHeartbeats 4000000 in
set_option maxRecDepth 100000 in
theorem c_Mo_play {l : Launch} (hl : l.stackTraces = false) {G : zq_G} {a0 : Nat} {v1 : Int64} {v3 : Int64} {S0 T : zq_S} {v : Int32} (hf : f_Mo_play a0 v1 v3 S0 = some (T, v)) : zq_M l y_Mo_play (.code y_Mo_play b_Mo_play 20 (some (.int))) rm_Mo_play G [.ref a0, .long v1, .long v3] S0 ((.inl (some (.int v)) : zq_R)) T := by
  refine zq_Mof (lo := [(0, .ref a0), (1, .long v1), (3, .long v3)]) hl (by decide) (Nat.le_of_ble_eq_true rfl) rfl (fun X Z => ?_)
  have Z : Z_Mo_play l G S0 T v X := Z
  show zq_W (Y_Mo_play l G S0 T v) X 0 [(0, .ref a0), (1, .long v1), (3, .long v3)] [] S0 0 0
  unfold f_Mo_play at hf
  refine zq_lload_n Z d_Mo_play_0 1 rfl ?_
  refine zq_l2i Z d_Mo_play_1 ?_
  refine zq_bipush Z (7 : Int32) d_Mo_play_2 (by decide) ?_
  refine zq_iand Z d_Mo_play_4 ?_
  refine zq_istore Z [(5, .int (v1.toInt32 &&& (7 : Int32))), (0, .ref a0), (1, .long v1), (3, .long v3)] d_Mo_play_5 (by decide) rfl ?_
  refine zq_iconst Z (1 : Int32) d_Mo_play_7 (by decide) ?_
  refine zq_lload_n Z d_Mo_play_8 2 rfl ?_
  refine zq_iconst Z (3 : Int32) d_Mo_play_9 (by decide) ?_
  refine zq_lshr Z d_Mo_play_10 ?_
  refine zq_l2i Z d_Mo_play_11 ?_
  refine zq_bipush Z (7 : Int32) d_Mo_play_12 (by decide) ?_
  refine zq_iand Z d_Mo_play_14 ?_
  refine zq_ishl Z d_Mo_play_15 ?_
  refine zq_istore Z [(6, .int ((1 : Int32) <<< (((zf_lshr v1 (3 : Int32)).toInt32 &&& (7 : Int32)) &&& 31))), (5, .int (v1.toInt32 &&& (7 : Int32))), (0, .ref a0), (1, .long v1), (3, .long v3)] d_Mo_play_16 (by decide) rfl ?_
  refine zq_lload_n Z d_Mo_play_18 3 rfl ?_
  refine zq_bipush Z (6 : Int32) d_Mo_play_19 (by decide) ?_
  refine zq_lshr Z d_Mo_play_21 ?_
  refine zq_lconst Z (1 : Int64) d_Mo_play_22 (by decide) ?_
  refine zq_land Z d_Mo_play_23 ?_
  refine zq_lconst Z (1 : Int64) d_Mo_play_24 (by decide) ?_
  refine zq_lcmp Z d_Mo_play_25 ?_
  refine zq_if_ne Z 33 d_Mo_play_26 (by decide) (fun q => ?_) (fun q => ?_)
  · replace hf := zs_N q hf
    refine zq_iconst Z (0 : Int32) d_Mo_play_33 (by decide) ?_
    refine zq_sub (lo' := [(0, .ref a0), (1, .long v1), (3, .long v3), (5, .int (v1.toInt32 &&& (7 : Int32))), (6, .int ((1 : Int32) <<< (((zf_lshr v1 (3 : Int32)).toInt32 &&& (7 : Int32)) &&& 31)))]) [2, 3, 4, 1, 0] rfl ?_
    exact r_Mo_play_34 hl Z  hf
  · replace hf := zs_T q hf
    refine zq_iconst Z (1 : Int32) d_Mo_play_29 (by decide) ?_
    refine zq_goto Z 34 d_Mo_play_30 (by decide) ?_
    refine zq_sub (lo' := [(0, .ref a0), (1, .long v1), (3, .long v3), (5, .int (v1.toInt32 &&& (7 : Int32))), (6, .int ((1 : Int32) <<< (((zf_lshr v1 (3 : Int32)).toInt32 &&& (7 : Int32)) &&& 31)))]) [2, 3, 4, 1, 0] rfl ?_
    exact r_Mo_play_34 hl Z  hf
