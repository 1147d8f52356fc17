theorem d_Mo_count_0 : decode b_Mo_count 0 = .ok (.aload_n 0, 1) := by decide +kernel
theorem d_Mo_count_1 : decode b_Mo_count 1 = .ok (.iconst 0, 1) := by decide +kernel
theorem d_Mo_count_2 : decode b_Mo_count 2 = .ok (.putfield 35, 3) := by decide +kernel
theorem d_Mo_count_5 : decode b_Mo_count 5 = .ok (.iload_n 1, 1) := by decide +kernel
theorem d_Mo_count_6 : decode b_Mo_count 6 = .ok (.tableswitch 105 0 6 #[42, 48, 54, 59, 69, 79, 92], 42) := by decide +kernel
theorem d_Mo_count_48 : decode b_Mo_count 48 = .ok (.aload_n 0, 1) := by decide +kernel
theorem d_Mo_count_49 : decode b_Mo_count 49 = .ok (.iconst 1, 1) := by decide +kernel
theorem d_Mo_count_50 : decode b_Mo_count 50 = .ok (.invokevirtual 165, 3) := by decide +kernel
theorem d_Mo_count_53 : decode b_Mo_count 53 = .ok (.ireturn, 1) := by decide +kernel
theorem d_Mo_count_54 : decode b_Mo_count 54 = .ok (.aload_n 0, 1) := by decide +kernel
theorem d_Mo_count_55 : decode b_Mo_count 55 = .ok (.iconst 0, 1) := by decide +kernel
theorem d_Mo_count_56 : decode b_Mo_count 56 = .ok (.invokevirtual 165, 3) := by decide +kernel
theorem d_Mo_count_59 : decode b_Mo_count 59 = .ok (.ireturn, 1) := by decide +kernel
theorem d_Mo_count_60 : decode b_Mo_count 60 = .ok (.aload_n 0, 1) := by decide +kernel
theorem d_Mo_count_61 : decode b_Mo_count 61 = .ok (.getfield 84, 3) := by decide +kernel
theorem d_Mo_count_64 : decode b_Mo_count 64 = .ok (.ireturn, 1) := by decide +kernel
theorem d_Mo_count_65 : decode b_Mo_count 65 = .ok (.aload_n 0, 1) := by decide +kernel
theorem d_Mo_count_66 : decode b_Mo_count 66 = .ok (.getfield 87, 3) := by decide +kernel
theorem d_Mo_count_69 : decode b_Mo_count 69 = .ok (.aload_n 0, 1) := by decide +kernel
theorem d_Mo_count_70 : decode b_Mo_count 70 = .ok (.getfield 84, 3) := by decide +kernel
theorem d_Mo_count_73 : decode b_Mo_count 73 = .ok (.isub, 1) := by decide +kernel
theorem d_Mo_count_74 : decode b_Mo_count 74 = .ok (.ireturn, 1) := by decide +kernel
theorem d_Mo_count_75 : decode b_Mo_count 75 = .ok (.aload_n 0, 1) := by decide +kernel
theorem d_Mo_count_76 : decode b_Mo_count 76 = .ok (.iconst 0, 1) := by decide +kernel
theorem d_Mo_count_77 : decode b_Mo_count 77 = .ok (.aload_n 0, 1) := by decide +kernel
theorem d_Mo_count_78 : decode b_Mo_count 78 = .ok (.getfield 84, 3) := by decide +kernel
theorem d_Mo_count_81 : decode b_Mo_count 81 = .ok (.invokevirtual 115, 3) := by decide +kernel
theorem d_Mo_count_84 : decode b_Mo_count 84 = .ok (.ireturn, 1) := by decide +kernel
theorem d_Mo_count_85 : decode b_Mo_count 85 = .ok (.aload_n 0, 1) := by decide +kernel
theorem d_Mo_count_86 : decode b_Mo_count 86 = .ok (.aload_n 0, 1) := by decide +kernel
theorem d_Mo_count_87 : decode b_Mo_count 87 = .ok (.getfield 84, 3) := by decide +kernel
theorem d_Mo_count_90 : decode b_Mo_count 90 = .ok (.aload_n 0, 1) := by decide +kernel
theorem d_Mo_count_91 : decode b_Mo_count 91 = .ok (.getfield 87, 3) := by decide +kernel
theorem d_Mo_count_94 : decode b_Mo_count 94 = .ok (.invokevirtual 115, 3) := by decide +kernel
theorem d_Mo_count_97 : decode b_Mo_count 97 = .ok (.ireturn, 1) := by decide +kernel
theorem d_Mo_count_98 : decode b_Mo_count 98 = .ok (.aload_n 0, 1) := by decide +kernel
theorem d_Mo_count_99 : decode b_Mo_count 99 = .ok (.getfield 130, 3) := by decide +kernel
theorem d_Mo_count_102 : decode b_Mo_count 102 = .ok (.ifCond .eq 7, 3) := by decide +kernel
theorem d_Mo_count_105 : decode b_Mo_count 105 = .ok (.iconst 1, 1) := by decide +kernel
theorem d_Mo_count_106 : decode b_Mo_count 106 = .ok (.goto 4, 3) := by decide +kernel
theorem d_Mo_count_109 : decode b_Mo_count 109 = .ok (.iconst 0, 1) := by decide +kernel
theorem d_Mo_count_110 : decode b_Mo_count 110 = .ok (.ireturn, 1) := by decide +kernel
theorem d_Mo_count_111 : decode b_Mo_count 111 = .ok (.iconst (-1), 1) := by decide +kernel
theorem d_Mo_count_112 : decode b_Mo_count 112 = .ok (.ireturn, 1) := by decide +kernel
def f_Mo_count_110  (s0 : Int32) (S : zq_S) : Option (zq_S × Int32) :=
  some (S, s0)
def f_Mo_count (a0 : Nat) (v1 : Int32) (S : zq_S) : Option (zq_S × Int32) :=
  (zs_p S a0 4 0 (.int (0 : Int32))).bind fun S1 =>
  if v1 = 0 then
    if zs_is S1 a0 4 = true then
    zs_b (f_Mo_marks a0 (1 : Int32) S1) fun S4 x5 =>
    some (S4, x5)
    else none
  else
    if v1 = 1 then
      if zs_is S1 a0 4 = true then
      zs_b (f_Mo_marks a0 (0 : Int32) S1) fun S10 x11 =>
      some (S10, x11)
      else none
    else
      if v1 = 2 then
        (zs_gi S1 a0 4 12).bind fun x15 =>
        some (S1, x15)
      else
        if v1 = 3 then
          (zs_gi S1 a0 4 13).bind fun x17 =>
          (zs_gi S1 a0 4 12).bind fun x19 =>
          some (S1, (x17 - x19))
        else
          if v1 = 4 then
            (zs_gi S1 a0 4 12).bind fun x21 =>
            if zs_is S1 a0 4 = true then
            zs_b (f_Mo_weightOf a0 (0 : Int32) x21 S1) fun S24 x25 =>
            some (S24, x25)
            else none
          else
            if v1 = 5 then
              (zs_gi S1 a0 4 12).bind fun x29 =>
              (zs_gi S1 a0 4 13).bind fun x31 =>
              if zs_is S1 a0 4 = true then
              zs_b (f_Mo_weightOf a0 x29 x31 S1) fun S34 x35 =>
              some (S34, x35)
              else none
            else
              if v1 = 6 then
                (zs_gi S1 a0 4 17).bind fun x39 =>
                if x39 = 0 then
                  f_Mo_count_110  (0 : Int32) S1
                else
                  f_Mo_count_110  (1 : Int32) S1
              else
                some (S1, (-1 : Int32))
set_option maxHeartbeats 4000000 in
set_option maxRecDepth 100000 in
theorem r_Mo_count_110 {l : Launch} (hl : l.stackTraces = false) {G : zq_G} {S0 T : zq_S} {v : Int32} {X : zq_X} (Z : Z_Mo_count l G S0 T v X) {s0 : Int32} {S : zq_S} (hf : f_Mo_count_110  s0 S = some (T, v)) : zq_W (Y_Mo_count l G S0 T v) X 110 [] [.int s0] S 0 0 := by
  unfold f_Mo_count_110 at hf
  exact zq_iret Z d_Mo_count_110 (zs_1 hf) (zs_2 (fun z => (.inl (some (.int z)) : zq_R)) hf) ⟨(Nat.le_of_ble_eq_true rfl), (Nat.le_of_ble_eq_true rfl)⟩
set_option maxHeartbeats 4000000 in
set_option maxRecDepth 100000 in
theorem c_Mo_count {l : Launch} (hl : l.stackTraces = false) {G : zq_G} {a0 : Nat} {v1 : Int32} {S0 T : zq_S} {v : Int32} (hf : f_Mo_count a0 v1 S0 = some (T, v)) : zq_M l y_Mo_count (.code y_Mo_count b_Mo_count 2 (some (.int))) rm_Mo_count G [.ref a0, .int v1] S0 ((.inl (some (.int v)) : zq_R)) T := by
  refine zq_Mof (lo := [(0, .ref a0), (1, .int v1)]) hl (by decide) (Nat.le_of_ble_eq_true rfl) rfl (fun X Z => ?_)
  have Z : Z_Mo_count l G S0 T v X := Z
  show zq_W (Y_Mo_count l G S0 T v) X 0 [(0, .ref a0), (1, .int v1)] [] S0 0 0
  unfold f_Mo_count at hf
  refine zq_aload_n Z d_Mo_count_0 0 rfl ?_
  refine zq_iconst Z (0 : Int32) d_Mo_count_1 (by decide) ?_
  have hq := Option.bind_eq_some_iff.mp hf
  clear hf
  obtain ⟨S1, h2, hf⟩ := hq
  refine zr_puti Z cd_Mo 0 d_Mo_count_2 (by decide) m_279 rfl (by decide +kernel) h2 ?_
  refine zq_iload_n Z d_Mo_count_5 1 rfl ?_
  by_cases c0 : v1 = 0
  · replace hf := zs_T c0 hf
    refine zq_tabIn (off := 42) Z 48 d_Mo_count_6 (by rw [c0]; decide) (by rw [c0]; decide) (by rw [c0]; rfl) (by decide) ?_
    refine zq_aload_n Z d_Mo_count_48 0 rfl ?_
    refine zq_iconst Z (1 : Int32) d_Mo_count_49 (by decide) ?_
    have hq := zs_C hf
    clear hf
    obtain ⟨h6, hf⟩ := hq
    obtain ⟨fs7, e8⟩ := zs_isS h6
    have hq := zs_bS hf
    clear hf
    obtain ⟨S4, x5, h3, hf⟩ := hq
    refine zq_contR (zq_stepV Z zq_cf1 (c_Mo_marks hl h3) 4 rfl e8 d_Mo_count_50 m_385 m_387 m_388 m_386 m_286 p_Mo_marks ⟨(Nat.le_of_ble_eq_true rfl), (Nat.le_of_ble_eq_true rfl), (Nat.le_of_ble_eq_true rfl), (Nat.le_of_ble_eq_true rfl)⟩ rfl (Nat.le_of_ble_eq_true rfl)) Z.p ?_
    exact zq_iret Z d_Mo_count_53 (zs_1 hf) (zs_2 (fun z => (.inl (some (.int z)) : zq_R)) hf) ⟨(Nat.le_of_ble_eq_true rfl), (Nat.le_of_ble_eq_true rfl)⟩
  · replace hf := zs_N c0 hf
    by_cases c1 : v1 = 1
    · replace hf := zs_T c1 hf
      refine zq_tabIn (off := 48) Z 54 d_Mo_count_6 (by rw [c1]; decide) (by rw [c1]; decide) (by rw [c1]; rfl) (by decide) ?_
      refine zq_aload_n Z d_Mo_count_54 0 rfl ?_
      refine zq_iconst Z (0 : Int32) d_Mo_count_55 (by decide) ?_
      have hq := zs_C hf
      clear hf
      obtain ⟨h12, hf⟩ := hq
      obtain ⟨fs13, e14⟩ := zs_isS h12
      have hq := zs_bS hf
      clear hf
      obtain ⟨S10, x11, h9, hf⟩ := hq
      refine zq_contR (zq_stepV Z zq_cf1 (c_Mo_marks hl h9) 4 rfl e14 d_Mo_count_56 m_385 m_387 m_388 m_386 m_286 p_Mo_marks ⟨(Nat.le_of_ble_eq_true rfl), (Nat.le_of_ble_eq_true rfl), (Nat.le_of_ble_eq_true rfl), (Nat.le_of_ble_eq_true rfl)⟩ rfl (Nat.le_of_ble_eq_true rfl)) Z.p ?_
      exact zq_iret Z d_Mo_count_59 (zs_1 hf) (zs_2 (fun z => (.inl (some (.int z)) : zq_R)) hf) ⟨(Nat.le_of_ble_eq_true rfl), (Nat.le_of_ble_eq_true rfl)⟩
    · replace hf := zs_N c1 hf
      by_cases c2 : v1 = 2
      · replace hf := zs_T c2 hf
        refine zq_tabIn (off := 54) Z 60 d_Mo_count_6 (by rw [c2]; decide) (by rw [c2]; decide) (by rw [c2]; rfl) (by decide) ?_
        refine zq_aload_n Z d_Mo_count_60 0 rfl ?_
        have hq := Option.bind_eq_some_iff.mp hf
        clear hf
        obtain ⟨x15, h16, hf⟩ := hq
        refine zr_geti Z cd_Mo 12 d_Mo_count_61 (by decide) m_308 h16 ?_
        exact zq_iret Z d_Mo_count_64 (zs_1 hf) (zs_2 (fun z => (.inl (some (.int z)) : zq_R)) hf) ⟨(Nat.le_of_ble_eq_true rfl), (Nat.le_of_ble_eq_true rfl)⟩
      · replace hf := zs_N c2 hf
        by_cases c3 : v1 = 3
        · replace hf := zs_T c3 hf
          refine zq_tabIn (off := 59) Z 65 d_Mo_count_6 (by rw [c3]; decide) (by rw [c3]; decide) (by rw [c3]; rfl) (by decide) ?_
          refine zq_aload_n Z d_Mo_count_65 0 rfl ?_
          have hq := Option.bind_eq_some_iff.mp hf
          clear hf
          obtain ⟨x17, h18, hf⟩ := hq
          refine zr_geti Z cd_Mo 13 d_Mo_count_66 (by decide) m_309 h18 ?_
          refine zq_aload_n Z d_Mo_count_69 0 rfl ?_
          have hq := Option.bind_eq_some_iff.mp hf
          clear hf
          obtain ⟨x19, h20, hf⟩ := hq
          refine zr_geti Z cd_Mo 12 d_Mo_count_70 (by decide) m_308 h20 ?_
          refine zq_isub Z d_Mo_count_73 ?_
          exact zq_iret Z d_Mo_count_74 (zs_1 hf) (zs_2 (fun z => (.inl (some (.int z)) : zq_R)) hf) ⟨(Nat.le_of_ble_eq_true rfl), (Nat.le_of_ble_eq_true rfl)⟩
        · replace hf := zs_N c3 hf
          by_cases c4 : v1 = 4
          · replace hf := zs_T c4 hf
            refine zq_tabIn (off := 69) Z 75 d_Mo_count_6 (by rw [c4]; decide) (by rw [c4]; decide) (by rw [c4]; rfl) (by decide) ?_
            refine zq_aload_n Z d_Mo_count_75 0 rfl ?_
            refine zq_iconst Z (0 : Int32) d_Mo_count_76 (by decide) ?_
            refine zq_aload_n Z d_Mo_count_77 0 rfl ?_
            have hq := Option.bind_eq_some_iff.mp hf
            clear hf
            obtain ⟨x21, h22, hf⟩ := hq
            refine zr_geti Z cd_Mo 12 d_Mo_count_78 (by decide) m_308 h22 ?_
            have hq := zs_C hf
            clear hf
            obtain ⟨h26, hf⟩ := hq
            obtain ⟨fs27, e28⟩ := zs_isS h26
            have hq := zs_bS hf
            clear hf
            obtain ⟨S24, x25, h23, hf⟩ := hq
            refine zq_contR (zq_stepV Z zq_cf1 (c_Mo_weightOf hl h23) 4 rfl e28 d_Mo_count_81 m_331 m_333 m_334 m_332 m_286 p_Mo_weightOf ⟨(Nat.le_of_ble_eq_true rfl), (Nat.le_of_ble_eq_true rfl), (Nat.le_of_ble_eq_true rfl), (Nat.le_of_ble_eq_true rfl)⟩ rfl (Nat.le_of_ble_eq_true rfl)) Z.p ?_
            exact zq_iret Z d_Mo_count_84 (zs_1 hf) (zs_2 (fun z => (.inl (some (.int z)) : zq_R)) hf) ⟨(Nat.le_of_ble_eq_true rfl), (Nat.le_of_ble_eq_true rfl)⟩
          · replace hf := zs_N c4 hf
            by_cases c5 : v1 = 5
            · replace hf := zs_T c5 hf
              refine zq_tabIn (off := 79) Z 85 d_Mo_count_6 (by rw [c5]; decide) (by rw [c5]; decide) (by rw [c5]; rfl) (by decide) ?_
              refine zq_aload_n Z d_Mo_count_85 0 rfl ?_
              refine zq_aload_n Z d_Mo_count_86 0 rfl ?_
              have hq := Option.bind_eq_some_iff.mp hf
              clear hf
              obtain ⟨x29, h30, hf⟩ := hq
              refine zr_geti Z cd_Mo 12 d_Mo_count_87 (by decide) m_308 h30 ?_
              refine zq_aload_n Z d_Mo_count_90 0 rfl ?_
              have hq := Option.bind_eq_some_iff.mp hf
              clear hf
              obtain ⟨x31, h32, hf⟩ := hq
              refine zr_geti Z cd_Mo 13 d_Mo_count_91 (by decide) m_309 h32 ?_
              have hq := zs_C hf
              clear hf
              obtain ⟨h36, hf⟩ := hq
              obtain ⟨fs37, e38⟩ := zs_isS h36
              have hq := zs_bS hf
              clear hf
              obtain ⟨S34, x35, h33, hf⟩ := hq
              refine zq_contR (zq_stepV Z zq_cf1 (c_Mo_weightOf hl h33) 4 rfl e38 d_Mo_count_94 m_331 m_333 m_334 m_332 m_286 p_Mo_weightOf ⟨(Nat.le_of_ble_eq_true rfl), (Nat.le_of_ble_eq_true rfl), (Nat.le_of_ble_eq_true rfl), (Nat.le_of_ble_eq_true rfl)⟩ rfl (Nat.le_of_ble_eq_true rfl)) Z.p ?_
              exact zq_iret Z d_Mo_count_97 (zs_1 hf) (zs_2 (fun z => (.inl (some (.int z)) : zq_R)) hf) ⟨(Nat.le_of_ble_eq_true rfl), (Nat.le_of_ble_eq_true rfl)⟩
            · replace hf := zs_N c5 hf
              by_cases c6 : v1 = 6
              · replace hf := zs_T c6 hf
                refine zq_tabIn (off := 92) Z 98 d_Mo_count_6 (by rw [c6]; decide) (by rw [c6]; decide) (by rw [c6]; rfl) (by decide) ?_
                refine zq_aload_n Z d_Mo_count_98 0 rfl ?_
                have hq := Option.bind_eq_some_iff.mp hf
                clear hf
                obtain ⟨x39, h40, hf⟩ := hq
                refine zr_geti Z cd_Mo 17 d_Mo_count_99 (by decide) m_341 h40 ?_
                refine zq_if_eq Z 109 d_Mo_count_102 (by decide) (fun q => ?_) (fun q => ?_)
                · replace hf := zs_T q hf
                  refine zq_iconst Z (0 : Int32) d_Mo_count_109 (by decide) ?_
                  refine zq_sub (lo' := []) [] rfl ?_
                  exact r_Mo_count_110 hl Z  hf
                · replace hf := zs_N q hf
                  refine zq_iconst Z (1 : Int32) d_Mo_count_105 (by decide) ?_
                  refine zq_goto Z 110 d_Mo_count_106 (by decide) ?_
                  refine zq_sub (lo' := []) [] rfl ?_
                  exact r_Mo_count_110 hl Z  hf
              · replace hf := zs_N c6 hf
                have hsw := zq_swOut (x := v1) 7 (by decide) (fun k hk => by
                  have hk : k = 0 ∨ k = 1 ∨ k = 2 ∨ k = 3 ∨ k = 4 ∨ k = 5 ∨ k = 6 := by omega
                  rcases hk with rfl | rfl | rfl | rfl | rfl | rfl | rfl
                  · exact c0
                  · exact c1
                  · exact c2
                  · exact c3
                  · exact c4
                  · exact c5
                  · exact c6)
                refine zq_tabOut Z 111 d_Mo_count_6 (by omega) (by decide) ?_
                refine zq_iconst Z (-1 : Int32) d_Mo_count_111 (by decide) ?_
                exact zq_iret Z d_Mo_count_112 (zs_1 hf) (zs_2 (fun z => (.inl (some (.int z)) : zq_R)) hf) ⟨(Nat.le_of_ble_eq_true rfl), (Nat.le_of_ble_eq_true rfl)⟩
