theorem d_CT_count_0 : decode b_CT_count 0 = .ok (.iload_n 1, 1) := by decide +kernel
theorem d_CT_count_1 : decode b_CT_count 1 = .ok (.tableswitch 101 0 6 #[43, 48, 53, 61, 69, 77, 85], 43) := by decide +kernel
theorem d_CT_count_44 : decode b_CT_count 44 = .ok (.aload_n 0, 1) := by decide +kernel
theorem d_CT_count_45 : decode b_CT_count 45 = .ok (.invokevirtual 169, 3) := by decide +kernel
theorem d_CT_count_48 : decode b_CT_count 48 = .ok (.ireturn, 1) := by decide +kernel
theorem d_CT_count_49 : decode b_CT_count 49 = .ok (.aload_n 0, 1) := by decide +kernel
theorem d_CT_count_50 : decode b_CT_count 50 = .ok (.invokevirtual 172, 3) := by decide +kernel
theorem d_CT_count_53 : decode b_CT_count 53 = .ok (.ireturn, 1) := by decide +kernel
theorem d_CT_count_54 : decode b_CT_count 54 = .ok (.aload_n 0, 1) := by decide +kernel
theorem d_CT_count_55 : decode b_CT_count 55 = .ok (.getfield 10, 3) := by decide +kernel
theorem d_CT_count_58 : decode b_CT_count 58 = .ok (.getfield 175, 3) := by decide +kernel
theorem d_CT_count_61 : decode b_CT_count 61 = .ok (.ireturn, 1) := by decide +kernel
theorem d_CT_count_62 : decode b_CT_count 62 = .ok (.aload_n 0, 1) := by decide +kernel
theorem d_CT_count_63 : decode b_CT_count 63 = .ok (.getfield 10, 3) := by decide +kernel
theorem d_CT_count_66 : decode b_CT_count 66 = .ok (.getfield 178, 3) := by decide +kernel
theorem d_CT_count_69 : decode b_CT_count 69 = .ok (.ireturn, 1) := by decide +kernel
theorem d_CT_count_70 : decode b_CT_count 70 = .ok (.aload_n 0, 1) := by decide +kernel
theorem d_CT_count_71 : decode b_CT_count 71 = .ok (.getfield 10, 3) := by decide +kernel
theorem d_CT_count_74 : decode b_CT_count 74 = .ok (.invokevirtual 181, 3) := by decide +kernel
theorem d_CT_count_77 : decode b_CT_count 77 = .ok (.ireturn, 1) := by decide +kernel
theorem d_CT_count_78 : decode b_CT_count 78 = .ok (.aload_n 0, 1) := by decide +kernel
theorem d_CT_count_79 : decode b_CT_count 79 = .ok (.getfield 10, 3) := by decide +kernel
theorem d_CT_count_82 : decode b_CT_count 82 = .ok (.invokevirtual 184, 3) := by decide +kernel
theorem d_CT_count_85 : decode b_CT_count 85 = .ok (.ireturn, 1) := by decide +kernel
theorem d_CT_count_86 : decode b_CT_count 86 = .ok (.aload_n 0, 1) := by decide +kernel
theorem d_CT_count_87 : decode b_CT_count 87 = .ok (.getfield 10, 3) := by decide +kernel
theorem d_CT_count_90 : decode b_CT_count 90 = .ok (.getfield 113, 3) := by decide +kernel
theorem d_CT_count_93 : decode b_CT_count 93 = .ok (.ifCond .eq 7, 3) := by decide +kernel
theorem d_CT_count_96 : decode b_CT_count 96 = .ok (.iconst 1, 1) := by decide +kernel
theorem d_CT_count_97 : decode b_CT_count 97 = .ok (.goto 4, 3) := by decide +kernel
theorem d_CT_count_100 : decode b_CT_count 100 = .ok (.iconst 0, 1) := by decide +kernel
theorem d_CT_count_101 : decode b_CT_count 101 = .ok (.ireturn, 1) := by decide +kernel
theorem d_CT_count_102 : decode b_CT_count 102 = .ok (.iconst (-1), 1) := by decide +kernel
theorem d_CT_count_103 : decode b_CT_count 103 = .ok (.ireturn, 1) := by decide +kernel
def f_CT_count_101  (s0 : Int32) (S : zq_S) : Option (zq_S × Int32) :=
  some (S, s0)
def f_CT_count (a0 : Nat) (v1 : Int32) (S : zq_S) : Option (zq_S × Int32) :=
  if v1 = 0 then
    if zs_is S a0 3 = true then
    zs_b (f_CT_countRuns a0 S) fun S2 x3 =>
    some (S2, x3)
    else none
  else
    if v1 = 1 then
      if zs_is S a0 3 = true then
      zs_b (f_CT_countDifferentMarks a0 S) fun S8 x9 =>
      some (S8, x9)
      else none
    else
      if v1 = 2 then
        (zs_gr S a0 3 0).bind fun x13 =>
        (x13).bind fun a15 =>
        (zs_gi S a15 2 1).bind fun x17 =>
        some (S, x17)
      else
        if v1 = 3 then
          (zs_gr S a0 3 0).bind fun x19 =>
          (x19).bind fun a21 =>
          (zs_gi S a21 2 2).bind fun x23 =>
          some (S, x23)
        else
          if v1 = 4 then
            (zs_gr S a0 3 0).bind fun x25 =>
            (x25).bind fun a27 =>
            if zs_is S a27 2 = true then
            zs_b (f_Hist_weightOfDone a27 S) fun S30 x31 =>
            some (S30, x31)
            else none
          else
            if v1 = 5 then
              (zs_gr S a0 3 0).bind fun x35 =>
              (x35).bind fun a37 =>
              if zs_is S a37 2 = true then
              zs_b (f_Hist_weightOfUndone a37 S) fun S40 x41 =>
              some (S40, x41)
              else none
            else
              if v1 = 6 then
                (zs_gr S a0 3 0).bind fun x45 =>
                (x45).bind fun a47 =>
                (zs_gi S a47 2 3).bind fun x49 =>
                if x49 = 0 then
                  f_CT_count_101  (0 : Int32) S
                else
                  f_CT_count_101  (1 : Int32) S
              else
                some (S, (-1 : Int32))
set_option maxHeartbeats 4000000 in
set_option maxRecDepth 100000 in
theorem r_CT_count_101 {l : Launch} (hl : l.stackTraces = false) {G : zq_G} {S0 T : zq_S} {v : Int32} {X : zq_X} (Z : Z_CT_count l G S0 T v X) {s0 : Int32} {S : zq_S} (hf : f_CT_count_101  s0 S = some (T, v)) : zq_W (Y_CT_count l G S0 T v) X 101 [] [.int s0] S 0 0 := by
  unfold f_CT_count_101 at hf
  exact zq_iret Z d_CT_count_101 (zs_1 hf) (zs_2 (fun z => (.inl (some (.int z)) : zq_R)) hf) ⟨(Nat.le_of_ble_eq_true rfl), (Nat.le_of_ble_eq_true rfl)⟩
set_option maxHeartbeats 4000000 in
set_option maxRecDepth 100000 in
theorem c_CT_count {l : Launch} (hl : l.stackTraces = false) {G : zq_G} {a0 : Nat} {v1 : Int32} {S0 T : zq_S} {v : Int32} (hf : f_CT_count a0 v1 S0 = some (T, v)) : zq_M l y_CT_count (.code y_CT_count b_CT_count 2 (some (.int))) rm_CT_count G [.ref a0, .int v1] S0 ((.inl (some (.int v)) : zq_R)) T := by
  refine zq_Mof (lo := [(0, .ref a0), (1, .int v1)]) hl (by decide) (Nat.le_of_ble_eq_true rfl) rfl (fun X Z => ?_)
  have Z : Z_CT_count l G S0 T v X := Z
  show zq_W (Y_CT_count l G S0 T v) X 0 [(0, .ref a0), (1, .int v1)] [] S0 0 0
  unfold f_CT_count at hf
  refine zq_iload_n Z d_CT_count_0 1 rfl ?_
  by_cases c0 : v1 = 0
  · replace hf := zs_T c0 hf
    refine zq_tabIn (off := 43) Z 44 d_CT_count_1 (by rw [c0]; decide) (by rw [c0]; decide) (by rw [c0]; rfl) (by decide) ?_
    refine zq_aload_n Z d_CT_count_44 0 rfl ?_
    have hq := zs_C hf
    clear hf
    obtain ⟨h4, hf⟩ := hq
    obtain ⟨fs5, e6⟩ := zs_isS h4
    have hq := zs_bS hf
    clear hf
    obtain ⟨S2, x3, h1, hf⟩ := hq
    refine zq_contR (zq_stepV Z zq_cf1 (c_CT_countRuns hl h1) 3 rfl e6 d_CT_count_45 m_254 m_256 m_257 m_255 m_108 p_CT_countRuns ⟨(Nat.le_of_ble_eq_true rfl), (Nat.le_of_ble_eq_true rfl), (Nat.le_of_ble_eq_true rfl), (Nat.le_of_ble_eq_true rfl)⟩ rfl (Nat.le_of_ble_eq_true rfl)) Z.p ?_
    exact zq_iret Z d_CT_count_48 (zs_1 hf) (zs_2 (fun z => (.inl (some (.int z)) : zq_R)) hf) ⟨(Nat.le_of_ble_eq_true rfl), (Nat.le_of_ble_eq_true rfl)⟩
  · replace hf := zs_N c0 hf
    by_cases c1 : v1 = 1
    · replace hf := zs_T c1 hf
      refine zq_tabIn (off := 48) Z 49 d_CT_count_1 (by rw [c1]; decide) (by rw [c1]; decide) (by rw [c1]; rfl) (by decide) ?_
      refine zq_aload_n Z d_CT_count_49 0 rfl ?_
      have hq := zs_C hf
      clear hf
      obtain ⟨h10, hf⟩ := hq
      obtain ⟨fs11, e12⟩ := zs_isS h10
      have hq := zs_bS hf
      clear hf
      obtain ⟨S8, x9, h7, hf⟩ := hq
      refine zq_contR (zq_stepV Z zq_cf1 (c_CT_countDifferentMarks hl h7) 3 rfl e12 d_CT_count_50 m_258 m_260 m_261 m_259 m_108 p_CT_countDifferentMarks ⟨(Nat.le_of_ble_eq_true rfl), (Nat.le_of_ble_eq_true rfl), (Nat.le_of_ble_eq_true rfl), (Nat.le_of_ble_eq_true rfl)⟩ rfl (Nat.le_of_ble_eq_true rfl)) Z.p ?_
      exact zq_iret Z d_CT_count_53 (zs_1 hf) (zs_2 (fun z => (.inl (some (.int z)) : zq_R)) hf) ⟨(Nat.le_of_ble_eq_true rfl), (Nat.le_of_ble_eq_true rfl)⟩
    · replace hf := zs_N c1 hf
      by_cases c2 : v1 = 2
      · replace hf := zs_T c2 hf
        refine zq_tabIn (off := 53) Z 54 d_CT_count_1 (by rw [c2]; decide) (by rw [c2]; decide) (by rw [c2]; rfl) (by decide) ?_
        refine zq_aload_n Z d_CT_count_54 0 rfl ?_
        have hq := Option.bind_eq_some_iff.mp hf
        clear hf
        obtain ⟨x13, h14, hf⟩ := hq
        refine zr_getr Z cd_CT 0 d_CT_count_55 (by decide) m_87 h14 ?_
        have hq := Option.bind_eq_some_iff.mp hf
        clear hf
        obtain ⟨a15, h16, hf⟩ := hq
        subst h16
        have hq := Option.bind_eq_some_iff.mp hf
        clear hf
        obtain ⟨x17, h18, hf⟩ := hq
        refine zr_geti Z cd_Hist 1 d_CT_count_58 (by decide) m_262 h18 ?_
        exact zq_iret Z d_CT_count_61 (zs_1 hf) (zs_2 (fun z => (.inl (some (.int z)) : zq_R)) hf) ⟨(Nat.le_of_ble_eq_true rfl), (Nat.le_of_ble_eq_true rfl)⟩
      · replace hf := zs_N c2 hf
        by_cases c3 : v1 = 3
        · replace hf := zs_T c3 hf
          refine zq_tabIn (off := 61) Z 62 d_CT_count_1 (by rw [c3]; decide) (by rw [c3]; decide) (by rw [c3]; rfl) (by decide) ?_
          refine zq_aload_n Z d_CT_count_62 0 rfl ?_
          have hq := Option.bind_eq_some_iff.mp hf
          clear hf
          obtain ⟨x19, h20, hf⟩ := hq
          refine zr_getr Z cd_CT 0 d_CT_count_63 (by decide) m_87 h20 ?_
          have hq := Option.bind_eq_some_iff.mp hf
          clear hf
          obtain ⟨a21, h22, hf⟩ := hq
          subst h22
          have hq := Option.bind_eq_some_iff.mp hf
          clear hf
          obtain ⟨x23, h24, hf⟩ := hq
          refine zr_geti Z cd_Hist 2 d_CT_count_66 (by decide) m_263 h24 ?_
          exact zq_iret Z d_CT_count_69 (zs_1 hf) (zs_2 (fun z => (.inl (some (.int z)) : zq_R)) hf) ⟨(Nat.le_of_ble_eq_true rfl), (Nat.le_of_ble_eq_true rfl)⟩
        · replace hf := zs_N c3 hf
          by_cases c4 : v1 = 4
          · replace hf := zs_T c4 hf
            refine zq_tabIn (off := 69) Z 70 d_CT_count_1 (by rw [c4]; decide) (by rw [c4]; decide) (by rw [c4]; rfl) (by decide) ?_
            refine zq_aload_n Z d_CT_count_70 0 rfl ?_
            have hq := Option.bind_eq_some_iff.mp hf
            clear hf
            obtain ⟨x25, h26, hf⟩ := hq
            refine zr_getr Z cd_CT 0 d_CT_count_71 (by decide) m_87 h26 ?_
            have hq := Option.bind_eq_some_iff.mp hf
            clear hf
            obtain ⟨a27, h28, hf⟩ := hq
            subst h28
            have hq := zs_C hf
            clear hf
            obtain ⟨h32, hf⟩ := hq
            obtain ⟨fs33, e34⟩ := zs_isS h32
            have hq := zs_bS hf
            clear hf
            obtain ⟨S30, x31, h29, hf⟩ := hq
            refine zq_contR (zq_stepV Z zq_cf1 (c_Hist_weightOfDone hl h29) 2 rfl e34 d_CT_count_74 m_69 m_264 m_72 m_70 m_60 p_Hist_weightOfDone ⟨(Nat.le_of_ble_eq_true rfl), (Nat.le_of_ble_eq_true rfl), (Nat.le_of_ble_eq_true rfl), (Nat.le_of_ble_eq_true rfl)⟩ rfl (Nat.le_of_ble_eq_true rfl)) Z.p ?_
            exact zq_iret Z d_CT_count_77 (zs_1 hf) (zs_2 (fun z => (.inl (some (.int z)) : zq_R)) hf) ⟨(Nat.le_of_ble_eq_true rfl), (Nat.le_of_ble_eq_true rfl)⟩
          · replace hf := zs_N c4 hf
            by_cases c5 : v1 = 5
            · replace hf := zs_T c5 hf
              refine zq_tabIn (off := 77) Z 78 d_CT_count_1 (by rw [c5]; decide) (by rw [c5]; decide) (by rw [c5]; rfl) (by decide) ?_
              refine zq_aload_n Z d_CT_count_78 0 rfl ?_
              have hq := Option.bind_eq_some_iff.mp hf
              clear hf
              obtain ⟨x35, h36, hf⟩ := hq
              refine zr_getr Z cd_CT 0 d_CT_count_79 (by decide) m_87 h36 ?_
              have hq := Option.bind_eq_some_iff.mp hf
              clear hf
              obtain ⟨a37, h38, hf⟩ := hq
              subst h38
              have hq := zs_C hf
              clear hf
              obtain ⟨h42, hf⟩ := hq
              obtain ⟨fs43, e44⟩ := zs_isS h42
              have hq := zs_bS hf
              clear hf
              obtain ⟨S40, x41, h39, hf⟩ := hq
              refine zq_contR (zq_stepV Z zq_cf1 (c_Hist_weightOfUndone hl h39) 2 rfl e44 d_CT_count_82 m_265 m_267 m_268 m_266 m_60 p_Hist_weightOfUndone ⟨(Nat.le_of_ble_eq_true rfl), (Nat.le_of_ble_eq_true rfl), (Nat.le_of_ble_eq_true rfl), (Nat.le_of_ble_eq_true rfl)⟩ rfl (Nat.le_of_ble_eq_true rfl)) Z.p ?_
              exact zq_iret Z d_CT_count_85 (zs_1 hf) (zs_2 (fun z => (.inl (some (.int z)) : zq_R)) hf) ⟨(Nat.le_of_ble_eq_true rfl), (Nat.le_of_ble_eq_true rfl)⟩
            · replace hf := zs_N c5 hf
              by_cases c6 : v1 = 6
              · replace hf := zs_T c6 hf
                refine zq_tabIn (off := 85) Z 86 d_CT_count_1 (by rw [c6]; decide) (by rw [c6]; decide) (by rw [c6]; rfl) (by decide) ?_
                refine zq_aload_n Z d_CT_count_86 0 rfl ?_
                have hq := Option.bind_eq_some_iff.mp hf
                clear hf
                obtain ⟨x45, h46, hf⟩ := hq
                refine zr_getr Z cd_CT 0 d_CT_count_87 (by decide) m_87 h46 ?_
                have hq := Option.bind_eq_some_iff.mp hf
                clear hf
                obtain ⟨a47, h48, hf⟩ := hq
                subst h48
                have hq := Option.bind_eq_some_iff.mp hf
                clear hf
                obtain ⟨x49, h50, hf⟩ := hq
                refine zr_geti Z cd_Hist 3 d_CT_count_90 (by decide) m_125 h50 ?_
                refine zq_if_eq Z 100 d_CT_count_93 (by decide) (fun q => ?_) (fun q => ?_)
                · replace hf := zs_T q hf
                  refine zq_iconst Z (0 : Int32) d_CT_count_100 (by decide) ?_
                  refine zq_sub (lo' := []) [] rfl ?_
                  exact r_CT_count_101 hl Z  hf
                · replace hf := zs_N q hf
                  refine zq_iconst Z (1 : Int32) d_CT_count_96 (by decide) ?_
                  refine zq_goto Z 101 d_CT_count_97 (by decide) ?_
                  refine zq_sub (lo' := []) [] rfl ?_
                  exact r_CT_count_101 hl Z  hf
              · replace hf := zs_N c6 hf
                have hsw := zq_swOut (x := v1) 7 (by decide) (fun k hk => by
                  have hk : k = 0 ∨ k = 1 ∨ k = 2 ∨ k = 3 ∨ k = 4 ∨ k = 5 ∨ k = 6 := by omega
                  rcases hk with rfl | rfl | rfl | rfl | rfl | rfl | rfl
                  · exact c0
                  · exact c1
                  · exact c2
                  · exact c3
                  · exact c4
                  · exact c5
                  · exact c6)
                refine zq_tabOut Z 102 d_CT_count_1 (by omega) (by decide) ?_
                refine zq_iconst Z (-1 : Int32) d_CT_count_102 (by decide) ?_
                exact zq_iret Z d_CT_count_103 (zs_1 hf) (zs_2 (fun z => (.inl (some (.int z)) : zq_R)) hf) ⟨(Nat.le_of_ble_eq_true rfl), (Nat.le_of_ble_eq_true rfl)⟩
