/-! .. -/
set_option maxRecDepth 20000 in
set_option maxHeartbeats 4000000 in
theorem RX0_trickToTry_14 {Z : kv_Z} (e : Nat) {N : Nat} {G : kg_G} : ∀ (n : Nat) (a0 : Nat) (l1 : Int32) (l2 : Int32) (l3 : Int32) (l4 : Int32) (res : Int32), fX0_trickToTry_14 N G n a0 l1 l2 l3 l4 = some res → kv_V Z (e + 2) kMX0_trickToTry 14 [some (.ref a0), some (.int l1), some (.int l2), some (.int l3), some (.int l4), none, none] [] (kg_w G) (some (.int res)) (kg_w G) := by
  intro n
  induction n with
  | zero => intro a0 l1 l2 l3 l4 res h; exact absurd h (by intro z; cases z)
  | succ n ih =>
    intro a0 l1 l2 l3 l4 res h
    have hk14 := ih
    rw [fX0_trickToTry_14] at h
    refine kr_iload dX0_trickToTry_14 rfl ?_
    refine kr_aload_n dX0_trickToTry_16 rfl ?_
    obtain ⟨v1, hv1, h⟩ := Option.bind_eq_some_iff.mp h
    refine kx_bt hv1 kw1_177 dX0_trickToTry_17 ?_
    obtain ⟨v2, hv2, h⟩ := Option.bind_eq_some_iff.mp h
    refine kx_tl hv2 dX0_trickToTry_20 ?_
    refine kr_icmp_ge (tgt := 75) dX0_trickToTry_21 rfl (fun c21 => ?_) (fun c21 => ?_)
    · rw [if_pos c21] at h
      refine kr_iload_n dX0_trickToTry_75 rfl ?_
      cases h
      exact kr_iret rfl dX0_trickToTry_76
    · rw [if_neg c21] at h
      refine kr_aload_n dX0_trickToTry_24 rfl ?_
      obtain ⟨v3, hv3, h⟩ := Option.bind_eq_some_iff.mp h
      refine kx_bt hv3 kw1_177 dX0_trickToTry_25 ?_
      refine kr_iload dX0_trickToTry_28 rfl ?_
      obtain ⟨v4, hv4, h⟩ := Option.bind_eq_some_iff.mp h
      obtain ⟨v5, hv5, h⟩ := Option.bind_eq_some_iff.mp h
      refine kx_ta hv4 hv5 dX0_trickToTry_30 ?_
      obtain ⟨v6, hv6, h⟩ := Option.bind_eq_some_iff.mp h
      refine kt_suitedStrongs (st := []) (e + 0) hv6 kw3_108 (Nat.le_of_ble_eq_true rfl) dX0_trickToTry_31 ?_
      refine kr_istore (ls' := [some (.ref a0), some (.int l1), some (.int l2), some (.int l3), some (.int l4), some (.int (tk_suitedStrongs v6)), none]) dX0_trickToTry_34 (Nat.le_of_ble_eq_true rfl) rfl ?_
      refine kr_iload_n dX0_trickToTry_36 rfl ?_
      refine kr_iload dX0_trickToTry_37 rfl ?_
      refine kr_iand dX0_trickToTry_39 ?_
      refine kr_callSi (M' := kMJ6_bitCount_0f7a4) (As := [.int (l1 &&& (tk_suitedStrongs v6))]) (st := []) (RJ6_bitCount_0f7a4 (e + 1) rfl) koJ6_bitCount_0f7a4 rfl kw3_8 kw3_9 rfl (Nat.le_of_ble_eq_true rfl) dX0_trickToTry_40 ?_
      refine kr_iload_n dX0_trickToTry_43 rfl ?_
      refine kr_iload dX0_trickToTry_44 rfl ?_
      refine kr_iconst (v := (-1)) dX0_trickToTry_46 (by decide) ?_
      refine kr_ixor dX0_trickToTry_47 ?_
      refine kr_iand dX0_trickToTry_48 ?_
      refine kr_callSi (M' := kMJ6_bitCount_0f7a4) (As := [.int (l1 &&& ((tk_suitedStrongs v6) ^^^ (-1)))]) (st := [.int (fJ6_bitCount_0f7a4 (l1 &&& (tk_suitedStrongs v6)))]) (RJ6_bitCount_0f7a4 (e + 1) rfl) koJ6_bitCount_0f7a4 rfl kw3_8 kw3_9 rfl (Nat.le_of_ble_eq_true rfl) dX0_trickToTry_49 ?_
      refine kr_callSi (M' := kMJ9_max_7cf53) (As := [.int (fJ6_bitCount_0f7a4 (l1 &&& (tk_suitedStrongs v6))), .int (fJ6_bitCount_0f7a4 (l1 &&& ((tk_suitedStrongs v6) ^^^ (-1))))]) (st := []) (RJ9_max_7cf53 (e + 1) rfl) koJ9_max_7cf53 rfl kw3_118 kw2_52 rfl (Nat.le_of_ble_eq_true rfl) dX0_trickToTry_52 ?_
      refine kr_istore (ls' := [some (.ref a0), some (.int l1), some (.int l2), some (.int l3), some (.int l4), some (.int (tk_suitedStrongs v6)), some (.int (fJ9_max_7cf53 (fJ6_bitCount_0f7a4 (l1 &&& (tk_suitedStrongs v6))) (fJ6_bitCount_0f7a4 (l1 &&& ((tk_suitedStrongs v6) ^^^ (-1))))))]) dX0_trickToTry_55 (Nat.le_of_ble_eq_true rfl) rfl ?_
      refine kv_loc (ls' := [some (.ref a0), some (.int l1), some (.int l2), some (.int l3), some (.int l4), none, some (.int (fJ9_max_7cf53 (fJ6_bitCount_0f7a4 (l1 &&& (tk_suitedStrongs v6))) (fJ6_bitCount_0f7a4 (l1 &&& ((tk_suitedStrongs v6) ^^^ (-1))))))]) (And.intro rfl (And.intro rfl (And.intro rfl (And.intro rfl (And.intro rfl (And.intro rfl trivial)))))) ?_
      exact RX0_trickToTry_57 e hk14 _ _ _ _ _ _ _ h
set_option maxRecDepth 20000 in
set_option maxHeartbeats 4000000 in
theorem RX0_trickToTry {Z : kv_Z} (e : Nat) {N : Nat} {G : kg_G} {a0 : Nat} {l1 : Int32} {res : Int32} (h : fX0_trickToTry N G a0 l1 = some res) : kv_M Z (e + 2) kMX0_trickToTry [.ref a0, .int l1] (kg_w G) (some (.int res)) (kg_w G) := by
  refine kv_M_of (ls := [some (.ref a0), some (.int l1), none, none, none, none, none]) (by decide) (Nat.le_of_ble_eq_true rfl) rfl ?_
  unfold fX0_trickToTry at h
  refine kr_iload_n dX0_trickToTry_0 rfl ?_
  refine kr_if_ne (tgt := 6) dX0_trickToTry_1 rfl (fun c1 => ?_) (fun c1 => ?_)
  · rw [if_pos c1] at h
    refine kr_iconst (v := (-1)) dX0_trickToTry_4 (by decide) ?_
    cases h
    exact kr_iret rfl dX0_trickToTry_5
  · rw [if_neg c1] at h
    refine kr_iconst (v := (-1)) dX0_trickToTry_6 (by decide) ?_
    refine kr_istore_n (i := 2) (ls' := [some (.ref a0), some (.int l1), some (.int (-1)), none, none, none, none]) dX0_trickToTry_7 rfl (Nat.le_of_ble_eq_true rfl) rfl ?_
    refine kr_bipush (v := 11) dX0_trickToTry_8 (by decide) ?_
    refine kr_istore_n (i := 3) (ls' := [some (.ref a0), some (.int l1), some (.int (-1)), some (.int 11), none, none, none]) dX0_trickToTry_10 rfl (Nat.le_of_ble_eq_true rfl) rfl ?_
    refine kr_iconst (v := 0) dX0_trickToTry_11 (by decide) ?_
    refine kr_istore (ls' := [some (.ref a0), some (.int l1), some (.int (-1)), some (.int 11), some (.int 0), none, none]) dX0_trickToTry_12 (Nat.le_of_ble_eq_true rfl) rfl ?_
    exact RX0_trickToTry_14 e N _ _ _ _ _ _ h
set_option maxRecDepth 20000 in
set_option maxHeartbeats 4000000 in
theorem RX10_person {Z : kv_Z} (e : Nat) {N : Nat} {G : kg_G} {l1 : Int32} {l2 : Int32} {res : Int32} (h : fX10_person N G l1 l2 = some res) : kv_M Z (e + 3) kMX10_person [.ref 0, .int l1, .int l2] (kg_w G) (some (.int res)) (kg_w G) := by
  refine kv_M_of (ls := [some (.ref 0), some (.int l1), some (.int l2), none]) (by decide) (Nat.le_of_ble_eq_true rfl) rfl ?_
  unfold fX10_person at h
  refine kr_aload_n dX10_person_0 rfl ?_
  refine kr_iload_n dX10_person_1 rfl ?_
  obtain ⟨v1, hv1, h⟩ := Option.bind_eq_some_iff.mp h
  refine kr_callVi (M' := kMX10_isNumber) (a := 0) (As := [.int l1]) (st := []) (RX10_isNumber (e + 2) hv1) koX10_isNumber rfl rfl rfl kw3_87 kw3_89 kws_2 rfl (Nat.le_of_ble_eq_true rfl) dX10_person_2 ?_
  refine kr_if_ne (tgt := 11) dX10_person_5 rfl (fun c5 => ?_) (fun c5 => ?_)
  · rw [if_pos c5] at h
    refine kr_bipush (v := (-101)) dX10_person_8 (by decide) ?_
    cases h
    exact kr_iret rfl dX10_person_10
  · rw [if_neg c5] at h
    refine kr_aload_n dX10_person_11 rfl ?_
    refine kx_g0_1 kw1_189 dX10_person_12 ?_
    refine kx_g3_6 (G.1 3 6) rfl kw1_65 dX10_person_15 ?_
    refine kr_iload_n dX10_person_18 rfl ?_
    refine kr_callSi (M' := kMX10_has) (As := [.int (G.1 3 6), .int l1]) (st := []) (RX10_has (e + 2) rfl) koX10_has rfl kw3_91 kw3_16 rfl (Nat.le_of_ble_eq_true rfl) dX10_person_19 ?_
    refine kr_istore_n (i := 3) (ls' := [some (.ref 0), some (.int l1), some (.int l2), some (.int (fX10_has (G.1 3 6) l1))]) dX10_person_22 rfl (Nat.le_of_ble_eq_true rfl) rfl ?_
    refine kr_iload_n dX10_person_23 rfl ?_
    by_cases c24_0 : l2 = 0
    · rw [if_pos c24_0] at h
      refine kr_tableIn (off := 48) (tgt := 72) dX10_person_24 (by rw [c24_0]; decide) (by rw [c24_0]; decide) (by rw [c24_0]; decide) rfl ?_
      refine kr_iload_n dX10_person_72 rfl ?_
      refine kr_if_eq (tgt := 88) dX10_person_73 rfl (fun c73 => ?_) (fun c73 => ?_)
      · rw [if_pos c73] at h
        refine kr_iconst (v := (-1)) dX10_person_88 (by decide) ?_
        cases h
        exact kr_iret rfl dX10_person_89
      · rw [if_neg c73] at h
        refine kr_aload_n dX10_person_76 rfl ?_
        refine kx_g0_1 kw1_189 dX10_person_77 ?_
        refine kx_g3_0 kw1_53 dX10_person_80 ?_
        refine kr_iload_n dX10_person_83 rfl ?_
        obtain ⟨v3, hv3, h⟩ := Option.bind_eq_some_iff.mp h
        refine kx_a4 (G.2.1 4) rfl hv3 dX10_person_84 ?_
        refine kr_goto (tgt := 89) dX10_person_85 rfl ?_
        cases h
        exact kr_iret rfl dX10_person_89
    rw [if_neg c24_0] at h
    by_cases c24_1 : l2 = 1
    · rw [if_pos c24_1] at h
      refine kr_tableIn (off := 66) (tgt := 90) dX10_person_24 (by rw [c24_1]; decide) (by rw [c24_1]; decide) (by rw [c24_1]; decide) rfl ?_
      refine kr_iload_n dX10_person_90 rfl ?_
      refine kr_if_eq (tgt := 106) dX10_person_91 rfl (fun c91 => ?_) (fun c91 => ?_)
      · rw [if_pos c91] at h
        refine kr_iconst (v := (-1)) dX10_person_106 (by decide) ?_
        cases h
        exact kr_iret rfl dX10_person_107
      · rw [if_neg c91] at h
        refine kr_aload_n dX10_person_94 rfl ?_
        refine kx_g0_1 kw1_189 dX10_person_95 ?_
        refine kx_g3_1 kw1_56 dX10_person_98 ?_
        refine kr_iload_n dX10_person_101 rfl ?_
        obtain ⟨v4, hv4, h⟩ := Option.bind_eq_some_iff.mp h
        refine kx_a5 (G.2.1 5) rfl hv4 dX10_person_102 ?_
        refine kr_goto (tgt := 107) dX10_person_103 rfl ?_
        cases h
        exact kr_iret rfl dX10_person_107
    rw [if_neg c24_1] at h
    by_cases c24_2 : l2 = 2
    · rw [if_pos c24_2] at h
      refine kr_tableIn (off := 84) (tgt := 108) dX10_person_24 (by rw [c24_2]; decide) (by rw [c24_2]; decide) (by rw [c24_2]; decide) rfl ?_
      refine kr_iload_n dX10_person_108 rfl ?_
      refine kr_if_eq (tgt := 116) dX10_person_109 rfl (fun c109 => ?_) (fun c109 => ?_)
      · rw [if_pos c109] at h
        refine kr_iconst (v := 0) dX10_person_116 (by decide) ?_
        cases h
        exact kr_iret rfl dX10_person_117
      · rw [if_neg c109] at h
        refine kr_iconst (v := 1) dX10_person_112 (by decide) ?_
        refine kr_goto (tgt := 117) dX10_person_113 rfl ?_
        cases h
        exact kr_iret rfl dX10_person_117
    rw [if_neg c24_2] at h
    by_cases c24_3 : l2 = 3
    · rw [if_pos c24_3] at h
      refine kr_tableIn (off := 94) (tgt := 118) dX10_person_24 (by rw [c24_3]; decide) (by rw [c24_3]; decide) (by rw [c24_3]; decide) rfl ?_
      refine kr_aload_n dX10_person_118 rfl ?_
      refine kx_g0_1 kw1_189 dX10_person_119 ?_
      refine kr_iload_n dX10_person_122 rfl ?_
      obtain ⟨v5, hv5, h⟩ := Option.bind_eq_some_iff.mp h
      refine kr_callVi (M' := kMX9_tricksOf) (a := 3) (As := [.int l1]) (st := []) (RX9_tricksOf (e + 1) hv5) koX9_tricksOf rfl rfl rfl kw3_92 kw3_93 kw3_94 rfl (Nat.le_of_ble_eq_true rfl) dX10_person_123 ?_
      cases h
      exact kr_iret rfl dX10_person_126
    rw [if_neg c24_3] at h
    by_cases c24_4 : l2 = 4
    · rw [if_pos c24_4] at h
      refine kr_tableIn (off := 103) (tgt := 127) dX10_person_24 (by rw [c24_4]; decide) (by rw [c24_4]; decide) (by rw [c24_4]; decide) rfl ?_
      refine kr_aload_n dX10_person_127 rfl ?_
      refine kx_g0_5 G.2.2.2.1 rfl kw1_193 dX10_person_128 ?_
      refine kr_aload_n dX10_person_131 rfl ?_
      refine kx_g0_1 kw1_189 dX10_person_132 ?_
      refine kr_iload_n dX10_person_135 rfl ?_
      obtain ⟨v6, hv6, h⟩ := Option.bind_eq_some_iff.mp h
      refine kr_callVi (M' := kMX9_tricksOf) (a := 3) (As := [.int l1]) (st := [.ref G.2.2.2.1]) (RX9_tricksOf (e + 1) hv6) koX9_tricksOf rfl rfl rfl kw3_92 kw3_93 kw3_94 rfl (Nat.le_of_ble_eq_true rfl) dX10_person_136 ?_
      obtain ⟨v8, hv8, h⟩ := Option.bind_eq_some_iff.mp h
      obtain ⟨v7, hv7, h⟩ := Option.bind_eq_some_iff.mp h
      refine kr_callVi (M' := kMX0_busyHoursOf) (a := G.2.2.2.1) (As := [.int v6]) (st := []) (RX0_busyHoursOf (e + 0) hv7) koX0_busyHoursOf rfl (kg_bl_w hv8) rfl kw3_96 kw3_97 kw3_98 rfl (Nat.le_of_ble_eq_true rfl) dX10_person_139 ?_
      cases h
      exact kr_iret rfl dX10_person_142
    rw [if_neg c24_4] at h
    by_cases c24_5 : l2 = 5
    · rw [if_pos c24_5] at h
      refine kr_tableIn (off := 119) (tgt := 143) dX10_person_24 (by rw [c24_5]; decide) (by rw [c24_5]; decide) (by rw [c24_5]; decide) rfl ?_
      refine kr_iload_n dX10_person_143 rfl ?_
      refine kr_if_eq (tgt := 159) dX10_person_144 rfl (fun c144 => ?_) (fun c144 => ?_)
      · rw [if_pos c144] at h
        refine kr_iconst (v := 0) dX10_person_159 (by decide) ?_
        cases h
        exact kr_iret rfl dX10_person_160
      · rw [if_neg c144] at h
        refine kr_aload_n dX10_person_147 rfl ?_
        refine kx_g0_1 kw1_189 dX10_person_148 ?_
        refine kx_g3_2 kw1_59 dX10_person_151 ?_
        refine kr_iload_n dX10_person_154 rfl ?_
        obtain ⟨v9, hv9, h⟩ := Option.bind_eq_some_iff.mp h
        refine kx_a6 (G.2.1 6) rfl hv9 dX10_person_155 ?_
        refine kr_goto (tgt := 160) dX10_person_156 rfl ?_
        cases h
        exact kr_iret rfl dX10_person_160
    rw [if_neg c24_5] at h
    by_cases c24_6 : l2 = 6
    · rw [if_pos c24_6] at h
      refine kr_tableIn (off := 137) (tgt := 161) dX10_person_24 (by rw [c24_6]; decide) (by rw [c24_6]; decide) (by rw [c24_6]; decide) rfl ?_
      refine kr_aload_n dX10_person_161 rfl ?_
      refine kx_g0_1 kw1_189 dX10_person_162 ?_
      refine kr_iload_n dX10_person_165 rfl ?_
      obtain ⟨v10, hv10, h⟩ := Option.bind_eq_some_iff.mp h
      refine kr_callVi (M' := kMX9_strongsOf) (a := 3) (As := [.int l1]) (st := []) (RX9_strongsOf (e + 2) hv10) koX9_strongsOf rfl rfl rfl kw3_100 kw3_101 kw3_102 rfl (Nat.le_of_ble_eq_true rfl) dX10_person_166 ?_
      cases h
      exact kr_iret rfl dX10_person_169
    rw [if_neg c24_6] at h
    by_cases c24_7 : l2 = 7
    · rw [if_pos c24_7] at h
      refine kr_tableIn (off := 146) (tgt := 170) dX10_person_24 (by rw [c24_7]; decide) (by rw [c24_7]; decide) (by rw [c24_7]; decide) rfl ?_
      refine kr_aload_n dX10_person_170 rfl ?_
      refine kx_g0_5 G.2.2.2.1 rfl kw1_193 dX10_person_171 ?_
      refine kr_aload_n dX10_person_174 rfl ?_
      refine kx_g0_1 kw1_189 dX10_person_175 ?_
      refine kr_iload_n dX10_person_178 rfl ?_
      obtain ⟨v11, hv11, h⟩ := Option.bind_eq_some_iff.mp h
      refine kr_callVi (M' := kMX9_strongsOf) (a := 3) (As := [.int l1]) (st := [.ref G.2.2.2.1]) (RX9_strongsOf (e + 2) hv11) koX9_strongsOf rfl rfl rfl kw3_100 kw3_101 kw3_102 rfl (Nat.le_of_ble_eq_true rfl) dX10_person_179 ?_
      obtain ⟨v13, hv13, h⟩ := Option.bind_eq_some_iff.mp h
      obtain ⟨v12, hv12, h⟩ := Option.bind_eq_some_iff.mp h
      refine kr_callVi (M' := kMX0_trickToTry) (a := G.2.2.2.1) (As := [.int v11]) (st := []) (RX0_trickToTry (e + 0) hv12) koX0_trickToTry rfl (kg_bl_w hv13) rfl kw3_104 kw3_105 kw3_106 rfl (Nat.le_of_ble_eq_true rfl) dX10_person_182 ?_
      cases h
      exact kr_iret rfl dX10_person_185
    rw [if_neg c24_7] at h
    refine kr_tableOut (tgt := 186) dX10_person_24 (kx_out8 c24_0 c24_1 c24_2 c24_3 c24_4 c24_5 c24_6 c24_7) rfl ?_
    refine kr_bipush (v := (-102)) dX10_person_186 (by decide) ?_
    cases h
    exact kr_iret rfl dX10_person_188
set_option maxRecDepth 20000 in
set_option maxHeartbeats 4000000 in
theorem RX10_mayBeCast {Z : kv_Z} (e : Nat) {N : Nat} {G : kg_G} {l1 : Int32} {l2 : Int32} {res : Int32} (h : fX10_mayBeCast N G l1 l2 = some res) : kv_M Z (e + 3) kMX10_mayBeCast [.ref 0, .int l1, .int l2] (kg_w G) (some (.int res)) (kg_w G) := by
  refine kv_M_of (ls := [some (.ref 0), some (.int l1), some (.int l2), none]) (by decide) (Nat.le_of_ble_eq_true rfl) rfl ?_
  unfold fX10_mayBeCast at h
  refine kr_aload_n dX10_mayBeCast_0 rfl ?_
  refine kx_g0_1 kw1_189 dX10_mayBeCast_1 ?_
  refine kx_g3_3 kw1_61 dX10_mayBeCast_4 ?_
  refine kr_iload_n dX10_mayBeCast_7 rfl ?_
  obtain ⟨v1, hv1, h⟩ := Option.bind_eq_some_iff.mp h
  refine kx_a7 (G.2.1 7) rfl hv1 dX10_mayBeCast_8 ?_
  refine kr_istore_n (i := 3) (ls' := [some (.ref 0), some (.int l1), some (.int l2), some (.int v1)]) dX10_mayBeCast_9 rfl (Nat.le_of_ble_eq_true rfl) rfl ?_
  refine kr_aload_n dX10_mayBeCast_10 rfl ?_
  refine kx_g0_1 kw1_189 dX10_mayBeCast_11 ?_
  refine kx_g3_6 (G.1 3 6) rfl kw1_65 dX10_mayBeCast_14 ?_
  refine kr_iload_n dX10_mayBeCast_17 rfl ?_
  refine kr_callSi (M' := kMX10_has) (As := [.int (G.1 3 6), .int l2]) (st := []) (RX10_has (e + 2) rfl) koX10_has rfl kw3_91 kw3_16 rfl (Nat.le_of_ble_eq_true rfl) dX10_mayBeCast_18 ?_
  refine kr_if_eq (tgt := 75) dX10_mayBeCast_21 rfl (fun c21 => ?_) (fun c21 => ?_)
  · rw [if_pos c21] at h
    refine kr_iconst (v := 0) dX10_mayBeCast_75 (by decide) ?_
    cases h
    exact kr_zret rfl (by decide) dX10_mayBeCast_76
  · rw [if_neg c21] at h
    refine kr_iload_n dX10_mayBeCast_24 rfl ?_
    refine kr_iload_n dX10_mayBeCast_25 rfl ?_
    refine kr_callSi (M' := kMX10_has) (As := [.int v1, .int l2]) (st := []) (RX10_has (e + 2) rfl) koX10_has rfl kw3_91 kw3_16 rfl (Nat.le_of_ble_eq_true rfl) dX10_mayBeCast_26 ?_
    refine kr_if_ne (tgt := 75) dX10_mayBeCast_29 rfl (fun c29 => ?_) (fun c29 => ?_)
    · rw [if_pos c29] at h
      refine kr_iload_n dX10_mayBeCast_32 rfl ?_
      refine kr_callSi (M' := kMJ6_bitCount_0f7a4) (As := [.int v1]) (st := []) (RJ6_bitCount_0f7a4 (e + 2) rfl) koJ6_bitCount_0f7a4 rfl kw3_127 kw3_9 rfl (Nat.le_of_ble_eq_true rfl) dX10_mayBeCast_33 ?_
      refine kr_aload_n dX10_mayBeCast_36 rfl ?_
      refine kx_g0_5 G.2.2.2.1 rfl kw1_193 dX10_mayBeCast_37 ?_
      obtain ⟨v5, hv5, h⟩ := Option.bind_eq_some_iff.mp h
      refine kx_bt hv5 kw1_180 dX10_mayBeCast_40 ?_
      refine kr_iload_n dX10_mayBeCast_43 rfl ?_
      obtain ⟨v6, hv6, h⟩ := Option.bind_eq_some_iff.mp h
      obtain ⟨v7, hv7, h⟩ := Option.bind_eq_some_iff.mp h
      refine kx_ta hv6 hv7 dX10_mayBeCast_44 ?_
      obtain ⟨v8, hv8, h⟩ := Option.bind_eq_some_iff.mp h
      refine kt_crew (st := [.int (fJ6_bitCount_0f7a4 v1)]) (e + 2) hv8 kw2_229 (Nat.le_of_ble_eq_true rfl) dX10_mayBeCast_45 ?_
      refine kr_icmp_ge (tgt := 75) dX10_mayBeCast_48 rfl (fun c48 => ?_) (fun c48 => ?_)
      · rw [if_pos c48] at h
        refine kr_iconst (v := 0) dX10_mayBeCast_75 (by decide) ?_
        cases h
        exact kr_zret rfl (by decide) dX10_mayBeCast_76
      · rw [if_neg c48] at h
        refine kr_aload_n dX10_mayBeCast_51 rfl ?_
        refine kx_g0_5 G.2.2.2.1 rfl kw1_193 dX10_mayBeCast_52 ?_
        refine kr_iload_n dX10_mayBeCast_55 rfl ?_
        obtain ⟨v10, hv10, h⟩ := Option.bind_eq_some_iff.mp h
        obtain ⟨v9, hv9, h⟩ := Option.bind_eq_some_iff.mp h
        refine kr_callVi (M' := kMX0_clashesOf) (a := G.2.2.2.1) (As := [.int l1]) (st := []) (RX0_clashesOf (e + 0) hv9) koX0_clashesOf rfl (kg_bl_w hv10) rfl kw3_48 kw3_49 kw3_50 rfl (Nat.le_of_ble_eq_true rfl) dX10_mayBeCast_56 ?_
        refine kr_aload_n dX10_mayBeCast_59 rfl ?_
        refine kx_g0_1 kw1_189 dX10_mayBeCast_60 ?_
        refine kr_iload_n dX10_mayBeCast_63 rfl ?_
        obtain ⟨v11, hv11, h⟩ := Option.bind_eq_some_iff.mp h
        refine kr_callVi (M' := kMX9_tricksOf) (a := 3) (As := [.int l2]) (st := [.int v9]) (RX9_tricksOf (e + 1) hv11) koX9_tricksOf rfl rfl rfl kw3_92 kw3_93 kw3_94 rfl (Nat.le_of_ble_eq_true rfl) dX10_mayBeCast_64 ?_
        refine kr_iand dX10_mayBeCast_67 ?_
        refine kr_if_ne (tgt := 75) dX10_mayBeCast_68 rfl (fun c68 => ?_) (fun c68 => ?_)
        · rw [if_pos c68] at h
          refine kr_iconst (v := 1) dX10_mayBeCast_71 (by decide) ?_
          refine kr_goto (tgt := 76) dX10_mayBeCast_72 rfl ?_
          cases h
          exact kr_zret rfl (by decide) dX10_mayBeCast_76
        · rw [if_neg c68] at h
          refine kr_iconst (v := 0) dX10_mayBeCast_75 (by decide) ?_
          cases h
          exact kr_zret rfl (by decide) dX10_mayBeCast_76
    · rw [if_neg c29] at h
      refine kr_iconst (v := 0) dX10_mayBeCast_75 (by decide) ?_
      cases h
      exact kr_zret rfl (by decide) dX10_mayBeCast_76
set_option maxRecDepth 20000 in
set_option maxHeartbeats 4000000 in
theorem RX10_cast {Z : kv_Z} (e : Nat) {N : Nat} {G : kg_G} {l1 : Int32} {l2 : Int32} {res : Int32 × kg_G} (h : fX10_cast N G l1 l2 = some res) : kv_M Z (e + 4) kMX10_cast [.ref 0, .int l1, .int l2] (kg_w G) (some (.int res.1)) (kg_w res.2) := by
  refine kv_M_of (ls := [some (.ref 0), some (.int l1), some (.int l2)]) (by decide) (Nat.le_of_ble_eq_true rfl) rfl ?_
  unfold fX10_cast at h
  refine kr_aload_n dX10_cast_0 rfl ?_
  refine kr_iload_n dX10_cast_1 rfl ?_
  obtain ⟨v1, hv1, h⟩ := Option.bind_eq_some_iff.mp h
  refine kr_callVi (M' := kMX10_isTrick) (a := 0) (As := [.int l1]) (st := []) (RX10_isTrick (e + 3) hv1) koX10_isTrick rfl rfl rfl kw2_208 kw2_210 kws_0 rfl (Nat.le_of_ble_eq_true rfl) dX10_cast_2 ?_
  refine kr_if_eq (tgt := 16) dX10_cast_5 rfl (fun c5 => ?_) (fun c5 => ?_)
  · rw [if_pos c5] at h
    refine kr_bipush (v := (-101)) dX10_cast_16 (by decide) ?_
    cases h
    exact kr_iret rfl dX10_cast_18
  · rw [if_neg c5] at h
    refine kr_aload_n dX10_cast_8 rfl ?_
    refine kr_iload_n dX10_cast_9 rfl ?_
    obtain ⟨v2, hv2, h⟩ := Option.bind_eq_some_iff.mp h
    refine kr_callVi (M' := kMX10_isNumber) (a := 0) (As := [.int l2]) (st := []) (RX10_isNumber (e + 3) hv2) koX10_isNumber rfl rfl rfl kw3_87 kw3_89 kws_2 rfl (Nat.le_of_ble_eq_true rfl) dX10_cast_10 ?_
    refine kr_if_ne (tgt := 19) dX10_cast_13 rfl (fun c13 => ?_) (fun c13 => ?_)
    · rw [if_pos c13] at h
      refine kr_bipush (v := (-101)) dX10_cast_16 (by decide) ?_
      cases h
      exact kr_iret rfl dX10_cast_18
    · rw [if_neg c13] at h
      refine kr_aload_n dX10_cast_19 rfl ?_
      refine kr_iload_n dX10_cast_20 rfl ?_
      refine kr_iload_n dX10_cast_21 rfl ?_
      obtain ⟨v3, hv3, h⟩ := Option.bind_eq_some_iff.mp h
      refine kr_callVi (M' := kMX10_mayBeCast) (a := 0) (As := [.int l1, .int l2]) (st := []) (RX10_mayBeCast (e + 0) hv3) koX10_mayBeCast rfl rfl rfl kw3_123 kw3_125 kws_3 rfl (Nat.le_of_ble_eq_true rfl) dX10_cast_22 ?_
      refine kr_if_ne (tgt := 31) dX10_cast_25 rfl (fun c25 => ?_) (fun c25 => ?_)
      · rw [if_pos c25] at h
        refine kr_bipush (v := (-103)) dX10_cast_28 (by decide) ?_
        cases h
        exact kr_iret rfl dX10_cast_30
      · rw [if_neg c25] at h
        refine kr_aload_n dX10_cast_31 rfl ?_
        refine kx_g0_1 kw1_189 dX10_cast_32 ?_
        refine kx_g3_3 kw1_61 dX10_cast_35 ?_
        refine kr_iload_n dX10_cast_38 rfl ?_
        refine kr_dup2 dX10_cast_39 rfl rfl ?_
        obtain ⟨v4, hv4, h⟩ := Option.bind_eq_some_iff.mp h
        refine kx_a7 (G.2.1 7) rfl hv4 dX10_cast_40 ?_
        refine kr_iconst (v := 1) dX10_cast_41 (by decide) ?_
        refine kr_iload_n dX10_cast_42 rfl ?_
        refine kr_ishl dX10_cast_43 ?_
        refine kr_ior dX10_cast_44 ?_
        obtain ⟨v5, hv5, h⟩ := Option.bind_eq_some_iff.mp h
        refine kx_s7 (G.2.1 7) rfl hv5 dX10_cast_45 ?_
        refine kr_aload_n dX10_cast_46 rfl ?_
        refine kx_g0_1 kw1_189 dX10_cast_47 ?_
        refine kx_g3_3 kw1_61 dX10_cast_50 ?_
        refine kr_iload_n dX10_cast_53 rfl ?_
        obtain ⟨v6, hv6, h⟩ := Option.bind_eq_some_iff.mp h
        refine kx_a7 v5 rfl hv6 dX10_cast_54 ?_
        refine kr_callSi (M' := kMJ6_bitCount_0f7a4) (As := [.int v6]) (st := []) (RJ6_bitCount_0f7a4 (e + 3) rfl) koJ6_bitCount_0f7a4 rfl kw3_127 kw3_9 rfl (Nat.le_of_ble_eq_true rfl) dX10_cast_55 ?_
        cases h
        exact kr_iret rfl dX10_cast_58
set_option maxRecDepth 20000 in
set_option maxHeartbeats 4000000 in
theorem RX10_drop {Z : kv_Z} (e : Nat) {G : kg_G} {l1 : Int32} {l2 : Int32} {res : Int32 × kg_G} (h : fX10_drop G l1 l2 = some res) : kv_M Z (e + 1) kMX10_drop [.ref 0, .int l1, .int l2] (kg_w G) (some (.int res.1)) (kg_w res.2) := by
  refine kv_M_of (ls := [some (.ref 0), some (.int l1), some (.int l2)]) (by decide) (Nat.le_of_ble_eq_true rfl) rfl ?_
  unfold fX10_drop at h
  refine kr_aload_n dX10_drop_0 rfl ?_
  refine kr_iload_n dX10_drop_1 rfl ?_
  obtain ⟨v1, hv1, h⟩ := Option.bind_eq_some_iff.mp h
  refine kr_callVi (M' := kMX10_isTrick) (a := 0) (As := [.int l1]) (st := []) (RX10_isTrick (e + 0) hv1) koX10_isTrick rfl rfl rfl kw2_208 kw2_210 kws_0 rfl (Nat.le_of_ble_eq_true rfl) dX10_drop_2 ?_
  refine kr_if_eq (tgt := 16) dX10_drop_5 rfl (fun c5 => ?_) (fun c5 => ?_)
  · rw [if_pos c5] at h
    refine kr_bipush (v := (-101)) dX10_drop_16 (by decide) ?_
    cases h
    exact kr_iret rfl dX10_drop_18
  · rw [if_neg c5] at h
    refine kr_aload_n dX10_drop_8 rfl ?_
    refine kr_iload_n dX10_drop_9 rfl ?_
    obtain ⟨v2, hv2, h⟩ := Option.bind_eq_some_iff.mp h
    refine kr_callVi (M' := kMX10_isNumber) (a := 0) (As := [.int l2]) (st := []) (RX10_isNumber (e + 0) hv2) koX10_isNumber rfl rfl rfl kw3_87 kw3_89 kws_2 rfl (Nat.le_of_ble_eq_true rfl) dX10_drop_10 ?_
    refine kr_if_ne (tgt := 19) dX10_drop_13 rfl (fun c13 => ?_) (fun c13 => ?_)
    · rw [if_pos c13] at h
      refine kr_bipush (v := (-101)) dX10_drop_16 (by decide) ?_
      cases h
      exact kr_iret rfl dX10_drop_18
    · rw [if_neg c13] at h
      refine kr_aload_n dX10_drop_19 rfl ?_
      refine kx_g0_1 kw1_189 dX10_drop_20 ?_
      refine kx_g3_3 kw1_61 dX10_drop_23 ?_
      refine kr_iload_n dX10_drop_26 rfl ?_
      obtain ⟨v3, hv3, h⟩ := Option.bind_eq_some_iff.mp h
      refine kx_a7 (G.2.1 7) rfl hv3 dX10_drop_27 ?_
      refine kr_iload_n dX10_drop_28 rfl ?_
      refine kr_callSi (M' := kMX10_has) (As := [.int v3, .int l2]) (st := []) (RX10_has (e + 0) rfl) koX10_has rfl kw3_91 kw3_16 rfl (Nat.le_of_ble_eq_true rfl) dX10_drop_29 ?_
      refine kr_if_ne (tgt := 38) dX10_drop_32 rfl (fun c32 => ?_) (fun c32 => ?_)
      · rw [if_pos c32] at h
        refine kr_bipush (v := (-103)) dX10_drop_35 (by decide) ?_
        cases h
        exact kr_iret rfl dX10_drop_37
      · rw [if_neg c32] at h
        refine kr_aload_n dX10_drop_38 rfl ?_
        refine kx_g0_1 kw1_189 dX10_drop_39 ?_
        refine kx_g3_3 kw1_61 dX10_drop_42 ?_
        refine kr_iload_n dX10_drop_45 rfl ?_
        refine kr_dup2 dX10_drop_46 rfl rfl ?_
        obtain ⟨v5, hv5, h⟩ := Option.bind_eq_some_iff.mp h
        refine kx_a7 (G.2.1 7) rfl hv5 dX10_drop_47 ?_
        refine kr_iconst (v := 1) dX10_drop_48 (by decide) ?_
        refine kr_iload_n dX10_drop_49 rfl ?_
        refine kr_ishl dX10_drop_50 ?_
        refine kr_iconst (v := (-1)) dX10_drop_51 (by decide) ?_
        refine kr_ixor dX10_drop_52 ?_
        refine kr_iand dX10_drop_53 ?_
        obtain ⟨v6, hv6, h⟩ := Option.bind_eq_some_iff.mp h
        refine kx_s7 (G.2.1 7) rfl hv6 dX10_drop_54 ?_
        refine kr_aload_n dX10_drop_55 rfl ?_
        refine kx_g0_1 kw1_189 dX10_drop_56 ?_
        refine kx_g3_3 kw1_61 dX10_drop_59 ?_
        refine kr_iload_n dX10_drop_62 rfl ?_
        obtain ⟨v7, hv7, h⟩ := Option.bind_eq_some_iff.mp h
        refine kx_a7 v6 rfl hv7 dX10_drop_63 ?_
        refine kr_callSi (M' := kMJ6_bitCount_0f7a4) (As := [.int v7]) (st := []) (RJ6_bitCount_0f7a4 (e + 0) rfl) koJ6_bitCount_0f7a4 rfl kw3_127 kw3_9 rfl (Nat.le_of_ble_eq_true rfl) dX10_drop_64 ?_
        cases h
        exact kr_iret rfl dX10_drop_67
set_option maxRecDepth 20000 in
set_option maxHeartbeats 4000000 in
theorem RX10_clear_4 {Z : kv_Z} (e : Nat) {N : Nat} : ∀ (n : Nat) (G : kg_G) (l1 : Int32) (l2 : Int32) (res : Int32 × kg_G), fX10_clear_4 N n G l1 l2 = some res → kv_V Z (e + 1) kMX10_clear 4 [some (.ref 0), some (.int l1), some (.int l2)] [] (kg_w G) (some (.int res.1)) (kg_w res.2) := by
  intro n
  induction n with
  | zero => intro G l1 l2 res h; exact absurd h (by intro z; cases z)
  | succ n ih =>
    intro G l1 l2 res h
    have hk4 := ih
    rw [fX10_clear_4] at h
    refine kr_iload_n dX10_clear_4 rfl ?_
    refine kr_iconst (v := 5) dX10_clear_5 (by decide) ?_
    refine kr_icmp_ge (tgt := 40) dX10_clear_6 rfl (fun c6 => ?_) (fun c6 => ?_)
    · rw [if_pos c6] at h
      refine kr_iload_n dX10_clear_40 rfl ?_
      cases h
      exact kr_iret rfl dX10_clear_41
    · rw [if_neg c6] at h
      refine kr_iload_n dX10_clear_9 rfl ?_
      refine kr_aload_n dX10_clear_10 rfl ?_
      refine kx_g0_1 kw1_189 dX10_clear_11 ?_
      refine kx_g3_3 kw1_61 dX10_clear_14 ?_
      refine kr_iload_n dX10_clear_17 rfl ?_
      obtain ⟨v1, hv1, h⟩ := Option.bind_eq_some_iff.mp h
      refine kx_a7 (G.2.1 7) rfl hv1 dX10_clear_18 ?_
      refine kr_callSi (M' := kMJ6_bitCount_0f7a4) (As := [.int v1]) (st := [.int l1]) (RJ6_bitCount_0f7a4 (e + 0) rfl) koJ6_bitCount_0f7a4 rfl kw3_127 kw3_9 rfl (Nat.le_of_ble_eq_true rfl) dX10_clear_19 ?_
      refine kr_iadd dX10_clear_22 ?_
      refine kr_istore_n (i := 1) (ls' := [some (.ref 0), some (.int (l1 + (fJ6_bitCount_0f7a4 v1))), some (.int l2)]) dX10_clear_23 rfl (Nat.le_of_ble_eq_true rfl) rfl ?_
      refine kr_aload_n dX10_clear_24 rfl ?_
      refine kx_g0_1 kw1_189 dX10_clear_25 ?_
      refine kx_g3_3 kw1_61 dX10_clear_28 ?_
      refine kr_iload_n dX10_clear_31 rfl ?_
      refine kr_iconst (v := 0) dX10_clear_32 (by decide) ?_
      obtain ⟨v3, hv3, h⟩ := Option.bind_eq_some_iff.mp h
      refine kx_s7 (G.2.1 7) rfl hv3 dX10_clear_33 ?_
      refine kr_iinc (v := l2 + 1) (ls' := [some (.ref 0), some (.int (l1 + (fJ6_bitCount_0f7a4 v1))), some (.int (l2 + 1))]) dX10_clear_34 rfl rfl (Nat.le_of_ble_eq_true rfl) rfl ?_
      refine kr_goto (tgt := 4) dX10_clear_37 rfl ?_
      exact hk4 _ _ _ _ h
set_option maxRecDepth 20000 in
set_option maxHeartbeats 4000000 in
theorem RX10_clear {Z : kv_Z} (e : Nat) {N : Nat} {G : kg_G} {res : Int32 × kg_G} (h : fX10_clear N G = some res) : kv_M Z (e + 1) kMX10_clear [.ref 0] (kg_w G) (some (.int res.1)) (kg_w res.2) := by
  refine kv_M_of (ls := [some (.ref 0), none, none]) (by decide) (Nat.le_of_ble_eq_true rfl) rfl ?_
  unfold fX10_clear at h
  refine kr_iconst (v := 0) dX10_clear_0 (by decide) ?_
  refine kr_istore_n (i := 1) (ls' := [some (.ref 0), some (.int 0), none]) dX10_clear_1 rfl (Nat.le_of_ble_eq_true rfl) rfl ?_
  refine kr_iconst (v := 0) dX10_clear_2 (by decide) ?_
  refine kr_istore_n (i := 2) (ls' := [some (.ref 0), some (.int 0), some (.int 0)]) dX10_clear_3 rfl (Nat.le_of_ble_eq_true rfl) rfl ?_
  exact RX10_clear_4 e N _ _ _ _ h
set_option maxRecDepth 20000 in
set_option maxHeartbeats 4000000 in
theorem RX10_hasShow {Z : kv_Z} (e : Nat) {G : kg_G} {res : Int32} (h : fX10_hasShow G = some res) : kv_M Z (e + 0) kMX10_hasShow [.ref 0] (kg_w G) (some (.int res)) (kg_w G) := by
  refine kv_M_of (ls := [some (.ref 0)]) (by decide) (Nat.le_of_ble_eq_true rfl) rfl ?_
  unfold fX10_hasShow at h
  refine kr_aload_n dX10_hasShow_0 rfl ?_
  refine kx_g0_5 G.2.2.2.1 rfl kw1_193 dX10_hasShow_1 ?_
  obtain ⟨v1, hv1, h⟩ := Option.bind_eq_some_iff.mp h
  refine kx_bt hv1 kw1_180 dX10_hasShow_4 ?_
  obtain ⟨v2, hv2, h⟩ := Option.bind_eq_some_iff.mp h
  refine kx_tl hv2 dX10_hasShow_7 ?_
  refine kr_if_le (tgt := 15) dX10_hasShow_8 rfl (fun c8 => ?_) (fun c8 => ?_)
  · rw [if_pos c8] at h
    refine kr_iconst (v := 0) dX10_hasShow_15 (by decide) ?_
    cases h
    exact kr_zret rfl (by decide) dX10_hasShow_16
  · rw [if_neg c8] at h
    refine kr_iconst (v := 1) dX10_hasShow_11 (by decide) ?_
    refine kr_goto (tgt := 16) dX10_hasShow_12 rfl ?_
    cases h
    exact kr_zret rfl (by decide) dX10_hasShow_16
set_option maxRecDepth 20000 in
set_option maxHeartbeats 4000000 in
theorem RX4_prepare_44 {Z : kv_Z} (e : Nat) {N : Nat} {k15 : kg_G → Nat → Int32 → Option (kg_G)} (hk15 : ∀ (G : kg_G) (a1 : Nat) (l3 : Int32) (res : kg_G), k15 G a1 l3 = some res → kv_V Z (e + 3) kMX4_prepare 15 [some (.ref 17), some (.ref a1), some (.ref 4), some (.int l3), none] [] (kg_w G) none (kg_w res)) : ∀ (n : Nat) (G : kg_G) (a1 : Nat) (l3 : Int32) (l4 : Int32) (res : kg_G), fX4_prepare_44 N k15 n G a1 l3 l4 = some res → kv_V Z (e + 3) kMX4_prepare 44 [some (.ref 17), some (.ref a1), some (.ref 4), some (.int l3), some (.int l4)] [] (kg_w G) none (kg_w res) := by
  intro n
  induction n with
  | zero => intro G a1 l3 l4 res h; exact absurd h (by intro z; cases z)
  | succ n ih =>
    intro G a1 l3 l4 res h
    have hk44 := ih
    rw [fX4_prepare_44] at h
    refine kr_iload dX4_prepare_44 rfl ?_
    refine kr_bipush (v := 32) dX4_prepare_46 (by decide) ?_
    refine kr_icmp_ge (tgt := 81) dX4_prepare_48 rfl (fun c48 => ?_) (fun c48 => ?_)
    · rw [if_pos c48] at h
      refine kr_iinc (v := l3 + 1) (ls' := [some (.ref 17), some (.ref a1), some (.ref 4), some (.int (l3 + 1)), some (.int l4)]) dX4_prepare_81 rfl rfl (Nat.le_of_ble_eq_true rfl) rfl ?_
      refine kr_goto (tgt := 15) dX4_prepare_84 rfl ?_
      refine kv_loc (ls' := [some (.ref 17), some (.ref a1), some (.ref 4), some (.int (l3 + 1)), none]) (And.intro rfl (And.intro rfl (And.intro rfl (And.intro rfl trivial)))) ?_
      exact hk15 _ _ _ _ h
    · rw [if_neg c48] at h
      refine kr_aload_n dX4_prepare_51 rfl ?_
      refine kr_iload_n dX4_prepare_52 rfl ?_
      refine kr_iload dX4_prepare_53 rfl ?_
      refine kr_aload_n dX4_prepare_55 rfl ?_
      obtain ⟨v2, hv2, h⟩ := Option.bind_eq_some_iff.mp h
      obtain ⟨v1, hv1, h⟩ := Option.bind_eq_some_iff.mp h
      refine kr_callVi (M' := kMX0_isDoneBy) (a := a1) (As := [.int l3, .int l4, .ref 4]) (st := []) (RX0_isDoneBy (e + 1) hv1) koX0_isDoneBy rfl (kg_bl_w hv2) rfl kw3_154 kw3_5 kw3_6 rfl (Nat.le_of_ble_eq_true rfl) dX4_prepare_56 ?_
      refine kr_if_eq (tgt := 75) dX4_prepare_59 rfl (fun c59 => ?_) (fun c59 => ?_)
      · rw [if_pos c59] at h
        refine kr_iinc (v := l4 + 1) (ls' := [some (.ref 17), some (.ref a1), some (.ref 4), some (.int l3), some (.int (l4 + 1))]) dX4_prepare_75 rfl rfl (Nat.le_of_ble_eq_true rfl) rfl ?_
        refine kr_goto (tgt := 44) dX4_prepare_78 rfl ?_
        exact hk44 _ _ _ _ _ h
      · rw [if_neg c59] at h
        refine kr_aload_n dX4_prepare_62 rfl ?_
        refine kx_g17_2 kw1_118 dX4_prepare_63 ?_
        refine kr_iload_n dX4_prepare_66 rfl ?_
        refine kr_dup2 dX4_prepare_67 rfl rfl ?_
        obtain ⟨v3, hv3, h⟩ := Option.bind_eq_some_iff.mp h
        refine kx_a20 (G.2.1 20) rfl hv3 dX4_prepare_68 ?_
        refine kr_iconst (v := 1) dX4_prepare_69 (by decide) ?_
        refine kr_iload dX4_prepare_70 rfl ?_
        refine kr_ishl dX4_prepare_72 ?_
        refine kr_ior dX4_prepare_73 ?_
        obtain ⟨v4, hv4, h⟩ := Option.bind_eq_some_iff.mp h
        refine kx_s20 (G.2.1 20) rfl hv4 dX4_prepare_74 ?_
        refine kr_iinc (v := l4 + 1) (ls' := [some (.ref 17), some (.ref a1), some (.ref 4), some (.int l3), some (.int (l4 + 1))]) dX4_prepare_75 rfl rfl (Nat.le_of_ble_eq_true rfl) rfl ?_
        refine kr_goto (tgt := 44) dX4_prepare_78 rfl ?_
        exact hk44 _ _ _ _ _ h
set_option maxRecDepth 20000 in
set_option maxHeartbeats 4000000 in
theorem RX4_prepare_15 {Z : kv_Z} (e : Nat) {N : Nat} : ∀ (n : Nat) (G : kg_G) (a1 : Nat) (l3 : Int32) (res : kg_G), fX4_prepare_15 N n G a1 l3 = some res → kv_V Z (e + 3) kMX4_prepare 15 [some (.ref 17), some (.ref a1), some (.ref 4), some (.int l3), none] [] (kg_w G) none (kg_w res) := by
  intro n
  induction n with
  | zero => intro G a1 l3 res h; exact absurd h (by intro z; cases z)
  | succ n ih =>
    intro G a1 l3 res h
    have hk15 := ih
    rw [fX4_prepare_15] at h
    refine kr_iload_n dX4_prepare_15 rfl ?_
    refine kr_aload_n dX4_prepare_16 rfl ?_
    refine kx_g17_5 (G.1 17 5) rfl kw1_121 dX4_prepare_17 ?_
    refine kr_icmp_ge (tgt := 87) dX4_prepare_20 rfl (fun c20 => ?_) (fun c20 => ?_)
    · rw [if_pos c20] at h
      cases h
      exact kr_vret rfl dX4_prepare_87
    · rw [if_neg c20] at h
      refine kr_aload_n dX4_prepare_23 rfl ?_
      refine kx_g17_3 kw1_119 dX4_prepare_24 ?_
      refine kr_iload_n dX4_prepare_27 rfl ?_
      refine kr_aload_n dX4_prepare_28 rfl ?_
      refine kr_iload_n dX4_prepare_29 rfl ?_
      obtain ⟨v2, hv2, h⟩ := Option.bind_eq_some_iff.mp h
      obtain ⟨v1, hv1, h⟩ := Option.bind_eq_some_iff.mp h
      refine kr_callVi (M' := kMX0_clashesOf) (a := a1) (As := [.int l3]) (st := [.int l3, .ref 21]) (RX0_clashesOf (e + 0) hv1) koX0_clashesOf rfl (kg_bl_w hv2) rfl kw3_153 kw3_49 kw3_50 rfl (Nat.le_of_ble_eq_true rfl) dX4_prepare_30 ?_
      obtain ⟨v3, hv3, h⟩ := Option.bind_eq_some_iff.mp h
      refine kx_s21 (G.2.1 21) rfl hv3 dX4_prepare_33 ?_
      refine kr_aload_n dX4_prepare_34 rfl ?_
      refine kx_g17_2 kw1_118 dX4_prepare_35 ?_
      refine kr_iload_n dX4_prepare_38 rfl ?_
      refine kr_iconst (v := 0) dX4_prepare_39 (by decide) ?_
      obtain ⟨v4, hv4, h⟩ := Option.bind_eq_some_iff.mp h
      refine kx_s20 (G.2.1 20) rfl hv4 dX4_prepare_40 ?_
      refine kr_iconst (v := 1) dX4_prepare_41 (by decide) ?_
      refine kr_istore (ls' := [some (.ref 17), some (.ref a1), some (.ref 4), some (.int l3), some (.int 1)]) dX4_prepare_42 (Nat.le_of_ble_eq_true rfl) rfl ?_
      exact RX4_prepare_44 e hk15 N _ _ _ _ _ h
set_option maxRecDepth 20000 in
set_option maxHeartbeats 4000000 in
theorem RX4_prepare {Z : kv_Z} (e : Nat) {N : Nat} {G : kg_G} {a1 : Nat} {res : kg_G} (h : fX4_prepare N G a1 = some res) : kv_M Z (e + 3) kMX4_prepare [.ref 17, .ref a1, .ref 4] (kg_w G) none (kg_w res) := by
  refine kv_M_of (ls := [some (.ref 17), some (.ref a1), some (.ref 4), none, none]) (by decide) (Nat.le_of_ble_eq_true rfl) rfl ?_
  unfold fX4_prepare at h
  refine kr_aload_n dX4_prepare_0 rfl ?_
  refine kr_aload_n dX4_prepare_1 rfl ?_
  obtain ⟨v1, hv1, h⟩ := Option.bind_eq_some_iff.mp h
  refine kx_bt hv1 kw1_178 dX4_prepare_2 ?_
  obtain ⟨v2, hv2, h⟩ := Option.bind_eq_some_iff.mp h
  refine kx_tl hv2 dX4_prepare_5 ?_
  refine kr_iconst (v := 5) dX4_prepare_6 (by decide) ?_
  refine kr_callSi (M' := kMJ9_min_7cf53) (As := [.int (nI v2.length), .int 5]) (st := [.ref 17]) (RJ9_min_7cf53 (e + 2) rfl) koJ9_min_7cf53 rfl kw3_152 kw2_55 rfl (Nat.le_of_ble_eq_true rfl) dX4_prepare_7 ?_
  refine kx_p17_5 kw1_121 dX4_prepare_10 ?_
  refine kr_iconst (v := 0) dX4_prepare_13 (by decide) ?_
  refine kr_istore_n (i := 3) (ls' := [some (.ref 17), some (.ref a1), some (.ref 4), some (.int 0), none]) dX4_prepare_14 rfl (Nat.le_of_ble_eq_true rfl) rfl ?_
  exact RX4_prepare_15 e N _ _ _ _ h
set_option maxRecDepth 20000 in
set_option maxHeartbeats 4000000 in
theorem RX4_openWays_8 {Z : kv_Z} (e : Nat) {N : Nat} {G : kg_G} : ∀ (n : Nat) (l1 : Int32) (l2 : Int32) (l3 : Int32) (l4 : Int32) (res : Int32), fX4_openWays_8 N G n l1 l2 l3 l4 = some res → kv_V Z (e + 1) kMX4_openWays 8 [some (.ref 17), some (.int l1), some (.int l2), some (.int l3), some (.int l4)] [] (kg_w G) (some (.int res)) (kg_w G) := by
  intro n
  induction n with
  | zero => intro l1 l2 l3 l4 res h; exact absurd h (by intro z; cases z)
  | succ n ih =>
    intro l1 l2 l3 l4 res h
    have hk8 := ih
    rw [fX4_openWays_8] at h
    refine kr_iload dX4_openWays_8 rfl ?_
    refine kr_iload_n dX4_openWays_10 rfl ?_
    refine kr_icmp_ge (tgt := 44) dX4_openWays_11 rfl (fun c11 => ?_) (fun c11 => ?_)
    · rw [if_pos c11] at h
      refine kr_aload_n dX4_openWays_44 rfl ?_
      refine kx_g17_2 kw1_118 dX4_openWays_45 ?_
      refine kr_iload_n dX4_openWays_48 rfl ?_
      obtain ⟨v1, hv1, h⟩ := Option.bind_eq_some_iff.mp h
      refine kx_a20 (G.2.1 20) rfl hv1 dX4_openWays_49 ?_
      refine kr_aload_n dX4_openWays_50 rfl ?_
      refine kx_g17_4 kw1_120 dX4_openWays_51 ?_
      refine kr_iload_n dX4_openWays_54 rfl ?_
      obtain ⟨v2, hv2, h⟩ := Option.bind_eq_some_iff.mp h
      refine kx_a22 (G.2.1 22) rfl hv2 dX4_openWays_55 ?_
      refine kr_iand dX4_openWays_56 ?_
      cases h
      exact kr_iret rfl dX4_openWays_57
    · rw [if_neg c11] at h
      refine kr_aload_n dX4_openWays_14 rfl ?_
      refine kx_g17_3 kw1_119 dX4_openWays_15 ?_
      refine kr_iload_n dX4_openWays_18 rfl ?_
      obtain ⟨v3, hv3, h⟩ := Option.bind_eq_some_iff.mp h
      refine kx_a21 (G.2.1 21) rfl hv3 dX4_openWays_19 ?_
      refine kr_iload dX4_openWays_20 rfl ?_
      refine kr_callSNi (M' := kMX10_has) (As := [.int v3, .int l4]) (st := []) (RX10_has (e + 0) rfl) koX10_has rfl (by decide) kw3_16 rfl (Nat.le_of_ble_eq_true rfl) dX4_openWays_22 ?_
      refine kr_if_eq (tgt := 38) dX4_openWays_25 rfl (fun c25 => ?_) (fun c25 => ?_)
      · rw [if_pos c25] at h
        refine kr_iinc (v := l4 + 1) (ls' := [some (.ref 17), some (.int l1), some (.int l2), some (.int l3), some (.int (l4 + 1))]) dX4_openWays_38 rfl rfl (Nat.le_of_ble_eq_true rfl) rfl ?_
        refine kr_goto (tgt := 8) dX4_openWays_41 rfl ?_
        exact hk8 _ _ _ _ _ h
      · rw [if_neg c25] at h
        refine kr_iload_n dX4_openWays_28 rfl ?_
        refine kr_aload_n dX4_openWays_29 rfl ?_
        refine kx_g17_1 kw1_117 dX4_openWays_30 ?_
        refine kr_iload dX4_openWays_33 rfl ?_
        obtain ⟨v5, hv5, h⟩ := Option.bind_eq_some_iff.mp h
        refine kx_a19 (G.2.1 19) rfl hv5 dX4_openWays_35 ?_
        refine kr_ior dX4_openWays_36 ?_
        refine kr_istore_n (i := 3) (ls' := [some (.ref 17), some (.int l1), some (.int l2), some (.int (l3 ||| v5)), some (.int l4)]) dX4_openWays_37 rfl (Nat.le_of_ble_eq_true rfl) rfl ?_
        refine kr_iinc (v := l4 + 1) (ls' := [some (.ref 17), some (.int l1), some (.int l2), some (.int (l3 ||| v5)), some (.int (l4 + 1))]) dX4_openWays_38 rfl rfl (Nat.le_of_ble_eq_true rfl) rfl ?_
        refine kr_goto (tgt := 8) dX4_openWays_41 rfl ?_
        exact hk8 _ _ _ _ _ h
set_option maxRecDepth 20000 in
set_option maxHeartbeats 4000000 in
theorem RX4_openWays {Z : kv_Z} (e : Nat) {N : Nat} {G : kg_G} {l1 : Int32} {l2 : Int32} {res : Int32} (h : fX4_openWays N G l1 l2 = some res) : kv_M Z (e + 1) kMX4_openWays [.ref 17, .int l1, .int l2] (kg_w G) (some (.int res)) (kg_w G) := by
  refine kv_M_of (ls := [some (.ref 17), some (.int l1), some (.int l2), none, none]) (by decide) (Nat.le_of_ble_eq_true rfl) rfl ?_
  unfold fX4_openWays at h
  refine kr_aload_n dX4_openWays_0 rfl ?_
  refine kx_g17_6 (G.1 17 6) rfl kw1_122 dX4_openWays_1 ?_
  refine kr_istore_n (i := 3) (ls' := [some (.ref 17), some (.int l1), some (.int l2), some (.int (G.1 17 6)), none]) dX4_openWays_4 rfl (Nat.le_of_ble_eq_true rfl) rfl ?_
  refine kr_iconst (v := 0) dX4_openWays_5 (by decide) ?_
  refine kr_istore (ls' := [some (.ref 17), some (.int l1), some (.int l2), some (.int (G.1 17 6)), some (.int 0)]) dX4_openWays_6 (Nat.le_of_ble_eq_true rfl) rfl ?_
  exact RX4_openWays_8 e N _ _ _ _ _ h
set_option maxRecDepth 20000 in
set_option maxHeartbeats 4000000 in
theorem RX4_stillOpen_4 {Z : kv_Z} (e : Nat) {N : Nat} {G : kg_G} : ∀ (n : Nat) (l1 : Int32) (l2 : Int32) (l3 : Int32) (res : Int32), fX4_stillOpen_4 N G n l1 l2 l3 = some res → kv_V Z (e + 2) kMX4_stillOpen 4 [some (.ref 17), some (.int l1), some (.int l2), some (.int l3)] [] (kg_w G) (some (.int res)) (kg_w G) := by
  intro n
  induction n with
  | zero => intro l1 l2 l3 res h; exact absurd h (by intro z; cases z)
  | succ n ih =>
    intro l1 l2 l3 res h
    have hk4 := ih
    rw [fX4_stillOpen_4] at h
    refine kr_iload_n dX4_stillOpen_4 rfl ?_
    refine kr_aload_n dX4_stillOpen_5 rfl ?_
    refine kx_g17_5 (G.1 17 5) rfl kw1_121 dX4_stillOpen_6 ?_
    refine kr_icmp_ge (tgt := 30) dX4_stillOpen_9 rfl (fun c9 => ?_) (fun c9 => ?_)
    · rw [if_pos c9] at h
      refine kr_iload_n dX4_stillOpen_30 rfl ?_
      cases h
      exact kr_iret rfl dX4_stillOpen_31
    · rw [if_neg c9] at h
      refine kr_aload_n dX4_stillOpen_12 rfl ?_
      refine kr_iload_n dX4_stillOpen_13 rfl ?_
      refine kr_iload_n dX4_stillOpen_14 rfl ?_
      obtain ⟨v1, hv1, h⟩ := Option.bind_eq_some_iff.mp h
      refine kr_callVi (M' := kMX4_openWays) (a := 17) (As := [.int l3, .int l1]) (st := []) (RX4_openWays (e + 0) hv1) koX4_openWays rfl rfl rfl kw3_168 kw3_170 kws_8 rfl (Nat.le_of_ble_eq_true rfl) dX4_stillOpen_15 ?_
      refine kr_if_eq (tgt := 24) dX4_stillOpen_18 rfl (fun c18 => ?_) (fun c18 => ?_)
      · rw [if_pos c18] at h
        refine kr_iinc (v := l3 + 1) (ls' := [some (.ref 17), some (.int l1), some (.int l2), some (.int (l3 + 1))]) dX4_stillOpen_24 rfl rfl (Nat.le_of_ble_eq_true rfl) rfl ?_
        refine kr_goto (tgt := 4) dX4_stillOpen_27 rfl ?_
        exact hk4 _ _ _ _ h
      · rw [if_neg c18] at h
        refine kr_iinc (v := l2 + 1) (ls' := [some (.ref 17), some (.int l1), some (.int (l2 + 1)), some (.int l3)]) dX4_stillOpen_21 rfl rfl (Nat.le_of_ble_eq_true rfl) rfl ?_
        refine kr_iinc (v := l3 + 1) (ls' := [some (.ref 17), some (.int l1), some (.int (l2 + 1)), some (.int (l3 + 1))]) dX4_stillOpen_24 rfl rfl (Nat.le_of_ble_eq_true rfl) rfl ?_
        refine kr_goto (tgt := 4) dX4_stillOpen_27 rfl ?_
        exact hk4 _ _ _ _ h
set_option maxRecDepth 20000 in
set_option maxHeartbeats 4000000 in
theorem RX4_stillOpen {Z : kv_Z} (e : Nat) {N : Nat} {G : kg_G} {l1 : Int32} {res : Int32} (h : fX4_stillOpen N G l1 = some res) : kv_M Z (e + 2) kMX4_stillOpen [.ref 17, .int l1] (kg_w G) (some (.int res)) (kg_w G) := by
  refine kv_M_of (ls := [some (.ref 17), some (.int l1), none, none]) (by decide) (Nat.le_of_ble_eq_true rfl) rfl ?_
  unfold fX4_stillOpen at h
  refine kr_iconst (v := 0) dX4_stillOpen_0 (by decide) ?_
  refine kr_istore_n (i := 2) (ls' := [some (.ref 17), some (.int l1), some (.int 0), none]) dX4_stillOpen_1 rfl (Nat.le_of_ble_eq_true rfl) rfl ?_
  refine kr_iload_n dX4_stillOpen_2 rfl ?_
  refine kr_istore_n (i := 3) (ls' := [some (.ref 17), some (.int l1), some (.int 0), some (.int l1)]) dX4_stillOpen_3 rfl (Nat.le_of_ble_eq_true rfl) rfl ?_
  exact RX4_stillOpen_4 e N _ _ _ _ h
set_option maxRecDepth 20000 in
set_option maxHeartbeats 4000000 in
theorem RX4_hindersLater {Z : kv_Z} (e : Nat) {G : kg_G} {l1 : Int32} {res : Int32} (h : fX4_hindersLater G l1 = some res) : kv_M Z (e + 0) kMX4_hindersLater [.ref 17, .int l1] (kg_w G) (some (.int res)) (kg_w G) := by
  refine kv_M_of (ls := [some (.ref 17), some (.int l1)]) (by decide) (Nat.le_of_ble_eq_true rfl) rfl ?_
  unfold fX4_hindersLater at h
  refine kr_aload_n dX4_hindersLater_0 rfl ?_
  refine kx_g17_3 kw1_119 dX4_hindersLater_1 ?_
  refine kr_iload_n dX4_hindersLater_4 rfl ?_
  obtain ⟨v1, hv1, h⟩ := Option.bind_eq_some_iff.mp h
  refine kx_a21 (G.2.1 21) rfl hv1 dX4_hindersLater_5 ?_
  refine kr_iload_n dX4_hindersLater_6 rfl ?_
  refine kr_iconst (v := 1) dX4_hindersLater_7 (by decide) ?_
  refine kr_iadd dX4_hindersLater_8 ?_
  refine kr_iushr dX4_hindersLater_9 ?_
  refine kr_if_eq (tgt := 17) dX4_hindersLater_10 rfl (fun c10 => ?_) (fun c10 => ?_)
  · rw [if_pos c10] at h
    refine kr_iconst (v := 0) dX4_hindersLater_17 (by decide) ?_
    cases h
    exact kr_zret rfl (by decide) dX4_hindersLater_18
  · rw [if_neg c10] at h
    refine kr_iconst (v := 1) dX4_hindersLater_13 (by decide) ?_
    refine kr_goto (tgt := 18) dX4_hindersLater_14 rfl ?_
    cases h
    exact kr_zret rfl (by decide) dX4_hindersLater_18
set_option maxRecDepth 20000 in
set_option maxHeartbeats 4000000 in
theorem RX4_choose_83 {Z : kv_Z} (e : Nat) {N : Nat} {rec : kg_G → Int32 → Int32 → Option (kg_G)} (hrec : ∀ (G : kg_G) (l1 : Int32) (l2 : Int32) (res : kg_G), rec G l1 l2 = some res → kv_M Z (e + 2) kMX4_choose [.ref 17, .int l1, .int l2] (kg_w G) none (kg_w res)) : ∀ (n : Nat) (G : kg_G) (l1 : Int32) (l2 : Int32) (l3 : Int32) (l4 : Int32) (res : kg_G), fX4_choose_83 N rec n G l1 l2 l3 l4 = some res → kv_V Z (e + 3) kMX4_choose 83 [some (.ref 17), some (.int l1), some (.int l2), some (.int l3), some (.int l4)] [] (kg_w G) none (kg_w res) := by
  intro n
  induction n with
  | zero => intro G l1 l2 l3 l4 res h; exact absurd h (by intro z; cases z)
  | succ n ih =>
    intro G l1 l2 l3 l4 res h
    have hk83 := ih
    rw [fX4_choose_83] at h
    refine kr_iload dX4_choose_83 rfl ?_
    refine kr_bipush (v := 32) dX4_choose_85 (by decide) ?_
    refine kr_icmp_ge (tgt := 132) dX4_choose_87 rfl (fun c87 => ?_) (fun c87 => ?_)
    · rw [if_pos c87] at h
      cases h
      exact kr_vret rfl dX4_choose_132
    · rw [if_neg c87] at h
      refine kr_iload_n dX4_choose_90 rfl ?_
      refine kr_iload dX4_choose_91 rfl ?_
      refine kr_callSNi (M' := kMX10_has) (As := [.int l3, .int l4]) (st := []) (RX10_has (e + 2) rfl) koX10_has rfl (by decide) kw3_16 rfl (Nat.le_of_ble_eq_true rfl) dX4_choose_93 ?_
      refine kr_if_eq (tgt := 126) dX4_choose_96 rfl (fun c96 => ?_) (fun c96 => ?_)
      · rw [if_pos c96] at h
        refine kr_iinc (v := l4 + 1) (ls' := [some (.ref 17), some (.int l1), some (.int l2), some (.int l3), some (.int (l4 + 1))]) dX4_choose_126 rfl rfl (Nat.le_of_ble_eq_true rfl) rfl ?_
        refine kr_goto (tgt := 83) dX4_choose_129 rfl ?_
        exact hk83 _ _ _ _ _ _ h
      · rw [if_neg c96] at h
        refine kr_aload_n dX4_choose_99 rfl ?_
        refine kx_g17_1 kw1_117 dX4_choose_100 ?_
        refine kr_iload_n dX4_choose_103 rfl ?_
        refine kr_iload dX4_choose_104 rfl ?_
        obtain ⟨v2, hv2, h⟩ := Option.bind_eq_some_iff.mp h
        refine kx_s19 (G.2.1 19) rfl hv2 dX4_choose_106 ?_
        refine kr_aload_n dX4_choose_107 rfl ?_
        refine kr_iload_n dX4_choose_108 rfl ?_
        refine kr_iconst (v := 1) dX4_choose_109 (by decide) ?_
        refine kr_iadd dX4_choose_110 ?_
        refine kr_iload_n dX4_choose_111 rfl ?_
        refine kr_iconst (v := 1) dX4_choose_112 (by decide) ?_
        refine kr_iadd dX4_choose_113 ?_
        obtain ⟨v3, hv3, h⟩ := Option.bind_eq_some_iff.mp h
        refine kr_callVv (M' := kMX4_choose) (a := 17) (As := [.int (l1 + 1), .int (l2 + 1)]) (st := []) (hrec _ _ _ _ hv3) koX4_choose rfl rfl rfl kw3_160 kw3_162 kws_6 rfl (Nat.le_of_ble_eq_true rfl) dX4_choose_114 ?_
        refine kr_aload_n dX4_choose_117 rfl ?_
        refine kr_iload_n dX4_choose_118 rfl ?_
        obtain ⟨v4, hv4, h⟩ := Option.bind_eq_some_iff.mp h
        refine kr_callVi (M' := kMX4_hindersLater) (a := 17) (As := [.int l1]) (st := []) (RX4_hindersLater (e + 2) hv4) koX4_hindersLater rfl rfl rfl kw3_176 kw3_178 kws_9 rfl (Nat.le_of_ble_eq_true rfl) dX4_choose_119 ?_
        refine kr_if_ne (tgt := 126) dX4_choose_122 rfl (fun c122 => ?_) (fun c122 => ?_)
        · rw [if_pos c122] at h
          cases h
          exact kr_vret rfl dX4_choose_125
        · rw [if_neg c122] at h
          refine kr_iinc (v := l4 + 1) (ls' := [some (.ref 17), some (.int l1), some (.int l2), some (.int l3), some (.int (l4 + 1))]) dX4_choose_126 rfl rfl (Nat.le_of_ble_eq_true rfl) rfl ?_
          refine kr_goto (tgt := 83) dX4_choose_129 rfl ?_
          exact hk83 _ _ _ _ _ _ h
set_option maxRecDepth 20000 in
set_option maxHeartbeats 4000000 in
theorem RX4_choose_65 {Z : kv_Z} (e : Nat) {N : Nat} {rec : kg_G → Int32 → Int32 → Option (kg_G)} (hrec : ∀ (G : kg_G) (l1 : Int32) (l2 : Int32) (res : kg_G), rec G l1 l2 = some res → kv_M Z (e + 2) kMX4_choose [.ref 17, .int l1, .int l2] (kg_w G) none (kg_w res)) : ∀ (G : kg_G) (l1 : Int32) (l2 : Int32) (l3 : Int32) (res : kg_G), fX4_choose_65 N rec G l1 l2 l3 = some res → kv_V Z (e + 3) kMX4_choose 65 [some (.ref 17), some (.int l1), some (.int l2), some (.int l3), none] [] (kg_w G) none (kg_w res) := by
  intro G l1 l2 l3 res h
  unfold fX4_choose_65 at h
  refine kr_aload_n dX4_choose_65 rfl ?_
  refine kx_g17_1 kw1_117 dX4_choose_66 ?_
  refine kr_iload_n dX4_choose_69 rfl ?_
  refine kr_iconst (v := 0) dX4_choose_70 (by decide) ?_
  obtain ⟨v1, hv1, h⟩ := Option.bind_eq_some_iff.mp h
  refine kx_s19 (G.2.1 19) rfl hv1 dX4_choose_71 ?_
  refine kr_aload_n dX4_choose_72 rfl ?_
  refine kr_iload_n dX4_choose_73 rfl ?_
  refine kr_iconst (v := 1) dX4_choose_74 (by decide) ?_
  refine kr_iadd dX4_choose_75 ?_
  refine kr_iload_n dX4_choose_76 rfl ?_
  obtain ⟨v2, hv2, h⟩ := Option.bind_eq_some_iff.mp h
  refine kr_callVv (M' := kMX4_choose) (a := 17) (As := [.int (l1 + 1), .int l2]) (st := []) (hrec _ _ _ _ hv2) koX4_choose rfl rfl rfl kw3_160 kw3_162 kws_6 rfl (Nat.le_of_ble_eq_true rfl) dX4_choose_77 ?_
  refine kr_iconst (v := 1) dX4_choose_80 (by decide) ?_
  refine kr_istore (ls' := [some (.ref 17), some (.int l1), some (.int l2), some (.int l3), some (.int 1)]) dX4_choose_81 (Nat.le_of_ble_eq_true rfl) rfl ?_
  exact RX4_choose_83 e hrec N _ _ _ _ _ _ h
set_option maxRecDepth 20000 in
set_option maxHeartbeats 4000000 in
theorem RX4_choose_0 {Z : kv_Z} (e : Nat) {N : Nat} {rec : kg_G → Int32 → Int32 → Option (kg_G)} (hrec : ∀ (G : kg_G) (l1 : Int32) (l2 : Int32) (res : kg_G), rec G l1 l2 = some res → kv_M Z (e + 2) kMX4_choose [.ref 17, .int l1, .int l2] (kg_w G) none (kg_w res)) : ∀ (G : kg_G) (l1 : Int32) (l2 : Int32) (res : kg_G), fX4_choose_0 N rec G l1 l2 = some res → kv_M Z (e + 3) kMX4_choose [.ref 17, .int l1, .int l2] (kg_w G) none (kg_w res) := by
  intro G l1 l2 res h
  refine kv_M_of (ls := [some (.ref 17), some (.int l1), some (.int l2), none, none]) (by decide) (Nat.le_of_ble_eq_true rfl) rfl ?_
  unfold fX4_choose_0 at h
  refine kr_iload_n dX4_choose_0 rfl ?_
  refine kr_aload_n dX4_choose_1 rfl ?_
  refine kr_iload_n dX4_choose_2 rfl ?_
  obtain ⟨v1, hv1, h⟩ := Option.bind_eq_some_iff.mp h
  refine kr_callVi (M' := kMX4_stillOpen) (a := 17) (As := [.int l1]) (st := [.int l2]) (RX4_stillOpen (e + 0) hv1) koX4_stillOpen rfl rfl rfl kw3_164 kw3_166 kws_7 rfl (Nat.le_of_ble_eq_true rfl) dX4_choose_3 ?_
  refine kr_iadd dX4_choose_6 ?_
  refine kr_aload_n dX4_choose_7 rfl ?_
  refine kx_g17_7 (G.1 17 7) rfl kw1_123 dX4_choose_8 ?_
  refine kr_icmp_gt (tgt := 15) dX4_choose_11 rfl (fun c11 => ?_) (fun c11 => ?_)
  · rw [if_pos c11] at h
    refine kr_iload_n dX4_choose_15 rfl ?_
    refine kr_aload_n dX4_choose_16 rfl ?_
    refine kx_g17_5 (G.1 17 5) rfl kw1_121 dX4_choose_17 ?_
    refine kr_icmp_lt (tgt := 46) dX4_choose_20 rfl (fun c20 => ?_) (fun c20 => ?_)
    · rw [if_pos c20] at h
      refine kr_aload_n dX4_choose_46 rfl ?_
      refine kr_iload_n dX4_choose_47 rfl ?_
      refine kr_iload_n dX4_choose_48 rfl ?_
      obtain ⟨v2, hv2, h⟩ := Option.bind_eq_some_iff.mp h
      refine kr_callVi (M' := kMX4_openWays) (a := 17) (As := [.int l1, .int l1]) (st := []) (RX4_openWays (e + 1) hv2) koX4_openWays rfl rfl rfl kw3_168 kw3_170 kws_8 rfl (Nat.le_of_ble_eq_true rfl) dX4_choose_49 ?_
      refine kr_istore_n (i := 3) (ls' := [some (.ref 17), some (.int l1), some (.int l2), some (.int v2), none]) dX4_choose_52 rfl (Nat.le_of_ble_eq_true rfl) rfl ?_
      refine kr_iload_n dX4_choose_53 rfl ?_
      refine kr_if_eq (tgt := 65) dX4_choose_54 rfl (fun c54 => ?_) (fun c54 => ?_)
      · rw [if_pos c54] at h
        exact RX4_choose_65 e hrec _ _ _ _ _ h
      · rw [if_neg c54] at h
        refine kr_aload_n dX4_choose_57 rfl ?_
        refine kr_iload_n dX4_choose_58 rfl ?_
        obtain ⟨v3, hv3, h⟩ := Option.bind_eq_some_iff.mp h
        refine kr_callVi (M' := kMX4_hindersLater) (a := 17) (As := [.int l1]) (st := []) (RX4_hindersLater (e + 2) hv3) koX4_hindersLater rfl rfl rfl kw3_176 kw3_178 kws_9 rfl (Nat.le_of_ble_eq_true rfl) dX4_choose_59 ?_
        refine kr_if_eq (tgt := 80) dX4_choose_62 rfl (fun c62 => ?_) (fun c62 => ?_)
        · rw [if_pos c62] at h
          refine kr_iconst (v := 1) dX4_choose_80 (by decide) ?_
          refine kr_istore (ls' := [some (.ref 17), some (.int l1), some (.int l2), some (.int v2), some (.int 1)]) dX4_choose_81 (Nat.le_of_ble_eq_true rfl) rfl ?_
          exact RX4_choose_83 e hrec N _ _ _ _ _ _ h
        · rw [if_neg c62] at h
          exact RX4_choose_65 e hrec _ _ _ _ _ h
    · rw [if_neg c20] at h
      refine kr_aload_n dX4_choose_23 rfl ?_
      refine kr_iload_n dX4_choose_24 rfl ?_
      refine kx_p17_7 kw1_123 dX4_choose_25 ?_
      refine kr_aload_n dX4_choose_28 rfl ?_
      refine kx_g17_1 kw1_117 dX4_choose_29 ?_
      refine kr_iconst (v := 0) dX4_choose_32 (by decide) ?_
      refine kr_aload_n dX4_choose_33 rfl ?_
      refine kx_g17_0 kw1_115 dX4_choose_34 ?_
      refine kr_iconst (v := 0) dX4_choose_37 (by decide) ?_
      refine kr_aload_n dX4_choose_38 rfl ?_
      refine kx_g17_5 (G.1 17 5) rfl kw1_121 dX4_choose_39 ?_
      obtain ⟨v4, hv4, h⟩ := Option.bind_eq_some_iff.mp h
      refine kx_cp (a := 19) (b := 18) (G.2.1 19) (G.2.1 18) (by decide) (by decide) rfl rfl hv4 kw3_173 kw3_175 kw3_174 kw1_21 (Nat.le_of_ble_eq_true rfl) dX4_choose_42 ?_
      cases h
      exact kr_vret rfl dX4_choose_45
  · rw [if_neg c11] at h
    cases h
    exact kr_vret rfl dX4_choose_14
set_option maxRecDepth 20000 in
set_option maxHeartbeats 4000000 in
theorem RX4_choose {Z : kv_Z} {N : Nat} : ∀ (n e : Nat) (G : kg_G) (l1 : Int32) (l2 : Int32) (res : kg_G), fX4_choose N n G l1 l2 = some res → kv_M Z (e + n + 2) kMX4_choose [.ref 17, .int l1, .int l2] (kg_w G) none (kg_w res) := by
  intro n
  induction n with
  | zero => intro e G l1 l2 res h; exact absurd h (by intro z; cases z)
  | succ n ih =>
    intro e G l1 l2 res h
    have h : fX4_choose_0 N (fX4_choose N n) G l1 l2 = some res := h
    have := RX4_choose_0 (Z := Z) (e + n) (fun G l1 l2 res h => ih e G l1 l2 res h) G l1 l2 res h
    exact this
set_option maxRecDepth 20000 in
set_option maxHeartbeats 4000000 in
theorem RX4_search {Z : kv_Z} (e : Nat) {N : Nat} {G : kg_G} {l1 : Int32} {l2 : Int32} {res : Int32 × kg_G} (h : fX4_search N G l1 l2 = some res) : kv_M Z (e + 10) kMX4_search [.ref 17, .int l1, .int l2] (kg_w G) (some (.int res.1)) (kg_w res.2) := by
  refine kv_M_of (ls := [some (.ref 17), some (.int l1), some (.int l2)]) (by decide) (Nat.le_of_ble_eq_true rfl) rfl ?_
  unfold fX4_search at h
  refine kr_aload_n dX4_search_0 rfl ?_
  refine kr_bipush (v := 31) dX4_search_1 (by decide) ?_
  refine kr_iload_n dX4_search_3 rfl ?_
  refine kr_iconst (v := (-1)) dX4_search_4 (by decide) ?_
  refine kr_ixor dX4_search_5 ?_
  refine kr_iand dX4_search_6 ?_
  refine kx_p17_6 kw1_122 dX4_search_7 ?_
  refine kr_aload_n dX4_search_10 rfl ?_
  refine kr_iload_n dX4_search_11 rfl ?_
  refine kx_p17_7 kw1_123 dX4_search_12 ?_
  refine kr_aload_n dX4_search_15 rfl ?_
  refine kx_g17_0 kw1_115 dX4_search_16 ?_
  refine kr_iconst (v := 0) dX4_search_19 (by decide) ?_
  obtain ⟨v1, hv1, h⟩ := Option.bind_eq_some_iff.mp h
  refine kr_callSv (M' := kMJ7_fill_53178) (As := [.ref 18, .int 0]) (st := []) (RJ7_fill_53178 (e + 9) hv1) koJ7_fill_53178 rfl kw3_159 kw2_202 rfl (Nat.le_of_ble_eq_true rfl) dX4_search_20 ?_
  refine kr_aload_n dX4_search_23 rfl ?_
  refine kr_iconst (v := 0) dX4_search_24 (by decide) ?_
  refine kr_iconst (v := 0) dX4_search_25 (by decide) ?_
  obtain ⟨v2, hv2, h⟩ := Option.bind_eq_some_iff.mp h
  refine kr_callVv (M' := kMX4_choose) (a := 17) (As := [.int 0, .int 0]) (st := []) (RX4_choose 7 (e + 0) _ _ _ _ hv2) koX4_choose rfl rfl rfl kw3_160 kw3_162 kws_6 rfl (Nat.le_of_ble_eq_true rfl) dX4_search_26 ?_
  refine kr_aload_n dX4_search_29 rfl ?_
  refine kx_g17_7 (v2.1 17 7) rfl kw1_123 dX4_search_30 ?_
  cases h
  exact kr_iret rfl dX4_search_33
set_option maxRecDepth 20000 in
set_option maxHeartbeats 4000000 in
theorem RX10_planMost {Z : kv_Z} (e : Nat) {N : Nat} {G : kg_G} {res : Int32 × kg_G} (h : fX10_planMost N G = some res) : kv_M Z (e + 11) kMX10_planMost [.ref 0] (kg_w G) (some (.int res.1)) (kg_w res.2) := by
  refine kv_M_of (ls := [some (.ref 0)]) (by decide) (Nat.le_of_ble_eq_true rfl) rfl ?_
  unfold fX10_planMost at h
  refine kr_aload_n dX10_planMost_0 rfl ?_
  refine kr_dup dX10_planMost_1 rfl ?_
  refine kx_g0_8 (G.1 0 8) rfl kw1_196 dX10_planMost_2 ?_
  refine kr_iconst (v := 1) dX10_planMost_5 (by decide) ?_
  refine kr_iadd dX10_planMost_6 ?_
  refine kx_p0_8 kw1_196 dX10_planMost_7 ?_
  refine kr_aload_n dX10_planMost_10 rfl ?_
  refine kx_g0_3 kw1_191 dX10_planMost_11 ?_
  refine kr_aload_n dX10_planMost_14 rfl ?_
  refine kx_g0_5 G.2.2.2.1 rfl kw1_193 dX10_planMost_15 ?_
  refine kr_aload_n dX10_planMost_18 rfl ?_
  refine kx_g0_1 kw1_189 dX10_planMost_19 ?_
  refine kx_g3_0 kw1_53 dX10_planMost_22 ?_
  obtain ⟨v1, hv1, h⟩ := Option.bind_eq_some_iff.mp h
  refine kr_callVv (M' := kMX4_prepare) (a := 17) (As := [.ref G.2.2.2.1, .ref 4]) (st := []) (RX4_prepare (e + 7) hv1) koX4_prepare rfl rfl rfl kw3_148 kw3_149 kw3_150 rfl (Nat.le_of_ble_eq_true rfl) dX10_planMost_25 ?_
  refine kr_aload_n dX10_planMost_28 rfl ?_
  refine kx_g0_3 kw1_191 dX10_planMost_29 ?_
  refine kr_aload_n dX10_planMost_32 rfl ?_
  refine kx_g0_1 kw1_189 dX10_planMost_33 ?_
  refine kx_g3_6 (v1.1 3 6) rfl kw1_65 dX10_planMost_36 ?_
  refine kr_iconst (v := (-1)) dX10_planMost_39 (by decide) ?_
  obtain ⟨v2, hv2, h⟩ := Option.bind_eq_some_iff.mp h
  refine kr_callVi (M' := kMX4_search) (a := 17) (As := [.int (v1.1 3 6), .int (-1)]) (st := []) (RX4_search (e + 0) hv2) koX4_search rfl rfl rfl kw3_155 kw3_156 kw3_157 rfl (Nat.le_of_ble_eq_true rfl) dX10_planMost_40 ?_
  cases h
  exact kr_iret rfl dX10_planMost_43
set_option maxRecDepth 20000 in
set_option maxHeartbeats 4000000 in
theorem RX10_fill_26 {Z : kv_Z} (e : Nat) {N : Nat} : ∀ (n : Nat) (G : kg_G) (l1 : Int32) (l2 : Int32) (res : Int32 × kg_G), fX10_fill_26 N n G l1 l2 = some res → kv_V Z (e + 12) kMX10_fill 26 [some (.ref 0), some (.int l1), some (.int l2)] [] (kg_w G) (some (.int res.1)) (kg_w res.2) := by
  intro n
  induction n with
  | zero => intro G l1 l2 res h; exact absurd h (by intro z; cases z)
  | succ n ih =>
    intro G l1 l2 res h
    have hk26 := ih
    rw [fX10_fill_26] at h
    refine kr_iload_n dX10_fill_26 rfl ?_
    refine kr_iconst (v := 5) dX10_fill_27 (by decide) ?_
    refine kr_icmp_ge (tgt := 55) dX10_fill_28 rfl (fun c28 => ?_) (fun c28 => ?_)
    · rw [if_pos c28] at h
      refine kr_iload_n dX10_fill_55 rfl ?_
      cases h
      exact kr_iret rfl dX10_fill_56
    · rw [if_neg c28] at h
      refine kr_aload_n dX10_fill_31 rfl ?_
      refine kx_g0_1 kw1_189 dX10_fill_32 ?_
      refine kx_g3_3 kw1_61 dX10_fill_35 ?_
      refine kr_iload_n dX10_fill_38 rfl ?_
      refine kr_aload_n dX10_fill_39 rfl ?_
      refine kx_g0_3 kw1_191 dX10_fill_40 ?_
      refine kx_g17_0 kw1_116 dX10_fill_43 ?_
      refine kr_iload_n dX10_fill_46 rfl ?_
      obtain ⟨v1, hv1, h⟩ := Option.bind_eq_some_iff.mp h
      refine kx_a18 (G.2.1 18) rfl hv1 dX10_fill_47 ?_
      obtain ⟨v2, hv2, h⟩ := Option.bind_eq_some_iff.mp h
      refine kx_s7 (G.2.1 7) rfl hv2 dX10_fill_48 ?_
      refine kr_iinc (v := l2 + 1) (ls' := [some (.ref 0), some (.int l1), some (.int (l2 + 1))]) dX10_fill_49 rfl rfl (Nat.le_of_ble_eq_true rfl) rfl ?_
      refine kr_goto (tgt := 26) dX10_fill_52 rfl ?_
      exact hk26 _ _ _ _ h
set_option maxRecDepth 20000 in
set_option maxHeartbeats 4000000 in
theorem RX10_fill {Z : kv_Z} (e : Nat) {N : Nat} {G : kg_G} {res : Int32 × kg_G} (h : fX10_fill N G = some res) : kv_M Z (e + 12) kMX10_fill [.ref 0] (kg_w G) (some (.int res.1)) (kg_w res.2) := by
  refine kv_M_of (ls := [some (.ref 0), none, none]) (by decide) (Nat.le_of_ble_eq_true rfl) rfl ?_
  unfold fX10_fill at h
  refine kr_aload_n dX10_fill_0 rfl ?_
  obtain ⟨v1, hv1, h⟩ := Option.bind_eq_some_iff.mp h
  refine kr_callVi (M' := kMX10_hasShow) (a := 0) (As := []) (st := []) (RX10_hasShow (e + 11) hv1) koX10_hasShow rfl rfl rfl kw3_140 kw3_142 kws_4 rfl (Nat.le_of_ble_eq_true rfl) dX10_fill_1 ?_
  refine kr_if_eq (tgt := 16) dX10_fill_4 rfl (fun c4 => ?_) (fun c4 => ?_)
  · rw [if_pos c4] at h
    refine kr_bipush (v := (-103)) dX10_fill_16 (by decide) ?_
    cases h
    exact kr_iret rfl dX10_fill_18
  · rw [if_neg c4] at h
    refine kr_aload_n dX10_fill_7 rfl ?_
    refine kx_g0_8 (G.1 0 8) rfl kw1_196 dX10_fill_8 ?_
    refine kr_bipush (v := 16) dX10_fill_11 (by decide) ?_
    refine kr_icmp_lt (tgt := 19) dX10_fill_13 rfl (fun c13 => ?_) (fun c13 => ?_)
    · rw [if_pos c13] at h
      refine kr_aload_n dX10_fill_19 rfl ?_
      obtain ⟨v2, hv2, h⟩ := Option.bind_eq_some_iff.mp h
      refine kr_callVi (M' := kMX10_planMost) (a := 0) (As := []) (st := []) (RX10_planMost (e + 0) hv2) koX10_planMost rfl rfl rfl kw3_144 kw3_146 kws_5 rfl (Nat.le_of_ble_eq_true rfl) dX10_fill_20 ?_
      refine kr_istore_n (i := 1) (ls' := [some (.ref 0), some (.int v2.1), none]) dX10_fill_23 rfl (Nat.le_of_ble_eq_true rfl) rfl ?_
      refine kr_iconst (v := 0) dX10_fill_24 (by decide) ?_
      refine kr_istore_n (i := 2) (ls' := [some (.ref 0), some (.int v2.1), some (.int 0)]) dX10_fill_25 rfl (Nat.le_of_ble_eq_true rfl) rfl ?_
      exact RX10_fill_26 e N _ _ _ _ h
    · rw [if_neg c13] at h
      refine kr_bipush (v := (-103)) dX10_fill_16 (by decide) ?_
      cases h
      exact kr_iret rfl dX10_fill_18
set_option maxRecDepth 20000 in
set_option maxHeartbeats 4000000 in
theorem RX9_holdRopes_2 {Z : kv_Z} (e : Nat) {N : Nat} : ∀ (n : Nat) (G : kg_G) (l1 : Int32) (l2 : Int32) (res : kg_G), fX9_holdRopes_2 N n G l1 l2 = some res → kv_V Z (e + 1) kMX9_holdRopes 2 [some (.ref 3), some (.int l1), some (.int l2)] [] (kg_w G) none (kg_w res) := by
  intro n
  induction n with
  | zero => intro G l1 l2 res h; exact absurd h (by intro z; cases z)
  | succ n ih =>
    intro G l1 l2 res h
    have hk2 := ih
    rw [fX9_holdRopes_2] at h
    refine kr_iload_n dX9_holdRopes_2 rfl ?_
    refine kr_iconst (v := 5) dX9_holdRopes_3 (by decide) ?_
    refine kr_icmp_ge (tgt := 31) dX9_holdRopes_4 rfl (fun c4 => ?_) (fun c4 => ?_)
    · rw [if_pos c4] at h
      cases h
      exact kr_vret rfl dX9_holdRopes_31
    · rw [if_neg c4] at h
      refine kr_iload_n dX9_holdRopes_7 rfl ?_
      refine kr_iload_n dX9_holdRopes_8 rfl ?_
      refine kr_callSNi (M' := kMX10_has) (As := [.int l1, .int l2]) (st := []) (RX10_has (e + 0) rfl) koX10_has rfl (by decide) kw3_16 rfl (Nat.le_of_ble_eq_true rfl) dX9_holdRopes_9 ?_
      refine kr_if_eq (tgt := 25) dX9_holdRopes_12 rfl (fun c12 => ?_) (fun c12 => ?_)
      · rw [if_pos c12] at h
        refine kr_iinc (v := l2 + 1) (ls' := [some (.ref 3), some (.int l1), some (.int (l2 + 1))]) dX9_holdRopes_25 rfl rfl (Nat.le_of_ble_eq_true rfl) rfl ?_
        refine kr_goto (tgt := 2) dX9_holdRopes_28 rfl ?_
        exact hk2 _ _ _ _ h
      · rw [if_neg c12] at h
        refine kr_aload_n dX9_holdRopes_15 rfl ?_
        refine kx_g3_2 kw1_58 dX9_holdRopes_16 ?_
        refine kr_iload_n dX9_holdRopes_19 rfl ?_
        refine kr_dup2 dX9_holdRopes_20 rfl rfl ?_
        obtain ⟨v2, hv2, h⟩ := Option.bind_eq_some_iff.mp h
        refine kx_a6 (G.2.1 6) rfl hv2 dX9_holdRopes_21 ?_
        refine kr_iconst (v := 1) dX9_holdRopes_22 (by decide) ?_
        refine kr_iadd dX9_holdRopes_23 ?_
        obtain ⟨v3, hv3, h⟩ := Option.bind_eq_some_iff.mp h
        refine kx_s6 (G.2.1 6) rfl hv3 dX9_holdRopes_24 ?_
        refine kr_iinc (v := l2 + 1) (ls' := [some (.ref 3), some (.int l1), some (.int (l2 + 1))]) dX9_holdRopes_25 rfl rfl (Nat.le_of_ble_eq_true rfl) rfl ?_
        refine kr_goto (tgt := 2) dX9_holdRopes_28 rfl ?_
        exact hk2 _ _ _ _ h
set_option maxRecDepth 20000 in
set_option maxHeartbeats 4000000 in
theorem RX9_holdRopes {Z : kv_Z} (e : Nat) {N : Nat} {G : kg_G} {l1 : Int32} {res : kg_G} (h : fX9_holdRopes N G l1 = some res) : kv_M Z (e + 1) kMX9_holdRopes [.ref 3, .int l1] (kg_w G) none (kg_w res) := by
  refine kv_M_of (ls := [some (.ref 3), some (.int l1), none]) (by decide) (Nat.le_of_ble_eq_true rfl) rfl ?_
  unfold fX9_holdRopes at h
  refine kr_iconst (v := 0) dX9_holdRopes_0 (by decide) ?_
  refine kr_istore_n (i := 2) (ls' := [some (.ref 3), some (.int l1), some (.int 0)]) dX9_holdRopes_1 rfl (Nat.le_of_ble_eq_true rfl) rfl ?_
  exact RX9_holdRopes_2 e N _ _ _ _ h
set_option maxRecDepth 20000 in
set_option maxHeartbeats 4000000 in
theorem RX10_night_31 {Z : kv_Z} (e : Nat) {N : Nat} : ∀ (n : Nat) (G : kg_G) (l1 : Int32) (l2 : Int32) (l3 : Int32) (res : Int32 × kg_G), fX10_night_31 N n G l1 l2 l3 = some res → kv_V Z (e + 3) kMX10_night 31 [some (.ref 0), some (.int l1), some (.int l2), some (.int l3)] [] (kg_w G) (some (.int res.1)) (kg_w res.2) := by
  intro n
  induction n with
  | zero => intro G l1 l2 l3 res h; exact absurd h (by intro z; cases z)
  | succ n ih =>
    intro G l1 l2 l3 res h
    have hk31 := ih
    rw [fX10_night_31] at h
    refine kr_iload_n dX10_night_31 rfl ?_
    refine kr_aload_n dX10_night_32 rfl ?_
    refine kx_g0_5 G.2.2.2.1 rfl kw1_193 dX10_night_33 ?_
    obtain ⟨v1, hv1, h⟩ := Option.bind_eq_some_iff.mp h
    refine kx_bt hv1 kw1_180 dX10_night_36 ?_
    obtain ⟨v2, hv2, h⟩ := Option.bind_eq_some_iff.mp h
    refine kx_tl hv2 dX10_night_39 ?_
    refine kr_icmp_ge (tgt := 72) dX10_night_40 rfl (fun c40 => ?_) (fun c40 => ?_)
    · rw [if_pos c40] at h
      refine kr_aload_n dX10_night_72 rfl ?_
      refine kx_g0_1 kw1_189 dX10_night_73 ?_
      refine kr_iload_n dX10_night_76 rfl ?_
      obtain ⟨v3, hv3, h⟩ := Option.bind_eq_some_iff.mp h
      refine kr_callVv (M' := kMX9_holdRopes) (a := 3) (As := [.int l1]) (st := []) (RX9_holdRopes (e + 1) hv3) koX9_holdRopes rfl rfl rfl kw3_184 kw3_185 kw3_186 rfl (Nat.le_of_ble_eq_true rfl) dX10_night_77 ?_
      refine kr_aload_n dX10_night_80 rfl ?_
      refine kx_g0_1 kw1_189 dX10_night_81 ?_
      refine kr_dup dX10_night_84 rfl ?_
      refine kx_g3_8 (v3.1 3 8) rfl kw1_69 dX10_night_85 ?_
      refine kr_iconst (v := 1) dX10_night_88 (by decide) ?_
      refine kr_iadd dX10_night_89 ?_
      refine kx_p3_8 kw1_69 dX10_night_90 ?_
      refine kr_aload_n dX10_night_93 rfl ?_
      refine kx_g0_1 kw1_189 dX10_night_94 ?_
      refine kr_dup dX10_night_97 rfl ?_
      refine kx_g3_9 (v3.1 3 9) rfl kw1_71 dX10_night_98 ?_
      refine kr_iload_n dX10_night_101 rfl ?_
      refine kr_iadd dX10_night_102 ?_
      refine kx_p3_9 kw1_71 dX10_night_103 ?_
      refine kr_iload_n dX10_night_106 rfl ?_
      cases h
      exact kr_iret rfl dX10_night_107
    · rw [if_neg c40] at h
      refine kr_aload_n dX10_night_43 rfl ?_
      refine kr_iload_n dX10_night_44 rfl ?_
      obtain ⟨v4, hv4, h⟩ := Option.bind_eq_some_iff.mp h
      refine kr_callVi (M' := kMX10_isDoneNow) (a := 0) (As := [.int l3]) (st := []) (RX10_isDoneNow (e + 0) hv4) koX10_isDoneNow rfl rfl rfl kw3_0 kw3_2 kws_1 rfl (Nat.le_of_ble_eq_true rfl) dX10_night_45 ?_
      refine kr_if_eq (tgt := 66) dX10_night_48 rfl (fun c48 => ?_) (fun c48 => ?_)
      · rw [if_pos c48] at h
        refine kr_iinc (v := l3 + 1) (ls' := [some (.ref 0), some (.int l1), some (.int l2), some (.int (l3 + 1))]) dX10_night_66 rfl rfl (Nat.le_of_ble_eq_true rfl) rfl ?_
        refine kr_goto (tgt := 31) dX10_night_69 rfl ?_
        exact hk31 _ _ _ _ _ h
      · rw [if_neg c48] at h
        refine kr_iinc (v := l2 + 1) (ls' := [some (.ref 0), some (.int l1), some (.int (l2 + 1)), some (.int l3)]) dX10_night_51 rfl rfl (Nat.le_of_ble_eq_true rfl) rfl ?_
        refine kr_iload_n dX10_night_54 rfl ?_
        refine kr_aload_n dX10_night_55 rfl ?_
        refine kx_g0_1 kw1_189 dX10_night_56 ?_
        refine kx_g3_3 kw1_61 dX10_night_59 ?_
        refine kr_iload_n dX10_night_62 rfl ?_
        obtain ⟨v5, hv5, h⟩ := Option.bind_eq_some_iff.mp h
        refine kx_a7 (G.2.1 7) rfl hv5 dX10_night_63 ?_
        refine kr_ior dX10_night_64 ?_
        refine kr_istore_n (i := 1) (ls' := [some (.ref 0), some (.int (l1 ||| v5)), some (.int (l2 + 1)), some (.int l3)]) dX10_night_65 rfl (Nat.le_of_ble_eq_true rfl) rfl ?_
        refine kr_iinc (v := l3 + 1) (ls' := [some (.ref 0), some (.int (l1 ||| v5)), some (.int (l2 + 1)), some (.int (l3 + 1))]) dX10_night_66 rfl rfl (Nat.le_of_ble_eq_true rfl) rfl ?_
        refine kr_goto (tgt := 31) dX10_night_69 rfl ?_
        exact hk31 _ _ _ _ _ h
set_option maxRecDepth 20000 in
set_option maxHeartbeats 4000000 in
theorem RX10_night {Z : kv_Z} (e : Nat) {N : Nat} {G : kg_G} {res : Int32 × kg_G} (h : fX10_night N G = some res) : kv_M Z (e + 3) kMX10_night [.ref 0] (kg_w G) (some (.int res.1)) (kg_w res.2) := by
  refine kv_M_of (ls := [some (.ref 0), none, none, none]) (by decide) (Nat.le_of_ble_eq_true rfl) rfl ?_
  unfold fX10_night at h
  refine kr_aload_n dX10_night_0 rfl ?_
  obtain ⟨v1, hv1, h⟩ := Option.bind_eq_some_iff.mp h
  refine kr_callVi (M' := kMX10_hasShow) (a := 0) (As := []) (st := []) (RX10_hasShow (e + 2) hv1) koX10_hasShow rfl rfl rfl kw3_140 kw3_142 kws_4 rfl (Nat.le_of_ble_eq_true rfl) dX10_night_1 ?_
  refine kr_if_ne (tgt := 10) dX10_night_4 rfl (fun c4 => ?_) (fun c4 => ?_)
  · rw [if_pos c4] at h
    refine kr_bipush (v := (-103)) dX10_night_7 (by decide) ?_
    cases h
    exact kr_iret rfl dX10_night_9
  · rw [if_neg c4] at h
    refine kr_aload_n dX10_night_10 rfl ?_
    refine kx_g0_1 kw1_189 dX10_night_11 ?_
    refine kx_g3_8 (G.1 3 8) rfl kw1_69 dX10_night_14 ?_
    refine kr_bipush (v := 99) dX10_night_17 (by decide) ?_
    refine kr_icmp_lt (tgt := 25) dX10_night_19 rfl (fun c19 => ?_) (fun c19 => ?_)
    · rw [if_pos c19] at h
      refine kr_iconst (v := 0) dX10_night_25 (by decide) ?_
      refine kr_istore_n (i := 1) (ls' := [some (.ref 0), some (.int 0), none, none]) dX10_night_26 rfl (Nat.le_of_ble_eq_true rfl) rfl ?_
      refine kr_iconst (v := 0) dX10_night_27 (by decide) ?_
      refine kr_istore_n (i := 2) (ls' := [some (.ref 0), some (.int 0), some (.int 0), none]) dX10_night_28 rfl (Nat.le_of_ble_eq_true rfl) rfl ?_
      refine kr_iconst (v := 0) dX10_night_29 (by decide) ?_
      refine kr_istore_n (i := 3) (ls' := [some (.ref 0), some (.int 0), some (.int 0), some (.int 0)]) dX10_night_30 rfl (Nat.le_of_ble_eq_true rfl) rfl ?_
      exact RX10_night_31 e N _ _ _ _ _ h
    · rw [if_neg c19] at h
      refine kr_bipush (v := (-104)) dX10_night_22 (by decide) ?_
      cases h
      exact kr_iret rfl dX10_night_24
set_option maxRecDepth 20000 in
set_option maxHeartbeats 4000000 in
theorem RX10_move_39 {Z : kv_Z} (e : Nat) : ∀ (G : kg_G) (s1 : Int32) (res : Int32 × kg_G), fX10_move_39 G s1 = some res → kv_V Z (e + 1) kMX10_move 39 [some (.ref 0), none] [.int s1, .ref 3] (kg_w G) (some (.int res.1)) (kg_w res.2) := by
  intro G s1 res h
  unfold fX10_move_39 at h
  refine kr_bipush (v := 6) dX10_move_39 (by decide) ?_
  obtain ⟨v1, hv1, h⟩ := Option.bind_eq_some_iff.mp h
  refine kr_callSi (M' := kMJ9_floorMod_7cf53) (As := [.int s1, .int 6]) (st := [.ref 3]) (RJ9_floorMod_7cf53 (e + 0) hv1) koJ9_floorMod_7cf53 rfl kw3_192 kw3_193 rfl (Nat.le_of_ble_eq_true rfl) dX10_move_41 ?_
  refine kx_p3_7 kw1_67 dX10_move_44 ?_
  refine kr_aload_n dX10_move_47 rfl ?_
  refine kx_g0_1 kw1_189 dX10_move_48 ?_
  refine kr_dup dX10_move_51 rfl ?_
  refine kx_g3_10 (G.1 3 10) rfl kw1_73 dX10_move_52 ?_
  refine kr_iconst (v := 1) dX10_move_55 (by decide) ?_
  refine kr_iadd dX10_move_56 ?_
  refine kx_p3_10 kw1_73 dX10_move_57 ?_
  refine kr_aload_n dX10_move_60 rfl ?_
  refine kx_g0_1 kw1_189 dX10_move_61 ?_
  refine kx_g3_7 v1 rfl kw1_67 dX10_move_64 ?_
  cases h
  exact kr_iret rfl dX10_move_67
set_option maxRecDepth 20000 in
set_option maxHeartbeats 4000000 in
theorem RX10_move {Z : kv_Z} (e : Nat) {G : kg_G} {l1 : Int32} {res : Int32 × kg_G} (h : fX10_move G l1 = some res) : kv_M Z (e + 1) kMX10_move [.ref 0, .int l1] (kg_w G) (some (.int res.1)) (kg_w res.2) := by
  refine kv_M_of (ls := [some (.ref 0), some (.int l1)]) (by decide) (Nat.le_of_ble_eq_true rfl) rfl ?_
  unfold fX10_move at h
  refine kr_aload_n dX10_move_0 rfl ?_
  obtain ⟨v1, hv1, h⟩ := Option.bind_eq_some_iff.mp h
  refine kr_callVi (M' := kMX10_hasShow) (a := 0) (As := []) (st := []) (RX10_hasShow (e + 0) hv1) koX10_hasShow rfl rfl rfl kw3_140 kw3_142 kws_4 rfl (Nat.le_of_ble_eq_true rfl) dX10_move_1 ?_
  refine kr_if_ne (tgt := 10) dX10_move_4 rfl (fun c4 => ?_) (fun c4 => ?_)
  · rw [if_pos c4] at h
    refine kr_bipush (v := (-103)) dX10_move_7 (by decide) ?_
    cases h
    exact kr_iret rfl dX10_move_9
  · rw [if_neg c4] at h
    refine kr_aload_n dX10_move_10 rfl ?_
    refine kx_g0_1 kw1_189 dX10_move_11 ?_
    refine kr_iload_n dX10_move_14 rfl ?_
    refine kr_if_eq (tgt := 30) dX10_move_15 rfl (fun c15 => ?_) (fun c15 => ?_)
    · rw [if_pos c15] at h
      refine kr_aload_n dX10_move_30 rfl ?_
      refine kx_g0_1 kw1_189 dX10_move_31 ?_
      refine kx_g3_7 (G.1 3 7) rfl kw1_67 dX10_move_34 ?_
      refine kr_iconst (v := 1) dX10_move_37 (by decide) ?_
      refine kr_isub dX10_move_38 ?_
      refine kv_loc (ls' := [some (.ref 0), none]) (And.intro rfl trivial) ?_
      exact RX10_move_39 e _ _ _ h
    · rw [if_neg c15] at h
      refine kr_aload_n dX10_move_18 rfl ?_
      refine kx_g0_1 kw1_189 dX10_move_19 ?_
      refine kx_g3_7 (G.1 3 7) rfl kw1_67 dX10_move_22 ?_
      refine kr_iconst (v := 1) dX10_move_25 (by decide) ?_
      refine kr_iadd dX10_move_26 ?_
      refine kr_goto (tgt := 39) dX10_move_27 rfl ?_
      refine kv_loc (ls' := [some (.ref 0), none]) (And.intro rfl trivial) ?_
      exact RX10_move_39 e _ _ _ h
set_option maxRecDepth 20000 in
set_option maxHeartbeats 4000000 in
theorem RX9_leave_16 {Z : kv_Z} (e : Nat) {N : Nat} : ∀ (n : Nat) (G : kg_G) (l1 : Int32) (l2 : Int32) (res : kg_G), fX9_leave_16 N n G l1 l2 = some res → kv_V Z (e + 0) kMX9_leave 16 [some (.ref 3), some (.int l1), some (.int l2)] [] (kg_w G) none (kg_w res) := by
  intro n
  induction n with
  | zero => intro G l1 l2 res h; exact absurd h (by intro z; cases z)
  | succ n ih =>
    intro G l1 l2 res h
    have hk16 := ih
    rw [fX9_leave_16] at h
    refine kr_iload_n dX9_leave_16 rfl ?_
    refine kr_iconst (v := 5) dX9_leave_17 (by decide) ?_
    refine kr_icmp_ge (tgt := 41) dX9_leave_18 rfl (fun c18 => ?_) (fun c18 => ?_)
    · rw [if_pos c18] at h
      refine kr_aload_n dX9_leave_41 rfl ?_
      refine kr_dup dX9_leave_42 rfl ?_
      refine kx_g3_12 (G.1 3 12) rfl kw1_76 dX9_leave_43 ?_
      refine kr_iconst (v := 1) dX9_leave_46 (by decide) ?_
      refine kr_iadd dX9_leave_47 ?_
      refine kx_p3_12 kw1_76 dX9_leave_48 ?_
      cases h
      exact kr_vret rfl dX9_leave_51
    · rw [if_neg c18] at h
      refine kr_aload_n dX9_leave_21 rfl ?_
      refine kx_g3_3 kw1_60 dX9_leave_22 ?_
      refine kr_iload_n dX9_leave_25 rfl ?_
      refine kr_dup2 dX9_leave_26 rfl rfl ?_
      obtain ⟨v1, hv1, h⟩ := Option.bind_eq_some_iff.mp h
      refine kx_a7 (G.2.1 7) rfl hv1 dX9_leave_27 ?_
      refine kr_iconst (v := 1) dX9_leave_28 (by decide) ?_
      refine kr_iload_n dX9_leave_29 rfl ?_
      refine kr_ishl dX9_leave_30 ?_
      refine kr_iconst (v := (-1)) dX9_leave_31 (by decide) ?_
      refine kr_ixor dX9_leave_32 ?_
      refine kr_iand dX9_leave_33 ?_
      obtain ⟨v2, hv2, h⟩ := Option.bind_eq_some_iff.mp h
      refine kx_s7 (G.2.1 7) rfl hv2 dX9_leave_34 ?_
      refine kr_iinc (v := l2 + 1) (ls' := [some (.ref 3), some (.int l1), some (.int (l2 + 1))]) dX9_leave_35 rfl rfl (Nat.le_of_ble_eq_true rfl) rfl ?_
      refine kr_goto (tgt := 16) dX9_leave_38 rfl ?_
      exact hk16 _ _ _ _ h
set_option maxRecDepth 20000 in
set_option maxHeartbeats 4000000 in
theorem RX9_leave {Z : kv_Z} (e : Nat) {N : Nat} {G : kg_G} {l1 : Int32} {res : kg_G} (h : fX9_leave N G l1 = some res) : kv_M Z (e + 0) kMX9_leave [.ref 3, .int l1] (kg_w G) none (kg_w res) := by
  refine kv_M_of (ls := [some (.ref 3), some (.int l1), none]) (by decide) (Nat.le_of_ble_eq_true rfl) rfl ?_
  unfold fX9_leave at h
  refine kr_aload_n dX9_leave_0 rfl ?_
  refine kr_dup dX9_leave_1 rfl ?_
  refine kx_g3_6 (G.1 3 6) rfl kw1_64 dX9_leave_2 ?_
  refine kr_iconst (v := 1) dX9_leave_5 (by decide) ?_
  refine kr_iload_n dX9_leave_6 rfl ?_
  refine kr_ishl dX9_leave_7 ?_
  refine kr_iconst (v := (-1)) dX9_leave_8 (by decide) ?_
  refine kr_ixor dX9_leave_9 ?_
  refine kr_iand dX9_leave_10 ?_
  refine kx_p3_6 kw1_64 dX9_leave_11 ?_
  refine kr_iconst (v := 0) dX9_leave_14 (by decide) ?_
  refine kr_istore_n (i := 2) (ls' := [some (.ref 3), some (.int l1), some (.int 0)]) dX9_leave_15 rfl (Nat.le_of_ble_eq_true rfl) rfl ?_
  exact RX9_leave_16 e N _ _ _ _ h
set_option maxRecDepth 20000 in
set_option maxHeartbeats 4000000 in
theorem RX10_letGo {Z : kv_Z} (e : Nat) {N : Nat} {G : kg_G} {l1 : Int32} {res : Int32 × kg_G} (h : fX10_letGo N G l1 = some res) : kv_M Z (e + 1) kMX10_letGo [.ref 0, .int l1] (kg_w G) (some (.int res.1)) (kg_w res.2) := by
  refine kv_M_of (ls := [some (.ref 0), some (.int l1)]) (by decide) (Nat.le_of_ble_eq_true rfl) rfl ?_
  unfold fX10_letGo at h
  refine kr_aload_n dX10_letGo_0 rfl ?_
  refine kr_iload_n dX10_letGo_1 rfl ?_
  obtain ⟨v1, hv1, h⟩ := Option.bind_eq_some_iff.mp h
  refine kr_callVi (M' := kMX10_isNumber) (a := 0) (As := [.int l1]) (st := []) (RX10_isNumber (e + 0) hv1) koX10_isNumber rfl rfl rfl kw3_87 kw3_89 kws_2 rfl (Nat.le_of_ble_eq_true rfl) dX10_letGo_2 ?_
  refine kr_if_ne (tgt := 11) dX10_letGo_5 rfl (fun c5 => ?_) (fun c5 => ?_)
  · rw [if_pos c5] at h
    refine kr_bipush (v := (-101)) dX10_letGo_8 (by decide) ?_
    cases h
    exact kr_iret rfl dX10_letGo_10
  · rw [if_neg c5] at h
    refine kr_aload_n dX10_letGo_11 rfl ?_
    refine kx_g0_1 kw1_189 dX10_letGo_12 ?_
    refine kx_g3_6 (G.1 3 6) rfl kw1_65 dX10_letGo_15 ?_
    refine kr_iload_n dX10_letGo_18 rfl ?_
    refine kr_callSi (M' := kMX10_has) (As := [.int (G.1 3 6), .int l1]) (st := []) (RX10_has (e + 0) rfl) koX10_has rfl kw3_91 kw3_16 rfl (Nat.le_of_ble_eq_true rfl) dX10_letGo_19 ?_
    refine kr_if_eq (tgt := 44) dX10_letGo_22 rfl (fun c22 => ?_) (fun c22 => ?_)
    · rw [if_pos c22] at h
      refine kr_bipush (v := (-103)) dX10_letGo_44 (by decide) ?_
      cases h
      exact kr_iret rfl dX10_letGo_46
    · rw [if_neg c22] at h
      refine kr_aload_n dX10_letGo_25 rfl ?_
      refine kx_g0_1 kw1_189 dX10_letGo_26 ?_
      refine kx_g3_1 kw1_56 dX10_letGo_29 ?_
      refine kr_iload_n dX10_letGo_32 rfl ?_
      obtain ⟨v3, hv3, h⟩ := Option.bind_eq_some_iff.mp h
      refine kx_a5 (G.2.1 5) rfl hv3 dX10_letGo_33 ?_
      refine kr_aload_n dX10_letGo_34 rfl ?_
      refine kx_g0_1 kw1_189 dX10_letGo_35 ?_
      refine kx_g3_7 (G.1 3 7) rfl kw1_67 dX10_letGo_38 ?_
      refine kr_icmp_eq (tgt := 47) dX10_letGo_41 rfl (fun c41 => ?_) (fun c41 => ?_)
      · rw [if_pos c41] at h
        refine kr_aload_n dX10_letGo_47 rfl ?_
        refine kx_g0_1 kw1_189 dX10_letGo_48 ?_
        refine kr_iload_n dX10_letGo_51 rfl ?_
        obtain ⟨v4, hv4, h⟩ := Option.bind_eq_some_iff.mp h
        refine kr_callVv (M' := kMX9_leave) (a := 3) (As := [.int l1]) (st := []) (RX9_leave (e + 0) hv4) koX9_leave rfl rfl rfl kw3_199 kw3_200 kw3_201 rfl (Nat.le_of_ble_eq_true rfl) dX10_letGo_52 ?_
        refine kr_aload_n dX10_letGo_55 rfl ?_
        refine kx_g0_1 kw1_189 dX10_letGo_56 ?_
        refine kx_g3_6 (v4.1 3 6) rfl kw1_65 dX10_letGo_59 ?_
        refine kr_callSi (M' := kMJ6_bitCount_0f7a4) (As := [.int (v4.1 3 6)]) (st := []) (RJ6_bitCount_0f7a4 (e + 0) rfl) koJ6_bitCount_0f7a4 rfl kw3_127 kw3_9 rfl (Nat.le_of_ble_eq_true rfl) dX10_letGo_62 ?_
        cases h
        exact kr_iret rfl dX10_letGo_65
      · rw [if_neg c41] at h
        refine kr_bipush (v := (-103)) dX10_letGo_44 (by decide) ?_
        cases h
        exact kr_iret rfl dX10_letGo_46
set_option maxRecDepth 20000 in
set_option maxHeartbeats 4000000 in
theorem RX9_join {Z : kv_Z} (e : Nat) {G : kg_G} {l1 : Int32} {l2 : Int32} {res : kg_G} (h : fX9_join G l1 l2 = some res) : kv_M Z (e + 0) kMX9_join [.ref 3, .int l1, .int l2] (kg_w G) none (kg_w res) := by
  refine kv_M_of (ls := [some (.ref 3), some (.int l1), some (.int l2)]) (by decide) (Nat.le_of_ble_eq_true rfl) rfl ?_
  unfold fX9_join at h
  refine kr_aload_n dX9_join_0 rfl ?_
  refine kr_dup dX9_join_1 rfl ?_
  refine kx_g3_6 (G.1 3 6) rfl kw1_64 dX9_join_2 ?_
  refine kr_iconst (v := 1) dX9_join_5 (by decide) ?_
  refine kr_iload_n dX9_join_6 rfl ?_
  refine kr_ishl dX9_join_7 ?_
  refine kr_ior dX9_join_8 ?_
  refine kx_p3_6 kw1_64 dX9_join_9 ?_
  refine kr_aload_n dX9_join_12 rfl ?_
  refine kx_g3_0 kw1_52 dX9_join_13 ?_
  refine kr_iload_n dX9_join_16 rfl ?_
  refine kr_iload_n dX9_join_17 rfl ?_
  obtain ⟨v1, hv1, h⟩ := Option.bind_eq_some_iff.mp h
  refine kx_s4 (G.2.1 4) rfl hv1 dX9_join_18 ?_
  refine kr_aload_n dX9_join_19 rfl ?_
  refine kx_g3_1 kw1_55 dX9_join_20 ?_
  refine kr_iload_n dX9_join_23 rfl ?_
  refine kr_aload_n dX9_join_24 rfl ?_
  refine kx_g3_7 (G.1 3 7) rfl kw1_66 dX9_join_25 ?_
  obtain ⟨v2, hv2, h⟩ := Option.bind_eq_some_iff.mp h
  refine kx_s5 (G.2.1 5) rfl hv2 dX9_join_28 ?_
  refine kr_aload_n dX9_join_29 rfl ?_
  refine kx_g3_2 kw1_58 dX9_join_30 ?_
  refine kr_iload_n dX9_join_33 rfl ?_
  refine kr_iconst (v := 0) dX9_join_34 (by decide) ?_
  obtain ⟨v3, hv3, h⟩ := Option.bind_eq_some_iff.mp h
  refine kx_s6 (G.2.1 6) rfl hv3 dX9_join_35 ?_
  refine kr_aload_n dX9_join_36 rfl ?_
  refine kr_dup dX9_join_37 rfl ?_
  refine kx_g3_11 (G.1 3 11) rfl kw1_74 dX9_join_38 ?_
  refine kr_iconst (v := 1) dX9_join_41 (by decide) ?_
  refine kr_iadd dX9_join_42 ?_
  refine kx_p3_11 kw1_74 dX9_join_43 ?_
  cases h
  exact kr_vret rfl dX9_join_46
set_option maxRecDepth 20000 in
set_option maxHeartbeats 4000000 in
theorem RX10_call {Z : kv_Z} (e : Nat) {G : kg_G} {l1 : Int32} {l2 : Int32} {res : Int32 × kg_G} (h : fX10_call G l1 l2 = some res) : kv_M Z (e + 1) kMX10_call [.ref 0, .int l1, .int l2] (kg_w G) (some (.int res.1)) (kg_w res.2) := by
  refine kv_M_of (ls := [some (.ref 0), some (.int l1), some (.int l2)]) (by decide) (Nat.le_of_ble_eq_true rfl) rfl ?_
  unfold fX10_call at h
  refine kr_aload_n dX10_call_0 rfl ?_
  refine kr_iload_n dX10_call_1 rfl ?_
  obtain ⟨v1, hv1, h⟩ := Option.bind_eq_some_iff.mp h
  refine kr_callVi (M' := kMX10_isNumber) (a := 0) (As := [.int l1]) (st := []) (RX10_isNumber (e + 0) hv1) koX10_isNumber rfl rfl rfl kw3_87 kw3_89 kws_2 rfl (Nat.le_of_ble_eq_true rfl) dX10_call_2 ?_
  refine kr_if_ne (tgt := 11) dX10_call_5 rfl (fun c5 => ?_) (fun c5 => ?_)
  · rw [if_pos c5] at h
    refine kr_bipush (v := (-101)) dX10_call_8 (by decide) ?_
    cases h
    exact kr_iret rfl dX10_call_10
  · rw [if_neg c5] at h
    refine kr_iload_n dX10_call_11 rfl ?_
    refine kr_if_lt (tgt := 21) dX10_call_12 rfl (fun c12 => ?_) (fun c12 => ?_)
    · rw [if_pos c12] at h
      refine kr_bipush (v := (-102)) dX10_call_21 (by decide) ?_
      cases h
      exact kr_iret rfl dX10_call_23
    · rw [if_neg c12] at h
      refine kr_iload_n dX10_call_15 rfl ?_
      refine kr_bipush (v := 9) dX10_call_16 (by decide) ?_
      refine kr_icmp_le (tgt := 24) dX10_call_18 rfl (fun c18 => ?_) (fun c18 => ?_)
      · rw [if_pos c18] at h
        refine kr_aload_n dX10_call_24 rfl ?_
        refine kx_g0_1 kw1_189 dX10_call_25 ?_
        refine kx_g3_6 (G.1 3 6) rfl kw1_65 dX10_call_28 ?_
        refine kr_iload_n dX10_call_31 rfl ?_
        refine kr_callSi (M' := kMX10_has) (As := [.int (G.1 3 6), .int l1]) (st := []) (RX10_has (e + 0) rfl) koX10_has rfl kw3_91 kw3_16 rfl (Nat.le_of_ble_eq_true rfl) dX10_call_32 ?_
        refine kr_if_eq (tgt := 41) dX10_call_35 rfl (fun c35 => ?_) (fun c35 => ?_)
        · rw [if_pos c35] at h
          refine kr_aload_n dX10_call_41 rfl ?_
          refine kx_g0_1 kw1_189 dX10_call_42 ?_
          refine kr_iload_n dX10_call_45 rfl ?_
          refine kr_iload_n dX10_call_46 rfl ?_
          obtain ⟨v3, hv3, h⟩ := Option.bind_eq_some_iff.mp h
          refine kr_callVv (M' := kMX9_join) (a := 3) (As := [.int l1, .int l2]) (st := []) (RX9_join (e + 0) hv3) koX9_join rfl rfl rfl kw3_207 kw3_208 kw3_209 rfl (Nat.le_of_ble_eq_true rfl) dX10_call_47 ?_
          refine kr_aload_n dX10_call_50 rfl ?_
          refine kx_g0_1 kw1_189 dX10_call_51 ?_
          refine kx_g3_6 (v3.1 3 6) rfl kw1_65 dX10_call_54 ?_
          refine kr_callSi (M' := kMJ6_bitCount_0f7a4) (As := [.int (v3.1 3 6)]) (st := []) (RJ6_bitCount_0f7a4 (e + 0) rfl) koJ6_bitCount_0f7a4 rfl kw3_127 kw3_9 rfl (Nat.le_of_ble_eq_true rfl) dX10_call_57 ?_
          cases h
          exact kr_iret rfl dX10_call_60
        · rw [if_neg c35] at h
          refine kr_bipush (v := (-103)) dX10_call_38 (by decide) ?_
          cases h
          exact kr_iret rfl dX10_call_40
      · rw [if_neg c18] at h
        refine kr_bipush (v := (-102)) dX10_call_21 (by decide) ?_
        cases h
        exact kr_iret rfl dX10_call_23
set_option maxRecDepth 20000 in
set_option maxHeartbeats 4000000 in
theorem RX10_most_19 {Z : kv_Z} (e : Nat) {N : Nat} : ∀ (G : kg_G) (l1 : Int32) (res : Int32 × kg_G), fX10_most_19 N G l1 = some res → kv_V Z (e + 12) kMX10_most 19 [some (.ref 0), some (.int l1), none] [] (kg_w G) (some (.int res.1)) (kg_w res.2) := by
  intro G l1 res h
  unfold fX10_most_19 at h
  refine kr_aload_n dX10_most_19 rfl ?_
  obtain ⟨v1, hv1, h⟩ := Option.bind_eq_some_iff.mp h
  refine kr_callVi (M' := kMX10_hasShow) (a := 0) (As := []) (st := []) (RX10_hasShow (e + 11) hv1) koX10_hasShow rfl rfl rfl kw3_140 kw3_142 kws_4 rfl (Nat.le_of_ble_eq_true rfl) dX10_most_20 ?_
  refine kr_if_eq (tgt := 35) dX10_most_23 rfl (fun c23 => ?_) (fun c23 => ?_)
  · rw [if_pos c23] at h
    refine kr_bipush (v := (-103)) dX10_most_35 (by decide) ?_
    cases h
    exact kr_iret rfl dX10_most_37
  · rw [if_neg c23] at h
    refine kr_aload_n dX10_most_26 rfl ?_
    refine kx_g0_8 (G.1 0 8) rfl kw1_196 dX10_most_27 ?_
    refine kr_bipush (v := 16) dX10_most_30 (by decide) ?_
    refine kr_icmp_lt (tgt := 38) dX10_most_32 rfl (fun c32 => ?_) (fun c32 => ?_)
    · rw [if_pos c32] at h
      refine kr_aload_n dX10_most_38 rfl ?_
      obtain ⟨v2, hv2, h⟩ := Option.bind_eq_some_iff.mp h
      refine kr_callVi (M' := kMX10_planMost) (a := 0) (As := []) (st := []) (RX10_planMost (e + 0) hv2) koX10_planMost rfl rfl rfl kw3_144 kw3_146 kws_5 rfl (Nat.le_of_ble_eq_true rfl) dX10_most_39 ?_
      refine kr_istore_n (i := 2) (ls' := [some (.ref 0), some (.int l1), some (.int v2.1)]) dX10_most_42 rfl (Nat.le_of_ble_eq_true rfl) rfl ?_
      refine kr_iload_n dX10_most_43 rfl ?_
      refine kr_if_ne (tgt := 51) dX10_most_44 rfl (fun c44 => ?_) (fun c44 => ?_)
      · rw [if_pos c44] at h
        refine kr_iload_n dX10_most_47 rfl ?_
        refine kr_goto (tgt := 63) dX10_most_48 rfl ?_
        cases h
        exact kr_iret rfl dX10_most_63
      · rw [if_neg c44] at h
        refine kr_aload_n dX10_most_51 rfl ?_
        refine kx_g0_3 kw1_191 dX10_most_52 ?_
        refine kx_g17_0 kw1_116 dX10_most_55 ?_
        refine kr_iload_n dX10_most_58 rfl ?_
        refine kr_bipush (v := 10) dX10_most_59 (by decide) ?_
        refine kr_isub dX10_most_61 ?_
        obtain ⟨v3, hv3, h⟩ := Option.bind_eq_some_iff.mp h
        refine kx_a18 (v2.2.2.1 18) rfl hv3 dX10_most_62 ?_
        cases h
        exact kr_iret rfl dX10_most_63
    · rw [if_neg c32] at h
      refine kr_bipush (v := (-103)) dX10_most_35 (by decide) ?_
      cases h
      exact kr_iret rfl dX10_most_37
set_option maxRecDepth 20000 in
set_option maxHeartbeats 4000000 in
theorem RX10_most {Z : kv_Z} (e : Nat) {N : Nat} {G : kg_G} {l1 : Int32} {res : Int32 × kg_G} (h : fX10_most N G l1 = some res) : kv_M Z (e + 12) kMX10_most [.ref 0, .int l1] (kg_w G) (some (.int res.1)) (kg_w res.2) := by
  refine kv_M_of (ls := [some (.ref 0), some (.int l1), none]) (by decide) (Nat.le_of_ble_eq_true rfl) rfl ?_
  unfold fX10_most at h
  refine kr_iload_n dX10_most_0 rfl ?_
  refine kr_if_eq (tgt := 19) dX10_most_1 rfl (fun c1 => ?_) (fun c1 => ?_)
  · rw [if_pos c1] at h
    exact RX10_most_19 e _ _ _ h
  · rw [if_neg c1] at h
    refine kr_iload_n dX10_most_4 rfl ?_
    refine kr_bipush (v := 10) dX10_most_5 (by decide) ?_
    refine kr_icmp_lt (tgt := 16) dX10_most_7 rfl (fun c7 => ?_) (fun c7 => ?_)
    · rw [if_pos c7] at h
      refine kr_bipush (v := (-102)) dX10_most_16 (by decide) ?_
      cases h
      exact kr_iret rfl dX10_most_18
    · rw [if_neg c7] at h
      refine kr_iload_n dX10_most_10 rfl ?_
      refine kr_bipush (v := 14) dX10_most_11 (by decide) ?_
      refine kr_icmp_le (tgt := 19) dX10_most_13 rfl (fun c13 => ?_) (fun c13 => ?_)
      · rw [if_pos c13] at h
        exact RX10_most_19 e _ _ _ h
      · rw [if_neg c13] at h
        refine kr_bipush (v := (-102)) dX10_most_16 (by decide) ?_
        cases h
        exact kr_iret rfl dX10_most_18
set_option maxRecDepth 20000 in
set_option maxHeartbeats 4000000 in
theorem RX4_fewestOf_56 {Z : kv_Z} (e : Nat) {N : Nat} {k22 : kg_G → Int32 → Int32 → Option (Int32 × kg_G)} {k29 : kg_G → Int32 → Int32 → Int32 → Option (Int32 × kg_G)} (hk22 : ∀ (G : kg_G) (l1 : Int32) (l2 : Int32) (res : Int32 × kg_G), k22 G l1 l2 = some res → kv_V Z (e + 11) kMX4_fewestOf 22 [some (.ref 17), some (.int l1), some (.int l2), none, none] [] (kg_w G) (some (.int res.1)) (kg_w res.2)) (hk29 : ∀ (G : kg_G) (l1 : Int32) (l2 : Int32) (l3 : Int32) (res : Int32 × kg_G), k29 G l1 l2 l3 = some res → kv_V Z (e + 11) kMX4_fewestOf 29 [some (.ref 17), some (.int l1), some (.int l2), some (.int l3), none] [] (kg_w G) (some (.int res.1)) (kg_w res.2)) : ∀ (G : kg_G) (l1 : Int32) (l2 : Int32) (l3 : Int32) (s0 : Int32) (res : Int32 × kg_G), fX4_fewestOf_56 N k22 k29 G l1 l2 l3 s0 = some res → kv_V Z (e + 11) kMX4_fewestOf 56 [some (.ref 17), some (.int l1), some (.int l2), some (.int l3), none] [.int s0] (kg_w G) (some (.int res.1)) (kg_w res.2) := by
  intro G l1 l2 l3 s0 res h
  unfold fX4_fewestOf_56 at h
  refine kr_istore (ls' := [some (.ref 17), some (.int l1), some (.int l2), some (.int l3), some (.int s0)]) dX4_fewestOf_56 (Nat.le_of_ble_eq_true rfl) rfl ?_
  refine kr_iload dX4_fewestOf_58 rfl ?_
  refine kr_if_eq (tgt := 83) dX4_fewestOf_60 rfl (fun c60 => ?_) (fun c60 => ?_)
  · rw [if_pos c60] at h
    refine kr_iinc (v := l3 + 1) (ls' := [some (.ref 17), some (.int l1), some (.int l2), some (.int (l3 + 1)), some (.int s0)]) dX4_fewestOf_83 rfl rfl (Nat.le_of_ble_eq_true rfl) rfl ?_
    refine kr_goto (tgt := 29) dX4_fewestOf_86 rfl ?_
    refine kv_loc (ls' := [some (.ref 17), some (.int l1), some (.int l2), some (.int (l3 + 1)), none]) (And.intro rfl (And.intro rfl (And.intro rfl (And.intro rfl trivial)))) ?_
    exact hk29 _ _ _ _ _ h
  · rw [if_neg c60] at h
    refine kr_aload_n dX4_fewestOf_63 rfl ?_
    refine kr_iload_n dX4_fewestOf_64 rfl ?_
    refine kr_aload_n dX4_fewestOf_65 rfl ?_
    refine kx_g17_5 (G.1 17 5) rfl kw1_121 dX4_fewestOf_66 ?_
    refine kr_iconst (v := 1) dX4_fewestOf_69 (by decide) ?_
    refine kr_isub dX4_fewestOf_70 ?_
    obtain ⟨v1, hv1, h⟩ := Option.bind_eq_some_iff.mp h
    refine kr_callVi (M' := kMX4_search) (a := 17) (As := [.int l3, .int ((G.1 17 5) - 1)]) (st := []) (RX4_search (e + 0) hv1) koX4_search rfl rfl rfl kw3_223 kw3_156 kw3_157 rfl (Nat.le_of_ble_eq_true rfl) dX4_fewestOf_71 ?_
    refine kr_aload_n dX4_fewestOf_74 rfl ?_
    refine kx_g17_5 (v1.2.1 17 5) rfl kw1_121 dX4_fewestOf_75 ?_
    refine kr_icmp_lt (tgt := 83) dX4_fewestOf_78 rfl (fun c78 => ?_) (fun c78 => ?_)
    · rw [if_pos c78] at h
      refine kr_iinc (v := l3 + 1) (ls' := [some (.ref 17), some (.int l1), some (.int l2), some (.int (l3 + 1)), some (.int s0)]) dX4_fewestOf_83 rfl rfl (Nat.le_of_ble_eq_true rfl) rfl ?_
      refine kr_goto (tgt := 29) dX4_fewestOf_86 rfl ?_
      refine kv_loc (ls' := [some (.ref 17), some (.int l1), some (.int l2), some (.int (l3 + 1)), none]) (And.intro rfl (And.intro rfl (And.intro rfl (And.intro rfl trivial)))) ?_
      exact hk29 _ _ _ _ _ h
    · rw [if_neg c78] at h
      refine kr_iload_n dX4_fewestOf_81 rfl ?_
      cases h
      exact kr_iret rfl dX4_fewestOf_82
set_option maxRecDepth 20000 in
set_option maxHeartbeats 4000000 in
theorem RX4_fewestOf_55 {Z : kv_Z} (e : Nat) {N : Nat} {k22 : kg_G → Int32 → Int32 → Option (Int32 × kg_G)} {k29 : kg_G → Int32 → Int32 → Int32 → Option (Int32 × kg_G)} (hk22 : ∀ (G : kg_G) (l1 : Int32) (l2 : Int32) (res : Int32 × kg_G), k22 G l1 l2 = some res → kv_V Z (e + 11) kMX4_fewestOf 22 [some (.ref 17), some (.int l1), some (.int l2), none, none] [] (kg_w G) (some (.int res.1)) (kg_w res.2)) (hk29 : ∀ (G : kg_G) (l1 : Int32) (l2 : Int32) (l3 : Int32) (res : Int32 × kg_G), k29 G l1 l2 l3 = some res → kv_V Z (e + 11) kMX4_fewestOf 29 [some (.ref 17), some (.int l1), some (.int l2), some (.int l3), none] [] (kg_w G) (some (.int res.1)) (kg_w res.2)) : ∀ (G : kg_G) (l1 : Int32) (l2 : Int32) (l3 : Int32) (res : Int32 × kg_G), fX4_fewestOf_55 N k22 k29 G l1 l2 l3 = some res → kv_V Z (e + 11) kMX4_fewestOf 55 [some (.ref 17), some (.int l1), some (.int l2), some (.int l3), none] [] (kg_w G) (some (.int res.1)) (kg_w res.2) := by
  intro G l1 l2 l3 res h
  unfold fX4_fewestOf_55 at h
  refine kr_iconst (v := 0) dX4_fewestOf_55 (by decide) ?_
  exact RX4_fewestOf_56 e hk22 hk29 _ _ _ _ _ _ h
set_option maxRecDepth 20000 in
set_option maxHeartbeats 4000000 in
theorem RX4_fewestOf_29 {Z : kv_Z} (e : Nat) {N : Nat} {k22 : kg_G → Int32 → Int32 → Option (Int32 × kg_G)} (hk22 : ∀ (G : kg_G) (l1 : Int32) (l2 : Int32) (res : Int32 × kg_G), k22 G l1 l2 = some res → kv_V Z (e + 11) kMX4_fewestOf 22 [some (.ref 17), some (.int l1), some (.int l2), none, none] [] (kg_w G) (some (.int res.1)) (kg_w res.2)) : ∀ (n : Nat) (G : kg_G) (l1 : Int32) (l2 : Int32) (l3 : Int32) (res : Int32 × kg_G), fX4_fewestOf_29 N k22 n G l1 l2 l3 = some res → kv_V Z (e + 11) kMX4_fewestOf 29 [some (.ref 17), some (.int l1), some (.int l2), some (.int l3), none] [] (kg_w G) (some (.int res.1)) (kg_w res.2) := by
  intro n
  induction n with
  | zero => intro G l1 l2 l3 res h; exact absurd h (by intro z; cases z)
  | succ n ih =>
    intro G l1 l2 l3 res h
    have hk29 := ih
    rw [fX4_fewestOf_29] at h
    refine kr_iload_n dX4_fewestOf_29 rfl ?_
    refine kr_bipush (v := 32) dX4_fewestOf_30 (by decide) ?_
    refine kr_icmp_ge (tgt := 89) dX4_fewestOf_32 rfl (fun c32 => ?_) (fun c32 => ?_)
    · rw [if_pos c32] at h
      refine kr_iinc (v := l2 + 1) (ls' := [some (.ref 17), some (.int l1), some (.int (l2 + 1)), some (.int l3), none]) dX4_fewestOf_89 rfl rfl (Nat.le_of_ble_eq_true rfl) rfl ?_
      refine kr_goto (tgt := 22) dX4_fewestOf_92 rfl ?_
      refine kv_loc (ls' := [some (.ref 17), some (.int l1), some (.int (l2 + 1)), none, none]) (And.intro rfl (And.intro rfl (And.intro rfl trivial))) ?_
      exact hk22 _ _ _ _ h
    · rw [if_neg c32] at h
      refine kr_iload_n dX4_fewestOf_35 rfl ?_
      refine kr_iload_n dX4_fewestOf_36 rfl ?_
      refine kr_iconst (v := (-1)) dX4_fewestOf_37 (by decide) ?_
      refine kr_ixor dX4_fewestOf_38 ?_
      refine kr_iand dX4_fewestOf_39 ?_
      refine kr_if_ne (tgt := 55) dX4_fewestOf_40 rfl (fun c40 => ?_) (fun c40 => ?_)
      · rw [if_pos c40] at h
        refine kr_iload_n dX4_fewestOf_43 rfl ?_
        refine kr_callSi (M' := kMJ6_bitCount_0f7a4) (As := [.int l3]) (st := []) (RJ6_bitCount_0f7a4 (e + 10) rfl) koJ6_bitCount_0f7a4 rfl kw3_224 kw3_9 rfl (Nat.le_of_ble_eq_true rfl) dX4_fewestOf_44 ?_
        refine kr_iload_n dX4_fewestOf_47 rfl ?_
        refine kr_icmp_ne (tgt := 55) dX4_fewestOf_48 rfl (fun c48 => ?_) (fun c48 => ?_)
        · rw [if_pos c48] at h
          refine kr_iconst (v := 1) dX4_fewestOf_51 (by decide) ?_
          refine kr_goto (tgt := 56) dX4_fewestOf_52 rfl ?_
          exact RX4_fewestOf_56 e hk22 hk29 _ _ _ _ _ _ h
        · rw [if_neg c48] at h
          exact RX4_fewestOf_55 e hk22 hk29 _ _ _ _ _ h
      · rw [if_neg c40] at h
        exact RX4_fewestOf_55 e hk22 hk29 _ _ _ _ _ h
set_option maxRecDepth 20000 in
set_option maxHeartbeats 4000000 in
theorem RX4_fewestOf_22 {Z : kv_Z} (e : Nat) {N : Nat} : ∀ (n : Nat) (G : kg_G) (l1 : Int32) (l2 : Int32) (res : Int32 × kg_G), fX4_fewestOf_22 N n G l1 l2 = some res → kv_V Z (e + 11) kMX4_fewestOf 22 [some (.ref 17), some (.int l1), some (.int l2), none, none] [] (kg_w G) (some (.int res.1)) (kg_w res.2) := by
  intro n
  induction n with
  | zero => intro G l1 l2 res h; exact absurd h (by intro z; cases z)
  | succ n ih =>
    intro G l1 l2 res h
    have hk22 := ih
    rw [fX4_fewestOf_22] at h
    refine kr_iload_n dX4_fewestOf_22 rfl ?_
    refine kr_iconst (v := 5) dX4_fewestOf_23 (by decide) ?_
    refine kr_icmp_gt (tgt := 95) dX4_fewestOf_24 rfl (fun c24 => ?_) (fun c24 => ?_)
    · rw [if_pos c24] at h
      refine kr_iconst (v := (-1)) dX4_fewestOf_95 (by decide) ?_
      cases h
      exact kr_iret rfl dX4_fewestOf_96
    · rw [if_neg c24] at h
      refine kr_iconst (v := 1) dX4_fewestOf_27 (by decide) ?_
      refine kr_istore_n (i := 3) (ls' := [some (.ref 17), some (.int l1), some (.int l2), some (.int 1), none]) dX4_fewestOf_28 rfl (Nat.le_of_ble_eq_true rfl) rfl ?_
      exact RX4_fewestOf_29 e hk22 N _ _ _ _ _ h
set_option maxRecDepth 20000 in
set_option maxHeartbeats 4000000 in
theorem RX4_fewestOf {Z : kv_Z} (e : Nat) {N : Nat} {G : kg_G} {l1 : Int32} {res : Int32 × kg_G} (h : fX4_fewestOf N G l1 = some res) : kv_M Z (e + 11) kMX4_fewestOf [.ref 17, .int l1] (kg_w G) (some (.int res.1)) (kg_w res.2) := by
  refine kv_M_of (ls := [some (.ref 17), some (.int l1), none, none, none]) (by decide) (Nat.le_of_ble_eq_true rfl) rfl ?_
  unfold fX4_fewestOf at h
  refine kr_aload_n dX4_fewestOf_0 rfl ?_
  refine kr_iload_n dX4_fewestOf_1 rfl ?_
  refine kr_aload_n dX4_fewestOf_2 rfl ?_
  refine kx_g17_5 (G.1 17 5) rfl kw1_121 dX4_fewestOf_3 ?_
  refine kr_iconst (v := 1) dX4_fewestOf_6 (by decide) ?_
  refine kr_isub dX4_fewestOf_7 ?_
  obtain ⟨v1, hv1, h⟩ := Option.bind_eq_some_iff.mp h
  refine kr_callVi (M' := kMX4_search) (a := 17) (As := [.int l1, .int ((G.1 17 5) - 1)]) (st := []) (RX4_search (e + 0) hv1) koX4_search rfl rfl rfl kw3_223 kw3_156 kw3_157 rfl (Nat.le_of_ble_eq_true rfl) dX4_fewestOf_8 ?_
  refine kr_aload_n dX4_fewestOf_11 rfl ?_
  refine kx_g17_5 (v1.2.1 17 5) rfl kw1_121 dX4_fewestOf_12 ?_
  refine kr_icmp_ge (tgt := 20) dX4_fewestOf_15 rfl (fun c15 => ?_) (fun c15 => ?_)
  · rw [if_pos c15] at h
    refine kr_iconst (v := 1) dX4_fewestOf_20 (by decide) ?_
    refine kr_istore_n (i := 2) (ls' := [some (.ref 17), some (.int l1), some (.int 1), none, none]) dX4_fewestOf_21 rfl (Nat.le_of_ble_eq_true rfl) rfl ?_
    exact RX4_fewestOf_22 e N _ _ _ _ h
  · rw [if_neg c15] at h
    refine kr_iconst (v := (-1)) dX4_fewestOf_18 (by decide) ?_
    cases h
    exact kr_iret rfl dX4_fewestOf_19
set_option maxRecDepth 20000 in
set_option maxHeartbeats 4000000 in
theorem RX10_fewest_12 {Z : kv_Z} (e : Nat) {N : Nat} : ∀ (G : kg_G) (l1 : Int32) (res : Int32 × kg_G), fX10_fewest_12 N G l1 = some res → kv_V Z (e + 12) kMX10_fewest 12 [some (.ref 0), some (.int l1), none] [] (kg_w G) (some (.int res.1)) (kg_w res.2) := by
  intro G l1 res h
  unfold fX10_fewest_12 at h
  refine kr_aload_n dX10_fewest_12 rfl ?_
  obtain ⟨v1, hv1, h⟩ := Option.bind_eq_some_iff.mp h
  refine kr_callVi (M' := kMX10_hasShow) (a := 0) (As := []) (st := []) (RX10_hasShow (e + 11) hv1) koX10_hasShow rfl rfl rfl kw3_140 kw3_142 kws_4 rfl (Nat.le_of_ble_eq_true rfl) dX10_fewest_13 ?_
  refine kr_if_eq (tgt := 28) dX10_fewest_16 rfl (fun c16 => ?_) (fun c16 => ?_)
  · rw [if_pos c16] at h
    refine kr_bipush (v := (-103)) dX10_fewest_28 (by decide) ?_
    cases h
    exact kr_iret rfl dX10_fewest_30
  · rw [if_neg c16] at h
    refine kr_aload_n dX10_fewest_19 rfl ?_
    refine kx_g0_9 (G.1 0 9) rfl kw1_197 dX10_fewest_20 ?_
    refine kr_bipush (v := 6) dX10_fewest_23 (by decide) ?_
    refine kr_icmp_lt (tgt := 31) dX10_fewest_25 rfl (fun c25 => ?_) (fun c25 => ?_)
    · rw [if_pos c25] at h
      refine kr_aload_n dX10_fewest_31 rfl ?_
      refine kr_dup dX10_fewest_32 rfl ?_
      refine kx_g0_9 (G.1 0 9) rfl kw1_197 dX10_fewest_33 ?_
      refine kr_iconst (v := 1) dX10_fewest_36 (by decide) ?_
      refine kr_iadd dX10_fewest_37 ?_
      refine kx_p0_9 kw1_197 dX10_fewest_38 ?_
      refine kr_aload_n dX10_fewest_41 rfl ?_
      refine kx_g0_3 kw1_191 dX10_fewest_42 ?_
      refine kr_aload_n dX10_fewest_45 rfl ?_
      refine kx_g0_5 G.2.2.2.1 rfl kw1_193 dX10_fewest_46 ?_
      refine kr_aload_n dX10_fewest_49 rfl ?_
      refine kx_g0_1 kw1_189 dX10_fewest_50 ?_
      refine kx_g3_0 kw1_53 dX10_fewest_53 ?_
      obtain ⟨v2, hv2, h⟩ := Option.bind_eq_some_iff.mp h
      refine kr_callVv (M' := kMX4_prepare) (a := 17) (As := [.ref G.2.2.2.1, .ref 4]) (st := []) (RX4_prepare (e + 8) hv2) koX4_prepare rfl rfl rfl kw3_148 kw3_149 kw3_150 rfl (Nat.le_of_ble_eq_true rfl) dX10_fewest_56 ?_
      refine kr_aload_n dX10_fewest_59 rfl ?_
      refine kx_g0_3 kw1_191 dX10_fewest_60 ?_
      refine kr_aload_n dX10_fewest_63 rfl ?_
      refine kx_g0_1 kw1_189 dX10_fewest_64 ?_
      refine kx_g3_6 (v2.1 3 6) rfl kw1_65 dX10_fewest_67 ?_
      obtain ⟨v3, hv3, h⟩ := Option.bind_eq_some_iff.mp h
      refine kr_callVi (M' := kMX4_fewestOf) (a := 17) (As := [.int (v2.1 3 6)]) (st := []) (RX4_fewestOf (e + 0) hv3) koX4_fewestOf rfl rfl rfl kw3_219 kw3_220 kw3_221 rfl (Nat.le_of_ble_eq_true rfl) dX10_fewest_70 ?_
      refine kr_istore_n (i := 2) (ls' := [some (.ref 0), some (.int l1), some (.int v3.1)]) dX10_fewest_73 rfl (Nat.le_of_ble_eq_true rfl) rfl ?_
      refine kr_iload_n dX10_fewest_74 rfl ?_
      refine kr_iconst (v := 1) dX10_fewest_75 (by decide) ?_
      refine kr_icmp_eq (tgt := 84) dX10_fewest_76 rfl (fun c76 => ?_) (fun c76 => ?_)
      · rw [if_pos c76] at h
        refine kr_iload_n dX10_fewest_84 rfl ?_
        refine kr_goto (tgt := 92) dX10_fewest_85 rfl ?_
        cases h
        exact kr_iret rfl dX10_fewest_92
      · rw [if_neg c76] at h
        refine kr_iload_n dX10_fewest_79 rfl ?_
        refine kr_iconst (v := (-1)) dX10_fewest_80 (by decide) ?_
        refine kr_icmp_ne (tgt := 88) dX10_fewest_81 rfl (fun c81 => ?_) (fun c81 => ?_)
        · rw [if_pos c81] at h
          refine kr_iload_n dX10_fewest_84 rfl ?_
          refine kr_goto (tgt := 92) dX10_fewest_85 rfl ?_
          cases h
          exact kr_iret rfl dX10_fewest_92
        · rw [if_neg c81] at h
          refine kr_iload_n dX10_fewest_88 rfl ?_
          refine kr_callSi (M' := kMJ6_bitCount_0f7a4) (As := [.int v3.1]) (st := []) (RJ6_bitCount_0f7a4 (e + 11) rfl) koJ6_bitCount_0f7a4 rfl kw3_127 kw3_9 rfl (Nat.le_of_ble_eq_true rfl) dX10_fewest_89 ?_
          cases h
          exact kr_iret rfl dX10_fewest_92
    · rw [if_neg c25] at h
      refine kr_bipush (v := (-103)) dX10_fewest_28 (by decide) ?_
      cases h
      exact kr_iret rfl dX10_fewest_30
set_option maxRecDepth 20000 in
set_option maxHeartbeats 4000000 in
theorem RX10_fewest {Z : kv_Z} (e : Nat) {N : Nat} {G : kg_G} {l1 : Int32} {res : Int32 × kg_G} (h : fX10_fewest N G l1 = some res) : kv_M Z (e + 12) kMX10_fewest [.ref 0, .int l1] (kg_w G) (some (.int res.1)) (kg_w res.2) := by
  refine kv_M_of (ls := [some (.ref 0), some (.int l1), none]) (by decide) (Nat.le_of_ble_eq_true rfl) rfl ?_
  unfold fX10_fewest at h
  refine kr_iload_n dX10_fewest_0 rfl ?_
  refine kr_if_eq (tgt := 12) dX10_fewest_1 rfl (fun c1 => ?_) (fun c1 => ?_)
  · rw [if_pos c1] at h
    exact RX10_fewest_12 e _ _ _ h
  · rw [if_neg c1] at h
    refine kr_iload_n dX10_fewest_4 rfl ?_
    refine kr_iconst (v := 1) dX10_fewest_5 (by decide) ?_
    refine kr_icmp_eq (tgt := 12) dX10_fewest_6 rfl (fun c6 => ?_) (fun c6 => ?_)
    · rw [if_pos c6] at h
      exact RX10_fewest_12 e _ _ _ h
    · rw [if_neg c6] at h
      refine kr_bipush (v := (-102)) dX10_fewest_9 (by decide) ?_
      cases h
      exact kr_iret rfl dX10_fewest_11
set_option maxRecDepth 20000 in
set_option maxHeartbeats 4000000 in
theorem RX4_sparedOf_12 {Z : kv_Z} (e : Nat) {N : Nat} : ∀ (n : Nat) (G : kg_G) (l1 : Int32) (l2 : Int32) (l3 : Int32) (l4 : Int32) (res : Int32 × kg_G), fX4_sparedOf_12 N n G l1 l2 l3 l4 = some res → kv_V Z (e + 11) kMX4_sparedOf 12 [some (.ref 17), some (.int l1), some (.int l2), some (.int l3), some (.int l4)] [] (kg_w G) (some (.int res.1)) (kg_w res.2) := by
  intro n
  induction n with
  | zero => intro G l1 l2 l3 l4 res h; exact absurd h (by intro z; cases z)
  | succ n ih =>
    intro G l1 l2 l3 l4 res h
    have hk12 := ih
    rw [fX4_sparedOf_12] at h
    refine kr_iload dX4_sparedOf_12 rfl ?_
    refine kr_iconst (v := 5) dX4_sparedOf_14 (by decide) ?_
    refine kr_icmp_ge (tgt := 59) dX4_sparedOf_15 rfl (fun c15 => ?_) (fun c15 => ?_)
    · rw [if_pos c15] at h
      refine kr_iload_n dX4_sparedOf_59 rfl ?_
      cases h
      exact kr_iret rfl dX4_sparedOf_60
    · rw [if_neg c15] at h
      refine kr_iload_n dX4_sparedOf_18 rfl ?_
      refine kr_iload dX4_sparedOf_19 rfl ?_
      refine kr_callSNi (M' := kMX10_has) (As := [.int l1, .int l4]) (st := []) (RX10_has (e + 10) rfl) koX10_has rfl (by decide) kw3_16 rfl (Nat.le_of_ble_eq_true rfl) dX4_sparedOf_21 ?_
      refine kr_if_eq (tgt := 53) dX4_sparedOf_24 rfl (fun c24 => ?_) (fun c24 => ?_)
      · rw [if_pos c24] at h
        refine kr_iinc (v := l4 + 1) (ls' := [some (.ref 17), some (.int l1), some (.int l2), some (.int l3), some (.int (l4 + 1))]) dX4_sparedOf_53 rfl rfl (Nat.le_of_ble_eq_true rfl) rfl ?_
        refine kr_goto (tgt := 12) dX4_sparedOf_56 rfl ?_
        exact hk12 _ _ _ _ _ _ h
      · rw [if_neg c24] at h
        refine kr_aload_n dX4_sparedOf_27 rfl ?_
        refine kr_iload_n dX4_sparedOf_28 rfl ?_
        refine kr_iconst (v := 1) dX4_sparedOf_29 (by decide) ?_
        refine kr_iload dX4_sparedOf_30 rfl ?_
        refine kr_ishl dX4_sparedOf_32 ?_
        refine kr_iconst (v := (-1)) dX4_sparedOf_33 (by decide) ?_
        refine kr_ixor dX4_sparedOf_34 ?_
        refine kr_iand dX4_sparedOf_35 ?_
        refine kr_iload_n dX4_sparedOf_36 rfl ?_
        refine kr_iconst (v := 1) dX4_sparedOf_37 (by decide) ?_
        refine kr_isub dX4_sparedOf_38 ?_
        obtain ⟨v2, hv2, h⟩ := Option.bind_eq_some_iff.mp h
        refine kr_callVi (M' := kMX4_search) (a := 17) (As := [.int (l1 &&& ((1 <<< (l4 &&& 31)) ^^^ (-1))), .int (l2 - 1)]) (st := []) (RX4_search (e + 0) hv2) koX4_search rfl rfl rfl kw3_223 kw3_156 kw3_157 rfl (Nat.le_of_ble_eq_true rfl) dX4_sparedOf_39 ?_
        refine kr_iload_n dX4_sparedOf_42 rfl ?_
        refine kr_icmp_lt (tgt := 53) dX4_sparedOf_43 rfl (fun c43 => ?_) (fun c43 => ?_)
        · rw [if_pos c43] at h
          refine kr_iinc (v := l4 + 1) (ls' := [some (.ref 17), some (.int l1), some (.int l2), some (.int l3), some (.int (l4 + 1))]) dX4_sparedOf_53 rfl rfl (Nat.le_of_ble_eq_true rfl) rfl ?_
          refine kr_goto (tgt := 12) dX4_sparedOf_56 rfl ?_
          exact hk12 _ _ _ _ _ _ h
        · rw [if_neg c43] at h
          refine kr_iload_n dX4_sparedOf_46 rfl ?_
          refine kr_iconst (v := 1) dX4_sparedOf_47 (by decide) ?_
          refine kr_iload dX4_sparedOf_48 rfl ?_
          refine kr_ishl dX4_sparedOf_50 ?_
          refine kr_ior dX4_sparedOf_51 ?_
          refine kr_istore_n (i := 3) (ls' := [some (.ref 17), some (.int l1), some (.int l2), some (.int (l3 ||| (1 <<< (l4 &&& 31)))), some (.int l4)]) dX4_sparedOf_52 rfl (Nat.le_of_ble_eq_true rfl) rfl ?_
          refine kr_iinc (v := l4 + 1) (ls' := [some (.ref 17), some (.int l1), some (.int l2), some (.int (l3 ||| (1 <<< (l4 &&& 31)))), some (.int (l4 + 1))]) dX4_sparedOf_53 rfl rfl (Nat.le_of_ble_eq_true rfl) rfl ?_
          refine kr_goto (tgt := 12) dX4_sparedOf_56 rfl ?_
          exact hk12 _ _ _ _ _ _ h
set_option maxRecDepth 20000 in
set_option maxHeartbeats 4000000 in
theorem RX4_sparedOf {Z : kv_Z} (e : Nat) {N : Nat} {G : kg_G} {l1 : Int32} {res : Int32 × kg_G} (h : fX4_sparedOf N G l1 = some res) : kv_M Z (e + 11) kMX4_sparedOf [.ref 17, .int l1] (kg_w G) (some (.int res.1)) (kg_w res.2) := by
  refine kv_M_of (ls := [some (.ref 17), some (.int l1), none, none, none]) (by decide) (Nat.le_of_ble_eq_true rfl) rfl ?_
  unfold fX4_sparedOf at h
  refine kr_aload_n dX4_sparedOf_0 rfl ?_
  refine kr_iload_n dX4_sparedOf_1 rfl ?_
  refine kr_iconst (v := (-1)) dX4_sparedOf_2 (by decide) ?_
  obtain ⟨v1, hv1, h⟩ := Option.bind_eq_some_iff.mp h
  refine kr_callVi (M' := kMX4_search) (a := 17) (As := [.int l1, .int (-1)]) (st := []) (RX4_search (e + 0) hv1) koX4_search rfl rfl rfl kw3_223 kw3_156 kw3_157 rfl (Nat.le_of_ble_eq_true rfl) dX4_sparedOf_3 ?_
  refine kr_istore_n (i := 2) (ls' := [some (.ref 17), some (.int l1), some (.int v1.1), none, none]) dX4_sparedOf_6 rfl (Nat.le_of_ble_eq_true rfl) rfl ?_
  refine kr_iconst (v := 0) dX4_sparedOf_7 (by decide) ?_
  refine kr_istore_n (i := 3) (ls' := [some (.ref 17), some (.int l1), some (.int v1.1), some (.int 0), none]) dX4_sparedOf_8 rfl (Nat.le_of_ble_eq_true rfl) rfl ?_
  refine kr_iconst (v := 0) dX4_sparedOf_9 (by decide) ?_
  refine kr_istore (ls' := [some (.ref 17), some (.int l1), some (.int v1.1), some (.int 0), some (.int 0)]) dX4_sparedOf_10 (Nat.le_of_ble_eq_true rfl) rfl ?_
  exact RX4_sparedOf_12 e N _ _ _ _ _ _ h
set_option maxRecDepth 20000 in
set_option maxHeartbeats 4000000 in
theorem RX10_spare {Z : kv_Z} (e : Nat) {N : Nat} {G : kg_G} {res : Int32 × kg_G} (h : fX10_spare N G = some res) : kv_M Z (e + 12) kMX10_spare [.ref 0] (kg_w G) (some (.int res.1)) (kg_w res.2) := by
  refine kv_M_of (ls := [some (.ref 0)]) (by decide) (Nat.le_of_ble_eq_true rfl) rfl ?_
  unfold fX10_spare at h
  refine kr_aload_n dX10_spare_0 rfl ?_
  obtain ⟨v1, hv1, h⟩ := Option.bind_eq_some_iff.mp h
  refine kr_callVi (M' := kMX10_hasShow) (a := 0) (As := []) (st := []) (RX10_hasShow (e + 11) hv1) koX10_hasShow rfl rfl rfl kw3_140 kw3_142 kws_4 rfl (Nat.le_of_ble_eq_true rfl) dX10_spare_1 ?_
  refine kr_if_eq (tgt := 16) dX10_spare_4 rfl (fun c4 => ?_) (fun c4 => ?_)
  · rw [if_pos c4] at h
    refine kr_bipush (v := (-103)) dX10_spare_16 (by decide) ?_
    cases h
    exact kr_iret rfl dX10_spare_18
  · rw [if_neg c4] at h
    refine kr_aload_n dX10_spare_7 rfl ?_
    refine kx_g0_10 (G.1 0 10) rfl kw1_198 dX10_spare_8 ?_
    refine kr_bipush (v := 6) dX10_spare_11 (by decide) ?_
    refine kr_icmp_lt (tgt := 19) dX10_spare_13 rfl (fun c13 => ?_) (fun c13 => ?_)
    · rw [if_pos c13] at h
      refine kr_aload_n dX10_spare_19 rfl ?_
      refine kr_dup dX10_spare_20 rfl ?_
      refine kx_g0_10 (G.1 0 10) rfl kw1_198 dX10_spare_21 ?_
      refine kr_iconst (v := 1) dX10_spare_24 (by decide) ?_
      refine kr_iadd dX10_spare_25 ?_
      refine kx_p0_10 kw1_198 dX10_spare_26 ?_
      refine kr_aload_n dX10_spare_29 rfl ?_
      refine kx_g0_3 kw1_191 dX10_spare_30 ?_
      refine kr_aload_n dX10_spare_33 rfl ?_
      refine kx_g0_5 G.2.2.2.1 rfl kw1_193 dX10_spare_34 ?_
      refine kr_aload_n dX10_spare_37 rfl ?_
      refine kx_g0_1 kw1_189 dX10_spare_38 ?_
      refine kx_g3_0 kw1_53 dX10_spare_41 ?_
      obtain ⟨v2, hv2, h⟩ := Option.bind_eq_some_iff.mp h
      refine kr_callVv (M' := kMX4_prepare) (a := 17) (As := [.ref G.2.2.2.1, .ref 4]) (st := []) (RX4_prepare (e + 8) hv2) koX4_prepare rfl rfl rfl kw3_148 kw3_149 kw3_150 rfl (Nat.le_of_ble_eq_true rfl) dX10_spare_44 ?_
      refine kr_aload_n dX10_spare_47 rfl ?_
      refine kx_g0_3 kw1_191 dX10_spare_48 ?_
      refine kr_aload_n dX10_spare_51 rfl ?_
      refine kx_g0_1 kw1_189 dX10_spare_52 ?_
      refine kx_g3_6 (v2.1 3 6) rfl kw1_65 dX10_spare_55 ?_
      obtain ⟨v3, hv3, h⟩ := Option.bind_eq_some_iff.mp h
      refine kr_callVi (M' := kMX4_sparedOf) (a := 17) (As := [.int (v2.1 3 6)]) (st := []) (RX4_sparedOf (e + 0) hv3) koX4_sparedOf rfl rfl rfl kw3_229 kw3_230 kw3_231 rfl (Nat.le_of_ble_eq_true rfl) dX10_spare_58 ?_
      cases h
      exact kr_iret rfl dX10_spare_61
    · rw [if_neg c13] at h
      refine kr_bipush (v := (-103)) dX10_spare_16 (by decide) ?_
      cases h
      exact kr_iret rfl dX10_spare_18
set_option maxRecDepth 20000 in
set_option maxHeartbeats 4000000 in
theorem RX0_wantedIn_4 {Z : kv_Z} (e : Nat) {N : Nat} {G : kg_G} : ∀ (n : Nat) (a0 : Nat) (l1 : Int32) (l2 : Int32) (l3 : Int32) (res : Int32), fX0_wantedIn_4 N G n a0 l1 l2 l3 = some res → kv_V Z (e + 1) kMX0_wantedIn 4 [some (.ref a0), some (.int l1), some (.int l2), some (.int l3)] [] (kg_w G) (some (.int res)) (kg_w G) := by
  intro n
  induction n with
  | zero => intro a0 l1 l2 l3 res h; exact absurd h (by intro z; cases z)
  | succ n ih =>
    intro a0 l1 l2 l3 res h
    have hk4 := ih
    rw [fX0_wantedIn_4] at h
    refine kr_iload_n dX0_wantedIn_4 rfl ?_
    refine kr_aload_n dX0_wantedIn_5 rfl ?_
    obtain ⟨v1, hv1, h⟩ := Option.bind_eq_some_iff.mp h
    refine kx_bt hv1 kw1_177 dX0_wantedIn_6 ?_
    obtain ⟨v2, hv2, h⟩ := Option.bind_eq_some_iff.mp h
    refine kx_tl hv2 dX0_wantedIn_9 ?_
    refine kr_icmp_ge (tgt := 47) dX0_wantedIn_10 rfl (fun c10 => ?_) (fun c10 => ?_)
    · rw [if_pos c10] at h
      refine kr_iload_n dX0_wantedIn_47 rfl ?_
      cases h
      exact kr_iret rfl dX0_wantedIn_48
    · rw [if_neg c10] at h
      refine kr_aload_n dX0_wantedIn_13 rfl ?_
      obtain ⟨v3, hv3, h⟩ := Option.bind_eq_some_iff.mp h
      refine kx_bt hv3 kw1_177 dX0_wantedIn_14 ?_
      refine kr_iload_n dX0_wantedIn_17 rfl ?_
      obtain ⟨v4, hv4, h⟩ := Option.bind_eq_some_iff.mp h
      obtain ⟨v5, hv5, h⟩ := Option.bind_eq_some_iff.mp h
      refine kx_ta hv4 hv5 dX0_wantedIn_18 ?_
      obtain ⟨v6, hv6, h⟩ := Option.bind_eq_some_iff.mp h
      refine kt_runningHours (st := []) (e + 0) hv6 kw4_1 (Nat.le_of_ble_eq_true rfl) dX0_wantedIn_19 ?_
      refine kr_iload_n dX0_wantedIn_22 rfl ?_
      refine kr_callSNi (M' := kMX10_has) (As := [.int (tk_runningHours v6), .int l1]) (st := []) (RX10_has (e + 0) rfl) koX10_has rfl (by decide) kw3_16 rfl (Nat.le_of_ble_eq_true rfl) dX0_wantedIn_23 ?_
      refine kr_if_eq (tgt := 41) dX0_wantedIn_26 rfl (fun c26 => ?_) (fun c26 => ?_)
      · rw [if_pos c26] at h
        refine kr_iinc (v := l3 + 1) (ls' := [some (.ref a0), some (.int l1), some (.int l2), some (.int (l3 + 1))]) dX0_wantedIn_41 rfl rfl (Nat.le_of_ble_eq_true rfl) rfl ?_
        refine kr_goto (tgt := 4) dX0_wantedIn_44 rfl ?_
        exact hk4 _ _ _ _ _ h
      · rw [if_neg c26] at h
        refine kr_iload_n dX0_wantedIn_29 rfl ?_
        refine kr_aload_n dX0_wantedIn_30 rfl ?_
        obtain ⟨v8, hv8, h⟩ := Option.bind_eq_some_iff.mp h
        refine kx_bt hv8 kw1_177 dX0_wantedIn_31 ?_
        refine kr_iload_n dX0_wantedIn_34 rfl ?_
        obtain ⟨v9, hv9, h⟩ := Option.bind_eq_some_iff.mp h
        obtain ⟨v10, hv10, h⟩ := Option.bind_eq_some_iff.mp h
        refine kx_ta hv9 hv10 dX0_wantedIn_35 ?_
        obtain ⟨v11, hv11, h⟩ := Option.bind_eq_some_iff.mp h
        refine kt_crew (st := [.int l2]) (e + 0) hv11 kw3_14 (Nat.le_of_ble_eq_true rfl) dX0_wantedIn_36 ?_
        refine kr_iadd dX0_wantedIn_39 ?_
        refine kr_istore_n (i := 2) (ls' := [some (.ref a0), some (.int l1), some (.int (l2 + (tk_crew v11))), some (.int l3)]) dX0_wantedIn_40 rfl (Nat.le_of_ble_eq_true rfl) rfl ?_
        refine kr_iinc (v := l3 + 1) (ls' := [some (.ref a0), some (.int l1), some (.int (l2 + (tk_crew v11))), some (.int (l3 + 1))]) dX0_wantedIn_41 rfl rfl (Nat.le_of_ble_eq_true rfl) rfl ?_
        refine kr_goto (tgt := 4) dX0_wantedIn_44 rfl ?_
        exact hk4 _ _ _ _ _ h
set_option maxRecDepth 20000 in
set_option maxHeartbeats 4000000 in
theorem RX0_wantedIn {Z : kv_Z} (e : Nat) {N : Nat} {G : kg_G} {a0 : Nat} {l1 : Int32} {res : Int32} (h : fX0_wantedIn N G a0 l1 = some res) : kv_M Z (e + 1) kMX0_wantedIn [.ref a0, .int l1] (kg_w G) (some (.int res)) (kg_w G) := by
  refine kv_M_of (ls := [some (.ref a0), some (.int l1), none, none]) (by decide) (Nat.le_of_ble_eq_true rfl) rfl ?_
  unfold fX0_wantedIn at h
  refine kr_iconst (v := 0) dX0_wantedIn_0 (by decide) ?_
  refine kr_istore_n (i := 2) (ls' := [some (.ref a0), some (.int l1), some (.int 0), none]) dX0_wantedIn_1 rfl (Nat.le_of_ble_eq_true rfl) rfl ?_
  refine kr_iconst (v := 0) dX0_wantedIn_2 (by decide) ?_
  refine kr_istore_n (i := 3) (ls' := [some (.ref a0), some (.int l1), some (.int 0), some (.int 0)]) dX0_wantedIn_3 rfl (Nat.le_of_ble_eq_true rfl) rfl ?_
  exact RX0_wantedIn_4 e N _ _ _ _ _ h
set_option maxRecDepth 20000 in
set_option maxHeartbeats 4000000 in
theorem RX10_wants {Z : kv_Z} (e : Nat) {N : Nat} {G : kg_G} {l1 : Int32} {res : Int32} (h : fX10_wants N G l1 = some res) : kv_M Z (e + 2) kMX10_wants [.ref 0, .int l1] (kg_w G) (some (.int res)) (kg_w G) := by
  refine kv_M_of (ls := [some (.ref 0), some (.int l1)]) (by decide) (Nat.le_of_ble_eq_true rfl) rfl ?_
  unfold fX10_wants at h
  refine kr_iload_n dX10_wants_0 rfl ?_
  refine kr_if_lt (tgt := 10) dX10_wants_1 rfl (fun c1 => ?_) (fun c1 => ?_)
  · rw [if_pos c1] at h
    refine kr_bipush (v := (-102)) dX10_wants_10 (by decide) ?_
    cases h
    exact kr_iret rfl dX10_wants_12
  · rw [if_neg c1] at h
    refine kr_iload_n dX10_wants_4 rfl ?_
    refine kr_bipush (v := 11) dX10_wants_5 (by decide) ?_
    refine kr_icmp_le (tgt := 13) dX10_wants_7 rfl (fun c7 => ?_) (fun c7 => ?_)
    · rw [if_pos c7] at h
      refine kr_aload_n dX10_wants_13 rfl ?_
      obtain ⟨v1, hv1, h⟩ := Option.bind_eq_some_iff.mp h
      refine kr_callVi (M' := kMX10_hasShow) (a := 0) (As := []) (st := []) (RX10_hasShow (e + 1) hv1) koX10_hasShow rfl rfl rfl kw3_140 kw3_142 kws_4 rfl (Nat.le_of_ble_eq_true rfl) dX10_wants_14 ?_
      refine kr_if_eq (tgt := 31) dX10_wants_17 rfl (fun c17 => ?_) (fun c17 => ?_)
      · rw [if_pos c17] at h
        refine kr_bipush (v := (-103)) dX10_wants_31 (by decide) ?_
        cases h
        exact kr_iret rfl dX10_wants_33
      · rw [if_neg c17] at h
        refine kr_aload_n dX10_wants_20 rfl ?_
        refine kx_g0_5 G.2.2.2.1 rfl kw1_193 dX10_wants_21 ?_
        refine kr_iload_n dX10_wants_24 rfl ?_
        obtain ⟨v3, hv3, h⟩ := Option.bind_eq_some_iff.mp h
        obtain ⟨v2, hv2, h⟩ := Option.bind_eq_some_iff.mp h
        refine kr_callVi (M' := kMX0_wantedIn) (a := G.2.2.2.1) (As := [.int l1]) (st := []) (RX0_wantedIn (e + 0) hv2) koX0_wantedIn rfl (kg_bl_w hv3) rfl kw3_237 kw3_238 kw3_239 rfl (Nat.le_of_ble_eq_true rfl) dX10_wants_25 ?_
        refine kr_goto (tgt := 33) dX10_wants_28 rfl ?_
        cases h
        exact kr_iret rfl dX10_wants_33
    · rw [if_neg c7] at h
      refine kr_bipush (v := (-102)) dX10_wants_10 (by decide) ?_
      cases h
      exact kr_iret rfl dX10_wants_12
set_option maxRecDepth 20000 in
set_option maxHeartbeats 4000000 in
theorem RX9_movesAhead_4 {Z : kv_Z} (e : Nat) {N : Nat} {G : kg_G} : ∀ (n : Nat) (l1 : Int32) (l2 : Int32) (l3 : Int32) (res : Int32), fX9_movesAhead_4 N G n l1 l2 l3 = some res → kv_V Z (e + 1) kMX9_movesAhead 4 [some (.ref 3), some (.int l1), some (.int l2), some (.int l3)] [] (kg_w G) (some (.int res)) (kg_w G) := by
  intro n
  induction n with
  | zero => intro l1 l2 l3 res h; exact absurd h (by intro z; cases z)
  | succ n ih =>
    intro l1 l2 l3 res h
    have hk4 := ih
    rw [fX9_movesAhead_4] at h
    refine kr_iload_n dX9_movesAhead_4 rfl ?_
    refine kr_iconst (v := 5) dX9_movesAhead_5 (by decide) ?_
    refine kr_icmp_ge (tgt := 44) dX9_movesAhead_6 rfl (fun c6 => ?_) (fun c6 => ?_)
    · rw [if_pos c6] at h
      refine kr_iload_n dX9_movesAhead_44 rfl ?_
      cases h
      exact kr_iret rfl dX9_movesAhead_45
    · rw [if_neg c6] at h
      refine kr_iload_n dX9_movesAhead_9 rfl ?_
      refine kr_iload_n dX9_movesAhead_10 rfl ?_
      refine kr_callSNi (M' := kMX10_has) (As := [.int l1, .int l3]) (st := []) (RX10_has (e + 0) rfl) koX10_has rfl (by decide) kw3_16 rfl (Nat.le_of_ble_eq_true rfl) dX9_movesAhead_11 ?_
      refine kr_if_eq (tgt := 38) dX9_movesAhead_14 rfl (fun c14 => ?_) (fun c14 => ?_)
      · rw [if_pos c14] at h
        refine kr_iinc (v := l3 + 1) (ls' := [some (.ref 3), some (.int l1), some (.int l2), some (.int (l3 + 1))]) dX9_movesAhead_38 rfl rfl (Nat.le_of_ble_eq_true rfl) rfl ?_
        refine kr_goto (tgt := 4) dX9_movesAhead_41 rfl ?_
        exact hk4 _ _ _ _ h
      · rw [if_neg c14] at h
        refine kr_iload_n dX9_movesAhead_17 rfl ?_
        refine kr_iconst (v := 1) dX9_movesAhead_18 (by decide) ?_
        refine kr_aload_n dX9_movesAhead_19 rfl ?_
        refine kx_g3_1 kw1_55 dX9_movesAhead_20 ?_
        refine kr_iload_n dX9_movesAhead_23 rfl ?_
        obtain ⟨v2, hv2, h⟩ := Option.bind_eq_some_iff.mp h
        refine kx_a5 (G.2.1 5) rfl hv2 dX9_movesAhead_24 ?_
        refine kr_aload_n dX9_movesAhead_25 rfl ?_
        refine kx_g3_7 (G.1 3 7) rfl kw1_66 dX9_movesAhead_26 ?_
        refine kr_isub dX9_movesAhead_29 ?_
        refine kr_bipush (v := 6) dX9_movesAhead_30 (by decide) ?_
        obtain ⟨v3, hv3, h⟩ := Option.bind_eq_some_iff.mp h
        refine kr_callSi (M' := kMJ9_floorMod_7cf53) (As := [.int (v2 - (G.1 3 7)), .int 6]) (st := [.int 1, .int l2]) (RJ9_floorMod_7cf53 (e + 0) hv3) koJ9_floorMod_7cf53 rfl kw4_18 kw3_193 rfl (Nat.le_of_ble_eq_true rfl) dX9_movesAhead_32 ?_
        refine kr_ishl dX9_movesAhead_35 ?_
        refine kr_ior dX9_movesAhead_36 ?_
        refine kr_istore_n (i := 2) (ls' := [some (.ref 3), some (.int l1), some (.int (l2 ||| (1 <<< (v3 &&& 31)))), some (.int l3)]) dX9_movesAhead_37 rfl (Nat.le_of_ble_eq_true rfl) rfl ?_
        refine kr_iinc (v := l3 + 1) (ls' := [some (.ref 3), some (.int l1), some (.int (l2 ||| (1 <<< (v3 &&& 31)))), some (.int (l3 + 1))]) dX9_movesAhead_38 rfl rfl (Nat.le_of_ble_eq_true rfl) rfl ?_
        refine kr_goto (tgt := 4) dX9_movesAhead_41 rfl ?_
        exact hk4 _ _ _ _ h
set_option maxRecDepth 20000 in
set_option maxHeartbeats 4000000 in
theorem RX9_movesAhead {Z : kv_Z} (e : Nat) {N : Nat} {G : kg_G} {l1 : Int32} {res : Int32} (h : fX9_movesAhead N G l1 = some res) : kv_M Z (e + 1) kMX9_movesAhead [.ref 3, .int l1] (kg_w G) (some (.int res)) (kg_w G) := by
  refine kv_M_of (ls := [some (.ref 3), some (.int l1), none, none]) (by decide) (Nat.le_of_ble_eq_true rfl) rfl ?_
  unfold fX9_movesAhead at h
  refine kr_iconst (v := 0) dX9_movesAhead_0 (by decide) ?_
  refine kr_istore_n (i := 2) (ls' := [some (.ref 3), some (.int l1), some (.int 0), none]) dX9_movesAhead_1 rfl (Nat.le_of_ble_eq_true rfl) rfl ?_
  refine kr_iconst (v := 0) dX9_movesAhead_2 (by decide) ?_
  refine kr_istore_n (i := 3) (ls' := [some (.ref 3), some (.int l1), some (.int 0), some (.int 0)]) dX9_movesAhead_3 rfl (Nat.le_of_ble_eq_true rfl) rfl ?_
  exact RX9_movesAhead_4 e N _ _ _ _ h
