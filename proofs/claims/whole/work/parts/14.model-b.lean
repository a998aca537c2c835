/-! second half -/
set_option maxRecDepth 20000 in
set_option maxHeartbeats 4000000 in
theorem RX11_drop {Z : kv_Z} (e : Nat) {N : Nat} {G : kg_G} {l1 : Int32} {l2 : Int32} {res : Int32 × kg_G} (h : fX11_drop N G l1 l2 = some res) : kv_M Z (e + 2) kMX11_drop [.ref 28, .int l1, .int l2] (kg_w G) (some (.int res.1)) (kg_w res.2) := by
  refine kv_M_of (ls := [some (.ref 28), some (.int l1), some (.int l2)]) (by decide) (Nat.le_of_ble_eq_true rfl) rfl ?_
  unfold fX11_drop at h
  refine kr_aload_n dX11_drop_0 rfl ?_
  refine kr_iload_n dX11_drop_1 rfl ?_
  obtain ⟨v1, hv1, h⟩ := Option.bind_eq_some_iff.mp h
  refine kr_callVi (M' := kMX11_isTrick) (a := 28) (As := [.int l1]) (st := []) (RX11_isTrick (e + 0) hv1) koX11_isTrick rfl rfl rfl kw5_69 kw5_71 kws_21 rfl (Nat.le_of_ble_eq_true rfl) dX11_drop_2 ?_
  refine kr_if_eq (tgt := 16) dX11_drop_5 rfl (fun c5 => ?_) (fun c5 => ?_)
  · rw [if_pos c5] at h
    refine kr_bipush (v := (-101)) dX11_drop_16 (by decide) ?_
    cases h
    exact kr_iret rfl dX11_drop_18
  · rw [if_neg c5] at h
    refine kr_aload_n dX11_drop_8 rfl ?_
    refine kr_iload_n dX11_drop_9 rfl ?_
    obtain ⟨v2, hv2, h⟩ := Option.bind_eq_some_iff.mp h
    refine kr_callVi (M' := kMX11_isPerson) (a := 28) (As := [.int l2]) (st := []) (RX11_isPerson (e + 0) hv2) koX11_isPerson rfl rfl rfl kw5_129 kw5_131 kws_33 rfl (Nat.le_of_ble_eq_true rfl) dX11_drop_10 ?_
    refine kr_if_ne (tgt := 19) dX11_drop_13 rfl (fun c13 => ?_) (fun c13 => ?_)
    · rw [if_pos c13] at h
      refine kr_bipush (v := (-101)) dX11_drop_16 (by decide) ?_
      cases h
      exact kr_iret rfl dX11_drop_18
    · rw [if_neg c13] at h
      refine kr_aload_n dX11_drop_19 rfl ?_
      refine kx_g28_14 kw4_151 dX11_drop_20 ?_
      refine kr_iload_n dX11_drop_23 rfl ?_
      obtain ⟨v3, hv3, h⟩ := Option.bind_eq_some_iff.mp h
      refine kx_a32 (G.2.1 32) rfl hv3 dX11_drop_24 ?_
      refine kr_iload_n dX11_drop_25 rfl ?_
      refine kr_ishr dX11_drop_26 ?_
      refine kr_iconst (v := 1) dX11_drop_27 (by decide) ?_
      refine kr_iand dX11_drop_28 ?_
      refine kr_if_ne (tgt := 35) dX11_drop_29 rfl (fun c29 => ?_) (fun c29 => ?_)
      · rw [if_pos c29] at h
        refine kr_bipush (v := (-103)) dX11_drop_32 (by decide) ?_
        cases h
        exact kr_iret rfl dX11_drop_34
      · rw [if_neg c29] at h
        refine kr_aload_n dX11_drop_35 rfl ?_
        refine kx_g28_14 kw4_151 dX11_drop_36 ?_
        refine kr_iload_n dX11_drop_39 rfl ?_
        refine kr_dup2 dX11_drop_40 rfl rfl ?_
        obtain ⟨v4, hv4, h⟩ := Option.bind_eq_some_iff.mp h
        refine kx_a32 (G.2.1 32) rfl hv4 dX11_drop_41 ?_
        refine kr_iconst (v := 1) dX11_drop_42 (by decide) ?_
        refine kr_iload_n dX11_drop_43 rfl ?_
        refine kr_ishl dX11_drop_44 ?_
        refine kr_isub dX11_drop_45 ?_
        obtain ⟨v5, hv5, h⟩ := Option.bind_eq_some_iff.mp h
        refine kx_s32 (G.2.1 32) rfl hv5 dX11_drop_46 ?_
        refine kr_aload_n dX11_drop_47 rfl ?_
        refine kx_g28_14 kw4_151 dX11_drop_48 ?_
        refine kr_iload_n dX11_drop_51 rfl ?_
        obtain ⟨v6, hv6, h⟩ := Option.bind_eq_some_iff.mp h
        refine kx_a32 v5 rfl hv6 dX11_drop_52 ?_
        obtain ⟨v7, hv7, h⟩ := Option.bind_eq_some_iff.mp h
        refine kr_callSi (M' := kMX11_ones) (As := [.int v6]) (st := []) (RX11_ones (e + 1) hv7) koX11_ones rfl kw5_89 kw5_90 rfl (Nat.le_of_ble_eq_true rfl) dX11_drop_53 ?_
        cases h
        exact kr_iret rfl dX11_drop_56
set_option maxRecDepth 20000 in
set_option maxHeartbeats 4000000 in
theorem RX11_clear_4 {Z : kv_Z} (e : Nat) {N : Nat} : ∀ (n : Nat) (G : kg_G) (l1 : Int32) (l2 : Int32) (res : Int32 × kg_G), fX11_clear_4 N n G l1 l2 = some res → kv_V Z (e + 1) kMX11_clear 4 [some (.ref 28), some (.int l1), some (.int l2)] [] (kg_w G) (some (.int res.1)) (kg_w res.2) := by
  intro n
  induction n with
  | zero => intro G l1 l2 res h; exact absurd h (by intro z; cases z)
  | succ n ih =>
    intro G l1 l2 res h
    have hk4 := ih
    rw [fX11_clear_4] at h
    refine kr_iload_n dX11_clear_4 rfl ?_
    refine kr_aload_n dX11_clear_5 rfl ?_
    refine kx_g28_3 (G.1 28 3) rfl kw4_140 dX11_clear_6 ?_
    refine kr_icmp_ge (tgt := 37) dX11_clear_9 rfl (fun c9 => ?_) (fun c9 => ?_)
    · rw [if_pos c9] at h
      refine kr_iload_n dX11_clear_37 rfl ?_
      cases h
      exact kr_iret rfl dX11_clear_38
    · rw [if_neg c9] at h
      refine kr_iload_n dX11_clear_12 rfl ?_
      refine kr_aload_n dX11_clear_13 rfl ?_
      refine kx_g28_14 kw4_151 dX11_clear_14 ?_
      refine kr_iload_n dX11_clear_17 rfl ?_
      obtain ⟨v1, hv1, h⟩ := Option.bind_eq_some_iff.mp h
      refine kx_a32 (G.2.1 32) rfl hv1 dX11_clear_18 ?_
      obtain ⟨v2, hv2, h⟩ := Option.bind_eq_some_iff.mp h
      refine kr_callSi (M' := kMX11_ones) (As := [.int v1]) (st := [.int l1]) (RX11_ones (e + 0) hv2) koX11_ones rfl kw5_89 kw5_90 rfl (Nat.le_of_ble_eq_true rfl) dX11_clear_19 ?_
      refine kr_iadd dX11_clear_22 ?_
      refine kr_istore_n (i := 1) (ls' := [some (.ref 28), some (.int (l1 + v2)), some (.int l2)]) dX11_clear_23 rfl (Nat.le_of_ble_eq_true rfl) rfl ?_
      refine kr_aload_n dX11_clear_24 rfl ?_
      refine kx_g28_14 kw4_151 dX11_clear_25 ?_
      refine kr_iload_n dX11_clear_28 rfl ?_
      refine kr_iconst (v := 0) dX11_clear_29 (by decide) ?_
      obtain ⟨v3, hv3, h⟩ := Option.bind_eq_some_iff.mp h
      refine kx_s32 (G.2.1 32) rfl hv3 dX11_clear_30 ?_
      refine kr_iinc (v := l2 + 1) (ls' := [some (.ref 28), some (.int (l1 + v2)), some (.int (l2 + 1))]) dX11_clear_31 rfl rfl (Nat.le_of_ble_eq_true rfl) rfl ?_
      refine kr_goto (tgt := 4) dX11_clear_34 rfl ?_
      exact hk4 _ _ _ _ h
set_option maxRecDepth 20000 in
set_option maxHeartbeats 4000000 in
theorem RX11_clear {Z : kv_Z} (e : Nat) {N : Nat} {G : kg_G} {res : Int32 × kg_G} (h : fX11_clear N G = some res) : kv_M Z (e + 1) kMX11_clear [.ref 28] (kg_w G) (some (.int res.1)) (kg_w res.2) := by
  refine kv_M_of (ls := [some (.ref 28), none, none]) (by decide) (Nat.le_of_ble_eq_true rfl) rfl ?_
  unfold fX11_clear at h
  refine kr_iconst (v := 0) dX11_clear_0 (by decide) ?_
  refine kr_istore_n (i := 1) (ls' := [some (.ref 28), some (.int 0), none]) dX11_clear_1 rfl (Nat.le_of_ble_eq_true rfl) rfl ?_
  refine kr_iconst (v := 0) dX11_clear_2 (by decide) ?_
  refine kr_istore_n (i := 2) (ls' := [some (.ref 28), some (.int 0), some (.int 0)]) dX11_clear_3 rfl (Nat.le_of_ble_eq_true rfl) rfl ?_
  exact RX11_clear_4 e N _ _ _ _ h
set_option maxRecDepth 20000 in
set_option maxHeartbeats 4000000 in
theorem RX11_doneNow_4 {Z : kv_Z} (e : Nat) {N : Nat} {G : kg_G} : ∀ (n : Nat) (l1 : Int32) (l2 : Int32) (res : Int32), fX11_doneNow_4 N G n l1 l2 = some res → kv_V Z (e + 3) kMX11_doneNow 4 [some (.ref 28), some (.int l1), some (.int l2)] [] (kg_w G) (some (.int res)) (kg_w G) := by
  intro n
  induction n with
  | zero => intro l1 l2 res h; exact absurd h (by intro z; cases z)
  | succ n ih =>
    intro l1 l2 res h
    have hk4 := ih
    rw [fX11_doneNow_4] at h
    refine kr_iload_n dX11_doneNow_4 rfl ?_
    refine kr_aload_n dX11_doneNow_5 rfl ?_
    refine kx_g28_3 (G.1 28 3) rfl kw4_140 dX11_doneNow_6 ?_
    refine kr_icmp_ge (tgt := 40) dX11_doneNow_9 rfl (fun c9 => ?_) (fun c9 => ?_)
    · rw [if_pos c9] at h
      refine kr_iload_n dX11_doneNow_40 rfl ?_
      cases h
      exact kr_iret rfl dX11_doneNow_41
    · rw [if_neg c9] at h
      refine kr_iload_n dX11_doneNow_12 rfl ?_
      refine kr_aload_n dX11_doneNow_13 rfl ?_
      refine kr_iload_n dX11_doneNow_14 rfl ?_
      refine kr_aload_n dX11_doneNow_15 rfl ?_
      refine kx_g28_14 kw4_151 dX11_doneNow_16 ?_
      refine kr_iload_n dX11_doneNow_19 rfl ?_
      obtain ⟨v1, hv1, h⟩ := Option.bind_eq_some_iff.mp h
      refine kx_a32 (G.2.1 32) rfl hv1 dX11_doneNow_20 ?_
      obtain ⟨v2, hv2, h⟩ := Option.bind_eq_some_iff.mp h
      refine kr_callVi (M' := kMX11_isDoneBy) (a := 28) (As := [.int l2, .int v1]) (st := [.int l1]) (RX11_isDoneBy (e + 0) hv2) koX11_isDoneBy rfl rfl rfl kw5_81 kw5_83 kws_24 rfl (Nat.le_of_ble_eq_true rfl) dX11_doneNow_21 ?_
      refine kr_if_eq (tgt := 31) dX11_doneNow_24 rfl (fun c24 => ?_) (fun c24 => ?_)
      · rw [if_pos c24] at h
        refine kr_iconst (v := 0) dX11_doneNow_31 (by decide) ?_
        refine kr_iadd dX11_doneNow_32 ?_
        refine kr_istore_n (i := 1) (ls' := [some (.ref 28), some (.int (l1 + 0)), some (.int l2)]) dX11_doneNow_33 rfl (Nat.le_of_ble_eq_true rfl) rfl ?_
        refine kr_iinc (v := l2 + 1) (ls' := [some (.ref 28), some (.int (l1 + 0)), some (.int (l2 + 1))]) dX11_doneNow_34 rfl rfl (Nat.le_of_ble_eq_true rfl) rfl ?_
        refine kr_goto (tgt := 4) dX11_doneNow_37 rfl ?_
        exact hk4 _ _ _ h
      · rw [if_neg c24] at h
        refine kr_iconst (v := 1) dX11_doneNow_27 (by decide) ?_
        refine kr_goto (tgt := 32) dX11_doneNow_28 rfl ?_
        refine kr_iadd dX11_doneNow_32 ?_
        refine kr_istore_n (i := 1) (ls' := [some (.ref 28), some (.int (l1 + 1)), some (.int l2)]) dX11_doneNow_33 rfl (Nat.le_of_ble_eq_true rfl) rfl ?_
        refine kr_iinc (v := l2 + 1) (ls' := [some (.ref 28), some (.int (l1 + 1)), some (.int (l2 + 1))]) dX11_doneNow_34 rfl rfl (Nat.le_of_ble_eq_true rfl) rfl ?_
        refine kr_goto (tgt := 4) dX11_doneNow_37 rfl ?_
        exact hk4 _ _ _ h
set_option maxRecDepth 20000 in
set_option maxHeartbeats 4000000 in
theorem RX11_doneNow {Z : kv_Z} (e : Nat) {N : Nat} {G : kg_G} {res : Int32} (h : fX11_doneNow N G = some res) : kv_M Z (e + 3) kMX11_doneNow [.ref 28] (kg_w G) (some (.int res)) (kg_w G) := by
  refine kv_M_of (ls := [some (.ref 28), none, none]) (by decide) (Nat.le_of_ble_eq_true rfl) rfl ?_
  unfold fX11_doneNow at h
  refine kr_iconst (v := 0) dX11_doneNow_0 (by decide) ?_
  refine kr_istore_n (i := 1) (ls' := [some (.ref 28), some (.int 0), none]) dX11_doneNow_1 rfl (Nat.le_of_ble_eq_true rfl) rfl ?_
  refine kr_iconst (v := 0) dX11_doneNow_2 (by decide) ?_
  refine kr_istore_n (i := 2) (ls' := [some (.ref 28), some (.int 0), some (.int 0)]) dX11_doneNow_3 rfl (Nat.le_of_ble_eq_true rfl) rfl ?_
  exact RX11_doneNow_4 e N _ _ _ h
set_option maxRecDepth 20000 in
set_option maxHeartbeats 4000000 in
theorem RX11_night_69 {Z : kv_Z} (e : Nat) {N : Nat} : ∀ (n : Nat) (G : kg_G) (l1 : Int32) (l2 : Int32) (res : Int32 × kg_G), fX11_night_69 N n G l1 l2 = some res → kv_V Z (e + 4) kMX11_night 69 [some (.ref 28), some (.int l1), some (.int l2)] [] (kg_w G) (some (.int res.1)) (kg_w res.2) := by
  intro n
  induction n with
  | zero => intro G l1 l2 res h; exact absurd h (by intro z; cases z)
  | succ n ih =>
    intro G l1 l2 res h
    have hk69 := ih
    rw [fX11_night_69] at h
    refine kr_iload_n dX11_night_69 rfl ?_
    refine kr_aload_n dX11_night_70 rfl ?_
    refine kx_g28_4 (G.1 28 4) rfl kw4_141 dX11_night_71 ?_
    refine kr_icmp_ge (tgt := 101) dX11_night_74 rfl (fun c74 => ?_) (fun c74 => ?_)
    · rw [if_pos c74] at h
      refine kr_aload_n dX11_night_101 rfl ?_
      obtain ⟨v1, hv1, h⟩ := Option.bind_eq_some_iff.mp h
      refine kr_callVi (M' := kMX11_doneNow) (a := 28) (As := []) (st := []) (RX11_doneNow (e + 0) hv1) koX11_doneNow rfl rfl rfl kw5_173 kw5_175 kws_40 rfl (Nat.le_of_ble_eq_true rfl) dX11_night_102 ?_
      refine kr_istore_n (i := 2) (ls' := [some (.ref 28), some (.int l1), some (.int v1)]) dX11_night_105 rfl (Nat.le_of_ble_eq_true rfl) rfl ?_
      refine kr_aload_n dX11_night_106 rfl ?_
      refine kr_dup dX11_night_107 rfl ?_
      refine kx_g28_6 (G.1 28 6) rfl kw4_143 dX11_night_108 ?_
      refine kr_iconst (v := 1) dX11_night_111 (by decide) ?_
      refine kr_iadd dX11_night_112 ?_
      refine kx_p28_6 kw4_143 dX11_night_113 ?_
      refine kr_aload_n dX11_night_116 rfl ?_
      refine kr_dup dX11_night_117 rfl ?_
      refine kx_g28_7 (G.1 28 7) rfl kw4_144 dX11_night_118 ?_
      refine kr_iload_n dX11_night_121 rfl ?_
      refine kr_iadd dX11_night_122 ?_
      refine kx_p28_7 kw4_144 dX11_night_123 ?_
      refine kr_iload_n dX11_night_126 rfl ?_
      cases h
      exact kr_iret rfl dX11_night_127
    · rw [if_neg c74] at h
      refine kr_aload_n dX11_night_77 rfl ?_
      refine kx_g28_13 kw4_150 dX11_night_78 ?_
      refine kr_iconst (v := 3) dX11_night_81 (by decide) ?_
      refine kr_iload_n dX11_night_82 rfl ?_
      refine kr_imul dX11_night_83 ?_
      refine kr_iconst (v := 2) dX11_night_84 (by decide) ?_
      refine kr_iadd dX11_night_85 ?_
      refine kr_dup2 dX11_night_86 rfl rfl ?_
      obtain ⟨v2, hv2, h⟩ := Option.bind_eq_some_iff.mp h
      refine kx_a31 (G.2.1 31) rfl hv2 dX11_night_87 ?_
      refine kr_iload_n dX11_night_88 rfl ?_
      refine kr_iload_n dX11_night_89 rfl ?_
      refine kr_ishr dX11_night_90 ?_
      refine kr_iconst (v := 1) dX11_night_91 (by decide) ?_
      refine kr_iand dX11_night_92 ?_
      refine kr_iadd dX11_night_93 ?_
      obtain ⟨v3, hv3, h⟩ := Option.bind_eq_some_iff.mp h
      refine kx_s31 (G.2.1 31) rfl hv3 dX11_night_94 ?_
      refine kr_iinc (v := l2 + 1) (ls' := [some (.ref 28), some (.int l1), some (.int (l2 + 1))]) dX11_night_95 rfl rfl (Nat.le_of_ble_eq_true rfl) rfl ?_
      refine kr_goto (tgt := 69) dX11_night_98 rfl ?_
      exact hk69 _ _ _ _ h
set_option maxRecDepth 20000 in
set_option maxHeartbeats 4000000 in
theorem RX11_night_26 {Z : kv_Z} (e : Nat) {N : Nat} : ∀ (n : Nat) (G : kg_G) (l1 : Int32) (l2 : Int32) (res : Int32 × kg_G), fX11_night_26 N n G l1 l2 = some res → kv_V Z (e + 4) kMX11_night 26 [some (.ref 28), some (.int l1), some (.int l2)] [] (kg_w G) (some (.int res.1)) (kg_w res.2) := by
  intro n
  induction n with
  | zero => intro G l1 l2 res h; exact absurd h (by intro z; cases z)
  | succ n ih =>
    intro G l1 l2 res h
    have hk26 := ih
    rw [fX11_night_26] at h
    refine kr_iload_n dX11_night_26 rfl ?_
    refine kr_aload_n dX11_night_27 rfl ?_
    refine kx_g28_3 (G.1 28 3) rfl kw4_140 dX11_night_28 ?_
    refine kr_icmp_ge (tgt := 67) dX11_night_31 rfl (fun c31 => ?_) (fun c31 => ?_)
    · rw [if_pos c31] at h
      refine kr_iconst (v := 0) dX11_night_67 (by decide) ?_
      refine kr_istore_n (i := 2) (ls' := [some (.ref 28), some (.int l1), some (.int 0)]) dX11_night_68 rfl (Nat.le_of_ble_eq_true rfl) rfl ?_
      exact RX11_night_69 e N _ _ _ _ h
    · rw [if_neg c31] at h
      refine kr_iload_n dX11_night_34 rfl ?_
      refine kr_aload_n dX11_night_35 rfl ?_
      refine kr_iload_n dX11_night_36 rfl ?_
      refine kr_aload_n dX11_night_37 rfl ?_
      refine kx_g28_14 kw4_151 dX11_night_38 ?_
      refine kr_iload_n dX11_night_41 rfl ?_
      obtain ⟨v1, hv1, h⟩ := Option.bind_eq_some_iff.mp h
      refine kx_a32 (G.2.1 32) rfl hv1 dX11_night_42 ?_
      obtain ⟨v2, hv2, h⟩ := Option.bind_eq_some_iff.mp h
      refine kr_callVi (M' := kMX11_isDoneBy) (a := 28) (As := [.int l2, .int v1]) (st := [.int l1]) (RX11_isDoneBy (e + 1) hv2) koX11_isDoneBy rfl rfl rfl kw5_81 kw5_83 kws_24 rfl (Nat.le_of_ble_eq_true rfl) dX11_night_43 ?_
      refine kr_if_eq (tgt := 58) dX11_night_46 rfl (fun c46 => ?_) (fun c46 => ?_)
      · rw [if_pos c46] at h
        refine kr_iconst (v := 0) dX11_night_58 (by decide) ?_
        refine kr_ior dX11_night_59 ?_
        refine kr_istore_n (i := 1) (ls' := [some (.ref 28), some (.int (l1 ||| 0)), some (.int l2)]) dX11_night_60 rfl (Nat.le_of_ble_eq_true rfl) rfl ?_
        refine kr_iinc (v := l2 + 1) (ls' := [some (.ref 28), some (.int (l1 ||| 0)), some (.int (l2 + 1))]) dX11_night_61 rfl rfl (Nat.le_of_ble_eq_true rfl) rfl ?_
        refine kr_goto (tgt := 26) dX11_night_64 rfl ?_
        exact hk26 _ _ _ _ h
      · rw [if_neg c46] at h
        refine kr_aload_n dX11_night_49 rfl ?_
        refine kx_g28_14 kw4_151 dX11_night_50 ?_
        refine kr_iload_n dX11_night_53 rfl ?_
        obtain ⟨v3, hv3, h⟩ := Option.bind_eq_some_iff.mp h
        refine kx_a32 (G.2.1 32) rfl hv3 dX11_night_54 ?_
        refine kr_goto (tgt := 59) dX11_night_55 rfl ?_
        refine kr_ior dX11_night_59 ?_
        refine kr_istore_n (i := 1) (ls' := [some (.ref 28), some (.int (l1 ||| v3)), some (.int l2)]) dX11_night_60 rfl (Nat.le_of_ble_eq_true rfl) rfl ?_
        refine kr_iinc (v := l2 + 1) (ls' := [some (.ref 28), some (.int (l1 ||| v3)), some (.int (l2 + 1))]) dX11_night_61 rfl rfl (Nat.le_of_ble_eq_true rfl) rfl ?_
        refine kr_goto (tgt := 26) dX11_night_64 rfl ?_
        exact hk26 _ _ _ _ h
set_option maxRecDepth 20000 in
set_option maxHeartbeats 4000000 in
theorem RX11_night {Z : kv_Z} (e : Nat) {N : Nat} {G : kg_G} {res : Int32 × kg_G} (h : fX11_night N G = some res) : kv_M Z (e + 4) kMX11_night [.ref 28] (kg_w G) (some (.int res.1)) (kg_w res.2) := by
  refine kv_M_of (ls := [some (.ref 28), none, none]) (by decide) (Nat.le_of_ble_eq_true rfl) rfl ?_
  unfold fX11_night at h
  refine kr_aload_n dX11_night_0 rfl ?_
  refine kr_callVi (M' := kMX11_lacks) (a := 28) (As := []) (st := []) (RX11_lacks (e + 3) rfl) koX11_lacks rfl rfl rfl kw5_169 kw5_171 kws_39 rfl (Nat.le_of_ble_eq_true rfl) dX11_night_1 ?_
  refine kr_if_eq (tgt := 10) dX11_night_4 rfl (fun c4 => ?_) (fun c4 => ?_)
  · rw [if_pos c4] at h
    refine kr_aload_n dX11_night_10 rfl ?_
    refine kx_g28_6 (G.1 28 6) rfl kw4_143 dX11_night_11 ?_
    refine kr_bipush (v := 99) dX11_night_14 (by decide) ?_
    refine kr_icmp_ne (tgt := 22) dX11_night_16 rfl (fun c16 => ?_) (fun c16 => ?_)
    · rw [if_pos c16] at h
      refine kr_bipush (v := (-104)) dX11_night_19 (by decide) ?_
      cases h
      exact kr_iret rfl dX11_night_21
    · rw [if_neg c16] at h
      refine kr_iconst (v := 0) dX11_night_22 (by decide) ?_
      refine kr_istore_n (i := 1) (ls' := [some (.ref 28), some (.int 0), none]) dX11_night_23 rfl (Nat.le_of_ble_eq_true rfl) rfl ?_
      refine kr_iconst (v := 0) dX11_night_24 (by decide) ?_
      refine kr_istore_n (i := 2) (ls' := [some (.ref 28), some (.int 0), some (.int 0)]) dX11_night_25 rfl (Nat.le_of_ble_eq_true rfl) rfl ?_
      exact RX11_night_26 e N _ _ _ _ h
  · rw [if_neg c4] at h
    refine kr_bipush (v := (-103)) dX11_night_7 (by decide) ?_
    cases h
    exact kr_iret rfl dX11_night_9
set_option maxRecDepth 20000 in
set_option maxHeartbeats 4000000 in
theorem RX11_move_24 {Z : kv_Z} (e : Nat) : ∀ (G : kg_G) (s1 : Int32) (s2 : Int32) (res : Int32 × kg_G), fX11_move_24 G s1 s2 = res → kv_V Z (e + 1) kMX11_move 24 [some (.ref 28), none] [.int s2, .int s1, .ref 28] (kg_w G) (some (.int res.1)) (kg_w res.2) := by
  intro G s1 s2 res h
  unfold fX11_move_24 at h
  refine kr_iadd dX11_move_24 ?_
  refine kr_bipush (v := 6) dX11_move_25 (by decide) ?_
  refine kr_irem dX11_move_27 (by decide) ?_
  refine kx_p28_5 kw4_142 dX11_move_28 ?_
  refine kr_aload_n dX11_move_31 rfl ?_
  refine kr_dup dX11_move_32 rfl ?_
  refine kx_g28_8 (G.1 28 8) rfl kw4_145 dX11_move_33 ?_
  refine kr_iconst (v := 1) dX11_move_36 (by decide) ?_
  refine kr_iadd dX11_move_37 ?_
  refine kx_p28_8 kw4_145 dX11_move_38 ?_
  refine kr_aload_n dX11_move_41 rfl ?_
  refine kx_g28_5 ((s1 + s2) - (s1 + s2) / 6 * 6) rfl kw4_142 dX11_move_42 ?_
  cases h
  exact kr_iret rfl dX11_move_45
set_option maxRecDepth 20000 in
set_option maxHeartbeats 4000000 in
theorem RX11_move {Z : kv_Z} (e : Nat) {G : kg_G} {l1 : Int32} {res : Int32 × kg_G} (h : fX11_move G l1 = res) : kv_M Z (e + 1) kMX11_move [.ref 28, .int l1] (kg_w G) (some (.int res.1)) (kg_w res.2) := by
  refine kv_M_of (ls := [some (.ref 28), some (.int l1)]) (by decide) (Nat.le_of_ble_eq_true rfl) rfl ?_
  unfold fX11_move at h
  refine kr_aload_n dX11_move_0 rfl ?_
  refine kr_callVi (M' := kMX11_lacks) (a := 28) (As := []) (st := []) (RX11_lacks (e + 0) rfl) koX11_lacks rfl rfl rfl kw5_169 kw5_171 kws_39 rfl (Nat.le_of_ble_eq_true rfl) dX11_move_1 ?_
  refine kr_if_eq (tgt := 10) dX11_move_4 rfl (fun c4 => ?_) (fun c4 => ?_)
  · rw [if_pos c4] at h
    refine kr_aload_n dX11_move_10 rfl ?_
    refine kr_aload_n dX11_move_11 rfl ?_
    refine kx_g28_5 (G.1 28 5) rfl kw4_142 dX11_move_12 ?_
    refine kr_iload_n dX11_move_15 rfl ?_
    refine kr_if_eq (tgt := 23) dX11_move_16 rfl (fun c16 => ?_) (fun c16 => ?_)
    · rw [if_pos c16] at h
      refine kr_iconst (v := 5) dX11_move_23 (by decide) ?_
      refine kv_loc (ls' := [some (.ref 28), none]) (And.intro rfl trivial) ?_
      exact RX11_move_24 e _ _ _ _ h
    · rw [if_neg c16] at h
      refine kr_iconst (v := 1) dX11_move_19 (by decide) ?_
      refine kr_goto (tgt := 24) dX11_move_20 rfl ?_
      refine kv_loc (ls' := [some (.ref 28), none]) (And.intro rfl trivial) ?_
      exact RX11_move_24 e _ _ _ _ h
  · rw [if_neg c4] at h
    refine kr_bipush (v := (-103)) dX11_move_7 (by decide) ?_
    cases h
    exact kr_iret rfl dX11_move_9
set_option maxRecDepth 20000 in
set_option maxHeartbeats 4000000 in
theorem RX11_letGo_41 {Z : kv_Z} (e : Nat) {N : Nat} : ∀ (n : Nat) (G : kg_G) (l1 : Int32) (l2 : Int32) (res : Int32 × kg_G), fX11_letGo_41 N n G l1 l2 = some res → kv_V Z (e + 2) kMX11_letGo 41 [some (.ref 28), some (.int l1), some (.int l2)] [] (kg_w G) (some (.int res.1)) (kg_w res.2) := by
  intro n
  induction n with
  | zero => intro G l1 l2 res h; exact absurd h (by intro z; cases z)
  | succ n ih =>
    intro G l1 l2 res h
    have hk41 := ih
    rw [fX11_letGo_41] at h
    refine kr_iload_n dX11_letGo_41 rfl ?_
    refine kr_aload_n dX11_letGo_42 rfl ?_
    refine kx_g28_3 (G.1 28 3) rfl kw4_140 dX11_letGo_43 ?_
    refine kr_icmp_ge (tgt := 69) dX11_letGo_46 rfl (fun c46 => ?_) (fun c46 => ?_)
    · rw [if_pos c46] at h
      refine kr_aload_n dX11_letGo_69 rfl ?_
      refine kx_g28_13 kw4_150 dX11_letGo_70 ?_
      refine kr_iconst (v := 3) dX11_letGo_73 (by decide) ?_
      refine kr_iload_n dX11_letGo_74 rfl ?_
      refine kr_imul dX11_letGo_75 ?_
      refine kr_iconst (v := (-1)) dX11_letGo_76 (by decide) ?_
      obtain ⟨v1, hv1, h⟩ := Option.bind_eq_some_iff.mp h
      refine kx_s31 (G.2.1 31) rfl hv1 dX11_letGo_77 ?_
      refine kr_aload_n dX11_letGo_78 rfl ?_
      refine kx_g28_13 kw4_150 dX11_letGo_79 ?_
      refine kr_iconst (v := 3) dX11_letGo_82 (by decide) ?_
      refine kr_iload_n dX11_letGo_83 rfl ?_
      refine kr_imul dX11_letGo_84 ?_
      refine kr_iconst (v := 1) dX11_letGo_85 (by decide) ?_
      refine kr_iadd dX11_letGo_86 ?_
      refine kr_iconst (v := (-1)) dX11_letGo_87 (by decide) ?_
      obtain ⟨v2, hv2, h⟩ := Option.bind_eq_some_iff.mp h
      refine kx_s31 v1 rfl hv2 dX11_letGo_88 ?_
      refine kr_aload_n dX11_letGo_89 rfl ?_
      refine kx_g28_13 kw4_150 dX11_letGo_90 ?_
      refine kr_iconst (v := 3) dX11_letGo_93 (by decide) ?_
      refine kr_iload_n dX11_letGo_94 rfl ?_
      refine kr_imul dX11_letGo_95 ?_
      refine kr_iconst (v := 2) dX11_letGo_96 (by decide) ?_
      refine kr_iadd dX11_letGo_97 ?_
      refine kr_iconst (v := 0) dX11_letGo_98 (by decide) ?_
      obtain ⟨v3, hv3, h⟩ := Option.bind_eq_some_iff.mp h
      refine kx_s31 v2 rfl hv3 dX11_letGo_99 ?_
      refine kr_aload_n dX11_letGo_100 rfl ?_
      refine kr_dup dX11_letGo_101 rfl ?_
      refine kx_g28_10 (G.1 28 10) rfl kw4_147 dX11_letGo_102 ?_
      refine kr_iconst (v := 1) dX11_letGo_105 (by decide) ?_
      refine kr_iadd dX11_letGo_106 ?_
      refine kx_p28_10 kw4_147 dX11_letGo_107 ?_
      refine kr_aload_n dX11_letGo_110 rfl ?_
      obtain ⟨v4, hv4, h⟩ := Option.bind_eq_some_iff.mp h
      refine kr_callVi (M' := kMX11_keptSet) (a := 28) (As := []) (st := []) (RX11_keptSet (e + 0) hv4) koX11_keptSet rfl rfl rfl kw5_185 kw5_187 kws_41 rfl (Nat.le_of_ble_eq_true rfl) dX11_letGo_111 ?_
      obtain ⟨v5, hv5, h⟩ := Option.bind_eq_some_iff.mp h
      refine kr_callSi (M' := kMX11_ones) (As := [.int v4]) (st := []) (RX11_ones (e + 1) hv5) koX11_ones rfl kw5_89 kw5_90 rfl (Nat.le_of_ble_eq_true rfl) dX11_letGo_114 ?_
      cases h
      exact kr_iret rfl dX11_letGo_117
    · rw [if_neg c46] at h
      refine kr_aload_n dX11_letGo_49 rfl ?_
      refine kx_g28_14 kw4_151 dX11_letGo_50 ?_
      refine kr_iload_n dX11_letGo_53 rfl ?_
      refine kr_dup2 dX11_letGo_54 rfl rfl ?_
      obtain ⟨v6, hv6, h⟩ := Option.bind_eq_some_iff.mp h
      refine kx_a32 (G.2.1 32) rfl hv6 dX11_letGo_55 ?_
      refine kr_iconst (v := 1) dX11_letGo_56 (by decide) ?_
      refine kr_iload_n dX11_letGo_57 rfl ?_
      refine kr_ishl dX11_letGo_58 ?_
      refine kr_iconst (v := (-1)) dX11_letGo_59 (by decide) ?_
      refine kr_ixor dX11_letGo_60 ?_
      refine kr_iand dX11_letGo_61 ?_
      obtain ⟨v7, hv7, h⟩ := Option.bind_eq_some_iff.mp h
      refine kx_s32 (G.2.1 32) rfl hv7 dX11_letGo_62 ?_
      refine kr_iinc (v := l2 + 1) (ls' := [some (.ref 28), some (.int l1), some (.int (l2 + 1))]) dX11_letGo_63 rfl rfl (Nat.le_of_ble_eq_true rfl) rfl ?_
      refine kr_goto (tgt := 41) dX11_letGo_66 rfl ?_
      exact hk41 _ _ _ _ h
set_option maxRecDepth 20000 in
set_option maxHeartbeats 4000000 in
theorem RX11_letGo {Z : kv_Z} (e : Nat) {N : Nat} {G : kg_G} {l1 : Int32} {res : Int32 × kg_G} (h : fX11_letGo N G l1 = some res) : kv_M Z (e + 2) kMX11_letGo [.ref 28, .int l1] (kg_w G) (some (.int res.1)) (kg_w res.2) := by
  refine kv_M_of (ls := [some (.ref 28), some (.int l1), none]) (by decide) (Nat.le_of_ble_eq_true rfl) rfl ?_
  unfold fX11_letGo at h
  refine kr_aload_n dX11_letGo_0 rfl ?_
  refine kr_iload_n dX11_letGo_1 rfl ?_
  obtain ⟨v1, hv1, h⟩ := Option.bind_eq_some_iff.mp h
  refine kr_callVi (M' := kMX11_isPerson) (a := 28) (As := [.int l1]) (st := []) (RX11_isPerson (e + 0) hv1) koX11_isPerson rfl rfl rfl kw5_129 kw5_131 kws_33 rfl (Nat.le_of_ble_eq_true rfl) dX11_letGo_2 ?_
  refine kr_if_ne (tgt := 11) dX11_letGo_5 rfl (fun c5 => ?_) (fun c5 => ?_)
  · rw [if_pos c5] at h
    refine kr_bipush (v := (-101)) dX11_letGo_8 (by decide) ?_
    cases h
    exact kr_iret rfl dX11_letGo_10
  · rw [if_neg c5] at h
    refine kr_aload_n dX11_letGo_11 rfl ?_
    refine kr_iload_n dX11_letGo_12 rfl ?_
    obtain ⟨v2, hv2, h⟩ := Option.bind_eq_some_iff.mp h
    refine kr_callVi (M' := kMX11_isKept) (a := 28) (As := [.int l1]) (st := []) (RX11_isKept (e + 1) hv2) koX11_isKept rfl rfl rfl kw5_96 kw5_98 kws_27 rfl (Nat.le_of_ble_eq_true rfl) dX11_letGo_13 ?_
    refine kr_if_eq (tgt := 36) dX11_letGo_16 rfl (fun c16 => ?_) (fun c16 => ?_)
    · rw [if_pos c16] at h
      refine kr_bipush (v := (-103)) dX11_letGo_36 (by decide) ?_
      cases h
      exact kr_iret rfl dX11_letGo_38
    · rw [if_neg c16] at h
      refine kr_aload_n dX11_letGo_19 rfl ?_
      refine kx_g28_13 kw4_150 dX11_letGo_20 ?_
      refine kr_iconst (v := 3) dX11_letGo_23 (by decide) ?_
      refine kr_iload_n dX11_letGo_24 rfl ?_
      refine kr_imul dX11_letGo_25 ?_
      refine kr_iconst (v := 1) dX11_letGo_26 (by decide) ?_
      refine kr_iadd dX11_letGo_27 ?_
      obtain ⟨v3, hv3, h⟩ := Option.bind_eq_some_iff.mp h
      refine kx_a31 (G.2.1 31) rfl hv3 dX11_letGo_28 ?_
      refine kr_aload_n dX11_letGo_29 rfl ?_
      refine kx_g28_5 (G.1 28 5) rfl kw4_142 dX11_letGo_30 ?_
      refine kr_icmp_eq (tgt := 39) dX11_letGo_33 rfl (fun c33 => ?_) (fun c33 => ?_)
      · rw [if_pos c33] at h
        refine kr_iconst (v := 0) dX11_letGo_39 (by decide) ?_
        refine kr_istore_n (i := 2) (ls' := [some (.ref 28), some (.int l1), some (.int 0)]) dX11_letGo_40 rfl (Nat.le_of_ble_eq_true rfl) rfl ?_
        exact RX11_letGo_41 e N _ _ _ _ h
      · rw [if_neg c33] at h
        refine kr_bipush (v := (-103)) dX11_letGo_36 (by decide) ?_
        cases h
        exact kr_iret rfl dX11_letGo_38
set_option maxRecDepth 20000 in
set_option maxHeartbeats 4000000 in
theorem RX11_call {Z : kv_Z} (e : Nat) {N : Nat} {G : kg_G} {l1 : Int32} {l2 : Int32} {res : Int32 × kg_G} (h : fX11_call N G l1 l2 = some res) : kv_M Z (e + 2) kMX11_call [.ref 28, .int l1, .int l2] (kg_w G) (some (.int res.1)) (kg_w res.2) := by
  refine kv_M_of (ls := [some (.ref 28), some (.int l1), some (.int l2)]) (by decide) (Nat.le_of_ble_eq_true rfl) rfl ?_
  unfold fX11_call at h
  refine kr_aload_n dX11_call_0 rfl ?_
  refine kr_iload_n dX11_call_1 rfl ?_
  obtain ⟨v1, hv1, h⟩ := Option.bind_eq_some_iff.mp h
  refine kr_callVi (M' := kMX11_isPerson) (a := 28) (As := [.int l1]) (st := []) (RX11_isPerson (e + 0) hv1) koX11_isPerson rfl rfl rfl kw5_129 kw5_131 kws_33 rfl (Nat.le_of_ble_eq_true rfl) dX11_call_2 ?_
  refine kr_if_ne (tgt := 11) dX11_call_5 rfl (fun c5 => ?_) (fun c5 => ?_)
  · rw [if_pos c5] at h
    refine kr_bipush (v := (-101)) dX11_call_8 (by decide) ?_
    cases h
    exact kr_iret rfl dX11_call_10
  · rw [if_neg c5] at h
    refine kr_iload_n dX11_call_11 rfl ?_
    refine kr_i2l dX11_call_12 ?_
    refine kr_lconst (v := 0) dX11_call_13 (by decide) ?_
    refine kr_ldc2 (x := 9) kw5_193 dX11_call_14 ?_
    refine kr_callSi (M' := kMX11_in) (As := [.long l2.toInt64, .long 0, .long 9]) (st := []) (RX11_in (e + 1) rfl) koX11_in rfl kw5_29 kw5_30 rfl (Nat.le_of_ble_eq_true rfl) dX11_call_17 ?_
    refine kr_if_ne (tgt := 26) dX11_call_20 rfl (fun c20 => ?_) (fun c20 => ?_)
    · rw [if_pos c20] at h
      refine kr_bipush (v := (-102)) dX11_call_23 (by decide) ?_
      cases h
      exact kr_iret rfl dX11_call_25
    · rw [if_neg c20] at h
      refine kr_aload_n dX11_call_26 rfl ?_
      refine kr_iload_n dX11_call_27 rfl ?_
      obtain ⟨v3, hv3, h⟩ := Option.bind_eq_some_iff.mp h
      refine kr_callVi (M' := kMX11_isKept) (a := 28) (As := [.int l1]) (st := []) (RX11_isKept (e + 1) hv3) koX11_isKept rfl rfl rfl kw5_96 kw5_98 kws_27 rfl (Nat.le_of_ble_eq_true rfl) dX11_call_28 ?_
      refine kr_if_eq (tgt := 37) dX11_call_31 rfl (fun c31 => ?_) (fun c31 => ?_)
      · rw [if_pos c31] at h
        refine kr_aload_n dX11_call_37 rfl ?_
        refine kx_g28_13 kw4_150 dX11_call_38 ?_
        refine kr_iconst (v := 3) dX11_call_41 (by decide) ?_
        refine kr_iload_n dX11_call_42 rfl ?_
        refine kr_imul dX11_call_43 ?_
        refine kr_iload_n dX11_call_44 rfl ?_
        obtain ⟨v4, hv4, h⟩ := Option.bind_eq_some_iff.mp h
        refine kx_s31 (G.2.1 31) rfl hv4 dX11_call_45 ?_
        refine kr_aload_n dX11_call_46 rfl ?_
        refine kx_g28_13 kw4_150 dX11_call_47 ?_
        refine kr_iconst (v := 3) dX11_call_50 (by decide) ?_
        refine kr_iload_n dX11_call_51 rfl ?_
        refine kr_imul dX11_call_52 ?_
        refine kr_iconst (v := 1) dX11_call_53 (by decide) ?_
        refine kr_iadd dX11_call_54 ?_
        refine kr_aload_n dX11_call_55 rfl ?_
        refine kx_g28_5 (G.1 28 5) rfl kw4_142 dX11_call_56 ?_
        obtain ⟨v5, hv5, h⟩ := Option.bind_eq_some_iff.mp h
        refine kx_s31 v4 rfl hv5 dX11_call_59 ?_
        refine kr_aload_n dX11_call_60 rfl ?_
        refine kx_g28_13 kw4_150 dX11_call_61 ?_
        refine kr_iconst (v := 3) dX11_call_64 (by decide) ?_
        refine kr_iload_n dX11_call_65 rfl ?_
        refine kr_imul dX11_call_66 ?_
        refine kr_iconst (v := 2) dX11_call_67 (by decide) ?_
        refine kr_iadd dX11_call_68 ?_
        refine kr_iconst (v := 0) dX11_call_69 (by decide) ?_
        obtain ⟨v6, hv6, h⟩ := Option.bind_eq_some_iff.mp h
        refine kx_s31 v5 rfl hv6 dX11_call_70 ?_
        refine kr_aload_n dX11_call_71 rfl ?_
        refine kr_dup dX11_call_72 rfl ?_
        refine kx_g28_9 (G.1 28 9) rfl kw4_146 dX11_call_73 ?_
        refine kr_iconst (v := 1) dX11_call_76 (by decide) ?_
        refine kr_iadd dX11_call_77 ?_
        refine kx_p28_9 kw4_146 dX11_call_78 ?_
        refine kr_aload_n dX11_call_81 rfl ?_
        obtain ⟨v7, hv7, h⟩ := Option.bind_eq_some_iff.mp h
        refine kr_callVi (M' := kMX11_keptSet) (a := 28) (As := []) (st := []) (RX11_keptSet (e + 0) hv7) koX11_keptSet rfl rfl rfl kw5_185 kw5_187 kws_41 rfl (Nat.le_of_ble_eq_true rfl) dX11_call_82 ?_
        obtain ⟨v8, hv8, h⟩ := Option.bind_eq_some_iff.mp h
        refine kr_callSi (M' := kMX11_ones) (As := [.int v7]) (st := []) (RX11_ones (e + 1) hv8) koX11_ones rfl kw5_89 kw5_90 rfl (Nat.le_of_ble_eq_true rfl) dX11_call_85 ?_
        cases h
        exact kr_iret rfl dX11_call_88
      · rw [if_neg c31] at h
        refine kr_bipush (v := (-103)) dX11_call_34 (by decide) ?_
        cases h
        exact kr_iret rfl dX11_call_36
set_option maxRecDepth 20000 in
set_option maxHeartbeats 4000000 in
theorem RX11_layChoices_26 {Z : kv_Z} (e : Nat) {N : Nat} {k2 : kg_G → Int32 → Int32 → Option (kg_G)} (hk2 : ∀ (G : kg_G) (l1 : Int32) (l2 : Int32) (res : kg_G), k2 G l1 l2 = some res → kv_V Z (e + 3) kMX11_layChoices 2 [some (.ref 28), some (.int l1), some (.int l2), none] [] (kg_w G) none (kg_w res)) : ∀ (n : Nat) (G : kg_G) (l1 : Int32) (l2 : Int32) (l3 : Int32) (res : kg_G), fX11_layChoices_26 N k2 n G l1 l2 l3 = some res → kv_V Z (e + 3) kMX11_layChoices 26 [some (.ref 28), some (.int l1), some (.int l2), some (.int l3)] [] (kg_w G) none (kg_w res) := by
  intro n
  induction n with
  | zero => intro G l1 l2 l3 res h; exact absurd h (by intro z; cases z)
  | succ n ih =>
    intro G l1 l2 l3 res h
    have hk26 := ih
    rw [fX11_layChoices_26] at h
    refine kr_iload_n dX11_layChoices_26 rfl ?_
    refine kr_bipush (v := 32) dX11_layChoices_27 (by decide) ?_
    refine kr_icmp_ge (tgt := 90) dX11_layChoices_29 rfl (fun c29 => ?_) (fun c29 => ?_)
    · rw [if_pos c29] at h
      refine kr_iinc (v := l2 + 1) (ls' := [some (.ref 28), some (.int l1), some (.int (l2 + 1)), some (.int l3)]) dX11_layChoices_90 rfl rfl (Nat.le_of_ble_eq_true rfl) rfl ?_
      refine kr_goto (tgt := 2) dX11_layChoices_93 rfl ?_
      refine kv_loc (ls' := [some (.ref 28), some (.int l1), some (.int (l2 + 1)), none]) (And.intro rfl (And.intro rfl (And.intro rfl trivial))) ?_
      exact hk2 _ _ _ _ h
    · rw [if_neg c29] at h
      refine kr_iload_n dX11_layChoices_32 rfl ?_
      refine kr_aload_n dX11_layChoices_33 rfl ?_
      refine kx_g28_3 (G.1 28 3) rfl kw4_140 dX11_layChoices_34 ?_
      refine kr_icmp_ge (tgt := 90) dX11_layChoices_37 rfl (fun c37 => ?_) (fun c37 => ?_)
      · rw [if_pos c37] at h
        refine kr_iinc (v := l2 + 1) (ls' := [some (.ref 28), some (.int l1), some (.int (l2 + 1)), some (.int l3)]) dX11_layChoices_90 rfl rfl (Nat.le_of_ble_eq_true rfl) rfl ?_
        refine kr_goto (tgt := 2) dX11_layChoices_93 rfl ?_
        refine kv_loc (ls' := [some (.ref 28), some (.int l1), some (.int (l2 + 1)), none]) (And.intro rfl (And.intro rfl (And.intro rfl trivial))) ?_
        exact hk2 _ _ _ _ h
      · rw [if_neg c37] at h
        refine kr_iload_n dX11_layChoices_40 rfl ?_
        refine kr_iload_n dX11_layChoices_41 rfl ?_
        refine kr_iconst (v := (-1)) dX11_layChoices_42 (by decide) ?_
        refine kr_ixor dX11_layChoices_43 ?_
        refine kr_iand dX11_layChoices_44 ?_
        refine kr_if_ne (tgt := 84) dX11_layChoices_45 rfl (fun c45 => ?_) (fun c45 => ?_)
        · rw [if_pos c45] at h
          refine kr_aload_n dX11_layChoices_48 rfl ?_
          refine kr_iload_n dX11_layChoices_49 rfl ?_
          refine kr_iload_n dX11_layChoices_50 rfl ?_
          obtain ⟨v1, hv1, h⟩ := Option.bind_eq_some_iff.mp h
          refine kr_callVi (M' := kMX11_isDoneBy) (a := 28) (As := [.int l2, .int l3]) (st := []) (RX11_isDoneBy (e + 0) hv1) koX11_isDoneBy rfl rfl rfl kw5_81 kw5_83 kws_24 rfl (Nat.le_of_ble_eq_true rfl) dX11_layChoices_51 ?_
          refine kr_if_eq (tgt := 84) dX11_layChoices_54 rfl (fun c54 => ?_) (fun c54 => ?_)
          · rw [if_pos c54] at h
            refine kr_iinc (v := l3 + 1) (ls' := [some (.ref 28), some (.int l1), some (.int l2), some (.int (l3 + 1))]) dX11_layChoices_84 rfl rfl (Nat.le_of_ble_eq_true rfl) rfl ?_
            refine kr_goto (tgt := 26) dX11_layChoices_87 rfl ?_
            exact hk26 _ _ _ _ _ h
          · rw [if_neg c54] at h
            refine kr_aload_n dX11_layChoices_57 rfl ?_
            refine kx_g28_16 kw4_153 dX11_layChoices_58 ?_
            refine kr_bipush (v := 16) dX11_layChoices_61 (by decide) ?_
            refine kr_iload_n dX11_layChoices_63 rfl ?_
            refine kr_imul dX11_layChoices_64 ?_
            refine kr_aload_n dX11_layChoices_65 rfl ?_
            refine kx_g28_17 kw4_154 dX11_layChoices_66 ?_
            refine kr_iload_n dX11_layChoices_69 rfl ?_
            obtain ⟨v2, hv2, h⟩ := Option.bind_eq_some_iff.mp h
            refine kx_a34 (G.2.1 34) rfl hv2 dX11_layChoices_70 ?_
            refine kr_iadd dX11_layChoices_71 ?_
            refine kr_iload_n dX11_layChoices_72 rfl ?_
            obtain ⟨v3, hv3, h⟩ := Option.bind_eq_some_iff.mp h
            refine kx_s33 (G.2.1 33) rfl hv3 dX11_layChoices_73 ?_
            refine kr_aload_n dX11_layChoices_74 rfl ?_
            refine kx_g28_17 kw4_154 dX11_layChoices_75 ?_
            refine kr_iload_n dX11_layChoices_78 rfl ?_
            refine kr_dup2 dX11_layChoices_79 rfl rfl ?_
            obtain ⟨v4, hv4, h⟩ := Option.bind_eq_some_iff.mp h
            refine kx_a34 (G.2.1 34) rfl hv4 dX11_layChoices_80 ?_
            refine kr_iconst (v := 1) dX11_layChoices_81 (by decide) ?_
            refine kr_iadd dX11_layChoices_82 ?_
            obtain ⟨v5, hv5, h⟩ := Option.bind_eq_some_iff.mp h
            refine kx_s34 (G.2.1 34) rfl hv5 dX11_layChoices_83 ?_
            refine kr_iinc (v := l3 + 1) (ls' := [some (.ref 28), some (.int l1), some (.int l2), some (.int (l3 + 1))]) dX11_layChoices_84 rfl rfl (Nat.le_of_ble_eq_true rfl) rfl ?_
            refine kr_goto (tgt := 26) dX11_layChoices_87 rfl ?_
            exact hk26 _ _ _ _ _ h
        · rw [if_neg c45] at h
          refine kr_iinc (v := l3 + 1) (ls' := [some (.ref 28), some (.int l1), some (.int l2), some (.int (l3 + 1))]) dX11_layChoices_84 rfl rfl (Nat.le_of_ble_eq_true rfl) rfl ?_
          refine kr_goto (tgt := 26) dX11_layChoices_87 rfl ?_
          exact hk26 _ _ _ _ _ h
set_option maxRecDepth 20000 in
set_option maxHeartbeats 4000000 in
theorem RX11_layChoices_2 {Z : kv_Z} (e : Nat) {N : Nat} : ∀ (n : Nat) (G : kg_G) (l1 : Int32) (l2 : Int32) (res : kg_G), fX11_layChoices_2 N n G l1 l2 = some res → kv_V Z (e + 3) kMX11_layChoices 2 [some (.ref 28), some (.int l1), some (.int l2), none] [] (kg_w G) none (kg_w res) := by
  intro n
  induction n with
  | zero => intro G l1 l2 res h; exact absurd h (by intro z; cases z)
  | succ n ih =>
    intro G l1 l2 res h
    have hk2 := ih
    rw [fX11_layChoices_2] at h
    refine kr_iload_n dX11_layChoices_2 rfl ?_
    refine kr_iconst (v := 5) dX11_layChoices_3 (by decide) ?_
    refine kr_icmp_ge (tgt := 96) dX11_layChoices_4 rfl (fun c4 => ?_) (fun c4 => ?_)
    · rw [if_pos c4] at h
      cases h
      exact kr_vret rfl dX11_layChoices_96
    · rw [if_neg c4] at h
      refine kr_aload_n dX11_layChoices_7 rfl ?_
      refine kx_g28_16 kw4_153 dX11_layChoices_8 ?_
      refine kr_bipush (v := 16) dX11_layChoices_11 (by decide) ?_
      refine kr_iload_n dX11_layChoices_13 rfl ?_
      refine kr_imul dX11_layChoices_14 ?_
      refine kr_iconst (v := 0) dX11_layChoices_15 (by decide) ?_
      obtain ⟨v1, hv1, h⟩ := Option.bind_eq_some_iff.mp h
      refine kx_s33 (G.2.1 33) rfl hv1 dX11_layChoices_16 ?_
      refine kr_aload_n dX11_layChoices_17 rfl ?_
      refine kx_g28_17 kw4_154 dX11_layChoices_18 ?_
      refine kr_iload_n dX11_layChoices_21 rfl ?_
      refine kr_iconst (v := 1) dX11_layChoices_22 (by decide) ?_
      obtain ⟨v2, hv2, h⟩ := Option.bind_eq_some_iff.mp h
      refine kx_s34 (G.2.1 34) rfl hv2 dX11_layChoices_23 ?_
      refine kr_iconst (v := 1) dX11_layChoices_24 (by decide) ?_
      refine kr_istore_n (i := 3) (ls' := [some (.ref 28), some (.int l1), some (.int l2), some (.int 1)]) dX11_layChoices_25 rfl (Nat.le_of_ble_eq_true rfl) rfl ?_
      exact RX11_layChoices_26 e hk2 N _ _ _ _ _ h
set_option maxRecDepth 20000 in
set_option maxHeartbeats 4000000 in
theorem RX11_layChoices {Z : kv_Z} (e : Nat) {N : Nat} {G : kg_G} {l1 : Int32} {res : kg_G} (h : fX11_layChoices N G l1 = some res) : kv_M Z (e + 3) kMX11_layChoices [.ref 28, .int l1] (kg_w G) none (kg_w res) := by
  refine kv_M_of (ls := [some (.ref 28), some (.int l1), none, none]) (by decide) (Nat.le_of_ble_eq_true rfl) rfl ?_
  unfold fX11_layChoices at h
  refine kr_iconst (v := 0) dX11_layChoices_0 (by decide) ?_
  refine kr_istore_n (i := 2) (ls' := [some (.ref 28), some (.int l1), some (.int 0), none]) dX11_layChoices_1 rfl (Nat.le_of_ble_eq_true rfl) rfl ?_
  exact RX11_layChoices_2 e N _ _ _ _ h
set_option maxRecDepth 20000 in
set_option maxHeartbeats 4000000 in
theorem RX11_isFree_5 {Z : kv_Z} (e : Nat) {N : Nat} {G : kg_G} : ∀ (n : Nat) (l1 : Int32) (l2 : Int32) (l3 : Int32) (l4 : Int32) (res : Int32), fX11_isFree_5 N G n l1 l2 l3 l4 = some res → kv_V Z (e + 3) kMX11_isFree 5 [some (.ref 28), some (.int l1), some (.int l2), some (.int l3), some (.int l4)] [] (kg_w G) (some (.int res)) (kg_w G) := by
  intro n
  induction n with
  | zero => intro l1 l2 l3 l4 res h; exact absurd h (by intro z; cases z)
  | succ n ih =>
    intro l1 l2 l3 l4 res h
    have hk5 := ih
    rw [fX11_isFree_5] at h
    refine kr_iload dX11_isFree_5 rfl ?_
    refine kr_iload_n dX11_isFree_7 rfl ?_
    refine kr_icmp_ge (tgt := 49) dX11_isFree_8 rfl (fun c8 => ?_) (fun c8 => ?_)
    · rw [if_pos c8] at h
      refine kr_iload_n dX11_isFree_49 rfl ?_
      obtain ⟨hz, h⟩ := kx_itn h
      cases h
      exact kr_zret rfl (kx_nar hz) dX11_isFree_50
    · rw [if_neg c8] at h
      refine kr_iload_n dX11_isFree_11 rfl ?_
      refine kr_if_eq (tgt := 41) dX11_isFree_12 rfl (fun c12 => ?_) (fun c12 => ?_)
      · rw [if_pos c12] at h
        refine kr_iconst (v := 0) dX11_isFree_41 (by decide) ?_
        refine kr_istore_n (i := 3) (ls' := [some (.ref 28), some (.int l1), some (.int l2), some (.int 0), some (.int l4)]) dX11_isFree_42 rfl (Nat.le_of_ble_eq_true rfl) rfl ?_
        refine kr_iinc (v := l4 + 1) (ls' := [some (.ref 28), some (.int l1), some (.int l2), some (.int 0), some (.int (l4 + 1))]) dX11_isFree_43 rfl rfl (Nat.le_of_ble_eq_true rfl) rfl ?_
        refine kr_goto (tgt := 5) dX11_isFree_46 rfl ?_
        exact hk5 _ _ _ _ _ h
      · rw [if_neg c12] at h
        refine kr_aload_n dX11_isFree_15 rfl ?_
        refine kx_g28_18 kw4_155 dX11_isFree_16 ?_
        refine kr_iload dX11_isFree_19 rfl ?_
        obtain ⟨v1, hv1, h⟩ := Option.bind_eq_some_iff.mp h
        refine kx_a35 (G.2.1 35) rfl hv1 dX11_isFree_21 ?_
        refine kr_iload_n dX11_isFree_22 rfl ?_
        refine kr_iand dX11_isFree_23 ?_
        refine kr_if_eq (tgt := 37) dX11_isFree_24 rfl (fun c24 => ?_) (fun c24 => ?_)
        · rw [if_pos c24] at h
          refine kr_iconst (v := 1) dX11_isFree_37 (by decide) ?_
          refine kr_goto (tgt := 42) dX11_isFree_38 rfl ?_
          refine kr_istore_n (i := 3) (ls' := [some (.ref 28), some (.int l1), some (.int l2), some (.int 1), some (.int l4)]) dX11_isFree_42 rfl (Nat.le_of_ble_eq_true rfl) rfl ?_
          refine kr_iinc (v := l4 + 1) (ls' := [some (.ref 28), some (.int l1), some (.int l2), some (.int 1), some (.int (l4 + 1))]) dX11_isFree_43 rfl rfl (Nat.le_of_ble_eq_true rfl) rfl ?_
          refine kr_goto (tgt := 5) dX11_isFree_46 rfl ?_
          exact hk5 _ _ _ _ _ h
        · rw [if_neg c24] at h
          refine kr_aload_n dX11_isFree_27 rfl ?_
          refine kr_iload_n dX11_isFree_28 rfl ?_
          refine kr_iload dX11_isFree_29 rfl ?_
          obtain ⟨v2, hv2, h⟩ := Option.bind_eq_some_iff.mp h
          refine kr_callVi (M' := kMX11_clash) (a := 28) (As := [.int l1, .int l4]) (st := []) (RX11_clash (e + 0) hv2) koX11_clash rfl rfl rfl kw5_108 kw5_110 kws_30 rfl (Nat.le_of_ble_eq_true rfl) dX11_isFree_31 ?_
          refine kr_if_ne (tgt := 41) dX11_isFree_34 rfl (fun c34 => ?_) (fun c34 => ?_)
          · rw [if_pos c34] at h
            refine kr_iconst (v := 1) dX11_isFree_37 (by decide) ?_
            refine kr_goto (tgt := 42) dX11_isFree_38 rfl ?_
            refine kr_istore_n (i := 3) (ls' := [some (.ref 28), some (.int l1), some (.int l2), some (.int 1), some (.int l4)]) dX11_isFree_42 rfl (Nat.le_of_ble_eq_true rfl) rfl ?_
            refine kr_iinc (v := l4 + 1) (ls' := [some (.ref 28), some (.int l1), some (.int l2), some (.int 1), some (.int (l4 + 1))]) dX11_isFree_43 rfl rfl (Nat.le_of_ble_eq_true rfl) rfl ?_
            refine kr_goto (tgt := 5) dX11_isFree_46 rfl ?_
            exact hk5 _ _ _ _ _ h
          · rw [if_neg c34] at h
            refine kr_iconst (v := 0) dX11_isFree_41 (by decide) ?_
            refine kr_istore_n (i := 3) (ls' := [some (.ref 28), some (.int l1), some (.int l2), some (.int 0), some (.int l4)]) dX11_isFree_42 rfl (Nat.le_of_ble_eq_true rfl) rfl ?_
            refine kr_iinc (v := l4 + 1) (ls' := [some (.ref 28), some (.int l1), some (.int l2), some (.int 0), some (.int (l4 + 1))]) dX11_isFree_43 rfl rfl (Nat.le_of_ble_eq_true rfl) rfl ?_
            refine kr_goto (tgt := 5) dX11_isFree_46 rfl ?_
            exact hk5 _ _ _ _ _ h
set_option maxRecDepth 20000 in
set_option maxHeartbeats 4000000 in
theorem RX11_isFree {Z : kv_Z} (e : Nat) {N : Nat} {G : kg_G} {l1 : Int32} {l2 : Int32} {res : Int32} (h : fX11_isFree N G l1 l2 = some res) : kv_M Z (e + 3) kMX11_isFree [.ref 28, .int l1, .int l2] (kg_w G) (some (.int res)) (kg_w G) := by
  refine kv_M_of (ls := [some (.ref 28), some (.int l1), some (.int l2), none, none]) (by decide) (Nat.le_of_ble_eq_true rfl) rfl ?_
  unfold fX11_isFree at h
  refine kr_iconst (v := 1) dX11_isFree_0 (by decide) ?_
  refine kr_istore_n (i := 3) (ls' := [some (.ref 28), some (.int l1), some (.int l2), some (.int 1), none]) dX11_isFree_1 rfl (Nat.le_of_ble_eq_true rfl) rfl ?_
  refine kr_iconst (v := 0) dX11_isFree_2 (by decide) ?_
  refine kr_istore (ls' := [some (.ref 28), some (.int l1), some (.int l2), some (.int 1), some (.int 0)]) dX11_isFree_3 (Nat.le_of_ble_eq_true rfl) rfl ?_
  exact RX11_isFree_5 e N _ _ _ _ _ h
set_option maxRecDepth 20000 in
set_option maxHeartbeats 4000000 in
theorem RX11_layMost_67 {Z : kv_Z} (e : Nat) {N : Nat} {k19 : kg_G → Int32 → Int32 → Int32 → Option (Int32 × kg_G)} (hk19 : ∀ (G : kg_G) (l2 : Int32) (l3 : Int32) (l4 : Int32) (res : Int32 × kg_G), k19 G l2 l3 l4 = some res → kv_V Z (e + 4) kMX11_layMost 19 [some (.ref 28), none, some (.int l2), some (.int l3), some (.int l4), none] [] (kg_w G) (some (.int res.1)) (kg_w res.2)) : ∀ (G : kg_G) (l2 : Int32) (l3 : Int32) (s0 : Int32) (s1 : Int32) (res : Int32 × kg_G), fX11_layMost_67 N k19 G l2 l3 s0 s1 = some res → kv_V Z (e + 4) kMX11_layMost 67 [some (.ref 28), none, some (.int l2), some (.int l3), none, none] [.int s1, .int s0] (kg_w G) (some (.int res.1)) (kg_w res.2) := by
  intro G l2 l3 s0 s1 res h
  unfold fX11_layMost_67 at h
  refine kr_isub dX11_layMost_67 ?_
  refine kr_istore (ls' := [some (.ref 28), none, some (.int l2), some (.int l3), some (.int (s0 - s1)), none]) dX11_layMost_68 (Nat.le_of_ble_eq_true rfl) rfl ?_
  refine kr_aload_n dX11_layMost_70 rfl ?_
  refine kx_g28_18 kw4_155 dX11_layMost_71 ?_
  refine kr_iload_n dX11_layMost_74 rfl ?_
  refine kr_iconst (v := 0) dX11_layMost_75 (by decide) ?_
  obtain ⟨v1, hv1, h⟩ := Option.bind_eq_some_iff.mp h
  refine kx_s35 (G.2.1 35) rfl hv1 dX11_layMost_76 ?_
  refine kr_goto (tgt := 19) dX11_layMost_77 rfl ?_
  exact hk19 _ _ _ _ _ h
set_option maxRecDepth 20000 in
set_option maxHeartbeats 4000000 in
theorem RX11_layMost_48 {Z : kv_Z} (e : Nat) {N : Nat} {k19 : kg_G → Int32 → Int32 → Int32 → Option (Int32 × kg_G)} (hk19 : ∀ (G : kg_G) (l2 : Int32) (l3 : Int32) (l4 : Int32) (res : Int32 × kg_G), k19 G l2 l3 l4 = some res → kv_V Z (e + 4) kMX11_layMost 19 [some (.ref 28), none, some (.int l2), some (.int l3), some (.int l4), none] [] (kg_w G) (some (.int res.1)) (kg_w res.2)) : ∀ (G : kg_G) (l2 : Int32) (l3 : Int32) (l4 : Int32) (res : Int32 × kg_G), fX11_layMost_48 N k19 G l2 l3 l4 = some res → kv_V Z (e + 4) kMX11_layMost 48 [some (.ref 28), none, some (.int l2), some (.int l3), some (.int l4), none] [] (kg_w G) (some (.int res.1)) (kg_w res.2) := by
  intro G l2 l3 l4 res h
  unfold fX11_layMost_48 at h
  refine kr_iinc (v := l3 + (-1)) (ls' := [some (.ref 28), none, some (.int l2), some (.int (l3 + (-1))), some (.int l4), none]) dX11_layMost_48 rfl rfl (Nat.le_of_ble_eq_true rfl) rfl ?_
  refine kr_iload dX11_layMost_51 rfl ?_
  refine kr_aload_n dX11_layMost_53 rfl ?_
  refine kx_g28_18 kw4_155 dX11_layMost_54 ?_
  refine kr_iload_n dX11_layMost_57 rfl ?_
  obtain ⟨v1, hv1, h⟩ := Option.bind_eq_some_iff.mp h
  refine kx_a35 (G.2.1 35) rfl hv1 dX11_layMost_58 ?_
  refine kr_if_ne (tgt := 66) dX11_layMost_59 rfl (fun c59 => ?_) (fun c59 => ?_)
  · rw [if_pos c59] at h
    refine kr_iconst (v := 0) dX11_layMost_62 (by decide) ?_
    refine kr_goto (tgt := 67) dX11_layMost_63 rfl ?_
    refine kv_loc (ls' := [some (.ref 28), none, some (.int l2), some (.int (l3 + (-1))), none, none]) (And.intro rfl (And.intro rfl (And.intro rfl trivial))) ?_
    exact RX11_layMost_67 e hk19 _ _ _ _ _ _ h
  · rw [if_neg c59] at h
    refine kr_iconst (v := 1) dX11_layMost_66 (by decide) ?_
    refine kv_loc (ls' := [some (.ref 28), none, some (.int l2), some (.int (l3 + (-1))), none, none]) (And.intro rfl (And.intro rfl (And.intro rfl trivial))) ?_
    exact RX11_layMost_67 e hk19 _ _ _ _ _ _ h
set_option maxRecDepth 20000 in
set_option maxHeartbeats 4000000 in
theorem RX11_layMost_128 {Z : kv_Z} (e : Nat) {N : Nat} {k19 : kg_G → Int32 → Int32 → Int32 → Option (Int32 × kg_G)} (hk19 : ∀ (G : kg_G) (l2 : Int32) (l3 : Int32) (l4 : Int32) (res : Int32 × kg_G), k19 G l2 l3 l4 = some res → kv_V Z (e + 4) kMX11_layMost 19 [some (.ref 28), none, some (.int l2), some (.int l3), some (.int l4), none] [] (kg_w G) (some (.int res.1)) (kg_w res.2)) : ∀ (G : kg_G) (l2 : Int32) (l3 : Int32) (s0 : Int32) (s1 : Int32) (res : Int32 × kg_G), fX11_layMost_128 N k19 G l2 l3 s0 s1 = some res → kv_V Z (e + 4) kMX11_layMost 128 [some (.ref 28), none, some (.int l2), some (.int l3), none, none] [.int s1, .int s0] (kg_w G) (some (.int res.1)) (kg_w res.2) := by
  intro G l2 l3 s0 s1 res h
  unfold fX11_layMost_128 at h
  refine kr_isub dX11_layMost_128 ?_
  refine kr_istore (ls' := [some (.ref 28), none, some (.int l2), some (.int l3), some (.int (s0 - s1)), none]) dX11_layMost_129 (Nat.le_of_ble_eq_true rfl) rfl ?_
  refine kr_aload_n dX11_layMost_131 rfl ?_
  refine kx_g28_18 kw4_155 dX11_layMost_132 ?_
  refine kr_iload_n dX11_layMost_135 rfl ?_
  refine kr_iconst (v := 0) dX11_layMost_136 (by decide) ?_
  obtain ⟨v1, hv1, h⟩ := Option.bind_eq_some_iff.mp h
  refine kx_s35 (G.2.1 35) rfl hv1 dX11_layMost_137 ?_
  refine kr_goto (tgt := 19) dX11_layMost_138 rfl ?_
  exact hk19 _ _ _ _ _ h
set_option maxRecDepth 20000 in
set_option maxHeartbeats 4000000 in
theorem RX11_layMost_105 {Z : kv_Z} (e : Nat) {N : Nat} {k19 : kg_G → Int32 → Int32 → Int32 → Option (Int32 × kg_G)} (hk19 : ∀ (G : kg_G) (l2 : Int32) (l3 : Int32) (l4 : Int32) (res : Int32 × kg_G), k19 G l2 l3 l4 = some res → kv_V Z (e + 4) kMX11_layMost 19 [some (.ref 28), none, some (.int l2), some (.int l3), some (.int l4), none] [] (kg_w G) (some (.int res.1)) (kg_w res.2)) : ∀ (G : kg_G) (l2 : Int32) (l3 : Int32) (l4 : Int32) (res : Int32 × kg_G), fX11_layMost_105 N k19 G l2 l3 l4 = some res → kv_V Z (e + 4) kMX11_layMost 105 [some (.ref 28), none, some (.int l2), some (.int l3), some (.int l4), none] [] (kg_w G) (some (.int res.1)) (kg_w res.2) := by
  intro G l2 l3 l4 res h
  unfold fX11_layMost_105 at h
  refine kr_iinc (v := l3 + (-1)) (ls' := [some (.ref 28), none, some (.int l2), some (.int (l3 + (-1))), some (.int l4), none]) dX11_layMost_105 rfl rfl (Nat.le_of_ble_eq_true rfl) rfl ?_
  refine kr_iload_n dX11_layMost_108 rfl ?_
  refine kr_if_lt (tgt := 19) dX11_layMost_109 rfl (fun c109 => ?_) (fun c109 => ?_)
  · rw [if_pos c109] at h
    exact hk19 _ _ _ _ _ h
  · rw [if_neg c109] at h
    refine kr_iload dX11_layMost_112 rfl ?_
    refine kr_aload_n dX11_layMost_114 rfl ?_
    refine kx_g28_18 kw4_155 dX11_layMost_115 ?_
    refine kr_iload_n dX11_layMost_118 rfl ?_
    obtain ⟨v1, hv1, h⟩ := Option.bind_eq_some_iff.mp h
    refine kx_a35 (G.2.1 35) rfl hv1 dX11_layMost_119 ?_
    refine kr_if_ne (tgt := 127) dX11_layMost_120 rfl (fun c120 => ?_) (fun c120 => ?_)
    · rw [if_pos c120] at h
      refine kr_iconst (v := 0) dX11_layMost_123 (by decide) ?_
      refine kr_goto (tgt := 128) dX11_layMost_124 rfl ?_
      refine kv_loc (ls' := [some (.ref 28), none, some (.int l2), some (.int (l3 + (-1))), none, none]) (And.intro rfl (And.intro rfl (And.intro rfl trivial))) ?_
      exact RX11_layMost_128 e hk19 _ _ _ _ _ _ h
    · rw [if_neg c120] at h
      refine kr_iconst (v := 1) dX11_layMost_127 (by decide) ?_
      refine kv_loc (ls' := [some (.ref 28), none, some (.int l2), some (.int (l3 + (-1))), none, none]) (And.intro rfl (And.intro rfl (And.intro rfl trivial))) ?_
      exact RX11_layMost_128 e hk19 _ _ _ _ _ _ h
set_option maxRecDepth 20000 in
set_option maxHeartbeats 4000000 in
theorem RX11_layMost_199 {Z : kv_Z} (e : Nat) {N : Nat} {k19 : kg_G → Int32 → Int32 → Int32 → Option (Int32 × kg_G)} (hk19 : ∀ (G : kg_G) (l2 : Int32) (l3 : Int32) (l4 : Int32) (res : Int32 × kg_G), k19 G l2 l3 l4 = some res → kv_V Z (e + 4) kMX11_layMost 19 [some (.ref 28), none, some (.int l2), some (.int l3), some (.int l4), none] [] (kg_w G) (some (.int res.1)) (kg_w res.2)) : ∀ (G : kg_G) (l2 : Int32) (l3 : Int32) (s0 : Int32) (s1 : Int32) (res : Int32 × kg_G), fX11_layMost_199 N k19 G l2 l3 s0 s1 = some res → kv_V Z (e + 4) kMX11_layMost 199 [some (.ref 28), none, some (.int l2), some (.int l3), none, none] [.int s1, .int s0] (kg_w G) (some (.int res.1)) (kg_w res.2) := by
  intro G l2 l3 s0 s1 res h
  unfold fX11_layMost_199 at h
  refine kr_iadd dX11_layMost_199 ?_
  refine kr_istore (ls' := [some (.ref 28), none, some (.int l2), some (.int l3), some (.int (s0 + s1)), none]) dX11_layMost_200 (Nat.le_of_ble_eq_true rfl) rfl ?_
  refine kr_iinc (v := l3 + 1) (ls' := [some (.ref 28), none, some (.int l2), some (.int (l3 + 1)), some (.int (s0 + s1)), none]) dX11_layMost_202 rfl rfl (Nat.le_of_ble_eq_true rfl) rfl ?_
  refine kr_iload_n dX11_layMost_205 rfl ?_
  refine kr_iconst (v := 5) dX11_layMost_206 (by decide) ?_
  refine kr_icmp_ge (tgt := 217) dX11_layMost_207 rfl (fun c207 => ?_) (fun c207 => ?_)
  · rw [if_pos c207] at h
    refine kr_goto (tgt := 19) dX11_layMost_217 rfl ?_
    exact hk19 _ _ _ _ _ h
  · rw [if_neg c207] at h
    refine kr_aload_n dX11_layMost_210 rfl ?_
    refine kx_g28_20 kw4_157 dX11_layMost_211 ?_
    refine kr_iload_n dX11_layMost_214 rfl ?_
    refine kr_iconst (v := 0) dX11_layMost_215 (by decide) ?_
    obtain ⟨v1, hv1, h⟩ := Option.bind_eq_some_iff.mp h
    refine kx_s37 (G.2.1 37) rfl hv1 dX11_layMost_216 ?_
    refine kr_goto (tgt := 19) dX11_layMost_217 rfl ?_
    exact hk19 _ _ _ _ _ h
set_option maxRecDepth 20000 in
set_option maxHeartbeats 4000000 in
theorem RX11_layMost_19 {Z : kv_Z} (e : Nat) {N : Nat} : ∀ (n : Nat) (G : kg_G) (l2 : Int32) (l3 : Int32) (l4 : Int32) (res : Int32 × kg_G), fX11_layMost_19 N n G l2 l3 l4 = some res → kv_V Z (e + 4) kMX11_layMost 19 [some (.ref 28), none, some (.int l2), some (.int l3), some (.int l4), none] [] (kg_w G) (some (.int res.1)) (kg_w res.2) := by
  intro n
  induction n with
  | zero => intro G l2 l3 l4 res h; exact absurd h (by intro z; cases z)
  | succ n ih =>
    intro G l2 l3 l4 res h
    have hk19 := ih
    rw [fX11_layMost_19] at h
    refine kr_iload_n dX11_layMost_19 rfl ?_
    refine kr_if_lt (tgt := 220) dX11_layMost_20 rfl (fun c20 => ?_) (fun c20 => ?_)
    · rw [if_pos c20] at h
      refine kr_iload_n dX11_layMost_220 rfl ?_
      cases h
      exact kr_iret rfl dX11_layMost_221
    · rw [if_neg c20] at h
      refine kr_iload_n dX11_layMost_23 rfl ?_
      refine kr_iconst (v := 5) dX11_layMost_24 (by decide) ?_
      refine kr_icmp_ne (tgt := 80) dX11_layMost_25 rfl (fun c25 => ?_) (fun c25 => ?_)
      · rw [if_pos c25] at h
        refine kr_iload dX11_layMost_28 rfl ?_
        refine kr_iload_n dX11_layMost_30 rfl ?_
        refine kr_icmp_le (tgt := 48) dX11_layMost_31 rfl (fun c31 => ?_) (fun c31 => ?_)
        · rw [if_pos c31] at h
          exact RX11_layMost_48 e hk19 _ _ _ _ _ h
        · rw [if_neg c31] at h
          refine kr_iload dX11_layMost_34 rfl ?_
          refine kr_istore_n (i := 2) (ls' := [some (.ref 28), none, some (.int l4), some (.int l3), some (.int l4), none]) dX11_layMost_36 rfl (Nat.le_of_ble_eq_true rfl) rfl ?_
          refine kr_aload_n dX11_layMost_37 rfl ?_
          refine kx_g28_18 kw4_155 dX11_layMost_38 ?_
          refine kr_aload_n dX11_layMost_41 rfl ?_
          refine kx_g28_19 kw4_156 dX11_layMost_42 ?_
          obtain ⟨v1, hv1, h⟩ := Option.bind_eq_some_iff.mp h
          refine kr_callSv (M' := kMX11_copy) (As := [.ref 35, .ref 36]) (st := []) (RX11_copy (e + 3) hv1) koX11_copy rfl kw5_212 kw5_213 rfl (Nat.le_of_ble_eq_true rfl) dX11_layMost_45 ?_
          exact RX11_layMost_48 e hk19 _ _ _ _ _ h
      · rw [if_neg c25] at h
        refine kr_aload_n dX11_layMost_80 rfl ?_
        refine kx_g28_20 kw4_157 dX11_layMost_81 ?_
        refine kr_iload_n dX11_layMost_84 rfl ?_
        obtain ⟨v2, hv2, h⟩ := Option.bind_eq_some_iff.mp h
        refine kx_a37 (G.2.1 37) rfl hv2 dX11_layMost_85 ?_
        refine kr_aload_n dX11_layMost_86 rfl ?_
        refine kx_g28_17 kw4_154 dX11_layMost_87 ?_
        refine kr_iload_n dX11_layMost_90 rfl ?_
        obtain ⟨v3, hv3, h⟩ := Option.bind_eq_some_iff.mp h
        refine kx_a34 (G.2.1 34) rfl hv3 dX11_layMost_91 ?_
        refine kr_icmp_eq (tgt := 105) dX11_layMost_92 rfl (fun c92 => ?_) (fun c92 => ?_)
        · rw [if_pos c92] at h
          exact RX11_layMost_105 e hk19 _ _ _ _ _ h
        · rw [if_neg c92] at h
          refine kr_iload dX11_layMost_95 rfl ?_
          refine kr_iconst (v := 5) dX11_layMost_97 (by decide) ?_
          refine kr_iadd dX11_layMost_98 ?_
          refine kr_iload_n dX11_layMost_99 rfl ?_
          refine kr_isub dX11_layMost_100 ?_
          refine kr_iload_n dX11_layMost_101 rfl ?_
          refine kr_icmp_gt (tgt := 141) dX11_layMost_102 rfl (fun c102 => ?_) (fun c102 => ?_)
          · rw [if_pos c102] at h
            refine kr_aload_n dX11_layMost_141 rfl ?_
            refine kx_g28_16 kw4_153 dX11_layMost_142 ?_
            refine kr_bipush (v := 16) dX11_layMost_145 (by decide) ?_
            refine kr_iload_n dX11_layMost_147 rfl ?_
            refine kr_imul dX11_layMost_148 ?_
            refine kr_aload_n dX11_layMost_149 rfl ?_
            refine kx_g28_20 kw4_157 dX11_layMost_150 ?_
            refine kr_iload_n dX11_layMost_153 rfl ?_
            obtain ⟨v4, hv4, h⟩ := Option.bind_eq_some_iff.mp h
            refine kx_a37 (G.2.1 37) rfl hv4 dX11_layMost_154 ?_
            refine kr_iadd dX11_layMost_155 ?_
            obtain ⟨v5, hv5, h⟩ := Option.bind_eq_some_iff.mp h
            refine kx_a33 (G.2.1 33) rfl hv5 dX11_layMost_156 ?_
            refine kr_istore (ls' := [some (.ref 28), none, some (.int l2), some (.int l3), some (.int l4), some (.int v5)]) dX11_layMost_157 (Nat.le_of_ble_eq_true rfl) rfl ?_
            refine kr_aload_n dX11_layMost_159 rfl ?_
            refine kx_g28_20 kw4_157 dX11_layMost_160 ?_
            refine kr_iload_n dX11_layMost_163 rfl ?_
            refine kr_dup2 dX11_layMost_164 rfl rfl ?_
            obtain ⟨v6, hv6, h⟩ := Option.bind_eq_some_iff.mp h
            refine kx_a37 (G.2.1 37) rfl hv6 dX11_layMost_165 ?_
            refine kr_iconst (v := 1) dX11_layMost_166 (by decide) ?_
            refine kr_iadd dX11_layMost_167 ?_
            obtain ⟨v7, hv7, h⟩ := Option.bind_eq_some_iff.mp h
            refine kx_s37 (G.2.1 37) rfl hv7 dX11_layMost_168 ?_
            refine kr_aload_n dX11_layMost_169 rfl ?_
            refine kr_iload_n dX11_layMost_170 rfl ?_
            refine kr_iload dX11_layMost_171 rfl ?_
            obtain ⟨v8, hv8, h⟩ := Option.bind_eq_some_iff.mp h
            refine kr_callVi (M' := kMX11_isFree) (a := 28) (As := [.int l3, .int v5]) (st := []) (RX11_isFree (e + 0) hv8) koX11_isFree rfl rfl rfl kw5_215 kw5_217 kws_45 rfl (Nat.le_of_ble_eq_true rfl) dX11_layMost_173 ?_
            refine kr_if_eq (tgt := 217) dX11_layMost_176 rfl (fun c176 => ?_) (fun c176 => ?_)
            · rw [if_pos c176] at h
              refine kr_goto (tgt := 19) dX11_layMost_217 rfl ?_
              refine kv_loc (ls' := [some (.ref 28), none, some (.int l2), some (.int l3), some (.int l4), none]) (And.intro rfl (And.intro rfl (And.intro rfl (And.intro rfl trivial)))) ?_
              exact hk19 _ _ _ _ _ h
            · rw [if_neg c176] at h
              refine kr_aload_n dX11_layMost_179 rfl ?_
              refine kx_g28_18 kw4_155 dX11_layMost_180 ?_
              refine kr_iload_n dX11_layMost_183 rfl ?_
              refine kr_iload dX11_layMost_184 rfl ?_
              obtain ⟨v9, hv9, h⟩ := Option.bind_eq_some_iff.mp h
              refine kx_s35 (G.2.1 35) rfl hv9 dX11_layMost_186 ?_
              refine kr_iload dX11_layMost_187 rfl ?_
              refine kr_iload dX11_layMost_189 rfl ?_
              refine kr_if_ne (tgt := 198) dX11_layMost_191 rfl (fun c191 => ?_) (fun c191 => ?_)
              · rw [if_pos c191] at h
                refine kr_iconst (v := 0) dX11_layMost_194 (by decide) ?_
                refine kr_goto (tgt := 199) dX11_layMost_195 rfl ?_
                refine kv_loc (ls' := [some (.ref 28), none, some (.int l2), some (.int l3), none, none]) (And.intro rfl (And.intro rfl (And.intro rfl trivial))) ?_
                exact RX11_layMost_199 e hk19 _ _ _ _ _ _ h
              · rw [if_neg c191] at h
                refine kr_iconst (v := 1) dX11_layMost_198 (by decide) ?_
                refine kv_loc (ls' := [some (.ref 28), none, some (.int l2), some (.int l3), none, none]) (And.intro rfl (And.intro rfl (And.intro rfl trivial))) ?_
                exact RX11_layMost_199 e hk19 _ _ _ _ _ _ h
          · rw [if_neg c102] at h
            exact RX11_layMost_105 e hk19 _ _ _ _ _ h
set_option maxRecDepth 20000 in
set_option maxHeartbeats 4000000 in
theorem RX11_layMost {Z : kv_Z} (e : Nat) {N : Nat} {G : kg_G} {l1 : Int32} {res : Int32 × kg_G} (h : fX11_layMost N G l1 = some res) : kv_M Z (e + 4) kMX11_layMost [.ref 28, .int l1] (kg_w G) (some (.int res.1)) (kg_w res.2) := by
  refine kv_M_of (ls := [some (.ref 28), some (.int l1), none, none, none, none]) (by decide) (Nat.le_of_ble_eq_true rfl) rfl ?_
  unfold fX11_layMost at h
  refine kr_aload_n dX11_layMost_0 rfl ?_
  refine kr_iload_n dX11_layMost_1 rfl ?_
  obtain ⟨v1, hv1, h⟩ := Option.bind_eq_some_iff.mp h
  refine kr_callVv (M' := kMX11_layChoices) (a := 28) (As := [.int l1]) (st := []) (RX11_layChoices (e + 0) hv1) koX11_layChoices rfl rfl rfl kw5_208 kw5_210 kws_44 rfl (Nat.le_of_ble_eq_true rfl) dX11_layMost_2 ?_
  refine kr_iconst (v := (-1)) dX11_layMost_5 (by decide) ?_
  refine kr_istore_n (i := 2) (ls' := [some (.ref 28), some (.int l1), some (.int (-1)), none, none, none]) dX11_layMost_6 rfl (Nat.le_of_ble_eq_true rfl) rfl ?_
  refine kr_iconst (v := 0) dX11_layMost_7 (by decide) ?_
  refine kr_istore_n (i := 3) (ls' := [some (.ref 28), some (.int l1), some (.int (-1)), some (.int 0), none, none]) dX11_layMost_8 rfl (Nat.le_of_ble_eq_true rfl) rfl ?_
  refine kr_iconst (v := 0) dX11_layMost_9 (by decide) ?_
  refine kr_istore (ls' := [some (.ref 28), some (.int l1), some (.int (-1)), some (.int 0), some (.int 0), none]) dX11_layMost_10 (Nat.le_of_ble_eq_true rfl) rfl ?_
  refine kr_aload_n dX11_layMost_12 rfl ?_
  refine kx_g28_20 kw4_157 dX11_layMost_13 ?_
  refine kr_iconst (v := 0) dX11_layMost_16 (by decide) ?_
  refine kr_iconst (v := 0) dX11_layMost_17 (by decide) ?_
  obtain ⟨v2, hv2, h⟩ := Option.bind_eq_some_iff.mp h
  refine kx_s37 (v1.2.1 37) rfl hv2 dX11_layMost_18 ?_
  refine kv_loc (ls' := [some (.ref 28), none, some (.int (-1)), some (.int 0), some (.int 0), none]) (And.intro rfl (And.intro rfl (And.intro rfl (And.intro rfl trivial)))) ?_
  exact RX11_layMost_19 e N _ _ _ _ _ h
set_option maxRecDepth 20000 in
set_option maxHeartbeats 4000000 in
theorem RX11_mostOf {Z : kv_Z} (e : Nat) {N : Nat} {G : kg_G} {l1 : Int32} {res : Int32 × kg_G} (h : fX11_mostOf N G l1 = some res) : kv_M Z (e + 5) kMX11_mostOf [.ref 28, .int l1] (kg_w G) (some (.int res.1)) (kg_w res.2) := by
  refine kv_M_of (ls := [some (.ref 28), some (.int l1), none]) (by decide) (Nat.le_of_ble_eq_true rfl) rfl ?_
  unfold fX11_mostOf at h
  refine kr_aload_n dX11_mostOf_0 rfl ?_
  refine kr_aload_n dX11_mostOf_1 rfl ?_
  obtain ⟨v1, hv1, h⟩ := Option.bind_eq_some_iff.mp h
  refine kr_callVi (M' := kMX11_keptSet) (a := 28) (As := []) (st := [.ref 28]) (RX11_keptSet (e + 3) hv1) koX11_keptSet rfl rfl rfl kw5_185 kw5_187 kws_41 rfl (Nat.le_of_ble_eq_true rfl) dX11_mostOf_2 ?_
  obtain ⟨v2, hv2, h⟩ := Option.bind_eq_some_iff.mp h
  refine kr_callVi (M' := kMX11_layMost) (a := 28) (As := [.int v1]) (st := []) (RX11_layMost (e + 0) hv2) koX11_layMost rfl rfl rfl kw5_204 kw5_206 kws_43 rfl (Nat.le_of_ble_eq_true rfl) dX11_mostOf_5 ?_
  refine kr_istore_n (i := 2) (ls' := [some (.ref 28), some (.int l1), some (.int v2.1)]) dX11_mostOf_8 rfl (Nat.le_of_ble_eq_true rfl) rfl ?_
  refine kr_iload_n dX11_mostOf_9 rfl ?_
  refine kr_if_ne (tgt := 17) dX11_mostOf_10 rfl (fun c10 => ?_) (fun c10 => ?_)
  · rw [if_pos c10] at h
    refine kr_iload_n dX11_mostOf_13 rfl ?_
    refine kr_goto (tgt := 26) dX11_mostOf_14 rfl ?_
    cases h
    exact kr_iret rfl dX11_mostOf_26
  · rw [if_neg c10] at h
    refine kr_aload_n dX11_mostOf_17 rfl ?_
    refine kx_g28_19 kw4_156 dX11_mostOf_18 ?_
    refine kr_iload_n dX11_mostOf_21 rfl ?_
    refine kr_bipush (v := 10) dX11_mostOf_22 (by decide) ?_
    refine kr_isub dX11_mostOf_24 ?_
    obtain ⟨v3, hv3, h⟩ := Option.bind_eq_some_iff.mp h
    refine kx_a36 (v2.2.2.1 36) rfl hv3 dX11_mostOf_25 ?_
    cases h
    exact kr_iret rfl dX11_mostOf_26
set_option maxRecDepth 20000 in
set_option maxHeartbeats 4000000 in
theorem RX11_most_21 {Z : kv_Z} (e : Nat) {N : Nat} : ∀ (G : kg_G) (l1 : Int32) (res : Int32 × kg_G), fX11_most_21 N G l1 = some res → kv_V Z (e + 6) kMX11_most 21 [some (.ref 28), some (.int l1)] [] (kg_w G) (some (.int res.1)) (kg_w res.2) := by
  intro G l1 res h
  unfold fX11_most_21 at h
  refine kr_aload_n dX11_most_21 rfl ?_
  refine kr_callVi (M' := kMX11_lacks) (a := 28) (As := []) (st := []) (RX11_lacks (e + 5) rfl) koX11_lacks rfl rfl rfl kw5_169 kw5_171 kws_39 rfl (Nat.le_of_ble_eq_true rfl) dX11_most_22 ?_
  refine kr_if_ne (tgt := 37) dX11_most_25 rfl (fun c25 => ?_) (fun c25 => ?_)
  · rw [if_pos c25] at h
    refine kr_aload_n dX11_most_28 rfl ?_
    refine kx_g28_15 (G.1 28 15) rfl kw4_152 dX11_most_29 ?_
    refine kr_bipush (v := 16) dX11_most_32 (by decide) ?_
    refine kr_icmp_ne (tgt := 40) dX11_most_34 rfl (fun c34 => ?_) (fun c34 => ?_)
    · rw [if_pos c34] at h
      refine kr_bipush (v := (-103)) dX11_most_37 (by decide) ?_
      cases h
      exact kr_iret rfl dX11_most_39
    · rw [if_neg c34] at h
      refine kr_aload_n dX11_most_40 rfl ?_
      refine kr_dup dX11_most_41 rfl ?_
      refine kx_g28_15 (G.1 28 15) rfl kw4_152 dX11_most_42 ?_
      refine kr_iconst (v := 1) dX11_most_45 (by decide) ?_
      refine kr_iadd dX11_most_46 ?_
      refine kx_p28_15 kw4_152 dX11_most_47 ?_
      refine kr_aload_n dX11_most_50 rfl ?_
      refine kr_iload_n dX11_most_51 rfl ?_
      obtain ⟨v2, hv2, h⟩ := Option.bind_eq_some_iff.mp h
      refine kr_callVi (M' := kMX11_mostOf) (a := 28) (As := [.int l1]) (st := []) (RX11_mostOf (e + 0) hv2) koX11_mostOf rfl rfl rfl kw5_200 kw5_202 kws_42 rfl (Nat.le_of_ble_eq_true rfl) dX11_most_52 ?_
      cases h
      exact kr_iret rfl dX11_most_55
  · rw [if_neg c25] at h
    refine kr_bipush (v := (-103)) dX11_most_37 (by decide) ?_
    cases h
    exact kr_iret rfl dX11_most_39
set_option maxRecDepth 20000 in
set_option maxHeartbeats 4000000 in
theorem RX11_most {Z : kv_Z} (e : Nat) {N : Nat} {G : kg_G} {l1 : Int32} {res : Int32 × kg_G} (h : fX11_most N G l1 = some res) : kv_M Z (e + 6) kMX11_most [.ref 28, .int l1] (kg_w G) (some (.int res.1)) (kg_w res.2) := by
  refine kv_M_of (ls := [some (.ref 28), some (.int l1)]) (by decide) (Nat.le_of_ble_eq_true rfl) rfl ?_
  unfold fX11_most at h
  refine kr_iload_n dX11_most_0 rfl ?_
  refine kr_if_eq (tgt := 21) dX11_most_1 rfl (fun c1 => ?_) (fun c1 => ?_)
  · rw [if_pos c1] at h
    exact RX11_most_21 e _ _ _ h
  · rw [if_neg c1] at h
    refine kr_iload_n dX11_most_4 rfl ?_
    refine kr_i2l dX11_most_5 ?_
    refine kr_ldc2 (x := 10) kw5_198 dX11_most_6 ?_
    refine kr_ldc2 (x := 14) kw5_199 dX11_most_9 ?_
    refine kr_callSi (M' := kMX11_in) (As := [.long l1.toInt64, .long 10, .long 14]) (st := []) (RX11_in (e + 5) rfl) koX11_in rfl kw5_29 kw5_30 rfl (Nat.le_of_ble_eq_true rfl) dX11_most_12 ?_
    refine kr_if_ne (tgt := 21) dX11_most_15 rfl (fun c15 => ?_) (fun c15 => ?_)
    · rw [if_pos c15] at h
      refine kr_bipush (v := (-102)) dX11_most_18 (by decide) ?_
      cases h
      exact kr_iret rfl dX11_most_20
    · rw [if_neg c15] at h
      exact RX11_most_21 e _ _ _ h
set_option maxRecDepth 20000 in
set_option maxHeartbeats 4000000 in
theorem RX11_fill {Z : kv_Z} (e : Nat) {N : Nat} {G : kg_G} {res : Int32 × kg_G} (h : fX11_fill N G = some res) : kv_M Z (e + 5) kMX11_fill [.ref 28] (kg_w G) (some (.int res.1)) (kg_w res.2) := by
  refine kv_M_of (ls := [some (.ref 28), none]) (by decide) (Nat.le_of_ble_eq_true rfl) rfl ?_
  unfold fX11_fill at h
  refine kr_aload_n dX11_fill_0 rfl ?_
  refine kr_callVi (M' := kMX11_lacks) (a := 28) (As := []) (st := []) (RX11_lacks (e + 4) rfl) koX11_lacks rfl rfl rfl kw5_169 kw5_171 kws_39 rfl (Nat.le_of_ble_eq_true rfl) dX11_fill_1 ?_
  refine kr_if_ne (tgt := 16) dX11_fill_4 rfl (fun c4 => ?_) (fun c4 => ?_)
  · rw [if_pos c4] at h
    refine kr_aload_n dX11_fill_7 rfl ?_
    refine kx_g28_15 (G.1 28 15) rfl kw4_152 dX11_fill_8 ?_
    refine kr_bipush (v := 16) dX11_fill_11 (by decide) ?_
    refine kr_icmp_ne (tgt := 19) dX11_fill_13 rfl (fun c13 => ?_) (fun c13 => ?_)
    · rw [if_pos c13] at h
      refine kr_bipush (v := (-103)) dX11_fill_16 (by decide) ?_
      cases h
      exact kr_iret rfl dX11_fill_18
    · rw [if_neg c13] at h
      refine kr_aload_n dX11_fill_19 rfl ?_
      refine kr_dup dX11_fill_20 rfl ?_
      refine kx_g28_15 (G.1 28 15) rfl kw4_152 dX11_fill_21 ?_
      refine kr_iconst (v := 1) dX11_fill_24 (by decide) ?_
      refine kr_iadd dX11_fill_25 ?_
      refine kx_p28_15 kw4_152 dX11_fill_26 ?_
      refine kr_aload_n dX11_fill_29 rfl ?_
      refine kr_aload_n dX11_fill_30 rfl ?_
      obtain ⟨v2, hv2, h⟩ := Option.bind_eq_some_iff.mp h
      refine kr_callVi (M' := kMX11_keptSet) (a := 28) (As := []) (st := [.ref 28]) (RX11_keptSet (e + 3) hv2) koX11_keptSet rfl rfl rfl kw5_185 kw5_187 kws_41 rfl (Nat.le_of_ble_eq_true rfl) dX11_fill_31 ?_
      obtain ⟨v3, hv3, h⟩ := Option.bind_eq_some_iff.mp h
      refine kr_callVi (M' := kMX11_layMost) (a := 28) (As := [.int v2]) (st := []) (RX11_layMost (e + 0) hv3) koX11_layMost rfl rfl rfl kw5_204 kw5_206 kws_43 rfl (Nat.le_of_ble_eq_true rfl) dX11_fill_34 ?_
      refine kr_istore_n (i := 1) (ls' := [some (.ref 28), some (.int v3.1)]) dX11_fill_37 rfl (Nat.le_of_ble_eq_true rfl) rfl ?_
      refine kr_aload_n dX11_fill_38 rfl ?_
      refine kx_g28_19 kw4_156 dX11_fill_39 ?_
      refine kr_aload_n dX11_fill_42 rfl ?_
      refine kx_g28_14 kw4_151 dX11_fill_43 ?_
      obtain ⟨v4, hv4, h⟩ := Option.bind_eq_some_iff.mp h
      refine kr_callSv (M' := kMX11_copy) (As := [.ref 36, .ref 32]) (st := []) (RX11_copy (e + 4) hv4) koX11_copy rfl kw5_212 kw5_213 rfl (Nat.le_of_ble_eq_true rfl) dX11_fill_46 ?_
      refine kr_iload_n dX11_fill_49 rfl ?_
      cases h
      exact kr_iret rfl dX11_fill_50
  · rw [if_neg c4] at h
    refine kr_bipush (v := (-103)) dX11_fill_16 (by decide) ?_
    cases h
    exact kr_iret rfl dX11_fill_18
set_option maxRecDepth 20000 in
set_option maxHeartbeats 4000000 in
theorem RX11_fewestOf_48 {Z : kv_Z} (e : Nat) {N : Nat} {k10 : kg_G → Int32 → Int32 → Int32 → Int32 → Option (Int32 × kg_G)} (hk10 : ∀ (G : kg_G) (l1 : Int32) (l2 : Int32) (l3 : Int32) (l4 : Int32) (res : Int32 × kg_G), k10 G l1 l2 l3 l4 = some res → kv_V Z (e + 5) kMX11_fewestOf 10 [some (.ref 28), some (.int l1), some (.int l2), some (.int l3), some (.int l4), none] [] (kg_w G) (some (.int res.1)) (kg_w res.2)) : ∀ (G : kg_G) (l1 : Int32) (l2 : Int32) (l3 : Int32) (l4 : Int32) (s0 : Int32) (res : Int32 × kg_G), fX11_fewestOf_48 N k10 G l1 l2 l3 l4 s0 = some res → kv_V Z (e + 5) kMX11_fewestOf 48 [some (.ref 28), some (.int l1), some (.int l2), some (.int l3), some (.int l4), none] [.int s0] (kg_w G) (some (.int res.1)) (kg_w res.2) := by
  intro G l1 l2 l3 l4 s0 res h
  unfold fX11_fewestOf_48 at h
  refine kr_istore (ls' := [some (.ref 28), some (.int l1), some (.int l2), some (.int l3), some (.int l4), some (.int s0)]) dX11_fewestOf_48 (Nat.le_of_ble_eq_true rfl) rfl ?_
  refine kr_iload dX11_fewestOf_50 rfl ?_
  refine kr_if_eq (tgt := 73) dX11_fewestOf_52 rfl (fun c52 => ?_) (fun c52 => ?_)
  · rw [if_pos c52] at h
    refine kr_iload_n dX11_fewestOf_73 rfl ?_
    refine kr_istore_n (i := 3) (ls' := [some (.ref 28), some (.int l1), some (.int l2), some (.int l3), some (.int l4), some (.int s0)]) dX11_fewestOf_74 rfl (Nat.le_of_ble_eq_true rfl) rfl ?_
    refine kr_iinc (v := l4 + 1) (ls' := [some (.ref 28), some (.int l1), some (.int l2), some (.int l3), some (.int (l4 + 1)), some (.int s0)]) dX11_fewestOf_75 rfl rfl (Nat.le_of_ble_eq_true rfl) rfl ?_
    refine kr_goto (tgt := 10) dX11_fewestOf_78 rfl ?_
    refine kv_loc (ls' := [some (.ref 28), some (.int l1), some (.int l2), some (.int l3), some (.int (l4 + 1)), none]) (And.intro rfl (And.intro rfl (And.intro rfl (And.intro rfl (And.intro rfl trivial))))) ?_
    exact hk10 _ _ _ _ _ _ h
  · rw [if_neg c52] at h
    refine kr_aload_n dX11_fewestOf_55 rfl ?_
    refine kr_iload dX11_fewestOf_56 rfl ?_
    obtain ⟨v1, hv1, h⟩ := Option.bind_eq_some_iff.mp h
    refine kr_callVi (M' := kMX11_layMost) (a := 28) (As := [.int l4]) (st := []) (RX11_layMost (e + 0) hv1) koX11_layMost rfl rfl rfl kw5_204 kw5_206 kws_43 rfl (Nat.le_of_ble_eq_true rfl) dX11_fewestOf_58 ?_
    refine kr_aload_n dX11_fewestOf_61 rfl ?_
    refine kx_g28_3 (v1.2.1 28 3) rfl kw4_140 dX11_fewestOf_62 ?_
    refine kr_icmp_ne (tgt := 73) dX11_fewestOf_65 rfl (fun c65 => ?_) (fun c65 => ?_)
    · rw [if_pos c65] at h
      refine kr_iload dX11_fewestOf_68 rfl ?_
      refine kr_goto (tgt := 74) dX11_fewestOf_70 rfl ?_
      refine kr_istore_n (i := 3) (ls' := [some (.ref 28), some (.int l1), some (.int l2), some (.int l4), some (.int l4), some (.int s0)]) dX11_fewestOf_74 rfl (Nat.le_of_ble_eq_true rfl) rfl ?_
      refine kr_iinc (v := l4 + 1) (ls' := [some (.ref 28), some (.int l1), some (.int l2), some (.int l4), some (.int (l4 + 1)), some (.int s0)]) dX11_fewestOf_75 rfl rfl (Nat.le_of_ble_eq_true rfl) rfl ?_
      refine kr_goto (tgt := 10) dX11_fewestOf_78 rfl ?_
      refine kv_loc (ls' := [some (.ref 28), some (.int l1), some (.int l2), some (.int l4), some (.int (l4 + 1)), none]) (And.intro rfl (And.intro rfl (And.intro rfl (And.intro rfl (And.intro rfl trivial))))) ?_
      exact hk10 _ _ _ _ _ _ h
    · rw [if_neg c65] at h
      refine kr_iload_n dX11_fewestOf_73 rfl ?_
      refine kr_istore_n (i := 3) (ls' := [some (.ref 28), some (.int l1), some (.int l2), some (.int l3), some (.int l4), some (.int s0)]) dX11_fewestOf_74 rfl (Nat.le_of_ble_eq_true rfl) rfl ?_
      refine kr_iinc (v := l4 + 1) (ls' := [some (.ref 28), some (.int l1), some (.int l2), some (.int l3), some (.int (l4 + 1)), some (.int s0)]) dX11_fewestOf_75 rfl rfl (Nat.le_of_ble_eq_true rfl) rfl ?_
      refine kr_goto (tgt := 10) dX11_fewestOf_78 rfl ?_
      refine kv_loc (ls' := [some (.ref 28), some (.int l1), some (.int l2), some (.int l3), some (.int (l4 + 1)), none]) (And.intro rfl (And.intro rfl (And.intro rfl (And.intro rfl (And.intro rfl trivial))))) ?_
      exact hk10 _ _ _ _ _ _ h
set_option maxRecDepth 20000 in
set_option maxHeartbeats 4000000 in
theorem RX11_fewestOf_43 {Z : kv_Z} (e : Nat) {N : Nat} {k10 : kg_G → Int32 → Int32 → Int32 → Int32 → Option (Int32 × kg_G)} (hk10 : ∀ (G : kg_G) (l1 : Int32) (l2 : Int32) (l3 : Int32) (l4 : Int32) (res : Int32 × kg_G), k10 G l1 l2 l3 l4 = some res → kv_V Z (e + 5) kMX11_fewestOf 10 [some (.ref 28), some (.int l1), some (.int l2), some (.int l3), some (.int l4), none] [] (kg_w G) (some (.int res.1)) (kg_w res.2)) : ∀ (G : kg_G) (l1 : Int32) (l2 : Int32) (l3 : Int32) (l4 : Int32) (res : Int32 × kg_G), fX11_fewestOf_43 N k10 G l1 l2 l3 l4 = some res → kv_V Z (e + 5) kMX11_fewestOf 43 [some (.ref 28), some (.int l1), some (.int l2), some (.int l3), some (.int l4), none] [] (kg_w G) (some (.int res.1)) (kg_w res.2) := by
  intro G l1 l2 l3 l4 res h
  unfold fX11_fewestOf_43 at h
  refine kr_iconst (v := 1) dX11_fewestOf_43 (by decide) ?_
  refine kr_goto (tgt := 48) dX11_fewestOf_44 rfl ?_
  exact RX11_fewestOf_48 e hk10 _ _ _ _ _ _ _ h
set_option maxRecDepth 20000 in
set_option maxHeartbeats 4000000 in
theorem RX11_fewestOf_47 {Z : kv_Z} (e : Nat) {N : Nat} {k10 : kg_G → Int32 → Int32 → Int32 → Int32 → Option (Int32 × kg_G)} (hk10 : ∀ (G : kg_G) (l1 : Int32) (l2 : Int32) (l3 : Int32) (l4 : Int32) (res : Int32 × kg_G), k10 G l1 l2 l3 l4 = some res → kv_V Z (e + 5) kMX11_fewestOf 10 [some (.ref 28), some (.int l1), some (.int l2), some (.int l3), some (.int l4), none] [] (kg_w G) (some (.int res.1)) (kg_w res.2)) : ∀ (G : kg_G) (l1 : Int32) (l2 : Int32) (l3 : Int32) (l4 : Int32) (res : Int32 × kg_G), fX11_fewestOf_47 N k10 G l1 l2 l3 l4 = some res → kv_V Z (e + 5) kMX11_fewestOf 47 [some (.ref 28), some (.int l1), some (.int l2), some (.int l3), some (.int l4), none] [] (kg_w G) (some (.int res.1)) (kg_w res.2) := by
  intro G l1 l2 l3 l4 res h
  unfold fX11_fewestOf_47 at h
  refine kr_iconst (v := 0) dX11_fewestOf_47 (by decide) ?_
  exact RX11_fewestOf_48 e hk10 _ _ _ _ _ _ _ h
set_option maxRecDepth 20000 in
set_option maxHeartbeats 4000000 in
theorem RX11_fewestOf_10 {Z : kv_Z} (e : Nat) {N : Nat} : ∀ (n : Nat) (G : kg_G) (l1 : Int32) (l2 : Int32) (l3 : Int32) (l4 : Int32) (res : Int32 × kg_G), fX11_fewestOf_10 N n G l1 l2 l3 l4 = some res → kv_V Z (e + 5) kMX11_fewestOf 10 [some (.ref 28), some (.int l1), some (.int l2), some (.int l3), some (.int l4), none] [] (kg_w G) (some (.int res.1)) (kg_w res.2) := by
  intro n
  induction n with
  | zero => intro G l1 l2 l3 l4 res h; exact absurd h (by intro z; cases z)
  | succ n ih =>
    intro G l1 l2 l3 l4 res h
    have hk10 := ih
    rw [fX11_fewestOf_10] at h
    refine kr_iload dX11_fewestOf_10 rfl ?_
    refine kr_bipush (v := 32) dX11_fewestOf_12 (by decide) ?_
    refine kr_icmp_ge (tgt := 81) dX11_fewestOf_14 rfl (fun c14 => ?_) (fun c14 => ?_)
    · rw [if_pos c14] at h
      refine kr_iload_n dX11_fewestOf_81 rfl ?_
      refine kr_iconst (v := (-1)) dX11_fewestOf_82 (by decide) ?_
      refine kr_icmp_eq (tgt := 91) dX11_fewestOf_83 rfl (fun c83 => ?_) (fun c83 => ?_)
      · rw [if_pos c83] at h
        refine kr_iload_n dX11_fewestOf_91 rfl ?_
        refine kr_goto (tgt := 99) dX11_fewestOf_92 rfl ?_
        cases h
        exact kr_iret rfl dX11_fewestOf_99
      · rw [if_neg c83] at h
        refine kr_iload_n dX11_fewestOf_86 rfl ?_
        refine kr_iconst (v := 1) dX11_fewestOf_87 (by decide) ?_
        refine kr_icmp_ne (tgt := 95) dX11_fewestOf_88 rfl (fun c88 => ?_) (fun c88 => ?_)
        · rw [if_pos c88] at h
          refine kr_iload_n dX11_fewestOf_91 rfl ?_
          refine kr_goto (tgt := 99) dX11_fewestOf_92 rfl ?_
          cases h
          exact kr_iret rfl dX11_fewestOf_99
        · rw [if_neg c88] at h
          refine kr_iload_n dX11_fewestOf_95 rfl ?_
          obtain ⟨v1, hv1, h⟩ := Option.bind_eq_some_iff.mp h
          refine kr_callSi (M' := kMX11_ones) (As := [.int l3]) (st := []) (RX11_ones (e + 4) hv1) koX11_ones rfl kw5_89 kw5_90 rfl (Nat.le_of_ble_eq_true rfl) dX11_fewestOf_96 ?_
          cases h
          exact kr_iret rfl dX11_fewestOf_99
    · rw [if_neg c14] at h
      refine kr_iload dX11_fewestOf_17 rfl ?_
      refine kr_iload_n dX11_fewestOf_19 rfl ?_
      refine kr_iconst (v := (-1)) dX11_fewestOf_20 (by decide) ?_
      refine kr_ixor dX11_fewestOf_21 ?_
      refine kr_iand dX11_fewestOf_22 ?_
      refine kr_if_ne (tgt := 47) dX11_fewestOf_23 rfl (fun c23 => ?_) (fun c23 => ?_)
      · rw [if_pos c23] at h
        refine kr_iload_n dX11_fewestOf_26 rfl ?_
        refine kr_iconst (v := (-1)) dX11_fewestOf_27 (by decide) ?_
        refine kr_icmp_eq (tgt := 43) dX11_fewestOf_28 rfl (fun c28 => ?_) (fun c28 => ?_)
        · rw [if_pos c28] at h
          exact RX11_fewestOf_43 e hk10 _ _ _ _ _ _ h
        · rw [if_neg c28] at h
          refine kr_iload dX11_fewestOf_31 rfl ?_
          obtain ⟨v2, hv2, h⟩ := Option.bind_eq_some_iff.mp h
          refine kr_callSi (M' := kMX11_ones) (As := [.int l4]) (st := []) (RX11_ones (e + 4) hv2) koX11_ones rfl kw5_89 kw5_90 rfl (Nat.le_of_ble_eq_true rfl) dX11_fewestOf_33 ?_
          refine kr_iload_n dX11_fewestOf_36 rfl ?_
          obtain ⟨v3, hv3, h⟩ := Option.bind_eq_some_iff.mp h
          refine kr_callSi (M' := kMX11_ones) (As := [.int l3]) (st := [.int v2]) (RX11_ones (e + 4) hv3) koX11_ones rfl kw5_89 kw5_90 rfl (Nat.le_of_ble_eq_true rfl) dX11_fewestOf_37 ?_
          refine kr_icmp_ge (tgt := 47) dX11_fewestOf_40 rfl (fun c40 => ?_) (fun c40 => ?_)
          · rw [if_pos c40] at h
            exact RX11_fewestOf_47 e hk10 _ _ _ _ _ _ h
          · rw [if_neg c40] at h
            exact RX11_fewestOf_43 e hk10 _ _ _ _ _ _ h
      · rw [if_neg c23] at h
        exact RX11_fewestOf_47 e hk10 _ _ _ _ _ _ h
set_option maxRecDepth 20000 in
set_option maxHeartbeats 4000000 in
theorem RX11_fewestOf {Z : kv_Z} (e : Nat) {N : Nat} {G : kg_G} {l1 : Int32} {res : Int32 × kg_G} (h : fX11_fewestOf N G l1 = some res) : kv_M Z (e + 5) kMX11_fewestOf [.ref 28, .int l1] (kg_w G) (some (.int res.1)) (kg_w res.2) := by
  refine kv_M_of (ls := [some (.ref 28), some (.int l1), none, none, none, none]) (by decide) (Nat.le_of_ble_eq_true rfl) rfl ?_
  unfold fX11_fewestOf at h
  refine kr_aload_n dX11_fewestOf_0 rfl ?_
  obtain ⟨v1, hv1, h⟩ := Option.bind_eq_some_iff.mp h
  refine kr_callVi (M' := kMX11_keptSet) (a := 28) (As := []) (st := []) (RX11_keptSet (e + 3) hv1) koX11_keptSet rfl rfl rfl kw5_185 kw5_187 kws_41 rfl (Nat.le_of_ble_eq_true rfl) dX11_fewestOf_1 ?_
  refine kr_istore_n (i := 2) (ls' := [some (.ref 28), some (.int l1), some (.int v1), none, none, none]) dX11_fewestOf_4 rfl (Nat.le_of_ble_eq_true rfl) rfl ?_
  refine kr_iconst (v := (-1)) dX11_fewestOf_5 (by decide) ?_
  refine kr_istore_n (i := 3) (ls' := [some (.ref 28), some (.int l1), some (.int v1), some (.int (-1)), none, none]) dX11_fewestOf_6 rfl (Nat.le_of_ble_eq_true rfl) rfl ?_
  refine kr_iconst (v := 0) dX11_fewestOf_7 (by decide) ?_
  refine kr_istore (ls' := [some (.ref 28), some (.int l1), some (.int v1), some (.int (-1)), some (.int 0), none]) dX11_fewestOf_8 (Nat.le_of_ble_eq_true rfl) rfl ?_
  exact RX11_fewestOf_10 e N _ _ _ _ _ _ h
set_option maxRecDepth 20000 in
set_option maxHeartbeats 4000000 in
theorem RX11_fewest {Z : kv_Z} (e : Nat) {N : Nat} {G : kg_G} {l1 : Int32} {res : Int32 × kg_G} (h : fX11_fewest N G l1 = some res) : kv_M Z (e + 6) kMX11_fewest [.ref 28, .int l1] (kg_w G) (some (.int res.1)) (kg_w res.2) := by
  refine kv_M_of (ls := [some (.ref 28), some (.int l1)]) (by decide) (Nat.le_of_ble_eq_true rfl) rfl ?_
  unfold fX11_fewest at h
  refine kr_iload_n dX11_fewest_0 rfl ?_
  refine kr_i2l dX11_fewest_1 ?_
  refine kr_lconst (v := 0) dX11_fewest_2 (by decide) ?_
  refine kr_lconst (v := 1) dX11_fewest_3 (by decide) ?_
  refine kr_callSi (M' := kMX11_in) (As := [.long l1.toInt64, .long 0, .long 1]) (st := []) (RX11_in (e + 5) rfl) koX11_in rfl kw5_29 kw5_30 rfl (Nat.le_of_ble_eq_true rfl) dX11_fewest_4 ?_
  refine kr_if_ne (tgt := 13) dX11_fewest_7 rfl (fun c7 => ?_) (fun c7 => ?_)
  · rw [if_pos c7] at h
    refine kr_bipush (v := (-102)) dX11_fewest_10 (by decide) ?_
    cases h
    exact kr_iret rfl dX11_fewest_12
  · rw [if_neg c7] at h
    refine kr_aload_n dX11_fewest_13 rfl ?_
    refine kr_callVi (M' := kMX11_lacks) (a := 28) (As := []) (st := []) (RX11_lacks (e + 5) rfl) koX11_lacks rfl rfl rfl kw5_169 kw5_171 kws_39 rfl (Nat.le_of_ble_eq_true rfl) dX11_fewest_14 ?_
    refine kr_if_ne (tgt := 29) dX11_fewest_17 rfl (fun c17 => ?_) (fun c17 => ?_)
    · rw [if_pos c17] at h
      refine kr_aload_n dX11_fewest_20 rfl ?_
      refine kx_g28_21 (G.1 28 21) rfl kw4_158 dX11_fewest_21 ?_
      refine kr_bipush (v := 6) dX11_fewest_24 (by decide) ?_
      refine kr_icmp_ne (tgt := 32) dX11_fewest_26 rfl (fun c26 => ?_) (fun c26 => ?_)
      · rw [if_pos c26] at h
        refine kr_bipush (v := (-103)) dX11_fewest_29 (by decide) ?_
        cases h
        exact kr_iret rfl dX11_fewest_31
      · rw [if_neg c26] at h
        refine kr_aload_n dX11_fewest_32 rfl ?_
        refine kr_dup dX11_fewest_33 rfl ?_
        refine kx_g28_21 (G.1 28 21) rfl kw4_158 dX11_fewest_34 ?_
        refine kr_iconst (v := 1) dX11_fewest_37 (by decide) ?_
        refine kr_iadd dX11_fewest_38 ?_
        refine kx_p28_21 kw4_158 dX11_fewest_39 ?_
        refine kr_aload_n dX11_fewest_42 rfl ?_
        refine kr_iload_n dX11_fewest_43 rfl ?_
        obtain ⟨v3, hv3, h⟩ := Option.bind_eq_some_iff.mp h
        refine kr_callVi (M' := kMX11_fewestOf) (a := 28) (As := [.int l1]) (st := []) (RX11_fewestOf (e + 0) hv3) koX11_fewestOf rfl rfl rfl kw5_227 kw5_229 kws_46 rfl (Nat.le_of_ble_eq_true rfl) dX11_fewest_44 ?_
        cases h
        exact kr_iret rfl dX11_fewest_47
    · rw [if_neg c17] at h
      refine kr_bipush (v := (-103)) dX11_fewest_29 (by decide) ?_
      cases h
      exact kr_iret rfl dX11_fewest_31
set_option maxRecDepth 20000 in
set_option maxHeartbeats 4000000 in
theorem RX11_spareOf_55 {Z : kv_Z} (e : Nat) {N : Nat} {k16 : kg_G → Int32 → Int32 → Int32 → Int32 → Option (Int32 × kg_G)} (hk16 : ∀ (G : kg_G) (l1 : Int32) (l2 : Int32) (l3 : Int32) (l4 : Int32) (res : Int32 × kg_G), k16 G l1 l2 l3 l4 = some res → kv_V Z (e + 5) kMX11_spareOf 16 [some (.ref 28), some (.int l1), some (.int l2), some (.int l3), some (.int l4), none] [] (kg_w G) (some (.int res.1)) (kg_w res.2)) : ∀ (G : kg_G) (l1 : Int32) (l2 : Int32) (l3 : Int32) (l4 : Int32) (s0 : Int32) (res : Int32 × kg_G), fX11_spareOf_55 N k16 G l1 l2 l3 l4 s0 = some res → kv_V Z (e + 5) kMX11_spareOf 55 [some (.ref 28), some (.int l1), some (.int l2), some (.int l3), some (.int l4), none] [.int s0] (kg_w G) (some (.int res.1)) (kg_w res.2) := by
  intro G l1 l2 l3 l4 s0 res h
  unfold fX11_spareOf_55 at h
  refine kr_istore (ls' := [some (.ref 28), some (.int l1), some (.int l2), some (.int l3), some (.int l4), some (.int s0)]) dX11_spareOf_55 (Nat.le_of_ble_eq_true rfl) rfl ?_
  refine kr_iload_n dX11_spareOf_57 rfl ?_
  refine kr_iload dX11_spareOf_58 rfl ?_
  refine kr_if_eq (tgt := 70) dX11_spareOf_60 rfl (fun c60 => ?_) (fun c60 => ?_)
  · rw [if_pos c60] at h
    refine kr_iconst (v := 0) dX11_spareOf_70 (by decide) ?_
    refine kr_ior dX11_spareOf_71 ?_
    refine kr_istore_n (i := 3) (ls' := [some (.ref 28), some (.int l1), some (.int l2), some (.int (l3 ||| 0)), some (.int l4), some (.int s0)]) dX11_spareOf_72 rfl (Nat.le_of_ble_eq_true rfl) rfl ?_
    refine kr_iinc (v := l4 + 1) (ls' := [some (.ref 28), some (.int l1), some (.int l2), some (.int (l3 ||| 0)), some (.int (l4 + 1)), some (.int s0)]) dX11_spareOf_73 rfl rfl (Nat.le_of_ble_eq_true rfl) rfl ?_
    refine kr_goto (tgt := 16) dX11_spareOf_76 rfl ?_
    refine kv_loc (ls' := [some (.ref 28), some (.int l1), some (.int l2), some (.int (l3 ||| 0)), some (.int (l4 + 1)), none]) (And.intro rfl (And.intro rfl (And.intro rfl (And.intro rfl (And.intro rfl trivial))))) ?_
    exact hk16 _ _ _ _ _ _ h
  · rw [if_neg c60] at h
    refine kr_iconst (v := 1) dX11_spareOf_63 (by decide) ?_
    refine kr_iload dX11_spareOf_64 rfl ?_
    refine kr_ishl dX11_spareOf_66 ?_
    refine kr_goto (tgt := 71) dX11_spareOf_67 rfl ?_
    refine kr_ior dX11_spareOf_71 ?_
    refine kr_istore_n (i := 3) (ls' := [some (.ref 28), some (.int l1), some (.int l2), some (.int (l3 ||| (1 <<< (l4 &&& 31)))), some (.int l4), some (.int s0)]) dX11_spareOf_72 rfl (Nat.le_of_ble_eq_true rfl) rfl ?_
    refine kr_iinc (v := l4 + 1) (ls' := [some (.ref 28), some (.int l1), some (.int l2), some (.int (l3 ||| (1 <<< (l4 &&& 31)))), some (.int (l4 + 1)), some (.int s0)]) dX11_spareOf_73 rfl rfl (Nat.le_of_ble_eq_true rfl) rfl ?_
    refine kr_goto (tgt := 16) dX11_spareOf_76 rfl ?_
    refine kv_loc (ls' := [some (.ref 28), some (.int l1), some (.int l2), some (.int (l3 ||| (1 <<< (l4 &&& 31)))), some (.int (l4 + 1)), none]) (And.intro rfl (And.intro rfl (And.intro rfl (And.intro rfl (And.intro rfl trivial))))) ?_
    exact hk16 _ _ _ _ _ _ h
set_option maxRecDepth 20000 in
set_option maxHeartbeats 4000000 in
theorem RX11_spareOf_54 {Z : kv_Z} (e : Nat) {N : Nat} {k16 : kg_G → Int32 → Int32 → Int32 → Int32 → Option (Int32 × kg_G)} (hk16 : ∀ (G : kg_G) (l1 : Int32) (l2 : Int32) (l3 : Int32) (l4 : Int32) (res : Int32 × kg_G), k16 G l1 l2 l3 l4 = some res → kv_V Z (e + 5) kMX11_spareOf 16 [some (.ref 28), some (.int l1), some (.int l2), some (.int l3), some (.int l4), none] [] (kg_w G) (some (.int res.1)) (kg_w res.2)) : ∀ (G : kg_G) (l1 : Int32) (l2 : Int32) (l3 : Int32) (l4 : Int32) (res : Int32 × kg_G), fX11_spareOf_54 N k16 G l1 l2 l3 l4 = some res → kv_V Z (e + 5) kMX11_spareOf 54 [some (.ref 28), some (.int l1), some (.int l2), some (.int l3), some (.int l4), none] [] (kg_w G) (some (.int res.1)) (kg_w res.2) := by
  intro G l1 l2 l3 l4 res h
  unfold fX11_spareOf_54 at h
  refine kr_iconst (v := 0) dX11_spareOf_54 (by decide) ?_
  exact RX11_spareOf_55 e hk16 _ _ _ _ _ _ _ h
set_option maxRecDepth 20000 in
set_option maxHeartbeats 4000000 in
theorem RX11_spareOf_16 {Z : kv_Z} (e : Nat) {N : Nat} : ∀ (n : Nat) (G : kg_G) (l1 : Int32) (l2 : Int32) (l3 : Int32) (l4 : Int32) (res : Int32 × kg_G), fX11_spareOf_16 N n G l1 l2 l3 l4 = some res → kv_V Z (e + 5) kMX11_spareOf 16 [some (.ref 28), some (.int l1), some (.int l2), some (.int l3), some (.int l4), none] [] (kg_w G) (some (.int res.1)) (kg_w res.2) := by
  intro n
  induction n with
  | zero => intro G l1 l2 l3 l4 res h; exact absurd h (by intro z; cases z)
  | succ n ih =>
    intro G l1 l2 l3 l4 res h
    have hk16 := ih
    rw [fX11_spareOf_16] at h
    refine kr_iload dX11_spareOf_16 rfl ?_
    refine kr_aload_n dX11_spareOf_18 rfl ?_
    refine kx_g28_4 (G.1 28 4) rfl kw4_141 dX11_spareOf_19 ?_
    refine kr_icmp_ge (tgt := 79) dX11_spareOf_22 rfl (fun c22 => ?_) (fun c22 => ?_)
    · rw [if_pos c22] at h
      refine kr_iload_n dX11_spareOf_79 rfl ?_
      cases h
      exact kr_iret rfl dX11_spareOf_80
    · rw [if_neg c22] at h
      refine kr_aload_n dX11_spareOf_25 rfl ?_
      refine kr_iload dX11_spareOf_26 rfl ?_
      obtain ⟨v1, hv1, h⟩ := Option.bind_eq_some_iff.mp h
      refine kr_callVi (M' := kMX11_isKept) (a := 28) (As := [.int l4]) (st := []) (RX11_isKept (e + 4) hv1) koX11_isKept rfl rfl rfl kw5_96 kw5_98 kws_27 rfl (Nat.le_of_ble_eq_true rfl) dX11_spareOf_28 ?_
      refine kr_if_eq (tgt := 54) dX11_spareOf_31 rfl (fun c31 => ?_) (fun c31 => ?_)
      · rw [if_pos c31] at h
        exact RX11_spareOf_54 e hk16 _ _ _ _ _ _ h
      · rw [if_neg c31] at h
        refine kr_aload_n dX11_spareOf_34 rfl ?_
        refine kr_iload_n dX11_spareOf_35 rfl ?_
        refine kr_iconst (v := 1) dX11_spareOf_36 (by decide) ?_
        refine kr_iload dX11_spareOf_37 rfl ?_
        refine kr_ishl dX11_spareOf_39 ?_
        refine kr_iconst (v := (-1)) dX11_spareOf_40 (by decide) ?_
        refine kr_ixor dX11_spareOf_41 ?_
        refine kr_iand dX11_spareOf_42 ?_
        obtain ⟨v2, hv2, h⟩ := Option.bind_eq_some_iff.mp h
        refine kr_callVi (M' := kMX11_layMost) (a := 28) (As := [.int (l1 &&& ((1 <<< (l4 &&& 31)) ^^^ (-1)))]) (st := []) (RX11_layMost (e + 0) hv2) koX11_layMost rfl rfl rfl kw5_204 kw5_206 kws_43 rfl (Nat.le_of_ble_eq_true rfl) dX11_spareOf_43 ?_
        refine kr_iload_n dX11_spareOf_46 rfl ?_
        refine kr_icmp_ne (tgt := 54) dX11_spareOf_47 rfl (fun c47 => ?_) (fun c47 => ?_)
        · rw [if_pos c47] at h
          refine kr_iconst (v := 1) dX11_spareOf_50 (by decide) ?_
          refine kr_goto (tgt := 55) dX11_spareOf_51 rfl ?_
          exact RX11_spareOf_55 e hk16 _ _ _ _ _ _ _ h
        · rw [if_neg c47] at h
          exact RX11_spareOf_54 e hk16 _ _ _ _ _ _ h
set_option maxRecDepth 20000 in
set_option maxHeartbeats 4000000 in
theorem RX11_spareOf {Z : kv_Z} (e : Nat) {N : Nat} {G : kg_G} {res : Int32 × kg_G} (h : fX11_spareOf N G = some res) : kv_M Z (e + 5) kMX11_spareOf [.ref 28] (kg_w G) (some (.int res.1)) (kg_w res.2) := by
  refine kv_M_of (ls := [some (.ref 28), none, none, none, none, none]) (by decide) (Nat.le_of_ble_eq_true rfl) rfl ?_
  unfold fX11_spareOf at h
  refine kr_aload_n dX11_spareOf_0 rfl ?_
  obtain ⟨v1, hv1, h⟩ := Option.bind_eq_some_iff.mp h
  refine kr_callVi (M' := kMX11_keptSet) (a := 28) (As := []) (st := []) (RX11_keptSet (e + 3) hv1) koX11_keptSet rfl rfl rfl kw5_185 kw5_187 kws_41 rfl (Nat.le_of_ble_eq_true rfl) dX11_spareOf_1 ?_
  refine kr_istore_n (i := 1) (ls' := [some (.ref 28), some (.int v1), none, none, none, none]) dX11_spareOf_4 rfl (Nat.le_of_ble_eq_true rfl) rfl ?_
  refine kr_aload_n dX11_spareOf_5 rfl ?_
  refine kr_iload_n dX11_spareOf_6 rfl ?_
  obtain ⟨v2, hv2, h⟩ := Option.bind_eq_some_iff.mp h
  refine kr_callVi (M' := kMX11_layMost) (a := 28) (As := [.int v1]) (st := []) (RX11_layMost (e + 0) hv2) koX11_layMost rfl rfl rfl kw5_204 kw5_206 kws_43 rfl (Nat.le_of_ble_eq_true rfl) dX11_spareOf_7 ?_
  refine kr_istore_n (i := 2) (ls' := [some (.ref 28), some (.int v1), some (.int v2.1), none, none, none]) dX11_spareOf_10 rfl (Nat.le_of_ble_eq_true rfl) rfl ?_
  refine kr_iconst (v := 0) dX11_spareOf_11 (by decide) ?_
  refine kr_istore_n (i := 3) (ls' := [some (.ref 28), some (.int v1), some (.int v2.1), some (.int 0), none, none]) dX11_spareOf_12 rfl (Nat.le_of_ble_eq_true rfl) rfl ?_
  refine kr_iconst (v := 0) dX11_spareOf_13 (by decide) ?_
  refine kr_istore (ls' := [some (.ref 28), some (.int v1), some (.int v2.1), some (.int 0), some (.int 0), none]) dX11_spareOf_14 (Nat.le_of_ble_eq_true rfl) rfl ?_
  exact RX11_spareOf_16 e N _ _ _ _ _ _ h
set_option maxRecDepth 20000 in
set_option maxHeartbeats 4000000 in
theorem RX11_spare {Z : kv_Z} (e : Nat) {N : Nat} {G : kg_G} {res : Int32 × kg_G} (h : fX11_spare N G = some res) : kv_M Z (e + 6) kMX11_spare [.ref 28] (kg_w G) (some (.int res.1)) (kg_w res.2) := by
  refine kv_M_of (ls := [some (.ref 28)]) (by decide) (Nat.le_of_ble_eq_true rfl) rfl ?_
  unfold fX11_spare at h
  refine kr_aload_n dX11_spare_0 rfl ?_
  refine kr_callVi (M' := kMX11_lacks) (a := 28) (As := []) (st := []) (RX11_lacks (e + 5) rfl) koX11_lacks rfl rfl rfl kw5_169 kw5_171 kws_39 rfl (Nat.le_of_ble_eq_true rfl) dX11_spare_1 ?_
  refine kr_if_ne (tgt := 16) dX11_spare_4 rfl (fun c4 => ?_) (fun c4 => ?_)
  · rw [if_pos c4] at h
    refine kr_aload_n dX11_spare_7 rfl ?_
    refine kx_g28_22 (G.1 28 22) rfl kw4_159 dX11_spare_8 ?_
    refine kr_bipush (v := 6) dX11_spare_11 (by decide) ?_
    refine kr_icmp_ne (tgt := 19) dX11_spare_13 rfl (fun c13 => ?_) (fun c13 => ?_)
    · rw [if_pos c13] at h
      refine kr_bipush (v := (-103)) dX11_spare_16 (by decide) ?_
      cases h
      exact kr_iret rfl dX11_spare_18
    · rw [if_neg c13] at h
      refine kr_aload_n dX11_spare_19 rfl ?_
      refine kr_dup dX11_spare_20 rfl ?_
      refine kx_g28_22 (G.1 28 22) rfl kw4_159 dX11_spare_21 ?_
      refine kr_iconst (v := 1) dX11_spare_24 (by decide) ?_
      refine kr_iadd dX11_spare_25 ?_
      refine kx_p28_22 kw4_159 dX11_spare_26 ?_
      refine kr_aload_n dX11_spare_29 rfl ?_
      obtain ⟨v2, hv2, h⟩ := Option.bind_eq_some_iff.mp h
      refine kr_callVi (M' := kMX11_spareOf) (a := 28) (As := []) (st := []) (RX11_spareOf (e + 0) hv2) koX11_spareOf rfl rfl rfl kw5_235 kw5_237 kws_47 rfl (Nat.le_of_ble_eq_true rfl) dX11_spare_30 ?_
      cases h
      exact kr_iret rfl dX11_spare_33
  · rw [if_neg c4] at h
    refine kr_bipush (v := (-103)) dX11_spare_16 (by decide) ?_
    cases h
    exact kr_iret rfl dX11_spare_18
set_option maxRecDepth 20000 in
set_option maxHeartbeats 4000000 in
theorem RX11_wantsAt_4 {Z : kv_Z} (e : Nat) {N : Nat} {G : kg_G} : ∀ (n : Nat) (l1 : Int32) (l2 : Int32) (l3 : Int32) (res : Int32), fX11_wantsAt_4 N G n l1 l2 l3 = some res → kv_V Z (e + 1) kMX11_wantsAt 4 [some (.ref 28), some (.int l1), some (.int l2), some (.int l3)] [] (kg_w G) (some (.int res)) (kg_w G) := by
  intro n
  induction n with
  | zero => intro l1 l2 l3 res h; exact absurd h (by intro z; cases z)
  | succ n ih =>
    intro l1 l2 l3 res h
    have hk4 := ih
    rw [fX11_wantsAt_4] at h
    refine kr_iload_n dX11_wantsAt_4 rfl ?_
    refine kr_aload_n dX11_wantsAt_5 rfl ?_
    refine kx_g28_3 (G.1 28 3) rfl kw4_140 dX11_wantsAt_6 ?_
    refine kr_icmp_ge (tgt := 36) dX11_wantsAt_9 rfl (fun c9 => ?_) (fun c9 => ?_)
    · rw [if_pos c9] at h
      refine kr_iload_n dX11_wantsAt_36 rfl ?_
      cases h
      exact kr_iret rfl dX11_wantsAt_37
    · rw [if_neg c9] at h
      refine kr_iload_n dX11_wantsAt_12 rfl ?_
      refine kr_aload_n dX11_wantsAt_13 rfl ?_
      refine kr_iload_n dX11_wantsAt_14 rfl ?_
      obtain ⟨v1, hv1, h⟩ := Option.bind_eq_some_iff.mp h
      refine kr_callVi (M' := kMX11_hoursOf) (a := 28) (As := [.int l3]) (st := [.int l2]) (RX11_hoursOf (e + 0) hv1) koX11_hoursOf rfl rfl rfl kw5_116 kw5_118 kws_32 rfl (Nat.le_of_ble_eq_true rfl) dX11_wantsAt_15 ?_
      refine kr_iload_n dX11_wantsAt_18 rfl ?_
      refine kr_ishr dX11_wantsAt_19 ?_
      refine kr_iconst (v := 1) dX11_wantsAt_20 (by decide) ?_
      refine kr_iand dX11_wantsAt_21 ?_
      refine kr_aload_n dX11_wantsAt_22 rfl ?_
      refine kr_iload_n dX11_wantsAt_23 rfl ?_
      obtain ⟨v2, hv2, h⟩ := Option.bind_eq_some_iff.mp h
      refine kr_callVi (M' := kMX11_wantsOf) (a := 28) (As := [.int l3]) (st := [.int ((v1 >>> (l1 &&& 31)) &&& 1), .int l2]) (RX11_wantsOf (e + 0) hv2) koX11_wantsOf rfl rfl rfl kw5_77 kw5_79 kws_23 rfl (Nat.le_of_ble_eq_true rfl) dX11_wantsAt_24 ?_
      refine kr_imul dX11_wantsAt_27 ?_
      refine kr_iadd dX11_wantsAt_28 ?_
      refine kr_istore_n (i := 2) (ls' := [some (.ref 28), some (.int l1), some (.int (l2 + (((v1 >>> (l1 &&& 31)) &&& 1) * v2))), some (.int l3)]) dX11_wantsAt_29 rfl (Nat.le_of_ble_eq_true rfl) rfl ?_
      refine kr_iinc (v := l3 + 1) (ls' := [some (.ref 28), some (.int l1), some (.int (l2 + (((v1 >>> (l1 &&& 31)) &&& 1) * v2))), some (.int (l3 + 1))]) dX11_wantsAt_30 rfl rfl (Nat.le_of_ble_eq_true rfl) rfl ?_
      refine kr_goto (tgt := 4) dX11_wantsAt_33 rfl ?_
      exact hk4 _ _ _ _ h
set_option maxRecDepth 20000 in
set_option maxHeartbeats 4000000 in
theorem RX11_wantsAt {Z : kv_Z} (e : Nat) {N : Nat} {G : kg_G} {l1 : Int32} {res : Int32} (h : fX11_wantsAt N G l1 = some res) : kv_M Z (e + 1) kMX11_wantsAt [.ref 28, .int l1] (kg_w G) (some (.int res)) (kg_w G) := by
  refine kv_M_of (ls := [some (.ref 28), some (.int l1), none, none]) (by decide) (Nat.le_of_ble_eq_true rfl) rfl ?_
  unfold fX11_wantsAt at h
  refine kr_iconst (v := 0) dX11_wantsAt_0 (by decide) ?_
  refine kr_istore_n (i := 2) (ls' := [some (.ref 28), some (.int l1), some (.int 0), none]) dX11_wantsAt_1 rfl (Nat.le_of_ble_eq_true rfl) rfl ?_
  refine kr_iconst (v := 0) dX11_wantsAt_2 (by decide) ?_
  refine kr_istore_n (i := 3) (ls' := [some (.ref 28), some (.int l1), some (.int 0), some (.int 0)]) dX11_wantsAt_3 rfl (Nat.le_of_ble_eq_true rfl) rfl ?_
  exact RX11_wantsAt_4 e N _ _ _ _ h
set_option maxRecDepth 20000 in
set_option maxHeartbeats 4000000 in
theorem RX11_wants {Z : kv_Z} (e : Nat) {N : Nat} {G : kg_G} {l1 : Int32} {res : Int32} (h : fX11_wants N G l1 = some res) : kv_M Z (e + 2) kMX11_wants [.ref 28, .int l1] (kg_w G) (some (.int res)) (kg_w G) := by
  refine kv_M_of (ls := [some (.ref 28), some (.int l1)]) (by decide) (Nat.le_of_ble_eq_true rfl) rfl ?_
  unfold fX11_wants at h
  refine kr_iload_n dX11_wants_0 rfl ?_
  refine kr_i2l dX11_wants_1 ?_
  refine kr_lconst (v := 0) dX11_wants_2 (by decide) ?_
  refine kr_ldc2 (x := 11) kw6_3 dX11_wants_3 ?_
  refine kr_callSi (M' := kMX11_in) (As := [.long l1.toInt64, .long 0, .long 11]) (st := []) (RX11_in (e + 1) rfl) koX11_in rfl kw5_29 kw5_30 rfl (Nat.le_of_ble_eq_true rfl) dX11_wants_6 ?_
  refine kr_if_ne (tgt := 15) dX11_wants_9 rfl (fun c9 => ?_) (fun c9 => ?_)
  · rw [if_pos c9] at h
    refine kr_bipush (v := (-102)) dX11_wants_12 (by decide) ?_
    cases h
    exact kr_iret rfl dX11_wants_14
  · rw [if_neg c9] at h
    refine kr_aload_n dX11_wants_15 rfl ?_
    refine kr_callVi (M' := kMX11_lacks) (a := 28) (As := []) (st := []) (RX11_lacks (e + 1) rfl) koX11_lacks rfl rfl rfl kw5_169 kw5_171 kws_39 rfl (Nat.le_of_ble_eq_true rfl) dX11_wants_16 ?_
    refine kr_if_eq (tgt := 27) dX11_wants_19 rfl (fun c19 => ?_) (fun c19 => ?_)
    · rw [if_pos c19] at h
      refine kr_aload_n dX11_wants_27 rfl ?_
      refine kr_iload_n dX11_wants_28 rfl ?_
      obtain ⟨v3, hv3, h⟩ := Option.bind_eq_some_iff.mp h
      refine kr_callVi (M' := kMX11_wantsAt) (a := 28) (As := [.int l1]) (st := []) (RX11_wantsAt (e + 0) hv3) koX11_wantsAt rfl rfl rfl kw6_4 kw6_6 kws_48 rfl (Nat.le_of_ble_eq_true rfl) dX11_wants_29 ?_
      cases h
      exact kr_iret rfl dX11_wants_32
    · rw [if_neg c19] at h
      refine kr_bipush (v := (-103)) dX11_wants_22 (by decide) ?_
      refine kr_goto (tgt := 32) dX11_wants_24 rfl ?_
      cases h
      exact kr_iret rfl dX11_wants_32
set_option maxRecDepth 20000 in
set_option maxHeartbeats 4000000 in
theorem RX11_bound_4 {Z : kv_Z} (e : Nat) {N : Nat} {G : kg_G} : ∀ (n : Nat) (l1 : Int32) (l2 : Int32) (res : Int32), fX11_bound_4 N G n l1 l2 = some res → kv_V Z (e + 2) kMX11_bound 4 [some (.ref 28), some (.int l1), some (.int l2), none] [] (kg_w G) (some (.int res)) (kg_w G) := by
  intro n
  induction n with
  | zero => intro l1 l2 res h; exact absurd h (by intro z; cases z)
  | succ n ih =>
    intro l1 l2 res h
    have hk4 := ih
    rw [fX11_bound_4] at h
    refine kr_iload_n dX11_bound_4 rfl ?_
    refine kr_bipush (v := 12) dX11_bound_5 (by decide) ?_
    refine kr_icmp_ge (tgt := 33) dX11_bound_7 rfl (fun c7 => ?_) (fun c7 => ?_)
    · rw [if_pos c7] at h
      refine kr_iload_n dX11_bound_33 rfl ?_
      cases h
      exact kr_iret rfl dX11_bound_34
    · rw [if_neg c7] at h
      refine kr_aload_n dX11_bound_10 rfl ?_
      refine kr_iload_n dX11_bound_11 rfl ?_
      obtain ⟨v1, hv1, h⟩ := Option.bind_eq_some_iff.mp h
      refine kr_callVi (M' := kMX11_wantsAt) (a := 28) (As := [.int l2]) (st := []) (RX11_wantsAt (e + 0) hv1) koX11_wantsAt rfl rfl rfl kw6_4 kw6_6 kws_48 rfl (Nat.le_of_ble_eq_true rfl) dX11_bound_12 ?_
      refine kr_istore_n (i := 3) (ls' := [some (.ref 28), some (.int l1), some (.int l2), some (.int v1)]) dX11_bound_15 rfl (Nat.le_of_ble_eq_true rfl) rfl ?_
      refine kr_iload_n dX11_bound_16 rfl ?_
      refine kr_iload_n dX11_bound_17 rfl ?_
      refine kr_icmp_le (tgt := 25) dX11_bound_18 rfl (fun c18 => ?_) (fun c18 => ?_)
      · rw [if_pos c18] at h
        refine kr_iload_n dX11_bound_25 rfl ?_
        refine kr_istore_n (i := 1) (ls' := [some (.ref 28), some (.int l1), some (.int l2), some (.int v1)]) dX11_bound_26 rfl (Nat.le_of_ble_eq_true rfl) rfl ?_
        refine kr_iinc (v := l2 + 1) (ls' := [some (.ref 28), some (.int l1), some (.int (l2 + 1)), some (.int v1)]) dX11_bound_27 rfl rfl (Nat.le_of_ble_eq_true rfl) rfl ?_
        refine kr_goto (tgt := 4) dX11_bound_30 rfl ?_
        refine kv_loc (ls' := [some (.ref 28), some (.int l1), some (.int (l2 + 1)), none]) (And.intro rfl (And.intro rfl (And.intro rfl trivial))) ?_
        exact hk4 _ _ _ h
      · rw [if_neg c18] at h
        refine kr_iload_n dX11_bound_21 rfl ?_
        refine kr_goto (tgt := 26) dX11_bound_22 rfl ?_
        refine kr_istore_n (i := 1) (ls' := [some (.ref 28), some (.int v1), some (.int l2), some (.int v1)]) dX11_bound_26 rfl (Nat.le_of_ble_eq_true rfl) rfl ?_
        refine kr_iinc (v := l2 + 1) (ls' := [some (.ref 28), some (.int v1), some (.int (l2 + 1)), some (.int v1)]) dX11_bound_27 rfl rfl (Nat.le_of_ble_eq_true rfl) rfl ?_
        refine kr_goto (tgt := 4) dX11_bound_30 rfl ?_
        refine kv_loc (ls' := [some (.ref 28), some (.int v1), some (.int (l2 + 1)), none]) (And.intro rfl (And.intro rfl (And.intro rfl trivial))) ?_
        exact hk4 _ _ _ h
set_option maxRecDepth 20000 in
set_option maxHeartbeats 4000000 in
theorem RX11_bound {Z : kv_Z} (e : Nat) {N : Nat} {G : kg_G} {res : Int32} (h : fX11_bound N G = some res) : kv_M Z (e + 2) kMX11_bound [.ref 28] (kg_w G) (some (.int res)) (kg_w G) := by
  refine kv_M_of (ls := [some (.ref 28), none, none, none]) (by decide) (Nat.le_of_ble_eq_true rfl) rfl ?_
  unfold fX11_bound at h
  refine kr_iconst (v := 0) dX11_bound_0 (by decide) ?_
  refine kr_istore_n (i := 1) (ls' := [some (.ref 28), some (.int 0), none, none]) dX11_bound_1 rfl (Nat.le_of_ble_eq_true rfl) rfl ?_
  refine kr_iconst (v := 0) dX11_bound_2 (by decide) ?_
  refine kr_istore_n (i := 2) (ls' := [some (.ref 28), some (.int 0), some (.int 0), none]) dX11_bound_3 rfl (Nat.le_of_ble_eq_true rfl) rfl ?_
  exact RX11_bound_4 e N _ _ _ h
set_option maxRecDepth 20000 in
set_option maxHeartbeats 4000000 in
theorem RX11_isThrough_5 {Z : kv_Z} (e : Nat) {N : Nat} {G : kg_G} : ∀ (n : Nat) (l0 : Int32) (l1 : Int32) (l2 : Int32) (l3 : Int32) (l4 : Int32) (res : Int32), fX11_isThrough_5 N n l0 l1 l2 l3 l4 = some res → kv_V Z (e + 0) kMX11_isThrough 5 [some (.int l0), some (.int l1), some (.int l2), some (.int l3), some (.int l4)] [] (kg_w G) (some (.int res)) (kg_w G) := by
  intro n
  induction n with
  | zero => intro l0 l1 l2 l3 l4 res h; exact absurd h (by intro z; cases z)
  | succ n ih =>
    intro l0 l1 l2 l3 l4 res h
    have hk5 := ih
    rw [fX11_isThrough_5] at h
    refine kr_iload dX11_isThrough_5 rfl ?_
    refine kr_bipush (v := 6) dX11_isThrough_7 (by decide) ?_
    refine kr_icmp_ge (tgt := 52) dX11_isThrough_9 rfl (fun c9 => ?_) (fun c9 => ?_)
    · rw [if_pos c9] at h
      refine kr_iload_n dX11_isThrough_52 rfl ?_
      obtain ⟨hz, h⟩ := kx_itn h
      cases h
      exact kr_zret rfl (kx_nar hz) dX11_isThrough_53
    · rw [if_neg c9] at h
      refine kr_iload_n dX11_isThrough_12 rfl ?_
      refine kr_if_eq (tgt := 44) dX11_isThrough_13 rfl (fun c13 => ?_) (fun c13 => ?_)
      · rw [if_pos c13] at h
        refine kr_iconst (v := 0) dX11_isThrough_44 (by decide) ?_
        refine kr_istore_n (i := 3) (ls' := [some (.int l0), some (.int l1), some (.int l2), some (.int 0), some (.int l4)]) dX11_isThrough_45 rfl (Nat.le_of_ble_eq_true rfl) rfl ?_
        refine kr_iinc (v := l4 + 1) (ls' := [some (.int l0), some (.int l1), some (.int l2), some (.int 0), some (.int (l4 + 1))]) dX11_isThrough_46 rfl rfl (Nat.le_of_ble_eq_true rfl) rfl ?_
        refine kr_goto (tgt := 5) dX11_isThrough_49 rfl ?_
        exact hk5 _ _ _ _ _ _ h
      · rw [if_neg c13] at h
        refine kr_iload_n dX11_isThrough_16 rfl ?_
        refine kr_iload dX11_isThrough_17 rfl ?_
        refine kr_ishr dX11_isThrough_19 ?_
        refine kr_iconst (v := 1) dX11_isThrough_20 (by decide) ?_
        refine kr_iand dX11_isThrough_21 ?_
        refine kr_if_eq (tgt := 40) dX11_isThrough_22 rfl (fun c22 => ?_) (fun c22 => ?_)
        · rw [if_pos c22] at h
          refine kr_iconst (v := 1) dX11_isThrough_40 (by decide) ?_
          refine kr_goto (tgt := 45) dX11_isThrough_41 rfl ?_
          refine kr_istore_n (i := 3) (ls' := [some (.int l0), some (.int l1), some (.int l2), some (.int 1), some (.int l4)]) dX11_isThrough_45 rfl (Nat.le_of_ble_eq_true rfl) rfl ?_
          refine kr_iinc (v := l4 + 1) (ls' := [some (.int l0), some (.int l1), some (.int l2), some (.int 1), some (.int (l4 + 1))]) dX11_isThrough_46 rfl rfl (Nat.le_of_ble_eq_true rfl) rfl ?_
          refine kr_goto (tgt := 5) dX11_isThrough_49 rfl ?_
          exact hk5 _ _ _ _ _ _ h
        · rw [if_neg c22] at h
          refine kr_iload dX11_isThrough_25 rfl ?_
          refine kr_iload_n dX11_isThrough_27 rfl ?_
          refine kr_icmp_le (tgt := 40) dX11_isThrough_28 rfl (fun c28 => ?_) (fun c28 => ?_)
          · rw [if_pos c28] at h
            refine kr_iconst (v := 1) dX11_isThrough_40 (by decide) ?_
            refine kr_goto (tgt := 45) dX11_isThrough_41 rfl ?_
            refine kr_istore_n (i := 3) (ls' := [some (.int l0), some (.int l1), some (.int l2), some (.int 1), some (.int l4)]) dX11_isThrough_45 rfl (Nat.le_of_ble_eq_true rfl) rfl ?_
            refine kr_iinc (v := l4 + 1) (ls' := [some (.int l0), some (.int l1), some (.int l2), some (.int 1), some (.int (l4 + 1))]) dX11_isThrough_46 rfl rfl (Nat.le_of_ble_eq_true rfl) rfl ?_
            refine kr_goto (tgt := 5) dX11_isThrough_49 rfl ?_
            exact hk5 _ _ _ _ _ _ h
          · rw [if_neg c28] at h
            refine kr_bipush (v := 6) dX11_isThrough_31 (by decide) ?_
            refine kr_iload dX11_isThrough_33 rfl ?_
            refine kr_isub dX11_isThrough_35 ?_
            refine kr_iload_n dX11_isThrough_36 rfl ?_
            refine kr_icmp_gt (tgt := 44) dX11_isThrough_37 rfl (fun c37 => ?_) (fun c37 => ?_)
            · rw [if_pos c37] at h
              refine kr_iconst (v := 0) dX11_isThrough_44 (by decide) ?_
              refine kr_istore_n (i := 3) (ls' := [some (.int l0), some (.int l1), some (.int l2), some (.int 0), some (.int l4)]) dX11_isThrough_45 rfl (Nat.le_of_ble_eq_true rfl) rfl ?_
              refine kr_iinc (v := l4 + 1) (ls' := [some (.int l0), some (.int l1), some (.int l2), some (.int 0), some (.int (l4 + 1))]) dX11_isThrough_46 rfl rfl (Nat.le_of_ble_eq_true rfl) rfl ?_
              refine kr_goto (tgt := 5) dX11_isThrough_49 rfl ?_
              exact hk5 _ _ _ _ _ _ h
            · rw [if_neg c37] at h
              refine kr_iconst (v := 1) dX11_isThrough_40 (by decide) ?_
              refine kr_goto (tgt := 45) dX11_isThrough_41 rfl ?_
              refine kr_istore_n (i := 3) (ls' := [some (.int l0), some (.int l1), some (.int l2), some (.int 1), some (.int l4)]) dX11_isThrough_45 rfl (Nat.le_of_ble_eq_true rfl) rfl ?_
              refine kr_iinc (v := l4 + 1) (ls' := [some (.int l0), some (.int l1), some (.int l2), some (.int 1), some (.int (l4 + 1))]) dX11_isThrough_46 rfl rfl (Nat.le_of_ble_eq_true rfl) rfl ?_
              refine kr_goto (tgt := 5) dX11_isThrough_49 rfl ?_
              exact hk5 _ _ _ _ _ _ h
set_option maxRecDepth 20000 in
set_option maxHeartbeats 4000000 in
theorem RX11_isThrough {Z : kv_Z} (e : Nat) {N : Nat} {G : kg_G} {l0 : Int32} {l1 : Int32} {l2 : Int32} {res : Int32} (h : fX11_isThrough N l0 l1 l2 = some res) : kv_M Z (e + 0) kMX11_isThrough [.int l0, .int l1, .int l2] (kg_w G) (some (.int res)) (kg_w G) := by
  refine kv_M_of (ls := [some (.int l0), some (.int l1), some (.int l2), none, none]) (by decide) (Nat.le_of_ble_eq_true rfl) rfl ?_
  unfold fX11_isThrough at h
  refine kr_iconst (v := 1) dX11_isThrough_0 (by decide) ?_
  refine kr_istore_n (i := 3) (ls' := [some (.int l0), some (.int l1), some (.int l2), some (.int 1), none]) dX11_isThrough_1 rfl (Nat.le_of_ble_eq_true rfl) rfl ?_
  refine kr_iconst (v := 1) dX11_isThrough_2 (by decide) ?_
  refine kr_istore (ls' := [some (.int l0), some (.int l1), some (.int l2), some (.int 1), some (.int 1)]) dX11_isThrough_3 (Nat.le_of_ble_eq_true rfl) rfl ?_
  exact RX11_isThrough_5 e N _ _ _ _ _ _ h
set_option maxRecDepth 20000 in
set_option maxHeartbeats 4000000 in
theorem RX11_routeOf_195 {Z : kv_Z} (e : Nat) {N : Nat} {G : kg_G} {k71 : Int32 → Int32 → Int32 → Int32 → Int32 → Option (Int32)} {k81 : Int32 → Int32 → Int32 → Int32 → Int32 → Int32 → Option (Int32)} (hk71 : ∀ (l2 : Int32) (l3 : Int32) (l4 : Int32) (l5 : Int32) (l6 : Int32) (res : Int32), k71 l2 l3 l4 l5 l6 = some res → kv_V Z (e + 1) kMX11_routeOf 71 [none, none, some (.int l2), some (.int l3), some (.int l4), some (.int l5), some (.int l6), none, none, none, none] [] (kg_w G) (some (.int res)) (kg_w G)) (hk81 : ∀ (l2 : Int32) (l3 : Int32) (l4 : Int32) (l5 : Int32) (l6 : Int32) (l7 : Int32) (res : Int32), k81 l2 l3 l4 l5 l6 l7 = some res → kv_V Z (e + 1) kMX11_routeOf 81 [none, none, some (.int l2), some (.int l3), some (.int l4), some (.int l5), some (.int l6), some (.int l7), none, none, none] [] (kg_w G) (some (.int res)) (kg_w G)) : ∀ (l2 : Int32) (l3 : Int32) (l4 : Int32) (l5 : Int32) (l6 : Int32) (l7 : Int32) (res : Int32), fX11_routeOf_195 N G k71 k81 l2 l3 l4 l5 l6 l7 = some res → kv_V Z (e + 1) kMX11_routeOf 195 [none, none, some (.int l2), some (.int l3), some (.int l4), some (.int l5), some (.int l6), some (.int l7), none, none, none] [] (kg_w G) (some (.int res)) (kg_w G) := by
  intro l2 l3 l4 l5 l6 l7 res h
  unfold fX11_routeOf_195 at h
  refine kr_iload dX11_routeOf_195 rfl ?_
  refine kr_if_ne (tgt := 211) dX11_routeOf_197 rfl (fun c197 => ?_) (fun c197 => ?_)
  · rw [if_pos c197] at h
    refine kr_iload dX11_routeOf_200 rfl ?_
    refine kr_if_ne (tgt := 211) dX11_routeOf_202 rfl (fun c202 => ?_) (fun c202 => ?_)
    · rw [if_pos c202] at h
      refine kr_iconst (v := 0) dX11_routeOf_205 (by decide) ?_
      refine kr_istore (ls' := [none, none, some (.int l2), some (.int l3), some (.int 0), some (.int l5), some (.int l6), some (.int l7), none, none, none]) dX11_routeOf_206 (Nat.le_of_ble_eq_true rfl) rfl ?_
      refine kr_iconst (v := (-1)) dX11_routeOf_208 (by decide) ?_
      refine kr_istore (ls' := [none, none, some (.int l2), some (.int l3), some (.int 0), some (.int (-1)), some (.int l6), some (.int l7), none, none, none]) dX11_routeOf_209 (Nat.le_of_ble_eq_true rfl) rfl ?_
      refine kr_iinc (v := l7 + 1) (ls' := [none, none, some (.int l2), some (.int l3), some (.int 0), some (.int (-1)), some (.int l6), some (.int (l7 + 1)), none, none, none]) dX11_routeOf_211 rfl rfl (Nat.le_of_ble_eq_true rfl) rfl ?_
      refine kr_goto (tgt := 81) dX11_routeOf_214 rfl ?_
      exact hk81 _ _ _ _ _ _ _ h
    · rw [if_neg c202] at h
      refine kr_iinc (v := l7 + 1) (ls' := [none, none, some (.int l2), some (.int l3), some (.int l4), some (.int l5), some (.int l6), some (.int (l7 + 1)), none, none, none]) dX11_routeOf_211 rfl rfl (Nat.le_of_ble_eq_true rfl) rfl ?_
      refine kr_goto (tgt := 81) dX11_routeOf_214 rfl ?_
      exact hk81 _ _ _ _ _ _ _ h
  · rw [if_neg c197] at h
    refine kr_iinc (v := l7 + 1) (ls' := [none, none, some (.int l2), some (.int l3), some (.int l4), some (.int l5), some (.int l6), some (.int (l7 + 1)), none, none, none]) dX11_routeOf_211 rfl rfl (Nat.le_of_ble_eq_true rfl) rfl ?_
    refine kr_goto (tgt := 81) dX11_routeOf_214 rfl ?_
    exact hk81 _ _ _ _ _ _ _ h
set_option maxRecDepth 20000 in
set_option maxHeartbeats 4000000 in
theorem RX11_routeOf_176 {Z : kv_Z} (e : Nat) {N : Nat} {G : kg_G} {k71 : Int32 → Int32 → Int32 → Int32 → Int32 → Option (Int32)} {k81 : Int32 → Int32 → Int32 → Int32 → Int32 → Int32 → Option (Int32)} (hk71 : ∀ (l2 : Int32) (l3 : Int32) (l4 : Int32) (l5 : Int32) (l6 : Int32) (res : Int32), k71 l2 l3 l4 l5 l6 = some res → kv_V Z (e + 1) kMX11_routeOf 71 [none, none, some (.int l2), some (.int l3), some (.int l4), some (.int l5), some (.int l6), none, none, none, none] [] (kg_w G) (some (.int res)) (kg_w G)) (hk81 : ∀ (l2 : Int32) (l3 : Int32) (l4 : Int32) (l5 : Int32) (l6 : Int32) (l7 : Int32) (res : Int32), k81 l2 l3 l4 l5 l6 l7 = some res → kv_V Z (e + 1) kMX11_routeOf 81 [none, none, some (.int l2), some (.int l3), some (.int l4), some (.int l5), some (.int l6), some (.int l7), none, none, none] [] (kg_w G) (some (.int res)) (kg_w G)) : ∀ (l2 : Int32) (l3 : Int32) (l4 : Int32) (l5 : Int32) (l6 : Int32) (l7 : Int32) (l9 : Int32) (res : Int32), fX11_routeOf_176 N G k71 k81 l2 l3 l4 l5 l6 l7 l9 = some res → kv_V Z (e + 1) kMX11_routeOf 176 [none, none, some (.int l2), some (.int l3), some (.int l4), some (.int l5), some (.int l6), some (.int l7), none, some (.int l9), none] [] (kg_w G) (some (.int res)) (kg_w G) := by
  intro l2 l3 l4 l5 l6 l7 l9 res h
  unfold fX11_routeOf_176 at h
  refine kr_iload dX11_routeOf_176 rfl ?_
  refine kr_if_le (tgt := 195) dX11_routeOf_178 rfl (fun c178 => ?_) (fun c178 => ?_)
  · rw [if_pos c178] at h
    refine kv_loc (ls' := [none, none, some (.int l2), some (.int l3), some (.int l4), some (.int l5), some (.int l6), some (.int l7), none, none, none]) (And.intro rfl (And.intro rfl (And.intro rfl (And.intro rfl (And.intro rfl (And.intro rfl trivial)))))) ?_
    exact RX11_routeOf_195 e hk71 hk81 _ _ _ _ _ _ _ h
  · rw [if_neg c178] at h
    refine kr_iload dX11_routeOf_181 rfl ?_
    refine kr_iload dX11_routeOf_183 rfl ?_
    refine kr_icmp_ge (tgt := 195) dX11_routeOf_185 rfl (fun c185 => ?_) (fun c185 => ?_)
    · rw [if_pos c185] at h
      refine kv_loc (ls' := [none, none, some (.int l2), some (.int l3), some (.int l4), some (.int l5), some (.int l6), some (.int l7), none, none, none]) (And.intro rfl (And.intro rfl (And.intro rfl (And.intro rfl (And.intro rfl (And.intro rfl trivial)))))) ?_
      exact RX11_routeOf_195 e hk71 hk81 _ _ _ _ _ _ _ h
    · rw [if_neg c185] at h
      refine kr_iload dX11_routeOf_188 rfl ?_
      refine kr_istore (ls' := [none, none, some (.int l2), some (.int l3), some (.int l9), some (.int l5), some (.int l6), some (.int l7), none, some (.int l9), none]) dX11_routeOf_190 (Nat.le_of_ble_eq_true rfl) rfl ?_
      refine kr_iconst (v := 0) dX11_routeOf_192 (by decide) ?_
      refine kr_istore (ls' := [none, none, some (.int l2), some (.int l3), some (.int l9), some (.int 0), some (.int l6), some (.int l7), none, some (.int l9), none]) dX11_routeOf_193 (Nat.le_of_ble_eq_true rfl) rfl ?_
      refine kv_loc (ls' := [none, none, some (.int l2), some (.int l3), some (.int l9), some (.int 0), some (.int l6), some (.int l7), none, none, none]) (And.intro rfl (And.intro rfl (And.intro rfl (And.intro rfl (And.intro rfl (And.intro rfl trivial)))))) ?_
      exact RX11_routeOf_195 e hk71 hk81 _ _ _ _ _ _ _ h
set_option maxRecDepth 20000 in
set_option maxHeartbeats 4000000 in
theorem RX11_routeOf_168 {Z : kv_Z} (e : Nat) {N : Nat} {G : kg_G} {k71 : Int32 → Int32 → Int32 → Int32 → Int32 → Option (Int32)} {k81 : Int32 → Int32 → Int32 → Int32 → Int32 → Int32 → Option (Int32)} (hk71 : ∀ (l2 : Int32) (l3 : Int32) (l4 : Int32) (l5 : Int32) (l6 : Int32) (res : Int32), k71 l2 l3 l4 l5 l6 = some res → kv_V Z (e + 1) kMX11_routeOf 71 [none, none, some (.int l2), some (.int l3), some (.int l4), some (.int l5), some (.int l6), none, none, none, none] [] (kg_w G) (some (.int res)) (kg_w G)) (hk81 : ∀ (l2 : Int32) (l3 : Int32) (l4 : Int32) (l5 : Int32) (l6 : Int32) (l7 : Int32) (res : Int32), k81 l2 l3 l4 l5 l6 l7 = some res → kv_V Z (e + 1) kMX11_routeOf 81 [none, none, some (.int l2), some (.int l3), some (.int l4), some (.int l5), some (.int l6), some (.int l7), none, none, none] [] (kg_w G) (some (.int res)) (kg_w G)) : ∀ (l2 : Int32) (l3 : Int32) (l6 : Int32) (l7 : Int32) (l8 : Int32) (l9 : Int32) (l10 : Int32) (res : Int32), fX11_routeOf_168 N G k71 k81 l2 l3 l6 l7 l8 l9 l10 = some res → kv_V Z (e + 1) kMX11_routeOf 168 [none, none, some (.int l2), some (.int l3), none, none, some (.int l6), some (.int l7), some (.int l8), some (.int l9), some (.int l10)] [] (kg_w G) (some (.int res)) (kg_w G) := by
  intro l2 l3 l6 l7 l8 l9 l10 res h
  unfold fX11_routeOf_168 at h
  refine kr_iload dX11_routeOf_168 rfl ?_
  refine kr_istore (ls' := [none, none, some (.int l2), some (.int l3), some (.int l8), none, some (.int l6), some (.int l7), some (.int l8), some (.int l9), some (.int l10)]) dX11_routeOf_170 (Nat.le_of_ble_eq_true rfl) rfl ?_
  refine kr_iload dX11_routeOf_172 rfl ?_
  refine kr_istore (ls' := [none, none, some (.int l2), some (.int l3), some (.int l8), some (.int l10), some (.int l6), some (.int l7), some (.int l8), some (.int l9), some (.int l10)]) dX11_routeOf_174 (Nat.le_of_ble_eq_true rfl) rfl ?_
  refine kv_loc (ls' := [none, none, some (.int l2), some (.int l3), some (.int l8), some (.int l10), some (.int l6), some (.int l7), none, some (.int l9), none]) (And.intro rfl (And.intro rfl (And.intro rfl (And.intro rfl (And.intro rfl (And.intro rfl (And.intro rfl trivial))))))) ?_
  exact RX11_routeOf_176 e hk71 hk81 _ _ _ _ _ _ _ _ h
set_option maxRecDepth 20000 in
set_option maxHeartbeats 4000000 in
theorem RX11_routeOf_147 {Z : kv_Z} (e : Nat) {N : Nat} {G : kg_G} {k71 : Int32 → Int32 → Int32 → Int32 → Int32 → Option (Int32)} {k81 : Int32 → Int32 → Int32 → Int32 → Int32 → Int32 → Option (Int32)} (hk71 : ∀ (l2 : Int32) (l3 : Int32) (l4 : Int32) (l5 : Int32) (l6 : Int32) (res : Int32), k71 l2 l3 l4 l5 l6 = some res → kv_V Z (e + 1) kMX11_routeOf 71 [none, none, some (.int l2), some (.int l3), some (.int l4), some (.int l5), some (.int l6), none, none, none, none] [] (kg_w G) (some (.int res)) (kg_w G)) (hk81 : ∀ (l2 : Int32) (l3 : Int32) (l4 : Int32) (l5 : Int32) (l6 : Int32) (l7 : Int32) (res : Int32), k81 l2 l3 l4 l5 l6 l7 = some res → kv_V Z (e + 1) kMX11_routeOf 81 [none, none, some (.int l2), some (.int l3), some (.int l4), some (.int l5), some (.int l6), some (.int l7), none, none, none] [] (kg_w G) (some (.int res)) (kg_w G)) : ∀ (l2 : Int32) (l3 : Int32) (l4 : Int32) (l5 : Int32) (l6 : Int32) (l7 : Int32) (l8 : Int32) (l9 : Int32) (s0 : Int32) (res : Int32), fX11_routeOf_147 N G k71 k81 l2 l3 l4 l5 l6 l7 l8 l9 s0 = some res → kv_V Z (e + 1) kMX11_routeOf 147 [none, none, some (.int l2), some (.int l3), some (.int l4), some (.int l5), some (.int l6), some (.int l7), some (.int l8), some (.int l9), none] [.int s0] (kg_w G) (some (.int res)) (kg_w G) := by
  intro l2 l3 l4 l5 l6 l7 l8 l9 s0 res h
  unfold fX11_routeOf_147 at h
  refine kr_istore (ls' := [none, none, some (.int l2), some (.int l3), some (.int l4), some (.int l5), some (.int l6), some (.int l7), some (.int l8), some (.int l9), some (.int s0)]) dX11_routeOf_147 (Nat.le_of_ble_eq_true rfl) rfl ?_
  refine kr_iload dX11_routeOf_149 rfl ?_
  refine kr_if_le (tgt := 176) dX11_routeOf_151 rfl (fun c151 => ?_) (fun c151 => ?_)
  · rw [if_pos c151] at h
    refine kv_loc (ls' := [none, none, some (.int l2), some (.int l3), some (.int l4), some (.int l5), some (.int l6), some (.int l7), none, some (.int l9), none]) (And.intro rfl (And.intro rfl (And.intro rfl (And.intro rfl (And.intro rfl (And.intro rfl (And.intro rfl trivial))))))) ?_
    exact RX11_routeOf_176 e hk71 hk81 _ _ _ _ _ _ _ _ h
  · rw [if_neg c151] at h
    refine kr_iload dX11_routeOf_154 rfl ?_
    refine kr_iload dX11_routeOf_156 rfl ?_
    refine kr_icmp_lt (tgt := 168) dX11_routeOf_158 rfl (fun c158 => ?_) (fun c158 => ?_)
    · rw [if_pos c158] at h
      refine kv_loc (ls' := [none, none, some (.int l2), some (.int l3), none, none, some (.int l6), some (.int l7), some (.int l8), some (.int l9), some (.int s0)]) (And.intro rfl (And.intro rfl (And.intro rfl (And.intro rfl (And.intro rfl (And.intro rfl (And.intro rfl trivial))))))) ?_
      exact RX11_routeOf_168 e hk71 hk81 _ _ _ _ _ _ _ _ h
    · rw [if_neg c158] at h
      refine kr_iload dX11_routeOf_161 rfl ?_
      refine kr_iload dX11_routeOf_163 rfl ?_
      refine kr_icmp_ne (tgt := 176) dX11_routeOf_165 rfl (fun c165 => ?_) (fun c165 => ?_)
      · rw [if_pos c165] at h
        refine kv_loc (ls' := [none, none, some (.int l2), some (.int l3), none, none, some (.int l6), some (.int l7), some (.int l8), some (.int l9), some (.int s0)]) (And.intro rfl (And.intro rfl (And.intro rfl (And.intro rfl (And.intro rfl (And.intro rfl (And.intro rfl trivial))))))) ?_
        exact RX11_routeOf_168 e hk71 hk81 _ _ _ _ _ _ _ _ h
      · rw [if_neg c165] at h
        refine kv_loc (ls' := [none, none, some (.int l2), some (.int l3), some (.int l4), some (.int l5), some (.int l6), some (.int l7), none, some (.int l9), none]) (And.intro rfl (And.intro rfl (And.intro rfl (And.intro rfl (And.intro rfl (And.intro rfl (And.intro rfl trivial))))))) ?_
        exact RX11_routeOf_176 e hk71 hk81 _ _ _ _ _ _ _ _ h
set_option maxRecDepth 20000 in
set_option maxHeartbeats 4000000 in
theorem RX11_routeOf_135 {Z : kv_Z} (e : Nat) {N : Nat} {G : kg_G} {k71 : Int32 → Int32 → Int32 → Int32 → Int32 → Option (Int32)} {k81 : Int32 → Int32 → Int32 → Int32 → Int32 → Int32 → Option (Int32)} (hk71 : ∀ (l2 : Int32) (l3 : Int32) (l4 : Int32) (l5 : Int32) (l6 : Int32) (res : Int32), k71 l2 l3 l4 l5 l6 = some res → kv_V Z (e + 1) kMX11_routeOf 71 [none, none, some (.int l2), some (.int l3), some (.int l4), some (.int l5), some (.int l6), none, none, none, none] [] (kg_w G) (some (.int res)) (kg_w G)) (hk81 : ∀ (l2 : Int32) (l3 : Int32) (l4 : Int32) (l5 : Int32) (l6 : Int32) (l7 : Int32) (res : Int32), k81 l2 l3 l4 l5 l6 l7 = some res → kv_V Z (e + 1) kMX11_routeOf 81 [none, none, some (.int l2), some (.int l3), some (.int l4), some (.int l5), some (.int l6), some (.int l7), none, none, none] [] (kg_w G) (some (.int res)) (kg_w G)) : ∀ (l2 : Int32) (l3 : Int32) (l4 : Int32) (l5 : Int32) (l6 : Int32) (l7 : Int32) (l8 : Int32) (s0 : Int32) (res : Int32), fX11_routeOf_135 N G k71 k81 l2 l3 l4 l5 l6 l7 l8 s0 = some res → kv_V Z (e + 1) kMX11_routeOf 135 [none, none, some (.int l2), some (.int l3), some (.int l4), some (.int l5), some (.int l6), some (.int l7), some (.int l8), none, none] [.int s0] (kg_w G) (some (.int res)) (kg_w G) := by
  intro l2 l3 l4 l5 l6 l7 l8 s0 res h
  unfold fX11_routeOf_135 at h
  refine kr_istore (ls' := [none, none, some (.int l2), some (.int l3), some (.int l4), some (.int l5), some (.int l6), some (.int l7), some (.int l8), some (.int s0), none]) dX11_routeOf_135 (Nat.le_of_ble_eq_true rfl) rfl ?_
  refine kr_iload dX11_routeOf_137 rfl ?_
  refine kr_if_ne (tgt := 146) dX11_routeOf_139 rfl (fun c139 => ?_) (fun c139 => ?_)
  · rw [if_pos c139] at h
    refine kr_iconst (v := (-1)) dX11_routeOf_142 (by decide) ?_
    refine kr_goto (tgt := 147) dX11_routeOf_143 rfl ?_
    exact RX11_routeOf_147 e hk71 hk81 _ _ _ _ _ _ _ _ _ _ h
  · rw [if_neg c139] at h
    refine kr_iconst (v := 1) dX11_routeOf_146 (by decide) ?_
    exact RX11_routeOf_147 e hk71 hk81 _ _ _ _ _ _ _ _ _ _ h
set_option maxRecDepth 20000 in
set_option maxHeartbeats 4000000 in
theorem RX11_routeOf_116 {Z : kv_Z} (e : Nat) {N : Nat} {G : kg_G} {k71 : Int32 → Int32 → Int32 → Int32 → Int32 → Option (Int32)} {k81 : Int32 → Int32 → Int32 → Int32 → Int32 → Int32 → Option (Int32)} (hk71 : ∀ (l2 : Int32) (l3 : Int32) (l4 : Int32) (l5 : Int32) (l6 : Int32) (res : Int32), k71 l2 l3 l4 l5 l6 = some res → kv_V Z (e + 1) kMX11_routeOf 71 [none, none, some (.int l2), some (.int l3), some (.int l4), some (.int l5), some (.int l6), none, none, none, none] [] (kg_w G) (some (.int res)) (kg_w G)) (hk81 : ∀ (l2 : Int32) (l3 : Int32) (l4 : Int32) (l5 : Int32) (l6 : Int32) (l7 : Int32) (res : Int32), k81 l2 l3 l4 l5 l6 l7 = some res → kv_V Z (e + 1) kMX11_routeOf 81 [none, none, some (.int l2), some (.int l3), some (.int l4), some (.int l5), some (.int l6), some (.int l7), none, none, none] [] (kg_w G) (some (.int res)) (kg_w G)) : ∀ (l2 : Int32) (l3 : Int32) (l4 : Int32) (l5 : Int32) (l6 : Int32) (l7 : Int32) (s0 : Int32) (res : Int32), fX11_routeOf_116 N G k71 k81 l2 l3 l4 l5 l6 l7 s0 = some res → kv_V Z (e + 1) kMX11_routeOf 116 [none, none, some (.int l2), some (.int l3), some (.int l4), some (.int l5), some (.int l6), some (.int l7), none, none, none] [.int s0] (kg_w G) (some (.int res)) (kg_w G) := by
  intro l2 l3 l4 l5 l6 l7 s0 res h
  unfold fX11_routeOf_116 at h
  refine kr_istore (ls' := [none, none, some (.int l2), some (.int l3), some (.int l4), some (.int l5), some (.int l6), some (.int l7), some (.int s0), none, none]) dX11_routeOf_116 (Nat.le_of_ble_eq_true rfl) rfl ?_
  refine kr_iload dX11_routeOf_118 rfl ?_
  refine kr_if_ne (tgt := 128) dX11_routeOf_120 rfl (fun c120 => ?_) (fun c120 => ?_)
  · rw [if_pos c120] at h
    refine kr_iload dX11_routeOf_123 rfl ?_
    refine kr_goto (tgt := 135) dX11_routeOf_125 rfl ?_
    exact RX11_routeOf_135 e hk71 hk81 _ _ _ _ _ _ _ _ _ h
  · rw [if_neg c120] at h
    refine kr_iconst (v := 2) dX11_routeOf_128 (by decide) ?_
    refine kr_iload dX11_routeOf_129 rfl ?_
    refine kr_imul dX11_routeOf_131 ?_
    refine kr_iload dX11_routeOf_132 rfl ?_
    refine kr_iadd dX11_routeOf_134 ?_
    exact RX11_routeOf_135 e hk71 hk81 _ _ _ _ _ _ _ _ _ h
set_option maxRecDepth 20000 in
set_option maxHeartbeats 4000000 in
theorem RX11_routeOf_81 {Z : kv_Z} (e : Nat) {N : Nat} {G : kg_G} {k71 : Int32 → Int32 → Int32 → Int32 → Int32 → Option (Int32)} (hk71 : ∀ (l2 : Int32) (l3 : Int32) (l4 : Int32) (l5 : Int32) (l6 : Int32) (res : Int32), k71 l2 l3 l4 l5 l6 = some res → kv_V Z (e + 1) kMX11_routeOf 71 [none, none, some (.int l2), some (.int l3), some (.int l4), some (.int l5), some (.int l6), none, none, none, none] [] (kg_w G) (some (.int res)) (kg_w G)) : ∀ (n : Nat) (l2 : Int32) (l3 : Int32) (l4 : Int32) (l5 : Int32) (l6 : Int32) (l7 : Int32) (res : Int32), fX11_routeOf_81 N G k71 n l2 l3 l4 l5 l6 l7 = some res → kv_V Z (e + 1) kMX11_routeOf 81 [none, none, some (.int l2), some (.int l3), some (.int l4), some (.int l5), some (.int l6), some (.int l7), none, none, none] [] (kg_w G) (some (.int res)) (kg_w G) := by
  intro n
  induction n with
  | zero => intro l2 l3 l4 l5 l6 l7 res h; exact absurd h (by intro z; cases z)
  | succ n ih =>
    intro l2 l3 l4 l5 l6 l7 res h
    have hk81 := ih
    rw [fX11_routeOf_81] at h
    refine kr_iload dX11_routeOf_81 rfl ?_
    refine kr_bipush (v := 6) dX11_routeOf_83 (by decide) ?_
    refine kr_icmp_ge (tgt := 217) dX11_routeOf_85 rfl (fun c85 => ?_) (fun c85 => ?_)
    · rw [if_pos c85] at h
      refine kr_iinc (v := l6 + 1) (ls' := [none, none, some (.int l2), some (.int l3), some (.int l4), some (.int l5), some (.int (l6 + 1)), some (.int l7), none, none, none]) dX11_routeOf_217 rfl rfl (Nat.le_of_ble_eq_true rfl) rfl ?_
      refine kr_goto (tgt := 71) dX11_routeOf_220 rfl ?_
      refine kv_loc (ls' := [none, none, some (.int l2), some (.int l3), some (.int l4), some (.int l5), some (.int (l6 + 1)), none, none, none, none]) (And.intro rfl (And.intro rfl (And.intro rfl (And.intro rfl (And.intro rfl trivial))))) ?_
      exact hk71 _ _ _ _ _ _ h
    · rw [if_neg c85] at h
      refine kr_iload_n dX11_routeOf_88 rfl ?_
      refine kr_iload dX11_routeOf_89 rfl ?_
      refine kr_iload dX11_routeOf_91 rfl ?_
      obtain ⟨v1, hv1, h⟩ := Option.bind_eq_some_iff.mp h
      refine kr_callSi (M' := kMX11_isThrough) (As := [.int l3, .int l6, .int l7]) (st := []) (RX11_isThrough (e + 0) hv1) koX11_isThrough rfl kw6_16 kw6_17 rfl (Nat.le_of_ble_eq_true rfl) dX11_routeOf_93 ?_
      refine kr_if_eq (tgt := 211) dX11_routeOf_96 rfl (fun c96 => ?_) (fun c96 => ?_)
      · rw [if_pos c96] at h
        refine kr_iinc (v := l7 + 1) (ls' := [none, none, some (.int l2), some (.int l3), some (.int l4), some (.int l5), some (.int l6), some (.int (l7 + 1)), none, none, none]) dX11_routeOf_211 rfl rfl (Nat.le_of_ble_eq_true rfl) rfl ?_
        refine kr_goto (tgt := 81) dX11_routeOf_214 rfl ?_
        exact hk81 _ _ _ _ _ _ _ h
      · rw [if_neg c96] at h
        refine kr_iload dX11_routeOf_99 rfl ?_
        refine kr_if_ne (tgt := 109) dX11_routeOf_101 rfl (fun c101 => ?_) (fun c101 => ?_)
        · rw [if_pos c101] at h
          refine kr_iload dX11_routeOf_104 rfl ?_
          refine kr_goto (tgt := 116) dX11_routeOf_106 rfl ?_
          exact RX11_routeOf_116 e hk71 hk81 _ _ _ _ _ _ _ _ h
        · rw [if_neg c101] at h
          refine kr_iconst (v := 2) dX11_routeOf_109 (by decide) ?_
          refine kr_iload dX11_routeOf_110 rfl ?_
          refine kr_imul dX11_routeOf_112 ?_
          refine kr_iload dX11_routeOf_113 rfl ?_
          refine kr_iadd dX11_routeOf_115 ?_
          exact RX11_routeOf_116 e hk71 hk81 _ _ _ _ _ _ _ _ h
set_option maxRecDepth 20000 in
set_option maxHeartbeats 4000000 in
theorem RX11_routeOf_71 {Z : kv_Z} (e : Nat) {N : Nat} {G : kg_G} : ∀ (n : Nat) (l2 : Int32) (l3 : Int32) (l4 : Int32) (l5 : Int32) (l6 : Int32) (res : Int32), fX11_routeOf_71 N G n l2 l3 l4 l5 l6 = some res → kv_V Z (e + 1) kMX11_routeOf 71 [none, none, some (.int l2), some (.int l3), some (.int l4), some (.int l5), some (.int l6), none, none, none, none] [] (kg_w G) (some (.int res)) (kg_w G) := by
  intro n
  induction n with
  | zero => intro l2 l3 l4 l5 l6 res h; exact absurd h (by intro z; cases z)
  | succ n ih =>
    intro l2 l3 l4 l5 l6 res h
    have hk71 := ih
    rw [fX11_routeOf_71] at h
    refine kr_iload dX11_routeOf_71 rfl ?_
    refine kr_bipush (v := 6) dX11_routeOf_73 (by decide) ?_
    refine kr_icmp_ge (tgt := 223) dX11_routeOf_75 rfl (fun c75 => ?_) (fun c75 => ?_)
    · rw [if_pos c75] at h
      refine kr_iload_n dX11_routeOf_223 rfl ?_
      refine kr_if_ne (tgt := 232) dX11_routeOf_224 rfl (fun c224 => ?_) (fun c224 => ?_)
      · rw [if_pos c224] at h
        refine kr_iload dX11_routeOf_227 rfl ?_
        refine kr_goto (tgt := 234) dX11_routeOf_229 rfl ?_
        cases h
        exact kr_iret rfl dX11_routeOf_234
      · rw [if_neg c224] at h
        refine kr_iload dX11_routeOf_232 rfl ?_
        cases h
        exact kr_iret rfl dX11_routeOf_234
    · rw [if_neg c75] at h
      refine kr_iconst (v := 0) dX11_routeOf_78 (by decide) ?_
      refine kr_istore (ls' := [none, none, some (.int l2), some (.int l3), some (.int l4), some (.int l5), some (.int l6), some (.int 0), none, none, none]) dX11_routeOf_79 (Nat.le_of_ble_eq_true rfl) rfl ?_
      exact RX11_routeOf_81 e hk71 N _ _ _ _ _ _ _ h
set_option maxRecDepth 20000 in
set_option maxHeartbeats 4000000 in
theorem RX11_routeOf_5 {Z : kv_Z} (e : Nat) {N : Nat} {G : kg_G} : ∀ (n : Nat) (l1 : Int32) (l2 : Int32) (l3 : Int32) (l4 : Int32) (res : Int32), fX11_routeOf_5 N G n l1 l2 l3 l4 = some res → kv_V Z (e + 1) kMX11_routeOf 5 [some (.ref 28), some (.int l1), some (.int l2), some (.int l3), some (.int l4), none, none, none, none, none, none] [] (kg_w G) (some (.int res)) (kg_w G) := by
  intro n
  induction n with
  | zero => intro l1 l2 l3 l4 res h; exact absurd h (by intro z; cases z)
  | succ n ih =>
    intro l1 l2 l3 l4 res h
    have hk5 := ih
    rw [fX11_routeOf_5] at h
    refine kr_iload dX11_routeOf_5 rfl ?_
    refine kr_aload_n dX11_routeOf_7 rfl ?_
    refine kx_g28_4 (G.1 28 4) rfl kw4_141 dX11_routeOf_8 ?_
    refine kr_icmp_ge (tgt := 61) dX11_routeOf_11 rfl (fun c11 => ?_) (fun c11 => ?_)
    · rw [if_pos c11] at h
      refine kr_bipush (v := 99) dX11_routeOf_61 (by decide) ?_
      refine kr_istore (ls' := [some (.ref 28), some (.int l1), some (.int l2), some (.int l3), some (.int 99), none, none, none, none, none, none]) dX11_routeOf_63 (Nat.le_of_ble_eq_true rfl) rfl ?_
      refine kr_iconst (v := (-1)) dX11_routeOf_65 (by decide) ?_
      refine kr_istore (ls' := [some (.ref 28), some (.int l1), some (.int l2), some (.int l3), some (.int 99), some (.int (-1)), none, none, none, none, none]) dX11_routeOf_66 (Nat.le_of_ble_eq_true rfl) rfl ?_
      refine kr_iconst (v := 0) dX11_routeOf_68 (by decide) ?_
      refine kr_istore (ls' := [some (.ref 28), some (.int l1), some (.int l2), some (.int l3), some (.int 99), some (.int (-1)), some (.int 0), none, none, none, none]) dX11_routeOf_69 (Nat.le_of_ble_eq_true rfl) rfl ?_
      refine kv_loc (ls' := [none, none, some (.int l2), some (.int l3), some (.int 99), some (.int (-1)), some (.int 0), none, none, none, none]) (And.intro rfl (And.intro rfl (And.intro rfl (And.intro rfl (And.intro rfl trivial))))) ?_
      exact RX11_routeOf_71 e N _ _ _ _ _ _ h
    · rw [if_neg c11] at h
      refine kr_iload_n dX11_routeOf_14 rfl ?_
      refine kr_iload_n dX11_routeOf_15 rfl ?_
      refine kr_iload dX11_routeOf_16 rfl ?_
      refine kr_ishr dX11_routeOf_18 ?_
      refine kr_iconst (v := 1) dX11_routeOf_19 (by decide) ?_
      refine kr_iand dX11_routeOf_20 ?_
      refine kr_iconst (v := 1) dX11_routeOf_21 (by decide) ?_
      refine kr_icmp_ne (tgt := 52) dX11_routeOf_22 rfl (fun c22 => ?_) (fun c22 => ?_)
      · rw [if_pos c22] at h
        refine kr_iconst (v := 1) dX11_routeOf_25 (by decide) ?_
        refine kr_aload_n dX11_routeOf_26 rfl ?_
        refine kx_g28_13 kw4_150 dX11_routeOf_27 ?_
        refine kr_iconst (v := 3) dX11_routeOf_30 (by decide) ?_
        refine kr_iload dX11_routeOf_31 rfl ?_
        refine kr_imul dX11_routeOf_33 ?_
        refine kr_iconst (v := 1) dX11_routeOf_34 (by decide) ?_
        refine kr_iadd dX11_routeOf_35 ?_
        obtain ⟨v1, hv1, h⟩ := Option.bind_eq_some_iff.mp h
        refine kx_a31 (G.2.1 31) rfl hv1 dX11_routeOf_36 ?_
        refine kr_aload_n dX11_routeOf_37 rfl ?_
        refine kx_g28_5 (G.1 28 5) rfl kw4_142 dX11_routeOf_38 ?_
        refine kr_isub dX11_routeOf_41 ?_
        refine kr_bipush (v := 6) dX11_routeOf_42 (by decide) ?_
        refine kr_iadd dX11_routeOf_44 ?_
        refine kr_bipush (v := 6) dX11_routeOf_45 (by decide) ?_
        refine kr_irem dX11_routeOf_47 (by decide) ?_
        refine kr_ishl dX11_routeOf_48 ?_
        refine kr_goto (tgt := 53) dX11_routeOf_49 rfl ?_
        refine kr_ior dX11_routeOf_53 ?_
        refine kr_istore_n (i := 3) (ls' := [some (.ref 28), some (.int l1), some (.int l2), some (.int (l3 ||| (1 <<< ((((v1 - (G.1 28 5)) + 6) - ((v1 - (G.1 28 5)) + 6) / 6 * 6) &&& 31)))), some (.int l4), none, none, none, none, none, none]) dX11_routeOf_54 rfl (Nat.le_of_ble_eq_true rfl) rfl ?_
        refine kr_iinc (v := l4 + 1) (ls' := [some (.ref 28), some (.int l1), some (.int l2), some (.int (l3 ||| (1 <<< ((((v1 - (G.1 28 5)) + 6) - ((v1 - (G.1 28 5)) + 6) / 6 * 6) &&& 31)))), some (.int (l4 + 1)), none, none, none, none, none, none]) dX11_routeOf_55 rfl rfl (Nat.le_of_ble_eq_true rfl) rfl ?_
        refine kr_goto (tgt := 5) dX11_routeOf_58 rfl ?_
        exact hk5 _ _ _ _ _ h
      · rw [if_neg c22] at h
        refine kr_iconst (v := 0) dX11_routeOf_52 (by decide) ?_
        refine kr_ior dX11_routeOf_53 ?_
        refine kr_istore_n (i := 3) (ls' := [some (.ref 28), some (.int l1), some (.int l2), some (.int (l3 ||| 0)), some (.int l4), none, none, none, none, none, none]) dX11_routeOf_54 rfl (Nat.le_of_ble_eq_true rfl) rfl ?_
        refine kr_iinc (v := l4 + 1) (ls' := [some (.ref 28), some (.int l1), some (.int l2), some (.int (l3 ||| 0)), some (.int (l4 + 1)), none, none, none, none, none, none]) dX11_routeOf_55 rfl rfl (Nat.le_of_ble_eq_true rfl) rfl ?_
        refine kr_goto (tgt := 5) dX11_routeOf_58 rfl ?_
        exact hk5 _ _ _ _ _ h
set_option maxRecDepth 20000 in
set_option maxHeartbeats 4000000 in
theorem RX11_routeOf {Z : kv_Z} (e : Nat) {N : Nat} {G : kg_G} {l1 : Int32} {l2 : Int32} {res : Int32} (h : fX11_routeOf N G l1 l2 = some res) : kv_M Z (e + 1) kMX11_routeOf [.ref 28, .int l1, .int l2] (kg_w G) (some (.int res)) (kg_w G) := by
  refine kv_M_of (ls := [some (.ref 28), some (.int l1), some (.int l2), none, none, none, none, none, none, none, none]) (by decide) (Nat.le_of_ble_eq_true rfl) rfl ?_
  unfold fX11_routeOf at h
  refine kr_iconst (v := 0) dX11_routeOf_0 (by decide) ?_
  refine kr_istore_n (i := 3) (ls' := [some (.ref 28), some (.int l1), some (.int l2), some (.int 0), none, none, none, none, none, none, none]) dX11_routeOf_1 rfl (Nat.le_of_ble_eq_true rfl) rfl ?_
  refine kr_iconst (v := 0) dX11_routeOf_2 (by decide) ?_
  refine kr_istore (ls' := [some (.ref 28), some (.int l1), some (.int l2), some (.int 0), some (.int 0), none, none, none, none, none, none]) dX11_routeOf_3 (Nat.le_of_ble_eq_true rfl) rfl ?_
  exact RX11_routeOf_5 e N _ _ _ _ _ h
set_option maxRecDepth 20000 in
set_option maxHeartbeats 4000000 in
theorem RX11_route {Z : kv_Z} (e : Nat) {N : Nat} {G : kg_G} {l1 : Int32} {l2 : Int32} {res : Int32} (h : fX11_route N G l1 l2 = some res) : kv_M Z (e + 2) kMX11_route [.ref 28, .int l1, .int l2] (kg_w G) (some (.int res)) (kg_w G) := by
  refine kv_M_of (ls := [some (.ref 28), some (.int l1), some (.int l2)]) (by decide) (Nat.le_of_ble_eq_true rfl) rfl ?_
  unfold fX11_route at h
  refine kr_iload_n dX11_route_0 rfl ?_
  refine kr_iconst (v := 1) dX11_route_1 (by decide) ?_
  refine kr_icmp_lt (tgt := 39) dX11_route_2 rfl (fun c2 => ?_) (fun c2 => ?_)
  · rw [if_pos c2] at h
    refine kr_bipush (v := (-102)) dX11_route_39 (by decide) ?_
    cases h
    exact kr_iret rfl dX11_route_41
  · rw [if_neg c2] at h
    refine kr_aload_n dX11_route_5 rfl ?_
    refine kr_callVi (M' := kMX11_lacks) (a := 28) (As := []) (st := []) (RX11_lacks (e + 1) rfl) koX11_lacks rfl rfl rfl kw5_169 kw5_171 kws_39 rfl (Nat.le_of_ble_eq_true rfl) dX11_route_6 ?_
    refine kr_if_ne (tgt := 39) dX11_route_9 rfl (fun c9 => ?_) (fun c9 => ?_)
    · rw [if_pos c9] at h
      refine kr_iload_n dX11_route_12 rfl ?_
      refine kr_bipush (v := 31) dX11_route_13 (by decide) ?_
      refine kr_icmp_gt (tgt := 39) dX11_route_15 rfl (fun c15 => ?_) (fun c15 => ?_)
      · rw [if_pos c15] at h
        refine kr_bipush (v := (-102)) dX11_route_39 (by decide) ?_
        cases h
        exact kr_iret rfl dX11_route_41
      · rw [if_neg c15] at h
        refine kr_iload_n dX11_route_18 rfl ?_
        refine kr_aload_n dX11_route_19 rfl ?_
        obtain ⟨v2, hv2, h⟩ := Option.bind_eq_some_iff.mp h
        refine kr_callVi (M' := kMX11_keptSet) (a := 28) (As := []) (st := [.int l1]) (RX11_keptSet (e + 0) hv2) koX11_keptSet rfl rfl rfl kw5_185 kw5_187 kws_41 rfl (Nat.le_of_ble_eq_true rfl) dX11_route_20 ?_
        refine kr_iconst (v := (-1)) dX11_route_23 (by decide) ?_
        refine kr_ixor dX11_route_24 ?_
        refine kr_iand dX11_route_25 ?_
        refine kr_if_ne (tgt := 39) dX11_route_26 rfl (fun c26 => ?_) (fun c26 => ?_)
        · rw [if_pos c26] at h
          refine kr_iload_n dX11_route_29 rfl ?_
          refine kr_i2l dX11_route_30 ?_
          refine kr_lconst (v := 0) dX11_route_31 (by decide) ?_
          refine kr_lconst (v := 1) dX11_route_32 (by decide) ?_
          refine kr_callSi (M' := kMX11_in) (As := [.long l2.toInt64, .long 0, .long 1]) (st := []) (RX11_in (e + 1) rfl) koX11_in rfl kw5_29 kw5_30 rfl (Nat.le_of_ble_eq_true rfl) dX11_route_33 ?_
          refine kr_if_ne (tgt := 42) dX11_route_36 rfl (fun c36 => ?_) (fun c36 => ?_)
          · rw [if_pos c36] at h
            refine kr_bipush (v := (-102)) dX11_route_39 (by decide) ?_
            cases h
            exact kr_iret rfl dX11_route_41
          · rw [if_neg c36] at h
            refine kr_aload_n dX11_route_42 rfl ?_
            refine kr_iload_n dX11_route_43 rfl ?_
            refine kr_iload_n dX11_route_44 rfl ?_
            obtain ⟨v4, hv4, h⟩ := Option.bind_eq_some_iff.mp h
            refine kr_callVi (M' := kMX11_routeOf) (a := 28) (As := [.int l1, .int l2]) (st := []) (RX11_routeOf (e + 0) hv4) koX11_routeOf rfl rfl rfl kw6_12 kw6_14 kws_49 rfl (Nat.le_of_ble_eq_true rfl) dX11_route_45 ?_
            cases h
            exact kr_iret rfl dX11_route_48
        · rw [if_neg c26] at h
          refine kr_bipush (v := (-102)) dX11_route_39 (by decide) ?_
          cases h
          exact kr_iret rfl dX11_route_41
    · rw [if_neg c9] at h
      refine kr_bipush (v := (-102)) dX11_route_39 (by decide) ?_
      cases h
      exact kr_iret rfl dX11_route_41
set_option maxRecDepth 20000 in
set_option maxHeartbeats 4000000 in
theorem RX11_see_78 {Z : kv_Z} (e : Nat) : ∀ (G : kg_G) (s1 : Int32) (s2 : Int32) (res : Int32 × kg_G), fX11_see_78 G s1 s2 = some res → kv_V Z (e + 2) kMX11_see 78 [some (.ref 28), none, none, none] [.int s2, .int s1, .ref 38] (kg_w G) (some (.int res.1)) (kg_w res.2) := by
  intro G s1 s2 res h
  unfold fX11_see_78 at h
  obtain ⟨v1, hv1, h⟩ := Option.bind_eq_some_iff.mp h
  refine kx_s38 (G.2.1 38) rfl hv1 dX11_see_78 ?_
  refine kr_aload_n dX11_see_79 rfl ?_
  refine kr_dup dX11_see_80 rfl ?_
  refine kx_g28_23 (G.1 28 23) rfl kw4_160 dX11_see_81 ?_
  refine kr_iconst (v := 1) dX11_see_84 (by decide) ?_
  refine kr_iadd dX11_see_85 ?_
  refine kx_p28_23 kw4_160 dX11_see_86 ?_
  refine kr_aload_n dX11_see_89 rfl ?_
  refine kx_g28_23 ((G.1 28 23) + 1) rfl kw4_160 dX11_see_90 ?_
  cases h
  exact kr_iret rfl dX11_see_93
set_option maxRecDepth 20000 in
set_option maxHeartbeats 4000000 in
theorem RX11_see {Z : kv_Z} (e : Nat) {G : kg_G} {l1 : Int32} {l2 : Int32} {l3 : Int32} {res : Int32 × kg_G} (h : fX11_see G l1 l2 l3 = some res) : kv_M Z (e + 2) kMX11_see [.ref 28, .int l1, .int l2, .int l3] (kg_w G) (some (.int res.1)) (kg_w res.2) := by
  refine kv_M_of (ls := [some (.ref 28), some (.int l1), some (.int l2), some (.int l3)]) (by decide) (Nat.le_of_ble_eq_true rfl) rfl ?_
  unfold fX11_see at h
  refine kr_aload_n dX11_see_0 rfl ?_
  refine kr_iload_n dX11_see_1 rfl ?_
  obtain ⟨v1, hv1, h⟩ := Option.bind_eq_some_iff.mp h
  refine kr_callVi (M' := kMX11_isPerson) (a := 28) (As := [.int l1]) (st := []) (RX11_isPerson (e + 0) hv1) koX11_isPerson rfl rfl rfl kw5_129 kw5_131 kws_33 rfl (Nat.le_of_ble_eq_true rfl) dX11_see_2 ?_
  refine kr_if_eq (tgt := 16) dX11_see_5 rfl (fun c5 => ?_) (fun c5 => ?_)
  · rw [if_pos c5] at h
    refine kr_bipush (v := (-101)) dX11_see_16 (by decide) ?_
    cases h
    exact kr_iret rfl dX11_see_18
  · rw [if_neg c5] at h
    refine kr_aload_n dX11_see_8 rfl ?_
    refine kr_iload_n dX11_see_9 rfl ?_
    obtain ⟨v2, hv2, h⟩ := Option.bind_eq_some_iff.mp h
    refine kr_callVi (M' := kMX11_isTrick) (a := 28) (As := [.int l2]) (st := []) (RX11_isTrick (e + 0) hv2) koX11_isTrick rfl rfl rfl kw5_69 kw5_71 kws_21 rfl (Nat.le_of_ble_eq_true rfl) dX11_see_10 ?_
    refine kr_if_ne (tgt := 19) dX11_see_13 rfl (fun c13 => ?_) (fun c13 => ?_)
    · rw [if_pos c13] at h
      refine kr_bipush (v := (-101)) dX11_see_16 (by decide) ?_
      cases h
      exact kr_iret rfl dX11_see_18
    · rw [if_neg c13] at h
      refine kr_aload_n dX11_see_19 rfl ?_
      refine kx_g28_23 (G.1 28 23) rfl kw4_160 dX11_see_20 ?_
      refine kr_bipush (v := 8) dX11_see_23 (by decide) ?_
      refine kr_icmp_ne (tgt := 31) dX11_see_25 rfl (fun c25 => ?_) (fun c25 => ?_)
      · rw [if_pos c25] at h
        refine kr_bipush (v := (-104)) dX11_see_28 (by decide) ?_
        cases h
        exact kr_iret rfl dX11_see_30
      · rw [if_neg c25] at h
        refine kr_aload_n dX11_see_31 rfl ?_
        refine kx_g28_24 kw4_161 dX11_see_32 ?_
        refine kr_iconst (v := 3) dX11_see_35 (by decide) ?_
        refine kr_aload_n dX11_see_36 rfl ?_
        refine kx_g28_23 (G.1 28 23) rfl kw4_160 dX11_see_37 ?_
        refine kr_imul dX11_see_40 ?_
        refine kr_iload_n dX11_see_41 rfl ?_
        obtain ⟨v3, hv3, h⟩ := Option.bind_eq_some_iff.mp h
        refine kx_s38 (G.2.1 38) rfl hv3 dX11_see_42 ?_
        refine kr_aload_n dX11_see_43 rfl ?_
        refine kx_g28_24 kw4_161 dX11_see_44 ?_
        refine kr_iconst (v := 3) dX11_see_47 (by decide) ?_
        refine kr_aload_n dX11_see_48 rfl ?_
        refine kx_g28_23 (G.1 28 23) rfl kw4_160 dX11_see_49 ?_
        refine kr_imul dX11_see_52 ?_
        refine kr_iconst (v := 1) dX11_see_53 (by decide) ?_
        refine kr_iadd dX11_see_54 ?_
        refine kr_iload_n dX11_see_55 rfl ?_
        obtain ⟨v4, hv4, h⟩ := Option.bind_eq_some_iff.mp h
        refine kx_s38 v3 rfl hv4 dX11_see_56 ?_
        refine kr_aload_n dX11_see_57 rfl ?_
        refine kx_g28_24 kw4_161 dX11_see_58 ?_
        refine kr_iconst (v := 3) dX11_see_61 (by decide) ?_
        refine kr_aload_n dX11_see_62 rfl ?_
        refine kx_g28_23 (G.1 28 23) rfl kw4_160 dX11_see_63 ?_
        refine kr_imul dX11_see_66 ?_
        refine kr_iconst (v := 2) dX11_see_67 (by decide) ?_
        refine kr_iadd dX11_see_68 ?_
        refine kr_iload_n dX11_see_69 rfl ?_
        refine kr_if_eq (tgt := 77) dX11_see_70 rfl (fun c70 => ?_) (fun c70 => ?_)
        · rw [if_pos c70] at h
          refine kr_iconst (v := 0) dX11_see_77 (by decide) ?_
          refine kv_loc (ls' := [some (.ref 28), none, none, none]) (And.intro rfl trivial) ?_
          exact RX11_see_78 e _ _ _ _ h
        · rw [if_neg c70] at h
          refine kr_iconst (v := 1) dX11_see_73 (by decide) ?_
          refine kr_goto (tgt := 78) dX11_see_74 rfl ?_
          refine kv_loc (ls' := [some (.ref 28), none, none, none]) (And.intro rfl trivial) ?_
          exact RX11_see_78 e _ _ _ _ h
set_option maxRecDepth 20000 in
set_option maxHeartbeats 4000000 in
theorem RX11_forget {Z : kv_Z} (e : Nat) {G : kg_G} {res : Int32 × kg_G} (h : fX11_forget G = res) : kv_M Z (e + 0) kMX11_forget [.ref 28] (kg_w G) (some (.int res.1)) (kg_w res.2) := by
  refine kv_M_of (ls := [some (.ref 28), none]) (by decide) (Nat.le_of_ble_eq_true rfl) rfl ?_
  unfold fX11_forget at h
  refine kr_aload_n dX11_forget_0 rfl ?_
  refine kx_g28_23 (G.1 28 23) rfl kw4_160 dX11_forget_1 ?_
  refine kr_istore_n (i := 1) (ls' := [some (.ref 28), some (.int (G.1 28 23))]) dX11_forget_4 rfl (Nat.le_of_ble_eq_true rfl) rfl ?_
  refine kr_aload_n dX11_forget_5 rfl ?_
  refine kr_iconst (v := 0) dX11_forget_6 (by decide) ?_
  refine kx_p28_23 kw4_160 dX11_forget_7 ?_
  refine kr_iload_n dX11_forget_10 rfl ?_
  cases h
  exact kr_iret rfl dX11_forget_11
set_option maxRecDepth 20000 in
set_option maxHeartbeats 4000000 in
theorem RX11_draw {Z : kv_Z} (e : Nat) {G : kg_G} {l1 : Int32} {res : Int32 × kg_G} (h : fX11_draw G l1 = some res) : kv_M Z (e + 0) kMX11_draw [.ref 28, .int l1] (kg_w G) (some (.int res.1)) (kg_w res.2) := by
  refine kv_M_of (ls := [some (.ref 28), some (.int l1)]) (by decide) (Nat.le_of_ble_eq_true rfl) rfl ?_
  unfold fX11_draw at h
  refine kr_aload_n dX11_draw_0 rfl ?_
  refine kr_ldc2 (x := 1103515245) kw6_37 dX11_draw_1 ?_
  refine kr_aload_n dX11_draw_4 rfl ?_
  refine kx_g28_25 (G.1 28 25) rfl kw4_162 dX11_draw_5 ?_
  refine kr_i2l dX11_draw_8 ?_
  refine kr_lmul dX11_draw_9 ?_
  refine kr_ldc2 (x := 12345) kw6_38 dX11_draw_10 ?_
  refine kr_ladd dX11_draw_13 ?_
  refine kr_ldc2 (x := 2147483647) kw6_39 dX11_draw_14 ?_
  refine kr_land dX11_draw_17 ?_
  refine kr_l2i dX11_draw_18 ?_
  refine kx_p28_25 kw4_162 dX11_draw_19 ?_
  refine kr_aload_n dX11_draw_22 rfl ?_
  refine kx_g28_25 ((((1103515245 * ((G.1 28 25).toInt64)) + 12345) &&& 2147483647).toInt32) rfl kw4_162 dX11_draw_23 ?_
  refine kr_ldcw (x := 65536) kw6_40 dX11_draw_26 ?_
  refine kr_idiv dX11_draw_29 (by decide) ?_
  refine kr_iload_n dX11_draw_30 rfl ?_
  obtain ⟨hv1, h⟩ := kx_ite h
  refine kr_irem dX11_draw_31 hv1 ?_
  cases h
  exact kr_iret rfl dX11_draw_32
set_option maxRecDepth 20000 in
set_option maxHeartbeats 4000000 in
theorem RX11_takesLine_155 {Z : kv_Z} (e : Nat) {N : Nat} : ∀ (n : Nat) (G : kg_G) (l1 : Int32) (l2 : Int32) (l4 : Int32) (l5 : Int32) (res : Int32 × kg_G), fX11_takesLine_155 N n G l1 l2 l4 l5 = some res → kv_V Z (e + 4) kMX11_takesLine 155 [some (.ref 28), some (.int l1), some (.int l2), none, some (.int l4), some (.int l5)] [] (kg_w G) (some (.int res.1)) (kg_w res.2) := by
  intro n
  induction n with
  | zero => intro G l1 l2 l4 l5 res h; exact absurd h (by intro z; cases z)
  | succ n ih =>
    intro G l1 l2 l4 l5 res h
    have hk155 := ih
    rw [fX11_takesLine_155] at h
    refine kr_iload dX11_takesLine_155 rfl ?_
    refine kr_aload_n dX11_takesLine_157 rfl ?_
    refine kx_g28_29 (G.1 28 29) rfl kw4_166 dX11_takesLine_158 ?_
    refine kr_icmp_ge (tgt := 216) dX11_takesLine_161 rfl (fun c161 => ?_) (fun c161 => ?_)
    · rw [if_pos c161] at h
      refine kr_iload dX11_takesLine_216 rfl ?_
      obtain ⟨hz, h⟩ := kx_itn h
      cases h
      exact kr_zret rfl (kx_nar hz) dX11_takesLine_218
    · rw [if_neg c161] at h
      refine kr_iload_n dX11_takesLine_164 rfl ?_
      refine kr_iload dX11_takesLine_165 rfl ?_
      refine kr_ishr dX11_takesLine_167 ?_
      refine kr_iconst (v := 1) dX11_takesLine_168 (by decide) ?_
      refine kr_iand dX11_takesLine_169 ?_
      refine kr_iconst (v := 1) dX11_takesLine_170 (by decide) ?_
      refine kr_icmp_ne (tgt := 210) dX11_takesLine_171 rfl (fun c171 => ?_) (fun c171 => ?_)
      · rw [if_pos c171] at h
        refine kr_aload_n dX11_takesLine_174 rfl ?_
        refine kx_g28_27 kw4_164 dX11_takesLine_175 ?_
        refine kr_iload dX11_takesLine_178 rfl ?_
        refine kr_dup2 dX11_takesLine_180 rfl rfl ?_
        obtain ⟨v1, hv1, h⟩ := Option.bind_eq_some_iff.mp h
        refine kx_a40 (G.2.1 40) rfl hv1 dX11_takesLine_181 ?_
        refine kr_iconst (v := 1) dX11_takesLine_182 (by decide) ?_
        refine kr_iload_n dX11_takesLine_183 rfl ?_
        refine kr_ishl dX11_takesLine_184 ?_
        refine kr_ior dX11_takesLine_185 ?_
        obtain ⟨v2, hv2, h⟩ := Option.bind_eq_some_iff.mp h
        refine kx_s40 (G.2.1 40) rfl hv2 dX11_takesLine_186 ?_
        refine kr_aload_n dX11_takesLine_187 rfl ?_
        refine kx_g28_28 kw4_165 dX11_takesLine_188 ?_
        refine kr_iload dX11_takesLine_191 rfl ?_
        refine kr_iload dX11_takesLine_193 rfl ?_
        refine kr_if_eq (tgt := 202) dX11_takesLine_195 rfl (fun c195 => ?_) (fun c195 => ?_)
        · rw [if_pos c195] at h
          refine kr_aload_n dX11_takesLine_202 rfl ?_
          refine kx_g28_28 kw4_165 dX11_takesLine_203 ?_
          refine kr_iload dX11_takesLine_206 rfl ?_
          obtain ⟨v3, hv3, h⟩ := Option.bind_eq_some_iff.mp h
          refine kx_a41 (G.2.1 41) rfl hv3 dX11_takesLine_208 ?_
          obtain ⟨v4, hv4, h⟩ := Option.bind_eq_some_iff.mp h
          refine kx_s41 (G.2.1 41) rfl hv4 dX11_takesLine_209 ?_
          refine kr_iinc (v := l5 + 1) (ls' := [some (.ref 28), some (.int l1), some (.int l2), none, some (.int l4), some (.int (l5 + 1))]) dX11_takesLine_210 rfl rfl (Nat.le_of_ble_eq_true rfl) rfl ?_
          refine kr_goto (tgt := 155) dX11_takesLine_213 rfl ?_
          exact hk155 _ _ _ _ _ _ h
        · rw [if_neg c195] at h
          refine kr_iconst (v := 1) dX11_takesLine_198 (by decide) ?_
          refine kr_goto (tgt := 209) dX11_takesLine_199 rfl ?_
          obtain ⟨v5, hv5, h⟩ := Option.bind_eq_some_iff.mp h
          refine kx_s41 (G.2.1 41) rfl hv5 dX11_takesLine_209 ?_
          refine kr_iinc (v := l5 + 1) (ls' := [some (.ref 28), some (.int l1), some (.int l2), none, some (.int l4), some (.int (l5 + 1))]) dX11_takesLine_210 rfl rfl (Nat.le_of_ble_eq_true rfl) rfl ?_
          refine kr_goto (tgt := 155) dX11_takesLine_213 rfl ?_
          exact hk155 _ _ _ _ _ _ h
      · rw [if_neg c171] at h
        refine kr_iinc (v := l5 + 1) (ls' := [some (.ref 28), some (.int l1), some (.int l2), none, some (.int l4), some (.int (l5 + 1))]) dX11_takesLine_210 rfl rfl (Nat.le_of_ble_eq_true rfl) rfl ?_
        refine kr_goto (tgt := 155) dX11_takesLine_213 rfl ?_
        exact hk155 _ _ _ _ _ _ h
set_option maxRecDepth 20000 in
set_option maxHeartbeats 4000000 in
theorem RX11_takesLine_80 {Z : kv_Z} (e : Nat) {N : Nat} {k7 : kg_G → Int32 → Int32 → Int32 → Int32 → Option (Int32 × kg_G)} (hk7 : ∀ (G : kg_G) (l1 : Int32) (l2 : Int32) (l3 : Int32) (l4 : Int32) (res : Int32 × kg_G), k7 G l1 l2 l3 l4 = some res → kv_V Z (e + 4) kMX11_takesLine 7 [some (.ref 28), some (.int l1), some (.int l2), some (.int l3), some (.int l4), none] [] (kg_w G) (some (.int res.1)) (kg_w res.2)) : ∀ (G : kg_G) (l1 : Int32) (l3 : Int32) (l4 : Int32) (l5 : Int32) (s0 : Int32) (s1 : Int32) (res : Int32 × kg_G), fX11_takesLine_80 N k7 G l1 l3 l4 l5 s0 s1 = some res → kv_V Z (e + 4) kMX11_takesLine 80 [some (.ref 28), some (.int l1), none, some (.int l3), some (.int l4), some (.int l5)] [.int s1, .int s0] (kg_w G) (some (.int res.1)) (kg_w res.2) := by
  intro G l1 l3 l4 l5 s0 s1 res h
  unfold fX11_takesLine_80 at h
  refine kr_ior dX11_takesLine_80 ?_
  refine kr_istore_n (i := 2) (ls' := [some (.ref 28), some (.int l1), some (.int (s0 ||| s1)), some (.int l3), some (.int l4), some (.int l5)]) dX11_takesLine_81 rfl (Nat.le_of_ble_eq_true rfl) rfl ?_
  refine kr_iload_n dX11_takesLine_82 rfl ?_
  refine kr_iload dX11_takesLine_83 rfl ?_
  refine kr_if_eq (tgt := 98) dX11_takesLine_85 rfl (fun c85 => ?_) (fun c85 => ?_)
  · rw [if_pos c85] at h
    refine kr_iconst (v := 0) dX11_takesLine_98 (by decide) ?_
    refine kr_iadd dX11_takesLine_99 ?_
    refine kr_istore_n (i := 3) (ls' := [some (.ref 28), some (.int l1), some (.int (s0 ||| s1)), some (.int (l3 + 0)), some (.int l4), some (.int l5)]) dX11_takesLine_100 rfl (Nat.le_of_ble_eq_true rfl) rfl ?_
    refine kr_iinc (v := l4 + 1) (ls' := [some (.ref 28), some (.int l1), some (.int (s0 ||| s1)), some (.int (l3 + 0)), some (.int (l4 + 1)), some (.int l5)]) dX11_takesLine_101 rfl rfl (Nat.le_of_ble_eq_true rfl) rfl ?_
    refine kr_goto (tgt := 7) dX11_takesLine_104 rfl ?_
    refine kv_loc (ls' := [some (.ref 28), some (.int l1), some (.int (s0 ||| s1)), some (.int (l3 + 0)), some (.int (l4 + 1)), none]) (And.intro rfl (And.intro rfl (And.intro rfl (And.intro rfl (And.intro rfl trivial))))) ?_
    exact hk7 _ _ _ _ _ _ h
  · rw [if_neg c85] at h
    refine kr_aload_n dX11_takesLine_88 rfl ?_
    refine kx_g28_26 kw4_163 dX11_takesLine_89 ?_
    refine kr_iload dX11_takesLine_92 rfl ?_
    obtain ⟨v1, hv1, h⟩ := Option.bind_eq_some_iff.mp h
    refine kx_a39 (G.2.1 39) rfl hv1 dX11_takesLine_94 ?_
    refine kr_goto (tgt := 99) dX11_takesLine_95 rfl ?_
    refine kr_iadd dX11_takesLine_99 ?_
    refine kr_istore_n (i := 3) (ls' := [some (.ref 28), some (.int l1), some (.int (s0 ||| s1)), some (.int (l3 + v1)), some (.int l4), some (.int l5)]) dX11_takesLine_100 rfl (Nat.le_of_ble_eq_true rfl) rfl ?_
    refine kr_iinc (v := l4 + 1) (ls' := [some (.ref 28), some (.int l1), some (.int (s0 ||| s1)), some (.int (l3 + v1)), some (.int (l4 + 1)), some (.int l5)]) dX11_takesLine_101 rfl rfl (Nat.le_of_ble_eq_true rfl) rfl ?_
    refine kr_goto (tgt := 7) dX11_takesLine_104 rfl ?_
    refine kv_loc (ls' := [some (.ref 28), some (.int l1), some (.int (s0 ||| s1)), some (.int (l3 + v1)), some (.int (l4 + 1)), none]) (And.intro rfl (And.intro rfl (And.intro rfl (And.intro rfl (And.intro rfl trivial))))) ?_
    exact hk7 _ _ _ _ _ _ h
set_option maxRecDepth 20000 in
set_option maxHeartbeats 4000000 in
theorem RX11_takesLine_64 {Z : kv_Z} (e : Nat) {N : Nat} {k7 : kg_G → Int32 → Int32 → Int32 → Int32 → Option (Int32 × kg_G)} (hk7 : ∀ (G : kg_G) (l1 : Int32) (l2 : Int32) (l3 : Int32) (l4 : Int32) (res : Int32 × kg_G), k7 G l1 l2 l3 l4 = some res → kv_V Z (e + 4) kMX11_takesLine 7 [some (.ref 28), some (.int l1), some (.int l2), some (.int l3), some (.int l4), none] [] (kg_w G) (some (.int res.1)) (kg_w res.2)) : ∀ (G : kg_G) (l1 : Int32) (l2 : Int32) (l3 : Int32) (l4 : Int32) (s0 : Int32) (res : Int32 × kg_G), fX11_takesLine_64 N k7 G l1 l2 l3 l4 s0 = some res → kv_V Z (e + 4) kMX11_takesLine 64 [some (.ref 28), some (.int l1), some (.int l2), some (.int l3), some (.int l4), none] [.int s0] (kg_w G) (some (.int res.1)) (kg_w res.2) := by
  intro G l1 l2 l3 l4 s0 res h
  unfold fX11_takesLine_64 at h
  refine kr_istore (ls' := [some (.ref 28), some (.int l1), some (.int l2), some (.int l3), some (.int l4), some (.int s0)]) dX11_takesLine_64 (Nat.le_of_ble_eq_true rfl) rfl ?_
  refine kr_iload_n dX11_takesLine_66 rfl ?_
  refine kr_iload dX11_takesLine_67 rfl ?_
  refine kr_if_eq (tgt := 79) dX11_takesLine_69 rfl (fun c69 => ?_) (fun c69 => ?_)
  · rw [if_pos c69] at h
    refine kr_iconst (v := 0) dX11_takesLine_79 (by decide) ?_
    refine kv_loc (ls' := [some (.ref 28), some (.int l1), none, some (.int l3), some (.int l4), some (.int s0)]) (And.intro rfl (And.intro rfl (And.intro rfl (And.intro rfl (And.intro rfl trivial))))) ?_
    exact RX11_takesLine_80 e hk7 _ _ _ _ _ _ _ _ h
  · rw [if_neg c69] at h
    refine kr_iconst (v := 1) dX11_takesLine_72 (by decide) ?_
    refine kr_iload dX11_takesLine_73 rfl ?_
    refine kr_ishl dX11_takesLine_75 ?_
    refine kr_goto (tgt := 80) dX11_takesLine_76 rfl ?_
    refine kv_loc (ls' := [some (.ref 28), some (.int l1), none, some (.int l3), some (.int l4), some (.int s0)]) (And.intro rfl (And.intro rfl (And.intro rfl (And.intro rfl (And.intro rfl trivial))))) ?_
    exact RX11_takesLine_80 e hk7 _ _ _ _ _ _ _ _ h
set_option maxRecDepth 20000 in
set_option maxHeartbeats 4000000 in
theorem RX11_takesLine_63 {Z : kv_Z} (e : Nat) {N : Nat} {k7 : kg_G → Int32 → Int32 → Int32 → Int32 → Option (Int32 × kg_G)} (hk7 : ∀ (G : kg_G) (l1 : Int32) (l2 : Int32) (l3 : Int32) (l4 : Int32) (res : Int32 × kg_G), k7 G l1 l2 l3 l4 = some res → kv_V Z (e + 4) kMX11_takesLine 7 [some (.ref 28), some (.int l1), some (.int l2), some (.int l3), some (.int l4), none] [] (kg_w G) (some (.int res.1)) (kg_w res.2)) : ∀ (G : kg_G) (l1 : Int32) (l2 : Int32) (l3 : Int32) (l4 : Int32) (res : Int32 × kg_G), fX11_takesLine_63 N k7 G l1 l2 l3 l4 = some res → kv_V Z (e + 4) kMX11_takesLine 63 [some (.ref 28), some (.int l1), some (.int l2), some (.int l3), some (.int l4), none] [] (kg_w G) (some (.int res.1)) (kg_w res.2) := by
  intro G l1 l2 l3 l4 res h
  unfold fX11_takesLine_63 at h
  refine kr_iconst (v := 0) dX11_takesLine_63 (by decide) ?_
  exact RX11_takesLine_64 e hk7 _ _ _ _ _ _ _ h
set_option maxRecDepth 20000 in
set_option maxHeartbeats 4000000 in
theorem RX11_takesLine_7 {Z : kv_Z} (e : Nat) {N : Nat} : ∀ (n : Nat) (G : kg_G) (l1 : Int32) (l2 : Int32) (l3 : Int32) (l4 : Int32) (res : Int32 × kg_G), fX11_takesLine_7 N n G l1 l2 l3 l4 = some res → kv_V Z (e + 4) kMX11_takesLine 7 [some (.ref 28), some (.int l1), some (.int l2), some (.int l3), some (.int l4), none] [] (kg_w G) (some (.int res.1)) (kg_w res.2) := by
  intro n
  induction n with
  | zero => intro G l1 l2 l3 l4 res h; exact absurd h (by intro z; cases z)
  | succ n ih =>
    intro G l1 l2 l3 l4 res h
    have hk7 := ih
    rw [fX11_takesLine_7] at h
    refine kr_iload dX11_takesLine_7 rfl ?_
    refine kr_aload_n dX11_takesLine_9 rfl ?_
    refine kx_g28_29 (G.1 28 29) rfl kw4_166 dX11_takesLine_10 ?_
    refine kr_icmp_ge (tgt := 107) dX11_takesLine_13 rfl (fun c13 => ?_) (fun c13 => ?_)
    · rw [if_pos c13] at h
      refine kr_iload_n dX11_takesLine_107 rfl ?_
      obtain ⟨v1, hv1, h⟩ := Option.bind_eq_some_iff.mp h
      refine kr_callSi (M' := kMX11_ones) (As := [.int l2]) (st := []) (RX11_ones (e + 3) hv1) koX11_ones rfl kw5_89 kw5_90 rfl (Nat.le_of_ble_eq_true rfl) dX11_takesLine_108 ?_
      refine kr_aload_n dX11_takesLine_111 rfl ?_
      refine kr_iload_n dX11_takesLine_112 rfl ?_
      obtain ⟨v2, hv2, h⟩ := Option.bind_eq_some_iff.mp h
      refine kr_callVi (M' := kMX11_wantsOf) (a := 28) (As := [.int l1]) (st := [.int v1]) (RX11_wantsOf (e + 3) hv2) koX11_wantsOf rfl rfl rfl kw5_77 kw5_79 kws_23 rfl (Nat.le_of_ble_eq_true rfl) dX11_takesLine_113 ?_
      refine kr_icmp_ne (tgt := 149) dX11_takesLine_116 rfl (fun c116 => ?_) (fun c116 => ?_)
      · rw [if_pos c116] at h
        refine kr_aload_n dX11_takesLine_119 rfl ?_
        refine kx_g28_12 kw4_149 dX11_takesLine_120 ?_
        refine kr_iconst (v := 4) dX11_takesLine_123 (by decide) ?_
        refine kr_iload_n dX11_takesLine_124 rfl ?_
        refine kr_imul dX11_takesLine_125 ?_
        obtain ⟨v3, hv3, h⟩ := Option.bind_eq_some_iff.mp h
        refine kx_a30 (G.2.1 30) rfl hv3 dX11_takesLine_126 ?_
        refine kr_iconst (v := 4) dX11_takesLine_127 (by decide) ?_
        refine kr_icmp_ne (tgt := 145) dX11_takesLine_128 rfl (fun c128 => ?_) (fun c128 => ?_)
        · rw [if_pos c128] at h
          refine kr_iload_n dX11_takesLine_131 rfl ?_
          refine kr_aload_n dX11_takesLine_132 rfl ?_
          refine kx_g28_12 kw4_149 dX11_takesLine_133 ?_
          refine kr_iconst (v := 4) dX11_takesLine_136 (by decide) ?_
          refine kr_iload_n dX11_takesLine_137 rfl ?_
          refine kr_imul dX11_takesLine_138 ?_
          refine kr_iconst (v := 3) dX11_takesLine_139 (by decide) ?_
          refine kr_iadd dX11_takesLine_140 ?_
          obtain ⟨v4, hv4, h⟩ := Option.bind_eq_some_iff.mp h
          refine kx_a30 (G.2.1 30) rfl hv4 dX11_takesLine_141 ?_
          refine kr_icmp_lt (tgt := 149) dX11_takesLine_142 rfl (fun c142 => ?_) (fun c142 => ?_)
          · rw [if_pos c142] at h
            refine kr_iconst (v := 0) dX11_takesLine_149 (by decide) ?_
            refine kr_istore (ls' := [some (.ref 28), some (.int l1), some (.int l2), some (.int l3), some (.int 0), none]) dX11_takesLine_150 (Nat.le_of_ble_eq_true rfl) rfl ?_
            refine kr_iconst (v := 0) dX11_takesLine_152 (by decide) ?_
            refine kr_istore (ls' := [some (.ref 28), some (.int l1), some (.int l2), some (.int l3), some (.int 0), some (.int 0)]) dX11_takesLine_153 (Nat.le_of_ble_eq_true rfl) rfl ?_
            refine kv_loc (ls' := [some (.ref 28), some (.int l1), some (.int l2), none, some (.int 0), some (.int 0)]) (And.intro rfl (And.intro rfl (And.intro rfl (And.intro rfl (And.intro rfl trivial))))) ?_
            exact RX11_takesLine_155 e N _ _ _ _ _ _ h
          · rw [if_neg c142] at h
            refine kr_iconst (v := 1) dX11_takesLine_145 (by decide) ?_
            refine kr_goto (tgt := 150) dX11_takesLine_146 rfl ?_
            refine kr_istore (ls' := [some (.ref 28), some (.int l1), some (.int l2), some (.int l3), some (.int 1), none]) dX11_takesLine_150 (Nat.le_of_ble_eq_true rfl) rfl ?_
            refine kr_iconst (v := 0) dX11_takesLine_152 (by decide) ?_
            refine kr_istore (ls' := [some (.ref 28), some (.int l1), some (.int l2), some (.int l3), some (.int 1), some (.int 0)]) dX11_takesLine_153 (Nat.le_of_ble_eq_true rfl) rfl ?_
            refine kv_loc (ls' := [some (.ref 28), some (.int l1), some (.int l2), none, some (.int 1), some (.int 0)]) (And.intro rfl (And.intro rfl (And.intro rfl (And.intro rfl (And.intro rfl trivial))))) ?_
            exact RX11_takesLine_155 e N _ _ _ _ _ _ h
        · rw [if_neg c128] at h
          refine kr_iconst (v := 1) dX11_takesLine_145 (by decide) ?_
          refine kr_goto (tgt := 150) dX11_takesLine_146 rfl ?_
          refine kr_istore (ls' := [some (.ref 28), some (.int l1), some (.int l2), some (.int l3), some (.int 1), none]) dX11_takesLine_150 (Nat.le_of_ble_eq_true rfl) rfl ?_
          refine kr_iconst (v := 0) dX11_takesLine_152 (by decide) ?_
          refine kr_istore (ls' := [some (.ref 28), some (.int l1), some (.int l2), some (.int l3), some (.int 1), some (.int 0)]) dX11_takesLine_153 (Nat.le_of_ble_eq_true rfl) rfl ?_
          refine kv_loc (ls' := [some (.ref 28), some (.int l1), some (.int l2), none, some (.int 1), some (.int 0)]) (And.intro rfl (And.intro rfl (And.intro rfl (And.intro rfl (And.intro rfl trivial))))) ?_
          exact RX11_takesLine_155 e N _ _ _ _ _ _ h
      · rw [if_neg c116] at h
        refine kr_iconst (v := 0) dX11_takesLine_149 (by decide) ?_
        refine kr_istore (ls' := [some (.ref 28), some (.int l1), some (.int l2), some (.int l3), some (.int 0), none]) dX11_takesLine_150 (Nat.le_of_ble_eq_true rfl) rfl ?_
        refine kr_iconst (v := 0) dX11_takesLine_152 (by decide) ?_
        refine kr_istore (ls' := [some (.ref 28), some (.int l1), some (.int l2), some (.int l3), some (.int 0), some (.int 0)]) dX11_takesLine_153 (Nat.le_of_ble_eq_true rfl) rfl ?_
        refine kv_loc (ls' := [some (.ref 28), some (.int l1), some (.int l2), none, some (.int 0), some (.int 0)]) (And.intro rfl (And.intro rfl (And.intro rfl (And.intro rfl (And.intro rfl trivial))))) ?_
        exact RX11_takesLine_155 e N _ _ _ _ _ _ h
    · rw [if_neg c13] at h
      refine kr_iload_n dX11_takesLine_16 rfl ?_
      obtain ⟨v5, hv5, h⟩ := Option.bind_eq_some_iff.mp h
      refine kr_callSi (M' := kMX11_ones) (As := [.int l2]) (st := []) (RX11_ones (e + 3) hv5) koX11_ones rfl kw5_89 kw5_90 rfl (Nat.le_of_ble_eq_true rfl) dX11_takesLine_17 ?_
      refine kr_aload_n dX11_takesLine_20 rfl ?_
      refine kr_iload_n dX11_takesLine_21 rfl ?_
      obtain ⟨v6, hv6, h⟩ := Option.bind_eq_some_iff.mp h
      refine kr_callVi (M' := kMX11_wantsOf) (a := 28) (As := [.int l1]) (st := [.int v5]) (RX11_wantsOf (e + 3) hv6) koX11_wantsOf rfl rfl rfl kw5_77 kw5_79 kws_23 rfl (Nat.le_of_ble_eq_true rfl) dX11_takesLine_22 ?_
      refine kr_icmp_ge (tgt := 63) dX11_takesLine_25 rfl (fun c25 => ?_) (fun c25 => ?_)
      · rw [if_pos c25] at h
        exact RX11_takesLine_63 e hk7 _ _ _ _ _ _ h
      · rw [if_neg c25] at h
        refine kr_aload_n dX11_takesLine_28 rfl ?_
        refine kr_aload_n dX11_takesLine_29 rfl ?_
        refine kx_g28_26 kw4_163 dX11_takesLine_30 ?_
        refine kr_iload dX11_takesLine_33 rfl ?_
        obtain ⟨v7, hv7, h⟩ := Option.bind_eq_some_iff.mp h
        refine kx_a39 (G.2.1 39) rfl hv7 dX11_takesLine_35 ?_
        refine kr_iload_n dX11_takesLine_36 rfl ?_
        obtain ⟨v8, hv8, h⟩ := Option.bind_eq_some_iff.mp h
        refine kr_callVi (M' := kMX11_fitsBy) (a := 28) (As := [.int v7, .int l1]) (st := []) (RX11_fitsBy (e + 3) hv8) koX11_fitsBy rfl rfl rfl kw5_100 kw5_102 kws_28 rfl (Nat.le_of_ble_eq_true rfl) dX11_takesLine_37 ?_
        refine kr_if_eq (tgt := 63) dX11_takesLine_40 rfl (fun c40 => ?_) (fun c40 => ?_)
        · rw [if_pos c40] at h
          exact RX11_takesLine_63 e hk7 _ _ _ _ _ _ h
        · rw [if_neg c40] at h
          refine kr_aload_n dX11_takesLine_43 rfl ?_
          refine kx_g28_27 kw4_164 dX11_takesLine_44 ?_
          refine kr_iload dX11_takesLine_47 rfl ?_
          obtain ⟨v9, hv9, h⟩ := Option.bind_eq_some_iff.mp h
          refine kx_a40 (G.2.1 40) rfl hv9 dX11_takesLine_49 ?_
          refine kr_aload_n dX11_takesLine_50 rfl ?_
          refine kr_iload_n dX11_takesLine_51 rfl ?_
          obtain ⟨v10, hv10, h⟩ := Option.bind_eq_some_iff.mp h
          refine kr_callVi (M' := kMX11_clashSet) (a := 28) (As := [.int l1]) (st := [.int v9]) (RX11_clashSet (e + 0) hv10) koX11_clashSet rfl rfl rfl kw5_104 kw5_106 kws_29 rfl (Nat.le_of_ble_eq_true rfl) dX11_takesLine_52 ?_
          refine kr_iand dX11_takesLine_55 ?_
          refine kr_if_ne (tgt := 63) dX11_takesLine_56 rfl (fun c56 => ?_) (fun c56 => ?_)
          · rw [if_pos c56] at h
            refine kr_iconst (v := 1) dX11_takesLine_59 (by decide) ?_
            refine kr_goto (tgt := 64) dX11_takesLine_60 rfl ?_
            exact RX11_takesLine_64 e hk7 _ _ _ _ _ _ _ h
          · rw [if_neg c56] at h
            exact RX11_takesLine_63 e hk7 _ _ _ _ _ _ h
set_option maxRecDepth 20000 in
set_option maxHeartbeats 4000000 in
theorem RX11_takesLine {Z : kv_Z} (e : Nat) {N : Nat} {G : kg_G} {l1 : Int32} {res : Int32 × kg_G} (h : fX11_takesLine N G l1 = some res) : kv_M Z (e + 4) kMX11_takesLine [.ref 28, .int l1] (kg_w G) (some (.int res.1)) (kg_w res.2) := by
  refine kv_M_of (ls := [some (.ref 28), some (.int l1), none, none, none, none]) (by decide) (Nat.le_of_ble_eq_true rfl) rfl ?_
  unfold fX11_takesLine at h
  refine kr_iconst (v := 0) dX11_takesLine_0 (by decide) ?_
  refine kr_istore_n (i := 2) (ls' := [some (.ref 28), some (.int l1), some (.int 0), none, none, none]) dX11_takesLine_1 rfl (Nat.le_of_ble_eq_true rfl) rfl ?_
  refine kr_iconst (v := 0) dX11_takesLine_2 (by decide) ?_
  refine kr_istore_n (i := 3) (ls' := [some (.ref 28), some (.int l1), some (.int 0), some (.int 0), none, none]) dX11_takesLine_3 rfl (Nat.le_of_ble_eq_true rfl) rfl ?_
  refine kr_iconst (v := 0) dX11_takesLine_4 (by decide) ?_
  refine kr_istore (ls' := [some (.ref 28), some (.int l1), some (.int 0), some (.int 0), some (.int 0), none]) dX11_takesLine_5 (Nat.le_of_ble_eq_true rfl) rfl ?_
  exact RX11_takesLine_7 e N _ _ _ _ _ _ h
set_option maxRecDepth 20000 in
set_option maxHeartbeats 4000000 in
theorem RX11_letLineGo_38 {Z : kv_Z} (e : Nat) {N : Nat} : ∀ (n : Nat) (G : kg_G) (l2 : Int32) (res : Int32 × kg_G), fX11_letLineGo_38 N n G l2 = some res → kv_V Z (e + 0) kMX11_letLineGo 38 [some (.ref 28), none, some (.int l2)] [] (kg_w G) (some (.int res.1)) (kg_w res.2) := by
  intro n
  induction n with
  | zero => intro G l2 res h; exact absurd h (by intro z; cases z)
  | succ n ih =>
    intro G l2 res h
    have hk38 := ih
    rw [fX11_letLineGo_38] at h
    refine kr_iload_n dX11_letLineGo_38 rfl ?_
    refine kr_iconst (v := 1) dX11_letLineGo_39 (by decide) ?_
    refine kr_iadd dX11_letLineGo_40 ?_
    refine kr_aload_n dX11_letLineGo_41 rfl ?_
    refine kx_g28_29 (G.1 28 29) rfl kw4_166 dX11_letLineGo_42 ?_
    refine kr_icmp_ge (tgt := 68) dX11_letLineGo_45 rfl (fun c45 => ?_) (fun c45 => ?_)
    · rw [if_pos c45] at h
      refine kr_aload_n dX11_letLineGo_68 rfl ?_
      refine kr_dup dX11_letLineGo_69 rfl ?_
      refine kx_g28_29 (G.1 28 29) rfl kw4_166 dX11_letLineGo_70 ?_
      refine kr_iconst (v := 1) dX11_letLineGo_73 (by decide) ?_
      refine kr_isub dX11_letLineGo_74 ?_
      refine kx_p28_29 kw4_166 dX11_letLineGo_75 ?_
      refine kr_iconst (v := 1) dX11_letLineGo_78 (by decide) ?_
      cases h
      exact kr_iret rfl dX11_letLineGo_79
    · rw [if_neg c45] at h
      refine kr_aload_n dX11_letLineGo_48 rfl ?_
      refine kx_g28_26 kw4_163 dX11_letLineGo_49 ?_
      refine kr_iload_n dX11_letLineGo_52 rfl ?_
      refine kr_aload_n dX11_letLineGo_53 rfl ?_
      refine kx_g28_26 kw4_163 dX11_letLineGo_54 ?_
      refine kr_iload_n dX11_letLineGo_57 rfl ?_
      refine kr_iconst (v := 1) dX11_letLineGo_58 (by decide) ?_
      refine kr_iadd dX11_letLineGo_59 ?_
      obtain ⟨v1, hv1, h⟩ := Option.bind_eq_some_iff.mp h
      refine kx_a39 (G.2.1 39) rfl hv1 dX11_letLineGo_60 ?_
      obtain ⟨v2, hv2, h⟩ := Option.bind_eq_some_iff.mp h
      refine kx_s39 (G.2.1 39) rfl hv2 dX11_letLineGo_61 ?_
      refine kr_iinc (v := l2 + 1) (ls' := [some (.ref 28), none, some (.int (l2 + 1))]) dX11_letLineGo_62 rfl rfl (Nat.le_of_ble_eq_true rfl) rfl ?_
      refine kr_goto (tgt := 38) dX11_letLineGo_65 rfl ?_
      exact hk38 _ _ _ h
set_option maxRecDepth 20000 in
set_option maxHeartbeats 4000000 in
theorem RX11_letLineGo_26 {Z : kv_Z} (e : Nat) {N : Nat} : ∀ (G : kg_G) (l1 : Int32) (res : Int32 × kg_G), fX11_letLineGo_26 N G l1 = some res → kv_V Z (e + 0) kMX11_letLineGo 26 [some (.ref 28), some (.int l1), none] [] (kg_w G) (some (.int res.1)) (kg_w res.2) := by
  intro G l1 res h
  unfold fX11_letLineGo_26 at h
  refine kr_iload_n dX11_letLineGo_26 rfl ?_
  refine kr_aload_n dX11_letLineGo_27 rfl ?_
  refine kx_g28_29 (G.1 28 29) rfl kw4_166 dX11_letLineGo_28 ?_
  refine kr_icmp_ne (tgt := 36) dX11_letLineGo_31 rfl (fun c31 => ?_) (fun c31 => ?_)
  · rw [if_pos c31] at h
    refine kr_iconst (v := 0) dX11_letLineGo_34 (by decide) ?_
    cases h
    exact kr_iret rfl dX11_letLineGo_35
  · rw [if_neg c31] at h
    refine kr_iload_n dX11_letLineGo_36 rfl ?_
    refine kr_istore_n (i := 2) (ls' := [some (.ref 28), some (.int l1), some (.int l1)]) dX11_letLineGo_37 rfl (Nat.le_of_ble_eq_true rfl) rfl ?_
    refine kv_loc (ls' := [some (.ref 28), none, some (.int l1)]) (And.intro rfl (And.intro rfl trivial)) ?_
    exact RX11_letLineGo_38 e N _ _ _ h
set_option maxRecDepth 20000 in
set_option maxHeartbeats 4000000 in
theorem RX11_letLineGo_2 {Z : kv_Z} (e : Nat) {N : Nat} : ∀ (n : Nat) (G : kg_G) (l1 : Int32) (res : Int32 × kg_G), fX11_letLineGo_2 N n G l1 = some res → kv_V Z (e + 0) kMX11_letLineGo 2 [some (.ref 28), some (.int l1), none] [] (kg_w G) (some (.int res.1)) (kg_w res.2) := by
  intro n
  induction n with
  | zero => intro G l1 res h; exact absurd h (by intro z; cases z)
  | succ n ih =>
    intro G l1 res h
    have hk2 := ih
    rw [fX11_letLineGo_2] at h
    refine kr_iload_n dX11_letLineGo_2 rfl ?_
    refine kr_aload_n dX11_letLineGo_3 rfl ?_
    refine kx_g28_29 (G.1 28 29) rfl kw4_166 dX11_letLineGo_4 ?_
    refine kr_icmp_ge (tgt := 26) dX11_letLineGo_7 rfl (fun c7 => ?_) (fun c7 => ?_)
    · rw [if_pos c7] at h
      exact RX11_letLineGo_26 e _ _ _ h
    · rw [if_neg c7] at h
      refine kr_aload_n dX11_letLineGo_10 rfl ?_
      refine kx_g28_28 kw4_165 dX11_letLineGo_11 ?_
      refine kr_iload_n dX11_letLineGo_14 rfl ?_
      obtain ⟨v1, hv1, h⟩ := Option.bind_eq_some_iff.mp h
      refine kx_a41 (G.2.1 41) rfl hv1 dX11_letLineGo_15 ?_
      refine kr_iconst (v := 1) dX11_letLineGo_16 (by decide) ?_
      refine kr_icmp_ne (tgt := 26) dX11_letLineGo_17 rfl (fun c17 => ?_) (fun c17 => ?_)
      · rw [if_pos c17] at h
        refine kr_iinc (v := l1 + 1) (ls' := [some (.ref 28), some (.int (l1 + 1)), none]) dX11_letLineGo_20 rfl rfl (Nat.le_of_ble_eq_true rfl) rfl ?_
        refine kr_goto (tgt := 2) dX11_letLineGo_23 rfl ?_
        exact hk2 _ _ _ h
      · rw [if_neg c17] at h
        exact RX11_letLineGo_26 e _ _ _ h
set_option maxRecDepth 20000 in
set_option maxHeartbeats 4000000 in
theorem RX11_letLineGo {Z : kv_Z} (e : Nat) {N : Nat} {G : kg_G} {res : Int32 × kg_G} (h : fX11_letLineGo N G = some res) : kv_M Z (e + 0) kMX11_letLineGo [.ref 28] (kg_w G) (some (.int res.1)) (kg_w res.2) := by
  refine kv_M_of (ls := [some (.ref 28), none, none]) (by decide) (Nat.le_of_ble_eq_true rfl) rfl ?_
  unfold fX11_letLineGo at h
  refine kr_iconst (v := 0) dX11_letLineGo_0 (by decide) ?_
  refine kr_istore_n (i := 1) (ls' := [some (.ref 28), some (.int 0), none]) dX11_letLineGo_1 rfl (Nat.le_of_ble_eq_true rfl) rfl ?_
  exact RX11_letLineGo_2 e N _ _ _ h
set_option maxRecDepth 20000 in
set_option maxHeartbeats 4000000 in
theorem RX11_tours_137 {Z : kv_Z} (e : Nat) {N : Nat} {k60 : kg_G → Int32 → Int32 → Int32 → Int32 → Int32 → Option (Int32 × kg_G)} (hk60 : ∀ (G : kg_G) (l1 : Int32) (l3 : Int32) (l4 : Int32) (l5 : Int32) (l6 : Int32) (res : Int32 × kg_G), k60 G l1 l3 l4 l5 l6 = some res → kv_V Z (e + 5) kMX11_tours 60 [some (.ref 28), some (.int l1), none, some (.int l3), some (.int l4), some (.int l5), some (.int l6), none, none] [] (kg_w G) (some (.int res.1)) (kg_w res.2)) : ∀ (n : Nat) (G : kg_G) (l1 : Int32) (l3 : Int32) (l4 : Int32) (l5 : Int32) (l6 : Int32) (l8 : Int32) (res : Int32 × kg_G), fX11_tours_137 N k60 n G l1 l3 l4 l5 l6 l8 = some res → kv_V Z (e + 5) kMX11_tours 137 [some (.ref 28), some (.int l1), none, some (.int l3), some (.int l4), some (.int l5), some (.int l6), none, some (.int l8)] [] (kg_w G) (some (.int res.1)) (kg_w res.2) := by
  intro n
  induction n with
  | zero => intro G l1 l3 l4 l5 l6 l8 res h; exact absurd h (by intro z; cases z)
  | succ n ih =>
    intro G l1 l3 l4 l5 l6 l8 res h
    have hk137 := ih
    rw [fX11_tours_137] at h
    refine kr_iload dX11_tours_137 rfl ?_
    refine kr_aload_n dX11_tours_139 rfl ?_
    refine kx_g28_3 (G.1 28 3) rfl kw4_140 dX11_tours_140 ?_
    refine kr_icmp_ge (tgt := 171) dX11_tours_143 rfl (fun c143 => ?_) (fun c143 => ?_)
    · rw [if_pos c143] at h
      refine kr_iload dX11_tours_171 rfl ?_
      refine kr_aload_n dX11_tours_173 rfl ?_
      obtain ⟨v1, hv1, h⟩ := Option.bind_eq_some_iff.mp h
      refine kr_callVi (M' := kMX11_letLineGo) (a := 28) (As := []) (st := [.int l5]) (RX11_letLineGo (e + 4) hv1) koX11_letLineGo rfl rfl rfl kw6_45 kw6_47 kws_52 rfl (Nat.le_of_ble_eq_true rfl) dX11_tours_174 ?_
      refine kr_iadd dX11_tours_177 ?_
      refine kr_istore (ls' := [some (.ref 28), some (.int l1), none, some (.int l3), some (.int l4), some (.int (l5 + v1.1)), some (.int l6), none, some (.int l8)]) dX11_tours_178 (Nat.le_of_ble_eq_true rfl) rfl ?_
      refine kr_iinc (v := l6 + 1) (ls' := [some (.ref 28), some (.int l1), none, some (.int l3), some (.int l4), some (.int (l5 + v1.1)), some (.int (l6 + 1)), none, some (.int l8)]) dX11_tours_180 rfl rfl (Nat.le_of_ble_eq_true rfl) rfl ?_
      refine kr_goto (tgt := 60) dX11_tours_183 rfl ?_
      refine kv_loc (ls' := [some (.ref 28), some (.int l1), none, some (.int l3), some (.int l4), some (.int (l5 + v1.1)), some (.int (l6 + 1)), none, none]) (And.intro rfl (And.intro rfl (And.intro rfl (And.intro rfl (And.intro rfl (And.intro rfl trivial)))))) ?_
      exact hk60 _ _ _ _ _ _ _ h
    · rw [if_neg c143] at h
      refine kr_iload dX11_tours_146 rfl ?_
      refine kr_aload_n dX11_tours_148 rfl ?_
      refine kr_iload dX11_tours_149 rfl ?_
      obtain ⟨v2, hv2, h⟩ := Option.bind_eq_some_iff.mp h
      refine kr_callVi (M' := kMX11_takesLine) (a := 28) (As := [.int l8]) (st := [.int l4]) (RX11_takesLine (e + 0) hv2) koX11_takesLine rfl rfl rfl kw6_41 kw6_43 kws_51 rfl (Nat.le_of_ble_eq_true rfl) dX11_tours_151 ?_
      refine kr_if_eq (tgt := 161) dX11_tours_154 rfl (fun c154 => ?_) (fun c154 => ?_)
      · rw [if_pos c154] at h
        refine kr_iconst (v := 0) dX11_tours_161 (by decide) ?_
        refine kr_iadd dX11_tours_162 ?_
        refine kr_istore (ls' := [some (.ref 28), some (.int l1), none, some (.int l3), some (.int (l4 + 0)), some (.int l5), some (.int l6), none, some (.int l8)]) dX11_tours_163 (Nat.le_of_ble_eq_true rfl) rfl ?_
        refine kr_iinc (v := l8 + 1) (ls' := [some (.ref 28), some (.int l1), none, some (.int l3), some (.int (l4 + 0)), some (.int l5), some (.int l6), none, some (.int (l8 + 1))]) dX11_tours_165 rfl rfl (Nat.le_of_ble_eq_true rfl) rfl ?_
        refine kr_goto (tgt := 137) dX11_tours_168 rfl ?_
        exact hk137 _ _ _ _ _ _ _ _ h
      · rw [if_neg c154] at h
        refine kr_iconst (v := 1) dX11_tours_157 (by decide) ?_
        refine kr_goto (tgt := 162) dX11_tours_158 rfl ?_
        refine kr_iadd dX11_tours_162 ?_
        refine kr_istore (ls' := [some (.ref 28), some (.int l1), none, some (.int l3), some (.int (l4 + 1)), some (.int l5), some (.int l6), none, some (.int l8)]) dX11_tours_163 (Nat.le_of_ble_eq_true rfl) rfl ?_
        refine kr_iinc (v := l8 + 1) (ls' := [some (.ref 28), some (.int l1), none, some (.int l3), some (.int (l4 + 1)), some (.int l5), some (.int l6), none, some (.int (l8 + 1))]) dX11_tours_165 rfl rfl (Nat.le_of_ble_eq_true rfl) rfl ?_
        refine kr_goto (tgt := 137) dX11_tours_168 rfl ?_
        exact hk137 _ _ _ _ _ _ _ _ h
set_option maxRecDepth 20000 in
set_option maxHeartbeats 4000000 in
theorem RX11_tours_106 {Z : kv_Z} (e : Nat) {N : Nat} {k60 : kg_G → Int32 → Int32 → Int32 → Int32 → Int32 → Option (Int32 × kg_G)} (hk60 : ∀ (G : kg_G) (l1 : Int32) (l3 : Int32) (l4 : Int32) (l5 : Int32) (l6 : Int32) (res : Int32 × kg_G), k60 G l1 l3 l4 l5 l6 = some res → kv_V Z (e + 5) kMX11_tours 60 [some (.ref 28), some (.int l1), none, some (.int l3), some (.int l4), some (.int l5), some (.int l6), none, none] [] (kg_w G) (some (.int res.1)) (kg_w res.2)) : ∀ (n : Nat) (G : kg_G) (l1 : Int32) (l3 : Int32) (l4 : Int32) (l5 : Int32) (l6 : Int32) (l8 : Int32) (res : Int32 × kg_G), fX11_tours_106 N k60 n G l1 l3 l4 l5 l6 l8 = some res → kv_V Z (e + 5) kMX11_tours 106 [some (.ref 28), some (.int l1), none, some (.int l3), some (.int l4), some (.int l5), some (.int l6), none, some (.int l8)] [] (kg_w G) (some (.int res.1)) (kg_w res.2) := by
  intro n
  induction n with
  | zero => intro G l1 l3 l4 l5 l6 l8 res h; exact absurd h (by intro z; cases z)
  | succ n ih =>
    intro G l1 l3 l4 l5 l6 l8 res h
    have hk106 := ih
    rw [fX11_tours_106] at h
    refine kr_iload dX11_tours_106 rfl ?_
    refine kr_iconst (v := 5) dX11_tours_108 (by decide) ?_
    refine kr_icmp_ge (tgt := 134) dX11_tours_109 rfl (fun c109 => ?_) (fun c109 => ?_)
    · rw [if_pos c109] at h
      refine kr_iconst (v := 0) dX11_tours_134 (by decide) ?_
      refine kr_istore (ls' := [some (.ref 28), some (.int l1), none, some (.int l3), some (.int l4), some (.int l5), some (.int l6), none, some (.int 0)]) dX11_tours_135 (Nat.le_of_ble_eq_true rfl) rfl ?_
      exact RX11_tours_137 e hk60 N _ _ _ _ _ _ _ _ h
    · rw [if_neg c109] at h
      refine kr_aload_n dX11_tours_112 rfl ?_
      refine kx_g28_27 kw4_164 dX11_tours_113 ?_
      refine kr_iload dX11_tours_116 rfl ?_
      refine kr_iconst (v := 0) dX11_tours_118 (by decide) ?_
      obtain ⟨v1, hv1, h⟩ := Option.bind_eq_some_iff.mp h
      refine kx_s40 (G.2.1 40) rfl hv1 dX11_tours_119 ?_
      refine kr_aload_n dX11_tours_120 rfl ?_
      refine kx_g28_28 kw4_165 dX11_tours_121 ?_
      refine kr_iload dX11_tours_124 rfl ?_
      refine kr_iconst (v := 0) dX11_tours_126 (by decide) ?_
      obtain ⟨v2, hv2, h⟩ := Option.bind_eq_some_iff.mp h
      refine kx_s41 (G.2.1 41) rfl hv2 dX11_tours_127 ?_
      refine kr_iinc (v := l8 + 1) (ls' := [some (.ref 28), some (.int l1), none, some (.int l3), some (.int l4), some (.int l5), some (.int l6), none, some (.int (l8 + 1))]) dX11_tours_128 rfl rfl (Nat.le_of_ble_eq_true rfl) rfl ?_
      refine kr_goto (tgt := 106) dX11_tours_131 rfl ?_
      exact hk106 _ _ _ _ _ _ _ _ h
set_option maxRecDepth 20000 in
set_option maxHeartbeats 4000000 in
theorem RX11_tours_60 {Z : kv_Z} (e : Nat) {N : Nat} : ∀ (n : Nat) (G : kg_G) (l1 : Int32) (l3 : Int32) (l4 : Int32) (l5 : Int32) (l6 : Int32) (res : Int32 × kg_G), fX11_tours_60 N n G l1 l3 l4 l5 l6 = some res → kv_V Z (e + 5) kMX11_tours 60 [some (.ref 28), some (.int l1), none, some (.int l3), some (.int l4), some (.int l5), some (.int l6), none, none] [] (kg_w G) (some (.int res.1)) (kg_w res.2) := by
  intro n
  induction n with
  | zero => intro G l1 l3 l4 l5 l6 res h; exact absurd h (by intro z; cases z)
  | succ n ih =>
    intro G l1 l3 l4 l5 l6 res h
    have hk60 := ih
    rw [fX11_tours_60] at h
    refine kr_iload dX11_tours_60 rfl ?_
    refine kr_iload_n dX11_tours_62 rfl ?_
    refine kr_icmp_ge (tgt := 186) dX11_tours_63 rfl (fun c63 => ?_) (fun c63 => ?_)
    · rw [if_pos c63] at h
      refine kr_iload_n dX11_tours_186 rfl ?_
      refine kr_if_ne (tgt := 195) dX11_tours_187 rfl (fun c187 => ?_) (fun c187 => ?_)
      · rw [if_pos c187] at h
        refine kr_iload dX11_tours_190 rfl ?_
        refine kr_goto (tgt := 209) dX11_tours_192 rfl ?_
        cases h
        exact kr_iret rfl dX11_tours_209
      · rw [if_neg c187] at h
        refine kr_iload_n dX11_tours_195 rfl ?_
        refine kr_iconst (v := 1) dX11_tours_196 (by decide) ?_
        refine kr_icmp_ne (tgt := 205) dX11_tours_197 rfl (fun c197 => ?_) (fun c197 => ?_)
        · rw [if_pos c197] at h
          refine kr_iload dX11_tours_200 rfl ?_
          refine kr_goto (tgt := 209) dX11_tours_202 rfl ?_
          cases h
          exact kr_iret rfl dX11_tours_209
        · rw [if_neg c197] at h
          refine kr_aload_n dX11_tours_205 rfl ?_
          refine kx_g28_25 (G.1 28 25) rfl kw4_162 dX11_tours_206 ?_
          cases h
          exact kr_iret rfl dX11_tours_209
    · rw [if_neg c63] at h
      refine kr_aload_n dX11_tours_66 rfl ?_
      refine kr_bipush (v := 10) dX11_tours_67 (by decide) ?_
      obtain ⟨v1, hv1, h⟩ := Option.bind_eq_some_iff.mp h
      refine kr_callVi (M' := kMX11_draw) (a := 28) (As := [.int 10]) (st := []) (RX11_draw (e + 4) hv1) koX11_draw rfl rfl rfl kw6_33 kw6_35 kws_50 rfl (Nat.le_of_ble_eq_true rfl) dX11_tours_69 ?_
      refine kr_istore (ls' := [some (.ref 28), some (.int l1), none, some (.int l3), some (.int l4), some (.int l5), some (.int l6), some (.int v1.1), none]) dX11_tours_72 (Nat.le_of_ble_eq_true rfl) rfl ?_
      refine kr_aload_n dX11_tours_74 rfl ?_
      refine kx_g28_29 (v1.2.1 28 29) rfl kw4_166 dX11_tours_75 ?_
      refine kr_iconst (v := 5) dX11_tours_78 (by decide) ?_
      refine kr_icmp_ge (tgt := 103) dX11_tours_79 rfl (fun c79 => ?_) (fun c79 => ?_)
      · rw [if_pos c79] at h
        refine kr_iconst (v := 0) dX11_tours_103 (by decide) ?_
        refine kr_istore (ls' := [some (.ref 28), some (.int l1), none, some (.int l3), some (.int l4), some (.int l5), some (.int l6), some (.int v1.1), some (.int 0)]) dX11_tours_104 (Nat.le_of_ble_eq_true rfl) rfl ?_
        refine kv_loc (ls' := [some (.ref 28), some (.int l1), none, some (.int l3), some (.int l4), some (.int l5), some (.int l6), none, some (.int 0)]) (And.intro rfl (And.intro rfl (And.intro rfl (And.intro rfl (And.intro rfl (And.intro rfl (And.intro rfl trivial))))))) ?_
        exact RX11_tours_106 e hk60 N _ _ _ _ _ _ _ _ h
      · rw [if_neg c79] at h
        refine kr_aload_n dX11_tours_82 rfl ?_
        refine kx_g28_26 kw4_163 dX11_tours_83 ?_
        refine kr_aload_n dX11_tours_86 rfl ?_
        refine kx_g28_29 (v1.2.1 28 29) rfl kw4_166 dX11_tours_87 ?_
        refine kr_iload dX11_tours_90 rfl ?_
        obtain ⟨v2, hv2, h⟩ := Option.bind_eq_some_iff.mp h
        refine kx_s39 (v1.2.2.1 39) rfl hv2 dX11_tours_92 ?_
        refine kr_aload_n dX11_tours_93 rfl ?_
        refine kr_dup dX11_tours_94 rfl ?_
        refine kx_g28_29 (v1.2.1 28 29) rfl kw4_166 dX11_tours_95 ?_
        refine kr_iconst (v := 1) dX11_tours_98 (by decide) ?_
        refine kr_iadd dX11_tours_99 ?_
        refine kx_p28_29 kw4_166 dX11_tours_100 ?_
        refine kr_iconst (v := 0) dX11_tours_103 (by decide) ?_
        refine kr_istore (ls' := [some (.ref 28), some (.int l1), none, some (.int l3), some (.int l4), some (.int l5), some (.int l6), some (.int v1.1), some (.int 0)]) dX11_tours_104 (Nat.le_of_ble_eq_true rfl) rfl ?_
        refine kv_loc (ls' := [some (.ref 28), some (.int l1), none, some (.int l3), some (.int l4), some (.int l5), some (.int l6), none, some (.int 0)]) (And.intro rfl (And.intro rfl (And.intro rfl (And.intro rfl (And.intro rfl (And.intro rfl (And.intro rfl trivial))))))) ?_
        exact RX11_tours_106 e hk60 N _ _ _ _ _ _ _ _ h
set_option maxRecDepth 20000 in
set_option maxHeartbeats 4000000 in
theorem RX11_tours {Z : kv_Z} (e : Nat) {N : Nat} {G : kg_G} {l1 : Int32} {l2 : Int32} {l3 : Int32} {res : Int32 × kg_G} (h : fX11_tours N G l1 l2 l3 = some res) : kv_M Z (e + 5) kMX11_tours [.ref 28, .int l1, .int l2, .int l3] (kg_w G) (some (.int res.1)) (kg_w res.2) := by
  refine kv_M_of (ls := [some (.ref 28), some (.int l1), some (.int l2), some (.int l3), none, none, none, none, none]) (by decide) (Nat.le_of_ble_eq_true rfl) rfl ?_
  unfold fX11_tours at h
  refine kr_iload_n dX11_tours_0 rfl ?_
  refine kr_i2l dX11_tours_1 ?_
  refine kr_lconst (v := 1) dX11_tours_2 (by decide) ?_
  refine kr_ldc2 (x := 40) kw6_31 dX11_tours_3 ?_
  refine kr_callSi (M' := kMX11_in) (As := [.long l1.toInt64, .long 1, .long 40]) (st := []) (RX11_in (e + 4) rfl) koX11_in rfl kw5_29 kw5_30 rfl (Nat.le_of_ble_eq_true rfl) dX11_tours_6 ?_
  refine kr_if_eq (tgt := 28) dX11_tours_9 rfl (fun c9 => ?_) (fun c9 => ?_)
  · rw [if_pos c9] at h
    refine kr_bipush (v := (-102)) dX11_tours_28 (by decide) ?_
    cases h
    exact kr_iret rfl dX11_tours_30
  · rw [if_neg c9] at h
    refine kr_iload_n dX11_tours_12 rfl ?_
    refine kr_if_lt (tgt := 28) dX11_tours_13 rfl (fun c13 => ?_) (fun c13 => ?_)
    · rw [if_pos c13] at h
      refine kr_bipush (v := (-102)) dX11_tours_28 (by decide) ?_
      cases h
      exact kr_iret rfl dX11_tours_30
    · rw [if_neg c13] at h
      refine kr_iload_n dX11_tours_16 rfl ?_
      refine kr_i2l dX11_tours_17 ?_
      refine kr_lconst (v := 0) dX11_tours_18 (by decide) ?_
      refine kr_ldc2 (x := 2) kw6_32 dX11_tours_19 ?_
      refine kr_callSi (M' := kMX11_in) (As := [.long l3.toInt64, .long 0, .long 2]) (st := []) (RX11_in (e + 4) rfl) koX11_in rfl kw5_29 kw5_30 rfl (Nat.le_of_ble_eq_true rfl) dX11_tours_22 ?_
      refine kr_if_ne (tgt := 31) dX11_tours_25 rfl (fun c25 => ?_) (fun c25 => ?_)
      · rw [if_pos c25] at h
        refine kr_bipush (v := (-102)) dX11_tours_28 (by decide) ?_
        cases h
        exact kr_iret rfl dX11_tours_30
      · rw [if_neg c25] at h
        refine kr_aload_n dX11_tours_31 rfl ?_
        refine kr_callVi (M' := kMX11_lacks) (a := 28) (As := []) (st := []) (RX11_lacks (e + 4) rfl) koX11_lacks rfl rfl rfl kw5_169 kw5_171 kws_39 rfl (Nat.le_of_ble_eq_true rfl) dX11_tours_32 ?_
        refine kr_if_eq (tgt := 41) dX11_tours_35 rfl (fun c35 => ?_) (fun c35 => ?_)
        · rw [if_pos c35] at h
          refine kr_aload_n dX11_tours_41 rfl ?_
          refine kr_iload_n dX11_tours_42 rfl ?_
          refine kx_p28_25 kw4_162 dX11_tours_43 ?_
          refine kr_aload_n dX11_tours_46 rfl ?_
          refine kr_iconst (v := 0) dX11_tours_47 (by decide) ?_
          refine kx_p28_29 kw4_166 dX11_tours_48 ?_
          refine kr_iconst (v := 0) dX11_tours_51 (by decide) ?_
          refine kr_istore (ls' := [some (.ref 28), some (.int l1), some (.int l2), some (.int l3), some (.int 0), none, none, none, none]) dX11_tours_52 (Nat.le_of_ble_eq_true rfl) rfl ?_
          refine kr_iconst (v := 0) dX11_tours_54 (by decide) ?_
          refine kr_istore (ls' := [some (.ref 28), some (.int l1), some (.int l2), some (.int l3), some (.int 0), some (.int 0), none, none, none]) dX11_tours_55 (Nat.le_of_ble_eq_true rfl) rfl ?_
          refine kr_iconst (v := 0) dX11_tours_57 (by decide) ?_
          refine kr_istore (ls' := [some (.ref 28), some (.int l1), some (.int l2), some (.int l3), some (.int 0), some (.int 0), some (.int 0), none, none]) dX11_tours_58 (Nat.le_of_ble_eq_true rfl) rfl ?_
          refine kv_loc (ls' := [some (.ref 28), some (.int l1), none, some (.int l3), some (.int 0), some (.int 0), some (.int 0), none, none]) (And.intro rfl (And.intro rfl (And.intro rfl (And.intro rfl (And.intro rfl (And.intro rfl trivial)))))) ?_
          exact RX11_tours_60 e N _ _ _ _ _ _ _ h
        · rw [if_neg c35] at h
          refine kr_bipush (v := (-103)) dX11_tours_38 (by decide) ?_
          cases h
          exact kr_iret rfl dX11_tours_40
set_option maxRecDepth 20000 in
set_option maxHeartbeats 4000000 in
theorem RX11_image {Z : kv_Z} (e : Nat) {N : Nat} {G : kg_G} {res : Int32 × kg_G} (h : fX11_image N G = some res) : kv_M Z (e + 1) kMX11_image [.ref 28] (kg_w G) (some (.int res.1)) (kg_w res.2) := by
  refine kv_M_of (ls := [some (.ref 28)]) (by decide) (Nat.le_of_ble_eq_true rfl) rfl ?_
  unfold fX11_image at h
  refine kr_aload_n dX11_image_0 rfl ?_
  refine kr_callVi (M' := kMX11_lacks) (a := 28) (As := []) (st := []) (RX11_lacks (e + 0) rfl) koX11_lacks rfl rfl rfl kw5_169 kw5_171 kws_39 rfl (Nat.le_of_ble_eq_true rfl) dX11_image_1 ?_
  refine kr_if_eq (tgt := 10) dX11_image_4 rfl (fun c4 => ?_) (fun c4 => ?_)
  · rw [if_pos c4] at h
    refine kr_aload_n dX11_image_10 rfl ?_
    refine kx_g28_13 kw4_150 dX11_image_11 ?_
    refine kr_aload_n dX11_image_14 rfl ?_
    refine kx_g28_38 kw4_175 dX11_image_15 ?_
    obtain ⟨v2, hv2, h⟩ := Option.bind_eq_some_iff.mp h
    refine kr_callSv (M' := kMX11_copy) (As := [.ref 31, .ref 42]) (st := []) (RX11_copy (e + 0) hv2) koX11_copy rfl kw5_212 kw5_213 rfl (Nat.le_of_ble_eq_true rfl) dX11_image_18 ?_
    refine kr_aload_n dX11_image_21 rfl ?_
    refine kx_g28_14 kw4_151 dX11_image_22 ?_
    refine kr_aload_n dX11_image_25 rfl ?_
    refine kx_g28_39 kw4_176 dX11_image_26 ?_
    obtain ⟨v3, hv3, h⟩ := Option.bind_eq_some_iff.mp h
    refine kr_callSv (M' := kMX11_copy) (As := [.ref 32, .ref 43]) (st := []) (RX11_copy (e + 0) hv3) koX11_copy rfl kw5_212 kw5_213 rfl (Nat.le_of_ble_eq_true rfl) dX11_image_29 ?_
    refine kr_aload_n dX11_image_32 rfl ?_
    refine kx_g28_24 kw4_161 dX11_image_33 ?_
    refine kr_aload_n dX11_image_36 rfl ?_
    refine kx_g28_40 kw4_177 dX11_image_37 ?_
    obtain ⟨v4, hv4, h⟩ := Option.bind_eq_some_iff.mp h
    refine kr_callSv (M' := kMX11_copy) (As := [.ref 38, .ref 44]) (st := []) (RX11_copy (e + 0) hv4) koX11_copy rfl kw5_212 kw5_213 rfl (Nat.le_of_ble_eq_true rfl) dX11_image_40 ?_
    refine kr_aload_n dX11_image_43 rfl ?_
    refine kr_aload_n dX11_image_44 rfl ?_
    refine kx_g28_5 (v4.1 28 5) rfl kw4_142 dX11_image_45 ?_
    refine kx_p28_31 kw4_168 dX11_image_48 ?_
    refine kr_aload_n dX11_image_51 rfl ?_
    refine kr_aload_n dX11_image_52 rfl ?_
    refine kx_g28_6 (v4.1 28 6) rfl kw4_143 dX11_image_53 ?_
    refine kx_p28_32 kw4_169 dX11_image_56 ?_
    refine kr_aload_n dX11_image_59 rfl ?_
    refine kr_aload_n dX11_image_60 rfl ?_
    refine kx_g28_7 (v4.1 28 7) rfl kw4_144 dX11_image_61 ?_
    refine kx_p28_33 kw4_170 dX11_image_64 ?_
    refine kr_aload_n dX11_image_67 rfl ?_
    refine kr_aload_n dX11_image_68 rfl ?_
    refine kx_g28_8 (v4.1 28 8) rfl kw4_145 dX11_image_69 ?_
    refine kx_p28_34 kw4_171 dX11_image_72 ?_
    refine kr_aload_n dX11_image_75 rfl ?_
    refine kr_aload_n dX11_image_76 rfl ?_
    refine kx_g28_9 (v4.1 28 9) rfl kw4_146 dX11_image_77 ?_
    refine kx_p28_35 kw4_172 dX11_image_80 ?_
    refine kr_aload_n dX11_image_83 rfl ?_
    refine kr_aload_n dX11_image_84 rfl ?_
    refine kx_g28_10 (v4.1 28 10) rfl kw4_147 dX11_image_85 ?_
    refine kx_p28_36 kw4_173 dX11_image_88 ?_
    refine kr_aload_n dX11_image_91 rfl ?_
    refine kr_aload_n dX11_image_92 rfl ?_
    refine kx_g28_23 (v4.1 28 23) rfl kw4_160 dX11_image_93 ?_
    refine kx_p28_37 kw4_174 dX11_image_96 ?_
    refine kr_aload_n dX11_image_99 rfl ?_
    refine kr_aload_n dX11_image_100 rfl ?_
    refine kx_g28_11 (v4.1 28 11) rfl kw4_148 dX11_image_101 ?_
    refine kx_p28_30 kw4_167 dX11_image_104 ?_
    refine kr_aload_n dX11_image_107 rfl ?_
    refine kx_g28_6 (v4.1 28 6) rfl kw4_143 dX11_image_108 ?_
    cases h
    exact kr_iret rfl dX11_image_111
  · rw [if_neg c4] at h
    refine kr_bipush (v := (-103)) dX11_image_7 (by decide) ?_
    cases h
    exact kr_iret rfl dX11_image_9
set_option maxRecDepth 20000 in
set_option maxHeartbeats 4000000 in
theorem RX11_restore {Z : kv_Z} (e : Nat) {N : Nat} {G : kg_G} {res : Int32 × kg_G} (h : fX11_restore N G = some res) : kv_M Z (e + 1) kMX11_restore [.ref 28] (kg_w G) (some (.int res.1)) (kg_w res.2) := by
  refine kv_M_of (ls := [some (.ref 28)]) (by decide) (Nat.le_of_ble_eq_true rfl) rfl ?_
  unfold fX11_restore at h
  refine kr_aload_n dX11_restore_0 rfl ?_
  refine kx_g28_30 (G.1 28 30) rfl kw4_167 dX11_restore_1 ?_
  refine kr_aload_n dX11_restore_4 rfl ?_
  refine kx_g28_11 (G.1 28 11) rfl kw4_148 dX11_restore_5 ?_
  refine kr_icmp_eq (tgt := 14) dX11_restore_8 rfl (fun c8 => ?_) (fun c8 => ?_)
  · rw [if_pos c8] at h
    refine kr_aload_n dX11_restore_14 rfl ?_
    refine kx_g28_38 kw4_175 dX11_restore_15 ?_
    refine kr_aload_n dX11_restore_18 rfl ?_
    refine kx_g28_13 kw4_150 dX11_restore_19 ?_
    obtain ⟨v1, hv1, h⟩ := Option.bind_eq_some_iff.mp h
    refine kr_callSv (M' := kMX11_copy) (As := [.ref 42, .ref 31]) (st := []) (RX11_copy (e + 0) hv1) koX11_copy rfl kw5_212 kw5_213 rfl (Nat.le_of_ble_eq_true rfl) dX11_restore_22 ?_
    refine kr_aload_n dX11_restore_25 rfl ?_
    refine kx_g28_39 kw4_176 dX11_restore_26 ?_
    refine kr_aload_n dX11_restore_29 rfl ?_
    refine kx_g28_14 kw4_151 dX11_restore_30 ?_
    obtain ⟨v2, hv2, h⟩ := Option.bind_eq_some_iff.mp h
    refine kr_callSv (M' := kMX11_copy) (As := [.ref 43, .ref 32]) (st := []) (RX11_copy (e + 0) hv2) koX11_copy rfl kw5_212 kw5_213 rfl (Nat.le_of_ble_eq_true rfl) dX11_restore_33 ?_
    refine kr_aload_n dX11_restore_36 rfl ?_
    refine kx_g28_40 kw4_177 dX11_restore_37 ?_
    refine kr_aload_n dX11_restore_40 rfl ?_
    refine kx_g28_24 kw4_161 dX11_restore_41 ?_
    obtain ⟨v3, hv3, h⟩ := Option.bind_eq_some_iff.mp h
    refine kr_callSv (M' := kMX11_copy) (As := [.ref 44, .ref 38]) (st := []) (RX11_copy (e + 0) hv3) koX11_copy rfl kw5_212 kw5_213 rfl (Nat.le_of_ble_eq_true rfl) dX11_restore_44 ?_
    refine kr_aload_n dX11_restore_47 rfl ?_
    refine kr_aload_n dX11_restore_48 rfl ?_
    refine kx_g28_31 (v3.1 28 31) rfl kw4_168 dX11_restore_49 ?_
    refine kx_p28_5 kw4_142 dX11_restore_52 ?_
    refine kr_aload_n dX11_restore_55 rfl ?_
    refine kr_aload_n dX11_restore_56 rfl ?_
    refine kx_g28_32 (v3.1 28 32) rfl kw4_169 dX11_restore_57 ?_
    refine kx_p28_6 kw4_143 dX11_restore_60 ?_
    refine kr_aload_n dX11_restore_63 rfl ?_
    refine kr_aload_n dX11_restore_64 rfl ?_
    refine kx_g28_33 (v3.1 28 33) rfl kw4_170 dX11_restore_65 ?_
    refine kx_p28_7 kw4_144 dX11_restore_68 ?_
    refine kr_aload_n dX11_restore_71 rfl ?_
    refine kr_aload_n dX11_restore_72 rfl ?_
    refine kx_g28_34 (v3.1 28 34) rfl kw4_171 dX11_restore_73 ?_
    refine kx_p28_8 kw4_145 dX11_restore_76 ?_
    refine kr_aload_n dX11_restore_79 rfl ?_
    refine kr_aload_n dX11_restore_80 rfl ?_
    refine kx_g28_35 (v3.1 28 35) rfl kw4_172 dX11_restore_81 ?_
    refine kx_p28_9 kw4_146 dX11_restore_84 ?_
    refine kr_aload_n dX11_restore_87 rfl ?_
    refine kr_aload_n dX11_restore_88 rfl ?_
    refine kx_g28_36 (v3.1 28 36) rfl kw4_173 dX11_restore_89 ?_
    refine kx_p28_10 kw4_147 dX11_restore_92 ?_
    refine kr_aload_n dX11_restore_95 rfl ?_
    refine kr_aload_n dX11_restore_96 rfl ?_
    refine kx_g28_37 (v3.1 28 37) rfl kw4_174 dX11_restore_97 ?_
    refine kx_p28_23 kw4_160 dX11_restore_100 ?_
    refine kr_aload_n dX11_restore_103 rfl ?_
    refine kx_g28_6 (v3.1 28 32) rfl kw4_143 dX11_restore_104 ?_
    cases h
    exact kr_iret rfl dX11_restore_107
  · rw [if_neg c8] at h
    refine kr_bipush (v := (-103)) dX11_restore_11 (by decide) ?_
    cases h
    exact kr_iret rfl dX11_restore_13
set_option maxRecDepth 20000 in
set_option maxHeartbeats 4000000 in
theorem RX11_countMore {Z : kv_Z} (e : Nat) {G : kg_G} {l1 : Int32} {res : Int32} (h : fX11_countMore G l1 = res) : kv_M Z (e + 0) kMX11_countMore [.ref 28, .int l1] (kg_w G) (some (.int res)) (kg_w G) := by
  refine kv_M_of (ls := [some (.ref 28), some (.int l1)]) (by decide) (Nat.le_of_ble_eq_true rfl) rfl ?_
  unfold fX11_countMore at h
  refine kr_iload_n dX11_countMore_0 rfl ?_
  by_cases c1_9 : l1 = 9
  · rw [if_pos c1_9] at h
    refine kr_tableIn (off := 47) (tgt := 48) dX11_countMore_1 (by rw [c1_9]; decide) (by rw [c1_9]; decide) (by rw [c1_9]; decide) rfl ?_
    refine kr_aload_n dX11_countMore_48 rfl ?_
    refine kx_g28_9 (G.1 28 9) rfl kw4_146 dX11_countMore_49 ?_
    cases h
    exact kr_iret rfl dX11_countMore_52
  rw [if_neg c1_9] at h
  by_cases c1_10 : l1 = 10
  · rw [if_pos c1_10] at h
    refine kr_tableIn (off := 52) (tgt := 53) dX11_countMore_1 (by rw [c1_10]; decide) (by rw [c1_10]; decide) (by rw [c1_10]; decide) rfl ?_
    refine kr_aload_n dX11_countMore_53 rfl ?_
    refine kx_g28_10 (G.1 28 10) rfl kw4_147 dX11_countMore_54 ?_
    cases h
    exact kr_iret rfl dX11_countMore_57
  rw [if_neg c1_10] at h
  by_cases c1_11 : l1 = 11
  · rw [if_pos c1_11] at h
    refine kr_tableIn (off := 57) (tgt := 58) dX11_countMore_1 (by rw [c1_11]; decide) (by rw [c1_11]; decide) (by rw [c1_11]; decide) rfl ?_
    refine kr_aload_n dX11_countMore_58 rfl ?_
    refine kx_g28_23 (G.1 28 23) rfl kw4_160 dX11_countMore_59 ?_
    cases h
    exact kr_iret rfl dX11_countMore_62
  rw [if_neg c1_11] at h
  by_cases c1_12 : l1 = 12
  · rw [if_pos c1_12] at h
    refine kr_tableIn (off := 62) (tgt := 63) dX11_countMore_1 (by rw [c1_12]; decide) (by rw [c1_12]; decide) (by rw [c1_12]; decide) rfl ?_
    refine kr_aload_n dX11_countMore_63 rfl ?_
    refine kx_g28_1 (G.1 28 1) rfl kw4_138 dX11_countMore_64 ?_
    cases h
    exact kr_iret rfl dX11_countMore_67
  rw [if_neg c1_12] at h
  by_cases c1_13 : l1 = 13
  · rw [if_pos c1_13] at h
    refine kr_tableIn (off := 67) (tgt := 68) dX11_countMore_1 (by rw [c1_13]; decide) (by rw [c1_13]; decide) (by rw [c1_13]; decide) rfl ?_
    refine kr_aload_n dX11_countMore_68 rfl ?_
    refine kx_g28_11 (G.1 28 11) rfl kw4_148 dX11_countMore_69 ?_
    cases h
    exact kr_iret rfl dX11_countMore_72
  rw [if_neg c1_13] at h
  by_cases c1_14 : l1 = 14
  · rw [if_pos c1_14] at h
    refine kr_tableIn (off := 72) (tgt := 73) dX11_countMore_1 (by rw [c1_14]; decide) (by rw [c1_14]; decide) (by rw [c1_14]; decide) rfl ?_
    refine kr_aload_n dX11_countMore_73 rfl ?_
    refine kx_g28_15 (G.1 28 15) rfl kw4_152 dX11_countMore_74 ?_
    cases h
    exact kr_iret rfl dX11_countMore_77
  rw [if_neg c1_14] at h
  by_cases c1_15 : l1 = 15
  · rw [if_pos c1_15] at h
    refine kr_tableIn (off := 77) (tgt := 78) dX11_countMore_1 (by rw [c1_15]; decide) (by rw [c1_15]; decide) (by rw [c1_15]; decide) rfl ?_
    refine kr_aload_n dX11_countMore_78 rfl ?_
    refine kx_g28_21 (G.1 28 21) rfl kw4_158 dX11_countMore_79 ?_
    cases h
    exact kr_iret rfl dX11_countMore_82
  rw [if_neg c1_15] at h
  by_cases c1_16 : l1 = 16
  · rw [if_pos c1_16] at h
    refine kr_tableIn (off := 82) (tgt := 83) dX11_countMore_1 (by rw [c1_16]; decide) (by rw [c1_16]; decide) (by rw [c1_16]; decide) rfl ?_
    refine kr_aload_n dX11_countMore_83 rfl ?_
    refine kx_g28_22 (G.1 28 22) rfl kw4_159 dX11_countMore_84 ?_
    cases h
    exact kr_iret rfl dX11_countMore_87
  rw [if_neg c1_16] at h
  refine kr_tableOut (tgt := 88) dX11_countMore_1 (by have q9 := lv_neT c1_9 (a := 9) (by decide); have q10 := lv_neT c1_10 (a := 10) (by decide); have q11 := lv_neT c1_11 (a := 11) (by decide); have q12 := lv_neT c1_12 (a := 12) (by decide); have q13 := lv_neT c1_13 (a := 13) (by decide); have q14 := lv_neT c1_14 (a := 14) (by decide); have q15 := lv_neT c1_15 (a := 15) (by decide); have q16 := lv_neT c1_16 (a := 16) (by decide); omega) rfl ?_
  refine kr_bipush (v := (-102)) dX11_countMore_88 (by decide) ?_
  cases h
  exact kr_iret rfl dX11_countMore_90
set_option maxRecDepth 20000 in
set_option maxHeartbeats 4000000 in
theorem RX11_countOf {Z : kv_Z} (e : Nat) {N : Nat} {G : kg_G} {l1 : Int32} {res : Int32} (h : fX11_countOf N G l1 = some res) : kv_M Z (e + 4) kMX11_countOf [.ref 28, .int l1] (kg_w G) (some (.int res)) (kg_w G) := by
  refine kv_M_of (ls := [some (.ref 28), some (.int l1)]) (by decide) (Nat.le_of_ble_eq_true rfl) rfl ?_
  unfold fX11_countOf at h
  refine kr_iload_n dX11_countOf_0 rfl ?_
  by_cases c1_0 : l1 = 0
  · rw [if_pos c1_0] at h
    refine kr_tableIn (off := 51) (tgt := 52) dX11_countOf_1 (by rw [c1_0]; decide) (by rw [c1_0]; decide) (by rw [c1_0]; decide) rfl ?_
    refine kr_aload_n dX11_countOf_52 rfl ?_
    refine kx_g28_3 (G.1 28 3) rfl kw4_140 dX11_countOf_53 ?_
    cases h
    exact kr_iret rfl dX11_countOf_56
  rw [if_neg c1_0] at h
  by_cases c1_1 : l1 = 1
  · rw [if_pos c1_1] at h
    refine kr_tableIn (off := 56) (tgt := 57) dX11_countOf_1 (by rw [c1_1]; decide) (by rw [c1_1]; decide) (by rw [c1_1]; decide) rfl ?_
    refine kr_aload_n dX11_countOf_57 rfl ?_
    refine kx_g28_4 (G.1 28 4) rfl kw4_141 dX11_countOf_58 ?_
    cases h
    exact kr_iret rfl dX11_countOf_61
  rw [if_neg c1_1] at h
  by_cases c1_2 : l1 = 2
  · rw [if_pos c1_2] at h
    refine kr_tableIn (off := 61) (tgt := 62) dX11_countOf_1 (by rw [c1_2]; decide) (by rw [c1_2]; decide) (by rw [c1_2]; decide) rfl ?_
    refine kr_aload_n dX11_countOf_62 rfl ?_
    obtain ⟨v1, hv1, h⟩ := Option.bind_eq_some_iff.mp h
    refine kr_callVi (M' := kMX11_keptSet) (a := 28) (As := []) (st := []) (RX11_keptSet (e + 2) hv1) koX11_keptSet rfl rfl rfl kw5_185 kw5_187 kws_41 rfl (Nat.le_of_ble_eq_true rfl) dX11_countOf_63 ?_
    obtain ⟨v2, hv2, h⟩ := Option.bind_eq_some_iff.mp h
    refine kr_callSi (M' := kMX11_ones) (As := [.int v1]) (st := []) (RX11_ones (e + 3) hv2) koX11_ones rfl kw5_89 kw5_90 rfl (Nat.le_of_ble_eq_true rfl) dX11_countOf_66 ?_
    cases h
    exact kr_iret rfl dX11_countOf_69
  rw [if_neg c1_2] at h
  by_cases c1_3 : l1 = 3
  · rw [if_pos c1_3] at h
    refine kr_tableIn (off := 69) (tgt := 70) dX11_countOf_1 (by rw [c1_3]; decide) (by rw [c1_3]; decide) (by rw [c1_3]; decide) rfl ?_
    refine kr_aload_n dX11_countOf_70 rfl ?_
    obtain ⟨v3, hv3, h⟩ := Option.bind_eq_some_iff.mp h
    refine kr_callVi (M' := kMX11_doneNow) (a := 28) (As := []) (st := []) (RX11_doneNow (e + 0) hv3) koX11_doneNow rfl rfl rfl kw5_173 kw5_175 kws_40 rfl (Nat.le_of_ble_eq_true rfl) dX11_countOf_71 ?_
    cases h
    exact kr_iret rfl dX11_countOf_74
  rw [if_neg c1_3] at h
  by_cases c1_4 : l1 = 4
  · rw [if_pos c1_4] at h
    refine kr_tableIn (off := 74) (tgt := 75) dX11_countOf_1 (by rw [c1_4]; decide) (by rw [c1_4]; decide) (by rw [c1_4]; decide) rfl ?_
    refine kr_aload_n dX11_countOf_75 rfl ?_
    obtain ⟨v4, hv4, h⟩ := Option.bind_eq_some_iff.mp h
    refine kr_callVi (M' := kMX11_bound) (a := 28) (As := []) (st := []) (RX11_bound (e + 1) hv4) koX11_bound rfl rfl rfl kw6_65 kw6_67 kws_54 rfl (Nat.le_of_ble_eq_true rfl) dX11_countOf_76 ?_
    cases h
    exact kr_iret rfl dX11_countOf_79
  rw [if_neg c1_4] at h
  by_cases c1_5 : l1 = 5
  · rw [if_pos c1_5] at h
    refine kr_tableIn (off := 79) (tgt := 80) dX11_countOf_1 (by rw [c1_5]; decide) (by rw [c1_5]; decide) (by rw [c1_5]; decide) rfl ?_
    refine kr_aload_n dX11_countOf_80 rfl ?_
    refine kx_g28_6 (G.1 28 6) rfl kw4_143 dX11_countOf_81 ?_
    cases h
    exact kr_iret rfl dX11_countOf_84
  rw [if_neg c1_5] at h
  by_cases c1_6 : l1 = 6
  · rw [if_pos c1_6] at h
    refine kr_tableIn (off := 84) (tgt := 85) dX11_countOf_1 (by rw [c1_6]; decide) (by rw [c1_6]; decide) (by rw [c1_6]; decide) rfl ?_
    refine kr_aload_n dX11_countOf_85 rfl ?_
    refine kx_g28_7 (G.1 28 7) rfl kw4_144 dX11_countOf_86 ?_
    cases h
    exact kr_iret rfl dX11_countOf_89
  rw [if_neg c1_6] at h
  by_cases c1_7 : l1 = 7
  · rw [if_pos c1_7] at h
    refine kr_tableIn (off := 89) (tgt := 90) dX11_countOf_1 (by rw [c1_7]; decide) (by rw [c1_7]; decide) (by rw [c1_7]; decide) rfl ?_
    refine kr_aload_n dX11_countOf_90 rfl ?_
    refine kx_g28_8 (G.1 28 8) rfl kw4_145 dX11_countOf_91 ?_
    cases h
    exact kr_iret rfl dX11_countOf_94
  rw [if_neg c1_7] at h
  by_cases c1_8 : l1 = 8
  · rw [if_pos c1_8] at h
    refine kr_tableIn (off := 94) (tgt := 95) dX11_countOf_1 (by rw [c1_8]; decide) (by rw [c1_8]; decide) (by rw [c1_8]; decide) rfl ?_
    refine kr_aload_n dX11_countOf_95 rfl ?_
    refine kx_g28_5 (G.1 28 5) rfl kw4_142 dX11_countOf_96 ?_
    cases h
    exact kr_iret rfl dX11_countOf_99
  rw [if_neg c1_8] at h
  refine kr_tableOut (tgt := 100) dX11_countOf_1 (kx_out9 c1_0 c1_1 c1_2 c1_3 c1_4 c1_5 c1_6 c1_7 c1_8) rfl ?_
  refine kr_aload_n dX11_countOf_100 rfl ?_
  refine kr_iload_n dX11_countOf_101 rfl ?_
  refine kr_callVi (M' := kMX11_countMore) (a := 28) (As := [.int l1]) (st := []) (RX11_countMore (e + 3) rfl) koX11_countMore rfl rfl rfl kw6_69 kw6_71 kws_55 rfl (Nat.le_of_ble_eq_true rfl) dX11_countOf_102 ?_
  cases h
  exact kr_iret rfl dX11_countOf_105
set_option maxRecDepth 20000 in
set_option maxHeartbeats 4000000 in
theorem RX11_count {Z : kv_Z} (e : Nat) {N : Nat} {G : kg_G} {l1 : Int32} {res : Int32} (h : fX11_count N G l1 = some res) : kv_M Z (e + 5) kMX11_count [.ref 28, .int l1] (kg_w G) (some (.int res)) (kg_w G) := by
  refine kv_M_of (ls := [some (.ref 28), some (.int l1)]) (by decide) (Nat.le_of_ble_eq_true rfl) rfl ?_
  unfold fX11_count at h
  refine kr_aload_n dX11_count_0 rfl ?_
  refine kr_iload_n dX11_count_1 rfl ?_
  obtain ⟨v1, hv1, h⟩ := Option.bind_eq_some_iff.mp h
  refine kr_callVi (M' := kMX11_countOf) (a := 28) (As := [.int l1]) (st := []) (RX11_countOf (e + 0) hv1) koX11_countOf rfl rfl rfl kw6_61 kw6_63 kws_53 rfl (Nat.le_of_ble_eq_true rfl) dX11_count_2 ?_
  cases h
  exact kr_iret rfl dX11_count_5
set_option maxRecDepth 20000 in
set_option maxHeartbeats 4000000 in
theorem RX11_say {Z : kv_Z} (e : Nat) {G : kg_G} {l1 : Int64} {res : kg_G} (h : fX11_say G l1 = res) : kv_M Z (e + 0) kMX11_say [.ref 28, .long l1] (kg_w G) none (kg_w res) := by
  refine kv_M_of (ls := [some (.ref 28), some (.long l1), none]) (by decide) (Nat.le_of_ble_eq_true rfl) rfl ?_
  unfold fX11_say at h
  refine kr_aload_n dX11_say_0 rfl ?_
  refine kr_ldc2 (x := 31) kw6_82 dX11_say_1 ?_
  refine kr_aload_n dX11_say_4 rfl ?_
  refine kx_g28_41 G.2.2.1 rfl kw4_178 dX11_say_5 ?_
  refine kr_lmul dX11_say_8 ?_
  refine kr_lload_n dX11_say_9 rfl ?_
  refine kr_ladd dX11_say_10 ?_
  refine kx_p28_41 kw4_178 dX11_say_11 ?_
  cases h
  exact kr_vret rfl dX11_say_14
set_option maxRecDepth 20000 in
set_option maxHeartbeats 4000000 in
theorem RX11_digest_184 {Z : kv_Z} (e : Nat) {N : Nat} : ∀ (n : Nat) (G : kg_G) (l1 : Int32) (res : Int64 × kg_G), fX11_digest_184 N n G l1 = some res → kv_V Z (e + 5) kMX11_digest 184 [some (.ref 28), some (.int l1), none] [] (kg_w G) (some (.long res.1)) (kg_w res.2) := by
  intro n
  induction n with
  | zero => intro G l1 res h; exact absurd h (by intro z; cases z)
  | succ n ih =>
    intro G l1 res h
    have hk184 := ih
    rw [fX11_digest_184] at h
    refine kr_iload_n dX11_digest_184 rfl ?_
    refine kr_bipush (v := 17) dX11_digest_185 (by decide) ?_
    refine kr_icmp_ge (tgt := 206) dX11_digest_187 rfl (fun c187 => ?_) (fun c187 => ?_)
    · rw [if_pos c187] at h
      refine kr_aload_n dX11_digest_206 rfl ?_
      refine kx_g28_41 G.2.2.1 rfl kw4_178 dX11_digest_207 ?_
      cases h
      exact kr_lret rfl dX11_digest_210
    · rw [if_neg c187] at h
      refine kr_aload_n dX11_digest_190 rfl ?_
      refine kr_aload_n dX11_digest_191 rfl ?_
      refine kr_iload_n dX11_digest_192 rfl ?_
      obtain ⟨v1, hv1, h⟩ := Option.bind_eq_some_iff.mp h
      refine kr_callVi (M' := kMX11_countOf) (a := 28) (As := [.int l1]) (st := [.ref 28]) (RX11_countOf (e + 0) hv1) koX11_countOf rfl rfl rfl kw6_61 kw6_63 kws_53 rfl (Nat.le_of_ble_eq_true rfl) dX11_digest_193 ?_
      refine kr_i2l dX11_digest_196 ?_
      refine kr_callVv (M' := kMX11_say) (a := 28) (As := [.long v1.toInt64]) (st := []) (RX11_say (e + 4) rfl) koX11_say rfl rfl rfl kw6_78 kw6_80 kws_56 rfl (Nat.le_of_ble_eq_true rfl) dX11_digest_197 ?_
      refine kr_iinc (v := l1 + 1) (ls' := [some (.ref 28), some (.int (l1 + 1)), none]) dX11_digest_200 rfl rfl (Nat.le_of_ble_eq_true rfl) rfl ?_
      refine kr_goto (tgt := 184) dX11_digest_203 rfl ?_
      exact hk184 _ _ _ h
set_option maxRecDepth 20000 in
set_option maxHeartbeats 4000000 in
theorem RX11_digest_157 {Z : kv_Z} (e : Nat) {N : Nat} : ∀ (n : Nat) (G : kg_G) (l1 : Int32) (res : Int64 × kg_G), fX11_digest_157 N n G l1 = some res → kv_V Z (e + 5) kMX11_digest 157 [some (.ref 28), some (.int l1), none] [] (kg_w G) (some (.long res.1)) (kg_w res.2) := by
  intro n
  induction n with
  | zero => intro G l1 res h; exact absurd h (by intro z; cases z)
  | succ n ih =>
    intro G l1 res h
    have hk157 := ih
    rw [fX11_digest_157] at h
    refine kr_iload_n dX11_digest_157 rfl ?_
    refine kr_aload_n dX11_digest_158 rfl ?_
    refine kx_g28_1 (G.1 28 1) rfl kw4_138 dX11_digest_159 ?_
    refine kr_icmp_ge (tgt := 182) dX11_digest_162 rfl (fun c162 => ?_) (fun c162 => ?_)
    · rw [if_pos c162] at h
      refine kr_iconst (v := 0) dX11_digest_182 (by decide) ?_
      refine kr_istore_n (i := 1) (ls' := [some (.ref 28), some (.int 0), none]) dX11_digest_183 rfl (Nat.le_of_ble_eq_true rfl) rfl ?_
      exact RX11_digest_184 e N _ _ _ h
    · rw [if_neg c162] at h
      refine kr_aload_n dX11_digest_165 rfl ?_
      refine kr_aload_n dX11_digest_166 rfl ?_
      refine kx_g28_0 kw4_137 dX11_digest_167 ?_
      refine kr_iload_n dX11_digest_170 rfl ?_
      obtain ⟨v1, hv1, h⟩ := Option.bind_eq_some_iff.mp h
      refine kx_a29 (G.2.1 29) rfl hv1 dX11_digest_171 ?_
      refine kr_i2l dX11_digest_172 ?_
      refine kr_callVv (M' := kMX11_say) (a := 28) (As := [.long v1.toInt64]) (st := []) (RX11_say (e + 4) rfl) koX11_say rfl rfl rfl kw6_78 kw6_80 kws_56 rfl (Nat.le_of_ble_eq_true rfl) dX11_digest_173 ?_
      refine kr_iinc (v := l1 + 1) (ls' := [some (.ref 28), some (.int (l1 + 1)), none]) dX11_digest_176 rfl rfl (Nat.le_of_ble_eq_true rfl) rfl ?_
      refine kr_goto (tgt := 157) dX11_digest_179 rfl ?_
      exact hk157 _ _ _ h
set_option maxRecDepth 20000 in
set_option maxHeartbeats 4000000 in
theorem RX11_digest_120 {Z : kv_Z} (e : Nat) {N : Nat} : ∀ (G : kg_G) (res : Int64 × kg_G), fX11_digest_120 N G = some res → kv_V Z (e + 5) kMX11_digest 120 [some (.ref 28), none, none] [] (kg_w G) (some (.long res.1)) (kg_w res.2) := by
  intro G res h
  unfold fX11_digest_120 at h
  refine kr_aload_n dX11_digest_120 rfl ?_
  obtain ⟨v1, hv1, h⟩ := Option.bind_eq_some_iff.mp h
  refine kr_callVi (M' := kMX11_keptSet) (a := 28) (As := []) (st := []) (RX11_keptSet (e + 3) hv1) koX11_keptSet rfl rfl rfl kw5_185 kw5_187 kws_41 rfl (Nat.le_of_ble_eq_true rfl) dX11_digest_121 ?_
  refine kr_if_eq (tgt := 155) dX11_digest_124 rfl (fun c124 => ?_) (fun c124 => ?_)
  · rw [if_pos c124] at h
    refine kr_iconst (v := 0) dX11_digest_155 (by decide) ?_
    refine kr_istore_n (i := 1) (ls' := [some (.ref 28), some (.int 0), none]) dX11_digest_156 rfl (Nat.le_of_ble_eq_true rfl) rfl ?_
    exact RX11_digest_157 e N _ _ _ h
  · rw [if_neg c124] at h
    refine kr_aload_n dX11_digest_127 rfl ?_
    refine kr_aload_n dX11_digest_128 rfl ?_
    refine kr_aload_n dX11_digest_129 rfl ?_
    obtain ⟨v2, hv2, h⟩ := Option.bind_eq_some_iff.mp h
    refine kr_callVi (M' := kMX11_keptSet) (a := 28) (As := []) (st := [.ref 28, .ref 28]) (RX11_keptSet (e + 3) hv2) koX11_keptSet rfl rfl rfl kw5_185 kw5_187 kws_41 rfl (Nat.le_of_ble_eq_true rfl) dX11_digest_130 ?_
    refine kr_iconst (v := 0) dX11_digest_133 (by decide) ?_
    obtain ⟨v3, hv3, h⟩ := Option.bind_eq_some_iff.mp h
    refine kr_callVi (M' := kMX11_routeOf) (a := 28) (As := [.int v2, .int 0]) (st := [.ref 28]) (RX11_routeOf (e + 3) hv3) koX11_routeOf rfl rfl rfl kw6_12 kw6_14 kws_49 rfl (Nat.le_of_ble_eq_true rfl) dX11_digest_134 ?_
    refine kr_i2l dX11_digest_137 ?_
    refine kr_callVv (M' := kMX11_say) (a := 28) (As := [.long v3.toInt64]) (st := []) (RX11_say (e + 4) rfl) koX11_say rfl rfl rfl kw6_78 kw6_80 kws_56 rfl (Nat.le_of_ble_eq_true rfl) dX11_digest_138 ?_
    refine kr_aload_n dX11_digest_141 rfl ?_
    refine kr_aload_n dX11_digest_142 rfl ?_
    refine kr_aload_n dX11_digest_143 rfl ?_
    obtain ⟨v5, hv5, h⟩ := Option.bind_eq_some_iff.mp h
    refine kr_callVi (M' := kMX11_keptSet) (a := 28) (As := []) (st := [.ref 28, .ref 28]) (RX11_keptSet (e + 3) hv5) koX11_keptSet rfl rfl rfl kw5_185 kw5_187 kws_41 rfl (Nat.le_of_ble_eq_true rfl) dX11_digest_144 ?_
    refine kr_iconst (v := 1) dX11_digest_147 (by decide) ?_
    obtain ⟨v6, hv6, h⟩ := Option.bind_eq_some_iff.mp h
    refine kr_callVi (M' := kMX11_routeOf) (a := 28) (As := [.int v5, .int 1]) (st := [.ref 28]) (RX11_routeOf (e + 3) hv6) koX11_routeOf rfl rfl rfl kw6_12 kw6_14 kws_49 rfl (Nat.le_of_ble_eq_true rfl) dX11_digest_148 ?_
    refine kr_i2l dX11_digest_151 ?_
    refine kr_callVv (M' := kMX11_say) (a := 28) (As := [.long v6.toInt64]) (st := []) (RX11_say (e + 4) rfl) koX11_say rfl rfl rfl kw6_78 kw6_80 kws_56 rfl (Nat.le_of_ble_eq_true rfl) dX11_digest_152 ?_
    refine kr_iconst (v := 0) dX11_digest_155 (by decide) ?_
    refine kr_istore_n (i := 1) (ls' := [some (.ref 28), some (.int 0), none]) dX11_digest_156 rfl (Nat.le_of_ble_eq_true rfl) rfl ?_
    exact RX11_digest_157 e N _ _ _ h
set_option maxRecDepth 20000 in
set_option maxHeartbeats 4000000 in
theorem RX11_digest_91 {Z : kv_Z} (e : Nat) {N : Nat} : ∀ (n : Nat) (G : kg_G) (l1 : Int32) (res : Int64 × kg_G), fX11_digest_91 N n G l1 = some res → kv_V Z (e + 5) kMX11_digest 91 [some (.ref 28), some (.int l1), none] [] (kg_w G) (some (.long res.1)) (kg_w res.2) := by
  intro n
  induction n with
  | zero => intro G l1 res h; exact absurd h (by intro z; cases z)
  | succ n ih =>
    intro G l1 res h
    have hk91 := ih
    rw [fX11_digest_91] at h
    refine kr_iload_n dX11_digest_91 rfl ?_
    refine kr_bipush (v := 12) dX11_digest_92 (by decide) ?_
    refine kr_icmp_ge (tgt := 120) dX11_digest_94 rfl (fun c94 => ?_) (fun c94 => ?_)
    · rw [if_pos c94] at h
      refine kv_loc (ls' := [some (.ref 28), none, none]) (And.intro rfl trivial) ?_
      exact RX11_digest_120 e _ _ h
    · rw [if_neg c94] at h
      refine kr_aload_n dX11_digest_97 rfl ?_
      refine kr_callVi (M' := kMX11_lacks) (a := 28) (As := []) (st := []) (RX11_lacks (e + 4) rfl) koX11_lacks rfl rfl rfl kw5_169 kw5_171 kws_39 rfl (Nat.le_of_ble_eq_true rfl) dX11_digest_98 ?_
      refine kr_if_ne (tgt := 120) dX11_digest_101 rfl (fun c101 => ?_) (fun c101 => ?_)
      · rw [if_pos c101] at h
        refine kr_aload_n dX11_digest_104 rfl ?_
        refine kr_aload_n dX11_digest_105 rfl ?_
        refine kr_iload_n dX11_digest_106 rfl ?_
        obtain ⟨v2, hv2, h⟩ := Option.bind_eq_some_iff.mp h
        refine kr_callVi (M' := kMX11_wantsAt) (a := 28) (As := [.int l1]) (st := [.ref 28]) (RX11_wantsAt (e + 3) hv2) koX11_wantsAt rfl rfl rfl kw6_4 kw6_6 kws_48 rfl (Nat.le_of_ble_eq_true rfl) dX11_digest_107 ?_
        refine kr_i2l dX11_digest_110 ?_
        refine kr_callVv (M' := kMX11_say) (a := 28) (As := [.long v2.toInt64]) (st := []) (RX11_say (e + 4) rfl) koX11_say rfl rfl rfl kw6_78 kw6_80 kws_56 rfl (Nat.le_of_ble_eq_true rfl) dX11_digest_111 ?_
        refine kr_iinc (v := l1 + 1) (ls' := [some (.ref 28), some (.int (l1 + 1)), none]) dX11_digest_114 rfl rfl (Nat.le_of_ble_eq_true rfl) rfl ?_
        refine kr_goto (tgt := 91) dX11_digest_117 rfl ?_
        exact hk91 _ _ _ h
      · rw [if_neg c101] at h
        refine kv_loc (ls' := [some (.ref 28), none, none]) (And.intro rfl trivial) ?_
        exact RX11_digest_120 e _ _ h
set_option maxRecDepth 20000 in
set_option maxHeartbeats 4000000 in
theorem RX11_digest_60 {Z : kv_Z} (e : Nat) {N : Nat} {k50 : kg_G → Int32 → Option (Int64 × kg_G)} (hk50 : ∀ (G : kg_G) (l1 : Int32) (res : Int64 × kg_G), k50 G l1 = some res → kv_V Z (e + 5) kMX11_digest 50 [some (.ref 28), some (.int l1), none] [] (kg_w G) (some (.long res.1)) (kg_w res.2)) : ∀ (n : Nat) (G : kg_G) (l1 : Int32) (l2 : Int32) (res : Int64 × kg_G), fX11_digest_60 N k50 n G l1 l2 = some res → kv_V Z (e + 5) kMX11_digest 60 [some (.ref 28), some (.int l1), some (.int l2)] [] (kg_w G) (some (.long res.1)) (kg_w res.2) := by
  intro n
  induction n with
  | zero => intro G l1 l2 res h; exact absurd h (by intro z; cases z)
  | succ n ih =>
    intro G l1 l2 res h
    have hk60 := ih
    rw [fX11_digest_60] at h
    refine kr_iload_n dX11_digest_60 rfl ?_
    refine kr_bipush (v := 8) dX11_digest_61 (by decide) ?_
    refine kr_icmp_ge (tgt := 83) dX11_digest_63 rfl (fun c63 => ?_) (fun c63 => ?_)
    · rw [if_pos c63] at h
      refine kr_iinc (v := l1 + 1) (ls' := [some (.ref 28), some (.int (l1 + 1)), some (.int l2)]) dX11_digest_83 rfl rfl (Nat.le_of_ble_eq_true rfl) rfl ?_
      refine kr_goto (tgt := 50) dX11_digest_86 rfl ?_
      refine kv_loc (ls' := [some (.ref 28), some (.int (l1 + 1)), none]) (And.intro rfl (And.intro rfl trivial)) ?_
      exact hk50 _ _ _ h
    · rw [if_neg c63] at h
      refine kr_aload_n dX11_digest_66 rfl ?_
      refine kr_aload_n dX11_digest_67 rfl ?_
      refine kr_iload_n dX11_digest_68 rfl ?_
      refine kr_iload_n dX11_digest_69 rfl ?_
      obtain ⟨v1, hv1, h⟩ := Option.bind_eq_some_iff.mp h
      refine kr_callVi (M' := kMX11_tellPerson) (a := 28) (As := [.int l1, .int l2]) (st := [.ref 28]) (RX11_tellPerson (e + 1) hv1) koX11_tellPerson rfl rfl rfl kw5_133 kw5_135 kws_34 rfl (Nat.le_of_ble_eq_true rfl) dX11_digest_70 ?_
      refine kr_i2l dX11_digest_73 ?_
      refine kr_callVv (M' := kMX11_say) (a := 28) (As := [.long v1.toInt64]) (st := []) (RX11_say (e + 4) rfl) koX11_say rfl rfl rfl kw6_78 kw6_80 kws_56 rfl (Nat.le_of_ble_eq_true rfl) dX11_digest_74 ?_
      refine kr_iinc (v := l2 + 1) (ls' := [some (.ref 28), some (.int l1), some (.int (l2 + 1))]) dX11_digest_77 rfl rfl (Nat.le_of_ble_eq_true rfl) rfl ?_
      refine kr_goto (tgt := 60) dX11_digest_80 rfl ?_
      exact hk60 _ _ _ _ h
set_option maxRecDepth 20000 in
set_option maxHeartbeats 4000000 in
theorem RX11_digest_50 {Z : kv_Z} (e : Nat) {N : Nat} : ∀ (n : Nat) (G : kg_G) (l1 : Int32) (res : Int64 × kg_G), fX11_digest_50 N n G l1 = some res → kv_V Z (e + 5) kMX11_digest 50 [some (.ref 28), some (.int l1), none] [] (kg_w G) (some (.long res.1)) (kg_w res.2) := by
  intro n
  induction n with
  | zero => intro G l1 res h; exact absurd h (by intro z; cases z)
  | succ n ih =>
    intro G l1 res h
    have hk50 := ih
    rw [fX11_digest_50] at h
    refine kr_iload_n dX11_digest_50 rfl ?_
    refine kr_aload_n dX11_digest_51 rfl ?_
    refine kx_g28_4 (G.1 28 4) rfl kw4_141 dX11_digest_52 ?_
    refine kr_icmp_ge (tgt := 89) dX11_digest_55 rfl (fun c55 => ?_) (fun c55 => ?_)
    · rw [if_pos c55] at h
      refine kr_iconst (v := 0) dX11_digest_89 (by decide) ?_
      refine kr_istore_n (i := 1) (ls' := [some (.ref 28), some (.int 0), none]) dX11_digest_90 rfl (Nat.le_of_ble_eq_true rfl) rfl ?_
      exact RX11_digest_91 e N _ _ _ h
    · rw [if_neg c55] at h
      refine kr_iconst (v := 0) dX11_digest_58 (by decide) ?_
      refine kr_istore_n (i := 2) (ls' := [some (.ref 28), some (.int l1), some (.int 0)]) dX11_digest_59 rfl (Nat.le_of_ble_eq_true rfl) rfl ?_
      exact RX11_digest_60 e hk50 N _ _ _ _ h
set_option maxRecDepth 20000 in
set_option maxHeartbeats 4000000 in
theorem RX11_digest_19 {Z : kv_Z} (e : Nat) {N : Nat} {k9 : kg_G → Int32 → Option (Int64 × kg_G)} (hk9 : ∀ (G : kg_G) (l1 : Int32) (res : Int64 × kg_G), k9 G l1 = some res → kv_V Z (e + 5) kMX11_digest 9 [some (.ref 28), some (.int l1), none] [] (kg_w G) (some (.long res.1)) (kg_w res.2)) : ∀ (n : Nat) (G : kg_G) (l1 : Int32) (l2 : Int32) (res : Int64 × kg_G), fX11_digest_19 N k9 n G l1 l2 = some res → kv_V Z (e + 5) kMX11_digest 19 [some (.ref 28), some (.int l1), some (.int l2)] [] (kg_w G) (some (.long res.1)) (kg_w res.2) := by
  intro n
  induction n with
  | zero => intro G l1 l2 res h; exact absurd h (by intro z; cases z)
  | succ n ih =>
    intro G l1 l2 res h
    have hk19 := ih
    rw [fX11_digest_19] at h
    refine kr_iload_n dX11_digest_19 rfl ?_
    refine kr_bipush (v := 9) dX11_digest_20 (by decide) ?_
    refine kr_icmp_ge (tgt := 42) dX11_digest_22 rfl (fun c22 => ?_) (fun c22 => ?_)
    · rw [if_pos c22] at h
      refine kr_iinc (v := l1 + 1) (ls' := [some (.ref 28), some (.int (l1 + 1)), some (.int l2)]) dX11_digest_42 rfl rfl (Nat.le_of_ble_eq_true rfl) rfl ?_
      refine kr_goto (tgt := 9) dX11_digest_45 rfl ?_
      refine kv_loc (ls' := [some (.ref 28), some (.int (l1 + 1)), none]) (And.intro rfl (And.intro rfl trivial)) ?_
      exact hk9 _ _ _ h
    · rw [if_neg c22] at h
      refine kr_aload_n dX11_digest_25 rfl ?_
      refine kr_aload_n dX11_digest_26 rfl ?_
      refine kr_iload_n dX11_digest_27 rfl ?_
      refine kr_iload_n dX11_digest_28 rfl ?_
      obtain ⟨v1, hv1, h⟩ := Option.bind_eq_some_iff.mp h
      refine kr_callVi (M' := kMX11_tellTrick) (a := 28) (As := [.int l1, .int l2]) (st := [.ref 28]) (RX11_tellTrick (e + 0) hv1) koX11_tellTrick rfl rfl rfl kw5_73 kw5_75 kws_22 rfl (Nat.le_of_ble_eq_true rfl) dX11_digest_29 ?_
      refine kr_i2l dX11_digest_32 ?_
      refine kr_callVv (M' := kMX11_say) (a := 28) (As := [.long v1.toInt64]) (st := []) (RX11_say (e + 4) rfl) koX11_say rfl rfl rfl kw6_78 kw6_80 kws_56 rfl (Nat.le_of_ble_eq_true rfl) dX11_digest_33 ?_
      refine kr_iinc (v := l2 + 1) (ls' := [some (.ref 28), some (.int l1), some (.int (l2 + 1))]) dX11_digest_36 rfl rfl (Nat.le_of_ble_eq_true rfl) rfl ?_
      refine kr_goto (tgt := 19) dX11_digest_39 rfl ?_
      exact hk19 _ _ _ _ h
set_option maxRecDepth 20000 in
set_option maxHeartbeats 4000000 in
theorem RX11_digest_9 {Z : kv_Z} (e : Nat) {N : Nat} : ∀ (n : Nat) (G : kg_G) (l1 : Int32) (res : Int64 × kg_G), fX11_digest_9 N n G l1 = some res → kv_V Z (e + 5) kMX11_digest 9 [some (.ref 28), some (.int l1), none] [] (kg_w G) (some (.long res.1)) (kg_w res.2) := by
  intro n
  induction n with
  | zero => intro G l1 res h; exact absurd h (by intro z; cases z)
  | succ n ih =>
    intro G l1 res h
    have hk9 := ih
    rw [fX11_digest_9] at h
    refine kr_iload_n dX11_digest_9 rfl ?_
    refine kr_aload_n dX11_digest_10 rfl ?_
    refine kx_g28_3 (G.1 28 3) rfl kw4_140 dX11_digest_11 ?_
    refine kr_icmp_ge (tgt := 48) dX11_digest_14 rfl (fun c14 => ?_) (fun c14 => ?_)
    · rw [if_pos c14] at h
      refine kr_iconst (v := 0) dX11_digest_48 (by decide) ?_
      refine kr_istore_n (i := 1) (ls' := [some (.ref 28), some (.int 0), none]) dX11_digest_49 rfl (Nat.le_of_ble_eq_true rfl) rfl ?_
      exact RX11_digest_50 e N _ _ _ h
    · rw [if_neg c14] at h
      refine kr_iconst (v := 0) dX11_digest_17 (by decide) ?_
      refine kr_istore_n (i := 2) (ls' := [some (.ref 28), some (.int l1), some (.int 0)]) dX11_digest_18 rfl (Nat.le_of_ble_eq_true rfl) rfl ?_
      exact RX11_digest_19 e hk9 N _ _ _ _ h
set_option maxRecDepth 20000 in
set_option maxHeartbeats 4000000 in
theorem RX11_digest {Z : kv_Z} (e : Nat) {N : Nat} {G : kg_G} {res : Int64 × kg_G} (h : fX11_digest N G = some res) : kv_M Z (e + 5) kMX11_digest [.ref 28] (kg_w G) (some (.long res.1)) (kg_w res.2) := by
  refine kv_M_of (ls := [some (.ref 28), none, none]) (by decide) (Nat.le_of_ble_eq_true rfl) rfl ?_
  unfold fX11_digest at h
  refine kr_aload_n dX11_digest_0 rfl ?_
  refine kr_ldc2 (x := 1117) kw6_77 dX11_digest_1 ?_
  refine kx_p28_41 kw4_178 dX11_digest_4 ?_
  refine kr_iconst (v := 0) dX11_digest_7 (by decide) ?_
  refine kr_istore_n (i := 1) (ls' := [some (.ref 28), some (.int 0), none]) dX11_digest_8 rfl (Nat.le_of_ble_eq_true rfl) rfl ?_
  exact RX11_digest_9 e N _ _ _ h
