/-! .. -/
set_option maxRecDepth 20000 in
set_option maxHeartbeats 4000000 in
theorem RX10_movesBackFor_4 {Z : kv_Z} (e : Nat) {N : Nat} {G : kg_G} : ∀ (n : Nat) (l0 : Int32) (l2 : Int32) (res : Int32), fX10_movesBackFor_4 N n l0 l2 = some res → kv_V Z (e + 1) kMX10_movesBackFor 4 [some (.int l0), none, some (.int l2)] [] (kg_w G) (some (.int res)) (kg_w G) := by
  intro n
  induction n with
  | zero => intro l0 l2 res h; exact absurd h (by intro z; cases z)
  | succ n ih =>
    intro l0 l2 res h
    have hk4 := ih
    rw [fX10_movesBackFor_4] at h
    refine kr_iload_n dX10_movesBackFor_4 rfl ?_
    refine kr_bipush (v := 6) dX10_movesBackFor_5 (by decide) ?_
    refine kr_icmp_ge (tgt := 29) dX10_movesBackFor_7 rfl (fun c7 => ?_) (fun c7 => ?_)
    · rw [if_pos c7] at h
      refine kr_iconst (v := 0) dX10_movesBackFor_29 (by decide) ?_
      cases h
      exact kr_iret rfl dX10_movesBackFor_30
    · rw [if_neg c7] at h
      refine kr_iload_n dX10_movesBackFor_10 rfl ?_
      refine kr_iload_n dX10_movesBackFor_11 rfl ?_
      refine kr_callSi (M' := kMX10_has) (As := [.int l0, .int l2]) (st := []) (RX10_has (e + 0) rfl) koX10_has rfl kw3_91 kw3_16 rfl (Nat.le_of_ble_eq_true rfl) dX10_movesBackFor_12 ?_
      refine kr_if_eq (tgt := 23) dX10_movesBackFor_15 rfl (fun c15 => ?_) (fun c15 => ?_)
      · rw [if_pos c15] at h
        refine kr_iinc (v := l2 + 1) (ls' := [some (.int l0), none, some (.int (l2 + 1))]) dX10_movesBackFor_23 rfl rfl (Nat.le_of_ble_eq_true rfl) rfl ?_
        refine kr_goto (tgt := 4) dX10_movesBackFor_26 rfl ?_
        exact hk4 _ _ _ h
      · rw [if_neg c15] at h
        refine kr_bipush (v := 6) dX10_movesBackFor_18 (by decide) ?_
        refine kr_iload_n dX10_movesBackFor_20 rfl ?_
        refine kr_isub dX10_movesBackFor_21 ?_
        cases h
        exact kr_iret rfl dX10_movesBackFor_22
set_option maxRecDepth 20000 in
set_option maxHeartbeats 4000000 in
theorem RX10_movesBackFor {Z : kv_Z} (e : Nat) {N : Nat} {G : kg_G} {l0 : Int32} {l1 : Int32} {res : Int32} (h : fX10_movesBackFor N l0 l1 = some res) : kv_M Z (e + 1) kMX10_movesBackFor [.int l0, .int l1] (kg_w G) (some (.int res)) (kg_w G) := by
  refine kv_M_of (ls := [some (.int l0), some (.int l1), none]) (by decide) (Nat.le_of_ble_eq_true rfl) rfl ?_
  unfold fX10_movesBackFor at h
  refine kr_iload_n dX10_movesBackFor_0 rfl ?_
  refine kr_iconst (v := 1) dX10_movesBackFor_1 (by decide) ?_
  refine kr_iadd dX10_movesBackFor_2 ?_
  refine kr_istore_n (i := 2) (ls' := [some (.int l0), some (.int l1), some (.int (l1 + 1))]) dX10_movesBackFor_3 rfl (Nat.le_of_ble_eq_true rfl) rfl ?_
  refine kv_loc (ls' := [some (.int l0), none, some (.int (l1 + 1))]) (And.intro rfl (And.intro rfl trivial)) ?_
  exact RX10_movesBackFor_4 e N _ _ _ h
set_option maxRecDepth 20000 in
set_option maxHeartbeats 4000000 in
theorem RX10_movesOnFirst_31 {Z : kv_Z} (e : Nat) {N : Nat} {G : kg_G} {k5 : Int32 → Int32 → Int32 → Option (Int32)} (hk5 : ∀ (l0 : Int32) (l1 : Int32) (l2 : Int32) (res : Int32), k5 l0 l1 l2 = some res → kv_V Z (e + 2) kMX10_movesOnFirst 5 [some (.int l0), some (.int l1), some (.int l2), none] [] (kg_w G) (some (.int res)) (kg_w G)) : ∀ (l0 : Int32) (l2 : Int32) (s0 : Int32) (s1 : Int32) (res : Int32), fX10_movesOnFirst_31 N k5 l0 l2 s0 s1 = some res → kv_V Z (e + 2) kMX10_movesOnFirst 31 [some (.int l0), none, some (.int l2), none] [.int s1, .int s0] (kg_w G) (some (.int res)) (kg_w G) := by
  intro l0 l2 s0 s1 res h
  unfold fX10_movesOnFirst_31 at h
  refine kr_callSi (M' := kMJ9_min_7cf53) (As := [.int s0, .int s1]) (st := []) (RJ9_min_7cf53 (e + 1) rfl) koJ9_min_7cf53 rfl kw4_28 kw2_55 rfl (Nat.le_of_ble_eq_true rfl) dX10_movesOnFirst_31 ?_
  refine kr_istore_n (i := 1) (ls' := [some (.int l0), some (.int (fJ9_min_7cf53 s0 s1)), some (.int l2), none]) dX10_movesOnFirst_34 rfl (Nat.le_of_ble_eq_true rfl) rfl ?_
  refine kr_iinc (v := l2 + 1) (ls' := [some (.int l0), some (.int (fJ9_min_7cf53 s0 s1)), some (.int (l2 + 1)), none]) dX10_movesOnFirst_35 rfl rfl (Nat.le_of_ble_eq_true rfl) rfl ?_
  refine kr_goto (tgt := 5) dX10_movesOnFirst_38 rfl ?_
  exact hk5 _ _ _ _ h
set_option maxRecDepth 20000 in
set_option maxHeartbeats 4000000 in
theorem RX10_movesOnFirst_5 {Z : kv_Z} (e : Nat) {N : Nat} {G : kg_G} : ∀ (n : Nat) (l0 : Int32) (l1 : Int32) (l2 : Int32) (res : Int32), fX10_movesOnFirst_5 N n l0 l1 l2 = some res → kv_V Z (e + 2) kMX10_movesOnFirst 5 [some (.int l0), some (.int l1), some (.int l2), none] [] (kg_w G) (some (.int res)) (kg_w G) := by
  intro n
  induction n with
  | zero => intro l0 l1 l2 res h; exact absurd h (by intro z; cases z)
  | succ n ih =>
    intro l0 l1 l2 res h
    have hk5 := ih
    rw [fX10_movesOnFirst_5] at h
    refine kr_iload_n dX10_movesOnFirst_5 rfl ?_
    refine kr_bipush (v := 6) dX10_movesOnFirst_6 (by decide) ?_
    refine kr_icmp_ge (tgt := 41) dX10_movesOnFirst_8 rfl (fun c8 => ?_) (fun c8 => ?_)
    · rw [if_pos c8] at h
      refine kr_iload_n dX10_movesOnFirst_41 rfl ?_
      cases h
      exact kr_iret rfl dX10_movesOnFirst_42
    · rw [if_neg c8] at h
      refine kr_iload_n dX10_movesOnFirst_11 rfl ?_
      refine kr_iload_n dX10_movesOnFirst_12 rfl ?_
      obtain ⟨v1, hv1, h⟩ := Option.bind_eq_some_iff.mp h
      refine kr_callSi (M' := kMX10_movesBackFor) (As := [.int l0, .int l2]) (st := []) (RX10_movesBackFor (e + 0) hv1) koX10_movesBackFor rfl kw4_25 kw4_26 rfl (Nat.le_of_ble_eq_true rfl) dX10_movesOnFirst_13 ?_
      refine kr_istore_n (i := 3) (ls' := [some (.int l0), some (.int l1), some (.int l2), some (.int v1)]) dX10_movesOnFirst_16 rfl (Nat.le_of_ble_eq_true rfl) rfl ?_
      refine kr_iload_n dX10_movesOnFirst_17 rfl ?_
      refine kr_iload_n dX10_movesOnFirst_18 rfl ?_
      refine kr_if_ne (tgt := 26) dX10_movesOnFirst_19 rfl (fun c19 => ?_) (fun c19 => ?_)
      · rw [if_pos c19] at h
        refine kr_iload_n dX10_movesOnFirst_22 rfl ?_
        refine kr_goto (tgt := 31) dX10_movesOnFirst_23 rfl ?_
        refine kv_loc (ls' := [some (.int l0), none, some (.int l2), none]) (And.intro rfl (And.intro rfl trivial)) ?_
        exact RX10_movesOnFirst_31 e hk5 _ _ _ _ _ h
      · rw [if_neg c19] at h
        refine kr_iconst (v := 2) dX10_movesOnFirst_26 (by decide) ?_
        refine kr_iload_n dX10_movesOnFirst_27 rfl ?_
        refine kr_imul dX10_movesOnFirst_28 ?_
        refine kr_iload_n dX10_movesOnFirst_29 rfl ?_
        refine kr_iadd dX10_movesOnFirst_30 ?_
        refine kv_loc (ls' := [some (.int l0), none, some (.int l2), none]) (And.intro rfl (And.intro rfl trivial)) ?_
        exact RX10_movesOnFirst_31 e hk5 _ _ _ _ _ h
set_option maxRecDepth 20000 in
set_option maxHeartbeats 4000000 in
theorem RX10_movesOnFirst {Z : kv_Z} (e : Nat) {N : Nat} {G : kg_G} {l0 : Int32} {res : Int32} (h : fX10_movesOnFirst N l0 = some res) : kv_M Z (e + 2) kMX10_movesOnFirst [.int l0] (kg_w G) (some (.int res)) (kg_w G) := by
  refine kv_M_of (ls := [some (.int l0), none, none, none]) (by decide) (Nat.le_of_ble_eq_true rfl) rfl ?_
  unfold fX10_movesOnFirst at h
  refine kr_bipush (v := 6) dX10_movesOnFirst_0 (by decide) ?_
  refine kr_istore_n (i := 1) (ls' := [some (.int l0), some (.int 6), none, none]) dX10_movesOnFirst_2 rfl (Nat.le_of_ble_eq_true rfl) rfl ?_
  refine kr_iconst (v := 1) dX10_movesOnFirst_3 (by decide) ?_
  refine kr_istore_n (i := 2) (ls' := [some (.int l0), some (.int 6), some (.int 1), none]) dX10_movesOnFirst_4 rfl (Nat.le_of_ble_eq_true rfl) rfl ?_
  exact RX10_movesOnFirst_5 e N _ _ _ _ h
set_option maxRecDepth 20000 in
set_option maxHeartbeats 4000000 in
theorem RX10_movesBackFirst_35 {Z : kv_Z} (e : Nat) {N : Nat} {G : kg_G} {k5 : Int32 → Int32 → Int32 → Option (Int32)} (hk5 : ∀ (l0 : Int32) (l1 : Int32) (l2 : Int32) (res : Int32), k5 l0 l1 l2 = some res → kv_V Z (e + 2) kMX10_movesBackFirst 5 [some (.int l0), some (.int l1), some (.int l2), none] [] (kg_w G) (some (.int res)) (kg_w G)) : ∀ (l0 : Int32) (l2 : Int32) (s0 : Int32) (s1 : Int32) (res : Int32), fX10_movesBackFirst_35 N k5 l0 l2 s0 s1 = some res → kv_V Z (e + 2) kMX10_movesBackFirst 35 [some (.int l0), none, some (.int l2), none] [.int s1, .int s0] (kg_w G) (some (.int res)) (kg_w G) := by
  intro l0 l2 s0 s1 res h
  unfold fX10_movesBackFirst_35 at h
  refine kr_callSi (M' := kMJ9_min_7cf53) (As := [.int s0, .int s1]) (st := []) (RJ9_min_7cf53 (e + 1) rfl) koJ9_min_7cf53 rfl kw4_28 kw2_55 rfl (Nat.le_of_ble_eq_true rfl) dX10_movesBackFirst_35 ?_
  refine kr_istore_n (i := 1) (ls' := [some (.int l0), some (.int (fJ9_min_7cf53 s0 s1)), some (.int l2), none]) dX10_movesBackFirst_38 rfl (Nat.le_of_ble_eq_true rfl) rfl ?_
  refine kr_iinc (v := l2 + 1) (ls' := [some (.int l0), some (.int (fJ9_min_7cf53 s0 s1)), some (.int (l2 + 1)), none]) dX10_movesBackFirst_39 rfl rfl (Nat.le_of_ble_eq_true rfl) rfl ?_
  refine kr_goto (tgt := 5) dX10_movesBackFirst_42 rfl ?_
  exact hk5 _ _ _ _ h
set_option maxRecDepth 20000 in
set_option maxHeartbeats 4000000 in
theorem RX10_movesBackFirst_5 {Z : kv_Z} (e : Nat) {N : Nat} {G : kg_G} : ∀ (n : Nat) (l0 : Int32) (l1 : Int32) (l2 : Int32) (res : Int32), fX10_movesBackFirst_5 N n l0 l1 l2 = some res → kv_V Z (e + 2) kMX10_movesBackFirst 5 [some (.int l0), some (.int l1), some (.int l2), none] [] (kg_w G) (some (.int res)) (kg_w G) := by
  intro n
  induction n with
  | zero => intro l0 l1 l2 res h; exact absurd h (by intro z; cases z)
  | succ n ih =>
    intro l0 l1 l2 res h
    have hk5 := ih
    rw [fX10_movesBackFirst_5] at h
    refine kr_iload_n dX10_movesBackFirst_5 rfl ?_
    refine kr_bipush (v := 6) dX10_movesBackFirst_6 (by decide) ?_
    refine kr_icmp_ge (tgt := 45) dX10_movesBackFirst_8 rfl (fun c8 => ?_) (fun c8 => ?_)
    · rw [if_pos c8] at h
      refine kr_iload_n dX10_movesBackFirst_45 rfl ?_
      cases h
      exact kr_iret rfl dX10_movesBackFirst_46
    · rw [if_neg c8] at h
      refine kr_iload_n dX10_movesBackFirst_11 rfl ?_
      refine kr_iload_n dX10_movesBackFirst_12 rfl ?_
      obtain ⟨v1, hv1, h⟩ := Option.bind_eq_some_iff.mp h
      refine kr_callSi (M' := kMX10_movesBackFor) (As := [.int l0, .int l2]) (st := []) (RX10_movesBackFor (e + 0) hv1) koX10_movesBackFor rfl kw4_25 kw4_26 rfl (Nat.le_of_ble_eq_true rfl) dX10_movesBackFirst_13 ?_
      refine kr_istore_n (i := 3) (ls' := [some (.int l0), some (.int l1), some (.int l2), some (.int v1)]) dX10_movesBackFirst_16 rfl (Nat.le_of_ble_eq_true rfl) rfl ?_
      refine kr_iload_n dX10_movesBackFirst_17 rfl ?_
      refine kr_if_le (tgt := 39) dX10_movesBackFirst_18 rfl (fun c18 => ?_) (fun c18 => ?_)
      · rw [if_pos c18] at h
        refine kr_iinc (v := l2 + 1) (ls' := [some (.int l0), some (.int l1), some (.int (l2 + 1)), some (.int v1)]) dX10_movesBackFirst_39 rfl rfl (Nat.le_of_ble_eq_true rfl) rfl ?_
        refine kr_goto (tgt := 5) dX10_movesBackFirst_42 rfl ?_
        refine kv_loc (ls' := [some (.int l0), some (.int l1), some (.int (l2 + 1)), none]) (And.intro rfl (And.intro rfl (And.intro rfl trivial))) ?_
        exact hk5 _ _ _ _ h
      · rw [if_neg c18] at h
        refine kr_iload_n dX10_movesBackFirst_21 rfl ?_
        refine kr_iload_n dX10_movesBackFirst_22 rfl ?_
        refine kr_if_ne (tgt := 30) dX10_movesBackFirst_23 rfl (fun c23 => ?_) (fun c23 => ?_)
        · rw [if_pos c23] at h
          refine kr_iload_n dX10_movesBackFirst_26 rfl ?_
          refine kr_goto (tgt := 35) dX10_movesBackFirst_27 rfl ?_
          refine kv_loc (ls' := [some (.int l0), none, some (.int l2), none]) (And.intro rfl (And.intro rfl trivial)) ?_
          exact RX10_movesBackFirst_35 e hk5 _ _ _ _ _ h
        · rw [if_neg c23] at h
          refine kr_iconst (v := 2) dX10_movesBackFirst_30 (by decide) ?_
          refine kr_iload_n dX10_movesBackFirst_31 rfl ?_
          refine kr_imul dX10_movesBackFirst_32 ?_
          refine kr_iload_n dX10_movesBackFirst_33 rfl ?_
          refine kr_iadd dX10_movesBackFirst_34 ?_
          refine kv_loc (ls' := [some (.int l0), none, some (.int l2), none]) (And.intro rfl (And.intro rfl trivial)) ?_
          exact RX10_movesBackFirst_35 e hk5 _ _ _ _ _ h
set_option maxRecDepth 20000 in
set_option maxHeartbeats 4000000 in
theorem RX10_movesBackFirst {Z : kv_Z} (e : Nat) {N : Nat} {G : kg_G} {l0 : Int32} {res : Int32} (h : fX10_movesBackFirst N l0 = some res) : kv_M Z (e + 2) kMX10_movesBackFirst [.int l0] (kg_w G) (some (.int res)) (kg_w G) := by
  refine kv_M_of (ls := [some (.int l0), none, none, none]) (by decide) (Nat.le_of_ble_eq_true rfl) rfl ?_
  unfold fX10_movesBackFirst at h
  refine kr_bipush (v := 12) dX10_movesBackFirst_0 (by decide) ?_
  refine kr_istore_n (i := 1) (ls' := [some (.int l0), some (.int 12), none, none]) dX10_movesBackFirst_2 rfl (Nat.le_of_ble_eq_true rfl) rfl ?_
  refine kr_iconst (v := 0) dX10_movesBackFirst_3 (by decide) ?_
  refine kr_istore_n (i := 2) (ls' := [some (.int l0), some (.int 12), some (.int 0), none]) dX10_movesBackFirst_4 rfl (Nat.le_of_ble_eq_true rfl) rfl ?_
  exact RX10_movesBackFirst_5 e N _ _ _ _ h
set_option maxRecDepth 20000 in
set_option maxHeartbeats 4000000 in
theorem RX10_fewestMoves {Z : kv_Z} (e : Nat) {N : Nat} {G : kg_G} {l0 : Int32} {res : Int32} (h : fX10_fewestMoves N l0 = some res) : kv_M Z (e + 3) kMX10_fewestMoves [.int l0] (kg_w G) (some (.int res)) (kg_w G) := by
  refine kv_M_of (ls := [some (.int l0)]) (by decide) (Nat.le_of_ble_eq_true rfl) rfl ?_
  unfold fX10_fewestMoves at h
  refine kr_iload_n dX10_fewestMoves_0 rfl ?_
  refine kr_iconst (v := 1) dX10_fewestMoves_1 (by decide) ?_
  refine kr_icmp_ne (tgt := 9) dX10_fewestMoves_2 rfl (fun c2 => ?_) (fun c2 => ?_)
  · rw [if_pos c2] at h
    refine kr_iconst (v := 0) dX10_fewestMoves_5 (by decide) ?_
    refine kr_goto (tgt := 20) dX10_fewestMoves_6 rfl ?_
    cases h
    exact kr_iret rfl dX10_fewestMoves_20
  · rw [if_neg c2] at h
    refine kr_iload_n dX10_fewestMoves_9 rfl ?_
    obtain ⟨v1, hv1, h⟩ := Option.bind_eq_some_iff.mp h
    refine kr_callSi (M' := kMX10_movesOnFirst) (As := [.int l0]) (st := []) (RX10_movesOnFirst (e + 0) hv1) koX10_movesOnFirst rfl kw4_22 kw4_23 rfl (Nat.le_of_ble_eq_true rfl) dX10_fewestMoves_10 ?_
    refine kr_iload_n dX10_fewestMoves_13 rfl ?_
    obtain ⟨v2, hv2, h⟩ := Option.bind_eq_some_iff.mp h
    refine kr_callSi (M' := kMX10_movesBackFirst) (As := [.int l0]) (st := [.int v1]) (RX10_movesBackFirst (e + 0) hv2) koX10_movesBackFirst rfl kw4_29 kw4_30 rfl (Nat.le_of_ble_eq_true rfl) dX10_fewestMoves_14 ?_
    refine kr_callSi (M' := kMJ9_min_7cf53) (As := [.int v1, .int v2]) (st := []) (RJ9_min_7cf53 (e + 2) rfl) koJ9_min_7cf53 rfl kw4_28 kw2_55 rfl (Nat.le_of_ble_eq_true rfl) dX10_fewestMoves_17 ?_
    cases h
    exact kr_iret rfl dX10_fewestMoves_20
set_option maxRecDepth 20000 in
set_option maxHeartbeats 4000000 in
theorem RX10_firstMove {Z : kv_Z} (e : Nat) {N : Nat} {G : kg_G} {l0 : Int32} {res : Int32} (h : fX10_firstMove N l0 = some res) : kv_M Z (e + 3) kMX10_firstMove [.int l0] (kg_w G) (some (.int res)) (kg_w G) := by
  refine kv_M_of (ls := [some (.int l0)]) (by decide) (Nat.le_of_ble_eq_true rfl) rfl ?_
  unfold fX10_firstMove at h
  refine kr_iload_n dX10_firstMove_0 rfl ?_
  refine kr_iconst (v := 1) dX10_firstMove_1 (by decide) ?_
  refine kr_icmp_ne (tgt := 7) dX10_firstMove_2 rfl (fun c2 => ?_) (fun c2 => ?_)
  · rw [if_pos c2] at h
    refine kr_iconst (v := (-1)) dX10_firstMove_5 (by decide) ?_
    cases h
    exact kr_iret rfl dX10_firstMove_6
  · rw [if_neg c2] at h
    refine kr_iload_n dX10_firstMove_7 rfl ?_
    obtain ⟨v1, hv1, h⟩ := Option.bind_eq_some_iff.mp h
    refine kr_callSi (M' := kMX10_movesOnFirst) (As := [.int l0]) (st := []) (RX10_movesOnFirst (e + 0) hv1) koX10_movesOnFirst rfl kw4_22 kw4_23 rfl (Nat.le_of_ble_eq_true rfl) dX10_firstMove_8 ?_
    refine kr_iload_n dX10_firstMove_11 rfl ?_
    obtain ⟨v2, hv2, h⟩ := Option.bind_eq_some_iff.mp h
    refine kr_callSi (M' := kMX10_movesBackFirst) (As := [.int l0]) (st := [.int v1]) (RX10_movesBackFirst (e + 0) hv2) koX10_movesBackFirst rfl kw4_29 kw4_30 rfl (Nat.le_of_ble_eq_true rfl) dX10_firstMove_12 ?_
    refine kr_icmp_gt (tgt := 22) dX10_firstMove_15 rfl (fun c15 => ?_) (fun c15 => ?_)
    · rw [if_pos c15] at h
      refine kr_iconst (v := 0) dX10_firstMove_22 (by decide) ?_
      cases h
      exact kr_iret rfl dX10_firstMove_23
    · rw [if_neg c15] at h
      refine kr_iconst (v := 1) dX10_firstMove_18 (by decide) ?_
      refine kr_goto (tgt := 23) dX10_firstMove_19 rfl ?_
      cases h
      exact kr_iret rfl dX10_firstMove_23
set_option maxRecDepth 20000 in
set_option maxHeartbeats 4000000 in
theorem RX10_route_30 {Z : kv_Z} (e : Nat) {N : Nat} {G : kg_G} : ∀ (l1 : Int32) (l2 : Int32) (res : Int32), fX10_route_30 N G l1 l2 = some res → kv_V Z (e + 4) kMX10_route 30 [some (.ref 0), some (.int l1), some (.int l2), none] [] (kg_w G) (some (.int res)) (kg_w G) := by
  intro l1 l2 res h
  unfold fX10_route_30 at h
  refine kr_aload_n dX10_route_30 rfl ?_
  refine kx_g0_1 kw1_189 dX10_route_31 ?_
  refine kr_iload_n dX10_route_34 rfl ?_
  obtain ⟨v1, hv1, h⟩ := Option.bind_eq_some_iff.mp h
  refine kr_callVi (M' := kMX9_movesAhead) (a := 3) (As := [.int l1]) (st := []) (RX9_movesAhead (e + 2) hv1) koX9_movesAhead rfl rfl rfl kw4_14 kw4_15 kw4_16 rfl (Nat.le_of_ble_eq_true rfl) dX10_route_35 ?_
  refine kr_istore_n (i := 3) (ls' := [some (.ref 0), some (.int l1), some (.int l2), some (.int v1)]) dX10_route_38 rfl (Nat.le_of_ble_eq_true rfl) rfl ?_
  refine kr_iload_n dX10_route_39 rfl ?_
  refine kr_if_ne (tgt := 50) dX10_route_40 rfl (fun c40 => ?_) (fun c40 => ?_)
  · rw [if_pos c40] at h
    refine kr_iload_n dX10_route_43 rfl ?_
    obtain ⟨v2, hv2, h⟩ := Option.bind_eq_some_iff.mp h
    refine kr_callSi (M' := kMX10_fewestMoves) (As := [.int v1]) (st := []) (RX10_fewestMoves (e + 0) hv2) koX10_fewestMoves rfl kw4_19 kw4_20 rfl (Nat.le_of_ble_eq_true rfl) dX10_route_44 ?_
    refine kr_goto (tgt := 54) dX10_route_47 rfl ?_
    cases h
    exact kr_iret rfl dX10_route_54
  · rw [if_neg c40] at h
    refine kr_iload_n dX10_route_50 rfl ?_
    obtain ⟨v3, hv3, h⟩ := Option.bind_eq_some_iff.mp h
    refine kr_callSi (M' := kMX10_firstMove) (As := [.int v1]) (st := []) (RX10_firstMove (e + 0) hv3) koX10_firstMove rfl kw4_32 kw4_33 rfl (Nat.le_of_ble_eq_true rfl) dX10_route_51 ?_
    cases h
    exact kr_iret rfl dX10_route_54
set_option maxRecDepth 20000 in
set_option maxHeartbeats 4000000 in
theorem RX10_route {Z : kv_Z} (e : Nat) {N : Nat} {G : kg_G} {l1 : Int32} {l2 : Int32} {res : Int32} (h : fX10_route N G l1 l2 = some res) : kv_M Z (e + 4) kMX10_route [.ref 0, .int l1, .int l2] (kg_w G) (some (.int res)) (kg_w G) := by
  refine kv_M_of (ls := [some (.ref 0), some (.int l1), some (.int l2), none]) (by decide) (Nat.le_of_ble_eq_true rfl) rfl ?_
  unfold fX10_route at h
  refine kr_iload_n dX10_route_0 rfl ?_
  refine kr_if_eq (tgt := 27) dX10_route_1 rfl (fun c1 => ?_) (fun c1 => ?_)
  · rw [if_pos c1] at h
    refine kr_bipush (v := (-102)) dX10_route_27 (by decide) ?_
    cases h
    exact kr_iret rfl dX10_route_29
  · rw [if_neg c1] at h
    refine kr_iload_n dX10_route_4 rfl ?_
    refine kr_aload_n dX10_route_5 rfl ?_
    refine kx_g0_1 kw1_189 dX10_route_6 ?_
    refine kx_g3_6 (G.1 3 6) rfl kw1_65 dX10_route_9 ?_
    refine kr_iconst (v := (-1)) dX10_route_12 (by decide) ?_
    refine kr_ixor dX10_route_13 ?_
    refine kr_iand dX10_route_14 ?_
    refine kr_if_ne (tgt := 27) dX10_route_15 rfl (fun c15 => ?_) (fun c15 => ?_)
    · rw [if_pos c15] at h
      refine kr_iload_n dX10_route_18 rfl ?_
      refine kr_if_eq (tgt := 30) dX10_route_19 rfl (fun c19 => ?_) (fun c19 => ?_)
      · rw [if_pos c19] at h
        exact RX10_route_30 e _ _ _ h
      · rw [if_neg c19] at h
        refine kr_iload_n dX10_route_22 rfl ?_
        refine kr_iconst (v := 1) dX10_route_23 (by decide) ?_
        refine kr_icmp_eq (tgt := 30) dX10_route_24 rfl (fun c24 => ?_) (fun c24 => ?_)
        · rw [if_pos c24] at h
          exact RX10_route_30 e _ _ _ h
        · rw [if_neg c24] at h
          refine kr_bipush (v := (-102)) dX10_route_27 (by decide) ?_
          cases h
          exact kr_iret rfl dX10_route_29
    · rw [if_neg c15] at h
      refine kr_bipush (v := (-102)) dX10_route_27 (by decide) ?_
      cases h
      exact kr_iret rfl dX10_route_29
set_option maxRecDepth 20000 in
set_option maxHeartbeats 4000000 in
theorem RX9_addSeen {Z : kv_Z} (e : Nat) {G : kg_G} {l1 : Int32} {l2 : Int32} {res : Int32 × kg_G} (h : fX9_addSeen G l1 l2 = some res) : kv_M Z (e + 0) kMX9_addSeen [.ref 3, .int l1, .int l2] (kg_w G) (some (.int res.1)) (kg_w res.2) := by
  refine kv_M_of (ls := [some (.ref 3), some (.int l1), some (.int l2)]) (by decide) (Nat.le_of_ble_eq_true rfl) rfl ?_
  unfold fX9_addSeen at h
  refine kr_aload_n dX9_addSeen_0 rfl ?_
  refine kx_g3_13 (G.1 3 13) rfl kw1_78 dX9_addSeen_1 ?_
  refine kr_bipush (v := 8) dX9_addSeen_4 (by decide) ?_
  refine kr_icmp_lt (tgt := 11) dX9_addSeen_6 rfl (fun c6 => ?_) (fun c6 => ?_)
  · rw [if_pos c6] at h
    refine kr_aload_n dX9_addSeen_11 rfl ?_
    refine kx_g3_4 kw1_62 dX9_addSeen_12 ?_
    refine kr_aload_n dX9_addSeen_15 rfl ?_
    refine kx_g3_13 (G.1 3 13) rfl kw1_78 dX9_addSeen_16 ?_
    refine kr_iload_n dX9_addSeen_19 rfl ?_
    obtain ⟨v1, hv1, h⟩ := Option.bind_eq_some_iff.mp h
    refine kx_s8 (G.2.1 8) rfl hv1 dX9_addSeen_20 ?_
    refine kr_aload_n dX9_addSeen_21 rfl ?_
    refine kx_g3_5 kw1_63 dX9_addSeen_22 ?_
    refine kr_aload_n dX9_addSeen_25 rfl ?_
    refine kx_g3_13 (G.1 3 13) rfl kw1_78 dX9_addSeen_26 ?_
    refine kr_iload_n dX9_addSeen_29 rfl ?_
    obtain ⟨v2, hv2, h⟩ := Option.bind_eq_some_iff.mp h
    refine kx_s9 (G.2.1 9) rfl hv2 dX9_addSeen_30 ?_
    refine kr_aload_n dX9_addSeen_31 rfl ?_
    refine kr_dup dX9_addSeen_32 rfl ?_
    refine kx_g3_13 (G.1 3 13) rfl kw1_78 dX9_addSeen_33 ?_
    refine kr_iconst (v := 1) dX9_addSeen_36 (by decide) ?_
    refine kr_iadd dX9_addSeen_37 ?_
    refine kx_p3_13 kw1_78 dX9_addSeen_38 ?_
    refine kr_iconst (v := 1) dX9_addSeen_41 (by decide) ?_
    cases h
    exact kr_zret rfl (by decide) dX9_addSeen_42
  · rw [if_neg c6] at h
    refine kr_iconst (v := 0) dX9_addSeen_9 (by decide) ?_
    cases h
    exact kr_zret rfl (by decide) dX9_addSeen_10
set_option maxRecDepth 20000 in
set_option maxHeartbeats 4000000 in
theorem RX10_see_55 {Z : kv_Z} (e : Nat) : ∀ (G : kg_G) (s1 : Int32) (s2 : Int32) (res : Int32 × kg_G), fX10_see_55 G s1 s2 = some res → kv_V Z (e + 2) kMX10_see 55 [some (.ref 0), none, none, none, none] [.int s2, .int s1, .ref 3] (kg_w G) (some (.int res.1)) (kg_w res.2) := by
  intro G s1 s2 res h
  unfold fX10_see_55 at h
  obtain ⟨v1, hv1, h⟩ := Option.bind_eq_some_iff.mp h
  refine kr_callVi (M' := kMX9_addSeen) (a := 3) (As := [.int s1, .int s2]) (st := []) (RX9_addSeen (e + 1) hv1) koX9_addSeen rfl rfl rfl kw4_40 kw4_41 kw4_42 rfl (Nat.le_of_ble_eq_true rfl) dX10_see_55 ?_
  refine kr_if_eq (tgt := 71) dX10_see_58 rfl (fun c58 => ?_) (fun c58 => ?_)
  · rw [if_pos c58] at h
    refine kr_bipush (v := (-104)) dX10_see_71 (by decide) ?_
    cases h
    exact kr_iret rfl dX10_see_73
  · rw [if_neg c58] at h
    refine kr_aload_n dX10_see_61 rfl ?_
    refine kx_g0_1 kw1_189 dX10_see_62 ?_
    refine kx_g3_13 (v1.2.1 3 13) rfl kw1_79 dX10_see_65 ?_
    refine kr_goto (tgt := 73) dX10_see_68 rfl ?_
    cases h
    exact kr_iret rfl dX10_see_73
set_option maxRecDepth 20000 in
set_option maxHeartbeats 4000000 in
theorem RX10_see {Z : kv_Z} (e : Nat) {G : kg_G} {l1 : Int32} {l2 : Int32} {l3 : Int32} {res : Int32 × kg_G} (h : fX10_see G l1 l2 l3 = some res) : kv_M Z (e + 2) kMX10_see [.ref 0, .int l1, .int l2, .int l3] (kg_w G) (some (.int res.1)) (kg_w res.2) := by
  refine kv_M_of (ls := [some (.ref 0), some (.int l1), some (.int l2), some (.int l3), none]) (by decide) (Nat.le_of_ble_eq_true rfl) rfl ?_
  unfold fX10_see at h
  refine kr_aload_n dX10_see_0 rfl ?_
  refine kr_iload_n dX10_see_1 rfl ?_
  obtain ⟨v1, hv1, h⟩ := Option.bind_eq_some_iff.mp h
  refine kr_callVi (M' := kMX10_isNumber) (a := 0) (As := [.int l1]) (st := []) (RX10_isNumber (e + 1) hv1) koX10_isNumber rfl rfl rfl kw3_87 kw3_89 kws_2 rfl (Nat.le_of_ble_eq_true rfl) dX10_see_2 ?_
  refine kr_if_eq (tgt := 16) dX10_see_5 rfl (fun c5 => ?_) (fun c5 => ?_)
  · rw [if_pos c5] at h
    refine kr_bipush (v := (-101)) dX10_see_16 (by decide) ?_
    cases h
    exact kr_iret rfl dX10_see_18
  · rw [if_neg c5] at h
    refine kr_aload_n dX10_see_8 rfl ?_
    refine kr_iload_n dX10_see_9 rfl ?_
    obtain ⟨v2, hv2, h⟩ := Option.bind_eq_some_iff.mp h
    refine kr_callVi (M' := kMX10_isTrick) (a := 0) (As := [.int l2]) (st := []) (RX10_isTrick (e + 1) hv2) koX10_isTrick rfl rfl rfl kw2_208 kw2_210 kws_0 rfl (Nat.le_of_ble_eq_true rfl) dX10_see_10 ?_
    refine kr_if_ne (tgt := 19) dX10_see_13 rfl (fun c13 => ?_) (fun c13 => ?_)
    · rw [if_pos c13] at h
      refine kr_bipush (v := (-101)) dX10_see_16 (by decide) ?_
      cases h
      exact kr_iret rfl dX10_see_18
    · rw [if_neg c13] at h
      refine kr_aload_n dX10_see_19 rfl ?_
      refine kx_g0_5 G.2.2.2.1 rfl kw1_193 dX10_see_20 ?_
      obtain ⟨v3, hv3, h⟩ := Option.bind_eq_some_iff.mp h
      refine kx_bt hv3 kw1_180 dX10_see_23 ?_
      refine kr_iload_n dX10_see_26 rfl ?_
      obtain ⟨v4, hv4, h⟩ := Option.bind_eq_some_iff.mp h
      obtain ⟨v5, hv5, h⟩ := Option.bind_eq_some_iff.mp h
      refine kx_ta hv4 hv5 dX10_see_27 ?_
      obtain ⟨v6, hv6, h⟩ := Option.bind_eq_some_iff.mp h
      refine kt_suitedStrongs (st := []) (e + 0) hv6 kw4_39 (Nat.le_of_ble_eq_true rfl) dX10_see_28 ?_
      refine kr_istore (ls' := [some (.ref 0), some (.int l1), some (.int l2), some (.int l3), some (.int (tk_suitedStrongs v6))]) dX10_see_31 (Nat.le_of_ble_eq_true rfl) rfl ?_
      refine kr_aload_n dX10_see_33 rfl ?_
      refine kx_g0_1 kw1_189 dX10_see_34 ?_
      refine kr_iload_n dX10_see_37 rfl ?_
      refine kr_iload_n dX10_see_38 rfl ?_
      refine kr_if_eq (tgt := 47) dX10_see_39 rfl (fun c39 => ?_) (fun c39 => ?_)
      · rw [if_pos c39] at h
        refine kr_sipush (v := 1023) dX10_see_47 (by decide) ?_
        refine kr_iload dX10_see_50 rfl ?_
        refine kr_iconst (v := (-1)) dX10_see_52 (by decide) ?_
        refine kr_ixor dX10_see_53 ?_
        refine kr_iand dX10_see_54 ?_
        refine kv_loc (ls' := [some (.ref 0), none, none, none, none]) (And.intro rfl trivial) ?_
        exact RX10_see_55 e _ _ _ _ h
      · rw [if_neg c39] at h
        refine kr_iload dX10_see_42 rfl ?_
        refine kr_goto (tgt := 55) dX10_see_44 rfl ?_
        refine kv_loc (ls' := [some (.ref 0), none, none, none, none]) (And.intro rfl trivial) ?_
        exact RX10_see_55 e _ _ _ _ h
set_option maxRecDepth 20000 in
set_option maxHeartbeats 4000000 in
theorem RX10_forget {Z : kv_Z} (e : Nat) {G : kg_G} {res : Int32 × kg_G} (h : fX10_forget G = res) : kv_M Z (e + 0) kMX10_forget [.ref 0] (kg_w G) (some (.int res.1)) (kg_w res.2) := by
  refine kv_M_of (ls := [some (.ref 0), none]) (by decide) (Nat.le_of_ble_eq_true rfl) rfl ?_
  unfold fX10_forget at h
  refine kr_aload_n dX10_forget_0 rfl ?_
  refine kx_g0_1 kw1_189 dX10_forget_1 ?_
  refine kx_g3_13 (G.1 3 13) rfl kw1_79 dX10_forget_4 ?_
  refine kr_istore_n (i := 1) (ls' := [some (.ref 0), some (.int (G.1 3 13))]) dX10_forget_7 rfl (Nat.le_of_ble_eq_true rfl) rfl ?_
  refine kr_aload_n dX10_forget_8 rfl ?_
  refine kx_g0_1 kw1_189 dX10_forget_9 ?_
  refine kr_iconst (v := 0) dX10_forget_12 (by decide) ?_
  refine kx_p3_13 kw1_79 dX10_forget_13 ?_
  refine kr_iload_n dX10_forget_16 rfl ?_
  cases h
  exact kr_iret rfl dX10_forget_17
set_option maxRecDepth 20000 in
set_option maxHeartbeats 4000000 in
theorem RX7_drawStrong {Z : kv_Z} (e : Nat) {G : kg_G} {res : Int32 × kg_G} (h : fX7_drawStrong G = res) : kv_M Z (e + 0) kMX7_drawStrong [.ref 23] (kg_w G) (some (.int res.1)) (kg_w res.2) := by
  refine kv_M_of (ls := [some (.ref 23)]) (by decide) (Nat.le_of_ble_eq_true rfl) rfl ?_
  unfold fX7_drawStrong at h
  refine kr_aload_n dX7_drawStrong_0 rfl ?_
  refine kr_ldc2 (x := 1103515245) kw4_60 dX7_drawStrong_1 ?_
  refine kr_aload_n dX7_drawStrong_4 rfl ?_
  refine kx_g23_5 (G.1 23 5) rfl kw1_154 dX7_drawStrong_5 ?_
  refine kr_i2l dX7_drawStrong_8 ?_
  refine kr_lmul dX7_drawStrong_9 ?_
  refine kr_ldc2 (x := 12345) kw4_61 dX7_drawStrong_10 ?_
  refine kr_ladd dX7_drawStrong_13 ?_
  refine kr_ldc2 (x := 2147483647) kw4_62 dX7_drawStrong_14 ?_
  refine kr_land dX7_drawStrong_17 ?_
  refine kr_l2i dX7_drawStrong_18 ?_
  refine kx_p23_5 kw1_154 dX7_drawStrong_19 ?_
  refine kr_aload_n dX7_drawStrong_22 rfl ?_
  refine kx_g23_5 ((((1103515245 * ((G.1 23 5).toInt64)) + 12345) &&& 2147483647).toInt32) rfl kw1_154 dX7_drawStrong_23 ?_
  refine kr_ldc (x := 65536) kw4_63 dX7_drawStrong_26 ?_
  refine kr_idiv dX7_drawStrong_28 (by decide) ?_
  refine kr_bipush (v := 10) dX7_drawStrong_29 (by decide) ?_
  refine kr_irem dX7_drawStrong_31 (by decide) ?_
  cases h
  exact kr_iret rfl dX7_drawStrong_32
set_option maxRecDepth 20000 in
set_option maxHeartbeats 4000000 in
theorem RX7_callUp {Z : kv_Z} (e : Nat) {G : kg_G} {l1 : Int32} {res : kg_G} (h : fX7_callUp G l1 = some res) : kv_M Z (e + 0) kMX7_callUp [.ref 23, .int l1] (kg_w G) none (kg_w res) := by
  refine kv_M_of (ls := [some (.ref 23), some (.int l1)]) (by decide) (Nat.le_of_ble_eq_true rfl) rfl ?_
  unfold fX7_callUp at h
  refine kr_aload_n dX7_callUp_0 rfl ?_
  refine kx_g23_2 (G.1 23 2) rfl kw1_149 dX7_callUp_1 ?_
  refine kr_iconst (v := 5) dX7_callUp_4 (by decide) ?_
  refine kr_icmp_ge (tgt := 28) dX7_callUp_5 rfl (fun c5 => ?_) (fun c5 => ?_)
  · rw [if_pos c5] at h
    cases h
    exact kr_vret rfl dX7_callUp_28
  · rw [if_neg c5] at h
    refine kr_aload_n dX7_callUp_8 rfl ?_
    refine kx_g23_0 kw1_147 dX7_callUp_9 ?_
    refine kr_aload_n dX7_callUp_12 rfl ?_
    refine kx_g23_2 (G.1 23 2) rfl kw1_149 dX7_callUp_13 ?_
    refine kr_iload_n dX7_callUp_16 rfl ?_
    obtain ⟨v1, hv1, h⟩ := Option.bind_eq_some_iff.mp h
    refine kx_s24 (G.2.1 24) rfl hv1 dX7_callUp_17 ?_
    refine kr_aload_n dX7_callUp_18 rfl ?_
    refine kr_dup dX7_callUp_19 rfl ?_
    refine kx_g23_2 (G.1 23 2) rfl kw1_149 dX7_callUp_20 ?_
    refine kr_iconst (v := 1) dX7_callUp_23 (by decide) ?_
    refine kr_iadd dX7_callUp_24 ?_
    refine kx_p23_2 kw1_149 dX7_callUp_25 ?_
    cases h
    exact kr_vret rfl dX7_callUp_28
set_option maxRecDepth 20000 in
set_option maxHeartbeats 4000000 in
theorem RX7_busyFor_5 {Z : kv_Z} (e : Nat) {N : Nat} {G : kg_G} : ∀ (n : Nat) (l1 : Int32) (l2 : Int32) (l3 : Int32) (l4 : Int32) (res : Int32), fX7_busyFor_5 N G n l1 l2 l3 l4 = some res → kv_V Z (e + 1) kMX7_busyFor 5 [some (.ref 23), some (.int l1), some (.int l2), some (.int l3), some (.int l4)] [] (kg_w G) (some (.int res)) (kg_w G) := by
  intro n
  induction n with
  | zero => intro l1 l2 l3 l4 res h; exact absurd h (by intro z; cases z)
  | succ n ih =>
    intro l1 l2 l3 l4 res h
    have hk5 := ih
    rw [fX7_busyFor_5] at h
    refine kr_iload dX7_busyFor_5 rfl ?_
    refine kr_iload_n dX7_busyFor_7 rfl ?_
    refine kr_icmp_ge (tgt := 36) dX7_busyFor_8 rfl (fun c8 => ?_) (fun c8 => ?_)
    · rw [if_pos c8] at h
      refine kr_iload_n dX7_busyFor_36 rfl ?_
      cases h
      exact kr_iret rfl dX7_busyFor_37
    · rw [if_neg c8] at h
      refine kr_iload_n dX7_busyFor_11 rfl ?_
      refine kr_iload dX7_busyFor_12 rfl ?_
      refine kr_callSNi (M' := kMX10_has) (As := [.int l1, .int l4]) (st := []) (RX10_has (e + 0) rfl) koX10_has rfl (by decide) kw3_16 rfl (Nat.le_of_ble_eq_true rfl) dX7_busyFor_14 ?_
      refine kr_if_eq (tgt := 30) dX7_busyFor_17 rfl (fun c17 => ?_) (fun c17 => ?_)
      · rw [if_pos c17] at h
        refine kr_iinc (v := l4 + 1) (ls' := [some (.ref 23), some (.int l1), some (.int l2), some (.int l3), some (.int (l4 + 1))]) dX7_busyFor_30 rfl rfl (Nat.le_of_ble_eq_true rfl) rfl ?_
        refine kr_goto (tgt := 5) dX7_busyFor_33 rfl ?_
        exact hk5 _ _ _ _ _ h
      · rw [if_neg c17] at h
        refine kr_iload_n dX7_busyFor_20 rfl ?_
        refine kr_aload_n dX7_busyFor_21 rfl ?_
        refine kx_g23_1 kw1_148 dX7_busyFor_22 ?_
        refine kr_iload dX7_busyFor_25 rfl ?_
        obtain ⟨v2, hv2, h⟩ := Option.bind_eq_some_iff.mp h
        refine kx_a25 (G.2.1 25) rfl hv2 dX7_busyFor_27 ?_
        refine kr_ior dX7_busyFor_28 ?_
        refine kr_istore_n (i := 3) (ls' := [some (.ref 23), some (.int l1), some (.int l2), some (.int (l3 ||| v2)), some (.int l4)]) dX7_busyFor_29 rfl (Nat.le_of_ble_eq_true rfl) rfl ?_
        refine kr_iinc (v := l4 + 1) (ls' := [some (.ref 23), some (.int l1), some (.int l2), some (.int (l3 ||| v2)), some (.int (l4 + 1))]) dX7_busyFor_30 rfl rfl (Nat.le_of_ble_eq_true rfl) rfl ?_
        refine kr_goto (tgt := 5) dX7_busyFor_33 rfl ?_
        exact hk5 _ _ _ _ _ h
set_option maxRecDepth 20000 in
set_option maxHeartbeats 4000000 in
theorem RX7_busyFor {Z : kv_Z} (e : Nat) {N : Nat} {G : kg_G} {l1 : Int32} {l2 : Int32} {res : Int32} (h : fX7_busyFor N G l1 l2 = some res) : kv_M Z (e + 1) kMX7_busyFor [.ref 23, .int l1, .int l2] (kg_w G) (some (.int res)) (kg_w G) := by
  refine kv_M_of (ls := [some (.ref 23), some (.int l1), some (.int l2), none, none]) (by decide) (Nat.le_of_ble_eq_true rfl) rfl ?_
  unfold fX7_busyFor at h
  refine kr_iconst (v := 0) dX7_busyFor_0 (by decide) ?_
  refine kr_istore_n (i := 3) (ls' := [some (.ref 23), some (.int l1), some (.int l2), some (.int 0), none]) dX7_busyFor_1 rfl (Nat.le_of_ble_eq_true rfl) rfl ?_
  refine kr_iconst (v := 0) dX7_busyFor_2 (by decide) ?_
  refine kr_istore (ls' := [some (.ref 23), some (.int l1), some (.int l2), some (.int 0), some (.int 0)]) dX7_busyFor_3 (Nat.le_of_ble_eq_true rfl) rfl ?_
  exact RX7_busyFor_5 e N _ _ _ _ _ h
set_option maxRecDepth 20000 in
set_option maxHeartbeats 4000000 in
theorem RX7_take_11 {Z : kv_Z} (e : Nat) {N : Nat} {G : kg_G} : ∀ (n : Nat) (a1 : Nat) (l2 : Int32) (l3 : Int32) (l4 : Int32) (l5 : Int32) (res : Int32), fX7_take_11 N G n a1 l2 l3 l4 l5 = some res → kv_V Z (e + 1) kMX7_take 11 [some (.ref 23), some (.ref a1), some (.int l2), some (.int l3), some (.int l4), some (.int l5)] [] (kg_w G) (some (.int res)) (kg_w G) := by
  intro n
  induction n with
  | zero => intro a1 l2 l3 l4 l5 res h; exact absurd h (by intro z; cases z)
  | succ n ih =>
    intro a1 l2 l3 l4 l5 res h
    have hk11 := ih
    rw [fX7_take_11] at h
    refine kr_iload dX7_take_11 rfl ?_
    refine kr_aload_n dX7_take_13 rfl ?_
    refine kx_g23_2 (G.1 23 2) rfl kw1_149 dX7_take_14 ?_
    refine kr_icmp_ge (tgt := 64) dX7_take_17 rfl (fun c17 => ?_) (fun c17 => ?_)
    · rw [if_pos c17] at h
      refine kr_iload_n dX7_take_64 rfl ?_
      cases h
      exact kr_iret rfl dX7_take_65
    · rw [if_neg c17] at h
      refine kr_iload dX7_take_20 rfl ?_
      refine kr_if_le (tgt := 64) dX7_take_22 rfl (fun c22 => ?_) (fun c22 => ?_)
      · rw [if_pos c22] at h
        refine kr_iload_n dX7_take_64 rfl ?_
        cases h
        exact kr_iret rfl dX7_take_65
      · rw [if_neg c22] at h
        refine kr_iload_n dX7_take_25 rfl ?_
        refine kr_iload dX7_take_26 rfl ?_
        refine kr_callSNi (M' := kMX10_has) (As := [.int l2, .int l5]) (st := []) (RX10_has (e + 0) rfl) koX10_has rfl (by decide) kw3_16 rfl (Nat.le_of_ble_eq_true rfl) dX7_take_28 ?_
        refine kr_if_ne (tgt := 58) dX7_take_31 rfl (fun c31 => ?_) (fun c31 => ?_)
        · rw [if_pos c31] at h
          refine kr_aload_n dX7_take_34 rfl ?_
          refine kr_aload_n dX7_take_35 rfl ?_
          refine kx_g23_0 kw1_147 dX7_take_36 ?_
          refine kr_iload dX7_take_39 rfl ?_
          obtain ⟨v2, hv2, h⟩ := Option.bind_eq_some_iff.mp h
          refine kx_a24 (G.2.1 24) rfl hv2 dX7_take_41 ?_
          obtain ⟨v3, hv3, h⟩ := Option.bind_eq_some_iff.mp h
          refine kt_suits (st := []) (e + 0) hv3 kw4_84 (Nat.le_of_ble_eq_true rfl) dX7_take_42 ?_
          refine kr_if_eq (tgt := 58) dX7_take_45 rfl (fun c45 => ?_) (fun c45 => ?_)
          · rw [if_pos c45] at h
            refine kr_iinc (v := l5 + 1) (ls' := [some (.ref 23), some (.ref a1), some (.int l2), some (.int l3), some (.int l4), some (.int (l5 + 1))]) dX7_take_58 rfl rfl (Nat.le_of_ble_eq_true rfl) rfl ?_
            refine kr_goto (tgt := 11) dX7_take_61 rfl ?_
            exact hk11 _ _ _ _ _ _ h
          · rw [if_neg c45] at h
            refine kr_iload_n dX7_take_48 rfl ?_
            refine kr_iconst (v := 1) dX7_take_49 (by decide) ?_
            refine kr_iload dX7_take_50 rfl ?_
            refine kr_ishl dX7_take_52 ?_
            refine kr_ior dX7_take_53 ?_
            refine kr_istore_n (i := 3) (ls' := [some (.ref 23), some (.ref a1), some (.int l2), some (.int (l3 ||| (1 <<< (l5 &&& 31)))), some (.int l4), some (.int l5)]) dX7_take_54 rfl (Nat.le_of_ble_eq_true rfl) rfl ?_
            refine kr_iinc (v := l4 + (-1)) (ls' := [some (.ref 23), some (.ref a1), some (.int l2), some (.int (l3 ||| (1 <<< (l5 &&& 31)))), some (.int (l4 + (-1))), some (.int l5)]) dX7_take_55 rfl rfl (Nat.le_of_ble_eq_true rfl) rfl ?_
            refine kr_iinc (v := l5 + 1) (ls' := [some (.ref 23), some (.ref a1), some (.int l2), some (.int (l3 ||| (1 <<< (l5 &&& 31)))), some (.int (l4 + (-1))), some (.int (l5 + 1))]) dX7_take_58 rfl rfl (Nat.le_of_ble_eq_true rfl) rfl ?_
            refine kr_goto (tgt := 11) dX7_take_61 rfl ?_
            exact hk11 _ _ _ _ _ _ h
        · rw [if_neg c31] at h
          refine kr_iinc (v := l5 + 1) (ls' := [some (.ref 23), some (.ref a1), some (.int l2), some (.int l3), some (.int l4), some (.int (l5 + 1))]) dX7_take_58 rfl rfl (Nat.le_of_ble_eq_true rfl) rfl ?_
          refine kr_goto (tgt := 11) dX7_take_61 rfl ?_
          exact hk11 _ _ _ _ _ _ h
set_option maxRecDepth 20000 in
set_option maxHeartbeats 4000000 in
theorem RX7_take {Z : kv_Z} (e : Nat) {N : Nat} {G : kg_G} {a1 : Nat} {l2 : Int32} {res : Int32} (h : fX7_take N G a1 l2 = some res) : kv_M Z (e + 1) kMX7_take [.ref 23, .ref a1, .int l2] (kg_w G) (some (.int res)) (kg_w G) := by
  refine kv_M_of (ls := [some (.ref 23), some (.ref a1), some (.int l2), none, none, none]) (by decide) (Nat.le_of_ble_eq_true rfl) rfl ?_
  unfold fX7_take at h
  refine kr_iconst (v := 0) dX7_take_0 (by decide) ?_
  refine kr_istore_n (i := 3) (ls' := [some (.ref 23), some (.ref a1), some (.int l2), some (.int 0), none, none]) dX7_take_1 rfl (Nat.le_of_ble_eq_true rfl) rfl ?_
  refine kr_aload_n dX7_take_2 rfl ?_
  obtain ⟨v1, hv1, h⟩ := Option.bind_eq_some_iff.mp h
  refine kt_crew (st := []) (e + 0) hv1 kw4_83 (Nat.le_of_ble_eq_true rfl) dX7_take_3 ?_
  refine kr_istore (ls' := [some (.ref 23), some (.ref a1), some (.int l2), some (.int 0), some (.int (tk_crew v1)), none]) dX7_take_6 (Nat.le_of_ble_eq_true rfl) rfl ?_
  refine kr_iconst (v := 0) dX7_take_8 (by decide) ?_
  refine kr_istore (ls' := [some (.ref 23), some (.ref a1), some (.int l2), some (.int 0), some (.int (tk_crew v1)), some (.int 0)]) dX7_take_9 (Nat.le_of_ble_eq_true rfl) rfl ?_
  exact RX7_take_11 e N _ _ _ _ _ _ h
set_option maxRecDepth 20000 in
set_option maxHeartbeats 4000000 in
theorem RX7_play_15 {Z : kv_Z} (e : Nat) {N : Nat} : ∀ (n : Nat) (G : kg_G) (a1 : Nat) (l2 : Int32) (l3 : Int32) (l4 : Int32) (res : Int32 × kg_G), fX7_play_15 N n G a1 l2 l3 l4 = some res → kv_V Z (e + 3) kMX7_play 15 [some (.ref 23), some (.ref a1), some (.int l2), some (.int l3), some (.int l4)] [] (kg_w G) (some (.int res.1)) (kg_w res.2) := by
  intro n
  induction n with
  | zero => intro G a1 l2 l3 l4 res h; exact absurd h (by intro z; cases z)
  | succ n ih =>
    intro G a1 l2 l3 l4 res h
    have hk15 := ih
    rw [fX7_play_15] at h
    refine kr_iload dX7_play_15 rfl ?_
    refine kr_iload_n dX7_play_17 rfl ?_
    refine kr_icmp_ge (tgt := 97) dX7_play_18 rfl (fun c18 => ?_) (fun c18 => ?_)
    · rw [if_pos c18] at h
      refine kr_iload_n dX7_play_97 rfl ?_
      cases h
      exact kr_iret rfl dX7_play_98
    · rw [if_neg c18] at h
      refine kr_aload_n dX7_play_21 rfl ?_
      refine kx_g23_1 kw1_148 dX7_play_22 ?_
      refine kr_iload dX7_play_25 rfl ?_
      refine kr_aload_n dX7_play_27 rfl ?_
      refine kr_aload_n dX7_play_28 rfl ?_
      obtain ⟨v1, hv1, h⟩ := Option.bind_eq_some_iff.mp h
      refine kx_bt hv1 kw1_179 dX7_play_29 ?_
      refine kr_iload dX7_play_32 rfl ?_
      obtain ⟨v2, hv2, h⟩ := Option.bind_eq_some_iff.mp h
      obtain ⟨v3, hv3, h⟩ := Option.bind_eq_some_iff.mp h
      refine kx_ta hv2 hv3 dX7_play_34 ?_
      refine kr_aload_n dX7_play_35 rfl ?_
      refine kr_aload_n dX7_play_36 rfl ?_
      refine kr_iload dX7_play_37 rfl ?_
      obtain ⟨v5, hv5, h⟩ := Option.bind_eq_some_iff.mp h
      obtain ⟨v4, hv4, h⟩ := Option.bind_eq_some_iff.mp h
      refine kr_callVi (M' := kMX0_clashesOf) (a := a1) (As := [.int l4]) (st := [.ref 23, .ref v3, .ref 23, .int l4, .ref 25]) (RX0_clashesOf (e + 0) hv4) koX0_clashesOf rfl (kg_bl_w hv5) rfl kw4_73 kw3_49 kw3_50 rfl (Nat.le_of_ble_eq_true rfl) dX7_play_39 ?_
      refine kr_iload dX7_play_42 rfl ?_
      obtain ⟨v6, hv6, h⟩ := Option.bind_eq_some_iff.mp h
      refine kr_callVi (M' := kMX7_busyFor) (a := 23) (As := [.int v4, .int l4]) (st := [.ref v3, .ref 23, .int l4, .ref 25]) (RX7_busyFor (e + 1) hv6) koX7_busyFor rfl rfl rfl kw4_74 kw4_76 kws_13 rfl (Nat.le_of_ble_eq_true rfl) dX7_play_44 ?_
      obtain ⟨v7, hv7, h⟩ := Option.bind_eq_some_iff.mp h
      refine kr_callVi (M' := kMX7_take) (a := 23) (As := [.ref v3, .int v6]) (st := [.int l4, .ref 25]) (RX7_take (e + 1) hv7) koX7_take rfl rfl rfl kw4_79 kw4_81 kws_14 rfl (Nat.le_of_ble_eq_true rfl) dX7_play_47 ?_
      obtain ⟨v8, hv8, h⟩ := Option.bind_eq_some_iff.mp h
      refine kx_s25 (G.2.1 25) rfl hv8 dX7_play_50 ?_
      refine kr_aload_n dX7_play_51 rfl ?_
      refine kr_iload dX7_play_52 rfl ?_
      refine kr_aload_n dX7_play_54 rfl ?_
      refine kx_g23_1 kw1_148 dX7_play_55 ?_
      refine kr_iload dX7_play_58 rfl ?_
      obtain ⟨v9, hv9, h⟩ := Option.bind_eq_some_iff.mp h
      refine kx_a25 v8 rfl hv9 dX7_play_60 ?_
      refine kr_aload_n dX7_play_61 rfl ?_
      refine kx_g23_0 kw1_147 dX7_play_62 ?_
      obtain ⟨v11, hv11, h⟩ := Option.bind_eq_some_iff.mp h
      obtain ⟨v10, hv10, h⟩ := Option.bind_eq_some_iff.mp h
      refine kr_callVi (M' := kMX0_isDoneBy) (a := a1) (As := [.int l4, .int v9, .ref 24]) (st := []) (RX0_isDoneBy (e + 1) hv10) koX0_isDoneBy rfl (kg_bl_w hv11) rfl kw4_85 kw3_5 kw3_6 rfl (Nat.le_of_ble_eq_true rfl) dX7_play_65 ?_
      refine kr_if_eq (tgt := 91) dX7_play_68 rfl (fun c68 => ?_) (fun c68 => ?_)
      · rw [if_pos c68] at h
        refine kr_iinc (v := l4 + 1) (ls' := [some (.ref 23), some (.ref a1), some (.int l2), some (.int l3), some (.int (l4 + 1))]) dX7_play_91 rfl rfl (Nat.le_of_ble_eq_true rfl) rfl ?_
        refine kr_goto (tgt := 15) dX7_play_94 rfl ?_
        exact hk15 _ _ _ _ _ _ h
      · rw [if_neg c68] at h
        refine kr_aload_n dX7_play_71 rfl ?_
        refine kr_dup dX7_play_72 rfl ?_
        refine kx_g23_3 (G.1 23 3) rfl kw1_150 dX7_play_73 ?_
        refine kr_iconst (v := 1) dX7_play_76 (by decide) ?_
        refine kr_iadd dX7_play_77 ?_
        refine kx_p23_3 kw1_150 dX7_play_78 ?_
        refine kr_iload_n dX7_play_81 rfl ?_
        refine kr_aload_n dX7_play_82 rfl ?_
        refine kx_g23_1 kw1_148 dX7_play_83 ?_
        refine kr_iload dX7_play_86 rfl ?_
        obtain ⟨v12, hv12, h⟩ := Option.bind_eq_some_iff.mp h
        refine kx_a25 v8 rfl hv12 dX7_play_88 ?_
        refine kr_ior dX7_play_89 ?_
        refine kr_istore_n (i := 2) (ls' := [some (.ref 23), some (.ref a1), some (.int (l2 ||| v12)), some (.int l3), some (.int l4)]) dX7_play_90 rfl (Nat.le_of_ble_eq_true rfl) rfl ?_
        refine kr_iinc (v := l4 + 1) (ls' := [some (.ref 23), some (.ref a1), some (.int (l2 ||| v12)), some (.int l3), some (.int (l4 + 1))]) dX7_play_91 rfl rfl (Nat.le_of_ble_eq_true rfl) rfl ?_
        refine kr_goto (tgt := 15) dX7_play_94 rfl ?_
        exact hk15 _ _ _ _ _ _ h
set_option maxRecDepth 20000 in
set_option maxHeartbeats 4000000 in
theorem RX7_play {Z : kv_Z} (e : Nat) {N : Nat} {G : kg_G} {a1 : Nat} {res : Int32 × kg_G} (h : fX7_play N G a1 = some res) : kv_M Z (e + 3) kMX7_play [.ref 23, .ref a1] (kg_w G) (some (.int res.1)) (kg_w res.2) := by
  refine kv_M_of (ls := [some (.ref 23), some (.ref a1), none, none, none]) (by decide) (Nat.le_of_ble_eq_true rfl) rfl ?_
  unfold fX7_play at h
  refine kr_iconst (v := 0) dX7_play_0 (by decide) ?_
  refine kr_istore_n (i := 2) (ls' := [some (.ref 23), some (.ref a1), some (.int 0), none, none]) dX7_play_1 rfl (Nat.le_of_ble_eq_true rfl) rfl ?_
  refine kr_aload_n dX7_play_2 rfl ?_
  obtain ⟨v1, hv1, h⟩ := Option.bind_eq_some_iff.mp h
  refine kx_bt hv1 kw1_179 dX7_play_3 ?_
  obtain ⟨v2, hv2, h⟩ := Option.bind_eq_some_iff.mp h
  refine kx_tl hv2 dX7_play_6 ?_
  refine kr_iconst (v := 5) dX7_play_7 (by decide) ?_
  refine kr_callSi (M' := kMJ9_min_7cf53) (As := [.int (nI v2.length), .int 5]) (st := []) (RJ9_min_7cf53 (e + 2) rfl) koJ9_min_7cf53 rfl kw4_72 kw2_55 rfl (Nat.le_of_ble_eq_true rfl) dX7_play_8 ?_
  refine kr_istore_n (i := 3) (ls' := [some (.ref 23), some (.ref a1), some (.int 0), some (.int (fJ9_min_7cf53 (nI v2.length) 5)), none]) dX7_play_11 rfl (Nat.le_of_ble_eq_true rfl) rfl ?_
  refine kr_iconst (v := 0) dX7_play_12 (by decide) ?_
  refine kr_istore (ls' := [some (.ref 23), some (.ref a1), some (.int 0), some (.int (fJ9_min_7cf53 (nI v2.length) 5)), some (.int 0)]) dX7_play_13 (Nat.le_of_ble_eq_true rfl) rfl ?_
  exact RX7_play_15 e N _ _ _ _ _ _ h
set_option maxRecDepth 20000 in
set_option maxHeartbeats 4000000 in
theorem RX7_sendHome_36 {Z : kv_Z} (e : Nat) {N : Nat} : ∀ (n : Nat) (G : kg_G) (l3 : Int32) (res : kg_G), fX7_sendHome_36 N n G l3 = some res → kv_V Z (e + 1) kMX7_sendHome 36 [some (.ref 23), none, none, some (.int l3)] [] (kg_w G) none (kg_w res) := by
  intro n
  induction n with
  | zero => intro G l3 res h; exact absurd h (by intro z; cases z)
  | succ n ih =>
    intro G l3 res h
    have hk36 := ih
    rw [fX7_sendHome_36] at h
    refine kr_iload_n dX7_sendHome_36 rfl ?_
    refine kr_aload_n dX7_sendHome_37 rfl ?_
    refine kx_g23_2 (G.1 23 2) rfl kw1_149 dX7_sendHome_38 ?_
    refine kr_icmp_ge (tgt := 64) dX7_sendHome_41 rfl (fun c41 => ?_) (fun c41 => ?_)
    · rw [if_pos c41] at h
      refine kr_aload_n dX7_sendHome_64 rfl ?_
      refine kr_dup dX7_sendHome_65 rfl ?_
      refine kx_g23_2 (G.1 23 2) rfl kw1_149 dX7_sendHome_66 ?_
      refine kr_iconst (v := 1) dX7_sendHome_69 (by decide) ?_
      refine kr_isub dX7_sendHome_70 ?_
      refine kx_p23_2 kw1_149 dX7_sendHome_71 ?_
      refine kr_aload_n dX7_sendHome_74 rfl ?_
      refine kr_dup dX7_sendHome_75 rfl ?_
      refine kx_g23_4 (G.1 23 4) rfl kw1_152 dX7_sendHome_76 ?_
      refine kr_iconst (v := 1) dX7_sendHome_79 (by decide) ?_
      refine kr_iadd dX7_sendHome_80 ?_
      refine kx_p23_4 kw1_152 dX7_sendHome_81 ?_
      cases h
      exact kr_vret rfl dX7_sendHome_84
    · rw [if_neg c41] at h
      refine kr_aload_n dX7_sendHome_44 rfl ?_
      refine kx_g23_0 kw1_147 dX7_sendHome_45 ?_
      refine kr_iload_n dX7_sendHome_48 rfl ?_
      refine kr_iconst (v := 1) dX7_sendHome_49 (by decide) ?_
      refine kr_isub dX7_sendHome_50 ?_
      refine kr_aload_n dX7_sendHome_51 rfl ?_
      refine kx_g23_0 kw1_147 dX7_sendHome_52 ?_
      refine kr_iload_n dX7_sendHome_55 rfl ?_
      obtain ⟨v1, hv1, h⟩ := Option.bind_eq_some_iff.mp h
      refine kx_a24 (G.2.1 24) rfl hv1 dX7_sendHome_56 ?_
      obtain ⟨v2, hv2, h⟩ := Option.bind_eq_some_iff.mp h
      refine kx_s24 (G.2.1 24) rfl hv2 dX7_sendHome_57 ?_
      refine kr_iinc (v := l3 + 1) (ls' := [some (.ref 23), none, none, some (.int (l3 + 1))]) dX7_sendHome_58 rfl rfl (Nat.le_of_ble_eq_true rfl) rfl ?_
      refine kr_goto (tgt := 36) dX7_sendHome_61 rfl ?_
      exact hk36 _ _ _ h
set_option maxRecDepth 20000 in
set_option maxHeartbeats 4000000 in
theorem RX7_sendHome_24 {Z : kv_Z} (e : Nat) {N : Nat} : ∀ (G : kg_G) (l2 : Int32) (res : kg_G), fX7_sendHome_24 N G l2 = some res → kv_V Z (e + 1) kMX7_sendHome 24 [some (.ref 23), none, some (.int l2), none] [] (kg_w G) none (kg_w res) := by
  intro G l2 res h
  unfold fX7_sendHome_24 at h
  refine kr_iload_n dX7_sendHome_24 rfl ?_
  refine kr_aload_n dX7_sendHome_25 rfl ?_
  refine kx_g23_2 (G.1 23 2) rfl kw1_149 dX7_sendHome_26 ?_
  refine kr_icmp_ge (tgt := 84) dX7_sendHome_29 rfl (fun c29 => ?_) (fun c29 => ?_)
  · rw [if_pos c29] at h
    cases h
    exact kr_vret rfl dX7_sendHome_84
  · rw [if_neg c29] at h
    refine kr_iload_n dX7_sendHome_32 rfl ?_
    refine kr_iconst (v := 1) dX7_sendHome_33 (by decide) ?_
    refine kr_iadd dX7_sendHome_34 ?_
    refine kr_istore_n (i := 3) (ls' := [some (.ref 23), none, some (.int l2), some (.int (l2 + 1))]) dX7_sendHome_35 rfl (Nat.le_of_ble_eq_true rfl) rfl ?_
    refine kv_loc (ls' := [some (.ref 23), none, none, some (.int (l2 + 1))]) (And.intro rfl (And.intro rfl trivial)) ?_
    exact RX7_sendHome_36 e N _ _ _ h
set_option maxRecDepth 20000 in
set_option maxHeartbeats 4000000 in
theorem RX7_sendHome_2 {Z : kv_Z} (e : Nat) {N : Nat} : ∀ (n : Nat) (G : kg_G) (l1 : Int32) (l2 : Int32) (res : kg_G), fX7_sendHome_2 N n G l1 l2 = some res → kv_V Z (e + 1) kMX7_sendHome 2 [some (.ref 23), some (.int l1), some (.int l2), none] [] (kg_w G) none (kg_w res) := by
  intro n
  induction n with
  | zero => intro G l1 l2 res h; exact absurd h (by intro z; cases z)
  | succ n ih =>
    intro G l1 l2 res h
    have hk2 := ih
    rw [fX7_sendHome_2] at h
    refine kr_iload_n dX7_sendHome_2 rfl ?_
    refine kr_aload_n dX7_sendHome_3 rfl ?_
    refine kx_g23_2 (G.1 23 2) rfl kw1_149 dX7_sendHome_4 ?_
    refine kr_icmp_ge (tgt := 24) dX7_sendHome_7 rfl (fun c7 => ?_) (fun c7 => ?_)
    · rw [if_pos c7] at h
      refine kv_loc (ls' := [some (.ref 23), none, some (.int l2), none]) (And.intro rfl (And.intro rfl trivial)) ?_
      exact RX7_sendHome_24 e _ _ _ h
    · rw [if_neg c7] at h
      refine kr_iload_n dX7_sendHome_10 rfl ?_
      refine kr_iload_n dX7_sendHome_11 rfl ?_
      refine kr_callSNi (M' := kMX10_has) (As := [.int l1, .int l2]) (st := []) (RX10_has (e + 0) rfl) koX10_has rfl (by decide) kw3_16 rfl (Nat.le_of_ble_eq_true rfl) dX7_sendHome_12 ?_
      refine kr_if_eq (tgt := 24) dX7_sendHome_15 rfl (fun c15 => ?_) (fun c15 => ?_)
      · rw [if_pos c15] at h
        refine kv_loc (ls' := [some (.ref 23), none, some (.int l2), none]) (And.intro rfl (And.intro rfl trivial)) ?_
        exact RX7_sendHome_24 e _ _ _ h
      · rw [if_neg c15] at h
        refine kr_iinc (v := l2 + 1) (ls' := [some (.ref 23), some (.int l1), some (.int (l2 + 1)), none]) dX7_sendHome_18 rfl rfl (Nat.le_of_ble_eq_true rfl) rfl ?_
        refine kr_goto (tgt := 2) dX7_sendHome_21 rfl ?_
        exact hk2 _ _ _ _ h
set_option maxRecDepth 20000 in
set_option maxHeartbeats 4000000 in
theorem RX7_sendHome {Z : kv_Z} (e : Nat) {N : Nat} {G : kg_G} {l1 : Int32} {res : kg_G} (h : fX7_sendHome N G l1 = some res) : kv_M Z (e + 1) kMX7_sendHome [.ref 23, .int l1] (kg_w G) none (kg_w res) := by
  refine kv_M_of (ls := [some (.ref 23), some (.int l1), none, none]) (by decide) (Nat.le_of_ble_eq_true rfl) rfl ?_
  unfold fX7_sendHome at h
  refine kr_iconst (v := 0) dX7_sendHome_0 (by decide) ?_
  refine kr_istore_n (i := 2) (ls' := [some (.ref 23), some (.int l1), some (.int 0), none]) dX7_sendHome_1 rfl (Nat.le_of_ble_eq_true rfl) rfl ?_
  exact RX7_sendHome_2 e N _ _ _ _ h
set_option maxRecDepth 20000 in
set_option maxHeartbeats 4000000 in
theorem RX7_go_23 {Z : kv_Z} (e : Nat) {N : Nat} : ∀ (n : Nat) (G : kg_G) (a1 : Nat) (l2 : Int32) (l4 : Int32) (res : kg_G), fX7_go_23 N n G a1 l2 l4 = some res → kv_V Z (e + 4) kMX7_go 23 [some (.ref 23), some (.ref a1), some (.int l2), none, some (.int l4)] [] (kg_w G) none (kg_w res) := by
  intro n
  induction n with
  | zero => intro G a1 l2 l4 res h; exact absurd h (by intro z; cases z)
  | succ n ih =>
    intro G a1 l2 l4 res h
    have hk23 := ih
    rw [fX7_go_23] at h
    refine kr_iload dX7_go_23 rfl ?_
    refine kr_iload_n dX7_go_25 rfl ?_
    refine kr_icmp_ge (tgt := 52) dX7_go_26 rfl (fun c26 => ?_) (fun c26 => ?_)
    · rw [if_pos c26] at h
      cases h
      exact kr_vret rfl dX7_go_52
    · rw [if_neg c26] at h
      refine kr_aload_n dX7_go_29 rfl ?_
      refine kr_aload_n dX7_go_30 rfl ?_
      refine kr_callVi (M' := kMX7_drawStrong) (a := 23) (As := []) (st := [.ref 23]) (RX7_drawStrong (e + 3) rfl) koX7_drawStrong rfl rfl rfl kw4_56 kw4_58 kws_10 rfl (Nat.le_of_ble_eq_true rfl) dX7_go_31 ?_
      obtain ⟨v2, hv2, h⟩ := Option.bind_eq_some_iff.mp h
      refine kr_callVv (M' := kMX7_callUp) (a := 23) (As := [.int ((fX7_drawStrong G).1)]) (st := []) (RX7_callUp (e + 3) hv2) koX7_callUp rfl rfl rfl kw4_64 kw4_66 kws_11 rfl (Nat.le_of_ble_eq_true rfl) dX7_go_34 ?_
      refine kr_aload_n dX7_go_37 rfl ?_
      refine kr_aload_n dX7_go_38 rfl ?_
      refine kr_aload_n dX7_go_39 rfl ?_
      obtain ⟨v3, hv3, h⟩ := Option.bind_eq_some_iff.mp h
      refine kr_callVi (M' := kMX7_play) (a := 23) (As := [.ref a1]) (st := [.ref 23]) (RX7_play (e + 0) hv3) koX7_play rfl rfl rfl kw4_68 kw4_70 kws_12 rfl (Nat.le_of_ble_eq_true rfl) dX7_go_40 ?_
      obtain ⟨v4, hv4, h⟩ := Option.bind_eq_some_iff.mp h
      refine kr_callVv (M' := kMX7_sendHome) (a := 23) (As := [.int v3.1]) (st := []) (RX7_sendHome (e + 2) hv4) koX7_sendHome rfl rfl rfl kw4_86 kw4_88 kws_15 rfl (Nat.le_of_ble_eq_true rfl) dX7_go_43 ?_
      refine kr_iinc (v := l4 + 1) (ls' := [some (.ref 23), some (.ref a1), some (.int l2), none, some (.int (l4 + 1))]) dX7_go_46 rfl rfl (Nat.le_of_ble_eq_true rfl) rfl ?_
      refine kr_goto (tgt := 23) dX7_go_49 rfl ?_
      exact hk23 _ _ _ _ _ h
set_option maxRecDepth 20000 in
set_option maxHeartbeats 4000000 in
theorem RX7_go {Z : kv_Z} (e : Nat) {N : Nat} {G : kg_G} {a1 : Nat} {l2 : Int32} {l3 : Int32} {res : kg_G} (h : fX7_go N G a1 l2 l3 = some res) : kv_M Z (e + 4) kMX7_go [.ref 23, .ref a1, .int l2, .int l3] (kg_w G) none (kg_w res) := by
  refine kv_M_of (ls := [some (.ref 23), some (.ref a1), some (.int l2), some (.int l3), none]) (by decide) (Nat.le_of_ble_eq_true rfl) rfl ?_
  unfold fX7_go at h
  refine kr_aload_n dX7_go_0 rfl ?_
  refine kr_iconst (v := 0) dX7_go_1 (by decide) ?_
  refine kx_p23_2 kw1_149 dX7_go_2 ?_
  refine kr_aload_n dX7_go_5 rfl ?_
  refine kr_iconst (v := 0) dX7_go_6 (by decide) ?_
  refine kx_p23_3 kw1_150 dX7_go_7 ?_
  refine kr_aload_n dX7_go_10 rfl ?_
  refine kr_iconst (v := 0) dX7_go_11 (by decide) ?_
  refine kx_p23_4 kw1_152 dX7_go_12 ?_
  refine kr_aload_n dX7_go_15 rfl ?_
  refine kr_iload_n dX7_go_16 rfl ?_
  refine kx_p23_5 kw1_154 dX7_go_17 ?_
  refine kr_iconst (v := 0) dX7_go_20 (by decide) ?_
  refine kr_istore (ls' := [some (.ref 23), some (.ref a1), some (.int l2), some (.int l3), some (.int 0)]) dX7_go_21 (Nat.le_of_ble_eq_true rfl) rfl ?_
  refine kv_loc (ls' := [some (.ref 23), some (.ref a1), some (.int l2), none, some (.int 0)]) (And.intro rfl (And.intro rfl (And.intro rfl (And.intro rfl trivial)))) ?_
  exact RX7_go_23 e N _ _ _ _ _ h
set_option maxRecDepth 20000 in
set_option maxHeartbeats 4000000 in
theorem RX10_tours {Z : kv_Z} (e : Nat) {N : Nat} {G : kg_G} {l1 : Int32} {l2 : Int32} {l3 : Int32} {res : Int32 × kg_G} (h : fX10_tours N G l1 l2 l3 = some res) : kv_M Z (e + 5) kMX10_tours [.ref 0, .int l1, .int l2, .int l3] (kg_w G) (some (.int res.1)) (kg_w res.2) := by
  refine kv_M_of (ls := [some (.ref 0), some (.int l1), some (.int l2), some (.int l3)]) (by decide) (Nat.le_of_ble_eq_true rfl) rfl ?_
  unfold fX10_tours at h
  refine kr_iload_n dX10_tours_0 rfl ?_
  refine kr_iconst (v := 1) dX10_tours_1 (by decide) ?_
  refine kr_icmp_lt (tgt := 24) dX10_tours_2 rfl (fun c2 => ?_) (fun c2 => ?_)
  · rw [if_pos c2] at h
    refine kr_bipush (v := (-102)) dX10_tours_24 (by decide) ?_
    cases h
    exact kr_iret rfl dX10_tours_26
  · rw [if_neg c2] at h
    refine kr_iload_n dX10_tours_5 rfl ?_
    refine kr_bipush (v := 40) dX10_tours_6 (by decide) ?_
    refine kr_icmp_gt (tgt := 24) dX10_tours_8 rfl (fun c8 => ?_) (fun c8 => ?_)
    · rw [if_pos c8] at h
      refine kr_bipush (v := (-102)) dX10_tours_24 (by decide) ?_
      cases h
      exact kr_iret rfl dX10_tours_26
    · rw [if_neg c8] at h
      refine kr_iload_n dX10_tours_11 rfl ?_
      refine kr_if_lt (tgt := 24) dX10_tours_12 rfl (fun c12 => ?_) (fun c12 => ?_)
      · rw [if_pos c12] at h
        refine kr_bipush (v := (-102)) dX10_tours_24 (by decide) ?_
        cases h
        exact kr_iret rfl dX10_tours_26
      · rw [if_neg c12] at h
        refine kr_iload_n dX10_tours_15 rfl ?_
        refine kr_if_lt (tgt := 24) dX10_tours_16 rfl (fun c16 => ?_) (fun c16 => ?_)
        · rw [if_pos c16] at h
          refine kr_bipush (v := (-102)) dX10_tours_24 (by decide) ?_
          cases h
          exact kr_iret rfl dX10_tours_26
        · rw [if_neg c16] at h
          refine kr_iload_n dX10_tours_19 rfl ?_
          refine kr_iconst (v := 2) dX10_tours_20 (by decide) ?_
          refine kr_icmp_le (tgt := 27) dX10_tours_21 rfl (fun c21 => ?_) (fun c21 => ?_)
          · rw [if_pos c21] at h
            refine kr_aload_n dX10_tours_27 rfl ?_
            obtain ⟨v1, hv1, h⟩ := Option.bind_eq_some_iff.mp h
            refine kr_callVi (M' := kMX10_hasShow) (a := 0) (As := []) (st := []) (RX10_hasShow (e + 4) hv1) koX10_hasShow rfl rfl rfl kw3_140 kw3_142 kws_4 rfl (Nat.le_of_ble_eq_true rfl) dX10_tours_28 ?_
            refine kr_if_ne (tgt := 37) dX10_tours_31 rfl (fun c31 => ?_) (fun c31 => ?_)
            · rw [if_pos c31] at h
              refine kr_bipush (v := (-103)) dX10_tours_34 (by decide) ?_
              cases h
              exact kr_iret rfl dX10_tours_36
            · rw [if_neg c31] at h
              refine kr_aload_n dX10_tours_37 rfl ?_
              refine kx_g0_4 kw1_192 dX10_tours_38 ?_
              refine kr_aload_n dX10_tours_41 rfl ?_
              refine kx_g0_5 G.2.2.2.1 rfl kw1_193 dX10_tours_42 ?_
              refine kr_iload_n dX10_tours_45 rfl ?_
              refine kr_iload_n dX10_tours_46 rfl ?_
              obtain ⟨v2, hv2, h⟩ := Option.bind_eq_some_iff.mp h
              refine kr_callVv (M' := kMX7_go) (a := 23) (As := [.ref G.2.2.2.1, .int l1, .int l2]) (st := []) (RX7_go (e + 0) hv2) koX7_go rfl rfl rfl kw4_52 kw4_53 kw4_54 rfl (Nat.le_of_ble_eq_true rfl) dX10_tours_47 ?_
              refine kr_iload_n dX10_tours_50 rfl ?_
              by_cases c51_0 : l3 = 0
              · rw [if_pos c51_0] at h
                refine kr_lookup (off := 25) (tgt := 76) dX10_tours_51 (by decide) (by rw [c51_0]; decide) rfl ?_
                refine kr_aload_n dX10_tours_76 rfl ?_
                refine kx_g0_4 kw1_192 dX10_tours_77 ?_
                refine kx_g23_3 (v2.1 23 3) rfl kw1_151 dX10_tours_80 ?_
                cases h
                exact kr_iret rfl dX10_tours_83
              rw [if_neg c51_0] at h
              by_cases c51_1 : l3 = 1
              · rw [if_pos c51_1] at h
                refine kr_lookup (off := 33) (tgt := 84) dX10_tours_51 (by decide) (by rw [c51_1]; decide) rfl ?_
                refine kr_aload_n dX10_tours_84 rfl ?_
                refine kx_g0_4 kw1_192 dX10_tours_85 ?_
                refine kx_g23_4 (v2.1 23 4) rfl kw1_153 dX10_tours_88 ?_
                cases h
                exact kr_iret rfl dX10_tours_91
              rw [if_neg c51_1] at h
              refine kr_lookup (off := 41) (tgt := 92) dX10_tours_51 (by decide) (by simp only [List.toList_toArray]; rw [lv_osw c51_0 (a := 0) (by decide), lv_osw c51_1 (a := 1) (by decide)]; rfl) rfl ?_
              refine kr_aload_n dX10_tours_92 rfl ?_
              refine kx_g0_4 kw1_192 dX10_tours_93 ?_
              refine kx_g23_5 (v2.1 23 5) rfl kw1_155 dX10_tours_96 ?_
              cases h
              exact kr_iret rfl dX10_tours_99
          · rw [if_neg c21] at h
            refine kr_bipush (v := (-102)) dX10_tours_24 (by decide) ?_
            cases h
            exact kr_iret rfl dX10_tours_26
set_option maxRecDepth 20000 in
set_option maxHeartbeats 4000000 in
theorem RX9_copyFrom_3_10 {Z : kv_Z} (e : Nat) {G : kg_G} {res : kg_G} (h : fX9_copyFrom_3_10 G = some res) : kv_M Z (e + 0) kMX9_copyFrom [.ref 3, .ref 10] (kg_w G) none (kg_w res) := by
  refine kv_M_of (ls := [some (.ref 3), some (.ref 10)]) (by decide) (Nat.le_of_ble_eq_true rfl) rfl ?_
  unfold fX9_copyFrom_3_10 at h
  refine kr_aload_n dX9_copyFrom_0 rfl ?_
  refine kx_g10_0 kw1_52 dX9_copyFrom_1 ?_
  refine kr_iconst (v := 0) dX9_copyFrom_4 (by decide) ?_
  refine kr_aload_n dX9_copyFrom_5 rfl ?_
  refine kx_g3_0 kw1_52 dX9_copyFrom_6 ?_
  refine kr_iconst (v := 0) dX9_copyFrom_9 (by decide) ?_
  refine kr_iconst (v := 5) dX9_copyFrom_10 (by decide) ?_
  obtain ⟨v1, hv1, h⟩ := Option.bind_eq_some_iff.mp h
  refine kx_cp (a := 11) (b := 4) (G.2.1 11) (G.2.1 4) (by decide) (by decide) rfl rfl hv1 kw4_98 kw3_175 kw3_174 kw1_21 (Nat.le_of_ble_eq_true rfl) dX9_copyFrom_11 ?_
  refine kr_aload_n dX9_copyFrom_14 rfl ?_
  refine kx_g10_1 kw1_55 dX9_copyFrom_15 ?_
  refine kr_iconst (v := 0) dX9_copyFrom_18 (by decide) ?_
  refine kr_aload_n dX9_copyFrom_19 rfl ?_
  refine kx_g3_1 kw1_55 dX9_copyFrom_20 ?_
  refine kr_iconst (v := 0) dX9_copyFrom_23 (by decide) ?_
  refine kr_iconst (v := 5) dX9_copyFrom_24 (by decide) ?_
  obtain ⟨v2, hv2, h⟩ := Option.bind_eq_some_iff.mp h
  refine kx_cp (a := 12) (b := 5) (G.2.1 12) (G.2.1 5) (by decide) (by decide) rfl rfl hv2 kw4_98 kw3_175 kw3_174 kw1_21 (Nat.le_of_ble_eq_true rfl) dX9_copyFrom_25 ?_
  refine kr_aload_n dX9_copyFrom_28 rfl ?_
  refine kx_g10_2 kw1_58 dX9_copyFrom_29 ?_
  refine kr_iconst (v := 0) dX9_copyFrom_32 (by decide) ?_
  refine kr_aload_n dX9_copyFrom_33 rfl ?_
  refine kx_g3_2 kw1_58 dX9_copyFrom_34 ?_
  refine kr_iconst (v := 0) dX9_copyFrom_37 (by decide) ?_
  refine kr_iconst (v := 5) dX9_copyFrom_38 (by decide) ?_
  obtain ⟨v3, hv3, h⟩ := Option.bind_eq_some_iff.mp h
  refine kx_cp (a := 13) (b := 6) (G.2.1 13) (G.2.1 6) (by decide) (by decide) rfl rfl hv3 kw4_98 kw3_175 kw3_174 kw1_21 (Nat.le_of_ble_eq_true rfl) dX9_copyFrom_39 ?_
  refine kr_aload_n dX9_copyFrom_42 rfl ?_
  refine kx_g10_3 kw1_60 dX9_copyFrom_43 ?_
  refine kr_iconst (v := 0) dX9_copyFrom_46 (by decide) ?_
  refine kr_aload_n dX9_copyFrom_47 rfl ?_
  refine kx_g3_3 kw1_60 dX9_copyFrom_48 ?_
  refine kr_iconst (v := 0) dX9_copyFrom_51 (by decide) ?_
  refine kr_iconst (v := 5) dX9_copyFrom_52 (by decide) ?_
  obtain ⟨v4, hv4, h⟩ := Option.bind_eq_some_iff.mp h
  refine kx_cp (a := 14) (b := 7) (G.2.1 14) (G.2.1 7) (by decide) (by decide) rfl rfl hv4 kw4_98 kw3_175 kw3_174 kw1_21 (Nat.le_of_ble_eq_true rfl) dX9_copyFrom_53 ?_
  refine kr_aload_n dX9_copyFrom_56 rfl ?_
  refine kx_g10_4 kw1_62 dX9_copyFrom_57 ?_
  refine kr_iconst (v := 0) dX9_copyFrom_60 (by decide) ?_
  refine kr_aload_n dX9_copyFrom_61 rfl ?_
  refine kx_g3_4 kw1_62 dX9_copyFrom_62 ?_
  refine kr_iconst (v := 0) dX9_copyFrom_65 (by decide) ?_
  refine kr_bipush (v := 8) dX9_copyFrom_66 (by decide) ?_
  obtain ⟨v5, hv5, h⟩ := Option.bind_eq_some_iff.mp h
  refine kx_cp (a := 15) (b := 8) (G.2.1 15) (G.2.1 8) (by decide) (by decide) rfl rfl hv5 kw4_98 kw3_175 kw3_174 kw1_21 (Nat.le_of_ble_eq_true rfl) dX9_copyFrom_68 ?_
  refine kr_aload_n dX9_copyFrom_71 rfl ?_
  refine kx_g10_5 kw1_63 dX9_copyFrom_72 ?_
  refine kr_iconst (v := 0) dX9_copyFrom_75 (by decide) ?_
  refine kr_aload_n dX9_copyFrom_76 rfl ?_
  refine kx_g3_5 kw1_63 dX9_copyFrom_77 ?_
  refine kr_iconst (v := 0) dX9_copyFrom_80 (by decide) ?_
  refine kr_bipush (v := 8) dX9_copyFrom_81 (by decide) ?_
  obtain ⟨v6, hv6, h⟩ := Option.bind_eq_some_iff.mp h
  refine kx_cp (a := 16) (b := 9) (G.2.1 16) (G.2.1 9) (by decide) (by decide) rfl rfl hv6 kw4_98 kw3_175 kw3_174 kw1_21 (Nat.le_of_ble_eq_true rfl) dX9_copyFrom_83 ?_
  refine kr_aload_n dX9_copyFrom_86 rfl ?_
  refine kr_aload_n dX9_copyFrom_87 rfl ?_
  refine kx_g10_6 (G.1 10 6) rfl kw1_64 dX9_copyFrom_88 ?_
  refine kx_p3_6 kw1_64 dX9_copyFrom_91 ?_
  refine kr_aload_n dX9_copyFrom_94 rfl ?_
  refine kr_aload_n dX9_copyFrom_95 rfl ?_
  refine kx_g10_7 (G.1 10 7) rfl kw1_66 dX9_copyFrom_96 ?_
  refine kx_p3_7 kw1_66 dX9_copyFrom_99 ?_
  refine kr_aload_n dX9_copyFrom_102 rfl ?_
  refine kr_aload_n dX9_copyFrom_103 rfl ?_
  refine kx_g10_8 (G.1 10 8) rfl kw1_68 dX9_copyFrom_104 ?_
  refine kx_p3_8 kw1_68 dX9_copyFrom_107 ?_
  refine kr_aload_n dX9_copyFrom_110 rfl ?_
  refine kr_aload_n dX9_copyFrom_111 rfl ?_
  refine kx_g10_9 (G.1 10 9) rfl kw1_70 dX9_copyFrom_112 ?_
  refine kx_p3_9 kw1_70 dX9_copyFrom_115 ?_
  refine kr_aload_n dX9_copyFrom_118 rfl ?_
  refine kr_aload_n dX9_copyFrom_119 rfl ?_
  refine kx_g10_10 (G.1 10 10) rfl kw1_72 dX9_copyFrom_120 ?_
  refine kx_p3_10 kw1_72 dX9_copyFrom_123 ?_
  refine kr_aload_n dX9_copyFrom_126 rfl ?_
  refine kr_aload_n dX9_copyFrom_127 rfl ?_
  refine kx_g10_11 (G.1 10 11) rfl kw1_74 dX9_copyFrom_128 ?_
  refine kx_p3_11 kw1_74 dX9_copyFrom_131 ?_
  refine kr_aload_n dX9_copyFrom_134 rfl ?_
  refine kr_aload_n dX9_copyFrom_135 rfl ?_
  refine kx_g10_12 (G.1 10 12) rfl kw1_76 dX9_copyFrom_136 ?_
  refine kx_p3_12 kw1_76 dX9_copyFrom_139 ?_
  refine kr_aload_n dX9_copyFrom_142 rfl ?_
  refine kr_aload_n dX9_copyFrom_143 rfl ?_
  refine kx_g10_13 (G.1 10 13) rfl kw1_78 dX9_copyFrom_144 ?_
  refine kx_p3_13 kw1_78 dX9_copyFrom_147 ?_
  cases h
  exact kr_vret rfl dX9_copyFrom_150
set_option maxRecDepth 20000 in
set_option maxHeartbeats 4000000 in
theorem RX9_copyFrom_10_3 {Z : kv_Z} (e : Nat) {G : kg_G} {res : kg_G} (h : fX9_copyFrom_10_3 G = some res) : kv_M Z (e + 0) kMX9_copyFrom [.ref 10, .ref 3] (kg_w G) none (kg_w res) := by
  refine kv_M_of (ls := [some (.ref 10), some (.ref 3)]) (by decide) (Nat.le_of_ble_eq_true rfl) rfl ?_
  unfold fX9_copyFrom_10_3 at h
  refine kr_aload_n dX9_copyFrom_0 rfl ?_
  refine kx_g3_0 kw1_52 dX9_copyFrom_1 ?_
  refine kr_iconst (v := 0) dX9_copyFrom_4 (by decide) ?_
  refine kr_aload_n dX9_copyFrom_5 rfl ?_
  refine kx_g10_0 kw1_52 dX9_copyFrom_6 ?_
  refine kr_iconst (v := 0) dX9_copyFrom_9 (by decide) ?_
  refine kr_iconst (v := 5) dX9_copyFrom_10 (by decide) ?_
  obtain ⟨v1, hv1, h⟩ := Option.bind_eq_some_iff.mp h
  refine kx_cp (a := 4) (b := 11) (G.2.1 4) (G.2.1 11) (by decide) (by decide) rfl rfl hv1 kw4_98 kw3_175 kw3_174 kw1_21 (Nat.le_of_ble_eq_true rfl) dX9_copyFrom_11 ?_
  refine kr_aload_n dX9_copyFrom_14 rfl ?_
  refine kx_g3_1 kw1_55 dX9_copyFrom_15 ?_
  refine kr_iconst (v := 0) dX9_copyFrom_18 (by decide) ?_
  refine kr_aload_n dX9_copyFrom_19 rfl ?_
  refine kx_g10_1 kw1_55 dX9_copyFrom_20 ?_
  refine kr_iconst (v := 0) dX9_copyFrom_23 (by decide) ?_
  refine kr_iconst (v := 5) dX9_copyFrom_24 (by decide) ?_
  obtain ⟨v2, hv2, h⟩ := Option.bind_eq_some_iff.mp h
  refine kx_cp (a := 5) (b := 12) (G.2.1 5) (G.2.1 12) (by decide) (by decide) rfl rfl hv2 kw4_98 kw3_175 kw3_174 kw1_21 (Nat.le_of_ble_eq_true rfl) dX9_copyFrom_25 ?_
  refine kr_aload_n dX9_copyFrom_28 rfl ?_
  refine kx_g3_2 kw1_58 dX9_copyFrom_29 ?_
  refine kr_iconst (v := 0) dX9_copyFrom_32 (by decide) ?_
  refine kr_aload_n dX9_copyFrom_33 rfl ?_
  refine kx_g10_2 kw1_58 dX9_copyFrom_34 ?_
  refine kr_iconst (v := 0) dX9_copyFrom_37 (by decide) ?_
  refine kr_iconst (v := 5) dX9_copyFrom_38 (by decide) ?_
  obtain ⟨v3, hv3, h⟩ := Option.bind_eq_some_iff.mp h
  refine kx_cp (a := 6) (b := 13) (G.2.1 6) (G.2.1 13) (by decide) (by decide) rfl rfl hv3 kw4_98 kw3_175 kw3_174 kw1_21 (Nat.le_of_ble_eq_true rfl) dX9_copyFrom_39 ?_
  refine kr_aload_n dX9_copyFrom_42 rfl ?_
  refine kx_g3_3 kw1_60 dX9_copyFrom_43 ?_
  refine kr_iconst (v := 0) dX9_copyFrom_46 (by decide) ?_
  refine kr_aload_n dX9_copyFrom_47 rfl ?_
  refine kx_g10_3 kw1_60 dX9_copyFrom_48 ?_
  refine kr_iconst (v := 0) dX9_copyFrom_51 (by decide) ?_
  refine kr_iconst (v := 5) dX9_copyFrom_52 (by decide) ?_
  obtain ⟨v4, hv4, h⟩ := Option.bind_eq_some_iff.mp h
  refine kx_cp (a := 7) (b := 14) (G.2.1 7) (G.2.1 14) (by decide) (by decide) rfl rfl hv4 kw4_98 kw3_175 kw3_174 kw1_21 (Nat.le_of_ble_eq_true rfl) dX9_copyFrom_53 ?_
  refine kr_aload_n dX9_copyFrom_56 rfl ?_
  refine kx_g3_4 kw1_62 dX9_copyFrom_57 ?_
  refine kr_iconst (v := 0) dX9_copyFrom_60 (by decide) ?_
  refine kr_aload_n dX9_copyFrom_61 rfl ?_
  refine kx_g10_4 kw1_62 dX9_copyFrom_62 ?_
  refine kr_iconst (v := 0) dX9_copyFrom_65 (by decide) ?_
  refine kr_bipush (v := 8) dX9_copyFrom_66 (by decide) ?_
  obtain ⟨v5, hv5, h⟩ := Option.bind_eq_some_iff.mp h
  refine kx_cp (a := 8) (b := 15) (G.2.1 8) (G.2.1 15) (by decide) (by decide) rfl rfl hv5 kw4_98 kw3_175 kw3_174 kw1_21 (Nat.le_of_ble_eq_true rfl) dX9_copyFrom_68 ?_
  refine kr_aload_n dX9_copyFrom_71 rfl ?_
  refine kx_g3_5 kw1_63 dX9_copyFrom_72 ?_
  refine kr_iconst (v := 0) dX9_copyFrom_75 (by decide) ?_
  refine kr_aload_n dX9_copyFrom_76 rfl ?_
  refine kx_g10_5 kw1_63 dX9_copyFrom_77 ?_
  refine kr_iconst (v := 0) dX9_copyFrom_80 (by decide) ?_
  refine kr_bipush (v := 8) dX9_copyFrom_81 (by decide) ?_
  obtain ⟨v6, hv6, h⟩ := Option.bind_eq_some_iff.mp h
  refine kx_cp (a := 9) (b := 16) (G.2.1 9) (G.2.1 16) (by decide) (by decide) rfl rfl hv6 kw4_98 kw3_175 kw3_174 kw1_21 (Nat.le_of_ble_eq_true rfl) dX9_copyFrom_83 ?_
  refine kr_aload_n dX9_copyFrom_86 rfl ?_
  refine kr_aload_n dX9_copyFrom_87 rfl ?_
  refine kx_g3_6 (G.1 3 6) rfl kw1_64 dX9_copyFrom_88 ?_
  refine kx_p10_6 kw1_64 dX9_copyFrom_91 ?_
  refine kr_aload_n dX9_copyFrom_94 rfl ?_
  refine kr_aload_n dX9_copyFrom_95 rfl ?_
  refine kx_g3_7 (G.1 3 7) rfl kw1_66 dX9_copyFrom_96 ?_
  refine kx_p10_7 kw1_66 dX9_copyFrom_99 ?_
  refine kr_aload_n dX9_copyFrom_102 rfl ?_
  refine kr_aload_n dX9_copyFrom_103 rfl ?_
  refine kx_g3_8 (G.1 3 8) rfl kw1_68 dX9_copyFrom_104 ?_
  refine kx_p10_8 kw1_68 dX9_copyFrom_107 ?_
  refine kr_aload_n dX9_copyFrom_110 rfl ?_
  refine kr_aload_n dX9_copyFrom_111 rfl ?_
  refine kx_g3_9 (G.1 3 9) rfl kw1_70 dX9_copyFrom_112 ?_
  refine kx_p10_9 kw1_70 dX9_copyFrom_115 ?_
  refine kr_aload_n dX9_copyFrom_118 rfl ?_
  refine kr_aload_n dX9_copyFrom_119 rfl ?_
  refine kx_g3_10 (G.1 3 10) rfl kw1_72 dX9_copyFrom_120 ?_
  refine kx_p10_10 kw1_72 dX9_copyFrom_123 ?_
  refine kr_aload_n dX9_copyFrom_126 rfl ?_
  refine kr_aload_n dX9_copyFrom_127 rfl ?_
  refine kx_g3_11 (G.1 3 11) rfl kw1_74 dX9_copyFrom_128 ?_
  refine kx_p10_11 kw1_74 dX9_copyFrom_131 ?_
  refine kr_aload_n dX9_copyFrom_134 rfl ?_
  refine kr_aload_n dX9_copyFrom_135 rfl ?_
  refine kx_g3_12 (G.1 3 12) rfl kw1_76 dX9_copyFrom_136 ?_
  refine kx_p10_12 kw1_76 dX9_copyFrom_139 ?_
  refine kr_aload_n dX9_copyFrom_142 rfl ?_
  refine kr_aload_n dX9_copyFrom_143 rfl ?_
  refine kx_g3_13 (G.1 3 13) rfl kw1_78 dX9_copyFrom_144 ?_
  refine kx_p10_13 kw1_78 dX9_copyFrom_147 ?_
  cases h
  exact kr_vret rfl dX9_copyFrom_150
set_option maxRecDepth 20000 in
set_option maxHeartbeats 4000000 in
theorem RX10_image {Z : kv_Z} (e : Nat) {G : kg_G} {res : Int32 × kg_G} (h : fX10_image G = some res) : kv_M Z (e + 1) kMX10_image [.ref 0] (kg_w G) (some (.int res.1)) (kg_w res.2) := by
  refine kv_M_of (ls := [some (.ref 0)]) (by decide) (Nat.le_of_ble_eq_true rfl) rfl ?_
  unfold fX10_image at h
  refine kr_aload_n dX10_image_0 rfl ?_
  obtain ⟨v1, hv1, h⟩ := Option.bind_eq_some_iff.mp h
  refine kr_callVi (M' := kMX10_hasShow) (a := 0) (As := []) (st := []) (RX10_hasShow (e + 0) hv1) koX10_hasShow rfl rfl rfl kw3_140 kw3_142 kws_4 rfl (Nat.le_of_ble_eq_true rfl) dX10_image_1 ?_
  refine kr_if_ne (tgt := 10) dX10_image_4 rfl (fun c4 => ?_) (fun c4 => ?_)
  · rw [if_pos c4] at h
    refine kr_bipush (v := (-103)) dX10_image_7 (by decide) ?_
    cases h
    exact kr_iret rfl dX10_image_9
  · rw [if_neg c4] at h
    refine kr_aload_n dX10_image_10 rfl ?_
    refine kx_g0_2 kw1_190 dX10_image_11 ?_
    refine kr_aload_n dX10_image_14 rfl ?_
    refine kx_g0_1 kw1_189 dX10_image_15 ?_
    obtain ⟨v2, hv2, h⟩ := Option.bind_eq_some_iff.mp h
    refine kr_callVv (M' := kMX9_copyFrom) (a := 10) (As := [.ref 3]) (st := []) (RX9_copyFrom_10_3 (e + 0) hv2) koX9_copyFrom rfl rfl rfl kw4_94 kw4_95 kw4_96 rfl (Nat.le_of_ble_eq_true rfl) dX10_image_18 ?_
    refine kr_aload_n dX10_image_21 rfl ?_
    refine kr_iconst (v := 1) dX10_image_22 (by decide) ?_
    refine kx_p0_6 kw1_194 (by decide) (by decide) dX10_image_23 ?_
    refine kr_aload_n dX10_image_26 rfl ?_
    refine kx_g0_1 kw1_189 dX10_image_27 ?_
    refine kx_g3_8 (v2.1 3 8) rfl kw1_69 dX10_image_30 ?_
    cases h
    exact kr_iret rfl dX10_image_33
set_option maxRecDepth 20000 in
set_option maxHeartbeats 4000000 in
theorem RX10_restore {Z : kv_Z} (e : Nat) {G : kg_G} {res : Int32 × kg_G} (h : fX10_restore G = some res) : kv_M Z (e + 1) kMX10_restore [.ref 0] (kg_w G) (some (.int res.1)) (kg_w res.2) := by
  refine kv_M_of (ls := [some (.ref 0)]) (by decide) (Nat.le_of_ble_eq_true rfl) rfl ?_
  unfold fX10_restore at h
  refine kr_aload_n dX10_restore_0 rfl ?_
  refine kx_g0_6 (G.1 0 6) rfl kw1_194 dX10_restore_1 ?_
  refine kr_if_ne (tgt := 10) dX10_restore_4 rfl (fun c4 => ?_) (fun c4 => ?_)
  · rw [if_pos c4] at h
    refine kr_bipush (v := (-103)) dX10_restore_7 (by decide) ?_
    cases h
    exact kr_iret rfl dX10_restore_9
  · rw [if_neg c4] at h
    refine kr_aload_n dX10_restore_10 rfl ?_
    refine kx_g0_1 kw1_189 dX10_restore_11 ?_
    refine kr_aload_n dX10_restore_14 rfl ?_
    refine kx_g0_2 kw1_190 dX10_restore_15 ?_
    obtain ⟨v1, hv1, h⟩ := Option.bind_eq_some_iff.mp h
    refine kr_callVv (M' := kMX9_copyFrom) (a := 3) (As := [.ref 10]) (st := []) (RX9_copyFrom_3_10 (e + 0) hv1) koX9_copyFrom rfl rfl rfl kw4_94 kw4_95 kw4_96 rfl (Nat.le_of_ble_eq_true rfl) dX10_restore_18 ?_
    refine kr_aload_n dX10_restore_21 rfl ?_
    refine kx_g0_1 kw1_189 dX10_restore_22 ?_
    refine kx_g3_8 (v1.1 3 8) rfl kw1_69 dX10_restore_25 ?_
    cases h
    exact kr_iret rfl dX10_restore_28
set_option maxRecDepth 20000 in
set_option maxHeartbeats 4000000 in
theorem RX10_doneNow_4 {Z : kv_Z} (e : Nat) {N : Nat} {G : kg_G} : ∀ (n : Nat) (l1 : Int32) (l2 : Int32) (res : Int32), fX10_doneNow_4 N G n l1 l2 = some res → kv_V Z (e + 3) kMX10_doneNow 4 [some (.ref 0), some (.int l1), some (.int l2)] [] (kg_w G) (some (.int res)) (kg_w G) := by
  intro n
  induction n with
  | zero => intro l1 l2 res h; exact absurd h (by intro z; cases z)
  | succ n ih =>
    intro l1 l2 res h
    have hk4 := ih
    rw [fX10_doneNow_4] at h
    refine kr_iload_n dX10_doneNow_4 rfl ?_
    refine kr_aload_n dX10_doneNow_5 rfl ?_
    refine kx_g0_5 G.2.2.2.1 rfl kw1_193 dX10_doneNow_6 ?_
    obtain ⟨v1, hv1, h⟩ := Option.bind_eq_some_iff.mp h
    refine kx_bt hv1 kw1_180 dX10_doneNow_9 ?_
    obtain ⟨v2, hv2, h⟩ := Option.bind_eq_some_iff.mp h
    refine kx_tl hv2 dX10_doneNow_12 ?_
    refine kr_icmp_ge (tgt := 33) dX10_doneNow_13 rfl (fun c13 => ?_) (fun c13 => ?_)
    · rw [if_pos c13] at h
      refine kr_iload_n dX10_doneNow_33 rfl ?_
      cases h
      exact kr_iret rfl dX10_doneNow_34
    · rw [if_neg c13] at h
      refine kr_aload_n dX10_doneNow_16 rfl ?_
      refine kr_iload_n dX10_doneNow_17 rfl ?_
      obtain ⟨v3, hv3, h⟩ := Option.bind_eq_some_iff.mp h
      refine kr_callVi (M' := kMX10_isDoneNow) (a := 0) (As := [.int l2]) (st := []) (RX10_isDoneNow (e + 0) hv3) koX10_isDoneNow rfl rfl rfl kw3_0 kw3_2 kws_1 rfl (Nat.le_of_ble_eq_true rfl) dX10_doneNow_18 ?_
      refine kr_if_eq (tgt := 27) dX10_doneNow_21 rfl (fun c21 => ?_) (fun c21 => ?_)
      · rw [if_pos c21] at h
        refine kr_iinc (v := l2 + 1) (ls' := [some (.ref 0), some (.int l1), some (.int (l2 + 1))]) dX10_doneNow_27 rfl rfl (Nat.le_of_ble_eq_true rfl) rfl ?_
        refine kr_goto (tgt := 4) dX10_doneNow_30 rfl ?_
        exact hk4 _ _ _ h
      · rw [if_neg c21] at h
        refine kr_iinc (v := l1 + 1) (ls' := [some (.ref 0), some (.int (l1 + 1)), some (.int l2)]) dX10_doneNow_24 rfl rfl (Nat.le_of_ble_eq_true rfl) rfl ?_
        refine kr_iinc (v := l2 + 1) (ls' := [some (.ref 0), some (.int (l1 + 1)), some (.int (l2 + 1))]) dX10_doneNow_27 rfl rfl (Nat.le_of_ble_eq_true rfl) rfl ?_
        refine kr_goto (tgt := 4) dX10_doneNow_30 rfl ?_
        exact hk4 _ _ _ h
set_option maxRecDepth 20000 in
set_option maxHeartbeats 4000000 in
theorem RX10_doneNow {Z : kv_Z} (e : Nat) {N : Nat} {G : kg_G} {res : Int32} (h : fX10_doneNow N G = some res) : kv_M Z (e + 3) kMX10_doneNow [.ref 0] (kg_w G) (some (.int res)) (kg_w G) := by
  refine kv_M_of (ls := [some (.ref 0), none, none]) (by decide) (Nat.le_of_ble_eq_true rfl) rfl ?_
  unfold fX10_doneNow at h
  refine kr_iconst (v := 0) dX10_doneNow_0 (by decide) ?_
  refine kr_istore_n (i := 1) (ls' := [some (.ref 0), some (.int 0), none]) dX10_doneNow_1 rfl (Nat.le_of_ble_eq_true rfl) rfl ?_
  refine kr_iconst (v := 0) dX10_doneNow_2 (by decide) ?_
  refine kr_istore_n (i := 2) (ls' := [some (.ref 0), some (.int 0), some (.int 0)]) dX10_doneNow_3 rfl (Nat.le_of_ble_eq_true rfl) rfl ?_
  exact RX10_doneNow_4 e N _ _ _ h
set_option maxRecDepth 20000 in
set_option maxHeartbeats 4000000 in
theorem RX0_bound_4 {Z : kv_Z} (e : Nat) {N : Nat} {G : kg_G} : ∀ (n : Nat) (a0 : Nat) (l1 : Int32) (l2 : Int32) (res : Int32), fX0_bound_4 N G n a0 l1 l2 = some res → kv_V Z (e + 2) kMX0_bound 4 [some (.ref a0), some (.int l1), some (.int l2)] [] (kg_w G) (some (.int res)) (kg_w G) := by
  intro n
  induction n with
  | zero => intro a0 l1 l2 res h; exact absurd h (by intro z; cases z)
  | succ n ih =>
    intro a0 l1 l2 res h
    have hk4 := ih
    rw [fX0_bound_4] at h
    refine kr_iload_n dX0_bound_4 rfl ?_
    refine kr_bipush (v := 11) dX0_bound_5 (by decide) ?_
    refine kr_icmp_gt (tgt := 26) dX0_bound_7 rfl (fun c7 => ?_) (fun c7 => ?_)
    · rw [if_pos c7] at h
      refine kr_iload_n dX0_bound_26 rfl ?_
      cases h
      exact kr_iret rfl dX0_bound_27
    · rw [if_neg c7] at h
      refine kr_iload_n dX0_bound_10 rfl ?_
      refine kr_aload_n dX0_bound_11 rfl ?_
      refine kr_iload_n dX0_bound_12 rfl ?_
      obtain ⟨v2, hv2, h⟩ := Option.bind_eq_some_iff.mp h
      obtain ⟨v1, hv1, h⟩ := Option.bind_eq_some_iff.mp h
      refine kr_callVi (M' := kMX0_wantedIn) (a := a0) (As := [.int l2]) (st := [.int l1]) (RX0_wantedIn (e + 0) hv1) koX0_wantedIn rfl (kg_bl_w hv2) rfl kw4_115 kw3_238 kw3_239 rfl (Nat.le_of_ble_eq_true rfl) dX0_bound_13 ?_
      refine kr_callSi (M' := kMJ9_max_7cf53) (As := [.int l1, .int v1]) (st := []) (RJ9_max_7cf53 (e + 1) rfl) koJ9_max_7cf53 rfl kw3_118 kw2_52 rfl (Nat.le_of_ble_eq_true rfl) dX0_bound_16 ?_
      refine kr_istore_n (i := 1) (ls' := [some (.ref a0), some (.int (fJ9_max_7cf53 l1 v1)), some (.int l2)]) dX0_bound_19 rfl (Nat.le_of_ble_eq_true rfl) rfl ?_
      refine kr_iinc (v := l2 + 1) (ls' := [some (.ref a0), some (.int (fJ9_max_7cf53 l1 v1)), some (.int (l2 + 1))]) dX0_bound_20 rfl rfl (Nat.le_of_ble_eq_true rfl) rfl ?_
      refine kr_goto (tgt := 4) dX0_bound_23 rfl ?_
      exact hk4 _ _ _ _ h
set_option maxRecDepth 20000 in
set_option maxHeartbeats 4000000 in
theorem RX0_bound {Z : kv_Z} (e : Nat) {N : Nat} {G : kg_G} {a0 : Nat} {res : Int32} (h : fX0_bound N G a0 = some res) : kv_M Z (e + 2) kMX0_bound [.ref a0] (kg_w G) (some (.int res)) (kg_w G) := by
  refine kv_M_of (ls := [some (.ref a0), none, none]) (by decide) (Nat.le_of_ble_eq_true rfl) rfl ?_
  unfold fX0_bound at h
  refine kr_iconst (v := 0) dX0_bound_0 (by decide) ?_
  refine kr_istore_n (i := 1) (ls' := [some (.ref a0), some (.int 0), none]) dX0_bound_1 rfl (Nat.le_of_ble_eq_true rfl) rfl ?_
  refine kr_iconst (v := 0) dX0_bound_2 (by decide) ?_
  refine kr_istore_n (i := 2) (ls' := [some (.ref a0), some (.int 0), some (.int 0)]) dX0_bound_3 rfl (Nat.le_of_ble_eq_true rfl) rfl ?_
  exact RX0_bound_4 e N _ _ _ _ h
set_option maxRecDepth 20000 in
set_option maxHeartbeats 4000000 in
theorem RX10_count {Z : kv_Z} (e : Nat) {N : Nat} {G : kg_G} {l1 : Int32} {res : Int32} (h : fX10_count N G l1 = some res) : kv_M Z (e + 4) kMX10_count [.ref 0, .int l1] (kg_w G) (some (.int res)) (kg_w G) := by
  refine kv_M_of (ls := [some (.ref 0), some (.int l1)]) (by decide) (Nat.le_of_ble_eq_true rfl) rfl ?_
  unfold fX10_count at h
  refine kr_iload_n dX10_count_0 rfl ?_
  by_cases c1_0 : l1 = 0
  · rw [if_pos c1_0] at h
    refine kr_tableIn (off := 83) (tgt := 84) dX10_count_1 (by rw [c1_0]; decide) (by rw [c1_0]; decide) (by rw [c1_0]; decide) rfl ?_
    refine kr_aload_n dX10_count_84 rfl ?_
    refine kx_g0_5 G.2.2.2.1 rfl kw1_193 dX10_count_85 ?_
    obtain ⟨v1, hv1, h⟩ := Option.bind_eq_some_iff.mp h
    refine kx_bt hv1 kw1_180 dX10_count_88 ?_
    obtain ⟨v2, hv2, h⟩ := Option.bind_eq_some_iff.mp h
    refine kx_tl hv2 dX10_count_91 ?_
    cases h
    exact kr_iret rfl dX10_count_92
  rw [if_neg c1_0] at h
  by_cases c1_1 : l1 = 1
  · rw [if_pos c1_1] at h
    refine kr_tableIn (off := 92) (tgt := 93) dX10_count_1 (by rw [c1_1]; decide) (by rw [c1_1]; decide) (by rw [c1_1]; decide) rfl ?_
    refine kr_aload_n dX10_count_93 rfl ?_
    refine kx_g0_5 G.2.2.2.1 rfl kw1_193 dX10_count_94 ?_
    obtain ⟨v3, hv3, h⟩ := Option.bind_eq_some_iff.mp h
    refine kx_bp hv3 kw1_182 dX10_count_97 ?_
    cases h
    exact kr_iret rfl dX10_count_100
  rw [if_neg c1_1] at h
  by_cases c1_2 : l1 = 2
  · rw [if_pos c1_2] at h
    refine kr_tableIn (off := 100) (tgt := 101) dX10_count_1 (by rw [c1_2]; decide) (by rw [c1_2]; decide) (by rw [c1_2]; decide) rfl ?_
    refine kr_aload_n dX10_count_101 rfl ?_
    refine kx_g0_1 kw1_189 dX10_count_102 ?_
    refine kx_g3_6 (G.1 3 6) rfl kw1_65 dX10_count_105 ?_
    refine kr_callSi (M' := kMJ6_bitCount_0f7a4) (As := [.int (G.1 3 6)]) (st := []) (RJ6_bitCount_0f7a4 (e + 3) rfl) koJ6_bitCount_0f7a4 rfl kw3_127 kw3_9 rfl (Nat.le_of_ble_eq_true rfl) dX10_count_108 ?_
    cases h
    exact kr_iret rfl dX10_count_111
  rw [if_neg c1_2] at h
  by_cases c1_3 : l1 = 3
  · rw [if_pos c1_3] at h
    refine kr_tableIn (off := 111) (tgt := 112) dX10_count_1 (by rw [c1_3]; decide) (by rw [c1_3]; decide) (by rw [c1_3]; decide) rfl ?_
    refine kr_aload_n dX10_count_112 rfl ?_
    obtain ⟨v5, hv5, h⟩ := Option.bind_eq_some_iff.mp h
    refine kr_callVi (M' := kMX10_doneNow) (a := 0) (As := []) (st := []) (RX10_doneNow (e + 0) hv5) koX10_doneNow rfl rfl rfl kw4_107 kw4_109 kws_16 rfl (Nat.le_of_ble_eq_true rfl) dX10_count_113 ?_
    cases h
    exact kr_iret rfl dX10_count_116
  rw [if_neg c1_3] at h
  by_cases c1_4 : l1 = 4
  · rw [if_pos c1_4] at h
    refine kr_tableIn (off := 116) (tgt := 117) dX10_count_1 (by rw [c1_4]; decide) (by rw [c1_4]; decide) (by rw [c1_4]; decide) rfl ?_
    refine kr_aload_n dX10_count_117 rfl ?_
    refine kx_g0_5 G.2.2.2.1 rfl kw1_193 dX10_count_118 ?_
    obtain ⟨v7, hv7, h⟩ := Option.bind_eq_some_iff.mp h
    obtain ⟨v6, hv6, h⟩ := Option.bind_eq_some_iff.mp h
    refine kr_callVi (M' := kMX0_bound) (a := G.2.2.2.1) (As := []) (st := []) (RX0_bound (e + 1) hv6) koX0_bound rfl (kg_bl_w hv7) rfl kw4_111 kw4_112 kw4_113 rfl (Nat.le_of_ble_eq_true rfl) dX10_count_121 ?_
    cases h
    exact kr_iret rfl dX10_count_124
  rw [if_neg c1_4] at h
  by_cases c1_5 : l1 = 5
  · rw [if_pos c1_5] at h
    refine kr_tableIn (off := 124) (tgt := 125) dX10_count_1 (by rw [c1_5]; decide) (by rw [c1_5]; decide) (by rw [c1_5]; decide) rfl ?_
    refine kr_aload_n dX10_count_125 rfl ?_
    refine kx_g0_1 kw1_189 dX10_count_126 ?_
    refine kx_g3_8 (G.1 3 8) rfl kw1_69 dX10_count_129 ?_
    cases h
    exact kr_iret rfl dX10_count_132
  rw [if_neg c1_5] at h
  by_cases c1_6 : l1 = 6
  · rw [if_pos c1_6] at h
    refine kr_tableIn (off := 132) (tgt := 133) dX10_count_1 (by rw [c1_6]; decide) (by rw [c1_6]; decide) (by rw [c1_6]; decide) rfl ?_
    refine kr_aload_n dX10_count_133 rfl ?_
    refine kx_g0_1 kw1_189 dX10_count_134 ?_
    refine kx_g3_9 (G.1 3 9) rfl kw1_71 dX10_count_137 ?_
    cases h
    exact kr_iret rfl dX10_count_140
  rw [if_neg c1_6] at h
  by_cases c1_7 : l1 = 7
  · rw [if_pos c1_7] at h
    refine kr_tableIn (off := 140) (tgt := 141) dX10_count_1 (by rw [c1_7]; decide) (by rw [c1_7]; decide) (by rw [c1_7]; decide) rfl ?_
    refine kr_aload_n dX10_count_141 rfl ?_
    refine kx_g0_1 kw1_189 dX10_count_142 ?_
    refine kx_g3_10 (G.1 3 10) rfl kw1_73 dX10_count_145 ?_
    cases h
    exact kr_iret rfl dX10_count_148
  rw [if_neg c1_7] at h
  by_cases c1_8 : l1 = 8
  · rw [if_pos c1_8] at h
    refine kr_tableIn (off := 148) (tgt := 149) dX10_count_1 (by rw [c1_8]; decide) (by rw [c1_8]; decide) (by rw [c1_8]; decide) rfl ?_
    refine kr_aload_n dX10_count_149 rfl ?_
    refine kx_g0_1 kw1_189 dX10_count_150 ?_
    refine kx_g3_7 (G.1 3 7) rfl kw1_67 dX10_count_153 ?_
    cases h
    exact kr_iret rfl dX10_count_156
  rw [if_neg c1_8] at h
  by_cases c1_9 : l1 = 9
  · rw [if_pos c1_9] at h
    refine kr_tableIn (off := 156) (tgt := 157) dX10_count_1 (by rw [c1_9]; decide) (by rw [c1_9]; decide) (by rw [c1_9]; decide) rfl ?_
    refine kr_aload_n dX10_count_157 rfl ?_
    refine kx_g0_1 kw1_189 dX10_count_158 ?_
    refine kx_g3_11 (G.1 3 11) rfl kw1_75 dX10_count_161 ?_
    cases h
    exact kr_iret rfl dX10_count_164
  rw [if_neg c1_9] at h
  by_cases c1_10 : l1 = 10
  · rw [if_pos c1_10] at h
    refine kr_tableIn (off := 164) (tgt := 165) dX10_count_1 (by rw [c1_10]; decide) (by rw [c1_10]; decide) (by rw [c1_10]; decide) rfl ?_
    refine kr_aload_n dX10_count_165 rfl ?_
    refine kx_g0_1 kw1_189 dX10_count_166 ?_
    refine kx_g3_12 (G.1 3 12) rfl kw1_77 dX10_count_169 ?_
    cases h
    exact kr_iret rfl dX10_count_172
  rw [if_neg c1_10] at h
  by_cases c1_11 : l1 = 11
  · rw [if_pos c1_11] at h
    refine kr_tableIn (off := 172) (tgt := 173) dX10_count_1 (by rw [c1_11]; decide) (by rw [c1_11]; decide) (by rw [c1_11]; decide) rfl ?_
    refine kr_aload_n dX10_count_173 rfl ?_
    refine kx_g0_1 kw1_189 dX10_count_174 ?_
    refine kx_g3_13 (G.1 3 13) rfl kw1_79 dX10_count_177 ?_
    cases h
    exact kr_iret rfl dX10_count_180
  rw [if_neg c1_11] at h
  by_cases c1_12 : l1 = 12
  · rw [if_pos c1_12] at h
    refine kr_tableIn (off := 180) (tgt := 181) dX10_count_1 (by rw [c1_12]; decide) (by rw [c1_12]; decide) (by rw [c1_12]; decide) rfl ?_
    refine kr_aload_n dX10_count_181 rfl ?_
    refine kx_g0_0 kw1_188 dX10_count_182 ?_
    refine kx_g1_1 (G.1 1 1) rfl kw1_39 dX10_count_185 ?_
    cases h
    exact kr_iret rfl dX10_count_188
  rw [if_neg c1_12] at h
  by_cases c1_13 : l1 = 13
  · rw [if_pos c1_13] at h
    refine kr_tableIn (off := 188) (tgt := 189) dX10_count_1 (by rw [c1_13]; decide) (by rw [c1_13]; decide) (by rw [c1_13]; decide) rfl ?_
    refine kr_aload_n dX10_count_189 rfl ?_
    refine kx_g0_7 (G.1 0 7) rfl kw1_195 dX10_count_190 ?_
    cases h
    exact kr_iret rfl dX10_count_193
  rw [if_neg c1_13] at h
  by_cases c1_14 : l1 = 14
  · rw [if_pos c1_14] at h
    refine kr_tableIn (off := 193) (tgt := 194) dX10_count_1 (by rw [c1_14]; decide) (by rw [c1_14]; decide) (by rw [c1_14]; decide) rfl ?_
    refine kr_aload_n dX10_count_194 rfl ?_
    refine kx_g0_8 (G.1 0 8) rfl kw1_196 dX10_count_195 ?_
    cases h
    exact kr_iret rfl dX10_count_198
  rw [if_neg c1_14] at h
  by_cases c1_15 : l1 = 15
  · rw [if_pos c1_15] at h
    refine kr_tableIn (off := 198) (tgt := 199) dX10_count_1 (by rw [c1_15]; decide) (by rw [c1_15]; decide) (by rw [c1_15]; decide) rfl ?_
    refine kr_aload_n dX10_count_199 rfl ?_
    refine kx_g0_9 (G.1 0 9) rfl kw1_197 dX10_count_200 ?_
    cases h
    exact kr_iret rfl dX10_count_203
  rw [if_neg c1_15] at h
  by_cases c1_16 : l1 = 16
  · rw [if_pos c1_16] at h
    refine kr_tableIn (off := 203) (tgt := 204) dX10_count_1 (by rw [c1_16]; decide) (by rw [c1_16]; decide) (by rw [c1_16]; decide) rfl ?_
    refine kr_aload_n dX10_count_204 rfl ?_
    refine kx_g0_10 (G.1 0 10) rfl kw1_198 dX10_count_205 ?_
    cases h
    exact kr_iret rfl dX10_count_208
  rw [if_neg c1_16] at h
  refine kr_tableOut (tgt := 209) dX10_count_1 (kx_out17 c1_0 c1_1 c1_2 c1_3 c1_4 c1_5 c1_6 c1_7 c1_8 c1_9 c1_10 c1_11 c1_12 c1_13 c1_14 c1_15 c1_16) rfl ?_
  refine kr_bipush (v := (-102)) dX10_count_209 (by decide) ?_
  cases h
  exact kr_iret rfl dX10_count_211
set_option maxRecDepth 20000 in
set_option maxHeartbeats 4000000 in
theorem RX10_digestOfShow_146 {Z : kv_Z} (e : Nat) {N : Nat} {G : kg_G} : ∀ (l3 : Int64) (res : Int64), fX10_digestOfShow_146 N G l3 = some res → kv_V Z (e + 5) kMX10_digestOfShow 146 [some (.ref 0), none, none, some (.long l3), none, none, none] [] (kg_w G) (some (.long res)) (kg_w G) := by
  intro l3 res h
  unfold fX10_digestOfShow_146 at h
  refine kr_aload_n dX10_digestOfShow_146 rfl ?_
  refine kx_g0_1 kw1_189 dX10_digestOfShow_147 ?_
  refine kx_g3_6 (G.1 3 6) rfl kw1_65 dX10_digestOfShow_150 ?_
  refine kr_if_eq (tgt := 196) dX10_digestOfShow_153 rfl (fun c153 => ?_) (fun c153 => ?_)
  · rw [if_pos c153] at h
    refine kr_lload_n dX10_digestOfShow_196 rfl ?_
    cases h
    exact kr_lret rfl dX10_digestOfShow_197
  · rw [if_neg c153] at h
    refine kr_ldc2 (x := 31) kw4_125 dX10_digestOfShow_156 ?_
    refine kr_lload_n dX10_digestOfShow_159 rfl ?_
    refine kr_lmul dX10_digestOfShow_160 ?_
    refine kr_aload_n dX10_digestOfShow_161 rfl ?_
    refine kr_aload_n dX10_digestOfShow_162 rfl ?_
    refine kx_g0_1 kw1_189 dX10_digestOfShow_163 ?_
    refine kx_g3_6 (G.1 3 6) rfl kw1_65 dX10_digestOfShow_166 ?_
    refine kr_iconst (v := 0) dX10_digestOfShow_169 (by decide) ?_
    obtain ⟨v1, hv1, h⟩ := Option.bind_eq_some_iff.mp h
    refine kr_callVi (M' := kMX10_route) (a := 0) (As := [.int (G.1 3 6), .int 0]) (st := [.long (31 * l3)]) (RX10_route (e + 0) hv1) koX10_route rfl rfl rfl kw4_129 kw4_11 kw4_12 rfl (Nat.le_of_ble_eq_true rfl) dX10_digestOfShow_170 ?_
    refine kr_i2l dX10_digestOfShow_173 ?_
    refine kr_ladd dX10_digestOfShow_174 ?_
    refine kr_lstore_n (i := 3) (ls' := [some (.ref 0), none, none, some (.long ((31 * l3) + v1.toInt64)), none, none, none]) dX10_digestOfShow_175 rfl (Nat.le_of_ble_eq_true rfl) rfl ?_
    refine kr_ldc2 (x := 31) kw4_125 dX10_digestOfShow_176 ?_
    refine kr_lload_n dX10_digestOfShow_179 rfl ?_
    refine kr_lmul dX10_digestOfShow_180 ?_
    refine kr_aload_n dX10_digestOfShow_181 rfl ?_
    refine kr_aload_n dX10_digestOfShow_182 rfl ?_
    refine kx_g0_1 kw1_189 dX10_digestOfShow_183 ?_
    refine kx_g3_6 (G.1 3 6) rfl kw1_65 dX10_digestOfShow_186 ?_
    refine kr_iconst (v := 1) dX10_digestOfShow_189 (by decide) ?_
    obtain ⟨v2, hv2, h⟩ := Option.bind_eq_some_iff.mp h
    refine kr_callVi (M' := kMX10_route) (a := 0) (As := [.int (G.1 3 6), .int 1]) (st := [.long (31 * ((31 * l3) + v1.toInt64))]) (RX10_route (e + 0) hv2) koX10_route rfl rfl rfl kw4_129 kw4_11 kw4_12 rfl (Nat.le_of_ble_eq_true rfl) dX10_digestOfShow_190 ?_
    refine kr_i2l dX10_digestOfShow_193 ?_
    refine kr_ladd dX10_digestOfShow_194 ?_
    refine kr_lstore_n (i := 3) (ls' := [some (.ref 0), none, none, some (.long ((31 * ((31 * l3) + v1.toInt64)) + v2.toInt64)), none, none, none]) dX10_digestOfShow_195 rfl (Nat.le_of_ble_eq_true rfl) rfl ?_
    refine kr_lload_n dX10_digestOfShow_196 rfl ?_
    cases h
    exact kr_lret rfl dX10_digestOfShow_197
set_option maxRecDepth 20000 in
set_option maxHeartbeats 4000000 in
theorem RX10_digestOfShow_119 {Z : kv_Z} (e : Nat) {N : Nat} {G : kg_G} : ∀ (n : Nat) (l3 : Int64) (l5 : Int32) (res : Int64), fX10_digestOfShow_119 N G n l3 l5 = some res → kv_V Z (e + 5) kMX10_digestOfShow 119 [some (.ref 0), none, none, some (.long l3), none, some (.int l5), none] [] (kg_w G) (some (.long res)) (kg_w G) := by
  intro n
  induction n with
  | zero => intro l3 l5 res h; exact absurd h (by intro z; cases z)
  | succ n ih =>
    intro l3 l5 res h
    have hk119 := ih
    rw [fX10_digestOfShow_119] at h
    refine kr_iload dX10_digestOfShow_119 rfl ?_
    refine kr_bipush (v := 11) dX10_digestOfShow_121 (by decide) ?_
    refine kr_icmp_gt (tgt := 146) dX10_digestOfShow_123 rfl (fun c123 => ?_) (fun c123 => ?_)
    · rw [if_pos c123] at h
      refine kv_loc (ls' := [some (.ref 0), none, none, some (.long l3), none, none, none]) (And.intro rfl (And.intro rfl trivial)) ?_
      exact RX10_digestOfShow_146 e _ _ h
    · rw [if_neg c123] at h
      refine kr_ldc2 (x := 31) kw4_125 dX10_digestOfShow_126 ?_
      refine kr_lload_n dX10_digestOfShow_129 rfl ?_
      refine kr_lmul dX10_digestOfShow_130 ?_
      refine kr_aload_n dX10_digestOfShow_131 rfl ?_
      refine kr_iload dX10_digestOfShow_132 rfl ?_
      obtain ⟨v1, hv1, h⟩ := Option.bind_eq_some_iff.mp h
      refine kr_callVi (M' := kMX10_wants) (a := 0) (As := [.int l5]) (st := [.long (31 * l3)]) (RX10_wants (e + 2) hv1) koX10_wants rfl rfl rfl kw4_128 kw3_234 kw3_235 rfl (Nat.le_of_ble_eq_true rfl) dX10_digestOfShow_134 ?_
      refine kr_i2l dX10_digestOfShow_137 ?_
      refine kr_ladd dX10_digestOfShow_138 ?_
      refine kr_lstore_n (i := 3) (ls' := [some (.ref 0), none, none, some (.long ((31 * l3) + v1.toInt64)), none, some (.int l5), none]) dX10_digestOfShow_139 rfl (Nat.le_of_ble_eq_true rfl) rfl ?_
      refine kr_iinc (v := l5 + 1) (ls' := [some (.ref 0), none, none, some (.long ((31 * l3) + v1.toInt64)), none, some (.int (l5 + 1)), none]) dX10_digestOfShow_140 rfl rfl (Nat.le_of_ble_eq_true rfl) rfl ?_
      refine kr_goto (tgt := 119) dX10_digestOfShow_143 rfl ?_
      exact hk119 _ _ _ h
set_option maxRecDepth 20000 in
set_option maxHeartbeats 4000000 in
theorem RX10_digestOfShow_74 {Z : kv_Z} (e : Nat) {N : Nat} {G : kg_G} {k59 : Int64 → Int32 → Option (Int64)} (hk59 : ∀ (l3 : Int64) (l5 : Int32) (res : Int64), k59 l3 l5 = some res → kv_V Z (e + 5) kMX10_digestOfShow 59 [some (.ref 0), none, none, some (.long l3), none, some (.int l5), none] [] (kg_w G) (some (.long res)) (kg_w G)) : ∀ (n : Nat) (l3 : Int64) (l5 : Int32) (l6 : Int32) (res : Int64), fX10_digestOfShow_74 N G k59 n l3 l5 l6 = some res → kv_V Z (e + 5) kMX10_digestOfShow 74 [some (.ref 0), none, none, some (.long l3), none, some (.int l5), some (.int l6)] [] (kg_w G) (some (.long res)) (kg_w G) := by
  intro n
  induction n with
  | zero => intro l3 l5 l6 res h; exact absurd h (by intro z; cases z)
  | succ n ih =>
    intro l3 l5 l6 res h
    have hk74 := ih
    rw [fX10_digestOfShow_74] at h
    refine kr_iload dX10_digestOfShow_74 rfl ?_
    refine kr_bipush (v := 7) dX10_digestOfShow_76 (by decide) ?_
    refine kr_icmp_gt (tgt := 103) dX10_digestOfShow_78 rfl (fun c78 => ?_) (fun c78 => ?_)
    · rw [if_pos c78] at h
      refine kr_iinc (v := l5 + 1) (ls' := [some (.ref 0), none, none, some (.long l3), none, some (.int (l5 + 1)), some (.int l6)]) dX10_digestOfShow_103 rfl rfl (Nat.le_of_ble_eq_true rfl) rfl ?_
      refine kr_goto (tgt := 59) dX10_digestOfShow_106 rfl ?_
      refine kv_loc (ls' := [some (.ref 0), none, none, some (.long l3), none, some (.int (l5 + 1)), none]) (And.intro rfl (And.intro rfl (And.intro rfl trivial))) ?_
      exact hk59 _ _ _ h
    · rw [if_neg c78] at h
      refine kr_ldc2 (x := 31) kw4_125 dX10_digestOfShow_81 ?_
      refine kr_lload_n dX10_digestOfShow_84 rfl ?_
      refine kr_lmul dX10_digestOfShow_85 ?_
      refine kr_aload_n dX10_digestOfShow_86 rfl ?_
      refine kr_iload dX10_digestOfShow_87 rfl ?_
      refine kr_iload dX10_digestOfShow_89 rfl ?_
      obtain ⟨v1, hv1, h⟩ := Option.bind_eq_some_iff.mp h
      refine kr_callVi (M' := kMX10_person) (a := 0) (As := [.int l5, .int l6]) (st := [.long (31 * l3)]) (RX10_person (e + 1) hv1) koX10_person rfl rfl rfl kw4_127 kw3_84 kw3_85 rfl (Nat.le_of_ble_eq_true rfl) dX10_digestOfShow_91 ?_
      refine kr_i2l dX10_digestOfShow_94 ?_
      refine kr_ladd dX10_digestOfShow_95 ?_
      refine kr_lstore_n (i := 3) (ls' := [some (.ref 0), none, none, some (.long ((31 * l3) + v1.toInt64)), none, some (.int l5), some (.int l6)]) dX10_digestOfShow_96 rfl (Nat.le_of_ble_eq_true rfl) rfl ?_
      refine kr_iinc (v := l6 + 1) (ls' := [some (.ref 0), none, none, some (.long ((31 * l3) + v1.toInt64)), none, some (.int l5), some (.int (l6 + 1))]) dX10_digestOfShow_97 rfl rfl (Nat.le_of_ble_eq_true rfl) rfl ?_
      refine kr_goto (tgt := 74) dX10_digestOfShow_100 rfl ?_
      exact hk74 _ _ _ _ h
set_option maxRecDepth 20000 in
set_option maxHeartbeats 4000000 in
theorem RX10_digestOfShow_59 {Z : kv_Z} (e : Nat) {N : Nat} {G : kg_G} : ∀ (n : Nat) (l3 : Int64) (l5 : Int32) (res : Int64), fX10_digestOfShow_59 N G n l3 l5 = some res → kv_V Z (e + 5) kMX10_digestOfShow 59 [some (.ref 0), none, none, some (.long l3), none, some (.int l5), none] [] (kg_w G) (some (.long res)) (kg_w G) := by
  intro n
  induction n with
  | zero => intro l3 l5 res h; exact absurd h (by intro z; cases z)
  | succ n ih =>
    intro l3 l5 res h
    have hk59 := ih
    rw [fX10_digestOfShow_59] at h
    refine kr_iload dX10_digestOfShow_59 rfl ?_
    refine kr_aload_n dX10_digestOfShow_61 rfl ?_
    refine kx_g0_5 G.2.2.2.1 rfl kw1_193 dX10_digestOfShow_62 ?_
    obtain ⟨v1, hv1, h⟩ := Option.bind_eq_some_iff.mp h
    refine kx_bp hv1 kw1_182 dX10_digestOfShow_65 ?_
    refine kr_icmp_ge (tgt := 109) dX10_digestOfShow_68 rfl (fun c68 => ?_) (fun c68 => ?_)
    · rw [if_pos c68] at h
      refine kr_aload_n dX10_digestOfShow_109 rfl ?_
      obtain ⟨v2, hv2, h⟩ := Option.bind_eq_some_iff.mp h
      refine kr_callVi (M' := kMX10_hasShow) (a := 0) (As := []) (st := []) (RX10_hasShow (e + 4) hv2) koX10_hasShow rfl rfl rfl kw3_140 kw3_142 kws_4 rfl (Nat.le_of_ble_eq_true rfl) dX10_digestOfShow_110 ?_
      refine kr_if_eq (tgt := 146) dX10_digestOfShow_113 rfl (fun c113 => ?_) (fun c113 => ?_)
      · rw [if_pos c113] at h
        refine kv_loc (ls' := [some (.ref 0), none, none, some (.long l3), none, none, none]) (And.intro rfl (And.intro rfl trivial)) ?_
        exact RX10_digestOfShow_146 e _ _ h
      · rw [if_neg c113] at h
        refine kr_iconst (v := 0) dX10_digestOfShow_116 (by decide) ?_
        refine kr_istore (ls' := [some (.ref 0), none, none, some (.long l3), none, some (.int 0), none]) dX10_digestOfShow_117 (Nat.le_of_ble_eq_true rfl) rfl ?_
        exact RX10_digestOfShow_119 e N _ _ _ h
    · rw [if_neg c68] at h
      refine kr_iconst (v := 0) dX10_digestOfShow_71 (by decide) ?_
      refine kr_istore (ls' := [some (.ref 0), none, none, some (.long l3), none, some (.int l5), some (.int 0)]) dX10_digestOfShow_72 (Nat.le_of_ble_eq_true rfl) rfl ?_
      exact RX10_digestOfShow_74 e hk59 N _ _ _ _ h
set_option maxRecDepth 20000 in
set_option maxHeartbeats 4000000 in
theorem RX10_digestOfShow_21 {Z : kv_Z} (e : Nat) {N : Nat} {G : kg_G} {k5 : Int64 → Int32 → Option (Int64)} (hk5 : ∀ (l3 : Int64) (l5 : Int32) (res : Int64), k5 l3 l5 = some res → kv_V Z (e + 5) kMX10_digestOfShow 5 [some (.ref 0), none, none, some (.long l3), none, some (.int l5), none] [] (kg_w G) (some (.long res)) (kg_w G)) : ∀ (n : Nat) (l3 : Int64) (l5 : Int32) (l6 : Int32) (res : Int64), fX10_digestOfShow_21 N G k5 n l3 l5 l6 = some res → kv_V Z (e + 5) kMX10_digestOfShow 21 [some (.ref 0), none, none, some (.long l3), none, some (.int l5), some (.int l6)] [] (kg_w G) (some (.long res)) (kg_w G) := by
  intro n
  induction n with
  | zero => intro l3 l5 l6 res h; exact absurd h (by intro z; cases z)
  | succ n ih =>
    intro l3 l5 l6 res h
    have hk21 := ih
    rw [fX10_digestOfShow_21] at h
    refine kr_iload dX10_digestOfShow_21 rfl ?_
    refine kr_bipush (v := 8) dX10_digestOfShow_23 (by decide) ?_
    refine kr_icmp_gt (tgt := 50) dX10_digestOfShow_25 rfl (fun c25 => ?_) (fun c25 => ?_)
    · rw [if_pos c25] at h
      refine kr_iinc (v := l5 + 1) (ls' := [some (.ref 0), none, none, some (.long l3), none, some (.int (l5 + 1)), some (.int l6)]) dX10_digestOfShow_50 rfl rfl (Nat.le_of_ble_eq_true rfl) rfl ?_
      refine kr_goto (tgt := 5) dX10_digestOfShow_53 rfl ?_
      refine kv_loc (ls' := [some (.ref 0), none, none, some (.long l3), none, some (.int (l5 + 1)), none]) (And.intro rfl (And.intro rfl (And.intro rfl trivial))) ?_
      exact hk5 _ _ _ h
    · rw [if_neg c25] at h
      refine kr_ldc2 (x := 31) kw4_125 dX10_digestOfShow_28 ?_
      refine kr_lload_n dX10_digestOfShow_31 rfl ?_
      refine kr_lmul dX10_digestOfShow_32 ?_
      refine kr_aload_n dX10_digestOfShow_33 rfl ?_
      refine kr_iload dX10_digestOfShow_34 rfl ?_
      refine kr_iload dX10_digestOfShow_36 rfl ?_
      obtain ⟨v1, hv1, h⟩ := Option.bind_eq_some_iff.mp h
      refine kr_callVi (M' := kMX10_trick) (a := 0) (As := [.int l5, .int l6]) (st := [.long (31 * l3)]) (RX10_trick (e + 1) hv1) koX10_trick rfl rfl rfl kw4_126 kw2_205 kw2_206 rfl (Nat.le_of_ble_eq_true rfl) dX10_digestOfShow_38 ?_
      refine kr_i2l dX10_digestOfShow_41 ?_
      refine kr_ladd dX10_digestOfShow_42 ?_
      refine kr_lstore_n (i := 3) (ls' := [some (.ref 0), none, none, some (.long ((31 * l3) + v1.toInt64)), none, some (.int l5), some (.int l6)]) dX10_digestOfShow_43 rfl (Nat.le_of_ble_eq_true rfl) rfl ?_
      refine kr_iinc (v := l6 + 1) (ls' := [some (.ref 0), none, none, some (.long ((31 * l3) + v1.toInt64)), none, some (.int l5), some (.int (l6 + 1))]) dX10_digestOfShow_44 rfl rfl (Nat.le_of_ble_eq_true rfl) rfl ?_
      refine kr_goto (tgt := 21) dX10_digestOfShow_47 rfl ?_
      exact hk21 _ _ _ _ h
set_option maxRecDepth 20000 in
set_option maxHeartbeats 4000000 in
theorem RX10_digestOfShow_5 {Z : kv_Z} (e : Nat) {N : Nat} {G : kg_G} : ∀ (n : Nat) (l3 : Int64) (l5 : Int32) (res : Int64), fX10_digestOfShow_5 N G n l3 l5 = some res → kv_V Z (e + 5) kMX10_digestOfShow 5 [some (.ref 0), none, none, some (.long l3), none, some (.int l5), none] [] (kg_w G) (some (.long res)) (kg_w G) := by
  intro n
  induction n with
  | zero => intro l3 l5 res h; exact absurd h (by intro z; cases z)
  | succ n ih =>
    intro l3 l5 res h
    have hk5 := ih
    rw [fX10_digestOfShow_5] at h
    refine kr_iload dX10_digestOfShow_5 rfl ?_
    refine kr_aload_n dX10_digestOfShow_7 rfl ?_
    refine kx_g0_5 G.2.2.2.1 rfl kw1_193 dX10_digestOfShow_8 ?_
    obtain ⟨v1, hv1, h⟩ := Option.bind_eq_some_iff.mp h
    refine kx_bt hv1 kw1_180 dX10_digestOfShow_11 ?_
    obtain ⟨v2, hv2, h⟩ := Option.bind_eq_some_iff.mp h
    refine kx_tl hv2 dX10_digestOfShow_14 ?_
    refine kr_icmp_ge (tgt := 56) dX10_digestOfShow_15 rfl (fun c15 => ?_) (fun c15 => ?_)
    · rw [if_pos c15] at h
      refine kr_iconst (v := 0) dX10_digestOfShow_56 (by decide) ?_
      refine kr_istore (ls' := [some (.ref 0), none, none, some (.long l3), none, some (.int 0), none]) dX10_digestOfShow_57 (Nat.le_of_ble_eq_true rfl) rfl ?_
      exact RX10_digestOfShow_59 e N _ _ _ h
    · rw [if_neg c15] at h
      refine kr_iconst (v := 0) dX10_digestOfShow_18 (by decide) ?_
      refine kr_istore (ls' := [some (.ref 0), none, none, some (.long l3), none, some (.int l5), some (.int 0)]) dX10_digestOfShow_19 (Nat.le_of_ble_eq_true rfl) rfl ?_
      exact RX10_digestOfShow_21 e hk5 N _ _ _ _ h
set_option maxRecDepth 20000 in
set_option maxHeartbeats 4000000 in
theorem RX10_digestOfShow {Z : kv_Z} (e : Nat) {N : Nat} {G : kg_G} {l1 : Int64} {res : Int64} (h : fX10_digestOfShow N G l1 = some res) : kv_M Z (e + 5) kMX10_digestOfShow [.ref 0, .long l1] (kg_w G) (some (.long res)) (kg_w G) := by
  refine kv_M_of (ls := [some (.ref 0), some (.long l1), none, none, none, none, none]) (by decide) (Nat.le_of_ble_eq_true rfl) rfl ?_
  unfold fX10_digestOfShow at h
  refine kr_lload_n dX10_digestOfShow_0 rfl ?_
  refine kr_lstore_n (i := 3) (ls' := [some (.ref 0), some (.long l1), none, some (.long l1), none, none, none]) dX10_digestOfShow_1 rfl (Nat.le_of_ble_eq_true rfl) rfl ?_
  refine kr_iconst (v := 0) dX10_digestOfShow_2 (by decide) ?_
  refine kr_istore (ls' := [some (.ref 0), some (.long l1), none, some (.long l1), none, some (.int 0), none]) dX10_digestOfShow_3 (Nat.le_of_ble_eq_true rfl) rfl ?_
  refine kv_loc (ls' := [some (.ref 0), none, none, some (.long l1), none, some (.int 0), none]) (And.intro rfl (And.intro rfl (And.intro rfl trivial))) ?_
  exact RX10_digestOfShow_5 e N _ _ _ h
set_option maxRecDepth 20000 in
set_option maxHeartbeats 4000000 in
theorem RX10_digest_46 {Z : kv_Z} (e : Nat) {N : Nat} {G : kg_G} : ∀ (n : Nat) (l1 : Int64) (l3 : Int32) (res : Int64), fX10_digest_46 N G n l1 l3 = some res → kv_V Z (e + 6) kMX10_digest 46 [some (.ref 0), some (.long l1), none, some (.int l3)] [] (kg_w G) (some (.long res)) (kg_w G) := by
  intro n
  induction n with
  | zero => intro l1 l3 res h; exact absurd h (by intro z; cases z)
  | succ n ih =>
    intro l1 l3 res h
    have hk46 := ih
    rw [fX10_digest_46] at h
    refine kr_iload_n dX10_digest_46 rfl ?_
    refine kr_bipush (v := 16) dX10_digest_47 (by decide) ?_
    refine kr_icmp_gt (tgt := 71) dX10_digest_49 rfl (fun c49 => ?_) (fun c49 => ?_)
    · rw [if_pos c49] at h
      refine kr_lload_n dX10_digest_71 rfl ?_
      cases h
      exact kr_lret rfl dX10_digest_72
    · rw [if_neg c49] at h
      refine kr_ldc2 (x := 31) kw4_125 dX10_digest_52 ?_
      refine kr_lload_n dX10_digest_55 rfl ?_
      refine kr_lmul dX10_digest_56 ?_
      refine kr_aload_n dX10_digest_57 rfl ?_
      refine kr_iload_n dX10_digest_58 rfl ?_
      obtain ⟨v1, hv1, h⟩ := Option.bind_eq_some_iff.mp h
      refine kr_callVi (M' := kMX10_count) (a := 0) (As := [.int l3]) (st := [.long (31 * l1)]) (RX10_count (e + 1) hv1) koX10_count rfl rfl rfl kw4_130 kw4_104 kw4_105 rfl (Nat.le_of_ble_eq_true rfl) dX10_digest_59 ?_
      refine kr_i2l dX10_digest_62 ?_
      refine kr_ladd dX10_digest_63 ?_
      refine kr_lstore_n (i := 1) (ls' := [some (.ref 0), some (.long ((31 * l1) + v1.toInt64)), none, some (.int l3)]) dX10_digest_64 rfl (Nat.le_of_ble_eq_true rfl) rfl ?_
      refine kr_iinc (v := l3 + 1) (ls' := [some (.ref 0), some (.long ((31 * l1) + v1.toInt64)), none, some (.int (l3 + 1))]) dX10_digest_65 rfl rfl (Nat.le_of_ble_eq_true rfl) rfl ?_
      refine kr_goto (tgt := 46) dX10_digest_68 rfl ?_
      exact hk46 _ _ _ h
set_option maxRecDepth 20000 in
set_option maxHeartbeats 4000000 in
theorem RX10_digest_10 {Z : kv_Z} (e : Nat) {N : Nat} {G : kg_G} : ∀ (n : Nat) (l1 : Int64) (l3 : Int32) (res : Int64), fX10_digest_10 N G n l1 l3 = some res → kv_V Z (e + 6) kMX10_digest 10 [some (.ref 0), some (.long l1), none, some (.int l3)] [] (kg_w G) (some (.long res)) (kg_w G) := by
  intro n
  induction n with
  | zero => intro l1 l3 res h; exact absurd h (by intro z; cases z)
  | succ n ih =>
    intro l1 l3 res h
    have hk10 := ih
    rw [fX10_digest_10] at h
    refine kr_iload_n dX10_digest_10 rfl ?_
    refine kr_aload_n dX10_digest_11 rfl ?_
    refine kx_g0_0 kw1_188 dX10_digest_12 ?_
    refine kx_g1_1 (G.1 1 1) rfl kw1_39 dX10_digest_15 ?_
    refine kr_icmp_ge (tgt := 44) dX10_digest_18 rfl (fun c18 => ?_) (fun c18 => ?_)
    · rw [if_pos c18] at h
      refine kr_iconst (v := 0) dX10_digest_44 (by decide) ?_
      refine kr_istore_n (i := 3) (ls' := [some (.ref 0), some (.long l1), none, some (.int 0)]) dX10_digest_45 rfl (Nat.le_of_ble_eq_true rfl) rfl ?_
      exact RX10_digest_46 e N _ _ _ h
    · rw [if_neg c18] at h
      refine kr_ldc2 (x := 31) kw4_125 dX10_digest_21 ?_
      refine kr_lload_n dX10_digest_24 rfl ?_
      refine kr_lmul dX10_digest_25 ?_
      refine kr_aload_n dX10_digest_26 rfl ?_
      refine kx_g0_0 kw1_188 dX10_digest_27 ?_
      refine kx_g1_0 kw1_37 dX10_digest_30 ?_
      refine kr_iload_n dX10_digest_33 rfl ?_
      obtain ⟨v1, hv1, h⟩ := Option.bind_eq_some_iff.mp h
      refine kx_a2 (G.2.1 2) rfl hv1 dX10_digest_34 ?_
      refine kr_i2l dX10_digest_35 ?_
      refine kr_ladd dX10_digest_36 ?_
      refine kr_lstore_n (i := 1) (ls' := [some (.ref 0), some (.long ((31 * l1) + v1.toInt64)), none, some (.int l3)]) dX10_digest_37 rfl (Nat.le_of_ble_eq_true rfl) rfl ?_
      refine kr_iinc (v := l3 + 1) (ls' := [some (.ref 0), some (.long ((31 * l1) + v1.toInt64)), none, some (.int (l3 + 1))]) dX10_digest_38 rfl rfl (Nat.le_of_ble_eq_true rfl) rfl ?_
      refine kr_goto (tgt := 10) dX10_digest_41 rfl ?_
      exact hk10 _ _ _ h
set_option maxRecDepth 20000 in
set_option maxHeartbeats 4000000 in
theorem RX10_digest {Z : kv_Z} (e : Nat) {N : Nat} {G : kg_G} {res : Int64} (h : fX10_digest N G = some res) : kv_M Z (e + 6) kMX10_digest [.ref 0] (kg_w G) (some (.long res)) (kg_w G) := by
  refine kv_M_of (ls := [some (.ref 0), none, none, none]) (by decide) (Nat.le_of_ble_eq_true rfl) rfl ?_
  unfold fX10_digest at h
  refine kr_aload_n dX10_digest_0 rfl ?_
  refine kr_ldc2 (x := 1117) kw4_120 dX10_digest_1 ?_
  obtain ⟨v1, hv1, h⟩ := Option.bind_eq_some_iff.mp h
  refine kr_callVl (M' := kMX10_digestOfShow) (a := 0) (As := [.long 1117]) (st := []) (RX10_digestOfShow (e + 0) hv1) koX10_digestOfShow rfl rfl rfl kw4_121 kw4_123 kws_17 rfl (Nat.le_of_ble_eq_true rfl) dX10_digest_4 ?_
  refine kr_lstore_n (i := 1) (ls' := [some (.ref 0), some (.long v1), none, none]) dX10_digest_7 rfl (Nat.le_of_ble_eq_true rfl) rfl ?_
  refine kr_iconst (v := 0) dX10_digest_8 (by decide) ?_
  refine kr_istore_n (i := 3) (ls' := [some (.ref 0), some (.long v1), none, some (.int 0)]) dX10_digest_9 rfl (Nat.le_of_ble_eq_true rfl) rfl ?_
  exact RX10_digest_10 e N _ _ _ h
set_option maxRecDepth 20000 in
set_option maxHeartbeats 4000000 in
theorem RX2_isShow {Z : kv_Z} (e : Nat) {N : Nat} {G : kg_G} {res : Int32} (h : fX2_isShow N G = some res) : kv_M Z (e + 6) kMX2_isShow [.ref 1] (kg_w G) (some (.int res)) (kg_w G) := by
  refine kv_M_of (ls := [some (.ref 1), none]) (by decide) (Nat.le_of_ble_eq_true rfl) rfl ?_
  unfold fX2_isShow at h
  refine kr_aload_n dX2_isShow_0 rfl ?_
  refine kx_g1_1 (G.1 1 1) rfl kw1_38 dX2_isShow_1 ?_
  refine kr_aload_n dX2_isShow_4 rfl ?_
  obtain ⟨v1, hv1, h⟩ := Option.bind_eq_some_iff.mp h
  refine kr_callVi (M' := kMX2_tricksEnd) (a := 1) (As := []) (st := [.int (G.1 1 1)]) (RX2_tricksEnd (e + 5) hv1) koX2_tricksEnd rfl rfl rfl kw2_2 kw2_3 kw2_4 rfl (Nat.le_of_ble_eq_true rfl) dX2_isShow_5 ?_
  refine kr_isub dX2_isShow_8 ?_
  refine kr_iconst (v := 1) dX2_isShow_9 (by decide) ?_
  refine kr_isub dX2_isShow_10 ?_
  refine kr_istore_n (i := 1) (ls' := [some (.ref 1), some (.int (((G.1 1 1) - v1) - 1))]) dX2_isShow_11 rfl (Nat.le_of_ble_eq_true rfl) rfl ?_
  refine kr_iload_n dX2_isShow_12 rfl ?_
  refine kr_if_le (tgt := 37) dX2_isShow_13 rfl (fun c13 => ?_) (fun c13 => ?_)
  · rw [if_pos c13] at h
    refine kr_iconst (v := 0) dX2_isShow_37 (by decide) ?_
    cases h
    exact kr_zret rfl (by decide) dX2_isShow_38
  · rw [if_neg c13] at h
    refine kr_iload_n dX2_isShow_16 rfl ?_
    refine kr_iconst (v := 2) dX2_isShow_17 (by decide) ?_
    refine kr_irem dX2_isShow_18 (by decide) ?_
    refine kr_if_ne (tgt := 37) dX2_isShow_19 rfl (fun c19 => ?_) (fun c19 => ?_)
    · rw [if_pos c19] at h
      refine kr_aload_n dX2_isShow_22 rfl ?_
      obtain ⟨v2, hv2, h⟩ := Option.bind_eq_some_iff.mp h
      refine kr_callVi (M' := kMX2_firstFault) (a := 1) (As := []) (st := []) (RX2_firstFault (e + 0) hv2) koX2_firstFault rfl rfl rfl kw2_118 kw1_239 kw2_0 rfl (Nat.le_of_ble_eq_true rfl) dX2_isShow_23 ?_
      refine kr_aload_n dX2_isShow_26 rfl ?_
      refine kx_g1_1 (G.1 1 1) rfl kw1_38 dX2_isShow_27 ?_
      refine kr_icmp_ne (tgt := 37) dX2_isShow_30 rfl (fun c30 => ?_) (fun c30 => ?_)
      · rw [if_pos c30] at h
        refine kr_iconst (v := 1) dX2_isShow_33 (by decide) ?_
        refine kr_goto (tgt := 38) dX2_isShow_34 rfl ?_
        cases h
        exact kr_zret rfl (by decide) dX2_isShow_38
      · rw [if_neg c30] at h
        refine kr_iconst (v := 0) dX2_isShow_37 (by decide) ?_
        cases h
        exact kr_zret rfl (by decide) dX2_isShow_38
    · rw [if_neg c19] at h
      refine kr_iconst (v := 0) dX2_isShow_37 (by decide) ?_
      cases h
      exact kr_zret rfl (by decide) dX2_isShow_38
set_option maxRecDepth 20000 in
set_option maxHeartbeats 4000000 in
theorem RX9_startAnew {Z : kv_Z} (e : Nat) {N : Nat} {G : kg_G} {l1 : Int32} {res : kg_G} (h : fX9_startAnew N G l1 = some res) : kv_M Z (e + 1) kMX9_startAnew [.ref 3, .int l1] (kg_w G) none (kg_w res) := by
  refine kv_M_of (ls := [some (.ref 3), some (.int l1)]) (by decide) (Nat.le_of_ble_eq_true rfl) rfl ?_
  unfold fX9_startAnew at h
  refine kr_aload_n dX9_startAnew_0 rfl ?_
  refine kx_g3_2 kw1_58 dX9_startAnew_1 ?_
  refine kr_iconst (v := 0) dX9_startAnew_4 (by decide) ?_
  obtain ⟨v1, hv1, h⟩ := Option.bind_eq_some_iff.mp h
  refine kr_callSv (M' := kMJ7_fill_53178) (As := [.ref 6, .int 0]) (st := []) (RJ7_fill_53178 (e + 0) hv1) koJ7_fill_53178 rfl kw2_201 kw2_202 rfl (Nat.le_of_ble_eq_true rfl) dX9_startAnew_5 ?_
  refine kr_aload_n dX9_startAnew_8 rfl ?_
  refine kx_g3_3 kw1_60 dX9_startAnew_9 ?_
  refine kr_iconst (v := 0) dX9_startAnew_12 (by decide) ?_
  obtain ⟨v2, hv2, h⟩ := Option.bind_eq_some_iff.mp h
  refine kr_callSv (M' := kMJ7_fill_53178) (As := [.ref 7, .int 0]) (st := []) (RJ7_fill_53178 (e + 0) hv2) koJ7_fill_53178 rfl kw2_201 kw2_202 rfl (Nat.le_of_ble_eq_true rfl) dX9_startAnew_13 ?_
  refine kr_aload_n dX9_startAnew_16 rfl ?_
  refine kr_iconst (v := 1) dX9_startAnew_17 (by decide) ?_
  refine kr_iload_n dX9_startAnew_18 rfl ?_
  refine kr_ishl dX9_startAnew_19 ?_
  refine kr_iconst (v := 1) dX9_startAnew_20 (by decide) ?_
  refine kr_isub dX9_startAnew_21 ?_
  refine kx_p3_6 kw1_64 dX9_startAnew_22 ?_
  refine kr_aload_n dX9_startAnew_25 rfl ?_
  refine kr_iconst (v := 0) dX9_startAnew_26 (by decide) ?_
  refine kx_p3_7 kw1_66 dX9_startAnew_27 ?_
  refine kr_aload_n dX9_startAnew_30 rfl ?_
  refine kr_iconst (v := 0) dX9_startAnew_31 (by decide) ?_
  refine kx_p3_8 kw1_68 dX9_startAnew_32 ?_
  refine kr_aload_n dX9_startAnew_35 rfl ?_
  refine kr_iconst (v := 0) dX9_startAnew_36 (by decide) ?_
  refine kx_p3_9 kw1_70 dX9_startAnew_37 ?_
  refine kr_aload_n dX9_startAnew_40 rfl ?_
  refine kr_iconst (v := 0) dX9_startAnew_41 (by decide) ?_
  refine kx_p3_10 kw1_72 dX9_startAnew_42 ?_
  refine kr_aload_n dX9_startAnew_45 rfl ?_
  refine kr_iconst (v := 0) dX9_startAnew_46 (by decide) ?_
  refine kx_p3_11 kw1_74 dX9_startAnew_47 ?_
  refine kr_aload_n dX9_startAnew_50 rfl ?_
  refine kr_iconst (v := 0) dX9_startAnew_51 (by decide) ?_
  refine kx_p3_12 kw1_76 dX9_startAnew_52 ?_
  refine kr_aload_n dX9_startAnew_55 rfl ?_
  refine kr_iconst (v := 0) dX9_startAnew_56 (by decide) ?_
  refine kx_p3_13 kw1_78 dX9_startAnew_57 ?_
  cases h
  exact kr_vret rfl dX9_startAnew_60
set_option maxRecDepth 20000 in
set_option maxHeartbeats 4000000 in
theorem RX2_readPeople_15 {Z : kv_Z} (e : Nat) {N : Nat} : ∀ (n : Nat) (G : kg_G) (l2 : Int32) (l3 : Int32) (l4 : Int32) (res : kg_G), fX2_readPeople_15 N n G l2 l3 l4 = some res → kv_V Z (e + 2) kMX2_readPeople 15 [some (.ref 1), some (.ref 3), some (.int l2), some (.int l3), some (.int l4)] [] (kg_w G) none (kg_w res) := by
  intro n
  induction n with
  | zero => intro G l2 l3 l4 res h; exact absurd h (by intro z; cases z)
  | succ n ih =>
    intro G l2 l3 l4 res h
    have hk15 := ih
    rw [fX2_readPeople_15] at h
    refine kr_iload dX2_readPeople_15 rfl ?_
    refine kr_iload_n dX2_readPeople_17 rfl ?_
    refine kr_icmp_ge (tgt := 63) dX2_readPeople_18 rfl (fun c18 => ?_) (fun c18 => ?_)
    · rw [if_pos c18] at h
      cases h
      exact kr_vret rfl dX2_readPeople_63
    · rw [if_neg c18] at h
      refine kr_aload_n dX2_readPeople_21 rfl ?_
      refine kx_g3_0 kw1_54 dX2_readPeople_22 ?_
      refine kr_iload dX2_readPeople_25 rfl ?_
      refine kr_aload_n dX2_readPeople_27 rfl ?_
      refine kr_iload_n dX2_readPeople_28 rfl ?_
      refine kr_iconst (v := 2) dX2_readPeople_29 (by decide) ?_
      refine kr_iload dX2_readPeople_30 rfl ?_
      refine kr_imul dX2_readPeople_32 ?_
      refine kr_iadd dX2_readPeople_33 ?_
      obtain ⟨v1, hv1, h⟩ := Option.bind_eq_some_iff.mp h
      refine kr_callVi (M' := kMX2_digitAt) (a := 1) (As := [.int (l3 + (2 * l4))]) (st := [.int l4, .ref 4]) (RX2_digitAt (e + 1) hv1) koX2_digitAt rfl rfl rfl kw2_14 kw2_15 kw2_16 rfl (Nat.le_of_ble_eq_true rfl) dX2_readPeople_34 ?_
      obtain ⟨v2, hv2, h⟩ := Option.bind_eq_some_iff.mp h
      refine kx_s4 (G.2.1 4) rfl hv2 dX2_readPeople_37 ?_
      refine kr_aload_n dX2_readPeople_38 rfl ?_
      refine kx_g3_1 kw1_57 dX2_readPeople_39 ?_
      refine kr_iload dX2_readPeople_42 rfl ?_
      refine kr_aload_n dX2_readPeople_44 rfl ?_
      refine kr_iload_n dX2_readPeople_45 rfl ?_
      refine kr_iconst (v := 2) dX2_readPeople_46 (by decide) ?_
      refine kr_iload dX2_readPeople_47 rfl ?_
      refine kr_imul dX2_readPeople_49 ?_
      refine kr_iadd dX2_readPeople_50 ?_
      refine kr_iconst (v := 1) dX2_readPeople_51 (by decide) ?_
      refine kr_iadd dX2_readPeople_52 ?_
      obtain ⟨v3, hv3, h⟩ := Option.bind_eq_some_iff.mp h
      refine kr_callVi (M' := kMX2_digitAt) (a := 1) (As := [.int ((l3 + (2 * l4)) + 1)]) (st := [.int l4, .ref 5]) (RX2_digitAt (e + 1) hv3) koX2_digitAt rfl rfl rfl kw2_14 kw2_15 kw2_16 rfl (Nat.le_of_ble_eq_true rfl) dX2_readPeople_53 ?_
      obtain ⟨v4, hv4, h⟩ := Option.bind_eq_some_iff.mp h
      refine kx_s5 (G.2.1 5) rfl hv4 dX2_readPeople_56 ?_
      refine kr_iinc (v := l4 + 1) (ls' := [some (.ref 1), some (.ref 3), some (.int l2), some (.int l3), some (.int (l4 + 1))]) dX2_readPeople_57 rfl rfl (Nat.le_of_ble_eq_true rfl) rfl ?_
      refine kr_goto (tgt := 15) dX2_readPeople_60 rfl ?_
      exact hk15 _ _ _ _ _ h
set_option maxRecDepth 20000 in
set_option maxHeartbeats 4000000 in
theorem RX2_readPeople {Z : kv_Z} (e : Nat) {N : Nat} {G : kg_G} {l2 : Int32} {res : kg_G} (h : fX2_readPeople N G l2 = some res) : kv_M Z (e + 2) kMX2_readPeople [.ref 1, .ref 3, .int l2] (kg_w G) none (kg_w res) := by
  refine kv_M_of (ls := [some (.ref 1), some (.ref 3), some (.int l2), none, none]) (by decide) (Nat.le_of_ble_eq_true rfl) rfl ?_
  unfold fX2_readPeople at h
  refine kr_aload_n dX2_readPeople_0 rfl ?_
  obtain ⟨v1, hv1, h⟩ := Option.bind_eq_some_iff.mp h
  refine kr_callVi (M' := kMX2_tricksEnd) (a := 1) (As := []) (st := []) (RX2_tricksEnd (e + 1) hv1) koX2_tricksEnd rfl rfl rfl kw2_2 kw2_3 kw2_4 rfl (Nat.le_of_ble_eq_true rfl) dX2_readPeople_1 ?_
  refine kr_iconst (v := 1) dX2_readPeople_4 (by decide) ?_
  refine kr_iadd dX2_readPeople_5 ?_
  refine kr_istore_n (i := 3) (ls' := [some (.ref 1), some (.ref 3), some (.int l2), some (.int (v1 + 1)), none]) dX2_readPeople_6 rfl (Nat.le_of_ble_eq_true rfl) rfl ?_
  refine kr_aload_n dX2_readPeople_7 rfl ?_
  refine kr_iload_n dX2_readPeople_8 rfl ?_
  obtain ⟨v2, hv2, h⟩ := Option.bind_eq_some_iff.mp h
  refine kr_callVv (M' := kMX9_startAnew) (a := 3) (As := [.int l2]) (st := []) (RX9_startAnew (e + 0) hv2) koX9_startAnew rfl rfl rfl kw2_197 kw2_198 kw2_199 rfl (Nat.le_of_ble_eq_true rfl) dX2_readPeople_9 ?_
  refine kr_iconst (v := 0) dX2_readPeople_12 (by decide) ?_
  refine kr_istore (ls' := [some (.ref 1), some (.ref 3), some (.int l2), some (.int (v1 + 1)), some (.int 0)]) dX2_readPeople_13 (Nat.le_of_ble_eq_true rfl) rfl ?_
  exact RX2_readPeople_15 e N _ _ _ _ _ h
