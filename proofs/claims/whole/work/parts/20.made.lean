/-! MADE LATER: tricks, their row, the bill -/
abbrev kMX8_init : kv_Me := (yX8_init, cX8_init, 4, none)
theorem koX8_init : kv_ok kMX8_init 3 := ⟨⟨by decide, by decide, by decide +kernel⟩, kw2_136, kw1_14, by decide⟩
abbrev kMX3_init : kv_Me := (yX3_init, cX3_init, 4, none)
theorem koX3_init : kv_ok kMX3_init 3 := ⟨⟨by decide, by decide, by decide +kernel⟩, kw2_133, kw1_15, by decide⟩
abbrev kMX1_init : kv_Me := (yX1_init, cX1_init, 4, none)
theorem koX1_init : kv_ok kMX1_init 3 := ⟨⟨by decide, by decide, by decide +kernel⟩, kw2_169, kw1_17, by decide⟩
abbrev kMX6_init : kv_Me := (yX6_init, cX6_init, 4, none)
theorem koX6_init : kv_ok kMX6_init 3 := ⟨⟨by decide, by decide, by decide +kernel⟩, kw2_159, kw1_16, by decide⟩
abbrev kMX5_init : kv_Me := (yX5_init, cX5_init, 4, none)
theorem koX5_init : kv_ok kMX5_init 3 := ⟨⟨by decide, by decide, by decide +kernel⟩, kw2_179, kw1_18, by decide⟩
abbrev kMX0_init : kv_Me := (yX0_init, cX0_init, 3, none)
theorem koX0_init : kv_ok kMX0_init 2 := ⟨⟨by decide, by decide, by decide +kernel⟩, kw1_175, kw1_6, by decide⟩
set_option maxRecDepth 20000 in
set_option maxHeartbeats 4000000 in
theorem RX8_init {Z : kv_Z} (e : Nat) {h : kv_H} {a ci : Nat} {u v w x y z : Int32} (hci : ci = 1 ∨ ci = 3 ∨ ci = 5 ∨ ci = 6 ∨ ci = 8) (ha : h[a]? = some (.inr (.inr (ci, [.int u, .int v, .int w])))) : kv_M Z (e + 0) kMX8_init [.ref a, .int x, .int y, .int z] h none (h.set a (.inr (.inr (ci, [.int x, .int y, .int z])))) := by
  have hlt : a < h.length := (List.getElem?_eq_some_iff.mp ha).1
  refine kv_M_of (ls := [some (.ref a), some (.int x), some (.int y), some (.int z)]) (by decide) (Nat.le_of_ble_eq_true rfl) rfl ?_
  rcases hci with rfl | rfl | rfl | rfl | rfl
  · refine kr_aload_n dX8_init_0 rfl ?_
    refine kr_objInit kw2_137 kw1_28 kw1_29 (Nat.le_of_ble_eq_true rfl) dX8_init_1 ?_
    refine kr_aload_n dX8_init_4 rfl ?_
    refine kr_iload_n dX8_init_5 rfl ?_
    refine kr_putfF (k := 0) tyX1 tyX1_ok nmX1 ha rfl (by decide) kin1 kw2_138 rfl rfl rfl rfl rfl (Nat.le_of_ble_eq_true rfl) dX8_init_6 ?_
    refine kr_aload_n dX8_init_9 rfl ?_
    refine kr_iload_n dX8_init_10 rfl ?_
    refine kr_putfF (k := 1) tyX1 tyX1_ok nmX1 (List.getElem?_set_self (by simpa using hlt)) rfl (by decide) kin1 kw2_140 rfl rfl rfl rfl rfl (Nat.le_of_ble_eq_true rfl) dX8_init_11 ?_
    refine kr_aload_n dX8_init_14 rfl ?_
    refine kr_iload_n dX8_init_15 rfl ?_
    refine kr_putfF (k := 2) tyX1 tyX1_ok nmX1 (List.getElem?_set_self (by simpa using hlt)) rfl (by decide) kin1 kw2_142 rfl rfl rfl rfl rfl (Nat.le_of_ble_eq_true rfl) dX8_init_16 ?_
    simp only [List.set_set]
    exact kr_vret rfl dX8_init_19
  · refine kr_aload_n dX8_init_0 rfl ?_
    refine kr_objInit kw2_137 kw1_28 kw1_29 (Nat.le_of_ble_eq_true rfl) dX8_init_1 ?_
    refine kr_aload_n dX8_init_4 rfl ?_
    refine kr_iload_n dX8_init_5 rfl ?_
    refine kr_putfF (k := 0) tyX3 tyX3_ok nmX3 ha rfl (by decide) kin3 kw2_138 rfl rfl rfl rfl rfl (Nat.le_of_ble_eq_true rfl) dX8_init_6 ?_
    refine kr_aload_n dX8_init_9 rfl ?_
    refine kr_iload_n dX8_init_10 rfl ?_
    refine kr_putfF (k := 1) tyX3 tyX3_ok nmX3 (List.getElem?_set_self (by simpa using hlt)) rfl (by decide) kin3 kw2_140 rfl rfl rfl rfl rfl (Nat.le_of_ble_eq_true rfl) dX8_init_11 ?_
    refine kr_aload_n dX8_init_14 rfl ?_
    refine kr_iload_n dX8_init_15 rfl ?_
    refine kr_putfF (k := 2) tyX3 tyX3_ok nmX3 (List.getElem?_set_self (by simpa using hlt)) rfl (by decide) kin3 kw2_142 rfl rfl rfl rfl rfl (Nat.le_of_ble_eq_true rfl) dX8_init_16 ?_
    simp only [List.set_set]
    exact kr_vret rfl dX8_init_19
  · refine kr_aload_n dX8_init_0 rfl ?_
    refine kr_objInit kw2_137 kw1_28 kw1_29 (Nat.le_of_ble_eq_true rfl) dX8_init_1 ?_
    refine kr_aload_n dX8_init_4 rfl ?_
    refine kr_iload_n dX8_init_5 rfl ?_
    refine kr_putfF (k := 0) tyX5 tyX5_ok nmX5 ha rfl (by decide) kin5 kw2_138 rfl rfl rfl rfl rfl (Nat.le_of_ble_eq_true rfl) dX8_init_6 ?_
    refine kr_aload_n dX8_init_9 rfl ?_
    refine kr_iload_n dX8_init_10 rfl ?_
    refine kr_putfF (k := 1) tyX5 tyX5_ok nmX5 (List.getElem?_set_self (by simpa using hlt)) rfl (by decide) kin5 kw2_140 rfl rfl rfl rfl rfl (Nat.le_of_ble_eq_true rfl) dX8_init_11 ?_
    refine kr_aload_n dX8_init_14 rfl ?_
    refine kr_iload_n dX8_init_15 rfl ?_
    refine kr_putfF (k := 2) tyX5 tyX5_ok nmX5 (List.getElem?_set_self (by simpa using hlt)) rfl (by decide) kin5 kw2_142 rfl rfl rfl rfl rfl (Nat.le_of_ble_eq_true rfl) dX8_init_16 ?_
    simp only [List.set_set]
    exact kr_vret rfl dX8_init_19
  · refine kr_aload_n dX8_init_0 rfl ?_
    refine kr_objInit kw2_137 kw1_28 kw1_29 (Nat.le_of_ble_eq_true rfl) dX8_init_1 ?_
    refine kr_aload_n dX8_init_4 rfl ?_
    refine kr_iload_n dX8_init_5 rfl ?_
    refine kr_putfF (k := 0) tyX6 tyX6_ok nmX6 ha rfl (by decide) kin6 kw2_138 rfl rfl rfl rfl rfl (Nat.le_of_ble_eq_true rfl) dX8_init_6 ?_
    refine kr_aload_n dX8_init_9 rfl ?_
    refine kr_iload_n dX8_init_10 rfl ?_
    refine kr_putfF (k := 1) tyX6 tyX6_ok nmX6 (List.getElem?_set_self (by simpa using hlt)) rfl (by decide) kin6 kw2_140 rfl rfl rfl rfl rfl (Nat.le_of_ble_eq_true rfl) dX8_init_11 ?_
    refine kr_aload_n dX8_init_14 rfl ?_
    refine kr_iload_n dX8_init_15 rfl ?_
    refine kr_putfF (k := 2) tyX6 tyX6_ok nmX6 (List.getElem?_set_self (by simpa using hlt)) rfl (by decide) kin6 kw2_142 rfl rfl rfl rfl rfl (Nat.le_of_ble_eq_true rfl) dX8_init_16 ?_
    simp only [List.set_set]
    exact kr_vret rfl dX8_init_19
  · refine kr_aload_n dX8_init_0 rfl ?_
    refine kr_objInit kw2_137 kw1_28 kw1_29 (Nat.le_of_ble_eq_true rfl) dX8_init_1 ?_
    refine kr_aload_n dX8_init_4 rfl ?_
    refine kr_iload_n dX8_init_5 rfl ?_
    refine kr_putfF (k := 0) tyX8 tyX8_ok nmX8 ha rfl (by decide) kin8 kw2_138 rfl rfl rfl rfl rfl (Nat.le_of_ble_eq_true rfl) dX8_init_6 ?_
    refine kr_aload_n dX8_init_9 rfl ?_
    refine kr_iload_n dX8_init_10 rfl ?_
    refine kr_putfF (k := 1) tyX8 tyX8_ok nmX8 (List.getElem?_set_self (by simpa using hlt)) rfl (by decide) kin8 kw2_140 rfl rfl rfl rfl rfl (Nat.le_of_ble_eq_true rfl) dX8_init_11 ?_
    refine kr_aload_n dX8_init_14 rfl ?_
    refine kr_iload_n dX8_init_15 rfl ?_
    refine kr_putfF (k := 2) tyX8 tyX8_ok nmX8 (List.getElem?_set_self (by simpa using hlt)) rfl (by decide) kin8 kw2_142 rfl rfl rfl rfl rfl (Nat.le_of_ble_eq_true rfl) dX8_init_16 ?_
    simp only [List.set_set]
    exact kr_vret rfl dX8_init_19
set_option maxRecDepth 20000 in
set_option maxHeartbeats 4000000 in
theorem RX3_init {Z : kv_Z} (e : Nat) {h : kv_H} {a ci : Nat} {u v w x y z : Int32} (hci : ci = 1 ∨ ci = 3 ∨ ci = 5 ∨ ci = 6 ∨ ci = 8) (ha : h[a]? = some (.inr (.inr (ci, [.int u, .int v, .int w])))) : kv_M Z (e + 1) kMX3_init [.ref a, .int x, .int y, .int z] h none (h.set a (.inr (.inr (ci, [.int x, .int y, .int z])))) := by
  refine kv_M_of (ls := [some (.ref a), some (.int x), some (.int y), some (.int z)]) (by decide) (Nat.le_of_ble_eq_true rfl) rfl ?_
  refine kr_aload_n dX3_init_0 rfl ?_
  refine kr_iload_n dX3_init_1 rfl ?_
  refine kr_iload_n dX3_init_2 rfl ?_
  refine kr_iload_n dX3_init_3 rfl ?_
  refine kr_callI (M' := kMX8_init) (a := a) (As := [.int x, .int y, .int z]) (st := []) (RX8_init (e + 0) hci ha) koX8_init rfl rfl rfl kw2_134 kw2_135 rfl (Nat.le_of_ble_eq_true rfl) dX3_init_4 ?_
  exact kr_vret rfl dX3_init_7
set_option maxRecDepth 20000 in
set_option maxHeartbeats 4000000 in
theorem RX1_init {Z : kv_Z} (e : Nat) {h : kv_H} {a ci : Nat} {u v w x y z : Int32} (hci : ci = 1 ∨ ci = 3 ∨ ci = 5 ∨ ci = 6 ∨ ci = 8) (ha : h[a]? = some (.inr (.inr (ci, [.int u, .int v, .int w])))) : kv_M Z (e + 1) kMX1_init [.ref a, .int x, .int y, .int z] h none (h.set a (.inr (.inr (ci, [.int x, .int y, .int z])))) := by
  refine kv_M_of (ls := [some (.ref a), some (.int x), some (.int y), some (.int z)]) (by decide) (Nat.le_of_ble_eq_true rfl) rfl ?_
  refine kr_aload_n dX1_init_0 rfl ?_
  refine kr_iload_n dX1_init_1 rfl ?_
  refine kr_iload_n dX1_init_2 rfl ?_
  refine kr_iload_n dX1_init_3 rfl ?_
  refine kr_callI (M' := kMX8_init) (a := a) (As := [.int x, .int y, .int z]) (st := []) (RX8_init (e + 0) hci ha) koX8_init rfl rfl rfl kw2_170 kw2_135 rfl (Nat.le_of_ble_eq_true rfl) dX1_init_4 ?_
  exact kr_vret rfl dX1_init_7
set_option maxRecDepth 20000 in
set_option maxHeartbeats 4000000 in
theorem RX6_init {Z : kv_Z} (e : Nat) {h : kv_H} {a ci : Nat} {u v w x y z : Int32} (hci : ci = 1 ∨ ci = 3 ∨ ci = 5 ∨ ci = 6 ∨ ci = 8) (ha : h[a]? = some (.inr (.inr (ci, [.int u, .int v, .int w])))) : kv_M Z (e + 1) kMX6_init [.ref a, .int x, .int y, .int z] h none (h.set a (.inr (.inr (ci, [.int x, .int y, .int z])))) := by
  refine kv_M_of (ls := [some (.ref a), some (.int x), some (.int y), some (.int z)]) (by decide) (Nat.le_of_ble_eq_true rfl) rfl ?_
  refine kr_aload_n dX6_init_0 rfl ?_
  refine kr_iload_n dX6_init_1 rfl ?_
  refine kr_iload_n dX6_init_2 rfl ?_
  refine kr_iload_n dX6_init_3 rfl ?_
  refine kr_callI (M' := kMX8_init) (a := a) (As := [.int x, .int y, .int z]) (st := []) (RX8_init (e + 0) hci ha) koX8_init rfl rfl rfl kw2_160 kw2_135 rfl (Nat.le_of_ble_eq_true rfl) dX6_init_4 ?_
  exact kr_vret rfl dX6_init_7
set_option maxRecDepth 20000 in
set_option maxHeartbeats 4000000 in
theorem RX5_init {Z : kv_Z} (e : Nat) {h : kv_H} {a ci : Nat} {u v w x y z : Int32} (hci : ci = 1 ∨ ci = 3 ∨ ci = 5 ∨ ci = 6 ∨ ci = 8) (ha : h[a]? = some (.inr (.inr (ci, [.int u, .int v, .int w])))) : kv_M Z (e + 2) kMX5_init [.ref a, .int x, .int y, .int z] h none (h.set a (.inr (.inr (ci, [.int x, .int y, .int z])))) := by
  refine kv_M_of (ls := [some (.ref a), some (.int x), some (.int y), some (.int z)]) (by decide) (Nat.le_of_ble_eq_true rfl) rfl ?_
  refine kr_aload_n dX5_init_0 rfl ?_
  refine kr_iload_n dX5_init_1 rfl ?_
  refine kr_iload_n dX5_init_2 rfl ?_
  refine kr_iload_n dX5_init_3 rfl ?_
  refine kr_callI (M' := kMX3_init) (a := a) (As := [.int x, .int y, .int z]) (st := []) (RX3_init (e + 0) hci ha) koX3_init rfl rfl rfl kw2_180 kw2_132 rfl (Nat.le_of_ble_eq_true rfl) dX5_init_4 ?_
  exact kr_vret rfl dX5_init_7
set_option maxRecDepth 20000 in
set_option maxHeartbeats 4000000 in
theorem RX0_init {Z : kv_Z} (e : Nat) {h : kv_H} {a t : Nat} {w : Value} {u x : Int32} (ha : h[a]? = some (.inr (.inr (0, [w, .int u])))) : kv_M Z (e + 0) kMX0_init [.ref a, .ref t, .int x] h none (h.set a (.inr (.inr (0, [.ref t, .int x])))) := by
  have hlt : a < h.length := (List.getElem?_eq_some_iff.mp ha).1
  refine kv_M_of (ls := [some (.ref a), some (.ref t), some (.int x)]) (by decide) (Nat.le_of_ble_eq_true rfl) rfl ?_
  refine kr_aload_n dX0_init_0 rfl ?_
  refine kr_objInit kw1_176 kw1_28 kw1_29 (Nat.le_of_ble_eq_true rfl) dX0_init_1 ?_
  refine kr_aload_n dX0_init_4 rfl ?_
  refine kr_aload_n dX0_init_5 rfl ?_
  refine kr_putfF (k := 0) tyX0 tyX0_ok nmX0 ha rfl (by decide) kin0 kw1_177 rfl rfl rfl rfl rfl (Nat.le_of_ble_eq_true rfl) dX0_init_6 ?_
  refine kr_aload_n dX0_init_9 rfl ?_
  refine kr_iload_n dX0_init_10 rfl ?_
  refine kr_putfF (k := 1) tyX0 tyX0_ok nmX0 (List.getElem?_set_self (by simpa using hlt)) rfl (by decide) kin0 kw1_181 rfl rfl rfl rfl rfl (Nat.le_of_ble_eq_true rfl) dX0_init_11 ?_
  simp only [List.set_set]
  exact kr_vret rfl dX0_init_14
theorem kg_w_len (G : kg_G) : (kg_w G).length = (kg_Y G).length + 45 := rfl
theorem kg_last {G : kg_G} {Y : kv_H} {c : kv_C} : (kg_w (kg_y G (Y ++ [c])))[Y.length + 45]? = some c := by
  show (Y ++ [c])[Y.length]? = some c
  simp
theorem kg_last_set {G : kg_G} {Y : kv_H} {c c' : kv_C} : (kg_w (kg_y G (Y ++ [c]))).set (Y.length + 45) c' = kg_w (kg_y G (Y ++ [c'])) := by
  have e : (Y ++ [c]).set Y.length c' = Y ++ [c'] := by simp
  rw [← e]
  rfl
def kg_nr (n : Int32) : Option Nat := if n < 0 then none else if n.toNatClampNeg * 4 ≤ 536870912 then some n.toNatClampNeg else none
def kg_tp (G : kg_G) (t : Nat) (i : Int32) (x : Nat) : Option kg_G := (kg_ta (kg_Y G) t).bind fun xs => (kg_tr (kg_Y G) x).bind fun _ => if t < 45 then none else if i < 0 then none else if i.toNatClampNeg < xs.length then some (kg_y G ((kg_Y G).set (t - 45) (.inr (.inl (xs.set i.toNatClampNeg (some x)))))) else none
section KM
variable {Z : kv_Z} {d : Nat} {M : kv_Me} {pc : Nat} {ls : List (Option Value)} {st : List Value} {h' : kv_H} {r : Option Value} {idx : Nat} {G : kg_G}
theorem kx_new1 (hl : Cond.classLink M.1.cls idx "KeptVolunteers$LongTrick" ∈ kv_W) (hd : decode M.2.1 pc = .ok (.new idx, 3)) (kk : kv_V Z d M (pc + 3) ls (.ref ((kg_Y G).length + 45) :: st) (kg_w (kg_y G (kg_Y G ++ [.inr (.inr (1, [.int 0, .int 0, .int 0]))]))) r h') : kv_V Z d M pc ls st (kg_w G) r h' := by
  refine kr_new (ci := 1) (fs := [.int 0, .int 0, .int 0]) tyX1 tyX1_ok rfl kin1 hl kw2_166 kw1_17 (fun j hj => by rcases (show j = 0 ∨ j = 1 ∨ j = 2 by omega) with rfl | rfl | rfl <;> rfl) rfl hd ?_
  exact kk
theorem kx_init1 (e : Nat) {x y z : Int32} {Y : kv_H} (hl : Cond.methodLink M.1.cls idx yX1_init ∈ kv_W) (hcat : (st.map fun v => v.category).sum ≤ 8) (hd : decode M.2.1 pc = .ok (.invokespecial idx, 3)) (kk : kv_V Z (e + 1 + 1) M (pc + 3) ls st (kg_w (kg_y G (Y ++ [.inr (.inr (1, [.int x, .int y, .int z]))]))) r h') : kv_V Z (e + 1 + 1) M pc ls (.int z :: .int y :: .int x :: .ref (Y.length + 45) :: st) (kg_w (kg_y G (Y ++ [.inr (.inr (1, [.int 0, .int 0, .int 0]))]))) r h' := by
  refine kr_callI (M' := kMX1_init) (a := Y.length + 45) (As := [.int x, .int y, .int z]) (st := st) (RX1_init e (by decide) kg_last) koX1_init rfl rfl rfl hl kw2_168 rfl hcat hd ?_
  rw [kg_last_set]
  exact kk
theorem kx_new3 (hl : Cond.classLink M.1.cls idx "KeptVolunteers$Pair" ∈ kv_W) (hd : decode M.2.1 pc = .ok (.new idx, 3)) (kk : kv_V Z d M (pc + 3) ls (.ref ((kg_Y G).length + 45) :: st) (kg_w (kg_y G (kg_Y G ++ [.inr (.inr (3, [.int 0, .int 0, .int 0]))]))) r h') : kv_V Z d M pc ls st (kg_w G) r h' := by
  refine kr_new (ci := 3) (fs := [.int 0, .int 0, .int 0]) tyX3 tyX3_ok rfl kin3 hl kw2_130 kw1_15 (fun j hj => by rcases (show j = 0 ∨ j = 1 ∨ j = 2 by omega) with rfl | rfl | rfl <;> rfl) rfl hd ?_
  exact kk
theorem kx_init3 (e : Nat) {x y z : Int32} {Y : kv_H} (hl : Cond.methodLink M.1.cls idx yX3_init ∈ kv_W) (hcat : (st.map fun v => v.category).sum ≤ 8) (hd : decode M.2.1 pc = .ok (.invokespecial idx, 3)) (kk : kv_V Z (e + 1 + 1) M (pc + 3) ls st (kg_w (kg_y G (Y ++ [.inr (.inr (3, [.int x, .int y, .int z]))]))) r h') : kv_V Z (e + 1 + 1) M pc ls (.int z :: .int y :: .int x :: .ref (Y.length + 45) :: st) (kg_w (kg_y G (Y ++ [.inr (.inr (3, [.int 0, .int 0, .int 0]))]))) r h' := by
  refine kr_callI (M' := kMX3_init) (a := Y.length + 45) (As := [.int x, .int y, .int z]) (st := st) (RX3_init e (by decide) kg_last) koX3_init rfl rfl rfl hl kw2_132 rfl hcat hd ?_
  rw [kg_last_set]
  exact kk
theorem kx_new5 (hl : Cond.classLink M.1.cls idx "KeptVolunteers$Rope" ∈ kv_W) (hd : decode M.2.1 pc = .ok (.new idx, 3)) (kk : kv_V Z d M (pc + 3) ls (.ref ((kg_Y G).length + 45) :: st) (kg_w (kg_y G (kg_Y G ++ [.inr (.inr (5, [.int 0, .int 0, .int 0]))]))) r h') : kv_V Z d M pc ls st (kg_w G) r h' := by
  refine kr_new (ci := 5) (fs := [.int 0, .int 0, .int 0]) tyX5 tyX5_ok rfl kin5 hl kw2_176 kw1_18 (fun j hj => by rcases (show j = 0 ∨ j = 1 ∨ j = 2 by omega) with rfl | rfl | rfl <;> rfl) rfl hd ?_
  exact kk
theorem kx_init5 (e : Nat) {x y z : Int32} {Y : kv_H} (hl : Cond.methodLink M.1.cls idx yX5_init ∈ kv_W) (hcat : (st.map fun v => v.category).sum ≤ 8) (hd : decode M.2.1 pc = .ok (.invokespecial idx, 3)) (kk : kv_V Z (e + 2 + 1) M (pc + 3) ls st (kg_w (kg_y G (Y ++ [.inr (.inr (5, [.int x, .int y, .int z]))]))) r h') : kv_V Z (e + 2 + 1) M pc ls (.int z :: .int y :: .int x :: .ref (Y.length + 45) :: st) (kg_w (kg_y G (Y ++ [.inr (.inr (5, [.int 0, .int 0, .int 0]))]))) r h' := by
  refine kr_callI (M' := kMX5_init) (a := Y.length + 45) (As := [.int x, .int y, .int z]) (st := st) (RX5_init e (by decide) kg_last) koX5_init rfl rfl rfl hl kw2_178 rfl hcat hd ?_
  rw [kg_last_set]
  exact kk
theorem kx_new6 (hl : Cond.classLink M.1.cls idx "KeptVolunteers$Saw" ∈ kv_W) (hd : decode M.2.1 pc = .ok (.new idx, 3)) (kk : kv_V Z d M (pc + 3) ls (.ref ((kg_Y G).length + 45) :: st) (kg_w (kg_y G (kg_Y G ++ [.inr (.inr (6, [.int 0, .int 0, .int 0]))]))) r h') : kv_V Z d M pc ls st (kg_w G) r h' := by
  refine kr_new (ci := 6) (fs := [.int 0, .int 0, .int 0]) tyX6 tyX6_ok rfl kin6 hl kw2_156 kw1_16 (fun j hj => by rcases (show j = 0 ∨ j = 1 ∨ j = 2 by omega) with rfl | rfl | rfl <;> rfl) rfl hd ?_
  exact kk
theorem kx_init6 (e : Nat) {x y z : Int32} {Y : kv_H} (hl : Cond.methodLink M.1.cls idx yX6_init ∈ kv_W) (hcat : (st.map fun v => v.category).sum ≤ 8) (hd : decode M.2.1 pc = .ok (.invokespecial idx, 3)) (kk : kv_V Z (e + 1 + 1) M (pc + 3) ls st (kg_w (kg_y G (Y ++ [.inr (.inr (6, [.int x, .int y, .int z]))]))) r h') : kv_V Z (e + 1 + 1) M pc ls (.int z :: .int y :: .int x :: .ref (Y.length + 45) :: st) (kg_w (kg_y G (Y ++ [.inr (.inr (6, [.int 0, .int 0, .int 0]))]))) r h' := by
  refine kr_callI (M' := kMX6_init) (a := Y.length + 45) (As := [.int x, .int y, .int z]) (st := st) (RX6_init e (by decide) kg_last) koX6_init rfl rfl rfl hl kw2_158 rfl hcat hd ?_
  rw [kg_last_set]
  exact kk
theorem kx_new8 (hl : Cond.classLink M.1.cls idx "KeptVolunteers$Trick" ∈ kv_W) (hd : decode M.2.1 pc = .ok (.new idx, 3)) (kk : kv_V Z d M (pc + 3) ls (.ref ((kg_Y G).length + 45) :: st) (kg_w (kg_y G (kg_Y G ++ [.inr (.inr (8, [.int 0, .int 0, .int 0]))]))) r h') : kv_V Z d M pc ls st (kg_w G) r h' := by
  refine kr_new (ci := 8) (fs := [.int 0, .int 0, .int 0]) tyX8 tyX8_ok rfl kin8 hl kw2_185 kw1_14 (fun j hj => by rcases (show j = 0 ∨ j = 1 ∨ j = 2 by omega) with rfl | rfl | rfl <;> rfl) rfl hd ?_
  exact kk
theorem kx_init8 (e : Nat) {x y z : Int32} {Y : kv_H} (hl : Cond.methodLink M.1.cls idx yX8_init ∈ kv_W) (hcat : (st.map fun v => v.category).sum ≤ 8) (hd : decode M.2.1 pc = .ok (.invokespecial idx, 3)) (kk : kv_V Z (e + 0 + 1) M (pc + 3) ls st (kg_w (kg_y G (Y ++ [.inr (.inr (8, [.int x, .int y, .int z]))]))) r h') : kv_V Z (e + 0 + 1) M pc ls (.int z :: .int y :: .int x :: .ref (Y.length + 45) :: st) (kg_w (kg_y G (Y ++ [.inr (.inr (8, [.int 0, .int 0, .int 0]))]))) r h' := by
  refine kr_callI (M' := kMX8_init) (a := Y.length + 45) (As := [.int x, .int y, .int z]) (st := st) (RX8_init e (by decide) kg_last) koX8_init rfl rfl rfl hl kw2_135 rfl hcat hd ?_
  rw [kg_last_set]
  exact kk
theorem kx_new0 (hl : Cond.classLink M.1.cls idx "KeptVolunteers$Bill" ∈ kv_W) (hd : decode M.2.1 pc = .ok (.new idx, 3)) (kk : kv_V Z d M (pc + 3) ls (.ref ((kg_Y G).length + 45) :: st) (kg_w (kg_y G (kg_Y G ++ [.inr (.inr (0, [.null, .int 0]))]))) r h') : kv_V Z d M pc ls st (kg_w G) r h' := by
  refine kr_new (ci := 0) (fs := [.null, .int 0]) tyX0 tyX0_ok rfl kin0 hl kw1_170 kw1_6 (fun j hj => by rcases (show j = 0 ∨ j = 1 by omega) with rfl | rfl <;> rfl) rfl hd ?_
  exact kk
theorem kx_init0 (e : Nat) {t : Nat} {x : Int32} {Y : kv_H} (hl : Cond.methodLink M.1.cls idx yX0_init ∈ kv_W) (hcat : (st.map fun v => v.category).sum ≤ 8) (hd : decode M.2.1 pc = .ok (.invokespecial idx, 3)) (kk : kv_V Z (e + 0 + 1) M (pc + 3) ls st (kg_w (kg_y G (Y ++ [.inr (.inr (0, [.ref t, .int x]))]))) r h') : kv_V Z (e + 0 + 1) M pc ls (.int x :: .ref t :: .ref (Y.length + 45) :: st) (kg_w (kg_y G (Y ++ [.inr (.inr (0, [.null, .int 0]))]))) r h' := by
  refine kr_callI (M' := kMX0_init) (a := Y.length + 45) (As := [.ref t, .int x]) (st := st) (RX0_init e kg_last) koX0_init rfl rfl rfl hl kw1_174 rfl hcat hd ?_
  rw [kg_last_set]
  exact kk
theorem kx_newR {n : Int32} {N : Nat} (hg : kg_nr n = some N) (hl : Cond.classLink M.1.cls idx "KeptVolunteers$Trick" ∈ kv_W) (hd : decode M.2.1 pc = .ok (.anewarray idx, 3)) (kk : kv_V Z d M (pc + 3) ls (.ref ((kg_Y G).length + 45) :: st) (kg_w (kg_y G (kg_Y G ++ [.inr (.inl (List.replicate N none))]))) r h') : kv_V Z d M pc ls (.int n :: st) (kg_w G) r h' := by
  unfold kg_nr at hg
  obtain ⟨h1, hg⟩ := kx_ite hg
  obtain ⟨h2, hg⟩ := kx_itn hg
  cases hg
  exact kr_newq hl h1 rfl h2 hd kk
theorem kx_tp {t x : Nat} {i : Int32} {G2 : kg_G} (hg : kg_tp G t i x = some G2) (hd : decode M.2.1 pc = .ok (.aastore, 1)) (kk : kv_V Z d M (pc + 1) ls st (kg_w G2) r h') : kv_V Z d M pc ls (.ref x :: .int i :: .ref t :: st) (kg_w G) r h' := by
  unfold kg_tp at hg
  obtain ⟨xs, h1, hg⟩ := Option.bind_eq_some_iff.mp hg
  obtain ⟨q, h2, hg⟩ := Option.bind_eq_some_iff.mp hg
  obtain ⟨h3, hg⟩ := kx_ite hg
  obtain ⟨h4, hg⟩ := kx_ite hg
  obtain ⟨h5, hg⟩ := kx_itn hg
  cases hg
  obtain ⟨k, rfl⟩ : ∃ k, t = k + 45 := ⟨t - 45, by omega⟩
  rw [Nat.add_sub_cancel] at kk
  have hi : vp_in i xs.length := fun z => z.elim h4 (fun z => absurd h5 (by omega))
  obtain ⟨g1, g2⟩ := kg_tr_w h2
  obtain ⟨ci, x1, x2, x3⟩ := q
  simp only at g2
  rcases g2 with rfl | rfl | rfl | rfl | rfl
  · exact kr_aast (kg_ta_w h1) g1 rfl (Or.inr (by decide)) hi hd kk
  · exact kr_aast (kg_ta_w h1) g1 rfl (Or.inr (by decide)) hi hd kk
  · exact kr_aast (kg_ta_w h1) g1 rfl (Or.inr (by decide)) hi hd kk
  · exact kr_aast (kg_ta_w h1) g1 rfl (Or.inr (by decide)) hi hd kk
  · exact kr_aast (kg_ta_w h1) g1 rfl (Or.inl rfl) hi hd kk
theorem kx_p0_5 {b : Nat} (hl : Cond.fieldLink M.1.cls idx "KeptVolunteers" "bill" "LKeptVolunteers$Bill;" ∈ kv_W) (hd : decode M.2.1 pc = .ok (.putfield idx, 3)) (kk : kv_V Z d M (pc + 3) ls st (kg_w (kg_b G b)) r h') : kv_V Z d M pc ls (.ref b :: .ref 0 :: st) (kg_w G) r h' := kr_putf (a := 0) (k := 5) (w := .ref b) tyX10 tyX10_ok nmX10 rfl rfl (by decide) kin10 hl rfl rfl rfl (Nat.le_of_ble_eq_true rfl) hd kk
end KM
abbrev kMX2_readTrick : kv_Me := (yX2_readTrick, cX2_readTrick, 5, some (.object "KeptVolunteers$Trick"))
theorem koX2_readTrick : kv_ok kMX2_readTrick 1 := ⟨⟨by decide, by decide, by decide +kernel⟩, kw2_128, kw1_2, by decide⟩
def fX2_readTrick (N : Nat) (G : kg_G) (l1 : Int32) : Option (Nat × kg_G) := (fX2_digitAt G (l1 + 1)).bind fun v1 => (fX2_digitAt G (l1 + 2)).bind fun v2 => (fX2_digitAt G (l1 + 3)).bind fun v3 => (kv_g (G.2.1 2) l1).bind fun v4 => (fJ0_indexOf_0f7a4 N ((v4.toUInt32 % 65536).toInt32)).bind fun v5 => if v5 = 1 then some ((kg_Y G).length + 45, kg_y G (kg_Y G ++ [.inr (.inr (3, [.int v1, .int v2, .int v3]))])) else if v5 = 2 then some ((kg_Y G).length + 45, kg_y G (kg_Y G ++ [.inr (.inr (6, [.int v1, .int v2, .int v3]))])) else if v5 = 3 then some ((kg_Y G).length + 45, kg_y G (kg_Y G ++ [.inr (.inr (1, [.int v1, .int v2, .int v3]))])) else if v5 = 4 then some ((kg_Y G).length + 45, kg_y G (kg_Y G ++ [.inr (.inr (5, [.int v1, .int v2, .int v3]))])) else some ((kg_Y G).length + 45, kg_y G (kg_Y G ++ [.inr (.inr (8, [.int v1, .int v2, .int v3]))]))
set_option maxRecDepth 20000 in
set_option maxHeartbeats 4000000 in
theorem RX2_readTrick {Z : kv_Z} (e : Nat) {N : Nat} {G : kg_G} {l1 : Int32} {res : Nat × kg_G} (h : fX2_readTrick N G l1 = some res) : kv_M Z (e + 4) kMX2_readTrick [.ref 1, .int l1] (kg_w G) (some (.ref res.1)) (kg_w res.2) := by
  refine kv_M_of (ls := [some (.ref 1), some (.int l1), none, none, none]) (by decide) (Nat.le_of_ble_eq_true rfl) rfl ?_
  unfold fX2_readTrick at h
  refine kr_aload_n dX2_readTrick_0 rfl ?_
  refine kr_iload_n dX2_readTrick_1 rfl ?_
  refine kr_iconst (v := 1) dX2_readTrick_2 (by decide) ?_
  refine kr_iadd dX2_readTrick_3 ?_
  obtain ⟨v1, hv1, h⟩ := Option.bind_eq_some_iff.mp h
  refine kr_callVi (M' := kMX2_digitAt) (a := 1) (As := [.int (l1 + 1)]) (st := []) (RX2_digitAt (e + 3) hv1) koX2_digitAt rfl rfl rfl kw2_14 kw2_15 kw2_16 rfl (Nat.le_of_ble_eq_true rfl) dX2_readTrick_4 ?_
  refine kr_istore_n (i := 2) (ls' := [some (.ref 1), some (.int l1), some (.int v1), none, none]) dX2_readTrick_7 rfl (Nat.le_of_ble_eq_true rfl) rfl ?_
  refine kr_aload_n dX2_readTrick_8 rfl ?_
  refine kr_iload_n dX2_readTrick_9 rfl ?_
  refine kr_iconst (v := 2) dX2_readTrick_10 (by decide) ?_
  refine kr_iadd dX2_readTrick_11 ?_
  obtain ⟨v2, hv2, h⟩ := Option.bind_eq_some_iff.mp h
  refine kr_callVi (M' := kMX2_digitAt) (a := 1) (As := [.int (l1 + 2)]) (st := []) (RX2_digitAt (e + 3) hv2) koX2_digitAt rfl rfl rfl kw2_14 kw2_15 kw2_16 rfl (Nat.le_of_ble_eq_true rfl) dX2_readTrick_12 ?_
  refine kr_istore_n (i := 3) (ls' := [some (.ref 1), some (.int l1), some (.int v1), some (.int v2), none]) dX2_readTrick_15 rfl (Nat.le_of_ble_eq_true rfl) rfl ?_
  refine kr_aload_n dX2_readTrick_16 rfl ?_
  refine kr_iload_n dX2_readTrick_17 rfl ?_
  refine kr_iconst (v := 3) dX2_readTrick_18 (by decide) ?_
  refine kr_iadd dX2_readTrick_19 ?_
  obtain ⟨v3, hv3, h⟩ := Option.bind_eq_some_iff.mp h
  refine kr_callVi (M' := kMX2_digitAt) (a := 1) (As := [.int (l1 + 3)]) (st := []) (RX2_digitAt (e + 3) hv3) koX2_digitAt rfl rfl rfl kw2_14 kw2_15 kw2_16 rfl (Nat.le_of_ble_eq_true rfl) dX2_readTrick_20 ?_
  refine kr_istore (ls' := [some (.ref 1), some (.int l1), some (.int v1), some (.int v2), some (.int v3)]) dX2_readTrick_23 (Nat.le_of_ble_eq_true rfl) rfl ?_
  refine kr_ldcX rfl dX2_readTrick_25 ?_
  refine kr_aload_n dX2_readTrick_27 rfl ?_
  refine kx_g1_0 kw1_36 dX2_readTrick_28 ?_
  refine kr_iload_n dX2_readTrick_31 rfl ?_
  obtain ⟨v4, hv4, h⟩ := Option.bind_eq_some_iff.mp h
  refine kx_a2 (G.2.1 2) rfl hv4 dX2_readTrick_32 ?_
  refine kr_i2c dX2_readTrick_33 ?_
  obtain ⟨v5, hv5, h⟩ := Option.bind_eq_some_iff.mp h
  refine kr_callXi (M' := kMJ0_indexOf_0f7a4) (As := [.int ((v4.toUInt32 % 65536).toInt32)]) (st := []) (RJ0_indexOf_0f7a4 (e + 0) hv5) koJ0_indexOf_0f7a4 rfl rfl kw2_23 kw2_24 kw2_25 rfl (Nat.le_of_ble_eq_true rfl) dX2_readTrick_34 ?_
  by_cases c37_1 : v5 = 1
  · rw [if_pos c37_1] at h
    refine kr_tableIn (off := 31) (tgt := 68) dX2_readTrick_37 (by rw [c37_1]; decide) (by rw [c37_1]; decide) (by rw [c37_1]; decide) rfl ?_
    refine kx_new3 kw2_129 dX2_readTrick_68 ?_
    refine kr_dup dX2_readTrick_71 rfl ?_
    refine kr_iload_n dX2_readTrick_72 rfl ?_
    refine kr_iload_n dX2_readTrick_73 rfl ?_
    refine kr_iload dX2_readTrick_74 rfl ?_
    refine kx_init3 (st := [.ref ((kg_Y G).length + 45)]) (e + 2) kw2_131 (Nat.le_of_ble_eq_true rfl) dX2_readTrick_76 ?_
    cases h
    exact kr_aret rfl dX2_readTrick_79
  rw [if_neg c37_1] at h
  by_cases c37_2 : v5 = 2
  · rw [if_pos c37_2] at h
    refine kr_tableIn (off := 43) (tgt := 80) dX2_readTrick_37 (by rw [c37_2]; decide) (by rw [c37_2]; decide) (by rw [c37_2]; decide) rfl ?_
    refine kx_new6 kw2_155 dX2_readTrick_80 ?_
    refine kr_dup dX2_readTrick_83 rfl ?_
    refine kr_iload_n dX2_readTrick_84 rfl ?_
    refine kr_iload_n dX2_readTrick_85 rfl ?_
    refine kr_iload dX2_readTrick_86 rfl ?_
    refine kx_init6 (st := [.ref ((kg_Y G).length + 45)]) (e + 2) kw2_157 (Nat.le_of_ble_eq_true rfl) dX2_readTrick_88 ?_
    cases h
    exact kr_aret rfl dX2_readTrick_91
  rw [if_neg c37_2] at h
  by_cases c37_3 : v5 = 3
  · rw [if_pos c37_3] at h
    refine kr_tableIn (off := 55) (tgt := 92) dX2_readTrick_37 (by rw [c37_3]; decide) (by rw [c37_3]; decide) (by rw [c37_3]; decide) rfl ?_
    refine kx_new1 kw2_165 dX2_readTrick_92 ?_
    refine kr_dup dX2_readTrick_95 rfl ?_
    refine kr_iload_n dX2_readTrick_96 rfl ?_
    refine kr_iload_n dX2_readTrick_97 rfl ?_
    refine kr_iload dX2_readTrick_98 rfl ?_
    refine kx_init1 (st := [.ref ((kg_Y G).length + 45)]) (e + 2) kw2_167 (Nat.le_of_ble_eq_true rfl) dX2_readTrick_100 ?_
    cases h
    exact kr_aret rfl dX2_readTrick_103
  rw [if_neg c37_3] at h
  by_cases c37_4 : v5 = 4
  · rw [if_pos c37_4] at h
    refine kr_tableIn (off := 67) (tgt := 104) dX2_readTrick_37 (by rw [c37_4]; decide) (by rw [c37_4]; decide) (by rw [c37_4]; decide) rfl ?_
    refine kx_new5 kw2_175 dX2_readTrick_104 ?_
    refine kr_dup dX2_readTrick_107 rfl ?_
    refine kr_iload_n dX2_readTrick_108 rfl ?_
    refine kr_iload_n dX2_readTrick_109 rfl ?_
    refine kr_iload dX2_readTrick_110 rfl ?_
    refine kx_init5 (st := [.ref ((kg_Y G).length + 45)]) (e + 1) kw2_177 (Nat.le_of_ble_eq_true rfl) dX2_readTrick_112 ?_
    cases h
    exact kr_aret rfl dX2_readTrick_115
  rw [if_neg c37_4] at h
  refine kr_tableOut (tgt := 116) dX2_readTrick_37 (by have q1 := lv_neT c37_1 (a := 1) (by decide); have q2 := lv_neT c37_2 (a := 2) (by decide); have q3 := lv_neT c37_3 (a := 3) (by decide); have q4 := lv_neT c37_4 (a := 4) (by decide); omega) rfl ?_
  refine kx_new8 kw2_124 dX2_readTrick_116 ?_
  refine kr_dup dX2_readTrick_119 rfl ?_
  refine kr_iload_n dX2_readTrick_120 rfl ?_
  refine kr_iload_n dX2_readTrick_121 rfl ?_
  refine kr_iload dX2_readTrick_122 rfl ?_
  refine kx_init8 (st := [.ref ((kg_Y G).length + 45)]) (e + 3) kw2_186 (Nat.le_of_ble_eq_true rfl) dX2_readTrick_124 ?_
  cases h
  exact kr_aret rfl dX2_readTrick_127
abbrev kMX2_readBill : kv_Me := (yX2_readBill, cX2_readBill, 4, some (.object "KeptVolunteers$Bill"))
theorem koX2_readBill : kv_ok kMX2_readBill 0 := ⟨⟨by decide, by decide, by decide +kernel⟩, kw2_122, kw1_2, by decide⟩
def fX2_readBill_20 (N : Nat) : Nat → kg_G → Int32 → Nat → Int32 → Option (Nat × kg_G)
  | 0, _, _, _, _ => none
  | n + 1, G, l1, a2, l3 => (kg_ta (kg_Y G) a2).bind fun v1 => if (nI v1.length) ≤ l3 then some ((kg_Y G).length + 45, kg_y G (kg_Y G ++ [.inr (.inr (0, [.ref a2, .int (fJ9_min_7cf53 ((((G.1 1 1) - l1) - 1) / 2) 5)]))])) else (fX2_readTrick N G (l3 * 5)).bind fun v3 => (kg_tp v3.2 a2 l3 v3.1).bind fun v4 => (fX2_readBill_20 N n) v4 l1 a2 (l3 + 1)
def fX2_readBill (N : Nat) (G : kg_G) : Option (Nat × kg_G) := (fX2_tricksEnd N G).bind fun v1 => (kg_nr (fJ9_min_7cf53 ((v1 + 1) / 5) 5)).bind fun v3 => fX2_readBill_20 N N (kg_y G (kg_Y G ++ [.inr (.inl (List.replicate v3 none))])) v1 ((kg_Y G).length + 45) 0
set_option maxRecDepth 20000 in
set_option maxHeartbeats 4000000 in
theorem RX2_readBill_20 {Z : kv_Z} (e : Nat) {N : Nat} : ∀ (n : Nat) (G : kg_G) (l1 : Int32) (a2 : Nat) (l3 : Int32) (res : Nat × kg_G), fX2_readBill_20 N n G l1 a2 l3 = some res → kv_V Z (e + 5) kMX2_readBill 20 [some (.ref 1), some (.int l1), some (.ref a2), some (.int l3)] [] (kg_w G) (some (.ref res.1)) (kg_w res.2) := by
  intro n
  induction n with
  | zero => intro G l1 a2 l3 res h; exact absurd h (by intro z; cases z)
  | succ n ih =>
    intro G l1 a2 l3 res h
    have hk20 := ih
    rw [fX2_readBill_20] at h
    refine kr_iload_n dX2_readBill_20 rfl ?_
    refine kr_aload_n dX2_readBill_21 rfl ?_
    obtain ⟨v1, hv1, h⟩ := Option.bind_eq_some_iff.mp h
    refine kx_tl hv1 dX2_readBill_22 ?_
    refine kr_icmp_ge (tgt := 42) dX2_readBill_23 rfl (fun c23 => ?_) (fun c23 => ?_)
    · rw [if_pos c23] at h
      refine kx_new0 kw2_191 dX2_readBill_42 ?_
      refine kr_dup dX2_readBill_45 rfl ?_
      refine kr_aload_n dX2_readBill_46 rfl ?_
      refine kr_aload_n dX2_readBill_47 rfl ?_
      refine kx_g1_1 (G.1 1 1) rfl kw1_38 dX2_readBill_48 ?_
      refine kr_iload_n dX2_readBill_51 rfl ?_
      refine kr_isub dX2_readBill_52 ?_
      refine kr_iconst (v := 1) dX2_readBill_53 (by decide) ?_
      refine kr_isub dX2_readBill_54 ?_
      refine kr_iconst (v := 2) dX2_readBill_55 (by decide) ?_
      refine kr_idiv dX2_readBill_56 (by decide) ?_
      refine kr_iconst (v := 5) dX2_readBill_57 (by decide) ?_
      refine kr_callSi (M' := kMJ9_min_7cf53) (As := [.int ((((G.1 1 1) - l1) - 1) / 2), .int 5]) (st := [.ref a2, .ref ((kg_Y G).length + 45), .ref ((kg_Y G).length + 45)]) (RJ9_min_7cf53 (e + 4) rfl) koJ9_min_7cf53 rfl kw2_123 kw2_55 rfl (Nat.le_of_ble_eq_true rfl) dX2_readBill_58 ?_
      refine kx_init0 (st := [.ref ((kg_Y G).length + 45)]) (e + 4) kw2_192 (Nat.le_of_ble_eq_true rfl) dX2_readBill_61 ?_
      cases h
      exact kr_aret rfl dX2_readBill_64
    · rw [if_neg c23] at h
      refine kr_aload_n dX2_readBill_26 rfl ?_
      refine kr_iload_n dX2_readBill_27 rfl ?_
      refine kr_aload_n dX2_readBill_28 rfl ?_
      refine kr_iload_n dX2_readBill_29 rfl ?_
      refine kr_iconst (v := 5) dX2_readBill_30 (by decide) ?_
      refine kr_imul dX2_readBill_31 ?_
      obtain ⟨v3, hv3, h⟩ := Option.bind_eq_some_iff.mp h
      refine kr_callVr (M' := kMX2_readTrick) (a := 1) (As := [.int (l3 * 5)]) (st := [.int l3, .ref a2]) (RX2_readTrick (e + 0) hv3) koX2_readTrick rfl rfl rfl kw2_125 kw2_126 kw2_127 rfl (Nat.le_of_ble_eq_true rfl) dX2_readBill_32 ?_
      obtain ⟨v4, hv4, h⟩ := Option.bind_eq_some_iff.mp h
      refine kx_tp hv4 dX2_readBill_35 ?_
      refine kr_iinc (v := l3 + 1) (ls' := [some (.ref 1), some (.int l1), some (.ref a2), some (.int (l3 + 1))]) dX2_readBill_36 rfl rfl (Nat.le_of_ble_eq_true rfl) rfl ?_
      refine kr_goto (tgt := 20) dX2_readBill_39 rfl ?_
      exact hk20 _ _ _ _ _ h
set_option maxRecDepth 20000 in
set_option maxHeartbeats 4000000 in
theorem RX2_readBill {Z : kv_Z} (e : Nat) {N : Nat} {G : kg_G} {res : Nat × kg_G} (h : fX2_readBill N G = some res) : kv_M Z (e + 5) kMX2_readBill [.ref 1] (kg_w G) (some (.ref res.1)) (kg_w res.2) := by
  refine kv_M_of (ls := [some (.ref 1), none, none, none]) (by decide) (Nat.le_of_ble_eq_true rfl) rfl ?_
  unfold fX2_readBill at h
  refine kr_aload_n dX2_readBill_0 rfl ?_
  obtain ⟨v1, hv1, h⟩ := Option.bind_eq_some_iff.mp h
  refine kr_callVi (M' := kMX2_tricksEnd) (a := 1) (As := []) (st := []) (RX2_tricksEnd (e + 4) hv1) koX2_tricksEnd rfl rfl rfl kw2_2 kw2_3 kw2_4 rfl (Nat.le_of_ble_eq_true rfl) dX2_readBill_1 ?_
  refine kr_istore_n (i := 1) (ls' := [some (.ref 1), some (.int v1), none, none]) dX2_readBill_4 rfl (Nat.le_of_ble_eq_true rfl) rfl ?_
  refine kr_iload_n dX2_readBill_5 rfl ?_
  refine kr_iconst (v := 1) dX2_readBill_6 (by decide) ?_
  refine kr_iadd dX2_readBill_7 ?_
  refine kr_iconst (v := 5) dX2_readBill_8 (by decide) ?_
  refine kr_idiv dX2_readBill_9 (by decide) ?_
  refine kr_iconst (v := 5) dX2_readBill_10 (by decide) ?_
  refine kr_callSi (M' := kMJ9_min_7cf53) (As := [.int ((v1 + 1) / 5), .int 5]) (st := []) (RJ9_min_7cf53 (e + 4) rfl) koJ9_min_7cf53 rfl kw2_123 kw2_55 rfl (Nat.le_of_ble_eq_true rfl) dX2_readBill_11 ?_
  obtain ⟨v3, hv3, h⟩ := Option.bind_eq_some_iff.mp h
  refine kx_newR hv3 kw2_124 dX2_readBill_14 ?_
  refine kr_astore_n (i := 2) (ls' := [some (.ref 1), some (.int v1), some (.ref ((kg_Y G).length + 45)), none]) dX2_readBill_17 rfl (Nat.le_of_ble_eq_true rfl) rfl ?_
  refine kr_iconst (v := 0) dX2_readBill_18 (by decide) ?_
  refine kr_istore_n (i := 3) (ls' := [some (.ref 1), some (.int v1), some (.ref ((kg_Y G).length + 45)), some (.int 0)]) dX2_readBill_19 rfl (Nat.le_of_ble_eq_true rfl) rfl ?_
  exact RX2_readBill_20 e N _ _ _ _ _ h
abbrev kMX10_show : kv_Me := (yX10_show, cX10_show, 1, some .int)
theorem koX10_show : kv_ok kMX10_show 0 := ⟨⟨by decide, by decide, by decide +kernel⟩, kw2_113, kw1_1, by decide⟩
def fX10_show (N : Nat) (G : kg_G) : Option (Int32 × kg_G) := (fX2_isShow N G).bind fun v1 => if v1 = 0 then some ((-103), G) else (fX2_readBill N G).bind fun v2 => (kg_bl (kg_Y v2.2) v2.1).bind fun v3 => (fX2_readPeople N (kg_b v2.2 v2.1) v3.2).bind fun v4 => (kg_bl (kg_Y v4) v4.2.2.2.1).bind fun v5 => (kg_ta (kg_Y v4) v5.1).bind fun v6 => some (nI v6.length, kg_i (kg_i (kg_i v4 1 1 0) 0 6 0) 0 7 ((v4.1 0 7) + 1))
set_option maxRecDepth 20000 in
set_option maxHeartbeats 4000000 in
theorem RX10_show {Z : kv_Z} (e : Nat) {N : Nat} {G : kg_G} {res : Int32 × kg_G} (h : fX10_show N G = some res) : kv_M Z (e + 7) kMX10_show [.ref 0] (kg_w G) (some (.int res.1)) (kg_w res.2) := by
  refine kv_M_of (ls := [some (.ref 0)]) (by decide) (Nat.le_of_ble_eq_true rfl) rfl ?_
  unfold fX10_show at h
  refine kr_aload_n dX10_show_0 rfl ?_
  refine kx_g0_0 kw1_188 dX10_show_1 ?_
  obtain ⟨v1, hv1, h⟩ := Option.bind_eq_some_iff.mp h
  refine kr_callVi (M' := kMX2_isShow) (a := 1) (As := []) (st := []) (RX2_isShow (e + 0) hv1) koX2_isShow rfl rfl rfl kw2_114 kw2_115 kw2_116 rfl (Nat.le_of_ble_eq_true rfl) dX10_show_4 ?_
  refine kr_if_ne (tgt := 13) dX10_show_7 rfl (fun c7 => ?_) (fun c7 => ?_)
  · rw [if_pos c7] at h
    refine kr_bipush (v := (-103)) dX10_show_10 (by decide) ?_
    cases h
    exact kr_iret rfl dX10_show_12
  · rw [if_neg c7] at h
    refine kr_aload_n dX10_show_13 rfl ?_
    refine kr_aload_n dX10_show_14 rfl ?_
    refine kx_g0_0 kw1_188 dX10_show_15 ?_
    obtain ⟨v2, hv2, h⟩ := Option.bind_eq_some_iff.mp h
    refine kr_callVr (M' := kMX2_readBill) (a := 1) (As := []) (st := [.ref 0]) (RX2_readBill (e + 1) hv2) koX2_readBill rfl rfl rfl kw2_119 kw2_120 kw2_121 rfl (Nat.le_of_ble_eq_true rfl) dX10_show_18 ?_
    refine kx_p0_5 kw1_193 dX10_show_21 ?_
    refine kr_aload_n dX10_show_24 rfl ?_
    refine kx_g0_0 kw1_188 dX10_show_25 ?_
    refine kr_aload_n dX10_show_28 rfl ?_
    refine kx_g0_1 kw1_189 dX10_show_29 ?_
    refine kr_aload_n dX10_show_32 rfl ?_
    refine kx_g0_5 v2.1 rfl kw1_193 dX10_show_33 ?_
    obtain ⟨v3, hv3, h⟩ := Option.bind_eq_some_iff.mp h
    refine kx_bp hv3 kw1_182 dX10_show_36 ?_
    obtain ⟨v4, hv4, h⟩ := Option.bind_eq_some_iff.mp h
    refine kr_callVv (M' := kMX2_readPeople) (a := 1) (As := [.ref 3, .int v3.2]) (st := []) (RX2_readPeople (e + 4) hv4) koX2_readPeople rfl rfl rfl kw2_193 kw2_194 kw2_195 rfl (Nat.le_of_ble_eq_true rfl) dX10_show_39 ?_
    refine kr_aload_n dX10_show_42 rfl ?_
    refine kx_g0_0 kw1_188 dX10_show_43 ?_
    refine kr_iconst (v := 0) dX10_show_46 (by decide) ?_
    refine kx_p1_1 kw1_39 dX10_show_47 ?_
    refine kr_aload_n dX10_show_50 rfl ?_
    refine kr_iconst (v := 0) dX10_show_51 (by decide) ?_
    refine kx_p0_6 kw1_194 (by decide) (by decide) dX10_show_52 ?_
    refine kr_aload_n dX10_show_55 rfl ?_
    refine kr_dup dX10_show_56 rfl ?_
    refine kx_g0_7 (v4.1 0 7) rfl kw1_195 dX10_show_57 ?_
    refine kr_iconst (v := 1) dX10_show_60 (by decide) ?_
    refine kr_iadd dX10_show_61 ?_
    refine kx_p0_7 kw1_195 dX10_show_62 ?_
    refine kr_aload_n dX10_show_65 rfl ?_
    refine kx_g0_5 v4.2.2.2.1 rfl kw1_193 dX10_show_66 ?_
    obtain ⟨v5, hv5, h⟩ := Option.bind_eq_some_iff.mp h
    refine kx_bt hv5 kw1_180 dX10_show_69 ?_
    obtain ⟨v6, hv6, h⟩ := Option.bind_eq_some_iff.mp h
    refine kx_tl hv6 dX10_show_72 ?_
    cases h
    exact kr_iret rfl dX10_show_73
