/-! TRICKS: a trick as read is (its class, hour, hours, need) -/
abbrev tk_Q : Type := Nat × Int32 × Int32 × Int32
def tk_kind (q : tk_Q) : Int32 := if q.1 = 1 then 3 else if q.1 = 3 then 1 else if q.1 = 5 then 4 else if q.1 = 6 then 2 else 0
def tk_crew (q : tk_Q) : Int32 := if q.1 = 3 then 2 else if q.1 = 5 then 2 else 1
def tk_restHours (q : tk_Q) : Int32 := if q.1 = 1 then 1 else 0
def tk_suits (q : tk_Q) (s : Int32) : Int32 := if q.1 = 5 then 1 else if q.1 = 6 then (if q.2.2.2 < s then 0 else 1) else (if s < q.2.2.2 then 0 else 1)
def tk_holdsWith (q : tk_Q) (s : Int32) : Int32 := if q.1 = 5 then (if s < q.2.2.2 then 0 else 1) else 1
def tk_runningHours (q : tk_Q) : Int32 := ((1 <<< (q.2.2.1 &&& 31)) - 1) <<< (q.2.1 &&& 31)
def tk_busyHours (q : tk_Q) : Int32 := ((1 <<< ((q.2.2.1 + tk_restHours q) &&& 31)) - 1) <<< (q.2.1 &&& 31)
def tk_ss (q : tk_Q) : Nat → Int32 → Int32 → Int32
  | 0, a, _ => a
  | n + 1, a, i => tk_ss q n (if tk_suits q i = 0 then a else a ||| (1 <<< (i &&& 31))) (i + 1)
def tk_suitedStrongs (q : tk_Q) : Int32 := tk_ss q 10 0 0
def kx_nd (ci : Nat) (Y : kv_H) (a : Nat) : Option Int32 := (kg_tr Y a).bind fun q => if q.1 = ci then some q.2.2.2 else none
theorem kx_nd5 {Z : kv_Z} {d : Nat} {M : kv_Me} {pc : Nat} {ls : List (Option Value)} {st : List Value} {h' : kv_H} {r : Option Value} {idx : Nat} {G : kg_G} {a : Nat} {x : Int32} (hg : kx_nd 5 (kg_Y G) a = some x) (hl : Cond.fieldLink M.1.cls idx "KeptVolunteers$Rope" "need" "I" ∈ kv_W) (hsm : Cond.sameField "KeptVolunteers$Rope" "KeptVolunteers$Trick" "need" "I" ∈ kv_W) (hd : decode M.2.1 pc = .ok (.getfield idx, 3)) (kk : kv_V Z d M (pc + 3) ls (.int x :: st) (kg_w G) r h') : kv_V Z d M pc ls (.ref a :: st) (kg_w G) r h' := by
  obtain ⟨q, hq, hg⟩ := Option.bind_eq_some_iff.mp hg
  obtain ⟨h1, h2⟩ := kg_tr_w hq
  obtain ⟨ci, x1, x2, x3⟩ := q
  obtain ⟨h3, hg⟩ := kx_itn hg
  simp only at h3 hg
  subst h3
  cases hg
  exact kr_getfS (k := 2) h1 rfl rfl (by decide) kin5 hl hsm hd kk
theorem kx_nd6 {Z : kv_Z} {d : Nat} {M : kv_Me} {pc : Nat} {ls : List (Option Value)} {st : List Value} {h' : kv_H} {r : Option Value} {idx : Nat} {G : kg_G} {a : Nat} {x : Int32} (hg : kx_nd 6 (kg_Y G) a = some x) (hl : Cond.fieldLink M.1.cls idx "KeptVolunteers$Saw" "need" "I" ∈ kv_W) (hsm : Cond.sameField "KeptVolunteers$Saw" "KeptVolunteers$Trick" "need" "I" ∈ kv_W) (hd : decode M.2.1 pc = .ok (.getfield idx, 3)) (kk : kv_V Z d M (pc + 3) ls (.int x :: st) (kg_w G) r h') : kv_V Z d M pc ls (.ref a :: st) (kg_w G) r h' := by
  obtain ⟨q, hq, hg⟩ := Option.bind_eq_some_iff.mp hg
  obtain ⟨h1, h2⟩ := kg_tr_w hq
  obtain ⟨ci, x1, x2, x3⟩ := q
  obtain ⟨h3, hg⟩ := kx_itn hg
  simp only at h3 hg
  subst h3
  cases hg
  exact kr_getfS (k := 2) h1 rfl rfl (by decide) kin6 hl hsm hd kk
abbrev kMX8_kind : kv_Me := (yX8_kind, cX8_kind, 1, some .int)
theorem koX8_kind : kv_ok kMX8_kind 0 := ⟨⟨by decide, by decide, by decide +kernel⟩, kw2_228, kw1_14, by decide⟩
def fX8_kind (a0 : Nat) : Int32 := 0
set_option maxRecDepth 20000 in
set_option maxHeartbeats 4000000 in
theorem RX8_kind {Z : kv_Z} (e : Nat) {G : kg_G} {a0 : Nat} {res : Int32} (h : fX8_kind a0 = res) : kv_M Z (e + 0) kMX8_kind [.ref a0] (kg_w G) (some (.int res)) (kg_w G) := by
  refine kv_M_of (ls := [some (.ref a0)]) (by decide) (Nat.le_of_ble_eq_true rfl) rfl ?_
  unfold fX8_kind at h
  refine kr_iconst (v := 0) dX8_kind_0 (by decide) ?_
  cases h
  exact kr_iret rfl dX8_kind_1
abbrev kMX8_crew : kv_Me := (yX8_crew, cX8_crew, 1, some .int)
theorem koX8_crew : kv_ok kMX8_crew 0 := ⟨⟨by decide, by decide, by decide +kernel⟩, kw2_239, kw1_14, by decide⟩
def fX8_crew (a0 : Nat) : Int32 := 1
set_option maxRecDepth 20000 in
set_option maxHeartbeats 4000000 in
theorem RX8_crew {Z : kv_Z} (e : Nat) {G : kg_G} {a0 : Nat} {res : Int32} (h : fX8_crew a0 = res) : kv_M Z (e + 0) kMX8_crew [.ref a0] (kg_w G) (some (.int res)) (kg_w G) := by
  refine kv_M_of (ls := [some (.ref a0)]) (by decide) (Nat.le_of_ble_eq_true rfl) rfl ?_
  unfold fX8_crew at h
  refine kr_iconst (v := 1) dX8_crew_0 (by decide) ?_
  cases h
  exact kr_iret rfl dX8_crew_1
abbrev kMX8_restHours : kv_Me := (yX8_restHours, cX8_restHours, 1, some .int)
theorem koX8_restHours : kv_ok kMX8_restHours 0 := ⟨⟨by decide, by decide, by decide +kernel⟩, kw3_71, kw1_14, by decide⟩
def fX8_restHours (a0 : Nat) : Int32 := 0
set_option maxRecDepth 20000 in
set_option maxHeartbeats 4000000 in
theorem RX8_restHours {Z : kv_Z} (e : Nat) {G : kg_G} {a0 : Nat} {res : Int32} (h : fX8_restHours a0 = res) : kv_M Z (e + 0) kMX8_restHours [.ref a0] (kg_w G) (some (.int res)) (kg_w G) := by
  refine kv_M_of (ls := [some (.ref a0)]) (by decide) (Nat.le_of_ble_eq_true rfl) rfl ?_
  unfold fX8_restHours at h
  refine kr_iconst (v := 0) dX8_restHours_0 (by decide) ?_
  cases h
  exact kr_iret rfl dX8_restHours_1
abbrev kMX8_suits : kv_Me := (yX8_suits, cX8_suits, 2, some .boolean)
theorem koX8_suits : kv_ok kMX8_suits 1 := ⟨⟨by decide, by decide, by decide +kernel⟩, kw3_30, kw1_14, by decide⟩
def fX8_suits (G : kg_G) (a0 : Nat) (l1 : Int32) : Option (Int32) := (kg_tr (kg_Y G) a0).bind fun v1 => if l1 < v1.2.2.2 then some 0 else some 1
set_option maxRecDepth 20000 in
set_option maxHeartbeats 4000000 in
theorem RX8_suits {Z : kv_Z} (e : Nat) {G : kg_G} {a0 : Nat} {l1 : Int32} {res : Int32} (h : fX8_suits G a0 l1 = some res) : kv_M Z (e + 0) kMX8_suits [.ref a0, .int l1] (kg_w G) (some (.int res)) (kg_w G) := by
  refine kv_M_of (ls := [some (.ref a0), some (.int l1)]) (by decide) (Nat.le_of_ble_eq_true rfl) rfl ?_
  unfold fX8_suits at h
  refine kr_iload_n dX8_suits_0 rfl ?_
  refine kr_aload_n dX8_suits_1 rfl ?_
  obtain ⟨v1, hv1, h⟩ := Option.bind_eq_some_iff.mp h
  refine kx_t2 hv1 kw2_142 dX8_suits_2 ?_
  refine kr_icmp_lt (tgt := 12) dX8_suits_5 rfl (fun c5 => ?_) (fun c5 => ?_)
  · rw [if_pos c5] at h
    refine kr_iconst (v := 0) dX8_suits_12 (by decide) ?_
    cases h
    exact kr_zret rfl (by decide) dX8_suits_13
  · rw [if_neg c5] at h
    refine kr_iconst (v := 1) dX8_suits_8 (by decide) ?_
    refine kr_goto (tgt := 13) dX8_suits_9 rfl ?_
    cases h
    exact kr_zret rfl (by decide) dX8_suits_13
abbrev kMX8_holdsWith : kv_Me := (yX8_holdsWith, cX8_holdsWith, 2, some .boolean)
theorem koX8_holdsWith : kv_ok kMX8_holdsWith 1 := ⟨⟨by decide, by decide, by decide +kernel⟩, kw3_41, kw1_14, by decide⟩
def fX8_holdsWith (a0 : Nat) (l1 : Int32) : Int32 := 1
set_option maxRecDepth 20000 in
set_option maxHeartbeats 4000000 in
theorem RX8_holdsWith {Z : kv_Z} (e : Nat) {G : kg_G} {a0 : Nat} {l1 : Int32} {res : Int32} (h : fX8_holdsWith a0 l1 = res) : kv_M Z (e + 0) kMX8_holdsWith [.ref a0, .int l1] (kg_w G) (some (.int res)) (kg_w G) := by
  refine kv_M_of (ls := [some (.ref a0), some (.int l1)]) (by decide) (Nat.le_of_ble_eq_true rfl) rfl ?_
  unfold fX8_holdsWith at h
  refine kr_iconst (v := 1) dX8_holdsWith_0 (by decide) ?_
  cases h
  exact kr_zret rfl (by decide) dX8_holdsWith_1
abbrev kMX8_runningHours : kv_Me := (yX8_runningHours, cX8_runningHours, 1, some .int)
theorem koX8_runningHours : kv_ok kMX8_runningHours 0 := ⟨⟨by decide, by decide, by decide +kernel⟩, kw4_9, kw1_14, by decide⟩
def fX8_runningHours (G : kg_G) (a0 : Nat) : Option (Int32) := (kg_tr (kg_Y G) a0).bind fun v1 => (kg_tr (kg_Y G) a0).bind fun v2 => some (((1 <<< (v1.2.2.1 &&& 31)) - 1) <<< (v2.2.1 &&& 31))
set_option maxRecDepth 20000 in
set_option maxHeartbeats 4000000 in
theorem RX8_runningHours {Z : kv_Z} (e : Nat) {G : kg_G} {a0 : Nat} {res : Int32} (h : fX8_runningHours G a0 = some res) : kv_M Z (e + 0) kMX8_runningHours [.ref a0] (kg_w G) (some (.int res)) (kg_w G) := by
  refine kv_M_of (ls := [some (.ref a0)]) (by decide) (Nat.le_of_ble_eq_true rfl) rfl ?_
  unfold fX8_runningHours at h
  refine kr_iconst (v := 1) dX8_runningHours_0 (by decide) ?_
  refine kr_aload_n dX8_runningHours_1 rfl ?_
  obtain ⟨v1, hv1, h⟩ := Option.bind_eq_some_iff.mp h
  refine kx_t1 hv1 kw2_140 dX8_runningHours_2 ?_
  refine kr_ishl dX8_runningHours_5 ?_
  refine kr_iconst (v := 1) dX8_runningHours_6 (by decide) ?_
  refine kr_isub dX8_runningHours_7 ?_
  refine kr_aload_n dX8_runningHours_8 rfl ?_
  obtain ⟨v2, hv2, h⟩ := Option.bind_eq_some_iff.mp h
  refine kx_t0 hv2 kw2_138 dX8_runningHours_9 ?_
  refine kr_ishl dX8_runningHours_12 ?_
  cases h
  exact kr_iret rfl dX8_runningHours_13
abbrev kMX1_kind : kv_Me := (yX1_kind, cX1_kind, 1, some .int)
theorem koX1_kind : kv_ok kMX1_kind 0 := ⟨⟨by decide, by decide, by decide +kernel⟩, kw2_218, kw1_17, by decide⟩
def fX1_kind (a0 : Nat) : Int32 := 3
set_option maxRecDepth 20000 in
set_option maxHeartbeats 4000000 in
theorem RX1_kind {Z : kv_Z} (e : Nat) {G : kg_G} {a0 : Nat} {res : Int32} (h : fX1_kind a0 = res) : kv_M Z (e + 0) kMX1_kind [.ref a0] (kg_w G) (some (.int res)) (kg_w G) := by
  refine kv_M_of (ls := [some (.ref a0)]) (by decide) (Nat.le_of_ble_eq_true rfl) rfl ?_
  unfold fX1_kind at h
  refine kr_iconst (v := 3) dX1_kind_0 (by decide) ?_
  cases h
  exact kr_iret rfl dX1_kind_1
abbrev kMX1_restHours : kv_Me := (yX1_restHours, cX1_restHours, 1, some .int)
theorem koX1_restHours : kv_ok kMX1_restHours 0 := ⟨⟨by decide, by decide, by decide +kernel⟩, kw3_67, kw1_17, by decide⟩
def fX1_restHours (a0 : Nat) : Int32 := 1
set_option maxRecDepth 20000 in
set_option maxHeartbeats 4000000 in
theorem RX1_restHours {Z : kv_Z} (e : Nat) {G : kg_G} {a0 : Nat} {res : Int32} (h : fX1_restHours a0 = res) : kv_M Z (e + 0) kMX1_restHours [.ref a0] (kg_w G) (some (.int res)) (kg_w G) := by
  refine kv_M_of (ls := [some (.ref a0)]) (by decide) (Nat.le_of_ble_eq_true rfl) rfl ?_
  unfold fX1_restHours at h
  refine kr_iconst (v := 1) dX1_restHours_0 (by decide) ?_
  cases h
  exact kr_iret rfl dX1_restHours_1
abbrev kMX3_kind : kv_Me := (yX3_kind, cX3_kind, 1, some .int)
theorem koX3_kind : kv_ok kMX3_kind 0 := ⟨⟨by decide, by decide, by decide +kernel⟩, kw2_221, kw1_15, by decide⟩
def fX3_kind (a0 : Nat) : Int32 := 1
set_option maxRecDepth 20000 in
set_option maxHeartbeats 4000000 in
theorem RX3_kind {Z : kv_Z} (e : Nat) {G : kg_G} {a0 : Nat} {res : Int32} (h : fX3_kind a0 = res) : kv_M Z (e + 0) kMX3_kind [.ref a0] (kg_w G) (some (.int res)) (kg_w G) := by
  refine kv_M_of (ls := [some (.ref a0)]) (by decide) (Nat.le_of_ble_eq_true rfl) rfl ?_
  unfold fX3_kind at h
  refine kr_iconst (v := 1) dX3_kind_0 (by decide) ?_
  cases h
  exact kr_iret rfl dX3_kind_1
abbrev kMX3_crew : kv_Me := (yX3_crew, cX3_crew, 1, some .int)
theorem koX3_crew : kv_ok kMX3_crew 0 := ⟨⟨by decide, by decide, by decide +kernel⟩, kw2_236, kw1_15, by decide⟩
def fX3_crew (a0 : Nat) : Int32 := 2
set_option maxRecDepth 20000 in
set_option maxHeartbeats 4000000 in
theorem RX3_crew {Z : kv_Z} (e : Nat) {G : kg_G} {a0 : Nat} {res : Int32} (h : fX3_crew a0 = res) : kv_M Z (e + 0) kMX3_crew [.ref a0] (kg_w G) (some (.int res)) (kg_w G) := by
  refine kv_M_of (ls := [some (.ref a0)]) (by decide) (Nat.le_of_ble_eq_true rfl) rfl ?_
  unfold fX3_crew at h
  refine kr_iconst (v := 2) dX3_crew_0 (by decide) ?_
  cases h
  exact kr_iret rfl dX3_crew_1
abbrev kMX5_kind : kv_Me := (yX5_kind, cX5_kind, 1, some .int)
theorem koX5_kind : kv_ok kMX5_kind 0 := ⟨⟨by decide, by decide, by decide +kernel⟩, kw2_224, kw1_18, by decide⟩
def fX5_kind (a0 : Nat) : Int32 := 4
set_option maxRecDepth 20000 in
set_option maxHeartbeats 4000000 in
theorem RX5_kind {Z : kv_Z} (e : Nat) {G : kg_G} {a0 : Nat} {res : Int32} (h : fX5_kind a0 = res) : kv_M Z (e + 0) kMX5_kind [.ref a0] (kg_w G) (some (.int res)) (kg_w G) := by
  refine kv_M_of (ls := [some (.ref a0)]) (by decide) (Nat.le_of_ble_eq_true rfl) rfl ?_
  unfold fX5_kind at h
  refine kr_iconst (v := 4) dX5_kind_0 (by decide) ?_
  cases h
  exact kr_iret rfl dX5_kind_1
abbrev kMX5_suits : kv_Me := (yX5_suits, cX5_suits, 2, some .boolean)
theorem koX5_suits : kv_ok kMX5_suits 1 := ⟨⟨by decide, by decide, by decide +kernel⟩, kw3_26, kw1_18, by decide⟩
def fX5_suits (a0 : Nat) (l1 : Int32) : Int32 := 1
set_option maxRecDepth 20000 in
set_option maxHeartbeats 4000000 in
theorem RX5_suits {Z : kv_Z} (e : Nat) {G : kg_G} {a0 : Nat} {l1 : Int32} {res : Int32} (h : fX5_suits a0 l1 = res) : kv_M Z (e + 0) kMX5_suits [.ref a0, .int l1] (kg_w G) (some (.int res)) (kg_w G) := by
  refine kv_M_of (ls := [some (.ref a0), some (.int l1)]) (by decide) (Nat.le_of_ble_eq_true rfl) rfl ?_
  unfold fX5_suits at h
  refine kr_iconst (v := 1) dX5_suits_0 (by decide) ?_
  cases h
  exact kr_zret rfl (by decide) dX5_suits_1
abbrev kMX5_holdsWith : kv_Me := (yX5_holdsWith, cX5_holdsWith, 2, some .boolean)
theorem koX5_holdsWith : kv_ok kMX5_holdsWith 1 := ⟨⟨by decide, by decide, by decide +kernel⟩, kw3_39, kw1_18, by decide⟩
def fX5_holdsWith (G : kg_G) (a0 : Nat) (l1 : Int32) : Option (Int32) := (kx_nd 5 (kg_Y G) a0).bind fun v1 => if l1 < v1 then some 0 else some 1
set_option maxRecDepth 20000 in
set_option maxHeartbeats 4000000 in
theorem RX5_holdsWith {Z : kv_Z} (e : Nat) {G : kg_G} {a0 : Nat} {l1 : Int32} {res : Int32} (h : fX5_holdsWith G a0 l1 = some res) : kv_M Z (e + 0) kMX5_holdsWith [.ref a0, .int l1] (kg_w G) (some (.int res)) (kg_w G) := by
  refine kv_M_of (ls := [some (.ref a0), some (.int l1)]) (by decide) (Nat.le_of_ble_eq_true rfl) rfl ?_
  unfold fX5_holdsWith at h
  refine kr_iload_n dX5_holdsWith_0 rfl ?_
  refine kr_aload_n dX5_holdsWith_1 rfl ?_
  obtain ⟨v1, hv1, h⟩ := Option.bind_eq_some_iff.mp h
  refine kx_nd5 hv1 kw2_145 kw2_146 dX5_holdsWith_2 ?_
  refine kr_icmp_lt (tgt := 12) dX5_holdsWith_5 rfl (fun c5 => ?_) (fun c5 => ?_)
  · rw [if_pos c5] at h
    refine kr_iconst (v := 0) dX5_holdsWith_12 (by decide) ?_
    cases h
    exact kr_zret rfl (by decide) dX5_holdsWith_13
  · rw [if_neg c5] at h
    refine kr_iconst (v := 1) dX5_holdsWith_8 (by decide) ?_
    refine kr_goto (tgt := 13) dX5_holdsWith_9 rfl ?_
    cases h
    exact kr_zret rfl (by decide) dX5_holdsWith_13
abbrev kMX6_kind : kv_Me := (yX6_kind, cX6_kind, 1, some .int)
theorem koX6_kind : kv_ok kMX6_kind 0 := ⟨⟨by decide, by decide, by decide +kernel⟩, kw2_227, kw1_16, by decide⟩
def fX6_kind (a0 : Nat) : Int32 := 2
set_option maxRecDepth 20000 in
set_option maxHeartbeats 4000000 in
theorem RX6_kind {Z : kv_Z} (e : Nat) {G : kg_G} {a0 : Nat} {res : Int32} (h : fX6_kind a0 = res) : kv_M Z (e + 0) kMX6_kind [.ref a0] (kg_w G) (some (.int res)) (kg_w G) := by
  refine kv_M_of (ls := [some (.ref a0)]) (by decide) (Nat.le_of_ble_eq_true rfl) rfl ?_
  unfold fX6_kind at h
  refine kr_iconst (v := 2) dX6_kind_0 (by decide) ?_
  cases h
  exact kr_iret rfl dX6_kind_1
abbrev kMX6_suits : kv_Me := (yX6_suits, cX6_suits, 2, some .boolean)
theorem koX6_suits : kv_ok kMX6_suits 1 := ⟨⟨by decide, by decide, by decide +kernel⟩, kw3_29, kw1_16, by decide⟩
def fX6_suits (G : kg_G) (a0 : Nat) (l1 : Int32) : Option (Int32) := (kx_nd 6 (kg_Y G) a0).bind fun v1 => if v1 < l1 then some 0 else some 1
set_option maxRecDepth 20000 in
set_option maxHeartbeats 4000000 in
theorem RX6_suits {Z : kv_Z} (e : Nat) {G : kg_G} {a0 : Nat} {l1 : Int32} {res : Int32} (h : fX6_suits G a0 l1 = some res) : kv_M Z (e + 0) kMX6_suits [.ref a0, .int l1] (kg_w G) (some (.int res)) (kg_w G) := by
  refine kv_M_of (ls := [some (.ref a0), some (.int l1)]) (by decide) (Nat.le_of_ble_eq_true rfl) rfl ?_
  unfold fX6_suits at h
  refine kr_iload_n dX6_suits_0 rfl ?_
  refine kr_aload_n dX6_suits_1 rfl ?_
  obtain ⟨v1, hv1, h⟩ := Option.bind_eq_some_iff.mp h
  refine kx_nd6 hv1 kw2_143 kw2_144 dX6_suits_2 ?_
  refine kr_icmp_gt (tgt := 12) dX6_suits_5 rfl (fun c5 => ?_) (fun c5 => ?_)
  · rw [if_pos c5] at h
    refine kr_iconst (v := 0) dX6_suits_12 (by decide) ?_
    cases h
    exact kr_zret rfl (by decide) dX6_suits_13
  · rw [if_neg c5] at h
    refine kr_iconst (v := 1) dX6_suits_8 (by decide) ?_
    refine kr_goto (tgt := 13) dX6_suits_9 rfl ?_
    cases h
    exact kr_zret rfl (by decide) dX6_suits_13
set_option maxRecDepth 20000 in
set_option maxHeartbeats 4000000 in
theorem kt_kind {Z : kv_Z} (e : Nat) {M : kv_Me} {pc : Nat} {ls : List (Option Value)} {st : List Value} {h' : kv_H} {r : Option Value} {idx : Nat} {G : kg_G} {a : Nat} {q : tk_Q} (hq : kg_tr (kg_Y G) a = some q) (hl : Cond.methodLink M.1.cls idx ⟨"KeptVolunteers$Trick", "kind", "()I"⟩ ∈ kv_W) (hcat : (st.map fun v => v.category).sum ≤ 8) (hd : decode M.2.1 pc = .ok (.invokevirtual idx, 3)) (kk : kv_V Z (e + 0 + 1) M (pc + 3) ls (.int (tk_kind q) :: st) (kg_w G) r h') : kv_V Z (e + 0 + 1) M pc ls (.ref a :: st) (kg_w G) r h' := by
  obtain ⟨h1, h2⟩ := kg_tr_w hq
  obtain ⟨ci, x1, x2, x3⟩ := q
  simp only at h2
  rcases h2 with rfl | rfl | rfl | rfl | rfl
  · exact kr_callU (M' := kMX1_kind) (a := a) (As := []) (v := some (.int _)) (RX1_kind (e + 0) (show fX1_kind a = tk_kind (1, x1, x2, x3) by simp [fX1_kind, hq, kx_nd, tk_kind, tk_restHours])) koX1_kind rfl h1 rfl hl kw2_215 kw2_228 kw2_213 kw2_216 kw2_217 ⟨by decide, by decide, by decide +kernel⟩ rfl hcat hd kk
  · exact kr_callU (M' := kMX3_kind) (a := a) (As := []) (v := some (.int _)) (RX3_kind (e + 0) (show fX3_kind a = tk_kind (3, x1, x2, x3) by simp [fX3_kind, hq, kx_nd, tk_kind, tk_restHours])) koX3_kind rfl h1 rfl hl kw2_215 kw2_228 kw2_213 kw2_219 kw2_220 ⟨by decide, by decide, by decide +kernel⟩ rfl hcat hd kk
  · exact kr_callU (M' := kMX5_kind) (a := a) (As := []) (v := some (.int _)) (RX5_kind (e + 0) (show fX5_kind a = tk_kind (5, x1, x2, x3) by simp [fX5_kind, hq, kx_nd, tk_kind, tk_restHours])) koX5_kind rfl h1 rfl hl kw2_215 kw2_228 kw2_213 kw2_222 kw2_223 ⟨by decide, by decide, by decide +kernel⟩ rfl hcat hd kk
  · exact kr_callU (M' := kMX6_kind) (a := a) (As := []) (v := some (.int _)) (RX6_kind (e + 0) (show fX6_kind a = tk_kind (6, x1, x2, x3) by simp [fX6_kind, hq, kx_nd, tk_kind, tk_restHours])) koX6_kind rfl h1 rfl hl kw2_215 kw2_228 kw2_213 kw2_225 kw2_226 ⟨by decide, by decide, by decide +kernel⟩ rfl hcat hd kk
  · exact kr_callU (M' := kMX8_kind) (a := a) (As := []) (v := some (.int _)) (RX8_kind (e + 0) (show fX8_kind a = tk_kind (8, x1, x2, x3) by simp [fX8_kind, hq, kx_nd, tk_kind, tk_restHours])) koX8_kind rfl h1 rfl hl kw2_215 kw2_228 kw2_213 kw2_214 kw2_213 ⟨by decide, by decide, by decide +kernel⟩ rfl hcat hd kk
set_option maxRecDepth 20000 in
set_option maxHeartbeats 4000000 in
theorem kt_crew {Z : kv_Z} (e : Nat) {M : kv_Me} {pc : Nat} {ls : List (Option Value)} {st : List Value} {h' : kv_H} {r : Option Value} {idx : Nat} {G : kg_G} {a : Nat} {q : tk_Q} (hq : kg_tr (kg_Y G) a = some q) (hl : Cond.methodLink M.1.cls idx ⟨"KeptVolunteers$Trick", "crew", "()I"⟩ ∈ kv_W) (hcat : (st.map fun v => v.category).sum ≤ 8) (hd : decode M.2.1 pc = .ok (.invokevirtual idx, 3)) (kk : kv_V Z (e + 0 + 1) M (pc + 3) ls (.int (tk_crew q) :: st) (kg_w G) r h') : kv_V Z (e + 0 + 1) M pc ls (.ref a :: st) (kg_w G) r h' := by
  obtain ⟨h1, h2⟩ := kg_tr_w hq
  obtain ⟨ci, x1, x2, x3⟩ := q
  simp only at h2
  rcases h2 with rfl | rfl | rfl | rfl | rfl
  · exact kr_callU (M' := kMX8_crew) (a := a) (As := []) (v := some (.int _)) (RX8_crew (e + 0) (show fX8_crew a = tk_crew (1, x1, x2, x3) by simp [fX8_crew, hq, kx_nd, tk_crew, tk_restHours])) koX8_crew rfl h1 rfl hl kw2_232 kw2_239 kw2_230 kw2_233 kw2_230 ⟨by decide, by decide, by decide +kernel⟩ rfl hcat hd kk
  · exact kr_callU (M' := kMX3_crew) (a := a) (As := []) (v := some (.int _)) (RX3_crew (e + 0) (show fX3_crew a = tk_crew (3, x1, x2, x3) by simp [fX3_crew, hq, kx_nd, tk_crew, tk_restHours])) koX3_crew rfl h1 rfl hl kw2_232 kw2_239 kw2_230 kw2_234 kw2_235 ⟨by decide, by decide, by decide +kernel⟩ rfl hcat hd kk
  · exact kr_callU (M' := kMX3_crew) (a := a) (As := []) (v := some (.int _)) (RX3_crew (e + 0) (show fX3_crew a = tk_crew (5, x1, x2, x3) by simp [fX3_crew, hq, kx_nd, tk_crew, tk_restHours])) koX3_crew rfl h1 rfl hl kw2_232 kw2_239 kw2_230 kw2_237 kw2_235 ⟨by decide, by decide, by decide +kernel⟩ rfl hcat hd kk
  · exact kr_callU (M' := kMX8_crew) (a := a) (As := []) (v := some (.int _)) (RX8_crew (e + 0) (show fX8_crew a = tk_crew (6, x1, x2, x3) by simp [fX8_crew, hq, kx_nd, tk_crew, tk_restHours])) koX8_crew rfl h1 rfl hl kw2_232 kw2_239 kw2_230 kw2_238 kw2_230 ⟨by decide, by decide, by decide +kernel⟩ rfl hcat hd kk
  · exact kr_callU (M' := kMX8_crew) (a := a) (As := []) (v := some (.int _)) (RX8_crew (e + 0) (show fX8_crew a = tk_crew (8, x1, x2, x3) by simp [fX8_crew, hq, kx_nd, tk_crew, tk_restHours])) koX8_crew rfl h1 rfl hl kw2_232 kw2_239 kw2_230 kw2_231 kw2_230 ⟨by decide, by decide, by decide +kernel⟩ rfl hcat hd kk
set_option maxRecDepth 20000 in
set_option maxHeartbeats 4000000 in
theorem kt_restHours {Z : kv_Z} (e : Nat) {M : kv_Me} {pc : Nat} {ls : List (Option Value)} {st : List Value} {h' : kv_H} {r : Option Value} {idx : Nat} {G : kg_G} {a : Nat} {q : tk_Q} (hq : kg_tr (kg_Y G) a = some q) (hl : Cond.methodLink M.1.cls idx ⟨"KeptVolunteers$Trick", "restHours", "()I"⟩ ∈ kv_W) (hcat : (st.map fun v => v.category).sum ≤ 8) (hd : decode M.2.1 pc = .ok (.invokevirtual idx, 3)) (kk : kv_V Z (e + 0 + 1) M (pc + 3) ls (.int (tk_restHours q) :: st) (kg_w G) r h') : kv_V Z (e + 0 + 1) M pc ls (.ref a :: st) (kg_w G) r h' := by
  obtain ⟨h1, h2⟩ := kg_tr_w hq
  obtain ⟨ci, x1, x2, x3⟩ := q
  simp only at h2
  rcases h2 with rfl | rfl | rfl | rfl | rfl
  · exact kr_callU (M' := kMX1_restHours) (a := a) (As := []) (v := some (.int _)) (RX1_restHours (e + 0) (show fX1_restHours a = tk_restHours (1, x1, x2, x3) by simp [fX1_restHours, hq, kx_nd, tk_restHours, tk_restHours])) koX1_restHours rfl h1 rfl hl kw3_64 kw3_71 kw3_62 kw3_65 kw3_66 ⟨by decide, by decide, by decide +kernel⟩ rfl hcat hd kk
  · exact kr_callU (M' := kMX8_restHours) (a := a) (As := []) (v := some (.int _)) (RX8_restHours (e + 0) (show fX8_restHours a = tk_restHours (3, x1, x2, x3) by simp [fX8_restHours, hq, kx_nd, tk_restHours, tk_restHours])) koX8_restHours rfl h1 rfl hl kw3_64 kw3_71 kw3_62 kw3_68 kw3_62 ⟨by decide, by decide, by decide +kernel⟩ rfl hcat hd kk
  · exact kr_callU (M' := kMX8_restHours) (a := a) (As := []) (v := some (.int _)) (RX8_restHours (e + 0) (show fX8_restHours a = tk_restHours (5, x1, x2, x3) by simp [fX8_restHours, hq, kx_nd, tk_restHours, tk_restHours])) koX8_restHours rfl h1 rfl hl kw3_64 kw3_71 kw3_62 kw3_69 kw3_62 ⟨by decide, by decide, by decide +kernel⟩ rfl hcat hd kk
  · exact kr_callU (M' := kMX8_restHours) (a := a) (As := []) (v := some (.int _)) (RX8_restHours (e + 0) (show fX8_restHours a = tk_restHours (6, x1, x2, x3) by simp [fX8_restHours, hq, kx_nd, tk_restHours, tk_restHours])) koX8_restHours rfl h1 rfl hl kw3_64 kw3_71 kw3_62 kw3_70 kw3_62 ⟨by decide, by decide, by decide +kernel⟩ rfl hcat hd kk
  · exact kr_callU (M' := kMX8_restHours) (a := a) (As := []) (v := some (.int _)) (RX8_restHours (e + 0) (show fX8_restHours a = tk_restHours (8, x1, x2, x3) by simp [fX8_restHours, hq, kx_nd, tk_restHours, tk_restHours])) koX8_restHours rfl h1 rfl hl kw3_64 kw3_71 kw3_62 kw3_63 kw3_62 ⟨by decide, by decide, by decide +kernel⟩ rfl hcat hd kk
set_option maxRecDepth 20000 in
set_option maxHeartbeats 4000000 in
theorem kt_suits {Z : kv_Z} (e : Nat) {M : kv_Me} {pc : Nat} {ls : List (Option Value)} {st : List Value} {h' : kv_H} {r : Option Value} {idx : Nat} {G : kg_G} {a : Nat} {x : Int32} {q : tk_Q} (hq : kg_tr (kg_Y G) a = some q) (hl : Cond.methodLink M.1.cls idx ⟨"KeptVolunteers$Trick", "suits", "(I)Z"⟩ ∈ kv_W) (hcat : (st.map fun v => v.category).sum ≤ 8) (hd : decode M.2.1 pc = .ok (.invokevirtual idx, 3)) (kk : kv_V Z (e + 0 + 1) M (pc + 3) ls (.int (tk_suits q x) :: st) (kg_w G) r h') : kv_V Z (e + 0 + 1) M pc ls (.int x :: .ref a :: st) (kg_w G) r h' := by
  obtain ⟨h1, h2⟩ := kg_tr_w hq
  obtain ⟨ci, x1, x2, x3⟩ := q
  simp only at h2
  rcases h2 with rfl | rfl | rfl | rfl | rfl
  · exact kr_callU (M' := kMX8_suits) (a := a) (As := [.int x]) (v := some (.int _)) (RX8_suits (e + 0) (show fX8_suits G a x = some (tk_suits (1, x1, x2, x3) x) by simp [fX8_suits, hq, kx_nd, tk_suits, tk_restHours] <;> split <;> rfl)) koX8_suits rfl h1 rfl hl kw3_21 kw3_30 kw3_19 kw3_22 kw3_19 ⟨by decide, by decide, by decide +kernel⟩ rfl hcat hd kk
  · exact kr_callU (M' := kMX8_suits) (a := a) (As := [.int x]) (v := some (.int _)) (RX8_suits (e + 0) (show fX8_suits G a x = some (tk_suits (3, x1, x2, x3) x) by simp [fX8_suits, hq, kx_nd, tk_suits, tk_restHours] <;> split <;> rfl)) koX8_suits rfl h1 rfl hl kw3_21 kw3_30 kw3_19 kw3_23 kw3_19 ⟨by decide, by decide, by decide +kernel⟩ rfl hcat hd kk
  · exact kr_callU (M' := kMX5_suits) (a := a) (As := [.int x]) (v := some (.int _)) (RX5_suits (e + 0) (show fX5_suits a x = tk_suits (5, x1, x2, x3) x by simp [fX5_suits, hq, kx_nd, tk_suits, tk_restHours])) koX5_suits rfl h1 rfl hl kw3_21 kw3_30 kw3_19 kw3_24 kw3_25 ⟨by decide, by decide, by decide +kernel⟩ rfl hcat hd kk
  · exact kr_callU (M' := kMX6_suits) (a := a) (As := [.int x]) (v := some (.int _)) (RX6_suits (e + 0) (show fX6_suits G a x = some (tk_suits (6, x1, x2, x3) x) by simp [fX6_suits, hq, kx_nd, tk_suits, tk_restHours] <;> split <;> rfl)) koX6_suits rfl h1 rfl hl kw3_21 kw3_30 kw3_19 kw3_27 kw3_28 ⟨by decide, by decide, by decide +kernel⟩ rfl hcat hd kk
  · exact kr_callU (M' := kMX8_suits) (a := a) (As := [.int x]) (v := some (.int _)) (RX8_suits (e + 0) (show fX8_suits G a x = some (tk_suits (8, x1, x2, x3) x) by simp [fX8_suits, hq, kx_nd, tk_suits, tk_restHours] <;> split <;> rfl)) koX8_suits rfl h1 rfl hl kw3_21 kw3_30 kw3_19 kw3_20 kw3_19 ⟨by decide, by decide, by decide +kernel⟩ rfl hcat hd kk
set_option maxRecDepth 20000 in
set_option maxHeartbeats 4000000 in
theorem kt_holdsWith {Z : kv_Z} (e : Nat) {M : kv_Me} {pc : Nat} {ls : List (Option Value)} {st : List Value} {h' : kv_H} {r : Option Value} {idx : Nat} {G : kg_G} {a : Nat} {x : Int32} {q : tk_Q} (hq : kg_tr (kg_Y G) a = some q) (hl : Cond.methodLink M.1.cls idx ⟨"KeptVolunteers$Trick", "holdsWith", "(I)Z"⟩ ∈ kv_W) (hcat : (st.map fun v => v.category).sum ≤ 8) (hd : decode M.2.1 pc = .ok (.invokevirtual idx, 3)) (kk : kv_V Z (e + 0 + 1) M (pc + 3) ls (.int (tk_holdsWith q x) :: st) (kg_w G) r h') : kv_V Z (e + 0 + 1) M pc ls (.int x :: .ref a :: st) (kg_w G) r h' := by
  obtain ⟨h1, h2⟩ := kg_tr_w hq
  obtain ⟨ci, x1, x2, x3⟩ := q
  simp only at h2
  rcases h2 with rfl | rfl | rfl | rfl | rfl
  · exact kr_callU (M' := kMX8_holdsWith) (a := a) (As := [.int x]) (v := some (.int _)) (RX8_holdsWith (e + 0) (show fX8_holdsWith a x = tk_holdsWith (1, x1, x2, x3) x by simp [fX8_holdsWith, hq, kx_nd, tk_holdsWith, tk_restHours])) koX8_holdsWith rfl h1 rfl hl kw3_34 kw3_41 kw3_32 kw3_35 kw3_32 ⟨by decide, by decide, by decide +kernel⟩ rfl hcat hd kk
  · exact kr_callU (M' := kMX8_holdsWith) (a := a) (As := [.int x]) (v := some (.int _)) (RX8_holdsWith (e + 0) (show fX8_holdsWith a x = tk_holdsWith (3, x1, x2, x3) x by simp [fX8_holdsWith, hq, kx_nd, tk_holdsWith, tk_restHours])) koX8_holdsWith rfl h1 rfl hl kw3_34 kw3_41 kw3_32 kw3_36 kw3_32 ⟨by decide, by decide, by decide +kernel⟩ rfl hcat hd kk
  · exact kr_callU (M' := kMX5_holdsWith) (a := a) (As := [.int x]) (v := some (.int _)) (RX5_holdsWith (e + 0) (show fX5_holdsWith G a x = some (tk_holdsWith (5, x1, x2, x3) x) by simp [fX5_holdsWith, hq, kx_nd, tk_holdsWith, tk_restHours] <;> split <;> rfl)) koX5_holdsWith rfl h1 rfl hl kw3_34 kw3_41 kw3_32 kw3_37 kw3_38 ⟨by decide, by decide, by decide +kernel⟩ rfl hcat hd kk
  · exact kr_callU (M' := kMX8_holdsWith) (a := a) (As := [.int x]) (v := some (.int _)) (RX8_holdsWith (e + 0) (show fX8_holdsWith a x = tk_holdsWith (6, x1, x2, x3) x by simp [fX8_holdsWith, hq, kx_nd, tk_holdsWith, tk_restHours])) koX8_holdsWith rfl h1 rfl hl kw3_34 kw3_41 kw3_32 kw3_40 kw3_32 ⟨by decide, by decide, by decide +kernel⟩ rfl hcat hd kk
  · exact kr_callU (M' := kMX8_holdsWith) (a := a) (As := [.int x]) (v := some (.int _)) (RX8_holdsWith (e + 0) (show fX8_holdsWith a x = tk_holdsWith (8, x1, x2, x3) x by simp [fX8_holdsWith, hq, kx_nd, tk_holdsWith, tk_restHours])) koX8_holdsWith rfl h1 rfl hl kw3_34 kw3_41 kw3_32 kw3_33 kw3_32 ⟨by decide, by decide, by decide +kernel⟩ rfl hcat hd kk
set_option maxRecDepth 20000 in
set_option maxHeartbeats 4000000 in
theorem kt_runningHours {Z : kv_Z} (e : Nat) {M : kv_Me} {pc : Nat} {ls : List (Option Value)} {st : List Value} {h' : kv_H} {r : Option Value} {idx : Nat} {G : kg_G} {a : Nat} {q : tk_Q} (hq : kg_tr (kg_Y G) a = some q) (hl : Cond.methodLink M.1.cls idx ⟨"KeptVolunteers$Trick", "runningHours", "()I"⟩ ∈ kv_W) (hcat : (st.map fun v => v.category).sum ≤ 8) (hd : decode M.2.1 pc = .ok (.invokevirtual idx, 3)) (kk : kv_V Z (e + 0 + 1) M (pc + 3) ls (.int (tk_runningHours q) :: st) (kg_w G) r h') : kv_V Z (e + 0 + 1) M pc ls (.ref a :: st) (kg_w G) r h' := by
  obtain ⟨h1, h2⟩ := kg_tr_w hq
  obtain ⟨ci, x1, x2, x3⟩ := q
  simp only at h2
  rcases h2 with rfl | rfl | rfl | rfl | rfl
  · exact kr_callU (M' := kMX8_runningHours) (a := a) (As := []) (v := some (.int _)) (RX8_runningHours (e + 0) (show fX8_runningHours G a = some (tk_runningHours (1, x1, x2, x3)) by simp [fX8_runningHours, hq, kx_nd, tk_runningHours, tk_restHours])) koX8_runningHours rfl h1 rfl hl kw4_4 kw4_9 kw4_2 kw4_5 kw4_2 ⟨by decide, by decide, by decide +kernel⟩ rfl hcat hd kk
  · exact kr_callU (M' := kMX8_runningHours) (a := a) (As := []) (v := some (.int _)) (RX8_runningHours (e + 0) (show fX8_runningHours G a = some (tk_runningHours (3, x1, x2, x3)) by simp [fX8_runningHours, hq, kx_nd, tk_runningHours, tk_restHours])) koX8_runningHours rfl h1 rfl hl kw4_4 kw4_9 kw4_2 kw4_6 kw4_2 ⟨by decide, by decide, by decide +kernel⟩ rfl hcat hd kk
  · exact kr_callU (M' := kMX8_runningHours) (a := a) (As := []) (v := some (.int _)) (RX8_runningHours (e + 0) (show fX8_runningHours G a = some (tk_runningHours (5, x1, x2, x3)) by simp [fX8_runningHours, hq, kx_nd, tk_runningHours, tk_restHours])) koX8_runningHours rfl h1 rfl hl kw4_4 kw4_9 kw4_2 kw4_7 kw4_2 ⟨by decide, by decide, by decide +kernel⟩ rfl hcat hd kk
  · exact kr_callU (M' := kMX8_runningHours) (a := a) (As := []) (v := some (.int _)) (RX8_runningHours (e + 0) (show fX8_runningHours G a = some (tk_runningHours (6, x1, x2, x3)) by simp [fX8_runningHours, hq, kx_nd, tk_runningHours, tk_restHours])) koX8_runningHours rfl h1 rfl hl kw4_4 kw4_9 kw4_2 kw4_8 kw4_2 ⟨by decide, by decide, by decide +kernel⟩ rfl hcat hd kk
  · exact kr_callU (M' := kMX8_runningHours) (a := a) (As := []) (v := some (.int _)) (RX8_runningHours (e + 0) (show fX8_runningHours G a = some (tk_runningHours (8, x1, x2, x3)) by simp [fX8_runningHours, hq, kx_nd, tk_runningHours, tk_restHours])) koX8_runningHours rfl h1 rfl hl kw4_4 kw4_9 kw4_2 kw4_3 kw4_2 ⟨by decide, by decide, by decide +kernel⟩ rfl hcat hd kk
abbrev kMX8_busyHours : kv_Me := (yX8_busyHours, cX8_busyHours, 1, some .int)
theorem koX8_busyHours : kv_ok kMX8_busyHours 0 := ⟨⟨by decide, by decide, by decide +kernel⟩, kw3_60, kw1_14, by decide⟩
def fX8_busyHours (G : kg_G) (a0 : Nat) : Option (Int32) := (kg_tr (kg_Y G) a0).bind fun v1 => (kg_tr (kg_Y G) a0).bind fun v2 => (kg_tr (kg_Y G) a0).bind fun v3 => some (((1 <<< ((v1.2.2.1 + (tk_restHours v2)) &&& 31)) - 1) <<< (v3.2.1 &&& 31))
set_option maxRecDepth 20000 in
set_option maxHeartbeats 4000000 in
theorem RX8_busyHours {Z : kv_Z} (e : Nat) {G : kg_G} {a0 : Nat} {res : Int32} (h : fX8_busyHours G a0 = some res) : kv_M Z (e + 1) kMX8_busyHours [.ref a0] (kg_w G) (some (.int res)) (kg_w G) := by
  refine kv_M_of (ls := [some (.ref a0)]) (by decide) (Nat.le_of_ble_eq_true rfl) rfl ?_
  unfold fX8_busyHours at h
  refine kr_iconst (v := 1) dX8_busyHours_0 (by decide) ?_
  refine kr_aload_n dX8_busyHours_1 rfl ?_
  obtain ⟨v1, hv1, h⟩ := Option.bind_eq_some_iff.mp h
  refine kx_t1 hv1 kw2_140 dX8_busyHours_2 ?_
  refine kr_aload_n dX8_busyHours_5 rfl ?_
  obtain ⟨v2, hv2, h⟩ := Option.bind_eq_some_iff.mp h
  refine kt_restHours (st := [.int v1.2.2.1, .int 1]) (e + 0) hv2 kw3_61 (Nat.le_of_ble_eq_true rfl) dX8_busyHours_6 ?_
  refine kr_iadd dX8_busyHours_9 ?_
  refine kr_ishl dX8_busyHours_10 ?_
  refine kr_iconst (v := 1) dX8_busyHours_11 (by decide) ?_
  refine kr_isub dX8_busyHours_12 ?_
  refine kr_aload_n dX8_busyHours_13 rfl ?_
  obtain ⟨v3, hv3, h⟩ := Option.bind_eq_some_iff.mp h
  refine kx_t0 hv3 kw2_138 dX8_busyHours_14 ?_
  refine kr_ishl dX8_busyHours_17 ?_
  cases h
  exact kr_iret rfl dX8_busyHours_18
abbrev kMX8_suitedStrongs : kv_Me := (yX8_suitedStrongs, cX8_suitedStrongs, 3, some .int)
theorem koX8_suitedStrongs : kv_ok kMX8_suitedStrongs 0 := ⟨⟨by decide, by decide, by decide +kernel⟩, kw3_116, kw1_14, by decide⟩
def fX8_suitedStrongs_4 (N : Nat) (G : kg_G) : Nat → Nat → Int32 → Int32 → Option (Int32)
  | 0, _, _, _ => none
  | n + 1, a0, l1, l2 => if 9 < l2 then some l1 else (kg_tr (kg_Y G) a0).bind fun v1 => if (tk_suits v1 l2) = 0 then (fX8_suitedStrongs_4 N G n) a0 l1 (l2 + 1) else (fX8_suitedStrongs_4 N G n) a0 (l1 ||| (1 <<< (l2 &&& 31))) (l2 + 1)
def fX8_suitedStrongs (N : Nat) (G : kg_G) (a0 : Nat) : Option (Int32) := fX8_suitedStrongs_4 N G N a0 0 0
set_option maxRecDepth 20000 in
set_option maxHeartbeats 4000000 in
theorem RX8_suitedStrongs_4 {Z : kv_Z} (e : Nat) {N : Nat} {G : kg_G} : ∀ (n : Nat) (a0 : Nat) (l1 : Int32) (l2 : Int32) (res : Int32), fX8_suitedStrongs_4 N G n a0 l1 l2 = some res → kv_V Z (e + 1) kMX8_suitedStrongs 4 [some (.ref a0), some (.int l1), some (.int l2)] [] (kg_w G) (some (.int res)) (kg_w G) := by
  intro n
  induction n with
  | zero => intro a0 l1 l2 res h; exact absurd h (by intro z; cases z)
  | succ n ih =>
    intro a0 l1 l2 res h
    have hk4 := ih
    rw [fX8_suitedStrongs_4] at h
    refine kr_iload_n dX8_suitedStrongs_4 rfl ?_
    refine kr_bipush (v := 9) dX8_suitedStrongs_5 (by decide) ?_
    refine kr_icmp_gt (tgt := 30) dX8_suitedStrongs_7 rfl (fun c7 => ?_) (fun c7 => ?_)
    · rw [if_pos c7] at h
      refine kr_iload_n dX8_suitedStrongs_30 rfl ?_
      cases h
      exact kr_iret rfl dX8_suitedStrongs_31
    · rw [if_neg c7] at h
      refine kr_aload_n dX8_suitedStrongs_10 rfl ?_
      refine kr_iload_n dX8_suitedStrongs_11 rfl ?_
      obtain ⟨v1, hv1, h⟩ := Option.bind_eq_some_iff.mp h
      refine kt_suits (st := []) (e + 0) hv1 kw3_117 (Nat.le_of_ble_eq_true rfl) dX8_suitedStrongs_12 ?_
      refine kr_if_eq (tgt := 24) dX8_suitedStrongs_15 rfl (fun c15 => ?_) (fun c15 => ?_)
      · rw [if_pos c15] at h
        refine kr_iinc (v := l2 + 1) (ls' := [some (.ref a0), some (.int l1), some (.int (l2 + 1))]) dX8_suitedStrongs_24 rfl rfl (Nat.le_of_ble_eq_true rfl) rfl ?_
        refine kr_goto (tgt := 4) dX8_suitedStrongs_27 rfl ?_
        exact hk4 _ _ _ _ h
      · rw [if_neg c15] at h
        refine kr_iload_n dX8_suitedStrongs_18 rfl ?_
        refine kr_iconst (v := 1) dX8_suitedStrongs_19 (by decide) ?_
        refine kr_iload_n dX8_suitedStrongs_20 rfl ?_
        refine kr_ishl dX8_suitedStrongs_21 ?_
        refine kr_ior dX8_suitedStrongs_22 ?_
        refine kr_istore_n (i := 1) (ls' := [some (.ref a0), some (.int (l1 ||| (1 <<< (l2 &&& 31)))), some (.int l2)]) dX8_suitedStrongs_23 rfl (Nat.le_of_ble_eq_true rfl) rfl ?_
        refine kr_iinc (v := l2 + 1) (ls' := [some (.ref a0), some (.int (l1 ||| (1 <<< (l2 &&& 31)))), some (.int (l2 + 1))]) dX8_suitedStrongs_24 rfl rfl (Nat.le_of_ble_eq_true rfl) rfl ?_
        refine kr_goto (tgt := 4) dX8_suitedStrongs_27 rfl ?_
        exact hk4 _ _ _ _ h
set_option maxRecDepth 20000 in
set_option maxHeartbeats 4000000 in
theorem RX8_suitedStrongs {Z : kv_Z} (e : Nat) {N : Nat} {G : kg_G} {a0 : Nat} {res : Int32} (h : fX8_suitedStrongs N G a0 = some res) : kv_M Z (e + 1) kMX8_suitedStrongs [.ref a0] (kg_w G) (some (.int res)) (kg_w G) := by
  refine kv_M_of (ls := [some (.ref a0), none, none]) (by decide) (Nat.le_of_ble_eq_true rfl) rfl ?_
  unfold fX8_suitedStrongs at h
  refine kr_iconst (v := 0) dX8_suitedStrongs_0 (by decide) ?_
  refine kr_istore_n (i := 1) (ls' := [some (.ref a0), some (.int 0), none]) dX8_suitedStrongs_1 rfl (Nat.le_of_ble_eq_true rfl) rfl ?_
  refine kr_iconst (v := 0) dX8_suitedStrongs_2 (by decide) ?_
  refine kr_istore_n (i := 2) (ls' := [some (.ref a0), some (.int 0), some (.int 0)]) dX8_suitedStrongs_3 rfl (Nat.le_of_ble_eq_true rfl) rfl ?_
  exact RX8_suitedStrongs_4 e N _ _ _ _ h
theorem tk_ssl {G : kg_G} {a N : Nat} {q : tk_Q} (hq : kg_tr (kg_Y G) a = some q) : ∀ (n : Nat) (x : Int32) (k : Nat), k + n = 10 → fX8_suitedStrongs_4 N G (n + 1) a x (nI k) = some (tk_ss q n x (nI k)) := by
  intro n
  induction n with
  | zero =>
    intro x k hk
    have hk : k = 10 := by omega
    subst hk
    rw [fX8_suitedStrongs_4, if_pos (by decide)]
    rfl
  | succ n ih =>
    intro x k hk
    rw [fX8_suitedStrongs_4, if_neg (by rw [show (9 : Int32) = nI 9 from rfl]; exact nI_nlt (by omega) (by omega)), hq, Option.bind_some, tk_ss]
    have e1 : nI k + 1 = nI (k + 1) := nI_1 k
    rw [e1]
    by_cases hs : tk_suits q (nI k) = 0
    · rw [if_pos hs, if_pos hs]; exact ih x (k + 1) (by omega)
    · rw [if_neg hs, if_neg hs]; exact ih _ (k + 1) (by omega)
theorem tk_ssf {G : kg_G} {a : Nat} {q : tk_Q} (hq : kg_tr (kg_Y G) a = some q) : fX8_suitedStrongs 11 G a = some (tk_suitedStrongs q) := by
  unfold fX8_suitedStrongs tk_suitedStrongs
  exact tk_ssl (N := 11) hq 10 0 0 (by omega)
set_option maxRecDepth 20000 in
set_option maxHeartbeats 4000000 in
theorem kt_busyHours {Z : kv_Z} (e : Nat) {M : kv_Me} {pc : Nat} {ls : List (Option Value)} {st : List Value} {h' : kv_H} {r : Option Value} {idx : Nat} {G : kg_G} {a : Nat} {q : tk_Q} (hq : kg_tr (kg_Y G) a = some q) (hl : Cond.methodLink M.1.cls idx ⟨"KeptVolunteers$Trick", "busyHours", "()I"⟩ ∈ kv_W) (hcat : (st.map fun v => v.category).sum ≤ 8) (hd : decode M.2.1 pc = .ok (.invokevirtual idx, 3)) (kk : kv_V Z (e + 1 + 1) M (pc + 3) ls (.int (tk_busyHours q) :: st) (kg_w G) r h') : kv_V Z (e + 1 + 1) M pc ls (.ref a :: st) (kg_w G) r h' := by
  obtain ⟨h1, h2⟩ := kg_tr_w hq
  obtain ⟨ci, x1, x2, x3⟩ := q
  simp only at h2
  rcases h2 with rfl | rfl | rfl | rfl | rfl
  · exact kr_callU (M' := kMX8_busyHours) (a := a) (As := []) (v := some (.int _)) (RX8_busyHours (e + 0) (show fX8_busyHours G a = some (tk_busyHours (1, x1, x2, x3)) by simp [fX8_busyHours, hq, kx_nd, tk_busyHours, tk_restHours])) koX8_busyHours rfl h1 rfl hl kw3_55 kw3_60 kw3_53 kw3_56 kw3_53 ⟨by decide, by decide, by decide +kernel⟩ rfl hcat hd kk
  · exact kr_callU (M' := kMX8_busyHours) (a := a) (As := []) (v := some (.int _)) (RX8_busyHours (e + 0) (show fX8_busyHours G a = some (tk_busyHours (3, x1, x2, x3)) by simp [fX8_busyHours, hq, kx_nd, tk_busyHours, tk_restHours])) koX8_busyHours rfl h1 rfl hl kw3_55 kw3_60 kw3_53 kw3_57 kw3_53 ⟨by decide, by decide, by decide +kernel⟩ rfl hcat hd kk
  · exact kr_callU (M' := kMX8_busyHours) (a := a) (As := []) (v := some (.int _)) (RX8_busyHours (e + 0) (show fX8_busyHours G a = some (tk_busyHours (5, x1, x2, x3)) by simp [fX8_busyHours, hq, kx_nd, tk_busyHours, tk_restHours])) koX8_busyHours rfl h1 rfl hl kw3_55 kw3_60 kw3_53 kw3_58 kw3_53 ⟨by decide, by decide, by decide +kernel⟩ rfl hcat hd kk
  · exact kr_callU (M' := kMX8_busyHours) (a := a) (As := []) (v := some (.int _)) (RX8_busyHours (e + 0) (show fX8_busyHours G a = some (tk_busyHours (6, x1, x2, x3)) by simp [fX8_busyHours, hq, kx_nd, tk_busyHours, tk_restHours])) koX8_busyHours rfl h1 rfl hl kw3_55 kw3_60 kw3_53 kw3_59 kw3_53 ⟨by decide, by decide, by decide +kernel⟩ rfl hcat hd kk
  · exact kr_callU (M' := kMX8_busyHours) (a := a) (As := []) (v := some (.int _)) (RX8_busyHours (e + 0) (show fX8_busyHours G a = some (tk_busyHours (8, x1, x2, x3)) by simp [fX8_busyHours, hq, kx_nd, tk_busyHours, tk_restHours])) koX8_busyHours rfl h1 rfl hl kw3_55 kw3_60 kw3_53 kw3_54 kw3_53 ⟨by decide, by decide, by decide +kernel⟩ rfl hcat hd kk
set_option maxRecDepth 20000 in
set_option maxHeartbeats 4000000 in
theorem kt_suitedStrongs {Z : kv_Z} (e : Nat) {M : kv_Me} {pc : Nat} {ls : List (Option Value)} {st : List Value} {h' : kv_H} {r : Option Value} {idx : Nat} {G : kg_G} {a : Nat} {q : tk_Q} (hq : kg_tr (kg_Y G) a = some q) (hl : Cond.methodLink M.1.cls idx ⟨"KeptVolunteers$Trick", "suitedStrongs", "()I"⟩ ∈ kv_W) (hcat : (st.map fun v => v.category).sum ≤ 8) (hd : decode M.2.1 pc = .ok (.invokevirtual idx, 3)) (kk : kv_V Z (e + 1 + 1) M (pc + 3) ls (.int (tk_suitedStrongs q) :: st) (kg_w G) r h') : kv_V Z (e + 1 + 1) M pc ls (.ref a :: st) (kg_w G) r h' := by
  obtain ⟨h1, h2⟩ := kg_tr_w hq
  obtain ⟨ci, x1, x2, x3⟩ := q
  simp only at h2
  rcases h2 with rfl | rfl | rfl | rfl | rfl
  · exact kr_callU (M' := kMX8_suitedStrongs) (a := a) (As := []) (v := some (.int _)) (RX8_suitedStrongs (e + 0) (N := 11) (tk_ssf hq)) koX8_suitedStrongs rfl h1 rfl hl kw3_111 kw3_116 kw3_109 kw3_112 kw3_109 ⟨by decide, by decide, by decide +kernel⟩ rfl hcat hd kk
  · exact kr_callU (M' := kMX8_suitedStrongs) (a := a) (As := []) (v := some (.int _)) (RX8_suitedStrongs (e + 0) (N := 11) (tk_ssf hq)) koX8_suitedStrongs rfl h1 rfl hl kw3_111 kw3_116 kw3_109 kw3_113 kw3_109 ⟨by decide, by decide, by decide +kernel⟩ rfl hcat hd kk
  · exact kr_callU (M' := kMX8_suitedStrongs) (a := a) (As := []) (v := some (.int _)) (RX8_suitedStrongs (e + 0) (N := 11) (tk_ssf hq)) koX8_suitedStrongs rfl h1 rfl hl kw3_111 kw3_116 kw3_109 kw3_114 kw3_109 ⟨by decide, by decide, by decide +kernel⟩ rfl hcat hd kk
  · exact kr_callU (M' := kMX8_suitedStrongs) (a := a) (As := []) (v := some (.int _)) (RX8_suitedStrongs (e + 0) (N := 11) (tk_ssf hq)) koX8_suitedStrongs rfl h1 rfl hl kw3_111 kw3_116 kw3_109 kw3_115 kw3_109 ⟨by decide, by decide, by decide +kernel⟩ rfl hcat hd kk
  · exact kr_callU (M' := kMX8_suitedStrongs) (a := a) (As := []) (v := some (.int _)) (RX8_suitedStrongs (e + 0) (N := 11) (tk_ssf hq)) koX8_suitedStrongs rfl h1 rfl hl kw3_111 kw3_116 kw3_109 kw3_110 kw3_109 ⟨by decide, by decide, by decide +kernel⟩ rfl hcat hd kk
def tk_inst3 (q : tk_Q) : Int32 := if q.1 = 3 then 1 else if q.1 = 5 then 1 else 0
theorem kt_inst3 {Z : kv_Z} {d : Nat} {M : kv_Me} {pc : Nat} {ls : List (Option Value)} {st : List Value} {h' : kv_H} {r : Option Value} {idx : Nat} {G : kg_G} {a : Nat} {q : tk_Q} (hq : kg_tr (kg_Y G) a = some q) (hl : Cond.classLink M.1.cls idx "KeptVolunteers$Pair" ∈ kv_W) (hd : decode M.2.1 pc = .ok (.instanceof idx, 3)) (kk : kv_V Z d M (pc + 3) ls (.int (tk_inst3 q) :: st) (kg_w G) r h') : kv_V Z d M pc ls (.ref a :: st) (kg_w G) r h' := by
  obtain ⟨h1, h2⟩ := kg_tr_w hq
  obtain ⟨ci, x1, x2, x3⟩ := q
  simp only at h2
  rcases h2 with rfl | rfl | rfl | rfl | rfl
  · exact kr_instNo h1 rfl hl (by decide) hd kk
  · exact kr_instYes h1 rfl hl (Or.inl rfl) hd kk
  · exact kr_instYes h1 rfl hl (Or.inr (by decide)) hd kk
  · exact kr_instNo h1 rfl hl (by decide) hd kk
  · exact kr_instNo h1 rfl hl (by decide) hd kk
def tk_inst6 (q : tk_Q) : Int32 := if q.1 = 6 then 1 else 0
theorem kt_inst6 {Z : kv_Z} {d : Nat} {M : kv_Me} {pc : Nat} {ls : List (Option Value)} {st : List Value} {h' : kv_H} {r : Option Value} {idx : Nat} {G : kg_G} {a : Nat} {q : tk_Q} (hq : kg_tr (kg_Y G) a = some q) (hl : Cond.classLink M.1.cls idx "KeptVolunteers$Saw" ∈ kv_W) (hd : decode M.2.1 pc = .ok (.instanceof idx, 3)) (kk : kv_V Z d M (pc + 3) ls (.int (tk_inst6 q) :: st) (kg_w G) r h') : kv_V Z d M pc ls (.ref a :: st) (kg_w G) r h' := by
  obtain ⟨h1, h2⟩ := kg_tr_w hq
  obtain ⟨ci, x1, x2, x3⟩ := q
  simp only at h2
  rcases h2 with rfl | rfl | rfl | rfl | rfl
  · exact kr_instNo h1 rfl hl (by decide) hd kk
  · exact kr_instNo h1 rfl hl (by decide) hd kk
  · exact kr_instNo h1 rfl hl (by decide) hd kk
  · exact kr_instYes h1 rfl hl (Or.inl rfl) hd kk
  · exact kr_instNo h1 rfl hl (by decide) hd kk
def tk_inst1 (q : tk_Q) : Int32 := if q.1 = 1 then 1 else 0
theorem kt_inst1 {Z : kv_Z} {d : Nat} {M : kv_Me} {pc : Nat} {ls : List (Option Value)} {st : List Value} {h' : kv_H} {r : Option Value} {idx : Nat} {G : kg_G} {a : Nat} {q : tk_Q} (hq : kg_tr (kg_Y G) a = some q) (hl : Cond.classLink M.1.cls idx "KeptVolunteers$LongTrick" ∈ kv_W) (hd : decode M.2.1 pc = .ok (.instanceof idx, 3)) (kk : kv_V Z d M (pc + 3) ls (.int (tk_inst1 q) :: st) (kg_w G) r h') : kv_V Z d M pc ls (.ref a :: st) (kg_w G) r h' := by
  obtain ⟨h1, h2⟩ := kg_tr_w hq
  obtain ⟨ci, x1, x2, x3⟩ := q
  simp only at h2
  rcases h2 with rfl | rfl | rfl | rfl | rfl
  · exact kr_instYes h1 rfl hl (Or.inl rfl) hd kk
  · exact kr_instNo h1 rfl hl (by decide) hd kk
  · exact kr_instNo h1 rfl hl (by decide) hd kk
  · exact kr_instNo h1 rfl hl (by decide) hd kk
  · exact kr_instNo h1 rfl hl (by decide) hd kk
def tk_inst5 (q : tk_Q) : Int32 := if q.1 = 5 then 1 else 0
theorem kt_inst5 {Z : kv_Z} {d : Nat} {M : kv_Me} {pc : Nat} {ls : List (Option Value)} {st : List Value} {h' : kv_H} {r : Option Value} {idx : Nat} {G : kg_G} {a : Nat} {q : tk_Q} (hq : kg_tr (kg_Y G) a = some q) (hl : Cond.classLink M.1.cls idx "KeptVolunteers$Rope" ∈ kv_W) (hd : decode M.2.1 pc = .ok (.instanceof idx, 3)) (kk : kv_V Z d M (pc + 3) ls (.int (tk_inst5 q) :: st) (kg_w G) r h') : kv_V Z d M pc ls (.ref a :: st) (kg_w G) r h' := by
  obtain ⟨h1, h2⟩ := kg_tr_w hq
  obtain ⟨ci, x1, x2, x3⟩ := q
  simp only at h2
  rcases h2 with rfl | rfl | rfl | rfl | rfl
  · exact kr_instNo h1 rfl hl (by decide) hd kk
  · exact kr_instNo h1 rfl hl (by decide) hd kk
  · exact kr_instYes h1 rfl hl (Or.inl rfl) hd kk
  · exact kr_instNo h1 rfl hl (by decide) hd kk
  · exact kr_instNo h1 rfl hl (by decide) hd kk
