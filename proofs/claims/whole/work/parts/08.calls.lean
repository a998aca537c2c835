/-! CALLS, NEW CELLS, CONSTANTS -/
/-- what a callee must be -/
def kv_ok (M : kv_Me) (n : Nat) : Prop := (M.1.cls ≠ "java/lang/invoke/MethodHandle" ∧ M.1.cls ≠ "java/lang/invoke/VarHandle" ∧ (parseMethodDescriptor M.1.desc).map (fun d => d.parameters.length) = some n) ∧ kv_code M ∈ kv_W ∧ Cond.initialized M.1.cls ∈ kv_W ∧ M.2.2.1 ≤ 45
theorem kv_gin {M M' : kv_Me} (h : kv_code M' ∈ kv_W) : GoodIn (kv_ws M) (kv_ws M') := by
  intro w hw
  have hw' : w ∈ kv_W := by
    rcases List.mem_cons.mp hw with e | e
    · rw [e]; exact h
    · exact e
  exact ⟨kv_up hw', good_of_word (kv_W_good hw').2⟩
theorem kv_blind (Z : kv_Z) (av : List Value) (h : kv_H) : FrameBlind (kv_P Z av h) := by
  intro a U g mk q
  obtain ⟨q0, q1, q2, q3⟩ := q
  exact ⟨q0, q1, q2, q3.same rfl rfl⟩
theorem kv_run {Z : kv_Z} {p : Program} {e : Env} {R : Room} {s : State} {m : MethodId} {args : Array Value} {below : List Frame} {meth : Method} {c : Code} {H : Heap} {locs : List Loc} {cells slots : Nat} {Q : State → Prop} {pc : Nat} {L : Array Slot} {st0 rest : List Value} {v : Option Value} {h2 : kv_H} {a : Array Value} {mc ms : Nat}
    (hr : va_Run p Z.1 e R s m args below meth c H locs cells slots mc ms (F0 m pc L st0) rest (kv_Q Z v h2 a) (kv_A Z)) (hS : va_S (kv_A Z) s.heap H locs)
    (kk : ∀ (H1 : Heap) (locs1 : List Loc), va_P (kv_D Z) vwCl (kv_w Z h2) H1 → va_S (kv_A Z) s.heap H1 locs1 → W p Z.1 e R s m args below meth c H1 locs1 (cells + mc) (slots + ms) Q (F0 m (pc + 3) L ((v.map (kv_r Z)).toList ++ rest))) : W p Z.1 e R s m args below meth c H locs cells slots Q (F0 m pc L st0) := by
  intro T hT X
  obtain ⟨v', st₀, t, T', Lc, h0, X', hL, e1, e2, ⟨hv, hP, hz, hk⟩, st⟩ := hr T hT X
  cases hv
  rw [h0] at hz hk
  obtain ⟨t2, a1, b1⟩ := kk T'.heap (locs ++ Lc) (by rw [e1]; exact hP) ⟨Nat.le_trans hS.1 (by rw [e1]; exact hz), fun q h1 h2 => by rw [e1, hk q (Nat.lt_of_lt_of_le h1 hS.1) h2]; exact hS.2.1 q h1 h2, fun q hq => by
    rcases List.mem_append.mp hq with h | h
    · exact hS.2.2 q h
    · exact hL q h⟩ T' rfl X'
  exact ⟨t2, st t2 a1, b1⟩
theorem kv_room {d n0 k0 x : Nat} {h h2 h' : kv_H} {rm R : Room} (hrm : rm = kv_R d (h2.length - h.length) (kv_sl h2 - kv_sl h)) (hR : R = kv_R (d + 1) (h'.length - n0) (kv_sl h' - k0)) (hx : x ≤ 45) (g1 : n0 ≤ h.length) (g2 : k0 ≤ kv_sl h) (l1 : kv_le h h2) (l2 : kv_le h2 h') :
    (rm.frames + 1 ≤ R.frames ∧ 8 + (x + 11) + rm.locals ≤ R.locals) ∧ ((h.length - n0) + (h2.length - h.length) ≤ R.cells ∧ (kv_sl h - k0) + (kv_sl h2 - kv_sl h) ≤ R.slots) ∧ (h.length - n0) + (h2.length - h.length) = h2.length - n0 ∧ (kv_sl h - k0) + (kv_sl h2 - kv_sl h) = kv_sl h2 - k0 := by
  obtain ⟨a1, a2⟩ := l1
  obtain ⟨b1, b2⟩ := l2
  subst hrm
  subst hR
  refine ⟨⟨Nat.le_refl _, ?_⟩, ⟨?_, ?_⟩, ?_, ?_⟩ <;> (try simp only [kv_R]) <;> omega
theorem kv_cats (Z : kv_Z) (st : List Value) : ((st.map (kv_r Z)).map fun v => v.category) = st.map fun v => v.category := by
  rw [List.map_map]
  exact List.map_congr_left (fun v _ => kv_r_cat Z v)
section KC
variable {Z : kv_Z} {d : Nat} {M M' : kv_Me} {pc : Nat} {ls : List (Option Value)} {st stk As : List Value} {h h' h2 : kv_H} {r v : Option Value} {index n : Nat}
/-- a way into a callee, whatever the instruction: from the kit's run to the judgement -/
theorem kv_call (l1 : kv_le h h2) (ho : M'.2.2.1 ≤ 45)
    (hrun : ∀ (n0 k0 : Nat) (p : Program) (e : Env) (s : State) (m : MethodId) (args : Array Value) (below : List Frame) (meth : Method) (c : Code) (H : Heap) (locs : List Loc) (L : Array Slot), kv_fix Z M n0 p s m args meth c → va_P (kv_D Z) vwCl (kv_w Z h) H → va_S (kv_A Z) s.heap H locs → kv_L Z L M.2.2.1 ls → H.size = kv_b Z + h.length →
      ((kv_R d (h2.length - h.length) (kv_sl h2 - kv_sl h)).frames + 1 ≤ (kv_R (d + 1) (h'.length - n0) (kv_sl h' - k0)).frames ∧ 8 + (M'.2.2.1 + 11) + (kv_R d (h2.length - h.length) (kv_sl h2 - kv_sl h)).locals ≤ (kv_R (d + 1) (h'.length - n0) (kv_sl h' - k0)).locals) →
      ((h.length - n0) + (h2.length - h.length) ≤ (kv_R (d + 1) (h'.length - n0) (kv_sl h' - k0)).cells ∧ (kv_sl h - k0) + (kv_sl h2 - kv_sl h) ≤ (kv_R (d + 1) (h'.length - n0) (kv_sl h' - k0)).slots) →
      ∃ a, va_Run p Z.1 e (kv_R (d + 1) (h'.length - n0) (kv_sl h' - k0)) s m args below meth c H locs (h.length - n0) (kv_sl h - k0) (h2.length - h.length) (kv_sl h2 - kv_sl h) (F0 m pc L (stk.map (kv_r Z))) (st.map (kv_r Z)) (kv_Q Z v h2 a) (kv_A Z))
    (k : kv_V Z (d + 1) M (pc + 3) ls (v.toList ++ st) h2 r h') : kv_V Z (d + 1) M pc ls stk h r h' := by
  refine ⟨l1.tr k.1, fun n0 k0 p e s m args below meth c H locs L g1 g2 g3 g4 g5 g6 => ?_⟩
  obtain ⟨r1, r2, r3, r4⟩ := kv_room (n0 := n0) (k0 := k0) (d := d) rfl rfl ho g1 g2 l1 k.1
  refine kv_size g1 g3.2.2.2.2.2.2.2.2.1 g4 g5 (fun hsz => ?_)
  obtain ⟨a, hr⟩ := hrun n0 k0 p e s m args below meth c H locs L g3 g4 g5 g6 hsz r1 r2
  refine kv_run hr g5 (fun H1 locs1 q1 q2 => ?_)
  have := k.2 n0 k0 p e s m args below meth c H1 locs1 L (Nat.le_trans g1 l1.1) (Nat.le_trans g2 l1.2) g3 q1 q2 g6
  rw [← r3, ← r4] at this
  have e2 : (v.toList ++ st).map (kv_r Z) = (v.map (kv_r Z)).toList ++ st.map (kv_r Z) := by cases v <;> simp
  rw [e2] at this
  exact this
theorem kv_stk {a : Nat} (hs : stk = As.reverse ++ .ref a :: st) : stk.map (kv_r Z) = (As.map (kv_r Z)).reverse ++ .ref (kv_b Z + a) :: st.map (kv_r Z) := by
  rw [hs]; simp [List.map_reverse, kv_r]
theorem kv_stkS (hs : stk = As.reverse ++ st) : stk.map (kv_r Z) = (As.map (kv_r Z)).reverse ++ st.map (kv_r Z) := by
  rw [hs]; simp [List.map_reverse]
theorem kv_pre {n0 : Nat} {p : Program} {s : State} {m : MethodId} {args : Array Value} {meth : Method} {c : Code} {H : Heap} {locs : List Loc} (av : List Value) (g3 : kv_fix Z M n0 p s m args meth c) (g4 : va_P (kv_D Z) vwCl (kv_w Z h) H) (g5 : va_S (kv_A Z) s.heap H locs) (hsz : H.size = kv_b Z + h.length) : PreS s H (kv_P Z av h) (av.map (kv_r Z)) :=
  ⟨kv_blind Z av h, fun U hU hW => ⟨rfl, by rw [hU]; exact hsz, by rw [hU]; exact g4, g3.2.2.2.2.2.2.2.1.at hW hU g5⟩⟩
theorem kv_fixC {n0 : Nat} {p : Program} {s : State} {m : MethodId} {args : Array Value} {meth : Method} {c : Code} (g3 : kv_fix Z M n0 p s m args meth c) : CallFix p m c M.2.1 M.2.2.1 s args (kv_ws M) M.1.cls := ⟨g3.1, g3.2.1, g3.2.2.2.2.1, g3.2.2.2.2.2.1, g3.2.2.2.2.2.2.1⟩
/-- invokevirtual of a method of the object's own class -/
theorem kr_callV {a ci : Nat} {fs : List Value} {T : u_T} {N : Nat} (hm : kv_M Z d M' (.ref a :: As) h v h2) (ho : kv_ok M' n) (hn : As.length = n) (ha : h[a]? = some (.inr (.inr (ci, fs)))) (hc : vwCl[ci]? = some (M'.1.cls, T, N)) (hl : Cond.methodLink M.1.cls index M'.1 ∈ kv_W) (hi : Cond.instanceMethod M'.1 ∈ kv_W) (hse : Cond.selects M'.1.cls M'.1 M'.1 ∈ kv_W) (hs : stk = As.reverse ++ .ref a :: st) (hcat : (st.map fun v => v.category).sum ≤ 8) (hd : decode M.2.1 pc = .ok (.invokevirtual index, 3)) (k : kv_V Z (d + 1) M (pc + 3) ls (v.toList ++ st) h2 r h') : kv_V Z (d + 1) M pc ls stk h r h' := by
  refine kv_call (M' := M') hm.1 ho.2.2.2 (fun n0 k0 p e s m args below meth c H locs L g3 g4 g5 g6 hsz r1 r2 => ?_) k
  have hts := g3.2.2.2.2.2.2.1
  have hp := kv_pre (.ref a :: As) g3 g4 g5 hsz
  have cb := callB_of (own := M.1.cls) (index := index) n hts (kv_gin ho.2.1) rfl rfl rfl (hts _ (kv_up ho.2.2.1)) (hts _ (kv_up hl)) ho.1 r1
  exact ⟨_, va_runV (C := M'.1.cls) (As := As.map (kv_r Z)) (kv_fixC g3) hm.2 ⟨cb, hts _ (kv_up hi), hts _ (kv_up hse)⟩ ⟨hp.1, va_recv g3.2.2.2.2.2.2.2.1.1 g4 hc (kv_w_get ha), hp.2⟩ rfl (by rw [List.length_map]; exact hn) g6.1 (kv_stk hs) (by rw [kv_cats]; exact lv_room (m := m) (pc := pc) (ls := L) (rest := []) hcat) hd r2⟩
/-- invokevirtual of a method that the object's class inherits or overrides -/
theorem kr_callU {a ci : Nat} {fs : List Value} {C owner : String} {x : MethodName} {b0 : ByteArray} {m0 : Nat} {r0 : Option FieldType} {T : u_T} {N : Nat} (hm : kv_M Z d M' (.ref a :: As) h v h2) (ho : kv_ok M' n) (hn : As.length = n) (ha : h[a]? = some (.inr (.inr (ci, fs)))) (hc : vwCl[ci]? = some (C, T, N)) (hl : Cond.methodLink M.1.cls index x ∈ kv_W) (hsm : Cond.sameMethod x.cls owner x.name x.desc ∈ kv_W) (h0 : Cond.code ⟨owner, x.name, x.desc⟩ b0 m0 r0 ∈ kv_W) (h1 : Cond.instanceMethod ⟨owner, x.name, x.desc⟩ ∈ kv_W) (hse : Cond.selects C x M'.1 ∈ kv_W) (hi : Cond.instanceMethod M'.1 ∈ kv_W) (hx : owner ≠ "java/lang/invoke/MethodHandle" ∧ owner ≠ "java/lang/invoke/VarHandle" ∧ (parseMethodDescriptor x.desc).map (fun d => d.parameters.length) = some n) (hs : stk = As.reverse ++ .ref a :: st) (hcat : (st.map fun v => v.category).sum ≤ 8) (hd : decode M.2.1 pc = .ok (.invokevirtual index, 3)) (k : kv_V Z (d + 1) M (pc + 3) ls (v.toList ++ st) h2 r h') : kv_V Z (d + 1) M pc ls stk h r h' := by
  refine kv_call (M' := M') hm.1 ho.2.2.2 (fun n0 k0 p e s m args below meth c H locs L g3 g4 g5 g6 hsz r1 r2 => ?_) k
  have hts := g3.2.2.2.2.2.2.1
  have hp := kv_pre (.ref a :: As) g3 g4 g5 hsz
  have cu : va_CU (kv_R (d + 1) (h'.length - n0) (kv_sl h' - k0)) s args M.1.cls C owner index x M'.1 M'.2.1 M'.2.2.1 M'.2.2.2 (kv_ws M') (kv_R d (h2.length - h.length) (kv_sl h2 - kv_sl h)) (h2.length - h.length) (kv_sl h2 - kv_sl h) n := by
    refine ⟨⟨rfl, rfl, r1.1, r1.2, pay_in hts (kv_gin ho.2.1), List.mem_cons_self⟩, hts _ (kv_up ho.2.1), hts _ (kv_up ho.2.2.1), ⟨hx.1, hx.2.1⟩, fun sig hsg => ?_, hts _ (kv_up hl), hts _ (kv_up hsm), va_Decl.of (hts _ (kv_up h1)) (hts _ (kv_up h0)), hts _ (kv_up hse), hts _ (kv_up hi)⟩
    have q := hx.2.2
    rw [hsg] at q
    exact (Option.some.inj q).symm
  exact ⟨_, va_runU (As := As.map (kv_r Z)) (kv_fixC g3) hm.2 cu ⟨hp.1, va_recv g3.2.2.2.2.2.2.2.1.1 g4 hc (kv_w_get ha), hp.2⟩ rfl (by rw [List.length_map]; exact hn) g6.1 (kv_stk hs) (by rw [kv_cats]; exact lv_room (m := m) (pc := pc) (ls := L) (rest := []) hcat) hd r2⟩
/-- invokevirtual of the text constant -/
theorem kr_callX (hm : kv_M Z d M' (.retAddr 0 :: As) h v h2) (ho : kv_ok M' n) (hn : As.length = n) (hcl : M'.1.cls = "java/lang/String") (hl : Cond.methodLink M.1.cls index M'.1 ∈ kv_W) (hi : Cond.instanceMethod M'.1 ∈ kv_W) (hse : Cond.selects M'.1.cls M'.1 M'.1 ∈ kv_W) (hs : stk = As.reverse ++ .retAddr 0 :: st) (hcat : (st.map fun v => v.category).sum ≤ 8) (hd : decode M.2.1 pc = .ok (.invokevirtual index, 3)) (k : kv_V Z (d + 1) M (pc + 3) ls (v.toList ++ st) h2 r h') : kv_V Z (d + 1) M pc ls stk h r h' := by
  refine kv_call (M' := M') hm.1 ho.2.2.2 (fun n0 k0 p e s m args below meth c H locs L g3 g4 g5 g6 hsz r1 r2 => ?_) k
  have hts := g3.2.2.2.2.2.2.1
  have hp := kv_pre (.retAddr 0 :: As) g3 g4 g5 hsz
  have cb := callB_of (own := M.1.cls) (index := index) n hts (kv_gin ho.2.1) rfl rfl rfl (hts _ (kv_up ho.2.2.1)) (hts _ (kv_up hl)) ho.1 r1
  refine ⟨_, va_runV (C := M'.1.cls) (As := As.map (kv_r Z)) (kv_fixC g3) hm.2 ⟨cb, hts _ (kv_up hi), hts _ (kv_up hse)⟩ ⟨hp.1, ?_, hp.2⟩ rfl (by rw [List.length_map]; exact hn) g6.1 (by rw [show (F0 m pc L (stk.map (kv_r Z))).stack = stk.map (kv_r Z) from rfl, hs]; simp [List.map_reverse, kv_r]) (by rw [kv_cats]; exact lv_room (m := m) (pc := pc) (ls := L) (rest := []) hcat) hd r2⟩
  have := vk_recv (i := 0) g3.2.2.2.2.2.2.2.1.2.2.2.2.2.2.1 (by omega) g5
  rw [hcl]
  exact this
/-- invokestatic -/
theorem kr_callS (hm : kv_M Z d M' As h v h2) (ho : kv_ok M' n) (hn : As.length = n) (hl : Cond.methodLink M.1.cls index M'.1 ∈ kv_W) (hst : Cond.static M'.1 ∈ kv_W) (hs : stk = As.reverse ++ st) (hcat : (st.map fun v => v.category).sum ≤ 8) (hd : decode M.2.1 pc = .ok (.invokestatic index, 3)) (k : kv_V Z (d + 1) M (pc + 3) ls (v.toList ++ st) h2 r h') : kv_V Z (d + 1) M pc ls stk h r h' := by
  refine kv_call (M' := M') hm.1 ho.2.2.2 (fun n0 k0 p e s m args below meth c H locs L g3 g4 g5 g6 hsz r1 r2 => ?_) k
  have hts := g3.2.2.2.2.2.2.1
  have cb := callB_of (own := M.1.cls) (index := index) n hts (kv_gin ho.2.1) rfl rfl rfl (hts _ (kv_up ho.2.2.1)) (hts _ (kv_up hl)) ho.1 r1
  exact ⟨_, va_runS (As := As.map (kv_r Z)) (kv_fixC g3) hm.2 ⟨cb, hts _ (kv_up hst)⟩ (kv_pre As g3 g4 g5 hsz) rfl (by rw [List.length_map]; exact hn) g6.1 (kv_stkS hs) (by rw [kv_cats]; exact lv_room (m := m) (pc := pc) (ls := L) (rest := []) hcat) hd r2⟩
theorem kv_cnB {n0 k0 : Nat} {p : Program} {s : State} {m : MethodId} {args : Array Value} {meth : Method} {c : Code} (g3 : kv_fix Z M n0 p s m args meth c) (ho : kv_ok M' n) (hq : (M.1.cls, index, M'.1, RX10) ∈ kv_nest)
   (r1 : (kv_R d (h2.length - h.length) (kv_sl h2 - kv_sl h)).frames + 1 ≤ (kv_R (d + 1) (h'.length - n0) (kv_sl h' - k0)).frames ∧ 8 + (M'.2.2.1 + 11) + (kv_R d (h2.length - h.length) (kv_sl h2 - kv_sl h)).locals ≤ (kv_R (d + 1) (h'.length - n0) (kv_sl h' - k0)).locals) : va_CN (kv_R (d + 1) (h'.length - n0) (kv_sl h' - k0)) s args M.1.cls index M'.1 RX10 M'.2.1 M'.2.2.1 M'.2.2.2 (kv_ws M') (kv_R d (h2.length - h.length) (kv_sl h2 - kv_sl h)) (h2.length - h.length) (kv_sl h2 - kv_sl h) n :=
  va_cnB n g3.2.2.2.2.2.2.1 (kv_gin ho.2.1) rfl rfl rfl (g3.2.2.2.2.2.2.2.1.2.1 _ hq) (g3.2.2.2.2.2.2.1 _ (kv_up ho.2.2.1)) ho.1 r1
/-- invokestatic of a nest mate -/
theorem kr_callSN (hm : kv_M Z d M' As h v h2) (ho : kv_ok M' n) (hn : As.length = n) (hq : (M.1.cls, index, M'.1, RX10) ∈ kv_nest) (hst : Cond.static M'.1 ∈ kv_W) (hs : stk = As.reverse ++ st) (hcat : (st.map fun v => v.category).sum ≤ 8) (hd : decode M.2.1 pc = .ok (.invokestatic index, 3)) (k : kv_V Z (d + 1) M (pc + 3) ls (v.toList ++ st) h2 r h') : kv_V Z (d + 1) M pc ls stk h r h' := by
  refine kv_call (M' := M') hm.1 ho.2.2.2 (fun n0 k0 p e s m args below meth c H locs L g3 g4 g5 g6 hsz r1 r2 => ?_) k
  have hts := g3.2.2.2.2.2.2.1
  exact ⟨_, va_runSN (As := As.map (kv_r Z)) (kv_fixC g3) hm.2 ⟨kv_cnB g3 ho hq r1, hts _ (kv_up hst), trivial⟩ (kv_pre As g3 g4 g5 hsz) rfl (by rw [List.length_map]; exact hn) g6.1 (kv_stkS hs) (by rw [kv_cats]; exact lv_room (m := m) (pc := pc) (ls := L) (rest := []) hcat) hd r2⟩
/-- invokespecial of a constructor -/
theorem kr_callI {a : Nat} (hm : kv_M Z d M' (.ref a :: As) h none h2) (ho : kv_ok M' n) (hn : As.length = n) (hrt : M'.2.2.2 = none) (hnm : M'.1.name = "<init>") (hl : Cond.methodLink M.1.cls index M'.1 ∈ kv_W) (hi : Cond.instanceMethod M'.1 ∈ kv_W) (hs : stk = As.reverse ++ .ref a :: st) (hcat : (st.map fun v => v.category).sum ≤ 8) (hd : decode M.2.1 pc = .ok (.invokespecial index, 3)) (k : kv_V Z (d + 1) M (pc + 3) ls st h2 r h') : kv_V Z (d + 1) M pc ls stk h r h' := by
  refine kv_call (M' := M') (v := none) hm.1 ho.2.2.2 (fun n0 k0 p e s m args below meth c H locs L g3 g4 g5 g6 hsz r1 r2 => ?_) k
  have hts := g3.2.2.2.2.2.2.1
  have cb := callB_of (own := M.1.cls) (index := index) n hts (kv_gin ho.2.1) rfl rfl rfl (hts _ (kv_up ho.2.2.1)) (hts _ (kv_up hl)) ho.1 r1
  rw [hrt] at cb
  exact ⟨_, va_runI (As := As.map (kv_r Z)) (kv_fixC g3) hm.2 ⟨cb, hnm, hts _ (kv_up hi)⟩ (kv_pre (.ref a :: As) g3 g4 g5 hsz) rfl (by rw [List.length_map]; exact hn) g6.1 (kv_stk hs) (by rw [kv_cats]; exact lv_room (m := m) (pc := pc) (ls := L) (rest := []) hcat) hd r2⟩
theorem kr_callIN {a : Nat} (hm : kv_M Z d M' (.ref a :: As) h none h2) (ho : kv_ok M' n) (hn : As.length = n) (hrt : M'.2.2.2 = none) (hnm : M'.1.name = "<init>") (hq : (M.1.cls, index, M'.1, RX10) ∈ kv_nest) (hi : Cond.instanceMethod M'.1 ∈ kv_W) (hs : stk = As.reverse ++ .ref a :: st) (hcat : (st.map fun v => v.category).sum ≤ 8) (hd : decode M.2.1 pc = .ok (.invokespecial index, 3)) (k : kv_V Z (d + 1) M (pc + 3) ls st h2 r h') : kv_V Z (d + 1) M pc ls stk h r h' := by
  refine kv_call (M' := M') (v := none) hm.1 ho.2.2.2 (fun n0 k0 p e s m args below meth c H locs L g3 g4 g5 g6 hsz r1 r2 => ?_) k
  have hts := g3.2.2.2.2.2.2.1
  have cb := kv_cnB (h := h) (h2 := h2) (h' := h') (d := d) (k0 := k0) g3 ho hq r1
  rw [hrt] at cb
  exact ⟨_, va_runIN (As := As.map (kv_r Z)) (kv_fixC g3) hm.2 ⟨cb, hnm, hts _ (kv_up hi)⟩ (kv_pre (.ref a :: As) g3 g4 g5 hsz) rfl (by rw [List.length_map]; exact hn) g6.1 (kv_stk hs) (by rw [kv_cats]; exact lv_room (m := m) (pc := pc) (ls := L) (rest := []) hcat) hd r2⟩
end KC
