/-! THE JUDGEMENT kv_V and the contract kv_M -/
/-- a method: name, code, locals, what it returns -/
abbrev kv_Me : Type := MethodName × ByteArray × Nat × Option FieldType
abbrev kv_code (M : kv_Me) : Cond := .code M.1 M.2.1 M.2.2.1 M.2.2.2
abbrev kv_ws (M : kv_Me) : List Cond := kv_code M :: kv_W
def kv_R (d mc ms : Nat) : Room := { frames := d + 1, cells := mc, slots := ms, locals := 64 * (d + 1) }
def kv_nest : List (String × Nat × MethodName × String) := [(RX9, 67, yX10_has, RX10), (RX7, 80, yX10_has, RX10), (RX4, 82, yX10_has, RX10), (RX0, 34, yX10_has, RX10), (RX10, 9, yX2_init, RX10), (RX10, 35, yX7_init, RX10), (RX10, 18, yX9_init, RX10)]
def kv_can : List (String × String) := [(RX1, RX8), (RX3, RX8), (RX5, RX8), (RX6, RX8), (RX5, RX3)]
def kv_cannot : List (String × String) := [(RX8, RX3), (RX1, RX3), (RX6, RX3), (RX8, RX6), (RX1, RX6), (RX3, RX6), (RX5, RX6), (RX8, RX1), (RX3, RX1), (RX6, RX1), (RX5, RX1), (RX8, RX5), (RX1, RX5), (RX6, RX5), (RX3, RX5)]
abbrev kv_tys (Z : kv_Z) : List (ClassId × FieldType) := [(kv_I Z, .int), (kv_T Z, .object RX8)]
def kv_byt : List (List Int32) := [[116, 112, 115, 108, 114]]
/-- what stays true of the tables and of the old heap -/
def kv_K (Z : kv_Z) (U : State) : Prop :=
  va_K (kv_D Z) vwCl (kv_tys Z) U ∧ (∀ q ∈ kv_nest, va_Nw (.methodLinkNest q.1 q.2.1 q.2.2.1 q.2.2.2) U) ∧ va_AO RX8 U ∧ (∀ q ∈ kv_can, va_Nw (.castable q.1 q.2) U) ∧ (∀ q ∈ kv_cannot, va_Nc q.1 q.2 U) ∧
  vk_R RX2 34 "tpslr" (kv_x Z) U ∧ vk_S 1 [5] kv_byt (fun _ => kv_x Z) (fun _ => kv_y Z) (kv_A Z) U U.heap ∧ va_Z "java/lang/String" "COMPACT_STRINGS" "Z" (.int 1) (kv_A Z) U U.heap
theorem kv_K.at {Z : kv_Z} {s U : State} {H : Heap} {locs : List Loc} (h : kv_K Z s) (hW : s.WarmedH U.vm) (hU : U.heap = H) (hS : va_S (kv_A Z) s.heap H locs) : kv_K Z U := by
  obtain ⟨h1, h2, h3, h4, h5, h6, h7, h8⟩ := h
  refine ⟨va_K.moved hW.alike h1, fun q hq => va_Nw.warmM hW (h2 q hq), va_AO.moved hW.alike h3, fun q hq => va_Nw.warmC hW (h4 q hq), fun q hq => va_Nc.moved hW.alike (h5 q hq), vk_R.warm hW h6, ?_, ?_⟩
  · rw [hU]; exact (vk_S.moved hW.alike h7).kept hS.2.1
  · rw [hU]; exact (va_Z.moved hW.alike h8).kept hS.2.1
theorem kv_K.same {Z : kv_Z} {s U : State} (h : kv_K Z s) (hv : U.vm = s.vm) (hU : U.heap = s.heap) : kv_K Z U := by
  obtain ⟨h1, h2, h3, h4, h5, h6, h7, h8⟩ := h
  have ha : s.vm.Alike U.vm := by rw [hv]; exact Vm.Alike.refl _
  refine ⟨va_K.moved ha h1, fun q hq => va_Nw.same rfl hv.symm (h2 q hq), va_AO.moved ha h3, fun q hq => va_Nw.same rfl hv.symm (h4 q hq), fun q hq => va_Nc.moved ha (h5 q hq), vk_R.same hv h6, ?_, ?_⟩
  · rw [hU]; exact vk_S.moved ha h7
  · rw [hU]; exact va_Z.moved ha h8
/-- what a method's end is -/
def kv_Q (Z : kv_Z) (r : Option Value) (h' : kv_H) : Array Value → State → Outcome → State → Prop := fun _ st o t => o = .returned (r.map (kv_r Z)) ∧ va_P (kv_D Z) vwCl (kv_w Z h') t.heap ∧ va_F (kv_A Z) st t
/-- what a method's start is -/
def kv_P (Z : kv_Z) (av : List Value) (h : kv_H) : Array Value → State → Prop := va_Pc (av.map (kv_r Z)) (fun U => U.heap.size = kv_b Z + h.length ∧ va_P (kv_D Z) vwCl (kv_w Z h) U.heap ∧ kv_K Z U)
def kv_le (h h' : kv_H) : Prop := h.length ≤ h'.length ∧ kv_sl h ≤ kv_sl h'
theorem kv_le.rf (h : kv_H) : kv_le h h := ⟨Nat.le_refl _, Nat.le_refl _⟩
theorem kv_le.tr {a b c : kv_H} (h : kv_le a b) (g : kv_le b c) : kv_le a c := ⟨Nat.le_trans h.1 g.1, Nat.le_trans h.2 g.2⟩
/-- THE CONTRACT of a method at a heap: it returns r, and leaves h' -/
def kv_M (Z : kv_Z) (d : Nat) (M : kv_Me) (av : List Value) (h : kv_H) (r : Option Value) (h' : kv_H) : Prop :=
  kv_le h h' ∧ Met Z.1 M.1 (kv_ws M) (kv_R d (h'.length - h.length) (kv_sl h' - kv_sl h)) (kv_P Z av h) (kv_Q Z r h') (h'.length - h.length) (kv_sl h' - kv_sl h) (kv_A Z)
def kv_fix (Z : kv_Z) (M : kv_Me) (n0 : Nat) (p : Program) (s : State) (m : MethodId) (args : Array Value) (meth : Method) (c : Code) : Prop :=
  p.tables.exec = Jvm.exec ∧ c.code = M.2.1 ∧ meth.sig.returnType = M.2.2.2 ∧ meth.locks = false ∧ c.maxLocals = M.2.2.1 ∧ s.vm.findClass M.1.cls = some m.cls ∧ (∀ w ∈ kv_ws M, w.before args s = true) ∧ kv_K Z s ∧ s.heap.size = kv_b Z + n0 ∧ meth.name = M.1.name
/-- THE JUDGEMENT: from this place of method M it comes to the end r, h' -/
def kv_V (Z : kv_Z) (d : Nat) (M : kv_Me) (pc : Nat) (ls : List (Option Value)) (st : List Value) (h : kv_H) (r : Option Value) (h' : kv_H) : Prop :=
  kv_le h h' ∧ ∀ (n0 k0 : Nat) (p : Program) (e : Env) (s : State) (m : MethodId) (args : Array Value) (below : List Frame) (meth : Method) (c : Code) (H : Heap) (locs : List Loc) (L : Array Slot),
    n0 ≤ h.length → k0 ≤ kv_sl h → kv_fix Z M n0 p s m args meth c → va_P (kv_D Z) vwCl (kv_w Z h) H → va_S (kv_A Z) s.heap H locs → kv_L Z L M.2.2.1 ls →
    W p Z.1 e (kv_R d (h'.length - n0) (kv_sl h' - k0)) s m args below meth c H locs (h.length - n0) (kv_sl h - k0) (MQ below (kv_Q Z r h') args s (h'.length - n0) (kv_sl h' - k0) (kv_A Z)) (F0 m pc L (st.map (kv_r Z)))
/-- the heap is as long as the list says -/
theorem kv_size {Z : kv_Z} {p : Program} {e : Env} {R : Room} {s : State} {m : MethodId} {args : Array Value} {below : List Frame} {meth : Method} {c : Code} {H : Heap} {locs : List Loc} {n0 slots : Nat} {Q : State → Prop} {g : JFrame} {h : kv_H}
    (hn : n0 ≤ h.length) (hs : s.heap.size = kv_b Z + n0) (hP : va_P (kv_D Z) vwCl (kv_w Z h) H) (hS : va_S (kv_A Z) s.heap H locs) (k : H.size = kv_b Z + h.length → W p Z.1 e R s m args below meth c H locs (h.length - n0) slots Q g) : W p Z.1 e R s m args below meth c H locs (h.length - n0) slots Q g := by
  intro T hT X
  refine k ?_ T hT X
  have h1 := X.heapSize
  rw [hT, hs] at h1
  have h2 : kv_b Z + h.length ≤ H.size := by
    cases hh : h with
    | nil =>
      rw [hh] at hn
      have := hS.1
      simp at hn ⊢
      omega
    | cons c l =>
      have hl : h.length - 1 < h.length := by rw [hh]; simp
      have := (hP (h.length - 1) _ (kv_w_get (List.getElem?_eq_getElem hl))).lt
      rw [← hh]
      simp only at this
      omega
  omega
/-- a method from its body -/
theorem kv_M_of {Z : kv_Z} {d : Nat} {M : kv_Me} {av : List Value} {h h' : kv_H} {r : Option Value} {ls : List (Option Value)} (hy : plainName M.1.cls = true) (hl : (lg_sl (av.map (kv_r Z))).length ≤ M.2.2.1) (ha : lv_args 0 (av.map (kv_r Z)) = kv_as Z 0 ls) (k : kv_V Z d M 0 ls [] h r h') : kv_M Z d M av h r h' := by
  refine ⟨k.1, Met.ofW (cc := M.2.1) (maxL := M.2.2.1) (ret := M.2.2.2) hy rfl ?_⟩
  intro p e s m args below meth c s₁ B hml hv
  obtain ⟨rfl, hsz, hP, hK⟩ := hv
  have hL := lv_entry (av.map (kv_r Z)) (n := M.2.2.1) hl
  rw [lg_entry_eq]
  generalize (lg_sl (av.map (kv_r Z)) ++ List.replicate (M.2.2.1 - (lg_sl (av.map (kv_r Z))).length) Slot.unset).toArray = L at hL ⊢
  rw [ha] at hL
  have hb : h.length - h.length = 0 := by omega
  have hc : kv_sl h - kv_sl h = 0 := by omega
  have := k.2 h.length (kv_sl h) p e s m _ below meth c s.heap [] L (Nat.le_refl _) (Nat.le_refl _) ⟨B.exec, B.bytes, B.returns, B.notSynchronized, hml, findClass_of_methodNamed B.named, atoms_spec (ws := kv_ws M) B.pre, hK, hsz, (name_of_methodNamed B.named B.method).1⟩ hP va_S.rf hL
  rw [hb, hc] at this
  exact this
section KV
variable {Z : kv_Z} {d : Nat} {M : kv_Me} {pc pc' : Nat} {ls ls' : List (Option Value)} {st st' : List Value} {h h' : kv_H} {r : Option Value}
/-- rules that touch the stack alone -/
theorem kv_pure (hw : ∀ {p : Program} {e : Env} {R : Room} {s : State} {m : MethodId} {args : Array Value} {below : List Frame} {meth : Method} {c : Code} {H : Heap} {locs : List Loc} {cells slots : Nat} {Q : State → Prop} {L : Array Slot}, p.tables.exec = Jvm.exec → c.code = M.2.1 → W p Z.1 e R s m args below meth c H locs cells slots Q (F0 m pc' L (st'.map (kv_r Z))) → W p Z.1 e R s m args below meth c H locs cells slots Q (F0 m pc L (st.map (kv_r Z))))
    (k : kv_V Z d M pc' ls st' h r h') : kv_V Z d M pc ls st h r h' :=
  ⟨k.1, fun n0 k0 p e s m args below meth c H locs L g1 g2 g3 g4 g5 g6 => hw g3.1 g3.2.1 (k.2 n0 k0 p e s m args below meth c H locs L g1 g2 g3 g4 g5 g6)⟩
/-- rules that read locals -/
theorem kv_load (hw : ∀ {p : Program} {e : Env} {R : Room} {s : State} {m : MethodId} {args : Array Value} {below : List Frame} {meth : Method} {c : Code} {H : Heap} {locs : List Loc} {cells slots : Nat} {Q : State → Prop} {L : Array Slot}, kv_L Z L M.2.2.1 ls → p.tables.exec = Jvm.exec → c.code = M.2.1 → W p Z.1 e R s m args below meth c H locs cells slots Q (F0 m pc' L (st'.map (kv_r Z))) → W p Z.1 e R s m args below meth c H locs cells slots Q (F0 m pc L (st.map (kv_r Z))))
    (k : kv_V Z d M pc' ls st' h r h') : kv_V Z d M pc ls st h r h' :=
  ⟨k.1, fun n0 k0 p e s m args below meth c H locs L g1 g2 g3 g4 g5 g6 => hw g6 g3.1 g3.2.1 (k.2 n0 k0 p e s m args below meth c H locs L g1 g2 g3 g4 g5 g6)⟩
/-- rules that write locals -/
theorem kv_store (hw : ∀ {p : Program} {e : Env} {R : Room} {s : State} {m : MethodId} {args : Array Value} {below : List Frame} {meth : Method} {c : Code} {H : Heap} {locs : List Loc} {cells slots : Nat} {Q : State → Prop} {L : Array Slot}, kv_L Z L M.2.2.1 ls → p.tables.exec = Jvm.exec → c.code = M.2.1 → (∀ L' : Array Slot, kv_L Z L' M.2.2.1 ls' → W p Z.1 e R s m args below meth c H locs cells slots Q (F0 m pc' L' (st'.map (kv_r Z)))) → W p Z.1 e R s m args below meth c H locs cells slots Q (F0 m pc L (st.map (kv_r Z))))
    (k : kv_V Z d M pc' ls' st' h r h') : kv_V Z d M pc ls st h r h' :=
  ⟨k.1, fun n0 k0 p e s m args below meth c H locs L g1 g2 g3 g4 g5 g6 => hw g6 g3.1 g3.2.1 (fun L' g7 => k.2 n0 k0 p e s m args below meth c H locs L' g1 g2 g3 g4 g5 g7)⟩
/-- two ways -/
theorem kv_br {c : Prop} {pa pb : Nat} {sa sb : List Value} (hw : ∀ {p : Program} {e : Env} {R : Room} {s : State} {m : MethodId} {args : Array Value} {below : List Frame} {meth : Method} {cc : Code} {H : Heap} {locs : List Loc} {cells slots : Nat} {Q : State → Prop} {L : Array Slot}, p.tables.exec = Jvm.exec → cc.code = M.2.1 → (c → W p Z.1 e R s m args below meth cc H locs cells slots Q (F0 m pa L (sa.map (kv_r Z)))) → (¬ c → W p Z.1 e R s m args below meth cc H locs cells slots Q (F0 m pb L (sb.map (kv_r Z)))) → W p Z.1 e R s m args below meth cc H locs cells slots Q (F0 m pc L (st.map (kv_r Z))))
    (ka : c → kv_V Z d M pa ls sa h r h') (kb : ¬ c → kv_V Z d M pb ls sb h r h') : kv_V Z d M pc ls st h r h' := by
  refine ⟨?_, fun n0 k0 p e s m args below meth cc H locs L g1 g2 g3 g4 g5 g6 => hw g3.1 g3.2.1 (fun q => (ka q).2 n0 k0 p e s m args below meth cc H locs L g1 g2 g3 g4 g5 g6) (fun q => (kb q).2 n0 k0 p e s m args below meth cc H locs L g1 g2 g3 g4 g5 g6)⟩
  by_cases q : c
  · exact (ka q).1
  · exact (kb q).1
theorem kv_loc (hs : kv_sub ls ls') (k : kv_V Z d M pc ls' st h r h') : kv_V Z d M pc ls st h r h' :=
  ⟨k.1, fun n0 k0 p e s m args below meth c H locs L g1 g2 g3 g4 g5 g6 => k.2 n0 k0 p e s m args below meth c H locs L g1 g2 g3 g4 g5 (kv_L_sub g6 hs)⟩
end KV
