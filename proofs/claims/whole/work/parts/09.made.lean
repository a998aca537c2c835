/-! NEW CELLS, CONSTANTS, THE TEXT, COPIES, KINDS -/
section KN
variable {Z : kv_Z} {d : Nat} {M : kv_Me} {pc : Nat} {ls : List (Option Value)} {st : List Value} {h h' : kv_H} {r : Option Value} {index : Nat}
/-- where a new cell lies -/
theorem kv_place {p : Program} {e : Env} {R : Room} {s : State} {m : MethodId} {args : Array Value} {below : List Frame} {meth : Method} {c : Code} {H1 : Heap} {locs : List Loc} {n0 slots q : Nat} {Q : State → Prop} {g : Nat → JFrame} {x : va_E}
    (hn : n0 ≤ h.length) (hs : s.heap.size = kv_b Z + n0) (hP : va_P (kv_D Z) vwCl (kv_w Z h ++ [(q, x)]) H1) (hD : va_D (kv_A Z) (kv_w Z h ++ [(q, x)])) (k : q = kv_b Z + h.length → W p Z.1 e R s m args below meth c H1 locs (h.length - n0 + 1) slots Q (g q)) : W p Z.1 e R s m args below meth c H1 locs (h.length - n0 + 1) slots Q (g q) := by
  intro T hT X
  refine k ?_ T hT X
  have h1 := X.heapSize
  rw [hT, hs] at h1
  have hlen : (kv_w Z h).length = h.length := by
    have gen : ∀ (l : kv_H) (n : Nat), (kv_wf Z n l).length = l.length := by
      intro l
      induction l with
      | nil => intro n; rfl
      | cons c l ih => intro n; simp [kv_wf, ih]
    exact gen h 0
  have hq : (kv_w Z h ++ [(q, x)])[h.length]? = some (q, x) := by
    rw [List.getElem?_append_right (by omega), hlen]; simp
  have h2 : q < H1.size := (hP _ _ hq).lt
  have h3 : kv_b Z ≤ q := hD.2 _ _ hq
  by_cases hlt : q < kv_b Z + h.length
  · exfalso
    have hk : q - kv_b Z < h.length := by omega
    have e1 : (kv_w Z h ++ [(q, x)])[q - kv_b Z]? = some (kv_b Z + (q - kv_b Z), kv_cv Z h[q - kv_b Z]) := by
      rw [List.getElem?_append_left (by omega)]
      exact kv_w_get (List.getElem?_eq_getElem hk)
    have := hD.1 _ _ _ _ e1 hq (by simp; omega)
    omega
  · omega
theorem kr_new {ci N : Nat} {C : String} {T : u_T} {fs : List Value} (ty : Nat → FieldType) (hty : ∀ k, k < N → parseFieldDescriptor (T k).2.2.1 = some (ty k)) (hc : vwCl[ci]? = some (C, T, N)) (hin : ∀ w ∈ u_ws C T N, w ∈ kv_W) (hl : Cond.classLink M.1.cls index C ∈ kv_W) (hi : Cond.instantiable C N ∈ kv_W) (hini : Cond.initialized C ∈ kv_W) (hfs : ∀ j, j < N → defaultValue (ty j) = vp_V (fs.map (kv_r Z)) j) (hlen : fs.length = N) (hd : decode M.2.1 pc = .ok (.new index, 3)) (kk : kv_V Z d M (pc + 3) ls (.ref h.length :: st) (h ++ [.inr (.inr (ci, fs))]) r h') : kv_V Z d M pc ls st h r h' := by
  have l1 : kv_le h (h ++ [.inr (.inr (ci, fs))]) := ⟨by simp, by rw [kv_sl_app]; omega⟩
  have k1 := kk.1
  refine ⟨l1.tr k1, fun n0 k0 p e s m args below meth c H locs L g1 g2 g3 g4 g5 g6 => ?_⟩
  obtain ⟨hx, hb, hrt, hlk, hml, hown, hts, hK, hsz, hnm⟩ := id g3
  have ea : (h ++ [(.inr (.inr (ci, fs)) : kv_C)]).length = h.length + 1 := by simp
  have eb : kv_sl (h ++ [.inr (.inr (ci, fs))]) = kv_sl h + N := by rw [kv_sl_app]; simp [kv_cs, hlen]
  have k2 := k1.1
  have k3 := k1.2
  rw [ea] at k2
  rw [eb] at k3
  refine va_new hx hb hts (fun w hw => kv_up (hin w hw)) ty hty hown (hts _ (kv_up hl)) (hts _ (kv_up hi)) (hts _ (kv_up hini)) hK.1 g4 (kv_w_D Z h) g5 (fun q hq => by show kv_b Z ≤ q; omega) hc (fs := fs.map (kv_r Z)) hfs (by simp only [kv_R]; omega) (by simp only [kv_R]; omega) hd (fun q H1 q1 q2 q3 => ?_)
  refine kv_place (g := fun q => F0 m (pc + 3) L (.ref q :: st.map (kv_r Z))) g1 hsz q1 q2 (fun eq => ?_)
  subst eq
  have q1' : va_P (kv_D Z) vwCl (kv_w Z (h ++ [.inr (.inr (ci, fs))])) H1 := by rw [kv_w_app]; exact q1
  have := kk.2 n0 k0 p e s m args below meth c H1 locs L (by rw [ea]; omega) (by rw [eb]; omega) g3 q1' q3 g6
  rw [ea, eb, show h.length + 1 - n0 = h.length - n0 + 1 by omega, show kv_sl h + N - k0 = kv_sl h - k0 + N by omega] at this
  exact this
theorem kr_newi {n : Int32} {N : Nat} (harr : Cond.arrayClass .int ∈ kv_W) (hn : ¬ n < 0) (hN : n.toNatClampNeg = N) (hb9 : N * 4 ≤ 536870912) (hd : decode M.2.1 pc = .ok (.newarray .int, 2)) (kk : kv_V Z d M (pc + 2) ls (.ref h.length :: st) (h ++ [.inl (List.replicate N 0)]) r h') : kv_V Z d M pc ls (.int n :: st) h r h' := by
  have l1 : kv_le h (h ++ [.inl (List.replicate N 0)]) := ⟨by simp, by rw [kv_sl_app]; omega⟩
  have k1 := kk.1
  refine ⟨l1.tr k1, fun n0 k0 p e s m args below meth c H locs L g1 g2 g3 g4 g5 g6 => ?_⟩
  obtain ⟨hx, hb, hrt, hlk, hml, hown, hts, hK, hsz, hnm⟩ := id g3
  have ea : (h ++ [(.inl (List.replicate N 0) : kv_C)]).length = h.length + 1 := by simp
  have eb : kv_sl (h ++ [.inl (List.replicate N 0)]) = kv_sl h + N := by rw [kv_sl_app]; simp [kv_cs]
  have k2 := k1.1
  have k3 := k1.2
  rw [ea] at k2
  rw [eb] at k3
  refine va_newa (atype := .int) hx hb (hts _ (kv_up harr)) (ty := .int) rfl hK.1 g4 (kv_w_D Z h) g5 (fun q hq => by show kv_b Z ≤ q; omega) (a0 := (N, .inl (fun _ => 0))) (fun cA => rfl) hn hN hb9 (by simp only [kv_R]; omega) (by simp only [kv_R]; omega) hd (fun q cA H1 q0 q1 q2 q3 => ?_)
  refine kv_place (g := fun q => F0 m (pc + 2) L (.ref q :: st.map (kv_r Z))) g1 hsz q1 q2 (fun eq => ?_)
  subst eq
  have ec : cA = kv_I Z := by
    have a1 := (q0.2 2 _ rfl).2
    have a2 := (hK.1.2 0 _ rfl).2
    exact Option.some.inj (Eq.trans (Eq.symm a1) a2)
  subst ec
  have q1' : va_P (kv_D Z) vwCl (kv_w Z (h ++ [.inl (List.replicate N 0)])) H1 := by
    rw [kv_w_app]
    have e9 : kv_cv Z (.inl (List.replicate N 0)) = .inl (kv_I Z, N, .inl (fun _ => 0)) := by
      show (.inl (kv_I Z, (List.replicate N (0 : Int32)).length, .inl (fun k => (List.replicate N (0 : Int32)).getD k 0)) : va_E) = _
      rw [List.length_replicate]
      congr 4
      funext k
      rw [List.getD_eq_getElem?_getD, List.getElem?_replicate]
      split <;> rfl
    rw [e9]
    exact q1
  have := kk.2 n0 k0 p e s m args below meth c H1 locs L (by rw [ea]; omega) (by rw [eb]; omega) g3 q1' q3 g6
  rw [ea, eb, show h.length + 1 - n0 = h.length - n0 + 1 by omega, show kv_sl h + N - k0 = kv_sl h - k0 + N by omega] at this
  exact this
theorem kr_newq {n : Int32} {N : Nat} (hl : Cond.classLink M.1.cls index RX8 ∈ kv_W) (hn : ¬ n < 0) (hN : n.toNatClampNeg = N) (hb9 : N * 4 ≤ 536870912) (hd : decode M.2.1 pc = .ok (.anewarray index, 3)) (kk : kv_V Z d M (pc + 3) ls (.ref h.length :: st) (h ++ [.inr (.inl (List.replicate N none))]) r h') : kv_V Z d M pc ls (.int n :: st) h r h' := by
  have l1 : kv_le h (h ++ [.inr (.inl (List.replicate N none))]) := ⟨by simp, by rw [kv_sl_app]; omega⟩
  have k1 := kk.1
  refine ⟨l1.tr k1, fun n0 k0 p e s m args below meth c H locs L g1 g2 g3 g4 g5 g6 => ?_⟩
  obtain ⟨hx, hb, hrt, hlk, hml, hown, hts, hK, hsz, hnm⟩ := id g3
  have ea : (h ++ [(.inr (.inl (List.replicate N none)) : kv_C)]).length = h.length + 1 := by simp
  have eb : kv_sl (h ++ [.inr (.inl (List.replicate N none))]) = kv_sl h + N := by rw [kv_sl_app]; simp [kv_cs]
  have k2 := k1.1
  have k3 := k1.2
  rw [ea] at k2
  rw [eb] at k3
  refine va_newq hx hb hown (hts _ (kv_up hl)) hK.2.2.1 hK.1 g4 (kv_w_D Z h) g5 (fun q hq => by show kv_b Z ≤ q; omega) hn hN hb9 (by simp only [kv_R]; omega) (by simp only [kv_R]; omega) hd (fun q cA H1 q0 q1 q2 q3 => ?_)
  refine kv_place (g := fun q => F0 m (pc + 3) L (.ref q :: st.map (kv_r Z))) g1 hsz q1 q2 (fun eq => ?_)
  subst eq
  have ec : cA = kv_T Z := by
    obtain ⟨_, _, -, -, -, a1⟩ := (q0.2 2 _ rfl).2
    obtain ⟨_, _, -, -, -, a2⟩ := (hK.1.2 1 _ rfl).2
    exact Option.some.inj (Eq.trans (Eq.symm a1) a2)
  subst ec
  have q1' : va_P (kv_D Z) vwCl (kv_w Z (h ++ [.inr (.inl (List.replicate N none))])) H1 := by
    rw [kv_w_app]
    have e9 : kv_cv Z (.inr (.inl (List.replicate N none))) = .inl (kv_T Z, N, .inr (.inr (.inr (.inr (fun _ => none))))) := by
      show (.inl (kv_T Z, (List.replicate N (none : Option Nat)).length, .inr (.inr (.inr (.inr (fun k => ((List.replicate N (none : Option Nat)).getD k none).map (kv_b Z + ·)))))) : va_E) = _
      rw [List.length_replicate]
      congr 7
      funext k
      rw [List.getD_eq_getElem?_getD, List.getElem?_replicate]
      split <;> rfl
    rw [e9]
    exact q1
  have := kk.2 n0 k0 p e s m args below meth c H1 locs L (by rw [ea]; omega) (by rw [eb]; omega) g3 q1' q3 g6
  rw [ea, eb, show h.length + 1 - n0 = h.length - n0 + 1 by omega, show kv_sl h + N - k0 = kv_sl h - k0 + N by omega] at this
  exact this
theorem kr_objInit {a : Nat} (hl : Cond.methodLink M.1.cls index Lib.objectInit ∈ kv_W) (hi : Cond.instanceMethod Lib.objectInit ∈ kv_W) (hc : Cond.code Lib.objectInit ⟨#[0xb1]⟩ 1 none ∈ kv_W) (hcat : (st.map fun v => v.category).sum ≤ 8) (hd : decode M.2.1 pc = .ok (.invokespecial index, 3)) (kk : kv_V Z d M (pc + 3) ls st h r h') : kv_V Z d M pc ls (.ref a :: st) h r h' := by
  refine ⟨kk.1, fun n0 k0 p e s m args below meth c H locs L g1 g2 g3 g4 g5 g6 => ?_⟩
  obtain ⟨hx, hb, hrt, hlk, hml, hown, hts, hK, hsz, hnm⟩ := id g3
  refine W.objInit (rest := st.map (kv_r Z)) hx hb hown (hts _ (kv_up hl)) (hts _ (kv_up hi)) (hts _ (kv_up hc)) rfl (g6.1.trans hml.symm) rfl hd (by simp [kv_R]) ?_ (kk.2 n0 k0 p e s m args below meth c H locs L g1 g2 g3 g4 g5 g6)
  rw [kv_cats]
  have := lv_room (m := m) (pc := pc) (ls := L) (rest := []) hcat
  simp only [kv_R]
  show 2 * (F0 m pc L []).monitorRoom + _ + 12 ≤ _
  omega
theorem kr_ldc {x : Int32} (hl : Cond.constant M.1.cls index x ∈ kv_W) (hd : decode M.2.1 pc = .ok (.ldc index, 2)) (kk : kv_V Z d M (pc + 2) ls (.int x :: st) h r h') : kv_V Z d M pc ls st h r h' := by
  refine ⟨kk.1, fun n0 k0 p e s m args below meth c H locs L g1 g2 g3 g4 g5 g6 => ?_⟩
  obtain ⟨hx, hb, hrt, hlk, hml, hown, hts, hK, hsz, hnm⟩ := id g3
  exact lv_ldc hx hb hown (hts _ (kv_up hl)) hd (kk.2 n0 k0 p e s m args below meth c H locs L g1 g2 g3 g4 g5 g6)
theorem kr_ldcw {x : Int32} (hl : Cond.constant M.1.cls index x ∈ kv_W) (hd : decode M.2.1 pc = .ok (.ldc_w index, 3)) (kk : kv_V Z d M (pc + 3) ls (.int x :: st) h r h') : kv_V Z d M pc ls st h r h' := by
  refine ⟨kk.1, fun n0 k0 p e s m args below meth c H locs L g1 g2 g3 g4 g5 g6 => ?_⟩
  obtain ⟨hx, hb, hrt, hlk, hml, hown, hts, hK, hsz, hnm⟩ := id g3
  exact lv_ldcw hx hb hown (hts _ (kv_up hl)) hd (kk.2 n0 k0 p e s m args below meth c H locs L g1 g2 g3 g4 g5 g6)
theorem kr_ldc2 {x : Int64} (hl : Cond.constantLong M.1.cls index x ∈ kv_W) (hd : decode M.2.1 pc = .ok (.ldc2_w index, 3)) (kk : kv_V Z d M (pc + 3) ls (.long x :: st) h r h') : kv_V Z d M pc ls st h r h' := by
  refine ⟨kk.1, fun n0 k0 p e s m args below meth c H locs L g1 g2 g3 g4 g5 g6 => ?_⟩
  obtain ⟨hx, hb, hrt, hlk, hml, hown, hts, hK, hsz, hnm⟩ := id g3
  exact lv_ldc2 hx hb hown (hts _ (kv_up hl)) hd (kk.2 n0 k0 p e s m args below meth c H locs L g1 g2 g3 g4 g5 g6)
/-- the text constant -/
theorem kr_ldcX (ho : M.1.cls = RX2) (hd : decode M.2.1 pc = .ok (.ldc 34, 2)) (kk : kv_V Z d M (pc + 2) ls (.retAddr 0 :: st) h r h') : kv_V Z d M pc ls st h r h' := by
  refine ⟨kk.1, fun n0 k0 p e s m args below meth c H locs L g1 g2 g3 g4 g5 g6 => ?_⟩
  obtain ⟨hx, hb, hrt, hlk, hml, hown, hts, hK, hsz, hnm⟩ := id g3
  rw [ho] at hown
  exact va_ldcS hx hb hown hK.2.2.2.2.2.1 hd (kk.2 n0 k0 p e s m args below meth c H locs L g1 g2 g3 g4 g5 g6)
theorem kr_getX (hl : Cond.fieldLink M.1.cls index "java/lang/String" "value" "[B" ∈ kv_W) (hd : decode M.2.1 pc = .ok (.getfield index, 3)) (kk : kv_V Z d M (pc + 3) ls (.retAddr 1 :: st) h r h') : kv_V Z d M pc ls (.retAddr 0 :: st) h r h' := by
  refine ⟨kk.1, fun n0 k0 p e s m args below meth c H locs L g1 g2 g3 g4 g5 g6 => ?_⟩
  obtain ⟨hx, hb, hrt, hlk, hml, hown, hts, hK, hsz, hnm⟩ := id g3
  exact vk_getf hx hb (hK.2.2.2.2.2.2.1.1 0 (by omega)).2.2.1 g5 hown (hts _ (kv_up hl)) (fun _ h9 => h9) hd (kk.2 n0 k0 p e s m args below meth c H locs L g1 g2 g3 g4 g5 g6)
theorem kr_codX (hl : Cond.fieldLink M.1.cls index "java/lang/String" "coder" "B" ∈ kv_W) (hd : decode M.2.1 pc = .ok (.getfield index, 3)) (kk : kv_V Z d M (pc + 3) ls (.int 0 :: st) h r h') : kv_V Z d M pc ls (.retAddr 0 :: st) h r h' := by
  refine ⟨kk.1, fun n0 k0 p e s m args below meth c H locs L g1 g2 g3 g4 g5 g6 => ?_⟩
  obtain ⟨hx, hb, hrt, hlk, hml, hown, hts, hK, hsz, hnm⟩ := id g3
  exact vk_getf hx hb (hK.2.2.2.2.2.2.1.1 0 (by omega)).2.1 g5 hown (hts _ (kv_up hl)) (fun _ h9 => h9) hd (kk.2 n0 k0 p e s m args below meth c H locs L g1 g2 g3 g4 g5 g6)
theorem kr_getsX (hl : Cond.fieldLink M.1.cls index "java/lang/String" "COMPACT_STRINGS" "Z" ∈ kv_W) (hd : decode M.2.1 pc = .ok (.getstatic index, 3)) (kk : kv_V Z d M (pc + 3) ls (.int 1 :: st) h r h') : kv_V Z d M pc ls st h r h' := by
  refine ⟨kk.1, fun n0 k0 p e s m args below meth c H locs L g1 g2 g3 g4 g5 g6 => ?_⟩
  obtain ⟨hx, hb, hrt, hlk, hml, hown, hts, hK, hsz, hnm⟩ := id g3
  exact va_gets hx hb hK.2.2.2.2.2.2.2 g5 hown (hts _ (kv_up hl)) (fun _ h9 => h9) hd (kk.2 n0 k0 p e s m args below meth c H locs L g1 g2 g3 g4 g5 g6)
theorem kr_lenY (hd : decode M.2.1 pc = .ok (.arraylength, 1)) (kk : kv_V Z d M (pc + 1) ls (.int 5 :: st) h r h') : kv_V Z d M pc ls (.retAddr 1 :: st) h r h' := by
  refine ⟨kk.1, fun n0 k0 p e s m args below meth c H locs L g1 g2 g3 g4 g5 g6 => ?_⟩
  obtain ⟨hx, hb, hrt, hlk, hml, hown, hts, hK, hsz, hnm⟩ := id g3
  exact va_tlen hx hb (hK.2.2.2.2.2.2.1.1 0 (by omega)).2.2.2 g5 (by decide) hd (kk.2 n0 k0 p e s m args below meth c H locs L g1 g2 g3 g4 g5 g6)
theorem kr_aldY {i x : Int32} (hi : vp_in i 5) (hv : (kv_byt.getD 0 []).getD i.toNatClampNeg 0 = x) (hd : decode M.2.1 pc = .ok (.baload, 1)) (kk : kv_V Z d M (pc + 1) ls (.int x :: st) h r h') : kv_V Z d M pc ls (.int i :: .retAddr 1 :: st) h r h' := by
  refine ⟨kk.1, fun n0 k0 p e s m args below meth c H locs L g1 g2 g3 g4 g5 g6 => ?_⟩
  obtain ⟨hx, hb, hrt, hlk, hml, hown, hts, hK, hsz, hnm⟩ := id g3
  exact va_tb hx hb (hK.2.2.2.2.2.2.1.1 0 (by omega)).2.2.2 g5 hi (v := .int x) (by rw [hv]) hd (kk.2 n0 k0 p e s m args below meth c H locs L g1 g2 g3 g4 g5 g6)
/-- System.arraycopy of a whole row over a row as long -/
theorem kr_copy {a b : Nat} {xs ys : List Int32} {n : Int32} (ha : h[a]? = some (.inl xs)) (hb0 : h[b]? = some (.inl ys)) (hn : ¬ n < 0) (hx1 : n.toNatClampNeg ≤ xs.length) (hy1 : n.toNatClampNeg ≤ ys.length) (hl : Cond.methodLink M.1.cls index arraycopyName ∈ kv_W) (hnat : Cond.native arraycopyName ∈ kv_W) (hst : Cond.static arraycopyName ∈ kv_W) (hini : Cond.initialized "java/lang/System" ∈ kv_W) (hcat : (st.map fun v => v.category).sum ≤ 8) (hd : decode M.2.1 pc = .ok (.invokestatic index, 3)) (kk : kv_V Z d M (pc + 3) ls st (h.set b (.inl (xs.take n.toNatClampNeg ++ ys.drop n.toNatClampNeg))) r h') : kv_V Z d M pc ls (.int n :: .int 0 :: .ref b :: .int 0 :: .ref a :: st) h r h' := by
  have ely : (xs.take n.toNatClampNeg ++ ys.drop n.toNatClampNeg).length = ys.length := by simp; omega
  have el : (h.set b (.inl (xs.take n.toNatClampNeg ++ ys.drop n.toNatClampNeg))).length = h.length := List.length_set
  have es : kv_sl (h.set b (.inl (xs.take n.toNatClampNeg ++ ys.drop n.toNatClampNeg))) = kv_sl h := kv_sl_set h b _ _ hb0 (by simp only [kv_cs]; exact ely)
  have k1 := kk.1
  unfold kv_le at k1
  rw [el, es] at k1
  refine ⟨k1, fun n0 k0 p e s m args below meth c H locs L g1 g2 g3 g4 g5 g6 => ?_⟩
  obtain ⟨hx, hb, hrt, hlk, hml, hown, hts, hK, hsz, hnm⟩ := id g3
  refine va_copyi hx hb (hml.trans g6.1.symm) hown (hts _ (kv_up hl)) (hts _ (kv_up hnat)) (hts _ (kv_up hst)) (hts _ (kv_up hini)) hK.1 g4 (kv_w_D Z h) g5 a b 0 0 (kv_w_get ha) (kv_w_get hb0) rfl rfl rfl (by decide) (by decide) hn (by simpa using hx1) (by simpa using hy1) (fun i _ => rfl) (by simp [kv_R]) ?_ hd (fun H1 locs1 q1 q2 q3 => ?_)
  · rw [kv_cats]
    have e5 : nativeFrameWords "java/lang/System" "arraycopy" 5 ≤ 40 := by decide +kernel
    simp only [kv_R]
    omega
  · have q1 : va_P (kv_D Z) vwCl (kv_w Z (h.set b (.inl (xs.take n.toNatClampNeg ++ ys.drop n.toNatClampNeg)))) H1 := by
      have e2 : (kv_b Z + b, (.inl (kv_I Z, ys.length, .inl (va_cpy (fun k => xs.getD k 0) (fun k => ys.getD k 0) (0 : Int32).toNatClampNeg (0 : Int32).toNatClampNeg n.toNatClampNeg)) : va_E)) = (kv_b Z + b, kv_cv Z (.inl (xs.take n.toNatClampNeg ++ ys.drop n.toNatClampNeg))) := by
        show _ = (kv_b Z + b, (.inl (kv_I Z, (xs.take n.toNatClampNeg ++ ys.drop n.toNatClampNeg).length, .inl (fun k => (xs.take n.toNatClampNeg ++ ys.drop n.toNatClampNeg).getD k 0)) : va_E))
        rw [ely]
        congr 5
        funext k
        show (if (0 : Int32).toNatClampNeg ≤ k ∧ k < (0 : Int32).toNatClampNeg + n.toNatClampNeg then xs.getD ((0 : Int32).toNatClampNeg + (k - (0 : Int32).toNatClampNeg)) 0 else ys.getD k 0) = _
        rw [show (0 : Int32).toNatClampNeg = 0 from by decide]
        simp only [Nat.zero_le, true_and, Nat.zero_add, Nat.sub_zero]
        by_cases hk : k < n.toNatClampNeg
        · rw [if_pos hk]
          simp only [List.getD_eq_getElem?_getD]
          rw [List.getElem?_append_left (by simp; omega), List.getElem?_take_of_lt hk]
        · rw [if_neg hk]
          simp only [List.getD_eq_getElem?_getD]
          rw [List.getElem?_append_right (by simp; omega), List.getElem?_drop]
          congr 2
          simp
          omega
      rw [e2, kv_w_set] at q1
      exact q1
    have := kk.2 n0 k0 p e s m args below meth c H1 locs1 L (by rw [el]; exact g1) (by rw [es]; exact g2) g3 q1 q3 g6
    rw [el, es] at this
    exact this
/-- a trick put into a row -/
theorem kr_aast {a x ci N : Nat} {C : String} {T : u_T} {xs : List (Option Nat)} {fs : List Value} {i : Int32} (ha : h[a]? = some (.inr (.inl xs))) (hv : h[x]? = some (.inr (.inr (ci, fs)))) (hc : vwCl[ci]? = some (C, T, N)) (hca : C = RX8 ∨ (C, RX8) ∈ kv_can) (hi : vp_in i xs.length) (hd : decode M.2.1 pc = .ok (.aastore, 1)) (kk : kv_V Z d M (pc + 1) ls st (h.set a (.inr (.inl (xs.set i.toNatClampNeg (some x))))) r h') : kv_V Z d M pc ls (.ref x :: .int i :: .ref a :: st) h r h' := by
  have hlt : i.toNatClampNeg < xs.length := Nat.not_le.mp fun q => hi (Or.inr q)
  have el : (h.set a (.inr (.inl (xs.set i.toNatClampNeg (some x))))).length = h.length := List.length_set
  have es : kv_sl (h.set a (.inr (.inl (xs.set i.toNatClampNeg (some x))))) = kv_sl h := kv_sl_set h a _ _ ha (by simp [kv_cs])
  have k1 := kk.1
  unfold kv_le at k1
  rw [el, es] at k1
  refine ⟨k1, fun n0 k0 p e s m args below meth c H locs L g1 g2 g3 g4 g5 g6 => ?_⟩
  obtain ⟨hx, hb, hrt, hlk, hml, hown, hts, hK, hsz, hnm⟩ := id g3
  have fin : ∀ (H1 : Heap) (locs1 : List Loc), va_P (kv_D Z) vwCl ((kv_w Z h).set a (kv_b Z + a, .inl (kv_T Z, xs.length, .inr (.inr (.inr (.inr (va_up (fun k => (xs.getD k none).map (kv_b Z + ·)) i.toNatClampNeg (some (kv_b Z + x))))))))) H1 → va_S (kv_A Z) s.heap H1 locs1 → W p Z.1 e (kv_R d (h'.length - n0) (kv_sl h' - k0)) s m args below meth c H1 locs1 (h.length - n0) (kv_sl h - k0) (MQ below (kv_Q Z r h') args s (h'.length - n0) (kv_sl h' - k0) (kv_A Z)) (F0 m (pc + 1) L (st.map (kv_r Z))) := by
    intro H1 locs1 q1 q3
    have e2 : (kv_b Z + a, (.inl (kv_T Z, xs.length, .inr (.inr (.inr (.inr (va_up (fun k => (xs.getD k none).map (kv_b Z + ·)) i.toNatClampNeg (some (kv_b Z + x))))))) : va_E)) = (kv_b Z + a, kv_cv Z (.inr (.inl (xs.set i.toNatClampNeg (some x))))) := by
      show _ = (kv_b Z + a, (.inl (kv_T Z, (xs.set i.toNatClampNeg (some x)).length, .inr (.inr (.inr (.inr (fun k => ((xs.set i.toNatClampNeg (some x)).getD k none).map (kv_b Z + ·)))))) : va_E))
      rw [List.length_set]
      congr 8
      funext k
      by_cases hk : k = i.toNatClampNeg
      · subst hk
        simp [va_up, List.getD_eq_getElem?_getD, hlt]
      · simp [va_up, hk, List.getD_eq_getElem?_getD, List.getElem?_set_ne (Ne.symm hk)]
    rw [e2, kv_w_set] at q1
    have := kk.2 n0 k0 p e s m args below meth c H1 locs1 L (by rw [el]; exact g1) (by rw [es]; exact g2) g3 q1 q3 g6
    rw [el, es] at this
    exact this
  rcases hca with e8 | e8
  · subst e8
    exact va_astq hx hb hK.1 g4 (kv_w_D Z h) g5 a 1 x ci (kv_w_get ha) rfl (kv_w_get hv) hc hi hd (fun H1 locs1 q1 q2 q3 => fin H1 locs1 q1 q3)
  · exact va_astqO (E := RX8) hx hb hK.1 g4 (kv_w_D Z h) g5 a 1 x ci (kv_w_get ha) rfl (hK.2.2.2.1 _ e8) (kv_w_get hv) hc hi hd (fun H1 locs1 q1 q2 q3 => fin H1 locs1 q1 q3)
theorem kr_instNo {a ci N : Nat} {C nm : String} {T : u_T} {fs : List Value} (ha : h[a]? = some (.inr (.inr (ci, fs)))) (hc : vwCl[ci]? = some (C, T, N)) (hl : Cond.classLink M.1.cls index nm ∈ kv_W) (hno : (C, nm) ∈ kv_cannot) (hd : decode M.2.1 pc = .ok (.instanceof index, 3)) (kk : kv_V Z d M (pc + 3) ls (.int 0 :: st) h r h') : kv_V Z d M pc ls (.ref a :: st) h r h' := by
  refine ⟨kk.1, fun n0 k0 p e s m args below meth c H locs L g1 g2 g3 g4 g5 g6 => ?_⟩
  obtain ⟨hx, hb, hrt, hlk, hml, hown, hts, hK, hsz, hnm⟩ := id g3
  exact va_instNo hx hb hown (hts _ (kv_up hl)) (hK.2.2.2.2.1 _ hno) (va_recv hK.1 g4 hc (kv_w_get ha)) hd (kk.2 n0 k0 p e s m args below meth c H locs L g1 g2 g3 g4 g5 g6)
theorem kr_instYes {a ci N : Nat} {C nm : String} {T : u_T} {fs : List Value} (ha : h[a]? = some (.inr (.inr (ci, fs)))) (hc : vwCl[ci]? = some (C, T, N)) (hl : Cond.classLink M.1.cls index nm ∈ kv_W) (hca : C = nm ∨ (C, nm) ∈ kv_can) (hd : decode M.2.1 pc = .ok (.instanceof index, 3)) (kk : kv_V Z d M (pc + 3) ls (.int 1 :: st) h r h') : kv_V Z d M pc ls (.ref a :: st) h r h' := by
  refine ⟨kk.1, fun n0 k0 p e s m args below meth c H locs L g1 g2 g3 g4 g5 g6 => ?_⟩
  obtain ⟨hx, hb, hrt, hlk, hml, hown, hts, hK, hsz, hnm⟩ := id g3
  rcases hca with e8 | e8
  · subst e8
    exact va_instE hx hb hown (hts _ (kv_up hl)) (va_recv hK.1 g4 hc (kv_w_get ha)) hd (kk.2 n0 k0 p e s m args below meth c H locs L g1 g2 g3 g4 g5 g6)
  · exact va_instY hx hb hown (hts _ (kv_up hl)) (hK.2.2.2.1 _ e8) (va_recv hK.1 g4 hc (kv_w_get ha)) hd (kk.2 n0 k0 p e s m args below meth c H locs L g1 g2 g3 g4 g5 g6)
end KN
