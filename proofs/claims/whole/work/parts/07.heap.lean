/-! RULES of the heap and of calls -/
theorem kv_up {M : kv_Me} {w : Cond} (h : w ∈ kv_W) : w ∈ kv_ws M := List.mem_cons_of_mem _ h
/-- an int of a row -/
def kv_g (xs : List Int32) (i : Int32) : Option Int32 := if i < 0 then none else xs[i.toNatClampNeg]?
theorem kv_g_in {xs : List Int32} {i v : Int32} (h : kv_g xs i = some v) : vp_in i xs.length ∧ xs.getD i.toNatClampNeg 0 = v := by
  unfold kv_g at h
  by_cases hi : i < 0
  · rw [if_pos hi] at h; cases h
  · rw [if_neg hi] at h
    have hl := (List.getElem?_eq_some_iff.mp h).1
    exact ⟨fun z => z.elim hi (fun z => absurd hl (by omega)), by rw [List.getD_eq_getElem?_getD, h]; rfl⟩
/-- an int put into a row -/
def kv_p (xs : List Int32) (i x : Int32) : Option (List Int32) := if i < 0 then none else if i.toNatClampNeg < xs.length then some (xs.set i.toNatClampNeg x) else none
theorem kv_p_in {xs ys : List Int32} {i x : Int32} (h : kv_p xs i x = some ys) : vp_in i xs.length ∧ ys = xs.set i.toNatClampNeg x := by
  unfold kv_p at h
  by_cases hi : i < 0
  · rw [if_pos hi] at h; cases h
  · rw [if_neg hi] at h
    by_cases hl : i.toNatClampNeg < xs.length
    · rw [if_pos hl] at h
      cases h
      exact ⟨fun z => z.elim hi (fun z => absurd hl (by omega)), rfl⟩
    · rw [if_neg hl] at h; cases h
theorem kv_upd {xs : List Int32} {k : Nat} {x : Int32} (hk : k < xs.length) : upd (fun j => xs.getD j 0) k x = fun j => (xs.set k x).getD j 0 := by
  funext j
  by_cases hj : j = k
  · subst hj
    simp [upd, List.getD_eq_getElem?_getD, hk]
  · simp [upd, hj, List.getD_eq_getElem?_getD, List.getElem?_set_ne (Ne.symm hj)]
section KH
variable {Z : kv_Z} {d : Nat} {M : kv_Me} {pc : Nat} {ls : List (Option Value)} {st stk : List Value} {h h' h2 : kv_H} {r v : Option Value}
theorem kr_getf {a ci k index N : Nat} {C : String} {T : u_T} {fs : List Value} {w : Value} (ha : h[a]? = some (.inr (.inr (ci, fs)))) (hv : fs[k]? = some w) (hc : vwCl[ci]? = some (C, T, N)) (hk : k < N) (hin : ∀ w ∈ u_ws C T N, w ∈ kv_W) (hl : Cond.fieldLink M.1.cls index (T k).1 (T k).2.1 (T k).2.2.1 ∈ kv_W) (hd : decode M.2.1 pc = .ok (.getfield index, 3)) (kk : kv_V Z d M (pc + 3) ls (w :: st) h r h') : kv_V Z d M pc ls (.ref a :: st) h r h' := by
  refine ⟨kk.1, fun n0 k0 p e s m args below meth c H locs L g1 g2 g3 g4 g5 g6 => ?_⟩
  obtain ⟨hx, hb, hrt, hlk, hml, hown, hts, hK, hsz, hnm⟩ := id g3
  exact va_get hx hb hts (fun w hw => kv_up (hin w hw)) hown hK.1 g4 a (kv_w_get ha) hc k hk (hts _ (kv_up hl)) (fun _ h9 => h9) (v := kv_r Z w) (by rw [List.getElem?_map, hv]; rfl) hd (kk.2 n0 k0 p e s m args below meth c H locs L g1 g2 g3 g4 g5 g6)
theorem kr_getfS {a ci k index N : Nat} {C ref : String} {T : u_T} {fs : List Value} {w : Value} (ha : h[a]? = some (.inr (.inr (ci, fs)))) (hv : fs[k]? = some w) (hc : vwCl[ci]? = some (C, T, N)) (hk : k < N) (hin : ∀ w ∈ u_ws C T N, w ∈ kv_W) (hl : Cond.fieldLink M.1.cls index ref (T k).2.1 (T k).2.2.1 ∈ kv_W) (hsm : Cond.sameField ref (T k).1 (T k).2.1 (T k).2.2.1 ∈ kv_W) (hd : decode M.2.1 pc = .ok (.getfield index, 3)) (kk : kv_V Z d M (pc + 3) ls (w :: st) h r h') : kv_V Z d M pc ls (.ref a :: st) h r h' := by
  refine ⟨kk.1, fun n0 k0 p e s m args below meth c H locs L g1 g2 g3 g4 g5 g6 => ?_⟩
  obtain ⟨hx, hb, hrt, hlk, hml, hown, hts, hK, hsz, hnm⟩ := id g3
  exact va_get hx hb hts (fun w hw => kv_up (hin w hw)) hown hK.1 g4 a (kv_w_get ha) hc k hk (hts _ (kv_up hl)) (fun x h9 => u_same (hts _ (kv_up hsm)) x h9) (v := kv_r Z w) (by rw [List.getElem?_map, hv]; rfl) hd (kk.2 n0 k0 p e s m args below meth c H locs L g1 g2 g3 g4 g5 g6)
theorem kv_setP {a ci k : Nat} {fs : List Value} {w : Value} {H1 : Heap} (g : va_P (kv_D Z) vwCl ((kv_w Z h).set a (kv_b Z + a, .inr (ci, (fs.map (kv_r Z)).set k (kv_r Z w)))) H1) : va_P (kv_D Z) vwCl (kv_w Z (h.set a (.inr (.inr (ci, fs.set k w))))) H1 := by
  have e : (kv_b Z + a, (.inr (ci, (fs.map (kv_r Z)).set k (kv_r Z w)) : va_E)) = (kv_b Z + a, kv_cv Z (.inr (.inr (ci, fs.set k w)))) := by
    show _ = (kv_b Z + a, (.inr (ci, (fs.set k w).map (kv_r Z)) : va_E))
    rw [List.map_set]
  rw [e, kv_w_set] at g
  exact g
theorem kr_putf {a ci k index N : Nat} {C : String} {T : u_T} {fs : List Value} {w : Value} (ty0 : Nat → FieldType) (hty : ∀ k, k < N → parseFieldDescriptor (T k).2.2.1 = some (ty0 k)) (hnn : ∀ a, a < N → ∀ b, b < N → a ≠ b → (T a).2.1 ≠ (T b).2.1) (ha : h[a]? = some (.inr (.inr (ci, fs)))) (hc : vwCl[ci]? = some (C, T, N)) (hk : k < N) (hin : ∀ w ∈ u_ws C T N, w ∈ kv_W) (hl : Cond.fieldLink M.1.cls index (T k).1 (T k).2.1 (T k).2.2.1 ∈ kv_W) (hfin : (T k).2.2.2 = false) (hnr : narrow (ty0 k) (kv_r Z w) = kv_r Z w) (hft : fits (ty0 k) (kv_r Z w) = true) (hlen : k < fs.length) (hd : decode M.2.1 pc = .ok (.putfield index, 3)) (kk : kv_V Z d M (pc + 3) ls st (h.set a (.inr (.inr (ci, fs.set k w)))) r h') : kv_V Z d M pc ls (w :: .ref a :: st) h r h' := by
  have el : (h.set a (.inr (.inr (ci, fs.set k w)))).length = h.length := List.length_set
  have es : kv_sl (h.set a (.inr (.inr (ci, fs.set k w)))) = kv_sl h := kv_sl_set h a _ _ ha (by simp [kv_cs])
  have k1 := kk.1
  unfold kv_le at k1
  rw [el, es] at k1
  refine ⟨k1, fun n0 k0 p e s m args below meth c H locs L g1 g2 g3 g4 g5 g6 => ?_⟩
  obtain ⟨hx, hb, hrt, hlk, hml, hown, hts, hK, hsz, hnm⟩ := id g3
  refine va_put hx hb hts (fun w hw => kv_up (hin w hw)) ty0 hty hnn hown hK.1 g4 (kv_w_D Z h) g5 a (kv_w_get ha) hc k hk (hts _ (kv_up hl)) (fun _ h9 => h9) hfin (v := kv_r Z w) (hty k hk) hnr hft (by simpa using hlen) hd (fun H1 locs1 q1 q2 q3 => ?_)
  have := kk.2 n0 k0 p e s m args below meth c H1 locs1 L (by rw [el]; exact g1) (by rw [es]; exact g2) g3 (kv_setP q1) q3 g6
  rw [el, es] at this
  exact this
theorem kr_putfF {a ci k index N : Nat} {C : String} {T : u_T} {fs : List Value} {w : Value} (ty0 : Nat → FieldType) (hty : ∀ k, k < N → parseFieldDescriptor (T k).2.2.1 = some (ty0 k)) (hnn : ∀ a, a < N → ∀ b, b < N → a ≠ b → (T a).2.1 ≠ (T b).2.1) (ha : h[a]? = some (.inr (.inr (ci, fs)))) (hc : vwCl[ci]? = some (C, T, N)) (hk : k < N) (hin : ∀ w ∈ u_ws C T N, w ∈ kv_W) (hl : Cond.fieldLink M.1.cls index (T k).1 (T k).2.1 (T k).2.2.1 ∈ kv_W) (hfin : (T k).2.2.2 = true) (hini : M.1.name = "<init>") (hdc : (T k).1 = M.1.cls) (hnr : narrow (ty0 k) (kv_r Z w) = kv_r Z w) (hft : fits (ty0 k) (kv_r Z w) = true) (hlen : k < fs.length) (hd : decode M.2.1 pc = .ok (.putfield index, 3)) (kk : kv_V Z d M (pc + 3) ls st (h.set a (.inr (.inr (ci, fs.set k w)))) r h') : kv_V Z d M pc ls (w :: .ref a :: st) h r h' := by
  have el : (h.set a (.inr (.inr (ci, fs.set k w)))).length = h.length := List.length_set
  have es : kv_sl (h.set a (.inr (.inr (ci, fs.set k w)))) = kv_sl h := kv_sl_set h a _ _ ha (by simp [kv_cs])
  have k1 := kk.1
  unfold kv_le at k1
  rw [el, es] at k1
  refine ⟨k1, fun n0 k0 p e s m args below meth c H locs L g1 g2 g3 g4 g5 g6 => ?_⟩
  obtain ⟨hx, hb, hrt, hlk, hml, hown, hts, hK, hsz, hnm⟩ := id g3
  refine va_putF hx hb hts (fun w hw => kv_up (hin w hw)) ty0 hty hnn hown hK.1 g4 (kv_w_D Z h) g5 a (kv_w_get ha) hc k hk (hts _ (kv_up hl)) (fun _ h9 => h9) hfin (hnm.trans hini) hdc (v := kv_r Z w) (hty k hk) hnr hft (by simpa using hlen) hd (fun H1 locs1 q1 q2 q3 => ?_)
  have := kk.2 n0 k0 p e s m args below meth c H1 locs1 L (by rw [el]; exact g1) (by rw [es]; exact g2) g3 (kv_setP q1) q3 g6
  rw [el, es] at this
  exact this
theorem kr_iald {a : Nat} {xs : List Int32} {i x : Int32} (ha : h[a]? = some (.inl xs)) (hg : kv_g xs i = some x) (hd : decode M.2.1 pc = .ok (.iaload, 1)) (kk : kv_V Z d M (pc + 1) ls (.int x :: st) h r h') : kv_V Z d M pc ls (.int i :: .ref a :: st) h r h' := by
  obtain ⟨hi, hx0⟩ := kv_g_in hg
  refine ⟨kk.1, fun n0 k0 p e s m args below meth c H locs L g1 g2 g3 g4 g5 g6 => ?_⟩
  obtain ⟨hx, hb, hrt, hlk, hml, hown, hts, hK, hsz, hnm⟩ := id g3
  refine va_iald hx hb hK.1 g4 a 0 (kv_w_get ha) rfl hi hd ?_
  have := kk.2 n0 k0 p e s m args below meth c H locs L g1 g2 g3 g4 g5 g6
  rw [← hx0] at this
  exact this
theorem kr_iast {a : Nat} {xs ys : List Int32} {i x : Int32} (ha : h[a]? = some (.inl xs)) (hg : kv_p xs i x = some ys) (hd : decode M.2.1 pc = .ok (.iastore, 1)) (kk : kv_V Z d M (pc + 1) ls st (h.set a (.inl ys)) r h') : kv_V Z d M pc ls (.int x :: .int i :: .ref a :: st) h r h' := by
  obtain ⟨hi, hy⟩ := kv_p_in hg
  have hlt : i.toNatClampNeg < xs.length := Nat.not_le.mp fun q => hi (Or.inr q)
  have ely : ys.length = xs.length := by rw [hy, List.length_set]
  have el : (h.set a (.inl ys)).length = h.length := List.length_set
  have es : kv_sl (h.set a (.inl ys)) = kv_sl h := kv_sl_set h a _ _ ha (by simp [kv_cs, ely])
  have k1 := kk.1
  unfold kv_le at k1
  rw [el, es] at k1
  refine ⟨k1, fun n0 k0 p e s m args below meth c H locs L g1 g2 g3 g4 g5 g6 => ?_⟩
  obtain ⟨hx, hb, hrt, hlk, hml, hown, hts, hK, hsz, hnm⟩ := id g3
  refine va_iast hx hb hK.1 g4 (kv_w_D Z h) g5 a 0 (kv_w_get ha) rfl hi hd (fun H1 locs1 q1 q2 q3 => ?_)
  have q1 : va_P (kv_D Z) vwCl (kv_w Z (h.set a (.inl ys))) H1 := by
    rw [kv_upd hlt] at q1
    have e2 : (kv_b Z + a, (.inl (kv_I Z, xs.length, .inl (fun j => (xs.set i.toNatClampNeg x).getD j 0)) : va_E)) = (kv_b Z + a, kv_cv Z (.inl ys)) := by
      show _ = (kv_b Z + a, (.inl (kv_I Z, ys.length, .inl (fun j => ys.getD j 0)) : va_E))
      rw [ely, hy]
    rw [e2, kv_w_set] at q1
    exact q1
  have := kk.2 n0 k0 p e s m args below meth c H1 locs1 L (by rw [el]; exact g1) (by rw [es]; exact g2) g3 q1 q3 g6
  rw [el, es] at this
  exact this
theorem kr_alen {a : Nat} {xs : List Int32} (ha : h[a]? = some (.inl xs)) (hd : decode M.2.1 pc = .ok (.arraylength, 1)) (kk : kv_V Z d M (pc + 1) ls (.int (nI xs.length) :: st) h r h') : kv_V Z d M pc ls (.ref a :: st) h r h' := by
  refine ⟨kk.1, fun n0 k0 p e s m args below meth c H locs L g1 g2 g3 g4 g5 g6 => ?_⟩
  obtain ⟨hx, hb, hrt, hlk, hml, hown, hts, hK, hsz, hnm⟩ := id g3
  exact va_alen hx hb hK.1 g4 a 0 (kv_w_get ha) rfl rfl hd (kk.2 n0 k0 p e s m args below meth c H locs L g1 g2 g3 g4 g5 g6)
theorem kr_alenR {a : Nat} {xs : List (Option Nat)} (ha : h[a]? = some (.inr (.inl xs))) (hd : decode M.2.1 pc = .ok (.arraylength, 1)) (kk : kv_V Z d M (pc + 1) ls (.int (nI xs.length) :: st) h r h') : kv_V Z d M pc ls (.ref a :: st) h r h' := by
  refine ⟨kk.1, fun n0 k0 p e s m args below meth c H locs L g1 g2 g3 g4 g5 g6 => ?_⟩
  obtain ⟨hx, hb, hrt, hlk, hml, hown, hts, hK, hsz, hnm⟩ := id g3
  exact va_alen hx hb hK.1 g4 a 1 (kv_w_get ha) rfl rfl hd (kk.2 n0 k0 p e s m args below meth c H locs L g1 g2 g3 g4 g5 g6)
/-- a trick of a row -/
def kv_q (xs : List (Option Nat)) (i : Int32) : Option Nat := if i < 0 then none else (xs[i.toNatClampNeg]?).bind id
theorem kv_q_in {xs : List (Option Nat)} {i : Int32} {x : Nat} (h : kv_q xs i = some x) : vp_in i xs.length ∧ xs.getD i.toNatClampNeg none = some x := by
  unfold kv_q at h
  by_cases hi : i < 0
  · rw [if_pos hi] at h; cases h
  · rw [if_neg hi] at h
    cases hc : xs[i.toNatClampNeg]? with
    | none => rw [hc] at h; cases h
    | some o =>
      rw [hc] at h
      have hl := (List.getElem?_eq_some_iff.mp hc).1
      exact ⟨fun z => z.elim hi (fun z => absurd hl (by omega)), by rw [List.getD_eq_getElem?_getD, hc]; exact h⟩
theorem kr_aald {a x : Nat} {xs : List (Option Nat)} {i : Int32} (ha : h[a]? = some (.inr (.inl xs))) (hg : kv_q xs i = some x) (hd : decode M.2.1 pc = .ok (.aaload, 1)) (kk : kv_V Z d M (pc + 1) ls (.ref x :: st) h r h') : kv_V Z d M pc ls (.int i :: .ref a :: st) h r h' := by
  obtain ⟨hi, hx0⟩ := kv_q_in hg
  refine ⟨kk.1, fun n0 k0 p e s m args below meth c H locs L g1 g2 g3 g4 g5 g6 => ?_⟩
  obtain ⟨hx, hb, hrt, hlk, hml, hown, hts, hK, hsz, hnm⟩ := id g3
  refine va_aldq hx hb hK.1 g4 a 1 (kv_w_get ha) rfl hi hd ?_
  have := kk.2 n0 k0 p e s m args below meth c H locs L g1 g2 g3 g4 g5 g6
  simp only [hx0]
  exact this
end KH
