/-! THE LAW: its own walk, over what the calls answer -/
def R_law : String := "KeptVolunteersLaw"
def lw_P (b : Addr) (xs : List Int32) (args : Array Value) (s : State) : Prop := args = #[.ref b] ∧ s.IntsAt b xs ∧ xs.length ≤ 256 ∧ (Jvm.Cond.and given_1 narrow_1).before args s = true
def lw_Q (_ : Array Value) (s : State) (o : Outcome) (t : State) : Prop := o = .returned (some (.int 1)) ∧ Framed s o t [] 600000 7302250
def lw_Z (below : List Frame) (a : Array Value) (s : State) : State → Prop := fun t => ∃ o, t.status = .running ∧ Ended t below o ∧ lw_Q a s o t
/-- the law's own end, with 1 on the stack, nothing written that was there before, its room as the claim has it -/
theorem lw_ret {p : Program} {l : Launch} {e : Env} {s : State} {m : MethodId} {below : List Frame} {meth : Method} {c : Code} {b : Nat} (hx : p.tables.exec = Jvm.exec) (hb : c.code = code) (hr : meth.sig.returnType = ret) (hlocks : meth.locks = false) {pc : Nat} {H : Heap} {ls : Array Slot} (hdg : decode code pc = .ok (.ireturn, 1)) : W p l e room_1 s m #[Value.ref b] below meth c H [] 600000 7302250 (lw_Z below #[Value.ref b] s) (F0 m pc ls [.int 1]) := by
  intro T hT X
  obtain ⟨fs, hret, hrun, hended, hW, hframe⟩ := X.leave (v := some (.int 1)) (hlocks := hlocks) (fun h => by rw [hr] at h; cases h)
  have hmeth' : T.vm.method? m = some meth := X.method'
  refine ⟨T.setFrames fs, ?_, .returned (some (.int 1)), hrun, hended, rfl, ⟨_, rfl⟩, hW, hframe⟩
  jvm_step X.here [X.here.top, hx, hb, hdg, hmeth', hr, ret, narrow_b1]
  (try refine ⟨rfl, ?_⟩); (try refine ⟨rfl, ?_⟩)
  first | (intro acts; rw [hret _ acts rfl rfl rfl]) | rw [hret _ _ rfl rfl rfl]
  exact Steps.refl _
/-- what holds at the law's entry: the machine, the code, the tables' words (any of lw_tbl by 'hts w (by decide +kernel)'), the script of L ints xs at the cell b, what the Statement gives of the start (any of its parts by flat_of_before) -/
def lw_At (p : Program) (s : State) (m : MethodId) (meth : Method) (c : Code) (b L : Nat) (xs : Nat → Int32) : Prop :=
  p.tables.exec = Jvm.exec ∧ c.code = code ∧ meth.sig.returnType = ret ∧ c.maxLocals = 4 ∧ s.vm.findClass R_law = some m.cls ∧ (∀ w ∈ lw_tbl, w.before #[Value.ref b] s = true) ∧ va_X b L xs s s.heap ∧ b < s.heap.size ∧ meth.locks = false ∧ (Jvm.Cond.and given_1 narrow_1).before #[Value.ref b] s = true
def kN : Nat := 1000000000000
def kjx_letter (G : kg_G) (a1 : Int32) : Option (Int32 × kg_G) := fX10_letter G a1
def kjm_letter (G : kg_G) (a1 : Int32) : Option (Int32 × kg_G) := fX11_letter G a1
def kjx_blank (G : kg_G) : Option (Int32 × kg_G) := some (fX10_blank G)
def kjm_blank (G : kg_G) : Option (Int32 × kg_G) := some (fX11_blank G)
def kjx_fault (G : kg_G) : Option (Int32 × kg_G) := (fX10_fault kN G).map (fun r => (r, G))
def kjm_fault (G : kg_G) : Option (Int32 × kg_G) := fX11_fault kN G
def kjx_show (G : kg_G) : Option (Int32 × kg_G) := fX10_show kN G
def kjm_show (G : kg_G) : Option (Int32 × kg_G) := fX11_show kN G
def kjx_trick (G : kg_G) (a1 : Int32) (a2 : Int32) : Option (Int32 × kg_G) := (fX10_trick kN G a1 a2).map (fun r => (r, G))
def kjm_trick (G : kg_G) (a1 : Int32) (a2 : Int32) : Option (Int32 × kg_G) := (fX11_trick kN G a1 a2).map (fun r => (r, G))
def kjx_as (G : kg_G) (a1 : Int32) (a2 : Int32) : Option (Int32 × kg_G) := (fX10_as G a1 a2).map (fun r => (r, G))
def kjm_as (G : kg_G) (a1 : Int32) (a2 : Int32) : Option (Int32 × kg_G) := (fX11_as G a1 a2).map (fun r => (r, G))
def kjx_person (G : kg_G) (a1 : Int32) (a2 : Int32) : Option (Int32 × kg_G) := (fX10_person kN G a1 a2).map (fun r => (r, G))
def kjm_person (G : kg_G) (a1 : Int32) (a2 : Int32) : Option (Int32 × kg_G) := (fX11_person kN G a1 a2).map (fun r => (r, G))
def kjx_cast (G : kg_G) (a1 : Int32) (a2 : Int32) : Option (Int32 × kg_G) := fX10_cast kN G a1 a2
def kjm_cast (G : kg_G) (a1 : Int32) (a2 : Int32) : Option (Int32 × kg_G) := fX11_cast kN G a1 a2
def kjx_drop (G : kg_G) (a1 : Int32) (a2 : Int32) : Option (Int32 × kg_G) := fX10_drop G a1 a2
def kjm_drop (G : kg_G) (a1 : Int32) (a2 : Int32) : Option (Int32 × kg_G) := fX11_drop kN G a1 a2
def kjx_clear (G : kg_G) : Option (Int32 × kg_G) := fX10_clear kN G
def kjm_clear (G : kg_G) : Option (Int32 × kg_G) := fX11_clear kN G
def kjx_fill (G : kg_G) : Option (Int32 × kg_G) := fX10_fill kN G
def kjm_fill (G : kg_G) : Option (Int32 × kg_G) := fX11_fill kN G
def kjx_night (G : kg_G) : Option (Int32 × kg_G) := fX10_night kN G
def kjm_night (G : kg_G) : Option (Int32 × kg_G) := fX11_night kN G
def kjx_move (G : kg_G) (a1 : Int32) : Option (Int32 × kg_G) := fX10_move G a1
def kjm_move (G : kg_G) (a1 : Int32) : Option (Int32 × kg_G) := some (fX11_move G a1)
def kjx_letGo (G : kg_G) (a1 : Int32) : Option (Int32 × kg_G) := fX10_letGo kN G a1
def kjm_letGo (G : kg_G) (a1 : Int32) : Option (Int32 × kg_G) := fX11_letGo kN G a1
def kjx_call (G : kg_G) (a1 : Int32) (a2 : Int32) : Option (Int32 × kg_G) := fX10_call G a1 a2
def kjm_call (G : kg_G) (a1 : Int32) (a2 : Int32) : Option (Int32 × kg_G) := fX11_call kN G a1 a2
def kjx_most (G : kg_G) (a1 : Int32) : Option (Int32 × kg_G) := fX10_most kN G a1
def kjm_most (G : kg_G) (a1 : Int32) : Option (Int32 × kg_G) := fX11_most kN G a1
def kjx_fewest (G : kg_G) (a1 : Int32) : Option (Int32 × kg_G) := fX10_fewest kN G a1
def kjm_fewest (G : kg_G) (a1 : Int32) : Option (Int32 × kg_G) := fX11_fewest kN G a1
def kjx_spare (G : kg_G) : Option (Int32 × kg_G) := fX10_spare kN G
def kjm_spare (G : kg_G) : Option (Int32 × kg_G) := fX11_spare kN G
def kjx_wants (G : kg_G) (a1 : Int32) : Option (Int32 × kg_G) := (fX10_wants kN G a1).map (fun r => (r, G))
def kjm_wants (G : kg_G) (a1 : Int32) : Option (Int32 × kg_G) := (fX11_wants kN G a1).map (fun r => (r, G))
def kjx_route (G : kg_G) (a1 : Int32) (a2 : Int32) : Option (Int32 × kg_G) := (fX10_route kN G a1 a2).map (fun r => (r, G))
def kjm_route (G : kg_G) (a1 : Int32) (a2 : Int32) : Option (Int32 × kg_G) := (fX11_route kN G a1 a2).map (fun r => (r, G))
def kjx_see (G : kg_G) (a1 : Int32) (a2 : Int32) (a3 : Int32) : Option (Int32 × kg_G) := fX10_see G a1 a2 a3
def kjm_see (G : kg_G) (a1 : Int32) (a2 : Int32) (a3 : Int32) : Option (Int32 × kg_G) := fX11_see G a1 a2 a3
def kjx_forget (G : kg_G) : Option (Int32 × kg_G) := some (fX10_forget G)
def kjm_forget (G : kg_G) : Option (Int32 × kg_G) := some (fX11_forget G)
def kjx_tours (G : kg_G) (a1 : Int32) (a2 : Int32) (a3 : Int32) : Option (Int32 × kg_G) := fX10_tours kN G a1 a2 a3
def kjm_tours (G : kg_G) (a1 : Int32) (a2 : Int32) (a3 : Int32) : Option (Int32 × kg_G) := fX11_tours kN G a1 a2 a3
def kjx_image (G : kg_G) : Option (Int32 × kg_G) := fX10_image G
def kjm_image (G : kg_G) : Option (Int32 × kg_G) := fX11_image kN G
def kjx_restore (G : kg_G) : Option (Int32 × kg_G) := fX10_restore G
def kjm_restore (G : kg_G) : Option (Int32 × kg_G) := fX11_restore kN G
def kjx_count (G : kg_G) (a1 : Int32) : Option (Int32 × kg_G) := (fX10_count kN G a1).map (fun r => (r, G))
def kjm_count (G : kg_G) (a1 : Int32) : Option (Int32 × kg_G) := (fX11_count kN G a1).map (fun r => (r, G))
def kjx_digest (G : kg_G) : Option (Int64 × kg_G) := (fX10_digest kN G).map (fun r => (r, G))
def kjm_digest (G : kg_G) : Option (Int64 × kg_G) := fX11_digest kN G
def kj_b (G G2 : kg_G) : Prop := (kg_Y G2).length ≤ (kg_Y G).length + 7 ∧ kv_sl (kg_Y G2) ≤ kv_sl (kg_Y G) + 30
/-- a call of the class and the same call of the reference answer alike -/
def kj_op {α : Type} (J : Nat → kg_G → Prop) (fx fm : kg_G → Option (α × kg_G)) : Prop := ∀ (k : Nat) (G : kg_G), k < 64 → J k G → ∃ (r : α) (G1 G2 : kg_G), fx G = some (r, G1) ∧ fm G1 = some (r, G2) ∧ J (k + 1) G2 ∧ kj_b G G2
def kj_z (x : Int32) : Int32 := if x = 0 then 0 else 1
def kj_all (J : Nat → kg_G → Prop) : Prop :=
  (∀ (a1 : Int32), kj_op J (fun G => kjx_letter G a1) (fun G => kjm_letter G a1)) ∧
  kj_op J (fun G => kjx_blank G) (fun G => kjm_blank G) ∧
  kj_op J (fun G => kjx_fault G) (fun G => kjm_fault G) ∧
  kj_op J (fun G => kjx_show G) (fun G => kjm_show G) ∧
  (∀ (a1 : Int32) (a2 : Int32), kj_op J (fun G => kjx_trick G a1 a2) (fun G => kjm_trick G a1 a2)) ∧
  (∀ (a1 : Int32) (a2 : Int32), kj_op J (fun G => kjx_as G a1 a2) (fun G => kjm_as G a1 a2)) ∧
  (∀ (a1 : Int32) (a2 : Int32), kj_op J (fun G => kjx_person G a1 a2) (fun G => kjm_person G a1 a2)) ∧
  (∀ (a1 : Int32) (a2 : Int32), kj_op J (fun G => kjx_cast G a1 a2) (fun G => kjm_cast G a1 a2)) ∧
  (∀ (a1 : Int32) (a2 : Int32), kj_op J (fun G => kjx_drop G a1 a2) (fun G => kjm_drop G a1 a2)) ∧
  kj_op J (fun G => kjx_clear G) (fun G => kjm_clear G) ∧
  kj_op J (fun G => kjx_fill G) (fun G => kjm_fill G) ∧
  kj_op J (fun G => kjx_night G) (fun G => kjm_night G) ∧
  (∀ (a1 : Int32), kj_op J (fun G => kjx_move G (kj_z a1)) (fun G => kjm_move G (kj_z a1))) ∧
  (∀ (a1 : Int32), kj_op J (fun G => kjx_letGo G a1) (fun G => kjm_letGo G a1)) ∧
  (∀ (a1 : Int32) (a2 : Int32), kj_op J (fun G => kjx_call G a1 a2) (fun G => kjm_call G a1 a2)) ∧
  (∀ (a1 : Int32), kj_op J (fun G => kjx_most G a1) (fun G => kjm_most G a1)) ∧
  (∀ (a1 : Int32), kj_op J (fun G => kjx_fewest G a1) (fun G => kjm_fewest G a1)) ∧
  kj_op J (fun G => kjx_spare G) (fun G => kjm_spare G) ∧
  (∀ (a1 : Int32), kj_op J (fun G => kjx_wants G a1) (fun G => kjm_wants G a1)) ∧
  (∀ (a1 : Int32) (a2 : Int32), kj_op J (fun G => kjx_route G a1 a2) (fun G => kjm_route G a1 a2)) ∧
  (∀ (a1 : Int32) (a2 : Int32) (a3 : Int32), kj_op J (fun G => kjx_see G a1 a2 (kj_z a3)) (fun G => kjm_see G a1 a2 (kj_z a3))) ∧
  kj_op J (fun G => kjx_forget G) (fun G => kjm_forget G) ∧
  (∀ (a1 : Int32) (a2 : Int32) (a3 : Int32), kj_op J (fun G => kjx_tours G a1 a2 a3) (fun G => kjm_tours G a1 a2 a3)) ∧
  kj_op J (fun G => kjx_image G) (fun G => kjm_image G) ∧
  kj_op J (fun G => kjx_restore G) (fun G => kjm_restore G) ∧
  (∀ (a1 : Int32), kj_op J (fun G => kjx_count G a1) (fun G => kjm_count G a1)) ∧
  kj_op J (fun G => kjx_digest G) (fun G => kjm_digest G)
theorem kl_good {M' : kv_Me} (h : kv_code M' ∈ kv_W) : GoodIn lw_tbl (kv_ws M') := by
  intro w hw
  have hw' : w ∈ kv_W := by
    rcases List.mem_cons.mp hw with e | e
    · rw [e]; exact h
    · exact e
  exact ⟨(kv_W_good hw').1, good_of_word (kv_W_good hw').2⟩
section LAW
variable {p : Program} {e : Env} {s : State} {m : MethodId} {below : List Frame} {meth : Method} {c : Code} {b Ln : Nat} {xs : Nat → Int32} {Z : kv_Z} {Q : State → Prop}
theorem kl_size {H : Heap} {locs : List Loc} {slots : Nat} {g : JFrame} {h : kv_H} (hs : s.heap.size = kv_b Z) (hP : va_P (kv_D Z) vwCl (kv_w Z h) H) (hS : va_S (kv_A Z) s.heap H locs) (k : H.size = kv_b Z + h.length → W p Z.1 e room_1 s m #[Value.ref b] below meth c H locs h.length slots Q g) : W p Z.1 e room_1 s m #[Value.ref b] below meth c H locs h.length slots Q g := by
  have := kv_size (Z := Z) (p := p) (e := e) (R := room_1) (s := s) (m := m) (args := #[Value.ref b]) (below := below) (meth := meth) (c := c) (H := H) (locs := locs) (n0 := 0) (slots := slots) (Q := Q) (g := g) (h := h) (Nat.zero_le _) (by rw [hs]; rfl) hP hS
  rw [Nat.sub_zero] at this
  exact this k
theorem kl_pre {H : Heap} {locs : List Loc} {h : kv_H} (av : List Value) (hK : kv_K Z s) (hP : va_P (kv_D Z) vwCl (kv_w Z h) H) (hS : va_S (kv_A Z) s.heap H locs) (hsz : H.size = kv_b Z + h.length) : PreS s H (kv_P Z av h) (av.map (kv_r Z)) :=
  ⟨kv_blind Z av h, fun U hU hW => ⟨rfl, by rw [hU]; exact hsz, by rw [hU]; exact hP, hK.at hW hU hS⟩⟩
/-- a call of the law's -/
theorem kl_callV {M' : kv_Me} {d n index a ci N pc : Nat} {fs : List Value} {T : u_T} {As rest : List Value} {v : Option Value} {h h2 : kv_H} {H : Heap} {locs : List Loc} {L : Array Slot} {st0 : List Value} (C0 : lw_At p s m meth c b Ln xs) (hK : kv_K Z s) (hs0 : s.heap.size = kv_b Z) (hL : L.size = 4)
    (hm : kv_M Z d M' (.ref a :: As) h v h2) (ho : kv_ok M' n) (hn : As.length = n) (ha : h[a]? = some (.inr (.inr (ci, fs)))) (hc : vwCl[ci]? = some (M'.1.cls, T, N)) (hl : Cond.methodLink R_law index M'.1 ∈ kv_W) (hi : Cond.instanceMethod M'.1 ∈ kv_W) (hse : Cond.selects M'.1.cls M'.1 M'.1 ∈ kv_W) (hst : st0 = (As.map (kv_r Z)).reverse ++ .ref (kv_b Z + a) :: rest) (hcat : (rest.map fun v => v.category).sum ≤ 8) (hd : decode code pc = .ok (.invokevirtual index, 3)) (hdd : d ≤ 100) (hc2 : h2.length ≤ 600000) (hs2 : kv_sl h2 ≤ 7302250)
    (hP : va_P (kv_D Z) vwCl (kv_w Z h) H) (hS : va_S (kv_A Z) s.heap H locs) (kk : ∀ (H1 : Heap) (locs1 : List Loc), va_P (kv_D Z) vwCl (kv_w Z h2) H1 → va_S (kv_A Z) s.heap H1 locs1 → W p Z.1 e room_1 s m #[Value.ref b] below meth c H1 locs1 h2.length (kv_sl h2) Q (F0 m (pc + 3) L ((v.map (kv_r Z)).toList ++ rest))) :
    W p Z.1 e room_1 s m #[Value.ref b] below meth c H locs h.length (kv_sl h) Q (F0 m pc L st0) := by
  obtain ⟨hx, hb, hr, hml, hown, hts, hX, hbl, hlocks, hgv⟩ := C0
  subst hst
  refine kl_size hs0 hP hS (fun hsz => ?_)
  have hp := kl_pre (.ref a :: As) hK hP hS hsz
  have l1 := hm.1
  have r3 : h.length + (h2.length - h.length) = h2.length := by have := l1.1; omega
  have r4 : kv_sl h + (kv_sl h2 - kv_sl h) = kv_sl h2 := by have := l1.2; omega
  have cb := callB_of (R := room_1) (own := R_law) (index := index) n hts (kl_good ho.2.1) rfl (rm := kv_R d (h2.length - h.length) (kv_sl h2 - kv_sl h)) rfl rfl (hts _ (kv_W_good ho.2.2.1).1) (hts _ (kv_W_good hl).1) ho.1 ⟨by show d + 1 + 1 ≤ 2048; omega, by show 8 + (M'.2.2.1 + 11) + 64 * (d + 1) ≤ 84000; have := ho.2.2.2; omega⟩
  refine kv_run (va_runV (C := M'.1.cls) (As := As.map (kv_r Z)) ⟨hx, hb, hml, hown, hts⟩ hm.2 ⟨cb, hts _ (kv_W_good hi).1, hts _ (kv_W_good hse).1⟩ ⟨hp.1, va_recv hK.1 hP hc (kv_w_get ha), hp.2⟩ rfl (by rw [List.length_map]; exact hn) hL rfl (lv_room (m := m) (pc := pc) (ls := L) (rest := []) hcat) hd ⟨by rw [r3]; exact hc2, by rw [r4]; exact hs2⟩) hS (fun H1 locs1 q1 q2 => ?_)
  rw [r3, r4]
  exact kk H1 locs1 q1 q2
/-- a constructor that the law calls -/
theorem kl_callI {M' : kv_Me} {d index a pc : Nat} {rest : List Value} {h h2 : kv_H} {H : Heap} {locs : List Loc} {L : Array Slot} (C0 : lw_At p s m meth c b Ln xs) (hK : kv_K Z s) (hs0 : s.heap.size = kv_b Z) (hL : L.size = 4)
    (hm : kv_M Z d M' [.ref a] h none h2) (ho : kv_ok M' 0) (hrt : M'.2.2.2 = none) (hnm : M'.1.name = "<init>") (hl : Cond.methodLink R_law index M'.1 ∈ kv_W) (hi : Cond.instanceMethod M'.1 ∈ kv_W) (hcat : (rest.map fun v => v.category).sum ≤ 8) (hd : decode code pc = .ok (.invokespecial index, 3)) (hdd : d ≤ 100) (hc2 : h2.length ≤ 600000) (hs2 : kv_sl h2 ≤ 7302250)
    (hP : va_P (kv_D Z) vwCl (kv_w Z h) H) (hS : va_S (kv_A Z) s.heap H locs) (kk : ∀ (H1 : Heap) (locs1 : List Loc), va_P (kv_D Z) vwCl (kv_w Z h2) H1 → va_S (kv_A Z) s.heap H1 locs1 → W p Z.1 e room_1 s m #[Value.ref b] below meth c H1 locs1 h2.length (kv_sl h2) Q (F0 m (pc + 3) L rest)) :
    W p Z.1 e room_1 s m #[Value.ref b] below meth c H locs h.length (kv_sl h) Q (F0 m pc L (.ref (kv_b Z + a) :: rest)) := by
  obtain ⟨hx, hb, hr, hml, hown, hts, hX, hbl, hlocks, hgv⟩ := C0
  refine kl_size hs0 hP hS (fun hsz => ?_)
  have hp := kl_pre [.ref a] hK hP hS hsz
  have l1 := hm.1
  have r3 : h.length + (h2.length - h.length) = h2.length := by have := l1.1; omega
  have r4 : kv_sl h + (kv_sl h2 - kv_sl h) = kv_sl h2 := by have := l1.2; omega
  have cb := callB_of (R := room_1) (own := R_law) (index := index) 0 hts (kl_good ho.2.1) rfl (rm := kv_R d (h2.length - h.length) (kv_sl h2 - kv_sl h)) rfl rfl (hts _ (kv_W_good ho.2.2.1).1) (hts _ (kv_W_good hl).1) ho.1 ⟨by show d + 1 + 1 ≤ 2048; omega, by show 8 + (M'.2.2.1 + 11) + 64 * (d + 1) ≤ 84000; have := ho.2.2.2; omega⟩
  rw [hrt] at cb
  refine kv_run (va_runI (As := []) ⟨hx, hb, hml, hown, hts⟩ hm.2 ⟨cb, hnm, hts _ (kv_W_good hi).1⟩ hp rfl rfl hL rfl (lv_room (m := m) (pc := pc) (ls := L) (rest := []) hcat) hd ⟨by rw [r3]; exact hc2, by rw [r4]; exact hs2⟩) hS (fun H1 locs1 q1 q2 => ?_)
  rw [r3, r4]
  exact kk H1 locs1 q1 q2
theorem kl_R_X10_letter {Z : kv_Z} {G G1 : kg_G} {a1 : Int32} {r : Int32} (h : kjx_letter G a1 = some (r, G1)) : kv_M Z (0 + 1) kMX10_letter [.ref 0, .int a1] (kg_w G) (some (.int r)) (kg_w G1) := RX10_letter (Z := Z) 0 (G := G) (res := (r, G1)) h
theorem kl_R_X11_letter {Z : kv_Z} {G G1 : kg_G} {a1 : Int32} {r : Int32} (h : kjm_letter G a1 = some (r, G1)) : kv_M Z (0 + 1) kMX11_letter [.ref 28, .int a1] (kg_w G) (some (.int r)) (kg_w G1) := RX11_letter (Z := Z) 0 (G := G) (res := (r, G1)) h
set_option maxRecDepth 20000 in
set_option maxHeartbeats 8000000 in
theorem kl_case_letter (C0 : lw_At p s m meth c b Ln xs) (hK : kv_K Z s) (hs0 : s.heap.size = kv_b Z) {G : kg_G} {H : Heap} {locs : List Loc} {L : Array Slot} {i : Int32} (hLs : lv_has L 4 [(0, .ref b), (1, .ref (kv_b Z + 0)), (2, .ref (kv_b Z + 28)), (3, .int i)]) (hi1 : vp_in (i + 1) Ln) (hi2 : vp_in (i + 2) Ln) (hi3 : vp_in (i + 3) Ln) (hP : va_P (kv_D Z) vwCl (kv_w Z (kg_w G)) H) (hS : va_S (kv_A Z) s.heap H locs) {r : Int32} {G1 G2 : kg_G} (h1 : kjx_letter G (xs (i + 1).toNatClampNeg) = some (r, G1)) (h2 : kjm_letter G1 (xs (i + 1).toNatClampNeg) = some (r, G2)) (hc2 : (kg_w G2).length ≤ 600000) (hs2 : kv_sl (kg_w G2) ≤ 7302250) (kk : ∀ (H1 : Heap) (locs1 : List Loc), va_P (kv_D Z) vwCl (kv_w Z (kg_w G2)) H1 → va_S (kv_A Z) s.heap H1 locs1 → W p Z.1 e room_1 s m #[Value.ref b] below meth c H1 locs1 (kg_w G2).length (kv_sl (kg_w G2)) Q (F0 m 810 L [])) : W p Z.1 e room_1 s m #[Value.ref b] below meth c H locs (kg_w G).length (kv_sl (kg_w G)) Q (F0 m 156 L []) := by
  obtain ⟨hx, hb, hr, hml, hown, hts, hX, hbl, hlocks, hgv⟩ := id C0
  have hbA : ¬ kv_A Z b := by show ¬ kv_b Z ≤ b; rw [← hs0]; exact Nat.not_le.mpr hbl
  refine lv_aload_n hx hb dL_law_156 rfl (lv_at hLs 1 rfl) ?_
  refine lv_aload_n hx hb dL_law_157 rfl (lv_at hLs 0 rfl) ?_
  refine lv_iload_n hx hb dL_law_158 rfl (lv_at hLs 3 rfl) ?_
  refine lv_iconst (v := 1) hx hb dL_law_159 (by decide) ?_
  refine lv_iadd hx hb dL_law_160 ?_
  refine va_sld hx hb hX hbl hbA hS hi1 dL_law_161 ?_
  refine kl_callV (M' := kMX10_letter) (a := 0) (As := [.int (xs (i + 1).toNatClampNeg)]) (rest := []) C0 hK hs0 hLs.1 (kl_R_X10_letter h1) koX10_letter rfl rfl rfl kw1_222 kw1_223 kw1_224 rfl (Nat.le_of_ble_eq_true rfl) dL_law_162 (Nat.le_of_ble_eq_true rfl) (Nat.le_trans (kl_R_X11_letter (Z := Z) h2).1.1 hc2) (Nat.le_trans (kl_R_X11_letter (Z := Z) h2).1.2 hs2) hP hS (fun H locs hP hS => ?_)
  refine lv_aload_n hx hb dL_law_165 rfl (lv_at hLs 2 rfl) ?_
  refine lv_aload_n hx hb dL_law_166 rfl (lv_at hLs 0 rfl) ?_
  refine lv_iload_n hx hb dL_law_167 rfl (lv_at hLs 3 rfl) ?_
  refine lv_iconst (v := 1) hx hb dL_law_168 (by decide) ?_
  refine lv_iadd hx hb dL_law_169 ?_
  refine va_sld hx hb hX hbl hbA hS hi1 dL_law_170 ?_
  refine kl_callV (M' := kMX11_letter) (a := 28) (As := [.int (xs (i + 1).toNatClampNeg)]) (rest := [.int r]) C0 hK hs0 hLs.1 (kl_R_X11_letter h2) koX11_letter rfl rfl rfl kw5_24 kw5_25 kw5_26 rfl (Nat.le_of_ble_eq_true rfl) dL_law_171 (Nat.le_of_ble_eq_true rfl) hc2 hs2 hP hS (fun H locs hP hS => ?_)
  refine lv_icmp_eq (tgt := 810) hx hb dL_law_174 rfl (fun _ => ?_) (fun z => absurd rfl z)
  exact kk H locs hP hS
theorem kl_R_X10_blank {Z : kv_Z} {G G1 : kg_G} {r : Int32} (h : kjx_blank G = some (r, G1)) : kv_M Z (0 + 0) kMX10_blank [.ref 0] (kg_w G) (some (.int r)) (kg_w G1) := by
  have h := Option.some.inj h
  exact RX10_blank (Z := Z) 0 (G := G) (res := (r, G1)) h
theorem kl_R_X11_blank {Z : kv_Z} {G G1 : kg_G} {r : Int32} (h : kjm_blank G = some (r, G1)) : kv_M Z (0 + 0) kMX11_blank [.ref 28] (kg_w G) (some (.int r)) (kg_w G1) := by
  have h := Option.some.inj h
  exact RX11_blank (Z := Z) 0 (G := G) (res := (r, G1)) h
set_option maxRecDepth 20000 in
set_option maxHeartbeats 8000000 in
theorem kl_case_blank (C0 : lw_At p s m meth c b Ln xs) (hK : kv_K Z s) (hs0 : s.heap.size = kv_b Z) {G : kg_G} {H : Heap} {locs : List Loc} {L : Array Slot} {i : Int32} (hLs : lv_has L 4 [(0, .ref b), (1, .ref (kv_b Z + 0)), (2, .ref (kv_b Z + 28)), (3, .int i)]) (hi1 : vp_in (i + 1) Ln) (hi2 : vp_in (i + 2) Ln) (hi3 : vp_in (i + 3) Ln) (hP : va_P (kv_D Z) vwCl (kv_w Z (kg_w G)) H) (hS : va_S (kv_A Z) s.heap H locs) {r : Int32} {G1 G2 : kg_G} (h1 : kjx_blank G = some (r, G1)) (h2 : kjm_blank G1 = some (r, G2)) (hc2 : (kg_w G2).length ≤ 600000) (hs2 : kv_sl (kg_w G2) ≤ 7302250) (kk : ∀ (H1 : Heap) (locs1 : List Loc), va_P (kv_D Z) vwCl (kv_w Z (kg_w G2)) H1 → va_S (kv_A Z) s.heap H1 locs1 → W p Z.1 e room_1 s m #[Value.ref b] below meth c H1 locs1 (kg_w G2).length (kv_sl (kg_w G2)) Q (F0 m 810 L [])) : W p Z.1 e room_1 s m #[Value.ref b] below meth c H locs (kg_w G).length (kv_sl (kg_w G)) Q (F0 m 179 L []) := by
  obtain ⟨hx, hb, hr, hml, hown, hts, hX, hbl, hlocks, hgv⟩ := id C0
  have hbA : ¬ kv_A Z b := by show ¬ kv_b Z ≤ b; rw [← hs0]; exact Nat.not_le.mpr hbl
  refine lv_aload_n hx hb dL_law_179 rfl (lv_at hLs 1 rfl) ?_
  refine kl_callV (M' := kMX10_blank) (a := 0) (As := []) (rest := []) C0 hK hs0 hLs.1 (kl_R_X10_blank h1) koX10_blank rfl rfl rfl kw1_230 kw1_231 kw1_232 rfl (Nat.le_of_ble_eq_true rfl) dL_law_180 (Nat.le_of_ble_eq_true rfl) (Nat.le_trans (kl_R_X11_blank (Z := Z) h2).1.1 hc2) (Nat.le_trans (kl_R_X11_blank (Z := Z) h2).1.2 hs2) hP hS (fun H locs hP hS => ?_)
  refine lv_aload_n hx hb dL_law_183 rfl (lv_at hLs 2 rfl) ?_
  refine kl_callV (M' := kMX11_blank) (a := 28) (As := []) (rest := [.int r]) C0 hK hs0 hLs.1 (kl_R_X11_blank h2) koX11_blank rfl rfl rfl kw5_32 kw5_33 kw5_34 rfl (Nat.le_of_ble_eq_true rfl) dL_law_184 (Nat.le_of_ble_eq_true rfl) hc2 hs2 hP hS (fun H locs hP hS => ?_)
  refine lv_icmp_eq (tgt := 810) hx hb dL_law_187 rfl (fun _ => ?_) (fun z => absurd rfl z)
  exact kk H locs hP hS
theorem kl_R_X10_fault {Z : kv_Z} {G G1 : kg_G} {r : Int32} (h : kjx_fault G = some (r, G1)) : kv_M Z (0 + 6) kMX10_fault [.ref 0] (kg_w G) (some (.int r)) (kg_w G1) := by
  obtain ⟨w, hw, e⟩ := Option.map_eq_some_iff.mp h
  cases e
  exact RX10_fault (Z := Z) 0 (G := G) hw
theorem kl_R_X11_fault {Z : kv_Z} {G G1 : kg_G} {r : Int32} (h : kjm_fault G = some (r, G1)) : kv_M Z (0 + 4) kMX11_fault [.ref 28] (kg_w G) (some (.int r)) (kg_w G1) := RX11_fault (Z := Z) 0 (G := G) (res := (r, G1)) h
set_option maxRecDepth 20000 in
set_option maxHeartbeats 8000000 in
theorem kl_case_fault (C0 : lw_At p s m meth c b Ln xs) (hK : kv_K Z s) (hs0 : s.heap.size = kv_b Z) {G : kg_G} {H : Heap} {locs : List Loc} {L : Array Slot} {i : Int32} (hLs : lv_has L 4 [(0, .ref b), (1, .ref (kv_b Z + 0)), (2, .ref (kv_b Z + 28)), (3, .int i)]) (hi1 : vp_in (i + 1) Ln) (hi2 : vp_in (i + 2) Ln) (hi3 : vp_in (i + 3) Ln) (hP : va_P (kv_D Z) vwCl (kv_w Z (kg_w G)) H) (hS : va_S (kv_A Z) s.heap H locs) {r : Int32} {G1 G2 : kg_G} (h1 : kjx_fault G = some (r, G1)) (h2 : kjm_fault G1 = some (r, G2)) (hc2 : (kg_w G2).length ≤ 600000) (hs2 : kv_sl (kg_w G2) ≤ 7302250) (kk : ∀ (H1 : Heap) (locs1 : List Loc), va_P (kv_D Z) vwCl (kv_w Z (kg_w G2)) H1 → va_S (kv_A Z) s.heap H1 locs1 → W p Z.1 e room_1 s m #[Value.ref b] below meth c H1 locs1 (kg_w G2).length (kv_sl (kg_w G2)) Q (F0 m 810 L [])) : W p Z.1 e room_1 s m #[Value.ref b] below meth c H locs (kg_w G).length (kv_sl (kg_w G)) Q (F0 m 192 L []) := by
  obtain ⟨hx, hb, hr, hml, hown, hts, hX, hbl, hlocks, hgv⟩ := id C0
  have hbA : ¬ kv_A Z b := by show ¬ kv_b Z ≤ b; rw [← hs0]; exact Nat.not_le.mpr hbl
  refine lv_aload_n hx hb dL_law_192 rfl (lv_at hLs 1 rfl) ?_
  refine kl_callV (M' := kMX10_fault) (a := 0) (As := []) (rest := []) C0 hK hs0 hLs.1 (kl_R_X10_fault h1) koX10_fault rfl rfl rfl kw1_234 kw1_235 kw1_236 rfl (Nat.le_of_ble_eq_true rfl) dL_law_193 (Nat.le_of_ble_eq_true rfl) (Nat.le_trans (kl_R_X11_fault (Z := Z) h2).1.1 hc2) (Nat.le_trans (kl_R_X11_fault (Z := Z) h2).1.2 hs2) hP hS (fun H locs hP hS => ?_)
  refine lv_aload_n hx hb dL_law_196 rfl (lv_at hLs 2 rfl) ?_
  refine kl_callV (M' := kMX11_fault) (a := 28) (As := []) (rest := [.int r]) C0 hK hs0 hLs.1 (kl_R_X11_fault h2) koX11_fault rfl rfl rfl kw5_36 kw5_37 kw5_38 rfl (Nat.le_of_ble_eq_true rfl) dL_law_197 (Nat.le_of_ble_eq_true rfl) hc2 hs2 hP hS (fun H locs hP hS => ?_)
  refine lv_icmp_eq (tgt := 810) hx hb dL_law_200 rfl (fun _ => ?_) (fun z => absurd rfl z)
  exact kk H locs hP hS
theorem kl_R_X10_show {Z : kv_Z} {G G1 : kg_G} {r : Int32} (h : kjx_show G = some (r, G1)) : kv_M Z (0 + 7) kMX10_show [.ref 0] (kg_w G) (some (.int r)) (kg_w G1) := RX10_show (Z := Z) 0 (G := G) (res := (r, G1)) h
theorem kl_R_X11_show {Z : kv_Z} {G G1 : kg_G} {r : Int32} (h : kjm_show G = some (r, G1)) : kv_M Z (0 + 4) kMX11_show [.ref 28] (kg_w G) (some (.int r)) (kg_w G1) := RX11_show (Z := Z) 0 (G := G) (res := (r, G1)) h
set_option maxRecDepth 20000 in
set_option maxHeartbeats 8000000 in
theorem kl_case_show (C0 : lw_At p s m meth c b Ln xs) (hK : kv_K Z s) (hs0 : s.heap.size = kv_b Z) {G : kg_G} {H : Heap} {locs : List Loc} {L : Array Slot} {i : Int32} (hLs : lv_has L 4 [(0, .ref b), (1, .ref (kv_b Z + 0)), (2, .ref (kv_b Z + 28)), (3, .int i)]) (hi1 : vp_in (i + 1) Ln) (hi2 : vp_in (i + 2) Ln) (hi3 : vp_in (i + 3) Ln) (hP : va_P (kv_D Z) vwCl (kv_w Z (kg_w G)) H) (hS : va_S (kv_A Z) s.heap H locs) {r : Int32} {G1 G2 : kg_G} (h1 : kjx_show G = some (r, G1)) (h2 : kjm_show G1 = some (r, G2)) (hc2 : (kg_w G2).length ≤ 600000) (hs2 : kv_sl (kg_w G2) ≤ 7302250) (kk : ∀ (H1 : Heap) (locs1 : List Loc), va_P (kv_D Z) vwCl (kv_w Z (kg_w G2)) H1 → va_S (kv_A Z) s.heap H1 locs1 → W p Z.1 e room_1 s m #[Value.ref b] below meth c H1 locs1 (kg_w G2).length (kv_sl (kg_w G2)) Q (F0 m 810 L [])) : W p Z.1 e room_1 s m #[Value.ref b] below meth c H locs (kg_w G).length (kv_sl (kg_w G)) Q (F0 m 205 L []) := by
  obtain ⟨hx, hb, hr, hml, hown, hts, hX, hbl, hlocks, hgv⟩ := id C0
  have hbA : ¬ kv_A Z b := by show ¬ kv_b Z ≤ b; rw [← hs0]; exact Nat.not_le.mpr hbl
  refine lv_aload_n hx hb dL_law_205 rfl (lv_at hLs 1 rfl) ?_
  refine kl_callV (M' := kMX10_show) (a := 0) (As := []) (rest := []) C0 hK hs0 hLs.1 (kl_R_X10_show h1) koX10_show rfl rfl rfl kw2_110 kw2_111 kw2_112 rfl (Nat.le_of_ble_eq_true rfl) dL_law_206 (Nat.le_of_ble_eq_true rfl) (Nat.le_trans (kl_R_X11_show (Z := Z) h2).1.1 hc2) (Nat.le_trans (kl_R_X11_show (Z := Z) h2).1.2 hs2) hP hS (fun H locs hP hS => ?_)
  refine lv_aload_n hx hb dL_law_209 rfl (lv_at hLs 2 rfl) ?_
  refine kl_callV (M' := kMX11_show) (a := 28) (As := []) (rest := [.int r]) C0 hK hs0 hLs.1 (kl_R_X11_show h2) koX11_show rfl rfl rfl kw5_61 kw5_62 kw5_63 rfl (Nat.le_of_ble_eq_true rfl) dL_law_210 (Nat.le_of_ble_eq_true rfl) hc2 hs2 hP hS (fun H locs hP hS => ?_)
  refine lv_icmp_eq (tgt := 810) hx hb dL_law_213 rfl (fun _ => ?_) (fun z => absurd rfl z)
  exact kk H locs hP hS
theorem kl_R_X10_trick {Z : kv_Z} {G G1 : kg_G} {a1 : Int32} {a2 : Int32} {r : Int32} (h : kjx_trick G a1 a2 = some (r, G1)) : kv_M Z (0 + 3) kMX10_trick [.ref 0, .int a1, .int a2] (kg_w G) (some (.int r)) (kg_w G1) := by
  obtain ⟨w, hw, e⟩ := Option.map_eq_some_iff.mp h
  cases e
  exact RX10_trick (Z := Z) 0 (G := G) hw
theorem kl_R_X11_trick {Z : kv_Z} {G G1 : kg_G} {a1 : Int32} {a2 : Int32} {r : Int32} (h : kjm_trick G a1 a2 = some (r, G1)) : kv_M Z (0 + 5) kMX11_trick [.ref 28, .int a1, .int a2] (kg_w G) (some (.int r)) (kg_w G1) := by
  obtain ⟨w, hw, e⟩ := Option.map_eq_some_iff.mp h
  cases e
  exact RX11_trick (Z := Z) 0 (G := G) hw
set_option maxRecDepth 20000 in
set_option maxHeartbeats 8000000 in
theorem kl_case_trick (C0 : lw_At p s m meth c b Ln xs) (hK : kv_K Z s) (hs0 : s.heap.size = kv_b Z) {G : kg_G} {H : Heap} {locs : List Loc} {L : Array Slot} {i : Int32} (hLs : lv_has L 4 [(0, .ref b), (1, .ref (kv_b Z + 0)), (2, .ref (kv_b Z + 28)), (3, .int i)]) (hi1 : vp_in (i + 1) Ln) (hi2 : vp_in (i + 2) Ln) (hi3 : vp_in (i + 3) Ln) (hP : va_P (kv_D Z) vwCl (kv_w Z (kg_w G)) H) (hS : va_S (kv_A Z) s.heap H locs) {r : Int32} {G1 G2 : kg_G} (h1 : kjx_trick G (xs (i + 1).toNatClampNeg) (xs (i + 2).toNatClampNeg) = some (r, G1)) (h2 : kjm_trick G1 (xs (i + 1).toNatClampNeg) (xs (i + 2).toNatClampNeg) = some (r, G2)) (hc2 : (kg_w G2).length ≤ 600000) (hs2 : kv_sl (kg_w G2) ≤ 7302250) (kk : ∀ (H1 : Heap) (locs1 : List Loc), va_P (kv_D Z) vwCl (kv_w Z (kg_w G2)) H1 → va_S (kv_A Z) s.heap H1 locs1 → W p Z.1 e room_1 s m #[Value.ref b] below meth c H1 locs1 (kg_w G2).length (kv_sl (kg_w G2)) Q (F0 m 810 L [])) : W p Z.1 e room_1 s m #[Value.ref b] below meth c H locs (kg_w G).length (kv_sl (kg_w G)) Q (F0 m 218 L []) := by
  obtain ⟨hx, hb, hr, hml, hown, hts, hX, hbl, hlocks, hgv⟩ := id C0
  have hbA : ¬ kv_A Z b := by show ¬ kv_b Z ≤ b; rw [← hs0]; exact Nat.not_le.mpr hbl
  refine lv_aload_n hx hb dL_law_218 rfl (lv_at hLs 1 rfl) ?_
  refine lv_aload_n hx hb dL_law_219 rfl (lv_at hLs 0 rfl) ?_
  refine lv_iload_n hx hb dL_law_220 rfl (lv_at hLs 3 rfl) ?_
  refine lv_iconst (v := 1) hx hb dL_law_221 (by decide) ?_
  refine lv_iadd hx hb dL_law_222 ?_
  refine va_sld hx hb hX hbl hbA hS hi1 dL_law_223 ?_
  refine lv_aload_n hx hb dL_law_224 rfl (lv_at hLs 0 rfl) ?_
  refine lv_iload_n hx hb dL_law_225 rfl (lv_at hLs 3 rfl) ?_
  refine lv_iconst (v := 2) hx hb dL_law_226 (by decide) ?_
  refine lv_iadd hx hb dL_law_227 ?_
  refine va_sld hx hb hX hbl hbA hS hi2 dL_law_228 ?_
  refine kl_callV (M' := kMX10_trick) (a := 0) (As := [.int (xs (i + 1).toNatClampNeg), .int (xs (i + 2).toNatClampNeg)]) (rest := []) C0 hK hs0 hLs.1 (kl_R_X10_trick h1) koX10_trick rfl rfl rfl kw2_204 kw2_205 kw2_206 rfl (Nat.le_of_ble_eq_true rfl) dL_law_229 (Nat.le_of_ble_eq_true rfl) (Nat.le_trans (kl_R_X11_trick (Z := Z) h2).1.1 hc2) (Nat.le_trans (kl_R_X11_trick (Z := Z) h2).1.2 hs2) hP hS (fun H locs hP hS => ?_)
  refine lv_aload_n hx hb dL_law_232 rfl (lv_at hLs 2 rfl) ?_
  refine lv_aload_n hx hb dL_law_233 rfl (lv_at hLs 0 rfl) ?_
  refine lv_iload_n hx hb dL_law_234 rfl (lv_at hLs 3 rfl) ?_
  refine lv_iconst (v := 1) hx hb dL_law_235 (by decide) ?_
  refine lv_iadd hx hb dL_law_236 ?_
  refine va_sld hx hb hX hbl hbA hS hi1 dL_law_237 ?_
  refine lv_aload_n hx hb dL_law_238 rfl (lv_at hLs 0 rfl) ?_
  refine lv_iload_n hx hb dL_law_239 rfl (lv_at hLs 3 rfl) ?_
  refine lv_iconst (v := 2) hx hb dL_law_240 (by decide) ?_
  refine lv_iadd hx hb dL_law_241 ?_
  refine va_sld hx hb hX hbl hbA hS hi2 dL_law_242 ?_
  refine kl_callV (M' := kMX11_trick) (a := 28) (As := [.int (xs (i + 1).toNatClampNeg), .int (xs (i + 2).toNatClampNeg)]) (rest := [.int r]) C0 hK hs0 hLs.1 (kl_R_X11_trick h2) koX11_trick rfl rfl rfl kw5_65 kw5_66 kw5_67 rfl (Nat.le_of_ble_eq_true rfl) dL_law_243 (Nat.le_of_ble_eq_true rfl) hc2 hs2 hP hS (fun H locs hP hS => ?_)
  refine lv_icmp_eq (tgt := 810) hx hb dL_law_246 rfl (fun _ => ?_) (fun z => absurd rfl z)
  exact kk H locs hP hS
theorem kl_R_X10_as {Z : kv_Z} {G G1 : kg_G} {a1 : Int32} {a2 : Int32} {r : Int32} (h : kjx_as G a1 a2 = some (r, G1)) : kv_M Z (0 + 1) kMX10_as [.ref 0, .int a1, .int a2] (kg_w G) (some (.int r)) (kg_w G1) := by
  obtain ⟨w, hw, e⟩ := Option.map_eq_some_iff.mp h
  cases e
  exact RX10_as (Z := Z) 0 (G := G) hw
theorem kl_R_X11_as {Z : kv_Z} {G G1 : kg_G} {a1 : Int32} {a2 : Int32} {r : Int32} (h : kjm_as G a1 a2 = some (r, G1)) : kv_M Z (0 + 2) kMX11_as [.ref 28, .int a1, .int a2] (kg_w G) (some (.int r)) (kg_w G1) := by
  obtain ⟨w, hw, e⟩ := Option.map_eq_some_iff.mp h
  cases e
  exact RX11_as (Z := Z) 0 (G := G) hw
set_option maxRecDepth 20000 in
set_option maxHeartbeats 8000000 in
theorem kl_case_as (C0 : lw_At p s m meth c b Ln xs) (hK : kv_K Z s) (hs0 : s.heap.size = kv_b Z) {G : kg_G} {H : Heap} {locs : List Loc} {L : Array Slot} {i : Int32} (hLs : lv_has L 4 [(0, .ref b), (1, .ref (kv_b Z + 0)), (2, .ref (kv_b Z + 28)), (3, .int i)]) (hi1 : vp_in (i + 1) Ln) (hi2 : vp_in (i + 2) Ln) (hi3 : vp_in (i + 3) Ln) (hP : va_P (kv_D Z) vwCl (kv_w Z (kg_w G)) H) (hS : va_S (kv_A Z) s.heap H locs) {r : Int32} {G1 G2 : kg_G} (h1 : kjx_as G (xs (i + 1).toNatClampNeg) (xs (i + 2).toNatClampNeg) = some (r, G1)) (h2 : kjm_as G1 (xs (i + 1).toNatClampNeg) (xs (i + 2).toNatClampNeg) = some (r, G2)) (hc2 : (kg_w G2).length ≤ 600000) (hs2 : kv_sl (kg_w G2) ≤ 7302250) (kk : ∀ (H1 : Heap) (locs1 : List Loc), va_P (kv_D Z) vwCl (kv_w Z (kg_w G2)) H1 → va_S (kv_A Z) s.heap H1 locs1 → W p Z.1 e room_1 s m #[Value.ref b] below meth c H1 locs1 (kg_w G2).length (kv_sl (kg_w G2)) Q (F0 m 810 L [])) : W p Z.1 e room_1 s m #[Value.ref b] below meth c H locs (kg_w G).length (kv_sl (kg_w G)) Q (F0 m 251 L []) := by
  obtain ⟨hx, hb, hr, hml, hown, hts, hX, hbl, hlocks, hgv⟩ := id C0
  have hbA : ¬ kv_A Z b := by show ¬ kv_b Z ≤ b; rw [← hs0]; exact Nat.not_le.mpr hbl
  refine lv_aload_n hx hb dL_law_251 rfl (lv_at hLs 1 rfl) ?_
  refine lv_aload_n hx hb dL_law_252 rfl (lv_at hLs 0 rfl) ?_
  refine lv_iload_n hx hb dL_law_253 rfl (lv_at hLs 3 rfl) ?_
  refine lv_iconst (v := 1) hx hb dL_law_254 (by decide) ?_
  refine lv_iadd hx hb dL_law_255 ?_
  refine va_sld hx hb hX hbl hbA hS hi1 dL_law_256 ?_
  refine lv_aload_n hx hb dL_law_257 rfl (lv_at hLs 0 rfl) ?_
  refine lv_iload_n hx hb dL_law_258 rfl (lv_at hLs 3 rfl) ?_
  refine lv_iconst (v := 2) hx hb dL_law_259 (by decide) ?_
  refine lv_iadd hx hb dL_law_260 ?_
  refine va_sld hx hb hX hbl hbA hS hi2 dL_law_261 ?_
  refine kl_callV (M' := kMX10_as) (a := 0) (As := [.int (xs (i + 1).toNatClampNeg), .int (xs (i + 2).toNatClampNeg)]) (rest := []) C0 hK hs0 hLs.1 (kl_R_X10_as h1) koX10_as rfl rfl rfl kw3_72 kw3_73 kw3_74 rfl (Nat.le_of_ble_eq_true rfl) dL_law_262 (Nat.le_of_ble_eq_true rfl) (Nat.le_trans (kl_R_X11_as (Z := Z) h2).1.1 hc2) (Nat.le_trans (kl_R_X11_as (Z := Z) h2).1.2 hs2) hP hS (fun H locs hP hS => ?_)
  refine lv_aload_n hx hb dL_law_265 rfl (lv_at hLs 2 rfl) ?_
  refine lv_aload_n hx hb dL_law_266 rfl (lv_at hLs 0 rfl) ?_
  refine lv_iload_n hx hb dL_law_267 rfl (lv_at hLs 3 rfl) ?_
  refine lv_iconst (v := 1) hx hb dL_law_268 (by decide) ?_
  refine lv_iadd hx hb dL_law_269 ?_
  refine va_sld hx hb hX hbl hbA hS hi1 dL_law_270 ?_
  refine lv_aload_n hx hb dL_law_271 rfl (lv_at hLs 0 rfl) ?_
  refine lv_iload_n hx hb dL_law_272 rfl (lv_at hLs 3 rfl) ?_
  refine lv_iconst (v := 2) hx hb dL_law_273 (by decide) ?_
  refine lv_iadd hx hb dL_law_274 ?_
  refine va_sld hx hb hX hbl hbA hS hi2 dL_law_275 ?_
  refine kl_callV (M' := kMX11_as) (a := 28) (As := [.int (xs (i + 1).toNatClampNeg), .int (xs (i + 2).toNatClampNeg)]) (rest := [.int r]) C0 hK hs0 hLs.1 (kl_R_X11_as h2) koX11_as rfl rfl rfl kw5_120 kw5_121 kw5_122 rfl (Nat.le_of_ble_eq_true rfl) dL_law_276 (Nat.le_of_ble_eq_true rfl) hc2 hs2 hP hS (fun H locs hP hS => ?_)
  refine lv_icmp_eq (tgt := 810) hx hb dL_law_279 rfl (fun _ => ?_) (fun z => absurd rfl z)
  exact kk H locs hP hS
theorem kl_R_X10_person {Z : kv_Z} {G G1 : kg_G} {a1 : Int32} {a2 : Int32} {r : Int32} (h : kjx_person G a1 a2 = some (r, G1)) : kv_M Z (0 + 3) kMX10_person [.ref 0, .int a1, .int a2] (kg_w G) (some (.int r)) (kg_w G1) := by
  obtain ⟨w, hw, e⟩ := Option.map_eq_some_iff.mp h
  cases e
  exact RX10_person (Z := Z) 0 (G := G) hw
theorem kl_R_X11_person {Z : kv_Z} {G G1 : kg_G} {a1 : Int32} {a2 : Int32} {r : Int32} (h : kjm_person G a1 a2 = some (r, G1)) : kv_M Z (0 + 4) kMX11_person [.ref 28, .int a1, .int a2] (kg_w G) (some (.int r)) (kg_w G1) := by
  obtain ⟨w, hw, e⟩ := Option.map_eq_some_iff.mp h
  cases e
  exact RX11_person (Z := Z) 0 (G := G) hw
set_option maxRecDepth 20000 in
set_option maxHeartbeats 8000000 in
theorem kl_case_person (C0 : lw_At p s m meth c b Ln xs) (hK : kv_K Z s) (hs0 : s.heap.size = kv_b Z) {G : kg_G} {H : Heap} {locs : List Loc} {L : Array Slot} {i : Int32} (hLs : lv_has L 4 [(0, .ref b), (1, .ref (kv_b Z + 0)), (2, .ref (kv_b Z + 28)), (3, .int i)]) (hi1 : vp_in (i + 1) Ln) (hi2 : vp_in (i + 2) Ln) (hi3 : vp_in (i + 3) Ln) (hP : va_P (kv_D Z) vwCl (kv_w Z (kg_w G)) H) (hS : va_S (kv_A Z) s.heap H locs) {r : Int32} {G1 G2 : kg_G} (h1 : kjx_person G (xs (i + 1).toNatClampNeg) (xs (i + 2).toNatClampNeg) = some (r, G1)) (h2 : kjm_person G1 (xs (i + 1).toNatClampNeg) (xs (i + 2).toNatClampNeg) = some (r, G2)) (hc2 : (kg_w G2).length ≤ 600000) (hs2 : kv_sl (kg_w G2) ≤ 7302250) (kk : ∀ (H1 : Heap) (locs1 : List Loc), va_P (kv_D Z) vwCl (kv_w Z (kg_w G2)) H1 → va_S (kv_A Z) s.heap H1 locs1 → W p Z.1 e room_1 s m #[Value.ref b] below meth c H1 locs1 (kg_w G2).length (kv_sl (kg_w G2)) Q (F0 m 810 L [])) : W p Z.1 e room_1 s m #[Value.ref b] below meth c H locs (kg_w G).length (kv_sl (kg_w G)) Q (F0 m 284 L []) := by
  obtain ⟨hx, hb, hr, hml, hown, hts, hX, hbl, hlocks, hgv⟩ := id C0
  have hbA : ¬ kv_A Z b := by show ¬ kv_b Z ≤ b; rw [← hs0]; exact Nat.not_le.mpr hbl
  refine lv_aload_n hx hb dL_law_284 rfl (lv_at hLs 1 rfl) ?_
  refine lv_aload_n hx hb dL_law_285 rfl (lv_at hLs 0 rfl) ?_
  refine lv_iload_n hx hb dL_law_286 rfl (lv_at hLs 3 rfl) ?_
  refine lv_iconst (v := 1) hx hb dL_law_287 (by decide) ?_
  refine lv_iadd hx hb dL_law_288 ?_
  refine va_sld hx hb hX hbl hbA hS hi1 dL_law_289 ?_
  refine lv_aload_n hx hb dL_law_290 rfl (lv_at hLs 0 rfl) ?_
  refine lv_iload_n hx hb dL_law_291 rfl (lv_at hLs 3 rfl) ?_
  refine lv_iconst (v := 2) hx hb dL_law_292 (by decide) ?_
  refine lv_iadd hx hb dL_law_293 ?_
  refine va_sld hx hb hX hbl hbA hS hi2 dL_law_294 ?_
  refine kl_callV (M' := kMX10_person) (a := 0) (As := [.int (xs (i + 1).toNatClampNeg), .int (xs (i + 2).toNatClampNeg)]) (rest := []) C0 hK hs0 hLs.1 (kl_R_X10_person h1) koX10_person rfl rfl rfl kw3_83 kw3_84 kw3_85 rfl (Nat.le_of_ble_eq_true rfl) dL_law_295 (Nat.le_of_ble_eq_true rfl) (Nat.le_trans (kl_R_X11_person (Z := Z) h2).1.1 hc2) (Nat.le_trans (kl_R_X11_person (Z := Z) h2).1.2 hs2) hP hS (fun H locs hP hS => ?_)
  refine lv_aload_n hx hb dL_law_298 rfl (lv_at hLs 2 rfl) ?_
  refine lv_aload_n hx hb dL_law_299 rfl (lv_at hLs 0 rfl) ?_
  refine lv_iload_n hx hb dL_law_300 rfl (lv_at hLs 3 rfl) ?_
  refine lv_iconst (v := 1) hx hb dL_law_301 (by decide) ?_
  refine lv_iadd hx hb dL_law_302 ?_
  refine va_sld hx hb hX hbl hbA hS hi1 dL_law_303 ?_
  refine lv_aload_n hx hb dL_law_304 rfl (lv_at hLs 0 rfl) ?_
  refine lv_iload_n hx hb dL_law_305 rfl (lv_at hLs 3 rfl) ?_
  refine lv_iconst (v := 2) hx hb dL_law_306 (by decide) ?_
  refine lv_iadd hx hb dL_law_307 ?_
  refine va_sld hx hb hX hbl hbA hS hi2 dL_law_308 ?_
  refine kl_callV (M' := kMX11_person) (a := 28) (As := [.int (xs (i + 1).toNatClampNeg), .int (xs (i + 2).toNatClampNeg)]) (rest := [.int r]) C0 hK hs0 hLs.1 (kl_R_X11_person h2) koX11_person rfl rfl rfl kw5_125 kw5_126 kw5_127 rfl (Nat.le_of_ble_eq_true rfl) dL_law_309 (Nat.le_of_ble_eq_true rfl) hc2 hs2 hP hS (fun H locs hP hS => ?_)
  refine lv_icmp_eq (tgt := 810) hx hb dL_law_312 rfl (fun _ => ?_) (fun z => absurd rfl z)
  exact kk H locs hP hS
theorem kl_R_X10_cast {Z : kv_Z} {G G1 : kg_G} {a1 : Int32} {a2 : Int32} {r : Int32} (h : kjx_cast G a1 a2 = some (r, G1)) : kv_M Z (0 + 4) kMX10_cast [.ref 0, .int a1, .int a2] (kg_w G) (some (.int r)) (kg_w G1) := RX10_cast (Z := Z) 0 (G := G) (res := (r, G1)) h
theorem kl_R_X11_cast {Z : kv_Z} {G G1 : kg_G} {a1 : Int32} {a2 : Int32} {r : Int32} (h : kjm_cast G a1 a2 = some (r, G1)) : kv_M Z (0 + 4) kMX11_cast [.ref 28, .int a1, .int a2] (kg_w G) (some (.int r)) (kg_w G1) := RX11_cast (Z := Z) 0 (G := G) (res := (r, G1)) h
set_option maxRecDepth 20000 in
set_option maxHeartbeats 8000000 in
theorem kl_case_cast (C0 : lw_At p s m meth c b Ln xs) (hK : kv_K Z s) (hs0 : s.heap.size = kv_b Z) {G : kg_G} {H : Heap} {locs : List Loc} {L : Array Slot} {i : Int32} (hLs : lv_has L 4 [(0, .ref b), (1, .ref (kv_b Z + 0)), (2, .ref (kv_b Z + 28)), (3, .int i)]) (hi1 : vp_in (i + 1) Ln) (hi2 : vp_in (i + 2) Ln) (hi3 : vp_in (i + 3) Ln) (hP : va_P (kv_D Z) vwCl (kv_w Z (kg_w G)) H) (hS : va_S (kv_A Z) s.heap H locs) {r : Int32} {G1 G2 : kg_G} (h1 : kjx_cast G (xs (i + 1).toNatClampNeg) (xs (i + 2).toNatClampNeg) = some (r, G1)) (h2 : kjm_cast G1 (xs (i + 1).toNatClampNeg) (xs (i + 2).toNatClampNeg) = some (r, G2)) (hc2 : (kg_w G2).length ≤ 600000) (hs2 : kv_sl (kg_w G2) ≤ 7302250) (kk : ∀ (H1 : Heap) (locs1 : List Loc), va_P (kv_D Z) vwCl (kv_w Z (kg_w G2)) H1 → va_S (kv_A Z) s.heap H1 locs1 → W p Z.1 e room_1 s m #[Value.ref b] below meth c H1 locs1 (kg_w G2).length (kv_sl (kg_w G2)) Q (F0 m 810 L [])) : W p Z.1 e room_1 s m #[Value.ref b] below meth c H locs (kg_w G).length (kv_sl (kg_w G)) Q (F0 m 317 L []) := by
  obtain ⟨hx, hb, hr, hml, hown, hts, hX, hbl, hlocks, hgv⟩ := id C0
  have hbA : ¬ kv_A Z b := by show ¬ kv_b Z ≤ b; rw [← hs0]; exact Nat.not_le.mpr hbl
  refine lv_aload_n hx hb dL_law_317 rfl (lv_at hLs 1 rfl) ?_
  refine lv_aload_n hx hb dL_law_318 rfl (lv_at hLs 0 rfl) ?_
  refine lv_iload_n hx hb dL_law_319 rfl (lv_at hLs 3 rfl) ?_
  refine lv_iconst (v := 1) hx hb dL_law_320 (by decide) ?_
  refine lv_iadd hx hb dL_law_321 ?_
  refine va_sld hx hb hX hbl hbA hS hi1 dL_law_322 ?_
  refine lv_aload_n hx hb dL_law_323 rfl (lv_at hLs 0 rfl) ?_
  refine lv_iload_n hx hb dL_law_324 rfl (lv_at hLs 3 rfl) ?_
  refine lv_iconst (v := 2) hx hb dL_law_325 (by decide) ?_
  refine lv_iadd hx hb dL_law_326 ?_
  refine va_sld hx hb hX hbl hbA hS hi2 dL_law_327 ?_
  refine kl_callV (M' := kMX10_cast) (a := 0) (As := [.int (xs (i + 1).toNatClampNeg), .int (xs (i + 2).toNatClampNeg)]) (rest := []) C0 hK hs0 hLs.1 (kl_R_X10_cast h1) koX10_cast rfl rfl rfl kw3_119 kw3_120 kw3_121 rfl (Nat.le_of_ble_eq_true rfl) dL_law_328 (Nat.le_of_ble_eq_true rfl) (Nat.le_trans (kl_R_X11_cast (Z := Z) h2).1.1 hc2) (Nat.le_trans (kl_R_X11_cast (Z := Z) h2).1.2 hs2) hP hS (fun H locs hP hS => ?_)
  refine lv_aload_n hx hb dL_law_331 rfl (lv_at hLs 2 rfl) ?_
  refine lv_aload_n hx hb dL_law_332 rfl (lv_at hLs 0 rfl) ?_
  refine lv_iload_n hx hb dL_law_333 rfl (lv_at hLs 3 rfl) ?_
  refine lv_iconst (v := 1) hx hb dL_law_334 (by decide) ?_
  refine lv_iadd hx hb dL_law_335 ?_
  refine va_sld hx hb hX hbl hbA hS hi1 dL_law_336 ?_
  refine lv_aload_n hx hb dL_law_337 rfl (lv_at hLs 0 rfl) ?_
  refine lv_iload_n hx hb dL_law_338 rfl (lv_at hLs 3 rfl) ?_
  refine lv_iconst (v := 2) hx hb dL_law_339 (by decide) ?_
  refine lv_iadd hx hb dL_law_340 ?_
  refine va_sld hx hb hX hbl hbA hS hi2 dL_law_341 ?_
  refine kl_callV (M' := kMX11_cast) (a := 28) (As := [.int (xs (i + 1).toNatClampNeg), .int (xs (i + 2).toNatClampNeg)]) (rest := [.int r]) C0 hK hs0 hLs.1 (kl_R_X11_cast h2) koX11_cast rfl rfl rfl kw5_153 kw5_154 kw5_155 rfl (Nat.le_of_ble_eq_true rfl) dL_law_342 (Nat.le_of_ble_eq_true rfl) hc2 hs2 hP hS (fun H locs hP hS => ?_)
  refine lv_icmp_eq (tgt := 810) hx hb dL_law_345 rfl (fun _ => ?_) (fun z => absurd rfl z)
  exact kk H locs hP hS
theorem kl_R_X10_drop {Z : kv_Z} {G G1 : kg_G} {a1 : Int32} {a2 : Int32} {r : Int32} (h : kjx_drop G a1 a2 = some (r, G1)) : kv_M Z (0 + 1) kMX10_drop [.ref 0, .int a1, .int a2] (kg_w G) (some (.int r)) (kg_w G1) := RX10_drop (Z := Z) 0 (G := G) (res := (r, G1)) h
theorem kl_R_X11_drop {Z : kv_Z} {G G1 : kg_G} {a1 : Int32} {a2 : Int32} {r : Int32} (h : kjm_drop G a1 a2 = some (r, G1)) : kv_M Z (0 + 2) kMX11_drop [.ref 28, .int a1, .int a2] (kg_w G) (some (.int r)) (kg_w G1) := RX11_drop (Z := Z) 0 (G := G) (res := (r, G1)) h
set_option maxRecDepth 20000 in
set_option maxHeartbeats 8000000 in
theorem kl_case_drop (C0 : lw_At p s m meth c b Ln xs) (hK : kv_K Z s) (hs0 : s.heap.size = kv_b Z) {G : kg_G} {H : Heap} {locs : List Loc} {L : Array Slot} {i : Int32} (hLs : lv_has L 4 [(0, .ref b), (1, .ref (kv_b Z + 0)), (2, .ref (kv_b Z + 28)), (3, .int i)]) (hi1 : vp_in (i + 1) Ln) (hi2 : vp_in (i + 2) Ln) (hi3 : vp_in (i + 3) Ln) (hP : va_P (kv_D Z) vwCl (kv_w Z (kg_w G)) H) (hS : va_S (kv_A Z) s.heap H locs) {r : Int32} {G1 G2 : kg_G} (h1 : kjx_drop G (xs (i + 1).toNatClampNeg) (xs (i + 2).toNatClampNeg) = some (r, G1)) (h2 : kjm_drop G1 (xs (i + 1).toNatClampNeg) (xs (i + 2).toNatClampNeg) = some (r, G2)) (hc2 : (kg_w G2).length ≤ 600000) (hs2 : kv_sl (kg_w G2) ≤ 7302250) (kk : ∀ (H1 : Heap) (locs1 : List Loc), va_P (kv_D Z) vwCl (kv_w Z (kg_w G2)) H1 → va_S (kv_A Z) s.heap H1 locs1 → W p Z.1 e room_1 s m #[Value.ref b] below meth c H1 locs1 (kg_w G2).length (kv_sl (kg_w G2)) Q (F0 m 810 L [])) : W p Z.1 e room_1 s m #[Value.ref b] below meth c H locs (kg_w G).length (kv_sl (kg_w G)) Q (F0 m 350 L []) := by
  obtain ⟨hx, hb, hr, hml, hown, hts, hX, hbl, hlocks, hgv⟩ := id C0
  have hbA : ¬ kv_A Z b := by show ¬ kv_b Z ≤ b; rw [← hs0]; exact Nat.not_le.mpr hbl
  refine lv_aload_n hx hb dL_law_350 rfl (lv_at hLs 1 rfl) ?_
  refine lv_aload_n hx hb dL_law_351 rfl (lv_at hLs 0 rfl) ?_
  refine lv_iload_n hx hb dL_law_352 rfl (lv_at hLs 3 rfl) ?_
  refine lv_iconst (v := 1) hx hb dL_law_353 (by decide) ?_
  refine lv_iadd hx hb dL_law_354 ?_
  refine va_sld hx hb hX hbl hbA hS hi1 dL_law_355 ?_
  refine lv_aload_n hx hb dL_law_356 rfl (lv_at hLs 0 rfl) ?_
  refine lv_iload_n hx hb dL_law_357 rfl (lv_at hLs 3 rfl) ?_
  refine lv_iconst (v := 2) hx hb dL_law_358 (by decide) ?_
  refine lv_iadd hx hb dL_law_359 ?_
  refine va_sld hx hb hX hbl hbA hS hi2 dL_law_360 ?_
  refine kl_callV (M' := kMX10_drop) (a := 0) (As := [.int (xs (i + 1).toNatClampNeg), .int (xs (i + 2).toNatClampNeg)]) (rest := []) C0 hK hs0 hLs.1 (kl_R_X10_drop h1) koX10_drop rfl rfl rfl kw3_128 kw3_129 kw3_130 rfl (Nat.le_of_ble_eq_true rfl) dL_law_361 (Nat.le_of_ble_eq_true rfl) (Nat.le_trans (kl_R_X11_drop (Z := Z) h2).1.1 hc2) (Nat.le_trans (kl_R_X11_drop (Z := Z) h2).1.2 hs2) hP hS (fun H locs hP hS => ?_)
  refine lv_aload_n hx hb dL_law_364 rfl (lv_at hLs 2 rfl) ?_
  refine lv_aload_n hx hb dL_law_365 rfl (lv_at hLs 0 rfl) ?_
  refine lv_iload_n hx hb dL_law_366 rfl (lv_at hLs 3 rfl) ?_
  refine lv_iconst (v := 1) hx hb dL_law_367 (by decide) ?_
  refine lv_iadd hx hb dL_law_368 ?_
  refine va_sld hx hb hX hbl hbA hS hi1 dL_law_369 ?_
  refine lv_aload_n hx hb dL_law_370 rfl (lv_at hLs 0 rfl) ?_
  refine lv_iload_n hx hb dL_law_371 rfl (lv_at hLs 3 rfl) ?_
  refine lv_iconst (v := 2) hx hb dL_law_372 (by decide) ?_
  refine lv_iadd hx hb dL_law_373 ?_
  refine va_sld hx hb hX hbl hbA hS hi2 dL_law_374 ?_
  refine kl_callV (M' := kMX11_drop) (a := 28) (As := [.int (xs (i + 1).toNatClampNeg), .int (xs (i + 2).toNatClampNeg)]) (rest := [.int r]) C0 hK hs0 hLs.1 (kl_R_X11_drop h2) koX11_drop rfl rfl rfl kw5_157 kw5_158 kw5_159 rfl (Nat.le_of_ble_eq_true rfl) dL_law_375 (Nat.le_of_ble_eq_true rfl) hc2 hs2 hP hS (fun H locs hP hS => ?_)
  refine lv_icmp_eq (tgt := 810) hx hb dL_law_378 rfl (fun _ => ?_) (fun z => absurd rfl z)
  exact kk H locs hP hS
theorem kl_R_X10_clear {Z : kv_Z} {G G1 : kg_G} {r : Int32} (h : kjx_clear G = some (r, G1)) : kv_M Z (0 + 1) kMX10_clear [.ref 0] (kg_w G) (some (.int r)) (kg_w G1) := RX10_clear (Z := Z) 0 (G := G) (res := (r, G1)) h
theorem kl_R_X11_clear {Z : kv_Z} {G G1 : kg_G} {r : Int32} (h : kjm_clear G = some (r, G1)) : kv_M Z (0 + 1) kMX11_clear [.ref 28] (kg_w G) (some (.int r)) (kg_w G1) := RX11_clear (Z := Z) 0 (G := G) (res := (r, G1)) h
set_option maxRecDepth 20000 in
set_option maxHeartbeats 8000000 in
theorem kl_case_clear (C0 : lw_At p s m meth c b Ln xs) (hK : kv_K Z s) (hs0 : s.heap.size = kv_b Z) {G : kg_G} {H : Heap} {locs : List Loc} {L : Array Slot} {i : Int32} (hLs : lv_has L 4 [(0, .ref b), (1, .ref (kv_b Z + 0)), (2, .ref (kv_b Z + 28)), (3, .int i)]) (hi1 : vp_in (i + 1) Ln) (hi2 : vp_in (i + 2) Ln) (hi3 : vp_in (i + 3) Ln) (hP : va_P (kv_D Z) vwCl (kv_w Z (kg_w G)) H) (hS : va_S (kv_A Z) s.heap H locs) {r : Int32} {G1 G2 : kg_G} (h1 : kjx_clear G = some (r, G1)) (h2 : kjm_clear G1 = some (r, G2)) (hc2 : (kg_w G2).length ≤ 600000) (hs2 : kv_sl (kg_w G2) ≤ 7302250) (kk : ∀ (H1 : Heap) (locs1 : List Loc), va_P (kv_D Z) vwCl (kv_w Z (kg_w G2)) H1 → va_S (kv_A Z) s.heap H1 locs1 → W p Z.1 e room_1 s m #[Value.ref b] below meth c H1 locs1 (kg_w G2).length (kv_sl (kg_w G2)) Q (F0 m 810 L [])) : W p Z.1 e room_1 s m #[Value.ref b] below meth c H locs (kg_w G).length (kv_sl (kg_w G)) Q (F0 m 383 L []) := by
  obtain ⟨hx, hb, hr, hml, hown, hts, hX, hbl, hlocks, hgv⟩ := id C0
  have hbA : ¬ kv_A Z b := by show ¬ kv_b Z ≤ b; rw [← hs0]; exact Nat.not_le.mpr hbl
  refine lv_aload_n hx hb dL_law_383 rfl (lv_at hLs 1 rfl) ?_
  refine kl_callV (M' := kMX10_clear) (a := 0) (As := []) (rest := []) C0 hK hs0 hLs.1 (kl_R_X10_clear h1) koX10_clear rfl rfl rfl kw3_132 kw3_133 kw3_134 rfl (Nat.le_of_ble_eq_true rfl) dL_law_384 (Nat.le_of_ble_eq_true rfl) (Nat.le_trans (kl_R_X11_clear (Z := Z) h2).1.1 hc2) (Nat.le_trans (kl_R_X11_clear (Z := Z) h2).1.2 hs2) hP hS (fun H locs hP hS => ?_)
  refine lv_aload_n hx hb dL_law_387 rfl (lv_at hLs 2 rfl) ?_
  refine kl_callV (M' := kMX11_clear) (a := 28) (As := []) (rest := [.int r]) C0 hK hs0 hLs.1 (kl_R_X11_clear h2) koX11_clear rfl rfl rfl kw5_161 kw5_162 kw5_163 rfl (Nat.le_of_ble_eq_true rfl) dL_law_388 (Nat.le_of_ble_eq_true rfl) hc2 hs2 hP hS (fun H locs hP hS => ?_)
  refine lv_icmp_eq (tgt := 810) hx hb dL_law_391 rfl (fun _ => ?_) (fun z => absurd rfl z)
  exact kk H locs hP hS
theorem kl_R_X10_fill {Z : kv_Z} {G G1 : kg_G} {r : Int32} (h : kjx_fill G = some (r, G1)) : kv_M Z (0 + 12) kMX10_fill [.ref 0] (kg_w G) (some (.int r)) (kg_w G1) := RX10_fill (Z := Z) 0 (G := G) (res := (r, G1)) h
theorem kl_R_X11_fill {Z : kv_Z} {G G1 : kg_G} {r : Int32} (h : kjm_fill G = some (r, G1)) : kv_M Z (0 + 5) kMX11_fill [.ref 28] (kg_w G) (some (.int r)) (kg_w G1) := RX11_fill (Z := Z) 0 (G := G) (res := (r, G1)) h
set_option maxRecDepth 20000 in
set_option maxHeartbeats 8000000 in
theorem kl_case_fill (C0 : lw_At p s m meth c b Ln xs) (hK : kv_K Z s) (hs0 : s.heap.size = kv_b Z) {G : kg_G} {H : Heap} {locs : List Loc} {L : Array Slot} {i : Int32} (hLs : lv_has L 4 [(0, .ref b), (1, .ref (kv_b Z + 0)), (2, .ref (kv_b Z + 28)), (3, .int i)]) (hi1 : vp_in (i + 1) Ln) (hi2 : vp_in (i + 2) Ln) (hi3 : vp_in (i + 3) Ln) (hP : va_P (kv_D Z) vwCl (kv_w Z (kg_w G)) H) (hS : va_S (kv_A Z) s.heap H locs) {r : Int32} {G1 G2 : kg_G} (h1 : kjx_fill G = some (r, G1)) (h2 : kjm_fill G1 = some (r, G2)) (hc2 : (kg_w G2).length ≤ 600000) (hs2 : kv_sl (kg_w G2) ≤ 7302250) (kk : ∀ (H1 : Heap) (locs1 : List Loc), va_P (kv_D Z) vwCl (kv_w Z (kg_w G2)) H1 → va_S (kv_A Z) s.heap H1 locs1 → W p Z.1 e room_1 s m #[Value.ref b] below meth c H1 locs1 (kg_w G2).length (kv_sl (kg_w G2)) Q (F0 m 810 L [])) : W p Z.1 e room_1 s m #[Value.ref b] below meth c H locs (kg_w G).length (kv_sl (kg_w G)) Q (F0 m 396 L []) := by
  obtain ⟨hx, hb, hr, hml, hown, hts, hX, hbl, hlocks, hgv⟩ := id C0
  have hbA : ¬ kv_A Z b := by show ¬ kv_b Z ≤ b; rw [← hs0]; exact Nat.not_le.mpr hbl
  refine lv_aload_n hx hb dL_law_396 rfl (lv_at hLs 1 rfl) ?_
  refine kl_callV (M' := kMX10_fill) (a := 0) (As := []) (rest := []) C0 hK hs0 hLs.1 (kl_R_X10_fill h1) koX10_fill rfl rfl rfl kw3_136 kw3_137 kw3_138 rfl (Nat.le_of_ble_eq_true rfl) dL_law_397 (Nat.le_of_ble_eq_true rfl) (Nat.le_trans (kl_R_X11_fill (Z := Z) h2).1.1 hc2) (Nat.le_trans (kl_R_X11_fill (Z := Z) h2).1.2 hs2) hP hS (fun H locs hP hS => ?_)
  refine lv_aload_n hx hb dL_law_400 rfl (lv_at hLs 2 rfl) ?_
  refine kl_callV (M' := kMX11_fill) (a := 28) (As := []) (rest := [.int r]) C0 hK hs0 hLs.1 (kl_R_X11_fill h2) koX11_fill rfl rfl rfl kw5_219 kw5_220 kw5_221 rfl (Nat.le_of_ble_eq_true rfl) dL_law_401 (Nat.le_of_ble_eq_true rfl) hc2 hs2 hP hS (fun H locs hP hS => ?_)
  refine lv_icmp_eq (tgt := 810) hx hb dL_law_404 rfl (fun _ => ?_) (fun z => absurd rfl z)
  exact kk H locs hP hS
theorem kl_R_X10_night {Z : kv_Z} {G G1 : kg_G} {r : Int32} (h : kjx_night G = some (r, G1)) : kv_M Z (0 + 3) kMX10_night [.ref 0] (kg_w G) (some (.int r)) (kg_w G1) := RX10_night (Z := Z) 0 (G := G) (res := (r, G1)) h
theorem kl_R_X11_night {Z : kv_Z} {G G1 : kg_G} {r : Int32} (h : kjm_night G = some (r, G1)) : kv_M Z (0 + 4) kMX11_night [.ref 28] (kg_w G) (some (.int r)) (kg_w G1) := RX11_night (Z := Z) 0 (G := G) (res := (r, G1)) h
set_option maxRecDepth 20000 in
set_option maxHeartbeats 8000000 in
theorem kl_case_night (C0 : lw_At p s m meth c b Ln xs) (hK : kv_K Z s) (hs0 : s.heap.size = kv_b Z) {G : kg_G} {H : Heap} {locs : List Loc} {L : Array Slot} {i : Int32} (hLs : lv_has L 4 [(0, .ref b), (1, .ref (kv_b Z + 0)), (2, .ref (kv_b Z + 28)), (3, .int i)]) (hi1 : vp_in (i + 1) Ln) (hi2 : vp_in (i + 2) Ln) (hi3 : vp_in (i + 3) Ln) (hP : va_P (kv_D Z) vwCl (kv_w Z (kg_w G)) H) (hS : va_S (kv_A Z) s.heap H locs) {r : Int32} {G1 G2 : kg_G} (h1 : kjx_night G = some (r, G1)) (h2 : kjm_night G1 = some (r, G2)) (hc2 : (kg_w G2).length ≤ 600000) (hs2 : kv_sl (kg_w G2) ≤ 7302250) (kk : ∀ (H1 : Heap) (locs1 : List Loc), va_P (kv_D Z) vwCl (kv_w Z (kg_w G2)) H1 → va_S (kv_A Z) s.heap H1 locs1 → W p Z.1 e room_1 s m #[Value.ref b] below meth c H1 locs1 (kg_w G2).length (kv_sl (kg_w G2)) Q (F0 m 810 L [])) : W p Z.1 e room_1 s m #[Value.ref b] below meth c H locs (kg_w G).length (kv_sl (kg_w G)) Q (F0 m 409 L []) := by
  obtain ⟨hx, hb, hr, hml, hown, hts, hX, hbl, hlocks, hgv⟩ := id C0
  have hbA : ¬ kv_A Z b := by show ¬ kv_b Z ≤ b; rw [← hs0]; exact Nat.not_le.mpr hbl
  refine lv_aload_n hx hb dL_law_409 rfl (lv_at hLs 1 rfl) ?_
  refine kl_callV (M' := kMX10_night) (a := 0) (As := []) (rest := []) C0 hK hs0 hLs.1 (kl_R_X10_night h1) koX10_night rfl rfl rfl kw3_180 kw3_181 kw3_182 rfl (Nat.le_of_ble_eq_true rfl) dL_law_410 (Nat.le_of_ble_eq_true rfl) (Nat.le_trans (kl_R_X11_night (Z := Z) h2).1.1 hc2) (Nat.le_trans (kl_R_X11_night (Z := Z) h2).1.2 hs2) hP hS (fun H locs hP hS => ?_)
  refine lv_aload_n hx hb dL_law_413 rfl (lv_at hLs 2 rfl) ?_
  refine kl_callV (M' := kMX11_night) (a := 28) (As := []) (rest := [.int r]) C0 hK hs0 hLs.1 (kl_R_X11_night h2) koX11_night rfl rfl rfl kw5_165 kw5_166 kw5_167 rfl (Nat.le_of_ble_eq_true rfl) dL_law_414 (Nat.le_of_ble_eq_true rfl) hc2 hs2 hP hS (fun H locs hP hS => ?_)
  refine lv_icmp_eq (tgt := 810) hx hb dL_law_417 rfl (fun _ => ?_) (fun z => absurd rfl z)
  exact kk H locs hP hS
theorem kl_R_X10_move {Z : kv_Z} {G G1 : kg_G} {a1 : Int32} {r : Int32} (h : kjx_move G a1 = some (r, G1)) : kv_M Z (0 + 1) kMX10_move [.ref 0, .int a1] (kg_w G) (some (.int r)) (kg_w G1) := RX10_move (Z := Z) 0 (G := G) (res := (r, G1)) h
theorem kl_R_X11_move {Z : kv_Z} {G G1 : kg_G} {a1 : Int32} {r : Int32} (h : kjm_move G a1 = some (r, G1)) : kv_M Z (0 + 1) kMX11_move [.ref 28, .int a1] (kg_w G) (some (.int r)) (kg_w G1) := by
  have h := Option.some.inj h
  exact RX11_move (Z := Z) 0 (G := G) (res := (r, G1)) h
theorem kl_bool {R : Room} {args : Array Value} {H : Heap} {locs : List Loc} {cells slots pc A B q1 q2 : Nat} {L : Array Slot} {rest : List Value} {x : Int32} {o1 o2 : Int} (hx : p.tables.exec = Jvm.exec) (hb : c.code = code) (d1 : decode code pc = .ok (.ifCond .eq o1, 3)) (t1 : (pc : Int) + o1 = (A : Int)) (d2 : decode code (pc + 3) = .ok (.iconst 1, 1)) (t2 : pc + 3 + 1 = q1) (d3 : decode code q1 = .ok (.goto o2, 3)) (t3 : (q1 : Int) + o2 = (B : Int)) (d4 : decode code A = .ok (.iconst 0, 1)) (t4 : A + 1 = q2) (t5 : q2 = B)
    (kk : W p Z.1 e R s m args below meth c H locs cells slots Q (F0 m B L (.int (kj_z x) :: rest))) : W p Z.1 e R s m args below meth c H locs cells slots Q (F0 m pc L (.int x :: rest)) := by
  subst t2
  subst t4
  subst t5
  refine lv_if_eq (tgt := A) hx hb d1 t1 (fun h => ?_) (fun h => ?_)
  · refine lv_iconst (v := 0) hx hb d4 (by decide) ?_
    rw [kj_z, if_pos h] at kk
    exact kk
  · refine lv_iconst (v := 1) hx hb d2 (by decide) ?_
    refine lv_goto hx hb d3 t3 ?_
    rw [kj_z, if_neg h] at kk
    exact kk
set_option maxRecDepth 20000 in
set_option maxHeartbeats 8000000 in
theorem kl_case_move (C0 : lw_At p s m meth c b Ln xs) (hK : kv_K Z s) (hs0 : s.heap.size = kv_b Z) {G : kg_G} {H : Heap} {locs : List Loc} {L : Array Slot} {i : Int32} (hLs : lv_has L 4 [(0, .ref b), (1, .ref (kv_b Z + 0)), (2, .ref (kv_b Z + 28)), (3, .int i)]) (hi1 : vp_in (i + 1) Ln) (hi2 : vp_in (i + 2) Ln) (hi3 : vp_in (i + 3) Ln) (hP : va_P (kv_D Z) vwCl (kv_w Z (kg_w G)) H) (hS : va_S (kv_A Z) s.heap H locs) {r : Int32} {G1 G2 : kg_G} (h1 : kjx_move G (kj_z (xs (i + 1).toNatClampNeg)) = some (r, G1)) (h2 : kjm_move G1 (kj_z (xs (i + 1).toNatClampNeg)) = some (r, G2)) (hc2 : (kg_w G2).length ≤ 600000) (hs2 : kv_sl (kg_w G2) ≤ 7302250) (kk : ∀ (H1 : Heap) (locs1 : List Loc), va_P (kv_D Z) vwCl (kv_w Z (kg_w G2)) H1 → va_S (kv_A Z) s.heap H1 locs1 → W p Z.1 e room_1 s m #[Value.ref b] below meth c H1 locs1 (kg_w G2).length (kv_sl (kg_w G2)) Q (F0 m 810 L [])) : W p Z.1 e room_1 s m #[Value.ref b] below meth c H locs (kg_w G).length (kv_sl (kg_w G)) Q (F0 m 422 L []) := by
  obtain ⟨hx, hb, hr, hml, hown, hts, hX, hbl, hlocks, hgv⟩ := id C0
  have hbA : ¬ kv_A Z b := by show ¬ kv_b Z ≤ b; rw [← hs0]; exact Nat.not_le.mpr hbl
  refine lv_aload_n hx hb dL_law_422 rfl (lv_at hLs 1 rfl) ?_
  refine lv_aload_n hx hb dL_law_423 rfl (lv_at hLs 0 rfl) ?_
  refine lv_iload_n hx hb dL_law_424 rfl (lv_at hLs 3 rfl) ?_
  refine lv_iconst (v := 1) hx hb dL_law_425 (by decide) ?_
  refine lv_iadd hx hb dL_law_426 ?_
  refine va_sld hx hb hX hbl hbA hS hi1 dL_law_427 ?_
  refine kl_bool (A := 435) (B := 436) hx hb dL_law_428 rfl dL_law_431 rfl dL_law_432 rfl dL_law_435 rfl rfl ?_
  refine kl_callV (M' := kMX10_move) (a := 0) (As := [.int (kj_z (xs (i + 1).toNatClampNeg))]) (rest := []) C0 hK hs0 hLs.1 (kl_R_X10_move h1) koX10_move rfl rfl rfl kw3_188 kw3_189 kw3_190 rfl (Nat.le_of_ble_eq_true rfl) dL_law_436 (Nat.le_of_ble_eq_true rfl) (Nat.le_trans (kl_R_X11_move (Z := Z) h2).1.1 hc2) (Nat.le_trans (kl_R_X11_move (Z := Z) h2).1.2 hs2) hP hS (fun H locs hP hS => ?_)
  refine lv_aload_n hx hb dL_law_439 rfl (lv_at hLs 2 rfl) ?_
  refine lv_aload_n hx hb dL_law_440 rfl (lv_at hLs 0 rfl) ?_
  refine lv_iload_n hx hb dL_law_441 rfl (lv_at hLs 3 rfl) ?_
  refine lv_iconst (v := 1) hx hb dL_law_442 (by decide) ?_
  refine lv_iadd hx hb dL_law_443 ?_
  refine va_sld hx hb hX hbl hbA hS hi1 dL_law_444 ?_
  refine kl_bool (A := 452) (B := 453) hx hb dL_law_445 rfl dL_law_448 rfl dL_law_449 rfl dL_law_452 rfl rfl ?_
  refine kl_callV (M' := kMX11_move) (a := 28) (As := [.int (kj_z (xs (i + 1).toNatClampNeg))]) (rest := [.int r]) C0 hK hs0 hLs.1 (kl_R_X11_move h2) koX11_move rfl rfl rfl kw5_177 kw5_178 kw5_179 rfl (Nat.le_of_ble_eq_true rfl) dL_law_453 (Nat.le_of_ble_eq_true rfl) hc2 hs2 hP hS (fun H locs hP hS => ?_)
  refine lv_icmp_eq (tgt := 810) hx hb dL_law_456 rfl (fun _ => ?_) (fun z => absurd rfl z)
  exact kk H locs hP hS
theorem kl_R_X10_letGo {Z : kv_Z} {G G1 : kg_G} {a1 : Int32} {r : Int32} (h : kjx_letGo G a1 = some (r, G1)) : kv_M Z (0 + 1) kMX10_letGo [.ref 0, .int a1] (kg_w G) (some (.int r)) (kg_w G1) := RX10_letGo (Z := Z) 0 (G := G) (res := (r, G1)) h
theorem kl_R_X11_letGo {Z : kv_Z} {G G1 : kg_G} {a1 : Int32} {r : Int32} (h : kjm_letGo G a1 = some (r, G1)) : kv_M Z (0 + 2) kMX11_letGo [.ref 28, .int a1] (kg_w G) (some (.int r)) (kg_w G1) := RX11_letGo (Z := Z) 0 (G := G) (res := (r, G1)) h
set_option maxRecDepth 20000 in
set_option maxHeartbeats 8000000 in
theorem kl_case_letGo (C0 : lw_At p s m meth c b Ln xs) (hK : kv_K Z s) (hs0 : s.heap.size = kv_b Z) {G : kg_G} {H : Heap} {locs : List Loc} {L : Array Slot} {i : Int32} (hLs : lv_has L 4 [(0, .ref b), (1, .ref (kv_b Z + 0)), (2, .ref (kv_b Z + 28)), (3, .int i)]) (hi1 : vp_in (i + 1) Ln) (hi2 : vp_in (i + 2) Ln) (hi3 : vp_in (i + 3) Ln) (hP : va_P (kv_D Z) vwCl (kv_w Z (kg_w G)) H) (hS : va_S (kv_A Z) s.heap H locs) {r : Int32} {G1 G2 : kg_G} (h1 : kjx_letGo G (xs (i + 1).toNatClampNeg) = some (r, G1)) (h2 : kjm_letGo G1 (xs (i + 1).toNatClampNeg) = some (r, G2)) (hc2 : (kg_w G2).length ≤ 600000) (hs2 : kv_sl (kg_w G2) ≤ 7302250) (kk : ∀ (H1 : Heap) (locs1 : List Loc), va_P (kv_D Z) vwCl (kv_w Z (kg_w G2)) H1 → va_S (kv_A Z) s.heap H1 locs1 → W p Z.1 e room_1 s m #[Value.ref b] below meth c H1 locs1 (kg_w G2).length (kv_sl (kg_w G2)) Q (F0 m 810 L [])) : W p Z.1 e room_1 s m #[Value.ref b] below meth c H locs (kg_w G).length (kv_sl (kg_w G)) Q (F0 m 461 L []) := by
  obtain ⟨hx, hb, hr, hml, hown, hts, hX, hbl, hlocks, hgv⟩ := id C0
  have hbA : ¬ kv_A Z b := by show ¬ kv_b Z ≤ b; rw [← hs0]; exact Nat.not_le.mpr hbl
  refine lv_aload_n hx hb dL_law_461 rfl (lv_at hLs 1 rfl) ?_
  refine lv_aload_n hx hb dL_law_462 rfl (lv_at hLs 0 rfl) ?_
  refine lv_iload_n hx hb dL_law_463 rfl (lv_at hLs 3 rfl) ?_
  refine lv_iconst (v := 1) hx hb dL_law_464 (by decide) ?_
  refine lv_iadd hx hb dL_law_465 ?_
  refine va_sld hx hb hX hbl hbA hS hi1 dL_law_466 ?_
  refine kl_callV (M' := kMX10_letGo) (a := 0) (As := [.int (xs (i + 1).toNatClampNeg)]) (rest := []) C0 hK hs0 hLs.1 (kl_R_X10_letGo h1) koX10_letGo rfl rfl rfl kw3_195 kw3_196 kw3_197 rfl (Nat.le_of_ble_eq_true rfl) dL_law_467 (Nat.le_of_ble_eq_true rfl) (Nat.le_trans (kl_R_X11_letGo (Z := Z) h2).1.1 hc2) (Nat.le_trans (kl_R_X11_letGo (Z := Z) h2).1.2 hs2) hP hS (fun H locs hP hS => ?_)
  refine lv_aload_n hx hb dL_law_470 rfl (lv_at hLs 2 rfl) ?_
  refine lv_aload_n hx hb dL_law_471 rfl (lv_at hLs 0 rfl) ?_
  refine lv_iload_n hx hb dL_law_472 rfl (lv_at hLs 3 rfl) ?_
  refine lv_iconst (v := 1) hx hb dL_law_473 (by decide) ?_
  refine lv_iadd hx hb dL_law_474 ?_
  refine va_sld hx hb hX hbl hbA hS hi1 dL_law_475 ?_
  refine kl_callV (M' := kMX11_letGo) (a := 28) (As := [.int (xs (i + 1).toNatClampNeg)]) (rest := [.int r]) C0 hK hs0 hLs.1 (kl_R_X11_letGo h2) koX11_letGo rfl rfl rfl kw5_181 kw5_182 kw5_183 rfl (Nat.le_of_ble_eq_true rfl) dL_law_476 (Nat.le_of_ble_eq_true rfl) hc2 hs2 hP hS (fun H locs hP hS => ?_)
  refine lv_icmp_eq (tgt := 810) hx hb dL_law_479 rfl (fun _ => ?_) (fun z => absurd rfl z)
  exact kk H locs hP hS
theorem kl_R_X10_call {Z : kv_Z} {G G1 : kg_G} {a1 : Int32} {a2 : Int32} {r : Int32} (h : kjx_call G a1 a2 = some (r, G1)) : kv_M Z (0 + 1) kMX10_call [.ref 0, .int a1, .int a2] (kg_w G) (some (.int r)) (kg_w G1) := RX10_call (Z := Z) 0 (G := G) (res := (r, G1)) h
theorem kl_R_X11_call {Z : kv_Z} {G G1 : kg_G} {a1 : Int32} {a2 : Int32} {r : Int32} (h : kjm_call G a1 a2 = some (r, G1)) : kv_M Z (0 + 2) kMX11_call [.ref 28, .int a1, .int a2] (kg_w G) (some (.int r)) (kg_w G1) := RX11_call (Z := Z) 0 (G := G) (res := (r, G1)) h
set_option maxRecDepth 20000 in
set_option maxHeartbeats 8000000 in
theorem kl_case_call (C0 : lw_At p s m meth c b Ln xs) (hK : kv_K Z s) (hs0 : s.heap.size = kv_b Z) {G : kg_G} {H : Heap} {locs : List Loc} {L : Array Slot} {i : Int32} (hLs : lv_has L 4 [(0, .ref b), (1, .ref (kv_b Z + 0)), (2, .ref (kv_b Z + 28)), (3, .int i)]) (hi1 : vp_in (i + 1) Ln) (hi2 : vp_in (i + 2) Ln) (hi3 : vp_in (i + 3) Ln) (hP : va_P (kv_D Z) vwCl (kv_w Z (kg_w G)) H) (hS : va_S (kv_A Z) s.heap H locs) {r : Int32} {G1 G2 : kg_G} (h1 : kjx_call G (xs (i + 1).toNatClampNeg) (xs (i + 2).toNatClampNeg) = some (r, G1)) (h2 : kjm_call G1 (xs (i + 1).toNatClampNeg) (xs (i + 2).toNatClampNeg) = some (r, G2)) (hc2 : (kg_w G2).length ≤ 600000) (hs2 : kv_sl (kg_w G2) ≤ 7302250) (kk : ∀ (H1 : Heap) (locs1 : List Loc), va_P (kv_D Z) vwCl (kv_w Z (kg_w G2)) H1 → va_S (kv_A Z) s.heap H1 locs1 → W p Z.1 e room_1 s m #[Value.ref b] below meth c H1 locs1 (kg_w G2).length (kv_sl (kg_w G2)) Q (F0 m 810 L [])) : W p Z.1 e room_1 s m #[Value.ref b] below meth c H locs (kg_w G).length (kv_sl (kg_w G)) Q (F0 m 484 L []) := by
  obtain ⟨hx, hb, hr, hml, hown, hts, hX, hbl, hlocks, hgv⟩ := id C0
  have hbA : ¬ kv_A Z b := by show ¬ kv_b Z ≤ b; rw [← hs0]; exact Nat.not_le.mpr hbl
  refine lv_aload_n hx hb dL_law_484 rfl (lv_at hLs 1 rfl) ?_
  refine lv_aload_n hx hb dL_law_485 rfl (lv_at hLs 0 rfl) ?_
  refine lv_iload_n hx hb dL_law_486 rfl (lv_at hLs 3 rfl) ?_
  refine lv_iconst (v := 1) hx hb dL_law_487 (by decide) ?_
  refine lv_iadd hx hb dL_law_488 ?_
  refine va_sld hx hb hX hbl hbA hS hi1 dL_law_489 ?_
  refine lv_aload_n hx hb dL_law_490 rfl (lv_at hLs 0 rfl) ?_
  refine lv_iload_n hx hb dL_law_491 rfl (lv_at hLs 3 rfl) ?_
  refine lv_iconst (v := 2) hx hb dL_law_492 (by decide) ?_
  refine lv_iadd hx hb dL_law_493 ?_
  refine va_sld hx hb hX hbl hbA hS hi2 dL_law_494 ?_
  refine kl_callV (M' := kMX10_call) (a := 0) (As := [.int (xs (i + 1).toNatClampNeg), .int (xs (i + 2).toNatClampNeg)]) (rest := []) C0 hK hs0 hLs.1 (kl_R_X10_call h1) koX10_call rfl rfl rfl kw3_203 kw3_204 kw3_205 rfl (Nat.le_of_ble_eq_true rfl) dL_law_495 (Nat.le_of_ble_eq_true rfl) (Nat.le_trans (kl_R_X11_call (Z := Z) h2).1.1 hc2) (Nat.le_trans (kl_R_X11_call (Z := Z) h2).1.2 hs2) hP hS (fun H locs hP hS => ?_)
  refine lv_aload_n hx hb dL_law_498 rfl (lv_at hLs 2 rfl) ?_
  refine lv_aload_n hx hb dL_law_499 rfl (lv_at hLs 0 rfl) ?_
  refine lv_iload_n hx hb dL_law_500 rfl (lv_at hLs 3 rfl) ?_
  refine lv_iconst (v := 1) hx hb dL_law_501 (by decide) ?_
  refine lv_iadd hx hb dL_law_502 ?_
  refine va_sld hx hb hX hbl hbA hS hi1 dL_law_503 ?_
  refine lv_aload_n hx hb dL_law_504 rfl (lv_at hLs 0 rfl) ?_
  refine lv_iload_n hx hb dL_law_505 rfl (lv_at hLs 3 rfl) ?_
  refine lv_iconst (v := 2) hx hb dL_law_506 (by decide) ?_
  refine lv_iadd hx hb dL_law_507 ?_
  refine va_sld hx hb hX hbl hbA hS hi2 dL_law_508 ?_
  refine kl_callV (M' := kMX11_call) (a := 28) (As := [.int (xs (i + 1).toNatClampNeg), .int (xs (i + 2).toNatClampNeg)]) (rest := [.int r]) C0 hK hs0 hLs.1 (kl_R_X11_call h2) koX11_call rfl rfl rfl kw5_189 kw5_190 kw5_191 rfl (Nat.le_of_ble_eq_true rfl) dL_law_509 (Nat.le_of_ble_eq_true rfl) hc2 hs2 hP hS (fun H locs hP hS => ?_)
  refine lv_icmp_eq (tgt := 810) hx hb dL_law_512 rfl (fun _ => ?_) (fun z => absurd rfl z)
  exact kk H locs hP hS
theorem kl_R_X10_most {Z : kv_Z} {G G1 : kg_G} {a1 : Int32} {r : Int32} (h : kjx_most G a1 = some (r, G1)) : kv_M Z (0 + 12) kMX10_most [.ref 0, .int a1] (kg_w G) (some (.int r)) (kg_w G1) := RX10_most (Z := Z) 0 (G := G) (res := (r, G1)) h
theorem kl_R_X11_most {Z : kv_Z} {G G1 : kg_G} {a1 : Int32} {r : Int32} (h : kjm_most G a1 = some (r, G1)) : kv_M Z (0 + 6) kMX11_most [.ref 28, .int a1] (kg_w G) (some (.int r)) (kg_w G1) := RX11_most (Z := Z) 0 (G := G) (res := (r, G1)) h
set_option maxRecDepth 20000 in
set_option maxHeartbeats 8000000 in
theorem kl_case_most (C0 : lw_At p s m meth c b Ln xs) (hK : kv_K Z s) (hs0 : s.heap.size = kv_b Z) {G : kg_G} {H : Heap} {locs : List Loc} {L : Array Slot} {i : Int32} (hLs : lv_has L 4 [(0, .ref b), (1, .ref (kv_b Z + 0)), (2, .ref (kv_b Z + 28)), (3, .int i)]) (hi1 : vp_in (i + 1) Ln) (hi2 : vp_in (i + 2) Ln) (hi3 : vp_in (i + 3) Ln) (hP : va_P (kv_D Z) vwCl (kv_w Z (kg_w G)) H) (hS : va_S (kv_A Z) s.heap H locs) {r : Int32} {G1 G2 : kg_G} (h1 : kjx_most G (xs (i + 1).toNatClampNeg) = some (r, G1)) (h2 : kjm_most G1 (xs (i + 1).toNatClampNeg) = some (r, G2)) (hc2 : (kg_w G2).length ≤ 600000) (hs2 : kv_sl (kg_w G2) ≤ 7302250) (kk : ∀ (H1 : Heap) (locs1 : List Loc), va_P (kv_D Z) vwCl (kv_w Z (kg_w G2)) H1 → va_S (kv_A Z) s.heap H1 locs1 → W p Z.1 e room_1 s m #[Value.ref b] below meth c H1 locs1 (kg_w G2).length (kv_sl (kg_w G2)) Q (F0 m 810 L [])) : W p Z.1 e room_1 s m #[Value.ref b] below meth c H locs (kg_w G).length (kv_sl (kg_w G)) Q (F0 m 517 L []) := by
  obtain ⟨hx, hb, hr, hml, hown, hts, hX, hbl, hlocks, hgv⟩ := id C0
  have hbA : ¬ kv_A Z b := by show ¬ kv_b Z ≤ b; rw [← hs0]; exact Nat.not_le.mpr hbl
  refine lv_aload_n hx hb dL_law_517 rfl (lv_at hLs 1 rfl) ?_
  refine lv_aload_n hx hb dL_law_518 rfl (lv_at hLs 0 rfl) ?_
  refine lv_iload_n hx hb dL_law_519 rfl (lv_at hLs 3 rfl) ?_
  refine lv_iconst (v := 1) hx hb dL_law_520 (by decide) ?_
  refine lv_iadd hx hb dL_law_521 ?_
  refine va_sld hx hb hX hbl hbA hS hi1 dL_law_522 ?_
  refine kl_callV (M' := kMX10_most) (a := 0) (As := [.int (xs (i + 1).toNatClampNeg)]) (rest := []) C0 hK hs0 hLs.1 (kl_R_X10_most h1) koX10_most rfl rfl rfl kw3_211 kw3_212 kw3_213 rfl (Nat.le_of_ble_eq_true rfl) dL_law_523 (Nat.le_of_ble_eq_true rfl) (Nat.le_trans (kl_R_X11_most (Z := Z) h2).1.1 hc2) (Nat.le_trans (kl_R_X11_most (Z := Z) h2).1.2 hs2) hP hS (fun H locs hP hS => ?_)
  refine lv_aload_n hx hb dL_law_526 rfl (lv_at hLs 2 rfl) ?_
  refine lv_aload_n hx hb dL_law_527 rfl (lv_at hLs 0 rfl) ?_
  refine lv_iload_n hx hb dL_law_528 rfl (lv_at hLs 3 rfl) ?_
  refine lv_iconst (v := 1) hx hb dL_law_529 (by decide) ?_
  refine lv_iadd hx hb dL_law_530 ?_
  refine va_sld hx hb hX hbl hbA hS hi1 dL_law_531 ?_
  refine kl_callV (M' := kMX11_most) (a := 28) (As := [.int (xs (i + 1).toNatClampNeg)]) (rest := [.int r]) C0 hK hs0 hLs.1 (kl_R_X11_most h2) koX11_most rfl rfl rfl kw5_194 kw5_195 kw5_196 rfl (Nat.le_of_ble_eq_true rfl) dL_law_532 (Nat.le_of_ble_eq_true rfl) hc2 hs2 hP hS (fun H locs hP hS => ?_)
  refine lv_icmp_eq (tgt := 810) hx hb dL_law_535 rfl (fun _ => ?_) (fun z => absurd rfl z)
  exact kk H locs hP hS
theorem kl_R_X10_fewest {Z : kv_Z} {G G1 : kg_G} {a1 : Int32} {r : Int32} (h : kjx_fewest G a1 = some (r, G1)) : kv_M Z (0 + 12) kMX10_fewest [.ref 0, .int a1] (kg_w G) (some (.int r)) (kg_w G1) := RX10_fewest (Z := Z) 0 (G := G) (res := (r, G1)) h
theorem kl_R_X11_fewest {Z : kv_Z} {G G1 : kg_G} {a1 : Int32} {r : Int32} (h : kjm_fewest G a1 = some (r, G1)) : kv_M Z (0 + 6) kMX11_fewest [.ref 28, .int a1] (kg_w G) (some (.int r)) (kg_w G1) := RX11_fewest (Z := Z) 0 (G := G) (res := (r, G1)) h
set_option maxRecDepth 20000 in
set_option maxHeartbeats 8000000 in
theorem kl_case_fewest (C0 : lw_At p s m meth c b Ln xs) (hK : kv_K Z s) (hs0 : s.heap.size = kv_b Z) {G : kg_G} {H : Heap} {locs : List Loc} {L : Array Slot} {i : Int32} (hLs : lv_has L 4 [(0, .ref b), (1, .ref (kv_b Z + 0)), (2, .ref (kv_b Z + 28)), (3, .int i)]) (hi1 : vp_in (i + 1) Ln) (hi2 : vp_in (i + 2) Ln) (hi3 : vp_in (i + 3) Ln) (hP : va_P (kv_D Z) vwCl (kv_w Z (kg_w G)) H) (hS : va_S (kv_A Z) s.heap H locs) {r : Int32} {G1 G2 : kg_G} (h1 : kjx_fewest G (xs (i + 1).toNatClampNeg) = some (r, G1)) (h2 : kjm_fewest G1 (xs (i + 1).toNatClampNeg) = some (r, G2)) (hc2 : (kg_w G2).length ≤ 600000) (hs2 : kv_sl (kg_w G2) ≤ 7302250) (kk : ∀ (H1 : Heap) (locs1 : List Loc), va_P (kv_D Z) vwCl (kv_w Z (kg_w G2)) H1 → va_S (kv_A Z) s.heap H1 locs1 → W p Z.1 e room_1 s m #[Value.ref b] below meth c H1 locs1 (kg_w G2).length (kv_sl (kg_w G2)) Q (F0 m 810 L [])) : W p Z.1 e room_1 s m #[Value.ref b] below meth c H locs (kg_w G).length (kv_sl (kg_w G)) Q (F0 m 540 L []) := by
  obtain ⟨hx, hb, hr, hml, hown, hts, hX, hbl, hlocks, hgv⟩ := id C0
  have hbA : ¬ kv_A Z b := by show ¬ kv_b Z ≤ b; rw [← hs0]; exact Nat.not_le.mpr hbl
  refine lv_aload_n hx hb dL_law_540 rfl (lv_at hLs 1 rfl) ?_
  refine lv_aload_n hx hb dL_law_541 rfl (lv_at hLs 0 rfl) ?_
  refine lv_iload_n hx hb dL_law_542 rfl (lv_at hLs 3 rfl) ?_
  refine lv_iconst (v := 1) hx hb dL_law_543 (by decide) ?_
  refine lv_iadd hx hb dL_law_544 ?_
  refine va_sld hx hb hX hbl hbA hS hi1 dL_law_545 ?_
  refine kl_callV (M' := kMX10_fewest) (a := 0) (As := [.int (xs (i + 1).toNatClampNeg)]) (rest := []) C0 hK hs0 hLs.1 (kl_R_X10_fewest h1) koX10_fewest rfl rfl rfl kw3_215 kw3_216 kw3_217 rfl (Nat.le_of_ble_eq_true rfl) dL_law_546 (Nat.le_of_ble_eq_true rfl) (Nat.le_trans (kl_R_X11_fewest (Z := Z) h2).1.1 hc2) (Nat.le_trans (kl_R_X11_fewest (Z := Z) h2).1.2 hs2) hP hS (fun H locs hP hS => ?_)
  refine lv_aload_n hx hb dL_law_549 rfl (lv_at hLs 2 rfl) ?_
  refine lv_aload_n hx hb dL_law_550 rfl (lv_at hLs 0 rfl) ?_
  refine lv_iload_n hx hb dL_law_551 rfl (lv_at hLs 3 rfl) ?_
  refine lv_iconst (v := 1) hx hb dL_law_552 (by decide) ?_
  refine lv_iadd hx hb dL_law_553 ?_
  refine va_sld hx hb hX hbl hbA hS hi1 dL_law_554 ?_
  refine kl_callV (M' := kMX11_fewest) (a := 28) (As := [.int (xs (i + 1).toNatClampNeg)]) (rest := [.int r]) C0 hK hs0 hLs.1 (kl_R_X11_fewest h2) koX11_fewest rfl rfl rfl kw5_223 kw5_224 kw5_225 rfl (Nat.le_of_ble_eq_true rfl) dL_law_555 (Nat.le_of_ble_eq_true rfl) hc2 hs2 hP hS (fun H locs hP hS => ?_)
  refine lv_icmp_eq (tgt := 810) hx hb dL_law_558 rfl (fun _ => ?_) (fun z => absurd rfl z)
  exact kk H locs hP hS
theorem kl_R_X10_spare {Z : kv_Z} {G G1 : kg_G} {r : Int32} (h : kjx_spare G = some (r, G1)) : kv_M Z (0 + 12) kMX10_spare [.ref 0] (kg_w G) (some (.int r)) (kg_w G1) := RX10_spare (Z := Z) 0 (G := G) (res := (r, G1)) h
theorem kl_R_X11_spare {Z : kv_Z} {G G1 : kg_G} {r : Int32} (h : kjm_spare G = some (r, G1)) : kv_M Z (0 + 6) kMX11_spare [.ref 28] (kg_w G) (some (.int r)) (kg_w G1) := RX11_spare (Z := Z) 0 (G := G) (res := (r, G1)) h
set_option maxRecDepth 20000 in
set_option maxHeartbeats 8000000 in
theorem kl_case_spare (C0 : lw_At p s m meth c b Ln xs) (hK : kv_K Z s) (hs0 : s.heap.size = kv_b Z) {G : kg_G} {H : Heap} {locs : List Loc} {L : Array Slot} {i : Int32} (hLs : lv_has L 4 [(0, .ref b), (1, .ref (kv_b Z + 0)), (2, .ref (kv_b Z + 28)), (3, .int i)]) (hi1 : vp_in (i + 1) Ln) (hi2 : vp_in (i + 2) Ln) (hi3 : vp_in (i + 3) Ln) (hP : va_P (kv_D Z) vwCl (kv_w Z (kg_w G)) H) (hS : va_S (kv_A Z) s.heap H locs) {r : Int32} {G1 G2 : kg_G} (h1 : kjx_spare G = some (r, G1)) (h2 : kjm_spare G1 = some (r, G2)) (hc2 : (kg_w G2).length ≤ 600000) (hs2 : kv_sl (kg_w G2) ≤ 7302250) (kk : ∀ (H1 : Heap) (locs1 : List Loc), va_P (kv_D Z) vwCl (kv_w Z (kg_w G2)) H1 → va_S (kv_A Z) s.heap H1 locs1 → W p Z.1 e room_1 s m #[Value.ref b] below meth c H1 locs1 (kg_w G2).length (kv_sl (kg_w G2)) Q (F0 m 810 L [])) : W p Z.1 e room_1 s m #[Value.ref b] below meth c H locs (kg_w G).length (kv_sl (kg_w G)) Q (F0 m 563 L []) := by
  obtain ⟨hx, hb, hr, hml, hown, hts, hX, hbl, hlocks, hgv⟩ := id C0
  have hbA : ¬ kv_A Z b := by show ¬ kv_b Z ≤ b; rw [← hs0]; exact Nat.not_le.mpr hbl
  refine lv_aload_n hx hb dL_law_563 rfl (lv_at hLs 1 rfl) ?_
  refine kl_callV (M' := kMX10_spare) (a := 0) (As := []) (rest := []) C0 hK hs0 hLs.1 (kl_R_X10_spare h1) koX10_spare rfl rfl rfl kw3_225 kw3_226 kw3_227 rfl (Nat.le_of_ble_eq_true rfl) dL_law_564 (Nat.le_of_ble_eq_true rfl) (Nat.le_trans (kl_R_X11_spare (Z := Z) h2).1.1 hc2) (Nat.le_trans (kl_R_X11_spare (Z := Z) h2).1.2 hs2) hP hS (fun H locs hP hS => ?_)
  refine lv_aload_n hx hb dL_law_567 rfl (lv_at hLs 2 rfl) ?_
  refine kl_callV (M' := kMX11_spare) (a := 28) (As := []) (rest := [.int r]) C0 hK hs0 hLs.1 (kl_R_X11_spare h2) koX11_spare rfl rfl rfl kw5_231 kw5_232 kw5_233 rfl (Nat.le_of_ble_eq_true rfl) dL_law_568 (Nat.le_of_ble_eq_true rfl) hc2 hs2 hP hS (fun H locs hP hS => ?_)
  refine lv_icmp_eq (tgt := 810) hx hb dL_law_571 rfl (fun _ => ?_) (fun z => absurd rfl z)
  exact kk H locs hP hS
theorem kl_R_X10_wants {Z : kv_Z} {G G1 : kg_G} {a1 : Int32} {r : Int32} (h : kjx_wants G a1 = some (r, G1)) : kv_M Z (0 + 2) kMX10_wants [.ref 0, .int a1] (kg_w G) (some (.int r)) (kg_w G1) := by
  obtain ⟨w, hw, e⟩ := Option.map_eq_some_iff.mp h
  cases e
  exact RX10_wants (Z := Z) 0 (G := G) hw
theorem kl_R_X11_wants {Z : kv_Z} {G G1 : kg_G} {a1 : Int32} {r : Int32} (h : kjm_wants G a1 = some (r, G1)) : kv_M Z (0 + 2) kMX11_wants [.ref 28, .int a1] (kg_w G) (some (.int r)) (kg_w G1) := by
  obtain ⟨w, hw, e⟩ := Option.map_eq_some_iff.mp h
  cases e
  exact RX11_wants (Z := Z) 0 (G := G) hw
set_option maxRecDepth 20000 in
set_option maxHeartbeats 8000000 in
theorem kl_case_wants (C0 : lw_At p s m meth c b Ln xs) (hK : kv_K Z s) (hs0 : s.heap.size = kv_b Z) {G : kg_G} {H : Heap} {locs : List Loc} {L : Array Slot} {i : Int32} (hLs : lv_has L 4 [(0, .ref b), (1, .ref (kv_b Z + 0)), (2, .ref (kv_b Z + 28)), (3, .int i)]) (hi1 : vp_in (i + 1) Ln) (hi2 : vp_in (i + 2) Ln) (hi3 : vp_in (i + 3) Ln) (hP : va_P (kv_D Z) vwCl (kv_w Z (kg_w G)) H) (hS : va_S (kv_A Z) s.heap H locs) {r : Int32} {G1 G2 : kg_G} (h1 : kjx_wants G (xs (i + 1).toNatClampNeg) = some (r, G1)) (h2 : kjm_wants G1 (xs (i + 1).toNatClampNeg) = some (r, G2)) (hc2 : (kg_w G2).length ≤ 600000) (hs2 : kv_sl (kg_w G2) ≤ 7302250) (kk : ∀ (H1 : Heap) (locs1 : List Loc), va_P (kv_D Z) vwCl (kv_w Z (kg_w G2)) H1 → va_S (kv_A Z) s.heap H1 locs1 → W p Z.1 e room_1 s m #[Value.ref b] below meth c H1 locs1 (kg_w G2).length (kv_sl (kg_w G2)) Q (F0 m 810 L [])) : W p Z.1 e room_1 s m #[Value.ref b] below meth c H locs (kg_w G).length (kv_sl (kg_w G)) Q (F0 m 576 L []) := by
  obtain ⟨hx, hb, hr, hml, hown, hts, hX, hbl, hlocks, hgv⟩ := id C0
  have hbA : ¬ kv_A Z b := by show ¬ kv_b Z ≤ b; rw [← hs0]; exact Nat.not_le.mpr hbl
  refine lv_aload_n hx hb dL_law_576 rfl (lv_at hLs 1 rfl) ?_
  refine lv_aload_n hx hb dL_law_577 rfl (lv_at hLs 0 rfl) ?_
  refine lv_iload_n hx hb dL_law_578 rfl (lv_at hLs 3 rfl) ?_
  refine lv_iconst (v := 1) hx hb dL_law_579 (by decide) ?_
  refine lv_iadd hx hb dL_law_580 ?_
  refine va_sld hx hb hX hbl hbA hS hi1 dL_law_581 ?_
  refine kl_callV (M' := kMX10_wants) (a := 0) (As := [.int (xs (i + 1).toNatClampNeg)]) (rest := []) C0 hK hs0 hLs.1 (kl_R_X10_wants h1) koX10_wants rfl rfl rfl kw3_233 kw3_234 kw3_235 rfl (Nat.le_of_ble_eq_true rfl) dL_law_582 (Nat.le_of_ble_eq_true rfl) (Nat.le_trans (kl_R_X11_wants (Z := Z) h2).1.1 hc2) (Nat.le_trans (kl_R_X11_wants (Z := Z) h2).1.2 hs2) hP hS (fun H locs hP hS => ?_)
  refine lv_aload_n hx hb dL_law_585 rfl (lv_at hLs 2 rfl) ?_
  refine lv_aload_n hx hb dL_law_586 rfl (lv_at hLs 0 rfl) ?_
  refine lv_iload_n hx hb dL_law_587 rfl (lv_at hLs 3 rfl) ?_
  refine lv_iconst (v := 1) hx hb dL_law_588 (by decide) ?_
  refine lv_iadd hx hb dL_law_589 ?_
  refine va_sld hx hb hX hbl hbA hS hi1 dL_law_590 ?_
  refine kl_callV (M' := kMX11_wants) (a := 28) (As := [.int (xs (i + 1).toNatClampNeg)]) (rest := [.int r]) C0 hK hs0 hLs.1 (kl_R_X11_wants h2) koX11_wants rfl rfl rfl kw5_239 kw6_0 kw6_1 rfl (Nat.le_of_ble_eq_true rfl) dL_law_591 (Nat.le_of_ble_eq_true rfl) hc2 hs2 hP hS (fun H locs hP hS => ?_)
  refine lv_icmp_eq (tgt := 810) hx hb dL_law_594 rfl (fun _ => ?_) (fun z => absurd rfl z)
  exact kk H locs hP hS
theorem kl_R_X10_route {Z : kv_Z} {G G1 : kg_G} {a1 : Int32} {a2 : Int32} {r : Int32} (h : kjx_route G a1 a2 = some (r, G1)) : kv_M Z (0 + 4) kMX10_route [.ref 0, .int a1, .int a2] (kg_w G) (some (.int r)) (kg_w G1) := by
  obtain ⟨w, hw, e⟩ := Option.map_eq_some_iff.mp h
  cases e
  exact RX10_route (Z := Z) 0 (G := G) hw
theorem kl_R_X11_route {Z : kv_Z} {G G1 : kg_G} {a1 : Int32} {a2 : Int32} {r : Int32} (h : kjm_route G a1 a2 = some (r, G1)) : kv_M Z (0 + 2) kMX11_route [.ref 28, .int a1, .int a2] (kg_w G) (some (.int r)) (kg_w G1) := by
  obtain ⟨w, hw, e⟩ := Option.map_eq_some_iff.mp h
  cases e
  exact RX11_route (Z := Z) 0 (G := G) hw
set_option maxRecDepth 20000 in
set_option maxHeartbeats 8000000 in
theorem kl_case_route (C0 : lw_At p s m meth c b Ln xs) (hK : kv_K Z s) (hs0 : s.heap.size = kv_b Z) {G : kg_G} {H : Heap} {locs : List Loc} {L : Array Slot} {i : Int32} (hLs : lv_has L 4 [(0, .ref b), (1, .ref (kv_b Z + 0)), (2, .ref (kv_b Z + 28)), (3, .int i)]) (hi1 : vp_in (i + 1) Ln) (hi2 : vp_in (i + 2) Ln) (hi3 : vp_in (i + 3) Ln) (hP : va_P (kv_D Z) vwCl (kv_w Z (kg_w G)) H) (hS : va_S (kv_A Z) s.heap H locs) {r : Int32} {G1 G2 : kg_G} (h1 : kjx_route G (xs (i + 1).toNatClampNeg) (xs (i + 2).toNatClampNeg) = some (r, G1)) (h2 : kjm_route G1 (xs (i + 1).toNatClampNeg) (xs (i + 2).toNatClampNeg) = some (r, G2)) (hc2 : (kg_w G2).length ≤ 600000) (hs2 : kv_sl (kg_w G2) ≤ 7302250) (kk : ∀ (H1 : Heap) (locs1 : List Loc), va_P (kv_D Z) vwCl (kv_w Z (kg_w G2)) H1 → va_S (kv_A Z) s.heap H1 locs1 → W p Z.1 e room_1 s m #[Value.ref b] below meth c H1 locs1 (kg_w G2).length (kv_sl (kg_w G2)) Q (F0 m 810 L [])) : W p Z.1 e room_1 s m #[Value.ref b] below meth c H locs (kg_w G).length (kv_sl (kg_w G)) Q (F0 m 599 L []) := by
  obtain ⟨hx, hb, hr, hml, hown, hts, hX, hbl, hlocks, hgv⟩ := id C0
  have hbA : ¬ kv_A Z b := by show ¬ kv_b Z ≤ b; rw [← hs0]; exact Nat.not_le.mpr hbl
  refine lv_aload_n hx hb dL_law_599 rfl (lv_at hLs 1 rfl) ?_
  refine lv_aload_n hx hb dL_law_600 rfl (lv_at hLs 0 rfl) ?_
  refine lv_iload_n hx hb dL_law_601 rfl (lv_at hLs 3 rfl) ?_
  refine lv_iconst (v := 1) hx hb dL_law_602 (by decide) ?_
  refine lv_iadd hx hb dL_law_603 ?_
  refine va_sld hx hb hX hbl hbA hS hi1 dL_law_604 ?_
  refine lv_aload_n hx hb dL_law_605 rfl (lv_at hLs 0 rfl) ?_
  refine lv_iload_n hx hb dL_law_606 rfl (lv_at hLs 3 rfl) ?_
  refine lv_iconst (v := 2) hx hb dL_law_607 (by decide) ?_
  refine lv_iadd hx hb dL_law_608 ?_
  refine va_sld hx hb hX hbl hbA hS hi2 dL_law_609 ?_
  refine kl_callV (M' := kMX10_route) (a := 0) (As := [.int (xs (i + 1).toNatClampNeg), .int (xs (i + 2).toNatClampNeg)]) (rest := []) C0 hK hs0 hLs.1 (kl_R_X10_route h1) koX10_route rfl rfl rfl kw4_10 kw4_11 kw4_12 rfl (Nat.le_of_ble_eq_true rfl) dL_law_610 (Nat.le_of_ble_eq_true rfl) (Nat.le_trans (kl_R_X11_route (Z := Z) h2).1.1 hc2) (Nat.le_trans (kl_R_X11_route (Z := Z) h2).1.2 hs2) hP hS (fun H locs hP hS => ?_)
  refine lv_aload_n hx hb dL_law_613 rfl (lv_at hLs 2 rfl) ?_
  refine lv_aload_n hx hb dL_law_614 rfl (lv_at hLs 0 rfl) ?_
  refine lv_iload_n hx hb dL_law_615 rfl (lv_at hLs 3 rfl) ?_
  refine lv_iconst (v := 1) hx hb dL_law_616 (by decide) ?_
  refine lv_iadd hx hb dL_law_617 ?_
  refine va_sld hx hb hX hbl hbA hS hi1 dL_law_618 ?_
  refine lv_aload_n hx hb dL_law_619 rfl (lv_at hLs 0 rfl) ?_
  refine lv_iload_n hx hb dL_law_620 rfl (lv_at hLs 3 rfl) ?_
  refine lv_iconst (v := 2) hx hb dL_law_621 (by decide) ?_
  refine lv_iadd hx hb dL_law_622 ?_
  refine va_sld hx hb hX hbl hbA hS hi2 dL_law_623 ?_
  refine kl_callV (M' := kMX11_route) (a := 28) (As := [.int (xs (i + 1).toNatClampNeg), .int (xs (i + 2).toNatClampNeg)]) (rest := [.int r]) C0 hK hs0 hLs.1 (kl_R_X11_route h2) koX11_route rfl rfl rfl kw6_8 kw6_9 kw6_10 rfl (Nat.le_of_ble_eq_true rfl) dL_law_624 (Nat.le_of_ble_eq_true rfl) hc2 hs2 hP hS (fun H locs hP hS => ?_)
  refine lv_icmp_eq (tgt := 810) hx hb dL_law_627 rfl (fun _ => ?_) (fun z => absurd rfl z)
  exact kk H locs hP hS
theorem kl_R_X10_see {Z : kv_Z} {G G1 : kg_G} {a1 : Int32} {a2 : Int32} {a3 : Int32} {r : Int32} (h : kjx_see G a1 a2 a3 = some (r, G1)) : kv_M Z (0 + 2) kMX10_see [.ref 0, .int a1, .int a2, .int a3] (kg_w G) (some (.int r)) (kg_w G1) := RX10_see (Z := Z) 0 (G := G) (res := (r, G1)) h
theorem kl_R_X11_see {Z : kv_Z} {G G1 : kg_G} {a1 : Int32} {a2 : Int32} {a3 : Int32} {r : Int32} (h : kjm_see G a1 a2 a3 = some (r, G1)) : kv_M Z (0 + 2) kMX11_see [.ref 28, .int a1, .int a2, .int a3] (kg_w G) (some (.int r)) (kg_w G1) := RX11_see (Z := Z) 0 (G := G) (res := (r, G1)) h
set_option maxRecDepth 20000 in
set_option maxHeartbeats 8000000 in
theorem kl_case_see (C0 : lw_At p s m meth c b Ln xs) (hK : kv_K Z s) (hs0 : s.heap.size = kv_b Z) {G : kg_G} {H : Heap} {locs : List Loc} {L : Array Slot} {i : Int32} (hLs : lv_has L 4 [(0, .ref b), (1, .ref (kv_b Z + 0)), (2, .ref (kv_b Z + 28)), (3, .int i)]) (hi1 : vp_in (i + 1) Ln) (hi2 : vp_in (i + 2) Ln) (hi3 : vp_in (i + 3) Ln) (hP : va_P (kv_D Z) vwCl (kv_w Z (kg_w G)) H) (hS : va_S (kv_A Z) s.heap H locs) {r : Int32} {G1 G2 : kg_G} (h1 : kjx_see G (xs (i + 1).toNatClampNeg) (xs (i + 2).toNatClampNeg) (kj_z (xs (i + 3).toNatClampNeg)) = some (r, G1)) (h2 : kjm_see G1 (xs (i + 1).toNatClampNeg) (xs (i + 2).toNatClampNeg) (kj_z (xs (i + 3).toNatClampNeg)) = some (r, G2)) (hc2 : (kg_w G2).length ≤ 600000) (hs2 : kv_sl (kg_w G2) ≤ 7302250) (kk : ∀ (H1 : Heap) (locs1 : List Loc), va_P (kv_D Z) vwCl (kv_w Z (kg_w G2)) H1 → va_S (kv_A Z) s.heap H1 locs1 → W p Z.1 e room_1 s m #[Value.ref b] below meth c H1 locs1 (kg_w G2).length (kv_sl (kg_w G2)) Q (F0 m 810 L [])) : W p Z.1 e room_1 s m #[Value.ref b] below meth c H locs (kg_w G).length (kv_sl (kg_w G)) Q (F0 m 632 L []) := by
  obtain ⟨hx, hb, hr, hml, hown, hts, hX, hbl, hlocks, hgv⟩ := id C0
  have hbA : ¬ kv_A Z b := by show ¬ kv_b Z ≤ b; rw [← hs0]; exact Nat.not_le.mpr hbl
  refine lv_aload_n hx hb dL_law_632 rfl (lv_at hLs 1 rfl) ?_
  refine lv_aload_n hx hb dL_law_633 rfl (lv_at hLs 0 rfl) ?_
  refine lv_iload_n hx hb dL_law_634 rfl (lv_at hLs 3 rfl) ?_
  refine lv_iconst (v := 1) hx hb dL_law_635 (by decide) ?_
  refine lv_iadd hx hb dL_law_636 ?_
  refine va_sld hx hb hX hbl hbA hS hi1 dL_law_637 ?_
  refine lv_aload_n hx hb dL_law_638 rfl (lv_at hLs 0 rfl) ?_
  refine lv_iload_n hx hb dL_law_639 rfl (lv_at hLs 3 rfl) ?_
  refine lv_iconst (v := 2) hx hb dL_law_640 (by decide) ?_
  refine lv_iadd hx hb dL_law_641 ?_
  refine va_sld hx hb hX hbl hbA hS hi2 dL_law_642 ?_
  refine lv_aload_n hx hb dL_law_643 rfl (lv_at hLs 0 rfl) ?_
  refine lv_iload_n hx hb dL_law_644 rfl (lv_at hLs 3 rfl) ?_
  refine lv_iconst (v := 3) hx hb dL_law_645 (by decide) ?_
  refine lv_iadd hx hb dL_law_646 ?_
  refine va_sld hx hb hX hbl hbA hS hi3 dL_law_647 ?_
  refine kl_bool (A := 655) (B := 656) hx hb dL_law_648 rfl dL_law_651 rfl dL_law_652 rfl dL_law_655 rfl rfl ?_
  refine kl_callV (M' := kMX10_see) (a := 0) (As := [.int (xs (i + 1).toNatClampNeg), .int (xs (i + 2).toNatClampNeg), .int (kj_z (xs (i + 3).toNatClampNeg))]) (rest := []) C0 hK hs0 hLs.1 (kl_R_X10_see h1) koX10_see rfl rfl rfl kw4_35 kw4_36 kw4_37 rfl (Nat.le_of_ble_eq_true rfl) dL_law_656 (Nat.le_of_ble_eq_true rfl) (Nat.le_trans (kl_R_X11_see (Z := Z) h2).1.1 hc2) (Nat.le_trans (kl_R_X11_see (Z := Z) h2).1.2 hs2) hP hS (fun H locs hP hS => ?_)
  refine lv_aload_n hx hb dL_law_659 rfl (lv_at hLs 2 rfl) ?_
  refine lv_aload_n hx hb dL_law_660 rfl (lv_at hLs 0 rfl) ?_
  refine lv_iload_n hx hb dL_law_661 rfl (lv_at hLs 3 rfl) ?_
  refine lv_iconst (v := 1) hx hb dL_law_662 (by decide) ?_
  refine lv_iadd hx hb dL_law_663 ?_
  refine va_sld hx hb hX hbl hbA hS hi1 dL_law_664 ?_
  refine lv_aload_n hx hb dL_law_665 rfl (lv_at hLs 0 rfl) ?_
  refine lv_iload_n hx hb dL_law_666 rfl (lv_at hLs 3 rfl) ?_
  refine lv_iconst (v := 2) hx hb dL_law_667 (by decide) ?_
  refine lv_iadd hx hb dL_law_668 ?_
  refine va_sld hx hb hX hbl hbA hS hi2 dL_law_669 ?_
  refine lv_aload_n hx hb dL_law_670 rfl (lv_at hLs 0 rfl) ?_
  refine lv_iload_n hx hb dL_law_671 rfl (lv_at hLs 3 rfl) ?_
  refine lv_iconst (v := 3) hx hb dL_law_672 (by decide) ?_
  refine lv_iadd hx hb dL_law_673 ?_
  refine va_sld hx hb hX hbl hbA hS hi3 dL_law_674 ?_
  refine kl_bool (A := 682) (B := 683) hx hb dL_law_675 rfl dL_law_678 rfl dL_law_679 rfl dL_law_682 rfl rfl ?_
  refine kl_callV (M' := kMX11_see) (a := 28) (As := [.int (xs (i + 1).toNatClampNeg), .int (xs (i + 2).toNatClampNeg), .int (kj_z (xs (i + 3).toNatClampNeg))]) (rest := [.int r]) C0 hK hs0 hLs.1 (kl_R_X11_see h2) koX11_see rfl rfl rfl kw6_19 kw6_20 kw6_21 rfl (Nat.le_of_ble_eq_true rfl) dL_law_683 (Nat.le_of_ble_eq_true rfl) hc2 hs2 hP hS (fun H locs hP hS => ?_)
  refine lv_icmp_eq (tgt := 810) hx hb dL_law_686 rfl (fun _ => ?_) (fun z => absurd rfl z)
  exact kk H locs hP hS
theorem kl_R_X10_forget {Z : kv_Z} {G G1 : kg_G} {r : Int32} (h : kjx_forget G = some (r, G1)) : kv_M Z (0 + 0) kMX10_forget [.ref 0] (kg_w G) (some (.int r)) (kg_w G1) := by
  have h := Option.some.inj h
  exact RX10_forget (Z := Z) 0 (G := G) (res := (r, G1)) h
theorem kl_R_X11_forget {Z : kv_Z} {G G1 : kg_G} {r : Int32} (h : kjm_forget G = some (r, G1)) : kv_M Z (0 + 0) kMX11_forget [.ref 28] (kg_w G) (some (.int r)) (kg_w G1) := by
  have h := Option.some.inj h
  exact RX11_forget (Z := Z) 0 (G := G) (res := (r, G1)) h
set_option maxRecDepth 20000 in
set_option maxHeartbeats 8000000 in
theorem kl_case_forget (C0 : lw_At p s m meth c b Ln xs) (hK : kv_K Z s) (hs0 : s.heap.size = kv_b Z) {G : kg_G} {H : Heap} {locs : List Loc} {L : Array Slot} {i : Int32} (hLs : lv_has L 4 [(0, .ref b), (1, .ref (kv_b Z + 0)), (2, .ref (kv_b Z + 28)), (3, .int i)]) (hi1 : vp_in (i + 1) Ln) (hi2 : vp_in (i + 2) Ln) (hi3 : vp_in (i + 3) Ln) (hP : va_P (kv_D Z) vwCl (kv_w Z (kg_w G)) H) (hS : va_S (kv_A Z) s.heap H locs) {r : Int32} {G1 G2 : kg_G} (h1 : kjx_forget G = some (r, G1)) (h2 : kjm_forget G1 = some (r, G2)) (hc2 : (kg_w G2).length ≤ 600000) (hs2 : kv_sl (kg_w G2) ≤ 7302250) (kk : ∀ (H1 : Heap) (locs1 : List Loc), va_P (kv_D Z) vwCl (kv_w Z (kg_w G2)) H1 → va_S (kv_A Z) s.heap H1 locs1 → W p Z.1 e room_1 s m #[Value.ref b] below meth c H1 locs1 (kg_w G2).length (kv_sl (kg_w G2)) Q (F0 m 810 L [])) : W p Z.1 e room_1 s m #[Value.ref b] below meth c H locs (kg_w G).length (kv_sl (kg_w G)) Q (F0 m 691 L []) := by
  obtain ⟨hx, hb, hr, hml, hown, hts, hX, hbl, hlocks, hgv⟩ := id C0
  have hbA : ¬ kv_A Z b := by show ¬ kv_b Z ≤ b; rw [← hs0]; exact Nat.not_le.mpr hbl
  refine lv_aload_n hx hb dL_law_691 rfl (lv_at hLs 1 rfl) ?_
  refine kl_callV (M' := kMX10_forget) (a := 0) (As := []) (rest := []) C0 hK hs0 hLs.1 (kl_R_X10_forget h1) koX10_forget rfl rfl rfl kw4_44 kw4_45 kw4_46 rfl (Nat.le_of_ble_eq_true rfl) dL_law_692 (Nat.le_of_ble_eq_true rfl) (Nat.le_trans (kl_R_X11_forget (Z := Z) h2).1.1 hc2) (Nat.le_trans (kl_R_X11_forget (Z := Z) h2).1.2 hs2) hP hS (fun H locs hP hS => ?_)
  refine lv_aload_n hx hb dL_law_695 rfl (lv_at hLs 2 rfl) ?_
  refine kl_callV (M' := kMX11_forget) (a := 28) (As := []) (rest := [.int r]) C0 hK hs0 hLs.1 (kl_R_X11_forget h2) koX11_forget rfl rfl rfl kw6_23 kw6_24 kw6_25 rfl (Nat.le_of_ble_eq_true rfl) dL_law_696 (Nat.le_of_ble_eq_true rfl) hc2 hs2 hP hS (fun H locs hP hS => ?_)
  refine lv_icmp_eq (tgt := 810) hx hb dL_law_699 rfl (fun _ => ?_) (fun z => absurd rfl z)
  exact kk H locs hP hS
theorem kl_R_X10_tours {Z : kv_Z} {G G1 : kg_G} {a1 : Int32} {a2 : Int32} {a3 : Int32} {r : Int32} (h : kjx_tours G a1 a2 a3 = some (r, G1)) : kv_M Z (0 + 5) kMX10_tours [.ref 0, .int a1, .int a2, .int a3] (kg_w G) (some (.int r)) (kg_w G1) := RX10_tours (Z := Z) 0 (G := G) (res := (r, G1)) h
theorem kl_R_X11_tours {Z : kv_Z} {G G1 : kg_G} {a1 : Int32} {a2 : Int32} {a3 : Int32} {r : Int32} (h : kjm_tours G a1 a2 a3 = some (r, G1)) : kv_M Z (0 + 5) kMX11_tours [.ref 28, .int a1, .int a2, .int a3] (kg_w G) (some (.int r)) (kg_w G1) := RX11_tours (Z := Z) 0 (G := G) (res := (r, G1)) h
set_option maxRecDepth 20000 in
set_option maxHeartbeats 8000000 in
theorem kl_case_tours (C0 : lw_At p s m meth c b Ln xs) (hK : kv_K Z s) (hs0 : s.heap.size = kv_b Z) {G : kg_G} {H : Heap} {locs : List Loc} {L : Array Slot} {i : Int32} (hLs : lv_has L 4 [(0, .ref b), (1, .ref (kv_b Z + 0)), (2, .ref (kv_b Z + 28)), (3, .int i)]) (hi1 : vp_in (i + 1) Ln) (hi2 : vp_in (i + 2) Ln) (hi3 : vp_in (i + 3) Ln) (hP : va_P (kv_D Z) vwCl (kv_w Z (kg_w G)) H) (hS : va_S (kv_A Z) s.heap H locs) {r : Int32} {G1 G2 : kg_G} (h1 : kjx_tours G (xs (i + 1).toNatClampNeg) (xs (i + 2).toNatClampNeg) (xs (i + 3).toNatClampNeg) = some (r, G1)) (h2 : kjm_tours G1 (xs (i + 1).toNatClampNeg) (xs (i + 2).toNatClampNeg) (xs (i + 3).toNatClampNeg) = some (r, G2)) (hc2 : (kg_w G2).length ≤ 600000) (hs2 : kv_sl (kg_w G2) ≤ 7302250) (kk : ∀ (H1 : Heap) (locs1 : List Loc), va_P (kv_D Z) vwCl (kv_w Z (kg_w G2)) H1 → va_S (kv_A Z) s.heap H1 locs1 → W p Z.1 e room_1 s m #[Value.ref b] below meth c H1 locs1 (kg_w G2).length (kv_sl (kg_w G2)) Q (F0 m 810 L [])) : W p Z.1 e room_1 s m #[Value.ref b] below meth c H locs (kg_w G).length (kv_sl (kg_w G)) Q (F0 m 704 L []) := by
  obtain ⟨hx, hb, hr, hml, hown, hts, hX, hbl, hlocks, hgv⟩ := id C0
  have hbA : ¬ kv_A Z b := by show ¬ kv_b Z ≤ b; rw [← hs0]; exact Nat.not_le.mpr hbl
  refine lv_aload_n hx hb dL_law_704 rfl (lv_at hLs 1 rfl) ?_
  refine lv_aload_n hx hb dL_law_705 rfl (lv_at hLs 0 rfl) ?_
  refine lv_iload_n hx hb dL_law_706 rfl (lv_at hLs 3 rfl) ?_
  refine lv_iconst (v := 1) hx hb dL_law_707 (by decide) ?_
  refine lv_iadd hx hb dL_law_708 ?_
  refine va_sld hx hb hX hbl hbA hS hi1 dL_law_709 ?_
  refine lv_aload_n hx hb dL_law_710 rfl (lv_at hLs 0 rfl) ?_
  refine lv_iload_n hx hb dL_law_711 rfl (lv_at hLs 3 rfl) ?_
  refine lv_iconst (v := 2) hx hb dL_law_712 (by decide) ?_
  refine lv_iadd hx hb dL_law_713 ?_
  refine va_sld hx hb hX hbl hbA hS hi2 dL_law_714 ?_
  refine lv_aload_n hx hb dL_law_715 rfl (lv_at hLs 0 rfl) ?_
  refine lv_iload_n hx hb dL_law_716 rfl (lv_at hLs 3 rfl) ?_
  refine lv_iconst (v := 3) hx hb dL_law_717 (by decide) ?_
  refine lv_iadd hx hb dL_law_718 ?_
  refine va_sld hx hb hX hbl hbA hS hi3 dL_law_719 ?_
  refine kl_callV (M' := kMX10_tours) (a := 0) (As := [.int (xs (i + 1).toNatClampNeg), .int (xs (i + 2).toNatClampNeg), .int (xs (i + 3).toNatClampNeg)]) (rest := []) C0 hK hs0 hLs.1 (kl_R_X10_tours h1) koX10_tours rfl rfl rfl kw4_48 kw4_49 kw4_50 rfl (Nat.le_of_ble_eq_true rfl) dL_law_720 (Nat.le_of_ble_eq_true rfl) (Nat.le_trans (kl_R_X11_tours (Z := Z) h2).1.1 hc2) (Nat.le_trans (kl_R_X11_tours (Z := Z) h2).1.2 hs2) hP hS (fun H locs hP hS => ?_)
  refine lv_aload_n hx hb dL_law_723 rfl (lv_at hLs 2 rfl) ?_
  refine lv_aload_n hx hb dL_law_724 rfl (lv_at hLs 0 rfl) ?_
  refine lv_iload_n hx hb dL_law_725 rfl (lv_at hLs 3 rfl) ?_
  refine lv_iconst (v := 1) hx hb dL_law_726 (by decide) ?_
  refine lv_iadd hx hb dL_law_727 ?_
  refine va_sld hx hb hX hbl hbA hS hi1 dL_law_728 ?_
  refine lv_aload_n hx hb dL_law_729 rfl (lv_at hLs 0 rfl) ?_
  refine lv_iload_n hx hb dL_law_730 rfl (lv_at hLs 3 rfl) ?_
  refine lv_iconst (v := 2) hx hb dL_law_731 (by decide) ?_
  refine lv_iadd hx hb dL_law_732 ?_
  refine va_sld hx hb hX hbl hbA hS hi2 dL_law_733 ?_
  refine lv_aload_n hx hb dL_law_734 rfl (lv_at hLs 0 rfl) ?_
  refine lv_iload_n hx hb dL_law_735 rfl (lv_at hLs 3 rfl) ?_
  refine lv_iconst (v := 3) hx hb dL_law_736 (by decide) ?_
  refine lv_iadd hx hb dL_law_737 ?_
  refine va_sld hx hb hX hbl hbA hS hi3 dL_law_738 ?_
  refine kl_callV (M' := kMX11_tours) (a := 28) (As := [.int (xs (i + 1).toNatClampNeg), .int (xs (i + 2).toNatClampNeg), .int (xs (i + 3).toNatClampNeg)]) (rest := [.int r]) C0 hK hs0 hLs.1 (kl_R_X11_tours h2) koX11_tours rfl rfl rfl kw6_27 kw6_28 kw6_29 rfl (Nat.le_of_ble_eq_true rfl) dL_law_739 (Nat.le_of_ble_eq_true rfl) hc2 hs2 hP hS (fun H locs hP hS => ?_)
  refine lv_icmp_eq (tgt := 810) hx hb dL_law_742 rfl (fun _ => ?_) (fun z => absurd rfl z)
  exact kk H locs hP hS
theorem kl_R_X10_image {Z : kv_Z} {G G1 : kg_G} {r : Int32} (h : kjx_image G = some (r, G1)) : kv_M Z (0 + 1) kMX10_image [.ref 0] (kg_w G) (some (.int r)) (kg_w G1) := RX10_image (Z := Z) 0 (G := G) (res := (r, G1)) h
theorem kl_R_X11_image {Z : kv_Z} {G G1 : kg_G} {r : Int32} (h : kjm_image G = some (r, G1)) : kv_M Z (0 + 1) kMX11_image [.ref 28] (kg_w G) (some (.int r)) (kg_w G1) := RX11_image (Z := Z) 0 (G := G) (res := (r, G1)) h
set_option maxRecDepth 20000 in
set_option maxHeartbeats 8000000 in
theorem kl_case_image (C0 : lw_At p s m meth c b Ln xs) (hK : kv_K Z s) (hs0 : s.heap.size = kv_b Z) {G : kg_G} {H : Heap} {locs : List Loc} {L : Array Slot} {i : Int32} (hLs : lv_has L 4 [(0, .ref b), (1, .ref (kv_b Z + 0)), (2, .ref (kv_b Z + 28)), (3, .int i)]) (hi1 : vp_in (i + 1) Ln) (hi2 : vp_in (i + 2) Ln) (hi3 : vp_in (i + 3) Ln) (hP : va_P (kv_D Z) vwCl (kv_w Z (kg_w G)) H) (hS : va_S (kv_A Z) s.heap H locs) {r : Int32} {G1 G2 : kg_G} (h1 : kjx_image G = some (r, G1)) (h2 : kjm_image G1 = some (r, G2)) (hc2 : (kg_w G2).length ≤ 600000) (hs2 : kv_sl (kg_w G2) ≤ 7302250) (kk : ∀ (H1 : Heap) (locs1 : List Loc), va_P (kv_D Z) vwCl (kv_w Z (kg_w G2)) H1 → va_S (kv_A Z) s.heap H1 locs1 → W p Z.1 e room_1 s m #[Value.ref b] below meth c H1 locs1 (kg_w G2).length (kv_sl (kg_w G2)) Q (F0 m 810 L [])) : W p Z.1 e room_1 s m #[Value.ref b] below meth c H locs (kg_w G).length (kv_sl (kg_w G)) Q (F0 m 747 L []) := by
  obtain ⟨hx, hb, hr, hml, hown, hts, hX, hbl, hlocks, hgv⟩ := id C0
  have hbA : ¬ kv_A Z b := by show ¬ kv_b Z ≤ b; rw [← hs0]; exact Nat.not_le.mpr hbl
  refine lv_aload_n hx hb dL_law_747 rfl (lv_at hLs 1 rfl) ?_
  refine kl_callV (M' := kMX10_image) (a := 0) (As := []) (rest := []) C0 hK hs0 hLs.1 (kl_R_X10_image h1) koX10_image rfl rfl rfl kw4_90 kw4_91 kw4_92 rfl (Nat.le_of_ble_eq_true rfl) dL_law_748 (Nat.le_of_ble_eq_true rfl) (Nat.le_trans (kl_R_X11_image (Z := Z) h2).1.1 hc2) (Nat.le_trans (kl_R_X11_image (Z := Z) h2).1.2 hs2) hP hS (fun H locs hP hS => ?_)
  refine lv_aload_n hx hb dL_law_751 rfl (lv_at hLs 2 rfl) ?_
  refine kl_callV (M' := kMX11_image) (a := 28) (As := []) (rest := [.int r]) C0 hK hs0 hLs.1 (kl_R_X11_image h2) koX11_image rfl rfl rfl kw6_49 kw6_50 kw6_51 rfl (Nat.le_of_ble_eq_true rfl) dL_law_752 (Nat.le_of_ble_eq_true rfl) hc2 hs2 hP hS (fun H locs hP hS => ?_)
  refine lv_icmp_eq (tgt := 810) hx hb dL_law_755 rfl (fun _ => ?_) (fun z => absurd rfl z)
  exact kk H locs hP hS
theorem kl_R_X10_restore {Z : kv_Z} {G G1 : kg_G} {r : Int32} (h : kjx_restore G = some (r, G1)) : kv_M Z (0 + 1) kMX10_restore [.ref 0] (kg_w G) (some (.int r)) (kg_w G1) := RX10_restore (Z := Z) 0 (G := G) (res := (r, G1)) h
theorem kl_R_X11_restore {Z : kv_Z} {G G1 : kg_G} {r : Int32} (h : kjm_restore G = some (r, G1)) : kv_M Z (0 + 1) kMX11_restore [.ref 28] (kg_w G) (some (.int r)) (kg_w G1) := RX11_restore (Z := Z) 0 (G := G) (res := (r, G1)) h
set_option maxRecDepth 20000 in
set_option maxHeartbeats 8000000 in
theorem kl_case_restore (C0 : lw_At p s m meth c b Ln xs) (hK : kv_K Z s) (hs0 : s.heap.size = kv_b Z) {G : kg_G} {H : Heap} {locs : List Loc} {L : Array Slot} {i : Int32} (hLs : lv_has L 4 [(0, .ref b), (1, .ref (kv_b Z + 0)), (2, .ref (kv_b Z + 28)), (3, .int i)]) (hi1 : vp_in (i + 1) Ln) (hi2 : vp_in (i + 2) Ln) (hi3 : vp_in (i + 3) Ln) (hP : va_P (kv_D Z) vwCl (kv_w Z (kg_w G)) H) (hS : va_S (kv_A Z) s.heap H locs) {r : Int32} {G1 G2 : kg_G} (h1 : kjx_restore G = some (r, G1)) (h2 : kjm_restore G1 = some (r, G2)) (hc2 : (kg_w G2).length ≤ 600000) (hs2 : kv_sl (kg_w G2) ≤ 7302250) (kk : ∀ (H1 : Heap) (locs1 : List Loc), va_P (kv_D Z) vwCl (kv_w Z (kg_w G2)) H1 → va_S (kv_A Z) s.heap H1 locs1 → W p Z.1 e room_1 s m #[Value.ref b] below meth c H1 locs1 (kg_w G2).length (kv_sl (kg_w G2)) Q (F0 m 810 L [])) : W p Z.1 e room_1 s m #[Value.ref b] below meth c H locs (kg_w G).length (kv_sl (kg_w G)) Q (F0 m 760 L []) := by
  obtain ⟨hx, hb, hr, hml, hown, hts, hX, hbl, hlocks, hgv⟩ := id C0
  have hbA : ¬ kv_A Z b := by show ¬ kv_b Z ≤ b; rw [← hs0]; exact Nat.not_le.mpr hbl
  refine lv_aload_n hx hb dL_law_760 rfl (lv_at hLs 1 rfl) ?_
  refine kl_callV (M' := kMX10_restore) (a := 0) (As := []) (rest := []) C0 hK hs0 hLs.1 (kl_R_X10_restore h1) koX10_restore rfl rfl rfl kw4_99 kw4_100 kw4_101 rfl (Nat.le_of_ble_eq_true rfl) dL_law_761 (Nat.le_of_ble_eq_true rfl) (Nat.le_trans (kl_R_X11_restore (Z := Z) h2).1.1 hc2) (Nat.le_trans (kl_R_X11_restore (Z := Z) h2).1.2 hs2) hP hS (fun H locs hP hS => ?_)
  refine lv_aload_n hx hb dL_law_764 rfl (lv_at hLs 2 rfl) ?_
  refine kl_callV (M' := kMX11_restore) (a := 28) (As := []) (rest := [.int r]) C0 hK hs0 hLs.1 (kl_R_X11_restore h2) koX11_restore rfl rfl rfl kw6_53 kw6_54 kw6_55 rfl (Nat.le_of_ble_eq_true rfl) dL_law_765 (Nat.le_of_ble_eq_true rfl) hc2 hs2 hP hS (fun H locs hP hS => ?_)
  refine lv_icmp_eq (tgt := 810) hx hb dL_law_768 rfl (fun _ => ?_) (fun z => absurd rfl z)
  exact kk H locs hP hS
theorem kl_R_X10_count {Z : kv_Z} {G G1 : kg_G} {a1 : Int32} {r : Int32} (h : kjx_count G a1 = some (r, G1)) : kv_M Z (0 + 4) kMX10_count [.ref 0, .int a1] (kg_w G) (some (.int r)) (kg_w G1) := by
  obtain ⟨w, hw, e⟩ := Option.map_eq_some_iff.mp h
  cases e
  exact RX10_count (Z := Z) 0 (G := G) hw
theorem kl_R_X11_count {Z : kv_Z} {G G1 : kg_G} {a1 : Int32} {r : Int32} (h : kjm_count G a1 = some (r, G1)) : kv_M Z (0 + 5) kMX11_count [.ref 28, .int a1] (kg_w G) (some (.int r)) (kg_w G1) := by
  obtain ⟨w, hw, e⟩ := Option.map_eq_some_iff.mp h
  cases e
  exact RX11_count (Z := Z) 0 (G := G) hw
set_option maxRecDepth 20000 in
set_option maxHeartbeats 8000000 in
theorem kl_case_count (C0 : lw_At p s m meth c b Ln xs) (hK : kv_K Z s) (hs0 : s.heap.size = kv_b Z) {G : kg_G} {H : Heap} {locs : List Loc} {L : Array Slot} {i : Int32} (hLs : lv_has L 4 [(0, .ref b), (1, .ref (kv_b Z + 0)), (2, .ref (kv_b Z + 28)), (3, .int i)]) (hi1 : vp_in (i + 1) Ln) (hi2 : vp_in (i + 2) Ln) (hi3 : vp_in (i + 3) Ln) (hP : va_P (kv_D Z) vwCl (kv_w Z (kg_w G)) H) (hS : va_S (kv_A Z) s.heap H locs) {r : Int32} {G1 G2 : kg_G} (h1 : kjx_count G (xs (i + 1).toNatClampNeg) = some (r, G1)) (h2 : kjm_count G1 (xs (i + 1).toNatClampNeg) = some (r, G2)) (hc2 : (kg_w G2).length ≤ 600000) (hs2 : kv_sl (kg_w G2) ≤ 7302250) (kk : ∀ (H1 : Heap) (locs1 : List Loc), va_P (kv_D Z) vwCl (kv_w Z (kg_w G2)) H1 → va_S (kv_A Z) s.heap H1 locs1 → W p Z.1 e room_1 s m #[Value.ref b] below meth c H1 locs1 (kg_w G2).length (kv_sl (kg_w G2)) Q (F0 m 810 L [])) : W p Z.1 e room_1 s m #[Value.ref b] below meth c H locs (kg_w G).length (kv_sl (kg_w G)) Q (F0 m 773 L []) := by
  obtain ⟨hx, hb, hr, hml, hown, hts, hX, hbl, hlocks, hgv⟩ := id C0
  have hbA : ¬ kv_A Z b := by show ¬ kv_b Z ≤ b; rw [← hs0]; exact Nat.not_le.mpr hbl
  refine lv_aload_n hx hb dL_law_773 rfl (lv_at hLs 1 rfl) ?_
  refine lv_aload_n hx hb dL_law_774 rfl (lv_at hLs 0 rfl) ?_
  refine lv_iload_n hx hb dL_law_775 rfl (lv_at hLs 3 rfl) ?_
  refine lv_iconst (v := 1) hx hb dL_law_776 (by decide) ?_
  refine lv_iadd hx hb dL_law_777 ?_
  refine va_sld hx hb hX hbl hbA hS hi1 dL_law_778 ?_
  refine kl_callV (M' := kMX10_count) (a := 0) (As := [.int (xs (i + 1).toNatClampNeg)]) (rest := []) C0 hK hs0 hLs.1 (kl_R_X10_count h1) koX10_count rfl rfl rfl kw4_103 kw4_104 kw4_105 rfl (Nat.le_of_ble_eq_true rfl) dL_law_779 (Nat.le_of_ble_eq_true rfl) (Nat.le_trans (kl_R_X11_count (Z := Z) h2).1.1 hc2) (Nat.le_trans (kl_R_X11_count (Z := Z) h2).1.2 hs2) hP hS (fun H locs hP hS => ?_)
  refine lv_aload_n hx hb dL_law_782 rfl (lv_at hLs 2 rfl) ?_
  refine lv_aload_n hx hb dL_law_783 rfl (lv_at hLs 0 rfl) ?_
  refine lv_iload_n hx hb dL_law_784 rfl (lv_at hLs 3 rfl) ?_
  refine lv_iconst (v := 1) hx hb dL_law_785 (by decide) ?_
  refine lv_iadd hx hb dL_law_786 ?_
  refine va_sld hx hb hX hbl hbA hS hi1 dL_law_787 ?_
  refine kl_callV (M' := kMX11_count) (a := 28) (As := [.int (xs (i + 1).toNatClampNeg)]) (rest := [.int r]) C0 hK hs0 hLs.1 (kl_R_X11_count h2) koX11_count rfl rfl rfl kw6_57 kw6_58 kw6_59 rfl (Nat.le_of_ble_eq_true rfl) dL_law_788 (Nat.le_of_ble_eq_true rfl) hc2 hs2 hP hS (fun H locs hP hS => ?_)
  refine lv_icmp_eq (tgt := 810) hx hb dL_law_791 rfl (fun _ => ?_) (fun z => absurd rfl z)
  exact kk H locs hP hS
theorem kl_R_X10_digest {Z : kv_Z} {G G1 : kg_G} {r : Int64} (h : kjx_digest G = some (r, G1)) : kv_M Z (0 + 6) kMX10_digest [.ref 0] (kg_w G) (some (.long r)) (kg_w G1) := by
  obtain ⟨w, hw, e⟩ := Option.map_eq_some_iff.mp h
  cases e
  exact RX10_digest (Z := Z) 0 (G := G) hw
theorem kl_R_X11_digest {Z : kv_Z} {G G1 : kg_G} {r : Int64} (h : kjm_digest G = some (r, G1)) : kv_M Z (0 + 5) kMX11_digest [.ref 28] (kg_w G) (some (.long r)) (kg_w G1) := RX11_digest (Z := Z) 0 (G := G) (res := (r, G1)) h
set_option maxRecDepth 20000 in
set_option maxHeartbeats 8000000 in
theorem kl_case_digest (C0 : lw_At p s m meth c b Ln xs) (hK : kv_K Z s) (hs0 : s.heap.size = kv_b Z) {G : kg_G} {H : Heap} {locs : List Loc} {L : Array Slot} {i : Int32} (hLs : lv_has L 4 [(0, .ref b), (1, .ref (kv_b Z + 0)), (2, .ref (kv_b Z + 28)), (3, .int i)]) (hi1 : vp_in (i + 1) Ln) (hi2 : vp_in (i + 2) Ln) (hi3 : vp_in (i + 3) Ln) (hP : va_P (kv_D Z) vwCl (kv_w Z (kg_w G)) H) (hS : va_S (kv_A Z) s.heap H locs) {r : Int64} {G1 G2 : kg_G} (h1 : kjx_digest G = some (r, G1)) (h2 : kjm_digest G1 = some (r, G2)) (hc2 : (kg_w G2).length ≤ 600000) (hs2 : kv_sl (kg_w G2) ≤ 7302250) (kk : ∀ (H1 : Heap) (locs1 : List Loc), va_P (kv_D Z) vwCl (kv_w Z (kg_w G2)) H1 → va_S (kv_A Z) s.heap H1 locs1 → W p Z.1 e room_1 s m #[Value.ref b] below meth c H1 locs1 (kg_w G2).length (kv_sl (kg_w G2)) Q (F0 m 810 L [])) : W p Z.1 e room_1 s m #[Value.ref b] below meth c H locs (kg_w G).length (kv_sl (kg_w G)) Q (F0 m 796 L []) := by
  obtain ⟨hx, hb, hr, hml, hown, hts, hX, hbl, hlocks, hgv⟩ := id C0
  have hbA : ¬ kv_A Z b := by show ¬ kv_b Z ≤ b; rw [← hs0]; exact Nat.not_le.mpr hbl
  refine lv_aload_n hx hb dL_law_796 rfl (lv_at hLs 1 rfl) ?_
  refine kl_callV (M' := kMX10_digest) (a := 0) (As := []) (rest := []) C0 hK hs0 hLs.1 (kl_R_X10_digest h1) koX10_digest rfl rfl rfl kw4_116 kw4_117 kw4_118 rfl (Nat.le_of_ble_eq_true rfl) dL_law_797 (Nat.le_of_ble_eq_true rfl) (Nat.le_trans (kl_R_X11_digest (Z := Z) h2).1.1 hc2) (Nat.le_trans (kl_R_X11_digest (Z := Z) h2).1.2 hs2) hP hS (fun H locs hP hS => ?_)
  refine lv_aload_n hx hb dL_law_800 rfl (lv_at hLs 2 rfl) ?_
  refine kl_callV (M' := kMX11_digest) (a := 28) (As := []) (rest := [.long r]) C0 hK hs0 hLs.1 (kl_R_X11_digest h2) koX11_digest rfl rfl rfl kw6_73 kw6_74 kw6_75 rfl (Nat.le_of_ble_eq_true rfl) dL_law_801 (Nat.le_of_ble_eq_true rfl) hc2 hs2 hP hS (fun H locs hP hS => ?_)
  refine W.lcmp hx hb dL_law_804 ?_
  refine lv_if_eq (tgt := 810) hx hb dL_law_805 rfl (fun _ => ?_) (fun z => absurd (by simp [lg_cmp]) z)
  exact kk H locs hP hS
end LAW
