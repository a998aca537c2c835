/-! WHAT WAS SEEN, AND WHAT TO TRY -/
/-- what was seen of one, of one strong -/
def jsc (q : Nat → tk_Q) (D : jD) (p s i : Nat) : Bool := !(decide ((jsg D i).1 = p)) || (jfs (q (jsg D i).2.1) s == (jsg D i).2.2)
def jso (q : Nat → tk_Q) (D : jD) (p : Nat) : Nat := kset (fun s => kall (jsc q D p s) (jsn D)) 10
section JS
variable {N : Nat} {G : kg_G} {T np : Nat} {q : Nat → tk_Q} {D : jD}
theorem x_strongsOf (h : jX N G T np q D) {p : Nat} (hp : p < 5) : fX9_strongsOf N G (nI p) = some (nI (jso q D p)) := by
  obtain ⟨hL, hU, hB, hT, hV, hN⟩ := h
  have h8 := hV.2.2.2.2.2.1
  have h5 := hU.2.1
  obtain ⟨n', a', e1, e2⟩ := kl_inv (fun n a i => fX9_strongsOf_6 N G n (nI p) a i) (fun i a => a = nI (kset (fun s => kall (jsc q D p s) i) 10)) (jsn D) (n := N) (a := 1023) (by omega) (by show (1023 : Int32) = nI (kset (fun _ => true) 10); decide) (by
    intro n a j hj ha
    have hs := hT.2.2.2.2.2 j hj
    have hv := (hV.2.2.2.2.2.2 j hj).1
    refine ⟨if (jsg D j).1 = p then a &&& jss (q (jsg D j).2.1) (jsg D j).2.2 else a, ?_, ?_⟩
    · show fX9_strongsOf_6 N G (n + 1) (nI p) a (nI j) = fX9_strongsOf_6 N G n (nI p) _ _
      have z1 : kv_g (G.2.1 8) (nI j) = some (nI (jsg D j).1) := by rw [kA_g hL (by decide) (by show _ < 8; omega), hs.1]
      have z2 : kv_g (G.2.1 9) (nI j) = some (jss (q (jsg D j).2.1) (jsg D j).2.2) := by rw [kA_g hL (by decide) (by show _ < 8; omega), hs.2]
      have z3 := kn_eq (a := (jsg D j).1) (b := p) (by omega) (by omega)
      have z4 := m_loop (m := jsn D) (j := j) (by omega) hj
      rw [fX9_strongsOf_6, hT.2.2.2.2.1, if_neg z4]
      simp only [z1, z2, Option.bind_some, z3, kn_succ]
      split <;> rfl
    · rw [ha, jss_set]
      split
      · rename_i z
        rw [nI_and, kset_and]
        congr 1
        refine kset_congr 10 (fun s _ => ?_)
        show _ = (kall (jsc q D p s) j && jsc q D p s j)
        unfold jsc
        simp [z]
      · rename_i z
        congr 1
        refine kset_congr 10 (fun s _ => ?_)
        show _ = (kall (jsc q D p s) j && jsc q D p s j)
        unfold jsc
        simp [z])
  refine Eq.trans e1 ?_
  show fX9_strongsOf_6 N G (n' + 1) (nI p) a' (nI (jsn D)) = _
  rw [fX9_strongsOf_6, hT.2.2.2.2.1, if_pos (by rw [kn_le (by omega) (by omega)]; omega), e2]
  rfl
theorem m_strong1 (h : jM N G T np q D) {p : Nat} (hp : p < 5) {s : Nat} (hs : s < 10) (a : Int32) (K : Int32 → Int32 → Int32 → Option Int32) : fX11_strongsOf_16 N G K N (nI p) a (nI s) 1 0 = K (nI p) (if kall (jsc q D p s) (jsn D) then a ||| (1 <<< (nI s &&& 31)) else a) (nI (s + 1)) := by
  have h' := h
  obtain ⟨hL, hU, hR, hT, hV, hN⟩ := h
  have h8 := hV.2.2.2.2.2.1
  have h5 := hU.2.1
  have hsn : G.1 28 23 = nI (jsn D) := hT.2.2.2.1
  obtain ⟨n2, b', f1, f2⟩ := kl_inv (fun n b i => fX11_strongsOf_16 N G K n (nI p) a (nI s) b (3 * i)) (fun j b => b = if kall (jsc q D p s) j then 1 else 0) (jsn D) (n := N) (a := 1) (by omega) rfl (by
    intro n1 b j hj hb
    have hs := hT.2.2.2.2 j hj
    have hv := hV.2.2.2.2.2.2 j hj
    refine ⟨if kall (jsc q D p s) (j + 1) then 1 else 0, ?_, rfl⟩
    show fX11_strongsOf_16 N G K (n1 + 1) (nI p) a (nI s) b (3 * nI j) = fX11_strongsOf_16 N G K n1 (nI p) a (nI s) (if kall (jsc q D p s) (j + 1) then 1 else 0) (3 * nI (j + 1))
    have z0 : ¬ nI (3 * jsn D) ≤ nI (3 * j) := by rw [kn_le (by omega) (by omega)]; omega
    have z1 : kv_g (G.2.1 38) (nI (3 * j)) = some (nI (jsg D j).1) := by rw [kA_g hL (by decide) (by show _ < 24; omega), hs.1]
    have z2 : kv_g (G.2.1 38) (nI (3 * j + 1)) = some (nI (jsg D j).2.1) := by rw [kA_g hL (by decide) (by show _ < 24; omega), hs.2.1]
    have z3 : kv_g (G.2.1 38) (nI (3 * j + 2)) = some (if (jsg D j).2.2 then 1 else 0) := by rw [kA_g hL (by decide) (by show _ < 24; omega), hs.2.2]
    have z4 := kn_eq (a := (jsg D j).1) (b := p) (by omega) (by omega)
    have z5 : nI (3 * j) + 3 = nI (3 * (j + 1)) := kn_p3 (3 * j)
    rw [kn_3, kn_3, fX11_strongsOf_16, hsn, kn_3, if_neg z0]
    unfold fX11_strongsOf_79
    simp only [kn_succ, kn_p2, z1, z2, z3, z5, Option.bind_some, m_fitsBy h' hv.2, z4, hb]
    have z6 : jsu (q (jsg D j).2.1) (nI s) = jfs (q (jsg D j).2.1) s := rfl
    rw [z6]
    have cj : kall (jsc q D p s) (j + 1) = (kall (jsc q D p s) j && (!(decide ((jsg D j).1 = p)) || (jfs (q (jsg D j).2.1) s == (jsg D j).2.2))) := rfl
    by_cases c1 : kall (jsc q D p s) j = true <;> by_cases c2 : jfs (q (jsg D j).2.1) s = true <;> by_cases c3 : (jsg D j).2.2 = true <;> by_cases w : (jsg D j).1 = p <;> simp [cj, c1, c2, c3, w])
  refine Eq.trans f1 ?_
  show fX11_strongsOf_16 N G K (n2 + 1) (nI p) a (nI s) b' (3 * nI (jsn D)) = _
  rw [fX11_strongsOf_16, hsn, kn_3, if_pos (by rw [kn_le (by omega) (by omega)]; omega), f2, kn_succ, i_or0]
  by_cases z : kall (jsc q D p s) (jsn D) = true
  · simp [z]
  · simp [z]
theorem m_strongsOf (h : jM N G T np q D) {p : Nat} (hp : p < 5) : fX11_strongsOf N G (nI p) = some (nI (jso q D p)) := by
  have hN := h.2.2.2.2.2
  obtain ⟨n', a', e1, e2⟩ := kl_inv (fun n a i => fX11_strongsOf_4 N G n (nI p) a i) (fun j a => a = nI (kset (fun s => kall (jsc q D p s) (jsn D)) j)) 10 (n := N) (a := 0) (by omega) rfl (by
    intro n a s hs ha
    refine ⟨if kall (jsc q D p s) (jsn D) then a ||| (1 <<< (nI s &&& 31)) else a, ?_, ?_⟩
    · show fX11_strongsOf_4 N G (n + 1) (nI p) a (nI s) = fX11_strongsOf_4 N G n (nI p) _ _
      have q1 : ¬ (10 : Int32) ≤ nI s := m_loop (m := 10) (by omega) hs
      rw [fX11_strongsOf_4, if_neg q1, m_strong1 h hp hs]
    · rw [← k10_step _ hs, ← ha])
  refine Eq.trans e1 ?_
  show fX11_strongsOf_4 N G (n' + 1) (nI p) a' (nI 10) = _
  rw [fX11_strongsOf_4, if_pos (by decide), e2]
  rfl
/-- the better half of a trick, of a set of strongs -/
def jhalf (q : tk_Q) (m : Nat) : Int32 := fJ9_max_7cf53 (nI (kpc (fun s => m.testBit s && jfs q s) 10)) (nI (kpc (fun s => m.testBit s && !(jfs q s)) 10))
def jtry (q : Nat → tk_Q) (T m : Nat) : Int32 × Int32 := kfo (fun t a => if a.2 ≤ jhalf (q t) m then a else (nI t, jhalf (q t) m)) T (-1, 11)
def jtr (q : Nat → tk_Q) (T m : Nat) : Int32 := if m = 0 then -1 else (jtry q T m).1
theorem bc_and (f : Nat → Bool) {m : Nat} (hm : m < 1024) : fJ6_bitCount_0f7a4 (nI m &&& nI (kset f 10)) = nI (kpc (fun s => m.testBit s && f s) 10) := by
  have e : m &&& kset f 10 < 1024 := by
    show _ < 2 ^ 10
    exact Nat.and_lt_two_pow _ (kset_lt f 10)
  rw [nI_and, k10_bc _ e]
  congr 1
  refine kpc_congr 10 (fun j hj => ?_)
  rw [Nat.testBit_and, kset_tb, decide_eq_true hj, Bool.true_and]
theorem k10_xor : ∀ m, m < 1024 → ∀ (x : Int32), nI m &&& (x ^^^ (-1)) = nI m &&& (1023 &&& (x ^^^ (-1))) := by
  intro m hm x
  have e : nI m = nI m &&& 1023 := by
    show nI m = nI m &&& nI 1023
    rw [nI_and]
    congr 1
    exact (Nat.and_two_pow_sub_one_of_lt_two_pow (n := 10) hm).symm
  rw [← Int32.and_assoc, ← e]
theorem x_trickToTry (h : jX N G T np q D) {m : Nat} (hm : m < 1024) : fX0_trickToTry N G G.2.2.2.1 (nI m) = some (jtr q T m) := by
  obtain ⟨hL, hU, ⟨t0, ws, x, hb, hta, hl, hx⟩, hT, hV, hN⟩ := h
  have h5 := hU.1
  have z0 : (nI m = 0) = (m = 0) := kn_eq (a := m) (b := 0) (by omega) (by omega)
  unfold fX0_trickToTry jtr
  simp only [z0]
  split
  · rfl
  · refine kl_fold (fun n (a : Int32 × Int32) i => fX0_trickToTry_14 N G n G.2.2.2.1 (nI m) a.1 a.2 i) (fun t a => if a.2 ≤ jhalf (q t) m then a else (nI t, jhalf (q t) m)) T (fun a => some a.1) (n := N) (a := (-1, 11)) (by omega) ?_ ?_
    · intro n a
      show fX0_trickToTry_14 N G (n + 1) G.2.2.2.1 (nI m) a.1 a.2 (nI T) = _
      rw [fX0_trickToTry_14, hb, Option.bind_some, hta, Option.bind_some, hl, if_pos (by rw [kn_le (by omega) (by omega)]; omega)]
    · intro n a j hj
      show fX0_trickToTry_14 N G (n + 1) G.2.2.2.1 (nI m) a.1 a.2 (nI j) = fX0_trickToTry_14 N G n G.2.2.2.1 (nI m) _ _ _
      have e2 := m_loop (m := T) (j := j) (by omega) hj
      have e3 : tk_suitedStrongs (q j) = nI (kset (jfs (q j)) 10) := tk_ss_go (q j) 10 0 rfl
      have e4 : 1023 &&& (tk_suitedStrongs (q j) ^^^ (-1)) = nI (kset (fun s => !(jfs (q j) s)) 10) := by
        have := jss_set (q j) false
        unfold jss at this
        rw [if_neg (by decide)] at this
        rw [this]
        congr 1
        exact kset_congr 10 (fun s _ => by cases jfs (q j) s <;> rfl)
      rw [fX0_trickToTry_14]
      unfold fX0_trickToTry_57
      simp only [hb, Option.bind_some, hta, hl, e2, if_false, (hx j hj).1, (hx j hj).2, kn_succ]
      rw [k10_xor m hm, e4, e3, bc_and _ hm, bc_and _ hm]
      show (if a.2 ≤ jhalf (q j) m then _ else _) = _
      split <;> rfl
theorem m_try1 (h : jM N G T np q D) {m : Nat} (hm : m < 1024) {t : Nat} (ht : t < T) (K : Int32 → Int32 → Int32 → Int32 → Option Int32) (a b : Int32) : fX11_tryOf_34 N G K N (nI m) a b (nI t) 0 0 = K (nI m) (if b ≤ jhalf (q t) m then a else nI t) (if b ≤ jhalf (q t) m then b else jhalf (q t) m) (nI (t + 1)) := by
  have hN := h.2.2.2.2.2
  obtain ⟨n', c, e1, e2⟩ := kl_inv (fun n c i => fX11_tryOf_34 N G K n (nI m) a b (nI t) c i) (fun j c => c = nI (kpc (fun s => m.testBit s && jfs (q t) s) j)) 10 (n := N) (a := 0) (by omega) rfl (by
    intro n c s hs hc
    refine ⟨nI (kpc (fun s => m.testBit s && jfs (q t) s) (s + 1)), ?_, rfl⟩
    show fX11_tryOf_34 N G K (n + 1) (nI m) a b (nI t) c (nI s) = fX11_tryOf_34 N G K n (nI m) a b (nI t) _ _
    have q1 : ¬ (10 : Int32) ≤ nI s := m_loop (m := 10) (by omega) hs
    have z6 : jsu (q t) (nI s) = jfs (q t) s := rfl
    rw [fX11_tryOf_34, if_neg q1, m_fitsBy h ht, Option.bind_some, z6, kn_succ, i_add0, k10_sh m hm s hs, hc, kpc]
    cases jfs (q t) s <;> cases m.testBit s <;> simp [kn_succ, i_add0])
  refine Eq.trans e1 ?_
  show fX11_tryOf_34 N G K (n' + 1) (nI m) a b (nI t) c (nI 10) = _
  have hsp := kpc_split m.testBit (jfs (q t)) 10
  have l1 := kpc_le (fun s => m.testBit s && jfs (q t) s) 10
  have l2 := kpc_le (fun s => m.testBit s && !(jfs (q t) s)) 10
  have es : nI (kpc m.testBit 10) - nI (kpc (fun s => m.testBit s && jfs (q t) s) 10) = nI (kpc (fun s => m.testBit s && !(jfs (q t) s)) 10) := by
    rw [← hsp, Nat.add_comm, ← kn_add, Int32.add_sub_cancel]
  rw [fX11_tryOf_34, if_pos (by decide), m_ones10 hN hm, Option.bind_some, e2, es]
  have ej : jhalf (q t) m = if nI (kpc (fun s => m.testBit s && jfs (q t) s) 10) ≤ nI (kpc (fun s => m.testBit s && !(jfs (q t) s)) 10) then nI (kpc (fun s => m.testBit s && !(jfs (q t) s)) 10) else nI (kpc (fun s => m.testBit s && jfs (q t) s) 10) := by
    unfold jhalf fJ9_max_7cf53
    have y1 := kn_lt (a := kpc (fun s => m.testBit s && jfs (q t) s) 10) (b := kpc (fun s => m.testBit s && !(jfs (q t) s)) 10) (by omega) (by omega)
    have y2 := kn_le (a := kpc (fun s => m.testBit s && jfs (q t) s) 10) (b := kpc (fun s => m.testBit s && !(jfs (q t) s)) 10) (by omega) (by omega)
    simp only [y1, y2]
    by_cases z : kpc (fun s => m.testBit s && jfs (q t) s) 10 < kpc (fun s => m.testBit s && !(jfs (q t) s)) 10
    · rw [if_pos z, if_pos (by omega)]
    · rw [if_neg z]
      split
      · congr 1; omega
      · rfl
  have key : ∀ (w : Int32), fX11_tryOf_96 N G K (nI m) a b (nI t) w = K (nI m) (if b ≤ w then a else nI t) (if b ≤ w then b else w) (nI (t + 1)) := by
    intro w
    unfold fX11_tryOf_96 fX11_tryOf_111
    rw [kn_succ]
    split <;> rfl
  rw [ej]
  split
  · rw [key]
  · rw [key]
theorem m_tryOf (h : jM N G T np q D) {p : Nat} (hp : p < 5) : fX11_tryOf N G (nI p) = some (jtr q T (jso q D p)) := by
  unfold fX11_tryOf
  rw [m_strongsOf h hp, Option.bind_some]
  have hm : jso q D p < 1024 := kset_lt10 _
  generalize jso q D p = m at hm
  have h5 := h.2.1.1
  have hN := h.2.2.2.2.2
  have z0 : (nI m = 0) = (m = 0) := kn_eq (a := m) (b := 0) (by omega) (by omega)
  unfold jtr
  by_cases z : m = 0
  · obtain ⟨n, rfl⟩ : ∃ n, N = n + 1 := ⟨N - 1, by omega⟩
    rw [if_pos z, fX11_tryOf_15, if_pos (z0.mpr z)]
    split <;> rfl
  · rw [if_neg z]
    refine kl_fold (fun n (a : Int32 × Int32) i => fX11_tryOf_15 N G n (nI m) a.1 a.2 i) (fun t a => if a.2 ≤ jhalf (q t) m then a else (nI t, jhalf (q t) m)) T (fun a => some a.1) (n := N) (a := (-1, 11)) (by omega) ?_ ?_
    · intro n a
      show fX11_tryOf_15 N G (n + 1) (nI m) a.1 a.2 (nI T) = _
      rw [fX11_tryOf_15, m_T h, if_pos (by rw [kn_le (by omega) (by omega)]; omega)]
    · intro n a j hj
      show fX11_tryOf_15 N G (n + 1) (nI m) a.1 a.2 (nI j) = fX11_tryOf_15 N G n (nI m) _ _ _
      rw [fX11_tryOf_15, m_T h, if_neg (m_loop (by omega) hj), if_neg (fun y => z (z0.mp y)), m_try1 h hm hj]
      split <;> rfl
end JS
