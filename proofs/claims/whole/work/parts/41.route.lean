/-! THE ROUTE, both sides; COUNT -/
theorem nI_xor (a b : Nat) : nI a ^^^ nI b = nI (a ^^^ b) := by
  unfold nI
  apply Int32.toBitVec_inj.mp
  simp [BitVec.ofNat_xor]
theorem sub_of {l : Int32} {k : Nat} (hk : k < 32) (h : l &&& (nI k ^^^ (-1)) = 0) : ∃ m, m < 32 ∧ l = nI m ∧ m &&& k = m := by
  obtain ⟨n, hn, rfl⟩ : ∃ n, n < 2 ^ 32 ∧ l = nI n := ⟨l.toBitVec.toNat, l.toBitVec.isLt, by
    unfold nI
    apply Int32.toBitVec_inj.mp
    simp⟩
  have e : (-1 : Int32) = nI (2 ^ 32 - 1) := by decide
  rw [e, nI_xor, nI_and] at h
  have h0 : (nI (n &&& (k ^^^ (2 ^ 32 - 1)))).toBitVec.toNat = 0 := by rw [h]; rfl
  have h1 : (nI (n &&& (k ^^^ (2 ^ 32 - 1)))).toBitVec.toNat = (n &&& (k ^^^ (2 ^ 32 - 1))) % 2 ^ 32 := by
    exact BitVec.toNat_ofNat ..
  rw [h1, Nat.mod_eq_of_lt (Nat.lt_of_le_of_lt Nat.and_le_left hn)] at h0
  have h2 : n &&& k = n := by
    apply Nat.eq_of_testBit_eq
    intro p
    have := congrArg (fun x => x.testBit p) h0
    simp only [Nat.testBit_and, Nat.testBit_xor, Nat.testBit_two_pow_sub_one, Nat.zero_testBit] at this
    rw [Nat.testBit_and]
    by_cases hp : p < 32
    · simp only [hp, decide_true, Bool.bne_true] at this
      cases hb : n.testBit p
      · rfl
      · rw [hb] at this
        simpa using this
    · have : n.testBit p = false := Nat.testBit_lt_two_pow (Nat.lt_of_lt_of_le hn (Nat.pow_le_pow_right (by decide) (by omega)))
      rw [this]; rfl
  refine ⟨n, ?_, rfl, h2⟩
  have : n ≤ k := by rw [← h2]; exact Nat.and_le_right
  omega
section JT
variable {G : kg_G} {T np : Nat} {q : Nat → tk_Q} {D : jD}
/-- how far ahead the towns of a set lie -/
def jah (D : jD) (m : Nat) : Nat → Nat
  | 0 => 0
  | p + 1 => if m.testBit p then jah D m p ||| 2 ^ (((jtw D p).toInt.toNat + 6 - (jit D 7).toInt.toNat) % 6) else jah D m p
theorem jah_lt (D : jD) (m : Nat) : ∀ p, jah D m p < 64
  | 0 => (by decide : (0 : Nat) < 64)
  | p + 1 => by
    rw [jah]; split
    · exact (r_lt _ (jah_lt D m p) _ (Nat.mod_lt _ (by decide))).1
    · exact jah_lt D m p
theorem jah_ne (D : jD) (m : Nat) : ∀ p j, j < p → m.testBit j = true → jah D m p ≠ 0
  | 0, j, h, _ => by omega
  | p + 1, j, h, hb => by
    rw [jah]
    by_cases hp : m.testBit p = true
    · rw [if_pos hp]; exact (r_lt _ (jah_lt D m p) _ (Nat.mod_lt _ (by decide))).2
    · rw [if_neg hp]
      refine jah_ne D m p j ?_ hb
      by_cases e : j = p
      · rw [e] at hb; exact absurd hb hp
      · omega
theorem ex_bit : ∀ m, m < 32 → m ≠ 0 → ∃ j, j < 5 ∧ m.testBit j = true := by decide +kernel
theorem m_routeOf (h : jM kN G T np q D) {m : Nat} (hm : m < 32) (hs : m &&& jk D = m) (hz : m ≠ 0) : fX11_routeOf kN G (nI m) 0 = some (kmv (jah D m 5)) ∧ fX11_routeOf kN G (nI m) 1 = some (kfm (jah D m 5)) := by
  have hU := h.2.1
  have hV := h.2.2.2.2.1
  have h5 := hU.2.1
  have hk := (kb_andb m hm _ (jk32 hV hU)).mp hs
  have hit : G.1 28 5 = jit D 7 := h.2.2.2.1.2.2.1 7 (by omega) (by omega)
  obtain ⟨w0, hw0, ew0⟩ := hV.2.2.2.1
  have key : ∀ b : Int32, fX11_routeOf kN G (nI m) b = fX11_routeOf_71 kN G kN b (nI (jah D m 5)) 99 (-1) 0 := by
    intro b
    have ext : jah D m 5 = jah D m np := by
      have : ∀ d, np + d ≤ 5 → jah D m (np + d) = jah D m np := by
        intro d
        induction d with
        | zero => intro _; rfl
        | succ d ih =>
          intro hd
          rw [← Nat.add_assoc, jah, if_neg, ih (by omega)]
          intro x
          have := hk (np + d) (by omega) x
          rw [jk_hi hV hU (by omega) (by omega)] at this
          cases this
      have := this (5 - np) (by omega)
      rwa [show np + (5 - np) = 5 by omega] at this
    obtain ⟨n', a', e1, e2⟩ := kl_inv (fun n a i => fX11_routeOf_5 kN G n (nI m) b a i) (fun j a => a = nI (jah D m j)) np (n := kN) (a := 0) (by have := kN_gt; omega) rfl (by
      intro n a j hj ha
      refine ⟨nI (jah D m (j + 1)), ?_, rfl⟩
      show fX11_routeOf_5 kN G (n + 1) (nI m) b a (nI j) = fX11_routeOf_5 kN G n (nI m) b _ _
      rw [fX11_routeOf_5, m_np h, if_neg (m_loop (by omega) hj), kb_sh m hm j (by omega), mf_1 h hj, kn_succ, i_or0, ha, jah]
      by_cases hb : m.testBit j = true
      · have hkj := hk j (by omega) hb
        obtain ⟨w, hw, ew⟩ := (hV.2.1 j (by omega) hkj).2
        rw [if_pos hb, if_pos rfl, if_pos hkj, Option.bind_some, if_pos hb, hit, ew, ew0, r_or _ (jah_lt D m j) w (by omega) w0 (by omega), kn_int (by omega), kn_int (by omega)]
        rfl
      · rw [if_neg hb, if_neg (by decide), if_neg hb])
    refine Eq.trans e1 ?_
    show fX11_routeOf_5 kN G (n' + 1) (nI m) b a' (nI np) = _
    rw [fX11_routeOf_5, m_np h, if_pos (by rw [kn_le (by omega) (by omega)]; omega), e2, ext]
  obtain ⟨j, hj, hb⟩ := ex_bit m hm hz
  have r := r_all _ (jah_lt D m 5) (jah_ne D m 5 j hj hb)
  rw [key, key, r_71 kN G kN]
  exact ⟨r.1, r.2.1⟩
theorem x_movesAhead (h : jX kN G T np q D) {m : Nat} (hm : m < 32) (hs : m &&& jk D = m) : fX9_movesAhead kN G (nI m) = some (nI (jah D m 5)) := by
  have hU := h.2.1
  have hV := h.2.2.2.2.1
  have hk := (kb_andb m hm _ (jk32 hV hU)).mp hs
  have hit : G.1 3 7 = jit D 7 := h.2.2.2.1.2.2.2.1 7 (by omega) (by omega)
  obtain ⟨w0, hw0, ew0⟩ := hV.2.2.2.1
  obtain ⟨n', a', e1, e2⟩ := kl_inv (fun n a i => fX9_movesAhead_4 kN G n (nI m) a i) (fun j a => a = nI (jah D m j)) 5 (n := kN) (a := 0) (by have := kN_gt; omega) rfl (by
    intro n a j hj ha
    refine ⟨nI (jah D m (j + 1)), ?_, rfl⟩
    show fX9_movesAhead_4 kN G (n + 1) (nI m) a (nI j) = fX9_movesAhead_4 kN G n (nI m) _ _
    have q1 : ¬ (5 : Int32) ≤ nI j := m_loop (m := 5) (by omega) hj
    rw [fX9_movesAhead_4, if_neg q1, kb_has m hm j hj, kn_succ, ha, jah]
    by_cases hb : m.testBit j = true
    · have hkj := hk j (by omega) hb
      obtain ⟨w, hw, ew⟩ := (hV.2.1 j (by omega) hkj).2
      rw [if_pos hb, if_neg (by decide), if_pos hb, xt_g h hj hkj, Option.bind_some, hit, ew, ew0, kn_int (by omega), kn_int (by omega)]
      have r := r_orx _ (jah_lt D m j) w (by omega) w0 (by omega)
      cases e : fJ9_floorMod_7cf53 (nI w - nI w0) 6 with
      | none => rw [e] at r; cases r
      | some v =>
        rw [e, Option.bind_some] at r
        rw [Option.bind_some, Option.some.inj r]
        rfl
    · rw [if_neg hb, if_pos rfl, if_neg hb])
  refine Eq.trans e1 ?_
  show fX9_movesAhead_4 kN G (n' + 1) (nI m) a' (nI 5) = _
  rw [fX9_movesAhead_4, if_pos (by decide), e2]
theorem x_route (h : jX kN G T np q D) {m : Nat} (hm : m < 32) (hs : m &&& jk D = m) (hz : m ≠ 0) : fX10_route kN G (nI m) 0 = some (kmv (jah D m 5)) ∧ fX10_route kN G (nI m) 1 = some (kfm (jah D m 5)) := by
  have h1 : ¬ nI m = 0 := by
    have := kn_eq (a := m) (b := 0) (by omega) (by omega)
    intro x
    exact hz (this.mp x)
  have h2 : nI m &&& (G.1 3 6 ^^^ (-1)) = 0 := by
    rw [h.2.2.2.1.1]
    exact (kb_out m hm _ (jk32 h.2.2.2.2.1 h.2.1)).mpr hs
  obtain ⟨j, hj, hb⟩ := ex_bit m hm hz
  have r := r_all _ (jah_lt D m 5) (jah_ne D m 5 j hj hb)
  unfold fX10_route fX10_route_30
  rw [if_neg h1, if_neg h1, if_pos h2, if_pos h2, if_pos rfl, if_neg (by decide), if_pos rfl, x_movesAhead h hm hs, Option.bind_some, Option.bind_some, if_pos rfl, if_neg (by decide), r.2.2.1, r.2.2.2]
  exact ⟨rfl, rfl⟩
theorem ask_route (hX : jX kN G T np q D) (hM : jM kN G T np q D) (a b : Int32) : ∃ r, fX10_route kN G a b = some r ∧ fX11_route kN G a b = some r := by
  have hk32 := jk32 hX.2.2.2.2.1 hX.2.1
  have e : fX11_in b.toInt64 0 1 = if b = 0 then 1 else if b = 1 then 1 else 0 := by
    rw [in_int]
    have a0 : (0 : Int64).toInt = 0 := rfl
    have a1 : (1 : Int64).toInt = 1 := rfl
    have b0 : (b = 0) = (b.toInt = 0) := propext (Int32.toInt_inj (x := b) (y := 0)).symm
    have b1 : (b = 1) = (b.toInt = 1) := propext (Int32.toInt_inj (x := b) (y := 1)).symm
    simp only [b0, b1, a0, a1]
    by_cases z : b.toInt < 0
    · have z0 : ¬ b.toInt = 0 := by omega
      have z1 : ¬ b.toInt = 1 := by omega
      simp [z, z0, z1]
    · by_cases y : 1 < b.toInt
      · have z0 : ¬ b.toInt = 0 := by omega
        have z1 : ¬ b.toInt = 1 := by omega
        simp [z, y, z0, z1]
      · by_cases z0 : b.toInt = 0
        · simp [z, y, z0]
        · have z1 : b.toInt = 1 := by omega
          simp [z, y, z1]
  by_cases h2 : a &&& (nI (jk D) ^^^ (-1)) = 0
  · obtain ⟨m, hm, rfl, hs⟩ := sub_of hk32 h2
    by_cases hz : m = 0
    · subst hz
      exact ⟨-102, rfl, by unfold fX11_route; rw [if_pos (by decide)]⟩
    · have h1 : ¬ nI m < 1 := by
        show ¬ nI m < nI 1
        rw [kn_lt (by omega) (by omega)]; omega
      have h1' : ¬ nI m = 0 := by
        have := kn_eq (a := m) (b := 0) (by omega) (by omega)
        intro x
        exact hz (this.mp x)
      have h3 : ¬ (31 : Int32) < nI m := by
        show ¬ nI 31 < nI m
        rw [kn_lt (by omega) (by omega)]; omega
      have hT : T ≠ 0 := by
        intro x
        have y := hX.2.1.2.2.1 x
        have := hX.2.2.2.2.1.1
        rw [y] at this
        have : jk D = 0 := by omega
        rw [this] at hs
        simp at hs
        omega
      have hx := x_route hX hm hs hz
      have hmo := m_routeOf hM hm hs hz
      unfold fX11_route
      rw [if_neg h1, m_lacks hM, if_neg hT, if_pos rfl, if_neg h3, m_keptSet hM, Option.bind_some, if_pos h2, e]
      by_cases b0 : b = 0
      · subst b0
        refine ⟨_, hx.1, ?_⟩
        rw [if_pos rfl, if_neg (by decide), hmo.1]; rfl
      · by_cases b1 : b = 1
        · subst b1
          refine ⟨_, hx.2, ?_⟩
          rw [if_neg (by decide), hmo.2]; rfl
        · refine ⟨-102, ?_, ?_⟩
          · unfold fX10_route
            rw [if_neg h1', hX.2.2.2.1.1, if_pos h2, if_neg b0, if_neg b1]
          · rw [if_neg b0, if_neg b1, if_pos rfl]
  · refine ⟨-102, ?_, ?_⟩
    · unfold fX10_route
      rw [hX.2.2.2.1.1, if_neg h2]
      split <;> rfl
    · unfold fX11_route
      rw [m_keptSet hM, Option.bind_some, if_neg h2]
      repeat' split
      all_goals rfl
end JT
theorem op_route : ∀ (a1 a2 : Int32), kj_op jJ (fun G => kjx_route G a1 a2) (fun G => kjm_route G a1 a2) := fun a1 a2 => kj_ask (fun G T np q D hX hM => ask_route hX hM a1 a2)
/-- counts: what J says of the counters -/
theorem ask_count {k : Nat} {G : kg_G} (hJ : jJ k G) (c0 : Int64) (a : Int32) : ∃ r, fX10_count kN G a = some r ∧ fX11_countOf kN (kg_h G c0) a = some r := by
  obtain ⟨hL, hP, hA, hN, T, np, q, D, hU, hB, hR, hC, hM, hV, hK⟩ := hJ
  have hX' : jX kN G T np q D := ⟨hL, hU, hB, hC, hV, kN_gt⟩
  have hM' : jM kN G T np q D := ⟨hL, hU, hR, hM, hV, kN_gt⟩
  have hMh : jM kN (kg_h G c0) T np q D := ⟨hL, hU, hR, hM, hV, kN_gt⟩
  have gh : ∀ j, (kg_h G c0).1 28 j = G.1 28 j := fun _ => rfl
  obtain ⟨t0, ws, x, hb, hta, hl, hx⟩ := hB
  have hk32 := jk32 hV hU
  have c := fun j h1 h2 => (hC.2.2.2.1 j h1 h2).trans (hM.2.2.1 j h1 h2).symm
  have c7 : G.1 3 7 = G.1 28 5 := c 7 (by omega) (by omega)
  have c8 : G.1 3 8 = G.1 28 6 := c 8 (by omega) (by omega)
  have c9 : G.1 3 9 = G.1 28 7 := c 9 (by omega) (by omega)
  have c10 : G.1 3 10 = G.1 28 8 := c 10 (by omega) (by omega)
  have c11 : G.1 3 11 = G.1 28 9 := c 11 (by omega) (by omega)
  have c12 : G.1 3 12 = G.1 28 10 := c 12 (by omega) (by omega)
  have c13 : G.1 3 13 = G.1 28 23 := hC.2.2.2.2.1.trans hM.2.2.2.1.symm
  obtain ⟨⟨r, hr, n1, n2, n3⟩, ⟨a1, _, n4, n5⟩, ⟨a2, _, n6, n7⟩, ⟨a3, _, n8, n9⟩⟩ := hN
  unfold fX10_count fX11_countOf fX11_countMore
  rw [hb, Option.bind_some, hta, Option.bind_some, hl, x_doneNow hX', x_bound hX', m_keptSet hMh, m_doneNow hMh, m_bound hMh]
  simp only [gh]
  rw [m_T hM', m_np hM', hC.1, c7, c8, c9, c10, c11, c12, c13, hP.2.1, n1, n2, n4, n5, n6, n7, n8, n9]
  simp only [Option.bind_some, m_ones kN_gt hk32]
  by_cases z : a = 0
  · exact ⟨_, by rw [if_pos z], by rw [if_pos z]⟩
  rw [if_neg z, if_neg z]
  by_cases z : a = 1
  · exact ⟨_, by rw [if_pos z], by rw [if_pos z]⟩
  rw [if_neg z, if_neg z]
  by_cases z : a = 2
  · exact ⟨_, by rw [if_pos z], by rw [if_pos z]⟩
  rw [if_neg z, if_neg z]
  by_cases z : a = 3
  · exact ⟨_, by rw [if_pos z], by rw [if_pos z]⟩
  rw [if_neg z, if_neg z]
  by_cases z : a = 4
  · exact ⟨_, by rw [if_pos z], by rw [if_pos z]⟩
  rw [if_neg z, if_neg z]
  by_cases z : a = 5
  · exact ⟨_, by rw [if_pos z], by rw [if_pos z]⟩
  rw [if_neg z, if_neg z]
  by_cases z : a = 6
  · exact ⟨_, by rw [if_pos z], by rw [if_pos z]⟩
  rw [if_neg z, if_neg z]
  by_cases z : a = 7
  · exact ⟨_, by rw [if_pos z], by rw [if_pos z]⟩
  rw [if_neg z, if_neg z]
  by_cases z : a = 8
  · exact ⟨_, by rw [if_pos z], by rw [if_pos z]⟩
  rw [if_neg z, if_neg z]
  refine ⟨_, ?_, rfl⟩
  by_cases z : a = 9
  · rw [if_pos z, if_pos z]
  rw [if_neg z, if_neg z]
  by_cases z : a = 10
  · rw [if_pos z, if_pos z]
  rw [if_neg z, if_neg z]
  by_cases z : a = 11
  · rw [if_pos z, if_pos z]
  rw [if_neg z, if_neg z]
  by_cases z : a = 12
  · rw [if_pos z, if_pos z]
  rw [if_neg z, if_neg z]
  by_cases z : a = 13
  · rw [if_pos z, if_pos z]
  rw [if_neg z, if_neg z]
  by_cases z : a = 14
  · rw [if_pos z, if_pos z]
  rw [if_neg z, if_neg z]
  by_cases z : a = 15
  · rw [if_pos z, if_pos z]
  rw [if_neg z, if_neg z]
  by_cases z : a = 16
  · rw [if_pos z, if_pos z]
  rw [if_neg z, if_neg z]
theorem op_count : ∀ (a1 : Int32), kj_op jJ (fun G => kjx_count G a1) (fun G => kjm_count G a1) := by
  intro a1 k G hk hJ
  obtain ⟨r, e1, e2⟩ := ask_count hJ G.2.2.1 a1
  have e2 : fX11_countOf kN G a1 = some r := e2
  refine ⟨r, G, G, ?_, ?_, jJ_m k G hJ, kj_refl G⟩
  · show (fX10_count kN G a1).map _ = _
    rw [e1]; rfl
  · show (fX11_count kN G a1).map _ = _
    unfold fX11_count
    rw [e2]; rfl
