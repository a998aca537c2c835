/-! DIGEST, second -/
section JDG2
variable {G : kg_G} {T np : Nat} {q : Nat → tk_Q} {D : jD}
theorem dx4 (hX : jX kN G T np q D) (h : Int64) : fX10_digestOfShow_146 kN G h = some (d4 D h) := by
  have hk32 := jk32 hX.2.2.2.2.1 hX.2.1
  have z0 : (nI (jk D) = 0) = (jk D = 0) := kn_eq (a := jk D) (b := 0) (by omega) (by omega)
  unfold fX10_digestOfShow_146 d4
  rw [hX.2.2.2.1.1]
  by_cases z : jk D = 0
  · rw [if_pos (z0.mpr z), if_pos z]
  · have r := x_route hX hk32 (Nat.and_self _) z
    rw [if_neg (fun y => z (z0.mp y)), if_neg z, r.1, r.2]
    rfl
theorem dm4 (hM : jM kN G T np q D) (h : Int64) : fX11_digest_120 kN (kg_h G h) = fX11_digest_157 kN kN (kg_h G (d4 D h)) 0 := by
  have hk32 := jk32 hM.2.2.2.2.1 hM.2.1
  have z0 : (nI (jk D) = 0) = (jk D = 0) := kn_eq (a := jk D) (b := 0) (by omega) (by omega)
  unfold fX11_digest_120 d4
  rw [m_keptSet (jM_h hM h), Option.bind_some]
  by_cases z : jk D = 0
  · rw [if_pos (z0.mpr z), if_pos z]
  · have r := m_routeOf (jM_h hM h) hk32 (Nat.and_self _) z
    rw [if_neg (fun y => z (z0.mp y)), if_neg z, Option.bind_some, r.1, Option.bind_some]
    show ((fX11_keptSet kN (kg_h G (dA h (kmv (jah D (jk D) 5))))).bind fun v5 => (fX11_routeOf kN (kg_h G (dA h (kmv (jah D (jk D) 5)))) v5 1).bind fun v6 => fX11_digest_157 kN kN (fX11_say (kg_h G (dA h (kmv (jah D (jk D) 5)))) v6.toInt64) 0) = _
    rw [m_keptSet (jM_h hM _), Option.bind_some, (m_routeOf (jM_h hM _) hk32 (Nat.and_self _) z).2, Option.bind_some]
    rfl
end JDG2
theorem dx5 {k : Nat} {G : kg_G} (hJ : jJ k G) {n : Nat} (hn : n ≤ 36) (en : G.1 28 1 = nI n) (h : Int64) : fX10_digest_10 kN G kN h 0 = some (kfo (fun b a => dA a (dC G b)) 17 (kfo (fun j a => dA a (kA G 29 j)) n h)) := by
  have hL := hJ.1
  have hP := hJ.2.1
  refine Eq.trans (kl_fold (fun m a i => fX10_digest_10 kN G m a i) (fun j a => dA a (kA G 29 j)) n (fun a => fX10_digest_46 kN G kN a 0) (n := kN) (by have := kN_gt; omega) ?_ ?_) ?_
  · intro m a
    show fX10_digest_10 kN G (m + 1) a (nI n) = _
    rw [fX10_digest_10, hP.2.1, en, if_pos (by rw [kn_le (by omega) (by omega)]; omega)]
  · intro m a j hj
    show fX10_digest_10 kN G (m + 1) a (nI j) = fX10_digest_10 kN G m _ _
    rw [fX10_digest_10, hP.2.1, en, if_neg (m_loop (by omega) hj), hP.1, kA_g hL (by decide) (by show _ < 36; omega), Option.bind_some, kn_succ]
    rfl
  · refine kl_fold (fun m a i => fX10_digest_46 kN G m a i) (fun b a => dA a (dC G b)) 17 some (n := kN) (by have := kN_gt; omega) ?_ ?_
    · intro m a
      show fX10_digest_46 kN G (m + 1) a (nI 17) = _
      rw [fX10_digest_46, if_pos (by decide)]
    · intro m a j hj
      show fX10_digest_46 kN G (m + 1) a (nI j) = fX10_digest_46 kN G m _ _
      have q1 : ¬ (16 : Int32) < nI j := d_lt (m := 16) (by omega) (by omega)
      obtain ⟨r, e1, _⟩ := ask_count hJ 0 (nI j)
      have e : fX10_count kN G (nI j) = some (dC G j) := by unfold dC; rw [e1]; rfl
      rw [fX10_digest_46, if_neg q1, e, Option.bind_some, kn_succ]
      rfl
theorem dm5 {k : Nat} {G : kg_G} (hJ : jJ k G) {n : Nat} (hn : n ≤ 36) (en : G.1 28 1 = nI n) (h : Int64) : fX11_digest_157 kN kN (kg_h G h) 0 = some (kfo (fun b a => dA a (dC G b)) 17 (kfo (fun j a => dA a (kA G 29 j)) n h), kg_h G (kfo (fun b a => dA a (dC G b)) 17 (kfo (fun j a => dA a (kA G 29 j)) n h))) := by
  have hL := hJ.1
  refine Eq.trans (kl_fold (fun m a i => fX11_digest_157 kN m (kg_h G a) i) (fun j a => dA a (kA G 29 j)) n (fun a => fX11_digest_184 kN kN (kg_h G a) 0) (n := kN) (by have := kN_gt; omega) ?_ ?_) ?_
  · intro m a
    show fX11_digest_157 kN (m + 1) (kg_h G a) (nI n) = _
    have g : (kg_h G a).1 28 1 = nI n := en
    rw [fX11_digest_157, g, if_pos (by rw [kn_le (by omega) (by omega)]; omega)]
  · intro m a j hj
    show fX11_digest_157 kN (m + 1) (kg_h G a) (nI j) = fX11_digest_157 kN m (kg_h G _) _
    have g : (kg_h G a).1 28 1 = nI n := en
    have g2 : (kg_h G a).2.1 29 = G.2.1 29 := rfl
    rw [fX11_digest_157, g, if_neg (m_loop (by omega) hj), g2, kA_g hL (by decide) (by show _ < 36; omega), Option.bind_some, kn_succ]
    rfl
  · refine kl_fold (fun m a i => fX11_digest_184 kN m (kg_h G a) i) (fun b a => dA a (dC G b)) 17 (fun a => some (a, kg_h G a)) (n := kN) (by have := kN_gt; omega) ?_ ?_
    · intro m a
      show fX11_digest_184 kN (m + 1) (kg_h G a) (nI 17) = _
      rw [fX11_digest_184, if_pos (by decide)]
      rfl
    · intro m a j hj
      show fX11_digest_184 kN (m + 1) (kg_h G a) (nI j) = fX11_digest_184 kN m (kg_h G _) _
      have q1 : ¬ (17 : Int32) ≤ nI j := m_loop (m := 17) (by omega) hj
      obtain ⟨r, e1, e2⟩ := ask_count hJ a (nI j)
      have e : fX11_countOf kN (kg_h G a) (nI j) = some (dC G j) := by unfold dC; rw [e1]; exact e2
      rw [fX11_digest_184, if_neg q1, e, Option.bind_some, kn_succ]
      rfl
theorem op_digest : kj_op jJ (fun G => kjx_digest G) (fun G => kjm_digest G) := by
  intro k G hk hJ
  obtain ⟨T, np, q, D, hX, hM⟩ := jJ_XM hJ
  obtain ⟨n, hn, en, _⟩ := hJ.2.1.2.2
  refine ⟨kfo (fun b a => dA a (dC G b)) 17 (kfo (fun j a => dA a (kA G 29 j)) n (d4 D (d3 q T (d2 G np (d1 G T 1117))))), G, kg_h G (kfo (fun b a => dA a (dC G b)) 17 (kfo (fun j a => dA a (kA G 29 j)) n (d4 D (d3 q T (d2 G np (d1 G T 1117)))))), ?_, ?_, jJ_m k G hJ, kj_refl _⟩
  · show (fX10_digest kN G).map _ = _
    have e : fX10_digestOfShow kN G 1117 = some (d4 D (d3 q T (d2 G np (d1 G T 1117)))) := by
      unfold fX10_digestOfShow d3
      rw [dx1 hX hM, dx2 hX hM]
      by_cases hT : T = 0
      · rw [if_pos hT, if_pos hT, dx4 hX]
      · rw [if_neg hT, if_neg hT, dx3 hX hT, dx4 hX]
    unfold fX10_digest
    rw [e, Option.bind_some, dx5 hJ hn en]
    rfl
  · show fX11_digest kN G = _
    unfold fX11_digest
    rw [dm1 hX hM, dm2 hX hM, dm3 hM, dm4 hM, dm5 hJ hn en]
