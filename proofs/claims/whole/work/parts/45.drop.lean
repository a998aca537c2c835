/-! DROP, CLEAR; rows written one by one -/
theorem kg_aa (G : kg_G) (a : Nat) (xs ys : List Int32) : kg_a (kg_a G a xs) a ys = kg_a G a ys := by
  unfold kg_a
  refine congrArg (fun z => (G.1, z, G.2.2)) ?_
  funext b
  show (if b = a then ys else if b = a then xs else G.2.1 b) = if b = a then ys else G.2.1 b
  split <;> rfl
theorem kg_as (G : kg_G) (a : Nat) : kg_a G a (G.2.1 a) = G := by
  unfold kg_a
  have : (fun b => if b = a then G.2.1 a else G.2.1 b) = G.2.1 := by
    funext b
    split
    · rename_i h; rw [h]
    · rfl
  rw [this]
theorem kg_ag (G : kg_G) (a : Nat) (xs : List Int32) : (kg_a G a xs).2.1 a = xs := by
  show (if a = a then xs else G.2.1 a) = xs
  rw [if_pos rfl]
def kmap (g : Nat → Int32 → Int32) : Nat → List Int32 → List Int32
  | 0, xs => xs
  | j + 1, xs => (kmap g j xs).set j (g j (xs.getD j 0))
theorem kmap_len (g : Nat → Int32 → Int32) (xs : List Int32) : ∀ j, (kmap g j xs).length = xs.length
  | 0 => rfl
  | j + 1 => by rw [kmap, List.length_set, kmap_len g xs j]
theorem kmap_get (g : Nat → Int32 → Int32) (xs : List Int32) : ∀ j i, j ≤ xs.length → (kmap g j xs).getD i 0 = if i < j then g i (xs.getD i 0) else xs.getD i 0
  | 0, i, _ => by rw [if_neg (by omega)]; rfl
  | j + 1, i, h => by
    rw [kmap, getD_set (by rw [kmap_len]; omega), kmap_get g xs j i (by omega)]
    by_cases e : i = j
    · rw [if_pos e, if_pos (by omega), e]
    · rw [if_neg e]
      by_cases l : i < j
      · rw [if_pos l, if_pos (by omega)]
      · rw [if_neg l, if_neg (by omega)]
/-- a loop that writes a row, place by place, and adds up -/
theorem kl_map {β : Type} (L : Nat → Int32 → kg_G → Int32 → Option β) (a : Nat) (G : kg_G) (g : Nat → Int32 → Int32) (s : Nat → Int32 → Int32 → Int32) (m : Nat) (e : Int32 → kg_G → Option β) (ha : a ∈ kg_arrs) (hL : jLn G) (hm : m ≤ jLen a) {n : Nat} {c : Int32} (hn : m < n) (h1 : ∀ n b xs, xs.length = jLen a → L (n + 1) b (kg_a G a xs) (nI m) = e b (kg_a G a xs)) (h2 : ∀ n b xs j, j < m → xs.length = jLen a → xs.getD j 0 = kA G a j → L (n + 1) b (kg_a G a xs) (nI j) = L n (s j (kA G a j) b) (kg_a G a (xs.set j (g j (kA G a j)))) (nI (j + 1))) : L n c G 0 = e (kfo (fun j b => s j (kA G a j) b) m c) (kg_a G a (kmap g m (G.2.1 a))) := by
  have hl := hL a ha
  obtain ⟨n', b', e1, p1, p2⟩ := kl_inv (fun n (b : Int32 × kg_G) i => L n b.1 b.2 i) (fun j b => b.1 = kfo (fun j b => s j (kA G a j) b) j c ∧ b.2 = kg_a G a (kmap g j (G.2.1 a))) m (n := n) (a := (c, G)) hn ⟨rfl, (kg_as G a).symm⟩ (by
    intro n b j hj ⟨q1, q2⟩
    refine ⟨(s j (kA G a j) b.1, kg_a G a ((kmap g j (G.2.1 a)).set j (g j (kA G a j)))), ?_, ?_, rfl⟩
    · show L (n + 1) b.1 b.2 (nI j) = _
      rw [q2]
      refine h2 n b.1 _ j hj (by rw [kmap_len, hl]) ?_
      rw [kmap_get g _ j j (by omega), if_neg (by omega)]; rfl
    · show s j (kA G a j) b.1 = _
      rw [q1]; rfl)
  refine Eq.trans e1 ?_
  show L (n' + 1) b'.1 b'.2 (nI m) = _
  rw [p2, h1 n' b'.1 _ (by rw [kmap_len, hl]), p1]
theorem kv_ga {G : kg_G} {a j : Nat} {xs : List Int32} (hl : xs.length = jLen a) (hj : j < jLen a) (hJ : jLen a < 100) : kv_g ((kg_a G a xs).2.1 a) (nI j) = some (xs.getD j 0) := by
  rw [kg_ag, kn_g (by omega) (by omega)]
theorem kv_pa {G : kg_G} {a j : Nat} {xs : List Int32} {v : Int32} (hl : xs.length = jLen a) (hj : j < jLen a) (hJ : jLen a < 100) : kv_p ((kg_a G a xs).2.1 a) (nI j) v = some (xs.set j v) := by
  rw [kg_ag, kn_p (by omega) (by omega)]
theorem x_clear {G : kg_G} (hL : jLn G) : fX10_clear kN G = some (kfo (fun j b => b + fJ6_bitCount_0f7a4 (kA G 7 j)) 5 0, kg_a G 7 (kmap (fun _ _ => 0) 5 (G.2.1 7))) := by
  refine kl_map (fun n b g i => fX10_clear_4 kN n g b i) 7 G (fun _ _ => 0) (fun _ v b => b + fJ6_bitCount_0f7a4 v) 5 (fun b g => some (b, g)) (by decide) hL (by decide) (n := kN) (by have := kN_gt; omega) ?_ ?_
  · intro n b xs hx; rfl
  · intro n b xs j hj hx hg
    show fX10_clear_4 kN (n + 1) (kg_a G 7 xs) b (nI j) = fX10_clear_4 kN n (kg_a G 7 (xs.set j 0)) (b + fJ6_bitCount_0f7a4 (kA G 7 j)) (nI (j + 1))
    have q1 : ¬ (5 : Int32) ≤ nI j := m_loop (m := 5) (by omega) hj
    rw [fX10_clear_4, if_neg q1, kv_ga hx hj (by decide), Option.bind_some, kv_pa hx hj (by decide), Option.bind_some, kg_aa, hg, kn_succ]
theorem m_clear {G : kg_G} {T np : Nat} {q : Nat → tk_Q} {D : jD} (h : jM kN G T np q D) : fX11_clear kN G = some (kfo (fun j b => b + fJ6_bitCount_0f7a4 (nI (jcs D j))) T 0, kg_a G 32 (kmap (fun _ _ => 0) T (G.2.1 32))) := by
  have h5 := h.2.1.1
  refine Eq.trans (kl_map (fun n b g i => fX11_clear_4 kN n g b i) 32 G (fun _ _ => 0) (fun j _ b => b + fJ6_bitCount_0f7a4 (nI (jcs D j))) T (fun b g => some (b, g)) (by decide) h.1 (by show T ≤ 5; omega) (n := kN) (by have := kN_gt; omega) ?_ ?_) rfl
  · intro n b xs hx
    show fX11_clear_4 kN (n + 1) (kg_a G 32 xs) b (nI T) = _
    have : (kg_a G 32 xs).1 28 3 = nI T := h.2.2.1.1
    rw [fX11_clear_4, this, if_pos (by rw [kn_le (by omega) (by omega)]; omega)]
  · intro n b xs j hj hx hg
    show fX11_clear_4 kN (n + 1) (kg_a G 32 xs) b (nI j) = fX11_clear_4 kN n (kg_a G 32 (xs.set j 0)) (b + fJ6_bitCount_0f7a4 (nI (jcs D j))) (nI (j + 1))
    have e : (kg_a G 32 xs).1 28 3 = nI T := h.2.2.1.1
    have hl : jLen 32 = 5 := rfl
    rw [fX11_clear_4, e, if_neg (m_loop (by omega) hj), kv_ga hx (by omega) (by decide), Option.bind_some, hg, h.2.2.2.1.2.1 j hj, m_ones kN_gt (jcs32 h.2.2.2.2.1 (by omega)), Option.bind_some, kv_pa hx (by omega) (by decide), Option.bind_some, kg_aa, kn_succ]
theorem op_clear : kj_op jJ (fun G => kjx_clear G) (fun G => kjm_clear G) := by
  intro k G hk hJ
  obtain ⟨hL, hP, hA, hN, T, np, q, D, hU, hB, hR, hC, hM, hV, hK⟩ := hJ
  have hM' : jM kN G T np q D := ⟨hL, hU, hR, hM, hV, kN_gt⟩
  have h5 := hU.1
  have l7 : (G.2.1 7).length = 5 := hL 7 (by decide)
  have l32 : (G.2.1 32).length = 5 := hL 32 (by decide)
  let xs := kmap (fun _ _ => 0) 5 (G.2.1 7)
  let ys := kmap (fun _ _ => 0) T (G.2.1 32)
  have lx : xs.length = 5 := by show (kmap _ _ _).length = 5; rw [kmap_len, l7]
  have ly : ys.length = 5 := by show (kmap _ _ _).length = 5; rw [kmap_len, l32]
  have hM1 : jM kN (kg_a G 7 xs) T np q D := jM_of hM' (jLn_a hL lx) (fun _ => rfl) (by simp [kg_a])
  refine ⟨kfo (fun j b => b + fJ6_bitCount_0f7a4 (nI (jcs D j))) T 0, kg_a G 7 xs, kg_a (kg_a G 7 xs) 32 ys, ?_, m_clear hM1, ?_, kj_refl _⟩
  · show fX10_clear kN G = _
    rw [x_clear hL]
    have e1 : kfo (fun j b => b + fJ6_bitCount_0f7a4 (kA G 7 j)) 5 0 = kfo (fun j b => b + fJ6_bitCount_0f7a4 (nI (jcs D j))) 5 0 := kfo_congr 5 0 (fun j a hj => by rw [(hC.2.2.1 j hj).1])
    have e2 : kfo (fun j b => b + fJ6_bitCount_0f7a4 (nI (jcs D j))) 5 0 = kfo (fun j b => b + fJ6_bitCount_0f7a4 (nI (jcs D j))) T 0 := kfo_ext 0 h5 (fun j a h1 h2 => by
      rw [(hV.2.2.1 j h2).2.2 h1]
      have : fJ6_bitCount_0f7a4 (nI 0) = 0 := by decide
      rw [this, i_add0])
    rw [e1, e2]
  · refine jJ_cast hL hP hA hN hU hB hR hC hM hV hK (fun _ => 0) lx ly ?_ ?_ ?_
    · intro u hu
      refine ⟨?_, ?_⟩
      · show (kmap _ 5 _).getD u 0 = _
        rw [kmap_get _ _ 5 u (by omega), if_pos hu]; rfl
      · rcases tk_crew12 (q u) with e | e <;> rw [e] <;> decide
    · intro u hu
      show (kmap _ T _).getD u 0 = _
      rw [kmap_get _ _ T u (by omega), if_pos hu]; rfl
    · intro u hu
      exact ⟨by decide, by simp, fun _ => rfl⟩
theorem op_drop : ∀ (a1 a2 : Int32), kj_op jJ (fun G => kjx_drop G a1 a2) (fun G => kjm_drop G a1 a2) := by
  intro a1 a2 k G hk hJ
  have hJ' := hJ
  obtain ⟨hL, hP, hA, hN, T, np, q, D, hU, hB, hR, hC, hM, hV, hK⟩ := hJ
  have hX' : jX kN G T np q D := ⟨hL, hU, hB, hC, hV, kN_gt⟩
  have hM' : jM kN G T np q D := ⟨hL, hU, hR, hM, hV, kN_gt⟩
  have h5 := hU.1
  have h6 := hU.2.1
  by_cases z1 : jin a1 T = true
  rotate_left
  · refine ⟨-101, G, G, ?_, ?_, jJ_m k G hJ', kj_refl _⟩
    · show fX10_drop G a1 a2 = _
      unfold fX10_drop
      rw [x_isTrick hX', if_neg z1]; rfl
    · show fX11_drop kN G a1 a2 = _
      unfold fX11_drop
      rw [m_isTrick hM', if_neg z1]; rfl
  by_cases z2 : jin a2 np = true
  rotate_left
  · refine ⟨-101, G, G, ?_, ?_, jJ_m k G hJ', kj_refl _⟩
    · show fX10_drop G a1 a2 = _
      unfold fX10_drop
      rw [x_isNumber hX', if_neg z2, x_isTrick hX', if_pos z1]; rfl
    · show fX11_drop kN G a1 a2 = _
      unfold fX11_drop
      rw [m_isPerson hM', if_neg z2, m_isTrick hM', if_pos z1]; rfl
  obtain ⟨t, ht, rfl⟩ := jin_of z1 (by omega)
  obtain ⟨p, hp, rfl⟩ := jin_of z2 (by omega)
  have hc := hV.2.2.1 t (by omega)
  have hk32 := jk32 hV hU
  have l7 : (G.2.1 7).length = 5 := hL 7 (by decide)
  have l32 : (G.2.1 32).length = 5 := hL 32 (by decide)
  by_cases y : (jcs D t).testBit p = true
  rotate_left
  · refine ⟨-103, G, G, ?_, ?_, jJ_m k G hJ', kj_refl _⟩
    · show fX10_drop G (nI t) (nI p) = _
      unfold fX10_drop
      simp only [x_isTrick hX', z1, if_true, x_isNumber hX', z2, Option.bind_some, xc_g hX' (show t < 5 by omega), kb_has _ hc.1 p (show p < 5 by omega), y, i10, if_false, Bool.false_eq_true]
    · show fX11_drop kN G (nI t) (nI p) = _
      unfold fX11_drop
      simp only [m_isTrick hM', z1, if_true, m_isPerson hM', z2, Option.bind_some, mc_g hM' ht, kb_sh _ hc.1 p (show p < 5 by omega), y, i10, if_false, Bool.false_eq_true]
  have han := kb_and _ hc.1 p (show p < 5 by omega)
  have hsu := kb_sub _ hc.1 p (show p < 5 by omega) y
  let f : Nat → Nat := fun u => if u = t then jcs D t &&& (31 - 2 ^ p) else jcs D u
  let xs := (G.2.1 7).set t (nI (jcs D t &&& (31 - 2 ^ p)))
  let ys := (G.2.1 32).set t (nI (jcs D t &&& (31 - 2 ^ p)))
  have gx : kv_g xs (nI t) = some (nI (jcs D t &&& (31 - 2 ^ p))) := by
    have lx : xs.length = 5 := by show ((G.2.1 7).set _ _).length = 5; rw [List.length_set, l7]
    rw [kn_g (by omega) (by omega)]
    show some (((G.2.1 7).set t _).getD t 0) = _
    rw [getD_set (by omega), if_pos rfl]
  have gy : kv_g ys (nI t) = some (nI (jcs D t &&& (31 - 2 ^ p))) := by
    have lx : ys.length = 5 := by show ((G.2.1 32).set _ _).length = 5; rw [List.length_set, l32]
    rw [kn_g (by omega) (by omega)]
    show some (((G.2.1 32).set t _).getD t 0) = _
    rw [getD_set (by omega), if_pos rfl]
  refine ⟨fJ6_bitCount_0f7a4 (nI (jcs D t &&& (31 - 2 ^ p))), kg_a G 7 xs, kg_a (kg_a G 7 xs) 32 ys, ?_, ?_, ?_, kj_refl _⟩
  · show fX10_drop G (nI t) (nI p) = _
    unfold fX10_drop
    simp only [x_isTrick hX', z1, if_true, x_isNumber hX', z2, Option.bind_some, xc_g hX' (show t < 5 by omega), kb_has _ hc.1 p (show p < 5 by omega), y, i10, if_false, han.1]
    rw [kn_p (by omega) (by omega), Option.bind_some]
    show ((kv_g xs (nI t)).bind _) = _
    rw [gx]; rfl
  · have hM1 : jM kN (kg_a G 7 xs) T np q D := jM_of hM' (jLn_a hL (jLn_set hL (by decide))) (fun _ => rfl) (by simp [kg_a])
    have g32 : (kg_a G 7 xs).2.1 32 = G.2.1 32 := rfl
    show fX11_drop kN (kg_a G 7 xs) (nI t) (nI p) = _
    unfold fX11_drop
    simp only [m_isTrick hM1, z1, if_true, m_isPerson hM1, z2, Option.bind_some, g32, mc_g hM' ht, kb_sh _ hc.1 p (show p < 5 by omega), y, i10, if_false, hsu]
    rw [kn_p (by omega) (by omega)]
    have e2 : ((some ys).bind fun v6 => (kv_g v6 (nI t)).bind fun v7 => (fX11_ones kN v7).bind fun v8 => some (v8, kg_a (kg_a G 7 xs) 32 v6)) = some (fJ6_bitCount_0f7a4 (nI (jcs D t &&& (31 - 2 ^ p))), kg_a (kg_a G 7 xs) 32 ys) := by
      rw [Option.bind_some, gy, Option.bind_some, m_ones kN_gt han.2]; rfl
    exact e2
  · refine jJ_cast hL hP hA hN hU hB hR hC hM hV hK f (by show ((G.2.1 7).set _ _).length = 5; rw [List.length_set, l7]) (by show ((G.2.1 32).set _ _).length = 5; rw [List.length_set, l32]) ?_ ?_ ?_
    · intro u hu
      show ((G.2.1 7).set t _).getD u 0 = nI (if u = t then jcs D t &&& (31 - 2 ^ p) else jcs D u) ∧ fJ6_bitCount_0f7a4 (nI (if u = t then jcs D t &&& (31 - 2 ^ p) else jcs D u)) ≤ _
      rw [getD_set (by omega)]
      by_cases w : u = t
      · rw [if_pos w, if_pos w]
        refine ⟨rfl, ?_⟩
        rw [w]
        exact Int32.le_trans (kb_bc_and _ hc.1 p (by omega)) (hC.2.2.1 t (by omega)).2
      · rw [if_neg w, if_neg w]; exact hC.2.2.1 u hu
    · intro u hu
      show ((G.2.1 32).set t _).getD u 0 = nI (if u = t then jcs D t &&& (31 - 2 ^ p) else jcs D u)
      rw [getD_set (by omega)]
      by_cases w : u = t
      · rw [if_pos w, if_pos w]
      · rw [if_neg w, if_neg w]; exact hM.2.1 u hu
    · intro u hu
      show (if u = t then jcs D t &&& (31 - 2 ^ p) else jcs D u) < 32 ∧ (if u = t then jcs D t &&& (31 - 2 ^ p) else jcs D u) &&& jk D = (if u = t then jcs D t &&& (31 - 2 ^ p) else jcs D u) ∧ (T ≤ u → (if u = t then jcs D t &&& (31 - 2 ^ p) else jcs D u) = 0)
      by_cases w : u = t
      · rw [if_pos w]
        exact ⟨han.2, kb_and_s _ hc.1 _ hk32 p (by omega) hc.2.1, fun y => by omega⟩
      · rw [if_neg w]; exact hV.2.2.1 u hu
